/-! records and undo -/
theorem rec_at {V : Mem} {k p : Nat} (h0 : V 0 0 = nI p) (h1 : V 0 1 = nI k) (hp : p < 6) (hk : k ≤ 6) : fX6_record V 0 0 = nI ((p + 1) % 6) ∧ fX6_record V 0 1 = nI (if k = 6 then 6 else k + 1) ∧ (∀ j, j < 42 → fX6_record V (89 + 42 * p + j) = V (1 + j)) ∧ (∀ j, 1 ≤ j → j < 89 + 42 * p ∨ 131 + 42 * p ≤ j → fX6_record V j = V j) := by
  have ce := c_record h0 h1 hp hk
  have vr : ∀ j, 1 ≤ j → fX6_record V j = pv V (89 + 42 * p) 42 (gv V 1) j := fun j hj => by
    rw [ce, sv_k (by omega), sv_k (by omega)]
  refine ⟨by rw [ce, sv_j (by decide), sv_at], by rw [ce, sv_at], fun j hj => ?_, fun j hj hj2 => ?_⟩
  · rw [vr _ (by omega), pv_at hj]
    rfl
  · rw [vr _ hj, pvo (by omega)]
theorem undo_to {V1 W : Mem} {p m : Nat} (hp : p < 6) (hm : m ≤ 5) (h0 : V1 0 0 = nI ((p + 1) % 6)) (h1 : V1 0 1 = nI (m + 1)) (hw : ∀ j, j < 42 → V1 (89 + 42 * p + j) = W j) : ∃ V2, qX6_undo V1 = some (nI m, V2) ∧ (∀ j, j < 42 → V2 (1 + j) = W j) ∧ (∀ j, 43 ≤ j → V2 j = V1 j) ∧ V2 0 0 = nI p ∧ V2 0 1 = nI m := by
  have key : ∀ A : Mem, A = sv (sv V1 0 0 (nI p)) 0 1 (nI m) → ∃ V2, (if A 0 0 < 0 ∨ 6 ≤ (A 0 0).toNatClampNeg then none else some (pv A 1 42 (gv A (88 + (1 + 42 * (A 0 0).toNatClampNeg))) 0 1, pv A 1 42 (gv A (88 + (1 + 42 * (A 0 0).toNatClampNeg))))) = some (nI m, V2) ∧ (∀ j, j < 42 → V2 (1 + j) = W j) ∧ (∀ j, 43 ≤ j → V2 j = V1 j) ∧ V2 0 0 = nI p ∧ V2 0 1 = nI m := by
    intro A hA
    have a00 : A 0 0 = nI p := by rw [hA, sv_j (by decide), sv_at]
    have a01 : A 0 1 = nI m := by rw [hA, sv_at]
    have ar : ∀ j, j ≠ 0 → A j = V1 j := fun j hj => by rw [hA, sv_k hj, sv_k hj]
    rw [a00, gd_nI hp, nI_clamp (by omega)]
    refine ⟨pv A 1 42 (gv A (88 + (1 + 42 * p))), ?_, fun j hj => ?_, fun j hj => ?_, ?_, ?_⟩
    · rw [show pv A 1 42 (gv A (88 + (1 + 42 * p))) 0 = A 0 from pvo (by omega), a01]
    · rw [pv_at hj]
      show A (88 + (1 + 42 * p) + j) = W j
      rw [ar _ (by omega), ← hw j hj]
      exact congrArg V1 (by omega)
    · rw [pvo (by omega), ar j (by omega)]
    · rw [pvo (by omega), a00]
    · rw [pvo (by omega), a01]
  unfold qX6_undo
  simp only [lt_e]
  rw [h1, if_neg (nI_ne0 (by omega) (by omega)), h0]
  by_cases c : p = 5
  · subst c
    rw [if_pos (show nI ((5 + 1) % 6) = 0 from rfl)]
    have e1 : sv V1 0 0 (5 : Int32) 0 1 - 1 = nI m := by
      rw [sv_j (by decide), h1, nI_pred]
    rw [e1]
    exact key _ rfl
  · have hq : (p + 1) % 6 = p + 1 := Nat.mod_eq_of_lt (by omega)
    rw [hq, if_neg (nI_ne0 (by omega) (by omega)), nI_pred]
    have e1 : sv V1 0 0 (nI p) 0 1 - 1 = nI m := by
      rw [sv_j (by decide), h1, nI_pred]
    rw [e1]
    exact key _ rfl
/-! the state, as the law goes on -/
def Jq (V V' : Mem) : Prop := ∀ j, j < 43 ∨ (85 ≤ j ∧ j < 429) → V' j = V j
theorem Jq.rf (V : Mem) : Jq V V := fun j _ => rfl
theorem Jq.trans {A B C : Mem} (h : Jq A B) (h' : Jq B C) : Jq A C := fun j hj => (h' j hj).trans (h j hj)
theorem Jq.of {V V' : Mem} (h : ∀ j, j < 43 ∨ 85 ≤ j → V' j = V j) : Jq V V' := fun j hj => h j (by omega)
def Ok (V S : Mem) (t : Nat) : Prop := t ≤ 99999 ∧ RR V S ∧ (∃ n r h d L, GW n t r h d L (gv V 1) (S 1)) ∧ V 85 0 = 0
theorem Ok.mk' {V S : Mem} {n t : Nat} (h : RR V S) (h1 : V 1 0 = nI t) (ht : t ≤ 99999) (hn : V 28 0 = nI n) (hn2 : n ≤ 12) (e : EX n t (gv V 1)) (h85 : V 85 0 = 0) : Ok V S t := by
  obtain ⟨⟨n', t', r, q, d, L, ht', p⟩, -⟩ := id h
  have e1 : V 1 0 = nI t' := p.2.2.2.2.1.1
  have e2 : V 28 0 = nI n' := p.2.2.2.2.1.2.2.2.2.2.1
  have n12 := p.2.2.2.2.2.2.2.2.2.1.1
  obtain rfl : t' = t := (nI_eq (by omega) (by omega)).mp (e1.symm.trans h1)
  obtain rfl : n' = n := (nI_eq (by omega) (by omega)).mp (e2.symm.trans hn)
  exact ⟨ht, h, ⟨_, r, q, d, L, p, e⟩, h85⟩
theorem Ok.jq {V V' S : Mem} {t : Nat} (h : Ok V S t) (e : Jq V V') : Ok V' S t := by
  obtain ⟨h1, h2, ⟨n, r, q, d, L, G⟩, h4⟩ := h
  exact ⟨h1, h2.same e (fun j _ => rfl), ⟨n, r, q, d, L, G.w (fun j hj => e (1 + j) (by omega))⟩, by rw [e 85 (by omega)]; exact h4⟩
/-- the rows that EX speaks of -/
def exR (j : Nat) : Prop := j = 1 ∨ j = 21 ∨ j = 23 ∨ j = 27 ∨ j = 28 ∨ j = 30 ∨ j = 34 ∨ j = 36 ∨ j = 85
theorem Ok.ch {V S V' S' : Mem} {t : Nat} (h : Ok V S t) (h' : RR V' S') (e : ∀ j, exR j → V' j = V j) : Ok V' S' t := by
  obtain ⟨h1, h2, ⟨n, r, q, d, L, G⟩, h4⟩ := h
  have c1 := G.1.2.2.2.2.1
  refine Ok.mk' (n := n) h' ?_ h1 ?_ G.1.2.2.2.2.2.2.2.2.2.1.1 ?_ ?_
  · rw [e 1 (Or.inl rfl)]
    exact c1.1
  · rw [e 28 (by unfold exR; omega)]
    exact c1.2.2.2.2.2.1
  · exact G.2.of (e 1 (by unfold exR; omega)) (e 21 (by unfold exR; omega)) (e 23 (by unfold exR; omega)) (e 27 (by unfold exR; omega)) (e 30 (by unfold exR; omega)) (e 34 (by unfold exR; omega)) (e 36 (by unfold exR; omega))
  · rw [e 85 (by unfold exR; omega)]
    exact h4
theorem Ok.hist {V S : Mem} {t : Nat} (h : Ok V S t) : ∃ k p : Nat, k ≤ 6 ∧ p < 6 ∧ V 0 1 = nI k ∧ V 0 0 = nI p := by
  obtain ⟨-, h2, -⟩ := h
  obtain ⟨-, -, ⟨k, p, k6, p6, v1, v0, -⟩, -⟩ := h2
  exact ⟨k, p, k6, p6, v1, v0⟩
theorem Ok.rec_r {V S : Mem} {t : Nat} (h : Ok V S t) {j : Nat} (h1 : 1 ≤ j) (h2 : j < 89 ∨ 341 ≤ j) : fX6_record V j = V j := by
  obtain ⟨S', -, -, ev, -⟩ := h.2.1.rec
  exact ev j h1 h2
/-- a change has been made, with its record; or it was refused -/
def Done (V V' : Mem) : Prop := V' 0 = fX6_record V 0 ∧ ∀ j, 86 ≤ j → j < 429 → V' j = fX6_record V j
def Dn (V : Mem) (x : Int32) (V' : Mem) : Prop := (x ≤ -1001 ∧ V' = V) ∨ (-1001 < x ∧ Done V V')
theorem m1001 {c : Nat} (h : c < 2 ^ 31) : (-1001 : Int32) < nI c := by
  rw [Int32.lt_iff_toInt_lt, nI_toInt h]
  have : (-1001 : Int32).toInt = -1001 := by decide
  omega
/-- one change and its undoing -/
theorem trip1 {V S V1 S1 : Mem} {t t1 : Nat} (h : Ok V S t) (h1 : Ok V1 S1 t1) (hd : Done V V1) : ∃ a V2 S2, qX6_undo V1 = some (a, V2) ∧ ¬ a < 0 ∧ Ok V2 S2 t ∧ (∀ j, j < 42 → gv V2 1 j = gv V 1 j) := by
  obtain ⟨k, p, k6, p6, v1, v0⟩ := h.hist
  obtain ⟨r0, r1, r2, r3⟩ := rec_at v0 v1 p6 k6
  obtain ⟨m, hm, em⟩ : ∃ m, m ≤ 5 ∧ (if k = 6 then 6 else k + 1) = m + 1 := by
    by_cases c : k = 6
    · exact ⟨5, by decide, by rw [if_pos c]⟩
    · exact ⟨k, by omega, by rw [if_neg c]⟩
  obtain ⟨V2, e1, e2, e3, e4, e5⟩ := undo_to (V1 := V1) (W := gv V 1) p6 hm (by rw [hd.1]; exact r0) (by rw [hd.1, r1, em]) (fun j hj => by
    rw [hd.2 _ (by omega) (by omega)]
    exact r2 j hj)
  obtain ⟨a, V2', S2, u1, -, u3⟩ := sim_undo h1.2.1
  obtain ⟨rfl, rfl⟩ : nI m = a ∧ V2 = V2' := by
    have := Option.some.inj (e1.symm.trans u1)
    exact ⟨congrArg Prod.fst this, congrArg Prod.snd this⟩
  refine ⟨_, V2, S2, e1, nI_pos (by omega), ?_, e2⟩
  obtain ⟨h1', h2', ⟨n, r, q, d, L, G⟩, h4'⟩ := id h
  have hw : ∀ j, j < 42 → gv V2 1 j = gv V 1 j := e2
  have c1 := G.1.2.2.2.2.1
  refine Ok.mk' (n := n) u3 ?_ h1' ?_ G.1.2.2.2.2.2.2.2.2.2.1.1 (G.2.w hw) ?_
  · show gv V2 1 0 0 = nI t
    rw [hw 0 (by decide)]
    exact c1.1
  · show gv V2 1 27 0 = nI n
    rw [hw 27 (by decide)]
    exact c1.2.2.2.2.2.1
  · rw [e3 85 (by decide)]
    exact h1.2.2.2
/-- two changes and their undoing -/
theorem trip2 {V S A SA A' B SB : Mem} {t ta tb : Nat} (h : Ok V S t) (hA : Ok A SA ta) (dA : Done V A) (jA : Jq A A') (hB : Ok B SB tb) (dB : Done A' B) : ∃ a b V2 V3 S3, qX6_undo B = some (a, V2) ∧ ¬ a < 0 ∧ qX6_undo V2 = some (b, V3) ∧ ¬ b < 0 ∧ Ok V3 S3 t ∧ (∀ j, j < 42 → gv V3 1 j = gv V 1 j) := by
  obtain ⟨k, p, k6, p6, v1, v0⟩ := h.hist
  obtain ⟨r0, r1, r2, r3⟩ := rec_at v0 v1 p6 k6
  obtain ⟨m, hm, em⟩ : ∃ m, m ≤ 5 ∧ (if k = 6 then 6 else k + 1) = m + 1 := by
    by_cases c : k = 6
    · exact ⟨5, by decide, by rw [if_pos c]⟩
    · exact ⟨k, by omega, by rw [if_neg c]⟩
  have a0 : A' 0 0 = nI ((p + 1) % 6) := by rw [jA 0 (by omega), dA.1]; exact r0
  have a1 : A' 0 1 = nI (m + 1) := by rw [jA 0 (by omega), dA.1, r1, em]
  have p6' : (p + 1) % 6 < 6 := Nat.mod_lt _ (by decide)
  obtain ⟨s0, s1, s2, s3⟩ := rec_at a0 a1 p6' (by omega)
  obtain ⟨m2, hm2, em2⟩ : ∃ m2, m2 ≤ 5 ∧ (if m + 1 = 6 then 6 else m + 1 + 1) = m2 + 1 ∧ 1 ≤ m2 := by
    by_cases c : m + 1 = 6
    · exact ⟨5, by decide, by rw [if_pos c], by decide⟩
    · exact ⟨m + 1, by omega, by rw [if_neg c], by omega⟩
  obtain ⟨V2, e1, e2, e3, e4, e5⟩ := undo_to (V1 := B) (W := gv A' 1) p6' hm2 (by rw [dB.1]; exact s0) (by rw [dB.1, s1, em2.1]) (fun j hj => by
    rw [dB.2 _ (by omega) (by omega)]
    exact s2 j hj)
  obtain ⟨a, V2', S2, u1, -, u3⟩ := sim_undo hB.2.1
  obtain ⟨rfl, rfl⟩ : nI m2 = a ∧ V2 = V2' := by
    have := Option.some.inj (e1.symm.trans u1)
    exact ⟨congrArg Prod.fst this, congrArg Prod.snd this⟩
  obtain ⟨m3, rfl⟩ : ∃ m3, m2 = m3 + 1 := ⟨m2 - 1, by omega⟩
  obtain ⟨V3, f1, f2, f3, f4, f5⟩ := undo_to (V1 := V2) (W := gv V 1) p6 (show m3 ≤ 5 by omega) e4 e5 (fun j hj => by
    rw [e3 _ (by omega), dB.2 _ (by omega) (by omega), s3 _ (by omega) (by omega), jA _ (by omega), dA.2 _ (by omega) (by omega)]
    exact r2 j hj)
  obtain ⟨b, V3', S3, y1, -, y3⟩ := sim_undo u3
  obtain ⟨rfl, rfl⟩ : nI m3 = b ∧ V3 = V3' := by
    have := Option.some.inj (f1.symm.trans y1)
    exact ⟨congrArg Prod.fst this, congrArg Prod.snd this⟩
  refine ⟨_, _, V2, V3, S3, e1, nI_pos (by omega), f1, nI_pos (by omega), ?_, f2⟩
  obtain ⟨h1', h2', ⟨n, r, q, d, L, G⟩, h4'⟩ := id h
  have hw : ∀ j, j < 42 → gv V3 1 j = gv V 1 j := f2
  have c1 := G.1.2.2.2.2.1
  refine Ok.mk' (n := n) y3 ?_ h1' ?_ G.1.2.2.2.2.2.2.2.2.2.1.1 (G.2.w hw) ?_
  · show gv V3 1 0 0 = nI t
    rw [hw 0 (by decide)]
    exact c1.1
  · show gv V3 1 27 0 = nI n
    rw [hw 27 (by decide)]
    exact c1.2.2.2.2.2.1
  · rw [f3 85 (by decide), e3 85 (by decide)]
    exact hB.2.2.2
