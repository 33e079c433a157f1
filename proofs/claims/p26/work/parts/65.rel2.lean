/-! the relation of all of a TideWords (430 rows) and all of the model (7 rows) -/
theorem RwE.w {b : Int32} {n t : Nat} {r : Nat → List Nat} {h : Nat → Option Nat} {d : Nat → Nat} {L : Nat → List Nat} {w w' : Mem} {s : Nat → Int32} (p : RwE b n t r h d L w s) (e : ∀ j, j < 42 → w' j = w j) : RwE b n t r h d L w' s := by
  unfold RwE at p ⊢
  rw [e 3 (by decide), e 5 (by decide), e 7 (by decide), e 9 (by decide), e 12 (by decide), e 14 (by decide), e 16 (by decide), e 18 (by decide), e 20 (by decide), e 22 (by decide), e 24 (by decide), e 26 (by decide), e 0 (by decide), e 27 (by decide), e 39 (by decide), e 41 (by decide), e 29 (by decide), e 31 (by decide), e 33 (by decide), e 35 (by decide), e 37 (by decide)]
  exact p
theorem Rw.w {T : Nat} {w w' : Mem} {s : Nat → Int32} (h : Rw T w s) (e : ∀ j, j < 42 → w' j = w j) : Rw T w' s := by
  obtain ⟨n, t, r, q, d, L, ht, p⟩ := h
  exact ⟨n, t, r, q, d, L, ht, p.w e⟩
theorem RwE.s {b : Int32} {n t : Nat} {r : Nat → List Nat} {h : Nat → Option Nat} {d : Nat → Nat} {L : Nat → List Nat} {w : Mem} {s s' : Nat → Int32} (p : RwE b n t r h d L w s) (e : ∀ j, j < 131 → s' j = s j) : RwE b n t r h d L w s' := by
  obtain ⟨p1, p2, p3, p4, p5, p6, p7, p8, p9, p10, p11, p12, p13⟩ := p
  have hn := p10.1
  exact ⟨p1.s (fun j h1 h2 => e j (by omega)), p2.s (fun g q h1 h2 => e _ (by omega)), p3.s (fun g h1 => e _ (by omega)), p4.s (fun g q h1 h2 => e _ (by omega)), p5.s (fun j h1 => e j (by omega)), p6, p7.s (fun j h1 h2 => e j (by omega)), p8.s (fun v h1 => e _ (by omega)), p9.s (fun v q h1 h2 => e _ (by omega)), p10, p11, p12.s (fun v h1 => e _ (by omega)), p13⟩
theorem Rw.s {T : Nat} {w : Mem} {s s' : Nat → Int32} (h : Rw T w s) (e : ∀ j, j < 131 → s' j = s j) : Rw T w s' := by
  obtain ⟨n, t, r, q, d, L, ht, p⟩ := h
  exact ⟨n, t, r, q, d, L, ht, p.s e⟩
/-- the pad -/
def Rp (V S : Mem) : Prop := ∃ m : Nat, m ≤ 60 ∧ V 85 0 = nI m ∧ S 0 1 = nI m ∧ ∀ i, i < m → V 87 i = S 6 i ∧ ∃ c : Nat, 33 ≤ c ∧ c ≤ 126 ∧ S 6 i = nI c
/-- the records: the class's lie in a ring, the model's in a row -/
def RhE (k p : Nat) (V S : Mem) : Prop := k ≤ 6 ∧ p < 6 ∧ V 0 1 = nI k ∧ V 0 0 = nI p ∧ S 0 0 = nI k ∧ ∀ i, i < k → Rw 99999 (gv V (89 + 42 * ((p + 6 - k + i) % 6))) (fun j => S 3 (131 * i + j))
def Rh (V S : Mem) : Prop := ∃ k p : Nat, RhE k p V S
/-- the saved states -/
def Rv (V S : Mem) : Prop := ∀ i, i < 2 → (V 427 i = 0 ∧ S 5 i = 0) ∨ (V 427 i = 1 ∧ S 5 i = 1 ∧ Rw 99999 (gv V (342 + 42 * i)) (fun j => S 4 (131 * i + j)))
def RR (V S : Mem) : Prop := Rw 99999 (gv V 1) (S 1) ∧ Rp V S ∧ Rh V S ∧ Rv V S
theorem Rp.of {V V' S S' : Mem} (h : Rp V S) (e : V' 85 = V 85) (e1 : V' 87 = V 87) (e2 : S' 0 1 = S 0 1) (e3 : S' 6 = S 6) : Rp V' S' := by
  unfold Rp
  rw [e, e1, e2, e3]
  exact h
theorem RhE.of {k p : Nat} {V V' S S' : Mem} (h : RhE k p V S) (e : ∀ j, 89 ≤ j → j < 341 → V' j = V j) (e1 : V' 0 = V 0) (e2 : S' 0 0 = S 0 0) (e3 : S' 3 = S 3) : RhE k p V' S' := by
  obtain ⟨h1, h2, h3, h4, h5, h6⟩ := h
  refine ⟨h1, h2, by rw [e1]; exact h3, by rw [e1]; exact h4, by rw [e2]; exact h5, fun i hi => ?_⟩
  rw [e3]
  have hm : (p + 6 - k + i) % 6 < 6 := Nat.mod_lt _ (by decide)
  exact (h6 i hi).w (fun j hj => e _ (by omega) (by omega))
theorem Rv.of {V V' S S' : Mem} (h : Rv V S) (e : ∀ j, 342 ≤ j → j < 426 → V' j = V j) (e1 : V' 427 = V 427) (e2 : S' 4 = S 4) (e3 : S' 5 = S 5) : Rv V' S' := fun i hi => by
  rw [e1, e2, e3]
  rcases h i hi with g | ⟨g1, g2, g3⟩
  · exact Or.inl g
  · exact Or.inr ⟨g1, g2, g3.w (fun j hj => e _ (by omega) (by omega))⟩
/-- only the world that is now, and what nobody looks at, has changed -/
theorem RR.now {V V' S S' : Mem} (h : RR V S) (hV : ∀ j, j < 1 ∨ (85 ≤ j ∧ j < 429) → V' j = V j) (hS : ∀ j, j ≠ 1 → j ≠ 2 → S' j = S j) (hw : Rw 99999 (gv V' 1) (S' 1)) : RR V' S' := by
  obtain ⟨_, h2, ⟨k, p, h3⟩, h4⟩ := h
  exact ⟨hw, h2.of (hV _ (by omega)) (hV _ (by omega)) (congrFun (hS 0 (by decide) (by decide)) 1) (hS _ (by decide) (by decide)), ⟨k, p, h3.of (fun j h1 h2 => hV _ (by omega)) (hV _ (by omega)) (congrFun (hS 0 (by decide) (by decide)) 0) (hS _ (by decide) (by decide))⟩, h4.of (fun j h1 h2 => hV _ (by omega)) (hV _ (by omega)) (hS _ (by decide) (by decide)) (hS _ (by decide) (by decide))⟩
theorem RR.same {V V' S S' : Mem} (h : RR V S) (hV : ∀ j, j < 43 ∨ (85 ≤ j ∧ j < 429) → V' j = V j) (hS : ∀ j, j ≠ 2 → S' j = S j) : RR V' S' := by
  refine h.now (fun j hj => hV j (by omega)) (fun j h1 h2 => hS j h2) ?_
  rw [hS 1 (by decide)]
  exact h.1.w (fun j hj => hV _ (by omega))
/-! the model's copying loops -/
def cpS (a b n : Nat) (f g : Nat → Int32) : Nat → Int32 := fun j => if a ≤ j ∧ j < a + n then g (j - a + b) else f j
theorem cpS_0 (a b : Nat) (f g : Nat → Int32) : cpS a b 0 f g = f := by
  funext j
  unfold cpS
  rw [if_neg (by omega)]
theorem cpS_upd (a b n : Nat) (f g : Nat → Int32) : upd (cpS a b n f g) (a + n) (g (b + n)) = cpS a b (n + 1) f g := by
  funext j
  unfold cpS
  by_cases c : j = a + n
  · subst c
    rw [upd_at, if_pos (by omega)]
    exact congrArg g (by omega)
  · rw [upd_ne c]
    by_cases c2 : a ≤ j ∧ j < a + n
    · rw [if_pos c2, if_pos (by omega)]
    · rw [if_neg c2, if_neg (by omega)]
theorem cpS_src {a b n j : Nat} {f : Nat → Int32} (h : a + n ≤ j) : cpS a b n f f j = f j := by
  unfold cpS
  rw [if_neg (by omega)]
theorem cpS_at {a b n j : Nat} {f g : Nat → Int32} (h : j < n) : cpS a b n f g (a + j) = g (b + j) := by
  unfold cpS
  rw [if_pos (by omega)]
  exact congrArg g (by omega)
theorem cpS_lo {a b n j : Nat} {f g : Nat → Int32} (h : j < a) : cpS a b n f g j = f j := by
  unfold cpS
  rw [if_neg (by omega)]
theorem it_cpy {bd : Int32 × Mem → Option ((Int32 × Mem) ⊕ (Int32 × Mem))} {S : Mem} {N a b k k' : Nat} (hN : N ≤ 2 ^ 31) (hk : k ≠ 0) (hk' : k' ≠ k ∨ (k' = k ∧ a ≤ b)) (hs : ∀ i U, i < N → U 0 = S 0 → bd (nI i, U) = some (.inl (nI (i + 1), sv U k (a + i) (U k' (b + i))))) (he : ∀ U, bd (nI N, U) = some (.inr (nI N, U))) : it bd fuel ((0 : Int32), S) = some (nI N, cpv S k (cpS a b N (S k) (S k'))) := by
  refine (congrArg (fun q => it bd fuel q) (show ((0 : Int32), S) = (nI 0, cpv S k (cpS a b 0 (S k) (S k'))) from ?_)).trans ?_
  · rw [cpS_0, cpv_id]
    rfl
  · refine it_for (fun i => (nI i, cpv S k (cpS a b i (S k) (S k')))) N (fun i hi => ?_) (he _) fuel (fuel_lt (by omega))
    rw [hs i _ hi (cpv_k (fun q => hk q.symm)), sv_cpv, cpv_cpv, cpv_at, ← cpS_upd]
    have e : cpv S k (cpS a b i (S k) (S k')) k' (b + i) = S k' (b + i) := by
      rcases hk' with c | ⟨c, c2⟩
      · rw [cpv_k c]
      · subst c
        rw [cpv_at, cpS_src (by omega)]
    rw [e]
