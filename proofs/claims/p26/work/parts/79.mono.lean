/-! steps: how many words have passed grows; a slack that no gap equals makes no difference -/
theorem cset_r {V : Mem} {k n j : Nat} {i v : Int32} (h : j ≠ k) : cset V k n i v j = V j := by
  unfold cset
  by_cases c : i < 0 ∨ n ≤ i.toNatClampNeg
  · rw [if_pos c]
  · rw [if_neg c, sv_k h]
theorem cadd_r {V : Mem} {k n j : Nat} {i v : Int32} (h : j ≠ k) : cadd V k n i v j = V j := by
  unfold cadd
  by_cases c : i < 0 ∨ n ≤ i.toNatClampNeg
  · rw [if_pos c]
  · rw [if_neg c, sv_k h]
theorem shUp_r {a : Int32} {j : Nat} (h : j ≠ 39) : ∀ (n : Nat) (V : Mem), shUp a n V j = V j
  | 0, _ => rfl
  | n + 1, V => by
    show shUp a n _ j = _
    rw [shUp_r h n, cset_r h]
theorem shDn_r {a : Int32} {j : Nat} (h : j ≠ 39) : ∀ (n p : Nat) (V : Mem), shDn a n p V j = V j
  | 0, _, _ => rfl
  | n + 1, p, V => by
    show shDn a n (p + 1) _ j = _
    rw [shDn_r h n, cset_r h]
theorem ite_P {α : Type} {P : α → Prop} {c : Prop} [Decidable c] {a b : α} (ha : c → P a) (hb : ¬ c → P b) : P (if c then a else b) := by
  by_cases h : c
  · rw [if_pos h]
    exact ha h
  · rw [if_neg h]
    exact hb h
theorem addFirst_24 (V : Mem) (a b : Int32) : fX4_addFirst V a b 24 = V 24 := by
  unfold fX4_addFirst
  refine ite_P (P := fun M : Mem => M 24 = V 24) (fun _ => rfl) (fun _ => ?_)
  rw [cset_r (by decide), cset_r (by decide), shUp_r (by decide)]
theorem addLast_24 (V : Mem) (a b : Int32) : fX4_addLast V a b 24 = V 24 := by
  unfold fX4_addLast lt
  dsimp only
  refine ite_P (P := fun M : Mem => M 24 = V 24) (fun _ => rfl) (fun _ => ?_)
  rw [cset_r (by decide), cset_r (by decide)]
theorem release_24 (V : Mem) (a : Int32) : fX1_release V a 24 = V 24 := by
  unfold fX1_release lt
  dsimp only
  rw [cset_r (by decide), cset_r (by decide)]
theorem mark_24 (V : Mem) (a b c : Int32) : fX4_markPassed V a b c 24 = V 24 := by
  unfold fX4_markPassed lt
  dsimp only
  rw [cset_r (by decide), cset_r (by decide)]
theorem back_24 (V : Mem) (a : Int32) : fX5_sendBack V a 24 = V 24 := by
  unfold fX5_sendBack lt
  dsimp only
  refine ite_P (P := fun M : Mem => M 24 = V 24) (fun _ => rfl) (fun _ => ?_)
  refine ite_P (P := fun M : Mem => M 24 = V 24) (fun _ => rfl) (fun _ => ?_)
  rw [addFirst_24, cadd_r (by decide), release_24, cadd_r (by decide)]
theorem removeFrom_24 (V : Mem) (a : Int32) (j : Nat) : fX4_removeFrom V a j 24 = V 24 := by
  unfold fX4_removeFrom
  rw [cset_r (by decide), shDn_r (by decide)]
theorem takeWaiting_24 (V : Mem) (a : Int32) : (fX4_takeWaiting V a).2 24 = V 24 := by
  unfold fX4_takeWaiting
  generalize fndO _ _ 0 = F
  cases F with
  | none => rfl
  | some j => exact removeFrom_24 V a j
theorem take_24 (V : Mem) (a : Int32) : fX5_takeWord V a 24 = V 24 := by
  unfold fX5_takeWord lt
  dsimp only
  refine ite_P (P := fun M : Mem => M 24 = V 24) (fun _ => ?_) (fun _ => rfl)
  rw [cset_r (by decide), takeWaiting_24]
theorem pass_24 (V : Mem) {g : Nat} (hg : g < 4) : fX5_passLetter V (nI g) 24 = V 24 ∨ fX5_passLetter V (nI g) 24 = upd (V 24) g (V 24 g + 1) := by
  unfold fX5_passLetter lt
  dsimp only
  refine ite_P (P := fun M : Mem => M 24 = V 24 ∨ M 24 = upd (V 24) g (V 24 g + 1)) (fun _ => Or.inl rfl) (fun _ => ?_)
  refine ite_P (P := fun M : Mem => M 24 = V 24 ∨ M 24 = upd (V 24) g (V 24 g + 1)) (fun _ => Or.inr ?_) (fun _ => Or.inl ?_)
  · rw [addLast_24, mark_24, cadd_nI hg, sv_row, release_24, cadd_r (by decide), sv_k (by decide)]
  · rw [cadd_r (by decide), sv_k (by decide)]
/-- how many words have passed, all gates -/
def pwd (w : Mem) : Int32 := csum 4 (w 24)
theorem act_24 (gap q : Int32) (w : Mem) {g : Nat} (hg : g < 4) : ∃ k : Nat, k ≤ 1 ∧ pwd (actC gap g (q, w)).2 = pwd w + nI k := by
  unfold actC pwd
  dsimp only
  refine ite_P (P := fun M : Int32 × Mem => ∃ k : Nat, k ≤ 1 ∧ csum 4 (M.2 24) = csum 4 (w 24) + nI k) (fun _ => ⟨0, by decide, ?_⟩) (fun _ => ?_)
  · dsimp only
    rw [back_24, nI_0, Int32.add_zero]
  · dsimp only
    rcases pass_24 (fX5_takeWord w (nI g)) hg with e | e
    · refine ⟨0, by decide, ?_⟩
      rw [e, take_24, nI_0, Int32.add_zero]
    · refine ⟨1, by decide, ?_⟩
      rw [e, take_24, csum_upd _ 4 hg]
      show csum 4 (w 24) - w 24 g + (w 24 g + nI 1) = csum 4 (w 24) + nI 1
      rw [← Int32.add_assoc, Int32.sub_add_cancel]
theorem fld_24 (gap q : Int32) (w : Mem) : ∀ i : Nat, i ≤ 4 → ∃ k : Nat, k ≤ i ∧ pwd (fld (actC gap) i (q, w)).2 = pwd w + nI k
  | 0, _ => ⟨0, by decide, by rw [nI_0, Int32.add_zero]; rfl⟩
  | i + 1, hi => by
    obtain ⟨k, hk, e⟩ := fld_24 gap q w i (by omega)
    obtain ⟨m, hm, e2⟩ := act_24 gap (fld (actC gap) i (q, w)).1 (fld (actC gap) i (q, w)).2 (g := i) (by omega)
    refine ⟨k + m, by omega, ?_⟩
    rw [← nI_add, ← Int32.add_assoc, ← e]
    exact e2
theorem step_24 (w : Mem) (gap : Int32) : ∃ k : Nat, k ≤ 4 ∧ pwd (fX5_stepAcross w gap) = pwd w + nI k := by
  obtain ⟨k, hk, e⟩ := fld_24 gap 1 w 4 (Nat.le_refl _)
  refine ⟨k, hk, ?_⟩
  rw [← e]
  unfold fX5_stepAcross pwd
  rw [sv_k (by decide), sv_k (by decide)]
/-! row 14, the slacks: commuting -/
theorem z_sv {W : Mem} {φ : Nat → Int32} {k j : Nat} {v : Int32} (h : k ≠ 14) : sv (cpv W 14 φ) k j v = cpv (sv W k j v) 14 φ := by
  funext k' j'
  unfold sv cpv
  by_cases c : k' = 14
  · rw [if_neg (fun q => h (q.1.symm.trans c)), if_pos c, if_pos c]
  · rw [if_neg c, if_neg c]
theorem z_cset {W : Mem} {φ : Nat → Int32} {k n : Nat} {i v : Int32} (h : k ≠ 14) : cset (cpv W 14 φ) k n i v = cpv (cset W k n i v) 14 φ := by
  unfold cset
  by_cases c : i < 0 ∨ n ≤ i.toNatClampNeg
  · rw [if_pos c, if_pos c]
  · rw [if_neg c, if_neg c, z_sv h]
theorem z_cadd {W : Mem} {φ : Nat → Int32} {k n : Nat} {i v : Int32} (h : k ≠ 14) : cadd (cpv W 14 φ) k n i v = cpv (cadd W k n i v) 14 φ := by
  unfold cadd
  by_cases c : i < 0 ∨ n ≤ i.toNatClampNeg
  · rw [if_pos c, if_pos c]
  · rw [if_neg c, if_neg c, z_sv h, cpv_k h]
theorem z_shUp {φ : Nat → Int32} {a : Int32} : ∀ (n : Nat) (W : Mem), shUp a n (cpv W 14 φ) = cpv (shUp a n W) 14 φ
  | 0, _ => rfl
  | n + 1, W => by
    show shUp a n (cset (cpv W 14 φ) 39 24 (a * 12 + nI (n + 1)) (cget 24 (W 39) (a * 12 + nI (n + 1) - 1))) = _
    rw [z_cset (by decide), z_shUp n]
    rfl
theorem z_shDn {φ : Nat → Int32} {a : Int32} : ∀ (n p : Nat) (W : Mem), shDn a n p (cpv W 14 φ) = cpv (shDn a n p W) 14 φ
  | 0, _, _ => rfl
  | n + 1, p, W => by
    show shDn a n (p + 1) (cset (cpv W 14 φ) 39 24 (a * 12 + nI p - 1) (cget 24 (W 39) (a * 12 + nI p))) = _
    rw [z_cset (by decide), z_shDn n]
    rfl
theorem ite_c {c : Prop} [Decidable c] {A B A' B' : Mem} {φ : Nat → Int32} (h1 : c → A' = cpv A 14 φ) (h2 : ¬ c → B' = cpv B 14 φ) : (if c then A' else B') = cpv (if c then A else B) 14 φ := by
  by_cases h : c
  · rw [if_pos h, if_pos h, h1 h]
  · rw [if_neg h, if_neg h, h2 h]
theorem z_addFirst {W : Mem} {φ : Nat → Int32} {a b : Int32} : fX4_addFirst (cpv W 14 φ) a b = cpv (fX4_addFirst W a b) 14 φ := by
  show (if (12 : Int32) ≤ cget 2 (W 41) a then cpv W 14 φ else cset (cset (shUp a (cget 2 (W 41) a).toNatClampNeg (cpv W 14 φ)) 39 24 (a * 12) b) 41 2 a (cget 2 (W 41) a + 1)) = _
  unfold fX4_addFirst
  refine ite_c (fun _ => rfl) (fun _ => ?_)
  rw [z_shUp, z_cset (by decide), z_cset (by decide)]
theorem z_addLast {W : Mem} {φ : Nat → Int32} {a b : Int32} : fX4_addLast (cpv W 14 φ) a b = cpv (fX4_addLast W a b) 14 φ := by
  show (if (12 : Int32) ≤ cget 2 (W 41) a then cpv W 14 φ else cset (cset (cpv W 14 φ) 39 24 (a * 12 + cget 2 (W 41) a) b) 41 2 a (cget 2 (W 41) a + 1)) = _
  unfold fX4_addLast lt
  refine ite_c (fun _ => rfl) (fun _ => ?_)
  rw [z_cset (by decide), z_cset (by decide)]
theorem z_release {W : Mem} {φ : Nat → Int32} {a : Int32} : fX1_release (cpv W 14 φ) a = cpv (fX1_release W a) 14 φ := by
  unfold fX1_release lt
  dsimp only
  rw [z_cset (by decide), z_cset (by decide)]
theorem z_mark {W : Mem} {φ : Nat → Int32} {a b c : Int32} : fX4_markPassed (cpv W 14 φ) a b c = cpv (fX4_markPassed W a b c) 14 φ := by
  unfold fX4_markPassed lt
  dsimp only
  rw [z_cset (by decide), z_cset (by decide)]
theorem z_back {W : Mem} {φ : Nat → Int32} {a : Int32} : fX5_sendBack (cpv W 14 φ) a = cpv (fX5_sendBack W a) 14 φ := by
  unfold fX5_sendBack lt
  dsimp only
  rw [z_cadd (by decide), z_release, z_cadd (by decide), z_addFirst]
  refine ite_c (fun _ => rfl) (fun _ => ?_)
  exact ite_c (fun _ => rfl) (fun _ => rfl)
theorem z_remove {W : Mem} {φ : Nat → Int32} {a : Int32} {j : Nat} : fX4_removeFrom (cpv W 14 φ) a j = cpv (fX4_removeFrom W a j) 14 φ := by
  show cset (shDn a ((cget 2 (W 41) a).toNatClampNeg - (j + 1)) (j + 1) (cpv W 14 φ)) 41 2 a (cget 2 (W 41) a - 1) = _
  rw [z_shDn, z_cset (by decide)]
  rfl
theorem z_takeWaiting {W : Mem} {φ : Nat → Int32} {a : Int32} : fX4_takeWaiting (cpv W 14 φ) a = ((fX4_takeWaiting W a).1, cpv (fX4_takeWaiting W a).2 14 φ) := by
  show (fndO (fun i => decide (fX4_hasPassed W (fX4_wordAt W a (nI i)) = 0)) (cget 2 (W 41) a).toNatClampNeg 0).elim (-1006, cpv W 14 φ) (fun i => (fX4_wordAt W a (nI i), fX4_removeFrom (cpv W 14 φ) a i)) = _
  unfold fX4_takeWaiting
  generalize fndO _ _ 0 = F
  cases F with
  | none => rfl
  | some j =>
    show (fX4_wordAt W a (nI j), fX4_removeFrom (cpv W 14 φ) a j) = (fX4_wordAt W a (nI j), cpv (fX4_removeFrom W a j) 14 φ)
    rw [z_remove]
theorem z_take {W : Mem} {φ : Nat → Int32} {a : Int32} : fX5_takeWord (cpv W 14 φ) a = cpv (fX5_takeWord W a) 14 φ := by
  unfold fX5_takeWord lt
  dsimp only
  refine ite_c (fun _ => ?_) (fun _ => rfl)
  show cset (fX4_takeWaiting (cpv W 14 φ) (cget 4 (W 12) a)).2 20 4 a (fX4_takeWaiting (cpv W 14 φ) (cget 4 (W 12) a)).1 = _
  rw [z_takeWaiting]
  dsimp only
  rw [z_cset (by decide)]
theorem z_pass {W : Mem} {φ : Nat → Int32} {a : Int32} : fX5_passLetter (cpv W 14 φ) a = cpv (fX5_passLetter W a) 14 φ := by
  unfold fX5_passLetter lt
  dsimp only
  refine ite_c (fun _ => rfl) (fun _ => ?_)
  rw [z_sv (by decide), z_cadd (by decide)]
  refine ite_c (fun _ => ?_) (fun _ => rfl)
  rw [z_release, z_cadd (by decide), z_mark, z_addLast]
  rfl
