/-! steps: what they do to the rows 24, 33 and to the clock -/
theorem addLast_r {V : Mem} {a b : Int32} {j : Nat} (h1 : j ≠ 39) (h2 : j ≠ 41) : fX4_addLast V a b j = V j := by
  unfold fX4_addLast
  simp only [lt_e]
  refine ite_P (P := fun M : Mem => M j = V j) (fun _ => rfl) (fun _ => ?_)
  rw [cset_r h2, cset_r h1]
theorem addFirst_r {V : Mem} {a b : Int32} {j : Nat} (h1 : j ≠ 39) (h2 : j ≠ 41) : fX4_addFirst V a b j = V j := by
  unfold fX4_addFirst
  refine ite_P (P := fun M : Mem => M j = V j) (fun _ => rfl) (fun _ => ?_)
  rw [cset_r h2, cset_r h1, shUp_r h1]
theorem release_r {V : Mem} {a : Int32} {j : Nat} (h1 : j ≠ 20) (h2 : j ≠ 22) : fX1_release V a j = V j := by
  unfold fX1_release
  simp only [lt_e]
  rw [cset_r h2, cset_r h1]
theorem back_r {V : Mem} {a : Int32} {j : Nat} (h1 : j ≠ 20) (h2 : j ≠ 22) (h3 : j ≠ 26) (h4 : j ≠ 37) (h5 : j ≠ 39) (h6 : j ≠ 41) : fX5_sendBack V a j = V j := by
  unfold fX5_sendBack
  simp only [lt_e]
  refine ite_P (P := fun M : Mem => M j = V j) (fun _ => rfl) (fun _ => ?_)
  refine ite_P (P := fun M : Mem => M j = V j) (fun _ => rfl) (fun _ => ?_)
  rw [addFirst_r h5 h6, cadd_r h4, release_r h1 h2, cadd_r h3]
theorem removeFrom_r {V : Mem} {a : Int32} {i j : Nat} (h1 : j ≠ 39) (h2 : j ≠ 41) : fX4_removeFrom V a i j = V j := by
  unfold fX4_removeFrom
  rw [cset_r h2, shDn_r h1]
theorem takeWaiting_r {V : Mem} {a : Int32} {j : Nat} (h1 : j ≠ 39) (h2 : j ≠ 41) : (fX4_takeWaiting V a).2 j = V j := by
  unfold fX4_takeWaiting
  generalize fndO _ _ 0 = F
  cases F with
  | none => rfl
  | some i => exact removeFrom_r h1 h2
theorem take_r {V : Mem} {a : Int32} {j : Nat} (h0 : j ≠ 20) (h1 : j ≠ 39) (h2 : j ≠ 41) : fX5_takeWord V a j = V j := by
  unfold fX5_takeWord
  simp only [lt_e]
  refine ite_P (P := fun M : Mem => M j = V j) (fun _ => ?_) (fun _ => rfl)
  rw [cset_r h0, takeWaiting_r h1 h2]
theorem cset_or {V : Mem} {k n j : Nat} {i v : Int32} : cset V k n i v k j = V k j ∨ cset V k n i v k j = v := by
  unfold cset
  by_cases c : i < 0 ∨ n ≤ i.toNatClampNeg
  · rw [if_pos c]
    exact Or.inl rfl
  · rw [if_neg c]
    by_cases c2 : j = i.toNatClampNeg
    · rw [c2, sv_at]
      exact Or.inr rfl
    · rw [sv_j c2]
      exact Or.inl rfl
/-- what a pass does to the rows 24 and 33, and to the clock and the idle steps -/
def pss (g : Nat) (V M : Mem) : Prop := ((M 24 = V 24 ∧ M 33 = V 33) ∨ (M 24 = upd (V 24) g (V 24 g + 1) ∧ ∀ j, M 33 j = V 33 j ∨ M 33 j = V 0 0)) ∧ M 0 0 = V 0 0 ∧ M 0 2 = V 0 2
theorem pss_pass (V : Mem) {g : Nat} (hg : g < 4) : pss g V (fX5_passLetter V (nI g)) := by
  unfold fX5_passLetter
  simp only [lt_e]
  refine ite_P (P := fun M : Mem => pss g V M) (fun _ => ⟨Or.inl ⟨rfl, rfl⟩, rfl, rfl⟩) (fun _ => ?_)
  have a0 : ∀ q, q ≠ 1 → sv V 0 1 (V 0 1 + 1) 0 q = V 0 q := fun q h => sv_j h
  have a1 : ∀ j, j ≠ 0 → sv V 0 1 (V 0 1 + 1) j = V j := fun j h => sv_k h
  generalize sv V 0 1 (V 0 1 + 1) = A at a0 a1 ⊢
  refine ite_P (P := fun M : Mem => pss g V M) (fun _ => ?_) (fun _ => ?_)
  · have b : ∀ j, j ≠ 22 → j ≠ 20 → fX1_release (cadd A 22 4 (nI g) 1) (nI g) j = A j := fun j h1 h2 => by rw [release_r h2 h1, cadd_r h1]
    generalize fX1_release (cadd A 22 4 (nI g) 1) (nI g) = B at b ⊢
    have d1 : cadd B 24 4 (nI g) 1 24 = upd (V 24) g (V 24 g + 1) := by
      rw [cadd_nI hg, sv_row, b 24 (by decide) (by decide), a1 24 (by decide)]
    have d2 : ∀ j, j ≠ 24 → j ≠ 22 → j ≠ 20 → cadd B 24 4 (nI g) 1 j = A j := fun j h1 h2 h3 => by rw [cadd_r h1, b j h2 h3]
    generalize cadd B 24 4 (nI g) 1 = D at d1 d2 ⊢
    generalize cget 4 (V 20) (nI g) = r
    have f1 : ∀ j, j ≠ 33 → j ≠ 35 → fX4_markPassed D r (D 0 0) (nI g) j = D j := fun j h1 h2 => by
      unfold fX4_markPassed
      simp only [lt_e]
      rw [cset_r h2, cset_r h1]
    have f2 : ∀ j, fX4_markPassed D r (D 0 0) (nI g) 33 j = D 33 j ∨ fX4_markPassed D r (D 0 0) (nI g) 33 j = D 0 0 := fun j => by
      unfold fX4_markPassed
      simp only [lt_e]
      rw [cset_r (by decide)]
      exact cset_or
    generalize fX4_markPassed D r (D 0 0) (nI g) = F at f1 f2 ⊢
    have e0 : D 0 0 = V 0 0 := by rw [d2 0 (by decide) (by decide) (by decide), a0 0 (by decide)]
    have e2 : D 0 2 = V 0 2 := by rw [d2 0 (by decide) (by decide) (by decide), a0 2 (by decide)]
    have e33 : D 33 = V 33 := by rw [d2 33 (by decide) (by decide) (by decide), a1 33 (by decide)]
    refine ⟨Or.inr ⟨?_, fun j => ?_⟩, ?_, ?_⟩
    · rw [addLast_r (by decide) (by decide), f1 24 (by decide) (by decide), d1]
    · rw [addLast_r (by decide) (by decide), ← e33, ← e0]
      exact f2 j
    · rw [addLast_r (by decide) (by decide), f1 0 (by decide) (by decide), e0]
    · rw [addLast_r (by decide) (by decide), f1 0 (by decide) (by decide), e2]
  · refine ⟨Or.inl ⟨?_, ?_⟩, ?_, ?_⟩
    · rw [cadd_r (by decide), a1 24 (by decide)]
    · rw [cadd_r (by decide), a1 33 (by decide)]
    · rw [cadd_r (by decide), a0 0 (by decide)]
    · rw [cadd_r (by decide), a0 2 (by decide)]
/-- from w to M some k words have passed, all of them now -/
def psk (k : Nat) (w M : Mem) : Prop := pwd M = pwd w + nI k ∧ (k = 0 → M 33 = w 33) ∧ (∀ j, M 33 j = w 33 j ∨ M 33 j = w 0 0) ∧ M 0 0 = w 0 0 ∧ M 0 2 = w 0 2
theorem psk_act (gap q : Int32) (w : Mem) {g : Nat} (hg : g < 4) : ∃ k : Nat, k ≤ 1 ∧ psk k w (actC gap g (q, w)).2 := by
  unfold actC
  dsimp only
  refine ite_P (P := fun M : Int32 × Mem => ∃ k : Nat, k ≤ 1 ∧ psk k w M.2) (fun _ => ⟨0, by decide, ?_⟩) (fun _ => ?_)
  · dsimp only
    refine ⟨?_, fun _ => back_r (by decide) (by decide) (by decide) (by decide) (by decide) (by decide), fun j => Or.inl ?_, ?_, ?_⟩
    · unfold pwd
      rw [back_r (by decide) (by decide) (by decide) (by decide) (by decide) (by decide), nI_0, Int32.add_zero]
    · rw [back_r (by decide) (by decide) (by decide) (by decide) (by decide) (by decide)]
    · rw [back_r (by decide) (by decide) (by decide) (by decide) (by decide) (by decide)]
    · rw [back_r (by decide) (by decide) (by decide) (by decide) (by decide) (by decide)]
  · dsimp only
    obtain ⟨h1, h2, h3⟩ := pss_pass (fX5_takeWord w (nI g)) hg
    have t24 : fX5_takeWord w (nI g) 24 = w 24 := take_r (by decide) (by decide) (by decide)
    have t33 : fX5_takeWord w (nI g) 33 = w 33 := take_r (by decide) (by decide) (by decide)
    have t0 : fX5_takeWord w (nI g) 0 = w 0 := take_r (by decide) (by decide) (by decide)
    rw [t24, t33, t0] at h1
    rw [t0] at h2 h3
    rcases h1 with ⟨e, e2⟩ | ⟨e, e2⟩
    · refine ⟨0, by decide, ?_, fun _ => e2, fun j => Or.inl (by rw [e2]), h2, h3⟩
      unfold pwd
      rw [e, nI_0, Int32.add_zero]
    · refine ⟨1, by decide, ?_, fun h => absurd h (by decide), e2, h2, h3⟩
      unfold pwd
      rw [e, csum_upd _ 4 hg]
      show csum 4 (w 24) - w 24 g + (w 24 g + nI 1) = csum 4 (w 24) + nI 1
      rw [← Int32.add_assoc, Int32.sub_add_cancel]
theorem psk.trans {k m : Nat} {a b c : Mem} (h : psk k a b) (h' : psk m b c) : psk (k + m) a c := by
  obtain ⟨e1, e2, e3, e4, e5⟩ := h
  obtain ⟨f1, f2, f3, f4, f5⟩ := h'
  refine ⟨?_, fun h => ?_, fun j => ?_, f4.trans e4, f5.trans e5⟩
  · rw [← nI_add, ← Int32.add_assoc, ← e1]
    exact f1
  · exact (f2 (by omega)).trans (e2 (by omega))
  · rcases f3 j with h | h
    · rcases e3 j with h2 | h2
      · exact Or.inl (h.trans h2)
      · exact Or.inr (h.trans h2)
    · exact Or.inr (h.trans e4)
theorem psk_fld (gap q : Int32) (w : Mem) : ∀ i : Nat, i ≤ 4 → ∃ k : Nat, k ≤ i ∧ psk k w (fld (actC gap) i (q, w)).2
  | 0, _ => ⟨0, by decide, by rw [nI_0, Int32.add_zero]; rfl, fun _ => rfl, fun j => Or.inl rfl, rfl, rfl⟩
  | i + 1, hi => by
    obtain ⟨k, hk, e⟩ := psk_fld gap q w i (by omega)
    have e' : fld (actC gap) (i + 1) (q, w) = actC gap i (fld (actC gap) i (q, w)) := rfl
    rw [e']
    generalize fld (actC gap) i (q, w) = R at e ⊢
    obtain ⟨R1, R2⟩ := R
    obtain ⟨m, hm, f⟩ := psk_act gap R1 R2 (g := i) (by omega)
    exact ⟨k + m, by omega, e.trans f⟩
/-- one step: how many words have passed in it, and what is told of them -/
theorem psk_step (w : Mem) (gap : Int32) : ∃ k : Nat, k ≤ 4 ∧ pwd (fX5_stepAcross w gap) = pwd w + nI k ∧ (k = 0 → fX5_stepAcross w gap 33 = w 33) ∧ (∀ j, fX5_stepAcross w gap 33 j = w 33 j ∨ fX5_stepAcross w gap 33 j = w 0 0) ∧ fX5_stepAcross w gap 0 0 = w 0 0 + 1 ∧ (fX5_stepAcross w gap 0 2 = w 0 2 ∨ fX5_stepAcross w gap 0 2 = w 0 2 + 1) := by
  obtain ⟨k, hk, e1, e2, e3, e4, e5⟩ := psk_fld gap 1 w 4 (Nat.le_refl _)
  have r : ∀ j, j ≠ 0 → fX5_stepAcross w gap j = (fld (actC gap) 4 (1, w)).2 j := fun j hj => by
    unfold fX5_stepAcross
    generalize fld (actC gap) 4 (1, w) = R
    rw [sv_k hj, sv_k hj]
  refine ⟨k, hk, ?_, ?_, ?_, ?_, ?_⟩
  · rw [← e1]
    unfold pwd
    rw [r 24 (by decide)]
  · rw [r 33 (by decide)]
    exact e2
  · rw [r 33 (by decide)]
    exact e3
  · unfold fX5_stepAcross
    generalize fld (actC gap) 4 (1, w) = R at e4 ⊢
    rw [sv_at, e4]
  · unfold fX5_stepAcross
    generalize fld (actC gap) 4 (1, w) = R at e5 ⊢
    rw [sv_j (by decide), sv_at, e5]
    by_cases c : R.1 = 0
    · rw [if_pos c, Int32.add_zero]
      exact Or.inl rfl
    · rw [if_neg c]
      exact Or.inr rfl
theorem psk_stps (w : Mem) : ∀ n : Nat, ∃ k : Nat, k ≤ 4 * n ∧ pwd (stps n w) = pwd w + nI k ∧ (k = 0 → stps n w 33 = w 33)
  | 0 => ⟨0, by decide, by rw [nI_0, Int32.add_zero]; rfl, fun _ => rfl⟩
  | n + 1 => by
    obtain ⟨k, hk, e1, e2⟩ := psk_stps w n
    obtain ⟨m, hm, f1, f2, -⟩ := psk_step (stps n w) (fX3_gapAt (stps n w) (stps n w 0 0))
    refine ⟨k + m, by omega, ?_, fun h => ?_⟩
    · rw [← nI_add, ← Int32.add_assoc, ← e1]
      exact f1
    · exact (f2 (by omega)).trans (e2 (by omega))
