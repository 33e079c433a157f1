/-! one step: the same on both sides -/
theorem it_acts {b : Int32} {n t : Nat} {L : Nat → List Nat} {w : Mem} {q : Int32} (ht : t < 2147483648) : ∀ (k i f : Nat) (S : Mem), i + k = 4 → k < f → (∃ r h d, RwE b n t r h d L (fld (actC (fX3_gapAt w (nI t))) i (q, w)).2 (S 1)) → keep (fld (actC (fX3_gapAt w (nI t))) i (q, w)).2 w → ∃ s', it lbX7_step_23 f (nI i, S) = some (nI 4, cpv S 1 s') ∧ (∃ r h d, RwE b n t r h d L (fld (actC (fX3_gapAt w (nI t))) 4 (q, w)).2 s') ∧ keep (fld (actC (fX3_gapAt w (nI t))) 4 (q, w)).2 w
  | 0, i, f, S, hi, hf, hp, hq => by
    obtain ⟨f, rfl⟩ : ∃ g, f = g + 1 := ⟨f - 1, by omega⟩
    obtain rfl : i = 4 := by omega
    refine ⟨S 1, ?_, hp, hq⟩
    rw [cpv_id]
    rfl
  | k + 1, i, f, S, hi, hf, hp, hq => by
    obtain ⟨f, rfl⟩ : ∃ g, f = g + 1 := ⟨f - 1, by omega⟩
    obtain ⟨r, h, d, p⟩ := hp
    obtain ⟨s1, a1, a2, a3⟩ := sim_act p ht (g := i) (by omega) (fld (actC (fX3_gapAt w (nI t))) i (q, w)).1
    rw [hq.gap] at a2 a3
    obtain ⟨s2, b1, b2, b3⟩ := it_acts ht k (i + 1) f (cpv S 1 s1) (by omega) (by omega) (by rw [cpv_at]; exact a2) (a3.trans hq)
    rw [cpv_cpv] at b1
    refine ⟨s2, ?_, b2, b3⟩
    have e : lbX7_step_23 (nI i, S) = some (.inl (nI (i + 1), cpv S 1 s1)) := by
      unfold lbX7_step_23
      dsimp only
      rw [if_neg (show ¬ (4 : Int32) ≤ nI i from nI_ge (b := 4) (by omega) (by decide)), a1, Option.bind_some, nI_1]
    show (lbX7_step_23 (nI i, S)).bind _ = _
    rw [e]
    exact b1
theorem act_1 (gap : Int32) (i : Nat) (q : Int32 × Mem) : (actC gap i q).1 = if fX1_isOpenAcross q.2 (nI i) gap = 0 then q.1 else 0 := by
  unfold actC
  split <;> rfl
/-- the flag: 1 as long as none of the gates seen was open -/
theorem flag {gap : Int32} {w : Mem} (o : Nat → Int32) (ho : ∀ i, i < 4 → fX1_isOpenAcross (fld (actC gap) i (1, w)).2 (nI i) gap = o i) : ∀ i, i ≤ 4 → ((fld (actC gap) i (1, w)).1 = 1 ∧ ∀ j, j < i → o j = 0) ∨ ((fld (actC gap) i (1, w)).1 = 0 ∧ ∃ j, j < i ∧ ¬ o j = 0)
  | 0, _ => Or.inl ⟨rfl, fun j h => by omega⟩
  | i + 1, h => by
    have ih := flag o ho i (by omega)
    have h1 := ho i (by omega)
    have e : (fld (actC gap) (i + 1) (1, w)).1 = if o i = 0 then (fld (actC gap) i (1, w)).1 else 0 := by
      show (actC gap i (fld (actC gap) i (1, w))).1 = _
      rw [act_1, h1]
    rw [e]
    by_cases c : o i = 0
    · rw [if_pos c]
      rcases ih with ih | ih
      · refine Or.inl ⟨ih.1, fun j hj => ?_⟩
        by_cases c2 : j = i
        · rw [c2, c]
        · exact ih.2 j (by omega)
      · obtain ⟨i1, j, hj, i2⟩ := ih
        exact Or.inr ⟨i1, j, by omega, i2⟩
    · rw [if_neg c]
      exact Or.inr ⟨rfl, i, by omega, c⟩
/-- the model's mask of the first i gates -/
def mskS (o : Nat → Int32) : Nat → Int32
  | 0 => 0
  | i + 1 => if o i = 0 then mskS o i ||| (0 : Int32) else mskS o i ||| ((1 : Int32) <<< (nI i &&& 31))
theorem it_open {S : Mem} {o : Nat → Int32} (ho : ∀ i, i < 4 → qX7_isOpen S (nI i) (S 1 0) = some (o i)) : ∀ (k i f : Nat), i + k = 4 → k < f → it (lbX7_openNow_4 S) f (mskS o i, nI i) = some (mskS o 4, nI 4)
  | 0, i, f, hi, hf => by
    obtain ⟨f, rfl⟩ : ∃ g, f = g + 1 := ⟨f - 1, by omega⟩
    obtain rfl : i = 4 := by omega
    rfl
  | k + 1, i, f, hi, hf => by
    obtain ⟨f, rfl⟩ : ∃ g, f = g + 1 := ⟨f - 1, by omega⟩
    have e : lbX7_openNow_4 S (mskS o i, nI i) = some (.inl (mskS o (i + 1), nI (i + 1))) := by
      unfold lbX7_openNow_4
      dsimp only
      rw [if_neg (show ¬ (4 : Int32) ≤ nI i from nI_ge (b := 4) (by omega) (by decide)), ho i (by omega), Option.bind_some, nI_1]
      show _ = some (Sum.inl ((if o i = 0 then mskS o i ||| (0 : Int32) else mskS o i ||| ((1 : Int32) <<< (nI i &&& 31))), nI (i + 1)))
      by_cases c : o i = 0
      · rw [if_pos c, if_pos c]
      · rw [if_neg c, if_neg c]
    show (lbX7_openNow_4 S (mskS o i, nI i)).bind _ = _
    rw [e]
    exact it_open ho k (i + 1) f (by omega) (by omega)
theorem r_openNow {S : Mem} {o : Nat → Int32} (ho : ∀ i, i < 4 → qX7_isOpen S (nI i) (S 1 0) = some (o i)) : qX7_openNow S = some (mskS o 4) := by
  have h := it_open ho 4 0 fuel (by omega) (fuel_lt (by omega))
  unfold qX7_openNow
  rw [show it (lbX7_openNow_4 S) fuel ((0 : Int32), (0 : Int32)) = some (mskS o 4, nI 4) from h, Option.bind_some]
theorem msk_0 {o : Nat → Int32} : mskS o 4 = 0 ↔ ∀ j, j < 4 → o j = 0 := by
  have e : mskS o 4 = (if o 3 = 0 then (if o 2 = 0 then (if o 1 = 0 then (if o 0 = 0 then (0 : Int32) ||| 0 else 0 ||| ((1 : Int32) <<< (nI 0 &&& 31))) ||| 0 else (if o 0 = 0 then (0 : Int32) ||| 0 else 0 ||| ((1 : Int32) <<< (nI 0 &&& 31))) ||| ((1 : Int32) <<< (nI 1 &&& 31))) ||| 0 else (if o 1 = 0 then (if o 0 = 0 then (0 : Int32) ||| 0 else 0 ||| ((1 : Int32) <<< (nI 0 &&& 31))) ||| 0 else (if o 0 = 0 then (0 : Int32) ||| 0 else 0 ||| ((1 : Int32) <<< (nI 0 &&& 31))) ||| ((1 : Int32) <<< (nI 1 &&& 31))) ||| ((1 : Int32) <<< (nI 2 &&& 31))) ||| 0 else (if o 2 = 0 then (if o 1 = 0 then (if o 0 = 0 then (0 : Int32) ||| 0 else 0 ||| ((1 : Int32) <<< (nI 0 &&& 31))) ||| 0 else (if o 0 = 0 then (0 : Int32) ||| 0 else 0 ||| ((1 : Int32) <<< (nI 0 &&& 31))) ||| ((1 : Int32) <<< (nI 1 &&& 31))) ||| 0 else (if o 1 = 0 then (if o 0 = 0 then (0 : Int32) ||| 0 else 0 ||| ((1 : Int32) <<< (nI 0 &&& 31))) ||| 0 else (if o 0 = 0 then (0 : Int32) ||| 0 else 0 ||| ((1 : Int32) <<< (nI 0 &&& 31))) ||| ((1 : Int32) <<< (nI 1 &&& 31))) ||| ((1 : Int32) <<< (nI 2 &&& 31))) ||| ((1 : Int32) <<< (nI 3 &&& 31))) := rfl
  have a : (∀ j, j < 4 → o j = 0) ↔ (o 0 = 0 ∧ o 1 = 0 ∧ o 2 = 0 ∧ o 3 = 0) := ⟨fun h => ⟨h 0 (by decide), h 1 (by decide), h 2 (by decide), h 3 (by decide)⟩, fun h j hj => by
    obtain rfl | rfl | rfl | rfl : j = 0 ∨ j = 1 ∨ j = 2 ∨ j = 3 := by omega
    · exact h.1
    · exact h.2.1
    · exact h.2.2.1
    · exact h.2.2.2⟩
  rw [a, e]
  by_cases c0 : o 0 = 0 <;> by_cases c1 : o 1 = 0 <;> by_cases c2 : o 2 = 0 <;> by_cases c3 : o 3 = 0 <;> simp only [c0, c1, c2, c3, if_true, if_false] <;> decide
