/-! the best of many: bestLie -/
/-- the first of the greatest N i, i below n, told by val, and how great it is -/
def bst (val N : Nat → Int32) : Nat → Int32 × Int32
  | 0 => (0, -1)
  | i + 1 => if N i ≤ (bst val N i).2 then bst val N i else (val i, N i)
theorem bst_no {val N : Nat → Int32} {i : Nat} (h : N i ≤ (bst val N i).2) : bst val N (i + 1) = bst val N i := if_pos h
theorem bst_up {val N : Nat → Int32} {i : Nat} (h : ¬ N i ≤ (bst val N i).2) : bst val N (i + 1) = (val i, N i) := if_neg h
theorem csum_01 {f : Nat → Int32} : ∀ n : Nat, (∀ i, i < n → f i = 0 ∨ f i = 1) → ∃ c : Nat, c ≤ n ∧ csum n f = nI c
  | 0, _ => ⟨0, Nat.le_refl _, rfl⟩
  | n + 1, h => by
    obtain ⟨c, hc, e⟩ := csum_01 n (fun i hi => h i (by omega))
    rcases h n (by omega) with z | z
    · refine ⟨c, by omega, ?_⟩
      show csum n f + f n = _
      rw [z, e, Int32.add_zero]
    · refine ⟨c + 1, by omega, ?_⟩
      show csum n f + f n = _
      rw [z, e, nI_1]
theorem nI_m1no {c : Nat} (h : c < 2 ^ 31) : ¬ nI c ≤ (-1 : Int32) := by
  rw [Int32.le_iff_toInt_le, nI_toInt h]
  have : (-1 : Int32).toInt = -1 := by decide
  omega
theorem ite_01 {c : Prop} [Decidable c] : (if c then (0 : Int32) else 1) = 0 ∨ (if c then (0 : Int32) else 1) = 1 := by
  by_cases h : c
  · rw [if_pos h]
    exact Or.inl rfl
  · rw [if_neg h]
    exact Or.inr rfl
theorem open_nat (V : Mem) (a1 a2 x : Int32) : ∃ c : Nat, c ≤ 200 ∧ fX6_openStepsWith V a1 a2 x = nI c := by
  unfold fX6_openStepsWith
  exact csum_01 200 (fun i hi => ite_01)
/-- the lies that are tried, in their order -/
def lieN (i : Nat) : Int32 := if nI i &&& (1 : Int32) = 1 then (-(nI i + 1)) / 2 else nI i / 2
theorem lieN_in : ∀ i, i < 101 → -50 ≤ (lieN i).toInt ∧ (lieN i).toInt ≤ 50 := by decide +kernel
theorem lieN_odd : ∀ i, i < 101 → ((nI i - nI i / (2 : Int32) * (2 : Int32) = (1 : Int32)) ↔ nI i &&& (1 : Int32) = 1) := by decide +kernel
theorem lieN_eq : ∀ i, i < 101 → nI i &&& (1 : Int32) = 1 → (-(nI i / (2 : Int32))) - (1 : Int32) = lieN i := by decide +kernel
theorem sim_bestLie {V S : Mem} (h : RR V S) (a1 a2 : Int32) : ∃ a V' S', qX6_bestLie V a1 a2 = some (a, V') ∧ qX7_bestLie S a1 a2 = some (a, S') ∧ RR V' S' := by
  unfold qX6_bestLie qX7_bestLie lt
  dsimp only
  rcases store_cases a1 with ⟨y1, y2⟩ | ⟨k, hk, rfl, y1, y2⟩
  · rw [y1, y2, if_pos rfl, if_pos rfl]
    exact ⟨_, V, S, rfl, rfl, h⟩
  rw [y1, y2, if_neg one_no, if_neg one_no]
  rcases gate_cases a2 with ⟨x1, x2⟩ | ⟨g, hg, rfl, x1, x2⟩
  · rw [x1, x2, if_pos rfl, if_pos rfl]
    exact ⟨_, V, S, rfl, rfl, h⟩
  rw [x1, x2, if_neg one_no, if_neg one_no]
  have hop : ∀ i, i < 101 → qX7_opensWith S (nI k) (nI g) (lieN i) = some (fX6_openStepsWith (fX6_findGapsAhead V) (nI k) (nI g) (lieN i), S) := fun i hi => opens_lie h hk hg (lieN_in i hi).1 (lieN_in i hi).2
  have hgap := h.gaps
  generalize fX6_findGapsAhead V = U at hop hgap ⊢
  have hN0 : ∃ c : Nat, c ≤ 200 ∧ fX6_openStepsWith U (nI k) (nI g) (lieN 0) = nI c := open_nat U _ _ _
  generalize hN : (fun i => fX6_openStepsWith U (nI k) (nI g) (lieN i)) = N
  have eN : ∀ i, fX6_openStepsWith U (nI k) (nI g) (lieN i) = N i := fun i => congrFun hN i
  have one : bst lieN N 1 = (0, fX6_openStepsWith U (nI k) (nI g) 0) := by
    obtain ⟨c, hc, e⟩ := hN0
    have := eN 0
    rw [bst_up (show ¬ N 0 ≤ (-1 : Int32) by rw [← this, e]; exact nI_m1no (by omega)), ← this]
    rfl
  have hc : it (lbX6_bestLie_36 (nI k) (nI g) U) fuel ((0 : Int32), fX6_openStepsWith U (nI k) (nI g) 0, (1 : Int32)) = some ((bst lieN N 101).1, (bst lieN N 101).2, nI 101) := by
    refine (congrArg (it (lbX6_bestLie_36 (nI k) (nI g) U) fuel) (show ((0 : Int32), fX6_openStepsWith U (nI k) (nI g) 0, (1 : Int32)) = ((bst lieN N 1).1, (bst lieN N 1).2, nI 1) by rw [one]; rfl)).trans ?_
    refine it_for (fun i => ((bst lieN N (i + 1)).1, (bst lieN N (i + 1)).2, nI (i + 1))) 100 (fun i hi => ?_) ?_ fuel (fuel_lt (by omega))
    · have e0 := eN (i + 1)
      unfold lbX6_bestLie_36 lt
      dsimp only
      rw [if_neg (show ¬ (100 : Int32) < nI (i + 1) from nI_nlt (b := i + 1) (a := 100) (by omega) (by decide)), nI_1]
      by_cases c : nI (i + 1) &&& (1 : Int32) = 1
      · have e1 : (-(nI (i + 1) + 1)) / 2 = lieN (i + 1) := (if_pos c).symm
        rw [nI_1] at e1
        rw [if_pos c, e1, e0]
        by_cases c2 : N (i + 1) ≤ (bst lieN N (i + 1)).2
        · rw [if_pos c2, bst_no c2]
        · rw [if_neg c2, bst_up c2]
      · have e1 : nI (i + 1) / 2 = lieN (i + 1) := (if_neg c).symm
        rw [if_neg c, e1, e0]
        by_cases c2 : N (i + 1) ≤ (bst lieN N (i + 1)).2
        · rw [if_pos c2, bst_no c2]
        · rw [if_neg c2, bst_up c2]
    · unfold lbX6_bestLie_36
      dsimp only
      rw [if_pos (show (100 : Int32) < nI (100 + 1) by decide)]
  have hm : it (lbX7_bestLie_26 (nI k) (nI g)) fuel ((0 : Int32), (-1 : Int32), (0 : Int32), S) = some ((bst lieN N 101).1, (bst lieN N 101).2, nI 101, S) := by
    refine it_for (fun i => ((bst lieN N i).1, (bst lieN N i).2, nI i, S)) 101 (fun i hi => ?_) ?_ fuel (fuel_lt (by omega))
    · have e0 := hop i hi
      rw [eN i] at e0
      unfold lbX7_bestLie_26
      dsimp only
      rw [if_neg (show ¬ (101 : Int32) ≤ nI i from nI_ge (b := 101) hi (by decide)), nI_1]
      by_cases c : nI i &&& (1 : Int32) = 1
      · rw [if_pos ((lieN_odd i hi).mpr c), lieN_eq i hi c, e0, Option.bind_some]
        by_cases c2 : N i ≤ (bst lieN N i).2
        · rw [if_pos c2, bst_no c2]
        · rw [if_neg c2, bst_up c2]
      · have e1 : nI i / 2 = lieN i := (if_neg c).symm
        rw [if_neg (fun q => c ((lieN_odd i hi).mp q)), e1, e0, Option.bind_some]
        by_cases c2 : N i ≤ (bst lieN N i).2
        · rw [if_pos c2, bst_no c2]
        · rw [if_neg c2, bst_up c2]
    · unfold lbX7_bestLie_26
      dsimp only
      rw [if_pos (show (101 : Int32) ≤ nI 101 by decide)]
  rw [hc, hm, Option.bind_some, Option.bind_some]
  exact ⟨_, _, _, rfl, rfl, hgap⟩
