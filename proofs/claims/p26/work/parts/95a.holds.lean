/-! all that is told goes together -/
theorem EX.w {n t : Nat} {w w' : Mem} (h : EX n t w) (e : ∀ j, j < 42 → w' j = w j) : EX n t w' := h.of (e 0 (by decide)) (e 20 (by decide)) (e 22 (by decide)) (e 26 (by decide)) (e 29 (by decide)) (e 33 (by decide)) (e 35 (by decide))
theorem GW.w {n t : Nat} {r : Nat → List Nat} {h : Nat → Option Nat} {d : Nat → Nat} {L : Nat → List Nat} {w w' : Mem} {s : Nat → Int32} (G : GW n t r h d L w s) (e : ∀ j, j < 42 → w' j = w j) : GW n t r h d L w' s := ⟨G.1.w e, G.2.w e⟩
theorem GW.v {n t : Nat} {r : Nat → List Nat} {h : Nat → Option Nat} {d : Nat → Nat} {L : Nat → List Nat} {V V' : Mem} {s : Nat → Int32} (G : GW n t r h d L (gv V 1) s) (e : ∀ j, j < 43 ∨ 85 ≤ j → V' j = V j) : GW n t r h d L (gv V' 1) s := G.w (fun j hj => e (1 + j) (by omega))
def hP (V : Mem) (v : Nat) : Int32 := if V 34 v = -1006 then 0 else 1
theorem hP_l (V : Mem) (v : Nat) : hP V v * V 30 v = lP (gv V 1) v := by
  show (if V 34 v = -1006 then (0 : Int32) else 1) * V 30 v = if V 34 v = -1006 then 0 else V 30 v
  by_cases c : V 34 v = -1006
  · rw [if_pos c, if_pos c, Int32.zero_mul]
  · rw [if_neg c, if_neg c, Int32.one_mul]
theorem it_holds1 {V : Mem} {n t : Nat} {r : Nat → List Nat} {h : Nat → Option Nat} {d : Nat → Nat} {L : Nat → List Nat} {s : Nat → Int32} (G : GW n t r h d L (gv V 1) s) (ht : t ≤ 200000) : ∀ (m i f : Nat) (W : Mem), i + m = n → m < f → (∀ j, j < 43 ∨ 85 ≤ j → W j = V j) → ∃ W', it (lbL_holds_53 (nI n)) f (csum i (hP V), csum i (lP (gv V 1)), (1 : Int32), nI i, W) = some (csum n (hP V), csum n (lP (gv V 1)), (1 : Int32), nI n, W') ∧ ∀ j, j < 43 ∨ 85 ≤ j → W' j = V j := by
  have n12 := G.1.2.2.2.2.2.2.2.2.2.1.1
  have v28 : V 28 0 = nI n := G.1.2.2.2.2.1.2.2.2.2.2.1
  intro m
  induction m with
  | zero =>
    intro i f W hi hf hW
    obtain ⟨f, rfl⟩ : ∃ g, f = g + 1 := ⟨f - 1, by omega⟩
    obtain rfl : i = n := by omega
    refine ⟨W, it_o ?_, hW⟩
    unfold lbL_holds_53
    simp only [lt_e]
    rw [if_pos (nI_le (Nat.le_refl _) (by omega))]
  | succ m ih =>
    intro i f W hi hf hW
    obtain ⟨f, rfl⟩ : ∃ g, f = g + 1 := ⟨f - 1, by omega⟩
    obtain ⟨W1, e1, e2⟩ := l_isWord (v := i) (G.v hW) ht (by omega)
    have hW1 : ∀ j, j < 43 ∨ 85 ≤ j → W1 j = V j := fun j hj => (e2 j hj).trans (hW j hj)
    have w28 : W1 28 0 = nI n := by rw [hW1 28 (by decide)]; exact v28
    have e : lbL_holds_53 (nI n) (csum i (hP V), csum i (lP (gv V 1)), (1 : Int32), nI i, W) = some (.inl (csum (i + 1) (hP V), csum (i + 1) (lP (gv V 1)), (1 : Int32), nI (i + 1), W1)) := by
      unfold lbL_holds_53
      simp only [lt_e]
      rw [if_neg (nI_ge (by omega) (by omega)), if_neg one_no, e1, Option.bind_some, qw3 w28 (show i < n by omega) n12, qw2 w28 (show i < n by omega) n12, hW1 34 (by decide), hW1 30 (by decide), nI_1]
      have x1 : csum (i + 1) (lP (gv V 1)) = csum i (lP (gv V 1)) + (if V 34 i = -1006 then 0 else 1) * V 30 i := congrArg (fun q => csum i (lP (gv V 1)) + q) (hP_l V i).symm
      rw [x1]
      rfl
    rw [it_s e]
    exact ih (i + 1) f W1 (by omega) (by omega) hW1
theorem it_holds2 {V : Mem} {n t : Nat} {r : Nat → List Nat} {h : Nat → Option Nat} {d : Nat → Nat} {L : Nat → List Nat} {s : Nat → Int32} (G : GW n t r h d L (gv V 1) s) (ht : t ≤ 200000) (x A : Int32) (y : Int32) : it (lbL_holds_109 (x, A, (1 : Int32), y, V)) fuel (A, (0 : Int32), (0 : Int32), (0 : Int32), (1 : Int32), (0 : Int32)) = some (A + csum 4 (V 23), csum 4 (V 25), csum 4 (V 27), csum 4 (fun g => if V 21 g = -1006 then 0 else 1), (1 : Int32), nI 4) := by
  have := it_for (body := lbL_holds_109 (x, A, (1 : Int32), y, V)) (fun i => (A + csum i (V 23), csum i (V 25), csum i (V 27), csum i (fun g => if V 21 g = -1006 then (0 : Int32) else 1), (1 : Int32), nI i)) 4 (e := (A + csum 4 (V 23), csum 4 (V 25), csum 4 (V 27), csum 4 (fun g => if V 21 g = -1006 then (0 : Int32) else 1), (1 : Int32), nI 4)) (fun i hi => ?_) ?_ fuel (fuel_lt (by decide))
  · rw [← this]
    show it _ fuel _ = it _ fuel (A + 0, (0 : Int32), (0 : Int32), (0 : Int32), (1 : Int32), (0 : Int32))
    rw [Int32.add_zero]
  · unfold lbL_holds_109
    simp only [lt_e]
    rw [if_neg (show ¬ (4 : Int32) ≤ nI i from nI_ge (b := 4) hi (by decide)), if_neg one_no, l_isGate G ht hi, Option.bind_some, qg7 V hi, qg8 V hi, qg6 V hi, qg5 V hi, nI_1]
    have e : (if V 21 i = (-1006 : Int32) then some (0 : Int32) else some (1 : Int32) : Option Int32) = some (if V 21 i = -1006 then 0 else 1) := by
      by_cases c : V 21 i = -1006
      · rw [if_pos c, if_pos c]
      · rw [if_neg c, if_neg c]
    rw [e, Option.bind_some, Int32.add_assoc A]
    rfl
  · unfold lbL_holds_109
    simp only [lt_e]
    rw [if_pos (show (4 : Int32) ≤ nI 4 by decide)]
theorem it_holds4 {V : Mem} {n t : Nat} {r : Nat → List Nat} {h : Nat → Option Nat} {d : Nat → Nat} {L : Nat → List Nat} {s : Nat → Int32} (G : GW n t r h d L (gv V 1) s) {k : Nat} (hk : k < 2) (x A y x2 y2 z2 : Int32) : it (lbL_holds_214 (x, A, (1 : Int32), y, V) (x2, y2, z2, nI k)) fuel ((0 : Int32), (0 : Int32)) = some (fX4_lettersInRow (gv V 1) (nI k), nI (r k).length) := by
  obtain ⟨p, -⟩ := G
  obtain ⟨pT, pG, pH, pD, pC, pRc, pRs, pL, pP, pX, pK, pN, pZ⟩ := id p
  have n12 := pX.1
  have v28 : V 28 0 = nI n := pC.2.2.2.2.2.1
  obtain ⟨l1, l2, l3⟩ := pRc k hk
  have e6 : fX6_store V (nI k) 6 = nI (r k).length := (qs6 V hk).trans l2
  unfold fX4_lettersInRow
  rw [cget_nI hk, l2, nI_clamp (by omega)]
  refine it_sum (by omega) (fun i q hi => ?_) (fun q => ?_)
  · have hv := pX.row_lt hk (getD_mem hi)
    unfold lbL_holds_214
    simp only [lt_e]
    rw [e6, if_neg (nI_ge hi (by omega)), qat hk ⟨l1, l2, l3⟩ hi, qw2 v28 hv n12, nI_1, c_wordAt (w := gv V 1) hk l3 l1 hi, cget_nI (show (r k).getD i 0 < 12 by omega)]
    rfl
  · unfold lbL_holds_214
    simp only [lt_e]
    rw [e6, if_pos (nI_le (Nat.le_refl _) (by omega))]
theorem it_holds3 {V : Mem} {n t : Nat} {r : Nat → List Nat} {h : Nat → Option Nat} {d : Nat → Nat} {L : Nat → List Nat} {s : Nat → Int32} (G : GW n t r h d L (gv V 1) s) (ht : t ≤ 200000) (x A y : Int32) : it (lbL_holds_197 (x, A, (1 : Int32), y, V)) fuel ((0 : Int32), (0 : Int32), (1 : Int32), (0 : Int32)) = some (csum 2 (fun k => nI (r k).length), csum 2 (fun k => fX4_waitingInRow (gv V 1) (nI k)), (1 : Int32), nI 2) := by
  refine it_for (body := lbL_holds_197 (x, A, (1 : Int32), y, V)) (fun i => (csum i (fun k => nI (r k).length), csum i (fun k => fX4_waitingInRow (gv V 1) (nI k)), (1 : Int32), nI i)) 2 (fun i hi => ?_) ?_ fuel (fuel_lt (by decide))
  · have h4 := it_holds4 G hi x A y (csum i (fun k => nI (r k).length)) (csum i (fun k => fX4_waitingInRow (gv V 1) (nI k))) 1
    obtain ⟨p, -⟩ := G
    obtain ⟨pT, pG, pH, pD, pC, pRc, pRs, pL, pP, pX, pK, pN, pZ⟩ := id p
    have v10 : V 1 0 = nI t := pC.1
    have tb : TB (V 4 i) (V 6 i) (V 8 i) (V 10 i) := (pT i hi).2.2.2.2
    obtain ⟨l1, l2, l3⟩ := pRc i hi
    have e6 : fX6_store V (nI i) 6 = nI (r i).length := (qs6 V hi).trans l2
    have e5 : fX3_toldAt (gv V 1) (nI i) (nI t) = fX3_levelAt (gv V 1) (nI i) (nI t) + V 10 i := by
      unfold fX3_toldAt
      simp only [lt_e]
      rw [cget_nI hi]
      rfl
    unfold lbL_holds_197
    simp only [lt_e]
    rw [if_neg (show ¬ (2 : Int32) ≤ nI i from nI_ge (b := 2) hi (by decide)), if_neg one_no, h4, Option.bind_some, e6, qs8 V hi, qs4 V hi, qc0, v10, l_level hi tb (by omega), Option.bind_some, if_pos rfl, qs5 V hi, v10, qs3 V hi, if_pos e5, qs7 V hi, if_pos rfl, qat_no hi ⟨l1, l2, l3⟩, if_pos rfl, Option.bind_some, nI_1]
    rfl
  · unfold lbL_holds_197
    simp only [lt_e]
    rw [if_pos (show (2 : Int32) ≤ nI 2 by decide)]
theorem p26_holds {V : Mem} {n t : Nat} {r : Nat → List Nat} {h : Nat → Option Nat} {d : Nat → Nat} {L : Nat → List Nat} {s : Nat → Int32} (G : GW n t r h d L (gv V 1) s) (ht : t ≤ 200000) : ∃ V', qL_holds V = some (1, V') ∧ ∀ j, j < 43 ∨ 85 ≤ j → V' j = V j := by
  obtain ⟨W, e1, hW⟩ := it_holds1 G ht n 0 fuel V (by omega) (fuel_lt (by have := G.1.2.2.2.2.2.2.2.2.2.1.1; omega)) (fun j hj => rfl)
  have GW' := G.v hW
  have e2 := it_holds2 GW' ht (csum n (hP V)) (csum n (lP (gv V 1))) (nI n)
  have e3 := it_holds3 GW' ht (csum n (hP V)) (csum n (lP (gv V 1))) (nI n)
  obtain ⟨p, hEX⟩ := GW'
  obtain ⟨pT, pG, pH, pD, pC, pRc, pRs, pL, pP, pX, pK, pN, pZ⟩ := id p
  have n12 := pX.1
  have v28 : V 28 0 = nI n := G.1.2.2.2.2.1.2.2.2.2.2.1
  have w10 : W 1 0 = nI t := pC.1
  have f1 : csum n (hP V) = csum 4 (W 25) := by
    refine (csum_congr n (fun v hv => ?_)).trans (show csum 4 (W 25) = csum n (fun v => s (72 + 5 * v)) from pN).symm
    show (if V 34 v = -1006 then (0 : Int32) else 1) = s (72 + 5 * v)
    rw [← hW 34 (by decide)]
    rcases (pP v hv).2.2.2 with ⟨z1, z2⟩ | ⟨z1, z2⟩
    · rw [if_pos (show W 34 v = -1006 from z1), z2]
    · rw [if_neg (show ¬ W 34 v = -1006 from psd_no z1), z2]
  have f2 : csum n (lP (gv V 1)) + csum 4 (W 23) + csum 4 (W 27) = W 1 1 := by
    have hl : lP (gv V 1) = lP (gv W 1) := by
      funext v
      show (if V 34 v = -1006 then (0 : Int32) else V 30 v) = if W 34 v = -1006 then (0 : Int32) else W 30 v
      rw [hW 34 (by decide), hW 30 (by decide)]
    rw [hl]
    exact hEX.1.1.1.symm
  have f3 : csum 2 (fun k => nI (r k).length) + csum 4 (fun g => if W 21 g = -1006 then (0 : Int32) else 1) = nI n := by
    have a1 := held_cnt (h := h) (fun g a hg e => by have := pX.held_lt hg e; omega)
    have a2 : csum 4 (fun g => if W 21 g = -1006 then (0 : Int32) else 1) = csum 4 (fun g => if hI (h g) = -1006 then (0 : Int32) else 1) := csum_congr 4 (fun g hg => by
      have : W 21 g = hI (h g) := (pH g hg).1
      rw [this])
    have a3 := pX.2.length_eq
    rw [List.length_append, List.length_append, List.length_range] at a3
    rw [a2, a1]
    show 0 + nI (r 0).length + nI (r 1).length + nI (hL h).length = nI n
    rw [Int32.zero_add, nI_add, nI_add]
    exact congrArg nI (by omega)
  have f4 : csum 2 (fun k => fX4_waitingInRow (gv W 1) (nI k)) = fX4_waitingInRow (gv W 1) 0 + fX4_waitingInRow (gv W 1) 1 := by
    show 0 + fX4_waitingInRow (gv W 1) (nI 0) + fX4_waitingInRow (gv W 1) (nI 1) = _
    rw [Int32.zero_add]
    rfl
  have f5 : csum 4 (fun g => if W 21 g = -1006 then (0 : Int32) else 1) = fX1_wordsInside (gv W 1) := by
    unfold fX1_wordsInside
    exact csum_congr 4 (fun g hg => (c_hasWord (w := gv W 1) hg).symm)
  have f6 : ¬ W 1 0 < W 1 2 := by
    obtain ⟨i, hi, ei⟩ := hEX.2
    have ei' : W 1 2 = nI i := ei
    rw [w10, ei']
    by_cases q : t < 2 ^ 31
    · exact nI_nlt hi q
    · omega
  unfold qL_holds
  simp only [lt_e]
  rw [qc1, v28, qw_no v28 n12, if_pos rfl, if_neg (show ¬ (12 : Int32) < nI n from nI_nlt (a := 12) n12 (by decide)), Option.bind_some]
  have e1' : it (lbL_holds_53 (nI n)) fuel ((0 : Int32), (0 : Int32), (1 : Int32), (0 : Int32), V) = some (csum n (hP V), csum n (lP (gv V 1)), (1 : Int32), nI n, W) := e1
  rw [e1', Option.bind_some]
  dsimp only
  rw [e2, Option.bind_some]
  dsimp only
  rw [e3, Option.bind_some]
  dsimp only
  rw [if_neg one_no, qc2, if_pos f1, if_pos f1, qc6, if_pos rfl, qc5, if_pos f2, if_pos f3, qc3, if_pos f4, qc4, if_pos f5, qc8, qc0, if_neg f6]
  exact ⟨W, rfl, hW⟩
