/-! gateOf, untilOpen, openFor -/
theorem sim_gateOf {V S : Mem} (h : RR V S) (a1 a2 : Int32) : qX7_gateOf S a1 a2 = some (fX6_gateOf V a1 a2) := by
  obtain ⟨⟨n, t, r, q, d, L, ht, pT, pG, pH, pD, pC, pRc, pRs, pL, pP, pX, pK, pN, pZ⟩, -⟩ := h
  unfold qX7_gateOf fX6_gateOf lt
  try dsimp only
  rcases gate_cases a1 with ⟨c1, c2⟩ | ⟨g, hg, rfl, c1, c2⟩
  · rw [c1, c2, if_pos rfl, if_pos rfl]
  · rw [c1, c2, if_neg one_no, if_neg one_no]
    obtain ⟨s0, s1, s2, s3, -⟩ := pG g hg
    obtain ⟨u1, u2⟩ := pH g hg
    obtain ⟨d1, d2, d3, d4⟩ := pD g hg
    by_cases e0 : a2 = 0
    · subst e0
      rw [if_neg (show ¬ (0 : Int32) = 4 by decide), if_pos rfl, in_same, (show fX6_isWithin (0 : Int32) 0 3 = 1 by decide), if_neg one_no, og0]
      try dsimp only
      rw [gd_nI (by omega), nI_clamp (by omega), cget_nI hg]
      exact congrArg some (s0)
    by_cases e1 : a2 = 1
    · subst e1
      rw [if_neg (show ¬ (1 : Int32) = 4 by decide), if_neg (show ¬ (1 : Int32) = 0 by decide), if_pos rfl, in_same, (show fX6_isWithin (1 : Int32) 0 3 = 1 by decide), if_neg one_no, og1]
      try dsimp only
      rw [gd_nI (by omega), nI_clamp (by omega), cget_nI hg]
      exact congrArg some (s1)
    by_cases e2 : a2 = 2
    · subst e2
      rw [if_neg (show ¬ (2 : Int32) = 4 by decide), if_neg (show ¬ (2 : Int32) = 0 by decide), if_neg (show ¬ (2 : Int32) = 1 by decide), if_pos rfl, in_same, (show fX6_isWithin (2 : Int32) 0 3 = 1 by decide), if_neg one_no, og2]
      try dsimp only
      rw [gd_nI (by omega), nI_clamp (by omega), cget_nI hg]
      exact congrArg some (s2)
    by_cases e3 : a2 = 3
    · subst e3
      rw [if_neg (show ¬ (3 : Int32) = 4 by decide), if_neg (show ¬ (3 : Int32) = 0 by decide), if_neg (show ¬ (3 : Int32) = 1 by decide), if_neg (show ¬ (3 : Int32) = 2 by decide), if_pos rfl, in_same, (show fX6_isWithin (3 : Int32) 0 3 = 1 by decide), if_neg one_no, og3]
      try dsimp only
      rw [gd_nI (by omega), nI_clamp (by omega), cget_nI hg]
      exact congrArg some (s3)
    by_cases e4 : a2 = 4
    · subst e4
      have e : S 1 0 = nI t := pC.2.1
      have e' : V 1 0 = nI t := pC.1
      rw [if_neg (show ¬ (4 : Int32) = 0 by decide), if_neg (show ¬ (4 : Int32) = 1 by decide), if_neg (show ¬ (4 : Int32) = 2 by decide), if_neg (show ¬ (4 : Int32) = 3 by decide), if_pos rfl, if_pos rfl, e, rw_open (w := gv V 1) (s := S 1) pT pG rfl (by omega) hg, Option.bind_some, e']
      unfold fX5_isOpenAt lt
      try dsimp only
      split <;> rfl
    by_cases e5 : a2 = 5
    · subst e5
      rw [if_neg (show ¬ (5 : Int32) = 4 by decide), if_neg (show ¬ (5 : Int32) = 0 by decide), if_neg (show ¬ (5 : Int32) = 1 by decide), if_neg (show ¬ (5 : Int32) = 2 by decide), if_neg (show ¬ (5 : Int32) = 3 by decide), if_neg (show ¬ (5 : Int32) = 4 by decide), if_pos rfl, in_same, (show fX6_isWithin (5 : Int32) 0 3 = 0 by decide), in_same, if_pos rfl, (show fX6_isWithin (5 : Int32) 5 8 = 1 by decide), if_neg one_no, (show fX7_ofGate (nI g) ((5 : Int32) - 1) = nI (17 + 8 * g) from og4 g)]
      try dsimp only
      rw [gd_nI (by omega), nI_clamp (by omega), cget_nI hg]
      exact congrArg some (u2.trans u1.symm)
    by_cases e6 : a2 = 6
    · subst e6
      rw [if_neg (show ¬ (6 : Int32) = 4 by decide), if_neg (show ¬ (6 : Int32) = 0 by decide), if_neg (show ¬ (6 : Int32) = 1 by decide), if_neg (show ¬ (6 : Int32) = 2 by decide), if_neg (show ¬ (6 : Int32) = 3 by decide), if_neg (show ¬ (6 : Int32) = 4 by decide), if_neg (show ¬ (6 : Int32) = 5 by decide), if_pos rfl, in_same, (show fX6_isWithin (6 : Int32) 0 3 = 0 by decide), in_same, if_pos rfl, (show fX6_isWithin (6 : Int32) 5 8 = 1 by decide), if_neg one_no, (show fX7_ofGate (nI g) ((6 : Int32) - 1) = nI (18 + 8 * g) from og5 g)]
      try dsimp only
      rw [gd_nI (by omega), nI_clamp (by omega), cget_nI hg]
      exact congrArg some (d2.trans d1.symm)
    by_cases e7 : a2 = 7
    · subst e7
      rw [if_neg (show ¬ (7 : Int32) = 4 by decide), if_neg (show ¬ (7 : Int32) = 0 by decide), if_neg (show ¬ (7 : Int32) = 1 by decide), if_neg (show ¬ (7 : Int32) = 2 by decide), if_neg (show ¬ (7 : Int32) = 3 by decide), if_neg (show ¬ (7 : Int32) = 4 by decide), if_neg (show ¬ (7 : Int32) = 5 by decide), if_neg (show ¬ (7 : Int32) = 6 by decide), if_pos rfl, in_same, (show fX6_isWithin (7 : Int32) 0 3 = 0 by decide), in_same, if_pos rfl, (show fX6_isWithin (7 : Int32) 5 8 = 1 by decide), if_neg one_no, (show fX7_ofGate (nI g) ((7 : Int32) - 1) = nI (19 + 8 * g) from og6 g)]
      try dsimp only
      rw [gd_nI (by omega), nI_clamp (by omega), cget_nI hg]
      exact congrArg some (d3)
    by_cases e8 : a2 = 8
    · subst e8
      rw [if_neg (show ¬ (8 : Int32) = 4 by decide), if_neg (show ¬ (8 : Int32) = 0 by decide), if_neg (show ¬ (8 : Int32) = 1 by decide), if_neg (show ¬ (8 : Int32) = 2 by decide), if_neg (show ¬ (8 : Int32) = 3 by decide), if_neg (show ¬ (8 : Int32) = 4 by decide), if_neg (show ¬ (8 : Int32) = 5 by decide), if_neg (show ¬ (8 : Int32) = 6 by decide), if_neg (show ¬ (8 : Int32) = 7 by decide), if_pos rfl, in_same, (show fX6_isWithin (8 : Int32) 0 3 = 0 by decide), in_same, if_pos rfl, (show fX6_isWithin (8 : Int32) 5 8 = 1 by decide), if_neg one_no, (show fX7_ofGate (nI g) ((8 : Int32) - 1) = nI (20 + 8 * g) from og7 g)]
      try dsimp only
      rw [gd_nI (by omega), nI_clamp (by omega), cget_nI hg]
      exact congrArg some (d4)
    rw [if_neg e4, if_neg e0, if_neg e1, if_neg e2, if_neg e3, if_neg e4, if_neg e5, if_neg e6, if_neg e7, if_neg e8]
    have no : ∀ j : Nat, j ≤ 8 → ¬ a2 = nI j := fun j hj e => by
      obtain rfl | rfl | rfl | rfl | rfl | rfl | rfl | rfl | rfl : j = 0 ∨ j = 1 ∨ j = 2 ∨ j = 3 ∨ j = 4 ∨ j = 5 ∨ j = 6 ∨ j = 7 ∨ j = 8 := by omega
      · exact e0 e
      · exact e1 e
      · exact e2 e
      · exact e3 e
      · exact e4 e
      · exact e5 e
      · exact e6 e
      · exact e7 e
      · exact e8 e
    have z1 : fX7_in a2 0 3 = 0 := by
      rcases within_nat (a := a2) (hi := 3) (n := 3) rfl with c | ⟨c, k, hk, e⟩
      · exact c
      · exact absurd e (no k (by omega))
    have z2 : fX7_in a2 5 8 = 0 := by
      rcases within_cases a2 5 8 with c | ⟨c, c1, c2⟩
      · exact c
      · have c3 : ¬ a2 < 0 := by
          intro c4
          refine c1 ?_
          rw [Int32.lt_iff_toInt_lt] at c4 ⊢
          have x0 : (0 : Int32).toInt = 0 := rfl
          have x5 : (5 : Int32).toInt = 5 := rfl
          omega
        obtain ⟨k, hk, e⟩ := nI_of2 (n := 8) rfl c3 c2
        exact absurd e (no k hk)
    rw [z1, if_pos rfl, z2, if_pos rfl]
theorem r_opensIn {S : Mem} {g : Nat} (o : Nat → Int32) (ho : ∀ i, i < 4000 → qX7_isOpen S (nI g) (S 1 0 + nI i) = some (o i)) : qX7_opensIn S (nI g) = some (fnd (fun i => decide (¬ o i = 0)) 4000) := by
  have hl : it (lbX7_opensIn_2 S (nI g)) fuel (0 : Int32) = some ((fndO (fun i => decide (¬ o i = 0)) 4000 0).elim (Sum.inr (nI 4000)) (fun i => Sum.inl (nI i))) := by
    refine it_fnd (fun i => nI i) (fun i => decide (¬ o i = 0)) (fun i => Sum.inl (nI i)) (Sum.inr (nI 4000)) 4000 (fun i hi => ?_) ?_ fuel (fuel_lt (by omega))
    · unfold lbX7_opensIn_2
      rw [if_neg (show ¬ (4000 : Int32) ≤ nI i from nI_ge hi (by decide)), ho i hi, Option.bind_some, nI_1]
      by_cases c : o i = 0
      · rw [if_pos c, if_neg (by simp [c])]
      · rw [if_neg c, if_pos (by simp [c])]
    · unfold lbX7_opensIn_2
      rw [if_pos (show (4000 : Int32) ≤ nI 4000 by decide)]
  unfold qX7_opensIn fnd
  rw [hl, Option.bind_some]
  cases fndO (fun i => decide (¬ o i = 0)) 4000 0 <;> rfl
theorem RR.opens {V S : Mem} (h : RR V S) {g : Nat} (hg : g < 4) {i : Nat} (hi : i ≤ 9000) : qX7_isOpen S (nI g) (S 1 0 + nI i) = some (fX5_isOpenAt (gv V 1) (nI g) (V 1 0 + nI i)) := by
  obtain ⟨⟨n, t, r, q, d, L, ht, pT, pG, pH, pD, pC, pRc, pRs, pL, pP, pX, pK, pN, pZ⟩, -⟩ := h
  have e : S 1 0 = nI t := pC.2.1
  have e' : V 1 0 = nI t := pC.1
  rw [e, e', nI_add, rw_open (w := gv V 1) (s := S 1) pT pG rfl (by omega) hg]
  rfl
theorem RR.opensIn {V S : Mem} (h : RR V S) {g : Nat} (hg : g < 4) : qX7_opensIn S (nI g) = some (fX5_stepsUntilOpen (gv V 1) (nI g)) :=
  r_opensIn (fun i => fX5_isOpenAt (gv V 1) (nI g) (V 1 0 + nI i)) (fun i hi => h.opens hg (by omega))
theorem sim_untilOpen {V S : Mem} (h : RR V S) (a1 : Int32) : qX7_untilOpen S a1 = some (fX6_untilOpen V a1) := by
  unfold qX7_untilOpen fX6_untilOpen lt
  try dsimp only
  rcases gate_cases a1 with ⟨c1, c2⟩ | ⟨g, hg, rfl, c1, c2⟩
  · rw [c1, c2, if_pos rfl, if_pos rfl]
  · rw [c1, c2, if_neg one_no, if_neg one_no, h.opensIn hg, Option.bind_some]
theorem sim_openFor {V S : Mem} (h : RR V S) (a1 : Int32) : qX7_openFor S a1 = some (fX6_openFor V a1) := by
  unfold qX7_openFor fX6_openFor lt
  try dsimp only
  rcases gate_cases a1 with ⟨c1, c2⟩ | ⟨g, hg, rfl, c1, c2⟩
  · rw [c1, c2, if_pos rfl, if_pos rfl]
  · rw [c1, c2, if_neg one_no, if_neg one_no, h.opensIn hg, Option.bind_some]
    have hv : fX5_stepsUntilOpen (gv V 1) (nI g) = -1006 ∨ ∃ j : Nat, j < 4000 ∧ fX5_stepsUntilOpen (gv V 1) (nI g) = nI j := by
      unfold fX5_stepsUntilOpen fnd
      generalize hF : fndO _ 4000 0 = F
      cases F with
      | none => exact Or.inl rfl
      | some j => exact Or.inr ⟨j, fndO_lt hF, rfl⟩
    generalize fX5_stepsUntilOpen (gv V 1) (nI g) = x at hv ⊢
    rcases hv with rfl | ⟨j, hj, rfl⟩
    · have hl : it (lbX7_openFor_19 S (nI g) (-1006)) fuel (0 : Int32) = some (0 : Int32) := by
        refine it_for (fun i => (0 : Int32)) 0 (fun i hi => absurd hi (by omega)) ?_ fuel (fuel_lt (by omega))
        unfold lbX7_openFor_19
        rw [if_pos rfl]
      rw [hl, Option.bind_some, if_pos rfl, if_pos rfl]
    · have hx : ¬ nI j = (-1006 : Int32) := fun e => nI_pos (n := j) (by omega) (by rw [e]; decide)
      have hl : it (lbX7_openFor_19 S (nI g) (nI j)) fuel (0 : Int32) = some (fX5_openStepsFrom (gv V 1) (nI g) (V 1 0 + nI j)) := by
        unfold fX5_openStepsFrom
        refine it_fnd (fun i => nI i) (fun i => decide (fX5_isOpenAt (gv V 1) (nI g) (V 1 0 + nI j + nI i) = 0)) (fun i => nI i) (nI 4000) 4000 (fun i hi => ?_) ?_ fuel (fuel_lt (by omega))
        · unfold lbX7_openFor_19
          have e1 : S 1 0 + nI j + nI i = S 1 0 + nI (j + i) := by rw [Int32.add_assoc, nI_add]
          have e2 : V 1 0 + nI j + nI i = V 1 0 + nI (j + i) := by rw [Int32.add_assoc, nI_add]
          rw [if_neg hx, if_neg (show ¬ (4000 : Int32) ≤ nI i from nI_ge hi (by decide)), e1, h.opens hg (by omega), Option.bind_some, nI_1, e2]
          by_cases c : fX5_isOpenAt (gv V 1) (nI g) (V 1 0 + nI (j + i)) = 0
          · rw [if_pos c, if_pos (by simp [c])]
          · rw [if_neg c, if_neg (by simp [c])]
        · unfold lbX7_openFor_19
          rw [if_neg hx, if_pos (show (4000 : Int32) ≤ nI 4000 by decide)]
      rw [hl, Option.bind_some, if_neg hx, if_neg hx]
