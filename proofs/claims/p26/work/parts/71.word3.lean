theorem sim_word {V S : Mem} (h : RR V S) (a1 a2 : Int32) : qX7_word S a1 a2 = some (fX6_word V a1 a2) := by
  obtain ⟨⟨n, t, r, q, d, L, ht, p⟩, -⟩ := h
  have p' := p
  obtain ⟨pT, pG, pH, pD, pC, pRc, pRs, pL, pP, pX, pK, pN, pZ⟩ := p
  have n12 := pX.1
  unfold qX7_word fX6_word lt
  try dsimp only
  rcases word_cases (V := V) (S := S) pC.2.2.2.2.2.1 pC.2.2.2.2.2.2 n12 a1 with ⟨c1, c2⟩ | ⟨v, hv, rfl, c1, c2⟩
  · rw [c1, c2, if_pos rfl, if_pos rfl]
  · rw [c1, c2, if_neg one_no, if_neg one_no]
    obtain ⟨x, hx, x1, x2, x3⟩ := sim_where p' hv
    obtain ⟨y1, y2, y3, y4⟩ := pP v hv
    obtain ⟨m1, m2, m3, m4, m5, m6⟩ := pL v hv
    rw [x1]
    by_cases e0 : a2 = 0
    · subst e0
      rw [if_pos rfl, if_pos (by decide), if_pos rfl, Option.bind_some, show (100 : Int32) = nI 100 from rfl, pk_div (by omega) (by decide) (by decide), x2]
    rw [if_neg e0, if_neg e0]
    by_cases e1 : a2 = 1
    · subst e1
      rw [if_pos rfl, if_pos (by decide), if_pos rfl, Option.bind_some, Option.bind_some, show (100 : Int32) = nI 100 from rfl, pk_div (by omega) (by decide) (by decide), pk_mul, pk_sub (by omega), show x - x / 100 * 100 = x % 100 by omega, x3]
      by_cases c : x % 100 = 99
      · rw [if_pos c, if_pos (by rw [c]; rfl)]
      · rw [if_neg c, if_neg (show ¬ nI (x % 100) = (99 : Int32) from fun e => c ((nI_eq (a := x % 100) (b := 99) (by omega) (by decide)).mp e))]
    rw [if_neg e1, if_neg e1]
    by_cases e2 : a2 = 2
    · subst e2
      rw [if_pos rfl, if_pos (by decide), if_pos rfl, r_lettersOf (by omega) m3 m2 m6, Option.bind_some, cget_nI (by omega)]
      exact congrArg some m4.symm
    rw [if_neg e2, if_neg e2]
    by_cases e3 : a2 = 3
    · subst e3
      rw [if_pos rfl, show fX7_ofWord (nI v) ((3 : Int32) - 2) = nI (72 + 5 * v) from ow1 v]
      try dsimp only
      rw [gd_nI (by omega), nI_clamp (by omega), if_pos (show (0 : Int32) ≤ 3 by decide), if_pos rfl]
      rw [c_hasPassed (by omega)]
      rcases y4 with ⟨z1, z2⟩ | ⟨z1, z2⟩
      · rw [z2, if_pos (show gv V 1 33 v = -1006 from z1), if_pos rfl]
      · rw [z2, if_neg (psd_no z1), if_neg one_no]
    rw [if_neg e3, if_neg e3]
    by_cases e4 : a2 = 4
    · subst e4
      rw [if_pos rfl, show fX7_ofWord (nI v) ((4 : Int32) - 2) = nI (73 + 5 * v) from ow2 v]
      try dsimp only
      rw [gd_nI (by omega), nI_clamp (by omega), if_pos (show (0 : Int32) ≤ 4 by decide), if_pos rfl, cget_nI (by omega)]
      exact congrArg some y1
    rw [if_neg e4, if_neg e4]
    by_cases e5 : a2 = 5
    · subst e5
      rw [if_pos rfl, show fX7_ofWord (nI v) ((5 : Int32) - 2) = nI (74 + 5 * v) from ow3 v]
      try dsimp only
      rw [gd_nI (by omega), nI_clamp (by omega), if_pos (show (0 : Int32) ≤ 5 by decide), if_pos rfl, cget_nI (by omega)]
      exact congrArg some y2
    rw [if_neg e5, if_neg e5]
    by_cases e6 : a2 = 6
    · subst e6
      rw [if_pos rfl, show fX7_ofWord (nI v) ((6 : Int32) - 2) = nI (75 + 5 * v) from ow4 v]
      try dsimp only
      rw [gd_nI (by omega), nI_clamp (by omega), if_pos (show (0 : Int32) ≤ 6 by decide), if_pos rfl, cget_nI (by omega)]
      exact congrArg some y3
    rw [if_neg e6, if_neg e6]
    by_cases c : (0 : Int32) ≤ a2
    · rw [if_pos c, if_pos c]
      obtain ⟨m, hm, rfl⟩ := nI_of (x := a2) (fun e => absurd (Int32.not_lt.mpr c) (fun f => f e))
      have h7 : 7 ≤ m := by
        rcases Nat.lt_or_ge m 7 with z | z
        · obtain rfl | rfl | rfl | rfl | rfl | rfl | rfl : m = 0 ∨ m = 1 ∨ m = 2 ∨ m = 3 ∨ m = 4 ∨ m = 5 ∨ m = 6 := by omega
          · exact absurd rfl e0
          · exact absurd rfl e1
          · exact absurd rfl e2
          · exact absurd rfl e3
          · exact absurd rfl e4
          · exact absurd rfl e5
          · exact absurd rfl e6
        · exact z
      rw [show (7 : Int32) = nI 7 from rfl, pk_sub h7, r_letterOf (by omega) m3 m1 m2 m6 (by omega), Option.bind_some]
      refine congrArg some ?_
      have ha : m - 7 < 2 ^ 31 := by omega
      unfold fX4_letterOf lt
      try dsimp only
      rw [if_neg (nI_pos (by omega)), cget_nI (by omega), show gv V 1 29 v = nI (L v).length from m4]
      generalize m - 7 = a at *
      by_cases c2 : a < (L v).length
      · rw [if_pos c2, if_neg (nI_ge c2 (by omega)), show nI v * (6 : Int32) + nI a = nI (6 * v + a) by
          show nI v * nI 6 + nI a = _
          rw [pk_mul, nI_add, Nat.mul_comm], cget_nI (by omega)]
        refine (m5 a (96 + (L v).getD a 0) ?_).symm
        rw [List.getElem?_map, getD_some c2]
        rfl
      · rw [if_neg c2, if_pos (nI_le (by omega) (by omega))]
    · rw [if_neg c, if_neg c]
