/-! the calls that only look: store, gateOf, at, untilOpen, openFor -/
theorem in_same (a lo hi : Int32) : fX7_in a lo hi = fX6_isWithin a lo hi := rfl
theorem within_cases (a lo hi : Int32) : fX6_isWithin a lo hi = 0 ∨ (fX6_isWithin a lo hi = 1 ∧ ¬ a < lo ∧ a ≤ hi) := by
  unfold fX6_isWithin
  by_cases c1 : a < lo
  · rw [if_pos c1]
    exact Or.inl rfl
  · rw [if_neg c1]
    by_cases c2 : hi < a
    · rw [if_pos c2]
      exact Or.inl rfl
    · rw [if_neg c2]
      exact Or.inr ⟨rfl, c1, Int32.not_lt.mp c2⟩
theorem within_nat {a hi : Int32} {n : Nat} (hM : hi.toInt = n) : fX6_isWithin a 0 hi = 0 ∨ (fX6_isWithin a 0 hi = 1 ∧ ∃ k : Nat, k ≤ n ∧ a = nI k) := by
  rcases within_cases a 0 hi with c | ⟨c, c1, c2⟩
  · exact Or.inl c
  · exact Or.inr ⟨c, nI_of2 hM c1 c2⟩
theorem store_cases (a : Int32) : (fX6_isStore a = 0 ∧ fX7_isStore a = 0) ∨ ∃ k : Nat, k < 2 ∧ a = nI k ∧ fX6_isStore a = 1 ∧ fX7_isStore a = 1 := by
  rcases within_nat (a := a) (hi := 1) (n := 1) rfl with c | ⟨c, k, hk, e⟩
  · exact Or.inl ⟨c, c⟩
  · exact Or.inr ⟨k, by omega, e, c, c⟩
theorem gate_cases (a : Int32) : (fX6_isGate a = 0 ∧ fX7_isGate a = 0) ∨ ∃ k : Nat, k < 4 ∧ a = nI k ∧ fX6_isGate a = 1 ∧ fX7_isGate a = 1 := by
  rcases within_nat (a := a) (hi := 3) (n := 3) rfl with c | ⟨c, k, hk, e⟩
  · exact Or.inl ⟨c, c⟩
  · exact Or.inr ⟨k, by omega, e, c, c⟩
theorem one_no : ¬ (1 : Int32) = 0 := by decide
theorem os0 (k : Nat) : fX7_ofStore (nI k) (0 : Int32) = nI (5 + 4 * k) := ofStore_nI k 0
theorem os1 (k : Nat) : fX7_ofStore (nI k) (1 : Int32) = nI (6 + 4 * k) := (ofStore_nI k 1).trans (congrArg nI (by omega))
theorem os2 (k : Nat) : fX7_ofStore (nI k) (2 : Int32) = nI (7 + 4 * k) := (ofStore_nI k 2).trans (congrArg nI (by omega))
theorem os3 (k : Nat) : fX7_ofStore (nI k) (3 : Int32) = nI (8 + 4 * k) := (ofStore_nI k 3).trans (congrArg nI (by omega))
theorem og1 (g : Nat) : fX7_ofGate (nI g) (1 : Int32) = nI (14 + 8 * g) := (ofGate_nI g 1).trans (congrArg nI (by omega))
theorem og3 (g : Nat) : fX7_ofGate (nI g) (3 : Int32) = nI (16 + 8 * g) := (ofGate_nI g 3).trans (congrArg nI (by omega))
theorem c_wordAt {w : Mem} {k i : Nat} {r : List Nat} (hk : k < 2) (h : rowAt (w 39) (12 * k) r) (hr : r.length ≤ 12) (hi : i < r.length) : fX4_wordAt w (nI k) (nI i) = nI (r.getD i 0) := by
  unfold fX4_wordAt lt
  try dsimp only
  rw [pl_nI, cget_nI (by omega)]
  exact h i _ (getD_some hi)
theorem c_hasPassed {w : Mem} {v : Nat} (hv : v < 12) : fX4_hasPassed w (nI v) = if w 33 v = -1006 then 0 else 1 := by
  unfold fX4_hasPassed lt
  rw [cget_nI hv]
theorem getD_mem {r : List Nat} {i : Nat} (hi : i < r.length) : r.getD i 0 ∈ r := by
  rw [List.getD_eq_getElem?_getD, List.getElem?_eq_getElem hi]
  exact List.getElem_mem hi
theorem r_sumOf {S : Mem} {k : Nat} (hk : k < 2) {r : List Nat} (h : rowS (S 1) k r) (a2 : Int32) (f : Nat → Int32) (hf : ∀ i, i < r.length → (a2 = 6 ∧ f i = 1) ∨ (¬ a2 = 6 ∧ a2 = 7 ∧ qX7_lettersOf S (nI (r.getD i 0)) = some (f i)) ∨ (¬ a2 = 6 ∧ ¬ a2 = 7 ∧ ∃ o, qX7_hasPassed S (nI (r.getD i 0)) = some o ∧ f i = if o = 0 then 1 else 0)) : qX7_sumOf S (nI k) a2 = some (csum r.length f) := by
  obtain ⟨h1, h2, h3⟩ := h
  have hl : it (lbX7_sumOf_5 S (nI k) a2) fuel ((0 : Int32), (0 : Int32)) = some (csum r.length f, nI r.length) := by
    refine it_for (fun i => (csum i f, nI i)) r.length (fun i hi => ?_) ?_ fuel (fuel_lt (by omega))
    · unfold lbX7_sumOf_5 lt
      try dsimp only
      rw [n45, gd_nI (by omega), nI_clamp (n := 45 + k) (by omega), h2, if_neg (nI_ge hi (by omega)), inRow_nI, gd_nI (by omega), nI_clamp (n := 47 + 12 * k + i) (by omega), h3 i _ (getD_some hi), nI_1]
      show _ = some (Sum.inl (csum i f + f i, nI (i + 1)))
      rcases hf i hi with ⟨e, e1⟩ | ⟨e, e1, e2⟩ | ⟨e, e1, o, e2, e3⟩
      · rw [if_pos e, e1]
      · rw [if_neg e, if_pos e1, e2, Option.bind_some]
      · rw [if_neg e, if_neg e1, e2, Option.bind_some, e3]
        by_cases c : o = 0
        · rw [if_pos c, if_pos c]
        · rw [if_neg c, if_neg c]
    · unfold lbX7_sumOf_5
      try dsimp only
      rw [n45, gd_nI (by omega), nI_clamp (n := 45 + k) (by omega), h2, if_pos (nI_le (Nat.le_refl _) (by omega))]
  unfold qX7_sumOf
  rw [hl, Option.bind_some]
theorem csum_1 : ∀ n : Nat, csum n (fun _ => 1) = nI n
  | 0 => rfl
  | n + 1 => by
    show csum n (fun _ => 1) + 1 = _
    rw [csum_1 n, nI_1]
theorem sim_store {V S : Mem} (h : RR V S) (a1 a2 : Int32) : qX7_store S a1 a2 = some (fX6_store V a1 a2) := by
  obtain ⟨⟨n, t, r, q, d, L, ht, pT, pG, pH, pD, pC, pRc, pRs, pL, pP, pX, pK, pN, pZ⟩, -⟩ := h
  unfold qX7_store fX6_store lt
  try dsimp only
  rcases store_cases a1 with ⟨c1, c2⟩ | ⟨k, hk, rfl, c1, c2⟩
  · rw [c1, c2, if_pos rfl, if_pos rfl]
  · rw [c1, c2, if_neg one_no, if_neg one_no]
    obtain ⟨t1, t2, t3, t4, tb⟩ := pT k hk
    obtain ⟨l1, l2, l3⟩ := pRc k hk
    have hlen : (cget 2 (gv V 1 41) (nI k)).toNatClampNeg = (r k).length := by
      rw [cget_nI hk, l2, nI_clamp (by omega)]
    have hn := pX.1
    have lvl0 : qX7_level S (nI k) (S 1 0) = some (fX3_levelAt (gv V 1) (nI k) (V 1 0)) := by
      have e : S 1 0 = V 1 0 := pC.2.1.trans pC.1.symm
      rw [e, c_level (w := gv V 1) hk tb.per, r_level hk (by rw [t3]; exact tb.ne), t1, t2, t3]
    by_cases e0 : a2 = 0
    · subst e0
      rw [if_pos rfl, if_pos rfl, os0]
      try dsimp only
      rw [gd_nI (by omega), nI_clamp (by omega), t1, cget_nI hk]
      rfl
    rw [if_neg e0, if_neg e0]
    by_cases e1 : a2 = 1
    · subst e1
      rw [if_pos rfl, if_pos rfl, os1]
      try dsimp only
      rw [gd_nI (by omega), nI_clamp (by omega), t2, cget_nI hk]
      rfl
    rw [if_neg e1, if_neg e1]
    by_cases e2 : a2 = 2
    · subst e2
      rw [if_pos rfl, if_pos rfl, os2]
      try dsimp only
      rw [gd_nI (by omega), nI_clamp (by omega), t3, cget_nI hk]
      rfl
    rw [if_neg e2, if_neg e2]
    by_cases e3 : a2 = 3
    · subst e3
      rw [if_pos rfl, if_pos rfl, os3]
      try dsimp only
      rw [gd_nI (by omega), nI_clamp (by omega), t4, cget_nI hk]
      rfl
    rw [if_neg e3, if_neg e3]
    by_cases e4 : a2 = 4
    · rw [if_pos e4, if_pos e4, lvl0, Option.bind_some]
    rw [if_neg e4, if_neg e4]
    by_cases e5 : a2 = 5
    · rw [if_pos e5, if_pos e5, lvl0, Option.bind_some, os3]
      try dsimp only
      rw [gd_nI (by omega), nI_clamp (by omega), t4]
      unfold fX3_toldAt lt
      try dsimp only
      rw [cget_nI hk]
    rw [if_neg e5, if_neg e5]
    by_cases e6 : a2 = 6
    · rw [if_pos e6, if_pos e6, r_sumOf hk (pRs k hk) a2 (fun _ => 1) (fun i hi => Or.inl ⟨e6, rfl⟩), Option.bind_some, csum_1]
      refine congrArg some ?_
      rw [cget_nI hk]
      exact l2.symm
    rw [if_neg e6, if_neg e6]
    by_cases e7 : a2 = 7
    · rw [if_pos e7, if_pos e7, r_sumOf hk (pRs k hk) a2 (fun i => nI (L ((r k).getD i 0)).length) (fun i hi => Or.inr (Or.inl ⟨e6, e7, ?_⟩)), Option.bind_some]
      · unfold fX4_lettersInRow
        rw [hlen]
        refine congrArg some (csum_congr _ (fun i hi => ?_))
        rw [c_wordAt hk l3 l1 hi]
        have hv := pX.row_lt hk (getD_mem hi)
        obtain ⟨m1, m2, m3, m4, m5, m6⟩ := pL _ hv
        rw [cget_nI (by omega), m4]
      · have hv := pX.row_lt hk (getD_mem hi)
        obtain ⟨m1, m2, m3, m4, m5, m6⟩ := pL _ hv
        exact r_lettersOf (by omega) m3 m2 m6
    rw [if_neg e7, if_neg e7]
    by_cases e8 : a2 = 8
    · rw [if_pos e8, if_pos e8, r_sumOf hk (pRs k hk) a2 (fun i => if fX4_hasPassed (gv V 1) (fX4_wordAt (gv V 1) (nI k) (nI i)) = 0 then 1 else 0) (fun i hi => Or.inr (Or.inr ⟨e6, e7, ?_⟩)), Option.bind_some]
      · unfold fX4_waitingInRow
        rw [hlen]
      · have hv := pX.row_lt hk (getD_mem hi)
        refine ⟨_, r_hasPassed (by omega), ?_⟩
        rw [c_wordAt hk l3 l1 hi, c_hasPassed (by omega)]
        rcases (pP _ hv).2.2.2 with ⟨x1, x2⟩ | ⟨x1, x2⟩
        · rw [if_pos (show gv V 1 33 ((r k).getD i 0) = -1006 from x1), x2]
          decide
        · rw [if_neg (psd_no x1), x2]
          decide
    rw [if_neg e8, if_neg e8]
theorem sim_at {V S : Mem} (h : RR V S) (a1 a2 : Int32) : qX7_at S a1 a2 = some (fX6_at V a1 a2) := by
  obtain ⟨⟨n, t, r, q, d, L, ht, pT, pG, pH, pD, pC, pRc, pRs, pL, pP, pX, pK, pN, pZ⟩, -⟩ := h
  unfold qX7_at fX6_at lt
  try dsimp only
  rcases store_cases a1 with ⟨c1, c2⟩ | ⟨k, hk, rfl, c1, c2⟩
  · rw [c1, c2, if_pos rfl, if_pos rfl]
  · rw [c1, c2, if_neg one_no, if_neg one_no]
    obtain ⟨l1, l2, l3⟩ := pRc k hk
    obtain ⟨m1, m2, m3⟩ := pRs k hk
    rw [n45, gd_nI (by omega), nI_clamp (n := 45 + k) (by omega), m2, show cget 2 (V 42) (nI k) = nI (r k).length from (cget_nI hk).trans l2, in_same]
    rcases within_cases a2 0 (nI (r k).length - 1) with c | ⟨c, c3, c4⟩
    · rw [c, if_pos rfl, if_pos rfl]
    · rw [c, if_neg one_no, if_neg one_no]
      obtain ⟨j, hj, rfl⟩ := nI_of c3
      have hlt : j < (r k).length := by
        rcases Nat.eq_zero_or_pos (r k).length with z | z
        · rw [z] at c4
          exact absurd c4 (by
            show ¬ nI j ≤ (-1 : Int32)
            rw [Int32.le_iff_toInt_le, nI_toInt hj]
            have : (-1 : Int32).toInt = -1 := by decide
            omega)
        · obtain ⟨m, hm⟩ : ∃ m, (r k).length = m + 1 := ⟨(r k).length - 1, by omega⟩
          rw [hm, nI_pred] at c4
          have := (nI_leI hj (by omega)).mp c4
          omega
      rw [inRow_nI, gd_nI (by omega), nI_clamp (by omega), m3 j _ (getD_some hlt), c_wordAt (w := gv V 1) hk l3 l1 hlt]
