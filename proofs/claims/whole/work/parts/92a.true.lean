/-! the law's run answers 1 -/
theorem L1 (VV V' : Mem) : gv (pv VV 0 430 V') 430 = gv VV 430 := by
  funext j
  exact pvo (by omega)
theorem L2 {VV V' S' : Mem} (h : RR V' S') : RR (gv (pv (pv VV 0 430 V') 430 7 S') 0) (gv (pv (pv VV 0 430 V') 430 7 S') 430) := by
  refine h.congr (fun j hj => ?_) (fun j hj => ?_)
  · show pv (pv VV 0 430 V') 430 7 S' (0 + j) = V' j
    rw [pvo (by omega), pv_at (by omega)]
  · show pv (pv VV 0 430 V') 430 7 S' (430 + j) = S' j
    rw [pv_at hj]
theorem law_in {Ls i : Nat} (hL : Ls ≤ 2560) (hi : i ≤ 2560) : ((Int32.ofNat Ls) - ((5 : Int32)) < nI i) ↔ ¬ i + 5 ≤ Ls := by
  have x5 : (5 : Int32).toInt = 5 := by decide
  have xL : (nI Ls).toInt = Ls := nI_toInt (by omega)
  have h1 : ((nI Ls) - (5 : Int32)).toInt = (nI Ls).toInt - (5 : Int32).toInt := i_sub (by omega) (by omega)
  show (nI Ls - (5 : Int32) < nI i) ↔ _
  rw [Int32.lt_iff_toInt_lt, h1, xL, x5, nI_toInt (by omega)]
  omega
set_option maxHeartbeats 4000000 in
set_option maxRecDepth 20000 in
theorem law_step {Ls i : Nat} {xs : Nat → Int32} {VV : Mem} (hL : Ls ≤ 2560) (hi : i + 5 ≤ Ls) (h : RR (gv VV 0) (gv VV 430)) : ∃ VV', lbL_law_18 Ls xs (nI i, VV) = some (.inl (nI (i + 5), VV')) ∧ RR (gv VV' 0) (gv VV' 430) := by
  have g0 : ¬ ((Int32.ofNat Ls) - ((5 : Int32)) < nI i) := fun q => (law_in hL (by omega)).mp q hi
  have e1 : nI i + (1 : Int32) = nI (i + 1) := nI_add i 1
  have e2 : nI i + (2 : Int32) = nI (i + 2) := nI_add i 2
  have e3 : nI i + (3 : Int32) = nI (i + 3) := nI_add i 3
  have e4 : nI i + (4 : Int32) = nI (i + 4) := nI_add i 4
  have e5 : nI i + (5 : Int32) = nI (i + 5) := nI_add i 5
  have gd : ∀ k, k < 5 → ¬ (nI (i + k) < 0 ∨ Ls ≤ (nI (i + k)).toNatClampNeg) := fun k hk => nI_in (by omega) (by omega)
  have d0 : ¬ (nI i < 0 ∨ Ls ≤ (nI i).toNatClampNeg) := gd 0 (by decide)
  have d1 : ¬ (nI (i + 1) < 0 ∨ Ls ≤ (nI (i + 1)).toNatClampNeg) := gd 1 (by decide)
  have d2 : ¬ (nI (i + 2) < 0 ∨ Ls ≤ (nI (i + 2)).toNatClampNeg) := gd 2 (by decide)
  have d3 : ¬ (nI (i + 3) < 0 ∨ Ls ≤ (nI (i + 3)).toNatClampNeg) := gd 3 (by decide)
  have d4 : ¬ (nI (i + 4) < 0 ∨ Ls ≤ (nI (i + 4)).toNatClampNeg) := gd 4 (by decide)
  unfold lbL_law_18
  simp only [lt_e, e1, e2, e3, e4, e5, if_neg g0, if_neg d0, if_neg d1, if_neg d2, if_neg d3, if_neg d4]
  generalize xs (nI i).toNatClampNeg &&& (31 : Int32) = w
  generalize xs (nI (i + 1)).toNatClampNeg = x1
  generalize xs (nI (i + 2)).toNatClampNeg = x2
  generalize xs (nI (i + 3)).toNatClampNeg = x3
  generalize xs (nI (i + 4)).toNatClampNeg = x4
  by_cases c0 : w = 0
  · rw [if_pos c0]
    obtain ⟨S', e, h'⟩ := sim_tide h x1 x2 x3 x4
    rw [L1, e, Option.bind_some, if_pos rfl]
    exact ⟨_, rfl, L2 h'⟩
  rw [if_neg c0]
  by_cases c1 : w = 1
  · rw [if_pos c1]
    obtain ⟨S', e, h'⟩ := sim_gauge h x1 x2
    rw [L1, e, Option.bind_some, if_pos rfl]
    exact ⟨_, rfl, L2 h'⟩
  rw [if_neg c1]
  by_cases c2 : w = 2
  · rw [if_pos c2]
    obtain ⟨S', e, h'⟩ := sim_gate h x1 x2 x3 x4
    rw [L1, e, Option.bind_some, if_pos rfl]
    exact ⟨_, rfl, L2 h'⟩
  rw [if_neg c2]
  by_cases c3 : w = 3
  · rw [if_pos c3]
    by_cases z : x2 = 0
    · obtain ⟨S', e, h'⟩ := sim_shut h x1 0 (Or.inl rfl)
      rw [if_pos z, L1, e, Option.bind_some, if_pos rfl]
      exact ⟨_, rfl, L2 h'⟩
    · obtain ⟨S', e, h'⟩ := sim_shut h x1 1 (Or.inr rfl)
      rw [if_neg z, L1, e, Option.bind_some, if_pos rfl]
      exact ⟨_, rfl, L2 h'⟩
  rw [if_neg c3]
  by_cases c4 : w = 4
  · rw [if_pos c4]
    obtain ⟨S', e, h'⟩ := sim_put h x1
    rw [L1, e, Option.bind_some, if_pos rfl]
    exact ⟨_, rfl, L2 h'⟩
  rw [if_neg c4]
  by_cases c5 : w = 5
  · rw [if_pos c5]
    obtain ⟨S', e, h'⟩ := sim_run h x1
    rw [L1, e, Option.bind_some, if_pos rfl]
    exact ⟨_, rfl, L2 h'⟩
  rw [if_neg c5]
  by_cases c6 : w = 6
  · rw [if_pos c6]
    rw [sim_store h x1 x2, Option.bind_some, if_pos rfl]
    exact ⟨VV, rfl, h⟩
  rw [if_neg c6]
  by_cases c7 : w = 7
  · rw [if_pos c7]
    rw [sim_gateOf h x1 x2, Option.bind_some, if_pos rfl]
    exact ⟨VV, rfl, h⟩
  rw [if_neg c7]
  by_cases c8 : w = 8
  · rw [if_pos c8]
    rw [sim_word h x1 x2, Option.bind_some, if_pos rfl]
    exact ⟨VV, rfl, h⟩
  rw [if_neg c8]
  by_cases c9 : w = 9
  · rw [if_pos c9]
    rw [sim_at h x1 x2, Option.bind_some, if_pos rfl]
    exact ⟨VV, rfl, h⟩
  rw [if_neg c9]
  by_cases c10 : w = 10
  · rw [if_pos c10]
    rw [sim_count h x1, Option.bind_some, if_pos rfl]
    exact ⟨VV, rfl, h⟩
  rw [if_neg c10]
  by_cases c11 : w = 11
  · rw [if_pos c11]
    rw [sim_untilOpen h x1, Option.bind_some, if_pos rfl]
    exact ⟨VV, rfl, h⟩
  rw [if_neg c11]
  by_cases c12 : w = 12
  · rw [if_pos c12]
    rw [sim_openFor h x1, Option.bind_some, if_pos rfl]
    exact ⟨VV, rfl, h⟩
  rw [if_neg c12]
  by_cases c13 : w = 13
  · rw [if_pos c13]
    obtain ⟨a, V', S', ea, eb, h'⟩ := sim_untilPassed h x1
    rw [ea, Option.bind_some, L1, eb, Option.bind_some, if_pos rfl]
    exact ⟨_, rfl, L2 h'⟩
  rw [if_neg c13]
  by_cases c14 : w = 14
  · rw [if_pos c14]
    obtain ⟨S', e, h'⟩ := sim_ifRun h x1 x2
    rw [L1, e, Option.bind_some, if_pos rfl]
    exact ⟨_, rfl, L2 h'⟩
  rw [if_neg c14]
  by_cases c15 : w = 15
  · rw [if_pos c15]
    obtain ⟨a, V', S', ea, eb, h'⟩ := sim_leastSlack h x1 x2
    rw [ea, Option.bind_some, L1, eb, Option.bind_some, if_pos rfl]
    exact ⟨_, rfl, L2 h'⟩
  rw [if_neg c15]
  by_cases c16 : w = 16
  · rw [if_pos c16]
    obtain ⟨a, V', S', ea, eb, h'⟩ := sim_bestLie h x1 x2
    rw [ea, Option.bind_some, L1, eb, Option.bind_some, if_pos rfl]
    exact ⟨_, rfl, L2 h'⟩
  rw [if_neg c16]
  by_cases c17 : w = 17
  · rw [if_pos c17]
    generalize x1.toInt64 <<< ((32 : Int32).toInt64 &&& 63) ||| x2.toInt64 &&& (4294967295 : Int64) = A
    obtain ⟨a, V', S', ea, eb, h'⟩ := sim_write h A
    rw [ea, Option.bind_some, L1, eb, Option.bind_some, if_pos rfl]
    exact ⟨_, rfl, L2 h'⟩
  rw [if_neg c17]
  by_cases c18 : w = 18
  · rw [if_pos c18]
    obtain ⟨e, h'⟩ := sim_wipe h
    rw [L1, if_pos e]
    exact ⟨_, rfl, L2 h'⟩
  rw [if_neg c18]
  by_cases c19 : w = 19
  · rw [if_pos c19]
    rw [sim_fault h , Option.bind_some, if_pos rfl]
    exact ⟨VV, rfl, h⟩
  rw [if_neg c19]
  by_cases c20 : w = 20
  · rw [if_pos c20]
    obtain ⟨a, V', S', ea, eb, h'⟩ := sim_undo h 
    rw [ea, Option.bind_some, L1, eb, Option.bind_some, if_pos rfl]
    exact ⟨_, rfl, L2 h'⟩
  rw [if_neg c20]
  by_cases c21 : w = 21
  · rw [if_pos c21]
    obtain ⟨S', e, h'⟩ := sim_save h x1
    rw [L1, e, Option.bind_some, if_pos rfl]
    exact ⟨_, rfl, L2 h'⟩
  rw [if_neg c21]
  by_cases c22 : w = 22
  · rw [if_pos c22]
    obtain ⟨a, V', S', ea, eb, h'⟩ := sim_restore h x1
    rw [ea, Option.bind_some, L1, eb, Option.bind_some, if_pos rfl]
    exact ⟨_, rfl, L2 h'⟩
  rw [if_neg c22]
  exact ⟨VV, rfl, h⟩
theorem law_run {Ls : Nat} {xs : Nat → Int32} (hL : Ls ≤ 2560) : ∀ (N i f : Nat) (VV : Mem), Ls - i ≤ N → i ≤ Ls → N < f → RR (gv VV 0) (gv VV 430) → ∃ s, it (lbL_law_18 Ls xs) f (nI i, VV) = some (.inr s) := by
  intro N
  induction N with
  | zero =>
    intro i f VV hN hi hf h
    obtain ⟨f, rfl⟩ : ∃ g, f = g + 1 := ⟨f - 1, by omega⟩
    have g0 : (Int32.ofNat Ls) - ((5 : Int32)) < nI i := (law_in hL (by omega)).mpr (by omega)
    refine ⟨(nI i, VV), it_o ?_⟩
    unfold lbL_law_18
    exact if_pos g0
  | succ N ih =>
    intro i f VV hN hi hf h
    obtain ⟨f, rfl⟩ : ∃ g, f = g + 1 := ⟨f - 1, by omega⟩
    by_cases c : i + 5 ≤ Ls
    · obtain ⟨VV', e, h'⟩ := law_step (xs := xs) hL c h
      rw [it_s e]
      exact ih (i + 5) f VV' (by omega) c (by omega) h'
    · have g0 : (Int32.ofNat Ls) - ((5 : Int32)) < nI i := (law_in hL (by omega)).mpr c
      refine ⟨(nI i, VV), it_o ?_⟩
      unfold lbL_law_18
      exact if_pos g0
def memI : Mem := pv (pv zM 0 430 wX6_init) 430 7 wX7_init
theorem law_true (Ls : Nat) (xs : Nat → Int32) (hL : Ls ≤ 2560) : qL_law Ls xs memI = some 1 := by
  obtain ⟨s, e⟩ := law_run (Ls := Ls) (xs := xs) hL Ls 0 fuel memI (by omega) (by omega) (fuel_lt (by omega)) (L2 RR.init)
  unfold qL_law
  rw [show it (lbL_law_18 Ls xs) fuel ((0 : Int32), memI) = some (.inr s) from e, Option.bind_some]
  rfl
