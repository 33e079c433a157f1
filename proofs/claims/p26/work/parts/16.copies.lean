theorem RP.agree {X : kX} {L : List Kd} {b n : Nat} {V V2 : Mem} {H : Heap} (h : RP X L b V H) (hag : ∀ j, 1 ≤ j → j < n → V j = V2 j) (h0 : ∀ k, L[0]? = some k → ∀ a, kE X k a (V 0) = kE X k a (V2 0)) (hn : L.length = n := by rfl) : RP X L b V2 H := by
  intro j k hj
  have h1 := h j k hj
  rcases Nat.eq_zero_or_pos j with rfl | hp
  · rw [h0 k hj] at h1
    exact h1
  · have hl := (List.getElem?_eq_some_iff.mp hj).1
    rw [hag j hp (by omega)] at h1
    exact h1
theorem ag_pv {V V2 : Mem} {k n : Nat} (h : ∀ j, 1 ≤ j → j < k → V j = V2 j) : ∀ j, 1 ≤ j → j < k + n → pv V k n (gv V2 k) j = V2 j := by
  intro j h1 h2
  unfold pv gv
  by_cases c : k ≤ j ∧ j < k + n
  · rw [if_pos c, show k + (j - k) = j by omega]
  · rw [if_neg c]
    exact h j h1 (by omega)
theorem ag_sv0 {V V2 : Mem} {n i : Nat} {x : Int32} (h : ∀ j, 1 ≤ j → j < n → V j = V2 j) : ∀ j, 1 ≤ j → j < n → sv V 0 i x j = V2 j := by
  intro j h1 h2
  rw [← h j h1 h2]
  funext q
  unfold sv
  rw [if_neg (fun z => by omega)]

set_option maxRecDepth 20000 in
theorem iwX3_copyFrom_X3 : ∀ w ∈ wsX30, w ∈ wsX3_copyFrom := by decide +kernel
set_option maxRecDepth 20000 in
theorem lkX3_copyFrom_0 : Cond.fieldLink RX3 14 "TideWords$Tides" "means" "LTideWords$Cells;" ∈ wsX3_copyFrom := by decide +kernel
theorem hvX0_copyFrom : yX0_copyFrom.cls = RX0 ∧ yX0_copyFrom.cls ≠ "java/lang/invoke/MethodHandle" ∧ yX0_copyFrom.cls ≠ "java/lang/invoke/VarHandle" ∧ (parseMethodDescriptor yX0_copyFrom.desc).map (fun d => d.parameters.length) = some 1 := by decide +kernel
set_option maxRecDepth 20000 in
theorem lkX3_copyFrom_1 : Cond.fieldLink RX3 20 "TideWords$Tides" "swings" "LTideWords$Cells;" ∈ wsX3_copyFrom := by decide +kernel
set_option maxRecDepth 20000 in
theorem lkX3_copyFrom_2 : Cond.fieldLink RX3 23 "TideWords$Tides" "periods" "LTideWords$Cells;" ∈ wsX3_copyFrom := by decide +kernel
set_option maxRecDepth 20000 in
theorem lkX3_copyFrom_3 : Cond.fieldLink RX3 26 "TideWords$Tides" "lies" "LTideWords$Cells;" ∈ wsX3_copyFrom := by decide +kernel
set_option maxRecDepth 20000 in
theorem sb_LT_7_LC2 : sbL LT 7 (LC 2) := sbl_of rfl
abbrev rmX3_copyFrom : Room := { frames := 2, cells := 0, slots := 0, locals := 81 }
set_option maxHeartbeats 4000000 in
set_option maxRecDepth 100000 in
theorem mX3_copyFrom (l : Launch) (X : kX) (b b2 : Nat) (V V2 : Mem) (hdj : b + 9 ≤ b2 ∨ b2 + 9 ≤ b) : MW l yX3_copyFrom wsX3_copyFrom rmX3_copyFrom X [.ref b, .ref b2] (fun H => RP X LT b V H ∧ RP X LT b2 V2 H) none b (b + LT.length) (RP X LT b V2) := by
  refine mt_head (cc := cX3_copyFrom) (maxL := 2) (ret := none) (own := RX3) (by decide) rfl rfl (Nat.le_of_ble_eq_true rfl) ?_
  intro p e s m below meth c ls F hr hlocks hnm hR hl
  have hx := F.1.1
  have hb := F.1.2.1
  obtain ⟨hR, hR2⟩ := hR
  have hH : Hp (t_fr b (b + LT.length)) s.heap s.heap.size X LT b V s.heap [] := ⟨hR, va_S.rf, rfl⟩
  have hl : lv_has ls 2 [(0, .ref b), (1, .ref b2)] := hl
  have hag : ∀ j, 1 ≤ j → j < 1 → V j = V2 j := fun j h1 h2 => by omega
  refine lv_aload_n hx hb dX3_copyFrom_0 rfl (lv_at hl 1 rfl) ?_
  refine lv_ifnull hx hb dX3_copyFrom_1 ?_
  refine lv_aload_n hx hb dX3_copyFrom_4 rfl (lv_at hl 0 rfl) ?_
  refine rg_getr F hH.1 0 (ci := 3) rfl (C := RX3) (T := TX3) (N := 4) rfl iwX3_copyFrom_X3 0 (d := 1) (n := 1) rfl rfl (by decide) rfl lkX3_copyFrom_0 rfl dX3_copyFrom_5 ?_
  refine lv_aload_n hx hb dX3_copyFrom_8 rfl (lv_at hl 1 rfl) ?_
  refine rg_getr F hR2 0 (ci := 3) rfl (C := RX3) (T := TX3) (N := 4) rfl iwX3_copyFrom_X3 0 (d := 1) (n := 1) rfl rfl (by decide) rfl lkX3_copyFrom_0 rfl dX3_copyFrom_9 ?_
  refine rg_callWV (As := [.ref (b2 + 1)]) (rest := []) F hH (fun q h1 h2 => ⟨h1, h2⟩) 1 sb_LT_1_LC2 (mX0_copyFrom l X 2 (by decide) (b + 1) (b2 + 1) _ _ (by omega)) (cwV 1 F.1.2.2.2.2 gX3_copyFrom_X0_copyFrom rfl rfl rfl hvX0_copyFrom ⟨Nat.le_of_ble_eq_true rfl, Nat.le_of_ble_eq_true rfl⟩) (rp_recv F hH.1 1 rfl (C := RX0) (T := TX0) (N := 1) rfl rfl) ⟨hH.1.sub 1 sb_LT_1_LC2, hR2.sub 1 sb_LT_1_LC2⟩ rfl hl.1 (Nat.le_of_ble_eq_true rfl) dX3_copyFrom_12 ⟨Nat.zero_le _, Nat.zero_le _⟩ rfl rfl (fun H locs hH hfr => ?_)
  replace hR2 := hR2.kept (fun q h1 h2 => hfr q (by
    have h3 : q < b2 + 9 := h2
    show q < b + 1 ∨ b + 1 + 2 ≤ q
    omega))
  replace hag := ag_pv (n := 2) hag
  refine lv_aload_n hx hb dX3_copyFrom_15 rfl (lv_at hl 0 rfl) ?_
  refine rg_getr F hH.1 0 (ci := 3) rfl (C := RX3) (T := TX3) (N := 4) rfl iwX3_copyFrom_X3 1 (d := 3) (n := 3) rfl rfl (by decide) rfl lkX3_copyFrom_1 rfl dX3_copyFrom_16 ?_
  refine lv_aload_n hx hb dX3_copyFrom_19 rfl (lv_at hl 1 rfl) ?_
  refine rg_getr F hR2 0 (ci := 3) rfl (C := RX3) (T := TX3) (N := 4) rfl iwX3_copyFrom_X3 1 (d := 3) (n := 3) rfl rfl (by decide) rfl lkX3_copyFrom_1 rfl dX3_copyFrom_20 ?_
  refine rg_callWV (As := [.ref (b2 + 3)]) (rest := []) F hH (fun q h1 h2 => ⟨h1, h2⟩) 3 sb_LT_3_LC2 (mX0_copyFrom l X 2 (by decide) (b + 3) (b2 + 3) _ _ (by omega)) (cwV 1 F.1.2.2.2.2 gX3_copyFrom_X0_copyFrom rfl rfl rfl hvX0_copyFrom ⟨Nat.le_of_ble_eq_true rfl, Nat.le_of_ble_eq_true rfl⟩) (rp_recv F hH.1 3 rfl (C := RX0) (T := TX0) (N := 1) rfl rfl) ⟨hH.1.sub 3 sb_LT_3_LC2, hR2.sub 3 sb_LT_3_LC2⟩ rfl hl.1 (Nat.le_of_ble_eq_true rfl) dX3_copyFrom_23 ⟨Nat.zero_le _, Nat.zero_le _⟩ rfl rfl (fun H locs hH hfr => ?_)
  replace hR2 := hR2.kept (fun q h1 h2 => hfr q (by
    have h3 : q < b2 + 9 := h2
    show q < b + 3 ∨ b + 3 + 2 ≤ q
    omega))
  replace hag := ag_pv (n := 2) hag
  refine lv_aload_n hx hb dX3_copyFrom_26 rfl (lv_at hl 0 rfl) ?_
  refine rg_getr F hH.1 0 (ci := 3) rfl (C := RX3) (T := TX3) (N := 4) rfl iwX3_copyFrom_X3 2 (d := 5) (n := 5) rfl rfl (by decide) rfl lkX3_copyFrom_2 rfl dX3_copyFrom_27 ?_
  refine lv_aload_n hx hb dX3_copyFrom_30 rfl (lv_at hl 1 rfl) ?_
  refine rg_getr F hR2 0 (ci := 3) rfl (C := RX3) (T := TX3) (N := 4) rfl iwX3_copyFrom_X3 2 (d := 5) (n := 5) rfl rfl (by decide) rfl lkX3_copyFrom_2 rfl dX3_copyFrom_31 ?_
  refine rg_callWV (As := [.ref (b2 + 5)]) (rest := []) F hH (fun q h1 h2 => ⟨h1, h2⟩) 5 sb_LT_5_LC2 (mX0_copyFrom l X 2 (by decide) (b + 5) (b2 + 5) _ _ (by omega)) (cwV 1 F.1.2.2.2.2 gX3_copyFrom_X0_copyFrom rfl rfl rfl hvX0_copyFrom ⟨Nat.le_of_ble_eq_true rfl, Nat.le_of_ble_eq_true rfl⟩) (rp_recv F hH.1 5 rfl (C := RX0) (T := TX0) (N := 1) rfl rfl) ⟨hH.1.sub 5 sb_LT_5_LC2, hR2.sub 5 sb_LT_5_LC2⟩ rfl hl.1 (Nat.le_of_ble_eq_true rfl) dX3_copyFrom_34 ⟨Nat.zero_le _, Nat.zero_le _⟩ rfl rfl (fun H locs hH hfr => ?_)
  replace hR2 := hR2.kept (fun q h1 h2 => hfr q (by
    have h3 : q < b2 + 9 := h2
    show q < b + 5 ∨ b + 5 + 2 ≤ q
    omega))
  replace hag := ag_pv (n := 2) hag
  refine lv_aload_n hx hb dX3_copyFrom_37 rfl (lv_at hl 0 rfl) ?_
  refine rg_getr F hH.1 0 (ci := 3) rfl (C := RX3) (T := TX3) (N := 4) rfl iwX3_copyFrom_X3 3 (d := 7) (n := 7) rfl rfl (by decide) rfl lkX3_copyFrom_3 rfl dX3_copyFrom_38 ?_
  refine lv_aload_n hx hb dX3_copyFrom_41 rfl (lv_at hl 1 rfl) ?_
  refine rg_getr F hR2 0 (ci := 3) rfl (C := RX3) (T := TX3) (N := 4) rfl iwX3_copyFrom_X3 3 (d := 7) (n := 7) rfl rfl (by decide) rfl lkX3_copyFrom_3 rfl dX3_copyFrom_42 ?_
  refine rg_callWV (As := [.ref (b2 + 7)]) (rest := []) F hH (fun q h1 h2 => ⟨h1, h2⟩) 7 sb_LT_7_LC2 (mX0_copyFrom l X 2 (by decide) (b + 7) (b2 + 7) _ _ (by omega)) (cwV 1 F.1.2.2.2.2 gX3_copyFrom_X0_copyFrom rfl rfl rfl hvX0_copyFrom ⟨Nat.le_of_ble_eq_true rfl, Nat.le_of_ble_eq_true rfl⟩) (rp_recv F hH.1 7 rfl (C := RX0) (T := TX0) (N := 1) rfl rfl) ⟨hH.1.sub 7 sb_LT_7_LC2, hR2.sub 7 sb_LT_7_LC2⟩ rfl hl.1 (Nat.le_of_ble_eq_true rfl) dX3_copyFrom_45 ⟨Nat.zero_le _, Nat.zero_le _⟩ rfl rfl (fun H locs hH hfr => ?_)
  replace hR2 := hR2.kept (fun q h1 h2 => hfr q (by
    have h3 : q < b2 + 9 := h2
    show q < b + 7 ∨ b + 7 + 2 ≤ q
    omega))
  replace hag := ag_pv (n := 2) hag
  exact W.vret hx hb hr (fun t ht _ => mw_post ⟨RP.agree hH.1 hag (fun k hk a => by cases hk; rfl), hH.2⟩ ht) hH.2.1.2.2 dX3_copyFrom_48
set_option maxRecDepth 20000 in
theorem iwX1_copyFrom_X1 : ∀ w ∈ wsX10, w ∈ wsX1_copyFrom := by decide +kernel
set_option maxRecDepth 20000 in
theorem lkX1_copyFrom_0 : Cond.fieldLink RX1 14 "TideWords$Gates" "sides" "LTideWords$Cells;" ∈ wsX1_copyFrom := by decide +kernel
set_option maxRecDepth 20000 in
theorem lkX1_copyFrom_1 : Cond.fieldLink RX1 20 "TideWords$Gates" "slacks" "LTideWords$Cells;" ∈ wsX1_copyFrom := by decide +kernel
set_option maxRecDepth 20000 in
theorem lkX1_copyFrom_2 : Cond.fieldLink RX1 23 "TideWords$Gates" "ways" "LTideWords$Cells;" ∈ wsX1_copyFrom := by decide +kernel
set_option maxRecDepth 20000 in
theorem lkX1_copyFrom_3 : Cond.fieldLink RX1 26 "TideWords$Gates" "shuts" "LTideWords$Cells;" ∈ wsX1_copyFrom := by decide +kernel
set_option maxRecDepth 20000 in
theorem sb_LG_7_LC4 : sbL LG 7 (LC 4) := sbl_of rfl
set_option maxRecDepth 20000 in
theorem lkX1_copyFrom_4 : Cond.fieldLink RX1 29 "TideWords$Gates" "held" "LTideWords$Cells;" ∈ wsX1_copyFrom := by decide +kernel
set_option maxRecDepth 20000 in
theorem sb_LG_9_LC4 : sbL LG 9 (LC 4) := sbl_of rfl
set_option maxRecDepth 20000 in
theorem lkX1_copyFrom_5 : Cond.fieldLink RX1 32 "TideWords$Gates" "lettersDone" "LTideWords$Cells;" ∈ wsX1_copyFrom := by decide +kernel
set_option maxRecDepth 20000 in
theorem sb_LG_11_LC4 : sbL LG 11 (LC 4) := sbl_of rfl
set_option maxRecDepth 20000 in
theorem lkX1_copyFrom_6 : Cond.fieldLink RX1 35 "TideWords$Gates" "passedWords" "LTideWords$Cells;" ∈ wsX1_copyFrom := by decide +kernel
set_option maxRecDepth 20000 in
theorem sb_LG_13_LC4 : sbL LG 13 (LC 4) := sbl_of rfl
set_option maxRecDepth 20000 in
theorem lkX1_copyFrom_7 : Cond.fieldLink RX1 38 "TideWords$Gates" "vainLetters" "LTideWords$Cells;" ∈ wsX1_copyFrom := by decide +kernel
set_option maxRecDepth 20000 in
theorem sb_LG_15_LC4 : sbL LG 15 (LC 4) := sbl_of rfl
abbrev rmX1_copyFrom : Room := { frames := 2, cells := 0, slots := 0, locals := 81 }
set_option maxHeartbeats 4000000 in
set_option maxRecDepth 100000 in
theorem mX1_copyFrom (l : Launch) (X : kX) (b b2 : Nat) (V V2 : Mem) (hdj : b + 17 ≤ b2 ∨ b2 + 17 ≤ b) : MW l yX1_copyFrom wsX1_copyFrom rmX1_copyFrom X [.ref b, .ref b2] (fun H => RP X LG b V H ∧ RP X LG b2 V2 H) none b (b + LG.length) (RP X LG b V2) := by
  refine mt_head (cc := cX1_copyFrom) (maxL := 2) (ret := none) (own := RX1) (by decide) rfl rfl (Nat.le_of_ble_eq_true rfl) ?_
  intro p e s m below meth c ls F hr hlocks hnm hR hl
  have hx := F.1.1
  have hb := F.1.2.1
  obtain ⟨hR, hR2⟩ := hR
  have hH : Hp (t_fr b (b + LG.length)) s.heap s.heap.size X LG b V s.heap [] := ⟨hR, va_S.rf, rfl⟩
  have hl : lv_has ls 2 [(0, .ref b), (1, .ref b2)] := hl
  have hag : ∀ j, 1 ≤ j → j < 1 → V j = V2 j := fun j h1 h2 => by omega
  refine lv_aload_n hx hb dX1_copyFrom_0 rfl (lv_at hl 1 rfl) ?_
  refine lv_ifnull hx hb dX1_copyFrom_1 ?_
  refine lv_aload_n hx hb dX1_copyFrom_4 rfl (lv_at hl 0 rfl) ?_
  refine rg_getr F hH.1 0 (ci := 1) rfl (C := RX1) (T := TX1) (N := 8) rfl iwX1_copyFrom_X1 0 (d := 1) (n := 1) rfl rfl (by decide) rfl lkX1_copyFrom_0 rfl dX1_copyFrom_5 ?_
  refine lv_aload_n hx hb dX1_copyFrom_8 rfl (lv_at hl 1 rfl) ?_
  refine rg_getr F hR2 0 (ci := 1) rfl (C := RX1) (T := TX1) (N := 8) rfl iwX1_copyFrom_X1 0 (d := 1) (n := 1) rfl rfl (by decide) rfl lkX1_copyFrom_0 rfl dX1_copyFrom_9 ?_
  refine rg_callWV (As := [.ref (b2 + 1)]) (rest := []) F hH (fun q h1 h2 => ⟨h1, h2⟩) 1 sb_LG_1_LC4 (mX0_copyFrom l X 4 (by decide) (b + 1) (b2 + 1) _ _ (by omega)) (cwV 1 F.1.2.2.2.2 gX1_copyFrom_X0_copyFrom rfl rfl rfl hvX0_copyFrom ⟨Nat.le_of_ble_eq_true rfl, Nat.le_of_ble_eq_true rfl⟩) (rp_recv F hH.1 1 rfl (C := RX0) (T := TX0) (N := 1) rfl rfl) ⟨hH.1.sub 1 sb_LG_1_LC4, hR2.sub 1 sb_LG_1_LC4⟩ rfl hl.1 (Nat.le_of_ble_eq_true rfl) dX1_copyFrom_12 ⟨Nat.zero_le _, Nat.zero_le _⟩ rfl rfl (fun H locs hH hfr => ?_)
  replace hR2 := hR2.kept (fun q h1 h2 => hfr q (by
    have h3 : q < b2 + 17 := h2
    show q < b + 1 ∨ b + 1 + 2 ≤ q
    omega))
  replace hag := ag_pv (n := 2) hag
  refine lv_aload_n hx hb dX1_copyFrom_15 rfl (lv_at hl 0 rfl) ?_
  refine rg_getr F hH.1 0 (ci := 1) rfl (C := RX1) (T := TX1) (N := 8) rfl iwX1_copyFrom_X1 1 (d := 3) (n := 3) rfl rfl (by decide) rfl lkX1_copyFrom_1 rfl dX1_copyFrom_16 ?_
  refine lv_aload_n hx hb dX1_copyFrom_19 rfl (lv_at hl 1 rfl) ?_
  refine rg_getr F hR2 0 (ci := 1) rfl (C := RX1) (T := TX1) (N := 8) rfl iwX1_copyFrom_X1 1 (d := 3) (n := 3) rfl rfl (by decide) rfl lkX1_copyFrom_1 rfl dX1_copyFrom_20 ?_
  refine rg_callWV (As := [.ref (b2 + 3)]) (rest := []) F hH (fun q h1 h2 => ⟨h1, h2⟩) 3 sb_LG_3_LC4 (mX0_copyFrom l X 4 (by decide) (b + 3) (b2 + 3) _ _ (by omega)) (cwV 1 F.1.2.2.2.2 gX1_copyFrom_X0_copyFrom rfl rfl rfl hvX0_copyFrom ⟨Nat.le_of_ble_eq_true rfl, Nat.le_of_ble_eq_true rfl⟩) (rp_recv F hH.1 3 rfl (C := RX0) (T := TX0) (N := 1) rfl rfl) ⟨hH.1.sub 3 sb_LG_3_LC4, hR2.sub 3 sb_LG_3_LC4⟩ rfl hl.1 (Nat.le_of_ble_eq_true rfl) dX1_copyFrom_23 ⟨Nat.zero_le _, Nat.zero_le _⟩ rfl rfl (fun H locs hH hfr => ?_)
  replace hR2 := hR2.kept (fun q h1 h2 => hfr q (by
    have h3 : q < b2 + 17 := h2
    show q < b + 3 ∨ b + 3 + 2 ≤ q
    omega))
  replace hag := ag_pv (n := 2) hag
  refine lv_aload_n hx hb dX1_copyFrom_26 rfl (lv_at hl 0 rfl) ?_
  refine rg_getr F hH.1 0 (ci := 1) rfl (C := RX1) (T := TX1) (N := 8) rfl iwX1_copyFrom_X1 2 (d := 5) (n := 5) rfl rfl (by decide) rfl lkX1_copyFrom_2 rfl dX1_copyFrom_27 ?_
  refine lv_aload_n hx hb dX1_copyFrom_30 rfl (lv_at hl 1 rfl) ?_
  refine rg_getr F hR2 0 (ci := 1) rfl (C := RX1) (T := TX1) (N := 8) rfl iwX1_copyFrom_X1 2 (d := 5) (n := 5) rfl rfl (by decide) rfl lkX1_copyFrom_2 rfl dX1_copyFrom_31 ?_
  refine rg_callWV (As := [.ref (b2 + 5)]) (rest := []) F hH (fun q h1 h2 => ⟨h1, h2⟩) 5 sb_LG_5_LC4 (mX0_copyFrom l X 4 (by decide) (b + 5) (b2 + 5) _ _ (by omega)) (cwV 1 F.1.2.2.2.2 gX1_copyFrom_X0_copyFrom rfl rfl rfl hvX0_copyFrom ⟨Nat.le_of_ble_eq_true rfl, Nat.le_of_ble_eq_true rfl⟩) (rp_recv F hH.1 5 rfl (C := RX0) (T := TX0) (N := 1) rfl rfl) ⟨hH.1.sub 5 sb_LG_5_LC4, hR2.sub 5 sb_LG_5_LC4⟩ rfl hl.1 (Nat.le_of_ble_eq_true rfl) dX1_copyFrom_34 ⟨Nat.zero_le _, Nat.zero_le _⟩ rfl rfl (fun H locs hH hfr => ?_)
  replace hR2 := hR2.kept (fun q h1 h2 => hfr q (by
    have h3 : q < b2 + 17 := h2
    show q < b + 5 ∨ b + 5 + 2 ≤ q
    omega))
  replace hag := ag_pv (n := 2) hag
  refine lv_aload_n hx hb dX1_copyFrom_37 rfl (lv_at hl 0 rfl) ?_
  refine rg_getr F hH.1 0 (ci := 1) rfl (C := RX1) (T := TX1) (N := 8) rfl iwX1_copyFrom_X1 3 (d := 7) (n := 7) rfl rfl (by decide) rfl lkX1_copyFrom_3 rfl dX1_copyFrom_38 ?_
  refine lv_aload_n hx hb dX1_copyFrom_41 rfl (lv_at hl 1 rfl) ?_
  refine rg_getr F hR2 0 (ci := 1) rfl (C := RX1) (T := TX1) (N := 8) rfl iwX1_copyFrom_X1 3 (d := 7) (n := 7) rfl rfl (by decide) rfl lkX1_copyFrom_3 rfl dX1_copyFrom_42 ?_
  refine rg_callWV (As := [.ref (b2 + 7)]) (rest := []) F hH (fun q h1 h2 => ⟨h1, h2⟩) 7 sb_LG_7_LC4 (mX0_copyFrom l X 4 (by decide) (b + 7) (b2 + 7) _ _ (by omega)) (cwV 1 F.1.2.2.2.2 gX1_copyFrom_X0_copyFrom rfl rfl rfl hvX0_copyFrom ⟨Nat.le_of_ble_eq_true rfl, Nat.le_of_ble_eq_true rfl⟩) (rp_recv F hH.1 7 rfl (C := RX0) (T := TX0) (N := 1) rfl rfl) ⟨hH.1.sub 7 sb_LG_7_LC4, hR2.sub 7 sb_LG_7_LC4⟩ rfl hl.1 (Nat.le_of_ble_eq_true rfl) dX1_copyFrom_45 ⟨Nat.zero_le _, Nat.zero_le _⟩ rfl rfl (fun H locs hH hfr => ?_)
  replace hR2 := hR2.kept (fun q h1 h2 => hfr q (by
    have h3 : q < b2 + 17 := h2
    show q < b + 7 ∨ b + 7 + 2 ≤ q
    omega))
  replace hag := ag_pv (n := 2) hag
  refine lv_aload_n hx hb dX1_copyFrom_48 rfl (lv_at hl 0 rfl) ?_
  refine rg_getr F hH.1 0 (ci := 1) rfl (C := RX1) (T := TX1) (N := 8) rfl iwX1_copyFrom_X1 4 (d := 9) (n := 9) rfl rfl (by decide) rfl lkX1_copyFrom_4 rfl dX1_copyFrom_49 ?_
  refine lv_aload_n hx hb dX1_copyFrom_52 rfl (lv_at hl 1 rfl) ?_
  refine rg_getr F hR2 0 (ci := 1) rfl (C := RX1) (T := TX1) (N := 8) rfl iwX1_copyFrom_X1 4 (d := 9) (n := 9) rfl rfl (by decide) rfl lkX1_copyFrom_4 rfl dX1_copyFrom_53 ?_
  refine rg_callWV (As := [.ref (b2 + 9)]) (rest := []) F hH (fun q h1 h2 => ⟨h1, h2⟩) 9 sb_LG_9_LC4 (mX0_copyFrom l X 4 (by decide) (b + 9) (b2 + 9) _ _ (by omega)) (cwV 1 F.1.2.2.2.2 gX1_copyFrom_X0_copyFrom rfl rfl rfl hvX0_copyFrom ⟨Nat.le_of_ble_eq_true rfl, Nat.le_of_ble_eq_true rfl⟩) (rp_recv F hH.1 9 rfl (C := RX0) (T := TX0) (N := 1) rfl rfl) ⟨hH.1.sub 9 sb_LG_9_LC4, hR2.sub 9 sb_LG_9_LC4⟩ rfl hl.1 (Nat.le_of_ble_eq_true rfl) dX1_copyFrom_56 ⟨Nat.zero_le _, Nat.zero_le _⟩ rfl rfl (fun H locs hH hfr => ?_)
  replace hR2 := hR2.kept (fun q h1 h2 => hfr q (by
    have h3 : q < b2 + 17 := h2
    show q < b + 9 ∨ b + 9 + 2 ≤ q
    omega))
  replace hag := ag_pv (n := 2) hag
  refine lv_aload_n hx hb dX1_copyFrom_59 rfl (lv_at hl 0 rfl) ?_
  refine rg_getr F hH.1 0 (ci := 1) rfl (C := RX1) (T := TX1) (N := 8) rfl iwX1_copyFrom_X1 5 (d := 11) (n := 11) rfl rfl (by decide) rfl lkX1_copyFrom_5 rfl dX1_copyFrom_60 ?_
  refine lv_aload_n hx hb dX1_copyFrom_63 rfl (lv_at hl 1 rfl) ?_
  refine rg_getr F hR2 0 (ci := 1) rfl (C := RX1) (T := TX1) (N := 8) rfl iwX1_copyFrom_X1 5 (d := 11) (n := 11) rfl rfl (by decide) rfl lkX1_copyFrom_5 rfl dX1_copyFrom_64 ?_
  refine rg_callWV (As := [.ref (b2 + 11)]) (rest := []) F hH (fun q h1 h2 => ⟨h1, h2⟩) 11 sb_LG_11_LC4 (mX0_copyFrom l X 4 (by decide) (b + 11) (b2 + 11) _ _ (by omega)) (cwV 1 F.1.2.2.2.2 gX1_copyFrom_X0_copyFrom rfl rfl rfl hvX0_copyFrom ⟨Nat.le_of_ble_eq_true rfl, Nat.le_of_ble_eq_true rfl⟩) (rp_recv F hH.1 11 rfl (C := RX0) (T := TX0) (N := 1) rfl rfl) ⟨hH.1.sub 11 sb_LG_11_LC4, hR2.sub 11 sb_LG_11_LC4⟩ rfl hl.1 (Nat.le_of_ble_eq_true rfl) dX1_copyFrom_67 ⟨Nat.zero_le _, Nat.zero_le _⟩ rfl rfl (fun H locs hH hfr => ?_)
  replace hR2 := hR2.kept (fun q h1 h2 => hfr q (by
    have h3 : q < b2 + 17 := h2
    show q < b + 11 ∨ b + 11 + 2 ≤ q
    omega))
  replace hag := ag_pv (n := 2) hag
  refine lv_aload_n hx hb dX1_copyFrom_70 rfl (lv_at hl 0 rfl) ?_
  refine rg_getr F hH.1 0 (ci := 1) rfl (C := RX1) (T := TX1) (N := 8) rfl iwX1_copyFrom_X1 6 (d := 13) (n := 13) rfl rfl (by decide) rfl lkX1_copyFrom_6 rfl dX1_copyFrom_71 ?_
  refine lv_aload_n hx hb dX1_copyFrom_74 rfl (lv_at hl 1 rfl) ?_
  refine rg_getr F hR2 0 (ci := 1) rfl (C := RX1) (T := TX1) (N := 8) rfl iwX1_copyFrom_X1 6 (d := 13) (n := 13) rfl rfl (by decide) rfl lkX1_copyFrom_6 rfl dX1_copyFrom_75 ?_
  refine rg_callWV (As := [.ref (b2 + 13)]) (rest := []) F hH (fun q h1 h2 => ⟨h1, h2⟩) 13 sb_LG_13_LC4 (mX0_copyFrom l X 4 (by decide) (b + 13) (b2 + 13) _ _ (by omega)) (cwV 1 F.1.2.2.2.2 gX1_copyFrom_X0_copyFrom rfl rfl rfl hvX0_copyFrom ⟨Nat.le_of_ble_eq_true rfl, Nat.le_of_ble_eq_true rfl⟩) (rp_recv F hH.1 13 rfl (C := RX0) (T := TX0) (N := 1) rfl rfl) ⟨hH.1.sub 13 sb_LG_13_LC4, hR2.sub 13 sb_LG_13_LC4⟩ rfl hl.1 (Nat.le_of_ble_eq_true rfl) dX1_copyFrom_78 ⟨Nat.zero_le _, Nat.zero_le _⟩ rfl rfl (fun H locs hH hfr => ?_)
  replace hR2 := hR2.kept (fun q h1 h2 => hfr q (by
    have h3 : q < b2 + 17 := h2
    show q < b + 13 ∨ b + 13 + 2 ≤ q
    omega))
  replace hag := ag_pv (n := 2) hag
  refine lv_aload_n hx hb dX1_copyFrom_81 rfl (lv_at hl 0 rfl) ?_
  refine rg_getr F hH.1 0 (ci := 1) rfl (C := RX1) (T := TX1) (N := 8) rfl iwX1_copyFrom_X1 7 (d := 15) (n := 15) rfl rfl (by decide) rfl lkX1_copyFrom_7 rfl dX1_copyFrom_82 ?_
  refine lv_aload_n hx hb dX1_copyFrom_85 rfl (lv_at hl 1 rfl) ?_
  refine rg_getr F hR2 0 (ci := 1) rfl (C := RX1) (T := TX1) (N := 8) rfl iwX1_copyFrom_X1 7 (d := 15) (n := 15) rfl rfl (by decide) rfl lkX1_copyFrom_7 rfl dX1_copyFrom_86 ?_
  refine rg_callWV (As := [.ref (b2 + 15)]) (rest := []) F hH (fun q h1 h2 => ⟨h1, h2⟩) 15 sb_LG_15_LC4 (mX0_copyFrom l X 4 (by decide) (b + 15) (b2 + 15) _ _ (by omega)) (cwV 1 F.1.2.2.2.2 gX1_copyFrom_X0_copyFrom rfl rfl rfl hvX0_copyFrom ⟨Nat.le_of_ble_eq_true rfl, Nat.le_of_ble_eq_true rfl⟩) (rp_recv F hH.1 15 rfl (C := RX0) (T := TX0) (N := 1) rfl rfl) ⟨hH.1.sub 15 sb_LG_15_LC4, hR2.sub 15 sb_LG_15_LC4⟩ rfl hl.1 (Nat.le_of_ble_eq_true rfl) dX1_copyFrom_89 ⟨Nat.zero_le _, Nat.zero_le _⟩ rfl rfl (fun H locs hH hfr => ?_)
  replace hR2 := hR2.kept (fun q h1 h2 => hfr q (by
    have h3 : q < b2 + 17 := h2
    show q < b + 15 ∨ b + 15 + 2 ≤ q
    omega))
  replace hag := ag_pv (n := 2) hag
  exact W.vret hx hb hr (fun t ht _ => mw_post ⟨RP.agree hH.1 hag (fun k hk a => by cases hk; rfl), hH.2⟩ ht) hH.2.1.2.2 dX1_copyFrom_92
set_option maxRecDepth 20000 in
theorem iwX4_copyFrom_X4 : ∀ w ∈ wsX40, w ∈ wsX4_copyFrom := by decide +kernel
set_option maxRecDepth 20000 in
theorem lkX4_copyFrom_0 : Cond.fieldLink RX4 14 "TideWords$Words" "lengths" "LTideWords$Cells;" ∈ wsX4_copyFrom := by decide +kernel
set_option maxRecDepth 20000 in
theorem sb_LWd_1_LC12 : sbL LWd 1 (LC 12) := sbl_of rfl
set_option maxRecDepth 20000 in
theorem lkX4_copyFrom_1 : Cond.fieldLink RX4 20 "TideWords$Words" "letters" "LTideWords$Cells;" ∈ wsX4_copyFrom := by decide +kernel
set_option maxRecDepth 20000 in
theorem sb_LWd_3_LC72 : sbL LWd 3 (LC 72) := sbl_of rfl
set_option maxRecDepth 20000 in
theorem lkX4_copyFrom_2 : Cond.fieldLink RX4 23 "TideWords$Words" "passedSteps" "LTideWords$Cells;" ∈ wsX4_copyFrom := by decide +kernel
set_option maxRecDepth 20000 in
theorem sb_LWd_5_LC12 : sbL LWd 5 (LC 12) := sbl_of rfl
set_option maxRecDepth 20000 in
theorem lkX4_copyFrom_3 : Cond.fieldLink RX4 26 "TideWords$Words" "passedGates" "LTideWords$Cells;" ∈ wsX4_copyFrom := by decide +kernel
set_option maxRecDepth 20000 in
theorem sb_LWd_7_LC12 : sbL LWd 7 (LC 12) := sbl_of rfl
set_option maxRecDepth 20000 in
theorem lkX4_copyFrom_4 : Cond.fieldLink RX4 29 "TideWords$Words" "timesBack" "LTideWords$Cells;" ∈ wsX4_copyFrom := by decide +kernel
set_option maxRecDepth 20000 in
theorem sb_LWd_9_LC12 : sbL LWd 9 (LC 12) := sbl_of rfl
set_option maxRecDepth 20000 in
theorem lkX4_copyFrom_5 : Cond.fieldLink RX4 32 "TideWords$Words" "rows" "LTideWords$Cells;" ∈ wsX4_copyFrom := by decide +kernel
set_option maxRecDepth 20000 in
theorem sb_LWd_11_LC24 : sbL LWd 11 (LC 24) := sbl_of rfl
set_option maxRecDepth 20000 in
theorem lkX4_copyFrom_6 : Cond.fieldLink RX4 35 "TideWords$Words" "rowLengths" "LTideWords$Cells;" ∈ wsX4_copyFrom := by decide +kernel
set_option maxRecDepth 20000 in
theorem sb_LWd_13_LC2 : sbL LWd 13 (LC 2) := sbl_of rfl
set_option maxRecDepth 20000 in
theorem lkX4_copyFrom_7 : Cond.fieldLink RX4 38 "TideWords$Words" "total" "I" ∈ wsX4_copyFrom := by decide +kernel
abbrev rmX4_copyFrom : Room := { frames := 2, cells := 0, slots := 0, locals := 81 }
set_option maxHeartbeats 4000000 in
set_option maxRecDepth 100000 in
theorem mX4_copyFrom (l : Launch) (X : kX) (b b2 : Nat) (V V2 : Mem) (hdj : b + 15 ≤ b2 ∨ b2 + 15 ≤ b) : MW l yX4_copyFrom wsX4_copyFrom rmX4_copyFrom X [.ref b, .ref b2] (fun H => RP X LWd b V H ∧ RP X LWd b2 V2 H) none b (b + LWd.length) (RP X LWd b V2) := by
  refine mt_head (cc := cX4_copyFrom) (maxL := 2) (ret := none) (own := RX4) (by decide) rfl rfl (Nat.le_of_ble_eq_true rfl) ?_
  intro p e s m below meth c ls F hr hlocks hnm hR hl
  have hx := F.1.1
  have hb := F.1.2.1
  obtain ⟨hR, hR2⟩ := hR
  have hH : Hp (t_fr b (b + LWd.length)) s.heap s.heap.size X LWd b V s.heap [] := ⟨hR, va_S.rf, rfl⟩
  have hl : lv_has ls 2 [(0, .ref b), (1, .ref b2)] := hl
  have hag : ∀ j, 1 ≤ j → j < 1 → V j = V2 j := fun j h1 h2 => by omega
  refine lv_aload_n hx hb dX4_copyFrom_0 rfl (lv_at hl 1 rfl) ?_
  refine lv_ifnull hx hb dX4_copyFrom_1 ?_
  refine lv_aload_n hx hb dX4_copyFrom_4 rfl (lv_at hl 0 rfl) ?_
  refine rg_getr F hH.1 0 (ci := 4) rfl (C := RX4) (T := TX4) (N := 8) rfl iwX4_copyFrom_X4 0 (d := 1) (n := 1) rfl rfl (by decide) rfl lkX4_copyFrom_0 rfl dX4_copyFrom_5 ?_
  refine lv_aload_n hx hb dX4_copyFrom_8 rfl (lv_at hl 1 rfl) ?_
  refine rg_getr F hR2 0 (ci := 4) rfl (C := RX4) (T := TX4) (N := 8) rfl iwX4_copyFrom_X4 0 (d := 1) (n := 1) rfl rfl (by decide) rfl lkX4_copyFrom_0 rfl dX4_copyFrom_9 ?_
  refine rg_callWV (As := [.ref (b2 + 1)]) (rest := []) F hH (fun q h1 h2 => ⟨h1, h2⟩) 1 sb_LWd_1_LC12 (mX0_copyFrom l X 12 (by decide) (b + 1) (b2 + 1) _ _ (by omega)) (cwV 1 F.1.2.2.2.2 gX4_copyFrom_X0_copyFrom rfl rfl rfl hvX0_copyFrom ⟨Nat.le_of_ble_eq_true rfl, Nat.le_of_ble_eq_true rfl⟩) (rp_recv F hH.1 1 rfl (C := RX0) (T := TX0) (N := 1) rfl rfl) ⟨hH.1.sub 1 sb_LWd_1_LC12, hR2.sub 1 sb_LWd_1_LC12⟩ rfl hl.1 (Nat.le_of_ble_eq_true rfl) dX4_copyFrom_12 ⟨Nat.zero_le _, Nat.zero_le _⟩ rfl rfl (fun H locs hH hfr => ?_)
  replace hR2 := hR2.kept (fun q h1 h2 => hfr q (by
    have h3 : q < b2 + 15 := h2
    show q < b + 1 ∨ b + 1 + 2 ≤ q
    omega))
  replace hag := ag_pv (n := 2) hag
  refine lv_aload_n hx hb dX4_copyFrom_15 rfl (lv_at hl 0 rfl) ?_
  refine rg_getr F hH.1 0 (ci := 4) rfl (C := RX4) (T := TX4) (N := 8) rfl iwX4_copyFrom_X4 1 (d := 3) (n := 3) rfl rfl (by decide) rfl lkX4_copyFrom_1 rfl dX4_copyFrom_16 ?_
  refine lv_aload_n hx hb dX4_copyFrom_19 rfl (lv_at hl 1 rfl) ?_
  refine rg_getr F hR2 0 (ci := 4) rfl (C := RX4) (T := TX4) (N := 8) rfl iwX4_copyFrom_X4 1 (d := 3) (n := 3) rfl rfl (by decide) rfl lkX4_copyFrom_1 rfl dX4_copyFrom_20 ?_
  refine rg_callWV (As := [.ref (b2 + 3)]) (rest := []) F hH (fun q h1 h2 => ⟨h1, h2⟩) 3 sb_LWd_3_LC72 (mX0_copyFrom l X 72 (by decide) (b + 3) (b2 + 3) _ _ (by omega)) (cwV 1 F.1.2.2.2.2 gX4_copyFrom_X0_copyFrom rfl rfl rfl hvX0_copyFrom ⟨Nat.le_of_ble_eq_true rfl, Nat.le_of_ble_eq_true rfl⟩) (rp_recv F hH.1 3 rfl (C := RX0) (T := TX0) (N := 1) rfl rfl) ⟨hH.1.sub 3 sb_LWd_3_LC72, hR2.sub 3 sb_LWd_3_LC72⟩ rfl hl.1 (Nat.le_of_ble_eq_true rfl) dX4_copyFrom_23 ⟨Nat.zero_le _, Nat.zero_le _⟩ rfl rfl (fun H locs hH hfr => ?_)
  replace hR2 := hR2.kept (fun q h1 h2 => hfr q (by
    have h3 : q < b2 + 15 := h2
    show q < b + 3 ∨ b + 3 + 2 ≤ q
    omega))
  replace hag := ag_pv (n := 2) hag
  refine lv_aload_n hx hb dX4_copyFrom_26 rfl (lv_at hl 0 rfl) ?_
  refine rg_getr F hH.1 0 (ci := 4) rfl (C := RX4) (T := TX4) (N := 8) rfl iwX4_copyFrom_X4 2 (d := 5) (n := 5) rfl rfl (by decide) rfl lkX4_copyFrom_2 rfl dX4_copyFrom_27 ?_
  refine lv_aload_n hx hb dX4_copyFrom_30 rfl (lv_at hl 1 rfl) ?_
  refine rg_getr F hR2 0 (ci := 4) rfl (C := RX4) (T := TX4) (N := 8) rfl iwX4_copyFrom_X4 2 (d := 5) (n := 5) rfl rfl (by decide) rfl lkX4_copyFrom_2 rfl dX4_copyFrom_31 ?_
  refine rg_callWV (As := [.ref (b2 + 5)]) (rest := []) F hH (fun q h1 h2 => ⟨h1, h2⟩) 5 sb_LWd_5_LC12 (mX0_copyFrom l X 12 (by decide) (b + 5) (b2 + 5) _ _ (by omega)) (cwV 1 F.1.2.2.2.2 gX4_copyFrom_X0_copyFrom rfl rfl rfl hvX0_copyFrom ⟨Nat.le_of_ble_eq_true rfl, Nat.le_of_ble_eq_true rfl⟩) (rp_recv F hH.1 5 rfl (C := RX0) (T := TX0) (N := 1) rfl rfl) ⟨hH.1.sub 5 sb_LWd_5_LC12, hR2.sub 5 sb_LWd_5_LC12⟩ rfl hl.1 (Nat.le_of_ble_eq_true rfl) dX4_copyFrom_34 ⟨Nat.zero_le _, Nat.zero_le _⟩ rfl rfl (fun H locs hH hfr => ?_)
  replace hR2 := hR2.kept (fun q h1 h2 => hfr q (by
    have h3 : q < b2 + 15 := h2
    show q < b + 5 ∨ b + 5 + 2 ≤ q
    omega))
  replace hag := ag_pv (n := 2) hag
  refine lv_aload_n hx hb dX4_copyFrom_37 rfl (lv_at hl 0 rfl) ?_
  refine rg_getr F hH.1 0 (ci := 4) rfl (C := RX4) (T := TX4) (N := 8) rfl iwX4_copyFrom_X4 3 (d := 7) (n := 7) rfl rfl (by decide) rfl lkX4_copyFrom_3 rfl dX4_copyFrom_38 ?_
  refine lv_aload_n hx hb dX4_copyFrom_41 rfl (lv_at hl 1 rfl) ?_
  refine rg_getr F hR2 0 (ci := 4) rfl (C := RX4) (T := TX4) (N := 8) rfl iwX4_copyFrom_X4 3 (d := 7) (n := 7) rfl rfl (by decide) rfl lkX4_copyFrom_3 rfl dX4_copyFrom_42 ?_
  refine rg_callWV (As := [.ref (b2 + 7)]) (rest := []) F hH (fun q h1 h2 => ⟨h1, h2⟩) 7 sb_LWd_7_LC12 (mX0_copyFrom l X 12 (by decide) (b + 7) (b2 + 7) _ _ (by omega)) (cwV 1 F.1.2.2.2.2 gX4_copyFrom_X0_copyFrom rfl rfl rfl hvX0_copyFrom ⟨Nat.le_of_ble_eq_true rfl, Nat.le_of_ble_eq_true rfl⟩) (rp_recv F hH.1 7 rfl (C := RX0) (T := TX0) (N := 1) rfl rfl) ⟨hH.1.sub 7 sb_LWd_7_LC12, hR2.sub 7 sb_LWd_7_LC12⟩ rfl hl.1 (Nat.le_of_ble_eq_true rfl) dX4_copyFrom_45 ⟨Nat.zero_le _, Nat.zero_le _⟩ rfl rfl (fun H locs hH hfr => ?_)
  replace hR2 := hR2.kept (fun q h1 h2 => hfr q (by
    have h3 : q < b2 + 15 := h2
    show q < b + 7 ∨ b + 7 + 2 ≤ q
    omega))
  replace hag := ag_pv (n := 2) hag
  refine lv_aload_n hx hb dX4_copyFrom_48 rfl (lv_at hl 0 rfl) ?_
  refine rg_getr F hH.1 0 (ci := 4) rfl (C := RX4) (T := TX4) (N := 8) rfl iwX4_copyFrom_X4 4 (d := 9) (n := 9) rfl rfl (by decide) rfl lkX4_copyFrom_4 rfl dX4_copyFrom_49 ?_
  refine lv_aload_n hx hb dX4_copyFrom_52 rfl (lv_at hl 1 rfl) ?_
  refine rg_getr F hR2 0 (ci := 4) rfl (C := RX4) (T := TX4) (N := 8) rfl iwX4_copyFrom_X4 4 (d := 9) (n := 9) rfl rfl (by decide) rfl lkX4_copyFrom_4 rfl dX4_copyFrom_53 ?_
  refine rg_callWV (As := [.ref (b2 + 9)]) (rest := []) F hH (fun q h1 h2 => ⟨h1, h2⟩) 9 sb_LWd_9_LC12 (mX0_copyFrom l X 12 (by decide) (b + 9) (b2 + 9) _ _ (by omega)) (cwV 1 F.1.2.2.2.2 gX4_copyFrom_X0_copyFrom rfl rfl rfl hvX0_copyFrom ⟨Nat.le_of_ble_eq_true rfl, Nat.le_of_ble_eq_true rfl⟩) (rp_recv F hH.1 9 rfl (C := RX0) (T := TX0) (N := 1) rfl rfl) ⟨hH.1.sub 9 sb_LWd_9_LC12, hR2.sub 9 sb_LWd_9_LC12⟩ rfl hl.1 (Nat.le_of_ble_eq_true rfl) dX4_copyFrom_56 ⟨Nat.zero_le _, Nat.zero_le _⟩ rfl rfl (fun H locs hH hfr => ?_)
  replace hR2 := hR2.kept (fun q h1 h2 => hfr q (by
    have h3 : q < b2 + 15 := h2
    show q < b + 9 ∨ b + 9 + 2 ≤ q
    omega))
  replace hag := ag_pv (n := 2) hag
  refine lv_aload_n hx hb dX4_copyFrom_59 rfl (lv_at hl 0 rfl) ?_
  refine rg_getr F hH.1 0 (ci := 4) rfl (C := RX4) (T := TX4) (N := 8) rfl iwX4_copyFrom_X4 5 (d := 11) (n := 11) rfl rfl (by decide) rfl lkX4_copyFrom_5 rfl dX4_copyFrom_60 ?_
  refine lv_aload_n hx hb dX4_copyFrom_63 rfl (lv_at hl 1 rfl) ?_
  refine rg_getr F hR2 0 (ci := 4) rfl (C := RX4) (T := TX4) (N := 8) rfl iwX4_copyFrom_X4 5 (d := 11) (n := 11) rfl rfl (by decide) rfl lkX4_copyFrom_5 rfl dX4_copyFrom_64 ?_
  refine rg_callWV (As := [.ref (b2 + 11)]) (rest := []) F hH (fun q h1 h2 => ⟨h1, h2⟩) 11 sb_LWd_11_LC24 (mX0_copyFrom l X 24 (by decide) (b + 11) (b2 + 11) _ _ (by omega)) (cwV 1 F.1.2.2.2.2 gX4_copyFrom_X0_copyFrom rfl rfl rfl hvX0_copyFrom ⟨Nat.le_of_ble_eq_true rfl, Nat.le_of_ble_eq_true rfl⟩) (rp_recv F hH.1 11 rfl (C := RX0) (T := TX0) (N := 1) rfl rfl) ⟨hH.1.sub 11 sb_LWd_11_LC24, hR2.sub 11 sb_LWd_11_LC24⟩ rfl hl.1 (Nat.le_of_ble_eq_true rfl) dX4_copyFrom_67 ⟨Nat.zero_le _, Nat.zero_le _⟩ rfl rfl (fun H locs hH hfr => ?_)
  replace hR2 := hR2.kept (fun q h1 h2 => hfr q (by
    have h3 : q < b2 + 15 := h2
    show q < b + 11 ∨ b + 11 + 2 ≤ q
    omega))
  replace hag := ag_pv (n := 2) hag
  refine lv_aload_n hx hb dX4_copyFrom_70 rfl (lv_at hl 0 rfl) ?_
  refine rg_getr F hH.1 0 (ci := 4) rfl (C := RX4) (T := TX4) (N := 8) rfl iwX4_copyFrom_X4 6 (d := 13) (n := 13) rfl rfl (by decide) rfl lkX4_copyFrom_6 rfl dX4_copyFrom_71 ?_
  refine lv_aload_n hx hb dX4_copyFrom_74 rfl (lv_at hl 1 rfl) ?_
  refine rg_getr F hR2 0 (ci := 4) rfl (C := RX4) (T := TX4) (N := 8) rfl iwX4_copyFrom_X4 6 (d := 13) (n := 13) rfl rfl (by decide) rfl lkX4_copyFrom_6 rfl dX4_copyFrom_75 ?_
  refine rg_callWV (As := [.ref (b2 + 13)]) (rest := []) F hH (fun q h1 h2 => ⟨h1, h2⟩) 13 sb_LWd_13_LC2 (mX0_copyFrom l X 2 (by decide) (b + 13) (b2 + 13) _ _ (by omega)) (cwV 1 F.1.2.2.2.2 gX4_copyFrom_X0_copyFrom rfl rfl rfl hvX0_copyFrom ⟨Nat.le_of_ble_eq_true rfl, Nat.le_of_ble_eq_true rfl⟩) (rp_recv F hH.1 13 rfl (C := RX0) (T := TX0) (N := 1) rfl rfl) ⟨hH.1.sub 13 sb_LWd_13_LC2, hR2.sub 13 sb_LWd_13_LC2⟩ rfl hl.1 (Nat.le_of_ble_eq_true rfl) dX4_copyFrom_78 ⟨Nat.zero_le _, Nat.zero_le _⟩ rfl rfl (fun H locs hH hfr => ?_)
  replace hR2 := hR2.kept (fun q h1 h2 => hfr q (by
    have h3 : q < b2 + 15 := h2
    show q < b + 13 ∨ b + 13 + 2 ≤ q
    omega))
  replace hag := ag_pv (n := 2) hag
  refine lv_aload_n hx hb dX4_copyFrom_81 rfl (lv_at hl 0 rfl) ?_
  refine lv_aload_n hx hb dX4_copyFrom_82 rfl (lv_at hl 1 rfl) ?_
  refine rg_geti F hR2 0 (ci := 4) rfl (C := RX4) (T := TX4) (N := 8) rfl iwX4_copyFrom_X4 7 (i := 0) rfl (by decide) rfl lkX4_copyFrom_7 rfl dX4_copyFrom_83 ?_
  refine rg_put F hH (fun q h1 h2 => ⟨h1, h2⟩) 0 (ci := 4) rfl (C := RX4) (T := TX4) (N := 8) rfl iwX4_copyFrom_X4 tyX4 tyX4_ok nmX4 7 (i := 0) rfl (by decide) (by decide) rfl rfl (by decide +kernel) lkX4_copyFrom_7 rfl dX4_copyFrom_86 (fun H locs hH hfr => ?_)
  replace hR2 := hR2.kept (fun q h1 h2 => hfr q (by
    have h3 : q < b2 + 15 := h2
    omega))
  replace hag := ag_sv0 (i := 0) (x := V2 0 0) hag
  exact W.vret hx hb hr (fun t ht _ => mw_post ⟨RP.agree hH.1 hag (fun k hk a => by cases hk; rfl), hH.2⟩ ht) hH.2.1.2.2 dX4_copyFrom_89
set_option maxRecDepth 20000 in
theorem iwX5_copyFrom_X5 : ∀ w ∈ wsX50, w ∈ wsX5_copyFrom := by decide +kernel
set_option maxRecDepth 20000 in
theorem lkX5_copyFrom_0 : Cond.fieldLink RX5 12 "TideWords$World" "tides" "LTideWords$Tides;" ∈ wsX5_copyFrom := by decide +kernel
set_option maxRecDepth 20000 in
theorem sb_LW_1_LT : sbL LW 1 LT := sbl_of rfl
theorem hvX3_copyFrom : yX3_copyFrom.cls = RX3 ∧ yX3_copyFrom.cls ≠ "java/lang/invoke/MethodHandle" ∧ yX3_copyFrom.cls ≠ "java/lang/invoke/VarHandle" ∧ (parseMethodDescriptor yX3_copyFrom.desc).map (fun d => d.parameters.length) = some 1 := by decide +kernel
set_option maxRecDepth 20000 in
theorem lkX5_copyFrom_1 : Cond.fieldLink RX5 21 "TideWords$World" "gates" "LTideWords$Gates;" ∈ wsX5_copyFrom := by decide +kernel
set_option maxRecDepth 20000 in
theorem sb_LW_10_LG : sbL LW 10 LG := sbl_of rfl
theorem hvX1_copyFrom : yX1_copyFrom.cls = RX1 ∧ yX1_copyFrom.cls ≠ "java/lang/invoke/MethodHandle" ∧ yX1_copyFrom.cls ≠ "java/lang/invoke/VarHandle" ∧ (parseMethodDescriptor yX1_copyFrom.desc).map (fun d => d.parameters.length) = some 1 := by decide +kernel
set_option maxRecDepth 20000 in
theorem lkX5_copyFrom_2 : Cond.fieldLink RX5 28 "TideWords$World" "words" "LTideWords$Words;" ∈ wsX5_copyFrom := by decide +kernel
set_option maxRecDepth 20000 in
theorem sb_LW_27_LWd : sbL LW 27 LWd := sbl_of rfl
theorem hvX4_copyFrom : yX4_copyFrom.cls = RX4 ∧ yX4_copyFrom.cls ≠ "java/lang/invoke/MethodHandle" ∧ yX4_copyFrom.cls ≠ "java/lang/invoke/VarHandle" ∧ (parseMethodDescriptor yX4_copyFrom.desc).map (fun d => d.parameters.length) = some 1 := by decide +kernel
set_option maxRecDepth 20000 in
theorem lkX5_copyFrom_3 : Cond.fieldLink RX5 40 "TideWords$World" "steps" "I" ∈ wsX5_copyFrom := by decide +kernel
set_option maxRecDepth 20000 in
theorem lkX5_copyFrom_4 : Cond.fieldLink RX5 93 "TideWords$World" "letters" "I" ∈ wsX5_copyFrom := by decide +kernel
set_option maxRecDepth 20000 in
theorem lkX5_copyFrom_5 : Cond.fieldLink RX5 67 "TideWords$World" "idleSteps" "I" ∈ wsX5_copyFrom := by decide +kernel
abbrev rmX5_copyFrom : Room := { frames := 3, cells := 0, slots := 0, locals := 102 }
set_option maxHeartbeats 4000000 in
set_option maxRecDepth 100000 in
theorem mX5_copyFrom (l : Launch) (X : kX) (b b2 : Nat) (V V2 : Mem) (hdj : b + 42 ≤ b2 ∨ b2 + 42 ≤ b) : MW l yX5_copyFrom wsX5_copyFrom rmX5_copyFrom X [.ref b, .ref b2] (fun H => RP X LW b V H ∧ RP X LW b2 V2 H) none b (b + LW.length) (RP X LW b V2) := by
  refine mt_head (cc := cX5_copyFrom) (maxL := 2) (ret := none) (own := RX5) (by decide) rfl rfl (Nat.le_of_ble_eq_true rfl) ?_
  intro p e s m below meth c ls F hr hlocks hnm hR hl
  have hx := F.1.1
  have hb := F.1.2.1
  obtain ⟨hR, hR2⟩ := hR
  have hH : Hp (t_fr b (b + LW.length)) s.heap s.heap.size X LW b V s.heap [] := ⟨hR, va_S.rf, rfl⟩
  have hl : lv_has ls 2 [(0, .ref b), (1, .ref b2)] := hl
  have hag : ∀ j, 1 ≤ j → j < 1 → V j = V2 j := fun j h1 h2 => by omega
  refine lv_aload_n hx hb dX5_copyFrom_0 rfl (lv_at hl 1 rfl) ?_
  refine lv_ifnull hx hb dX5_copyFrom_1 ?_
  refine lv_aload_n hx hb dX5_copyFrom_4 rfl (lv_at hl 0 rfl) ?_
  refine rg_getr F hH.1 0 (ci := 5) rfl (C := RX5) (T := TX5) (N := 6) rfl iwX5_copyFrom_X5 0 (d := 1) (n := 1) rfl rfl (by decide) rfl lkX5_copyFrom_0 rfl dX5_copyFrom_5 ?_
  refine lv_aload_n hx hb dX5_copyFrom_8 rfl (lv_at hl 1 rfl) ?_
  refine rg_getr F hR2 0 (ci := 5) rfl (C := RX5) (T := TX5) (N := 6) rfl iwX5_copyFrom_X5 0 (d := 1) (n := 1) rfl rfl (by decide) rfl lkX5_copyFrom_0 rfl dX5_copyFrom_9 ?_
  refine rg_callWV (As := [.ref (b2 + 1)]) (rest := []) F hH (fun q h1 h2 => ⟨h1, h2⟩) 1 sb_LW_1_LT (mX3_copyFrom l X (b + 1) (b2 + 1) _ _ (by omega)) (cwV 1 F.1.2.2.2.2 gX5_copyFrom_X3_copyFrom rfl rfl rfl hvX3_copyFrom ⟨Nat.le_of_ble_eq_true rfl, Nat.le_of_ble_eq_true rfl⟩) (rp_recv F hH.1 1 rfl (C := RX3) (T := TX3) (N := 4) rfl rfl) ⟨hH.1.sub 1 sb_LW_1_LT, hR2.sub 1 sb_LW_1_LT⟩ rfl hl.1 (Nat.le_of_ble_eq_true rfl) dX5_copyFrom_12 ⟨Nat.zero_le _, Nat.zero_le _⟩ rfl rfl (fun H locs hH hfr => ?_)
  replace hR2 := hR2.kept (fun q h1 h2 => hfr q (by
    have h3 : q < b2 + 42 := h2
    show q < b + 1 ∨ b + 1 + 9 ≤ q
    omega))
  replace hag := ag_pv (n := 9) hag
  refine lv_aload_n hx hb dX5_copyFrom_15 rfl (lv_at hl 0 rfl) ?_
  refine rg_getr F hH.1 0 (ci := 5) rfl (C := RX5) (T := TX5) (N := 6) rfl iwX5_copyFrom_X5 1 (d := 10) (n := 10) rfl rfl (by decide) rfl lkX5_copyFrom_1 rfl dX5_copyFrom_16 ?_
  refine lv_aload_n hx hb dX5_copyFrom_19 rfl (lv_at hl 1 rfl) ?_
  refine rg_getr F hR2 0 (ci := 5) rfl (C := RX5) (T := TX5) (N := 6) rfl iwX5_copyFrom_X5 1 (d := 10) (n := 10) rfl rfl (by decide) rfl lkX5_copyFrom_1 rfl dX5_copyFrom_20 ?_
  refine rg_callWV (As := [.ref (b2 + 10)]) (rest := []) F hH (fun q h1 h2 => ⟨h1, h2⟩) 10 sb_LW_10_LG (mX1_copyFrom l X (b + 10) (b2 + 10) _ _ (by omega)) (cwV 1 F.1.2.2.2.2 gX5_copyFrom_X1_copyFrom rfl rfl rfl hvX1_copyFrom ⟨Nat.le_of_ble_eq_true rfl, Nat.le_of_ble_eq_true rfl⟩) (rp_recv F hH.1 10 rfl (C := RX1) (T := TX1) (N := 8) rfl rfl) ⟨hH.1.sub 10 sb_LW_10_LG, hR2.sub 10 sb_LW_10_LG⟩ rfl hl.1 (Nat.le_of_ble_eq_true rfl) dX5_copyFrom_23 ⟨Nat.zero_le _, Nat.zero_le _⟩ rfl rfl (fun H locs hH hfr => ?_)
  replace hR2 := hR2.kept (fun q h1 h2 => hfr q (by
    have h3 : q < b2 + 42 := h2
    show q < b + 10 ∨ b + 10 + 17 ≤ q
    omega))
  replace hag := ag_pv (n := 17) hag
  refine lv_aload_n hx hb dX5_copyFrom_26 rfl (lv_at hl 0 rfl) ?_
  refine rg_getr F hH.1 0 (ci := 5) rfl (C := RX5) (T := TX5) (N := 6) rfl iwX5_copyFrom_X5 2 (d := 27) (n := 27) rfl rfl (by decide) rfl lkX5_copyFrom_2 rfl dX5_copyFrom_27 ?_
  refine lv_aload_n hx hb dX5_copyFrom_30 rfl (lv_at hl 1 rfl) ?_
  refine rg_getr F hR2 0 (ci := 5) rfl (C := RX5) (T := TX5) (N := 6) rfl iwX5_copyFrom_X5 2 (d := 27) (n := 27) rfl rfl (by decide) rfl lkX5_copyFrom_2 rfl dX5_copyFrom_31 ?_
  refine rg_callWV (As := [.ref (b2 + 27)]) (rest := []) F hH (fun q h1 h2 => ⟨h1, h2⟩) 27 sb_LW_27_LWd (mX4_copyFrom l X (b + 27) (b2 + 27) _ _ (by omega)) (cwV 1 F.1.2.2.2.2 gX5_copyFrom_X4_copyFrom rfl rfl rfl hvX4_copyFrom ⟨Nat.le_of_ble_eq_true rfl, Nat.le_of_ble_eq_true rfl⟩) (rp_recv F hH.1 27 rfl (C := RX4) (T := TX4) (N := 8) rfl rfl) ⟨hH.1.sub 27 sb_LW_27_LWd, hR2.sub 27 sb_LW_27_LWd⟩ rfl hl.1 (Nat.le_of_ble_eq_true rfl) dX5_copyFrom_34 ⟨Nat.zero_le _, Nat.zero_le _⟩ rfl rfl (fun H locs hH hfr => ?_)
  replace hR2 := hR2.kept (fun q h1 h2 => hfr q (by
    have h3 : q < b2 + 42 := h2
    show q < b + 27 ∨ b + 27 + 15 ≤ q
    omega))
  replace hag := ag_pv (n := 15) hag
  refine lv_aload_n hx hb dX5_copyFrom_37 rfl (lv_at hl 0 rfl) ?_
  refine lv_aload_n hx hb dX5_copyFrom_38 rfl (lv_at hl 1 rfl) ?_
  refine rg_geti F hR2 0 (ci := 5) rfl (C := RX5) (T := TX5) (N := 6) rfl iwX5_copyFrom_X5 3 (i := 0) rfl (by decide) rfl lkX5_copyFrom_3 rfl dX5_copyFrom_39 ?_
  refine rg_put F hH (fun q h1 h2 => ⟨h1, h2⟩) 0 (ci := 5) rfl (C := RX5) (T := TX5) (N := 6) rfl iwX5_copyFrom_X5 tyX5 tyX5_ok nmX5 3 (i := 0) rfl (by decide) (by decide) rfl rfl (by decide +kernel) lkX5_copyFrom_3 rfl dX5_copyFrom_42 (fun H locs hH hfr => ?_)
  replace hR2 := hR2.kept (fun q h1 h2 => hfr q (by
    have h3 : q < b2 + 42 := h2
    omega))
  replace hag := ag_sv0 (i := 0) (x := V2 0 0) hag
  refine lv_aload_n hx hb dX5_copyFrom_45 rfl (lv_at hl 0 rfl) ?_
  refine lv_aload_n hx hb dX5_copyFrom_46 rfl (lv_at hl 1 rfl) ?_
  refine rg_geti F hR2 0 (ci := 5) rfl (C := RX5) (T := TX5) (N := 6) rfl iwX5_copyFrom_X5 4 (i := 1) rfl (by decide) rfl lkX5_copyFrom_4 rfl dX5_copyFrom_47 ?_
  refine rg_put F hH (fun q h1 h2 => ⟨h1, h2⟩) 0 (ci := 5) rfl (C := RX5) (T := TX5) (N := 6) rfl iwX5_copyFrom_X5 tyX5 tyX5_ok nmX5 4 (i := 1) rfl (by decide) (by decide) rfl rfl (by decide +kernel) lkX5_copyFrom_4 rfl dX5_copyFrom_50 (fun H locs hH hfr => ?_)
  replace hR2 := hR2.kept (fun q h1 h2 => hfr q (by
    have h3 : q < b2 + 42 := h2
    omega))
  replace hag := ag_sv0 (i := 1) (x := V2 0 1) hag
  refine lv_aload_n hx hb dX5_copyFrom_53 rfl (lv_at hl 0 rfl) ?_
  refine lv_aload_n hx hb dX5_copyFrom_54 rfl (lv_at hl 1 rfl) ?_
  refine rg_geti F hR2 0 (ci := 5) rfl (C := RX5) (T := TX5) (N := 6) rfl iwX5_copyFrom_X5 5 (i := 2) rfl (by decide) rfl lkX5_copyFrom_5 rfl dX5_copyFrom_55 ?_
  refine rg_put F hH (fun q h1 h2 => ⟨h1, h2⟩) 0 (ci := 5) rfl (C := RX5) (T := TX5) (N := 6) rfl iwX5_copyFrom_X5 tyX5 tyX5_ok nmX5 5 (i := 2) rfl (by decide) (by decide) rfl rfl (by decide +kernel) lkX5_copyFrom_5 rfl dX5_copyFrom_58 (fun H locs hH hfr => ?_)
  replace hR2 := hR2.kept (fun q h1 h2 => hfr q (by
    have h3 : q < b2 + 42 := h2
    omega))
  replace hag := ag_sv0 (i := 2) (x := V2 0 2) hag
  exact W.vret hx hb hr (fun t ht _ => mw_post ⟨RP.agree hH.1 hag (fun k hk a => by cases hk; rfl), hH.2⟩ ht) hH.2.1.2.2 dX5_copyFrom_61
