set_option maxRecDepth 20000 in
theorem lkX3_change_0 : Cond.fieldLink RX3 14 "TideWords$Tides" "means" "LTideWords$Cells;" ∈ wsX3_change := by decide +kernel
set_option maxRecDepth 20000 in
theorem iwX3_change_X3 : ∀ w ∈ wsX30, w ∈ wsX3_change := by decide +kernel
theorem hvX0_set : yX0_set.cls = RX0 ∧ yX0_set.cls ≠ "java/lang/invoke/MethodHandle" ∧ yX0_set.cls ≠ "java/lang/invoke/VarHandle" ∧ (parseMethodDescriptor yX0_set.desc).map (fun d => d.parameters.length) = some 2 := by decide +kernel
set_option maxRecDepth 20000 in
theorem sb_LT_1_LC2 : sbL LT 1 (LC 2) := sbl_of rfl
set_option maxRecDepth 20000 in
theorem lkX3_change_1 : Cond.fieldLink RX3 20 "TideWords$Tides" "swings" "LTideWords$Cells;" ∈ wsX3_change := by decide +kernel
set_option maxRecDepth 20000 in
theorem sb_LT_3_LC2 : sbL LT 3 (LC 2) := sbl_of rfl
set_option maxRecDepth 20000 in
theorem lkX3_change_2 : Cond.fieldLink RX3 23 "TideWords$Tides" "periods" "LTideWords$Cells;" ∈ wsX3_change := by decide +kernel
set_option maxRecDepth 20000 in
theorem sb_LT_5_LC2 : sbL LT 5 (LC 2) := sbl_of rfl
def fX3_change (V : Mem) (a1 : Int32) (a2 : Int32) (a3 : Int32) (a4 : Int32) : Mem := lt (cset V 2 2 a1 a2) (fun V1 => lt (cset V1 4 2 a1 a3) (fun V2 => lt (cset V2 6 2 a1 a4) (fun V3 => V3)))
abbrev rmX3_change : Room := { frames := 1, cells := 0, slots := 0, locals := 22 }
set_option maxHeartbeats 4000000 in
set_option maxRecDepth 100000 in
theorem mX3_change (l : Launch) (X : kX) (b : Nat) (V : Mem) (a1 : Int32) (a2 : Int32) (a3 : Int32) (a4 : Int32) (out : Mem) (hE : fX3_change V a1 a2 a3 a4 = out) : MW l yX3_change wsX3_change rmX3_change X [.ref b, .int a1, .int a2, .int a3, .int a4] (RP X LT b V) (none) b (b + LT.length) (RP X LT b out) := by
  refine mt_head (cc := cX3_change) (maxL := 5) (ret := none) (own := RX3) (by decide) rfl rfl (Nat.le_of_ble_eq_true rfl) ?_
  intro p e s m below meth c ls F hr hlocks hnm hR hl
  have hx := F.1.1
  have hb := F.1.2.1
  have hH : Hp (t_fr b (b + LT.length)) s.heap s.heap.size X LT b V s.heap [] := ⟨hR, va_S.rf, rfl⟩
  have hl : lv_has ls 5 [(0, .ref b), (1, .int a1), (2, .int a2), (3, .int a3), (4, .int a4)] := hl
  unfold fX3_change at hE
  refine lv_aload_n hx hb dX3_change_0 rfl (lv_at hl 0 rfl) ?_
  refine rg_getr F hH.1 0 (ci := 3) rfl (C := RX3) (T := TX3) (N := 4) rfl iwX3_change_X3 0 (d := 1) (n := 1) rfl rfl (by decide) rfl lkX3_change_0 rfl dX3_change_1 ?_
  refine lv_iload_n hx hb dX3_change_4 rfl (lv_at hl 1 rfl) ?_
  refine lv_iload_n hx hb dX3_change_5 rfl (lv_at hl 2 rfl) ?_
  obtain ⟨V1, eV1, hE⟩ := lt_el hE
  refine rg_callWV (As := [.int a1, .int a2]) (rest := []) F hH (fun q h1 h2 => ⟨h1, h2⟩) 1 sb_LT_1_LC2 (kX0_set l X 2 (by decide) (b + 1) (gv V 1) a1 a2 _ rfl) (cwV 2 F.1.2.2.2.2 gX3_change_X0_set rfl rfl rfl hvX0_set ⟨Nat.le_of_ble_eq_true rfl, Nat.le_of_ble_eq_true rfl⟩) (rp_recv F hH.1 1 rfl (C := RX0) (T := TX0) (N := 1) rfl rfl) (hH.1.sub 1 sb_LT_1_LC2) rfl hl.1 (Nat.le_of_ble_eq_true rfl) dX3_change_6 ⟨Nat.zero_le _, Nat.zero_le _⟩ rfl ((pv_cset ..).trans eV1) (fun H locs hH hfr => ?_)
  refine lv_aload_n hx hb dX3_change_9 rfl (lv_at hl 0 rfl) ?_
  refine rg_getr F hH.1 0 (ci := 3) rfl (C := RX3) (T := TX3) (N := 4) rfl iwX3_change_X3 1 (d := 3) (n := 3) rfl rfl (by decide) rfl lkX3_change_1 rfl dX3_change_10 ?_
  refine lv_iload_n hx hb dX3_change_13 rfl (lv_at hl 1 rfl) ?_
  refine lv_iload_n hx hb dX3_change_14 rfl (lv_at hl 3 rfl) ?_
  obtain ⟨V2, eV2, hE⟩ := lt_el hE
  refine rg_callWV (As := [.int a1, .int a3]) (rest := []) F hH (fun q h1 h2 => ⟨h1, h2⟩) 3 sb_LT_3_LC2 (kX0_set l X 2 (by decide) (b + 3) (gv V1 3) a1 a3 _ rfl) (cwV 2 F.1.2.2.2.2 gX3_change_X0_set rfl rfl rfl hvX0_set ⟨Nat.le_of_ble_eq_true rfl, Nat.le_of_ble_eq_true rfl⟩) (rp_recv F hH.1 3 rfl (C := RX0) (T := TX0) (N := 1) rfl rfl) (hH.1.sub 3 sb_LT_3_LC2) rfl hl.1 (Nat.le_of_ble_eq_true rfl) dX3_change_15 ⟨Nat.zero_le _, Nat.zero_le _⟩ rfl ((pv_cset ..).trans eV2) (fun H locs hH hfr => ?_)
  refine lv_aload_n hx hb dX3_change_18 rfl (lv_at hl 0 rfl) ?_
  refine rg_getr F hH.1 0 (ci := 3) rfl (C := RX3) (T := TX3) (N := 4) rfl iwX3_change_X3 2 (d := 5) (n := 5) rfl rfl (by decide) rfl lkX3_change_2 rfl dX3_change_19 ?_
  refine lv_iload_n hx hb dX3_change_22 rfl (lv_at hl 1 rfl) ?_
  refine lv_iload hx hb dX3_change_23 (lv_at hl 4 rfl) ?_
  obtain ⟨V3, eV3, hE⟩ := lt_el hE
  refine rg_callWV (As := [.int a1, .int a4]) (rest := []) F hH (fun q h1 h2 => ⟨h1, h2⟩) 5 sb_LT_5_LC2 (kX0_set l X 2 (by decide) (b + 5) (gv V2 5) a1 a4 _ rfl) (cwV 2 F.1.2.2.2.2 gX3_change_X0_set rfl rfl rfl hvX0_set ⟨Nat.le_of_ble_eq_true rfl, Nat.le_of_ble_eq_true rfl⟩) (rp_recv F hH.1 5 rfl (C := RX0) (T := TX0) (N := 1) rfl rfl) (hH.1.sub 5 sb_LT_5_LC2) rfl hl.1 (Nat.le_of_ble_eq_true rfl) dX3_change_25 ⟨Nat.zero_le _, Nat.zero_le _⟩ rfl ((pv_cset ..).trans eV3) (fun H locs hH hfr => ?_)
  subst hE
  exact W.vret hx hb hr (fun t ht _ => mw_post hH ht) hH.2.1.2.2 dX3_change_28
set_option maxRecDepth 20000 in
theorem lkX1_change_0 : Cond.fieldLink RX1 14 "TideWords$Gates" "sides" "LTideWords$Cells;" ∈ wsX1_change := by decide +kernel
set_option maxRecDepth 20000 in
theorem iwX1_change_X1 : ∀ w ∈ wsX10, w ∈ wsX1_change := by decide +kernel
set_option maxRecDepth 20000 in
theorem sb_LG_1_LC4 : sbL LG 1 (LC 4) := sbl_of rfl
set_option maxRecDepth 20000 in
theorem lkX1_change_1 : Cond.fieldLink RX1 20 "TideWords$Gates" "slacks" "LTideWords$Cells;" ∈ wsX1_change := by decide +kernel
set_option maxRecDepth 20000 in
theorem sb_LG_3_LC4 : sbL LG 3 (LC 4) := sbl_of rfl
set_option maxRecDepth 20000 in
theorem lkX1_change_2 : Cond.fieldLink RX1 23 "TideWords$Gates" "ways" "LTideWords$Cells;" ∈ wsX1_change := by decide +kernel
set_option maxRecDepth 20000 in
theorem sb_LG_5_LC4 : sbL LG 5 (LC 4) := sbl_of rfl
def fX1_change (V : Mem) (a1 : Int32) (a2 : Int32) (a3 : Int32) (a4 : Int32) : Mem := lt (cset V 2 4 a1 a2) (fun V1 => lt (cset V1 4 4 a1 a3) (fun V2 => lt (cset V2 6 4 a1 a4) (fun V3 => V3)))
abbrev rmX1_change : Room := { frames := 1, cells := 0, slots := 0, locals := 22 }
set_option maxHeartbeats 4000000 in
set_option maxRecDepth 100000 in
theorem mX1_change (l : Launch) (X : kX) (b : Nat) (V : Mem) (a1 : Int32) (a2 : Int32) (a3 : Int32) (a4 : Int32) (out : Mem) (hE : fX1_change V a1 a2 a3 a4 = out) : MW l yX1_change wsX1_change rmX1_change X [.ref b, .int a1, .int a2, .int a3, .int a4] (RP X LG b V) (none) b (b + LG.length) (RP X LG b out) := by
  refine mt_head (cc := cX1_change) (maxL := 5) (ret := none) (own := RX1) (by decide) rfl rfl (Nat.le_of_ble_eq_true rfl) ?_
  intro p e s m below meth c ls F hr hlocks hnm hR hl
  have hx := F.1.1
  have hb := F.1.2.1
  have hH : Hp (t_fr b (b + LG.length)) s.heap s.heap.size X LG b V s.heap [] := ⟨hR, va_S.rf, rfl⟩
  have hl : lv_has ls 5 [(0, .ref b), (1, .int a1), (2, .int a2), (3, .int a3), (4, .int a4)] := hl
  unfold fX1_change at hE
  refine lv_aload_n hx hb dX1_change_0 rfl (lv_at hl 0 rfl) ?_
  refine rg_getr F hH.1 0 (ci := 1) rfl (C := RX1) (T := TX1) (N := 8) rfl iwX1_change_X1 0 (d := 1) (n := 1) rfl rfl (by decide) rfl lkX1_change_0 rfl dX1_change_1 ?_
  refine lv_iload_n hx hb dX1_change_4 rfl (lv_at hl 1 rfl) ?_
  refine lv_iload_n hx hb dX1_change_5 rfl (lv_at hl 2 rfl) ?_
  obtain ⟨V1, eV1, hE⟩ := lt_el hE
  refine rg_callWV (As := [.int a1, .int a2]) (rest := []) F hH (fun q h1 h2 => ⟨h1, h2⟩) 1 sb_LG_1_LC4 (kX0_set l X 4 (by decide) (b + 1) (gv V 1) a1 a2 _ rfl) (cwV 2 F.1.2.2.2.2 gX1_change_X0_set rfl rfl rfl hvX0_set ⟨Nat.le_of_ble_eq_true rfl, Nat.le_of_ble_eq_true rfl⟩) (rp_recv F hH.1 1 rfl (C := RX0) (T := TX0) (N := 1) rfl rfl) (hH.1.sub 1 sb_LG_1_LC4) rfl hl.1 (Nat.le_of_ble_eq_true rfl) dX1_change_6 ⟨Nat.zero_le _, Nat.zero_le _⟩ rfl ((pv_cset ..).trans eV1) (fun H locs hH hfr => ?_)
  refine lv_aload_n hx hb dX1_change_9 rfl (lv_at hl 0 rfl) ?_
  refine rg_getr F hH.1 0 (ci := 1) rfl (C := RX1) (T := TX1) (N := 8) rfl iwX1_change_X1 1 (d := 3) (n := 3) rfl rfl (by decide) rfl lkX1_change_1 rfl dX1_change_10 ?_
  refine lv_iload_n hx hb dX1_change_13 rfl (lv_at hl 1 rfl) ?_
  refine lv_iload_n hx hb dX1_change_14 rfl (lv_at hl 3 rfl) ?_
  obtain ⟨V2, eV2, hE⟩ := lt_el hE
  refine rg_callWV (As := [.int a1, .int a3]) (rest := []) F hH (fun q h1 h2 => ⟨h1, h2⟩) 3 sb_LG_3_LC4 (kX0_set l X 4 (by decide) (b + 3) (gv V1 3) a1 a3 _ rfl) (cwV 2 F.1.2.2.2.2 gX1_change_X0_set rfl rfl rfl hvX0_set ⟨Nat.le_of_ble_eq_true rfl, Nat.le_of_ble_eq_true rfl⟩) (rp_recv F hH.1 3 rfl (C := RX0) (T := TX0) (N := 1) rfl rfl) (hH.1.sub 3 sb_LG_3_LC4) rfl hl.1 (Nat.le_of_ble_eq_true rfl) dX1_change_15 ⟨Nat.zero_le _, Nat.zero_le _⟩ rfl ((pv_cset ..).trans eV2) (fun H locs hH hfr => ?_)
  refine lv_aload_n hx hb dX1_change_18 rfl (lv_at hl 0 rfl) ?_
  refine rg_getr F hH.1 0 (ci := 1) rfl (C := RX1) (T := TX1) (N := 8) rfl iwX1_change_X1 2 (d := 5) (n := 5) rfl rfl (by decide) rfl lkX1_change_2 rfl dX1_change_19 ?_
  refine lv_iload_n hx hb dX1_change_22 rfl (lv_at hl 1 rfl) ?_
  refine lv_iload hx hb dX1_change_23 (lv_at hl 4 rfl) ?_
  obtain ⟨V3, eV3, hE⟩ := lt_el hE
  refine rg_callWV (As := [.int a1, .int a4]) (rest := []) F hH (fun q h1 h2 => ⟨h1, h2⟩) 5 sb_LG_5_LC4 (kX0_set l X 4 (by decide) (b + 5) (gv V2 5) a1 a4 _ rfl) (cwV 2 F.1.2.2.2.2 gX1_change_X0_set rfl rfl rfl hvX0_set ⟨Nat.le_of_ble_eq_true rfl, Nat.le_of_ble_eq_true rfl⟩) (rp_recv F hH.1 5 rfl (C := RX0) (T := TX0) (N := 1) rfl rfl) (hH.1.sub 5 sb_LG_5_LC4) rfl hl.1 (Nat.le_of_ble_eq_true rfl) dX1_change_25 ⟨Nat.zero_le _, Nat.zero_le _⟩ rfl ((pv_cset ..).trans eV3) (fun H locs hH hfr => ?_)
  subst hE
  exact W.vret hx hb hr (fun t ht _ => mw_post hH ht) hH.2.1.2.2 dX1_change_28
set_option maxRecDepth 20000 in
theorem lkX3_levelAt_0 : Cond.fieldLink RX3 23 "TideWords$Tides" "periods" "LTideWords$Cells;" ∈ wsX3_levelAt := by decide +kernel
set_option maxRecDepth 20000 in
theorem iwX3_levelAt_X3 : ∀ w ∈ wsX30, w ∈ wsX3_levelAt := by decide +kernel
theorem hvX0_get : yX0_get.cls = RX0 ∧ yX0_get.cls ≠ "java/lang/invoke/MethodHandle" ∧ yX0_get.cls ≠ "java/lang/invoke/VarHandle" ∧ (parseMethodDescriptor yX0_get.desc).map (fun d => d.parameters.length) = some 1 := by decide +kernel
set_option maxRecDepth 20000 in
theorem sb_LW_6_LC2 : sbL LW 6 (LC 2) := sbl_of rfl
set_option maxRecDepth 20000 in
theorem lkX3_levelAt_1 : Cond.fieldLink RX3 14 "TideWords$Tides" "means" "LTideWords$Cells;" ∈ wsX3_levelAt := by decide +kernel
set_option maxRecDepth 20000 in
theorem sb_LW_2_LC2 : sbL LW 2 (LC 2) := sbl_of rfl
set_option maxRecDepth 20000 in
theorem lkX3_levelAt_2 : Cond.fieldLink RX3 20 "TideWords$Tides" "swings" "LTideWords$Cells;" ∈ wsX3_levelAt := by decide +kernel
set_option maxRecDepth 20000 in
theorem sb_LW_4_LC2 : sbL LW 4 (LC 2) := sbl_of rfl
set_option maxRecDepth 20000 in
theorem lkX3_levelAt_3 : Cond.methodLink RX3 41 Lib.Math.min.name ∈ wsX3_levelAt := by decide +kernel
set_option maxRecDepth 20000 in
theorem lkX3_levelAt_4 : Cond.static Lib.Math.min.name ∈ wsX3_levelAt := by decide +kernel
set_option maxRecDepth 20000 in
theorem lkX3_levelAt_5 : Cond.initialized "java/lang/Math" ∈ wsX3_levelAt := by decide +kernel
set_option maxRecDepth 20000 in
theorem lkX3_levelAt_6 : Cond.code Lib.Math.min.name Lib.Math.min.code 2 (some .int) ∈ wsX3_levelAt := by decide +kernel
def qX3_levelAt (V : Mem) (a1 : Int32) (a2 : Int32) : Option (Int32) := lt (cget 2 (V 7) a1) (fun r1 => lt (cget 2 (V 3) a1) (fun r2 => lt (cget 2 (V 5) a1) (fun r3 => if (2 : Int32) ≤ r1 then if r1 = 0 then none else lt (cget 2 (V 5) a1) (fun r6 => lt (if (r1 - (a2 - a2 / r1 * r1)) < (a2 - a2 / r1 * r1) then (r1 - (a2 - a2 / r1 * r1)) else (a2 - a2 / r1 * r1)) (fun r7 => some ((r2 - r3) + (((((4 : Int32)) * r6) * r7) / r1)))) else some (r2 - r3))))
abbrev rmX3_levelAt : Room := { frames := 1, cells := 0, slots := 0, locals := 24 }
set_option maxHeartbeats 4000000 in
set_option maxRecDepth 100000 in
theorem mX3_levelAt (l : Launch) (X : kX) (b : Nat) (V : Mem) (a1 : Int32) (a2 : Int32) (out : Int32) (hE : qX3_levelAt V a1 a2 = some out) : MR l yX3_levelAt wsX3_levelAt rmX3_levelAt X [.ref (b + 1), .int a1, .int a2] (RP X LW b V) (some (.int out)) := by
  refine mt_head (cc := cX3_levelAt) (maxL := 6) (ret := (some .int)) (own := RX3) (by decide) rfl rfl (Nat.le_of_ble_eq_true rfl) ?_
  intro p e s m below meth c ls F hr hlocks hnm hR hl
  have hx := F.1.1
  have hb := F.1.2.1
  have hl : lv_has ls 6 [(0, .ref (b + 1)), (1, .int a1), (2, .int a2)] := hl
  unfold qX3_levelAt at hE
  refine lv_aload_n hx hb dX3_levelAt_0 rfl (lv_at hl 0 rfl) ?_
  refine rg_getr F hR 1 (ci := 3) rfl (C := RX3) (T := TX3) (N := 4) rfl iwX3_levelAt_X3 2 (d := 5) (n := 6) rfl rfl (by decide) rfl lkX3_levelAt_0 rfl dX3_levelAt_1 ?_
  refine lv_iload_n hx hb dX3_levelAt_4 rfl (lv_at hl 1 rfl) ?_
  obtain ⟨r1, er1, hE⟩ := lt_el hE
  refine rg_callRV (As := [.int a1]) (rest := []) F (kX0_get l X 2 (by decide) (b + 6) (gv V 6) a1 r1 er1) (cwV 1 F.1.2.2.2.2 gX3_levelAt_X0_get rfl rfl rfl hvX0_get ⟨Nat.le_of_ble_eq_true rfl, Nat.le_of_ble_eq_true rfl⟩) (rp_recv F hR 6 rfl (C := RX0) (T := TX0) (N := 1) rfl rfl) (hR.sub 6 sb_LW_6_LC2) rfl hl.1 (Nat.le_of_ble_eq_true rfl) dX3_levelAt_5 ⟨Nat.zero_le _, Nat.zero_le _⟩ rfl ?_
  refine lv_istore_n (lv' := [(3, .int r1), (0, .ref (b + 1)), (1, .int a1), (2, .int a2)]) hx hb dX3_levelAt_8 rfl hl (by decide) rfl (fun ls hl => ?_)
  refine lv_aload_n hx hb dX3_levelAt_9 rfl (lv_at hl 1 rfl) ?_
  refine rg_getr F hR 1 (ci := 3) rfl (C := RX3) (T := TX3) (N := 4) rfl iwX3_levelAt_X3 0 (d := 1) (n := 2) rfl rfl (by decide) rfl lkX3_levelAt_1 rfl dX3_levelAt_10 ?_
  refine lv_iload_n hx hb dX3_levelAt_13 rfl (lv_at hl 2 rfl) ?_
  obtain ⟨r2, er2, hE⟩ := lt_el hE
  refine rg_callRV (As := [.int a1]) (rest := []) F (kX0_get l X 2 (by decide) (b + 2) (gv V 2) a1 r2 er2) (cwV 1 F.1.2.2.2.2 gX3_levelAt_X0_get rfl rfl rfl hvX0_get ⟨Nat.le_of_ble_eq_true rfl, Nat.le_of_ble_eq_true rfl⟩) (rp_recv F hR 2 rfl (C := RX0) (T := TX0) (N := 1) rfl rfl) (hR.sub 2 sb_LW_2_LC2) rfl hl.1 (Nat.le_of_ble_eq_true rfl) dX3_levelAt_14 ⟨Nat.zero_le _, Nat.zero_le _⟩ rfl ?_
  refine lv_aload_n hx hb dX3_levelAt_17 rfl (lv_at hl 1 rfl) ?_
  refine rg_getr F hR 1 (ci := 3) rfl (C := RX3) (T := TX3) (N := 4) rfl iwX3_levelAt_X3 1 (d := 3) (n := 4) rfl rfl (by decide) rfl lkX3_levelAt_2 rfl dX3_levelAt_18 ?_
  refine lv_iload_n hx hb dX3_levelAt_21 rfl (lv_at hl 2 rfl) ?_
  obtain ⟨r3, er3, hE⟩ := lt_el hE
  refine rg_callRV (As := [.int a1]) (rest := [.int r2]) F (kX0_get l X 2 (by decide) (b + 4) (gv V 4) a1 r3 er3) (cwV 1 F.1.2.2.2.2 gX3_levelAt_X0_get rfl rfl rfl hvX0_get ⟨Nat.le_of_ble_eq_true rfl, Nat.le_of_ble_eq_true rfl⟩) (rp_recv F hR 4 rfl (C := RX0) (T := TX0) (N := 1) rfl rfl) (hR.sub 4 sb_LW_4_LC2) rfl hl.1 (Nat.le_of_ble_eq_true rfl) dX3_levelAt_22 ⟨Nat.zero_le _, Nat.zero_le _⟩ rfl ?_
  refine lv_isub hx hb dX3_levelAt_25 ?_
  refine lv_istore (lv' := [(4, .int (r2 - r3)), (3, .int r1), (0, .ref (b + 1)), (1, .int a1), (2, .int a2)]) hx hb dX3_levelAt_26 hl (by decide) rfl (fun ls hl => ?_)
  refine lv_iload_n hx hb dX3_levelAt_28 rfl (lv_at hl 1 rfl) ?_
  refine lv_iconst (v := 2) hx hb dX3_levelAt_29 (by decide) ?_
  refine lv_icmp_ge (tgt := 36) hx hb dX3_levelAt_30 (by decide) (fun c4 => ?_) (fun c4 => ?_)
  · have hE := (if_pos c4).symm.trans hE
    refine lv_iload_n hx hb dX3_levelAt_36 rfl (lv_at hl 4 rfl) ?_
    refine lv_iload_n hx hb dX3_levelAt_37 rfl (lv_at hl 1 rfl) ?_
    obtain ⟨g5, hE⟩ := gd_el hE
    refine lv_irem hx hb dX3_levelAt_38 g5 ?_
    refine lv_istore (lv' := [(5, .int (a2 - a2 / r1 * r1)), (4, .int (r2 - r3)), (3, .int r1), (0, .ref (b + 1)), (1, .int a1), (2, .int a2)]) hx hb dX3_levelAt_39 hl (by decide) rfl (fun ls hl => ?_)
    refine lv_iload hx hb dX3_levelAt_41 (lv_at hl 1 rfl) ?_
    refine lv_iconst (v := 4) hx hb dX3_levelAt_43 (by decide) ?_
    refine lv_aload_n hx hb dX3_levelAt_44 rfl (lv_at hl 3 rfl) ?_
    refine rg_getr F hR 1 (ci := 3) rfl (C := RX3) (T := TX3) (N := 4) rfl iwX3_levelAt_X3 1 (d := 3) (n := 4) rfl rfl (by decide) rfl lkX3_levelAt_2 rfl dX3_levelAt_45 ?_
    refine lv_iload_n hx hb dX3_levelAt_48 rfl (lv_at hl 4 rfl) ?_
    obtain ⟨r6, er6, hE⟩ := lt_el hE
    refine rg_callRV (As := [.int a1]) (rest := [.int ((4 : Int32)), .int (r2 - r3)]) F (kX0_get l X 2 (by decide) (b + 4) (gv V 4) a1 r6 er6) (cwV 1 F.1.2.2.2.2 gX3_levelAt_X0_get rfl rfl rfl hvX0_get ⟨Nat.le_of_ble_eq_true rfl, Nat.le_of_ble_eq_true rfl⟩) (rp_recv F hR 4 rfl (C := RX0) (T := TX0) (N := 1) rfl rfl) (hR.sub 4 sb_LW_4_LC2) rfl hl.1 (Nat.le_of_ble_eq_true rfl) dX3_levelAt_49 ⟨Nat.zero_le _, Nat.zero_le _⟩ rfl ?_
    refine lv_imul hx hb dX3_levelAt_52 ?_
    refine lv_iload hx hb dX3_levelAt_53 (lv_at hl 0 rfl) ?_
    refine lv_iload_n hx hb dX3_levelAt_55 rfl (lv_at hl 2 rfl) ?_
    refine lv_iload hx hb dX3_levelAt_56 (lv_at hl 0 rfl) ?_
    refine lv_isub hx hb dX3_levelAt_58 ?_
    obtain ⟨r7, er7, hE⟩ := lt_el hE
    refine va_mmin hx hb (F.1.2.2.1.trans hl.1.symm) F.1.2.2.2.1 (F.1.2.2.2.2 _ lkX3_levelAt_3) (F.1.2.2.2.2 _ lkX3_levelAt_4) (F.1.2.2.2.2 _ lkX3_levelAt_5) (F.1.2.2.2.2 _ lkX3_levelAt_6) (Nat.le_of_ble_eq_true rfl) (Nat.le_of_ble_eq_true rfl) (Nat.zero_le _) (Nat.zero_le _) dX3_levelAt_59 ?_
    refine lv_nm er7 ?_
    refine lv_imul hx hb dX3_levelAt_62 ?_
    refine lv_iload_n hx hb dX3_levelAt_63 rfl (lv_at hl 2 rfl) ?_
    refine lv_idiv hx hb dX3_levelAt_64 g5 ?_
    refine lv_iadd hx hb dX3_levelAt_65 ?_
    have hE := Option.some.inj hE
    subst hE
    exact W.iret (v := (r2 - r3) + (((((4 : Int32)) * r6) * r7) / r1)) hx hb hr (fun t ht _ => ⟨rfl, ht⟩) (fun _ h => absurd h List.not_mem_nil) dX3_levelAt_66
  · have hE := (if_neg c4).symm.trans hE
    refine lv_iload hx hb dX3_levelAt_33 (lv_at hl 0 rfl) ?_
    have hE := Option.some.inj hE
    subst hE
    exact W.iret (v := r2 - r3) hx hb hr (fun t ht _ => ⟨rfl, ht⟩) (fun _ h => absurd h List.not_mem_nil) dX3_levelAt_35
def mn (x y : Int32) : Int32 := if y < x then y else x
def fX3_levelAt (V : Mem) (a1 a2 : Int32) : Int32 := if (2 : Int32) ≤ cget 2 (V 7) a1 then (cget 2 (V 3) a1 - cget 2 (V 5) a1) + 4 * cget 2 (V 5) a1 * mn (a2 - a2 / cget 2 (V 7) a1 * cget 2 (V 7) a1) (cget 2 (V 7) a1 - (a2 - a2 / cget 2 (V 7) a1 * cget 2 (V 7) a1)) / cget 2 (V 7) a1 else cget 2 (V 3) a1 - cget 2 (V 5) a1
theorem two_ne {x : Int32} (h : (2 : Int32) ≤ x) : ¬ x = 0 := by
  intro e
  subst e
  revert h
  decide
theorem tX3_levelAt (V : Mem) (a1 a2 : Int32) : qX3_levelAt V a1 a2 = some (fX3_levelAt V a1 a2) := by
  unfold qX3_levelAt fX3_levelAt
  simp only [lt]
  by_cases h : (2 : Int32) ≤ cget 2 (V 7) a1
  · rw [if_pos h, if_pos h, if_neg (two_ne h)]
    rfl
  · rw [if_neg h, if_neg h]

theorem kX3_levelAt (l : Launch) (X : kX) (b : Nat) (V : Mem) (a1 : Int32) (a2 : Int32) (out : Int32) (hE : fX3_levelAt V a1 a2 = out) : MR l yX3_levelAt wsX3_levelAt rmX3_levelAt X [.ref (b + 1), .int a1, .int a2] (RP X LW b V) (some (.int out)) := mX3_levelAt l X b V a1 a2 out ((tX3_levelAt V a1 a2).trans (congrArg some hE))
theorem hvX3_levelAt : yX3_levelAt.cls = RX3 ∧ yX3_levelAt.cls ≠ "java/lang/invoke/MethodHandle" ∧ yX3_levelAt.cls ≠ "java/lang/invoke/VarHandle" ∧ (parseMethodDescriptor yX3_levelAt.desc).map (fun d => d.parameters.length) = some 2 := by decide +kernel
set_option maxRecDepth 20000 in
theorem lkX3_toldAt_0 : Cond.fieldLink RX3 26 "TideWords$Tides" "lies" "LTideWords$Cells;" ∈ wsX3_toldAt := by decide +kernel
set_option maxRecDepth 20000 in
theorem iwX3_toldAt_X3 : ∀ w ∈ wsX30, w ∈ wsX3_toldAt := by decide +kernel
set_option maxRecDepth 20000 in
theorem sb_LW_8_LC2 : sbL LW 8 (LC 2) := sbl_of rfl
def fX3_toldAt (V : Mem) (a1 : Int32) (a2 : Int32) : Int32 := lt (fX3_levelAt V a1 a2) (fun r1 => lt (cget 2 (V 9) a1) (fun r2 => r1 + r2))
abbrev rmX3_toldAt : Room := { frames := 2, cells := 0, slots := 0, locals := 49 }
set_option maxHeartbeats 4000000 in
set_option maxRecDepth 100000 in
theorem mX3_toldAt (l : Launch) (X : kX) (b : Nat) (V : Mem) (a1 : Int32) (a2 : Int32) (out : Int32) (hE : fX3_toldAt V a1 a2 = out) : MR l yX3_toldAt wsX3_toldAt rmX3_toldAt X [.ref (b + 1), .int a1, .int a2] (RP X LW b V) (some (.int out)) := by
  refine mt_head (cc := cX3_toldAt) (maxL := 3) (ret := (some .int)) (own := RX3) (by decide) rfl rfl (Nat.le_of_ble_eq_true rfl) ?_
  intro p e s m below meth c ls F hr hlocks hnm hR hl
  have hx := F.1.1
  have hb := F.1.2.1
  have hl : lv_has ls 3 [(0, .ref (b + 1)), (1, .int a1), (2, .int a2)] := hl
  unfold fX3_toldAt at hE
  refine lv_aload_n hx hb dX3_toldAt_0 rfl (lv_at hl 0 rfl) ?_
  refine lv_iload_n hx hb dX3_toldAt_1 rfl (lv_at hl 1 rfl) ?_
  refine lv_iload_n hx hb dX3_toldAt_2 rfl (lv_at hl 2 rfl) ?_
  obtain ⟨r1, er1, hE⟩ := lt_el hE
  refine rg_callRV (As := [.int a1, .int a2]) (rest := []) F (kX3_levelAt l X b V a1 a2 r1 er1) (cwV 2 F.1.2.2.2.2 gX3_toldAt_X3_levelAt rfl rfl rfl hvX3_levelAt ⟨Nat.le_of_ble_eq_true rfl, Nat.le_of_ble_eq_true rfl⟩) (rp_recv F hR 1 rfl (C := RX3) (T := TX3) (N := 4) rfl rfl) hR rfl hl.1 (Nat.le_of_ble_eq_true rfl) dX3_toldAt_3 ⟨Nat.zero_le _, Nat.zero_le _⟩ rfl ?_
  refine lv_aload_n hx hb dX3_toldAt_6 rfl (lv_at hl 0 rfl) ?_
  refine rg_getr F hR 1 (ci := 3) rfl (C := RX3) (T := TX3) (N := 4) rfl iwX3_toldAt_X3 3 (d := 7) (n := 8) rfl rfl (by decide) rfl lkX3_toldAt_0 rfl dX3_toldAt_7 ?_
  refine lv_iload_n hx hb dX3_toldAt_10 rfl (lv_at hl 1 rfl) ?_
  obtain ⟨r2, er2, hE⟩ := lt_el hE
  refine rg_callRV (As := [.int a1]) (rest := [.int r1]) F (kX0_get l X 2 (by decide) (b + 8) (gv V 8) a1 r2 er2) (cwV 1 F.1.2.2.2.2 gX3_toldAt_X0_get rfl rfl rfl hvX0_get ⟨Nat.le_of_ble_eq_true rfl, Nat.le_of_ble_eq_true rfl⟩) (rp_recv F hR 8 rfl (C := RX0) (T := TX0) (N := 1) rfl rfl) (hR.sub 8 sb_LW_8_LC2) rfl hl.1 (Nat.le_of_ble_eq_true rfl) dX3_toldAt_11 ⟨Nat.zero_le _, Nat.zero_le _⟩ rfl ?_
  refine lv_iadd hx hb dX3_toldAt_14 ?_
  subst hE
  exact W.iret (v := r1 + r2) hx hb hr (fun t ht _ => ⟨rfl, ht⟩) (fun _ h => absurd h List.not_mem_nil) dX3_toldAt_15
theorem hvX3_toldAt : yX3_toldAt.cls = RX3 ∧ yX3_toldAt.cls ≠ "java/lang/invoke/MethodHandle" ∧ yX3_toldAt.cls ≠ "java/lang/invoke/VarHandle" ∧ (parseMethodDescriptor yX3_toldAt.desc).map (fun d => d.parameters.length) = some 2 := by decide +kernel
def fX3_gapAt (V : Mem) (a1 : Int32) : Int32 := lt (fX3_toldAt V ((0 : Int32)) a1) (fun r1 => lt (fX3_toldAt V ((1 : Int32)) a1) (fun r2 => r1 - r2))
abbrev rmX3_gapAt : Room := { frames := 3, cells := 0, slots := 0, locals := 71 }
set_option maxHeartbeats 4000000 in
set_option maxRecDepth 100000 in
theorem mX3_gapAt (l : Launch) (X : kX) (b : Nat) (V : Mem) (a1 : Int32) (out : Int32) (hE : fX3_gapAt V a1 = out) : MR l yX3_gapAt wsX3_gapAt rmX3_gapAt X [.ref (b + 1), .int a1] (RP X LW b V) (some (.int out)) := by
  refine mt_head (cc := cX3_gapAt) (maxL := 2) (ret := (some .int)) (own := RX3) (by decide) rfl rfl (Nat.le_of_ble_eq_true rfl) ?_
  intro p e s m below meth c ls F hr hlocks hnm hR hl
  have hx := F.1.1
  have hb := F.1.2.1
  have hl : lv_has ls 2 [(0, .ref (b + 1)), (1, .int a1)] := hl
  unfold fX3_gapAt at hE
  refine lv_aload_n hx hb dX3_gapAt_0 rfl (lv_at hl 0 rfl) ?_
  refine lv_iconst (v := 0) hx hb dX3_gapAt_1 (by decide) ?_
  refine lv_iload_n hx hb dX3_gapAt_2 rfl (lv_at hl 1 rfl) ?_
  obtain ⟨r1, er1, hE⟩ := lt_el hE
  refine rg_callRV (As := [.int ((0 : Int32)), .int a1]) (rest := []) F (mX3_toldAt l X b V ((0 : Int32)) a1 r1 er1) (cwV 2 F.1.2.2.2.2 gX3_gapAt_X3_toldAt rfl rfl rfl hvX3_toldAt ⟨Nat.le_of_ble_eq_true rfl, Nat.le_of_ble_eq_true rfl⟩) (rp_recv F hR 1 rfl (C := RX3) (T := TX3) (N := 4) rfl rfl) hR rfl hl.1 (Nat.le_of_ble_eq_true rfl) dX3_gapAt_3 ⟨Nat.zero_le _, Nat.zero_le _⟩ rfl ?_
  refine lv_aload_n hx hb dX3_gapAt_6 rfl (lv_at hl 0 rfl) ?_
  refine lv_iconst (v := 1) hx hb dX3_gapAt_7 (by decide) ?_
  refine lv_iload_n hx hb dX3_gapAt_8 rfl (lv_at hl 1 rfl) ?_
  obtain ⟨r2, er2, hE⟩ := lt_el hE
  refine rg_callRV (As := [.int ((1 : Int32)), .int a1]) (rest := [.int r1]) F (mX3_toldAt l X b V ((1 : Int32)) a1 r2 er2) (cwV 2 F.1.2.2.2.2 gX3_gapAt_X3_toldAt rfl rfl rfl hvX3_toldAt ⟨Nat.le_of_ble_eq_true rfl, Nat.le_of_ble_eq_true rfl⟩) (rp_recv F hR 1 rfl (C := RX3) (T := TX3) (N := 4) rfl rfl) hR rfl hl.1 (Nat.le_of_ble_eq_true rfl) dX3_gapAt_9 ⟨Nat.zero_le _, Nat.zero_le _⟩ rfl ?_
  refine lv_isub hx hb dX3_gapAt_12 ?_
  subst hE
  exact W.iret (v := r1 - r2) hx hb hr (fun t ht _ => ⟨rfl, ht⟩) (fun _ h => absurd h List.not_mem_nil) dX3_gapAt_13
