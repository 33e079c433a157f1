set_option maxRecDepth 20000 in
theorem lkX4_addLast_0 : Cond.fieldLink RX4 35 "TideWords$Words" "rowLengths" "LTideWords$Cells;" ∈ wsX4_addLast := by decide +kernel
set_option maxRecDepth 20000 in
theorem iwX4_addLast_X4 : ∀ w ∈ wsX40, w ∈ wsX4_addLast := by decide +kernel
set_option maxRecDepth 20000 in
theorem lkX4_addLast_1 : Cond.fieldLink RX4 32 "TideWords$Words" "rows" "LTideWords$Cells;" ∈ wsX4_addLast := by decide +kernel
def fX4_addLast (V : Mem) (a1 : Int32) (a2 : Int32) : Mem := lt (cget 2 (V 41) a1) (fun r1 => if (12 : Int32) ≤ r1 then V else lt (cset V 39 24 ((a1 * ((12 : Int32))) + r1) a2) (fun V3 => lt (cset V3 41 2 a1 (r1 + ((1 : Int32)))) (fun V4 => V4)))
abbrev rmX4_addLast : Room := { frames := 1, cells := 0, slots := 0, locals := 22 }
set_option maxHeartbeats 4000000 in
set_option maxRecDepth 100000 in
theorem mX4_addLast (l : Launch) (X : kX) (b : Nat) (V : Mem) (a1 : Int32) (a2 : Int32) (out : Mem) (hE : fX4_addLast V a1 a2 = out) : MW l yX4_addLast wsX4_addLast rmX4_addLast X [.ref (b + 27), .int a1, .int a2] (RP X LW b V) (none) b (b + LW.length) (RP X LW b out) := by
  refine mt_head (cc := cX4_addLast) (maxL := 4) (ret := none) (own := RX4) (by decide) rfl rfl (Nat.le_of_ble_eq_true rfl) ?_
  intro p e s m below meth c ls F hr hlocks hnm hR hl
  have hx := F.1.1
  have hb := F.1.2.1
  have hH : Hp (t_fr b (b + LW.length)) s.heap s.heap.size X LW b V s.heap [] := ⟨hR, va_S.rf, rfl⟩
  have hl : lv_has ls 4 [(0, .ref (b + 27)), (1, .int a1), (2, .int a2)] := hl
  unfold fX4_addLast at hE
  refine lv_aload_n hx hb dX4_addLast_0 rfl (lv_at hl 0 rfl) ?_
  refine rg_getr F hH.1 27 (ci := 4) rfl (C := RX4) (T := TX4) (N := 8) rfl iwX4_addLast_X4 6 (d := 13) (n := 40) rfl rfl (by decide) rfl lkX4_addLast_0 rfl dX4_addLast_1 ?_
  refine lv_iload_n hx hb dX4_addLast_4 rfl (lv_at hl 1 rfl) ?_
  obtain ⟨r1, er1, hE⟩ := lt_el hE
  refine rg_callRV (As := [.int a1]) (rest := []) F (kX0_get l X 2 (by decide) (b + 40) (gv V 40) a1 r1 er1) (cwV 1 F.1.2.2.2.2 gX4_addLast_X0_get rfl rfl rfl hvX0_get ⟨Nat.le_of_ble_eq_true rfl, Nat.le_of_ble_eq_true rfl⟩) (rp_recv F hH.1 40 rfl (C := RX0) (T := TX0) (N := 1) rfl rfl) (hH.1.sub 40 sb_LW_40_LC2) rfl hl.1 (Nat.le_of_ble_eq_true rfl) dX4_addLast_5 ⟨Nat.zero_le _, Nat.zero_le _⟩ rfl ?_
  refine lv_istore_n (lv' := [(3, .int r1), (0, .ref (b + 27)), (1, .int a1), (2, .int a2)]) hx hb dX4_addLast_8 rfl hl (by decide) rfl (fun ls hl => ?_)
  refine lv_iload_n hx hb dX4_addLast_9 rfl (lv_at hl 0 rfl) ?_
  refine lv_bipush (v := 12) hx hb dX4_addLast_10 (by decide) ?_
  refine lv_icmp_ge (tgt := 40) hx hb dX4_addLast_12 (by decide) (fun c2 => ?_) (fun c2 => ?_)
  · have hE := (if_pos c2).symm.trans hE
    subst hE
    exact W.vret hx hb hr (fun t ht _ => mw_post hH ht) hH.2.1.2.2 dX4_addLast_40
  · have hE := (if_neg c2).symm.trans hE
    refine lv_aload_n hx hb dX4_addLast_15 rfl (lv_at hl 1 rfl) ?_
    refine rg_getr F hH.1 27 (ci := 4) rfl (C := RX4) (T := TX4) (N := 8) rfl iwX4_addLast_X4 5 (d := 11) (n := 38) rfl rfl (by decide) rfl lkX4_addLast_1 rfl dX4_addLast_16 ?_
    refine lv_iload_n hx hb dX4_addLast_19 rfl (lv_at hl 2 rfl) ?_
    refine lv_bipush (v := 12) hx hb dX4_addLast_20 (by decide) ?_
    refine lv_imul hx hb dX4_addLast_22 ?_
    refine lv_iload_n hx hb dX4_addLast_23 rfl (lv_at hl 0 rfl) ?_
    refine lv_iadd hx hb dX4_addLast_24 ?_
    refine lv_iload_n hx hb dX4_addLast_25 rfl (lv_at hl 3 rfl) ?_
    obtain ⟨V3, eV3, hE⟩ := lt_el hE
    refine rg_callWV (As := [.int ((a1 * ((12 : Int32))) + r1), .int a2]) (rest := []) F hH (fun q h1 h2 => ⟨h1, h2⟩) 38 sb_LW_38_LC24 (kX0_set l X 24 (by decide) (b + 38) (gv V 38) ((a1 * ((12 : Int32))) + r1) a2 _ rfl) (cwV 2 F.1.2.2.2.2 gX4_addLast_X0_set rfl rfl rfl hvX0_set ⟨Nat.le_of_ble_eq_true rfl, Nat.le_of_ble_eq_true rfl⟩) (rp_recv F hH.1 38 rfl (C := RX0) (T := TX0) (N := 1) rfl rfl) (hH.1.sub 38 sb_LW_38_LC24) rfl hl.1 (Nat.le_of_ble_eq_true rfl) dX4_addLast_26 ⟨Nat.zero_le _, Nat.zero_le _⟩ rfl ((pv_cset ..).trans eV3) (fun H locs hH hfr => ?_)
    refine lv_aload_n hx hb dX4_addLast_29 rfl (lv_at hl 1 rfl) ?_
    refine rg_getr F hH.1 27 (ci := 4) rfl (C := RX4) (T := TX4) (N := 8) rfl iwX4_addLast_X4 6 (d := 13) (n := 40) rfl rfl (by decide) rfl lkX4_addLast_0 rfl dX4_addLast_30 ?_
    refine lv_iload_n hx hb dX4_addLast_33 rfl (lv_at hl 2 rfl) ?_
    refine lv_iload_n hx hb dX4_addLast_34 rfl (lv_at hl 0 rfl) ?_
    refine lv_iconst (v := 1) hx hb dX4_addLast_35 (by decide) ?_
    refine lv_iadd hx hb dX4_addLast_36 ?_
    obtain ⟨V4, eV4, hE⟩ := lt_el hE
    refine rg_callWV (As := [.int a1, .int (r1 + ((1 : Int32)))]) (rest := []) F hH (fun q h1 h2 => ⟨h1, h2⟩) 40 sb_LW_40_LC2 (kX0_set l X 2 (by decide) (b + 40) (gv V3 40) a1 (r1 + ((1 : Int32))) _ rfl) (cwV 2 F.1.2.2.2.2 gX4_addLast_X0_set rfl rfl rfl hvX0_set ⟨Nat.le_of_ble_eq_true rfl, Nat.le_of_ble_eq_true rfl⟩) (rp_recv F hH.1 40 rfl (C := RX0) (T := TX0) (N := 1) rfl rfl) (hH.1.sub 40 sb_LW_40_LC2) rfl hl.1 (Nat.le_of_ble_eq_true rfl) dX4_addLast_37 ⟨Nat.zero_le _, Nat.zero_le _⟩ rfl ((pv_cset ..).trans eV4) (fun H locs hH hfr => ?_)
    subst hE
    exact W.vret hx hb hr (fun t ht _ => mw_post hH ht) hH.2.1.2.2 dX4_addLast_40
set_option maxRecDepth 20000 in
theorem lkX4_startWord_0 : Cond.fieldLink RX4 38 "TideWords$Words" "total" "I" ∈ wsX4_startWord := by decide +kernel
set_option maxRecDepth 20000 in
theorem iwX4_startWord_X4 : ∀ w ∈ wsX40, w ∈ wsX4_startWord := by decide +kernel
set_option maxRecDepth 20000 in
theorem lkX4_startWord_1 : Cond.fieldLink RX4 14 "TideWords$Words" "lengths" "LTideWords$Cells;" ∈ wsX4_startWord := by decide +kernel
set_option maxRecDepth 20000 in
theorem lkX4_startWord_2 : Cond.fieldLink RX4 23 "TideWords$Words" "passedSteps" "LTideWords$Cells;" ∈ wsX4_startWord := by decide +kernel
set_option maxRecDepth 20000 in
theorem lkX4_startWord_3 : Cond.fieldLink RX4 26 "TideWords$Words" "passedGates" "LTideWords$Cells;" ∈ wsX4_startWord := by decide +kernel
set_option maxRecDepth 20000 in
theorem sb_LW_34_LC12 : sbL LW 34 (LC 12) := sbl_of rfl
theorem hvX4_addLast : yX4_addLast.cls = RX4 ∧ yX4_addLast.cls ≠ "java/lang/invoke/MethodHandle" ∧ yX4_addLast.cls ≠ "java/lang/invoke/VarHandle" ∧ (parseMethodDescriptor yX4_addLast.desc).map (fun d => d.parameters.length) = some 2 := by decide +kernel
def fX4_startWord (V : Mem) (a1 : Int32) : Mem := if V 27 0 < (12 : Int32) then lt (cset V 29 12 (V 27 0) ((0 : Int32))) (fun V2 => lt (cset V2 33 12 (V 27 0) ((-1006 : Int32))) (fun V3 => lt (cset V3 35 12 (V 27 0) ((-1006 : Int32))) (fun V4 => lt (fX4_addLast V4 a1 (V 27 0)) (fun U5 => lt (sv U5 27 0 ((U5 27 0) + ((1 : Int32)))) (fun V6 => V6))))) else V
abbrev rmX4_startWord : Room := { frames := 2, cells := 0, slots := 0, locals := 45 }
set_option maxHeartbeats 4000000 in
set_option maxRecDepth 100000 in
theorem mX4_startWord (l : Launch) (X : kX) (b : Nat) (V : Mem) (a1 : Int32) (out : Mem) (hE : fX4_startWord V a1 = out) : MW l yX4_startWord wsX4_startWord rmX4_startWord X [.ref (b + 27), .int a1] (RP X LW b V) (none) b (b + LW.length) (RP X LW b out) := by
  refine mt_head (cc := cX4_startWord) (maxL := 3) (ret := none) (own := RX4) (by decide) rfl rfl (Nat.le_of_ble_eq_true rfl) ?_
  intro p e s m below meth c ls F hr hlocks hnm hR hl
  have hx := F.1.1
  have hb := F.1.2.1
  have hH : Hp (t_fr b (b + LW.length)) s.heap s.heap.size X LW b V s.heap [] := ⟨hR, va_S.rf, rfl⟩
  have hl : lv_has ls 3 [(0, .ref (b + 27)), (1, .int a1)] := hl
  unfold fX4_startWord at hE
  refine lv_aload_n hx hb dX4_startWord_0 rfl (lv_at hl 0 rfl) ?_
  refine rg_geti F hH.1 27 (ci := 4) rfl (C := RX4) (T := TX4) (N := 8) rfl iwX4_startWord_X4 7 (i := 0) rfl (by decide) rfl lkX4_startWord_0 rfl dX4_startWord_1 ?_
  refine lv_istore_n (lv' := [(2, .int (V 27 0)), (0, .ref (b + 27)), (1, .int a1)]) hx hb dX4_startWord_4 rfl hl (by decide) rfl (fun ls hl => ?_)
  refine lv_iload_n hx hb dX4_startWord_5 rfl (lv_at hl 0 rfl) ?_
  refine lv_bipush (v := 12) hx hb dX4_startWord_6 (by decide) ?_
  refine lv_icmp_lt (tgt := 12) hx hb dX4_startWord_8 (by decide) (fun c1 => ?_) (fun c1 => ?_)
  · have hE := (if_pos c1).symm.trans hE
    refine lv_aload_n hx hb dX4_startWord_12 rfl (lv_at hl 1 rfl) ?_
    refine rg_getr F hH.1 27 (ci := 4) rfl (C := RX4) (T := TX4) (N := 8) rfl iwX4_startWord_X4 0 (d := 1) (n := 28) rfl rfl (by decide) rfl lkX4_startWord_1 rfl dX4_startWord_13 ?_
    refine lv_iload_n hx hb dX4_startWord_16 rfl (lv_at hl 0 rfl) ?_
    refine lv_iconst (v := 0) hx hb dX4_startWord_17 (by decide) ?_
    obtain ⟨V2, eV2, hE⟩ := lt_el hE
    refine rg_callWV (As := [.int (V 27 0), .int ((0 : Int32))]) (rest := []) F hH (fun q h1 h2 => ⟨h1, h2⟩) 28 sb_LW_28_LC12 (kX0_set l X 12 (by decide) (b + 28) (gv V 28) (V 27 0) ((0 : Int32)) _ rfl) (cwV 2 F.1.2.2.2.2 gX4_startWord_X0_set rfl rfl rfl hvX0_set ⟨Nat.le_of_ble_eq_true rfl, Nat.le_of_ble_eq_true rfl⟩) (rp_recv F hH.1 28 rfl (C := RX0) (T := TX0) (N := 1) rfl rfl) (hH.1.sub 28 sb_LW_28_LC12) rfl hl.1 (Nat.le_of_ble_eq_true rfl) dX4_startWord_18 ⟨Nat.zero_le _, Nat.zero_le _⟩ rfl ((pv_cset ..).trans eV2) (fun H locs hH hfr => ?_)
    refine lv_aload_n hx hb dX4_startWord_21 rfl (lv_at hl 1 rfl) ?_
    refine rg_getr F hH.1 27 (ci := 4) rfl (C := RX4) (T := TX4) (N := 8) rfl iwX4_startWord_X4 2 (d := 5) (n := 32) rfl rfl (by decide) rfl lkX4_startWord_2 rfl dX4_startWord_22 ?_
    refine lv_iload_n hx hb dX4_startWord_25 rfl (lv_at hl 0 rfl) ?_
    refine lv_sipush (v := (-1006)) hx hb dX4_startWord_26 (by decide) ?_
    obtain ⟨V3, eV3, hE⟩ := lt_el hE
    refine rg_callWV (As := [.int (V 27 0), .int ((-1006 : Int32))]) (rest := []) F hH (fun q h1 h2 => ⟨h1, h2⟩) 32 sb_LW_32_LC12 (kX0_set l X 12 (by decide) (b + 32) (gv V2 32) (V 27 0) ((-1006 : Int32)) _ rfl) (cwV 2 F.1.2.2.2.2 gX4_startWord_X0_set rfl rfl rfl hvX0_set ⟨Nat.le_of_ble_eq_true rfl, Nat.le_of_ble_eq_true rfl⟩) (rp_recv F hH.1 32 rfl (C := RX0) (T := TX0) (N := 1) rfl rfl) (hH.1.sub 32 sb_LW_32_LC12) rfl hl.1 (Nat.le_of_ble_eq_true rfl) dX4_startWord_29 ⟨Nat.zero_le _, Nat.zero_le _⟩ rfl ((pv_cset ..).trans eV3) (fun H locs hH hfr => ?_)
    refine lv_aload_n hx hb dX4_startWord_32 rfl (lv_at hl 1 rfl) ?_
    refine rg_getr F hH.1 27 (ci := 4) rfl (C := RX4) (T := TX4) (N := 8) rfl iwX4_startWord_X4 3 (d := 7) (n := 34) rfl rfl (by decide) rfl lkX4_startWord_3 rfl dX4_startWord_33 ?_
    refine lv_iload_n hx hb dX4_startWord_36 rfl (lv_at hl 0 rfl) ?_
    refine lv_sipush (v := (-1006)) hx hb dX4_startWord_37 (by decide) ?_
    obtain ⟨V4, eV4, hE⟩ := lt_el hE
    refine rg_callWV (As := [.int (V 27 0), .int ((-1006 : Int32))]) (rest := []) F hH (fun q h1 h2 => ⟨h1, h2⟩) 34 sb_LW_34_LC12 (kX0_set l X 12 (by decide) (b + 34) (gv V3 34) (V 27 0) ((-1006 : Int32)) _ rfl) (cwV 2 F.1.2.2.2.2 gX4_startWord_X0_set rfl rfl rfl hvX0_set ⟨Nat.le_of_ble_eq_true rfl, Nat.le_of_ble_eq_true rfl⟩) (rp_recv F hH.1 34 rfl (C := RX0) (T := TX0) (N := 1) rfl rfl) (hH.1.sub 34 sb_LW_34_LC12) rfl hl.1 (Nat.le_of_ble_eq_true rfl) dX4_startWord_40 ⟨Nat.zero_le _, Nat.zero_le _⟩ rfl ((pv_cset ..).trans eV4) (fun H locs hH hfr => ?_)
    refine lv_aload_n hx hb dX4_startWord_43 rfl (lv_at hl 1 rfl) ?_
    refine lv_iload_n hx hb dX4_startWord_44 rfl (lv_at hl 2 rfl) ?_
    refine lv_iload_n hx hb dX4_startWord_45 rfl (lv_at hl 0 rfl) ?_
    obtain ⟨U5, eU5, hE⟩ := lt_el hE
    refine rg_callWS (As := [.int a1, .int (V 27 0)]) (rest := []) F hH (fun q h1 h2 => ⟨h1, h2⟩) (mX4_addLast l X b V4 a1 (V 27 0) U5 eU5) (cwV 2 F.1.2.2.2.2 gX4_startWord_X4_addLast rfl rfl rfl hvX4_addLast ⟨Nat.le_of_ble_eq_true rfl, Nat.le_of_ble_eq_true rfl⟩) (rp_recv F hH.1 27 rfl (C := RX4) (T := TX4) (N := 8) rfl rfl) hH.1 rfl hl.1 (Nat.le_of_ble_eq_true rfl) dX4_startWord_46 ⟨Nat.zero_le _, Nat.zero_le _⟩ rfl (fun H locs hH => ?_)
    refine lv_aload_n hx hb dX4_startWord_49 rfl (lv_at hl 1 rfl) ?_
    refine lv_dup hx hb dX4_startWord_50 rfl ?_
    refine rg_geti F hH.1 27 (ci := 4) rfl (C := RX4) (T := TX4) (N := 8) rfl iwX4_startWord_X4 7 (i := 0) rfl (by decide) rfl lkX4_startWord_0 rfl dX4_startWord_51 ?_
    refine lv_iconst (v := 1) hx hb dX4_startWord_54 (by decide) ?_
    refine lv_iadd hx hb dX4_startWord_55 ?_
    obtain ⟨V6, eV6, hE⟩ := lt_el hE
    refine rg_put F hH (fun q h1 h2 => ⟨h1, h2⟩) 27 (ci := 4) rfl (C := RX4) (T := TX4) (N := 8) rfl iwX4_startWord_X4 tyX4 tyX4_ok nmX4 7 (i := 0) rfl (by decide) (by decide) rfl rfl (by decide +kernel) lkX4_startWord_0 rfl dX4_startWord_56 (fun H locs hH hfr => ?_)
    replace hH := hp_cast eV6 hH
    subst hE
    exact W.vret hx hb hr (fun t ht _ => mw_post hH ht) hH.2.1.2.2 dX4_startWord_59
  · have hE := (if_neg c1).symm.trans hE
    subst hE
    exact W.vret hx hb hr (fun t ht _ => mw_post hH ht) hH.2.1.2.2 dX4_startWord_11
set_option maxRecDepth 20000 in
theorem lkX4_addLetter_0 : Cond.fieldLink RX4 38 "TideWords$Words" "total" "I" ∈ wsX4_addLetter := by decide +kernel
set_option maxRecDepth 20000 in
theorem iwX4_addLetter_X4 : ∀ w ∈ wsX40, w ∈ wsX4_addLetter := by decide +kernel
set_option maxRecDepth 20000 in
theorem lkX4_addLetter_1 : Cond.fieldLink RX4 14 "TideWords$Words" "lengths" "LTideWords$Cells;" ∈ wsX4_addLetter := by decide +kernel
set_option maxRecDepth 20000 in
theorem lkX4_addLetter_2 : Cond.fieldLink RX4 20 "TideWords$Words" "letters" "LTideWords$Cells;" ∈ wsX4_addLetter := by decide +kernel
theorem hvX0_add : yX0_add.cls = RX0 ∧ yX0_add.cls ≠ "java/lang/invoke/MethodHandle" ∧ yX0_add.cls ≠ "java/lang/invoke/VarHandle" ∧ (parseMethodDescriptor yX0_add.desc).map (fun d => d.parameters.length) = some 2 := by decide +kernel
def fX4_addLetter (V : Mem) (a1 : Int32) : Mem := lt (cget 12 (V 29) ((V 27 0) - ((1 : Int32)))) (fun r1 => if (6 : Int32) ≤ r1 then V else lt (cset V 31 72 ((((V 27 0) - ((1 : Int32))) * ((6 : Int32))) + r1) a1) (fun V3 => lt (cadd V3 29 12 ((V 27 0) - ((1 : Int32))) ((1 : Int32))) (fun V4 => V4)))
abbrev rmX4_addLetter : Room := { frames := 1, cells := 0, slots := 0, locals := 22 }
set_option maxHeartbeats 4000000 in
set_option maxRecDepth 100000 in
theorem mX4_addLetter (l : Launch) (X : kX) (b : Nat) (V : Mem) (a1 : Int32) (out : Mem) (hE : fX4_addLetter V a1 = out) : MW l yX4_addLetter wsX4_addLetter rmX4_addLetter X [.ref (b + 27), .int a1] (RP X LW b V) (none) b (b + LW.length) (RP X LW b out) := by
  refine mt_head (cc := cX4_addLetter) (maxL := 4) (ret := none) (own := RX4) (by decide) rfl rfl (Nat.le_of_ble_eq_true rfl) ?_
  intro p e s m below meth c ls F hr hlocks hnm hR hl
  have hx := F.1.1
  have hb := F.1.2.1
  have hH : Hp (t_fr b (b + LW.length)) s.heap s.heap.size X LW b V s.heap [] := ⟨hR, va_S.rf, rfl⟩
  have hl : lv_has ls 4 [(0, .ref (b + 27)), (1, .int a1)] := hl
  unfold fX4_addLetter at hE
  refine lv_aload_n hx hb dX4_addLetter_0 rfl (lv_at hl 0 rfl) ?_
  refine rg_geti F hH.1 27 (ci := 4) rfl (C := RX4) (T := TX4) (N := 8) rfl iwX4_addLetter_X4 7 (i := 0) rfl (by decide) rfl lkX4_addLetter_0 rfl dX4_addLetter_1 ?_
  refine lv_iconst (v := 1) hx hb dX4_addLetter_4 (by decide) ?_
  refine lv_isub hx hb dX4_addLetter_5 ?_
  refine lv_istore_n (lv' := [(2, .int ((V 27 0) - ((1 : Int32)))), (0, .ref (b + 27)), (1, .int a1)]) hx hb dX4_addLetter_6 rfl hl (by decide) rfl (fun ls hl => ?_)
  refine lv_aload_n hx hb dX4_addLetter_7 rfl (lv_at hl 1 rfl) ?_
  refine rg_getr F hH.1 27 (ci := 4) rfl (C := RX4) (T := TX4) (N := 8) rfl iwX4_addLetter_X4 0 (d := 1) (n := 28) rfl rfl (by decide) rfl lkX4_addLetter_1 rfl dX4_addLetter_8 ?_
  refine lv_iload_n hx hb dX4_addLetter_11 rfl (lv_at hl 0 rfl) ?_
  obtain ⟨r1, er1, hE⟩ := lt_el hE
  refine rg_callRV (As := [.int ((V 27 0) - ((1 : Int32)))]) (rest := []) F (kX0_get l X 12 (by decide) (b + 28) (gv V 28) ((V 27 0) - ((1 : Int32))) r1 er1) (cwV 1 F.1.2.2.2.2 gX4_addLetter_X0_get rfl rfl rfl hvX0_get ⟨Nat.le_of_ble_eq_true rfl, Nat.le_of_ble_eq_true rfl⟩) (rp_recv F hH.1 28 rfl (C := RX0) (T := TX0) (N := 1) rfl rfl) (hH.1.sub 28 sb_LW_28_LC12) rfl hl.1 (Nat.le_of_ble_eq_true rfl) dX4_addLetter_12 ⟨Nat.zero_le _, Nat.zero_le _⟩ rfl ?_
  refine lv_istore_n (lv' := [(3, .int r1), (2, .int ((V 27 0) - ((1 : Int32)))), (0, .ref (b + 27)), (1, .int a1)]) hx hb dX4_addLetter_15 rfl hl (by decide) rfl (fun ls hl => ?_)
  refine lv_iload_n hx hb dX4_addLetter_16 rfl (lv_at hl 0 rfl) ?_
  refine lv_bipush (v := 6) hx hb dX4_addLetter_17 (by decide) ?_
  refine lv_icmp_ge (tgt := 45) hx hb dX4_addLetter_19 (by decide) (fun c2 => ?_) (fun c2 => ?_)
  · have hE := (if_pos c2).symm.trans hE
    subst hE
    exact W.vret hx hb hr (fun t ht _ => mw_post hH ht) hH.2.1.2.2 dX4_addLetter_45
  · have hE := (if_neg c2).symm.trans hE
    refine lv_aload_n hx hb dX4_addLetter_22 rfl (lv_at hl 2 rfl) ?_
    refine rg_getr F hH.1 27 (ci := 4) rfl (C := RX4) (T := TX4) (N := 8) rfl iwX4_addLetter_X4 1 (d := 3) (n := 30) rfl rfl (by decide) rfl lkX4_addLetter_2 rfl dX4_addLetter_23 ?_
    refine lv_iload_n hx hb dX4_addLetter_26 rfl (lv_at hl 1 rfl) ?_
    refine lv_bipush (v := 6) hx hb dX4_addLetter_27 (by decide) ?_
    refine lv_imul hx hb dX4_addLetter_29 ?_
    refine lv_iload_n hx hb dX4_addLetter_30 rfl (lv_at hl 0 rfl) ?_
    refine lv_iadd hx hb dX4_addLetter_31 ?_
    refine lv_iload_n hx hb dX4_addLetter_32 rfl (lv_at hl 3 rfl) ?_
    obtain ⟨V3, eV3, hE⟩ := lt_el hE
    refine rg_callWV (As := [.int ((((V 27 0) - ((1 : Int32))) * ((6 : Int32))) + r1), .int a1]) (rest := []) F hH (fun q h1 h2 => ⟨h1, h2⟩) 30 sb_LW_30_LC72 (kX0_set l X 72 (by decide) (b + 30) (gv V 30) ((((V 27 0) - ((1 : Int32))) * ((6 : Int32))) + r1) a1 _ rfl) (cwV 2 F.1.2.2.2.2 gX4_addLetter_X0_set rfl rfl rfl hvX0_set ⟨Nat.le_of_ble_eq_true rfl, Nat.le_of_ble_eq_true rfl⟩) (rp_recv F hH.1 30 rfl (C := RX0) (T := TX0) (N := 1) rfl rfl) (hH.1.sub 30 sb_LW_30_LC72) rfl hl.1 (Nat.le_of_ble_eq_true rfl) dX4_addLetter_33 ⟨Nat.zero_le _, Nat.zero_le _⟩ rfl ((pv_cset ..).trans eV3) (fun H locs hH hfr => ?_)
    refine lv_aload_n hx hb dX4_addLetter_36 rfl (lv_at hl 2 rfl) ?_
    refine rg_getr F hH.1 27 (ci := 4) rfl (C := RX4) (T := TX4) (N := 8) rfl iwX4_addLetter_X4 0 (d := 1) (n := 28) rfl rfl (by decide) rfl lkX4_addLetter_1 rfl dX4_addLetter_37 ?_
    refine lv_iload_n hx hb dX4_addLetter_40 rfl (lv_at hl 1 rfl) ?_
    refine lv_iconst (v := 1) hx hb dX4_addLetter_41 (by decide) ?_
    obtain ⟨V4, eV4, hE⟩ := lt_el hE
    refine rg_callWV (As := [.int ((V 27 0) - ((1 : Int32))), .int ((1 : Int32))]) (rest := []) F hH (fun q h1 h2 => ⟨h1, h2⟩) 28 sb_LW_28_LC12 (kX0_add l X 12 (by decide) (b + 28) (gv V3 28) ((V 27 0) - ((1 : Int32))) ((1 : Int32)) _ rfl) (cwV 2 F.1.2.2.2.2 gX4_addLetter_X0_add rfl rfl rfl hvX0_add ⟨Nat.le_of_ble_eq_true rfl, Nat.le_of_ble_eq_true rfl⟩) (rp_recv F hH.1 28 rfl (C := RX0) (T := TX0) (N := 1) rfl rfl) (hH.1.sub 28 sb_LW_28_LC12) rfl hl.1 (Nat.le_of_ble_eq_true rfl) dX4_addLetter_42 ⟨Nat.zero_le _, Nat.zero_le _⟩ rfl ((pv_cadd ..).trans eV4) (fun H locs hH hfr => ?_)
    subst hE
    exact W.vret hx hb hr (fun t ht _ => mw_post hH ht) hH.2.1.2.2 dX4_addLetter_45
set_option maxRecDepth 20000 in
theorem lkX4_markPassed_0 : Cond.fieldLink RX4 23 "TideWords$Words" "passedSteps" "LTideWords$Cells;" ∈ wsX4_markPassed := by decide +kernel
set_option maxRecDepth 20000 in
theorem iwX4_markPassed_X4 : ∀ w ∈ wsX40, w ∈ wsX4_markPassed := by decide +kernel
set_option maxRecDepth 20000 in
theorem lkX4_markPassed_1 : Cond.fieldLink RX4 26 "TideWords$Words" "passedGates" "LTideWords$Cells;" ∈ wsX4_markPassed := by decide +kernel
def fX4_markPassed (V : Mem) (a1 : Int32) (a2 : Int32) (a3 : Int32) : Mem := lt (cset V 33 12 a1 a2) (fun V1 => lt (cset V1 35 12 a1 a3) (fun V2 => V2))
abbrev rmX4_markPassed : Room := { frames := 1, cells := 0, slots := 0, locals := 22 }
set_option maxHeartbeats 4000000 in
set_option maxRecDepth 100000 in
theorem mX4_markPassed (l : Launch) (X : kX) (b : Nat) (V : Mem) (a1 : Int32) (a2 : Int32) (a3 : Int32) (out : Mem) (hE : fX4_markPassed V a1 a2 a3 = out) : MW l yX4_markPassed wsX4_markPassed rmX4_markPassed X [.ref (b + 27), .int a1, .int a2, .int a3] (RP X LW b V) (none) b (b + LW.length) (RP X LW b out) := by
  refine mt_head (cc := cX4_markPassed) (maxL := 4) (ret := none) (own := RX4) (by decide) rfl rfl (Nat.le_of_ble_eq_true rfl) ?_
  intro p e s m below meth c ls F hr hlocks hnm hR hl
  have hx := F.1.1
  have hb := F.1.2.1
  have hH : Hp (t_fr b (b + LW.length)) s.heap s.heap.size X LW b V s.heap [] := ⟨hR, va_S.rf, rfl⟩
  have hl : lv_has ls 4 [(0, .ref (b + 27)), (1, .int a1), (2, .int a2), (3, .int a3)] := hl
  unfold fX4_markPassed at hE
  refine lv_aload_n hx hb dX4_markPassed_0 rfl (lv_at hl 0 rfl) ?_
  refine rg_getr F hH.1 27 (ci := 4) rfl (C := RX4) (T := TX4) (N := 8) rfl iwX4_markPassed_X4 2 (d := 5) (n := 32) rfl rfl (by decide) rfl lkX4_markPassed_0 rfl dX4_markPassed_1 ?_
  refine lv_iload_n hx hb dX4_markPassed_4 rfl (lv_at hl 1 rfl) ?_
  refine lv_iload_n hx hb dX4_markPassed_5 rfl (lv_at hl 2 rfl) ?_
  obtain ⟨V1, eV1, hE⟩ := lt_el hE
  refine rg_callWV (As := [.int a1, .int a2]) (rest := []) F hH (fun q h1 h2 => ⟨h1, h2⟩) 32 sb_LW_32_LC12 (kX0_set l X 12 (by decide) (b + 32) (gv V 32) a1 a2 _ rfl) (cwV 2 F.1.2.2.2.2 gX4_markPassed_X0_set rfl rfl rfl hvX0_set ⟨Nat.le_of_ble_eq_true rfl, Nat.le_of_ble_eq_true rfl⟩) (rp_recv F hH.1 32 rfl (C := RX0) (T := TX0) (N := 1) rfl rfl) (hH.1.sub 32 sb_LW_32_LC12) rfl hl.1 (Nat.le_of_ble_eq_true rfl) dX4_markPassed_6 ⟨Nat.zero_le _, Nat.zero_le _⟩ rfl ((pv_cset ..).trans eV1) (fun H locs hH hfr => ?_)
  refine lv_aload_n hx hb dX4_markPassed_9 rfl (lv_at hl 0 rfl) ?_
  refine rg_getr F hH.1 27 (ci := 4) rfl (C := RX4) (T := TX4) (N := 8) rfl iwX4_markPassed_X4 3 (d := 7) (n := 34) rfl rfl (by decide) rfl lkX4_markPassed_1 rfl dX4_markPassed_10 ?_
  refine lv_iload_n hx hb dX4_markPassed_13 rfl (lv_at hl 1 rfl) ?_
  refine lv_iload_n hx hb dX4_markPassed_14 rfl (lv_at hl 3 rfl) ?_
  obtain ⟨V2, eV2, hE⟩ := lt_el hE
  refine rg_callWV (As := [.int a1, .int a3]) (rest := []) F hH (fun q h1 h2 => ⟨h1, h2⟩) 34 sb_LW_34_LC12 (kX0_set l X 12 (by decide) (b + 34) (gv V1 34) a1 a3 _ rfl) (cwV 2 F.1.2.2.2.2 gX4_markPassed_X0_set rfl rfl rfl hvX0_set ⟨Nat.le_of_ble_eq_true rfl, Nat.le_of_ble_eq_true rfl⟩) (rp_recv F hH.1 34 rfl (C := RX0) (T := TX0) (N := 1) rfl rfl) (hH.1.sub 34 sb_LW_34_LC12) rfl hl.1 (Nat.le_of_ble_eq_true rfl) dX4_markPassed_15 ⟨Nat.zero_le _, Nat.zero_le _⟩ rfl ((pv_cset ..).trans eV2) (fun H locs hH hfr => ?_)
  subst hE
  exact W.vret hx hb hr (fun t ht _ => mw_post hH ht) hH.2.1.2.2 dX4_markPassed_18
set_option maxRecDepth 20000 in
theorem lkX4_addFirst_0 : Cond.fieldLink RX4 35 "TideWords$Words" "rowLengths" "LTideWords$Cells;" ∈ wsX4_addFirst := by decide +kernel
set_option maxRecDepth 20000 in
theorem iwX4_addFirst_X4 : ∀ w ∈ wsX40, w ∈ wsX4_addFirst := by decide +kernel
set_option maxRecDepth 20000 in
theorem lkX4_addFirst_1 : Cond.fieldLink RX4 32 "TideWords$Words" "rows" "LTideWords$Cells;" ∈ wsX4_addFirst := by decide +kernel
def lbX4_addFirst_26 (a1 : Int32) (s3 : Int32 × Mem) : Option ((Int32 × Mem) ⊕ (Int32 × Mem)) := if s3.1 ≤ 0 then some (.inr (s3.1, s3.2)) else lt (cget 24 (s3.2 39) (((a1 * ((12 : Int32))) + s3.1) - ((1 : Int32)))) (fun r5 => lt (cset s3.2 39 24 ((a1 * ((12 : Int32))) + s3.1) r5) (fun V6 => some (.inl (s3.1 + (-1), V6))))
def qX4_addFirst (V : Mem) (a1 : Int32) (a2 : Int32) : Option (Mem) := lt (cget 2 (V 41) a1) (fun r1 => if (12 : Int32) ≤ r1 then some (V) else (it (lbX4_addFirst_26 a1) fuel (r1, V)).bind (fun s7 => lt (cset s7.2 39 24 (a1 * ((12 : Int32))) a2) (fun V9 => lt (cset V9 41 2 a1 (r1 + ((1 : Int32)))) (fun V10 => some (V10)))))
abbrev rmX4_addFirst : Room := { frames := 1, cells := 0, slots := 0, locals := 22 }
set_option maxHeartbeats 4000000 in
set_option maxRecDepth 100000 in
theorem mX4_addFirst (l : Launch) (X : kX) (b : Nat) (V : Mem) (a1 : Int32) (a2 : Int32) (out : Mem) (hE : qX4_addFirst V a1 a2 = some out) : MW l yX4_addFirst wsX4_addFirst rmX4_addFirst X [.ref (b + 27), .int a1, .int a2] (RP X LW b V) (none) b (b + LW.length) (RP X LW b out) := by
  refine mt_head (cc := cX4_addFirst) (maxL := 6) (ret := none) (own := RX4) (by decide) rfl rfl (Nat.le_of_ble_eq_true rfl) ?_
  intro p e s m below meth c ls F hr hlocks hnm hR hl
  have hx := F.1.1
  have hb := F.1.2.1
  have hH : Hp (t_fr b (b + LW.length)) s.heap s.heap.size X LW b V s.heap [] := ⟨hR, va_S.rf, rfl⟩
  have hl : lv_has ls 6 [(0, .ref (b + 27)), (1, .int a1), (2, .int a2)] := hl
  unfold qX4_addFirst at hE
  refine lv_iload_n hx hb dX4_addFirst_0 rfl (lv_at hl 1 rfl) ?_
  refine lv_bipush (v := 12) hx hb dX4_addFirst_1 (by decide) ?_
  refine lv_imul hx hb dX4_addFirst_3 ?_
  refine lv_istore_n (lv' := [(3, .int (a1 * ((12 : Int32)))), (0, .ref (b + 27)), (1, .int a1), (2, .int a2)]) hx hb dX4_addFirst_4 rfl hl (by decide) rfl (fun ls hl => ?_)
  refine lv_aload_n hx hb dX4_addFirst_5 rfl (lv_at hl 1 rfl) ?_
  refine rg_getr F hH.1 27 (ci := 4) rfl (C := RX4) (T := TX4) (N := 8) rfl iwX4_addFirst_X4 6 (d := 13) (n := 40) rfl rfl (by decide) rfl lkX4_addFirst_0 rfl dX4_addFirst_6 ?_
  refine lv_iload_n hx hb dX4_addFirst_9 rfl (lv_at hl 2 rfl) ?_
  obtain ⟨r1, er1, hE⟩ := lt_el hE
  refine rg_callRV (As := [.int a1]) (rest := []) F (kX0_get l X 2 (by decide) (b + 40) (gv V 40) a1 r1 er1) (cwV 1 F.1.2.2.2.2 gX4_addFirst_X0_get rfl rfl rfl hvX0_get ⟨Nat.le_of_ble_eq_true rfl, Nat.le_of_ble_eq_true rfl⟩) (rp_recv F hH.1 40 rfl (C := RX0) (T := TX0) (N := 1) rfl rfl) (hH.1.sub 40 sb_LW_40_LC2) rfl hl.1 (Nat.le_of_ble_eq_true rfl) dX4_addFirst_10 ⟨Nat.zero_le _, Nat.zero_le _⟩ rfl ?_
  refine lv_istore (lv' := [(4, .int r1), (3, .int (a1 * ((12 : Int32)))), (0, .ref (b + 27)), (1, .int a1), (2, .int a2)]) hx hb dX4_addFirst_13 hl (by decide) rfl (fun ls hl => ?_)
  refine lv_iload hx hb dX4_addFirst_15 (lv_at hl 0 rfl) ?_
  refine lv_bipush (v := 12) hx hb dX4_addFirst_17 (by decide) ?_
  refine lv_icmp_ge (tgt := 82) hx hb dX4_addFirst_19 (by decide) (fun c2 => ?_) (fun c2 => ?_)
  · have hE := (if_pos c2).symm.trans hE
    have hE := Option.some.inj hE
    subst hE
    exact W.vret hx hb hr (fun t ht _ => mw_post hH ht) hH.2.1.2.2 dX4_addFirst_82
  · have hE := (if_neg c2).symm.trans hE
    refine lv_iload hx hb dX4_addFirst_22 (lv_at hl 0 rfl) ?_
    refine lv_istore (lv' := [(5, .int r1), (4, .int r1), (3, .int (a1 * ((12 : Int32)))), (0, .ref (b + 27)), (1, .int a1), (2, .int a2)]) hx hb dX4_addFirst_24 hl (by decide) rfl (fun ls hl => ?_)
    obtain ⟨x8, hx8, hE⟩ := bd_el hE
    refine it_walk2 (body := lbX4_addFirst_26 a1) (Wh := fun s3 => ∀ (H : Heap) (locs : List Loc) (ls : Array Slot), Hp (t_fr b (b + LW.length)) s.heap s.heap.size X LW b s3.2 H locs → lv_has ls 6 [(5, .int s3.1), (4, .int r1), (3, .int (a1 * ((12 : Int32)))), (0, .ref (b + 27)), (1, .int a1), (2, .int a2)] → W p l e rmX4_addFirst s m ([.ref (b + 27), .int a1, .int a2] : List Value).toArray below meth c H locs 0 0 (MQ below (cQw (none) b (b + LW.length) (RP X LW b out)) ([.ref (b + 27), .int a1, .int a2] : List Value).toArray s 0 0 (t_fr b (b + LW.length))) (F0 m 26 ls [])) (We := fun s7 => ∀ (H : Heap) (locs : List Loc) (ls : Array Slot), Hp (t_fr b (b + LW.length)) s.heap s.heap.size X LW b s7.2 H locs → lv_has ls 6 [(5, .int s7.1), (4, .int r1), (3, .int (a1 * ((12 : Int32)))), (0, .ref (b + 27)), (1, .int a1), (2, .int a2)] → W p l e rmX4_addFirst s m ([.ref (b + 27), .int a1, .int a2] : List Value).toArray below meth c H locs 0 0 (MQ below (cQw (none) b (b + LW.length) (RP X LW b out)) ([.ref (b + 27), .int a1, .int a2] : List Value).toArray s 0 0 (t_fr b (b + LW.length))) (F0 m 61 ls [])) ?_ _ _ _ hx8 ?_ s.heap [] ls hH (lv_sub hl [0, 1, 2, 3, 4, 5] rfl)
    · intro s3 r9 hE hL9 hR9 H locs ls hH hl
      unfold lbX4_addFirst_26 at hE
      refine lv_iload hx hb dX4_addFirst_26 (lv_at hl 0 rfl) ?_
      refine lv_if_le (tgt := 61) hx hb dX4_addFirst_28 (by decide) (fun c4 => ?_) (fun c4 => ?_)
      · have hE := (if_pos c4).symm.trans hE
        cases hE
        exact hR9 _ rfl H locs ls hH (lv_sub hl [0, 1, 2, 3, 4, 5] rfl)
      · have hE := (if_neg c4).symm.trans hE
        refine lv_aload_n hx hb dX4_addFirst_31 rfl (lv_at hl 3 rfl) ?_
        refine rg_getr F hH.1 27 (ci := 4) rfl (C := RX4) (T := TX4) (N := 8) rfl iwX4_addFirst_X4 5 (d := 11) (n := 38) rfl rfl (by decide) rfl lkX4_addFirst_1 rfl dX4_addFirst_32 ?_
        refine lv_iload_n hx hb dX4_addFirst_35 rfl (lv_at hl 2 rfl) ?_
        refine lv_iload hx hb dX4_addFirst_36 (lv_at hl 0 rfl) ?_
        refine lv_iadd hx hb dX4_addFirst_38 ?_
        refine lv_aload_n hx hb dX4_addFirst_39 rfl (lv_at hl 3 rfl) ?_
        refine rg_getr F hH.1 27 (ci := 4) rfl (C := RX4) (T := TX4) (N := 8) rfl iwX4_addFirst_X4 5 (d := 11) (n := 38) rfl rfl (by decide) rfl lkX4_addFirst_1 rfl dX4_addFirst_40 ?_
        refine lv_iload_n hx hb dX4_addFirst_43 rfl (lv_at hl 2 rfl) ?_
        refine lv_iload hx hb dX4_addFirst_44 (lv_at hl 0 rfl) ?_
        refine lv_iadd hx hb dX4_addFirst_46 ?_
        refine lv_iconst (v := 1) hx hb dX4_addFirst_47 (by decide) ?_
        refine lv_isub hx hb dX4_addFirst_48 ?_
        obtain ⟨r5, er5, hE⟩ := lt_el hE
        refine rg_callRV (As := [.int (((a1 * ((12 : Int32))) + s3.1) - ((1 : Int32)))]) (rest := [.int ((a1 * ((12 : Int32))) + s3.1), .ref (b + 38)]) F (kX0_get l X 24 (by decide) (b + 38) (gv s3.2 38) (((a1 * ((12 : Int32))) + s3.1) - ((1 : Int32))) r5 er5) (cwV 1 F.1.2.2.2.2 gX4_addFirst_X0_get rfl rfl rfl hvX0_get ⟨Nat.le_of_ble_eq_true rfl, Nat.le_of_ble_eq_true rfl⟩) (rp_recv F hH.1 38 rfl (C := RX0) (T := TX0) (N := 1) rfl rfl) (hH.1.sub 38 sb_LW_38_LC24) rfl hl.1 (Nat.le_of_ble_eq_true rfl) dX4_addFirst_49 ⟨Nat.zero_le _, Nat.zero_le _⟩ rfl ?_
        obtain ⟨V6, eV6, hE⟩ := lt_el hE
        refine rg_callWV (As := [.int ((a1 * ((12 : Int32))) + s3.1), .int r5]) (rest := []) F hH (fun q h1 h2 => ⟨h1, h2⟩) 38 sb_LW_38_LC24 (kX0_set l X 24 (by decide) (b + 38) (gv s3.2 38) ((a1 * ((12 : Int32))) + s3.1) r5 _ rfl) (cwV 2 F.1.2.2.2.2 gX4_addFirst_X0_set rfl rfl rfl hvX0_set ⟨Nat.le_of_ble_eq_true rfl, Nat.le_of_ble_eq_true rfl⟩) (rp_recv F hH.1 38 rfl (C := RX0) (T := TX0) (N := 1) rfl rfl) (hH.1.sub 38 sb_LW_38_LC24) rfl hl.1 (Nat.le_of_ble_eq_true rfl) dX4_addFirst_52 ⟨Nat.zero_le _, Nat.zero_le _⟩ rfl ((pv_cset ..).trans eV6) (fun H locs hH hfr => ?_)
        refine lv_iinc (v := s3.1 + (-1)) (lv' := [(5, .int (s3.1 + (-1))), (4, .int r1), (3, .int (a1 * ((12 : Int32)))), (0, .ref (b + 27)), (1, .int a1), (2, .int a2)]) hx hb dX4_addFirst_55 hl (k := 0) rfl (congrArg (fun q => s3.1 + q) (by decide)) (by decide) rfl (fun ls hl => ?_)
        refine lv_goto (tgt := 26) hx hb dX4_addFirst_58 (by decide) ?_
        cases hE
        exact hL9 _ rfl H locs ls hH (lv_sub hl [0, 1, 2, 3, 4, 5] rfl)
    · intro H locs ls hH hl
      refine lv_aload_n hx hb dX4_addFirst_61 rfl (lv_at hl 3 rfl) ?_
      refine rg_getr F hH.1 27 (ci := 4) rfl (C := RX4) (T := TX4) (N := 8) rfl iwX4_addFirst_X4 5 (d := 11) (n := 38) rfl rfl (by decide) rfl lkX4_addFirst_1 rfl dX4_addFirst_62 ?_
      refine lv_iload_n hx hb dX4_addFirst_65 rfl (lv_at hl 2 rfl) ?_
      refine lv_iload_n hx hb dX4_addFirst_66 rfl (lv_at hl 5 rfl) ?_
      obtain ⟨V9, eV9, hE⟩ := lt_el hE
      refine rg_callWV (As := [.int (a1 * ((12 : Int32))), .int a2]) (rest := []) F hH (fun q h1 h2 => ⟨h1, h2⟩) 38 sb_LW_38_LC24 (kX0_set l X 24 (by decide) (b + 38) (gv x8.2 38) (a1 * ((12 : Int32))) a2 _ rfl) (cwV 2 F.1.2.2.2.2 gX4_addFirst_X0_set rfl rfl rfl hvX0_set ⟨Nat.le_of_ble_eq_true rfl, Nat.le_of_ble_eq_true rfl⟩) (rp_recv F hH.1 38 rfl (C := RX0) (T := TX0) (N := 1) rfl rfl) (hH.1.sub 38 sb_LW_38_LC24) rfl hl.1 (Nat.le_of_ble_eq_true rfl) dX4_addFirst_67 ⟨Nat.zero_le _, Nat.zero_le _⟩ rfl ((pv_cset ..).trans eV9) (fun H locs hH hfr => ?_)
      refine lv_aload_n hx hb dX4_addFirst_70 rfl (lv_at hl 3 rfl) ?_
      refine rg_getr F hH.1 27 (ci := 4) rfl (C := RX4) (T := TX4) (N := 8) rfl iwX4_addFirst_X4 6 (d := 13) (n := 40) rfl rfl (by decide) rfl lkX4_addFirst_0 rfl dX4_addFirst_71 ?_
      refine lv_iload_n hx hb dX4_addFirst_74 rfl (lv_at hl 4 rfl) ?_
      refine lv_iload hx hb dX4_addFirst_75 (lv_at hl 1 rfl) ?_
      refine lv_iconst (v := 1) hx hb dX4_addFirst_77 (by decide) ?_
      refine lv_iadd hx hb dX4_addFirst_78 ?_
      obtain ⟨V10, eV10, hE⟩ := lt_el hE
      refine rg_callWV (As := [.int a1, .int (r1 + ((1 : Int32)))]) (rest := []) F hH (fun q h1 h2 => ⟨h1, h2⟩) 40 sb_LW_40_LC2 (kX0_set l X 2 (by decide) (b + 40) (gv V9 40) a1 (r1 + ((1 : Int32))) _ rfl) (cwV 2 F.1.2.2.2.2 gX4_addFirst_X0_set rfl rfl rfl hvX0_set ⟨Nat.le_of_ble_eq_true rfl, Nat.le_of_ble_eq_true rfl⟩) (rp_recv F hH.1 40 rfl (C := RX0) (T := TX0) (N := 1) rfl rfl) (hH.1.sub 40 sb_LW_40_LC2) rfl hl.1 (Nat.le_of_ble_eq_true rfl) dX4_addFirst_79 ⟨Nat.zero_le _, Nat.zero_le _⟩ rfl ((pv_cset ..).trans eV10) (fun H locs hH hfr => ?_)
      have hE := Option.some.inj hE
      subst hE
      exact W.vret hx hb hr (fun t ht _ => mw_post hH ht) hH.2.1.2.2 dX4_addFirst_82
set_option maxRecDepth 20000 in
theorem lkX4_removeFrom_0 : Cond.fieldLink RX4 35 "TideWords$Words" "rowLengths" "LTideWords$Cells;" ∈ wsX4_removeFrom := by decide +kernel
set_option maxRecDepth 20000 in
theorem iwX4_removeFrom_X4 : ∀ w ∈ wsX40, w ∈ wsX4_removeFrom := by decide +kernel
set_option maxRecDepth 20000 in
theorem lkX4_removeFrom_1 : Cond.fieldLink RX4 32 "TideWords$Words" "rows" "LTideWords$Cells;" ∈ wsX4_removeFrom := by decide +kernel
def lbX4_removeFrom_20 (a1 : Int32) (r1 : Int32) (s2 : Int32 × Mem) : Option ((Int32 × Mem) ⊕ (Int32 × Mem)) := if r1 ≤ s2.1 then some (.inr (s2.1, s2.2)) else lt (cget 24 (s2.2 39) ((a1 * ((12 : Int32))) + s2.1)) (fun r4 => lt (cset s2.2 39 24 (((a1 * ((12 : Int32))) + s2.1) - ((1 : Int32))) r4) (fun V5 => some (.inl (s2.1 + 1, V5))))
def qX4_removeFrom (V : Mem) (a1 : Int32) (a2 : Int32) : Option (Mem) := lt (cget 2 (V 41) a1) (fun r1 => (it (lbX4_removeFrom_20 a1 r1) fuel (a2 + ((1 : Int32)), V)).bind (fun s6 => lt (cset s6.2 41 2 a1 (r1 - ((1 : Int32)))) (fun V8 => some (V8))))
abbrev rmX4_removeFrom : Room := { frames := 1, cells := 0, slots := 0, locals := 22 }
set_option maxHeartbeats 4000000 in
set_option maxRecDepth 100000 in
theorem mX4_removeFrom (l : Launch) (X : kX) (b : Nat) (V : Mem) (a1 : Int32) (a2 : Int32) (out : Mem) (hE : qX4_removeFrom V a1 a2 = some out) : MW l yX4_removeFrom wsX4_removeFrom rmX4_removeFrom X [.ref (b + 27), .int a1, .int a2] (RP X LW b V) (none) b (b + LW.length) (RP X LW b out) := by
  refine mt_head (cc := cX4_removeFrom) (maxL := 6) (ret := none) (own := RX4) (by decide) rfl rfl (Nat.le_of_ble_eq_true rfl) ?_
  intro p e s m below meth c ls F hr hlocks hnm hR hl
  have hx := F.1.1
  have hb := F.1.2.1
  have hH : Hp (t_fr b (b + LW.length)) s.heap s.heap.size X LW b V s.heap [] := ⟨hR, va_S.rf, rfl⟩
  have hl : lv_has ls 6 [(0, .ref (b + 27)), (1, .int a1), (2, .int a2)] := hl
  unfold qX4_removeFrom at hE
  refine lv_iload_n hx hb dX4_removeFrom_0 rfl (lv_at hl 1 rfl) ?_
  refine lv_bipush (v := 12) hx hb dX4_removeFrom_1 (by decide) ?_
  refine lv_imul hx hb dX4_removeFrom_3 ?_
  refine lv_istore_n (lv' := [(3, .int (a1 * ((12 : Int32)))), (0, .ref (b + 27)), (1, .int a1), (2, .int a2)]) hx hb dX4_removeFrom_4 rfl hl (by decide) rfl (fun ls hl => ?_)
  refine lv_aload_n hx hb dX4_removeFrom_5 rfl (lv_at hl 1 rfl) ?_
  refine rg_getr F hH.1 27 (ci := 4) rfl (C := RX4) (T := TX4) (N := 8) rfl iwX4_removeFrom_X4 6 (d := 13) (n := 40) rfl rfl (by decide) rfl lkX4_removeFrom_0 rfl dX4_removeFrom_6 ?_
  refine lv_iload_n hx hb dX4_removeFrom_9 rfl (lv_at hl 2 rfl) ?_
  obtain ⟨r1, er1, hE⟩ := lt_el hE
  refine rg_callRV (As := [.int a1]) (rest := []) F (kX0_get l X 2 (by decide) (b + 40) (gv V 40) a1 r1 er1) (cwV 1 F.1.2.2.2.2 gX4_removeFrom_X0_get rfl rfl rfl hvX0_get ⟨Nat.le_of_ble_eq_true rfl, Nat.le_of_ble_eq_true rfl⟩) (rp_recv F hH.1 40 rfl (C := RX0) (T := TX0) (N := 1) rfl rfl) (hH.1.sub 40 sb_LW_40_LC2) rfl hl.1 (Nat.le_of_ble_eq_true rfl) dX4_removeFrom_10 ⟨Nat.zero_le _, Nat.zero_le _⟩ rfl ?_
  refine lv_istore (lv' := [(4, .int r1), (3, .int (a1 * ((12 : Int32)))), (0, .ref (b + 27)), (1, .int a1), (2, .int a2)]) hx hb dX4_removeFrom_13 hl (by decide) rfl (fun ls hl => ?_)
  refine lv_iload_n hx hb dX4_removeFrom_15 rfl (lv_at hl 4 rfl) ?_
  refine lv_iconst (v := 1) hx hb dX4_removeFrom_16 (by decide) ?_
  refine lv_iadd hx hb dX4_removeFrom_17 ?_
  refine lv_istore (lv' := [(5, .int (a2 + ((1 : Int32)))), (4, .int r1), (3, .int (a1 * ((12 : Int32)))), (0, .ref (b + 27)), (1, .int a1), (2, .int a2)]) hx hb dX4_removeFrom_18 hl (by decide) rfl (fun ls hl => ?_)
  obtain ⟨x7, hx7, hE⟩ := bd_el hE
  refine it_walk2 (body := lbX4_removeFrom_20 a1 r1) (Wh := fun s2 => ∀ (H : Heap) (locs : List Loc) (ls : Array Slot), Hp (t_fr b (b + LW.length)) s.heap s.heap.size X LW b s2.2 H locs → lv_has ls 6 [(5, .int s2.1), (4, .int r1), (3, .int (a1 * ((12 : Int32)))), (0, .ref (b + 27)), (1, .int a1), (2, .int a2)] → W p l e rmX4_removeFrom s m ([.ref (b + 27), .int a1, .int a2] : List Value).toArray below meth c H locs 0 0 (MQ below (cQw (none) b (b + LW.length) (RP X LW b out)) ([.ref (b + 27), .int a1, .int a2] : List Value).toArray s 0 0 (t_fr b (b + LW.length))) (F0 m 20 ls [])) (We := fun s6 => ∀ (H : Heap) (locs : List Loc) (ls : Array Slot), Hp (t_fr b (b + LW.length)) s.heap s.heap.size X LW b s6.2 H locs → lv_has ls 6 [(5, .int s6.1), (4, .int r1), (3, .int (a1 * ((12 : Int32)))), (0, .ref (b + 27)), (1, .int a1), (2, .int a2)] → W p l e rmX4_removeFrom s m ([.ref (b + 27), .int a1, .int a2] : List Value).toArray below meth c H locs 0 0 (MQ below (cQw (none) b (b + LW.length) (RP X LW b out)) ([.ref (b + 27), .int a1, .int a2] : List Value).toArray s 0 0 (t_fr b (b + LW.length))) (F0 m 57 ls [])) ?_ _ _ _ hx7 ?_ s.heap [] ls hH (lv_sub hl [0, 1, 2, 3, 4, 5] rfl)
  · intro s2 r9 hE hL9 hR9 H locs ls hH hl
    unfold lbX4_removeFrom_20 at hE
    refine lv_iload hx hb dX4_removeFrom_20 (lv_at hl 0 rfl) ?_
    refine lv_iload hx hb dX4_removeFrom_22 (lv_at hl 1 rfl) ?_
    refine lv_icmp_ge (tgt := 57) hx hb dX4_removeFrom_24 (by decide) (fun c3 => ?_) (fun c3 => ?_)
    · have hE := (if_pos c3).symm.trans hE
      cases hE
      exact hR9 _ rfl H locs ls hH (lv_sub hl [0, 1, 2, 3, 4, 5] rfl)
    · have hE := (if_neg c3).symm.trans hE
      refine lv_aload_n hx hb dX4_removeFrom_27 rfl (lv_at hl 3 rfl) ?_
      refine rg_getr F hH.1 27 (ci := 4) rfl (C := RX4) (T := TX4) (N := 8) rfl iwX4_removeFrom_X4 5 (d := 11) (n := 38) rfl rfl (by decide) rfl lkX4_removeFrom_1 rfl dX4_removeFrom_28 ?_
      refine lv_iload_n hx hb dX4_removeFrom_31 rfl (lv_at hl 2 rfl) ?_
      refine lv_iload hx hb dX4_removeFrom_32 (lv_at hl 0 rfl) ?_
      refine lv_iadd hx hb dX4_removeFrom_34 ?_
      refine lv_iconst (v := 1) hx hb dX4_removeFrom_35 (by decide) ?_
      refine lv_isub hx hb dX4_removeFrom_36 ?_
      refine lv_aload_n hx hb dX4_removeFrom_37 rfl (lv_at hl 3 rfl) ?_
      refine rg_getr F hH.1 27 (ci := 4) rfl (C := RX4) (T := TX4) (N := 8) rfl iwX4_removeFrom_X4 5 (d := 11) (n := 38) rfl rfl (by decide) rfl lkX4_removeFrom_1 rfl dX4_removeFrom_38 ?_
      refine lv_iload_n hx hb dX4_removeFrom_41 rfl (lv_at hl 2 rfl) ?_
      refine lv_iload hx hb dX4_removeFrom_42 (lv_at hl 0 rfl) ?_
      refine lv_iadd hx hb dX4_removeFrom_44 ?_
      obtain ⟨r4, er4, hE⟩ := lt_el hE
      refine rg_callRV (As := [.int ((a1 * ((12 : Int32))) + s2.1)]) (rest := [.int (((a1 * ((12 : Int32))) + s2.1) - ((1 : Int32))), .ref (b + 38)]) F (kX0_get l X 24 (by decide) (b + 38) (gv s2.2 38) ((a1 * ((12 : Int32))) + s2.1) r4 er4) (cwV 1 F.1.2.2.2.2 gX4_removeFrom_X0_get rfl rfl rfl hvX0_get ⟨Nat.le_of_ble_eq_true rfl, Nat.le_of_ble_eq_true rfl⟩) (rp_recv F hH.1 38 rfl (C := RX0) (T := TX0) (N := 1) rfl rfl) (hH.1.sub 38 sb_LW_38_LC24) rfl hl.1 (Nat.le_of_ble_eq_true rfl) dX4_removeFrom_45 ⟨Nat.zero_le _, Nat.zero_le _⟩ rfl ?_
      obtain ⟨V5, eV5, hE⟩ := lt_el hE
      refine rg_callWV (As := [.int (((a1 * ((12 : Int32))) + s2.1) - ((1 : Int32))), .int r4]) (rest := []) F hH (fun q h1 h2 => ⟨h1, h2⟩) 38 sb_LW_38_LC24 (kX0_set l X 24 (by decide) (b + 38) (gv s2.2 38) (((a1 * ((12 : Int32))) + s2.1) - ((1 : Int32))) r4 _ rfl) (cwV 2 F.1.2.2.2.2 gX4_removeFrom_X0_set rfl rfl rfl hvX0_set ⟨Nat.le_of_ble_eq_true rfl, Nat.le_of_ble_eq_true rfl⟩) (rp_recv F hH.1 38 rfl (C := RX0) (T := TX0) (N := 1) rfl rfl) (hH.1.sub 38 sb_LW_38_LC24) rfl hl.1 (Nat.le_of_ble_eq_true rfl) dX4_removeFrom_48 ⟨Nat.zero_le _, Nat.zero_le _⟩ rfl ((pv_cset ..).trans eV5) (fun H locs hH hfr => ?_)
      refine lv_iinc (v := s2.1 + 1) (lv' := [(5, .int (s2.1 + 1)), (4, .int r1), (3, .int (a1 * ((12 : Int32)))), (0, .ref (b + 27)), (1, .int a1), (2, .int a2)]) hx hb dX4_removeFrom_51 hl (k := 0) rfl (congrArg (fun q => s2.1 + q) (by decide)) (by decide) rfl (fun ls hl => ?_)
      refine lv_goto (tgt := 20) hx hb dX4_removeFrom_54 (by decide) ?_
      cases hE
      exact hL9 _ rfl H locs ls hH (lv_sub hl [0, 1, 2, 3, 4, 5] rfl)
  · intro H locs ls hH hl
    refine lv_aload_n hx hb dX4_removeFrom_57 rfl (lv_at hl 3 rfl) ?_
    refine rg_getr F hH.1 27 (ci := 4) rfl (C := RX4) (T := TX4) (N := 8) rfl iwX4_removeFrom_X4 6 (d := 13) (n := 40) rfl rfl (by decide) rfl lkX4_removeFrom_0 rfl dX4_removeFrom_58 ?_
    refine lv_iload_n hx hb dX4_removeFrom_61 rfl (lv_at hl 4 rfl) ?_
    refine lv_iload hx hb dX4_removeFrom_62 (lv_at hl 1 rfl) ?_
    refine lv_iconst (v := 1) hx hb dX4_removeFrom_64 (by decide) ?_
    refine lv_isub hx hb dX4_removeFrom_65 ?_
    obtain ⟨V8, eV8, hE⟩ := lt_el hE
    refine rg_callWV (As := [.int a1, .int (r1 - ((1 : Int32)))]) (rest := []) F hH (fun q h1 h2 => ⟨h1, h2⟩) 40 sb_LW_40_LC2 (kX0_set l X 2 (by decide) (b + 40) (gv x7.2 40) a1 (r1 - ((1 : Int32))) _ rfl) (cwV 2 F.1.2.2.2.2 gX4_removeFrom_X0_set rfl rfl rfl hvX0_set ⟨Nat.le_of_ble_eq_true rfl, Nat.le_of_ble_eq_true rfl⟩) (rp_recv F hH.1 40 rfl (C := RX0) (T := TX0) (N := 1) rfl rfl) (hH.1.sub 40 sb_LW_40_LC2) rfl hl.1 (Nat.le_of_ble_eq_true rfl) dX4_removeFrom_66 ⟨Nat.zero_le _, Nat.zero_le _⟩ rfl ((pv_cset ..).trans eV8) (fun H locs hH hfr => ?_)
    have hE := Option.some.inj hE
    subst hE
    exact W.vret hx hb hr (fun t ht _ => mw_post hH ht) hH.2.1.2.2 dX4_removeFrom_69
set_option maxRecDepth 20000 in
theorem lkX4_takeWaiting_0 : Cond.fieldLink RX4 35 "TideWords$Words" "rowLengths" "LTideWords$Cells;" ∈ wsX4_takeWaiting := by decide +kernel
set_option maxRecDepth 20000 in
theorem iwX4_takeWaiting_X4 : ∀ w ∈ wsX40, w ∈ wsX4_takeWaiting := by decide +kernel
theorem hvX4_removeFrom : yX4_removeFrom.cls = RX4 ∧ yX4_removeFrom.cls ≠ "java/lang/invoke/MethodHandle" ∧ yX4_removeFrom.cls ≠ "java/lang/invoke/VarHandle" ∧ (parseMethodDescriptor yX4_removeFrom.desc).map (fun d => d.parameters.length) = some 2 := by decide +kernel
def lbX4_takeWaiting_11 (V : Mem) (a1 : Int32) (r1 : Int32) (s2 : Int32) : Option ((Int32) ⊕ ((Int32 × Mem) ⊕ (Int32))) := if r1 ≤ s2 then some (.inr (.inr s2)) else lt (fX4_wordAt V a1 s2) (fun r4 => lt (fX4_hasPassed V r4) (fun r5 => if r5 = 0 then (qX4_removeFrom V a1 s2).bind (fun U7 => some (.inr (.inl ((r4, U7))))) else some (.inl (s2 + 1))))
def qX4_takeWaiting (V : Mem) (a1 : Int32) : Option (Int32 × Mem) := lt (cget 2 (V 41) a1) (fun r1 => (it (lbX4_takeWaiting_11 V a1 r1) fuel (0 : Int32)).bind (fun x9 => Sum.elim (fun r0 => some r0) (fun s8 => some (((-1006 : Int32), V))) x9))
abbrev rmX4_takeWaiting : Room := { frames := 2, cells := 0, slots := 0, locals := 47 }
set_option maxHeartbeats 4000000 in
set_option maxRecDepth 100000 in
theorem mX4_takeWaiting (l : Launch) (X : kX) (b : Nat) (V : Mem) (a1 : Int32) (out : Int32 × Mem) (hE : qX4_takeWaiting V a1 = some out) : MW l yX4_takeWaiting wsX4_takeWaiting rmX4_takeWaiting X [.ref (b + 27), .int a1] (RP X LW b V) (some (.int out.1)) b (b + LW.length) (RP X LW b out.2) := by
  refine mt_head (cc := cX4_takeWaiting) (maxL := 5) (ret := (some .int)) (own := RX4) (by decide) rfl rfl (Nat.le_of_ble_eq_true rfl) ?_
  intro p e s m below meth c ls F hr hlocks hnm hR hl
  have hx := F.1.1
  have hb := F.1.2.1
  have hH : Hp (t_fr b (b + LW.length)) s.heap s.heap.size X LW b V s.heap [] := ⟨hR, va_S.rf, rfl⟩
  have hl : lv_has ls 5 [(0, .ref (b + 27)), (1, .int a1)] := hl
  unfold qX4_takeWaiting at hE
  refine lv_aload_n hx hb dX4_takeWaiting_0 rfl (lv_at hl 0 rfl) ?_
  refine rg_getr F hH.1 27 (ci := 4) rfl (C := RX4) (T := TX4) (N := 8) rfl iwX4_takeWaiting_X4 6 (d := 13) (n := 40) rfl rfl (by decide) rfl lkX4_takeWaiting_0 rfl dX4_takeWaiting_1 ?_
  refine lv_iload_n hx hb dX4_takeWaiting_4 rfl (lv_at hl 1 rfl) ?_
  obtain ⟨r1, er1, hE⟩ := lt_el hE
  refine rg_callRV (As := [.int a1]) (rest := []) F (kX0_get l X 2 (by decide) (b + 40) (gv V 40) a1 r1 er1) (cwV 1 F.1.2.2.2.2 gX4_takeWaiting_X0_get rfl rfl rfl hvX0_get ⟨Nat.le_of_ble_eq_true rfl, Nat.le_of_ble_eq_true rfl⟩) (rp_recv F hH.1 40 rfl (C := RX0) (T := TX0) (N := 1) rfl rfl) (hH.1.sub 40 sb_LW_40_LC2) rfl hl.1 (Nat.le_of_ble_eq_true rfl) dX4_takeWaiting_5 ⟨Nat.zero_le _, Nat.zero_le _⟩ rfl ?_
  refine lv_istore_n (lv' := [(2, .int r1), (0, .ref (b + 27)), (1, .int a1)]) hx hb dX4_takeWaiting_8 rfl hl (by decide) rfl (fun ls hl => ?_)
  refine lv_iconst (v := 0) hx hb dX4_takeWaiting_9 (by decide) ?_
  refine lv_istore_n (lv' := [(3, .int ((0 : Int32))), (2, .int r1), (0, .ref (b + 27)), (1, .int a1)]) hx hb dX4_takeWaiting_10 rfl hl (by decide) rfl (fun ls hl => ?_)
  obtain ⟨x9, hx9, hE⟩ := bd_el hE
  refine it_walk2 (body := lbX4_takeWaiting_11 V a1 r1) (Wh := fun s2 => ∀ (ls : Array Slot), lv_has ls 5 [(3, .int s2), (2, .int r1), (0, .ref (b + 27)), (1, .int a1)] → W p l e rmX4_takeWaiting s m ([.ref (b + 27), .int a1] : List Value).toArray below meth c s.heap [] 0 0 (MQ below (cQw (some (.int out.1)) b (b + LW.length) (RP X LW b out.2)) ([.ref (b + 27), .int a1] : List Value).toArray s 0 0 (t_fr b (b + LW.length))) (F0 m 11 ls [])) (We := fun x9 => (∀ r0, x9 = .inl r0 → r0 = out) ∧ (∀ s8, x9 = .inr s8 → ∀ (ls : Array Slot), lv_has ls 5 [(3, .int s8), (2, .int r1), (0, .ref (b + 27)), (1, .int a1)] → W p l e rmX4_takeWaiting s m ([.ref (b + 27), .int a1] : List Value).toArray below meth c s.heap [] 0 0 (MQ below (cQw (some (.int out.1)) b (b + LW.length) (RP X LW b out.2)) ([.ref (b + 27), .int a1] : List Value).toArray s 0 0 (t_fr b (b + LW.length))) (F0 m 48 ls []))) ?_ _ _ _ hx9 ?_ ls (lv_sub hl [0, 1, 2, 3] rfl)
  · intro s2 r9 hE hL9 hR9 ls hl
    unfold lbX4_takeWaiting_11 at hE
    refine lv_iload_n hx hb dX4_takeWaiting_11 rfl (lv_at hl 0 rfl) ?_
    refine lv_iload_n hx hb dX4_takeWaiting_12 rfl (lv_at hl 1 rfl) ?_
    refine lv_icmp_ge (tgt := 48) hx hb dX4_takeWaiting_13 (by decide) (fun c3 => ?_) (fun c3 => ?_)
    · have hE := (if_pos c3).symm.trans hE
      cases hE
      exact (hR9 _ rfl).2 _ rfl ls (lv_sub hl [0, 1, 2, 3] rfl)
    · have hE := (if_neg c3).symm.trans hE
      refine lv_aload_n hx hb dX4_takeWaiting_16 rfl (lv_at hl 2 rfl) ?_
      refine lv_iload_n hx hb dX4_takeWaiting_17 rfl (lv_at hl 3 rfl) ?_
      refine lv_iload_n hx hb dX4_takeWaiting_18 rfl (lv_at hl 0 rfl) ?_
      obtain ⟨r4, er4, hE⟩ := lt_el hE
      refine rg_callRV (As := [.int a1, .int s2]) (rest := []) F (mX4_wordAt l X b V a1 s2 r4 er4) (cwV 2 F.1.2.2.2.2 gX4_takeWaiting_X4_wordAt rfl rfl rfl hvX4_wordAt ⟨Nat.le_of_ble_eq_true rfl, Nat.le_of_ble_eq_true rfl⟩) (rp_recv F hH.1 27 rfl (C := RX4) (T := TX4) (N := 8) rfl rfl) hH.1 rfl hl.1 (Nat.le_of_ble_eq_true rfl) dX4_takeWaiting_19 ⟨Nat.zero_le _, Nat.zero_le _⟩ rfl ?_
      refine lv_istore (lv' := [(4, .int r4), (3, .int s2), (2, .int r1), (0, .ref (b + 27)), (1, .int a1)]) hx hb dX4_takeWaiting_22 hl (by decide) rfl (fun ls hl => ?_)
      refine lv_aload_n hx hb dX4_takeWaiting_24 rfl (lv_at hl 3 rfl) ?_
      refine lv_iload hx hb dX4_takeWaiting_25 (lv_at hl 0 rfl) ?_
      obtain ⟨r5, er5, hE⟩ := lt_el hE
      refine rg_callRV (As := [.int r4]) (rest := []) F (mX4_hasPassed l X b V r4 r5 er5) (cwV 1 F.1.2.2.2.2 gX4_takeWaiting_X4_hasPassed rfl rfl rfl hvX4_hasPassed ⟨Nat.le_of_ble_eq_true rfl, Nat.le_of_ble_eq_true rfl⟩) (rp_recv F hH.1 27 rfl (C := RX4) (T := TX4) (N := 8) rfl rfl) hH.1 rfl hl.1 (Nat.le_of_ble_eq_true rfl) dX4_takeWaiting_27 ⟨Nat.zero_le _, Nat.zero_le _⟩ rfl ?_
      refine lv_if_ne (tgt := 42) hx hb dX4_takeWaiting_30 (by decide) (fun c6 => ?_) (fun c6 => ?_)
      · have hE := (if_neg c6).symm.trans hE
        refine lv_iinc (v := s2 + 1) (lv' := [(3, .int (s2 + 1)), (4, .int r4), (2, .int r1), (0, .ref (b + 27)), (1, .int a1)]) hx hb dX4_takeWaiting_42 hl (k := 1) rfl (congrArg (fun q => s2 + q) (by decide)) (by decide) rfl (fun ls hl => ?_)
        refine lv_goto (tgt := 11) hx hb dX4_takeWaiting_45 (by decide) ?_
        cases hE
        exact hL9 _ rfl ls (lv_sub hl [0, 2, 3, 4] rfl)
      · have hE := (if_pos c6).symm.trans hE
        refine lv_aload_n hx hb dX4_takeWaiting_33 rfl (lv_at hl 3 rfl) ?_
        refine lv_iload_n hx hb dX4_takeWaiting_34 rfl (lv_at hl 4 rfl) ?_
        refine lv_iload_n hx hb dX4_takeWaiting_35 rfl (lv_at hl 1 rfl) ?_
        obtain ⟨U7, eU7, hE⟩ := bd_el hE
        refine rg_callWS (As := [.int a1, .int s2]) (rest := []) F hH (fun q h1 h2 => ⟨h1, h2⟩) (mX4_removeFrom l X b V a1 s2 U7 eU7) (cwV 2 F.1.2.2.2.2 gX4_takeWaiting_X4_removeFrom rfl rfl rfl hvX4_removeFrom ⟨Nat.le_of_ble_eq_true rfl, Nat.le_of_ble_eq_true rfl⟩) (rp_recv F hH.1 27 rfl (C := RX4) (T := TX4) (N := 8) rfl rfl) hH.1 rfl hl.1 (Nat.le_of_ble_eq_true rfl) dX4_takeWaiting_36 ⟨Nat.zero_le _, Nat.zero_le _⟩ rfl (fun H locs hH => ?_)
        refine lv_iload hx hb dX4_takeWaiting_39 (lv_at hl 0 rfl) ?_
        cases hE
        have hE := (hR9 _ rfl).1 _ rfl
        subst hE
        exact W.iret (v := r4) hx hb hr (fun t ht _ => mw_post hH ht) hH.2.1.2.2 dX4_takeWaiting_41
  · refine ⟨fun r0 h9 => ?_, fun s8 h9 => ?_⟩
    · subst h9
      exact Option.some.inj hE
    · subst h9
      have hE := sel_r hE
      intro ls hl
      refine lv_sipush (v := (-1006)) hx hb dX4_takeWaiting_48 (by decide) ?_
      have hE := Option.some.inj hE
      subst hE
      exact W.iret (v := (-1006 : Int32)) hx hb hr (fun t ht _ => mw_post hH ht) hH.2.1.2.2 dX4_takeWaiting_51
/-- the row's places 1 to n take over what stands one place ahead -/
def shUp (a1 : Int32) : Nat → Mem → Mem
  | 0, V => V
  | n + 1, V => shUp a1 n (cset V 39 24 (a1 * 12 + nI (n + 1)) (cget 24 (V 39) (a1 * 12 + nI (n + 1) - 1)))
/-- the row's places from p - 1 on take over what stands one place behind, k times -/
def shDn (a1 : Int32) : Nat → Nat → Mem → Mem
  | 0, _, V => V
  | k + 1, p, V => shDn a1 k (p + 1) (cset V 39 24 (a1 * 12 + nI p - 1) (cget 24 (V 39) (a1 * 12 + nI p)))
theorem nI_m1 (n : Nat) : nI (n + 1) + (-1) = nI n := pk_m1 n
theorem le0_nI {n : Nat} (h0 : 0 < n) (h : n < 2 ^ 31) : ¬ nI n ≤ 0 := nI_nle h0 h
theorem it_shUp (a1 : Int32) : ∀ (n : Nat) (V : Mem) (f : Nat), n < 2 ^ 31 → n < f → it (lbX4_addFirst_26 a1) f (nI n, V) = some (nI 0, shUp a1 n V)
  | 0, V, f, _, hf => by
    obtain ⟨f, rfl⟩ : ∃ g, f = g + 1 := ⟨f - 1, by omega⟩
    show (lbX4_addFirst_26 a1 (nI 0, V)).bind _ = _
    unfold lbX4_addFirst_26
    dsimp only
    rw [if_pos (show nI 0 ≤ 0 from nI_le (a := 0) (b := 0) (Nat.le_refl _) (by decide))]
    rfl
  | n + 1, V, f, hn, hf => by
    obtain ⟨f, rfl⟩ : ∃ g, f = g + 1 := ⟨f - 1, by omega⟩
    show (lbX4_addFirst_26 a1 (nI (n + 1), V)).bind _ = _
    have e : lbX4_addFirst_26 a1 (nI (n + 1), V) = some (.inl (nI n, cset V 39 24 (a1 * 12 + nI (n + 1)) (cget 24 (V 39) (a1 * 12 + nI (n + 1) - 1)))) := by
      unfold lbX4_addFirst_26 lt
      dsimp only
      rw [if_neg (le0_nI (by omega) hn), nI_m1]
    rw [e]
    exact it_shUp a1 n _ f (by omega) (by omega)
def fX4_addFirst (V : Mem) (a1 a2 : Int32) : Mem := if (12 : Int32) ≤ cget 2 (V 41) a1 then V else cset (cset (shUp a1 (cget 2 (V 41) a1).toNatClampNeg V) 39 24 (a1 * 12) a2) 41 2 a1 (cget 2 (V 41) a1 + 1)
theorem tX4_addFirst (V : Mem) (a1 a2 : Int32) : qX4_addFirst V a1 a2 = some (fX4_addFirst V a1 a2) := by
  unfold qX4_addFirst fX4_addFirst lt
  dsimp only
  generalize cget 2 (V 41) a1 = r
  by_cases h : (12 : Int32) ≤ r
  · rw [if_pos h, if_pos h]
  · rw [if_neg h, if_neg h]
    by_cases h0 : 0 ≤ r
    · have e := it_shUp a1 r.toNatClampNeg V fuel (r32 r) (fuel_lt (by have := r32 r; omega))
      rw [← r_pos h0] at e
      rw [e]
      rfl
    · have e : it (lbX4_addFirst_26 a1) fuel (r, V) = some (r, V) := by
        show it (lbX4_addFirst_26 a1) (8589934591 + 1) (r, V) = _
        show (lbX4_addFirst_26 a1 (r, V)).bind _ = _
        unfold lbX4_addFirst_26
        dsimp only
        rw [if_pos (Int32.le_of_lt (Int32.not_le.mp h0))]
        rfl
      rw [e, r_neg h0]
      rfl
theorem it_shDn (a1 r : Int32) : ∀ (k p : Nat) (V : Mem) (f : Nat), p + k = r.toNatClampNeg → k < f → it (lbX4_removeFrom_20 a1 r) f (nI p, V) = some (nI (p + k), shDn a1 k p V)
  | 0, p, V, f, hp, hf => by
    obtain ⟨f, rfl⟩ : ∃ g, f = g + 1 := ⟨f - 1, by omega⟩
    show (lbX4_removeFrom_20 a1 r (nI p, V)).bind _ = _
    unfold lbX4_removeFrom_20
    dsimp only
    have hp : p = r.toNatClampNeg := by omega
    subst hp
    rw [if_pos (r_ge r)]
    rfl
  | k + 1, p, V, f, hp, hf => by
    obtain ⟨f, rfl⟩ : ∃ g, f = g + 1 := ⟨f - 1, by omega⟩
    show (lbX4_removeFrom_20 a1 r (nI p, V)).bind _ = _
    have e : lbX4_removeFrom_20 a1 r (nI p, V) = some (.inl (nI (p + 1), cset V 39 24 (a1 * 12 + nI p - 1) (cget 24 (V 39) (a1 * 12 + nI p)))) := by
      unfold lbX4_removeFrom_20 lt
      dsimp only
      rw [if_neg (r_lt (by omega)), nI_1]
    rw [e]
    show it (lbX4_removeFrom_20 a1 r) f _ = _
    rw [it_shDn a1 r k (p + 1) _ f (by omega) (by omega), show p + 1 + k = p + (k + 1) by omega]
    rfl
def fX4_removeFrom (V : Mem) (a1 : Int32) (j : Nat) : Mem := cset (shDn a1 ((cget 2 (V 41) a1).toNatClampNeg - (j + 1)) (j + 1) V) 41 2 a1 (cget 2 (V 41) a1 - 1)
theorem tX4_removeFrom (V : Mem) (a1 : Int32) (j : Nat) (hj : j < (cget 2 (V 41) a1).toNatClampNeg) : qX4_removeFrom V a1 (nI j) = some (fX4_removeFrom V a1 j) := by
  unfold qX4_removeFrom fX4_removeFrom lt
  dsimp only
  generalize cget 2 (V 41) a1 = r at hj ⊢
  have e := it_shDn a1 r (r.toNatClampNeg - (j + 1)) (j + 1) V fuel (by omega) (fuel_lt (by have := r32 r; omega))
  rw [← nI_1] at e
  rw [e]
  rfl
def fX4_takeWaiting (V : Mem) (a1 : Int32) : Int32 × Mem := (fndO (fun i => decide (fX4_hasPassed V (fX4_wordAt V a1 (nI i)) = 0)) (cget 2 (V 41) a1).toNatClampNeg 0).elim (-1006, V) (fun i => (fX4_wordAt V a1 (nI i), fX4_removeFrom V a1 i))
theorem tX4_takeWaiting (V : Mem) (a1 : Int32) : qX4_takeWaiting V a1 = some (fX4_takeWaiting V a1) := by
  unfold qX4_takeWaiting fX4_takeWaiting
  have hrm := tX4_removeFrom V a1
  unfold lt
  dsimp only
  generalize cget 2 (V 41) a1 = r at hrm ⊢
  have h : it (lbX4_takeWaiting_11 V a1 r) fuel (0 : Int32) = some ((fndO (fun i => decide (fX4_hasPassed V (fX4_wordAt V a1 (nI i)) = 0)) r.toNatClampNeg 0).elim (Sum.inr (nI r.toNatClampNeg)) (fun i => Sum.inl (fX4_wordAt V a1 (nI i), fX4_removeFrom V a1 i))) := by
    refine it_fnd (fun i => nI i) _ (fun i => Sum.inl (fX4_wordAt V a1 (nI i), fX4_removeFrom V a1 i)) _ r.toNatClampNeg (fun i hi => ?_) ?_ fuel (fuel_lt (by have := r32 r; omega))
    · unfold lbX4_takeWaiting_11 lt
      rw [if_neg (r_lt hi), nI_1]
      by_cases h : fX4_hasPassed V (fX4_wordAt V a1 (nI i)) = 0
      · simp only [h, decide_true, if_true]
        rw [hrm i hi]
        rfl
      · simp only [h, decide_false, if_false, Bool.false_eq_true]
    · unfold lbX4_takeWaiting_11
      rw [if_pos (r_ge r)]
  rw [h]
  cases fndO (fun i => decide (fX4_hasPassed V (fX4_wordAt V a1 (nI i)) = 0)) r.toNatClampNeg 0 <;> rfl

theorem kX4_addFirst (l : Launch) (X : kX) (b : Nat) (V : Mem) (a1 : Int32) (a2 : Int32) (out : Mem) (hE : fX4_addFirst V a1 a2 = out) : MW l yX4_addFirst wsX4_addFirst rmX4_addFirst X [.ref (b + 27), .int a1, .int a2] (RP X LW b V) (none) b (b + LW.length) (RP X LW b out) := mX4_addFirst l X b V a1 a2 out ((tX4_addFirst V a1 a2).trans (congrArg some hE))
theorem kX4_takeWaiting (l : Launch) (X : kX) (b : Nat) (V : Mem) (a1 : Int32) (out : Int32 × Mem) (hE : fX4_takeWaiting V a1 = out) : MW l yX4_takeWaiting wsX4_takeWaiting rmX4_takeWaiting X [.ref (b + 27), .int a1] (RP X LW b V) (some (.int out.1)) b (b + LW.length) (RP X LW b out.2) := mX4_takeWaiting l X b V a1 out ((tX4_takeWaiting V a1).trans (congrArg some hE))
