set_option maxRecDepth 20000 in
theorem lkX5_takeWord_0 : Cond.fieldLink RX5 21 "TideWords$World" "gates" "LTideWords$Gates;" ∈ wsX5_takeWord := by decide +kernel
set_option maxRecDepth 20000 in
theorem iwX5_takeWord_X5 : ∀ w ∈ wsX50, w ∈ wsX5_takeWord := by decide +kernel
set_option maxRecDepth 20000 in
theorem lkX5_takeWord_1 : Cond.fieldLink RX5 74 "TideWords$Gates" "held" "LTideWords$Cells;" ∈ wsX5_takeWord := by decide +kernel
set_option maxRecDepth 20000 in
theorem iwX5_takeWord_X1 : ∀ w ∈ wsX10, w ∈ wsX5_takeWord := by decide +kernel
set_option maxRecDepth 20000 in
theorem lkX5_takeWord_2 : Cond.fieldLink RX5 28 "TideWords$World" "words" "LTideWords$Words;" ∈ wsX5_takeWord := by decide +kernel
set_option maxRecDepth 20000 in
theorem lkX5_takeWord_3 : Cond.fieldLink RX5 78 "TideWords$Gates" "sides" "LTideWords$Cells;" ∈ wsX5_takeWord := by decide +kernel
set_option maxRecDepth 20000 in
theorem sb_LW_11_LC4 : sbL LW 11 (LC 4) := sbl_of rfl
theorem hvX4_takeWaiting : yX4_takeWaiting.cls = RX4 ∧ yX4_takeWaiting.cls ≠ "java/lang/invoke/MethodHandle" ∧ yX4_takeWaiting.cls ≠ "java/lang/invoke/VarHandle" ∧ (parseMethodDescriptor yX4_takeWaiting.desc).map (fun d => d.parameters.length) = some 1 := by decide +kernel
def fX5_takeWord (V : Mem) (a1 : Int32) : Mem := lt (fX1_hasWord V a1) (fun r1 => if r1 = 0 then lt (cget 4 (V 12) a1) (fun r3 => lt (fX4_takeWaiting V r3) (fun U4 => lt (cset U4.2 20 4 a1 U4.1) (fun V5 => V5))) else V)
abbrev rmX5_takeWord : Room := { frames := 3, cells := 0, slots := 0, locals := 71 }
set_option maxHeartbeats 4000000 in
set_option maxRecDepth 100000 in
theorem mX5_takeWord (l : Launch) (X : kX) (b : Nat) (V : Mem) (a1 : Int32) (out : Mem) (hE : fX5_takeWord V a1 = out) : MW l yX5_takeWord wsX5_takeWord rmX5_takeWord X [.ref b, .int a1] (RP X LW b V) (none) b (b + LW.length) (RP X LW b out) := by
  refine mt_head (cc := cX5_takeWord) (maxL := 2) (ret := none) (own := RX5) (by decide) rfl rfl (Nat.le_of_ble_eq_true rfl) ?_
  intro p e s m below meth c ls F hr hlocks hnm hR hl
  have hx := F.1.1
  have hb := F.1.2.1
  have hH : Hp (t_fr b (b + LW.length)) s.heap s.heap.size X LW b V s.heap [] := ⟨hR, va_S.rf, rfl⟩
  have hl : lv_has ls 2 [(0, .ref b), (1, .int a1)] := hl
  unfold fX5_takeWord at hE
  refine lv_aload_n hx hb dX5_takeWord_0 rfl (lv_at hl 0 rfl) ?_
  refine rg_getr F hH.1 0 (ci := 5) rfl (C := RX5) (T := TX5) (N := 6) rfl iwX5_takeWord_X5 1 (d := 10) (n := 10) rfl rfl (by decide) rfl lkX5_takeWord_0 rfl dX5_takeWord_1 ?_
  refine lv_iload_n hx hb dX5_takeWord_4 rfl (lv_at hl 1 rfl) ?_
  obtain ⟨r1, er1, hE⟩ := lt_el hE
  refine rg_callRV (As := [.int a1]) (rest := []) F (mX1_hasWord l X b V a1 r1 er1) (cwV 1 F.1.2.2.2.2 gX5_takeWord_X1_hasWord rfl rfl rfl hvX1_hasWord ⟨Nat.le_of_ble_eq_true rfl, Nat.le_of_ble_eq_true rfl⟩) (rp_recv F hH.1 10 rfl (C := RX1) (T := TX1) (N := 8) rfl rfl) hH.1 rfl hl.1 (Nat.le_of_ble_eq_true rfl) dX5_takeWord_5 ⟨Nat.zero_le _, Nat.zero_le _⟩ rfl ?_
  refine lv_if_ne (tgt := 40) hx hb dX5_takeWord_8 (by decide) (fun c2 => ?_) (fun c2 => ?_)
  · have hE := (if_neg c2).symm.trans hE
    subst hE
    exact W.vret hx hb hr (fun t ht _ => mw_post hH ht) hH.2.1.2.2 dX5_takeWord_40
  · have hE := (if_pos c2).symm.trans hE
    refine lv_aload_n hx hb dX5_takeWord_11 rfl (lv_at hl 0 rfl) ?_
    refine rg_getr F hH.1 0 (ci := 5) rfl (C := RX5) (T := TX5) (N := 6) rfl iwX5_takeWord_X5 1 (d := 10) (n := 10) rfl rfl (by decide) rfl lkX5_takeWord_0 rfl dX5_takeWord_12 ?_
    refine rg_getr F hH.1 10 (ci := 1) rfl (C := RX1) (T := TX1) (N := 8) rfl iwX5_takeWord_X1 4 (d := 9) (n := 19) rfl rfl (by decide) rfl lkX5_takeWord_1 rfl dX5_takeWord_15 ?_
    refine lv_iload_n hx hb dX5_takeWord_18 rfl (lv_at hl 1 rfl) ?_
    refine lv_aload_n hx hb dX5_takeWord_19 rfl (lv_at hl 0 rfl) ?_
    refine rg_getr F hH.1 0 (ci := 5) rfl (C := RX5) (T := TX5) (N := 6) rfl iwX5_takeWord_X5 2 (d := 27) (n := 27) rfl rfl (by decide) rfl lkX5_takeWord_2 rfl dX5_takeWord_20 ?_
    refine lv_aload_n hx hb dX5_takeWord_23 rfl (lv_at hl 0 rfl) ?_
    refine rg_getr F hH.1 0 (ci := 5) rfl (C := RX5) (T := TX5) (N := 6) rfl iwX5_takeWord_X5 1 (d := 10) (n := 10) rfl rfl (by decide) rfl lkX5_takeWord_0 rfl dX5_takeWord_24 ?_
    refine rg_getr F hH.1 10 (ci := 1) rfl (C := RX1) (T := TX1) (N := 8) rfl iwX5_takeWord_X1 0 (d := 1) (n := 11) rfl rfl (by decide) rfl lkX5_takeWord_3 rfl dX5_takeWord_27 ?_
    refine lv_iload_n hx hb dX5_takeWord_30 rfl (lv_at hl 1 rfl) ?_
    obtain ⟨r3, er3, hE⟩ := lt_el hE
    refine rg_callRV (As := [.int a1]) (rest := [.ref (b + 27), .int a1, .ref (b + 19)]) F (kX0_get l X 4 (by decide) (b + 11) (gv V 11) a1 r3 er3) (cwV 1 F.1.2.2.2.2 gX5_takeWord_X0_get rfl rfl rfl hvX0_get ⟨Nat.le_of_ble_eq_true rfl, Nat.le_of_ble_eq_true rfl⟩) (rp_recv F hH.1 11 rfl (C := RX0) (T := TX0) (N := 1) rfl rfl) (hH.1.sub 11 sb_LW_11_LC4) rfl hl.1 (Nat.le_of_ble_eq_true rfl) dX5_takeWord_31 ⟨Nat.zero_le _, Nat.zero_le _⟩ rfl ?_
    obtain ⟨U4, eU4, hE⟩ := lt_el hE
    refine rg_callWS (As := [.int r3]) (rest := [.int a1, .ref (b + 19)]) F hH (fun q h1 h2 => ⟨h1, h2⟩) (kX4_takeWaiting l X b V r3 U4 eU4) (cwV 1 F.1.2.2.2.2 gX5_takeWord_X4_takeWaiting rfl rfl rfl hvX4_takeWaiting ⟨Nat.le_of_ble_eq_true rfl, Nat.le_of_ble_eq_true rfl⟩) (rp_recv F hH.1 27 rfl (C := RX4) (T := TX4) (N := 8) rfl rfl) hH.1 rfl hl.1 (Nat.le_of_ble_eq_true rfl) dX5_takeWord_34 ⟨Nat.zero_le _, Nat.zero_le _⟩ rfl (fun H locs hH => ?_)
    obtain ⟨V5, eV5, hE⟩ := lt_el hE
    refine rg_callWV (As := [.int a1, .int U4.1]) (rest := []) F hH (fun q h1 h2 => ⟨h1, h2⟩) 19 sb_LW_19_LC4 (kX0_set l X 4 (by decide) (b + 19) (gv U4.2 19) a1 U4.1 _ rfl) (cwV 2 F.1.2.2.2.2 gX5_takeWord_X0_set rfl rfl rfl hvX0_set ⟨Nat.le_of_ble_eq_true rfl, Nat.le_of_ble_eq_true rfl⟩) (rp_recv F hH.1 19 rfl (C := RX0) (T := TX0) (N := 1) rfl rfl) (hH.1.sub 19 sb_LW_19_LC4) rfl hl.1 (Nat.le_of_ble_eq_true rfl) dX5_takeWord_37 ⟨Nat.zero_le _, Nat.zero_le _⟩ rfl ((pv_cset ..).trans eV5) (fun H locs hH hfr => ?_)
    subst hE
    exact W.vret hx hb hr (fun t ht _ => mw_post hH ht) hH.2.1.2.2 dX5_takeWord_40
set_option maxRecDepth 20000 in
theorem lkX5_passLetter_0 : Cond.fieldLink RX5 21 "TideWords$World" "gates" "LTideWords$Gates;" ∈ wsX5_passLetter := by decide +kernel
set_option maxRecDepth 20000 in
theorem iwX5_passLetter_X5 : ∀ w ∈ wsX50, w ∈ wsX5_passLetter := by decide +kernel
set_option maxRecDepth 20000 in
theorem lkX5_passLetter_1 : Cond.fieldLink RX5 74 "TideWords$Gates" "held" "LTideWords$Cells;" ∈ wsX5_passLetter := by decide +kernel
set_option maxRecDepth 20000 in
theorem iwX5_passLetter_X1 : ∀ w ∈ wsX10, w ∈ wsX5_passLetter := by decide +kernel
set_option maxRecDepth 20000 in
theorem lkX5_passLetter_2 : Cond.fieldLink RX5 93 "TideWords$World" "letters" "I" ∈ wsX5_passLetter := by decide +kernel
set_option maxRecDepth 20000 in
theorem lkX5_passLetter_3 : Cond.fieldLink RX5 96 "TideWords$Gates" "lettersDone" "LTideWords$Cells;" ∈ wsX5_passLetter := by decide +kernel
set_option maxRecDepth 20000 in
theorem lkX5_passLetter_4 : Cond.fieldLink RX5 28 "TideWords$World" "words" "LTideWords$Words;" ∈ wsX5_passLetter := by decide +kernel
set_option maxRecDepth 20000 in
theorem lkX5_passLetter_5 : Cond.fieldLink RX5 102 "TideWords$Words" "lengths" "LTideWords$Cells;" ∈ wsX5_passLetter := by decide +kernel
set_option maxRecDepth 20000 in
theorem iwX5_passLetter_X4 : ∀ w ∈ wsX40, w ∈ wsX5_passLetter := by decide +kernel
theorem hvX1_release : yX1_release.cls = RX1 ∧ yX1_release.cls ≠ "java/lang/invoke/MethodHandle" ∧ yX1_release.cls ≠ "java/lang/invoke/VarHandle" ∧ (parseMethodDescriptor yX1_release.desc).map (fun d => d.parameters.length) = some 1 := by decide +kernel
set_option maxRecDepth 20000 in
theorem lkX5_passLetter_6 : Cond.fieldLink RX5 108 "TideWords$Gates" "passedWords" "LTideWords$Cells;" ∈ wsX5_passLetter := by decide +kernel
set_option maxRecDepth 20000 in
theorem lkX5_passLetter_7 : Cond.fieldLink RX5 40 "TideWords$World" "steps" "I" ∈ wsX5_passLetter := by decide +kernel
theorem hvX4_markPassed : yX4_markPassed.cls = RX4 ∧ yX4_markPassed.cls ≠ "java/lang/invoke/MethodHandle" ∧ yX4_markPassed.cls ≠ "java/lang/invoke/VarHandle" ∧ (parseMethodDescriptor yX4_markPassed.desc).map (fun d => d.parameters.length) = some 3 := by decide +kernel
set_option maxRecDepth 20000 in
theorem lkX5_passLetter_8 : Cond.fieldLink RX5 78 "TideWords$Gates" "sides" "LTideWords$Cells;" ∈ wsX5_passLetter := by decide +kernel
def fX5_passLetter (V : Mem) (a1 : Int32) : Mem := lt (cget 4 (V 20) a1) (fun r1 => if r1 = (-1006 : Int32) then V else lt (sv V 0 1 ((V 0 1) + ((1 : Int32)))) (fun V3 => lt (cadd V3 22 4 a1 ((1 : Int32))) (fun V4 => lt (cget 4 (V4 22) a1) (fun r5 => lt (cget 12 (V4 29) r1) (fun r6 => if r6 ≤ r5 then lt (fX1_release V4 a1) (fun U8 => lt (cadd U8 24 4 a1 ((1 : Int32))) (fun V9 => lt (fX4_markPassed V9 r1 (V9 0 0) a1) (fun U10 => lt (cget 4 (U10 12) a1) (fun r11 => lt (fX4_addLast U10 (((1 : Int32)) - r11) r1) (fun U12 => U12))))) else V4)))))
abbrev rmX5_passLetter : Room := { frames := 2, cells := 0, slots := 0, locals := 45 }
set_option maxHeartbeats 4000000 in
set_option maxRecDepth 100000 in
theorem mX5_passLetter (l : Launch) (X : kX) (b : Nat) (V : Mem) (a1 : Int32) (out : Mem) (hE : fX5_passLetter V a1 = out) : MW l yX5_passLetter wsX5_passLetter rmX5_passLetter X [.ref b, .int a1] (RP X LW b V) (none) b (b + LW.length) (RP X LW b out) := by
  refine mt_head (cc := cX5_passLetter) (maxL := 3) (ret := none) (own := RX5) (by decide) rfl rfl (Nat.le_of_ble_eq_true rfl) ?_
  intro p e s m below meth c ls F hr hlocks hnm hR hl
  have hx := F.1.1
  have hb := F.1.2.1
  have hH : Hp (t_fr b (b + LW.length)) s.heap s.heap.size X LW b V s.heap [] := ⟨hR, va_S.rf, rfl⟩
  have hl : lv_has ls 3 [(0, .ref b), (1, .int a1)] := hl
  unfold fX5_passLetter at hE
  refine lv_aload_n hx hb dX5_passLetter_0 rfl (lv_at hl 0 rfl) ?_
  refine rg_getr F hH.1 0 (ci := 5) rfl (C := RX5) (T := TX5) (N := 6) rfl iwX5_passLetter_X5 1 (d := 10) (n := 10) rfl rfl (by decide) rfl lkX5_passLetter_0 rfl dX5_passLetter_1 ?_
  refine rg_getr F hH.1 10 (ci := 1) rfl (C := RX1) (T := TX1) (N := 8) rfl iwX5_passLetter_X1 4 (d := 9) (n := 19) rfl rfl (by decide) rfl lkX5_passLetter_1 rfl dX5_passLetter_4 ?_
  refine lv_iload_n hx hb dX5_passLetter_7 rfl (lv_at hl 1 rfl) ?_
  obtain ⟨r1, er1, hE⟩ := lt_el hE
  refine rg_callRV (As := [.int a1]) (rest := []) F (kX0_get l X 4 (by decide) (b + 19) (gv V 19) a1 r1 er1) (cwV 1 F.1.2.2.2.2 gX5_passLetter_X0_get rfl rfl rfl hvX0_get ⟨Nat.le_of_ble_eq_true rfl, Nat.le_of_ble_eq_true rfl⟩) (rp_recv F hH.1 19 rfl (C := RX0) (T := TX0) (N := 1) rfl rfl) (hH.1.sub 19 sb_LW_19_LC4) rfl hl.1 (Nat.le_of_ble_eq_true rfl) dX5_passLetter_8 ⟨Nat.zero_le _, Nat.zero_le _⟩ rfl ?_
  refine lv_istore_n (lv' := [(2, .int r1), (0, .ref b), (1, .int a1)]) hx hb dX5_passLetter_11 rfl hl (by decide) rfl (fun ls hl => ?_)
  refine lv_iload_n hx hb dX5_passLetter_12 rfl (lv_at hl 0 rfl) ?_
  refine lv_sipush (v := (-1006)) hx hb dX5_passLetter_13 (by decide) ?_
  refine lv_icmp_ne (tgt := 20) hx hb dX5_passLetter_16 (by decide) (fun c2 => ?_) (fun c2 => ?_)
  · have hE := (if_neg c2).symm.trans hE
    refine lv_aload_n hx hb dX5_passLetter_20 rfl (lv_at hl 1 rfl) ?_
    refine lv_dup hx hb dX5_passLetter_21 rfl ?_
    refine rg_geti F hH.1 0 (ci := 5) rfl (C := RX5) (T := TX5) (N := 6) rfl iwX5_passLetter_X5 4 (i := 1) rfl (by decide) rfl lkX5_passLetter_2 rfl dX5_passLetter_22 ?_
    refine lv_iconst (v := 1) hx hb dX5_passLetter_25 (by decide) ?_
    refine lv_iadd hx hb dX5_passLetter_26 ?_
    obtain ⟨V3, eV3, hE⟩ := lt_el hE
    refine rg_put F hH (fun q h1 h2 => ⟨h1, h2⟩) 0 (ci := 5) rfl (C := RX5) (T := TX5) (N := 6) rfl iwX5_passLetter_X5 tyX5 tyX5_ok nmX5 4 (i := 1) rfl (by decide) (by decide) rfl rfl (by decide +kernel) lkX5_passLetter_2 rfl dX5_passLetter_27 (fun H locs hH hfr => ?_)
    replace hH := hp_cast eV3 hH
    refine lv_aload_n hx hb dX5_passLetter_30 rfl (lv_at hl 1 rfl) ?_
    refine rg_getr F hH.1 0 (ci := 5) rfl (C := RX5) (T := TX5) (N := 6) rfl iwX5_passLetter_X5 1 (d := 10) (n := 10) rfl rfl (by decide) rfl lkX5_passLetter_0 rfl dX5_passLetter_31 ?_
    refine rg_getr F hH.1 10 (ci := 1) rfl (C := RX1) (T := TX1) (N := 8) rfl iwX5_passLetter_X1 5 (d := 11) (n := 21) rfl rfl (by decide) rfl lkX5_passLetter_3 rfl dX5_passLetter_34 ?_
    refine lv_iload_n hx hb dX5_passLetter_37 rfl (lv_at hl 2 rfl) ?_
    refine lv_iconst (v := 1) hx hb dX5_passLetter_38 (by decide) ?_
    obtain ⟨V4, eV4, hE⟩ := lt_el hE
    refine rg_callWV (As := [.int a1, .int ((1 : Int32))]) (rest := []) F hH (fun q h1 h2 => ⟨h1, h2⟩) 21 sb_LW_21_LC4 (kX0_add l X 4 (by decide) (b + 21) (gv V3 21) a1 ((1 : Int32)) _ rfl) (cwV 2 F.1.2.2.2.2 gX5_passLetter_X0_add rfl rfl rfl hvX0_add ⟨Nat.le_of_ble_eq_true rfl, Nat.le_of_ble_eq_true rfl⟩) (rp_recv F hH.1 21 rfl (C := RX0) (T := TX0) (N := 1) rfl rfl) (hH.1.sub 21 sb_LW_21_LC4) rfl hl.1 (Nat.le_of_ble_eq_true rfl) dX5_passLetter_39 ⟨Nat.zero_le _, Nat.zero_le _⟩ rfl ((pv_cadd ..).trans eV4) (fun H locs hH hfr => ?_)
    refine lv_aload_n hx hb dX5_passLetter_42 rfl (lv_at hl 1 rfl) ?_
    refine rg_getr F hH.1 0 (ci := 5) rfl (C := RX5) (T := TX5) (N := 6) rfl iwX5_passLetter_X5 1 (d := 10) (n := 10) rfl rfl (by decide) rfl lkX5_passLetter_0 rfl dX5_passLetter_43 ?_
    refine rg_getr F hH.1 10 (ci := 1) rfl (C := RX1) (T := TX1) (N := 8) rfl iwX5_passLetter_X1 5 (d := 11) (n := 21) rfl rfl (by decide) rfl lkX5_passLetter_3 rfl dX5_passLetter_46 ?_
    refine lv_iload_n hx hb dX5_passLetter_49 rfl (lv_at hl 2 rfl) ?_
    obtain ⟨r5, er5, hE⟩ := lt_el hE
    refine rg_callRV (As := [.int a1]) (rest := []) F (kX0_get l X 4 (by decide) (b + 21) (gv V4 21) a1 r5 er5) (cwV 1 F.1.2.2.2.2 gX5_passLetter_X0_get rfl rfl rfl hvX0_get ⟨Nat.le_of_ble_eq_true rfl, Nat.le_of_ble_eq_true rfl⟩) (rp_recv F hH.1 21 rfl (C := RX0) (T := TX0) (N := 1) rfl rfl) (hH.1.sub 21 sb_LW_21_LC4) rfl hl.1 (Nat.le_of_ble_eq_true rfl) dX5_passLetter_50 ⟨Nat.zero_le _, Nat.zero_le _⟩ rfl ?_
    refine lv_aload_n hx hb dX5_passLetter_53 rfl (lv_at hl 1 rfl) ?_
    refine rg_getr F hH.1 0 (ci := 5) rfl (C := RX5) (T := TX5) (N := 6) rfl iwX5_passLetter_X5 2 (d := 27) (n := 27) rfl rfl (by decide) rfl lkX5_passLetter_4 rfl dX5_passLetter_54 ?_
    refine rg_getr F hH.1 27 (ci := 4) rfl (C := RX4) (T := TX4) (N := 8) rfl iwX5_passLetter_X4 0 (d := 1) (n := 28) rfl rfl (by decide) rfl lkX5_passLetter_5 rfl dX5_passLetter_57 ?_
    refine lv_iload_n hx hb dX5_passLetter_60 rfl (lv_at hl 0 rfl) ?_
    obtain ⟨r6, er6, hE⟩ := lt_el hE
    refine rg_callRV (As := [.int r1]) (rest := [.int r5]) F (kX0_get l X 12 (by decide) (b + 28) (gv V4 28) r1 r6 er6) (cwV 1 F.1.2.2.2.2 gX5_passLetter_X0_get rfl rfl rfl hvX0_get ⟨Nat.le_of_ble_eq_true rfl, Nat.le_of_ble_eq_true rfl⟩) (rp_recv F hH.1 28 rfl (C := RX0) (T := TX0) (N := 1) rfl rfl) (hH.1.sub 28 sb_LW_28_LC12) rfl hl.1 (Nat.le_of_ble_eq_true rfl) dX5_passLetter_61 ⟨Nat.zero_le _, Nat.zero_le _⟩ rfl ?_
    refine lv_icmp_ge (tgt := 68) hx hb dX5_passLetter_64 (by decide) (fun c7 => ?_) (fun c7 => ?_)
    · have hE := (if_pos c7).symm.trans hE
      refine lv_aload_n hx hb dX5_passLetter_68 rfl (lv_at hl 1 rfl) ?_
      refine rg_getr F hH.1 0 (ci := 5) rfl (C := RX5) (T := TX5) (N := 6) rfl iwX5_passLetter_X5 1 (d := 10) (n := 10) rfl rfl (by decide) rfl lkX5_passLetter_0 rfl dX5_passLetter_69 ?_
      refine lv_iload_n hx hb dX5_passLetter_72 rfl (lv_at hl 2 rfl) ?_
      obtain ⟨U8, eU8, hE⟩ := lt_el hE
      refine rg_callWS (As := [.int a1]) (rest := []) F hH (fun q h1 h2 => ⟨h1, h2⟩) (mX1_release l X b V4 a1 U8 eU8) (cwV 1 F.1.2.2.2.2 gX5_passLetter_X1_release rfl rfl rfl hvX1_release ⟨Nat.le_of_ble_eq_true rfl, Nat.le_of_ble_eq_true rfl⟩) (rp_recv F hH.1 10 rfl (C := RX1) (T := TX1) (N := 8) rfl rfl) hH.1 rfl hl.1 (Nat.le_of_ble_eq_true rfl) dX5_passLetter_73 ⟨Nat.zero_le _, Nat.zero_le _⟩ rfl (fun H locs hH => ?_)
      refine lv_aload_n hx hb dX5_passLetter_76 rfl (lv_at hl 1 rfl) ?_
      refine rg_getr F hH.1 0 (ci := 5) rfl (C := RX5) (T := TX5) (N := 6) rfl iwX5_passLetter_X5 1 (d := 10) (n := 10) rfl rfl (by decide) rfl lkX5_passLetter_0 rfl dX5_passLetter_77 ?_
      refine rg_getr F hH.1 10 (ci := 1) rfl (C := RX1) (T := TX1) (N := 8) rfl iwX5_passLetter_X1 6 (d := 13) (n := 23) rfl rfl (by decide) rfl lkX5_passLetter_6 rfl dX5_passLetter_80 ?_
      refine lv_iload_n hx hb dX5_passLetter_83 rfl (lv_at hl 2 rfl) ?_
      refine lv_iconst (v := 1) hx hb dX5_passLetter_84 (by decide) ?_
      obtain ⟨V9, eV9, hE⟩ := lt_el hE
      refine rg_callWV (As := [.int a1, .int ((1 : Int32))]) (rest := []) F hH (fun q h1 h2 => ⟨h1, h2⟩) 23 sb_LW_23_LC4 (kX0_add l X 4 (by decide) (b + 23) (gv U8 23) a1 ((1 : Int32)) _ rfl) (cwV 2 F.1.2.2.2.2 gX5_passLetter_X0_add rfl rfl rfl hvX0_add ⟨Nat.le_of_ble_eq_true rfl, Nat.le_of_ble_eq_true rfl⟩) (rp_recv F hH.1 23 rfl (C := RX0) (T := TX0) (N := 1) rfl rfl) (hH.1.sub 23 sb_LW_23_LC4) rfl hl.1 (Nat.le_of_ble_eq_true rfl) dX5_passLetter_85 ⟨Nat.zero_le _, Nat.zero_le _⟩ rfl ((pv_cadd ..).trans eV9) (fun H locs hH hfr => ?_)
      refine lv_aload_n hx hb dX5_passLetter_88 rfl (lv_at hl 1 rfl) ?_
      refine rg_getr F hH.1 0 (ci := 5) rfl (C := RX5) (T := TX5) (N := 6) rfl iwX5_passLetter_X5 2 (d := 27) (n := 27) rfl rfl (by decide) rfl lkX5_passLetter_4 rfl dX5_passLetter_89 ?_
      refine lv_iload_n hx hb dX5_passLetter_92 rfl (lv_at hl 0 rfl) ?_
      refine lv_aload_n hx hb dX5_passLetter_93 rfl (lv_at hl 1 rfl) ?_
      refine rg_geti F hH.1 0 (ci := 5) rfl (C := RX5) (T := TX5) (N := 6) rfl iwX5_passLetter_X5 3 (i := 0) rfl (by decide) rfl lkX5_passLetter_7 rfl dX5_passLetter_94 ?_
      refine lv_iload_n hx hb dX5_passLetter_97 rfl (lv_at hl 2 rfl) ?_
      obtain ⟨U10, eU10, hE⟩ := lt_el hE
      refine rg_callWS (As := [.int r1, .int (V9 0 0), .int a1]) (rest := []) F hH (fun q h1 h2 => ⟨h1, h2⟩) (mX4_markPassed l X b V9 r1 (V9 0 0) a1 U10 eU10) (cwV 3 F.1.2.2.2.2 gX5_passLetter_X4_markPassed rfl rfl rfl hvX4_markPassed ⟨Nat.le_of_ble_eq_true rfl, Nat.le_of_ble_eq_true rfl⟩) (rp_recv F hH.1 27 rfl (C := RX4) (T := TX4) (N := 8) rfl rfl) hH.1 rfl hl.1 (Nat.le_of_ble_eq_true rfl) dX5_passLetter_98 ⟨Nat.zero_le _, Nat.zero_le _⟩ rfl (fun H locs hH => ?_)
      refine lv_aload_n hx hb dX5_passLetter_101 rfl (lv_at hl 1 rfl) ?_
      refine rg_getr F hH.1 0 (ci := 5) rfl (C := RX5) (T := TX5) (N := 6) rfl iwX5_passLetter_X5 2 (d := 27) (n := 27) rfl rfl (by decide) rfl lkX5_passLetter_4 rfl dX5_passLetter_102 ?_
      refine lv_iconst (v := 1) hx hb dX5_passLetter_105 (by decide) ?_
      refine lv_aload_n hx hb dX5_passLetter_106 rfl (lv_at hl 1 rfl) ?_
      refine rg_getr F hH.1 0 (ci := 5) rfl (C := RX5) (T := TX5) (N := 6) rfl iwX5_passLetter_X5 1 (d := 10) (n := 10) rfl rfl (by decide) rfl lkX5_passLetter_0 rfl dX5_passLetter_107 ?_
      refine rg_getr F hH.1 10 (ci := 1) rfl (C := RX1) (T := TX1) (N := 8) rfl iwX5_passLetter_X1 0 (d := 1) (n := 11) rfl rfl (by decide) rfl lkX5_passLetter_8 rfl dX5_passLetter_110 ?_
      refine lv_iload_n hx hb dX5_passLetter_113 rfl (lv_at hl 2 rfl) ?_
      obtain ⟨r11, er11, hE⟩ := lt_el hE
      refine rg_callRV (As := [.int a1]) (rest := [.int ((1 : Int32)), .ref (b + 27)]) F (kX0_get l X 4 (by decide) (b + 11) (gv U10 11) a1 r11 er11) (cwV 1 F.1.2.2.2.2 gX5_passLetter_X0_get rfl rfl rfl hvX0_get ⟨Nat.le_of_ble_eq_true rfl, Nat.le_of_ble_eq_true rfl⟩) (rp_recv F hH.1 11 rfl (C := RX0) (T := TX0) (N := 1) rfl rfl) (hH.1.sub 11 sb_LW_11_LC4) rfl hl.1 (Nat.le_of_ble_eq_true rfl) dX5_passLetter_114 ⟨Nat.zero_le _, Nat.zero_le _⟩ rfl ?_
      refine lv_isub hx hb dX5_passLetter_117 ?_
      refine lv_iload_n hx hb dX5_passLetter_118 rfl (lv_at hl 0 rfl) ?_
      obtain ⟨U12, eU12, hE⟩ := lt_el hE
      refine rg_callWS (As := [.int (((1 : Int32)) - r11), .int r1]) (rest := []) F hH (fun q h1 h2 => ⟨h1, h2⟩) (mX4_addLast l X b U10 (((1 : Int32)) - r11) r1 U12 eU12) (cwV 2 F.1.2.2.2.2 gX5_passLetter_X4_addLast rfl rfl rfl hvX4_addLast ⟨Nat.le_of_ble_eq_true rfl, Nat.le_of_ble_eq_true rfl⟩) (rp_recv F hH.1 27 rfl (C := RX4) (T := TX4) (N := 8) rfl rfl) hH.1 rfl hl.1 (Nat.le_of_ble_eq_true rfl) dX5_passLetter_119 ⟨Nat.zero_le _, Nat.zero_le _⟩ rfl (fun H locs hH => ?_)
      subst hE
      exact W.vret hx hb hr (fun t ht _ => mw_post hH ht) hH.2.1.2.2 dX5_passLetter_122
    · have hE := (if_neg c7).symm.trans hE
      subst hE
      exact W.vret hx hb hr (fun t ht _ => mw_post hH ht) hH.2.1.2.2 dX5_passLetter_67
  · have hE := (if_pos c2).symm.trans hE
    subst hE
    exact W.vret hx hb hr (fun t ht _ => mw_post hH ht) hH.2.1.2.2 dX5_passLetter_19
set_option maxRecDepth 20000 in
theorem lkX5_sendBack_0 : Cond.fieldLink RX5 21 "TideWords$World" "gates" "LTideWords$Gates;" ∈ wsX5_sendBack := by decide +kernel
set_option maxRecDepth 20000 in
theorem iwX5_sendBack_X5 : ∀ w ∈ wsX50, w ∈ wsX5_sendBack := by decide +kernel
set_option maxRecDepth 20000 in
theorem lkX5_sendBack_1 : Cond.fieldLink RX5 74 "TideWords$Gates" "held" "LTideWords$Cells;" ∈ wsX5_sendBack := by decide +kernel
set_option maxRecDepth 20000 in
theorem iwX5_sendBack_X1 : ∀ w ∈ wsX10, w ∈ wsX5_sendBack := by decide +kernel
set_option maxRecDepth 20000 in
theorem lkX5_sendBack_2 : Cond.fieldLink RX5 118 "TideWords$Gates" "ways" "LTideWords$Cells;" ∈ wsX5_sendBack := by decide +kernel
set_option maxRecDepth 20000 in
theorem sb_LW_15_LC4 : sbL LW 15 (LC 4) := sbl_of rfl
set_option maxRecDepth 20000 in
theorem lkX5_sendBack_3 : Cond.fieldLink RX5 121 "TideWords$Gates" "vainLetters" "LTideWords$Cells;" ∈ wsX5_sendBack := by decide +kernel
set_option maxRecDepth 20000 in
theorem lkX5_sendBack_4 : Cond.fieldLink RX5 96 "TideWords$Gates" "lettersDone" "LTideWords$Cells;" ∈ wsX5_sendBack := by decide +kernel
set_option maxRecDepth 20000 in
theorem lkX5_sendBack_5 : Cond.fieldLink RX5 28 "TideWords$World" "words" "LTideWords$Words;" ∈ wsX5_sendBack := by decide +kernel
set_option maxRecDepth 20000 in
theorem lkX5_sendBack_6 : Cond.fieldLink RX5 124 "TideWords$Words" "timesBack" "LTideWords$Cells;" ∈ wsX5_sendBack := by decide +kernel
set_option maxRecDepth 20000 in
theorem iwX5_sendBack_X4 : ∀ w ∈ wsX40, w ∈ wsX5_sendBack := by decide +kernel
set_option maxRecDepth 20000 in
theorem lkX5_sendBack_7 : Cond.fieldLink RX5 78 "TideWords$Gates" "sides" "LTideWords$Cells;" ∈ wsX5_sendBack := by decide +kernel
theorem hvX4_addFirst : yX4_addFirst.cls = RX4 ∧ yX4_addFirst.cls ≠ "java/lang/invoke/MethodHandle" ∧ yX4_addFirst.cls ≠ "java/lang/invoke/VarHandle" ∧ (parseMethodDescriptor yX4_addFirst.desc).map (fun d => d.parameters.length) = some 2 := by decide +kernel
def fX5_sendBack (V : Mem) (a1 : Int32) : Mem := lt (cget 4 (V 20) a1) (fun r1 => if r1 = (-1006 : Int32) then V else lt (cget 4 (V 16) a1) (fun r3 => if r3 = (1 : Int32) then V else lt (cget 4 (V 22) a1) (fun r5 => lt (cadd V 26 4 a1 r5) (fun V6 => lt (fX1_release V6 a1) (fun U7 => lt (cadd U7 37 12 r1 ((1 : Int32))) (fun V8 => lt (cget 4 (V8 12) a1) (fun r9 => lt (fX4_addFirst V8 r9 r1) (fun U10 => U10))))))))
abbrev rmX5_sendBack : Room := { frames := 2, cells := 0, slots := 0, locals := 47 }
set_option maxHeartbeats 4000000 in
set_option maxRecDepth 100000 in
theorem mX5_sendBack (l : Launch) (X : kX) (b : Nat) (V : Mem) (a1 : Int32) (out : Mem) (hE : fX5_sendBack V a1 = out) : MW l yX5_sendBack wsX5_sendBack rmX5_sendBack X [.ref b, .int a1] (RP X LW b V) (none) b (b + LW.length) (RP X LW b out) := by
  refine mt_head (cc := cX5_sendBack) (maxL := 3) (ret := none) (own := RX5) (by decide) rfl rfl (Nat.le_of_ble_eq_true rfl) ?_
  intro p e s m below meth c ls F hr hlocks hnm hR hl
  have hx := F.1.1
  have hb := F.1.2.1
  have hH : Hp (t_fr b (b + LW.length)) s.heap s.heap.size X LW b V s.heap [] := ⟨hR, va_S.rf, rfl⟩
  have hl : lv_has ls 3 [(0, .ref b), (1, .int a1)] := hl
  unfold fX5_sendBack at hE
  refine lv_aload_n hx hb dX5_sendBack_0 rfl (lv_at hl 0 rfl) ?_
  refine rg_getr F hH.1 0 (ci := 5) rfl (C := RX5) (T := TX5) (N := 6) rfl iwX5_sendBack_X5 1 (d := 10) (n := 10) rfl rfl (by decide) rfl lkX5_sendBack_0 rfl dX5_sendBack_1 ?_
  refine rg_getr F hH.1 10 (ci := 1) rfl (C := RX1) (T := TX1) (N := 8) rfl iwX5_sendBack_X1 4 (d := 9) (n := 19) rfl rfl (by decide) rfl lkX5_sendBack_1 rfl dX5_sendBack_4 ?_
  refine lv_iload_n hx hb dX5_sendBack_7 rfl (lv_at hl 1 rfl) ?_
  obtain ⟨r1, er1, hE⟩ := lt_el hE
  refine rg_callRV (As := [.int a1]) (rest := []) F (kX0_get l X 4 (by decide) (b + 19) (gv V 19) a1 r1 er1) (cwV 1 F.1.2.2.2.2 gX5_sendBack_X0_get rfl rfl rfl hvX0_get ⟨Nat.le_of_ble_eq_true rfl, Nat.le_of_ble_eq_true rfl⟩) (rp_recv F hH.1 19 rfl (C := RX0) (T := TX0) (N := 1) rfl rfl) (hH.1.sub 19 sb_LW_19_LC4) rfl hl.1 (Nat.le_of_ble_eq_true rfl) dX5_sendBack_8 ⟨Nat.zero_le _, Nat.zero_le _⟩ rfl ?_
  refine lv_istore_n (lv' := [(2, .int r1), (0, .ref b), (1, .int a1)]) hx hb dX5_sendBack_11 rfl hl (by decide) rfl (fun ls hl => ?_)
  refine lv_iload_n hx hb dX5_sendBack_12 rfl (lv_at hl 0 rfl) ?_
  refine lv_sipush (v := (-1006)) hx hb dX5_sendBack_13 (by decide) ?_
  refine lv_icmp_eq (tgt := 34) hx hb dX5_sendBack_16 (by decide) (fun c2 => ?_) (fun c2 => ?_)
  · have hE := (if_pos c2).symm.trans hE
    subst hE
    exact W.vret hx hb hr (fun t ht _ => mw_post hH ht) hH.2.1.2.2 dX5_sendBack_34
  · have hE := (if_neg c2).symm.trans hE
    refine lv_aload_n hx hb dX5_sendBack_19 rfl (lv_at hl 1 rfl) ?_
    refine rg_getr F hH.1 0 (ci := 5) rfl (C := RX5) (T := TX5) (N := 6) rfl iwX5_sendBack_X5 1 (d := 10) (n := 10) rfl rfl (by decide) rfl lkX5_sendBack_0 rfl dX5_sendBack_20 ?_
    refine rg_getr F hH.1 10 (ci := 1) rfl (C := RX1) (T := TX1) (N := 8) rfl iwX5_sendBack_X1 2 (d := 5) (n := 15) rfl rfl (by decide) rfl lkX5_sendBack_2 rfl dX5_sendBack_23 ?_
    refine lv_iload_n hx hb dX5_sendBack_26 rfl (lv_at hl 2 rfl) ?_
    obtain ⟨r3, er3, hE⟩ := lt_el hE
    refine rg_callRV (As := [.int a1]) (rest := []) F (kX0_get l X 4 (by decide) (b + 15) (gv V 15) a1 r3 er3) (cwV 1 F.1.2.2.2.2 gX5_sendBack_X0_get rfl rfl rfl hvX0_get ⟨Nat.le_of_ble_eq_true rfl, Nat.le_of_ble_eq_true rfl⟩) (rp_recv F hH.1 15 rfl (C := RX0) (T := TX0) (N := 1) rfl rfl) (hH.1.sub 15 sb_LW_15_LC4) rfl hl.1 (Nat.le_of_ble_eq_true rfl) dX5_sendBack_27 ⟨Nat.zero_le _, Nat.zero_le _⟩ rfl ?_
    refine lv_iconst (v := 1) hx hb dX5_sendBack_30 (by decide) ?_
    refine lv_icmp_ne (tgt := 35) hx hb dX5_sendBack_31 (by decide) (fun c4 => ?_) (fun c4 => ?_)
    · have hE := (if_neg c4).symm.trans hE
      refine lv_aload_n hx hb dX5_sendBack_35 rfl (lv_at hl 1 rfl) ?_
      refine rg_getr F hH.1 0 (ci := 5) rfl (C := RX5) (T := TX5) (N := 6) rfl iwX5_sendBack_X5 1 (d := 10) (n := 10) rfl rfl (by decide) rfl lkX5_sendBack_0 rfl dX5_sendBack_36 ?_
      refine rg_getr F hH.1 10 (ci := 1) rfl (C := RX1) (T := TX1) (N := 8) rfl iwX5_sendBack_X1 7 (d := 15) (n := 25) rfl rfl (by decide) rfl lkX5_sendBack_3 rfl dX5_sendBack_39 ?_
      refine lv_iload_n hx hb dX5_sendBack_42 rfl (lv_at hl 2 rfl) ?_
      refine lv_aload_n hx hb dX5_sendBack_43 rfl (lv_at hl 1 rfl) ?_
      refine rg_getr F hH.1 0 (ci := 5) rfl (C := RX5) (T := TX5) (N := 6) rfl iwX5_sendBack_X5 1 (d := 10) (n := 10) rfl rfl (by decide) rfl lkX5_sendBack_0 rfl dX5_sendBack_44 ?_
      refine rg_getr F hH.1 10 (ci := 1) rfl (C := RX1) (T := TX1) (N := 8) rfl iwX5_sendBack_X1 5 (d := 11) (n := 21) rfl rfl (by decide) rfl lkX5_sendBack_4 rfl dX5_sendBack_47 ?_
      refine lv_iload_n hx hb dX5_sendBack_50 rfl (lv_at hl 2 rfl) ?_
      obtain ⟨r5, er5, hE⟩ := lt_el hE
      refine rg_callRV (As := [.int a1]) (rest := [.int a1, .ref (b + 25)]) F (kX0_get l X 4 (by decide) (b + 21) (gv V 21) a1 r5 er5) (cwV 1 F.1.2.2.2.2 gX5_sendBack_X0_get rfl rfl rfl hvX0_get ⟨Nat.le_of_ble_eq_true rfl, Nat.le_of_ble_eq_true rfl⟩) (rp_recv F hH.1 21 rfl (C := RX0) (T := TX0) (N := 1) rfl rfl) (hH.1.sub 21 sb_LW_21_LC4) rfl hl.1 (Nat.le_of_ble_eq_true rfl) dX5_sendBack_51 ⟨Nat.zero_le _, Nat.zero_le _⟩ rfl ?_
      obtain ⟨V6, eV6, hE⟩ := lt_el hE
      refine rg_callWV (As := [.int a1, .int r5]) (rest := []) F hH (fun q h1 h2 => ⟨h1, h2⟩) 25 sb_LW_25_LC4 (kX0_add l X 4 (by decide) (b + 25) (gv V 25) a1 r5 _ rfl) (cwV 2 F.1.2.2.2.2 gX5_sendBack_X0_add rfl rfl rfl hvX0_add ⟨Nat.le_of_ble_eq_true rfl, Nat.le_of_ble_eq_true rfl⟩) (rp_recv F hH.1 25 rfl (C := RX0) (T := TX0) (N := 1) rfl rfl) (hH.1.sub 25 sb_LW_25_LC4) rfl hl.1 (Nat.le_of_ble_eq_true rfl) dX5_sendBack_54 ⟨Nat.zero_le _, Nat.zero_le _⟩ rfl ((pv_cadd ..).trans eV6) (fun H locs hH hfr => ?_)
      refine lv_aload_n hx hb dX5_sendBack_57 rfl (lv_at hl 1 rfl) ?_
      refine rg_getr F hH.1 0 (ci := 5) rfl (C := RX5) (T := TX5) (N := 6) rfl iwX5_sendBack_X5 1 (d := 10) (n := 10) rfl rfl (by decide) rfl lkX5_sendBack_0 rfl dX5_sendBack_58 ?_
      refine lv_iload_n hx hb dX5_sendBack_61 rfl (lv_at hl 2 rfl) ?_
      obtain ⟨U7, eU7, hE⟩ := lt_el hE
      refine rg_callWS (As := [.int a1]) (rest := []) F hH (fun q h1 h2 => ⟨h1, h2⟩) (mX1_release l X b V6 a1 U7 eU7) (cwV 1 F.1.2.2.2.2 gX5_sendBack_X1_release rfl rfl rfl hvX1_release ⟨Nat.le_of_ble_eq_true rfl, Nat.le_of_ble_eq_true rfl⟩) (rp_recv F hH.1 10 rfl (C := RX1) (T := TX1) (N := 8) rfl rfl) hH.1 rfl hl.1 (Nat.le_of_ble_eq_true rfl) dX5_sendBack_62 ⟨Nat.zero_le _, Nat.zero_le _⟩ rfl (fun H locs hH => ?_)
      refine lv_aload_n hx hb dX5_sendBack_65 rfl (lv_at hl 1 rfl) ?_
      refine rg_getr F hH.1 0 (ci := 5) rfl (C := RX5) (T := TX5) (N := 6) rfl iwX5_sendBack_X5 2 (d := 27) (n := 27) rfl rfl (by decide) rfl lkX5_sendBack_5 rfl dX5_sendBack_66 ?_
      refine rg_getr F hH.1 27 (ci := 4) rfl (C := RX4) (T := TX4) (N := 8) rfl iwX5_sendBack_X4 4 (d := 9) (n := 36) rfl rfl (by decide) rfl lkX5_sendBack_6 rfl dX5_sendBack_69 ?_
      refine lv_iload_n hx hb dX5_sendBack_72 rfl (lv_at hl 0 rfl) ?_
      refine lv_iconst (v := 1) hx hb dX5_sendBack_73 (by decide) ?_
      obtain ⟨V8, eV8, hE⟩ := lt_el hE
      refine rg_callWV (As := [.int r1, .int ((1 : Int32))]) (rest := []) F hH (fun q h1 h2 => ⟨h1, h2⟩) 36 sb_LW_36_LC12 (kX0_add l X 12 (by decide) (b + 36) (gv U7 36) r1 ((1 : Int32)) _ rfl) (cwV 2 F.1.2.2.2.2 gX5_sendBack_X0_add rfl rfl rfl hvX0_add ⟨Nat.le_of_ble_eq_true rfl, Nat.le_of_ble_eq_true rfl⟩) (rp_recv F hH.1 36 rfl (C := RX0) (T := TX0) (N := 1) rfl rfl) (hH.1.sub 36 sb_LW_36_LC12) rfl hl.1 (Nat.le_of_ble_eq_true rfl) dX5_sendBack_74 ⟨Nat.zero_le _, Nat.zero_le _⟩ rfl ((pv_cadd ..).trans eV8) (fun H locs hH hfr => ?_)
      refine lv_aload_n hx hb dX5_sendBack_77 rfl (lv_at hl 1 rfl) ?_
      refine rg_getr F hH.1 0 (ci := 5) rfl (C := RX5) (T := TX5) (N := 6) rfl iwX5_sendBack_X5 2 (d := 27) (n := 27) rfl rfl (by decide) rfl lkX5_sendBack_5 rfl dX5_sendBack_78 ?_
      refine lv_aload_n hx hb dX5_sendBack_81 rfl (lv_at hl 1 rfl) ?_
      refine rg_getr F hH.1 0 (ci := 5) rfl (C := RX5) (T := TX5) (N := 6) rfl iwX5_sendBack_X5 1 (d := 10) (n := 10) rfl rfl (by decide) rfl lkX5_sendBack_0 rfl dX5_sendBack_82 ?_
      refine rg_getr F hH.1 10 (ci := 1) rfl (C := RX1) (T := TX1) (N := 8) rfl iwX5_sendBack_X1 0 (d := 1) (n := 11) rfl rfl (by decide) rfl lkX5_sendBack_7 rfl dX5_sendBack_85 ?_
      refine lv_iload_n hx hb dX5_sendBack_88 rfl (lv_at hl 2 rfl) ?_
      obtain ⟨r9, er9, hE⟩ := lt_el hE
      refine rg_callRV (As := [.int a1]) (rest := [.ref (b + 27)]) F (kX0_get l X 4 (by decide) (b + 11) (gv V8 11) a1 r9 er9) (cwV 1 F.1.2.2.2.2 gX5_sendBack_X0_get rfl rfl rfl hvX0_get ⟨Nat.le_of_ble_eq_true rfl, Nat.le_of_ble_eq_true rfl⟩) (rp_recv F hH.1 11 rfl (C := RX0) (T := TX0) (N := 1) rfl rfl) (hH.1.sub 11 sb_LW_11_LC4) rfl hl.1 (Nat.le_of_ble_eq_true rfl) dX5_sendBack_89 ⟨Nat.zero_le _, Nat.zero_le _⟩ rfl ?_
      refine lv_iload_n hx hb dX5_sendBack_92 rfl (lv_at hl 0 rfl) ?_
      obtain ⟨U10, eU10, hE⟩ := lt_el hE
      refine rg_callWS (As := [.int r9, .int r1]) (rest := []) F hH (fun q h1 h2 => ⟨h1, h2⟩) (kX4_addFirst l X b V8 r9 r1 U10 eU10) (cwV 2 F.1.2.2.2.2 gX5_sendBack_X4_addFirst rfl rfl rfl hvX4_addFirst ⟨Nat.le_of_ble_eq_true rfl, Nat.le_of_ble_eq_true rfl⟩) (rp_recv F hH.1 27 rfl (C := RX4) (T := TX4) (N := 8) rfl rfl) hH.1 rfl hl.1 (Nat.le_of_ble_eq_true rfl) dX5_sendBack_93 ⟨Nat.zero_le _, Nat.zero_le _⟩ rfl (fun H locs hH => ?_)
      subst hE
      exact W.vret hx hb hr (fun t ht _ => mw_post hH ht) hH.2.1.2.2 dX5_sendBack_96
    · have hE := (if_pos c4).symm.trans hE
      subst hE
      exact W.vret hx hb hr (fun t ht _ => mw_post hH ht) hH.2.1.2.2 dX5_sendBack_34
set_option maxRecDepth 20000 in
theorem lkX5_stepAcross_0 : Cond.fieldLink RX5 21 "TideWords$World" "gates" "LTideWords$Gates;" ∈ wsX5_stepAcross := by decide +kernel
set_option maxRecDepth 20000 in
theorem iwX5_stepAcross_X5 : ∀ w ∈ wsX50, w ∈ wsX5_stepAcross := by decide +kernel
theorem hvX5_sendBack : yX5_sendBack.cls = RX5 ∧ yX5_sendBack.cls ≠ "java/lang/invoke/MethodHandle" ∧ yX5_sendBack.cls ≠ "java/lang/invoke/VarHandle" ∧ (parseMethodDescriptor yX5_sendBack.desc).map (fun d => d.parameters.length) = some 1 := by decide +kernel
theorem hvX5_takeWord : yX5_takeWord.cls = RX5 ∧ yX5_takeWord.cls ≠ "java/lang/invoke/MethodHandle" ∧ yX5_takeWord.cls ≠ "java/lang/invoke/VarHandle" ∧ (parseMethodDescriptor yX5_takeWord.desc).map (fun d => d.parameters.length) = some 1 := by decide +kernel
theorem hvX5_passLetter : yX5_passLetter.cls = RX5 ∧ yX5_passLetter.cls ≠ "java/lang/invoke/MethodHandle" ∧ yX5_passLetter.cls ≠ "java/lang/invoke/VarHandle" ∧ (parseMethodDescriptor yX5_passLetter.desc).map (fun d => d.parameters.length) = some 1 := by decide +kernel
set_option maxRecDepth 20000 in
theorem lkX5_stepAcross_1 : Cond.fieldLink RX5 67 "TideWords$World" "idleSteps" "I" ∈ wsX5_stepAcross := by decide +kernel
set_option maxRecDepth 20000 in
theorem lkX5_stepAcross_2 : Cond.fieldLink RX5 40 "TideWords$World" "steps" "I" ∈ wsX5_stepAcross := by decide +kernel
def lbX5_stepAcross_4 (a1 : Int32) (s1 : Int32 × Int32 × Mem) : Option ((Int32 × Int32 × Mem) ⊕ (Int32 × Int32 × Mem)) := if (4 : Int32) ≤ s1.2.1 then some (.inr (s1.1, s1.2.1, s1.2.2)) else lt (fX1_isOpenAcross s1.2.2 s1.2.1 a1) (fun r3 => if r3 = 0 then lt (fX5_sendBack s1.2.2 s1.2.1) (fun U5 => some (.inl (s1.1, s1.2.1 + 1, U5))) else lt (fX5_takeWord s1.2.2 s1.2.1) (fun U6 => lt (fX5_passLetter U6 s1.2.1) (fun U7 => some (.inl ((0 : Int32), s1.2.1 + 1, U7)))))
def qX5_stepAcross (V : Mem) (a1 : Int32) : Option (Mem) := (it (lbX5_stepAcross_4 a1) fuel ((1 : Int32), (0 : Int32), V)).bind (fun s8 => if s8.1 = 0 then lt (sv s8.2.2 0 2 ((s8.2.2 0 2) + ((0 : Int32)))) (fun V11 => lt (sv V11 0 0 ((V11 0 0) + ((1 : Int32)))) (fun V12 => some (V12))) else lt (sv s8.2.2 0 2 ((s8.2.2 0 2) + ((1 : Int32)))) (fun V13 => lt (sv V13 0 0 ((V13 0 0) + ((1 : Int32)))) (fun V14 => some (V14))))
abbrev rmX5_stepAcross : Room := { frames := 4, cells := 0, slots := 0, locals := 92 }
set_option maxHeartbeats 4000000 in
set_option maxRecDepth 100000 in
theorem mX5_stepAcross (l : Launch) (X : kX) (b : Nat) (V : Mem) (a1 : Int32) (out : Mem) (hE : qX5_stepAcross V a1 = some out) : MW l yX5_stepAcross wsX5_stepAcross rmX5_stepAcross X [.ref b, .int a1] (RP X LW b V) (none) b (b + LW.length) (RP X LW b out) := by
  refine mt_head (cc := cX5_stepAcross) (maxL := 4) (ret := none) (own := RX5) (by decide) rfl rfl (Nat.le_of_ble_eq_true rfl) ?_
  intro p e s m below meth c ls F hr hlocks hnm hR hl
  have hx := F.1.1
  have hb := F.1.2.1
  have hH : Hp (t_fr b (b + LW.length)) s.heap s.heap.size X LW b V s.heap [] := ⟨hR, va_S.rf, rfl⟩
  have hl : lv_has ls 4 [(0, .ref b), (1, .int a1)] := hl
  unfold qX5_stepAcross at hE
  refine lv_iconst (v := 1) hx hb dX5_stepAcross_0 (by decide) ?_
  refine lv_istore_n (lv' := [(2, .int ((1 : Int32))), (0, .ref b), (1, .int a1)]) hx hb dX5_stepAcross_1 rfl hl (by decide) rfl (fun ls hl => ?_)
  refine lv_iconst (v := 0) hx hb dX5_stepAcross_2 (by decide) ?_
  refine lv_istore_n (lv' := [(3, .int ((0 : Int32))), (2, .int ((1 : Int32))), (0, .ref b), (1, .int a1)]) hx hb dX5_stepAcross_3 rfl hl (by decide) rfl (fun ls hl => ?_)
  obtain ⟨x9, hx9, hE⟩ := bd_el hE
  refine it_walk2 (body := lbX5_stepAcross_4 a1) (Wh := fun s1 => ∀ (H : Heap) (locs : List Loc) (ls : Array Slot), Hp (t_fr b (b + LW.length)) s.heap s.heap.size X LW b s1.2.2 H locs → lv_has ls 4 [(3, .int s1.2.1), (2, .int s1.1), (0, .ref b), (1, .int a1)] → W p l e rmX5_stepAcross s m ([.ref b, .int a1] : List Value).toArray below meth c H locs 0 0 (MQ below (cQw (none) b (b + LW.length) (RP X LW b out)) ([.ref b, .int a1] : List Value).toArray s 0 0 (t_fr b (b + LW.length))) (F0 m 4 ls [])) (We := fun s8 => ∀ (H : Heap) (locs : List Loc) (ls : Array Slot), Hp (t_fr b (b + LW.length)) s.heap s.heap.size X LW b s8.2.2 H locs → lv_has ls 4 [(3, .int s8.2.1), (2, .int s8.1), (0, .ref b), (1, .int a1)] → W p l e rmX5_stepAcross s m ([.ref b, .int a1] : List Value).toArray below meth c H locs 0 0 (MQ below (cQw (none) b (b + LW.length) (RP X LW b out)) ([.ref b, .int a1] : List Value).toArray s 0 0 (t_fr b (b + LW.length))) (F0 m 47 ls [])) ?_ _ _ _ hx9 ?_ s.heap [] ls hH (lv_sub hl [0, 1, 2, 3] rfl)
  · intro s1 r9 hE hL9 hR9 H locs ls hH hl
    unfold lbX5_stepAcross_4 at hE
    refine lv_iload_n hx hb dX5_stepAcross_4 rfl (lv_at hl 0 rfl) ?_
    refine lv_iconst (v := 4) hx hb dX5_stepAcross_5 (by decide) ?_
    refine lv_icmp_ge (tgt := 47) hx hb dX5_stepAcross_6 (by decide) (fun c2 => ?_) (fun c2 => ?_)
    · have hE := (if_pos c2).symm.trans hE
      cases hE
      exact hR9 _ rfl H locs ls hH (lv_sub hl [0, 1, 2, 3] rfl)
    · have hE := (if_neg c2).symm.trans hE
      refine lv_aload_n hx hb dX5_stepAcross_9 rfl (lv_at hl 2 rfl) ?_
      refine rg_getr F hH.1 0 (ci := 5) rfl (C := RX5) (T := TX5) (N := 6) rfl iwX5_stepAcross_X5 1 (d := 10) (n := 10) rfl rfl (by decide) rfl lkX5_stepAcross_0 rfl dX5_stepAcross_10 ?_
      refine lv_iload_n hx hb dX5_stepAcross_13 rfl (lv_at hl 0 rfl) ?_
      refine lv_iload_n hx hb dX5_stepAcross_14 rfl (lv_at hl 3 rfl) ?_
      obtain ⟨r3, er3, hE⟩ := lt_el hE
      refine rg_callRV (As := [.int s1.2.1, .int a1]) (rest := []) F (mX1_isOpenAcross l X b s1.2.2 s1.2.1 a1 r3 er3) (cwV 2 F.1.2.2.2.2 gX5_stepAcross_X1_isOpenAcross rfl rfl rfl hvX1_isOpenAcross ⟨Nat.le_of_ble_eq_true rfl, Nat.le_of_ble_eq_true rfl⟩) (rp_recv F hH.1 10 rfl (C := RX1) (T := TX1) (N := 8) rfl rfl) hH.1 rfl hl.1 (Nat.le_of_ble_eq_true rfl) dX5_stepAcross_15 ⟨Nat.zero_le _, Nat.zero_le _⟩ rfl ?_
      refine lv_if_eq (tgt := 36) hx hb dX5_stepAcross_18 (by decide) (fun c4 => ?_) (fun c4 => ?_)
      · have hE := (if_pos c4).symm.trans hE
        refine lv_aload_n hx hb dX5_stepAcross_36 rfl (lv_at hl 2 rfl) ?_
        refine lv_iload_n hx hb dX5_stepAcross_37 rfl (lv_at hl 0 rfl) ?_
        obtain ⟨U5, eU5, hE⟩ := lt_el hE
        refine rg_callWS (As := [.int s1.2.1]) (rest := []) F hH (fun q h1 h2 => ⟨h1, h2⟩) (mX5_sendBack l X b s1.2.2 s1.2.1 U5 eU5) (cwV 1 F.1.2.2.2.2 gX5_stepAcross_X5_sendBack rfl rfl rfl hvX5_sendBack ⟨Nat.le_of_ble_eq_true rfl, Nat.le_of_ble_eq_true rfl⟩) (rp_recv F hH.1 0 rfl (C := RX5) (T := TX5) (N := 6) rfl rfl) hH.1 rfl hl.1 (Nat.le_of_ble_eq_true rfl) dX5_stepAcross_38 ⟨Nat.zero_le _, Nat.zero_le _⟩ rfl (fun H locs hH => ?_)
        refine lv_iinc (v := s1.2.1 + 1) (lv' := [(3, .int (s1.2.1 + 1)), (2, .int s1.1), (0, .ref b), (1, .int a1)]) hx hb dX5_stepAcross_41 hl (k := 0) rfl (congrArg (fun q => s1.2.1 + q) (by decide)) (by decide) rfl (fun ls hl => ?_)
        refine lv_goto (tgt := 4) hx hb dX5_stepAcross_44 (by decide) ?_
        cases hE
        exact hL9 _ rfl H locs ls hH (lv_sub hl [0, 1, 2, 3] rfl)
      · have hE := (if_neg c4).symm.trans hE
        refine lv_iconst (v := 0) hx hb dX5_stepAcross_21 (by decide) ?_
        refine lv_istore_n (lv' := [(2, .int ((0 : Int32))), (3, .int s1.2.1), (0, .ref b), (1, .int a1)]) hx hb dX5_stepAcross_22 rfl hl (by decide) rfl (fun ls hl => ?_)
        refine lv_aload_n hx hb dX5_stepAcross_23 rfl (lv_at hl 2 rfl) ?_
        refine lv_iload_n hx hb dX5_stepAcross_24 rfl (lv_at hl 1 rfl) ?_
        obtain ⟨U6, eU6, hE⟩ := lt_el hE
        refine rg_callWS (As := [.int s1.2.1]) (rest := []) F hH (fun q h1 h2 => ⟨h1, h2⟩) (mX5_takeWord l X b s1.2.2 s1.2.1 U6 eU6) (cwV 1 F.1.2.2.2.2 gX5_stepAcross_X5_takeWord rfl rfl rfl hvX5_takeWord ⟨Nat.le_of_ble_eq_true rfl, Nat.le_of_ble_eq_true rfl⟩) (rp_recv F hH.1 0 rfl (C := RX5) (T := TX5) (N := 6) rfl rfl) hH.1 rfl hl.1 (Nat.le_of_ble_eq_true rfl) dX5_stepAcross_25 ⟨Nat.zero_le _, Nat.zero_le _⟩ rfl (fun H locs hH => ?_)
        refine lv_aload_n hx hb dX5_stepAcross_28 rfl (lv_at hl 2 rfl) ?_
        refine lv_iload_n hx hb dX5_stepAcross_29 rfl (lv_at hl 1 rfl) ?_
        obtain ⟨U7, eU7, hE⟩ := lt_el hE
        refine rg_callWS (As := [.int s1.2.1]) (rest := []) F hH (fun q h1 h2 => ⟨h1, h2⟩) (mX5_passLetter l X b U6 s1.2.1 U7 eU7) (cwV 1 F.1.2.2.2.2 gX5_stepAcross_X5_passLetter rfl rfl rfl hvX5_passLetter ⟨Nat.le_of_ble_eq_true rfl, Nat.le_of_ble_eq_true rfl⟩) (rp_recv F hH.1 0 rfl (C := RX5) (T := TX5) (N := 6) rfl rfl) hH.1 rfl hl.1 (Nat.le_of_ble_eq_true rfl) dX5_stepAcross_30 ⟨Nat.zero_le _, Nat.zero_le _⟩ rfl (fun H locs hH => ?_)
        refine lv_goto (tgt := 41) hx hb dX5_stepAcross_33 (by decide) ?_
        refine lv_iinc (v := s1.2.1 + 1) (lv' := [(3, .int (s1.2.1 + 1)), (2, .int ((0 : Int32))), (0, .ref b), (1, .int a1)]) hx hb dX5_stepAcross_41 hl (k := 1) rfl (congrArg (fun q => s1.2.1 + q) (by decide)) (by decide) rfl (fun ls hl => ?_)
        refine lv_goto (tgt := 4) hx hb dX5_stepAcross_44 (by decide) ?_
        cases hE
        exact hL9 _ rfl H locs ls hH (lv_sub hl [0, 1, 2, 3] rfl)
  · intro H locs ls hH hl
    refine lv_aload_n hx hb dX5_stepAcross_47 rfl (lv_at hl 2 rfl) ?_
    refine lv_dup hx hb dX5_stepAcross_48 rfl ?_
    refine rg_geti F hH.1 0 (ci := 5) rfl (C := RX5) (T := TX5) (N := 6) rfl iwX5_stepAcross_X5 5 (i := 2) rfl (by decide) rfl lkX5_stepAcross_1 rfl dX5_stepAcross_49 ?_
    refine lv_iload_n hx hb dX5_stepAcross_52 rfl (lv_at hl 1 rfl) ?_
    refine lv_if_eq (tgt := 60) hx hb dX5_stepAcross_53 (by decide) (fun c10 => ?_) (fun c10 => ?_)
    · have hE := (if_pos c10).symm.trans hE
      refine lv_iconst (v := 0) hx hb dX5_stepAcross_60 (by decide) ?_
      refine lv_iadd hx hb dX5_stepAcross_61 ?_
      obtain ⟨V11, eV11, hE⟩ := lt_el hE
      refine rg_put F hH (fun q h1 h2 => ⟨h1, h2⟩) 0 (ci := 5) rfl (C := RX5) (T := TX5) (N := 6) rfl iwX5_stepAcross_X5 tyX5 tyX5_ok nmX5 5 (i := 2) rfl (by decide) (by decide) rfl rfl (by decide +kernel) lkX5_stepAcross_1 rfl dX5_stepAcross_62 (fun H locs hH hfr => ?_)
      replace hH := hp_cast eV11 hH
      refine lv_aload_n hx hb dX5_stepAcross_65 rfl (lv_at hl 2 rfl) ?_
      refine lv_dup hx hb dX5_stepAcross_66 rfl ?_
      refine rg_geti F hH.1 0 (ci := 5) rfl (C := RX5) (T := TX5) (N := 6) rfl iwX5_stepAcross_X5 3 (i := 0) rfl (by decide) rfl lkX5_stepAcross_2 rfl dX5_stepAcross_67 ?_
      refine lv_iconst (v := 1) hx hb dX5_stepAcross_70 (by decide) ?_
      refine lv_iadd hx hb dX5_stepAcross_71 ?_
      obtain ⟨V12, eV12, hE⟩ := lt_el hE
      refine rg_put F hH (fun q h1 h2 => ⟨h1, h2⟩) 0 (ci := 5) rfl (C := RX5) (T := TX5) (N := 6) rfl iwX5_stepAcross_X5 tyX5 tyX5_ok nmX5 3 (i := 0) rfl (by decide) (by decide) rfl rfl (by decide +kernel) lkX5_stepAcross_2 rfl dX5_stepAcross_72 (fun H locs hH hfr => ?_)
      replace hH := hp_cast eV12 hH
      have hE := Option.some.inj hE
      subst hE
      exact W.vret hx hb hr (fun t ht _ => mw_post hH ht) hH.2.1.2.2 dX5_stepAcross_75
    · have hE := (if_neg c10).symm.trans hE
      refine lv_iconst (v := 1) hx hb dX5_stepAcross_56 (by decide) ?_
      refine lv_goto (tgt := 61) hx hb dX5_stepAcross_57 (by decide) ?_
      refine lv_iadd hx hb dX5_stepAcross_61 ?_
      obtain ⟨V13, eV13, hE⟩ := lt_el hE
      refine rg_put F hH (fun q h1 h2 => ⟨h1, h2⟩) 0 (ci := 5) rfl (C := RX5) (T := TX5) (N := 6) rfl iwX5_stepAcross_X5 tyX5 tyX5_ok nmX5 5 (i := 2) rfl (by decide) (by decide) rfl rfl (by decide +kernel) lkX5_stepAcross_1 rfl dX5_stepAcross_62 (fun H locs hH hfr => ?_)
      replace hH := hp_cast eV13 hH
      refine lv_aload_n hx hb dX5_stepAcross_65 rfl (lv_at hl 2 rfl) ?_
      refine lv_dup hx hb dX5_stepAcross_66 rfl ?_
      refine rg_geti F hH.1 0 (ci := 5) rfl (C := RX5) (T := TX5) (N := 6) rfl iwX5_stepAcross_X5 3 (i := 0) rfl (by decide) rfl lkX5_stepAcross_2 rfl dX5_stepAcross_67 ?_
      refine lv_iconst (v := 1) hx hb dX5_stepAcross_70 (by decide) ?_
      refine lv_iadd hx hb dX5_stepAcross_71 ?_
      obtain ⟨V14, eV14, hE⟩ := lt_el hE
      refine rg_put F hH (fun q h1 h2 => ⟨h1, h2⟩) 0 (ci := 5) rfl (C := RX5) (T := TX5) (N := 6) rfl iwX5_stepAcross_X5 tyX5 tyX5_ok nmX5 3 (i := 0) rfl (by decide) (by decide) rfl rfl (by decide +kernel) lkX5_stepAcross_2 rfl dX5_stepAcross_72 (fun H locs hH hfr => ?_)
      replace hH := hp_cast eV14 hH
      have hE := Option.some.inj hE
      subst hE
      exact W.vret hx hb hr (fun t ht _ => mw_post hH ht) hH.2.1.2.2 dX5_stepAcross_75
/-- a gate's part of a step: whether no gate was open so far (1), and the world -/
def actC (gap : Int32) (g : Nat) (q : Int32 × Mem) : Int32 × Mem := if fX1_isOpenAcross q.2 (nI g) gap = 0 then (q.1, fX5_sendBack q.2 (nI g)) else (0, fX5_passLetter (fX5_takeWord q.2 (nI g)) (nI g))
def fX5_stepAcross (V : Mem) (a1 : Int32) : Mem := sv (sv (fld (actC a1) 4 (1, V)).2 0 2 ((fld (actC a1) 4 (1, V)).2 0 2 + (if (fld (actC a1) 4 (1, V)).1 = 0 then 0 else 1))) 0 0 ((fld (actC a1) 4 (1, V)).2 0 0 + 1)
theorem tX5_stepAcross (V : Mem) (a1 : Int32) : qX5_stepAcross V a1 = some (fX5_stepAcross V a1) := by
  have h : it (lbX5_stepAcross_4 a1) fuel ((1 : Int32), (0 : Int32), V) = some ((fld (actC a1) 4 (1, V)).1, nI 4, (fld (actC a1) 4 (1, V)).2) := by
    refine it_for (fun i => ((fld (actC a1) i (1, V)).1, nI i, (fld (actC a1) i (1, V)).2)) 4 (fun i hi => ?_) ?_ fuel (fuel_lt (by omega))
    · unfold lbX5_stepAcross_4 lt
      dsimp only
      rw [if_neg (ge4 hi), nI_1]
      have e : fld (actC a1) (i + 1) (1, V) = actC a1 i (fld (actC a1) i (1, V)) := rfl
      rw [e]
      generalize fld (actC a1) i (1, V) = q
      unfold actC
      by_cases h : fX1_isOpenAcross q.2 (nI i) a1 = 0
      · rw [if_pos h, if_pos h]
      · rw [if_neg h, if_neg h]
    · unfold lbX5_stepAcross_4
      dsimp only
      rw [if_pos (show (4 : Int32) ≤ nI 4 from nI_le (Nat.le_refl _) (by omega))]
  unfold qX5_stepAcross fX5_stepAcross lt
  generalize fld (actC a1) 4 (1, V) = q at h ⊢
  rw [h, Option.bind_some]
  dsimp only
  by_cases h : q.1 = 0
  · rw [if_pos h, if_pos h]
    rfl
  · rw [if_neg h, if_neg h]
    rfl
def stps : Nat → Mem → Mem
  | 0, V => V
  | n + 1, V => fX5_stepAcross (stps n V) (fX3_gapAt (stps n V) (stps n V 0 0))

theorem kX5_stepAcross (l : Launch) (X : kX) (b : Nat) (V : Mem) (a1 : Int32) (out : Mem) (hE : fX5_stepAcross V a1 = out) : MW l yX5_stepAcross wsX5_stepAcross rmX5_stepAcross X [.ref b, .int a1] (RP X LW b V) (none) b (b + LW.length) (RP X LW b out) := mX5_stepAcross l X b V a1 out ((tX5_stepAcross V a1).trans (congrArg some hE))
set_option maxRecDepth 20000 in
theorem lkX5_makeSteps_0 : Cond.fieldLink RX5 12 "TideWords$World" "tides" "LTideWords$Tides;" ∈ wsX5_makeSteps := by decide +kernel
set_option maxRecDepth 20000 in
theorem iwX5_makeSteps_X5 : ∀ w ∈ wsX50, w ∈ wsX5_makeSteps := by decide +kernel
set_option maxRecDepth 20000 in
theorem lkX5_makeSteps_1 : Cond.fieldLink RX5 40 "TideWords$World" "steps" "I" ∈ wsX5_makeSteps := by decide +kernel
theorem hvX5_stepAcross : yX5_stepAcross.cls = RX5 ∧ yX5_stepAcross.cls ≠ "java/lang/invoke/MethodHandle" ∧ yX5_stepAcross.cls ≠ "java/lang/invoke/VarHandle" ∧ (parseMethodDescriptor yX5_stepAcross.desc).map (fun d => d.parameters.length) = some 1 := by decide +kernel
def lbX5_makeSteps_2 (a1 : Int32) (s1 : Int32 × Mem) : Option ((Int32 × Mem) ⊕ (Int32 × Mem)) := if a1 ≤ s1.1 then some (.inr (s1.1, s1.2)) else lt (fX3_gapAt s1.2 (s1.2 0 0)) (fun r3 => lt (fX5_stepAcross s1.2 r3) (fun U4 => some (.inl (s1.1 + 1, U4))))
def qX5_makeSteps (V : Mem) (a1 : Int32) : Option (Mem) := (it (lbX5_makeSteps_2 a1) fuel ((0 : Int32), V)).bind (fun s5 => some (s5.2))
abbrev rmX5_makeSteps : Room := { frames := 5, cells := 0, slots := 0, locals := 115 }
set_option maxHeartbeats 4000000 in
set_option maxRecDepth 100000 in
theorem mX5_makeSteps (l : Launch) (X : kX) (b : Nat) (V : Mem) (a1 : Int32) (out : Mem) (hE : qX5_makeSteps V a1 = some out) : MW l yX5_makeSteps wsX5_makeSteps rmX5_makeSteps X [.ref b, .int a1] (RP X LW b V) (none) b (b + LW.length) (RP X LW b out) := by
  refine mt_head (cc := cX5_makeSteps) (maxL := 3) (ret := none) (own := RX5) (by decide) rfl rfl (Nat.le_of_ble_eq_true rfl) ?_
  intro p e s m below meth c ls F hr hlocks hnm hR hl
  have hx := F.1.1
  have hb := F.1.2.1
  have hH : Hp (t_fr b (b + LW.length)) s.heap s.heap.size X LW b V s.heap [] := ⟨hR, va_S.rf, rfl⟩
  have hl : lv_has ls 3 [(0, .ref b), (1, .int a1)] := hl
  unfold qX5_makeSteps at hE
  refine lv_iconst (v := 0) hx hb dX5_makeSteps_0 (by decide) ?_
  refine lv_istore_n (lv' := [(2, .int ((0 : Int32))), (0, .ref b), (1, .int a1)]) hx hb dX5_makeSteps_1 rfl hl (by decide) rfl (fun ls hl => ?_)
  obtain ⟨x6, hx6, hE⟩ := bd_el hE
  refine it_walk2 (body := lbX5_makeSteps_2 a1) (Wh := fun s1 => ∀ (H : Heap) (locs : List Loc) (ls : Array Slot), Hp (t_fr b (b + LW.length)) s.heap s.heap.size X LW b s1.2 H locs → lv_has ls 3 [(2, .int s1.1), (0, .ref b), (1, .int a1)] → W p l e rmX5_makeSteps s m ([.ref b, .int a1] : List Value).toArray below meth c H locs 0 0 (MQ below (cQw (none) b (b + LW.length) (RP X LW b out)) ([.ref b, .int a1] : List Value).toArray s 0 0 (t_fr b (b + LW.length))) (F0 m 2 ls [])) (We := fun s5 => ∀ (H : Heap) (locs : List Loc) (ls : Array Slot), Hp (t_fr b (b + LW.length)) s.heap s.heap.size X LW b s5.2 H locs → lv_has ls 3 [(2, .int s5.1), (0, .ref b), (1, .int a1)] → W p l e rmX5_makeSteps s m ([.ref b, .int a1] : List Value).toArray below meth c H locs 0 0 (MQ below (cQw (none) b (b + LW.length) (RP X LW b out)) ([.ref b, .int a1] : List Value).toArray s 0 0 (t_fr b (b + LW.length))) (F0 m 28 ls [])) ?_ _ _ _ hx6 ?_ s.heap [] ls hH (lv_sub hl [0, 1, 2] rfl)
  · intro s1 r9 hE hL9 hR9 H locs ls hH hl
    unfold lbX5_makeSteps_2 at hE
    refine lv_iload_n hx hb dX5_makeSteps_2 rfl (lv_at hl 0 rfl) ?_
    refine lv_iload_n hx hb dX5_makeSteps_3 rfl (lv_at hl 2 rfl) ?_
    refine lv_icmp_ge (tgt := 28) hx hb dX5_makeSteps_4 (by decide) (fun c2 => ?_) (fun c2 => ?_)
    · have hE := (if_pos c2).symm.trans hE
      cases hE
      exact hR9 _ rfl H locs ls hH (lv_sub hl [0, 1, 2] rfl)
    · have hE := (if_neg c2).symm.trans hE
      refine lv_aload_n hx hb dX5_makeSteps_7 rfl (lv_at hl 1 rfl) ?_
      refine lv_aload_n hx hb dX5_makeSteps_8 rfl (lv_at hl 1 rfl) ?_
      refine rg_getr F hH.1 0 (ci := 5) rfl (C := RX5) (T := TX5) (N := 6) rfl iwX5_makeSteps_X5 0 (d := 1) (n := 1) rfl rfl (by decide) rfl lkX5_makeSteps_0 rfl dX5_makeSteps_9 ?_
      refine lv_aload_n hx hb dX5_makeSteps_12 rfl (lv_at hl 1 rfl) ?_
      refine rg_geti F hH.1 0 (ci := 5) rfl (C := RX5) (T := TX5) (N := 6) rfl iwX5_makeSteps_X5 3 (i := 0) rfl (by decide) rfl lkX5_makeSteps_1 rfl dX5_makeSteps_13 ?_
      obtain ⟨r3, er3, hE⟩ := lt_el hE
      refine rg_callRV (As := [.int (s1.2 0 0)]) (rest := [.ref b]) F (mX3_gapAt l X b s1.2 (s1.2 0 0) r3 er3) (cwV 1 F.1.2.2.2.2 gX5_makeSteps_X3_gapAt rfl rfl rfl hvX3_gapAt ⟨Nat.le_of_ble_eq_true rfl, Nat.le_of_ble_eq_true rfl⟩) (rp_recv F hH.1 1 rfl (C := RX3) (T := TX3) (N := 4) rfl rfl) hH.1 rfl hl.1 (Nat.le_of_ble_eq_true rfl) dX5_makeSteps_16 ⟨Nat.zero_le _, Nat.zero_le _⟩ rfl ?_
      obtain ⟨U4, eU4, hE⟩ := lt_el hE
      refine rg_callWS (As := [.int r3]) (rest := []) F hH (fun q h1 h2 => ⟨h1, h2⟩) (kX5_stepAcross l X b s1.2 r3 U4 eU4) (cwV 1 F.1.2.2.2.2 gX5_makeSteps_X5_stepAcross rfl rfl rfl hvX5_stepAcross ⟨Nat.le_of_ble_eq_true rfl, Nat.le_of_ble_eq_true rfl⟩) (rp_recv F hH.1 0 rfl (C := RX5) (T := TX5) (N := 6) rfl rfl) hH.1 rfl hl.1 (Nat.le_of_ble_eq_true rfl) dX5_makeSteps_19 ⟨Nat.zero_le _, Nat.zero_le _⟩ rfl (fun H locs hH => ?_)
      refine lv_iinc (v := s1.1 + 1) (lv' := [(2, .int (s1.1 + 1)), (0, .ref b), (1, .int a1)]) hx hb dX5_makeSteps_22 hl (k := 0) rfl (congrArg (fun q => s1.1 + q) (by decide)) (by decide) rfl (fun ls hl => ?_)
      refine lv_goto (tgt := 2) hx hb dX5_makeSteps_25 (by decide) ?_
      cases hE
      exact hL9 _ rfl H locs ls hH (lv_sub hl [0, 1, 2] rfl)
  · intro H locs ls hH hl
    have hE := Option.some.inj hE
    subst hE
    exact W.vret hx hb hr (fun t ht _ => mw_post hH ht) hH.2.1.2.2 dX5_makeSteps_28
def fX5_makeSteps (V : Mem) (a1 : Int32) : Mem := stps a1.toNatClampNeg V
theorem tX5_makeSteps (V : Mem) (a1 : Int32) : qX5_makeSteps V a1 = some (fX5_makeSteps V a1) := by
  have h : it (lbX5_makeSteps_2 a1) fuel ((0 : Int32), V) = some (nI a1.toNatClampNeg, stps a1.toNatClampNeg V) := by
    refine it_for (fun i => (nI i, stps i V)) a1.toNatClampNeg (fun i hi => ?_) ?_ fuel (fuel_lt (by have := r32 a1; omega))
    · unfold lbX5_makeSteps_2 lt
      dsimp only
      rw [if_neg (r_lt hi), nI_1]
      rfl
    · unfold lbX5_makeSteps_2
      dsimp only
      rw [if_pos (r_ge a1)]
  unfold qX5_makeSteps fX5_makeSteps
  rw [h]
  rfl

theorem kX5_makeSteps (l : Launch) (X : kX) (b : Nat) (V : Mem) (a1 : Int32) (out : Mem) (hE : fX5_makeSteps V a1 = out) : MW l yX5_makeSteps wsX5_makeSteps rmX5_makeSteps X [.ref b, .int a1] (RP X LW b V) (none) b (b + LW.length) (RP X LW b out) := mX5_makeSteps l X b V a1 out ((tX5_makeSteps V a1).trans (congrArg some hE))
