theorem hvX6_record : yX6_record.cls = RX6 ∧ yX6_record.cls ≠ "java/lang/invoke/MethodHandle" ∧ yX6_record.cls ≠ "java/lang/invoke/VarHandle" ∧ (parseMethodDescriptor yX6_record.desc).map (fun d => d.parameters.length) = some 0 := by decide +kernel
set_option maxRecDepth 20000 in
theorem lkX6_tide_0 : Cond.fieldLink RX6 10 "TideWords" "now" "LTideWords$World;" ∈ wsX6_tide := by decide +kernel
set_option maxRecDepth 20000 in
theorem iwX6_tide_X6 : ∀ w ∈ wsX60, w ∈ wsX6_tide := by decide +kernel
set_option maxRecDepth 20000 in
theorem lkX6_tide_1 : Cond.fieldLink RX6 56 "TideWords$World" "tides" "LTideWords$Tides;" ∈ wsX6_tide := by decide +kernel
set_option maxRecDepth 20000 in
theorem iwX6_tide_X5 : ∀ w ∈ wsX50, w ∈ wsX6_tide := by decide +kernel
theorem hvX3_change : yX3_change.cls = RX3 ∧ yX3_change.cls ≠ "java/lang/invoke/MethodHandle" ∧ yX3_change.cls ≠ "java/lang/invoke/VarHandle" ∧ (parseMethodDescriptor yX3_change.desc).map (fun d => d.parameters.length) = some 4 := by decide +kernel
set_option maxRecDepth 20000 in
theorem sb_LA_2_LT : sbL LA 2 LT := sbl_of rfl
set_option maxRecDepth 20000 in
theorem lkX6_tide_2 : Cond.fieldLink RX6 66 "TideWords$World" "steps" "I" ∈ wsX6_tide := by decide +kernel
def fX6_tide (V : Mem) (a1 : Int32) (a2 : Int32) (a3 : Int32) (a4 : Int32) : Int32 × Mem := lt (fX6_isStore a1) (fun r1 => if r1 = 0 then ((-1001 : Int32), V) else lt (fX6_isWithin a2 ((0 : Int32)) ((300 : Int32))) (fun r3 => if r3 = 0 then ((-1002 : Int32), V) else lt (fX6_isWithin a3 ((0 : Int32)) ((100 : Int32))) (fun r5 => if r5 = 0 then ((-1002 : Int32), V) else lt (fX6_isWithin a4 ((2 : Int32)) ((60 : Int32))) (fun r7 => if r7 = 0 then ((-1002 : Int32), V) else lt (fX6_record V ) (fun U9 => lt (fX3_change (gv U9 2) a1 a2 a3 a4) (fun U10 => lt (pv U9 2 9 U10) (fun V11 => lt (fX3_levelAt (gv V11 1) a1 (V11 1 0)) (fun r12 => (r12, V11)))))))))
abbrev rmX6_tide : Room := { frames := 6, cells := 0, slots := 0, locals := 166 }
set_option maxHeartbeats 4000000 in
set_option maxRecDepth 100000 in
theorem mX6_tide (l : Launch) (X : kX) (b : Nat) (V : Mem) (a1 : Int32) (a2 : Int32) (a3 : Int32) (a4 : Int32) (out : Int32 × Mem) (hE : fX6_tide V a1 a2 a3 a4 = out) : MW l yX6_tide wsX6_tide rmX6_tide X [.ref b, .int a1, .int a2, .int a3, .int a4] (RP X LA b V) (some (.int out.1)) b (b + LA.length) (RP X LA b out.2) := by
  refine mt_head (cc := cX6_tide) (maxL := 5) (ret := (some .int)) (own := RX6) (by decide) rfl rfl (Nat.le_of_ble_eq_true rfl) ?_
  intro p e s m below meth c ls F hr hlocks hnm hR hl
  have hx := F.1.1
  have hb := F.1.2.1
  have hH : Hp (t_fr b (b + LA.length)) s.heap s.heap.size X LA b V s.heap [] := ⟨hR, va_S.rf, rfl⟩
  have hl : lv_has ls 5 [(0, .ref b), (1, .int a1), (2, .int a2), (3, .int a3), (4, .int a4)] := hl
  unfold fX6_tide at hE
  refine lv_iload_n hx hb dX6_tide_0 rfl (lv_at hl 1 rfl) ?_
  obtain ⟨r1, er1, hE⟩ := lt_el hE
  refine rg_callRS (As := [.int a1]) (rest := []) F (mX6_isStore l X a1 r1 er1) (va_cwS 1 F.1.2.2.2.2 gX6_tide_X6_isStore rfl rfl rfl hsX6_isStore ⟨Nat.le_of_ble_eq_true rfl, Nat.le_of_ble_eq_true rfl⟩)  trivial rfl hl.1 (Nat.le_of_ble_eq_true rfl) dX6_tide_1 ⟨Nat.zero_le _, Nat.zero_le _⟩ rfl ?_
  refine lv_if_ne (tgt := 11) hx hb dX6_tide_4 (by decide) (fun c2 => ?_) (fun c2 => ?_)
  · have hE := (if_neg c2).symm.trans hE
    refine lv_iload_n hx hb dX6_tide_11 rfl (lv_at hl 2 rfl) ?_
    refine lv_iconst (v := 0) hx hb dX6_tide_12 (by decide) ?_
    refine lv_sipush (v := 300) hx hb dX6_tide_13 (by decide) ?_
    obtain ⟨r3, er3, hE⟩ := lt_el hE
    refine rg_callRS (As := [.int a2, .int ((0 : Int32)), .int ((300 : Int32))]) (rest := []) F (mX6_isWithin l X a2 ((0 : Int32)) ((300 : Int32)) r3 er3) (va_cwS 3 F.1.2.2.2.2 gX6_tide_X6_isWithin rfl rfl rfl hsX6_isWithin ⟨Nat.le_of_ble_eq_true rfl, Nat.le_of_ble_eq_true rfl⟩)  trivial rfl hl.1 (Nat.le_of_ble_eq_true rfl) dX6_tide_16 ⟨Nat.zero_le _, Nat.zero_le _⟩ rfl ?_
    refine lv_if_eq (tgt := 43) hx hb dX6_tide_19 (by decide) (fun c4 => ?_) (fun c4 => ?_)
    · have hE := (if_pos c4).symm.trans hE
      refine lv_sipush (v := (-1002)) hx hb dX6_tide_43 (by decide) ?_
      subst hE
      exact W.iret (v := (-1002 : Int32)) hx hb hr (fun t ht _ => mw_post hH ht) hH.2.1.2.2 dX6_tide_46
    · have hE := (if_neg c4).symm.trans hE
      refine lv_iload_n hx hb dX6_tide_22 rfl (lv_at hl 3 rfl) ?_
      refine lv_iconst (v := 0) hx hb dX6_tide_23 (by decide) ?_
      refine lv_bipush (v := 100) hx hb dX6_tide_24 (by decide) ?_
      obtain ⟨r5, er5, hE⟩ := lt_el hE
      refine rg_callRS (As := [.int a3, .int ((0 : Int32)), .int ((100 : Int32))]) (rest := []) F (mX6_isWithin l X a3 ((0 : Int32)) ((100 : Int32)) r5 er5) (va_cwS 3 F.1.2.2.2.2 gX6_tide_X6_isWithin rfl rfl rfl hsX6_isWithin ⟨Nat.le_of_ble_eq_true rfl, Nat.le_of_ble_eq_true rfl⟩)  trivial rfl hl.1 (Nat.le_of_ble_eq_true rfl) dX6_tide_26 ⟨Nat.zero_le _, Nat.zero_le _⟩ rfl ?_
      refine lv_if_eq (tgt := 43) hx hb dX6_tide_29 (by decide) (fun c6 => ?_) (fun c6 => ?_)
      · have hE := (if_pos c6).symm.trans hE
        refine lv_sipush (v := (-1002)) hx hb dX6_tide_43 (by decide) ?_
        subst hE
        exact W.iret (v := (-1002 : Int32)) hx hb hr (fun t ht _ => mw_post hH ht) hH.2.1.2.2 dX6_tide_46
      · have hE := (if_neg c6).symm.trans hE
        refine lv_iload hx hb dX6_tide_32 (lv_at hl 4 rfl) ?_
        refine lv_iconst (v := 2) hx hb dX6_tide_34 (by decide) ?_
        refine lv_bipush (v := 60) hx hb dX6_tide_35 (by decide) ?_
        obtain ⟨r7, er7, hE⟩ := lt_el hE
        refine rg_callRS (As := [.int a4, .int ((2 : Int32)), .int ((60 : Int32))]) (rest := []) F (mX6_isWithin l X a4 ((2 : Int32)) ((60 : Int32)) r7 er7) (va_cwS 3 F.1.2.2.2.2 gX6_tide_X6_isWithin rfl rfl rfl hsX6_isWithin ⟨Nat.le_of_ble_eq_true rfl, Nat.le_of_ble_eq_true rfl⟩)  trivial rfl hl.1 (Nat.le_of_ble_eq_true rfl) dX6_tide_37 ⟨Nat.zero_le _, Nat.zero_le _⟩ rfl ?_
        refine lv_if_ne (tgt := 47) hx hb dX6_tide_40 (by decide) (fun c8 => ?_) (fun c8 => ?_)
        · have hE := (if_neg c8).symm.trans hE
          refine lv_aload_n hx hb dX6_tide_47 rfl (lv_at hl 0 rfl) ?_
          obtain ⟨U9, eU9, hE⟩ := lt_el hE
          refine rg_callWS (As := []) (rest := []) F hH (fun q h1 h2 => ⟨h1, h2⟩) (mX6_record l X b V  U9 eU9) (cwV 0 F.1.2.2.2.2 gX6_tide_X6_record rfl rfl rfl hvX6_record ⟨Nat.le_of_ble_eq_true rfl, Nat.le_of_ble_eq_true rfl⟩) (rp_recv F hH.1 0 rfl (C := RX6) (T := TX6) (N := 9) rfl rfl) hH.1 rfl hl.1 (Nat.le_of_ble_eq_true rfl) dX6_tide_48 ⟨Nat.zero_le _, Nat.zero_le _⟩ rfl (fun H locs hH => ?_)
          refine lv_aload_n hx hb dX6_tide_51 rfl (lv_at hl 0 rfl) ?_
          refine rg_getr F hH.1 0 (ci := 6) rfl (C := RX6) (T := TX6) (N := 9) rfl iwX6_tide_X6 0 (d := 1) (n := 1) rfl rfl (by decide) rfl lkX6_tide_0 rfl dX6_tide_52 ?_
          refine rg_getr F hH.1 1 (ci := 5) rfl (C := RX5) (T := TX5) (N := 6) rfl iwX6_tide_X5 0 (d := 1) (n := 2) rfl rfl (by decide) rfl lkX6_tide_1 rfl dX6_tide_55 ?_
          refine lv_iload_n hx hb dX6_tide_58 rfl (lv_at hl 1 rfl) ?_
          refine lv_iload_n hx hb dX6_tide_59 rfl (lv_at hl 2 rfl) ?_
          refine lv_iload_n hx hb dX6_tide_60 rfl (lv_at hl 3 rfl) ?_
          refine lv_iload hx hb dX6_tide_61 (lv_at hl 4 rfl) ?_
          obtain ⟨U10, eU10, hE⟩ := lt_el hE
          obtain ⟨V11, eV11, hE⟩ := lt_el hE
          refine rg_callWV (As := [.int a1, .int a2, .int a3, .int a4]) (rest := []) F hH (fun q h1 h2 => ⟨h1, h2⟩) 2 sb_LA_2_LT (mX3_change l X (b + 2) (gv U9 2) a1 a2 a3 a4 U10 eU10) (cwV 4 F.1.2.2.2.2 gX6_tide_X3_change rfl rfl rfl hvX3_change ⟨Nat.le_of_ble_eq_true rfl, Nat.le_of_ble_eq_true rfl⟩) (rp_recv F hH.1 2 rfl (C := RX3) (T := TX3) (N := 4) rfl rfl) (hH.1.sub 2 sb_LA_2_LT) rfl hl.1 (Nat.le_of_ble_eq_true rfl) dX6_tide_63 ⟨Nat.zero_le _, Nat.zero_le _⟩ rfl eV11 (fun H locs hH hfr => ?_)
          refine lv_aload_n hx hb dX6_tide_66 rfl (lv_at hl 0 rfl) ?_
          refine rg_getr F hH.1 0 (ci := 6) rfl (C := RX6) (T := TX6) (N := 9) rfl iwX6_tide_X6 0 (d := 1) (n := 1) rfl rfl (by decide) rfl lkX6_tide_0 rfl dX6_tide_67 ?_
          refine rg_getr F hH.1 1 (ci := 5) rfl (C := RX5) (T := TX5) (N := 6) rfl iwX6_tide_X5 0 (d := 1) (n := 2) rfl rfl (by decide) rfl lkX6_tide_1 rfl dX6_tide_70 ?_
          refine lv_iload_n hx hb dX6_tide_73 rfl (lv_at hl 1 rfl) ?_
          refine lv_aload_n hx hb dX6_tide_74 rfl (lv_at hl 0 rfl) ?_
          refine rg_getr F hH.1 0 (ci := 6) rfl (C := RX6) (T := TX6) (N := 9) rfl iwX6_tide_X6 0 (d := 1) (n := 1) rfl rfl (by decide) rfl lkX6_tide_0 rfl dX6_tide_75 ?_
          refine rg_geti F hH.1 1 (ci := 5) rfl (C := RX5) (T := TX5) (N := 6) rfl iwX6_tide_X5 3 (i := 0) rfl (by decide) rfl lkX6_tide_2 rfl dX6_tide_78 ?_
          obtain ⟨r12, er12, hE⟩ := lt_el hE
          refine rg_callRV (As := [.int a1, .int (V11 1 0)]) (rest := []) F (kX3_levelAt l X (b + 1) (gv V11 1) a1 (V11 1 0) r12 er12) (cwV 2 F.1.2.2.2.2 gX6_tide_X3_levelAt rfl rfl rfl hvX3_levelAt ⟨Nat.le_of_ble_eq_true rfl, Nat.le_of_ble_eq_true rfl⟩) (rp_recv F hH.1 2 rfl (C := RX3) (T := TX3) (N := 4) rfl rfl) (hH.1.sub 1 sb_LA_1_LW) rfl hl.1 (Nat.le_of_ble_eq_true rfl) dX6_tide_81 ⟨Nat.zero_le _, Nat.zero_le _⟩ rfl ?_
          subst hE
          exact W.iret (v := r12) hx hb hr (fun t ht _ => mw_post hH ht) hH.2.1.2.2 dX6_tide_84
        · have hE := (if_pos c8).symm.trans hE
          refine lv_sipush (v := (-1002)) hx hb dX6_tide_43 (by decide) ?_
          subst hE
          exact W.iret (v := (-1002 : Int32)) hx hb hr (fun t ht _ => mw_post hH ht) hH.2.1.2.2 dX6_tide_46
  · have hE := (if_pos c2).symm.trans hE
    refine lv_sipush (v := (-1001)) hx hb dX6_tide_7 (by decide) ?_
    subst hE
    exact W.iret (v := (-1001 : Int32)) hx hb hr (fun t ht _ => mw_post hH ht) hH.2.1.2.2 dX6_tide_10
set_option maxRecDepth 20000 in
theorem lkX6_gauge_0 : Cond.fieldLink RX6 10 "TideWords" "now" "LTideWords$World;" ∈ wsX6_gauge := by decide +kernel
set_option maxRecDepth 20000 in
theorem iwX6_gauge_X6 : ∀ w ∈ wsX60, w ∈ wsX6_gauge := by decide +kernel
set_option maxRecDepth 20000 in
theorem lkX6_gauge_1 : Cond.fieldLink RX6 56 "TideWords$World" "tides" "LTideWords$Tides;" ∈ wsX6_gauge := by decide +kernel
set_option maxRecDepth 20000 in
theorem iwX6_gauge_X5 : ∀ w ∈ wsX50, w ∈ wsX6_gauge := by decide +kernel
set_option maxRecDepth 20000 in
theorem lkX6_gauge_2 : Cond.fieldLink RX6 74 "TideWords$Tides" "lies" "LTideWords$Cells;" ∈ wsX6_gauge := by decide +kernel
set_option maxRecDepth 20000 in
theorem iwX6_gauge_X3 : ∀ w ∈ wsX30, w ∈ wsX6_gauge := by decide +kernel
def fX6_gauge (V : Mem) (a1 : Int32) (a2 : Int32) : Int32 × Mem := lt (fX6_isStore a1) (fun r1 => if r1 = 0 then ((-1001 : Int32), V) else lt (fX6_isWithin a2 ((-50 : Int32)) ((50 : Int32))) (fun r3 => if r3 = 0 then ((-1002 : Int32), V) else lt (fX6_record V ) (fun U5 => lt (cget 2 (U5 10) a1) (fun r6 => lt (cset U5 10 2 a1 a2) (fun V7 => (r6, V7))))))
abbrev rmX6_gauge : Room := { frames := 6, cells := 0, slots := 0, locals := 166 }
set_option maxHeartbeats 4000000 in
set_option maxRecDepth 100000 in
theorem mX6_gauge (l : Launch) (X : kX) (b : Nat) (V : Mem) (a1 : Int32) (a2 : Int32) (out : Int32 × Mem) (hE : fX6_gauge V a1 a2 = out) : MW l yX6_gauge wsX6_gauge rmX6_gauge X [.ref b, .int a1, .int a2] (RP X LA b V) (some (.int out.1)) b (b + LA.length) (RP X LA b out.2) := by
  refine mt_head (cc := cX6_gauge) (maxL := 4) (ret := (some .int)) (own := RX6) (by decide) rfl rfl (Nat.le_of_ble_eq_true rfl) ?_
  intro p e s m below meth c ls F hr hlocks hnm hR hl
  have hx := F.1.1
  have hb := F.1.2.1
  have hH : Hp (t_fr b (b + LA.length)) s.heap s.heap.size X LA b V s.heap [] := ⟨hR, va_S.rf, rfl⟩
  have hl : lv_has ls 4 [(0, .ref b), (1, .int a1), (2, .int a2)] := hl
  unfold fX6_gauge at hE
  refine lv_iload_n hx hb dX6_gauge_0 rfl (lv_at hl 1 rfl) ?_
  obtain ⟨r1, er1, hE⟩ := lt_el hE
  refine rg_callRS (As := [.int a1]) (rest := []) F (mX6_isStore l X a1 r1 er1) (va_cwS 1 F.1.2.2.2.2 gX6_gauge_X6_isStore rfl rfl rfl hsX6_isStore ⟨Nat.le_of_ble_eq_true rfl, Nat.le_of_ble_eq_true rfl⟩)  trivial rfl hl.1 (Nat.le_of_ble_eq_true rfl) dX6_gauge_1 ⟨Nat.zero_le _, Nat.zero_le _⟩ rfl ?_
  refine lv_if_ne (tgt := 11) hx hb dX6_gauge_4 (by decide) (fun c2 => ?_) (fun c2 => ?_)
  · have hE := (if_neg c2).symm.trans hE
    refine lv_iload_n hx hb dX6_gauge_11 rfl (lv_at hl 2 rfl) ?_
    refine lv_bipush (v := (-50)) hx hb dX6_gauge_12 (by decide) ?_
    refine lv_bipush (v := 50) hx hb dX6_gauge_14 (by decide) ?_
    obtain ⟨r3, er3, hE⟩ := lt_el hE
    refine rg_callRS (As := [.int a2, .int ((-50 : Int32)), .int ((50 : Int32))]) (rest := []) F (mX6_isWithin l X a2 ((-50 : Int32)) ((50 : Int32)) r3 er3) (va_cwS 3 F.1.2.2.2.2 gX6_gauge_X6_isWithin rfl rfl rfl hsX6_isWithin ⟨Nat.le_of_ble_eq_true rfl, Nat.le_of_ble_eq_true rfl⟩)  trivial rfl hl.1 (Nat.le_of_ble_eq_true rfl) dX6_gauge_16 ⟨Nat.zero_le _, Nat.zero_le _⟩ rfl ?_
    refine lv_if_ne (tgt := 26) hx hb dX6_gauge_19 (by decide) (fun c4 => ?_) (fun c4 => ?_)
    · have hE := (if_neg c4).symm.trans hE
      refine lv_aload_n hx hb dX6_gauge_26 rfl (lv_at hl 0 rfl) ?_
      obtain ⟨U5, eU5, hE⟩ := lt_el hE
      refine rg_callWS (As := []) (rest := []) F hH (fun q h1 h2 => ⟨h1, h2⟩) (mX6_record l X b V  U5 eU5) (cwV 0 F.1.2.2.2.2 gX6_gauge_X6_record rfl rfl rfl hvX6_record ⟨Nat.le_of_ble_eq_true rfl, Nat.le_of_ble_eq_true rfl⟩) (rp_recv F hH.1 0 rfl (C := RX6) (T := TX6) (N := 9) rfl rfl) hH.1 rfl hl.1 (Nat.le_of_ble_eq_true rfl) dX6_gauge_27 ⟨Nat.zero_le _, Nat.zero_le _⟩ rfl (fun H locs hH => ?_)
      refine lv_aload_n hx hb dX6_gauge_30 rfl (lv_at hl 0 rfl) ?_
      refine rg_getr F hH.1 0 (ci := 6) rfl (C := RX6) (T := TX6) (N := 9) rfl iwX6_gauge_X6 0 (d := 1) (n := 1) rfl rfl (by decide) rfl lkX6_gauge_0 rfl dX6_gauge_31 ?_
      refine rg_getr F hH.1 1 (ci := 5) rfl (C := RX5) (T := TX5) (N := 6) rfl iwX6_gauge_X5 0 (d := 1) (n := 2) rfl rfl (by decide) rfl lkX6_gauge_1 rfl dX6_gauge_34 ?_
      refine rg_getr F hH.1 2 (ci := 3) rfl (C := RX3) (T := TX3) (N := 4) rfl iwX6_gauge_X3 3 (d := 7) (n := 9) rfl rfl (by decide) rfl lkX6_gauge_2 rfl dX6_gauge_37 ?_
      refine lv_iload_n hx hb dX6_gauge_40 rfl (lv_at hl 1 rfl) ?_
      obtain ⟨r6, er6, hE⟩ := lt_el hE
      refine rg_callRV (As := [.int a1]) (rest := []) F (kX0_get l X 2 (by decide) (b + 9) (gv U5 9) a1 r6 er6) (cwV 1 F.1.2.2.2.2 gX6_gauge_X0_get rfl rfl rfl hvX0_get ⟨Nat.le_of_ble_eq_true rfl, Nat.le_of_ble_eq_true rfl⟩) (rp_recv F hH.1 9 rfl (C := RX0) (T := TX0) (N := 1) rfl rfl) (hH.1.sub 9 sb_LA_9_LC2) rfl hl.1 (Nat.le_of_ble_eq_true rfl) dX6_gauge_41 ⟨Nat.zero_le _, Nat.zero_le _⟩ rfl ?_
      refine lv_istore_n (lv' := [(3, .int r6), (0, .ref b), (1, .int a1), (2, .int a2)]) hx hb dX6_gauge_44 rfl hl (by decide) rfl (fun ls hl => ?_)
      refine lv_aload_n hx hb dX6_gauge_45 rfl (lv_at hl 1 rfl) ?_
      refine rg_getr F hH.1 0 (ci := 6) rfl (C := RX6) (T := TX6) (N := 9) rfl iwX6_gauge_X6 0 (d := 1) (n := 1) rfl rfl (by decide) rfl lkX6_gauge_0 rfl dX6_gauge_46 ?_
      refine rg_getr F hH.1 1 (ci := 5) rfl (C := RX5) (T := TX5) (N := 6) rfl iwX6_gauge_X5 0 (d := 1) (n := 2) rfl rfl (by decide) rfl lkX6_gauge_1 rfl dX6_gauge_49 ?_
      refine rg_getr F hH.1 2 (ci := 3) rfl (C := RX3) (T := TX3) (N := 4) rfl iwX6_gauge_X3 3 (d := 7) (n := 9) rfl rfl (by decide) rfl lkX6_gauge_2 rfl dX6_gauge_52 ?_
      refine lv_iload_n hx hb dX6_gauge_55 rfl (lv_at hl 2 rfl) ?_
      refine lv_iload_n hx hb dX6_gauge_56 rfl (lv_at hl 3 rfl) ?_
      obtain ⟨V7, eV7, hE⟩ := lt_el hE
      refine rg_callWV (As := [.int a1, .int a2]) (rest := []) F hH (fun q h1 h2 => ⟨h1, h2⟩) 9 sb_LA_9_LC2 (kX0_set l X 2 (by decide) (b + 9) (gv U5 9) a1 a2 _ rfl) (cwV 2 F.1.2.2.2.2 gX6_gauge_X0_set rfl rfl rfl hvX0_set ⟨Nat.le_of_ble_eq_true rfl, Nat.le_of_ble_eq_true rfl⟩) (rp_recv F hH.1 9 rfl (C := RX0) (T := TX0) (N := 1) rfl rfl) (hH.1.sub 9 sb_LA_9_LC2) rfl hl.1 (Nat.le_of_ble_eq_true rfl) dX6_gauge_57 ⟨Nat.zero_le _, Nat.zero_le _⟩ rfl ((pv_cset ..).trans eV7) (fun H locs hH hfr => ?_)
      refine lv_iload_n hx hb dX6_gauge_60 rfl (lv_at hl 0 rfl) ?_
      subst hE
      exact W.iret (v := r6) hx hb hr (fun t ht _ => mw_post hH ht) hH.2.1.2.2 dX6_gauge_61
    · have hE := (if_pos c4).symm.trans hE
      refine lv_sipush (v := (-1002)) hx hb dX6_gauge_22 (by decide) ?_
      subst hE
      exact W.iret (v := (-1002 : Int32)) hx hb hr (fun t ht _ => mw_post hH ht) hH.2.1.2.2 dX6_gauge_25
  · have hE := (if_pos c2).symm.trans hE
    refine lv_sipush (v := (-1001)) hx hb dX6_gauge_7 (by decide) ?_
    subst hE
    exact W.iret (v := (-1001 : Int32)) hx hb hr (fun t ht _ => mw_post hH ht) hH.2.1.2.2 dX6_gauge_10
set_option maxRecDepth 20000 in
theorem lkX6_gate_0 : Cond.fieldLink RX6 10 "TideWords" "now" "LTideWords$World;" ∈ wsX6_gate := by decide +kernel
set_option maxRecDepth 20000 in
theorem iwX6_gate_X6 : ∀ w ∈ wsX60, w ∈ wsX6_gate := by decide +kernel
set_option maxRecDepth 20000 in
theorem lkX6_gate_1 : Cond.fieldLink RX6 88 "TideWords$World" "gates" "LTideWords$Gates;" ∈ wsX6_gate := by decide +kernel
set_option maxRecDepth 20000 in
theorem iwX6_gate_X5 : ∀ w ∈ wsX50, w ∈ wsX6_gate := by decide +kernel
set_option maxRecDepth 20000 in
theorem lkX6_gate_2 : Cond.fieldLink RX6 100 "TideWords$Gates" "slacks" "LTideWords$Cells;" ∈ wsX6_gate := by decide +kernel
set_option maxRecDepth 20000 in
theorem iwX6_gate_X1 : ∀ w ∈ wsX10, w ∈ wsX6_gate := by decide +kernel
theorem hvX1_change : yX1_change.cls = RX1 ∧ yX1_change.cls ≠ "java/lang/invoke/MethodHandle" ∧ yX1_change.cls ≠ "java/lang/invoke/VarHandle" ∧ (parseMethodDescriptor yX1_change.desc).map (fun d => d.parameters.length) = some 4 := by decide +kernel
set_option maxRecDepth 20000 in
theorem sb_LA_11_LG : sbL LA 11 LG := sbl_of rfl
set_option maxRecDepth 20000 in
theorem lkX6_gate_3 : Cond.fieldLink RX6 97 "TideWords$Gates" "sides" "LTideWords$Cells;" ∈ wsX6_gate := by decide +kernel
def fX6_gate (V : Mem) (a1 : Int32) (a2 : Int32) (a3 : Int32) (a4 : Int32) : Int32 × Mem := lt (fX6_isGate a1) (fun r1 => if r1 = 0 then ((-1001 : Int32), V) else lt (fX6_isWithin a2 ((0 : Int32)) ((1 : Int32))) (fun r3 => if r3 = 0 then ((-1002 : Int32), V) else lt (fX6_isWithin a3 ((0 : Int32)) ((99 : Int32))) (fun r5 => if r5 = 0 then ((-1002 : Int32), V) else lt (fX6_isWithin a4 ((0 : Int32)) ((1 : Int32))) (fun r7 => if r7 = 0 then ((-1002 : Int32), V) else lt (fX1_hasWord (gv V 1) a1) (fun r9 => if r9 = 0 then lt (fX6_record V ) (fun U11 => lt (cget 4 (U11 15) a1) (fun r12 => lt (fX1_change (gv U11 11) a1 a2 a3 a4) (fun U13 => lt (pv U11 11 17 U13) (fun V14 => (r12, V14))))) else lt (cget 4 (V 13) a1) (fun r15 => if a2 = r15 then lt (fX6_record V ) (fun U17 => lt (cget 4 (U17 15) a1) (fun r18 => lt (fX1_change (gv U17 11) a1 a2 a3 a4) (fun U19 => lt (pv U17 11 17 U19) (fun V20 => (r18, V20))))) else ((-1005 : Int32), V)))))))
abbrev rmX6_gate : Room := { frames := 6, cells := 0, slots := 0, locals := 166 }
set_option maxHeartbeats 4000000 in
set_option maxRecDepth 100000 in
theorem mX6_gate (l : Launch) (X : kX) (b : Nat) (V : Mem) (a1 : Int32) (a2 : Int32) (a3 : Int32) (a4 : Int32) (out : Int32 × Mem) (hE : fX6_gate V a1 a2 a3 a4 = out) : MW l yX6_gate wsX6_gate rmX6_gate X [.ref b, .int a1, .int a2, .int a3, .int a4] (RP X LA b V) (some (.int out.1)) b (b + LA.length) (RP X LA b out.2) := by
  refine mt_head (cc := cX6_gate) (maxL := 6) (ret := (some .int)) (own := RX6) (by decide) rfl rfl (Nat.le_of_ble_eq_true rfl) ?_
  intro p e s m below meth c ls F hr hlocks hnm hR hl
  have hx := F.1.1
  have hb := F.1.2.1
  have hH : Hp (t_fr b (b + LA.length)) s.heap s.heap.size X LA b V s.heap [] := ⟨hR, va_S.rf, rfl⟩
  have hl : lv_has ls 6 [(0, .ref b), (1, .int a1), (2, .int a2), (3, .int a3), (4, .int a4)] := hl
  unfold fX6_gate at hE
  refine lv_iload_n hx hb dX6_gate_0 rfl (lv_at hl 1 rfl) ?_
  obtain ⟨r1, er1, hE⟩ := lt_el hE
  refine rg_callRS (As := [.int a1]) (rest := []) F (mX6_isGate l X a1 r1 er1) (va_cwS 1 F.1.2.2.2.2 gX6_gate_X6_isGate rfl rfl rfl hsX6_isGate ⟨Nat.le_of_ble_eq_true rfl, Nat.le_of_ble_eq_true rfl⟩)  trivial rfl hl.1 (Nat.le_of_ble_eq_true rfl) dX6_gate_1 ⟨Nat.zero_le _, Nat.zero_le _⟩ rfl ?_
  refine lv_if_ne (tgt := 11) hx hb dX6_gate_4 (by decide) (fun c2 => ?_) (fun c2 => ?_)
  · have hE := (if_neg c2).symm.trans hE
    refine lv_iload_n hx hb dX6_gate_11 rfl (lv_at hl 2 rfl) ?_
    refine lv_iconst (v := 0) hx hb dX6_gate_12 (by decide) ?_
    refine lv_iconst (v := 1) hx hb dX6_gate_13 (by decide) ?_
    obtain ⟨r3, er3, hE⟩ := lt_el hE
    refine rg_callRS (As := [.int a2, .int ((0 : Int32)), .int ((1 : Int32))]) (rest := []) F (mX6_isWithin l X a2 ((0 : Int32)) ((1 : Int32)) r3 er3) (va_cwS 3 F.1.2.2.2.2 gX6_gate_X6_isWithin rfl rfl rfl hsX6_isWithin ⟨Nat.le_of_ble_eq_true rfl, Nat.le_of_ble_eq_true rfl⟩)  trivial rfl hl.1 (Nat.le_of_ble_eq_true rfl) dX6_gate_14 ⟨Nat.zero_le _, Nat.zero_le _⟩ rfl ?_
    refine lv_if_eq (tgt := 40) hx hb dX6_gate_17 (by decide) (fun c4 => ?_) (fun c4 => ?_)
    · have hE := (if_pos c4).symm.trans hE
      refine lv_sipush (v := (-1002)) hx hb dX6_gate_40 (by decide) ?_
      subst hE
      exact W.iret (v := (-1002 : Int32)) hx hb hr (fun t ht _ => mw_post hH ht) hH.2.1.2.2 dX6_gate_43
    · have hE := (if_neg c4).symm.trans hE
      refine lv_iload_n hx hb dX6_gate_20 rfl (lv_at hl 3 rfl) ?_
      refine lv_iconst (v := 0) hx hb dX6_gate_21 (by decide) ?_
      refine lv_bipush (v := 99) hx hb dX6_gate_22 (by decide) ?_
      obtain ⟨r5, er5, hE⟩ := lt_el hE
      refine rg_callRS (As := [.int a3, .int ((0 : Int32)), .int ((99 : Int32))]) (rest := []) F (mX6_isWithin l X a3 ((0 : Int32)) ((99 : Int32)) r5 er5) (va_cwS 3 F.1.2.2.2.2 gX6_gate_X6_isWithin rfl rfl rfl hsX6_isWithin ⟨Nat.le_of_ble_eq_true rfl, Nat.le_of_ble_eq_true rfl⟩)  trivial rfl hl.1 (Nat.le_of_ble_eq_true rfl) dX6_gate_24 ⟨Nat.zero_le _, Nat.zero_le _⟩ rfl ?_
      refine lv_if_eq (tgt := 40) hx hb dX6_gate_27 (by decide) (fun c6 => ?_) (fun c6 => ?_)
      · have hE := (if_pos c6).symm.trans hE
        refine lv_sipush (v := (-1002)) hx hb dX6_gate_40 (by decide) ?_
        subst hE
        exact W.iret (v := (-1002 : Int32)) hx hb hr (fun t ht _ => mw_post hH ht) hH.2.1.2.2 dX6_gate_43
      · have hE := (if_neg c6).symm.trans hE
        refine lv_iload hx hb dX6_gate_30 (lv_at hl 4 rfl) ?_
        refine lv_iconst (v := 0) hx hb dX6_gate_32 (by decide) ?_
        refine lv_iconst (v := 1) hx hb dX6_gate_33 (by decide) ?_
        obtain ⟨r7, er7, hE⟩ := lt_el hE
        refine rg_callRS (As := [.int a4, .int ((0 : Int32)), .int ((1 : Int32))]) (rest := []) F (mX6_isWithin l X a4 ((0 : Int32)) ((1 : Int32)) r7 er7) (va_cwS 3 F.1.2.2.2.2 gX6_gate_X6_isWithin rfl rfl rfl hsX6_isWithin ⟨Nat.le_of_ble_eq_true rfl, Nat.le_of_ble_eq_true rfl⟩)  trivial rfl hl.1 (Nat.le_of_ble_eq_true rfl) dX6_gate_34 ⟨Nat.zero_le _, Nat.zero_le _⟩ rfl ?_
        refine lv_if_ne (tgt := 44) hx hb dX6_gate_37 (by decide) (fun c8 => ?_) (fun c8 => ?_)
        · have hE := (if_neg c8).symm.trans hE
          refine lv_aload_n hx hb dX6_gate_44 rfl (lv_at hl 0 rfl) ?_
          refine rg_getr F hH.1 0 (ci := 6) rfl (C := RX6) (T := TX6) (N := 9) rfl iwX6_gate_X6 0 (d := 1) (n := 1) rfl rfl (by decide) rfl lkX6_gate_0 rfl dX6_gate_45 ?_
          refine rg_getr F hH.1 1 (ci := 5) rfl (C := RX5) (T := TX5) (N := 6) rfl iwX6_gate_X5 1 (d := 10) (n := 11) rfl rfl (by decide) rfl lkX6_gate_1 rfl dX6_gate_48 ?_
          refine lv_iload_n hx hb dX6_gate_51 rfl (lv_at hl 1 rfl) ?_
          obtain ⟨r9, er9, hE⟩ := lt_el hE
          refine rg_callRV (As := [.int a1]) (rest := []) F (mX1_hasWord l X (b + 1) (gv V 1) a1 r9 er9) (cwV 1 F.1.2.2.2.2 gX6_gate_X1_hasWord rfl rfl rfl hvX1_hasWord ⟨Nat.le_of_ble_eq_true rfl, Nat.le_of_ble_eq_true rfl⟩) (rp_recv F hH.1 11 rfl (C := RX1) (T := TX1) (N := 8) rfl rfl) (hH.1.sub 1 sb_LA_1_LW) rfl hl.1 (Nat.le_of_ble_eq_true rfl) dX6_gate_52 ⟨Nat.zero_le _, Nat.zero_le _⟩ rfl ?_
          refine lv_if_eq (tgt := 80) hx hb dX6_gate_55 (by decide) (fun c10 => ?_) (fun c10 => ?_)
          · have hE := (if_pos c10).symm.trans hE
            refine lv_aload_n hx hb dX6_gate_80 rfl (lv_at hl 0 rfl) ?_
            obtain ⟨U11, eU11, hE⟩ := lt_el hE
            refine rg_callWS (As := []) (rest := []) F hH (fun q h1 h2 => ⟨h1, h2⟩) (mX6_record l X b V  U11 eU11) (cwV 0 F.1.2.2.2.2 gX6_gate_X6_record rfl rfl rfl hvX6_record ⟨Nat.le_of_ble_eq_true rfl, Nat.le_of_ble_eq_true rfl⟩) (rp_recv F hH.1 0 rfl (C := RX6) (T := TX6) (N := 9) rfl rfl) hH.1 rfl hl.1 (Nat.le_of_ble_eq_true rfl) dX6_gate_81 ⟨Nat.zero_le _, Nat.zero_le _⟩ rfl (fun H locs hH => ?_)
            refine lv_aload_n hx hb dX6_gate_84 rfl (lv_at hl 0 rfl) ?_
            refine rg_getr F hH.1 0 (ci := 6) rfl (C := RX6) (T := TX6) (N := 9) rfl iwX6_gate_X6 0 (d := 1) (n := 1) rfl rfl (by decide) rfl lkX6_gate_0 rfl dX6_gate_85 ?_
            refine rg_getr F hH.1 1 (ci := 5) rfl (C := RX5) (T := TX5) (N := 6) rfl iwX6_gate_X5 1 (d := 10) (n := 11) rfl rfl (by decide) rfl lkX6_gate_1 rfl dX6_gate_88 ?_
            refine rg_getr F hH.1 11 (ci := 1) rfl (C := RX1) (T := TX1) (N := 8) rfl iwX6_gate_X1 1 (d := 3) (n := 14) rfl rfl (by decide) rfl lkX6_gate_2 rfl dX6_gate_91 ?_
            refine lv_iload_n hx hb dX6_gate_94 rfl (lv_at hl 1 rfl) ?_
            obtain ⟨r12, er12, hE⟩ := lt_el hE
            refine rg_callRV (As := [.int a1]) (rest := []) F (kX0_get l X 4 (by decide) (b + 14) (gv U11 14) a1 r12 er12) (cwV 1 F.1.2.2.2.2 gX6_gate_X0_get rfl rfl rfl hvX0_get ⟨Nat.le_of_ble_eq_true rfl, Nat.le_of_ble_eq_true rfl⟩) (rp_recv F hH.1 14 rfl (C := RX0) (T := TX0) (N := 1) rfl rfl) (hH.1.sub 14 sb_LA_14_LC4) rfl hl.1 (Nat.le_of_ble_eq_true rfl) dX6_gate_95 ⟨Nat.zero_le _, Nat.zero_le _⟩ rfl ?_
            refine lv_istore (lv' := [(5, .int r12), (0, .ref b), (1, .int a1), (2, .int a2), (3, .int a3), (4, .int a4)]) hx hb dX6_gate_98 hl (by decide) rfl (fun ls hl => ?_)
            refine lv_aload_n hx hb dX6_gate_100 rfl (lv_at hl 1 rfl) ?_
            refine rg_getr F hH.1 0 (ci := 6) rfl (C := RX6) (T := TX6) (N := 9) rfl iwX6_gate_X6 0 (d := 1) (n := 1) rfl rfl (by decide) rfl lkX6_gate_0 rfl dX6_gate_101 ?_
            refine rg_getr F hH.1 1 (ci := 5) rfl (C := RX5) (T := TX5) (N := 6) rfl iwX6_gate_X5 1 (d := 10) (n := 11) rfl rfl (by decide) rfl lkX6_gate_1 rfl dX6_gate_104 ?_
            refine lv_iload_n hx hb dX6_gate_107 rfl (lv_at hl 2 rfl) ?_
            refine lv_iload_n hx hb dX6_gate_108 rfl (lv_at hl 3 rfl) ?_
            refine lv_iload_n hx hb dX6_gate_109 rfl (lv_at hl 4 rfl) ?_
            refine lv_iload hx hb dX6_gate_110 (lv_at hl 5 rfl) ?_
            obtain ⟨U13, eU13, hE⟩ := lt_el hE
            obtain ⟨V14, eV14, hE⟩ := lt_el hE
            refine rg_callWV (As := [.int a1, .int a2, .int a3, .int a4]) (rest := []) F hH (fun q h1 h2 => ⟨h1, h2⟩) 11 sb_LA_11_LG (mX1_change l X (b + 11) (gv U11 11) a1 a2 a3 a4 U13 eU13) (cwV 4 F.1.2.2.2.2 gX6_gate_X1_change rfl rfl rfl hvX1_change ⟨Nat.le_of_ble_eq_true rfl, Nat.le_of_ble_eq_true rfl⟩) (rp_recv F hH.1 11 rfl (C := RX1) (T := TX1) (N := 8) rfl rfl) (hH.1.sub 11 sb_LA_11_LG) rfl hl.1 (Nat.le_of_ble_eq_true rfl) dX6_gate_112 ⟨Nat.zero_le _, Nat.zero_le _⟩ rfl eV14 (fun H locs hH hfr => ?_)
            refine lv_iload hx hb dX6_gate_115 (lv_at hl 0 rfl) ?_
            subst hE
            exact W.iret (v := r12) hx hb hr (fun t ht _ => mw_post hH ht) hH.2.1.2.2 dX6_gate_117
          · have hE := (if_neg c10).symm.trans hE
            refine lv_iload_n hx hb dX6_gate_58 rfl (lv_at hl 2 rfl) ?_
            refine lv_aload_n hx hb dX6_gate_59 rfl (lv_at hl 0 rfl) ?_
            refine rg_getr F hH.1 0 (ci := 6) rfl (C := RX6) (T := TX6) (N := 9) rfl iwX6_gate_X6 0 (d := 1) (n := 1) rfl rfl (by decide) rfl lkX6_gate_0 rfl dX6_gate_60 ?_
            refine rg_getr F hH.1 1 (ci := 5) rfl (C := RX5) (T := TX5) (N := 6) rfl iwX6_gate_X5 1 (d := 10) (n := 11) rfl rfl (by decide) rfl lkX6_gate_1 rfl dX6_gate_63 ?_
            refine rg_getr F hH.1 11 (ci := 1) rfl (C := RX1) (T := TX1) (N := 8) rfl iwX6_gate_X1 0 (d := 1) (n := 12) rfl rfl (by decide) rfl lkX6_gate_3 rfl dX6_gate_66 ?_
            refine lv_iload_n hx hb dX6_gate_69 rfl (lv_at hl 1 rfl) ?_
            obtain ⟨r15, er15, hE⟩ := lt_el hE
            refine rg_callRV (As := [.int a1]) (rest := [.int a2]) F (kX0_get l X 4 (by decide) (b + 12) (gv V 12) a1 r15 er15) (cwV 1 F.1.2.2.2.2 gX6_gate_X0_get rfl rfl rfl hvX0_get ⟨Nat.le_of_ble_eq_true rfl, Nat.le_of_ble_eq_true rfl⟩) (rp_recv F hH.1 12 rfl (C := RX0) (T := TX0) (N := 1) rfl rfl) (hH.1.sub 12 sb_LA_12_LC4) rfl hl.1 (Nat.le_of_ble_eq_true rfl) dX6_gate_70 ⟨Nat.zero_le _, Nat.zero_le _⟩ rfl ?_
            refine lv_icmp_eq (tgt := 80) hx hb dX6_gate_73 (by decide) (fun c16 => ?_) (fun c16 => ?_)
            · have hE := (if_pos c16).symm.trans hE
              refine lv_aload_n hx hb dX6_gate_80 rfl (lv_at hl 0 rfl) ?_
              obtain ⟨U17, eU17, hE⟩ := lt_el hE
              refine rg_callWS (As := []) (rest := []) F hH (fun q h1 h2 => ⟨h1, h2⟩) (mX6_record l X b V  U17 eU17) (cwV 0 F.1.2.2.2.2 gX6_gate_X6_record rfl rfl rfl hvX6_record ⟨Nat.le_of_ble_eq_true rfl, Nat.le_of_ble_eq_true rfl⟩) (rp_recv F hH.1 0 rfl (C := RX6) (T := TX6) (N := 9) rfl rfl) hH.1 rfl hl.1 (Nat.le_of_ble_eq_true rfl) dX6_gate_81 ⟨Nat.zero_le _, Nat.zero_le _⟩ rfl (fun H locs hH => ?_)
              refine lv_aload_n hx hb dX6_gate_84 rfl (lv_at hl 0 rfl) ?_
              refine rg_getr F hH.1 0 (ci := 6) rfl (C := RX6) (T := TX6) (N := 9) rfl iwX6_gate_X6 0 (d := 1) (n := 1) rfl rfl (by decide) rfl lkX6_gate_0 rfl dX6_gate_85 ?_
              refine rg_getr F hH.1 1 (ci := 5) rfl (C := RX5) (T := TX5) (N := 6) rfl iwX6_gate_X5 1 (d := 10) (n := 11) rfl rfl (by decide) rfl lkX6_gate_1 rfl dX6_gate_88 ?_
              refine rg_getr F hH.1 11 (ci := 1) rfl (C := RX1) (T := TX1) (N := 8) rfl iwX6_gate_X1 1 (d := 3) (n := 14) rfl rfl (by decide) rfl lkX6_gate_2 rfl dX6_gate_91 ?_
              refine lv_iload_n hx hb dX6_gate_94 rfl (lv_at hl 1 rfl) ?_
              obtain ⟨r18, er18, hE⟩ := lt_el hE
              refine rg_callRV (As := [.int a1]) (rest := []) F (kX0_get l X 4 (by decide) (b + 14) (gv U17 14) a1 r18 er18) (cwV 1 F.1.2.2.2.2 gX6_gate_X0_get rfl rfl rfl hvX0_get ⟨Nat.le_of_ble_eq_true rfl, Nat.le_of_ble_eq_true rfl⟩) (rp_recv F hH.1 14 rfl (C := RX0) (T := TX0) (N := 1) rfl rfl) (hH.1.sub 14 sb_LA_14_LC4) rfl hl.1 (Nat.le_of_ble_eq_true rfl) dX6_gate_95 ⟨Nat.zero_le _, Nat.zero_le _⟩ rfl ?_
              refine lv_istore (lv' := [(5, .int r18), (0, .ref b), (1, .int a1), (2, .int a2), (3, .int a3), (4, .int a4)]) hx hb dX6_gate_98 hl (by decide) rfl (fun ls hl => ?_)
              refine lv_aload_n hx hb dX6_gate_100 rfl (lv_at hl 1 rfl) ?_
              refine rg_getr F hH.1 0 (ci := 6) rfl (C := RX6) (T := TX6) (N := 9) rfl iwX6_gate_X6 0 (d := 1) (n := 1) rfl rfl (by decide) rfl lkX6_gate_0 rfl dX6_gate_101 ?_
              refine rg_getr F hH.1 1 (ci := 5) rfl (C := RX5) (T := TX5) (N := 6) rfl iwX6_gate_X5 1 (d := 10) (n := 11) rfl rfl (by decide) rfl lkX6_gate_1 rfl dX6_gate_104 ?_
              refine lv_iload_n hx hb dX6_gate_107 rfl (lv_at hl 2 rfl) ?_
              refine lv_iload_n hx hb dX6_gate_108 rfl (lv_at hl 3 rfl) ?_
              refine lv_iload_n hx hb dX6_gate_109 rfl (lv_at hl 4 rfl) ?_
              refine lv_iload hx hb dX6_gate_110 (lv_at hl 5 rfl) ?_
              obtain ⟨U19, eU19, hE⟩ := lt_el hE
              obtain ⟨V20, eV20, hE⟩ := lt_el hE
              refine rg_callWV (As := [.int a1, .int a2, .int a3, .int a4]) (rest := []) F hH (fun q h1 h2 => ⟨h1, h2⟩) 11 sb_LA_11_LG (mX1_change l X (b + 11) (gv U17 11) a1 a2 a3 a4 U19 eU19) (cwV 4 F.1.2.2.2.2 gX6_gate_X1_change rfl rfl rfl hvX1_change ⟨Nat.le_of_ble_eq_true rfl, Nat.le_of_ble_eq_true rfl⟩) (rp_recv F hH.1 11 rfl (C := RX1) (T := TX1) (N := 8) rfl rfl) (hH.1.sub 11 sb_LA_11_LG) rfl hl.1 (Nat.le_of_ble_eq_true rfl) dX6_gate_112 ⟨Nat.zero_le _, Nat.zero_le _⟩ rfl eV20 (fun H locs hH hfr => ?_)
              refine lv_iload hx hb dX6_gate_115 (lv_at hl 0 rfl) ?_
              subst hE
              exact W.iret (v := r18) hx hb hr (fun t ht _ => mw_post hH ht) hH.2.1.2.2 dX6_gate_117
            · have hE := (if_neg c16).symm.trans hE
              refine lv_sipush (v := (-1005)) hx hb dX6_gate_76 (by decide) ?_
              subst hE
              exact W.iret (v := (-1005 : Int32)) hx hb hr (fun t ht _ => mw_post hH ht) hH.2.1.2.2 dX6_gate_79
        · have hE := (if_pos c8).symm.trans hE
          refine lv_sipush (v := (-1002)) hx hb dX6_gate_40 (by decide) ?_
          subst hE
          exact W.iret (v := (-1002 : Int32)) hx hb hr (fun t ht _ => mw_post hH ht) hH.2.1.2.2 dX6_gate_43
  · have hE := (if_pos c2).symm.trans hE
    refine lv_sipush (v := (-1001)) hx hb dX6_gate_7 (by decide) ?_
    subst hE
    exact W.iret (v := (-1001 : Int32)) hx hb hr (fun t ht _ => mw_post hH ht) hH.2.1.2.2 dX6_gate_10
set_option maxRecDepth 20000 in
theorem lkX6_shut_0 : Cond.fieldLink RX6 10 "TideWords" "now" "LTideWords$World;" ∈ wsX6_shut := by decide +kernel
set_option maxRecDepth 20000 in
theorem iwX6_shut_X6 : ∀ w ∈ wsX60, w ∈ wsX6_shut := by decide +kernel
set_option maxRecDepth 20000 in
theorem lkX6_shut_1 : Cond.fieldLink RX6 88 "TideWords$World" "gates" "LTideWords$Gates;" ∈ wsX6_shut := by decide +kernel
set_option maxRecDepth 20000 in
theorem iwX6_shut_X5 : ∀ w ∈ wsX50, w ∈ wsX6_shut := by decide +kernel
set_option maxRecDepth 20000 in
theorem lkX6_shut_2 : Cond.fieldLink RX6 107 "TideWords$Gates" "shuts" "LTideWords$Cells;" ∈ wsX6_shut := by decide +kernel
set_option maxRecDepth 20000 in
theorem iwX6_shut_X1 : ∀ w ∈ wsX10, w ∈ wsX6_shut := by decide +kernel
def fX6_shut (V : Mem) (a1 : Int32) (a2 : Int32) : Int32 × Mem := lt (fX6_isGate a1) (fun r1 => if r1 = 0 then ((-1001 : Int32), V) else lt (fX1_isShut (gv V 1) a1) (fun r3 => if r3 = a2 then ((-1005 : Int32), V) else lt (fX6_record V ) (fun U5 => if a2 = 0 then lt (cset U5 19 4 a1 ((0 : Int32))) (fun V7 => lt (csum 4 (V7 19)) (fun r8 => (r8, V7))) else lt (cset U5 19 4 a1 ((1 : Int32))) (fun V9 => lt (csum 4 (V9 19)) (fun r10 => (r10, V9))))))
abbrev rmX6_shut : Room := { frames := 6, cells := 0, slots := 0, locals := 166 }
set_option maxHeartbeats 4000000 in
set_option maxRecDepth 100000 in
theorem mX6_shut (l : Launch) (X : kX) (b : Nat) (V : Mem) (a1 : Int32) (a2 : Int32) (out : Int32 × Mem) (hE : fX6_shut V a1 a2 = out) : MW l yX6_shut wsX6_shut rmX6_shut X [.ref b, .int a1, .int a2] (RP X LA b V) (some (.int out.1)) b (b + LA.length) (RP X LA b out.2) := by
  refine mt_head (cc := cX6_shut) (maxL := 3) (ret := (some .int)) (own := RX6) (by decide) rfl rfl (Nat.le_of_ble_eq_true rfl) ?_
  intro p e s m below meth c ls F hr hlocks hnm hR hl
  have hx := F.1.1
  have hb := F.1.2.1
  have hH : Hp (t_fr b (b + LA.length)) s.heap s.heap.size X LA b V s.heap [] := ⟨hR, va_S.rf, rfl⟩
  have hl : lv_has ls 3 [(0, .ref b), (1, .int a1), (2, .int a2)] := hl
  unfold fX6_shut at hE
  refine lv_iload_n hx hb dX6_shut_0 rfl (lv_at hl 1 rfl) ?_
  obtain ⟨r1, er1, hE⟩ := lt_el hE
  refine rg_callRS (As := [.int a1]) (rest := []) F (mX6_isGate l X a1 r1 er1) (va_cwS 1 F.1.2.2.2.2 gX6_shut_X6_isGate rfl rfl rfl hsX6_isGate ⟨Nat.le_of_ble_eq_true rfl, Nat.le_of_ble_eq_true rfl⟩)  trivial rfl hl.1 (Nat.le_of_ble_eq_true rfl) dX6_shut_1 ⟨Nat.zero_le _, Nat.zero_le _⟩ rfl ?_
  refine lv_if_ne (tgt := 11) hx hb dX6_shut_4 (by decide) (fun c2 => ?_) (fun c2 => ?_)
  · have hE := (if_neg c2).symm.trans hE
    refine lv_aload_n hx hb dX6_shut_11 rfl (lv_at hl 0 rfl) ?_
    refine rg_getr F hH.1 0 (ci := 6) rfl (C := RX6) (T := TX6) (N := 9) rfl iwX6_shut_X6 0 (d := 1) (n := 1) rfl rfl (by decide) rfl lkX6_shut_0 rfl dX6_shut_12 ?_
    refine rg_getr F hH.1 1 (ci := 5) rfl (C := RX5) (T := TX5) (N := 6) rfl iwX6_shut_X5 1 (d := 10) (n := 11) rfl rfl (by decide) rfl lkX6_shut_1 rfl dX6_shut_15 ?_
    refine lv_iload_n hx hb dX6_shut_18 rfl (lv_at hl 1 rfl) ?_
    obtain ⟨r3, er3, hE⟩ := lt_el hE
    refine rg_callRV (As := [.int a1]) (rest := []) F (mX1_isShut l X (b + 1) (gv V 1) a1 r3 er3) (cwV 1 F.1.2.2.2.2 gX6_shut_X1_isShut rfl rfl rfl hvX1_isShut ⟨Nat.le_of_ble_eq_true rfl, Nat.le_of_ble_eq_true rfl⟩) (rp_recv F hH.1 11 rfl (C := RX1) (T := TX1) (N := 8) rfl rfl) (hH.1.sub 1 sb_LA_1_LW) rfl hl.1 (Nat.le_of_ble_eq_true rfl) dX6_shut_19 ⟨Nat.zero_le _, Nat.zero_le _⟩ rfl ?_
    refine lv_iload_n hx hb dX6_shut_22 rfl (lv_at hl 2 rfl) ?_
    refine lv_icmp_ne (tgt := 30) hx hb dX6_shut_23 (by decide) (fun c4 => ?_) (fun c4 => ?_)
    · have hE := (if_neg c4).symm.trans hE
      refine lv_aload_n hx hb dX6_shut_30 rfl (lv_at hl 0 rfl) ?_
      obtain ⟨U5, eU5, hE⟩ := lt_el hE
      refine rg_callWS (As := []) (rest := []) F hH (fun q h1 h2 => ⟨h1, h2⟩) (mX6_record l X b V  U5 eU5) (cwV 0 F.1.2.2.2.2 gX6_shut_X6_record rfl rfl rfl hvX6_record ⟨Nat.le_of_ble_eq_true rfl, Nat.le_of_ble_eq_true rfl⟩) (rp_recv F hH.1 0 rfl (C := RX6) (T := TX6) (N := 9) rfl rfl) hH.1 rfl hl.1 (Nat.le_of_ble_eq_true rfl) dX6_shut_31 ⟨Nat.zero_le _, Nat.zero_le _⟩ rfl (fun H locs hH => ?_)
      refine lv_aload_n hx hb dX6_shut_34 rfl (lv_at hl 0 rfl) ?_
      refine rg_getr F hH.1 0 (ci := 6) rfl (C := RX6) (T := TX6) (N := 9) rfl iwX6_shut_X6 0 (d := 1) (n := 1) rfl rfl (by decide) rfl lkX6_shut_0 rfl dX6_shut_35 ?_
      refine rg_getr F hH.1 1 (ci := 5) rfl (C := RX5) (T := TX5) (N := 6) rfl iwX6_shut_X5 1 (d := 10) (n := 11) rfl rfl (by decide) rfl lkX6_shut_1 rfl dX6_shut_38 ?_
      refine rg_getr F hH.1 11 (ci := 1) rfl (C := RX1) (T := TX1) (N := 8) rfl iwX6_shut_X1 3 (d := 7) (n := 18) rfl rfl (by decide) rfl lkX6_shut_2 rfl dX6_shut_41 ?_
      refine lv_iload_n hx hb dX6_shut_44 rfl (lv_at hl 1 rfl) ?_
      refine lv_iload_n hx hb dX6_shut_45 rfl (lv_at hl 2 rfl) ?_
      refine lv_if_eq (tgt := 53) hx hb dX6_shut_46 (by decide) (fun c6 => ?_) (fun c6 => ?_)
      · have hE := (if_pos c6).symm.trans hE
        refine lv_iconst (v := 0) hx hb dX6_shut_53 (by decide) ?_
        obtain ⟨V7, eV7, hE⟩ := lt_el hE
        refine rg_callWV (As := [.int a1, .int ((0 : Int32))]) (rest := []) F hH (fun q h1 h2 => ⟨h1, h2⟩) 18 sb_LA_18_LC4 (kX0_set l X 4 (by decide) (b + 18) (gv U5 18) a1 ((0 : Int32)) _ rfl) (cwV 2 F.1.2.2.2.2 gX6_shut_X0_set rfl rfl rfl hvX0_set ⟨Nat.le_of_ble_eq_true rfl, Nat.le_of_ble_eq_true rfl⟩) (rp_recv F hH.1 18 rfl (C := RX0) (T := TX0) (N := 1) rfl rfl) (hH.1.sub 18 sb_LA_18_LC4) rfl hl.1 (Nat.le_of_ble_eq_true rfl) dX6_shut_54 ⟨Nat.zero_le _, Nat.zero_le _⟩ rfl ((pv_cset ..).trans eV7) (fun H locs hH hfr => ?_)
        refine lv_aload_n hx hb dX6_shut_57 rfl (lv_at hl 0 rfl) ?_
        refine rg_getr F hH.1 0 (ci := 6) rfl (C := RX6) (T := TX6) (N := 9) rfl iwX6_shut_X6 0 (d := 1) (n := 1) rfl rfl (by decide) rfl lkX6_shut_0 rfl dX6_shut_58 ?_
        refine rg_getr F hH.1 1 (ci := 5) rfl (C := RX5) (T := TX5) (N := 6) rfl iwX6_shut_X5 1 (d := 10) (n := 11) rfl rfl (by decide) rfl lkX6_shut_1 rfl dX6_shut_61 ?_
        refine rg_getr F hH.1 11 (ci := 1) rfl (C := RX1) (T := TX1) (N := 8) rfl iwX6_shut_X1 3 (d := 7) (n := 18) rfl rfl (by decide) rfl lkX6_shut_2 rfl dX6_shut_64 ?_
        obtain ⟨r8, er8, hE⟩ := lt_el hE
        refine rg_callRV (As := []) (rest := []) F (kX0_sum l X 4 (by decide) (b + 18) (gv V7 18)  r8 er8) (cwV 0 F.1.2.2.2.2 gX6_shut_X0_sum rfl rfl rfl hvX0_sum ⟨Nat.le_of_ble_eq_true rfl, Nat.le_of_ble_eq_true rfl⟩) (rp_recv F hH.1 18 rfl (C := RX0) (T := TX0) (N := 1) rfl rfl) (hH.1.sub 18 sb_LA_18_LC4) rfl hl.1 (Nat.le_of_ble_eq_true rfl) dX6_shut_67 ⟨Nat.zero_le _, Nat.zero_le _⟩ rfl ?_
        subst hE
        exact W.iret (v := r8) hx hb hr (fun t ht _ => mw_post hH ht) hH.2.1.2.2 dX6_shut_70
      · have hE := (if_neg c6).symm.trans hE
        refine lv_iconst (v := 1) hx hb dX6_shut_49 (by decide) ?_
        refine lv_goto (tgt := 54) hx hb dX6_shut_50 (by decide) ?_
        obtain ⟨V9, eV9, hE⟩ := lt_el hE
        refine rg_callWV (As := [.int a1, .int ((1 : Int32))]) (rest := []) F hH (fun q h1 h2 => ⟨h1, h2⟩) 18 sb_LA_18_LC4 (kX0_set l X 4 (by decide) (b + 18) (gv U5 18) a1 ((1 : Int32)) _ rfl) (cwV 2 F.1.2.2.2.2 gX6_shut_X0_set rfl rfl rfl hvX0_set ⟨Nat.le_of_ble_eq_true rfl, Nat.le_of_ble_eq_true rfl⟩) (rp_recv F hH.1 18 rfl (C := RX0) (T := TX0) (N := 1) rfl rfl) (hH.1.sub 18 sb_LA_18_LC4) rfl hl.1 (Nat.le_of_ble_eq_true rfl) dX6_shut_54 ⟨Nat.zero_le _, Nat.zero_le _⟩ rfl ((pv_cset ..).trans eV9) (fun H locs hH hfr => ?_)
        refine lv_aload_n hx hb dX6_shut_57 rfl (lv_at hl 0 rfl) ?_
        refine rg_getr F hH.1 0 (ci := 6) rfl (C := RX6) (T := TX6) (N := 9) rfl iwX6_shut_X6 0 (d := 1) (n := 1) rfl rfl (by decide) rfl lkX6_shut_0 rfl dX6_shut_58 ?_
        refine rg_getr F hH.1 1 (ci := 5) rfl (C := RX5) (T := TX5) (N := 6) rfl iwX6_shut_X5 1 (d := 10) (n := 11) rfl rfl (by decide) rfl lkX6_shut_1 rfl dX6_shut_61 ?_
        refine rg_getr F hH.1 11 (ci := 1) rfl (C := RX1) (T := TX1) (N := 8) rfl iwX6_shut_X1 3 (d := 7) (n := 18) rfl rfl (by decide) rfl lkX6_shut_2 rfl dX6_shut_64 ?_
        obtain ⟨r10, er10, hE⟩ := lt_el hE
        refine rg_callRV (As := []) (rest := []) F (kX0_sum l X 4 (by decide) (b + 18) (gv V9 18)  r10 er10) (cwV 0 F.1.2.2.2.2 gX6_shut_X0_sum rfl rfl rfl hvX0_sum ⟨Nat.le_of_ble_eq_true rfl, Nat.le_of_ble_eq_true rfl⟩) (rp_recv F hH.1 18 rfl (C := RX0) (T := TX0) (N := 1) rfl rfl) (hH.1.sub 18 sb_LA_18_LC4) rfl hl.1 (Nat.le_of_ble_eq_true rfl) dX6_shut_67 ⟨Nat.zero_le _, Nat.zero_le _⟩ rfl ?_
        subst hE
        exact W.iret (v := r10) hx hb hr (fun t ht _ => mw_post hH ht) hH.2.1.2.2 dX6_shut_70
    · have hE := (if_pos c4).symm.trans hE
      refine lv_sipush (v := (-1005)) hx hb dX6_shut_26 (by decide) ?_
      subst hE
      exact W.iret (v := (-1005 : Int32)) hx hb hr (fun t ht _ => mw_post hH ht) hH.2.1.2.2 dX6_shut_29
  · have hE := (if_pos c2).symm.trans hE
    refine lv_sipush (v := (-1001)) hx hb dX6_shut_7 (by decide) ?_
    subst hE
    exact W.iret (v := (-1001 : Int32)) hx hb hr (fun t ht _ => mw_post hH ht) hH.2.1.2.2 dX6_shut_10
set_option maxRecDepth 20000 in
theorem lkX6_run_0 : Cond.fieldLink RX6 10 "TideWords" "now" "LTideWords$World;" ∈ wsX6_run := by decide +kernel
set_option maxRecDepth 20000 in
theorem iwX6_run_X6 : ∀ w ∈ wsX60, w ∈ wsX6_run := by decide +kernel
set_option maxRecDepth 20000 in
theorem lkX6_run_1 : Cond.fieldLink RX6 66 "TideWords$World" "steps" "I" ∈ wsX6_run := by decide +kernel
set_option maxRecDepth 20000 in
theorem iwX6_run_X5 : ∀ w ∈ wsX50, w ∈ wsX6_run := by decide +kernel
set_option maxRecDepth 20000 in
theorem lkX6_run_2 : Cond.constant RX6 135 (99999) ∈ wsX6_run := by decide +kernel
set_option maxRecDepth 20000 in
theorem lkX6_run_3 : Cond.fieldLink RX6 88 "TideWords$World" "gates" "LTideWords$Gates;" ∈ wsX6_run := by decide +kernel
set_option maxRecDepth 20000 in
theorem lkX6_run_4 : Cond.fieldLink RX6 136 "TideWords$Gates" "passedWords" "LTideWords$Cells;" ∈ wsX6_run := by decide +kernel
set_option maxRecDepth 20000 in
theorem iwX6_run_X1 : ∀ w ∈ wsX10, w ∈ wsX6_run := by decide +kernel
def fX6_run (V : Mem) (a1 : Int32) : Int32 × Mem := lt (fX6_isWithin a1 ((1 : Int32)) ((500 : Int32))) (fun r1 => if r1 = 0 then ((-1002 : Int32), V) else if (V 1 0) + a1 ≤ (99999 : Int32) then lt (fX6_record V ) (fun U4 => lt (csum 4 (U4 25)) (fun r5 => lt (fX5_makeSteps (gv U4 1) a1) (fun U6 => lt (pv U4 1 42 U6) (fun V7 => lt (csum 4 (V7 25)) (fun r8 => (r8 - r5, V7)))))) else ((-1004 : Int32), V))
abbrev rmX6_run : Room := { frames := 6, cells := 0, slots := 0, locals := 166 }
set_option maxHeartbeats 4000000 in
set_option maxRecDepth 100000 in
theorem mX6_run (l : Launch) (X : kX) (b : Nat) (V : Mem) (a1 : Int32) (out : Int32 × Mem) (hE : fX6_run V a1 = out) : MW l yX6_run wsX6_run rmX6_run X [.ref b, .int a1] (RP X LA b V) (some (.int out.1)) b (b + LA.length) (RP X LA b out.2) := by
  refine mt_head (cc := cX6_run) (maxL := 3) (ret := (some .int)) (own := RX6) (by decide) rfl rfl (Nat.le_of_ble_eq_true rfl) ?_
  intro p e s m below meth c ls F hr hlocks hnm hR hl
  have hx := F.1.1
  have hb := F.1.2.1
  have hH : Hp (t_fr b (b + LA.length)) s.heap s.heap.size X LA b V s.heap [] := ⟨hR, va_S.rf, rfl⟩
  have hl : lv_has ls 3 [(0, .ref b), (1, .int a1)] := hl
  unfold fX6_run at hE
  refine lv_iload_n hx hb dX6_run_0 rfl (lv_at hl 1 rfl) ?_
  refine lv_iconst (v := 1) hx hb dX6_run_1 (by decide) ?_
  refine lv_sipush (v := 500) hx hb dX6_run_2 (by decide) ?_
  obtain ⟨r1, er1, hE⟩ := lt_el hE
  refine rg_callRS (As := [.int a1, .int ((1 : Int32)), .int ((500 : Int32))]) (rest := []) F (mX6_isWithin l X a1 ((1 : Int32)) ((500 : Int32)) r1 er1) (va_cwS 3 F.1.2.2.2.2 gX6_run_X6_isWithin rfl rfl rfl hsX6_isWithin ⟨Nat.le_of_ble_eq_true rfl, Nat.le_of_ble_eq_true rfl⟩)  trivial rfl hl.1 (Nat.le_of_ble_eq_true rfl) dX6_run_5 ⟨Nat.zero_le _, Nat.zero_le _⟩ rfl ?_
  refine lv_if_ne (tgt := 15) hx hb dX6_run_8 (by decide) (fun c2 => ?_) (fun c2 => ?_)
  · have hE := (if_neg c2).symm.trans hE
    refine lv_aload_n hx hb dX6_run_15 rfl (lv_at hl 0 rfl) ?_
    refine rg_getr F hH.1 0 (ci := 6) rfl (C := RX6) (T := TX6) (N := 9) rfl iwX6_run_X6 0 (d := 1) (n := 1) rfl rfl (by decide) rfl lkX6_run_0 rfl dX6_run_16 ?_
    refine rg_geti F hH.1 1 (ci := 5) rfl (C := RX5) (T := TX5) (N := 6) rfl iwX6_run_X5 3 (i := 0) rfl (by decide) rfl lkX6_run_1 rfl dX6_run_19 ?_
    refine lv_iload_n hx hb dX6_run_22 rfl (lv_at hl 1 rfl) ?_
    refine lv_iadd hx hb dX6_run_23 ?_
    refine lv_ldc (v := 99999) hx hb F.1.2.2.2.1 (F.1.2.2.2.2 _ lkX6_run_2) dX6_run_24 ?_
    refine lv_icmp_le (tgt := 33) hx hb dX6_run_26 (by decide) (fun c3 => ?_) (fun c3 => ?_)
    · have hE := (if_pos c3).symm.trans hE
      refine lv_aload_n hx hb dX6_run_33 rfl (lv_at hl 0 rfl) ?_
      obtain ⟨U4, eU4, hE⟩ := lt_el hE
      refine rg_callWS (As := []) (rest := []) F hH (fun q h1 h2 => ⟨h1, h2⟩) (mX6_record l X b V  U4 eU4) (cwV 0 F.1.2.2.2.2 gX6_run_X6_record rfl rfl rfl hvX6_record ⟨Nat.le_of_ble_eq_true rfl, Nat.le_of_ble_eq_true rfl⟩) (rp_recv F hH.1 0 rfl (C := RX6) (T := TX6) (N := 9) rfl rfl) hH.1 rfl hl.1 (Nat.le_of_ble_eq_true rfl) dX6_run_34 ⟨Nat.zero_le _, Nat.zero_le _⟩ rfl (fun H locs hH => ?_)
      refine lv_aload_n hx hb dX6_run_37 rfl (lv_at hl 0 rfl) ?_
      refine rg_getr F hH.1 0 (ci := 6) rfl (C := RX6) (T := TX6) (N := 9) rfl iwX6_run_X6 0 (d := 1) (n := 1) rfl rfl (by decide) rfl lkX6_run_0 rfl dX6_run_38 ?_
      refine rg_getr F hH.1 1 (ci := 5) rfl (C := RX5) (T := TX5) (N := 6) rfl iwX6_run_X5 1 (d := 10) (n := 11) rfl rfl (by decide) rfl lkX6_run_3 rfl dX6_run_41 ?_
      refine rg_getr F hH.1 11 (ci := 1) rfl (C := RX1) (T := TX1) (N := 8) rfl iwX6_run_X1 6 (d := 13) (n := 24) rfl rfl (by decide) rfl lkX6_run_4 rfl dX6_run_44 ?_
      obtain ⟨r5, er5, hE⟩ := lt_el hE
      refine rg_callRV (As := []) (rest := []) F (kX0_sum l X 4 (by decide) (b + 24) (gv U4 24)  r5 er5) (cwV 0 F.1.2.2.2.2 gX6_run_X0_sum rfl rfl rfl hvX0_sum ⟨Nat.le_of_ble_eq_true rfl, Nat.le_of_ble_eq_true rfl⟩) (rp_recv F hH.1 24 rfl (C := RX0) (T := TX0) (N := 1) rfl rfl) (hH.1.sub 24 sb_LA_24_LC4) rfl hl.1 (Nat.le_of_ble_eq_true rfl) dX6_run_47 ⟨Nat.zero_le _, Nat.zero_le _⟩ rfl ?_
      refine lv_istore_n (lv' := [(2, .int r5), (0, .ref b), (1, .int a1)]) hx hb dX6_run_50 rfl hl (by decide) rfl (fun ls hl => ?_)
      refine lv_aload_n hx hb dX6_run_51 rfl (lv_at hl 1 rfl) ?_
      refine rg_getr F hH.1 0 (ci := 6) rfl (C := RX6) (T := TX6) (N := 9) rfl iwX6_run_X6 0 (d := 1) (n := 1) rfl rfl (by decide) rfl lkX6_run_0 rfl dX6_run_52 ?_
      refine lv_iload_n hx hb dX6_run_55 rfl (lv_at hl 2 rfl) ?_
      obtain ⟨U6, eU6, hE⟩ := lt_el hE
      obtain ⟨V7, eV7, hE⟩ := lt_el hE
      refine rg_callWV (As := [.int a1]) (rest := []) F hH (fun q h1 h2 => ⟨h1, h2⟩) 1 sb_LA_1_LW (kX5_makeSteps l X (b + 1) (gv U4 1) a1 U6 eU6) (cwV 1 F.1.2.2.2.2 gX6_run_X5_makeSteps rfl rfl rfl hvX5_makeSteps ⟨Nat.le_of_ble_eq_true rfl, Nat.le_of_ble_eq_true rfl⟩) (rp_recv F hH.1 1 rfl (C := RX5) (T := TX5) (N := 6) rfl rfl) (hH.1.sub 1 sb_LA_1_LW) rfl hl.1 (Nat.le_of_ble_eq_true rfl) dX6_run_56 ⟨Nat.zero_le _, Nat.zero_le _⟩ rfl eV7 (fun H locs hH hfr => ?_)
      refine lv_aload_n hx hb dX6_run_59 rfl (lv_at hl 1 rfl) ?_
      refine rg_getr F hH.1 0 (ci := 6) rfl (C := RX6) (T := TX6) (N := 9) rfl iwX6_run_X6 0 (d := 1) (n := 1) rfl rfl (by decide) rfl lkX6_run_0 rfl dX6_run_60 ?_
      refine rg_getr F hH.1 1 (ci := 5) rfl (C := RX5) (T := TX5) (N := 6) rfl iwX6_run_X5 1 (d := 10) (n := 11) rfl rfl (by decide) rfl lkX6_run_3 rfl dX6_run_63 ?_
      refine rg_getr F hH.1 11 (ci := 1) rfl (C := RX1) (T := TX1) (N := 8) rfl iwX6_run_X1 6 (d := 13) (n := 24) rfl rfl (by decide) rfl lkX6_run_4 rfl dX6_run_66 ?_
      obtain ⟨r8, er8, hE⟩ := lt_el hE
      refine rg_callRV (As := []) (rest := []) F (kX0_sum l X 4 (by decide) (b + 24) (gv V7 24)  r8 er8) (cwV 0 F.1.2.2.2.2 gX6_run_X0_sum rfl rfl rfl hvX0_sum ⟨Nat.le_of_ble_eq_true rfl, Nat.le_of_ble_eq_true rfl⟩) (rp_recv F hH.1 24 rfl (C := RX0) (T := TX0) (N := 1) rfl rfl) (hH.1.sub 24 sb_LA_24_LC4) rfl hl.1 (Nat.le_of_ble_eq_true rfl) dX6_run_69 ⟨Nat.zero_le _, Nat.zero_le _⟩ rfl ?_
      refine lv_iload_n hx hb dX6_run_72 rfl (lv_at hl 0 rfl) ?_
      refine lv_isub hx hb dX6_run_73 ?_
      subst hE
      exact W.iret (v := r8 - r5) hx hb hr (fun t ht _ => mw_post hH ht) hH.2.1.2.2 dX6_run_74
    · have hE := (if_neg c3).symm.trans hE
      refine lv_sipush (v := (-1004)) hx hb dX6_run_29 (by decide) ?_
      subst hE
      exact W.iret (v := (-1004 : Int32)) hx hb hr (fun t ht _ => mw_post hH ht) hH.2.1.2.2 dX6_run_32
  · have hE := (if_pos c2).symm.trans hE
    refine lv_sipush (v := (-1002)) hx hb dX6_run_11 (by decide) ?_
    subst hE
    exact W.iret (v := (-1002 : Int32)) hx hb hr (fun t ht _ => mw_post hH ht) hH.2.1.2.2 dX6_run_14
set_option maxRecDepth 20000 in
theorem lkX6_bringWords_0 : Cond.fieldLink RX6 10 "TideWords" "now" "LTideWords$World;" ∈ wsX6_bringWords := by decide +kernel
set_option maxRecDepth 20000 in
theorem iwX6_bringWords_X6 : ∀ w ∈ wsX60, w ∈ wsX6_bringWords := by decide +kernel
set_option maxRecDepth 20000 in
theorem lkX6_bringWords_1 : Cond.fieldLink RX6 117 "TideWords$World" "words" "LTideWords$Words;" ∈ wsX6_bringWords := by decide +kernel
set_option maxRecDepth 20000 in
theorem iwX6_bringWords_X5 : ∀ w ∈ wsX50, w ∈ wsX6_bringWords := by decide +kernel
theorem hvX4_startWord : yX4_startWord.cls = RX4 ∧ yX4_startWord.cls ≠ "java/lang/invoke/MethodHandle" ∧ yX4_startWord.cls ≠ "java/lang/invoke/VarHandle" ∧ (parseMethodDescriptor yX4_startWord.desc).map (fun d => d.parameters.length) = some 1 := by decide +kernel
set_option maxRecDepth 20000 in
theorem lkX6_bringWords_2 : Cond.fieldLink RX6 22 "TideWords" "pad" "LTideWords$Pad;" ∈ wsX6_bringWords := by decide +kernel
set_option maxRecDepth 20000 in
theorem lkX6_bringWords_3 : Cond.fieldLink RX6 132 "TideWords$Pad" "length" "I" ∈ wsX6_bringWords := by decide +kernel
set_option maxRecDepth 20000 in
theorem iwX6_bringWords_X2 : ∀ w ∈ wsX20, w ∈ wsX6_bringWords := by decide +kernel
set_option maxRecDepth 20000 in
theorem lkX6_bringWords_4 : Cond.fieldLink RX6 278 "TideWords$Pad" "codes" "LTideWords$Cells;" ∈ wsX6_bringWords := by decide +kernel
set_option maxRecDepth 20000 in
theorem sb_LA_86_LC60 : sbL LA 86 (LC 60) := sbl_of rfl
theorem hvX4_addLetter : yX4_addLetter.cls = RX4 ∧ yX4_addLetter.cls ≠ "java/lang/invoke/MethodHandle" ∧ yX4_addLetter.cls ≠ "java/lang/invoke/VarHandle" ∧ (parseMethodDescriptor yX4_addLetter.desc).map (fun d => d.parameters.length) = some 1 := by decide +kernel
def lbX6_bringWords_13 (a1 : Int32) (s3 : Int32 × Mem) : Option ((Int32 × Mem) ⊕ (Int32 × Mem)) := if s3.2 85 0 ≤ s3.1 then some (.inr (s3.1, s3.2)) else lt (cget 60 (s3.2 87) s3.1) (fun r5 => if r5 = (44 : Int32) then lt (fX4_startWord (gv s3.2 1) a1) (fun U9 => lt (pv s3.2 1 42 U9) (fun V10 => some (.inl (s3.1 + 1, V10)))) else lt (fX4_addLetter (gv s3.2 1) r5) (fun U7 => lt (pv s3.2 1 42 U7) (fun V8 => some (.inl (s3.1 + 1, V8)))))
def qX6_bringWords (V : Mem) (a1 : Int32) : Option (Mem) := lt (fX4_startWord (gv V 1) a1) (fun U1 => lt (pv V 1 42 U1) (fun V2 => (it (lbX6_bringWords_13 a1) fuel ((0 : Int32), V2)).bind (fun s11 => some (s11.2))))
abbrev rmX6_bringWords : Room := { frames := 3, cells := 0, slots := 0, locals := 67 }
set_option maxHeartbeats 4000000 in
set_option maxRecDepth 100000 in
theorem mX6_bringWords (l : Launch) (X : kX) (b : Nat) (V : Mem) (a1 : Int32) (out : Mem) (hE : qX6_bringWords V a1 = some out) : MW l yX6_bringWords wsX6_bringWords rmX6_bringWords X [.ref b, .int a1] (RP X LA b V) (none) b (b + LA.length) (RP X LA b out) := by
  refine mt_head (cc := cX6_bringWords) (maxL := 4) (ret := none) (own := RX6) (by decide) rfl rfl (Nat.le_of_ble_eq_true rfl) ?_
  intro p e s m below meth c ls F hr hlocks hnm hR hl
  have hx := F.1.1
  have hb := F.1.2.1
  have hH : Hp (t_fr b (b + LA.length)) s.heap s.heap.size X LA b V s.heap [] := ⟨hR, va_S.rf, rfl⟩
  have hl : lv_has ls 4 [(0, .ref b), (1, .int a1)] := hl
  unfold qX6_bringWords at hE
  refine lv_aload_n hx hb dX6_bringWords_0 rfl (lv_at hl 0 rfl) ?_
  refine rg_getr F hH.1 0 (ci := 6) rfl (C := RX6) (T := TX6) (N := 9) rfl iwX6_bringWords_X6 0 (d := 1) (n := 1) rfl rfl (by decide) rfl lkX6_bringWords_0 rfl dX6_bringWords_1 ?_
  refine rg_getr F hH.1 1 (ci := 5) rfl (C := RX5) (T := TX5) (N := 6) rfl iwX6_bringWords_X5 2 (d := 27) (n := 28) rfl rfl (by decide) rfl lkX6_bringWords_1 rfl dX6_bringWords_4 ?_
  refine lv_iload_n hx hb dX6_bringWords_7 rfl (lv_at hl 1 rfl) ?_
  obtain ⟨U1, eU1, hE⟩ := lt_el hE
  obtain ⟨V2, eV2, hE⟩ := lt_el hE
  refine rg_callWV (As := [.int a1]) (rest := []) F hH (fun q h1 h2 => ⟨h1, h2⟩) 1 sb_LA_1_LW (mX4_startWord l X (b + 1) (gv V 1) a1 U1 eU1) (cwV 1 F.1.2.2.2.2 gX6_bringWords_X4_startWord rfl rfl rfl hvX4_startWord ⟨Nat.le_of_ble_eq_true rfl, Nat.le_of_ble_eq_true rfl⟩) (rp_recv F hH.1 28 rfl (C := RX4) (T := TX4) (N := 8) rfl rfl) (hH.1.sub 1 sb_LA_1_LW) rfl hl.1 (Nat.le_of_ble_eq_true rfl) dX6_bringWords_8 ⟨Nat.zero_le _, Nat.zero_le _⟩ rfl eV2 (fun H locs hH hfr => ?_)
  refine lv_iconst (v := 0) hx hb dX6_bringWords_11 (by decide) ?_
  refine lv_istore_n (lv' := [(2, .int ((0 : Int32))), (0, .ref b), (1, .int a1)]) hx hb dX6_bringWords_12 rfl hl (by decide) rfl (fun ls hl => ?_)
  obtain ⟨x12, hx12, hE⟩ := bd_el hE
  refine it_walk2 (body := lbX6_bringWords_13 a1) (Wh := fun s3 => ∀ (H : Heap) (locs : List Loc) (ls : Array Slot), Hp (t_fr b (b + LA.length)) s.heap s.heap.size X LA b s3.2 H locs → lv_has ls 4 [(2, .int s3.1), (0, .ref b), (1, .int a1)] → W p l e rmX6_bringWords s m ([.ref b, .int a1] : List Value).toArray below meth c H locs 0 0 (MQ below (cQw (none) b (b + LA.length) (RP X LA b out)) ([.ref b, .int a1] : List Value).toArray s 0 0 (t_fr b (b + LA.length))) (F0 m 13 ls [])) (We := fun s11 => ∀ (H : Heap) (locs : List Loc) (ls : Array Slot), Hp (t_fr b (b + LA.length)) s.heap s.heap.size X LA b s11.2 H locs → lv_has ls 4 [(2, .int s11.1), (0, .ref b), (1, .int a1)] → W p l e rmX6_bringWords s m ([.ref b, .int a1] : List Value).toArray below meth c H locs 0 0 (MQ below (cQw (none) b (b + LA.length) (RP X LA b out)) ([.ref b, .int a1] : List Value).toArray s 0 0 (t_fr b (b + LA.length))) (F0 m 73 ls [])) ?_ _ _ _ hx12 ?_ H locs ls hH (lv_sub hl [0, 1, 2] rfl)
  · intro s3 r9 hE hL9 hR9 H locs ls hH hl
    unfold lbX6_bringWords_13 at hE
    refine lv_iload_n hx hb dX6_bringWords_13 rfl (lv_at hl 0 rfl) ?_
    refine lv_aload_n hx hb dX6_bringWords_14 rfl (lv_at hl 1 rfl) ?_
    refine rg_getr F hH.1 0 (ci := 6) rfl (C := RX6) (T := TX6) (N := 9) rfl iwX6_bringWords_X6 2 (d := 85) (n := 85) rfl rfl (by decide) rfl lkX6_bringWords_2 rfl dX6_bringWords_15 ?_
    refine rg_geti F hH.1 85 (ci := 2) rfl (C := RX2) (T := TX2) (N := 2) rfl iwX6_bringWords_X2 1 (i := 0) rfl (by decide) rfl lkX6_bringWords_3 rfl dX6_bringWords_18 ?_
    refine lv_icmp_ge (tgt := 73) hx hb dX6_bringWords_21 (by decide) (fun c4 => ?_) (fun c4 => ?_)
    · have hE := (if_pos c4).symm.trans hE
      cases hE
      exact hR9 _ rfl H locs ls hH (lv_sub hl [0, 1, 2] rfl)
    · have hE := (if_neg c4).symm.trans hE
      refine lv_aload_n hx hb dX6_bringWords_24 rfl (lv_at hl 1 rfl) ?_
      refine rg_getr F hH.1 0 (ci := 6) rfl (C := RX6) (T := TX6) (N := 9) rfl iwX6_bringWords_X6 2 (d := 85) (n := 85) rfl rfl (by decide) rfl lkX6_bringWords_2 rfl dX6_bringWords_25 ?_
      refine rg_getr F hH.1 85 (ci := 2) rfl (C := RX2) (T := TX2) (N := 2) rfl iwX6_bringWords_X2 0 (d := 1) (n := 86) rfl rfl (by decide) rfl lkX6_bringWords_4 rfl dX6_bringWords_28 ?_
      refine lv_iload_n hx hb dX6_bringWords_31 rfl (lv_at hl 0 rfl) ?_
      obtain ⟨r5, er5, hE⟩ := lt_el hE
      refine rg_callRV (As := [.int s3.1]) (rest := []) F (kX0_get l X 60 (by decide) (b + 86) (gv s3.2 86) s3.1 r5 er5) (cwV 1 F.1.2.2.2.2 gX6_bringWords_X0_get rfl rfl rfl hvX0_get ⟨Nat.le_of_ble_eq_true rfl, Nat.le_of_ble_eq_true rfl⟩) (rp_recv F hH.1 86 rfl (C := RX0) (T := TX0) (N := 1) rfl rfl) (hH.1.sub 86 sb_LA_86_LC60) rfl hl.1 (Nat.le_of_ble_eq_true rfl) dX6_bringWords_32 ⟨Nat.zero_le _, Nat.zero_le _⟩ rfl ?_
      refine lv_istore_n (lv' := [(3, .int r5), (2, .int s3.1), (0, .ref b), (1, .int a1)]) hx hb dX6_bringWords_35 rfl hl (by decide) rfl (fun ls hl => ?_)
      refine lv_iload_n hx hb dX6_bringWords_36 rfl (lv_at hl 0 rfl) ?_
      refine lv_bipush (v := 44) hx hb dX6_bringWords_37 (by decide) ?_
      refine lv_icmp_ne (tgt := 56) hx hb dX6_bringWords_39 (by decide) (fun c6 => ?_) (fun c6 => ?_)
      · have hE := (if_neg c6).symm.trans hE
        refine lv_aload_n hx hb dX6_bringWords_56 rfl (lv_at hl 2 rfl) ?_
        refine rg_getr F hH.1 0 (ci := 6) rfl (C := RX6) (T := TX6) (N := 9) rfl iwX6_bringWords_X6 0 (d := 1) (n := 1) rfl rfl (by decide) rfl lkX6_bringWords_0 rfl dX6_bringWords_57 ?_
        refine rg_getr F hH.1 1 (ci := 5) rfl (C := RX5) (T := TX5) (N := 6) rfl iwX6_bringWords_X5 2 (d := 27) (n := 28) rfl rfl (by decide) rfl lkX6_bringWords_1 rfl dX6_bringWords_60 ?_
        refine lv_iload_n hx hb dX6_bringWords_63 rfl (lv_at hl 0 rfl) ?_
        obtain ⟨U7, eU7, hE⟩ := lt_el hE
        obtain ⟨V8, eV8, hE⟩ := lt_el hE
        refine rg_callWV (As := [.int r5]) (rest := []) F hH (fun q h1 h2 => ⟨h1, h2⟩) 1 sb_LA_1_LW (mX4_addLetter l X (b + 1) (gv s3.2 1) r5 U7 eU7) (cwV 1 F.1.2.2.2.2 gX6_bringWords_X4_addLetter rfl rfl rfl hvX4_addLetter ⟨Nat.le_of_ble_eq_true rfl, Nat.le_of_ble_eq_true rfl⟩) (rp_recv F hH.1 28 rfl (C := RX4) (T := TX4) (N := 8) rfl rfl) (hH.1.sub 1 sb_LA_1_LW) rfl hl.1 (Nat.le_of_ble_eq_true rfl) dX6_bringWords_64 ⟨Nat.zero_le _, Nat.zero_le _⟩ rfl eV8 (fun H locs hH hfr => ?_)
        refine lv_iinc (v := s3.1 + 1) (lv' := [(2, .int (s3.1 + 1)), (3, .int r5), (0, .ref b), (1, .int a1)]) hx hb dX6_bringWords_67 hl (k := 1) rfl (congrArg (fun q => s3.1 + q) (by decide)) (by decide) rfl (fun ls hl => ?_)
        refine lv_goto (tgt := 13) hx hb dX6_bringWords_70 (by decide) ?_
        cases hE
        exact hL9 _ rfl H locs ls hH (lv_sub hl [0, 2, 3] rfl)
      · have hE := (if_pos c6).symm.trans hE
        refine lv_aload_n hx hb dX6_bringWords_42 rfl (lv_at hl 2 rfl) ?_
        refine rg_getr F hH.1 0 (ci := 6) rfl (C := RX6) (T := TX6) (N := 9) rfl iwX6_bringWords_X6 0 (d := 1) (n := 1) rfl rfl (by decide) rfl lkX6_bringWords_0 rfl dX6_bringWords_43 ?_
        refine rg_getr F hH.1 1 (ci := 5) rfl (C := RX5) (T := TX5) (N := 6) rfl iwX6_bringWords_X5 2 (d := 27) (n := 28) rfl rfl (by decide) rfl lkX6_bringWords_1 rfl dX6_bringWords_46 ?_
        refine lv_iload_n hx hb dX6_bringWords_49 rfl (lv_at hl 3 rfl) ?_
        obtain ⟨U9, eU9, hE⟩ := lt_el hE
        obtain ⟨V10, eV10, hE⟩ := lt_el hE
        refine rg_callWV (As := [.int a1]) (rest := []) F hH (fun q h1 h2 => ⟨h1, h2⟩) 1 sb_LA_1_LW (mX4_startWord l X (b + 1) (gv s3.2 1) a1 U9 eU9) (cwV 1 F.1.2.2.2.2 gX6_bringWords_X4_startWord rfl rfl rfl hvX4_startWord ⟨Nat.le_of_ble_eq_true rfl, Nat.le_of_ble_eq_true rfl⟩) (rp_recv F hH.1 28 rfl (C := RX4) (T := TX4) (N := 8) rfl rfl) (hH.1.sub 1 sb_LA_1_LW) rfl hl.1 (Nat.le_of_ble_eq_true rfl) dX6_bringWords_50 ⟨Nat.zero_le _, Nat.zero_le _⟩ rfl eV10 (fun H locs hH hfr => ?_)
        refine lv_goto (tgt := 67) hx hb dX6_bringWords_53 (by decide) ?_
        refine lv_iinc (v := s3.1 + 1) (lv' := [(2, .int (s3.1 + 1)), (3, .int r5), (0, .ref b), (1, .int a1)]) hx hb dX6_bringWords_67 hl (k := 1) rfl (congrArg (fun q => s3.1 + q) (by decide)) (by decide) rfl (fun ls hl => ?_)
        refine lv_goto (tgt := 13) hx hb dX6_bringWords_70 (by decide) ?_
        cases hE
        exact hL9 _ rfl H locs ls hH (lv_sub hl [0, 2, 3] rfl)
  · intro H locs ls hH hl
    have hE := Option.some.inj hE
    subst hE
    exact W.vret hx hb hr (fun t ht _ => mw_post hH ht) hH.2.1.2.2 dX6_bringWords_73
theorem pv_out {V U : Mem} {k n j : Nat} (h : j < k ∨ k + n ≤ j) : pv V k n U j = V j := by
  unfold pv
  rw [if_neg (fun c => by omega)]
def brC (a1 : Int32) (i : Nat) (V : Mem) : Mem := if cget 60 (V 87) (nI i) = (44 : Int32) then pv V 1 42 (fX4_startWord (gv V 1) a1) else pv V 1 42 (fX4_addLetter (gv V 1) (cget 60 (V 87) (nI i)))
def fX6_bringWords (V : Mem) (a1 : Int32) : Mem := fld (brC a1) (V 85 0).toNatClampNeg (pv V 1 42 (fX4_startWord (gv V 1) a1))
theorem brC_out (a1 : Int32) (V : Mem) (j : Nat) (h : 43 ≤ j) : ∀ i, fld (brC a1) i V j = V j
  | 0 => rfl
  | i + 1 => by
    have ih := brC_out a1 V j h i
    have e : fld (brC a1) (i + 1) V = brC a1 i (fld (brC a1) i V) := rfl
    rw [e]
    generalize fld (brC a1) i V = q at ih ⊢
    rw [← ih]
    unfold brC
    by_cases c : cget 60 (q 87) (nI i) = (44 : Int32)
    · rw [if_pos c, pv_out (by omega)]
    · rw [if_neg c, pv_out (by omega)]
theorem tX6_bringWords (V : Mem) (a1 : Int32) : qX6_bringWords V a1 = some (fX6_bringWords V a1) := by
  unfold qX6_bringWords fX6_bringWords lt
  dsimp only
  have e85 : (pv V 1 42 (fX4_startWord (gv V 1) a1)) 85 0 = V 85 0 := by rw [pv_out (by omega)]
  rw [← e85]
  generalize pv V 1 42 (fX4_startWord (gv V 1) a1) = V2
  have h : it (lbX6_bringWords_13 a1) fuel ((0 : Int32), V2) = some (nI (V2 85 0).toNatClampNeg, fld (brC a1) (V2 85 0).toNatClampNeg V2) := by
    refine it_for (fun i => (nI i, fld (brC a1) i V2)) (V2 85 0).toNatClampNeg (fun i hi => ?_) ?_ fuel (fuel_lt (by have := r32 (V2 85 0); omega))
    · unfold lbX6_bringWords_13 lt
      dsimp only
      rw [if_neg (by rw [brC_out a1 V2 85 (by omega)]; exact r_lt hi), nI_1]
      have e : fld (brC a1) (i + 1) V2 = brC a1 i (fld (brC a1) i V2) := rfl
      rw [e]
      generalize fld (brC a1) i V2 = q
      unfold brC
      by_cases c : cget 60 (q 87) (nI i) = (44 : Int32)
      · rw [if_pos c, if_pos c]
      · rw [if_neg c, if_neg c]
    · unfold lbX6_bringWords_13
      dsimp only
      rw [if_pos (by rw [brC_out a1 V2 85 (by omega)]; exact r_ge _)]
  rw [h]
  rfl

theorem kX6_bringWords (l : Launch) (X : kX) (b : Nat) (V : Mem) (a1 : Int32) (out : Mem) (hE : fX6_bringWords V a1 = out) : MW l yX6_bringWords wsX6_bringWords rmX6_bringWords X [.ref b, .int a1] (RP X LA b V) (none) b (b + LA.length) (RP X LA b out) := mX6_bringWords l X b V a1 out ((tX6_bringWords V a1).trans (congrArg some hE))
set_option maxRecDepth 20000 in
theorem lkX6_put_0 : Cond.fieldLink RX6 22 "TideWords" "pad" "LTideWords$Pad;" ∈ wsX6_put := by decide +kernel
set_option maxRecDepth 20000 in
theorem iwX6_put_X6 : ∀ w ∈ wsX60, w ∈ wsX6_put := by decide +kernel
theorem hvX2_faultPlace : yX2_faultPlace.cls = RX2 ∧ yX2_faultPlace.cls ≠ "java/lang/invoke/MethodHandle" ∧ yX2_faultPlace.cls ≠ "java/lang/invoke/VarHandle" ∧ (parseMethodDescriptor yX2_faultPlace.desc).map (fun d => d.parameters.length) = some 0 := by decide +kernel
set_option maxRecDepth 20000 in
theorem sb_LA_85_LPd : sbL LA 85 LPd := sbl_of rfl
set_option maxRecDepth 20000 in
theorem lkX6_put_1 : Cond.fieldLink RX6 10 "TideWords" "now" "LTideWords$World;" ∈ wsX6_put := by decide +kernel
set_option maxRecDepth 20000 in
theorem lkX6_put_2 : Cond.fieldLink RX6 117 "TideWords$World" "words" "LTideWords$Words;" ∈ wsX6_put := by decide +kernel
set_option maxRecDepth 20000 in
theorem iwX6_put_X5 : ∀ w ∈ wsX50, w ∈ wsX6_put := by decide +kernel
set_option maxRecDepth 20000 in
theorem lkX6_put_3 : Cond.fieldLink RX6 121 "TideWords$Words" "total" "I" ∈ wsX6_put := by decide +kernel
set_option maxRecDepth 20000 in
theorem iwX6_put_X4 : ∀ w ∈ wsX40, w ∈ wsX6_put := by decide +kernel
theorem hvX2_wordsInside : yX2_wordsInside.cls = RX2 ∧ yX2_wordsInside.cls ≠ "java/lang/invoke/MethodHandle" ∧ yX2_wordsInside.cls ≠ "java/lang/invoke/VarHandle" ∧ (parseMethodDescriptor yX2_wordsInside.desc).map (fun d => d.parameters.length) = some 0 := by decide +kernel
theorem hvX6_bringWords : yX6_bringWords.cls = RX6 ∧ yX6_bringWords.cls ≠ "java/lang/invoke/MethodHandle" ∧ yX6_bringWords.cls ≠ "java/lang/invoke/VarHandle" ∧ (parseMethodDescriptor yX6_bringWords.desc).map (fun d => d.parameters.length) = some 1 := by decide +kernel
set_option maxRecDepth 20000 in
theorem lkX6_put_4 : Cond.fieldLink RX6 132 "TideWords$Pad" "length" "I" ∈ wsX6_put := by decide +kernel
set_option maxRecDepth 20000 in
theorem iwX6_put_X2 : ∀ w ∈ wsX20, w ∈ wsX6_put := by decide +kernel
def fX6_put (V : Mem) (a1 : Int32) : Int32 × Mem := lt (fX6_isStore a1) (fun r1 => if r1 = 0 then ((-1001 : Int32), V) else lt (fX2_faultPlace (gv V 85) ) (fun r3 => if r3 = (-1006 : Int32) then lt (fX2_wordsInside (gv V 85) ) (fun r5 => if (V 28 0) + r5 ≤ (12 : Int32) then lt (fX6_record V ) (fun U7 => lt (fX6_bringWords U7 a1) (fun U8 => lt (sv U8 85 0 ((0 : Int32))) (fun V9 => (V9 28 0, V9)))) else ((-1004 : Int32), V)) else ((-1003 : Int32), V)))
abbrev rmX6_put : Room := { frames := 6, cells := 0, slots := 0, locals := 166 }
set_option maxHeartbeats 4000000 in
set_option maxRecDepth 100000 in
theorem mX6_put (l : Launch) (X : kX) (b : Nat) (V : Mem) (a1 : Int32) (out : Int32 × Mem) (hE : fX6_put V a1 = out) : MW l yX6_put wsX6_put rmX6_put X [.ref b, .int a1] (RP X LA b V) (some (.int out.1)) b (b + LA.length) (RP X LA b out.2) := by
  refine mt_head (cc := cX6_put) (maxL := 2) (ret := (some .int)) (own := RX6) (by decide) rfl rfl (Nat.le_of_ble_eq_true rfl) ?_
  intro p e s m below meth c ls F hr hlocks hnm hR hl
  have hx := F.1.1
  have hb := F.1.2.1
  have hH : Hp (t_fr b (b + LA.length)) s.heap s.heap.size X LA b V s.heap [] := ⟨hR, va_S.rf, rfl⟩
  have hl : lv_has ls 2 [(0, .ref b), (1, .int a1)] := hl
  unfold fX6_put at hE
  refine lv_iload_n hx hb dX6_put_0 rfl (lv_at hl 1 rfl) ?_
  obtain ⟨r1, er1, hE⟩ := lt_el hE
  refine rg_callRS (As := [.int a1]) (rest := []) F (mX6_isStore l X a1 r1 er1) (va_cwS 1 F.1.2.2.2.2 gX6_put_X6_isStore rfl rfl rfl hsX6_isStore ⟨Nat.le_of_ble_eq_true rfl, Nat.le_of_ble_eq_true rfl⟩)  trivial rfl hl.1 (Nat.le_of_ble_eq_true rfl) dX6_put_1 ⟨Nat.zero_le _, Nat.zero_le _⟩ rfl ?_
  refine lv_if_ne (tgt := 11) hx hb dX6_put_4 (by decide) (fun c2 => ?_) (fun c2 => ?_)
  · have hE := (if_neg c2).symm.trans hE
    refine lv_aload_n hx hb dX6_put_11 rfl (lv_at hl 0 rfl) ?_
    refine rg_getr F hH.1 0 (ci := 6) rfl (C := RX6) (T := TX6) (N := 9) rfl iwX6_put_X6 2 (d := 85) (n := 85) rfl rfl (by decide) rfl lkX6_put_0 rfl dX6_put_12 ?_
    obtain ⟨r3, er3, hE⟩ := lt_el hE
    refine rg_callRV (As := []) (rest := []) F (kX2_faultPlace l X (b + 85) (gv V 85)  r3 er3) (cwV 0 F.1.2.2.2.2 gX6_put_X2_faultPlace rfl rfl rfl hvX2_faultPlace ⟨Nat.le_of_ble_eq_true rfl, Nat.le_of_ble_eq_true rfl⟩) (rp_recv F hH.1 85 rfl (C := RX2) (T := TX2) (N := 2) rfl rfl) (hH.1.sub 85 sb_LA_85_LPd) rfl hl.1 (Nat.le_of_ble_eq_true rfl) dX6_put_15 ⟨Nat.zero_le _, Nat.zero_le _⟩ rfl ?_
    refine lv_sipush (v := (-1006)) hx hb dX6_put_18 (by decide) ?_
    refine lv_icmp_eq (tgt := 28) hx hb dX6_put_21 (by decide) (fun c4 => ?_) (fun c4 => ?_)
    · have hE := (if_pos c4).symm.trans hE
      refine lv_aload_n hx hb dX6_put_28 rfl (lv_at hl 0 rfl) ?_
      refine rg_getr F hH.1 0 (ci := 6) rfl (C := RX6) (T := TX6) (N := 9) rfl iwX6_put_X6 0 (d := 1) (n := 1) rfl rfl (by decide) rfl lkX6_put_1 rfl dX6_put_29 ?_
      refine rg_getr F hH.1 1 (ci := 5) rfl (C := RX5) (T := TX5) (N := 6) rfl iwX6_put_X5 2 (d := 27) (n := 28) rfl rfl (by decide) rfl lkX6_put_2 rfl dX6_put_32 ?_
      refine rg_geti F hH.1 28 (ci := 4) rfl (C := RX4) (T := TX4) (N := 8) rfl iwX6_put_X4 7 (i := 0) rfl (by decide) rfl lkX6_put_3 rfl dX6_put_35 ?_
      refine lv_aload_n hx hb dX6_put_38 rfl (lv_at hl 0 rfl) ?_
      refine rg_getr F hH.1 0 (ci := 6) rfl (C := RX6) (T := TX6) (N := 9) rfl iwX6_put_X6 2 (d := 85) (n := 85) rfl rfl (by decide) rfl lkX6_put_0 rfl dX6_put_39 ?_
      obtain ⟨r5, er5, hE⟩ := lt_el hE
      refine rg_callRV (As := []) (rest := [.int (V 28 0)]) F (kX2_wordsInside l X (b + 85) (gv V 85)  r5 er5) (cwV 0 F.1.2.2.2.2 gX6_put_X2_wordsInside rfl rfl rfl hvX2_wordsInside ⟨Nat.le_of_ble_eq_true rfl, Nat.le_of_ble_eq_true rfl⟩) (rp_recv F hH.1 85 rfl (C := RX2) (T := TX2) (N := 2) rfl rfl) (hH.1.sub 85 sb_LA_85_LPd) rfl hl.1 (Nat.le_of_ble_eq_true rfl) dX6_put_42 ⟨Nat.zero_le _, Nat.zero_le _⟩ rfl ?_
      refine lv_iadd hx hb dX6_put_45 ?_
      refine lv_bipush (v := 12) hx hb dX6_put_46 (by decide) ?_
      refine lv_icmp_le (tgt := 55) hx hb dX6_put_48 (by decide) (fun c6 => ?_) (fun c6 => ?_)
      · have hE := (if_pos c6).symm.trans hE
        refine lv_aload_n hx hb dX6_put_55 rfl (lv_at hl 0 rfl) ?_
        obtain ⟨U7, eU7, hE⟩ := lt_el hE
        refine rg_callWS (As := []) (rest := []) F hH (fun q h1 h2 => ⟨h1, h2⟩) (mX6_record l X b V  U7 eU7) (cwV 0 F.1.2.2.2.2 gX6_put_X6_record rfl rfl rfl hvX6_record ⟨Nat.le_of_ble_eq_true rfl, Nat.le_of_ble_eq_true rfl⟩) (rp_recv F hH.1 0 rfl (C := RX6) (T := TX6) (N := 9) rfl rfl) hH.1 rfl hl.1 (Nat.le_of_ble_eq_true rfl) dX6_put_56 ⟨Nat.zero_le _, Nat.zero_le _⟩ rfl (fun H locs hH => ?_)
        refine lv_aload_n hx hb dX6_put_59 rfl (lv_at hl 0 rfl) ?_
        refine lv_iload_n hx hb dX6_put_60 rfl (lv_at hl 1 rfl) ?_
        obtain ⟨U8, eU8, hE⟩ := lt_el hE
        refine rg_callWS (As := [.int a1]) (rest := []) F hH (fun q h1 h2 => ⟨h1, h2⟩) (kX6_bringWords l X b U7 a1 U8 eU8) (cwV 1 F.1.2.2.2.2 gX6_put_X6_bringWords rfl rfl rfl hvX6_bringWords ⟨Nat.le_of_ble_eq_true rfl, Nat.le_of_ble_eq_true rfl⟩) (rp_recv F hH.1 0 rfl (C := RX6) (T := TX6) (N := 9) rfl rfl) hH.1 rfl hl.1 (Nat.le_of_ble_eq_true rfl) dX6_put_61 ⟨Nat.zero_le _, Nat.zero_le _⟩ rfl (fun H locs hH => ?_)
        refine lv_aload_n hx hb dX6_put_64 rfl (lv_at hl 0 rfl) ?_
        refine rg_getr F hH.1 0 (ci := 6) rfl (C := RX6) (T := TX6) (N := 9) rfl iwX6_put_X6 2 (d := 85) (n := 85) rfl rfl (by decide) rfl lkX6_put_0 rfl dX6_put_65 ?_
        refine lv_iconst (v := 0) hx hb dX6_put_68 (by decide) ?_
        obtain ⟨V9, eV9, hE⟩ := lt_el hE
        refine rg_put F hH (fun q h1 h2 => ⟨h1, h2⟩) 85 (ci := 2) rfl (C := RX2) (T := TX2) (N := 2) rfl iwX6_put_X2 tyX2 tyX2_ok nmX2 1 (i := 0) rfl (by decide) (by decide) rfl rfl (by decide +kernel) lkX6_put_4 rfl dX6_put_69 (fun H locs hH hfr => ?_)
        replace hH := hp_cast eV9 hH
        refine lv_aload_n hx hb dX6_put_72 rfl (lv_at hl 0 rfl) ?_
        refine rg_getr F hH.1 0 (ci := 6) rfl (C := RX6) (T := TX6) (N := 9) rfl iwX6_put_X6 0 (d := 1) (n := 1) rfl rfl (by decide) rfl lkX6_put_1 rfl dX6_put_73 ?_
        refine rg_getr F hH.1 1 (ci := 5) rfl (C := RX5) (T := TX5) (N := 6) rfl iwX6_put_X5 2 (d := 27) (n := 28) rfl rfl (by decide) rfl lkX6_put_2 rfl dX6_put_76 ?_
        refine rg_geti F hH.1 28 (ci := 4) rfl (C := RX4) (T := TX4) (N := 8) rfl iwX6_put_X4 7 (i := 0) rfl (by decide) rfl lkX6_put_3 rfl dX6_put_79 ?_
        subst hE
        exact W.iret (v := V9 28 0) hx hb hr (fun t ht _ => mw_post hH ht) hH.2.1.2.2 dX6_put_82
      · have hE := (if_neg c6).symm.trans hE
        refine lv_sipush (v := (-1004)) hx hb dX6_put_51 (by decide) ?_
        subst hE
        exact W.iret (v := (-1004 : Int32)) hx hb hr (fun t ht _ => mw_post hH ht) hH.2.1.2.2 dX6_put_54
    · have hE := (if_neg c4).symm.trans hE
      refine lv_sipush (v := (-1003)) hx hb dX6_put_24 (by decide) ?_
      subst hE
      exact W.iret (v := (-1003 : Int32)) hx hb hr (fun t ht _ => mw_post hH ht) hH.2.1.2.2 dX6_put_27
  · have hE := (if_pos c2).symm.trans hE
    refine lv_sipush (v := (-1001)) hx hb dX6_put_7 (by decide) ?_
    subst hE
    exact W.iret (v := (-1001 : Int32)) hx hb hr (fun t ht _ => mw_post hH ht) hH.2.1.2.2 dX6_put_10
theorem hsX6_codesIn : yX6_codesIn.cls ≠ "java/lang/invoke/MethodHandle" ∧ yX6_codesIn.cls ≠ "java/lang/invoke/VarHandle" ∧ (parseMethodDescriptor yX6_codesIn.desc).map (fun d => d.parameters.length) = some 1 := by decide +kernel
set_option maxRecDepth 20000 in
theorem lkX6_write_0 : Cond.fieldLink RX6 22 "TideWords" "pad" "LTideWords$Pad;" ∈ wsX6_write := by decide +kernel
set_option maxRecDepth 20000 in
theorem iwX6_write_X6 : ∀ w ∈ wsX60, w ∈ wsX6_write := by decide +kernel
set_option maxRecDepth 20000 in
theorem lkX6_write_1 : Cond.fieldLink RX6 132 "TideWords$Pad" "length" "I" ∈ wsX6_write := by decide +kernel
set_option maxRecDepth 20000 in
theorem iwX6_write_X2 : ∀ w ∈ wsX20, w ∈ wsX6_write := by decide +kernel
theorem hsX6_codeAt : yX6_codeAt.cls ≠ "java/lang/invoke/MethodHandle" ∧ yX6_codeAt.cls ≠ "java/lang/invoke/VarHandle" ∧ (parseMethodDescriptor yX6_codeAt.desc).map (fun d => d.parameters.length) = some 2 := by decide +kernel
theorem hvX2_append : yX2_append.cls = RX2 ∧ yX2_append.cls ≠ "java/lang/invoke/MethodHandle" ∧ yX2_append.cls ≠ "java/lang/invoke/VarHandle" ∧ (parseMethodDescriptor yX2_append.desc).map (fun d => d.parameters.length) = some 1 := by decide +kernel
def lbX6_write_39 (a1 : Int64) (s4 : Int32 × Mem) : Option ((Int32 × Mem) ⊕ (Int32 × Mem)) := if s4.1 < 0 then some (.inr (s4.1, s4.2)) else lt (fX6_codeAt a1 s4.1) (fun r6 => lt (fX2_append (gv s4.2 85) r6) (fun U7 => lt (pv s4.2 85 3 U7) (fun V8 => some (.inl (s4.1 + (-1), V8)))))
def qX6_write (V : Mem) (a1 : Int64) : Option (Int32 × Mem) := lt (fX6_codesIn a1) (fun r1 => if r1 = (-1002 : Int32) then some (((-1002 : Int32), V)) else if (V 85 0) + r1 ≤ (60 : Int32) then (it (lbX6_write_39 a1) fuel (r1 - ((1 : Int32)), V)).bind (fun s9 => some ((s9.2 85 0, s9.2))) else some (((-1004 : Int32), V)))
abbrev rmX6_write : Room := { frames := 2, cells := 0, slots := 0, locals := 47 }
set_option maxHeartbeats 4000000 in
set_option maxRecDepth 100000 in
theorem mX6_write (l : Launch) (X : kX) (b : Nat) (V : Mem) (a1 : Int64) (out : Int32 × Mem) (hE : qX6_write V a1 = some out) : MW l yX6_write wsX6_write rmX6_write X [.ref b, .long a1] (RP X LA b V) (some (.int out.1)) b (b + LA.length) (RP X LA b out.2) := by
  refine mt_head (cc := cX6_write) (maxL := 5) (ret := (some .int)) (own := RX6) (by decide) rfl rfl (Nat.le_of_ble_eq_true rfl) ?_
  intro p e s m below meth c ls F hr hlocks hnm hR hl
  have hx := F.1.1
  have hb := F.1.2.1
  have hH : Hp (t_fr b (b + LA.length)) s.heap s.heap.size X LA b V s.heap [] := ⟨hR, va_S.rf, rfl⟩
  have hl : lv_has ls 5 [(0, .ref b), (1, .long a1)] := hl
  unfold qX6_write at hE
  refine lv_lload_n hx hb dX6_write_0 rfl (lv_at hl 1 rfl) ?_
  obtain ⟨r1, er1, hE⟩ := lt_el hE
  refine rg_callRS (As := [.long a1]) (rest := []) F (kX6_codesIn l X a1 r1 er1) (va_cwS 1 F.1.2.2.2.2 gX6_write_X6_codesIn rfl rfl rfl hsX6_codesIn ⟨Nat.le_of_ble_eq_true rfl, Nat.le_of_ble_eq_true rfl⟩)  trivial rfl hl.1 (Nat.le_of_ble_eq_true rfl) dX6_write_1 ⟨Nat.zero_le _, Nat.zero_le _⟩ rfl ?_
  refine lv_istore_n (lv' := [(3, .int r1), (0, .ref b), (1, .long a1)]) hx hb dX6_write_4 rfl hl (by decide) rfl (fun ls hl => ?_)
  refine lv_iload_n hx hb dX6_write_5 rfl (lv_at hl 0 rfl) ?_
  refine lv_sipush (v := (-1002)) hx hb dX6_write_6 (by decide) ?_
  refine lv_icmp_ne (tgt := 16) hx hb dX6_write_9 (by decide) (fun c2 => ?_) (fun c2 => ?_)
  · have hE := (if_neg c2).symm.trans hE
    refine lv_aload_n hx hb dX6_write_16 rfl (lv_at hl 1 rfl) ?_
    refine rg_getr F hH.1 0 (ci := 6) rfl (C := RX6) (T := TX6) (N := 9) rfl iwX6_write_X6 2 (d := 85) (n := 85) rfl rfl (by decide) rfl lkX6_write_0 rfl dX6_write_17 ?_
    refine rg_geti F hH.1 85 (ci := 2) rfl (C := RX2) (T := TX2) (N := 2) rfl iwX6_write_X2 1 (i := 0) rfl (by decide) rfl lkX6_write_1 rfl dX6_write_20 ?_
    refine lv_iload_n hx hb dX6_write_23 rfl (lv_at hl 0 rfl) ?_
    refine lv_iadd hx hb dX6_write_24 ?_
    refine lv_bipush (v := 60) hx hb dX6_write_25 (by decide) ?_
    refine lv_icmp_le (tgt := 34) hx hb dX6_write_27 (by decide) (fun c3 => ?_) (fun c3 => ?_)
    · have hE := (if_pos c3).symm.trans hE
      refine lv_iload_n hx hb dX6_write_34 rfl (lv_at hl 0 rfl) ?_
      refine lv_iconst (v := 1) hx hb dX6_write_35 (by decide) ?_
      refine lv_isub hx hb dX6_write_36 ?_
      refine lv_istore (lv' := [(4, .int (r1 - ((1 : Int32)))), (3, .int r1), (0, .ref b), (1, .long a1)]) hx hb dX6_write_37 hl (by decide) rfl (fun ls hl => ?_)
      obtain ⟨x10, hx10, hE⟩ := bd_el hE
      refine it_walk2 (body := lbX6_write_39 a1) (Wh := fun s4 => ∀ (H : Heap) (locs : List Loc) (ls : Array Slot), Hp (t_fr b (b + LA.length)) s.heap s.heap.size X LA b s4.2 H locs → lv_has ls 5 [(4, .int s4.1), (3, .int r1), (0, .ref b), (1, .long a1)] → W p l e rmX6_write s m ([.ref b, .long a1] : List Value).toArray below meth c H locs 0 0 (MQ below (cQw (some (.int out.1)) b (b + LA.length) (RP X LA b out.2)) ([.ref b, .long a1] : List Value).toArray s 0 0 (t_fr b (b + LA.length))) (F0 m 39 ls [])) (We := fun s9 => ∀ (H : Heap) (locs : List Loc) (ls : Array Slot), Hp (t_fr b (b + LA.length)) s.heap s.heap.size X LA b s9.2 H locs → lv_has ls 5 [(4, .int s9.1), (3, .int r1), (0, .ref b), (1, .long a1)] → W p l e rmX6_write s m ([.ref b, .long a1] : List Value).toArray below meth c H locs 0 0 (MQ below (cQw (some (.int out.1)) b (b + LA.length) (RP X LA b out.2)) ([.ref b, .long a1] : List Value).toArray s 0 0 (t_fr b (b + LA.length))) (F0 m 63 ls [])) ?_ _ _ _ hx10 ?_ s.heap [] ls hH (lv_sub hl [0, 1, 2, 3] rfl)
      · intro s4 r9 hE hL9 hR9 H locs ls hH hl
        unfold lbX6_write_39 at hE
        refine lv_iload hx hb dX6_write_39 (lv_at hl 0 rfl) ?_
        refine lv_if_lt (tgt := 63) hx hb dX6_write_41 (by decide) (fun c5 => ?_) (fun c5 => ?_)
        · have hE := (if_pos c5).symm.trans hE
          cases hE
          exact hR9 _ rfl H locs ls hH (lv_sub hl [0, 1, 2, 3] rfl)
        · have hE := (if_neg c5).symm.trans hE
          refine lv_aload_n hx hb dX6_write_44 rfl (lv_at hl 2 rfl) ?_
          refine rg_getr F hH.1 0 (ci := 6) rfl (C := RX6) (T := TX6) (N := 9) rfl iwX6_write_X6 2 (d := 85) (n := 85) rfl rfl (by decide) rfl lkX6_write_0 rfl dX6_write_45 ?_
          refine lv_lload_n hx hb dX6_write_48 rfl (lv_at hl 3 rfl) ?_
          refine lv_iload hx hb dX6_write_49 (lv_at hl 0 rfl) ?_
          obtain ⟨r6, er6, hE⟩ := lt_el hE
          refine rg_callRS (As := [.long a1, .int s4.1]) (rest := [.ref (b + 85)]) F (mX6_codeAt l X a1 s4.1 r6 er6) (va_cwS 2 F.1.2.2.2.2 gX6_write_X6_codeAt rfl rfl rfl hsX6_codeAt ⟨Nat.le_of_ble_eq_true rfl, Nat.le_of_ble_eq_true rfl⟩)  trivial rfl hl.1 (Nat.le_of_ble_eq_true rfl) dX6_write_51 ⟨Nat.zero_le _, Nat.zero_le _⟩ rfl ?_
          obtain ⟨U7, eU7, hE⟩ := lt_el hE
          obtain ⟨V8, eV8, hE⟩ := lt_el hE
          refine rg_callWV (As := [.int r6]) (rest := []) F hH (fun q h1 h2 => ⟨h1, h2⟩) 85 sb_LA_85_LPd (mX2_append l X (b + 85) (gv s4.2 85) r6 U7 eU7) (cwV 1 F.1.2.2.2.2 gX6_write_X2_append rfl rfl rfl hvX2_append ⟨Nat.le_of_ble_eq_true rfl, Nat.le_of_ble_eq_true rfl⟩) (rp_recv F hH.1 85 rfl (C := RX2) (T := TX2) (N := 2) rfl rfl) (hH.1.sub 85 sb_LA_85_LPd) rfl hl.1 (Nat.le_of_ble_eq_true rfl) dX6_write_54 ⟨Nat.zero_le _, Nat.zero_le _⟩ rfl eV8 (fun H locs hH hfr => ?_)
          refine lv_iinc (v := s4.1 + (-1)) (lv' := [(4, .int (s4.1 + (-1))), (3, .int r1), (0, .ref b), (1, .long a1)]) hx hb dX6_write_57 hl (k := 0) rfl (congrArg (fun q => s4.1 + q) (by decide)) (by decide) rfl (fun ls hl => ?_)
          refine lv_goto (tgt := 39) hx hb dX6_write_60 (by decide) ?_
          cases hE
          exact hL9 _ rfl H locs ls hH (lv_sub hl [0, 1, 2, 3] rfl)
      · intro H locs ls hH hl
        refine lv_aload_n hx hb dX6_write_63 rfl (lv_at hl 2 rfl) ?_
        refine rg_getr F hH.1 0 (ci := 6) rfl (C := RX6) (T := TX6) (N := 9) rfl iwX6_write_X6 2 (d := 85) (n := 85) rfl rfl (by decide) rfl lkX6_write_0 rfl dX6_write_64 ?_
        refine rg_geti F hH.1 85 (ci := 2) rfl (C := RX2) (T := TX2) (N := 2) rfl iwX6_write_X2 1 (i := 0) rfl (by decide) rfl lkX6_write_1 rfl dX6_write_67 ?_
        have hE := Option.some.inj hE
        subst hE
        exact W.iret (v := x10.2 85 0) hx hb hr (fun t ht _ => mw_post hH ht) hH.2.1.2.2 dX6_write_70
    · have hE := (if_neg c3).symm.trans hE
      refine lv_sipush (v := (-1004)) hx hb dX6_write_30 (by decide) ?_
      have hE := Option.some.inj hE
      subst hE
      exact W.iret (v := (-1004 : Int32)) hx hb hr (fun t ht _ => mw_post hH ht) hH.2.1.2.2 dX6_write_33
  · have hE := (if_pos c2).symm.trans hE
    refine lv_sipush (v := (-1002)) hx hb dX6_write_12 (by decide) ?_
    have hE := Option.some.inj hE
    subst hE
    exact W.iret (v := (-1002 : Int32)) hx hb hr (fun t ht _ => mw_post hH ht) hH.2.1.2.2 dX6_write_15
set_option maxRecDepth 20000 in
theorem lkX6_wipe_0 : Cond.fieldLink RX6 22 "TideWords" "pad" "LTideWords$Pad;" ∈ wsX6_wipe := by decide +kernel
set_option maxRecDepth 20000 in
theorem iwX6_wipe_X6 : ∀ w ∈ wsX60, w ∈ wsX6_wipe := by decide +kernel
set_option maxRecDepth 20000 in
theorem lkX6_wipe_1 : Cond.fieldLink RX6 132 "TideWords$Pad" "length" "I" ∈ wsX6_wipe := by decide +kernel
set_option maxRecDepth 20000 in
theorem iwX6_wipe_X2 : ∀ w ∈ wsX20, w ∈ wsX6_wipe := by decide +kernel
def fX6_wipe (V : Mem) : Int32 × Mem := lt (sv V 85 0 ((0 : Int32))) (fun V1 => (V 85 0, V1))
abbrev rmX6_wipe : Room := { frames := 0, cells := 0, slots := 0, locals := 0 }
set_option maxHeartbeats 4000000 in
set_option maxRecDepth 100000 in
theorem mX6_wipe (l : Launch) (X : kX) (b : Nat) (V : Mem) (out : Int32 × Mem) (hE : fX6_wipe V = out) : MW l yX6_wipe wsX6_wipe rmX6_wipe X [.ref b] (RP X LA b V) (some (.int out.1)) b (b + LA.length) (RP X LA b out.2) := by
  refine mt_head (cc := cX6_wipe) (maxL := 2) (ret := (some .int)) (own := RX6) (by decide) rfl rfl (Nat.le_of_ble_eq_true rfl) ?_
  intro p e s m below meth c ls F hr hlocks hnm hR hl
  have hx := F.1.1
  have hb := F.1.2.1
  have hH : Hp (t_fr b (b + LA.length)) s.heap s.heap.size X LA b V s.heap [] := ⟨hR, va_S.rf, rfl⟩
  have hl : lv_has ls 2 [(0, .ref b)] := hl
  unfold fX6_wipe at hE
  refine lv_aload_n hx hb dX6_wipe_0 rfl (lv_at hl 0 rfl) ?_
  refine rg_getr F hH.1 0 (ci := 6) rfl (C := RX6) (T := TX6) (N := 9) rfl iwX6_wipe_X6 2 (d := 85) (n := 85) rfl rfl (by decide) rfl lkX6_wipe_0 rfl dX6_wipe_1 ?_
  refine rg_geti F hH.1 85 (ci := 2) rfl (C := RX2) (T := TX2) (N := 2) rfl iwX6_wipe_X2 1 (i := 0) rfl (by decide) rfl lkX6_wipe_1 rfl dX6_wipe_4 ?_
  refine lv_istore_n (lv' := [(1, .int (V 85 0)), (0, .ref b)]) hx hb dX6_wipe_7 rfl hl (by decide) rfl (fun ls hl => ?_)
  refine lv_aload_n hx hb dX6_wipe_8 rfl (lv_at hl 1 rfl) ?_
  refine rg_getr F hH.1 0 (ci := 6) rfl (C := RX6) (T := TX6) (N := 9) rfl iwX6_wipe_X6 2 (d := 85) (n := 85) rfl rfl (by decide) rfl lkX6_wipe_0 rfl dX6_wipe_9 ?_
  refine lv_iconst (v := 0) hx hb dX6_wipe_12 (by decide) ?_
  obtain ⟨V1, eV1, hE⟩ := lt_el hE
  refine rg_put F hH (fun q h1 h2 => ⟨h1, h2⟩) 85 (ci := 2) rfl (C := RX2) (T := TX2) (N := 2) rfl iwX6_wipe_X2 tyX2 tyX2_ok nmX2 1 (i := 0) rfl (by decide) (by decide) rfl rfl (by decide +kernel) lkX6_wipe_1 rfl dX6_wipe_13 (fun H locs hH hfr => ?_)
  replace hH := hp_cast eV1 hH
  refine lv_iload_n hx hb dX6_wipe_16 rfl (lv_at hl 0 rfl) ?_
  subst hE
  exact W.iret (v := V 85 0) hx hb hr (fun t ht _ => mw_post hH ht) hH.2.1.2.2 dX6_wipe_17
set_option maxRecDepth 20000 in
theorem lkX6_undo_0 : Cond.fieldLink RX6 219 "TideWords" "records" "I" ∈ wsX6_undo := by decide +kernel
set_option maxRecDepth 20000 in
theorem iwX6_undo_X6 : ∀ w ∈ wsX60, w ∈ wsX6_undo := by decide +kernel
set_option maxRecDepth 20000 in
theorem lkX6_undo_1 : Cond.fieldLink RX6 259 "TideWords" "nextRecord" "I" ∈ wsX6_undo := by decide +kernel
set_option maxRecDepth 20000 in
theorem lkX6_undo_2 : Cond.fieldLink RX6 10 "TideWords" "now" "LTideWords$World;" ∈ wsX6_undo := by decide +kernel
set_option maxRecDepth 20000 in
theorem lkX6_undo_3 : Cond.fieldLink RX6 26 "TideWords" "history" "[LTideWords$World;" ∈ wsX6_undo := by decide +kernel
def qX6_undo (V : Mem) : Option (Int32 × Mem) := if V 0 1 = 0 then some (((-1005 : Int32), V)) else if V 0 0 = 0 then lt (sv V 0 0 ((5 : Int32))) (fun V7 => lt (sv V7 0 1 ((V7 0 1) - ((1 : Int32)))) (fun V8 => if V8 0 0 < 0 ∨ 6 ≤ (V8 0 0).toNatClampNeg then none else lt (pv V8 1 42 (gv V8 (88 + (1 + 42 * (V8 0 0).toNatClampNeg)))) (fun V10 => some ((V10 0 1, V10))))) else lt (sv V 0 0 ((V 0 0) - ((1 : Int32)))) (fun V3 => lt (sv V3 0 1 ((V3 0 1) - ((1 : Int32)))) (fun V4 => if V4 0 0 < 0 ∨ 6 ≤ (V4 0 0).toNatClampNeg then none else lt (pv V4 1 42 (gv V4 (88 + (1 + 42 * (V4 0 0).toNatClampNeg)))) (fun V6 => some ((V6 0 1, V6)))))
abbrev rmX6_undo : Room := { frames := 4, cells := 0, slots := 0, locals := 123 }
set_option maxHeartbeats 4000000 in
set_option maxRecDepth 100000 in
theorem mX6_undo (l : Launch) (X : kX) (b : Nat) (V : Mem) (out : Int32 × Mem) (hE : qX6_undo V = some out) : MW l yX6_undo wsX6_undo rmX6_undo X [.ref b] (RP X LA b V) (some (.int out.1)) b (b + LA.length) (RP X LA b out.2) := by
  refine mt_head (cc := cX6_undo) (maxL := 1) (ret := (some .int)) (own := RX6) (by decide) rfl rfl (Nat.le_of_ble_eq_true rfl) ?_
  intro p e s m below meth c ls F hr hlocks hnm hR hl
  have hx := F.1.1
  have hb := F.1.2.1
  have hH : Hp (t_fr b (b + LA.length)) s.heap s.heap.size X LA b V s.heap [] := ⟨hR, va_S.rf, rfl⟩
  have hl : lv_has ls 1 [(0, .ref b)] := hl
  unfold qX6_undo at hE
  refine lv_aload_n hx hb dX6_undo_0 rfl (lv_at hl 0 rfl) ?_
  refine rg_geti F hH.1 0 (ci := 6) rfl (C := RX6) (T := TX6) (N := 9) rfl iwX6_undo_X6 8 (i := 1) rfl (by decide) rfl lkX6_undo_0 rfl dX6_undo_1 ?_
  refine lv_if_ne (tgt := 11) hx hb dX6_undo_4 (by decide) (fun c1 => ?_) (fun c1 => ?_)
  · have hE := (if_neg c1).symm.trans hE
    refine lv_aload_n hx hb dX6_undo_11 rfl (lv_at hl 0 rfl) ?_
    refine lv_aload_n hx hb dX6_undo_12 rfl (lv_at hl 0 rfl) ?_
    refine rg_geti F hH.1 0 (ci := 6) rfl (C := RX6) (T := TX6) (N := 9) rfl iwX6_undo_X6 7 (i := 0) rfl (by decide) rfl lkX6_undo_1 rfl dX6_undo_13 ?_
    refine lv_if_ne (tgt := 23) hx hb dX6_undo_16 (by decide) (fun c2 => ?_) (fun c2 => ?_)
    · have hE := (if_neg c2).symm.trans hE
      refine lv_aload_n hx hb dX6_undo_23 rfl (lv_at hl 0 rfl) ?_
      refine rg_geti F hH.1 0 (ci := 6) rfl (C := RX6) (T := TX6) (N := 9) rfl iwX6_undo_X6 7 (i := 0) rfl (by decide) rfl lkX6_undo_1 rfl dX6_undo_24 ?_
      refine lv_iconst (v := 1) hx hb dX6_undo_27 (by decide) ?_
      refine lv_isub hx hb dX6_undo_28 ?_
      obtain ⟨V3, eV3, hE⟩ := lt_el hE
      refine rg_put F hH (fun q h1 h2 => ⟨h1, h2⟩) 0 (ci := 6) rfl (C := RX6) (T := TX6) (N := 9) rfl iwX6_undo_X6 tyX6 tyX6_ok nmX6 7 (i := 0) rfl (by decide) (by decide) rfl rfl (by decide +kernel) lkX6_undo_1 rfl dX6_undo_29 (fun H locs hH hfr => ?_)
      replace hH := hp_cast eV3 hH
      refine lv_aload_n hx hb dX6_undo_32 rfl (lv_at hl 0 rfl) ?_
      refine lv_dup hx hb dX6_undo_33 rfl ?_
      refine rg_geti F hH.1 0 (ci := 6) rfl (C := RX6) (T := TX6) (N := 9) rfl iwX6_undo_X6 8 (i := 1) rfl (by decide) rfl lkX6_undo_0 rfl dX6_undo_34 ?_
      refine lv_iconst (v := 1) hx hb dX6_undo_37 (by decide) ?_
      refine lv_isub hx hb dX6_undo_38 ?_
      obtain ⟨V4, eV4, hE⟩ := lt_el hE
      refine rg_put F hH (fun q h1 h2 => ⟨h1, h2⟩) 0 (ci := 6) rfl (C := RX6) (T := TX6) (N := 9) rfl iwX6_undo_X6 tyX6 tyX6_ok nmX6 8 (i := 1) rfl (by decide) (by decide) rfl rfl (by decide +kernel) lkX6_undo_0 rfl dX6_undo_39 (fun H locs hH hfr => ?_)
      replace hH := hp_cast eV4 hH
      refine lv_aload_n hx hb dX6_undo_42 rfl (lv_at hl 0 rfl) ?_
      refine rg_getr F hH.1 0 (ci := 6) rfl (C := RX6) (T := TX6) (N := 9) rfl iwX6_undo_X6 0 (d := 1) (n := 1) rfl rfl (by decide) rfl lkX6_undo_2 rfl dX6_undo_43 ?_
      refine lv_aload_n hx hb dX6_undo_46 rfl (lv_at hl 0 rfl) ?_
      refine rg_getr F hH.1 0 (ci := 6) rfl (C := RX6) (T := TX6) (N := 9) rfl iwX6_undo_X6 3 (d := 88) (n := 88) rfl rfl (by decide) rfl lkX6_undo_3 rfl dX6_undo_47 ?_
      refine lv_aload_n hx hb dX6_undo_50 rfl (lv_at hl 0 rfl) ?_
      refine rg_geti F hH.1 0 (ci := 6) rfl (C := RX6) (T := TX6) (N := 9) rfl iwX6_undo_X6 7 (i := 0) rfl (by decide) rfl lkX6_undo_1 rfl dX6_undo_51 ?_
      obtain ⟨g5, hE⟩ := gd_el hE
      have hM9 := mX6_worldIn l X D6 (by decide) (b + 88) (gv V4 88) (V4 0 0)
      rw [wAns_in88 g5] at hM9
      refine rg_callRS (As := [.ref (b + 88), .int (V4 0 0)]) (rest := [.ref (b + 1)]) F hM9 (va_cwS 2 F.1.2.2.2.2 gX6_undo_X6_worldIn rfl rfl rfl hsX6_worldIn ⟨Nat.le_of_ble_eq_true rfl, Nat.le_of_ble_eq_true rfl⟩) (hH.1.sub 88 sbq88) rfl hl.1 (Nat.le_of_ble_eq_true rfl) dX6_undo_54 ⟨Nat.zero_le _, Nat.zero_le _⟩ rfl ?_
      obtain ⟨V6, eV6, hE⟩ := lt_el hE
      refine rg_callWV (As := [.ref (b + (88 + (1 + 42 * (V4 0 0).toNatClampNeg)))]) (rest := []) (P := fun H => RP X LW (b + 1) (gv V4 1) H ∧ RP X LW (b + (88 + (1 + 42 * (V4 0 0).toNatClampNeg))) (gv V4 (88 + (1 + 42 * (V4 0 0).toNatClampNeg))) H) F hH (fun q h1 h2 => ⟨h1, h2⟩) 1 sb_LA_1_LW (mX5_copyFrom l X (b + 1) (b + (88 + (1 + 42 * (V4 0 0).toNatClampNeg))) (gv V4 1) (gv V4 (88 + (1 + 42 * (V4 0 0).toNatClampNeg))) (by omega)) (cwV 1 F.1.2.2.2.2 gX6_undo_X5_copyFrom rfl rfl rfl hvX5_copyFrom ⟨Nat.le_of_ble_eq_true rfl, Nat.le_of_ble_eq_true rfl⟩) (rp_recv F hH.1 1 rfl (C := RX5) (T := TX5) (N := 6) rfl rfl) ⟨hH.1.sub 1 sb_LA_1_LW, hH.1.sub (88 + (1 + 42 * (V4 0 0).toNatClampNeg)) (sbw88 g5)⟩ rfl hl.1 (Nat.le_of_ble_eq_true rfl) dX6_undo_57 ⟨Nat.zero_le _, Nat.zero_le _⟩ rfl eV6 (fun H locs hH hfr => ?_)
      refine lv_aload_n hx hb dX6_undo_60 rfl (lv_at hl 0 rfl) ?_
      refine rg_geti F hH.1 0 (ci := 6) rfl (C := RX6) (T := TX6) (N := 9) rfl iwX6_undo_X6 8 (i := 1) rfl (by decide) rfl lkX6_undo_0 rfl dX6_undo_61 ?_
      have hE := Option.some.inj hE
      subst hE
      exact W.iret (v := V6 0 1) hx hb hr (fun t ht _ => mw_post hH ht) hH.2.1.2.2 dX6_undo_64
    · have hE := (if_pos c2).symm.trans hE
      refine lv_iconst (v := 5) hx hb dX6_undo_19 (by decide) ?_
      refine lv_goto (tgt := 29) hx hb dX6_undo_20 (by decide) ?_
      obtain ⟨V7, eV7, hE⟩ := lt_el hE
      refine rg_put F hH (fun q h1 h2 => ⟨h1, h2⟩) 0 (ci := 6) rfl (C := RX6) (T := TX6) (N := 9) rfl iwX6_undo_X6 tyX6 tyX6_ok nmX6 7 (i := 0) rfl (by decide) (by decide) rfl rfl (by decide +kernel) lkX6_undo_1 rfl dX6_undo_29 (fun H locs hH hfr => ?_)
      replace hH := hp_cast eV7 hH
      refine lv_aload_n hx hb dX6_undo_32 rfl (lv_at hl 0 rfl) ?_
      refine lv_dup hx hb dX6_undo_33 rfl ?_
      refine rg_geti F hH.1 0 (ci := 6) rfl (C := RX6) (T := TX6) (N := 9) rfl iwX6_undo_X6 8 (i := 1) rfl (by decide) rfl lkX6_undo_0 rfl dX6_undo_34 ?_
      refine lv_iconst (v := 1) hx hb dX6_undo_37 (by decide) ?_
      refine lv_isub hx hb dX6_undo_38 ?_
      obtain ⟨V8, eV8, hE⟩ := lt_el hE
      refine rg_put F hH (fun q h1 h2 => ⟨h1, h2⟩) 0 (ci := 6) rfl (C := RX6) (T := TX6) (N := 9) rfl iwX6_undo_X6 tyX6 tyX6_ok nmX6 8 (i := 1) rfl (by decide) (by decide) rfl rfl (by decide +kernel) lkX6_undo_0 rfl dX6_undo_39 (fun H locs hH hfr => ?_)
      replace hH := hp_cast eV8 hH
      refine lv_aload_n hx hb dX6_undo_42 rfl (lv_at hl 0 rfl) ?_
      refine rg_getr F hH.1 0 (ci := 6) rfl (C := RX6) (T := TX6) (N := 9) rfl iwX6_undo_X6 0 (d := 1) (n := 1) rfl rfl (by decide) rfl lkX6_undo_2 rfl dX6_undo_43 ?_
      refine lv_aload_n hx hb dX6_undo_46 rfl (lv_at hl 0 rfl) ?_
      refine rg_getr F hH.1 0 (ci := 6) rfl (C := RX6) (T := TX6) (N := 9) rfl iwX6_undo_X6 3 (d := 88) (n := 88) rfl rfl (by decide) rfl lkX6_undo_3 rfl dX6_undo_47 ?_
      refine lv_aload_n hx hb dX6_undo_50 rfl (lv_at hl 0 rfl) ?_
      refine rg_geti F hH.1 0 (ci := 6) rfl (C := RX6) (T := TX6) (N := 9) rfl iwX6_undo_X6 7 (i := 0) rfl (by decide) rfl lkX6_undo_1 rfl dX6_undo_51 ?_
      obtain ⟨g9, hE⟩ := gd_el hE
      have hM9 := mX6_worldIn l X D6 (by decide) (b + 88) (gv V8 88) (V8 0 0)
      rw [wAns_in88 g9] at hM9
      refine rg_callRS (As := [.ref (b + 88), .int (V8 0 0)]) (rest := [.ref (b + 1)]) F hM9 (va_cwS 2 F.1.2.2.2.2 gX6_undo_X6_worldIn rfl rfl rfl hsX6_worldIn ⟨Nat.le_of_ble_eq_true rfl, Nat.le_of_ble_eq_true rfl⟩) (hH.1.sub 88 sbq88) rfl hl.1 (Nat.le_of_ble_eq_true rfl) dX6_undo_54 ⟨Nat.zero_le _, Nat.zero_le _⟩ rfl ?_
      obtain ⟨V10, eV10, hE⟩ := lt_el hE
      refine rg_callWV (As := [.ref (b + (88 + (1 + 42 * (V8 0 0).toNatClampNeg)))]) (rest := []) (P := fun H => RP X LW (b + 1) (gv V8 1) H ∧ RP X LW (b + (88 + (1 + 42 * (V8 0 0).toNatClampNeg))) (gv V8 (88 + (1 + 42 * (V8 0 0).toNatClampNeg))) H) F hH (fun q h1 h2 => ⟨h1, h2⟩) 1 sb_LA_1_LW (mX5_copyFrom l X (b + 1) (b + (88 + (1 + 42 * (V8 0 0).toNatClampNeg))) (gv V8 1) (gv V8 (88 + (1 + 42 * (V8 0 0).toNatClampNeg))) (by omega)) (cwV 1 F.1.2.2.2.2 gX6_undo_X5_copyFrom rfl rfl rfl hvX5_copyFrom ⟨Nat.le_of_ble_eq_true rfl, Nat.le_of_ble_eq_true rfl⟩) (rp_recv F hH.1 1 rfl (C := RX5) (T := TX5) (N := 6) rfl rfl) ⟨hH.1.sub 1 sb_LA_1_LW, hH.1.sub (88 + (1 + 42 * (V8 0 0).toNatClampNeg)) (sbw88 g9)⟩ rfl hl.1 (Nat.le_of_ble_eq_true rfl) dX6_undo_57 ⟨Nat.zero_le _, Nat.zero_le _⟩ rfl eV10 (fun H locs hH hfr => ?_)
      refine lv_aload_n hx hb dX6_undo_60 rfl (lv_at hl 0 rfl) ?_
      refine rg_geti F hH.1 0 (ci := 6) rfl (C := RX6) (T := TX6) (N := 9) rfl iwX6_undo_X6 8 (i := 1) rfl (by decide) rfl lkX6_undo_0 rfl dX6_undo_61 ?_
      have hE := Option.some.inj hE
      subst hE
      exact W.iret (v := V10 0 1) hx hb hr (fun t ht _ => mw_post hH ht) hH.2.1.2.2 dX6_undo_64
  · have hE := (if_pos c1).symm.trans hE
    refine lv_sipush (v := (-1005)) hx hb dX6_undo_7 (by decide) ?_
    have hE := Option.some.inj hE
    subst hE
    exact W.iret (v := (-1005 : Int32)) hx hb hr (fun t ht _ => mw_post hH ht) hH.2.1.2.2 dX6_undo_10
