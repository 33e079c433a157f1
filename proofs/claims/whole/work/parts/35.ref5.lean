theorem hvX7_record : yX7_record.cls = RX7 ∧ yX7_record.cls ≠ "java/lang/invoke/MethodHandle" ∧ yX7_record.cls ≠ "java/lang/invoke/VarHandle" ∧ (parseMethodDescriptor yX7_record.desc).map (fun d => d.parameters.length) = some 0 := by decide +kernel
set_option maxRecDepth 20000 in
theorem lkX7_lays_0 : Cond.fieldLink RX7 7 "TideWordsModel" "s" "[I" ∈ wsX7_lays := by decide +kernel
set_option maxRecDepth 20000 in
theorem iwX7_lays_X7 : ∀ w ∈ wsX70, w ∈ wsX7_lays := by decide +kernel
def qX7_lays (V : Mem) (a1 : Int32) (a2 : Int32) : Option (Int32 × Mem) := (qX7_record V ).bind (fun U1 => if a1 < 0 ∨ 131 ≤ a1.toNatClampNeg then none else lt (sv U1 1 a1.toNatClampNeg a2) (fun V3 => some ((U1 1 a1.toNatClampNeg, V3))))
abbrev rmX7_lays : Room := { frames := 1, cells := 0, slots := 0, locals := 21 }
set_option maxHeartbeats 4000000 in
set_option maxRecDepth 100000 in
theorem mX7_lays (l : Launch) (X : kX) (b : Nat) (V : Mem) (a1 : Int32) (a2 : Int32) (out : Int32 × Mem) (hE : qX7_lays V a1 a2 = some out) : MW l yX7_lays wsX7_lays rmX7_lays X [.ref b, .int a1, .int a2] (RP X LM b V) (some (.int out.1)) b (b + LM.length) (RP X LM b out.2) := by
  refine mt_head (cc := cX7_lays) (maxL := 4) (ret := (some .int)) (own := RX7) (by decide) rfl rfl (Nat.le_of_ble_eq_true rfl) ?_
  intro p e s m below meth c ls F hr hlocks hnm hR hl
  have hx := F.1.1
  have hb := F.1.2.1
  have hH : Hp (t_fr b (b + LM.length)) s.heap s.heap.size X LM b V s.heap [] := ⟨hR, va_S.rf, rfl⟩
  have hl : lv_has ls 4 [(0, .ref b), (1, .int a1), (2, .int a2)] := hl
  unfold qX7_lays at hE
  refine lv_aload_n hx hb dX7_lays_0 rfl (lv_at hl 0 rfl) ?_
  obtain ⟨U1, eU1, hE⟩ := bd_el hE
  refine rg_callWS (As := []) (rest := []) F hH (fun q h1 h2 => ⟨h1, h2⟩) (mX7_record l X b V  U1 eU1) (cwV 0 F.1.2.2.2.2 gX7_lays_X7_record rfl rfl rfl hvX7_record ⟨Nat.le_of_ble_eq_true rfl, Nat.le_of_ble_eq_true rfl⟩) (rp_recv F hH.1 0 rfl (C := RX7) (T := TX7) (N := 8) rfl rfl) hH.1 rfl hl.1 (Nat.le_of_ble_eq_true rfl) dX7_lays_1 ⟨Nat.zero_le _, Nat.zero_le _⟩ rfl (fun H locs hH => ?_)
  refine lv_aload_n hx hb dX7_lays_4 rfl (lv_at hl 0 rfl) ?_
  refine rg_getr F hH.1 0 (ci := 7) rfl (C := RX7) (T := TX7) (N := 8) rfl iwX7_lays_X7 0 (d := 1) (n := 1) rfl rfl (by decide) rfl lkX7_lays_0 rfl dX7_lays_5 ?_
  refine lv_iload_n hx hb dX7_lays_8 rfl (lv_at hl 1 rfl) ?_
  obtain ⟨g2, hE⟩ := gd_el hE
  refine rg_iald F hH.1 1 (n := 131) rfl g2 rfl dX7_lays_9 ?_
  refine lv_istore_n (lv' := [(3, .int (U1 1 a1.toNatClampNeg)), (0, .ref b), (1, .int a1), (2, .int a2)]) hx hb dX7_lays_10 rfl hl (by decide) rfl (fun ls hl => ?_)
  refine lv_aload_n hx hb dX7_lays_11 rfl (lv_at hl 1 rfl) ?_
  refine rg_getr F hH.1 0 (ci := 7) rfl (C := RX7) (T := TX7) (N := 8) rfl iwX7_lays_X7 0 (d := 1) (n := 1) rfl rfl (by decide) rfl lkX7_lays_0 rfl dX7_lays_12 ?_
  refine lv_iload_n hx hb dX7_lays_15 rfl (lv_at hl 2 rfl) ?_
  refine lv_iload_n hx hb dX7_lays_16 rfl (lv_at hl 3 rfl) ?_
  obtain ⟨V3, eV3, hE⟩ := lt_el hE
  refine rg_iast F hH (fun q h1 h2 => ⟨h1, h2⟩) 1 (n := 131) rfl g2 rfl dX7_lays_17 (fun H locs hH => ?_)
  replace hH := hp_cast eV3 hH
  refine lv_iload_n hx hb dX7_lays_18 rfl (lv_at hl 0 rfl) ?_
  have hE := Option.some.inj hE
  subst hE
  exact W.iret (v := U1 1 a1.toNatClampNeg) hx hb hr (fun t ht _ => mw_post hH ht) hH.2.1.2.2 dX7_lays_19
set_option maxRecDepth 20000 in
theorem lkX7_tide_0 : Cond.fieldLink RX7 7 "TideWordsModel" "s" "[I" ∈ wsX7_tide := by decide +kernel
set_option maxRecDepth 20000 in
theorem iwX7_tide_X7 : ∀ w ∈ wsX70, w ∈ wsX7_tide := by decide +kernel
def qX7_tide (V : Mem) (a1 : Int32) (a2 : Int32) (a3 : Int32) (a4 : Int32) : Option (Int32 × Mem) := lt (fX7_isStore a1) (fun r1 => if r1 = 0 then some (((-1001 : Int32), V)) else lt (fX7_in a2 ((0 : Int32)) ((300 : Int32))) (fun r3 => if r3 = 0 then some (((-1002 : Int32), V)) else lt (fX7_in a3 ((0 : Int32)) ((100 : Int32))) (fun r5 => if r5 = 0 then some (((-1002 : Int32), V)) else lt (fX7_in a4 ((2 : Int32)) ((60 : Int32))) (fun r7 => if r7 = 0 then some (((-1002 : Int32), V)) else (qX7_record V ).bind (fun U9 => lt (fX7_ofStore a1 ((0 : Int32))) (fun r10 => if r10 < 0 ∨ 131 ≤ r10.toNatClampNeg then none else lt (sv U9 1 r10.toNatClampNeg a2) (fun V12 => lt (fX7_ofStore a1 ((1 : Int32))) (fun r13 => if r13 < 0 ∨ 131 ≤ r13.toNatClampNeg then none else lt (sv V12 1 r13.toNatClampNeg a3) (fun V15 => lt (fX7_ofStore a1 ((2 : Int32))) (fun r16 => if r16 < 0 ∨ 131 ≤ r16.toNatClampNeg then none else lt (sv V15 1 r16.toNatClampNeg a4) (fun V18 => (qX7_level V18 a1 (V18 1 0)).bind (fun r19 => some ((r19, V18))))))))))))))
abbrev rmX7_tide : Room := { frames := 2, cells := 0, slots := 0, locals := 46 }
set_option maxHeartbeats 4000000 in
set_option maxRecDepth 100000 in
theorem mX7_tide (l : Launch) (X : kX) (b : Nat) (V : Mem) (a1 : Int32) (a2 : Int32) (a3 : Int32) (a4 : Int32) (out : Int32 × Mem) (hE : qX7_tide V a1 a2 a3 a4 = some out) : MW l yX7_tide wsX7_tide rmX7_tide X [.ref b, .int a1, .int a2, .int a3, .int a4] (RP X LM b V) (some (.int out.1)) b (b + LM.length) (RP X LM b out.2) := by
  refine mt_head (cc := cX7_tide) (maxL := 5) (ret := (some .int)) (own := RX7) (by decide) rfl rfl (Nat.le_of_ble_eq_true rfl) ?_
  intro p e s m below meth c ls F hr hlocks hnm hR hl
  have hx := F.1.1
  have hb := F.1.2.1
  have hH : Hp (t_fr b (b + LM.length)) s.heap s.heap.size X LM b V s.heap [] := ⟨hR, va_S.rf, rfl⟩
  have hl : lv_has ls 5 [(0, .ref b), (1, .int a1), (2, .int a2), (3, .int a3), (4, .int a4)] := hl
  unfold qX7_tide at hE
  refine lv_iload_n hx hb dX7_tide_0 rfl (lv_at hl 1 rfl) ?_
  obtain ⟨r1, er1, hE⟩ := lt_el hE
  refine rg_callRS (As := [.int a1]) (rest := []) F (mX7_isStore l X a1 r1 er1) (va_cwS 1 F.1.2.2.2.2 gX7_tide_X7_isStore rfl rfl rfl hsX7_isStore ⟨Nat.le_of_ble_eq_true rfl, Nat.le_of_ble_eq_true rfl⟩)  trivial rfl hl.1 (Nat.le_of_ble_eq_true rfl) dX7_tide_1 ⟨Nat.zero_le _, Nat.zero_le _⟩ rfl ?_
  refine lv_if_ne (tgt := 11) hx hb dX7_tide_4 (by decide) (fun c2 => ?_) (fun c2 => ?_)
  · have hE := (if_neg c2).symm.trans hE
    refine lv_iload_n hx hb dX7_tide_11 rfl (lv_at hl 2 rfl) ?_
    refine lv_iconst (v := 0) hx hb dX7_tide_12 (by decide) ?_
    refine lv_sipush (v := 300) hx hb dX7_tide_13 (by decide) ?_
    obtain ⟨r3, er3, hE⟩ := lt_el hE
    refine rg_callRS (As := [.int a2, .int ((0 : Int32)), .int ((300 : Int32))]) (rest := []) F (mX7_in l X a2 ((0 : Int32)) ((300 : Int32)) r3 er3) (va_cwS 3 F.1.2.2.2.2 gX7_tide_X7_in rfl rfl rfl hsX7_in ⟨Nat.le_of_ble_eq_true rfl, Nat.le_of_ble_eq_true rfl⟩)  trivial rfl hl.1 (Nat.le_of_ble_eq_true rfl) dX7_tide_16 ⟨Nat.zero_le _, Nat.zero_le _⟩ rfl ?_
    refine lv_if_eq (tgt := 43) hx hb dX7_tide_19 (by decide) (fun c4 => ?_) (fun c4 => ?_)
    · have hE := (if_pos c4).symm.trans hE
      refine lv_sipush (v := (-1002)) hx hb dX7_tide_43 (by decide) ?_
      have hE := Option.some.inj hE
      subst hE
      exact W.iret (v := (-1002 : Int32)) hx hb hr (fun t ht _ => mw_post hH ht) hH.2.1.2.2 dX7_tide_46
    · have hE := (if_neg c4).symm.trans hE
      refine lv_iload_n hx hb dX7_tide_22 rfl (lv_at hl 3 rfl) ?_
      refine lv_iconst (v := 0) hx hb dX7_tide_23 (by decide) ?_
      refine lv_bipush (v := 100) hx hb dX7_tide_24 (by decide) ?_
      obtain ⟨r5, er5, hE⟩ := lt_el hE
      refine rg_callRS (As := [.int a3, .int ((0 : Int32)), .int ((100 : Int32))]) (rest := []) F (mX7_in l X a3 ((0 : Int32)) ((100 : Int32)) r5 er5) (va_cwS 3 F.1.2.2.2.2 gX7_tide_X7_in rfl rfl rfl hsX7_in ⟨Nat.le_of_ble_eq_true rfl, Nat.le_of_ble_eq_true rfl⟩)  trivial rfl hl.1 (Nat.le_of_ble_eq_true rfl) dX7_tide_26 ⟨Nat.zero_le _, Nat.zero_le _⟩ rfl ?_
      refine lv_if_eq (tgt := 43) hx hb dX7_tide_29 (by decide) (fun c6 => ?_) (fun c6 => ?_)
      · have hE := (if_pos c6).symm.trans hE
        refine lv_sipush (v := (-1002)) hx hb dX7_tide_43 (by decide) ?_
        have hE := Option.some.inj hE
        subst hE
        exact W.iret (v := (-1002 : Int32)) hx hb hr (fun t ht _ => mw_post hH ht) hH.2.1.2.2 dX7_tide_46
      · have hE := (if_neg c6).symm.trans hE
        refine lv_iload hx hb dX7_tide_32 (lv_at hl 4 rfl) ?_
        refine lv_iconst (v := 2) hx hb dX7_tide_34 (by decide) ?_
        refine lv_bipush (v := 60) hx hb dX7_tide_35 (by decide) ?_
        obtain ⟨r7, er7, hE⟩ := lt_el hE
        refine rg_callRS (As := [.int a4, .int ((2 : Int32)), .int ((60 : Int32))]) (rest := []) F (mX7_in l X a4 ((2 : Int32)) ((60 : Int32)) r7 er7) (va_cwS 3 F.1.2.2.2.2 gX7_tide_X7_in rfl rfl rfl hsX7_in ⟨Nat.le_of_ble_eq_true rfl, Nat.le_of_ble_eq_true rfl⟩)  trivial rfl hl.1 (Nat.le_of_ble_eq_true rfl) dX7_tide_37 ⟨Nat.zero_le _, Nat.zero_le _⟩ rfl ?_
        refine lv_if_ne (tgt := 47) hx hb dX7_tide_40 (by decide) (fun c8 => ?_) (fun c8 => ?_)
        · have hE := (if_neg c8).symm.trans hE
          refine lv_aload_n hx hb dX7_tide_47 rfl (lv_at hl 0 rfl) ?_
          obtain ⟨U9, eU9, hE⟩ := bd_el hE
          refine rg_callWS (As := []) (rest := []) F hH (fun q h1 h2 => ⟨h1, h2⟩) (mX7_record l X b V  U9 eU9) (cwV 0 F.1.2.2.2.2 gX7_tide_X7_record rfl rfl rfl hvX7_record ⟨Nat.le_of_ble_eq_true rfl, Nat.le_of_ble_eq_true rfl⟩) (rp_recv F hH.1 0 rfl (C := RX7) (T := TX7) (N := 8) rfl rfl) hH.1 rfl hl.1 (Nat.le_of_ble_eq_true rfl) dX7_tide_48 ⟨Nat.zero_le _, Nat.zero_le _⟩ rfl (fun H locs hH => ?_)
          refine lv_aload_n hx hb dX7_tide_51 rfl (lv_at hl 0 rfl) ?_
          refine rg_getr F hH.1 0 (ci := 7) rfl (C := RX7) (T := TX7) (N := 8) rfl iwX7_tide_X7 0 (d := 1) (n := 1) rfl rfl (by decide) rfl lkX7_tide_0 rfl dX7_tide_52 ?_
          refine lv_iload_n hx hb dX7_tide_55 rfl (lv_at hl 1 rfl) ?_
          refine lv_iconst (v := 0) hx hb dX7_tide_56 (by decide) ?_
          obtain ⟨r10, er10, hE⟩ := lt_el hE
          refine rg_callRS (As := [.int a1, .int ((0 : Int32))]) (rest := [.ref (b + 1)]) F (mX7_ofStore l X a1 ((0 : Int32)) r10 er10) (va_cwS 2 F.1.2.2.2.2 gX7_tide_X7_ofStore rfl rfl rfl hsX7_ofStore ⟨Nat.le_of_ble_eq_true rfl, Nat.le_of_ble_eq_true rfl⟩)  trivial rfl hl.1 (Nat.le_of_ble_eq_true rfl) dX7_tide_57 ⟨Nat.zero_le _, Nat.zero_le _⟩ rfl ?_
          refine lv_iload_n hx hb dX7_tide_60 rfl (lv_at hl 2 rfl) ?_
          obtain ⟨g11, hE⟩ := gd_el hE
          obtain ⟨V12, eV12, hE⟩ := lt_el hE
          refine rg_iast F hH (fun q h1 h2 => ⟨h1, h2⟩) 1 (n := 131) rfl g11 rfl dX7_tide_61 (fun H locs hH => ?_)
          replace hH := hp_cast eV12 hH
          refine lv_aload_n hx hb dX7_tide_62 rfl (lv_at hl 0 rfl) ?_
          refine rg_getr F hH.1 0 (ci := 7) rfl (C := RX7) (T := TX7) (N := 8) rfl iwX7_tide_X7 0 (d := 1) (n := 1) rfl rfl (by decide) rfl lkX7_tide_0 rfl dX7_tide_63 ?_
          refine lv_iload_n hx hb dX7_tide_66 rfl (lv_at hl 1 rfl) ?_
          refine lv_iconst (v := 1) hx hb dX7_tide_67 (by decide) ?_
          obtain ⟨r13, er13, hE⟩ := lt_el hE
          refine rg_callRS (As := [.int a1, .int ((1 : Int32))]) (rest := [.ref (b + 1)]) F (mX7_ofStore l X a1 ((1 : Int32)) r13 er13) (va_cwS 2 F.1.2.2.2.2 gX7_tide_X7_ofStore rfl rfl rfl hsX7_ofStore ⟨Nat.le_of_ble_eq_true rfl, Nat.le_of_ble_eq_true rfl⟩)  trivial rfl hl.1 (Nat.le_of_ble_eq_true rfl) dX7_tide_68 ⟨Nat.zero_le _, Nat.zero_le _⟩ rfl ?_
          refine lv_iload_n hx hb dX7_tide_71 rfl (lv_at hl 3 rfl) ?_
          obtain ⟨g14, hE⟩ := gd_el hE
          obtain ⟨V15, eV15, hE⟩ := lt_el hE
          refine rg_iast F hH (fun q h1 h2 => ⟨h1, h2⟩) 1 (n := 131) rfl g14 rfl dX7_tide_72 (fun H locs hH => ?_)
          replace hH := hp_cast eV15 hH
          refine lv_aload_n hx hb dX7_tide_73 rfl (lv_at hl 0 rfl) ?_
          refine rg_getr F hH.1 0 (ci := 7) rfl (C := RX7) (T := TX7) (N := 8) rfl iwX7_tide_X7 0 (d := 1) (n := 1) rfl rfl (by decide) rfl lkX7_tide_0 rfl dX7_tide_74 ?_
          refine lv_iload_n hx hb dX7_tide_77 rfl (lv_at hl 1 rfl) ?_
          refine lv_iconst (v := 2) hx hb dX7_tide_78 (by decide) ?_
          obtain ⟨r16, er16, hE⟩ := lt_el hE
          refine rg_callRS (As := [.int a1, .int ((2 : Int32))]) (rest := [.ref (b + 1)]) F (mX7_ofStore l X a1 ((2 : Int32)) r16 er16) (va_cwS 2 F.1.2.2.2.2 gX7_tide_X7_ofStore rfl rfl rfl hsX7_ofStore ⟨Nat.le_of_ble_eq_true rfl, Nat.le_of_ble_eq_true rfl⟩)  trivial rfl hl.1 (Nat.le_of_ble_eq_true rfl) dX7_tide_79 ⟨Nat.zero_le _, Nat.zero_le _⟩ rfl ?_
          refine lv_iload hx hb dX7_tide_82 (lv_at hl 4 rfl) ?_
          obtain ⟨g17, hE⟩ := gd_el hE
          obtain ⟨V18, eV18, hE⟩ := lt_el hE
          refine rg_iast F hH (fun q h1 h2 => ⟨h1, h2⟩) 1 (n := 131) rfl g17 rfl dX7_tide_84 (fun H locs hH => ?_)
          replace hH := hp_cast eV18 hH
          refine lv_aload_n hx hb dX7_tide_85 rfl (lv_at hl 0 rfl) ?_
          refine lv_iload_n hx hb dX7_tide_86 rfl (lv_at hl 1 rfl) ?_
          refine lv_aload_n hx hb dX7_tide_87 rfl (lv_at hl 0 rfl) ?_
          refine rg_getr F hH.1 0 (ci := 7) rfl (C := RX7) (T := TX7) (N := 8) rfl iwX7_tide_X7 0 (d := 1) (n := 1) rfl rfl (by decide) rfl lkX7_tide_0 rfl dX7_tide_88 ?_
          refine lv_iconst (v := 0) hx hb dX7_tide_91 (by decide) ?_
          refine rg_iald F hH.1 1 rfl (i := 0) (by decide) rfl dX7_tide_92 ?_
          obtain ⟨r19, er19, hE⟩ := bd_el hE
          refine rg_callRV (As := [.int a1, .int (V18 1 0)]) (rest := []) F (mX7_level l X b V18 a1 (V18 1 0) r19 er19) (cwV 2 F.1.2.2.2.2 gX7_tide_X7_level rfl rfl rfl hvX7_level ⟨Nat.le_of_ble_eq_true rfl, Nat.le_of_ble_eq_true rfl⟩) (rp_recv F hH.1 0 rfl (C := RX7) (T := TX7) (N := 8) rfl rfl) hH.1 rfl hl.1 (Nat.le_of_ble_eq_true rfl) dX7_tide_93 ⟨Nat.zero_le _, Nat.zero_le _⟩ rfl ?_
          have hE := Option.some.inj hE
          subst hE
          exact W.iret (v := r19) hx hb hr (fun t ht _ => mw_post hH ht) hH.2.1.2.2 dX7_tide_96
        · have hE := (if_pos c8).symm.trans hE
          refine lv_sipush (v := (-1002)) hx hb dX7_tide_43 (by decide) ?_
          have hE := Option.some.inj hE
          subst hE
          exact W.iret (v := (-1002 : Int32)) hx hb hr (fun t ht _ => mw_post hH ht) hH.2.1.2.2 dX7_tide_46
  · have hE := (if_pos c2).symm.trans hE
    refine lv_sipush (v := (-1001)) hx hb dX7_tide_7 (by decide) ?_
    have hE := Option.some.inj hE
    subst hE
    exact W.iret (v := (-1001 : Int32)) hx hb hr (fun t ht _ => mw_post hH ht) hH.2.1.2.2 dX7_tide_10
theorem hvX7_lays : yX7_lays.cls = RX7 ∧ yX7_lays.cls ≠ "java/lang/invoke/MethodHandle" ∧ yX7_lays.cls ≠ "java/lang/invoke/VarHandle" ∧ (parseMethodDescriptor yX7_lays.desc).map (fun d => d.parameters.length) = some 2 := by decide +kernel
def qX7_gauge (V : Mem) (a1 : Int32) (a2 : Int32) : Option (Int32 × Mem) := lt (fX7_isStore a1) (fun r1 => if r1 = 0 then some (((-1001 : Int32), V)) else lt (fX7_in a2 ((-50 : Int32)) ((50 : Int32))) (fun r3 => if r3 = 0 then some (((-1002 : Int32), V)) else lt (fX7_ofStore a1 ((3 : Int32))) (fun r5 => (qX7_lays V r5 a2).bind (fun U6 => some ((U6.1, U6.2))))))
abbrev rmX7_gauge : Room := { frames := 2, cells := 0, slots := 0, locals := 44 }
set_option maxHeartbeats 4000000 in
set_option maxRecDepth 100000 in
theorem mX7_gauge (l : Launch) (X : kX) (b : Nat) (V : Mem) (a1 : Int32) (a2 : Int32) (out : Int32 × Mem) (hE : qX7_gauge V a1 a2 = some out) : MW l yX7_gauge wsX7_gauge rmX7_gauge X [.ref b, .int a1, .int a2] (RP X LM b V) (some (.int out.1)) b (b + LM.length) (RP X LM b out.2) := by
  refine mt_head (cc := cX7_gauge) (maxL := 3) (ret := (some .int)) (own := RX7) (by decide) rfl rfl (Nat.le_of_ble_eq_true rfl) ?_
  intro p e s m below meth c ls F hr hlocks hnm hR hl
  have hx := F.1.1
  have hb := F.1.2.1
  have hH : Hp (t_fr b (b + LM.length)) s.heap s.heap.size X LM b V s.heap [] := ⟨hR, va_S.rf, rfl⟩
  have hl : lv_has ls 3 [(0, .ref b), (1, .int a1), (2, .int a2)] := hl
  unfold qX7_gauge at hE
  refine lv_iload_n hx hb dX7_gauge_0 rfl (lv_at hl 1 rfl) ?_
  obtain ⟨r1, er1, hE⟩ := lt_el hE
  refine rg_callRS (As := [.int a1]) (rest := []) F (mX7_isStore l X a1 r1 er1) (va_cwS 1 F.1.2.2.2.2 gX7_gauge_X7_isStore rfl rfl rfl hsX7_isStore ⟨Nat.le_of_ble_eq_true rfl, Nat.le_of_ble_eq_true rfl⟩)  trivial rfl hl.1 (Nat.le_of_ble_eq_true rfl) dX7_gauge_1 ⟨Nat.zero_le _, Nat.zero_le _⟩ rfl ?_
  refine lv_if_ne (tgt := 11) hx hb dX7_gauge_4 (by decide) (fun c2 => ?_) (fun c2 => ?_)
  · have hE := (if_neg c2).symm.trans hE
    refine lv_iload_n hx hb dX7_gauge_11 rfl (lv_at hl 2 rfl) ?_
    refine lv_bipush (v := (-50)) hx hb dX7_gauge_12 (by decide) ?_
    refine lv_bipush (v := 50) hx hb dX7_gauge_14 (by decide) ?_
    obtain ⟨r3, er3, hE⟩ := lt_el hE
    refine rg_callRS (As := [.int a2, .int ((-50 : Int32)), .int ((50 : Int32))]) (rest := []) F (mX7_in l X a2 ((-50 : Int32)) ((50 : Int32)) r3 er3) (va_cwS 3 F.1.2.2.2.2 gX7_gauge_X7_in rfl rfl rfl hsX7_in ⟨Nat.le_of_ble_eq_true rfl, Nat.le_of_ble_eq_true rfl⟩)  trivial rfl hl.1 (Nat.le_of_ble_eq_true rfl) dX7_gauge_16 ⟨Nat.zero_le _, Nat.zero_le _⟩ rfl ?_
    refine lv_if_eq (tgt := 35) hx hb dX7_gauge_19 (by decide) (fun c4 => ?_) (fun c4 => ?_)
    · have hE := (if_pos c4).symm.trans hE
      refine lv_sipush (v := (-1002)) hx hb dX7_gauge_35 (by decide) ?_
      have hE := Option.some.inj hE
      subst hE
      exact W.iret (v := (-1002 : Int32)) hx hb hr (fun t ht _ => mw_post hH ht) hH.2.1.2.2 dX7_gauge_38
    · have hE := (if_neg c4).symm.trans hE
      refine lv_aload_n hx hb dX7_gauge_22 rfl (lv_at hl 0 rfl) ?_
      refine lv_iload_n hx hb dX7_gauge_23 rfl (lv_at hl 1 rfl) ?_
      refine lv_iconst (v := 3) hx hb dX7_gauge_24 (by decide) ?_
      obtain ⟨r5, er5, hE⟩ := lt_el hE
      refine rg_callRS (As := [.int a1, .int ((3 : Int32))]) (rest := [.ref b]) F (mX7_ofStore l X a1 ((3 : Int32)) r5 er5) (va_cwS 2 F.1.2.2.2.2 gX7_gauge_X7_ofStore rfl rfl rfl hsX7_ofStore ⟨Nat.le_of_ble_eq_true rfl, Nat.le_of_ble_eq_true rfl⟩)  trivial rfl hl.1 (Nat.le_of_ble_eq_true rfl) dX7_gauge_25 ⟨Nat.zero_le _, Nat.zero_le _⟩ rfl ?_
      refine lv_iload_n hx hb dX7_gauge_28 rfl (lv_at hl 2 rfl) ?_
      obtain ⟨U6, eU6, hE⟩ := bd_el hE
      refine rg_callWS (As := [.int r5, .int a2]) (rest := []) F hH (fun q h1 h2 => ⟨h1, h2⟩) (mX7_lays l X b V r5 a2 U6 eU6) (cwV 2 F.1.2.2.2.2 gX7_gauge_X7_lays rfl rfl rfl hvX7_lays ⟨Nat.le_of_ble_eq_true rfl, Nat.le_of_ble_eq_true rfl⟩) (rp_recv F hH.1 0 rfl (C := RX7) (T := TX7) (N := 8) rfl rfl) hH.1 rfl hl.1 (Nat.le_of_ble_eq_true rfl) dX7_gauge_29 ⟨Nat.zero_le _, Nat.zero_le _⟩ rfl (fun H locs hH => ?_)
      refine lv_goto (tgt := 38) hx hb dX7_gauge_32 (by decide) ?_
      have hE := Option.some.inj hE
      subst hE
      exact W.iret (v := U6.1) hx hb hr (fun t ht _ => mw_post hH ht) hH.2.1.2.2 dX7_gauge_38
  · have hE := (if_pos c2).symm.trans hE
    refine lv_sipush (v := (-1001)) hx hb dX7_gauge_7 (by decide) ?_
    have hE := Option.some.inj hE
    subst hE
    exact W.iret (v := (-1001 : Int32)) hx hb hr (fun t ht _ => mw_post hH ht) hH.2.1.2.2 dX7_gauge_10
set_option maxRecDepth 20000 in
theorem lkX7_gate_0 : Cond.fieldLink RX7 7 "TideWordsModel" "s" "[I" ∈ wsX7_gate := by decide +kernel
set_option maxRecDepth 20000 in
theorem iwX7_gate_X7 : ∀ w ∈ wsX70, w ∈ wsX7_gate := by decide +kernel
def qX7_gate (V : Mem) (a1 : Int32) (a2 : Int32) (a3 : Int32) (a4 : Int32) : Option (Int32 × Mem) := lt (fX7_isGate a1) (fun r1 => if r1 = 0 then some (((-1001 : Int32), V)) else lt (fX7_in a2 ((0 : Int32)) ((1 : Int32))) (fun r3 => if r3 = 0 then some (((-1002 : Int32), V)) else lt (fX7_in a3 ((0 : Int32)) ((99 : Int32))) (fun r5 => if r5 = 0 then some (((-1002 : Int32), V)) else lt (fX7_in a4 ((0 : Int32)) ((1 : Int32))) (fun r7 => if r7 = 0 then some (((-1002 : Int32), V)) else lt (fX7_ofGate a1 ((4 : Int32))) (fun r9 => if r9 < 0 ∨ 131 ≤ r9.toNatClampNeg then none else if V 1 r9.toNatClampNeg = (-1006 : Int32) then lt (fX7_ofGate a1 ((1 : Int32))) (fun r12 => (qX7_lays V r12 a3).bind (fun U13 => lt (fX7_ofGate a1 ((0 : Int32))) (fun r14 => if r14 < 0 ∨ 131 ≤ r14.toNatClampNeg then none else lt (sv U13.2 1 r14.toNatClampNeg a2) (fun V16 => lt (fX7_ofGate a1 ((2 : Int32))) (fun r17 => if r17 < 0 ∨ 131 ≤ r17.toNatClampNeg then none else lt (sv V16 1 r17.toNatClampNeg a4) (fun V19 => some ((U13.1, V19)))))))) else lt (fX7_ofGate a1 ((0 : Int32))) (fun r20 => if r20 < 0 ∨ 131 ≤ r20.toNatClampNeg then none else if V 1 r20.toNatClampNeg = a2 then lt (fX7_ofGate a1 ((1 : Int32))) (fun r23 => (qX7_lays V r23 a3).bind (fun U24 => lt (fX7_ofGate a1 ((0 : Int32))) (fun r25 => if r25 < 0 ∨ 131 ≤ r25.toNatClampNeg then none else lt (sv U24.2 1 r25.toNatClampNeg a2) (fun V27 => lt (fX7_ofGate a1 ((2 : Int32))) (fun r28 => if r28 < 0 ∨ 131 ≤ r28.toNatClampNeg then none else lt (sv V27 1 r28.toNatClampNeg a4) (fun V30 => some ((U24.1, V30)))))))) else some (((-1005 : Int32), V))))))))
abbrev rmX7_gate : Room := { frames := 2, cells := 0, slots := 0, locals := 44 }
set_option maxHeartbeats 4000000 in
set_option maxRecDepth 100000 in
theorem mX7_gate (l : Launch) (X : kX) (b : Nat) (V : Mem) (a1 : Int32) (a2 : Int32) (a3 : Int32) (a4 : Int32) (out : Int32 × Mem) (hE : qX7_gate V a1 a2 a3 a4 = some out) : MW l yX7_gate wsX7_gate rmX7_gate X [.ref b, .int a1, .int a2, .int a3, .int a4] (RP X LM b V) (some (.int out.1)) b (b + LM.length) (RP X LM b out.2) := by
  refine mt_head (cc := cX7_gate) (maxL := 6) (ret := (some .int)) (own := RX7) (by decide) rfl rfl (Nat.le_of_ble_eq_true rfl) ?_
  intro p e s m below meth c ls F hr hlocks hnm hR hl
  have hx := F.1.1
  have hb := F.1.2.1
  have hH : Hp (t_fr b (b + LM.length)) s.heap s.heap.size X LM b V s.heap [] := ⟨hR, va_S.rf, rfl⟩
  have hl : lv_has ls 6 [(0, .ref b), (1, .int a1), (2, .int a2), (3, .int a3), (4, .int a4)] := hl
  unfold qX7_gate at hE
  refine lv_iload_n hx hb dX7_gate_0 rfl (lv_at hl 1 rfl) ?_
  obtain ⟨r1, er1, hE⟩ := lt_el hE
  refine rg_callRS (As := [.int a1]) (rest := []) F (mX7_isGate l X a1 r1 er1) (va_cwS 1 F.1.2.2.2.2 gX7_gate_X7_isGate rfl rfl rfl hsX7_isGate ⟨Nat.le_of_ble_eq_true rfl, Nat.le_of_ble_eq_true rfl⟩)  trivial rfl hl.1 (Nat.le_of_ble_eq_true rfl) dX7_gate_1 ⟨Nat.zero_le _, Nat.zero_le _⟩ rfl ?_
  refine lv_if_ne (tgt := 11) hx hb dX7_gate_4 (by decide) (fun c2 => ?_) (fun c2 => ?_)
  · have hE := (if_neg c2).symm.trans hE
    refine lv_iload_n hx hb dX7_gate_11 rfl (lv_at hl 2 rfl) ?_
    refine lv_iconst (v := 0) hx hb dX7_gate_12 (by decide) ?_
    refine lv_iconst (v := 1) hx hb dX7_gate_13 (by decide) ?_
    obtain ⟨r3, er3, hE⟩ := lt_el hE
    refine rg_callRS (As := [.int a2, .int ((0 : Int32)), .int ((1 : Int32))]) (rest := []) F (mX7_in l X a2 ((0 : Int32)) ((1 : Int32)) r3 er3) (va_cwS 3 F.1.2.2.2.2 gX7_gate_X7_in rfl rfl rfl hsX7_in ⟨Nat.le_of_ble_eq_true rfl, Nat.le_of_ble_eq_true rfl⟩)  trivial rfl hl.1 (Nat.le_of_ble_eq_true rfl) dX7_gate_14 ⟨Nat.zero_le _, Nat.zero_le _⟩ rfl ?_
    refine lv_if_eq (tgt := 40) hx hb dX7_gate_17 (by decide) (fun c4 => ?_) (fun c4 => ?_)
    · have hE := (if_pos c4).symm.trans hE
      refine lv_sipush (v := (-1002)) hx hb dX7_gate_40 (by decide) ?_
      have hE := Option.some.inj hE
      subst hE
      exact W.iret (v := (-1002 : Int32)) hx hb hr (fun t ht _ => mw_post hH ht) hH.2.1.2.2 dX7_gate_43
    · have hE := (if_neg c4).symm.trans hE
      refine lv_iload_n hx hb dX7_gate_20 rfl (lv_at hl 3 rfl) ?_
      refine lv_iconst (v := 0) hx hb dX7_gate_21 (by decide) ?_
      refine lv_bipush (v := 99) hx hb dX7_gate_22 (by decide) ?_
      obtain ⟨r5, er5, hE⟩ := lt_el hE
      refine rg_callRS (As := [.int a3, .int ((0 : Int32)), .int ((99 : Int32))]) (rest := []) F (mX7_in l X a3 ((0 : Int32)) ((99 : Int32)) r5 er5) (va_cwS 3 F.1.2.2.2.2 gX7_gate_X7_in rfl rfl rfl hsX7_in ⟨Nat.le_of_ble_eq_true rfl, Nat.le_of_ble_eq_true rfl⟩)  trivial rfl hl.1 (Nat.le_of_ble_eq_true rfl) dX7_gate_24 ⟨Nat.zero_le _, Nat.zero_le _⟩ rfl ?_
      refine lv_if_eq (tgt := 40) hx hb dX7_gate_27 (by decide) (fun c6 => ?_) (fun c6 => ?_)
      · have hE := (if_pos c6).symm.trans hE
        refine lv_sipush (v := (-1002)) hx hb dX7_gate_40 (by decide) ?_
        have hE := Option.some.inj hE
        subst hE
        exact W.iret (v := (-1002 : Int32)) hx hb hr (fun t ht _ => mw_post hH ht) hH.2.1.2.2 dX7_gate_43
      · have hE := (if_neg c6).symm.trans hE
        refine lv_iload hx hb dX7_gate_30 (lv_at hl 4 rfl) ?_
        refine lv_iconst (v := 0) hx hb dX7_gate_32 (by decide) ?_
        refine lv_iconst (v := 1) hx hb dX7_gate_33 (by decide) ?_
        obtain ⟨r7, er7, hE⟩ := lt_el hE
        refine rg_callRS (As := [.int a4, .int ((0 : Int32)), .int ((1 : Int32))]) (rest := []) F (mX7_in l X a4 ((0 : Int32)) ((1 : Int32)) r7 er7) (va_cwS 3 F.1.2.2.2.2 gX7_gate_X7_in rfl rfl rfl hsX7_in ⟨Nat.le_of_ble_eq_true rfl, Nat.le_of_ble_eq_true rfl⟩)  trivial rfl hl.1 (Nat.le_of_ble_eq_true rfl) dX7_gate_34 ⟨Nat.zero_le _, Nat.zero_le _⟩ rfl ?_
        refine lv_if_ne (tgt := 44) hx hb dX7_gate_37 (by decide) (fun c8 => ?_) (fun c8 => ?_)
        · have hE := (if_neg c8).symm.trans hE
          refine lv_aload_n hx hb dX7_gate_44 rfl (lv_at hl 0 rfl) ?_
          refine rg_getr F hH.1 0 (ci := 7) rfl (C := RX7) (T := TX7) (N := 8) rfl iwX7_gate_X7 0 (d := 1) (n := 1) rfl rfl (by decide) rfl lkX7_gate_0 rfl dX7_gate_45 ?_
          refine lv_iload_n hx hb dX7_gate_48 rfl (lv_at hl 1 rfl) ?_
          refine lv_iconst (v := 4) hx hb dX7_gate_49 (by decide) ?_
          obtain ⟨r9, er9, hE⟩ := lt_el hE
          refine rg_callRS (As := [.int a1, .int ((4 : Int32))]) (rest := [.ref (b + 1)]) F (mX7_ofGate l X a1 ((4 : Int32)) r9 er9) (va_cwS 2 F.1.2.2.2.2 gX7_gate_X7_ofGate rfl rfl rfl hsX7_ofGate ⟨Nat.le_of_ble_eq_true rfl, Nat.le_of_ble_eq_true rfl⟩)  trivial rfl hl.1 (Nat.le_of_ble_eq_true rfl) dX7_gate_50 ⟨Nat.zero_le _, Nat.zero_le _⟩ rfl ?_
          obtain ⟨g10, hE⟩ := gd_el hE
          refine rg_iald F hH.1 1 (n := 131) rfl g10 rfl dX7_gate_53 ?_
          refine lv_sipush (v := (-1006)) hx hb dX7_gate_54 (by decide) ?_
          refine lv_icmp_eq (tgt := 78) hx hb dX7_gate_57 (by decide) (fun c11 => ?_) (fun c11 => ?_)
          · have hE := (if_pos c11).symm.trans hE
            refine lv_aload_n hx hb dX7_gate_78 rfl (lv_at hl 0 rfl) ?_
            refine lv_iload_n hx hb dX7_gate_79 rfl (lv_at hl 1 rfl) ?_
            refine lv_iconst (v := 1) hx hb dX7_gate_80 (by decide) ?_
            obtain ⟨r12, er12, hE⟩ := lt_el hE
            refine rg_callRS (As := [.int a1, .int ((1 : Int32))]) (rest := [.ref b]) F (mX7_ofGate l X a1 ((1 : Int32)) r12 er12) (va_cwS 2 F.1.2.2.2.2 gX7_gate_X7_ofGate rfl rfl rfl hsX7_ofGate ⟨Nat.le_of_ble_eq_true rfl, Nat.le_of_ble_eq_true rfl⟩)  trivial rfl hl.1 (Nat.le_of_ble_eq_true rfl) dX7_gate_81 ⟨Nat.zero_le _, Nat.zero_le _⟩ rfl ?_
            refine lv_iload_n hx hb dX7_gate_84 rfl (lv_at hl 3 rfl) ?_
            obtain ⟨U13, eU13, hE⟩ := bd_el hE
            refine rg_callWS (As := [.int r12, .int a3]) (rest := []) F hH (fun q h1 h2 => ⟨h1, h2⟩) (mX7_lays l X b V r12 a3 U13 eU13) (cwV 2 F.1.2.2.2.2 gX7_gate_X7_lays rfl rfl rfl hvX7_lays ⟨Nat.le_of_ble_eq_true rfl, Nat.le_of_ble_eq_true rfl⟩) (rp_recv F hH.1 0 rfl (C := RX7) (T := TX7) (N := 8) rfl rfl) hH.1 rfl hl.1 (Nat.le_of_ble_eq_true rfl) dX7_gate_85 ⟨Nat.zero_le _, Nat.zero_le _⟩ rfl (fun H locs hH => ?_)
            refine lv_istore (lv' := [(5, .int U13.1), (0, .ref b), (1, .int a1), (2, .int a2), (3, .int a3), (4, .int a4)]) hx hb dX7_gate_88 hl (by decide) rfl (fun ls hl => ?_)
            refine lv_aload_n hx hb dX7_gate_90 rfl (lv_at hl 1 rfl) ?_
            refine rg_getr F hH.1 0 (ci := 7) rfl (C := RX7) (T := TX7) (N := 8) rfl iwX7_gate_X7 0 (d := 1) (n := 1) rfl rfl (by decide) rfl lkX7_gate_0 rfl dX7_gate_91 ?_
            refine lv_iload_n hx hb dX7_gate_94 rfl (lv_at hl 2 rfl) ?_
            refine lv_iconst (v := 0) hx hb dX7_gate_95 (by decide) ?_
            obtain ⟨r14, er14, hE⟩ := lt_el hE
            refine rg_callRS (As := [.int a1, .int ((0 : Int32))]) (rest := [.ref (b + 1)]) F (mX7_ofGate l X a1 ((0 : Int32)) r14 er14) (va_cwS 2 F.1.2.2.2.2 gX7_gate_X7_ofGate rfl rfl rfl hsX7_ofGate ⟨Nat.le_of_ble_eq_true rfl, Nat.le_of_ble_eq_true rfl⟩)  trivial rfl hl.1 (Nat.le_of_ble_eq_true rfl) dX7_gate_96 ⟨Nat.zero_le _, Nat.zero_le _⟩ rfl ?_
            refine lv_iload_n hx hb dX7_gate_99 rfl (lv_at hl 3 rfl) ?_
            obtain ⟨g15, hE⟩ := gd_el hE
            obtain ⟨V16, eV16, hE⟩ := lt_el hE
            refine rg_iast F hH (fun q h1 h2 => ⟨h1, h2⟩) 1 (n := 131) rfl g15 rfl dX7_gate_100 (fun H locs hH => ?_)
            replace hH := hp_cast eV16 hH
            refine lv_aload_n hx hb dX7_gate_101 rfl (lv_at hl 1 rfl) ?_
            refine rg_getr F hH.1 0 (ci := 7) rfl (C := RX7) (T := TX7) (N := 8) rfl iwX7_gate_X7 0 (d := 1) (n := 1) rfl rfl (by decide) rfl lkX7_gate_0 rfl dX7_gate_102 ?_
            refine lv_iload_n hx hb dX7_gate_105 rfl (lv_at hl 2 rfl) ?_
            refine lv_iconst (v := 2) hx hb dX7_gate_106 (by decide) ?_
            obtain ⟨r17, er17, hE⟩ := lt_el hE
            refine rg_callRS (As := [.int a1, .int ((2 : Int32))]) (rest := [.ref (b + 1)]) F (mX7_ofGate l X a1 ((2 : Int32)) r17 er17) (va_cwS 2 F.1.2.2.2.2 gX7_gate_X7_ofGate rfl rfl rfl hsX7_ofGate ⟨Nat.le_of_ble_eq_true rfl, Nat.le_of_ble_eq_true rfl⟩)  trivial rfl hl.1 (Nat.le_of_ble_eq_true rfl) dX7_gate_107 ⟨Nat.zero_le _, Nat.zero_le _⟩ rfl ?_
            refine lv_iload hx hb dX7_gate_110 (lv_at hl 5 rfl) ?_
            obtain ⟨g18, hE⟩ := gd_el hE
            obtain ⟨V19, eV19, hE⟩ := lt_el hE
            refine rg_iast F hH (fun q h1 h2 => ⟨h1, h2⟩) 1 (n := 131) rfl g18 rfl dX7_gate_112 (fun H locs hH => ?_)
            replace hH := hp_cast eV19 hH
            refine lv_iload hx hb dX7_gate_113 (lv_at hl 0 rfl) ?_
            have hE := Option.some.inj hE
            subst hE
            exact W.iret (v := U13.1) hx hb hr (fun t ht _ => mw_post hH ht) hH.2.1.2.2 dX7_gate_115
          · have hE := (if_neg c11).symm.trans hE
            refine lv_aload_n hx hb dX7_gate_60 rfl (lv_at hl 0 rfl) ?_
            refine rg_getr F hH.1 0 (ci := 7) rfl (C := RX7) (T := TX7) (N := 8) rfl iwX7_gate_X7 0 (d := 1) (n := 1) rfl rfl (by decide) rfl lkX7_gate_0 rfl dX7_gate_61 ?_
            refine lv_iload_n hx hb dX7_gate_64 rfl (lv_at hl 1 rfl) ?_
            refine lv_iconst (v := 0) hx hb dX7_gate_65 (by decide) ?_
            obtain ⟨r20, er20, hE⟩ := lt_el hE
            refine rg_callRS (As := [.int a1, .int ((0 : Int32))]) (rest := [.ref (b + 1)]) F (mX7_ofGate l X a1 ((0 : Int32)) r20 er20) (va_cwS 2 F.1.2.2.2.2 gX7_gate_X7_ofGate rfl rfl rfl hsX7_ofGate ⟨Nat.le_of_ble_eq_true rfl, Nat.le_of_ble_eq_true rfl⟩)  trivial rfl hl.1 (Nat.le_of_ble_eq_true rfl) dX7_gate_66 ⟨Nat.zero_le _, Nat.zero_le _⟩ rfl ?_
            obtain ⟨g21, hE⟩ := gd_el hE
            refine rg_iald F hH.1 1 (n := 131) rfl g21 rfl dX7_gate_69 ?_
            refine lv_iload_n hx hb dX7_gate_70 rfl (lv_at hl 2 rfl) ?_
            refine lv_icmp_eq (tgt := 78) hx hb dX7_gate_71 (by decide) (fun c22 => ?_) (fun c22 => ?_)
            · have hE := (if_pos c22).symm.trans hE
              refine lv_aload_n hx hb dX7_gate_78 rfl (lv_at hl 0 rfl) ?_
              refine lv_iload_n hx hb dX7_gate_79 rfl (lv_at hl 1 rfl) ?_
              refine lv_iconst (v := 1) hx hb dX7_gate_80 (by decide) ?_
              obtain ⟨r23, er23, hE⟩ := lt_el hE
              refine rg_callRS (As := [.int a1, .int ((1 : Int32))]) (rest := [.ref b]) F (mX7_ofGate l X a1 ((1 : Int32)) r23 er23) (va_cwS 2 F.1.2.2.2.2 gX7_gate_X7_ofGate rfl rfl rfl hsX7_ofGate ⟨Nat.le_of_ble_eq_true rfl, Nat.le_of_ble_eq_true rfl⟩)  trivial rfl hl.1 (Nat.le_of_ble_eq_true rfl) dX7_gate_81 ⟨Nat.zero_le _, Nat.zero_le _⟩ rfl ?_
              refine lv_iload_n hx hb dX7_gate_84 rfl (lv_at hl 3 rfl) ?_
              obtain ⟨U24, eU24, hE⟩ := bd_el hE
              refine rg_callWS (As := [.int r23, .int a3]) (rest := []) F hH (fun q h1 h2 => ⟨h1, h2⟩) (mX7_lays l X b V r23 a3 U24 eU24) (cwV 2 F.1.2.2.2.2 gX7_gate_X7_lays rfl rfl rfl hvX7_lays ⟨Nat.le_of_ble_eq_true rfl, Nat.le_of_ble_eq_true rfl⟩) (rp_recv F hH.1 0 rfl (C := RX7) (T := TX7) (N := 8) rfl rfl) hH.1 rfl hl.1 (Nat.le_of_ble_eq_true rfl) dX7_gate_85 ⟨Nat.zero_le _, Nat.zero_le _⟩ rfl (fun H locs hH => ?_)
              refine lv_istore (lv' := [(5, .int U24.1), (0, .ref b), (1, .int a1), (2, .int a2), (3, .int a3), (4, .int a4)]) hx hb dX7_gate_88 hl (by decide) rfl (fun ls hl => ?_)
              refine lv_aload_n hx hb dX7_gate_90 rfl (lv_at hl 1 rfl) ?_
              refine rg_getr F hH.1 0 (ci := 7) rfl (C := RX7) (T := TX7) (N := 8) rfl iwX7_gate_X7 0 (d := 1) (n := 1) rfl rfl (by decide) rfl lkX7_gate_0 rfl dX7_gate_91 ?_
              refine lv_iload_n hx hb dX7_gate_94 rfl (lv_at hl 2 rfl) ?_
              refine lv_iconst (v := 0) hx hb dX7_gate_95 (by decide) ?_
              obtain ⟨r25, er25, hE⟩ := lt_el hE
              refine rg_callRS (As := [.int a1, .int ((0 : Int32))]) (rest := [.ref (b + 1)]) F (mX7_ofGate l X a1 ((0 : Int32)) r25 er25) (va_cwS 2 F.1.2.2.2.2 gX7_gate_X7_ofGate rfl rfl rfl hsX7_ofGate ⟨Nat.le_of_ble_eq_true rfl, Nat.le_of_ble_eq_true rfl⟩)  trivial rfl hl.1 (Nat.le_of_ble_eq_true rfl) dX7_gate_96 ⟨Nat.zero_le _, Nat.zero_le _⟩ rfl ?_
              refine lv_iload_n hx hb dX7_gate_99 rfl (lv_at hl 3 rfl) ?_
              obtain ⟨g26, hE⟩ := gd_el hE
              obtain ⟨V27, eV27, hE⟩ := lt_el hE
              refine rg_iast F hH (fun q h1 h2 => ⟨h1, h2⟩) 1 (n := 131) rfl g26 rfl dX7_gate_100 (fun H locs hH => ?_)
              replace hH := hp_cast eV27 hH
              refine lv_aload_n hx hb dX7_gate_101 rfl (lv_at hl 1 rfl) ?_
              refine rg_getr F hH.1 0 (ci := 7) rfl (C := RX7) (T := TX7) (N := 8) rfl iwX7_gate_X7 0 (d := 1) (n := 1) rfl rfl (by decide) rfl lkX7_gate_0 rfl dX7_gate_102 ?_
              refine lv_iload_n hx hb dX7_gate_105 rfl (lv_at hl 2 rfl) ?_
              refine lv_iconst (v := 2) hx hb dX7_gate_106 (by decide) ?_
              obtain ⟨r28, er28, hE⟩ := lt_el hE
              refine rg_callRS (As := [.int a1, .int ((2 : Int32))]) (rest := [.ref (b + 1)]) F (mX7_ofGate l X a1 ((2 : Int32)) r28 er28) (va_cwS 2 F.1.2.2.2.2 gX7_gate_X7_ofGate rfl rfl rfl hsX7_ofGate ⟨Nat.le_of_ble_eq_true rfl, Nat.le_of_ble_eq_true rfl⟩)  trivial rfl hl.1 (Nat.le_of_ble_eq_true rfl) dX7_gate_107 ⟨Nat.zero_le _, Nat.zero_le _⟩ rfl ?_
              refine lv_iload hx hb dX7_gate_110 (lv_at hl 5 rfl) ?_
              obtain ⟨g29, hE⟩ := gd_el hE
              obtain ⟨V30, eV30, hE⟩ := lt_el hE
              refine rg_iast F hH (fun q h1 h2 => ⟨h1, h2⟩) 1 (n := 131) rfl g29 rfl dX7_gate_112 (fun H locs hH => ?_)
              replace hH := hp_cast eV30 hH
              refine lv_iload hx hb dX7_gate_113 (lv_at hl 0 rfl) ?_
              have hE := Option.some.inj hE
              subst hE
              exact W.iret (v := U24.1) hx hb hr (fun t ht _ => mw_post hH ht) hH.2.1.2.2 dX7_gate_115
            · have hE := (if_neg c22).symm.trans hE
              refine lv_sipush (v := (-1005)) hx hb dX7_gate_74 (by decide) ?_
              have hE := Option.some.inj hE
              subst hE
              exact W.iret (v := (-1005 : Int32)) hx hb hr (fun t ht _ => mw_post hH ht) hH.2.1.2.2 dX7_gate_77
        · have hE := (if_pos c8).symm.trans hE
          refine lv_sipush (v := (-1002)) hx hb dX7_gate_40 (by decide) ?_
          have hE := Option.some.inj hE
          subst hE
          exact W.iret (v := (-1002 : Int32)) hx hb hr (fun t ht _ => mw_post hH ht) hH.2.1.2.2 dX7_gate_43
  · have hE := (if_pos c2).symm.trans hE
    refine lv_sipush (v := (-1001)) hx hb dX7_gate_7 (by decide) ?_
    have hE := Option.some.inj hE
    subst hE
    exact W.iret (v := (-1001 : Int32)) hx hb hr (fun t ht _ => mw_post hH ht) hH.2.1.2.2 dX7_gate_10
set_option maxRecDepth 20000 in
theorem lkX7_shut_0 : Cond.fieldLink RX7 7 "TideWordsModel" "s" "[I" ∈ wsX7_shut := by decide +kernel
set_option maxRecDepth 20000 in
theorem iwX7_shut_X7 : ∀ w ∈ wsX70, w ∈ wsX7_shut := by decide +kernel
def qX7_shut (V : Mem) (a1 : Int32) (a2 : Int32) : Option (Int32 × Mem) := lt (fX7_isGate a1) (fun r1 => if r1 = 0 then some (((-1001 : Int32), V)) else lt (fX7_ofGate a1 ((3 : Int32))) (fun r3 => if r3 < 0 ∨ 131 ≤ r3.toNatClampNeg then none else if a2 = 0 then if V 1 r3.toNatClampNeg = (0 : Int32) then some (((-1005 : Int32), V)) else lt (fX7_ofGate a1 ((3 : Int32))) (fun r7 => (qX7_lays V r7 ((0 : Int32))).bind (fun U8 => lt (fX7_ofGate ((0 : Int32)) ((3 : Int32))) (fun r9 => if r9 < 0 ∨ 131 ≤ r9.toNatClampNeg then none else lt (fX7_ofGate ((1 : Int32)) ((3 : Int32))) (fun r11 => if r11 < 0 ∨ 131 ≤ r11.toNatClampNeg then none else lt (fX7_ofGate ((2 : Int32)) ((3 : Int32))) (fun r13 => if r13 < 0 ∨ 131 ≤ r13.toNatClampNeg then none else lt (fX7_ofGate ((3 : Int32)) ((3 : Int32))) (fun r15 => if r15 < 0 ∨ 131 ≤ r15.toNatClampNeg then none else some (((((U8.2 1 r9.toNatClampNeg) + (U8.2 1 r11.toNatClampNeg)) + (U8.2 1 r13.toNatClampNeg)) + (U8.2 1 r15.toNatClampNeg), U8.2)))))))) else if V 1 r3.toNatClampNeg = (1 : Int32) then some (((-1005 : Int32), V)) else lt (fX7_ofGate a1 ((3 : Int32))) (fun r18 => (qX7_lays V r18 ((1 : Int32))).bind (fun U19 => lt (fX7_ofGate ((0 : Int32)) ((3 : Int32))) (fun r20 => if r20 < 0 ∨ 131 ≤ r20.toNatClampNeg then none else lt (fX7_ofGate ((1 : Int32)) ((3 : Int32))) (fun r22 => if r22 < 0 ∨ 131 ≤ r22.toNatClampNeg then none else lt (fX7_ofGate ((2 : Int32)) ((3 : Int32))) (fun r24 => if r24 < 0 ∨ 131 ≤ r24.toNatClampNeg then none else lt (fX7_ofGate ((3 : Int32)) ((3 : Int32))) (fun r26 => if r26 < 0 ∨ 131 ≤ r26.toNatClampNeg then none else some (((((U19.2 1 r20.toNatClampNeg) + (U19.2 1 r22.toNatClampNeg)) + (U19.2 1 r24.toNatClampNeg)) + (U19.2 1 r26.toNatClampNeg), U19.2))))))))))
abbrev rmX7_shut : Room := { frames := 2, cells := 0, slots := 0, locals := 44 }
set_option maxHeartbeats 4000000 in
set_option maxRecDepth 100000 in
theorem mX7_shut (l : Launch) (X : kX) (b : Nat) (V : Mem) (a1 : Int32) (a2 : Int32) (out : Int32 × Mem) (hE : qX7_shut V a1 a2 = some out) : MW l yX7_shut wsX7_shut rmX7_shut X [.ref b, .int a1, .int a2] (RP X LM b V) (some (.int out.1)) b (b + LM.length) (RP X LM b out.2) := by
  refine mt_head (cc := cX7_shut) (maxL := 4) (ret := (some .int)) (own := RX7) (by decide) rfl rfl (Nat.le_of_ble_eq_true rfl) ?_
  intro p e s m below meth c ls F hr hlocks hnm hR hl
  have hx := F.1.1
  have hb := F.1.2.1
  have hH : Hp (t_fr b (b + LM.length)) s.heap s.heap.size X LM b V s.heap [] := ⟨hR, va_S.rf, rfl⟩
  have hl : lv_has ls 4 [(0, .ref b), (1, .int a1), (2, .int a2)] := hl
  unfold qX7_shut at hE
  refine lv_iload_n hx hb dX7_shut_0 rfl (lv_at hl 1 rfl) ?_
  obtain ⟨r1, er1, hE⟩ := lt_el hE
  refine rg_callRS (As := [.int a1]) (rest := []) F (mX7_isGate l X a1 r1 er1) (va_cwS 1 F.1.2.2.2.2 gX7_shut_X7_isGate rfl rfl rfl hsX7_isGate ⟨Nat.le_of_ble_eq_true rfl, Nat.le_of_ble_eq_true rfl⟩)  trivial rfl hl.1 (Nat.le_of_ble_eq_true rfl) dX7_shut_1 ⟨Nat.zero_le _, Nat.zero_le _⟩ rfl ?_
  refine lv_if_ne (tgt := 11) hx hb dX7_shut_4 (by decide) (fun c2 => ?_) (fun c2 => ?_)
  · have hE := (if_neg c2).symm.trans hE
    refine lv_aload_n hx hb dX7_shut_11 rfl (lv_at hl 0 rfl) ?_
    refine rg_getr F hH.1 0 (ci := 7) rfl (C := RX7) (T := TX7) (N := 8) rfl iwX7_shut_X7 0 (d := 1) (n := 1) rfl rfl (by decide) rfl lkX7_shut_0 rfl dX7_shut_12 ?_
    refine lv_iload_n hx hb dX7_shut_15 rfl (lv_at hl 1 rfl) ?_
    refine lv_iconst (v := 3) hx hb dX7_shut_16 (by decide) ?_
    obtain ⟨r3, er3, hE⟩ := lt_el hE
    refine rg_callRS (As := [.int a1, .int ((3 : Int32))]) (rest := [.ref (b + 1)]) F (mX7_ofGate l X a1 ((3 : Int32)) r3 er3) (va_cwS 2 F.1.2.2.2.2 gX7_shut_X7_ofGate rfl rfl rfl hsX7_ofGate ⟨Nat.le_of_ble_eq_true rfl, Nat.le_of_ble_eq_true rfl⟩)  trivial rfl hl.1 (Nat.le_of_ble_eq_true rfl) dX7_shut_17 ⟨Nat.zero_le _, Nat.zero_le _⟩ rfl ?_
    obtain ⟨g4, hE⟩ := gd_el hE
    refine rg_iald F hH.1 1 (n := 131) rfl g4 rfl dX7_shut_20 ?_
    refine lv_iload_n hx hb dX7_shut_21 rfl (lv_at hl 2 rfl) ?_
    refine lv_if_eq (tgt := 29) hx hb dX7_shut_22 (by decide) (fun c5 => ?_) (fun c5 => ?_)
    · have hE := (if_pos c5).symm.trans hE
      refine lv_iconst (v := 0) hx hb dX7_shut_29 (by decide) ?_
      refine lv_icmp_ne (tgt := 37) hx hb dX7_shut_30 (by decide) (fun c6 => ?_) (fun c6 => ?_)
      · have hE := (if_neg c6).symm.trans hE
        refine lv_aload_n hx hb dX7_shut_37 rfl (lv_at hl 0 rfl) ?_
        refine lv_iload_n hx hb dX7_shut_38 rfl (lv_at hl 1 rfl) ?_
        refine lv_iconst (v := 3) hx hb dX7_shut_39 (by decide) ?_
        obtain ⟨r7, er7, hE⟩ := lt_el hE
        refine rg_callRS (As := [.int a1, .int ((3 : Int32))]) (rest := [.ref b]) F (mX7_ofGate l X a1 ((3 : Int32)) r7 er7) (va_cwS 2 F.1.2.2.2.2 gX7_shut_X7_ofGate rfl rfl rfl hsX7_ofGate ⟨Nat.le_of_ble_eq_true rfl, Nat.le_of_ble_eq_true rfl⟩)  trivial rfl hl.1 (Nat.le_of_ble_eq_true rfl) dX7_shut_40 ⟨Nat.zero_le _, Nat.zero_le _⟩ rfl ?_
        refine lv_iload_n hx hb dX7_shut_43 rfl (lv_at hl 2 rfl) ?_
        refine lv_if_eq (tgt := 51) hx hb dX7_shut_44 (by decide) (fun _ => ?_) (fun c => absurd c5 c)
        refine lv_iconst (v := 0) hx hb dX7_shut_51 (by decide) ?_
        obtain ⟨U8, eU8, hE⟩ := bd_el hE
        refine rg_callWS (As := [.int r7, .int ((0 : Int32))]) (rest := []) F hH (fun q h1 h2 => ⟨h1, h2⟩) (mX7_lays l X b V r7 ((0 : Int32)) U8 eU8) (cwV 2 F.1.2.2.2.2 gX7_shut_X7_lays rfl rfl rfl hvX7_lays ⟨Nat.le_of_ble_eq_true rfl, Nat.le_of_ble_eq_true rfl⟩) (rp_recv F hH.1 0 rfl (C := RX7) (T := TX7) (N := 8) rfl rfl) hH.1 rfl hl.1 (Nat.le_of_ble_eq_true rfl) dX7_shut_52 ⟨Nat.zero_le _, Nat.zero_le _⟩ rfl (fun H locs hH => ?_)
        refine lv_istore_n (lv' := [(3, .int U8.1), (0, .ref b), (1, .int a1), (2, .int a2)]) hx hb dX7_shut_55 rfl hl (by decide) rfl (fun ls hl => ?_)
        refine lv_aload_n hx hb dX7_shut_56 rfl (lv_at hl 1 rfl) ?_
        refine rg_getr F hH.1 0 (ci := 7) rfl (C := RX7) (T := TX7) (N := 8) rfl iwX7_shut_X7 0 (d := 1) (n := 1) rfl rfl (by decide) rfl lkX7_shut_0 rfl dX7_shut_57 ?_
        refine lv_iconst (v := 0) hx hb dX7_shut_60 (by decide) ?_
        refine lv_iconst (v := 3) hx hb dX7_shut_61 (by decide) ?_
        obtain ⟨r9, er9, hE⟩ := lt_el hE
        refine rg_callRS (As := [.int ((0 : Int32)), .int ((3 : Int32))]) (rest := [.ref (b + 1)]) F (mX7_ofGate l X ((0 : Int32)) ((3 : Int32)) r9 er9) (va_cwS 2 F.1.2.2.2.2 gX7_shut_X7_ofGate rfl rfl rfl hsX7_ofGate ⟨Nat.le_of_ble_eq_true rfl, Nat.le_of_ble_eq_true rfl⟩)  trivial rfl hl.1 (Nat.le_of_ble_eq_true rfl) dX7_shut_62 ⟨Nat.zero_le _, Nat.zero_le _⟩ rfl ?_
        obtain ⟨g10, hE⟩ := gd_el hE
        refine rg_iald F hH.1 1 (n := 131) rfl g10 rfl dX7_shut_65 ?_
        refine lv_aload_n hx hb dX7_shut_66 rfl (lv_at hl 1 rfl) ?_
        refine rg_getr F hH.1 0 (ci := 7) rfl (C := RX7) (T := TX7) (N := 8) rfl iwX7_shut_X7 0 (d := 1) (n := 1) rfl rfl (by decide) rfl lkX7_shut_0 rfl dX7_shut_67 ?_
        refine lv_iconst (v := 1) hx hb dX7_shut_70 (by decide) ?_
        refine lv_iconst (v := 3) hx hb dX7_shut_71 (by decide) ?_
        obtain ⟨r11, er11, hE⟩ := lt_el hE
        refine rg_callRS (As := [.int ((1 : Int32)), .int ((3 : Int32))]) (rest := [.ref (b + 1), .int (U8.2 1 r9.toNatClampNeg)]) F (mX7_ofGate l X ((1 : Int32)) ((3 : Int32)) r11 er11) (va_cwS 2 F.1.2.2.2.2 gX7_shut_X7_ofGate rfl rfl rfl hsX7_ofGate ⟨Nat.le_of_ble_eq_true rfl, Nat.le_of_ble_eq_true rfl⟩)  trivial rfl hl.1 (Nat.le_of_ble_eq_true rfl) dX7_shut_72 ⟨Nat.zero_le _, Nat.zero_le _⟩ rfl ?_
        obtain ⟨g12, hE⟩ := gd_el hE
        refine rg_iald F hH.1 1 (n := 131) rfl g12 rfl dX7_shut_75 ?_
        refine lv_iadd hx hb dX7_shut_76 ?_
        refine lv_aload_n hx hb dX7_shut_77 rfl (lv_at hl 1 rfl) ?_
        refine rg_getr F hH.1 0 (ci := 7) rfl (C := RX7) (T := TX7) (N := 8) rfl iwX7_shut_X7 0 (d := 1) (n := 1) rfl rfl (by decide) rfl lkX7_shut_0 rfl dX7_shut_78 ?_
        refine lv_iconst (v := 2) hx hb dX7_shut_81 (by decide) ?_
        refine lv_iconst (v := 3) hx hb dX7_shut_82 (by decide) ?_
        obtain ⟨r13, er13, hE⟩ := lt_el hE
        refine rg_callRS (As := [.int ((2 : Int32)), .int ((3 : Int32))]) (rest := [.ref (b + 1), .int ((U8.2 1 r9.toNatClampNeg) + (U8.2 1 r11.toNatClampNeg))]) F (mX7_ofGate l X ((2 : Int32)) ((3 : Int32)) r13 er13) (va_cwS 2 F.1.2.2.2.2 gX7_shut_X7_ofGate rfl rfl rfl hsX7_ofGate ⟨Nat.le_of_ble_eq_true rfl, Nat.le_of_ble_eq_true rfl⟩)  trivial rfl hl.1 (Nat.le_of_ble_eq_true rfl) dX7_shut_83 ⟨Nat.zero_le _, Nat.zero_le _⟩ rfl ?_
        obtain ⟨g14, hE⟩ := gd_el hE
        refine rg_iald F hH.1 1 (n := 131) rfl g14 rfl dX7_shut_86 ?_
        refine lv_iadd hx hb dX7_shut_87 ?_
        refine lv_aload_n hx hb dX7_shut_88 rfl (lv_at hl 1 rfl) ?_
        refine rg_getr F hH.1 0 (ci := 7) rfl (C := RX7) (T := TX7) (N := 8) rfl iwX7_shut_X7 0 (d := 1) (n := 1) rfl rfl (by decide) rfl lkX7_shut_0 rfl dX7_shut_89 ?_
        refine lv_iconst (v := 3) hx hb dX7_shut_92 (by decide) ?_
        refine lv_iconst (v := 3) hx hb dX7_shut_93 (by decide) ?_
        obtain ⟨r15, er15, hE⟩ := lt_el hE
        refine rg_callRS (As := [.int ((3 : Int32)), .int ((3 : Int32))]) (rest := [.ref (b + 1), .int (((U8.2 1 r9.toNatClampNeg) + (U8.2 1 r11.toNatClampNeg)) + (U8.2 1 r13.toNatClampNeg))]) F (mX7_ofGate l X ((3 : Int32)) ((3 : Int32)) r15 er15) (va_cwS 2 F.1.2.2.2.2 gX7_shut_X7_ofGate rfl rfl rfl hsX7_ofGate ⟨Nat.le_of_ble_eq_true rfl, Nat.le_of_ble_eq_true rfl⟩)  trivial rfl hl.1 (Nat.le_of_ble_eq_true rfl) dX7_shut_94 ⟨Nat.zero_le _, Nat.zero_le _⟩ rfl ?_
        obtain ⟨g16, hE⟩ := gd_el hE
        refine rg_iald F hH.1 1 (n := 131) rfl g16 rfl dX7_shut_97 ?_
        refine lv_iadd hx hb dX7_shut_98 ?_
        have hE := Option.some.inj hE
        subst hE
        exact W.iret (v := (((U8.2 1 r9.toNatClampNeg) + (U8.2 1 r11.toNatClampNeg)) + (U8.2 1 r13.toNatClampNeg)) + (U8.2 1 r15.toNatClampNeg)) hx hb hr (fun t ht _ => mw_post hH ht) hH.2.1.2.2 dX7_shut_99
      · have hE := (if_pos c6).symm.trans hE
        refine lv_sipush (v := (-1005)) hx hb dX7_shut_33 (by decide) ?_
        have hE := Option.some.inj hE
        subst hE
        exact W.iret (v := (-1005 : Int32)) hx hb hr (fun t ht _ => mw_post hH ht) hH.2.1.2.2 dX7_shut_36
    · have hE := (if_neg c5).symm.trans hE
      refine lv_iconst (v := 1) hx hb dX7_shut_25 (by decide) ?_
      refine lv_goto (tgt := 30) hx hb dX7_shut_26 (by decide) ?_
      refine lv_icmp_ne (tgt := 37) hx hb dX7_shut_30 (by decide) (fun c17 => ?_) (fun c17 => ?_)
      · have hE := (if_neg c17).symm.trans hE
        refine lv_aload_n hx hb dX7_shut_37 rfl (lv_at hl 0 rfl) ?_
        refine lv_iload_n hx hb dX7_shut_38 rfl (lv_at hl 1 rfl) ?_
        refine lv_iconst (v := 3) hx hb dX7_shut_39 (by decide) ?_
        obtain ⟨r18, er18, hE⟩ := lt_el hE
        refine rg_callRS (As := [.int a1, .int ((3 : Int32))]) (rest := [.ref b]) F (mX7_ofGate l X a1 ((3 : Int32)) r18 er18) (va_cwS 2 F.1.2.2.2.2 gX7_shut_X7_ofGate rfl rfl rfl hsX7_ofGate ⟨Nat.le_of_ble_eq_true rfl, Nat.le_of_ble_eq_true rfl⟩)  trivial rfl hl.1 (Nat.le_of_ble_eq_true rfl) dX7_shut_40 ⟨Nat.zero_le _, Nat.zero_le _⟩ rfl ?_
        refine lv_iload_n hx hb dX7_shut_43 rfl (lv_at hl 2 rfl) ?_
        refine lv_if_eq (tgt := 51) hx hb dX7_shut_44 (by decide) (fun c => absurd c c5) (fun _ => ?_)
        refine lv_iconst (v := 1) hx hb dX7_shut_47 (by decide) ?_
        refine lv_goto (tgt := 52) hx hb dX7_shut_48 (by decide) ?_
        obtain ⟨U19, eU19, hE⟩ := bd_el hE
        refine rg_callWS (As := [.int r18, .int ((1 : Int32))]) (rest := []) F hH (fun q h1 h2 => ⟨h1, h2⟩) (mX7_lays l X b V r18 ((1 : Int32)) U19 eU19) (cwV 2 F.1.2.2.2.2 gX7_shut_X7_lays rfl rfl rfl hvX7_lays ⟨Nat.le_of_ble_eq_true rfl, Nat.le_of_ble_eq_true rfl⟩) (rp_recv F hH.1 0 rfl (C := RX7) (T := TX7) (N := 8) rfl rfl) hH.1 rfl hl.1 (Nat.le_of_ble_eq_true rfl) dX7_shut_52 ⟨Nat.zero_le _, Nat.zero_le _⟩ rfl (fun H locs hH => ?_)
        refine lv_istore_n (lv' := [(3, .int U19.1), (0, .ref b), (1, .int a1), (2, .int a2)]) hx hb dX7_shut_55 rfl hl (by decide) rfl (fun ls hl => ?_)
        refine lv_aload_n hx hb dX7_shut_56 rfl (lv_at hl 1 rfl) ?_
        refine rg_getr F hH.1 0 (ci := 7) rfl (C := RX7) (T := TX7) (N := 8) rfl iwX7_shut_X7 0 (d := 1) (n := 1) rfl rfl (by decide) rfl lkX7_shut_0 rfl dX7_shut_57 ?_
        refine lv_iconst (v := 0) hx hb dX7_shut_60 (by decide) ?_
        refine lv_iconst (v := 3) hx hb dX7_shut_61 (by decide) ?_
        obtain ⟨r20, er20, hE⟩ := lt_el hE
        refine rg_callRS (As := [.int ((0 : Int32)), .int ((3 : Int32))]) (rest := [.ref (b + 1)]) F (mX7_ofGate l X ((0 : Int32)) ((3 : Int32)) r20 er20) (va_cwS 2 F.1.2.2.2.2 gX7_shut_X7_ofGate rfl rfl rfl hsX7_ofGate ⟨Nat.le_of_ble_eq_true rfl, Nat.le_of_ble_eq_true rfl⟩)  trivial rfl hl.1 (Nat.le_of_ble_eq_true rfl) dX7_shut_62 ⟨Nat.zero_le _, Nat.zero_le _⟩ rfl ?_
        obtain ⟨g21, hE⟩ := gd_el hE
        refine rg_iald F hH.1 1 (n := 131) rfl g21 rfl dX7_shut_65 ?_
        refine lv_aload_n hx hb dX7_shut_66 rfl (lv_at hl 1 rfl) ?_
        refine rg_getr F hH.1 0 (ci := 7) rfl (C := RX7) (T := TX7) (N := 8) rfl iwX7_shut_X7 0 (d := 1) (n := 1) rfl rfl (by decide) rfl lkX7_shut_0 rfl dX7_shut_67 ?_
        refine lv_iconst (v := 1) hx hb dX7_shut_70 (by decide) ?_
        refine lv_iconst (v := 3) hx hb dX7_shut_71 (by decide) ?_
        obtain ⟨r22, er22, hE⟩ := lt_el hE
        refine rg_callRS (As := [.int ((1 : Int32)), .int ((3 : Int32))]) (rest := [.ref (b + 1), .int (U19.2 1 r20.toNatClampNeg)]) F (mX7_ofGate l X ((1 : Int32)) ((3 : Int32)) r22 er22) (va_cwS 2 F.1.2.2.2.2 gX7_shut_X7_ofGate rfl rfl rfl hsX7_ofGate ⟨Nat.le_of_ble_eq_true rfl, Nat.le_of_ble_eq_true rfl⟩)  trivial rfl hl.1 (Nat.le_of_ble_eq_true rfl) dX7_shut_72 ⟨Nat.zero_le _, Nat.zero_le _⟩ rfl ?_
        obtain ⟨g23, hE⟩ := gd_el hE
        refine rg_iald F hH.1 1 (n := 131) rfl g23 rfl dX7_shut_75 ?_
        refine lv_iadd hx hb dX7_shut_76 ?_
        refine lv_aload_n hx hb dX7_shut_77 rfl (lv_at hl 1 rfl) ?_
        refine rg_getr F hH.1 0 (ci := 7) rfl (C := RX7) (T := TX7) (N := 8) rfl iwX7_shut_X7 0 (d := 1) (n := 1) rfl rfl (by decide) rfl lkX7_shut_0 rfl dX7_shut_78 ?_
        refine lv_iconst (v := 2) hx hb dX7_shut_81 (by decide) ?_
        refine lv_iconst (v := 3) hx hb dX7_shut_82 (by decide) ?_
        obtain ⟨r24, er24, hE⟩ := lt_el hE
        refine rg_callRS (As := [.int ((2 : Int32)), .int ((3 : Int32))]) (rest := [.ref (b + 1), .int ((U19.2 1 r20.toNatClampNeg) + (U19.2 1 r22.toNatClampNeg))]) F (mX7_ofGate l X ((2 : Int32)) ((3 : Int32)) r24 er24) (va_cwS 2 F.1.2.2.2.2 gX7_shut_X7_ofGate rfl rfl rfl hsX7_ofGate ⟨Nat.le_of_ble_eq_true rfl, Nat.le_of_ble_eq_true rfl⟩)  trivial rfl hl.1 (Nat.le_of_ble_eq_true rfl) dX7_shut_83 ⟨Nat.zero_le _, Nat.zero_le _⟩ rfl ?_
        obtain ⟨g25, hE⟩ := gd_el hE
        refine rg_iald F hH.1 1 (n := 131) rfl g25 rfl dX7_shut_86 ?_
        refine lv_iadd hx hb dX7_shut_87 ?_
        refine lv_aload_n hx hb dX7_shut_88 rfl (lv_at hl 1 rfl) ?_
        refine rg_getr F hH.1 0 (ci := 7) rfl (C := RX7) (T := TX7) (N := 8) rfl iwX7_shut_X7 0 (d := 1) (n := 1) rfl rfl (by decide) rfl lkX7_shut_0 rfl dX7_shut_89 ?_
        refine lv_iconst (v := 3) hx hb dX7_shut_92 (by decide) ?_
        refine lv_iconst (v := 3) hx hb dX7_shut_93 (by decide) ?_
        obtain ⟨r26, er26, hE⟩ := lt_el hE
        refine rg_callRS (As := [.int ((3 : Int32)), .int ((3 : Int32))]) (rest := [.ref (b + 1), .int (((U19.2 1 r20.toNatClampNeg) + (U19.2 1 r22.toNatClampNeg)) + (U19.2 1 r24.toNatClampNeg))]) F (mX7_ofGate l X ((3 : Int32)) ((3 : Int32)) r26 er26) (va_cwS 2 F.1.2.2.2.2 gX7_shut_X7_ofGate rfl rfl rfl hsX7_ofGate ⟨Nat.le_of_ble_eq_true rfl, Nat.le_of_ble_eq_true rfl⟩)  trivial rfl hl.1 (Nat.le_of_ble_eq_true rfl) dX7_shut_94 ⟨Nat.zero_le _, Nat.zero_le _⟩ rfl ?_
        obtain ⟨g27, hE⟩ := gd_el hE
        refine rg_iald F hH.1 1 (n := 131) rfl g27 rfl dX7_shut_97 ?_
        refine lv_iadd hx hb dX7_shut_98 ?_
        have hE := Option.some.inj hE
        subst hE
        exact W.iret (v := (((U19.2 1 r20.toNatClampNeg) + (U19.2 1 r22.toNatClampNeg)) + (U19.2 1 r24.toNatClampNeg)) + (U19.2 1 r26.toNatClampNeg)) hx hb hr (fun t ht _ => mw_post hH ht) hH.2.1.2.2 dX7_shut_99
      · have hE := (if_pos c17).symm.trans hE
        refine lv_sipush (v := (-1005)) hx hb dX7_shut_33 (by decide) ?_
        have hE := Option.some.inj hE
        subst hE
        exact W.iret (v := (-1005 : Int32)) hx hb hr (fun t ht _ => mw_post hH ht) hH.2.1.2.2 dX7_shut_36
  · have hE := (if_pos c2).symm.trans hE
    refine lv_sipush (v := (-1001)) hx hb dX7_shut_7 (by decide) ?_
    have hE := Option.some.inj hE
    subst hE
    exact W.iret (v := (-1001 : Int32)) hx hb hr (fun t ht _ => mw_post hH ht) hH.2.1.2.2 dX7_shut_10
set_option maxRecDepth 20000 in
theorem lkX7_run_0 : Cond.fieldLink RX7 7 "TideWordsModel" "s" "[I" ∈ wsX7_run := by decide +kernel
set_option maxRecDepth 20000 in
theorem iwX7_run_X7 : ∀ w ∈ wsX70, w ∈ wsX7_run := by decide +kernel
set_option maxRecDepth 20000 in
theorem lkX7_run_1 : Cond.constant RX7 101 (99999) ∈ wsX7_run := by decide +kernel
def qX7_run (V : Mem) (a1 : Int32) : Option (Int32 × Mem) := lt (fX7_in a1 ((1 : Int32)) ((500 : Int32))) (fun r1 => if r1 = 0 then some (((-1002 : Int32), V)) else if (V 1 0) + a1 ≤ (99999 : Int32) then (qX7_record V ).bind (fun U4 => (qX7_passedWords U4 ).bind (fun r5 => (qX7_runs U4 a1).bind (fun U6 => (qX7_passedWords U6 ).bind (fun r7 => some ((r7 - r5, U6)))))) else some (((-1004 : Int32), V)))
abbrev rmX7_run : Room := { frames := 7, cells := 0, slots := 0, locals := 158 }
set_option maxHeartbeats 4000000 in
set_option maxRecDepth 100000 in
theorem mX7_run (l : Launch) (X : kX) (b : Nat) (V : Mem) (a1 : Int32) (out : Int32 × Mem) (hE : qX7_run V a1 = some out) : MW l yX7_run wsX7_run rmX7_run X [.ref b, .int a1] (RP X LM b V) (some (.int out.1)) b (b + LM.length) (RP X LM b out.2) := by
  refine mt_head (cc := cX7_run) (maxL := 3) (ret := (some .int)) (own := RX7) (by decide) rfl rfl (Nat.le_of_ble_eq_true rfl) ?_
  intro p e s m below meth c ls F hr hlocks hnm hR hl
  have hx := F.1.1
  have hb := F.1.2.1
  have hH : Hp (t_fr b (b + LM.length)) s.heap s.heap.size X LM b V s.heap [] := ⟨hR, va_S.rf, rfl⟩
  have hl : lv_has ls 3 [(0, .ref b), (1, .int a1)] := hl
  unfold qX7_run at hE
  refine lv_iload_n hx hb dX7_run_0 rfl (lv_at hl 1 rfl) ?_
  refine lv_iconst (v := 1) hx hb dX7_run_1 (by decide) ?_
  refine lv_sipush (v := 500) hx hb dX7_run_2 (by decide) ?_
  obtain ⟨r1, er1, hE⟩ := lt_el hE
  refine rg_callRS (As := [.int a1, .int ((1 : Int32)), .int ((500 : Int32))]) (rest := []) F (mX7_in l X a1 ((1 : Int32)) ((500 : Int32)) r1 er1) (va_cwS 3 F.1.2.2.2.2 gX7_run_X7_in rfl rfl rfl hsX7_in ⟨Nat.le_of_ble_eq_true rfl, Nat.le_of_ble_eq_true rfl⟩)  trivial rfl hl.1 (Nat.le_of_ble_eq_true rfl) dX7_run_5 ⟨Nat.zero_le _, Nat.zero_le _⟩ rfl ?_
  refine lv_if_ne (tgt := 15) hx hb dX7_run_8 (by decide) (fun c2 => ?_) (fun c2 => ?_)
  · have hE := (if_neg c2).symm.trans hE
    refine lv_aload_n hx hb dX7_run_15 rfl (lv_at hl 0 rfl) ?_
    refine rg_getr F hH.1 0 (ci := 7) rfl (C := RX7) (T := TX7) (N := 8) rfl iwX7_run_X7 0 (d := 1) (n := 1) rfl rfl (by decide) rfl lkX7_run_0 rfl dX7_run_16 ?_
    refine lv_iconst (v := 0) hx hb dX7_run_19 (by decide) ?_
    refine rg_iald F hH.1 1 rfl (i := 0) (by decide) rfl dX7_run_20 ?_
    refine lv_iload_n hx hb dX7_run_21 rfl (lv_at hl 1 rfl) ?_
    refine lv_iadd hx hb dX7_run_22 ?_
    refine lv_ldc (v := 99999) hx hb F.1.2.2.2.1 (F.1.2.2.2.2 _ lkX7_run_1) dX7_run_23 ?_
    refine lv_icmp_le (tgt := 32) hx hb dX7_run_25 (by decide) (fun c3 => ?_) (fun c3 => ?_)
    · have hE := (if_pos c3).symm.trans hE
      refine lv_aload_n hx hb dX7_run_32 rfl (lv_at hl 0 rfl) ?_
      obtain ⟨U4, eU4, hE⟩ := bd_el hE
      refine rg_callWS (As := []) (rest := []) F hH (fun q h1 h2 => ⟨h1, h2⟩) (mX7_record l X b V  U4 eU4) (cwV 0 F.1.2.2.2.2 gX7_run_X7_record rfl rfl rfl hvX7_record ⟨Nat.le_of_ble_eq_true rfl, Nat.le_of_ble_eq_true rfl⟩) (rp_recv F hH.1 0 rfl (C := RX7) (T := TX7) (N := 8) rfl rfl) hH.1 rfl hl.1 (Nat.le_of_ble_eq_true rfl) dX7_run_33 ⟨Nat.zero_le _, Nat.zero_le _⟩ rfl (fun H locs hH => ?_)
      refine lv_aload_n hx hb dX7_run_36 rfl (lv_at hl 0 rfl) ?_
      obtain ⟨r5, er5, hE⟩ := bd_el hE
      refine rg_callRV (As := []) (rest := []) F (mX7_passedWords l X b U4  r5 er5) (cwV 0 F.1.2.2.2.2 gX7_run_X7_passedWords rfl rfl rfl hvX7_passedWords ⟨Nat.le_of_ble_eq_true rfl, Nat.le_of_ble_eq_true rfl⟩) (rp_recv F hH.1 0 rfl (C := RX7) (T := TX7) (N := 8) rfl rfl) hH.1 rfl hl.1 (Nat.le_of_ble_eq_true rfl) dX7_run_37 ⟨Nat.zero_le _, Nat.zero_le _⟩ rfl ?_
      refine lv_istore_n (lv' := [(2, .int r5), (0, .ref b), (1, .int a1)]) hx hb dX7_run_40 rfl hl (by decide) rfl (fun ls hl => ?_)
      refine lv_aload_n hx hb dX7_run_41 rfl (lv_at hl 1 rfl) ?_
      refine lv_iload_n hx hb dX7_run_42 rfl (lv_at hl 2 rfl) ?_
      obtain ⟨U6, eU6, hE⟩ := bd_el hE
      refine rg_callWS (As := [.int a1]) (rest := []) F hH (fun q h1 h2 => ⟨h1, h2⟩) (mX7_runs l X b U4 a1 U6 eU6) (cwV 1 F.1.2.2.2.2 gX7_run_X7_runs rfl rfl rfl hvX7_runs ⟨Nat.le_of_ble_eq_true rfl, Nat.le_of_ble_eq_true rfl⟩) (rp_recv F hH.1 0 rfl (C := RX7) (T := TX7) (N := 8) rfl rfl) hH.1 rfl hl.1 (Nat.le_of_ble_eq_true rfl) dX7_run_43 ⟨Nat.zero_le _, Nat.zero_le _⟩ rfl (fun H locs hH => ?_)
      refine lv_aload_n hx hb dX7_run_46 rfl (lv_at hl 1 rfl) ?_
      obtain ⟨r7, er7, hE⟩ := bd_el hE
      refine rg_callRV (As := []) (rest := []) F (mX7_passedWords l X b U6  r7 er7) (cwV 0 F.1.2.2.2.2 gX7_run_X7_passedWords rfl rfl rfl hvX7_passedWords ⟨Nat.le_of_ble_eq_true rfl, Nat.le_of_ble_eq_true rfl⟩) (rp_recv F hH.1 0 rfl (C := RX7) (T := TX7) (N := 8) rfl rfl) hH.1 rfl hl.1 (Nat.le_of_ble_eq_true rfl) dX7_run_47 ⟨Nat.zero_le _, Nat.zero_le _⟩ rfl ?_
      refine lv_iload_n hx hb dX7_run_50 rfl (lv_at hl 0 rfl) ?_
      refine lv_isub hx hb dX7_run_51 ?_
      have hE := Option.some.inj hE
      subst hE
      exact W.iret (v := r7 - r5) hx hb hr (fun t ht _ => mw_post hH ht) hH.2.1.2.2 dX7_run_52
    · have hE := (if_neg c3).symm.trans hE
      refine lv_sipush (v := (-1004)) hx hb dX7_run_28 (by decide) ?_
      have hE := Option.some.inj hE
      subst hE
      exact W.iret (v := (-1004 : Int32)) hx hb hr (fun t ht _ => mw_post hH ht) hH.2.1.2.2 dX7_run_31
  · have hE := (if_pos c2).symm.trans hE
    refine lv_sipush (v := (-1002)) hx hb dX7_run_11 (by decide) ?_
    have hE := Option.some.inj hE
    subst hE
    exact W.iret (v := (-1002 : Int32)) hx hb hr (fun t ht _ => mw_post hH ht) hH.2.1.2.2 dX7_run_14
set_option maxRecDepth 20000 in
theorem lkX7_put_0 : Cond.fieldLink RX7 7 "TideWordsModel" "s" "[I" ∈ wsX7_put := by decide +kernel
set_option maxRecDepth 20000 in
theorem iwX7_put_X7 : ∀ w ∈ wsX70, w ∈ wsX7_put := by decide +kernel
theorem hvX7_told : yX7_told.cls = RX7 ∧ yX7_told.cls ≠ "java/lang/invoke/MethodHandle" ∧ yX7_told.cls ≠ "java/lang/invoke/VarHandle" ∧ (parseMethodDescriptor yX7_told.desc).map (fun d => d.parameters.length) = some 0 := by decide +kernel
set_option maxRecDepth 20000 in
theorem lkX7_put_1 : Cond.fieldLink RX7 123 "TideWordsModel" "length" "I" ∈ wsX7_put := by decide +kernel
set_option maxRecDepth 20000 in
theorem lkX7_put_2 : Cond.fieldLink RX7 26 "TideWordsModel" "pad" "[I" ∈ wsX7_put := by decide +kernel
def lbX7_put_53 (a1 : Int32) (s8 : Int32 × Int32 × Mem) : Option ((Int32 × Int32 × Mem) ⊕ (Int32 × Int32 × Mem)) := if s8.2.2 0 1 < s8.2.1 then some (.inr (s8.1, s8.2.1, s8.2.2)) else if s8.2.2 0 1 ≤ s8.2.1 then lt (sv s8.2.2 1 4 ((s8.2.2 1 4) + ((1 : Int32)))) (fun V11 => lt (fX7_ofWord (s8.2.2 1 4) ((0 : Int32))) (fun r12 => if r12 < 0 ∨ 131 ≤ r12.toNatClampNeg then none else lt (sv V11 1 r12.toNatClampNeg s8.1) (fun V14 => lt (fX7_ofWord (s8.2.2 1 4) ((1 : Int32))) (fun r15 => if r15 < 0 ∨ 131 ≤ r15.toNatClampNeg then none else lt (sv V14 1 r15.toNatClampNeg ((0 : Int32))) (fun V17 => lt (fX7_ofWord (s8.2.2 1 4) ((2 : Int32))) (fun r18 => if r18 < 0 ∨ 131 ≤ r18.toNatClampNeg then none else lt (sv V17 1 r18.toNatClampNeg ((-1006 : Int32))) (fun V20 => lt (fX7_ofWord (s8.2.2 1 4) ((3 : Int32))) (fun r21 => if r21 < 0 ∨ 131 ≤ r21.toNatClampNeg then none else lt (sv V20 1 r21.toNatClampNeg ((-1006 : Int32))) (fun V23 => lt (fX7_ofWord (s8.2.2 1 4) ((4 : Int32))) (fun r24 => if r24 < 0 ∨ 131 ≤ r24.toNatClampNeg then none else lt (sv V23 1 r24.toNatClampNeg ((0 : Int32))) (fun V26 => (qX7_comes V26 a1 (s8.2.2 1 4)).bind (fun U27 => some (.inl ((0 : Int32), s8.2.1 + 1, U27)))))))))))))) else if s8.2.1 < 0 ∨ 60 ≤ s8.2.1.toNatClampNeg then none else if s8.2.2 6 s8.2.1.toNatClampNeg = (44 : Int32) then lt (sv s8.2.2 1 4 ((s8.2.2 1 4) + ((1 : Int32)))) (fun V30 => lt (fX7_ofWord (s8.2.2 1 4) ((0 : Int32))) (fun r31 => if r31 < 0 ∨ 131 ≤ r31.toNatClampNeg then none else lt (sv V30 1 r31.toNatClampNeg s8.1) (fun V33 => lt (fX7_ofWord (s8.2.2 1 4) ((1 : Int32))) (fun r34 => if r34 < 0 ∨ 131 ≤ r34.toNatClampNeg then none else lt (sv V33 1 r34.toNatClampNeg ((0 : Int32))) (fun V36 => lt (fX7_ofWord (s8.2.2 1 4) ((2 : Int32))) (fun r37 => if r37 < 0 ∨ 131 ≤ r37.toNatClampNeg then none else lt (sv V36 1 r37.toNatClampNeg ((-1006 : Int32))) (fun V39 => lt (fX7_ofWord (s8.2.2 1 4) ((3 : Int32))) (fun r40 => if r40 < 0 ∨ 131 ≤ r40.toNatClampNeg then none else lt (sv V39 1 r40.toNatClampNeg ((-1006 : Int32))) (fun V42 => lt (fX7_ofWord (s8.2.2 1 4) ((4 : Int32))) (fun r43 => if r43 < 0 ∨ 131 ≤ r43.toNatClampNeg then none else lt (sv V42 1 r43.toNatClampNeg ((0 : Int32))) (fun V45 => (qX7_comes V45 a1 (s8.2.2 1 4)).bind (fun U46 => some (.inl ((0 : Int32), s8.2.1 + 1, U46)))))))))))))) else some (.inl ((((((27 : Int32)) * s8.1) + (s8.2.2 6 s8.2.1.toNatClampNeg)) - ((97 : Int32))) + ((1 : Int32)), s8.2.1 + 1, s8.2.2))
def qX7_put (V : Mem) (a1 : Int32) : Option (Int32 × Mem) := lt (fX7_isStore a1) (fun r1 => if r1 = 0 then some (((-1001 : Int32), V)) else (qX7_wrong V ).bind (fun r3 => if r3 = (-1006 : Int32) then (qX7_told V ).bind (fun r5 => if (V 1 4) + r5 ≤ (12 : Int32) then (qX7_record V ).bind (fun U7 => (it (lbX7_put_53 a1) fuel ((0 : Int32), (0 : Int32), U7)).bind (fun s47 => lt (sv s47.2.2 0 1 ((0 : Int32))) (fun V49 => some ((V49 1 4, V49))))) else some (((-1004 : Int32), V))) else some (((-1003 : Int32), V))))
abbrev rmX7_put : Room := { frames := 3, cells := 0, slots := 0, locals := 66 }
set_option maxHeartbeats 4000000 in
set_option maxRecDepth 100000 in
theorem mX7_put (l : Launch) (X : kX) (b : Nat) (V : Mem) (a1 : Int32) (out : Int32 × Mem) (hE : qX7_put V a1 = some out) : MW l yX7_put wsX7_put rmX7_put X [.ref b, .int a1] (RP X LM b V) (some (.int out.1)) b (b + LM.length) (RP X LM b out.2) := by
  refine mt_head (cc := cX7_put) (maxL := 5) (ret := (some .int)) (own := RX7) (by decide) rfl rfl (Nat.le_of_ble_eq_true rfl) ?_
  intro p e s m below meth c ls F hr hlocks hnm hR hl
  have hx := F.1.1
  have hb := F.1.2.1
  have hH : Hp (t_fr b (b + LM.length)) s.heap s.heap.size X LM b V s.heap [] := ⟨hR, va_S.rf, rfl⟩
  have hl : lv_has ls 5 [(0, .ref b), (1, .int a1)] := hl
  unfold qX7_put at hE
  refine lv_iload_n hx hb dX7_put_0 rfl (lv_at hl 1 rfl) ?_
  obtain ⟨r1, er1, hE⟩ := lt_el hE
  refine rg_callRS (As := [.int a1]) (rest := []) F (mX7_isStore l X a1 r1 er1) (va_cwS 1 F.1.2.2.2.2 gX7_put_X7_isStore rfl rfl rfl hsX7_isStore ⟨Nat.le_of_ble_eq_true rfl, Nat.le_of_ble_eq_true rfl⟩)  trivial rfl hl.1 (Nat.le_of_ble_eq_true rfl) dX7_put_1 ⟨Nat.zero_le _, Nat.zero_le _⟩ rfl ?_
  refine lv_if_ne (tgt := 11) hx hb dX7_put_4 (by decide) (fun c2 => ?_) (fun c2 => ?_)
  · have hE := (if_neg c2).symm.trans hE
    refine lv_aload_n hx hb dX7_put_11 rfl (lv_at hl 0 rfl) ?_
    obtain ⟨r3, er3, hE⟩ := bd_el hE
    refine rg_callRV (As := []) (rest := []) F (mX7_wrong l X b V  r3 er3) (cwV 0 F.1.2.2.2.2 gX7_put_X7_wrong rfl rfl rfl hvX7_wrong ⟨Nat.le_of_ble_eq_true rfl, Nat.le_of_ble_eq_true rfl⟩) (rp_recv F hH.1 0 rfl (C := RX7) (T := TX7) (N := 8) rfl rfl) hH.1 rfl hl.1 (Nat.le_of_ble_eq_true rfl) dX7_put_12 ⟨Nat.zero_le _, Nat.zero_le _⟩ rfl ?_
    refine lv_sipush (v := (-1006)) hx hb dX7_put_15 (by decide) ?_
    refine lv_icmp_eq (tgt := 25) hx hb dX7_put_18 (by decide) (fun c4 => ?_) (fun c4 => ?_)
    · have hE := (if_pos c4).symm.trans hE
      refine lv_aload_n hx hb dX7_put_25 rfl (lv_at hl 0 rfl) ?_
      refine rg_getr F hH.1 0 (ci := 7) rfl (C := RX7) (T := TX7) (N := 8) rfl iwX7_put_X7 0 (d := 1) (n := 1) rfl rfl (by decide) rfl lkX7_put_0 rfl dX7_put_26 ?_
      refine lv_iconst (v := 4) hx hb dX7_put_29 (by decide) ?_
      refine rg_iald F hH.1 1 rfl (i := 4) (by decide) rfl dX7_put_30 ?_
      refine lv_aload_n hx hb dX7_put_31 rfl (lv_at hl 0 rfl) ?_
      obtain ⟨r5, er5, hE⟩ := bd_el hE
      refine rg_callRV (As := []) (rest := [.int (V 1 4)]) F (mX7_told l X b V  r5 er5) (cwV 0 F.1.2.2.2.2 gX7_put_X7_told rfl rfl rfl hvX7_told ⟨Nat.le_of_ble_eq_true rfl, Nat.le_of_ble_eq_true rfl⟩) (rp_recv F hH.1 0 rfl (C := RX7) (T := TX7) (N := 8) rfl rfl) hH.1 rfl hl.1 (Nat.le_of_ble_eq_true rfl) dX7_put_32 ⟨Nat.zero_le _, Nat.zero_le _⟩ rfl ?_
      refine lv_iadd hx hb dX7_put_35 ?_
      refine lv_bipush (v := 12) hx hb dX7_put_36 (by decide) ?_
      refine lv_icmp_le (tgt := 45) hx hb dX7_put_38 (by decide) (fun c6 => ?_) (fun c6 => ?_)
      · have hE := (if_pos c6).symm.trans hE
        refine lv_aload_n hx hb dX7_put_45 rfl (lv_at hl 0 rfl) ?_
        obtain ⟨U7, eU7, hE⟩ := bd_el hE
        refine rg_callWS (As := []) (rest := []) F hH (fun q h1 h2 => ⟨h1, h2⟩) (mX7_record l X b V  U7 eU7) (cwV 0 F.1.2.2.2.2 gX7_put_X7_record rfl rfl rfl hvX7_record ⟨Nat.le_of_ble_eq_true rfl, Nat.le_of_ble_eq_true rfl⟩) (rp_recv F hH.1 0 rfl (C := RX7) (T := TX7) (N := 8) rfl rfl) hH.1 rfl hl.1 (Nat.le_of_ble_eq_true rfl) dX7_put_46 ⟨Nat.zero_le _, Nat.zero_le _⟩ rfl (fun H locs hH => ?_)
        refine lv_iconst (v := 0) hx hb dX7_put_49 (by decide) ?_
        refine lv_istore_n (lv' := [(2, .int ((0 : Int32))), (0, .ref b), (1, .int a1)]) hx hb dX7_put_50 rfl hl (by decide) rfl (fun ls hl => ?_)
        refine lv_iconst (v := 0) hx hb dX7_put_51 (by decide) ?_
        refine lv_istore_n (lv' := [(3, .int ((0 : Int32))), (2, .int ((0 : Int32))), (0, .ref b), (1, .int a1)]) hx hb dX7_put_52 rfl hl (by decide) rfl (fun ls hl => ?_)
        obtain ⟨x48, hx48, hE⟩ := bd_el hE
        refine it_walk2 (body := lbX7_put_53 a1) (Wh := fun s8 => ∀ (H : Heap) (locs : List Loc) (ls : Array Slot), Hp (t_fr b (b + LM.length)) s.heap s.heap.size X LM b s8.2.2 H locs → lv_has ls 5 [(3, .int s8.2.1), (2, .int s8.1), (0, .ref b), (1, .int a1)] → W p l e rmX7_put s m ([.ref b, .int a1] : List Value).toArray below meth c H locs 0 0 (MQ below (cQw (some (.int out.1)) b (b + LM.length) (RP X LM b out.2)) ([.ref b, .int a1] : List Value).toArray s 0 0 (t_fr b (b + LM.length))) (F0 m 53 ls [])) (We := fun s47 => ∀ (H : Heap) (locs : List Loc) (ls : Array Slot), Hp (t_fr b (b + LM.length)) s.heap s.heap.size X LM b s47.2.2 H locs → lv_has ls 5 [(3, .int s47.2.1), (2, .int s47.1), (0, .ref b), (1, .int a1)] → W p l e rmX7_put s m ([.ref b, .int a1] : List Value).toArray below meth c H locs 0 0 (MQ below (cQw (some (.int out.1)) b (b + LM.length) (RP X LM b out.2)) ([.ref b, .int a1] : List Value).toArray s 0 0 (t_fr b (b + LM.length))) (F0 m 197 ls [])) ?_ _ _ _ hx48 ?_ H locs ls hH (lv_sub hl [0, 1, 2, 3] rfl)
        · intro s8 r9 hE hL9 hR9 H locs ls hH hl
          unfold lbX7_put_53 at hE
          refine lv_iload_n hx hb dX7_put_53 rfl (lv_at hl 0 rfl) ?_
          refine lv_aload_n hx hb dX7_put_54 rfl (lv_at hl 2 rfl) ?_
          refine rg_geti F hH.1 0 (ci := 7) rfl (C := RX7) (T := TX7) (N := 8) rfl iwX7_put_X7 7 (i := 1) rfl (by decide) rfl lkX7_put_1 rfl dX7_put_55 ?_
          refine lv_icmp_gt (tgt := 197) hx hb dX7_put_58 (by decide) (fun c9 => ?_) (fun c9 => ?_)
          · have hE := (if_pos c9).symm.trans hE
            cases hE
            exact hR9 _ rfl H locs ls hH (lv_sub hl [0, 1, 2, 3] rfl)
          · have hE := (if_neg c9).symm.trans hE
            refine lv_iload_n hx hb dX7_put_61 rfl (lv_at hl 0 rfl) ?_
            refine lv_aload_n hx hb dX7_put_62 rfl (lv_at hl 2 rfl) ?_
            refine rg_geti F hH.1 0 (ci := 7) rfl (C := RX7) (T := TX7) (N := 8) rfl iwX7_put_X7 7 (i := 1) rfl (by decide) rfl lkX7_put_1 rfl dX7_put_63 ?_
            refine lv_icmp_ge (tgt := 100) hx hb dX7_put_66 (by decide) (fun c10 => ?_) (fun c10 => ?_)
            · have hE := (if_pos c10).symm.trans hE
              refine lv_aload_n hx hb dX7_put_100 rfl (lv_at hl 2 rfl) ?_
              refine rg_getr F hH.1 0 (ci := 7) rfl (C := RX7) (T := TX7) (N := 8) rfl iwX7_put_X7 0 (d := 1) (n := 1) rfl rfl (by decide) rfl lkX7_put_0 rfl dX7_put_101 ?_
              refine lv_iconst (v := 4) hx hb dX7_put_104 (by decide) ?_
              refine rg_iald F hH.1 1 rfl (i := 4) (by decide) rfl dX7_put_105 ?_
              refine lv_istore (lv' := [(4, .int (s8.2.2 1 4)), (3, .int s8.2.1), (2, .int s8.1), (0, .ref b), (1, .int a1)]) hx hb dX7_put_106 hl (by decide) rfl (fun ls hl => ?_)
              refine lv_aload_n hx hb dX7_put_108 rfl (lv_at hl 3 rfl) ?_
              refine rg_getr F hH.1 0 (ci := 7) rfl (C := RX7) (T := TX7) (N := 8) rfl iwX7_put_X7 0 (d := 1) (n := 1) rfl rfl (by decide) rfl lkX7_put_0 rfl dX7_put_109 ?_
              refine lv_iconst (v := 4) hx hb dX7_put_112 (by decide) ?_
              refine lv_dup2_11 hx hb dX7_put_113 rfl rfl ?_
              refine rg_iald F hH.1 1 rfl (i := 4) (by decide) rfl dX7_put_114 ?_
              refine lv_iconst (v := 1) hx hb dX7_put_115 (by decide) ?_
              refine lv_iadd hx hb dX7_put_116 ?_
              obtain ⟨V11, eV11, hE⟩ := lt_el hE
              refine rg_iast F hH (fun q h1 h2 => ⟨h1, h2⟩) 1 (n := 131) rfl (i := 4) (by decide) rfl dX7_put_117 (fun H locs hH => ?_)
              replace hH := hp_cast eV11 hH
              refine lv_aload_n hx hb dX7_put_118 rfl (lv_at hl 3 rfl) ?_
              refine rg_getr F hH.1 0 (ci := 7) rfl (C := RX7) (T := TX7) (N := 8) rfl iwX7_put_X7 0 (d := 1) (n := 1) rfl rfl (by decide) rfl lkX7_put_0 rfl dX7_put_119 ?_
              refine lv_iload hx hb dX7_put_122 (lv_at hl 0 rfl) ?_
              refine lv_iconst (v := 0) hx hb dX7_put_124 (by decide) ?_
              obtain ⟨r12, er12, hE⟩ := lt_el hE
              refine rg_callRS (As := [.int (s8.2.2 1 4), .int ((0 : Int32))]) (rest := [.ref (b + 1)]) F (mX7_ofWord l X (s8.2.2 1 4) ((0 : Int32)) r12 er12) (va_cwS 2 F.1.2.2.2.2 gX7_put_X7_ofWord rfl rfl rfl hsX7_ofWord ⟨Nat.le_of_ble_eq_true rfl, Nat.le_of_ble_eq_true rfl⟩)  trivial rfl hl.1 (Nat.le_of_ble_eq_true rfl) dX7_put_125 ⟨Nat.zero_le _, Nat.zero_le _⟩ rfl ?_
              refine lv_iload_n hx hb dX7_put_128 rfl (lv_at hl 2 rfl) ?_
              obtain ⟨g13, hE⟩ := gd_el hE
              obtain ⟨V14, eV14, hE⟩ := lt_el hE
              refine rg_iast F hH (fun q h1 h2 => ⟨h1, h2⟩) 1 (n := 131) rfl g13 rfl dX7_put_129 (fun H locs hH => ?_)
              replace hH := hp_cast eV14 hH
              refine lv_aload_n hx hb dX7_put_130 rfl (lv_at hl 3 rfl) ?_
              refine rg_getr F hH.1 0 (ci := 7) rfl (C := RX7) (T := TX7) (N := 8) rfl iwX7_put_X7 0 (d := 1) (n := 1) rfl rfl (by decide) rfl lkX7_put_0 rfl dX7_put_131 ?_
              refine lv_iload hx hb dX7_put_134 (lv_at hl 0 rfl) ?_
              refine lv_iconst (v := 1) hx hb dX7_put_136 (by decide) ?_
              obtain ⟨r15, er15, hE⟩ := lt_el hE
              refine rg_callRS (As := [.int (s8.2.2 1 4), .int ((1 : Int32))]) (rest := [.ref (b + 1)]) F (mX7_ofWord l X (s8.2.2 1 4) ((1 : Int32)) r15 er15) (va_cwS 2 F.1.2.2.2.2 gX7_put_X7_ofWord rfl rfl rfl hsX7_ofWord ⟨Nat.le_of_ble_eq_true rfl, Nat.le_of_ble_eq_true rfl⟩)  trivial rfl hl.1 (Nat.le_of_ble_eq_true rfl) dX7_put_137 ⟨Nat.zero_le _, Nat.zero_le _⟩ rfl ?_
              refine lv_iconst (v := 0) hx hb dX7_put_140 (by decide) ?_
              obtain ⟨g16, hE⟩ := gd_el hE
              obtain ⟨V17, eV17, hE⟩ := lt_el hE
              refine rg_iast F hH (fun q h1 h2 => ⟨h1, h2⟩) 1 (n := 131) rfl g16 rfl dX7_put_141 (fun H locs hH => ?_)
              replace hH := hp_cast eV17 hH
              refine lv_aload_n hx hb dX7_put_142 rfl (lv_at hl 3 rfl) ?_
              refine rg_getr F hH.1 0 (ci := 7) rfl (C := RX7) (T := TX7) (N := 8) rfl iwX7_put_X7 0 (d := 1) (n := 1) rfl rfl (by decide) rfl lkX7_put_0 rfl dX7_put_143 ?_
              refine lv_iload hx hb dX7_put_146 (lv_at hl 0 rfl) ?_
              refine lv_iconst (v := 2) hx hb dX7_put_148 (by decide) ?_
              obtain ⟨r18, er18, hE⟩ := lt_el hE
              refine rg_callRS (As := [.int (s8.2.2 1 4), .int ((2 : Int32))]) (rest := [.ref (b + 1)]) F (mX7_ofWord l X (s8.2.2 1 4) ((2 : Int32)) r18 er18) (va_cwS 2 F.1.2.2.2.2 gX7_put_X7_ofWord rfl rfl rfl hsX7_ofWord ⟨Nat.le_of_ble_eq_true rfl, Nat.le_of_ble_eq_true rfl⟩)  trivial rfl hl.1 (Nat.le_of_ble_eq_true rfl) dX7_put_149 ⟨Nat.zero_le _, Nat.zero_le _⟩ rfl ?_
              refine lv_sipush (v := (-1006)) hx hb dX7_put_152 (by decide) ?_
              obtain ⟨g19, hE⟩ := gd_el hE
              obtain ⟨V20, eV20, hE⟩ := lt_el hE
              refine rg_iast F hH (fun q h1 h2 => ⟨h1, h2⟩) 1 (n := 131) rfl g19 rfl dX7_put_155 (fun H locs hH => ?_)
              replace hH := hp_cast eV20 hH
              refine lv_aload_n hx hb dX7_put_156 rfl (lv_at hl 3 rfl) ?_
              refine rg_getr F hH.1 0 (ci := 7) rfl (C := RX7) (T := TX7) (N := 8) rfl iwX7_put_X7 0 (d := 1) (n := 1) rfl rfl (by decide) rfl lkX7_put_0 rfl dX7_put_157 ?_
              refine lv_iload hx hb dX7_put_160 (lv_at hl 0 rfl) ?_
              refine lv_iconst (v := 3) hx hb dX7_put_162 (by decide) ?_
              obtain ⟨r21, er21, hE⟩ := lt_el hE
              refine rg_callRS (As := [.int (s8.2.2 1 4), .int ((3 : Int32))]) (rest := [.ref (b + 1)]) F (mX7_ofWord l X (s8.2.2 1 4) ((3 : Int32)) r21 er21) (va_cwS 2 F.1.2.2.2.2 gX7_put_X7_ofWord rfl rfl rfl hsX7_ofWord ⟨Nat.le_of_ble_eq_true rfl, Nat.le_of_ble_eq_true rfl⟩)  trivial rfl hl.1 (Nat.le_of_ble_eq_true rfl) dX7_put_163 ⟨Nat.zero_le _, Nat.zero_le _⟩ rfl ?_
              refine lv_sipush (v := (-1006)) hx hb dX7_put_166 (by decide) ?_
              obtain ⟨g22, hE⟩ := gd_el hE
              obtain ⟨V23, eV23, hE⟩ := lt_el hE
              refine rg_iast F hH (fun q h1 h2 => ⟨h1, h2⟩) 1 (n := 131) rfl g22 rfl dX7_put_169 (fun H locs hH => ?_)
              replace hH := hp_cast eV23 hH
              refine lv_aload_n hx hb dX7_put_170 rfl (lv_at hl 3 rfl) ?_
              refine rg_getr F hH.1 0 (ci := 7) rfl (C := RX7) (T := TX7) (N := 8) rfl iwX7_put_X7 0 (d := 1) (n := 1) rfl rfl (by decide) rfl lkX7_put_0 rfl dX7_put_171 ?_
              refine lv_iload hx hb dX7_put_174 (lv_at hl 0 rfl) ?_
              refine lv_iconst (v := 4) hx hb dX7_put_176 (by decide) ?_
              obtain ⟨r24, er24, hE⟩ := lt_el hE
              refine rg_callRS (As := [.int (s8.2.2 1 4), .int ((4 : Int32))]) (rest := [.ref (b + 1)]) F (mX7_ofWord l X (s8.2.2 1 4) ((4 : Int32)) r24 er24) (va_cwS 2 F.1.2.2.2.2 gX7_put_X7_ofWord rfl rfl rfl hsX7_ofWord ⟨Nat.le_of_ble_eq_true rfl, Nat.le_of_ble_eq_true rfl⟩)  trivial rfl hl.1 (Nat.le_of_ble_eq_true rfl) dX7_put_177 ⟨Nat.zero_le _, Nat.zero_le _⟩ rfl ?_
              refine lv_iconst (v := 0) hx hb dX7_put_180 (by decide) ?_
              obtain ⟨g25, hE⟩ := gd_el hE
              obtain ⟨V26, eV26, hE⟩ := lt_el hE
              refine rg_iast F hH (fun q h1 h2 => ⟨h1, h2⟩) 1 (n := 131) rfl g25 rfl dX7_put_181 (fun H locs hH => ?_)
              replace hH := hp_cast eV26 hH
              refine lv_aload_n hx hb dX7_put_182 rfl (lv_at hl 3 rfl) ?_
              refine lv_iload_n hx hb dX7_put_183 rfl (lv_at hl 4 rfl) ?_
              refine lv_iload hx hb dX7_put_184 (lv_at hl 0 rfl) ?_
              obtain ⟨U27, eU27, hE⟩ := bd_el hE
              refine rg_callWS (As := [.int a1, .int (s8.2.2 1 4)]) (rest := []) F hH (fun q h1 h2 => ⟨h1, h2⟩) (mX7_comes l X b V26 a1 (s8.2.2 1 4) U27 eU27) (cwV 2 F.1.2.2.2.2 gX7_put_X7_comes rfl rfl rfl hvX7_comes ⟨Nat.le_of_ble_eq_true rfl, Nat.le_of_ble_eq_true rfl⟩) (rp_recv F hH.1 0 rfl (C := RX7) (T := TX7) (N := 8) rfl rfl) hH.1 rfl hl.1 (Nat.le_of_ble_eq_true rfl) dX7_put_186 ⟨Nat.zero_le _, Nat.zero_le _⟩ rfl (fun H locs hH => ?_)
              refine lv_iconst (v := 0) hx hb dX7_put_189 (by decide) ?_
              refine lv_istore_n (lv' := [(2, .int ((0 : Int32))), (4, .int (s8.2.2 1 4)), (3, .int s8.2.1), (0, .ref b), (1, .int a1)]) hx hb dX7_put_190 rfl hl (by decide) rfl (fun ls hl => ?_)
              refine lv_iinc (v := s8.2.1 + 1) (lv' := [(3, .int (s8.2.1 + 1)), (2, .int ((0 : Int32))), (4, .int (s8.2.2 1 4)), (0, .ref b), (1, .int a1)]) hx hb dX7_put_191 hl (k := 2) rfl (congrArg (fun q => s8.2.1 + q) (by decide)) (by decide) rfl (fun ls hl => ?_)
              refine lv_goto (tgt := 53) hx hb dX7_put_194 (by decide) ?_
              cases hE
              exact hL9 _ rfl H locs ls hH (lv_sub hl [0, 1, 3, 4] rfl)
            · have hE := (if_neg c10).symm.trans hE
              refine lv_aload_n hx hb dX7_put_69 rfl (lv_at hl 2 rfl) ?_
              refine rg_getr F hH.1 0 (ci := 7) rfl (C := RX7) (T := TX7) (N := 8) rfl iwX7_put_X7 6 (d := 6) (n := 6) rfl rfl (by decide) rfl lkX7_put_2 rfl dX7_put_70 ?_
              refine lv_iload_n hx hb dX7_put_73 rfl (lv_at hl 0 rfl) ?_
              obtain ⟨g28, hE⟩ := gd_el hE
              refine rg_iald F hH.1 6 (n := 60) rfl g28 rfl dX7_put_74 ?_
              refine lv_bipush (v := 44) hx hb dX7_put_75 (by decide) ?_
              refine lv_icmp_eq (tgt := 100) hx hb dX7_put_77 (by decide) (fun c29 => ?_) (fun c29 => ?_)
              · have hE := (if_pos c29).symm.trans hE
                refine lv_aload_n hx hb dX7_put_100 rfl (lv_at hl 2 rfl) ?_
                refine rg_getr F hH.1 0 (ci := 7) rfl (C := RX7) (T := TX7) (N := 8) rfl iwX7_put_X7 0 (d := 1) (n := 1) rfl rfl (by decide) rfl lkX7_put_0 rfl dX7_put_101 ?_
                refine lv_iconst (v := 4) hx hb dX7_put_104 (by decide) ?_
                refine rg_iald F hH.1 1 rfl (i := 4) (by decide) rfl dX7_put_105 ?_
                refine lv_istore (lv' := [(4, .int (s8.2.2 1 4)), (3, .int s8.2.1), (2, .int s8.1), (0, .ref b), (1, .int a1)]) hx hb dX7_put_106 hl (by decide) rfl (fun ls hl => ?_)
                refine lv_aload_n hx hb dX7_put_108 rfl (lv_at hl 3 rfl) ?_
                refine rg_getr F hH.1 0 (ci := 7) rfl (C := RX7) (T := TX7) (N := 8) rfl iwX7_put_X7 0 (d := 1) (n := 1) rfl rfl (by decide) rfl lkX7_put_0 rfl dX7_put_109 ?_
                refine lv_iconst (v := 4) hx hb dX7_put_112 (by decide) ?_
                refine lv_dup2_11 hx hb dX7_put_113 rfl rfl ?_
                refine rg_iald F hH.1 1 rfl (i := 4) (by decide) rfl dX7_put_114 ?_
                refine lv_iconst (v := 1) hx hb dX7_put_115 (by decide) ?_
                refine lv_iadd hx hb dX7_put_116 ?_
                obtain ⟨V30, eV30, hE⟩ := lt_el hE
                refine rg_iast F hH (fun q h1 h2 => ⟨h1, h2⟩) 1 (n := 131) rfl (i := 4) (by decide) rfl dX7_put_117 (fun H locs hH => ?_)
                replace hH := hp_cast eV30 hH
                refine lv_aload_n hx hb dX7_put_118 rfl (lv_at hl 3 rfl) ?_
                refine rg_getr F hH.1 0 (ci := 7) rfl (C := RX7) (T := TX7) (N := 8) rfl iwX7_put_X7 0 (d := 1) (n := 1) rfl rfl (by decide) rfl lkX7_put_0 rfl dX7_put_119 ?_
                refine lv_iload hx hb dX7_put_122 (lv_at hl 0 rfl) ?_
                refine lv_iconst (v := 0) hx hb dX7_put_124 (by decide) ?_
                obtain ⟨r31, er31, hE⟩ := lt_el hE
                refine rg_callRS (As := [.int (s8.2.2 1 4), .int ((0 : Int32))]) (rest := [.ref (b + 1)]) F (mX7_ofWord l X (s8.2.2 1 4) ((0 : Int32)) r31 er31) (va_cwS 2 F.1.2.2.2.2 gX7_put_X7_ofWord rfl rfl rfl hsX7_ofWord ⟨Nat.le_of_ble_eq_true rfl, Nat.le_of_ble_eq_true rfl⟩)  trivial rfl hl.1 (Nat.le_of_ble_eq_true rfl) dX7_put_125 ⟨Nat.zero_le _, Nat.zero_le _⟩ rfl ?_
                refine lv_iload_n hx hb dX7_put_128 rfl (lv_at hl 2 rfl) ?_
                obtain ⟨g32, hE⟩ := gd_el hE
                obtain ⟨V33, eV33, hE⟩ := lt_el hE
                refine rg_iast F hH (fun q h1 h2 => ⟨h1, h2⟩) 1 (n := 131) rfl g32 rfl dX7_put_129 (fun H locs hH => ?_)
                replace hH := hp_cast eV33 hH
                refine lv_aload_n hx hb dX7_put_130 rfl (lv_at hl 3 rfl) ?_
                refine rg_getr F hH.1 0 (ci := 7) rfl (C := RX7) (T := TX7) (N := 8) rfl iwX7_put_X7 0 (d := 1) (n := 1) rfl rfl (by decide) rfl lkX7_put_0 rfl dX7_put_131 ?_
                refine lv_iload hx hb dX7_put_134 (lv_at hl 0 rfl) ?_
                refine lv_iconst (v := 1) hx hb dX7_put_136 (by decide) ?_
                obtain ⟨r34, er34, hE⟩ := lt_el hE
                refine rg_callRS (As := [.int (s8.2.2 1 4), .int ((1 : Int32))]) (rest := [.ref (b + 1)]) F (mX7_ofWord l X (s8.2.2 1 4) ((1 : Int32)) r34 er34) (va_cwS 2 F.1.2.2.2.2 gX7_put_X7_ofWord rfl rfl rfl hsX7_ofWord ⟨Nat.le_of_ble_eq_true rfl, Nat.le_of_ble_eq_true rfl⟩)  trivial rfl hl.1 (Nat.le_of_ble_eq_true rfl) dX7_put_137 ⟨Nat.zero_le _, Nat.zero_le _⟩ rfl ?_
                refine lv_iconst (v := 0) hx hb dX7_put_140 (by decide) ?_
                obtain ⟨g35, hE⟩ := gd_el hE
                obtain ⟨V36, eV36, hE⟩ := lt_el hE
                refine rg_iast F hH (fun q h1 h2 => ⟨h1, h2⟩) 1 (n := 131) rfl g35 rfl dX7_put_141 (fun H locs hH => ?_)
                replace hH := hp_cast eV36 hH
                refine lv_aload_n hx hb dX7_put_142 rfl (lv_at hl 3 rfl) ?_
                refine rg_getr F hH.1 0 (ci := 7) rfl (C := RX7) (T := TX7) (N := 8) rfl iwX7_put_X7 0 (d := 1) (n := 1) rfl rfl (by decide) rfl lkX7_put_0 rfl dX7_put_143 ?_
                refine lv_iload hx hb dX7_put_146 (lv_at hl 0 rfl) ?_
                refine lv_iconst (v := 2) hx hb dX7_put_148 (by decide) ?_
                obtain ⟨r37, er37, hE⟩ := lt_el hE
                refine rg_callRS (As := [.int (s8.2.2 1 4), .int ((2 : Int32))]) (rest := [.ref (b + 1)]) F (mX7_ofWord l X (s8.2.2 1 4) ((2 : Int32)) r37 er37) (va_cwS 2 F.1.2.2.2.2 gX7_put_X7_ofWord rfl rfl rfl hsX7_ofWord ⟨Nat.le_of_ble_eq_true rfl, Nat.le_of_ble_eq_true rfl⟩)  trivial rfl hl.1 (Nat.le_of_ble_eq_true rfl) dX7_put_149 ⟨Nat.zero_le _, Nat.zero_le _⟩ rfl ?_
                refine lv_sipush (v := (-1006)) hx hb dX7_put_152 (by decide) ?_
                obtain ⟨g38, hE⟩ := gd_el hE
                obtain ⟨V39, eV39, hE⟩ := lt_el hE
                refine rg_iast F hH (fun q h1 h2 => ⟨h1, h2⟩) 1 (n := 131) rfl g38 rfl dX7_put_155 (fun H locs hH => ?_)
                replace hH := hp_cast eV39 hH
                refine lv_aload_n hx hb dX7_put_156 rfl (lv_at hl 3 rfl) ?_
                refine rg_getr F hH.1 0 (ci := 7) rfl (C := RX7) (T := TX7) (N := 8) rfl iwX7_put_X7 0 (d := 1) (n := 1) rfl rfl (by decide) rfl lkX7_put_0 rfl dX7_put_157 ?_
                refine lv_iload hx hb dX7_put_160 (lv_at hl 0 rfl) ?_
                refine lv_iconst (v := 3) hx hb dX7_put_162 (by decide) ?_
                obtain ⟨r40, er40, hE⟩ := lt_el hE
                refine rg_callRS (As := [.int (s8.2.2 1 4), .int ((3 : Int32))]) (rest := [.ref (b + 1)]) F (mX7_ofWord l X (s8.2.2 1 4) ((3 : Int32)) r40 er40) (va_cwS 2 F.1.2.2.2.2 gX7_put_X7_ofWord rfl rfl rfl hsX7_ofWord ⟨Nat.le_of_ble_eq_true rfl, Nat.le_of_ble_eq_true rfl⟩)  trivial rfl hl.1 (Nat.le_of_ble_eq_true rfl) dX7_put_163 ⟨Nat.zero_le _, Nat.zero_le _⟩ rfl ?_
                refine lv_sipush (v := (-1006)) hx hb dX7_put_166 (by decide) ?_
                obtain ⟨g41, hE⟩ := gd_el hE
                obtain ⟨V42, eV42, hE⟩ := lt_el hE
                refine rg_iast F hH (fun q h1 h2 => ⟨h1, h2⟩) 1 (n := 131) rfl g41 rfl dX7_put_169 (fun H locs hH => ?_)
                replace hH := hp_cast eV42 hH
                refine lv_aload_n hx hb dX7_put_170 rfl (lv_at hl 3 rfl) ?_
                refine rg_getr F hH.1 0 (ci := 7) rfl (C := RX7) (T := TX7) (N := 8) rfl iwX7_put_X7 0 (d := 1) (n := 1) rfl rfl (by decide) rfl lkX7_put_0 rfl dX7_put_171 ?_
                refine lv_iload hx hb dX7_put_174 (lv_at hl 0 rfl) ?_
                refine lv_iconst (v := 4) hx hb dX7_put_176 (by decide) ?_
                obtain ⟨r43, er43, hE⟩ := lt_el hE
                refine rg_callRS (As := [.int (s8.2.2 1 4), .int ((4 : Int32))]) (rest := [.ref (b + 1)]) F (mX7_ofWord l X (s8.2.2 1 4) ((4 : Int32)) r43 er43) (va_cwS 2 F.1.2.2.2.2 gX7_put_X7_ofWord rfl rfl rfl hsX7_ofWord ⟨Nat.le_of_ble_eq_true rfl, Nat.le_of_ble_eq_true rfl⟩)  trivial rfl hl.1 (Nat.le_of_ble_eq_true rfl) dX7_put_177 ⟨Nat.zero_le _, Nat.zero_le _⟩ rfl ?_
                refine lv_iconst (v := 0) hx hb dX7_put_180 (by decide) ?_
                obtain ⟨g44, hE⟩ := gd_el hE
                obtain ⟨V45, eV45, hE⟩ := lt_el hE
                refine rg_iast F hH (fun q h1 h2 => ⟨h1, h2⟩) 1 (n := 131) rfl g44 rfl dX7_put_181 (fun H locs hH => ?_)
                replace hH := hp_cast eV45 hH
                refine lv_aload_n hx hb dX7_put_182 rfl (lv_at hl 3 rfl) ?_
                refine lv_iload_n hx hb dX7_put_183 rfl (lv_at hl 4 rfl) ?_
                refine lv_iload hx hb dX7_put_184 (lv_at hl 0 rfl) ?_
                obtain ⟨U46, eU46, hE⟩ := bd_el hE
                refine rg_callWS (As := [.int a1, .int (s8.2.2 1 4)]) (rest := []) F hH (fun q h1 h2 => ⟨h1, h2⟩) (mX7_comes l X b V45 a1 (s8.2.2 1 4) U46 eU46) (cwV 2 F.1.2.2.2.2 gX7_put_X7_comes rfl rfl rfl hvX7_comes ⟨Nat.le_of_ble_eq_true rfl, Nat.le_of_ble_eq_true rfl⟩) (rp_recv F hH.1 0 rfl (C := RX7) (T := TX7) (N := 8) rfl rfl) hH.1 rfl hl.1 (Nat.le_of_ble_eq_true rfl) dX7_put_186 ⟨Nat.zero_le _, Nat.zero_le _⟩ rfl (fun H locs hH => ?_)
                refine lv_iconst (v := 0) hx hb dX7_put_189 (by decide) ?_
                refine lv_istore_n (lv' := [(2, .int ((0 : Int32))), (4, .int (s8.2.2 1 4)), (3, .int s8.2.1), (0, .ref b), (1, .int a1)]) hx hb dX7_put_190 rfl hl (by decide) rfl (fun ls hl => ?_)
                refine lv_iinc (v := s8.2.1 + 1) (lv' := [(3, .int (s8.2.1 + 1)), (2, .int ((0 : Int32))), (4, .int (s8.2.2 1 4)), (0, .ref b), (1, .int a1)]) hx hb dX7_put_191 hl (k := 2) rfl (congrArg (fun q => s8.2.1 + q) (by decide)) (by decide) rfl (fun ls hl => ?_)
                refine lv_goto (tgt := 53) hx hb dX7_put_194 (by decide) ?_
                cases hE
                exact hL9 _ rfl H locs ls hH (lv_sub hl [0, 1, 3, 4] rfl)
              · have hE := (if_neg c29).symm.trans hE
                refine lv_bipush (v := 27) hx hb dX7_put_80 (by decide) ?_
                refine lv_iload_n hx hb dX7_put_82 rfl (lv_at hl 1 rfl) ?_
                refine lv_imul hx hb dX7_put_83 ?_
                refine lv_aload_n hx hb dX7_put_84 rfl (lv_at hl 2 rfl) ?_
                refine rg_getr F hH.1 0 (ci := 7) rfl (C := RX7) (T := TX7) (N := 8) rfl iwX7_put_X7 6 (d := 6) (n := 6) rfl rfl (by decide) rfl lkX7_put_2 rfl dX7_put_85 ?_
                refine lv_iload_n hx hb dX7_put_88 rfl (lv_at hl 0 rfl) ?_
                refine rg_iald F hH.1 6 (n := 60) rfl g28 rfl dX7_put_89 ?_
                refine lv_iadd hx hb dX7_put_90 ?_
                refine lv_bipush (v := 97) hx hb dX7_put_91 (by decide) ?_
                refine lv_isub hx hb dX7_put_93 ?_
                refine lv_iconst (v := 1) hx hb dX7_put_94 (by decide) ?_
                refine lv_iadd hx hb dX7_put_95 ?_
                refine lv_istore_n (lv' := [(2, .int ((((((27 : Int32)) * s8.1) + (s8.2.2 6 s8.2.1.toNatClampNeg)) - ((97 : Int32))) + ((1 : Int32)))), (3, .int s8.2.1), (0, .ref b), (1, .int a1)]) hx hb dX7_put_96 rfl hl (by decide) rfl (fun ls hl => ?_)
                refine lv_goto (tgt := 191) hx hb dX7_put_97 (by decide) ?_
                refine lv_iinc (v := s8.2.1 + 1) (lv' := [(3, .int (s8.2.1 + 1)), (2, .int ((((((27 : Int32)) * s8.1) + (s8.2.2 6 s8.2.1.toNatClampNeg)) - ((97 : Int32))) + ((1 : Int32)))), (0, .ref b), (1, .int a1)]) hx hb dX7_put_191 hl (k := 1) rfl (congrArg (fun q => s8.2.1 + q) (by decide)) (by decide) rfl (fun ls hl => ?_)
                refine lv_goto (tgt := 53) hx hb dX7_put_194 (by decide) ?_
                cases hE
                exact hL9 _ rfl H locs ls hH (lv_sub hl [0, 1, 2, 3] rfl)
        · intro H locs ls hH hl
          refine lv_aload_n hx hb dX7_put_197 rfl (lv_at hl 2 rfl) ?_
          refine lv_iconst (v := 0) hx hb dX7_put_198 (by decide) ?_
          obtain ⟨V49, eV49, hE⟩ := lt_el hE
          refine rg_put F hH (fun q h1 h2 => ⟨h1, h2⟩) 0 (ci := 7) rfl (C := RX7) (T := TX7) (N := 8) rfl iwX7_put_X7 tyX7 tyX7_ok nmX7 7 (i := 1) rfl (by decide) (by decide) rfl rfl (by decide +kernel) lkX7_put_1 rfl dX7_put_199 (fun H locs hH hfr => ?_)
          replace hH := hp_cast eV49 hH
          refine lv_aload_n hx hb dX7_put_202 rfl (lv_at hl 2 rfl) ?_
          refine rg_getr F hH.1 0 (ci := 7) rfl (C := RX7) (T := TX7) (N := 8) rfl iwX7_put_X7 0 (d := 1) (n := 1) rfl rfl (by decide) rfl lkX7_put_0 rfl dX7_put_203 ?_
          refine lv_iconst (v := 4) hx hb dX7_put_206 (by decide) ?_
          refine rg_iald F hH.1 1 rfl (i := 4) (by decide) rfl dX7_put_207 ?_
          have hE := Option.some.inj hE
          subst hE
          exact W.iret (v := V49 1 4) hx hb hr (fun t ht _ => mw_post hH ht) hH.2.1.2.2 dX7_put_208
      · have hE := (if_neg c6).symm.trans hE
        refine lv_sipush (v := (-1004)) hx hb dX7_put_41 (by decide) ?_
        have hE := Option.some.inj hE
        subst hE
        exact W.iret (v := (-1004 : Int32)) hx hb hr (fun t ht _ => mw_post hH ht) hH.2.1.2.2 dX7_put_44
    · have hE := (if_neg c4).symm.trans hE
      refine lv_sipush (v := (-1003)) hx hb dX7_put_21 (by decide) ?_
      have hE := Option.some.inj hE
      subst hE
      exact W.iret (v := (-1003 : Int32)) hx hb hr (fun t ht _ => mw_post hH ht) hH.2.1.2.2 dX7_put_24
  · have hE := (if_pos c2).symm.trans hE
    refine lv_sipush (v := (-1001)) hx hb dX7_put_7 (by decide) ?_
    have hE := Option.some.inj hE
    subst hE
    exact W.iret (v := (-1001 : Int32)) hx hb hr (fun t ht _ => mw_post hH ht) hH.2.1.2.2 dX7_put_10
set_option maxRecDepth 20000 in
theorem lkX7_undo_0 : Cond.fieldLink RX7 40 "TideWordsModel" "kept" "I" ∈ wsX7_undo := by decide +kernel
set_option maxRecDepth 20000 in
theorem iwX7_undo_X7 : ∀ w ∈ wsX70, w ∈ wsX7_undo := by decide +kernel
set_option maxRecDepth 20000 in
theorem lkX7_undo_1 : Cond.fieldLink RX7 7 "TideWordsModel" "s" "[I" ∈ wsX7_undo := by decide +kernel
set_option maxRecDepth 20000 in
theorem lkX7_undo_2 : Cond.fieldLink RX7 16 "TideWordsModel" "history" "[I" ∈ wsX7_undo := by decide +kernel
def lbX7_undo_23 (s3 : Int32 × Mem) : Option ((Int32 × Mem) ⊕ (Int32 × Mem)) := if (131 : Int32) ≤ s3.1 then some (.inr (s3.1, s3.2)) else if (((131 : Int32)) * (s3.2 0 0)) + s3.1 < 0 ∨ 786 ≤ ((((131 : Int32)) * (s3.2 0 0)) + s3.1).toNatClampNeg then none else if s3.1 < 0 ∨ 131 ≤ s3.1.toNatClampNeg then none else lt (sv s3.2 1 s3.1.toNatClampNeg (s3.2 3 ((((131 : Int32)) * (s3.2 0 0)) + s3.1).toNatClampNeg)) (fun V7 => some (.inl (s3.1 + 1, V7)))
def qX7_undo (V : Mem) : Option (Int32 × Mem) := if V 0 0 = 0 then some (((-1005 : Int32), V)) else lt (sv V 0 0 ((V 0 0) - ((1 : Int32)))) (fun V2 => (it (lbX7_undo_23) fuel ((0 : Int32), V2)).bind (fun s8 => some ((s8.2 0 0, s8.2))))
abbrev rmX7_undo : Room := { frames := 0, cells := 0, slots := 0, locals := 0 }
set_option maxHeartbeats 4000000 in
set_option maxRecDepth 100000 in
theorem mX7_undo (l : Launch) (X : kX) (b : Nat) (V : Mem) (out : Int32 × Mem) (hE : qX7_undo V = some out) : MW l yX7_undo wsX7_undo rmX7_undo X [.ref b] (RP X LM b V) (some (.int out.1)) b (b + LM.length) (RP X LM b out.2) := by
  refine mt_head (cc := cX7_undo) (maxL := 2) (ret := (some .int)) (own := RX7) (by decide) rfl rfl (Nat.le_of_ble_eq_true rfl) ?_
  intro p e s m below meth c ls F hr hlocks hnm hR hl
  have hx := F.1.1
  have hb := F.1.2.1
  have hH : Hp (t_fr b (b + LM.length)) s.heap s.heap.size X LM b V s.heap [] := ⟨hR, va_S.rf, rfl⟩
  have hl : lv_has ls 2 [(0, .ref b)] := hl
  unfold qX7_undo at hE
  refine lv_aload_n hx hb dX7_undo_0 rfl (lv_at hl 0 rfl) ?_
  refine rg_geti F hH.1 0 (ci := 7) rfl (C := RX7) (T := TX7) (N := 8) rfl iwX7_undo_X7 3 (i := 0) rfl (by decide) rfl lkX7_undo_0 rfl dX7_undo_1 ?_
  refine lv_if_ne (tgt := 11) hx hb dX7_undo_4 (by decide) (fun c1 => ?_) (fun c1 => ?_)
  · have hE := (if_neg c1).symm.trans hE
    refine lv_aload_n hx hb dX7_undo_11 rfl (lv_at hl 0 rfl) ?_
    refine lv_dup hx hb dX7_undo_12 rfl ?_
    refine rg_geti F hH.1 0 (ci := 7) rfl (C := RX7) (T := TX7) (N := 8) rfl iwX7_undo_X7 3 (i := 0) rfl (by decide) rfl lkX7_undo_0 rfl dX7_undo_13 ?_
    refine lv_iconst (v := 1) hx hb dX7_undo_16 (by decide) ?_
    refine lv_isub hx hb dX7_undo_17 ?_
    obtain ⟨V2, eV2, hE⟩ := lt_el hE
    refine rg_put F hH (fun q h1 h2 => ⟨h1, h2⟩) 0 (ci := 7) rfl (C := RX7) (T := TX7) (N := 8) rfl iwX7_undo_X7 tyX7 tyX7_ok nmX7 3 (i := 0) rfl (by decide) (by decide) rfl rfl (by decide +kernel) lkX7_undo_0 rfl dX7_undo_18 (fun H locs hH hfr => ?_)
    replace hH := hp_cast eV2 hH
    refine lv_iconst (v := 0) hx hb dX7_undo_21 (by decide) ?_
    refine lv_istore_n (lv' := [(1, .int ((0 : Int32))), (0, .ref b)]) hx hb dX7_undo_22 rfl hl (by decide) rfl (fun ls hl => ?_)
    obtain ⟨x9, hx9, hE⟩ := bd_el hE
    refine it_walk2 (body := lbX7_undo_23) (Wh := fun s3 => ∀ (H : Heap) (locs : List Loc) (ls : Array Slot), Hp (t_fr b (b + LM.length)) s.heap s.heap.size X LM b s3.2 H locs → lv_has ls 2 [(1, .int s3.1), (0, .ref b)] → W p l e rmX7_undo s m ([.ref b] : List Value).toArray below meth c H locs 0 0 (MQ below (cQw (some (.int out.1)) b (b + LM.length) (RP X LM b out.2)) ([.ref b] : List Value).toArray s 0 0 (t_fr b (b + LM.length))) (F0 m 23 ls [])) (We := fun s8 => ∀ (H : Heap) (locs : List Loc) (ls : Array Slot), Hp (t_fr b (b + LM.length)) s.heap s.heap.size X LM b s8.2 H locs → lv_has ls 2 [(1, .int s8.1), (0, .ref b)] → W p l e rmX7_undo s m ([.ref b] : List Value).toArray below meth c H locs 0 0 (MQ below (cQw (some (.int out.1)) b (b + LM.length) (RP X LM b out.2)) ([.ref b] : List Value).toArray s 0 0 (t_fr b (b + LM.length))) (F0 m 57 ls [])) ?_ _ _ _ hx9 ?_ H locs ls hH (lv_sub hl [0, 1] rfl)
    · intro s3 r9 hE hL9 hR9 H locs ls hH hl
      unfold lbX7_undo_23 at hE
      refine lv_iload_n hx hb dX7_undo_23 rfl (lv_at hl 0 rfl) ?_
      refine lv_sipush (v := 131) hx hb dX7_undo_24 (by decide) ?_
      refine lv_icmp_ge (tgt := 57) hx hb dX7_undo_27 (by decide) (fun c4 => ?_) (fun c4 => ?_)
      · have hE := (if_pos c4).symm.trans hE
        cases hE
        exact hR9 _ rfl H locs ls hH (lv_sub hl [0, 1] rfl)
      · have hE := (if_neg c4).symm.trans hE
        refine lv_aload_n hx hb dX7_undo_30 rfl (lv_at hl 1 rfl) ?_
        refine rg_getr F hH.1 0 (ci := 7) rfl (C := RX7) (T := TX7) (N := 8) rfl iwX7_undo_X7 0 (d := 1) (n := 1) rfl rfl (by decide) rfl lkX7_undo_1 rfl dX7_undo_31 ?_
        refine lv_iload_n hx hb dX7_undo_34 rfl (lv_at hl 0 rfl) ?_
        refine lv_aload_n hx hb dX7_undo_35 rfl (lv_at hl 1 rfl) ?_
        refine rg_getr F hH.1 0 (ci := 7) rfl (C := RX7) (T := TX7) (N := 8) rfl iwX7_undo_X7 2 (d := 3) (n := 3) rfl rfl (by decide) rfl lkX7_undo_2 rfl dX7_undo_36 ?_
        refine lv_sipush (v := 131) hx hb dX7_undo_39 (by decide) ?_
        refine lv_aload_n hx hb dX7_undo_42 rfl (lv_at hl 1 rfl) ?_
        refine rg_geti F hH.1 0 (ci := 7) rfl (C := RX7) (T := TX7) (N := 8) rfl iwX7_undo_X7 3 (i := 0) rfl (by decide) rfl lkX7_undo_0 rfl dX7_undo_43 ?_
        refine lv_imul hx hb dX7_undo_46 ?_
        refine lv_iload_n hx hb dX7_undo_47 rfl (lv_at hl 0 rfl) ?_
        refine lv_iadd hx hb dX7_undo_48 ?_
        obtain ⟨g5, hE⟩ := gd_el hE
        refine rg_iald F hH.1 3 (n := 786) rfl g5 rfl dX7_undo_49 ?_
        obtain ⟨g6, hE⟩ := gd_el hE
        obtain ⟨V7, eV7, hE⟩ := lt_el hE
        refine rg_iast F hH (fun q h1 h2 => ⟨h1, h2⟩) 1 (n := 131) rfl g6 rfl dX7_undo_50 (fun H locs hH => ?_)
        replace hH := hp_cast eV7 hH
        refine lv_iinc (v := s3.1 + 1) (lv' := [(1, .int (s3.1 + 1)), (0, .ref b)]) hx hb dX7_undo_51 hl (k := 0) rfl (congrArg (fun q => s3.1 + q) (by decide)) (by decide) rfl (fun ls hl => ?_)
        refine lv_goto (tgt := 23) hx hb dX7_undo_54 (by decide) ?_
        cases hE
        exact hL9 _ rfl H locs ls hH (lv_sub hl [0, 1] rfl)
    · intro H locs ls hH hl
      refine lv_aload_n hx hb dX7_undo_57 rfl (lv_at hl 1 rfl) ?_
      refine rg_geti F hH.1 0 (ci := 7) rfl (C := RX7) (T := TX7) (N := 8) rfl iwX7_undo_X7 3 (i := 0) rfl (by decide) rfl lkX7_undo_0 rfl dX7_undo_58 ?_
      have hE := Option.some.inj hE
      subst hE
      exact W.iret (v := x9.2 0 0) hx hb hr (fun t ht _ => mw_post hH ht) hH.2.1.2.2 dX7_undo_61
  · have hE := (if_pos c1).symm.trans hE
    refine lv_sipush (v := (-1005)) hx hb dX7_undo_7 (by decide) ?_
    have hE := Option.some.inj hE
    subst hE
    exact W.iret (v := (-1005 : Int32)) hx hb hr (fun t ht _ => mw_post hH ht) hH.2.1.2.2 dX7_undo_10
set_option maxRecDepth 20000 in
theorem lkX7_save_0 : Cond.fieldLink RX7 19 "TideWordsModel" "slots" "[I" ∈ wsX7_save := by decide +kernel
set_option maxRecDepth 20000 in
theorem iwX7_save_X7 : ∀ w ∈ wsX70, w ∈ wsX7_save := by decide +kernel
set_option maxRecDepth 20000 in
theorem lkX7_save_1 : Cond.fieldLink RX7 7 "TideWordsModel" "s" "[I" ∈ wsX7_save := by decide +kernel
set_option maxRecDepth 20000 in
theorem lkX7_save_2 : Cond.fieldLink RX7 22 "TideWordsModel" "isSaved" "[Z" ∈ wsX7_save := by decide +kernel
def lbX7_save_15 (a1 : Int32) (s3 : Int32 × Mem) : Option ((Int32 × Mem) ⊕ (Int32 × Mem)) := if (131 : Int32) ≤ s3.1 then some (.inr (s3.1, s3.2)) else if s3.1 < 0 ∨ 131 ≤ s3.1.toNatClampNeg then none else if (((131 : Int32)) * a1) + s3.1 < 0 ∨ 262 ≤ ((((131 : Int32)) * a1) + s3.1).toNatClampNeg then none else lt (sv s3.2 4 ((((131 : Int32)) * a1) + s3.1).toNatClampNeg (s3.2 1 s3.1.toNatClampNeg)) (fun V7 => some (.inl (s3.1 + 1, V7)))
def qX7_save (V : Mem) (a1 : Int32) : Option (Int32 × Mem) := lt (fX7_in a1 ((0 : Int32)) ((1 : Int32))) (fun r1 => if r1 = 0 then some (((-1002 : Int32), V)) else (it (lbX7_save_15 a1) fuel ((0 : Int32), V)).bind (fun s8 => if a1 < 0 ∨ 2 ≤ a1.toNatClampNeg then none else lt (sv s8.2 5 a1.toNatClampNeg ((1 : Int32))) (fun V11 => some ((V11 1 0, V11)))))
abbrev rmX7_save : Room := { frames := 1, cells := 0, slots := 0, locals := 22 }
set_option maxHeartbeats 4000000 in
set_option maxRecDepth 100000 in
theorem mX7_save (l : Launch) (X : kX) (b : Nat) (V : Mem) (a1 : Int32) (out : Int32 × Mem) (hE : qX7_save V a1 = some out) : MW l yX7_save wsX7_save rmX7_save X [.ref b, .int a1] (RP X LM b V) (some (.int out.1)) b (b + LM.length) (RP X LM b out.2) := by
  refine mt_head (cc := cX7_save) (maxL := 3) (ret := (some .int)) (own := RX7) (by decide) rfl rfl (Nat.le_of_ble_eq_true rfl) ?_
  intro p e s m below meth c ls F hr hlocks hnm hR hl
  have hx := F.1.1
  have hb := F.1.2.1
  have hH : Hp (t_fr b (b + LM.length)) s.heap s.heap.size X LM b V s.heap [] := ⟨hR, va_S.rf, rfl⟩
  have hl : lv_has ls 3 [(0, .ref b), (1, .int a1)] := hl
  unfold qX7_save at hE
  refine lv_iload_n hx hb dX7_save_0 rfl (lv_at hl 1 rfl) ?_
  refine lv_iconst (v := 0) hx hb dX7_save_1 (by decide) ?_
  refine lv_iconst (v := 1) hx hb dX7_save_2 (by decide) ?_
  obtain ⟨r1, er1, hE⟩ := lt_el hE
  refine rg_callRS (As := [.int a1, .int ((0 : Int32)), .int ((1 : Int32))]) (rest := []) F (mX7_in l X a1 ((0 : Int32)) ((1 : Int32)) r1 er1) (va_cwS 3 F.1.2.2.2.2 gX7_save_X7_in rfl rfl rfl hsX7_in ⟨Nat.le_of_ble_eq_true rfl, Nat.le_of_ble_eq_true rfl⟩)  trivial rfl hl.1 (Nat.le_of_ble_eq_true rfl) dX7_save_3 ⟨Nat.zero_le _, Nat.zero_le _⟩ rfl ?_
  refine lv_if_ne (tgt := 13) hx hb dX7_save_6 (by decide) (fun c2 => ?_) (fun c2 => ?_)
  · have hE := (if_neg c2).symm.trans hE
    refine lv_iconst (v := 0) hx hb dX7_save_13 (by decide) ?_
    refine lv_istore_n (lv' := [(2, .int ((0 : Int32))), (0, .ref b), (1, .int a1)]) hx hb dX7_save_14 rfl hl (by decide) rfl (fun ls hl => ?_)
    obtain ⟨x9, hx9, hE⟩ := bd_el hE
    refine it_walk2 (body := lbX7_save_15 a1) (Wh := fun s3 => ∀ (H : Heap) (locs : List Loc) (ls : Array Slot), Hp (t_fr b (b + LM.length)) s.heap s.heap.size X LM b s3.2 H locs → lv_has ls 3 [(2, .int s3.1), (0, .ref b), (1, .int a1)] → W p l e rmX7_save s m ([.ref b, .int a1] : List Value).toArray below meth c H locs 0 0 (MQ below (cQw (some (.int out.1)) b (b + LM.length) (RP X LM b out.2)) ([.ref b, .int a1] : List Value).toArray s 0 0 (t_fr b (b + LM.length))) (F0 m 15 ls [])) (We := fun s8 => ∀ (H : Heap) (locs : List Loc) (ls : Array Slot), Hp (t_fr b (b + LM.length)) s.heap s.heap.size X LM b s8.2 H locs → lv_has ls 3 [(2, .int s8.1), (0, .ref b), (1, .int a1)] → W p l e rmX7_save s m ([.ref b, .int a1] : List Value).toArray below meth c H locs 0 0 (MQ below (cQw (some (.int out.1)) b (b + LM.length) (RP X LM b out.2)) ([.ref b, .int a1] : List Value).toArray s 0 0 (t_fr b (b + LM.length))) (F0 m 46 ls [])) ?_ _ _ _ hx9 ?_ s.heap [] ls hH (lv_sub hl [0, 1, 2] rfl)
    · intro s3 r9 hE hL9 hR9 H locs ls hH hl
      unfold lbX7_save_15 at hE
      refine lv_iload_n hx hb dX7_save_15 rfl (lv_at hl 0 rfl) ?_
      refine lv_sipush (v := 131) hx hb dX7_save_16 (by decide) ?_
      refine lv_icmp_ge (tgt := 46) hx hb dX7_save_19 (by decide) (fun c4 => ?_) (fun c4 => ?_)
      · have hE := (if_pos c4).symm.trans hE
        cases hE
        exact hR9 _ rfl H locs ls hH (lv_sub hl [0, 1, 2] rfl)
      · have hE := (if_neg c4).symm.trans hE
        refine lv_aload_n hx hb dX7_save_22 rfl (lv_at hl 1 rfl) ?_
        refine rg_getr F hH.1 0 (ci := 7) rfl (C := RX7) (T := TX7) (N := 8) rfl iwX7_save_X7 4 (d := 4) (n := 4) rfl rfl (by decide) rfl lkX7_save_0 rfl dX7_save_23 ?_
        refine lv_sipush (v := 131) hx hb dX7_save_26 (by decide) ?_
        refine lv_iload_n hx hb dX7_save_29 rfl (lv_at hl 2 rfl) ?_
        refine lv_imul hx hb dX7_save_30 ?_
        refine lv_iload_n hx hb dX7_save_31 rfl (lv_at hl 0 rfl) ?_
        refine lv_iadd hx hb dX7_save_32 ?_
        refine lv_aload_n hx hb dX7_save_33 rfl (lv_at hl 1 rfl) ?_
        refine rg_getr F hH.1 0 (ci := 7) rfl (C := RX7) (T := TX7) (N := 8) rfl iwX7_save_X7 0 (d := 1) (n := 1) rfl rfl (by decide) rfl lkX7_save_1 rfl dX7_save_34 ?_
        refine lv_iload_n hx hb dX7_save_37 rfl (lv_at hl 0 rfl) ?_
        obtain ⟨g5, hE⟩ := gd_el hE
        refine rg_iald F hH.1 1 (n := 131) rfl g5 rfl dX7_save_38 ?_
        obtain ⟨g6, hE⟩ := gd_el hE
        obtain ⟨V7, eV7, hE⟩ := lt_el hE
        refine rg_iast F hH (fun q h1 h2 => ⟨h1, h2⟩) 4 (n := 262) rfl g6 rfl dX7_save_39 (fun H locs hH => ?_)
        replace hH := hp_cast eV7 hH
        refine lv_iinc (v := s3.1 + 1) (lv' := [(2, .int (s3.1 + 1)), (0, .ref b), (1, .int a1)]) hx hb dX7_save_40 hl (k := 0) rfl (congrArg (fun q => s3.1 + q) (by decide)) (by decide) rfl (fun ls hl => ?_)
        refine lv_goto (tgt := 15) hx hb dX7_save_43 (by decide) ?_
        cases hE
        exact hL9 _ rfl H locs ls hH (lv_sub hl [0, 1, 2] rfl)
    · intro H locs ls hH hl
      refine lv_aload_n hx hb dX7_save_46 rfl (lv_at hl 1 rfl) ?_
      refine rg_getr F hH.1 0 (ci := 7) rfl (C := RX7) (T := TX7) (N := 8) rfl iwX7_save_X7 5 (d := 5) (n := 5) rfl rfl (by decide) rfl lkX7_save_2 rfl dX7_save_47 ?_
      refine lv_iload_n hx hb dX7_save_50 rfl (lv_at hl 2 rfl) ?_
      refine lv_iconst (v := 1) hx hb dX7_save_51 (by decide) ?_
      obtain ⟨g10, hE⟩ := gd_el hE
      obtain ⟨V11, eV11, hE⟩ := lt_el hE
      refine rg_zast F hH (fun q h1 h2 => ⟨h1, h2⟩) 5 (n := 2) rfl (by decide) g10 rfl dX7_save_52 (fun H locs hH => ?_)
      replace hH := hp_cast eV11 hH
      refine lv_aload_n hx hb dX7_save_53 rfl (lv_at hl 1 rfl) ?_
      refine rg_getr F hH.1 0 (ci := 7) rfl (C := RX7) (T := TX7) (N := 8) rfl iwX7_save_X7 0 (d := 1) (n := 1) rfl rfl (by decide) rfl lkX7_save_1 rfl dX7_save_54 ?_
      refine lv_iconst (v := 0) hx hb dX7_save_57 (by decide) ?_
      refine rg_iald F hH.1 1 rfl (i := 0) (by decide) rfl dX7_save_58 ?_
      have hE := Option.some.inj hE
      subst hE
      exact W.iret (v := V11 1 0) hx hb hr (fun t ht _ => mw_post hH ht) hH.2.1.2.2 dX7_save_59
  · have hE := (if_pos c2).symm.trans hE
    refine lv_sipush (v := (-1002)) hx hb dX7_save_9 (by decide) ?_
    have hE := Option.some.inj hE
    subst hE
    exact W.iret (v := (-1002 : Int32)) hx hb hr (fun t ht _ => mw_post hH ht) hH.2.1.2.2 dX7_save_12
set_option maxRecDepth 20000 in
theorem lkX7_restore_0 : Cond.fieldLink RX7 22 "TideWordsModel" "isSaved" "[Z" ∈ wsX7_restore := by decide +kernel
set_option maxRecDepth 20000 in
theorem iwX7_restore_X7 : ∀ w ∈ wsX70, w ∈ wsX7_restore := by decide +kernel
set_option maxRecDepth 20000 in
theorem lkX7_restore_1 : Cond.fieldLink RX7 7 "TideWordsModel" "s" "[I" ∈ wsX7_restore := by decide +kernel
set_option maxRecDepth 20000 in
theorem lkX7_restore_2 : Cond.fieldLink RX7 19 "TideWordsModel" "slots" "[I" ∈ wsX7_restore := by decide +kernel
def lbX7_restore_32 (a1 : Int32) (s6 : Int32 × Mem) : Option ((Int32 × Mem) ⊕ (Int32 × Mem)) := if (131 : Int32) ≤ s6.1 then some (.inr (s6.1, s6.2)) else if (((131 : Int32)) * a1) + s6.1 < 0 ∨ 262 ≤ ((((131 : Int32)) * a1) + s6.1).toNatClampNeg then none else if s6.1 < 0 ∨ 131 ≤ s6.1.toNatClampNeg then none else lt (sv s6.2 1 s6.1.toNatClampNeg (s6.2 4 ((((131 : Int32)) * a1) + s6.1).toNatClampNeg)) (fun V10 => some (.inl (s6.1 + 1, V10)))
def qX7_restore (V : Mem) (a1 : Int32) : Option (Int32 × Mem) := lt (fX7_in a1 ((0 : Int32)) ((1 : Int32))) (fun r1 => if r1 = 0 then some (((-1002 : Int32), V)) else if a1 < 0 ∨ 2 ≤ a1.toNatClampNeg then none else if V 5 a1.toNatClampNeg = 0 then some (((-1005 : Int32), V)) else (qX7_record V ).bind (fun U5 => (it (lbX7_restore_32 a1) fuel ((0 : Int32), U5)).bind (fun s11 => some ((s11.2 1 0, s11.2)))))
abbrev rmX7_restore : Room := { frames := 1, cells := 0, slots := 0, locals := 22 }
set_option maxHeartbeats 4000000 in
set_option maxRecDepth 100000 in
theorem mX7_restore (l : Launch) (X : kX) (b : Nat) (V : Mem) (a1 : Int32) (out : Int32 × Mem) (hE : qX7_restore V a1 = some out) : MW l yX7_restore wsX7_restore rmX7_restore X [.ref b, .int a1] (RP X LM b V) (some (.int out.1)) b (b + LM.length) (RP X LM b out.2) := by
  refine mt_head (cc := cX7_restore) (maxL := 3) (ret := (some .int)) (own := RX7) (by decide) rfl rfl (Nat.le_of_ble_eq_true rfl) ?_
  intro p e s m below meth c ls F hr hlocks hnm hR hl
  have hx := F.1.1
  have hb := F.1.2.1
  have hH : Hp (t_fr b (b + LM.length)) s.heap s.heap.size X LM b V s.heap [] := ⟨hR, va_S.rf, rfl⟩
  have hl : lv_has ls 3 [(0, .ref b), (1, .int a1)] := hl
  unfold qX7_restore at hE
  refine lv_iload_n hx hb dX7_restore_0 rfl (lv_at hl 1 rfl) ?_
  refine lv_iconst (v := 0) hx hb dX7_restore_1 (by decide) ?_
  refine lv_iconst (v := 1) hx hb dX7_restore_2 (by decide) ?_
  obtain ⟨r1, er1, hE⟩ := lt_el hE
  refine rg_callRS (As := [.int a1, .int ((0 : Int32)), .int ((1 : Int32))]) (rest := []) F (mX7_in l X a1 ((0 : Int32)) ((1 : Int32)) r1 er1) (va_cwS 3 F.1.2.2.2.2 gX7_restore_X7_in rfl rfl rfl hsX7_in ⟨Nat.le_of_ble_eq_true rfl, Nat.le_of_ble_eq_true rfl⟩)  trivial rfl hl.1 (Nat.le_of_ble_eq_true rfl) dX7_restore_3 ⟨Nat.zero_le _, Nat.zero_le _⟩ rfl ?_
  refine lv_if_ne (tgt := 13) hx hb dX7_restore_6 (by decide) (fun c2 => ?_) (fun c2 => ?_)
  · have hE := (if_neg c2).symm.trans hE
    refine lv_aload_n hx hb dX7_restore_13 rfl (lv_at hl 0 rfl) ?_
    refine rg_getr F hH.1 0 (ci := 7) rfl (C := RX7) (T := TX7) (N := 8) rfl iwX7_restore_X7 5 (d := 5) (n := 5) rfl rfl (by decide) rfl lkX7_restore_0 rfl dX7_restore_14 ?_
    refine lv_iload_n hx hb dX7_restore_17 rfl (lv_at hl 1 rfl) ?_
    obtain ⟨g3, hE⟩ := gd_el hE
    refine rg_zald F hH.1 5 (n := 2) rfl g3 rfl dX7_restore_18 ?_
    refine lv_if_ne (tgt := 26) hx hb dX7_restore_19 (by decide) (fun c4 => ?_) (fun c4 => ?_)
    · have hE := (if_neg c4).symm.trans hE
      refine lv_aload_n hx hb dX7_restore_26 rfl (lv_at hl 0 rfl) ?_
      obtain ⟨U5, eU5, hE⟩ := bd_el hE
      refine rg_callWS (As := []) (rest := []) F hH (fun q h1 h2 => ⟨h1, h2⟩) (mX7_record l X b V  U5 eU5) (cwV 0 F.1.2.2.2.2 gX7_restore_X7_record rfl rfl rfl hvX7_record ⟨Nat.le_of_ble_eq_true rfl, Nat.le_of_ble_eq_true rfl⟩) (rp_recv F hH.1 0 rfl (C := RX7) (T := TX7) (N := 8) rfl rfl) hH.1 rfl hl.1 (Nat.le_of_ble_eq_true rfl) dX7_restore_27 ⟨Nat.zero_le _, Nat.zero_le _⟩ rfl (fun H locs hH => ?_)
      refine lv_iconst (v := 0) hx hb dX7_restore_30 (by decide) ?_
      refine lv_istore_n (lv' := [(2, .int ((0 : Int32))), (0, .ref b), (1, .int a1)]) hx hb dX7_restore_31 rfl hl (by decide) rfl (fun ls hl => ?_)
      obtain ⟨x12, hx12, hE⟩ := bd_el hE
      refine it_walk2 (body := lbX7_restore_32 a1) (Wh := fun s6 => ∀ (H : Heap) (locs : List Loc) (ls : Array Slot), Hp (t_fr b (b + LM.length)) s.heap s.heap.size X LM b s6.2 H locs → lv_has ls 3 [(2, .int s6.1), (0, .ref b), (1, .int a1)] → W p l e rmX7_restore s m ([.ref b, .int a1] : List Value).toArray below meth c H locs 0 0 (MQ below (cQw (some (.int out.1)) b (b + LM.length) (RP X LM b out.2)) ([.ref b, .int a1] : List Value).toArray s 0 0 (t_fr b (b + LM.length))) (F0 m 32 ls [])) (We := fun s11 => ∀ (H : Heap) (locs : List Loc) (ls : Array Slot), Hp (t_fr b (b + LM.length)) s.heap s.heap.size X LM b s11.2 H locs → lv_has ls 3 [(2, .int s11.1), (0, .ref b), (1, .int a1)] → W p l e rmX7_restore s m ([.ref b, .int a1] : List Value).toArray below meth c H locs 0 0 (MQ below (cQw (some (.int out.1)) b (b + LM.length) (RP X LM b out.2)) ([.ref b, .int a1] : List Value).toArray s 0 0 (t_fr b (b + LM.length))) (F0 m 63 ls [])) ?_ _ _ _ hx12 ?_ H locs ls hH (lv_sub hl [0, 1, 2] rfl)
      · intro s6 r9 hE hL9 hR9 H locs ls hH hl
        unfold lbX7_restore_32 at hE
        refine lv_iload_n hx hb dX7_restore_32 rfl (lv_at hl 0 rfl) ?_
        refine lv_sipush (v := 131) hx hb dX7_restore_33 (by decide) ?_
        refine lv_icmp_ge (tgt := 63) hx hb dX7_restore_36 (by decide) (fun c7 => ?_) (fun c7 => ?_)
        · have hE := (if_pos c7).symm.trans hE
          cases hE
          exact hR9 _ rfl H locs ls hH (lv_sub hl [0, 1, 2] rfl)
        · have hE := (if_neg c7).symm.trans hE
          refine lv_aload_n hx hb dX7_restore_39 rfl (lv_at hl 1 rfl) ?_
          refine rg_getr F hH.1 0 (ci := 7) rfl (C := RX7) (T := TX7) (N := 8) rfl iwX7_restore_X7 0 (d := 1) (n := 1) rfl rfl (by decide) rfl lkX7_restore_1 rfl dX7_restore_40 ?_
          refine lv_iload_n hx hb dX7_restore_43 rfl (lv_at hl 0 rfl) ?_
          refine lv_aload_n hx hb dX7_restore_44 rfl (lv_at hl 1 rfl) ?_
          refine rg_getr F hH.1 0 (ci := 7) rfl (C := RX7) (T := TX7) (N := 8) rfl iwX7_restore_X7 4 (d := 4) (n := 4) rfl rfl (by decide) rfl lkX7_restore_2 rfl dX7_restore_45 ?_
          refine lv_sipush (v := 131) hx hb dX7_restore_48 (by decide) ?_
          refine lv_iload_n hx hb dX7_restore_51 rfl (lv_at hl 2 rfl) ?_
          refine lv_imul hx hb dX7_restore_52 ?_
          refine lv_iload_n hx hb dX7_restore_53 rfl (lv_at hl 0 rfl) ?_
          refine lv_iadd hx hb dX7_restore_54 ?_
          obtain ⟨g8, hE⟩ := gd_el hE
          refine rg_iald F hH.1 4 (n := 262) rfl g8 rfl dX7_restore_55 ?_
          obtain ⟨g9, hE⟩ := gd_el hE
          obtain ⟨V10, eV10, hE⟩ := lt_el hE
          refine rg_iast F hH (fun q h1 h2 => ⟨h1, h2⟩) 1 (n := 131) rfl g9 rfl dX7_restore_56 (fun H locs hH => ?_)
          replace hH := hp_cast eV10 hH
          refine lv_iinc (v := s6.1 + 1) (lv' := [(2, .int (s6.1 + 1)), (0, .ref b), (1, .int a1)]) hx hb dX7_restore_57 hl (k := 0) rfl (congrArg (fun q => s6.1 + q) (by decide)) (by decide) rfl (fun ls hl => ?_)
          refine lv_goto (tgt := 32) hx hb dX7_restore_60 (by decide) ?_
          cases hE
          exact hL9 _ rfl H locs ls hH (lv_sub hl [0, 1, 2] rfl)
      · intro H locs ls hH hl
        refine lv_aload_n hx hb dX7_restore_63 rfl (lv_at hl 1 rfl) ?_
        refine rg_getr F hH.1 0 (ci := 7) rfl (C := RX7) (T := TX7) (N := 8) rfl iwX7_restore_X7 0 (d := 1) (n := 1) rfl rfl (by decide) rfl lkX7_restore_1 rfl dX7_restore_64 ?_
        refine lv_iconst (v := 0) hx hb dX7_restore_67 (by decide) ?_
        refine rg_iald F hH.1 1 rfl (i := 0) (by decide) rfl dX7_restore_68 ?_
        have hE := Option.some.inj hE
        subst hE
        exact W.iret (v := x12.2 1 0) hx hb hr (fun t ht _ => mw_post hH ht) hH.2.1.2.2 dX7_restore_69
    · have hE := (if_pos c4).symm.trans hE
      refine lv_sipush (v := (-1005)) hx hb dX7_restore_22 (by decide) ?_
      have hE := Option.some.inj hE
      subst hE
      exact W.iret (v := (-1005 : Int32)) hx hb hr (fun t ht _ => mw_post hH ht) hH.2.1.2.2 dX7_restore_25
  · have hE := (if_pos c2).symm.trans hE
    refine lv_sipush (v := (-1002)) hx hb dX7_restore_9 (by decide) ?_
    have hE := Option.some.inj hE
    subst hE
    exact W.iret (v := (-1002 : Int32)) hx hb hr (fun t ht _ => mw_post hH ht) hH.2.1.2.2 dX7_restore_12
