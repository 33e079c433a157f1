theorem hvX6_tide : yX6_tide.cls = RX6 ∧ yX6_tide.cls ≠ "java/lang/invoke/MethodHandle" ∧ yX6_tide.cls ≠ "java/lang/invoke/VarHandle" ∧ (parseMethodDescriptor yX6_tide.desc).map (fun d => d.parameters.length) = some 4 := by decide +kernel
theorem hvX6_shut : yX6_shut.cls = RX6 ∧ yX6_shut.cls ≠ "java/lang/invoke/MethodHandle" ∧ yX6_shut.cls ≠ "java/lang/invoke/VarHandle" ∧ (parseMethodDescriptor yX6_shut.desc).map (fun d => d.parameters.length) = some 2 := by decide +kernel
theorem hvX6_write : yX6_write.cls = RX6 ∧ yX6_write.cls ≠ "java/lang/invoke/MethodHandle" ∧ yX6_write.cls ≠ "java/lang/invoke/VarHandle" ∧ (parseMethodDescriptor yX6_write.desc).map (fun d => d.parameters.length) = some 1 := by decide +kernel
theorem hvX6_put : yX6_put.cls = RX6 ∧ yX6_put.cls ≠ "java/lang/invoke/MethodHandle" ∧ yX6_put.cls ≠ "java/lang/invoke/VarHandle" ∧ (parseMethodDescriptor yX6_put.desc).map (fun d => d.parameters.length) = some 1 := by decide +kernel
theorem hvX6_wipe : yX6_wipe.cls = RX6 ∧ yX6_wipe.cls ≠ "java/lang/invoke/MethodHandle" ∧ yX6_wipe.cls ≠ "java/lang/invoke/VarHandle" ∧ (parseMethodDescriptor yX6_wipe.desc).map (fun d => d.parameters.length) = some 0 := by decide +kernel
def lbL_change_157 (a2 : Int32) (a3 : Int32) (s26 : Int32 × Mem) : Option ((Int32 × Mem) ⊕ (Int32 × Mem)) := (qL_low a2 ((6 : Int32))).bind (fun r27 => if ((1 : Int32)) + r27 ≤ s26.1 then some (.inr (s26.1, s26.2)) else (qL_low (a3 >>> ((((2 : Int32)) * s26.1) &&& 31)) ((26 : Int32))).bind (fun r29 => (qX6_write s26.2 ((((97 : Int32)) + r29).toInt64)).bind (fun U30 => some (.inl (s26.1 + 1, U30.2)))))
def lbL_change_157_1 (a2 : Int32) (a3 : Int32) (s37 : Int32 × Mem) : Option ((Int32 × Mem) ⊕ (Int32 × Mem)) := (qL_low a2 ((6 : Int32))).bind (fun r38 => if ((1 : Int32)) + r38 ≤ s37.1 then some (.inr (s37.1, s37.2)) else (qL_low (a3 >>> ((((2 : Int32)) * s37.1) &&& 31)) ((26 : Int32))).bind (fun r40 => (qX6_write s37.2 ((((97 : Int32)) + r40).toInt64)).bind (fun U41 => some (.inl (s37.1 + 1, U41.2)))))
def lbL_change_157_2 (a2 : Int32) (a3 : Int32) (s48 : Int32 × Mem) : Option ((Int32 × Mem) ⊕ (Int32 × Mem)) := (qL_low a2 ((6 : Int32))).bind (fun r49 => if ((1 : Int32)) + r49 ≤ s48.1 then some (.inr (s48.1, s48.2)) else (qL_low (a3 >>> ((((2 : Int32)) * s48.1) &&& 31)) ((26 : Int32))).bind (fun r51 => (qX6_write s48.2 ((((97 : Int32)) + r51).toInt64)).bind (fun U52 => some (.inl (s48.1 + 1, U52.2)))))
def qL_change (V : Mem) (a1 : Int32) (a2 : Int32) (a3 : Int32) : Option (Int32 × Mem) := if a1 = 0 then (qL_low a2 ((3 : Int32))).bind (fun r2 => (qL_low a3 ((40 : Int32))).bind (fun r3 => (qL_low (a3 >>> (((6 : Int32)) &&& 31)) ((60 : Int32))).bind (fun r4 => (qL_low (a3 >>> (((12 : Int32)) &&& 31)) ((30 : Int32))).bind (fun r5 => lt (fX6_tide V r2 (((80 : Int32)) + r3) r4 (((1 : Int32)) + r5)) (fun U6 => some ((U6.1, U6.2))))))) else if a1 = 1 then (qL_low a2 ((2 : Int32))).bind (fun r8 => (qL_low a3 ((104 : Int32))).bind (fun r9 => lt (fX6_gauge V r8 (r9 - ((52 : Int32)))) (fun U10 => some ((U10.1, U10.2))))) else if a1 = 2 then (qL_low a2 ((5 : Int32))).bind (fun r12 => (qL_low (a3 >>> (((1 : Int32)) &&& 31)) ((40 : Int32))).bind (fun r13 => lt (fX6_gate V r12 (a3 &&& ((1 : Int32))) r13 ((a3 >>> (((7 : Int32)) &&& 31)) &&& ((1 : Int32)))) (fun U14 => some ((U14.1, U14.2))))) else if a1 = 3 then (qL_low a2 ((5 : Int32))).bind (fun r16 => (qL_low (a3 >>> (((1 : Int32)) &&& 31)) ((40 : Int32))).bind (fun r17 => lt (fX6_gate V r16 (a3 &&& ((1 : Int32))) r17 ((a3 >>> (((7 : Int32)) &&& 31)) &&& ((1 : Int32)))) (fun U18 => some ((U18.1, U18.2))))) else if a1 = 4 then (qL_low a2 ((4 : Int32))).bind (fun r20 => (if a3 &&& ((3 : Int32)) = 0 then some ((1 : Int32)) else some ((0 : Int32)) : Option (Int32)).bind (fun j21 => lt (fX6_shut V r20 j21) (fun U23 => some ((U23.1, U23.2))))) else if a1 = 5 then (it (lbL_change_157 a2 a3) fuel ((0 : Int32), V)).bind (fun s31 => (qL_low (a2 >>> (((4 : Int32)) &&& 31)) ((2 : Int32))).bind (fun r33 => lt (fX6_put s31.2 r33) (fun U34 => lt (fX6_wipe U34.2 ) (fun U35 => some ((U34.1, U35.2)))))) else if a1 = 6 then (it (lbL_change_157_1 a2 a3) fuel ((0 : Int32), V)).bind (fun s42 => (qL_low (a2 >>> (((4 : Int32)) &&& 31)) ((2 : Int32))).bind (fun r44 => lt (fX6_put s42.2 r44) (fun U45 => lt (fX6_wipe U45.2 ) (fun U46 => some ((U45.1, U46.2)))))) else if a1 = 7 then (it (lbL_change_157_2 a2 a3) fuel ((0 : Int32), V)).bind (fun s53 => (qL_low (a2 >>> (((4 : Int32)) &&& 31)) ((2 : Int32))).bind (fun r55 => lt (fX6_put s53.2 r55) (fun U56 => lt (fX6_wipe U56.2 ) (fun U57 => some ((U56.1, U57.2)))))) else (qL_low a2 ((30 : Int32))).bind (fun r58 => lt (fX6_run V (((1 : Int32)) + r58)) (fun U59 => some ((U59.1, U59.2))))
abbrev rmL_change : Room := { frames := 7, cells := 0, slots := 0, locals := 191 }
set_option maxHeartbeats 40000000 in
set_option maxRecDepth 1000000 in
theorem mL_change (l : Launch) (X : kX) (b : Nat) (V : Mem) (a1 : Int32) (a2 : Int32) (a3 : Int32) (out : Int32 × Mem) (hE : qL_change V a1 a2 a3 = some out) : MW l yL_change wsL_change rmL_change X [.ref b, .int a1, .int a2, .int a3] (RP X LA b V) (some (.int out.1)) b (b + LA.length) (RP X LA b out.2) := by
  refine mt_head (cc := cL_change) (maxL := 6) (ret := (some .int)) (own := RL) (by decide) rfl rfl (Nat.le_of_ble_eq_true rfl) ?_
  intro p e s m below meth c ls F hr hlocks hnm hR hl
  have hx := F.1.1
  have hb := F.1.2.1
  have hH : Hp (t_fr b (b + LA.length)) s.heap s.heap.size X LA b V s.heap [] := ⟨hR, va_S.rf, rfl⟩
  have hl : lv_has ls 6 [(0, .ref b), (1, .int a1), (2, .int a2), (3, .int a3)] := hl
  unfold qL_change at hE
  refine lv_iload_n hx hb dL_change_0 rfl (lv_at hl 1 rfl) ?_
  by_cases c1 : a1 = 0
  · have hE := (if_pos c1).symm.trans hE
    refine lv_tableIn (off := 47) (tgt := 48) hx hb dL_change_1 (by rw [c1]; decide) (by rw [c1]; decide) (by rw [c1]; rfl) (by decide) ?_
    refine lv_aload_n hx hb dL_change_48 rfl (lv_at hl 0 rfl) ?_
    refine lv_iload_n hx hb dL_change_49 rfl (lv_at hl 2 rfl) ?_
    refine lv_iconst (v := 3) hx hb dL_change_50 (by decide) ?_
    obtain ⟨r2, er2, hE⟩ := bd_el hE
    refine rg_callRS (As := [.int a2, .int ((3 : Int32))]) (rest := [.ref b]) F (mL_low l X a2 ((3 : Int32)) r2 er2) (va_cwS 2 F.1.2.2.2.2 gL_change_L_low rfl rfl rfl hsL_low ⟨Nat.le_of_ble_eq_true rfl, Nat.le_of_ble_eq_true rfl⟩) trivial rfl hl.1 (Nat.le_of_ble_eq_true rfl) dL_change_51 ⟨Nat.zero_le _, Nat.zero_le _⟩ rfl ?_
    refine lv_bipush (v := 80) hx hb dL_change_54 (by decide) ?_
    refine lv_iload_n hx hb dL_change_56 rfl (lv_at hl 3 rfl) ?_
    refine lv_bipush (v := 40) hx hb dL_change_57 (by decide) ?_
    obtain ⟨r3, er3, hE⟩ := bd_el hE
    refine rg_callRS (As := [.int a3, .int ((40 : Int32))]) (rest := [.int ((80 : Int32)), .int r2, .ref b]) F (mL_low l X a3 ((40 : Int32)) r3 er3) (va_cwS 2 F.1.2.2.2.2 gL_change_L_low rfl rfl rfl hsL_low ⟨Nat.le_of_ble_eq_true rfl, Nat.le_of_ble_eq_true rfl⟩) trivial rfl hl.1 (Nat.le_of_ble_eq_true rfl) dL_change_59 ⟨Nat.zero_le _, Nat.zero_le _⟩ rfl ?_
    refine lv_iadd hx hb dL_change_62 ?_
    refine lv_iload_n hx hb dL_change_63 rfl (lv_at hl 3 rfl) ?_
    refine lv_bipush (v := 6) hx hb dL_change_64 (by decide) ?_
    refine lv_ishr hx hb dL_change_66 ?_
    refine lv_bipush (v := 60) hx hb dL_change_67 (by decide) ?_
    obtain ⟨r4, er4, hE⟩ := bd_el hE
    refine rg_callRS (As := [.int (a3 >>> (((6 : Int32)) &&& 31)), .int ((60 : Int32))]) (rest := [.int (((80 : Int32)) + r3), .int r2, .ref b]) F (mL_low l X (a3 >>> (((6 : Int32)) &&& 31)) ((60 : Int32)) r4 er4) (va_cwS 2 F.1.2.2.2.2 gL_change_L_low rfl rfl rfl hsL_low ⟨Nat.le_of_ble_eq_true rfl, Nat.le_of_ble_eq_true rfl⟩) trivial rfl hl.1 (Nat.le_of_ble_eq_true rfl) dL_change_69 ⟨Nat.zero_le _, Nat.zero_le _⟩ rfl ?_
    refine lv_iconst (v := 1) hx hb dL_change_72 (by decide) ?_
    refine lv_iload_n hx hb dL_change_73 rfl (lv_at hl 3 rfl) ?_
    refine lv_bipush (v := 12) hx hb dL_change_74 (by decide) ?_
    refine lv_ishr hx hb dL_change_76 ?_
    refine lv_bipush (v := 30) hx hb dL_change_77 (by decide) ?_
    obtain ⟨r5, er5, hE⟩ := bd_el hE
    refine rg_callRS (As := [.int (a3 >>> (((12 : Int32)) &&& 31)), .int ((30 : Int32))]) (rest := [.int ((1 : Int32)), .int r4, .int (((80 : Int32)) + r3), .int r2, .ref b]) F (mL_low l X (a3 >>> (((12 : Int32)) &&& 31)) ((30 : Int32)) r5 er5) (va_cwS 2 F.1.2.2.2.2 gL_change_L_low rfl rfl rfl hsL_low ⟨Nat.le_of_ble_eq_true rfl, Nat.le_of_ble_eq_true rfl⟩) trivial rfl hl.1 (Nat.le_of_ble_eq_true rfl) dL_change_79 ⟨Nat.zero_le _, Nat.zero_le _⟩ rfl ?_
    refine lv_iadd hx hb dL_change_82 ?_
    obtain ⟨U6, eU6, hE⟩ := lt_el hE
    refine rg_callWS (As := [.int r2, .int (((80 : Int32)) + r3), .int r4, .int (((1 : Int32)) + r5)]) (rest := []) F hH (fun q h1 h2 => ⟨h1, h2⟩) (mX6_tide l X b V r2 (((80 : Int32)) + r3) r4 (((1 : Int32)) + r5) U6 eU6) (cwV 4 F.1.2.2.2.2 gL_change_X6_tide rfl rfl rfl hvX6_tide ⟨Nat.le_of_ble_eq_true rfl, Nat.le_of_ble_eq_true rfl⟩) (rp_recv F hH.1 0 rfl (C := RX6) (T := TX6) (N := 9) rfl rfl) hH.1 rfl hl.1 (Nat.le_of_ble_eq_true rfl) dL_change_83 ⟨Nat.zero_le _, Nat.zero_le _⟩ rfl (fun H locs hH => ?_)
    have hE := Option.some.inj hE
    subst hE
    exact W.iret (v := U6.1) hx hb hr (fun t ht _ => mw_post hH ht) hH.2.1.2.2 dL_change_86
  · have hE := (if_neg c1).symm.trans hE
    by_cases c7 : a1 = 1
    · have hE := (if_pos c7).symm.trans hE
      refine lv_tableIn (off := 86) (tgt := 87) hx hb dL_change_1 (by rw [c7]; decide) (by rw [c7]; decide) (by rw [c7]; rfl) (by decide) ?_
      refine lv_aload_n hx hb dL_change_87 rfl (lv_at hl 0 rfl) ?_
      refine lv_iload_n hx hb dL_change_88 rfl (lv_at hl 2 rfl) ?_
      refine lv_iconst (v := 2) hx hb dL_change_89 (by decide) ?_
      obtain ⟨r8, er8, hE⟩ := bd_el hE
      refine rg_callRS (As := [.int a2, .int ((2 : Int32))]) (rest := [.ref b]) F (mL_low l X a2 ((2 : Int32)) r8 er8) (va_cwS 2 F.1.2.2.2.2 gL_change_L_low rfl rfl rfl hsL_low ⟨Nat.le_of_ble_eq_true rfl, Nat.le_of_ble_eq_true rfl⟩) trivial rfl hl.1 (Nat.le_of_ble_eq_true rfl) dL_change_90 ⟨Nat.zero_le _, Nat.zero_le _⟩ rfl ?_
      refine lv_iload_n hx hb dL_change_93 rfl (lv_at hl 3 rfl) ?_
      refine lv_bipush (v := 104) hx hb dL_change_94 (by decide) ?_
      obtain ⟨r9, er9, hE⟩ := bd_el hE
      refine rg_callRS (As := [.int a3, .int ((104 : Int32))]) (rest := [.int r8, .ref b]) F (mL_low l X a3 ((104 : Int32)) r9 er9) (va_cwS 2 F.1.2.2.2.2 gL_change_L_low rfl rfl rfl hsL_low ⟨Nat.le_of_ble_eq_true rfl, Nat.le_of_ble_eq_true rfl⟩) trivial rfl hl.1 (Nat.le_of_ble_eq_true rfl) dL_change_96 ⟨Nat.zero_le _, Nat.zero_le _⟩ rfl ?_
      refine lv_bipush (v := 52) hx hb dL_change_99 (by decide) ?_
      refine lv_isub hx hb dL_change_101 ?_
      obtain ⟨U10, eU10, hE⟩ := lt_el hE
      refine rg_callWS (As := [.int r8, .int (r9 - ((52 : Int32)))]) (rest := []) F hH (fun q h1 h2 => ⟨h1, h2⟩) (mX6_gauge l X b V r8 (r9 - ((52 : Int32))) U10 eU10) (cwV 2 F.1.2.2.2.2 gL_change_X6_gauge rfl rfl rfl hvX6_gauge ⟨Nat.le_of_ble_eq_true rfl, Nat.le_of_ble_eq_true rfl⟩) (rp_recv F hH.1 0 rfl (C := RX6) (T := TX6) (N := 9) rfl rfl) hH.1 rfl hl.1 (Nat.le_of_ble_eq_true rfl) dL_change_102 ⟨Nat.zero_le _, Nat.zero_le _⟩ rfl (fun H locs hH => ?_)
      have hE := Option.some.inj hE
      subst hE
      exact W.iret (v := U10.1) hx hb hr (fun t ht _ => mw_post hH ht) hH.2.1.2.2 dL_change_105
    · have hE := (if_neg c7).symm.trans hE
      by_cases c11 : a1 = 2
      · have hE := (if_pos c11).symm.trans hE
        refine lv_tableIn (off := 105) (tgt := 106) hx hb dL_change_1 (by rw [c11]; decide) (by rw [c11]; decide) (by rw [c11]; rfl) (by decide) ?_
        refine lv_aload_n hx hb dL_change_106 rfl (lv_at hl 0 rfl) ?_
        refine lv_iload_n hx hb dL_change_107 rfl (lv_at hl 2 rfl) ?_
        refine lv_iconst (v := 5) hx hb dL_change_108 (by decide) ?_
        obtain ⟨r12, er12, hE⟩ := bd_el hE
        refine rg_callRS (As := [.int a2, .int ((5 : Int32))]) (rest := [.ref b]) F (mL_low l X a2 ((5 : Int32)) r12 er12) (va_cwS 2 F.1.2.2.2.2 gL_change_L_low rfl rfl rfl hsL_low ⟨Nat.le_of_ble_eq_true rfl, Nat.le_of_ble_eq_true rfl⟩) trivial rfl hl.1 (Nat.le_of_ble_eq_true rfl) dL_change_109 ⟨Nat.zero_le _, Nat.zero_le _⟩ rfl ?_
        refine lv_iload_n hx hb dL_change_112 rfl (lv_at hl 3 rfl) ?_
        refine lv_iconst (v := 1) hx hb dL_change_113 (by decide) ?_
        refine lv_iand hx hb dL_change_114 ?_
        refine lv_iload_n hx hb dL_change_115 rfl (lv_at hl 3 rfl) ?_
        refine lv_iconst (v := 1) hx hb dL_change_116 (by decide) ?_
        refine lv_ishr hx hb dL_change_117 ?_
        refine lv_bipush (v := 40) hx hb dL_change_118 (by decide) ?_
        obtain ⟨r13, er13, hE⟩ := bd_el hE
        refine rg_callRS (As := [.int (a3 >>> (((1 : Int32)) &&& 31)), .int ((40 : Int32))]) (rest := [.int (a3 &&& ((1 : Int32))), .int r12, .ref b]) F (mL_low l X (a3 >>> (((1 : Int32)) &&& 31)) ((40 : Int32)) r13 er13) (va_cwS 2 F.1.2.2.2.2 gL_change_L_low rfl rfl rfl hsL_low ⟨Nat.le_of_ble_eq_true rfl, Nat.le_of_ble_eq_true rfl⟩) trivial rfl hl.1 (Nat.le_of_ble_eq_true rfl) dL_change_120 ⟨Nat.zero_le _, Nat.zero_le _⟩ rfl ?_
        refine lv_iload_n hx hb dL_change_123 rfl (lv_at hl 3 rfl) ?_
        refine lv_bipush (v := 7) hx hb dL_change_124 (by decide) ?_
        refine lv_ishr hx hb dL_change_126 ?_
        refine lv_iconst (v := 1) hx hb dL_change_127 (by decide) ?_
        refine lv_iand hx hb dL_change_128 ?_
        obtain ⟨U14, eU14, hE⟩ := lt_el hE
        refine rg_callWS (As := [.int r12, .int (a3 &&& ((1 : Int32))), .int r13, .int ((a3 >>> (((7 : Int32)) &&& 31)) &&& ((1 : Int32)))]) (rest := []) F hH (fun q h1 h2 => ⟨h1, h2⟩) (mX6_gate l X b V r12 (a3 &&& ((1 : Int32))) r13 ((a3 >>> (((7 : Int32)) &&& 31)) &&& ((1 : Int32))) U14 eU14) (cwV 4 F.1.2.2.2.2 gL_change_X6_gate rfl rfl rfl hvX6_gate ⟨Nat.le_of_ble_eq_true rfl, Nat.le_of_ble_eq_true rfl⟩) (rp_recv F hH.1 0 rfl (C := RX6) (T := TX6) (N := 9) rfl rfl) hH.1 rfl hl.1 (Nat.le_of_ble_eq_true rfl) dL_change_129 ⟨Nat.zero_le _, Nat.zero_le _⟩ rfl (fun H locs hH => ?_)
        have hE := Option.some.inj hE
        subst hE
        exact W.iret (v := U14.1) hx hb hr (fun t ht _ => mw_post hH ht) hH.2.1.2.2 dL_change_132
      · have hE := (if_neg c11).symm.trans hE
        by_cases c15 : a1 = 3
        · have hE := (if_pos c15).symm.trans hE
          refine lv_tableIn (off := 105) (tgt := 106) hx hb dL_change_1 (by rw [c15]; decide) (by rw [c15]; decide) (by rw [c15]; rfl) (by decide) ?_
          refine lv_aload_n hx hb dL_change_106 rfl (lv_at hl 0 rfl) ?_
          refine lv_iload_n hx hb dL_change_107 rfl (lv_at hl 2 rfl) ?_
          refine lv_iconst (v := 5) hx hb dL_change_108 (by decide) ?_
          obtain ⟨r16, er16, hE⟩ := bd_el hE
          refine rg_callRS (As := [.int a2, .int ((5 : Int32))]) (rest := [.ref b]) F (mL_low l X a2 ((5 : Int32)) r16 er16) (va_cwS 2 F.1.2.2.2.2 gL_change_L_low rfl rfl rfl hsL_low ⟨Nat.le_of_ble_eq_true rfl, Nat.le_of_ble_eq_true rfl⟩) trivial rfl hl.1 (Nat.le_of_ble_eq_true rfl) dL_change_109 ⟨Nat.zero_le _, Nat.zero_le _⟩ rfl ?_
          refine lv_iload_n hx hb dL_change_112 rfl (lv_at hl 3 rfl) ?_
          refine lv_iconst (v := 1) hx hb dL_change_113 (by decide) ?_
          refine lv_iand hx hb dL_change_114 ?_
          refine lv_iload_n hx hb dL_change_115 rfl (lv_at hl 3 rfl) ?_
          refine lv_iconst (v := 1) hx hb dL_change_116 (by decide) ?_
          refine lv_ishr hx hb dL_change_117 ?_
          refine lv_bipush (v := 40) hx hb dL_change_118 (by decide) ?_
          obtain ⟨r17, er17, hE⟩ := bd_el hE
          refine rg_callRS (As := [.int (a3 >>> (((1 : Int32)) &&& 31)), .int ((40 : Int32))]) (rest := [.int (a3 &&& ((1 : Int32))), .int r16, .ref b]) F (mL_low l X (a3 >>> (((1 : Int32)) &&& 31)) ((40 : Int32)) r17 er17) (va_cwS 2 F.1.2.2.2.2 gL_change_L_low rfl rfl rfl hsL_low ⟨Nat.le_of_ble_eq_true rfl, Nat.le_of_ble_eq_true rfl⟩) trivial rfl hl.1 (Nat.le_of_ble_eq_true rfl) dL_change_120 ⟨Nat.zero_le _, Nat.zero_le _⟩ rfl ?_
          refine lv_iload_n hx hb dL_change_123 rfl (lv_at hl 3 rfl) ?_
          refine lv_bipush (v := 7) hx hb dL_change_124 (by decide) ?_
          refine lv_ishr hx hb dL_change_126 ?_
          refine lv_iconst (v := 1) hx hb dL_change_127 (by decide) ?_
          refine lv_iand hx hb dL_change_128 ?_
          obtain ⟨U18, eU18, hE⟩ := lt_el hE
          refine rg_callWS (As := [.int r16, .int (a3 &&& ((1 : Int32))), .int r17, .int ((a3 >>> (((7 : Int32)) &&& 31)) &&& ((1 : Int32)))]) (rest := []) F hH (fun q h1 h2 => ⟨h1, h2⟩) (mX6_gate l X b V r16 (a3 &&& ((1 : Int32))) r17 ((a3 >>> (((7 : Int32)) &&& 31)) &&& ((1 : Int32))) U18 eU18) (cwV 4 F.1.2.2.2.2 gL_change_X6_gate rfl rfl rfl hvX6_gate ⟨Nat.le_of_ble_eq_true rfl, Nat.le_of_ble_eq_true rfl⟩) (rp_recv F hH.1 0 rfl (C := RX6) (T := TX6) (N := 9) rfl rfl) hH.1 rfl hl.1 (Nat.le_of_ble_eq_true rfl) dL_change_129 ⟨Nat.zero_le _, Nat.zero_le _⟩ rfl (fun H locs hH => ?_)
          have hE := Option.some.inj hE
          subst hE
          exact W.iret (v := U18.1) hx hb hr (fun t ht _ => mw_post hH ht) hH.2.1.2.2 dL_change_132
        · have hE := (if_neg c15).symm.trans hE
          by_cases c19 : a1 = 4
          · have hE := (if_pos c19).symm.trans hE
            refine lv_tableIn (off := 132) (tgt := 133) hx hb dL_change_1 (by rw [c19]; decide) (by rw [c19]; decide) (by rw [c19]; rfl) (by decide) ?_
            refine lv_aload_n hx hb dL_change_133 rfl (lv_at hl 0 rfl) ?_
            refine lv_iload_n hx hb dL_change_134 rfl (lv_at hl 2 rfl) ?_
            refine lv_iconst (v := 4) hx hb dL_change_135 (by decide) ?_
            obtain ⟨r20, er20, hE⟩ := bd_el hE
            refine rg_callRS (As := [.int a2, .int ((4 : Int32))]) (rest := [.ref b]) F (mL_low l X a2 ((4 : Int32)) r20 er20) (va_cwS 2 F.1.2.2.2.2 gL_change_L_low rfl rfl rfl hsL_low ⟨Nat.le_of_ble_eq_true rfl, Nat.le_of_ble_eq_true rfl⟩) trivial rfl hl.1 (Nat.le_of_ble_eq_true rfl) dL_change_136 ⟨Nat.zero_le _, Nat.zero_le _⟩ rfl ?_
            refine lv_iload_n hx hb dL_change_139 rfl (lv_at hl 3 rfl) ?_
            refine lv_iconst (v := 3) hx hb dL_change_140 (by decide) ?_
            refine lv_iand hx hb dL_change_141 ?_
            obtain ⟨j21, hJ9, hE⟩ := bd_el hE
            have K22 : ∀ (ls : Array Slot), lv_has ls 6 [(0, .ref b), (1, .int a1), (2, .int a2), (3, .int a3)] → W p l e rmL_change s m ([.ref b, .int a1, .int a2, .int a3] : List Value).toArray below meth c s.heap [] 0 0 (MQ below (cQw (some (.int out.1)) b (b + LA.length) (RP X LA b out.2)) ([.ref b, .int a1, .int a2, .int a3] : List Value).toArray s 0 0 (t_fr b (b + LA.length))) (F0 m 150 ls [.int j21, .int r20, .ref b]) := by
              clear hJ9
              intro ls hl
              obtain ⟨U23, eU23, hE⟩ := lt_el hE
              refine rg_callWS (As := [.int r20, .int j21]) (rest := []) F hH (fun q h1 h2 => ⟨h1, h2⟩) (mX6_shut l X b V r20 j21 U23 eU23) (cwV 2 F.1.2.2.2.2 gL_change_X6_shut rfl rfl rfl hvX6_shut ⟨Nat.le_of_ble_eq_true rfl, Nat.le_of_ble_eq_true rfl⟩) (rp_recv F hH.1 0 rfl (C := RX6) (T := TX6) (N := 9) rfl rfl) hH.1 rfl hl.1 (Nat.le_of_ble_eq_true rfl) dL_change_150 ⟨Nat.zero_le _, Nat.zero_le _⟩ rfl (fun H locs hH => ?_)
              have hE := Option.some.inj hE
              subst hE
              exact W.iret (v := U23.1) hx hb hr (fun t ht _ => mw_post hH ht) hH.2.1.2.2 dL_change_153
            replace hE := hJ9
            clear hJ9
            refine lv_if_ne (tgt := 149) hx hb dL_change_142 (by decide) (fun c24 => ?_) (fun c24 => ?_)
            · have hE := (if_neg c24).symm.trans hE
              refine lv_iconst (v := 0) hx hb dL_change_149 (by decide) ?_
              cases hE
              exact K22 ls (lv_sub hl [0, 1, 2, 3] rfl)
            · have hE := (if_pos c24).symm.trans hE
              refine lv_iconst (v := 1) hx hb dL_change_145 (by decide) ?_
              refine lv_goto (tgt := 150) hx hb dL_change_146 (by decide) ?_
              cases hE
              exact K22 ls (lv_sub hl [0, 1, 2, 3] rfl)
          · have hE := (if_neg c19).symm.trans hE
            by_cases c25 : a1 = 5
            · have hE := (if_pos c25).symm.trans hE
              refine lv_tableIn (off := 153) (tgt := 154) hx hb dL_change_1 (by rw [c25]; decide) (by rw [c25]; decide) (by rw [c25]; rfl) (by decide) ?_
              refine lv_iconst (v := 0) hx hb dL_change_154 (by decide) ?_
              refine lv_istore (lv' := [(4, .int ((0 : Int32))), (0, .ref b), (1, .int a1), (2, .int a2), (3, .int a3)]) hx hb dL_change_155 hl (by decide) rfl (fun ls hl => ?_)
              obtain ⟨x32, hx32, hE⟩ := bd_el hE
              refine it_walk2 (body := lbL_change_157 a2 a3) (Wh := fun s26 => ∀ (H : Heap) (locs : List Loc) (ls : Array Slot), Hp (t_fr b (b + LA.length)) s.heap s.heap.size X LA b s26.2 H locs → lv_has ls 6 [(4, .int s26.1), (0, .ref b), (1, .int a1), (2, .int a2), (3, .int a3)] → W p l e rmL_change s m ([.ref b, .int a1, .int a2, .int a3] : List Value).toArray below meth c H locs 0 0 (MQ below (cQw (some (.int out.1)) b (b + LA.length) (RP X LA b out.2)) ([.ref b, .int a1, .int a2, .int a3] : List Value).toArray s 0 0 (t_fr b (b + LA.length))) (F0 m 157 ls [])) (We := fun s31 => ∀ (H : Heap) (locs : List Loc) (ls : Array Slot), Hp (t_fr b (b + LA.length)) s.heap s.heap.size X LA b s31.2 H locs → lv_has ls 6 [(4, .int s31.1), (0, .ref b), (1, .int a1), (2, .int a2), (3, .int a3)] → W p l e rmL_change s m ([.ref b, .int a1, .int a2, .int a3] : List Value).toArray below meth c H locs 0 0 (MQ below (cQw (some (.int out.1)) b (b + LA.length) (RP X LA b out.2)) ([.ref b, .int a1, .int a2, .int a3] : List Value).toArray s 0 0 (t_fr b (b + LA.length))) (F0 m 196 ls [])) ?_ _ _ _ hx32 ?_ s.heap [] ls hH (lv_sub hl [0, 1, 2, 3, 4] rfl)
              · intro s26 r9 hE hL9 hR9 H locs ls hH hl
                unfold lbL_change_157 at hE
                refine lv_iload hx hb dL_change_157 (lv_at hl 0 rfl) ?_
                refine lv_iconst (v := 1) hx hb dL_change_159 (by decide) ?_
                refine lv_iload_n hx hb dL_change_160 rfl (lv_at hl 3 rfl) ?_
                refine lv_bipush (v := 6) hx hb dL_change_161 (by decide) ?_
                obtain ⟨r27, er27, hE⟩ := bd_el hE
                refine rg_callRS (As := [.int a2, .int ((6 : Int32))]) (rest := [.int ((1 : Int32)), .int s26.1]) F (mL_low l X a2 ((6 : Int32)) r27 er27) (va_cwS 2 F.1.2.2.2.2 gL_change_L_low rfl rfl rfl hsL_low ⟨Nat.le_of_ble_eq_true rfl, Nat.le_of_ble_eq_true rfl⟩) trivial rfl hl.1 (Nat.le_of_ble_eq_true rfl) dL_change_163 ⟨Nat.zero_le _, Nat.zero_le _⟩ rfl ?_
                refine lv_iadd hx hb dL_change_166 ?_
                refine lv_icmp_ge (tgt := 196) hx hb dL_change_167 (by decide) (fun c28 => ?_) (fun c28 => ?_)
                · have hE := (if_pos c28).symm.trans hE
                  cases hE
                  exact hR9 _ rfl H locs ls hH (lv_sub hl [0, 1, 2, 3, 4] rfl)
                · have hE := (if_neg c28).symm.trans hE
                  refine lv_aload_n hx hb dL_change_170 rfl (lv_at hl 1 rfl) ?_
                  refine lv_bipush (v := 97) hx hb dL_change_171 (by decide) ?_
                  refine lv_iload_n hx hb dL_change_173 rfl (lv_at hl 4 rfl) ?_
                  refine lv_iconst (v := 2) hx hb dL_change_174 (by decide) ?_
                  refine lv_iload hx hb dL_change_175 (lv_at hl 0 rfl) ?_
                  refine lv_imul hx hb dL_change_177 ?_
                  refine lv_ishr hx hb dL_change_178 ?_
                  refine lv_bipush (v := 26) hx hb dL_change_179 (by decide) ?_
                  obtain ⟨r29, er29, hE⟩ := bd_el hE
                  refine rg_callRS (As := [.int (a3 >>> ((((2 : Int32)) * s26.1) &&& 31)), .int ((26 : Int32))]) (rest := [.int ((97 : Int32)), .ref b]) F (mL_low l X (a3 >>> ((((2 : Int32)) * s26.1) &&& 31)) ((26 : Int32)) r29 er29) (va_cwS 2 F.1.2.2.2.2 gL_change_L_low rfl rfl rfl hsL_low ⟨Nat.le_of_ble_eq_true rfl, Nat.le_of_ble_eq_true rfl⟩) trivial rfl hl.1 (Nat.le_of_ble_eq_true rfl) dL_change_181 ⟨Nat.zero_le _, Nat.zero_le _⟩ rfl ?_
                  refine lv_iadd hx hb dL_change_184 ?_
                  refine lv_i2l (v := (((97 : Int32)) + r29).toInt64) hx hb dL_change_185 rfl ?_
                  obtain ⟨U30, eU30, hE⟩ := bd_el hE
                  refine rg_callWS (As := [.long ((((97 : Int32)) + r29).toInt64)]) (rest := []) F hH (fun q h1 h2 => ⟨h1, h2⟩) (mX6_write l X b s26.2 ((((97 : Int32)) + r29).toInt64) U30 eU30) (cwV 1 F.1.2.2.2.2 gL_change_X6_write rfl rfl rfl hvX6_write ⟨Nat.le_of_ble_eq_true rfl, Nat.le_of_ble_eq_true rfl⟩) (rp_recv F hH.1 0 rfl (C := RX6) (T := TX6) (N := 9) rfl rfl) hH.1 rfl hl.1 (Nat.le_of_ble_eq_true rfl) dL_change_186 ⟨Nat.zero_le _, Nat.zero_le _⟩ rfl (fun H locs hH => ?_)
                  refine lv_pop hx hb dL_change_189 rfl ?_
                  refine lv_iinc (v := s26.1 + 1) (lv' := [(4, .int (s26.1 + 1)), (0, .ref b), (1, .int a1), (2, .int a2), (3, .int a3)]) hx hb dL_change_190 hl (k := 0) rfl (congrArg (fun q => s26.1 + q) (by decide)) (by decide) rfl (fun ls hl => ?_)
                  refine lv_goto (tgt := 157) hx hb dL_change_193 (by decide) ?_
                  cases hE
                  exact hL9 _ rfl H locs ls hH (lv_sub hl [0, 1, 2, 3, 4] rfl)
              · intro H locs ls hH hl
                refine lv_aload_n hx hb dL_change_196 rfl (lv_at hl 1 rfl) ?_
                refine lv_iload_n hx hb dL_change_197 rfl (lv_at hl 3 rfl) ?_
                refine lv_iconst (v := 4) hx hb dL_change_198 (by decide) ?_
                refine lv_ishr hx hb dL_change_199 ?_
                refine lv_iconst (v := 2) hx hb dL_change_200 (by decide) ?_
                obtain ⟨r33, er33, hE⟩ := bd_el hE
                refine rg_callRS (As := [.int (a2 >>> (((4 : Int32)) &&& 31)), .int ((2 : Int32))]) (rest := [.ref b]) F (mL_low l X (a2 >>> (((4 : Int32)) &&& 31)) ((2 : Int32)) r33 er33) (va_cwS 2 F.1.2.2.2.2 gL_change_L_low rfl rfl rfl hsL_low ⟨Nat.le_of_ble_eq_true rfl, Nat.le_of_ble_eq_true rfl⟩) trivial rfl hl.1 (Nat.le_of_ble_eq_true rfl) dL_change_201 ⟨Nat.zero_le _, Nat.zero_le _⟩ rfl ?_
                obtain ⟨U34, eU34, hE⟩ := lt_el hE
                refine rg_callWS (As := [.int r33]) (rest := []) F hH (fun q h1 h2 => ⟨h1, h2⟩) (mX6_put l X b x32.2 r33 U34 eU34) (cwV 1 F.1.2.2.2.2 gL_change_X6_put rfl rfl rfl hvX6_put ⟨Nat.le_of_ble_eq_true rfl, Nat.le_of_ble_eq_true rfl⟩) (rp_recv F hH.1 0 rfl (C := RX6) (T := TX6) (N := 9) rfl rfl) hH.1 rfl hl.1 (Nat.le_of_ble_eq_true rfl) dL_change_204 ⟨Nat.zero_le _, Nat.zero_le _⟩ rfl (fun H locs hH => ?_)
                refine lv_istore (lv' := [(4, .int U34.1), (0, .ref b), (1, .int a1), (2, .int a2), (3, .int a3)]) hx hb dL_change_207 hl (by decide) rfl (fun ls hl => ?_)
                refine lv_aload_n hx hb dL_change_209 rfl (lv_at hl 1 rfl) ?_
                obtain ⟨U35, eU35, hE⟩ := lt_el hE
                refine rg_callWS (As := []) (rest := []) F hH (fun q h1 h2 => ⟨h1, h2⟩) (mX6_wipe l X b U34.2  U35 eU35) (cwV 0 F.1.2.2.2.2 gL_change_X6_wipe rfl rfl rfl hvX6_wipe ⟨Nat.le_of_ble_eq_true rfl, Nat.le_of_ble_eq_true rfl⟩) (rp_recv F hH.1 0 rfl (C := RX6) (T := TX6) (N := 9) rfl rfl) hH.1 rfl hl.1 (Nat.le_of_ble_eq_true rfl) dL_change_210 ⟨Nat.zero_le _, Nat.zero_le _⟩ rfl (fun H locs hH => ?_)
                refine lv_istore (lv' := [(5, .int U35.1), (4, .int U34.1), (0, .ref b), (1, .int a1), (2, .int a2), (3, .int a3)]) hx hb dL_change_213 hl (by decide) rfl (fun ls hl => ?_)
                refine lv_iload hx hb dL_change_215 (lv_at hl 1 rfl) ?_
                have hE := Option.some.inj hE
                subst hE
                exact W.iret (v := U34.1) hx hb hr (fun t ht _ => mw_post hH ht) hH.2.1.2.2 dL_change_217
            · have hE := (if_neg c25).symm.trans hE
              by_cases c36 : a1 = 6
              · have hE := (if_pos c36).symm.trans hE
                refine lv_tableIn (off := 153) (tgt := 154) hx hb dL_change_1 (by rw [c36]; decide) (by rw [c36]; decide) (by rw [c36]; rfl) (by decide) ?_
                refine lv_iconst (v := 0) hx hb dL_change_154 (by decide) ?_
                refine lv_istore (lv' := [(4, .int ((0 : Int32))), (0, .ref b), (1, .int a1), (2, .int a2), (3, .int a3)]) hx hb dL_change_155 hl (by decide) rfl (fun ls hl => ?_)
                obtain ⟨x43, hx43, hE⟩ := bd_el hE
                refine it_walk2 (body := lbL_change_157_1 a2 a3) (Wh := fun s37 => ∀ (H : Heap) (locs : List Loc) (ls : Array Slot), Hp (t_fr b (b + LA.length)) s.heap s.heap.size X LA b s37.2 H locs → lv_has ls 6 [(4, .int s37.1), (0, .ref b), (1, .int a1), (2, .int a2), (3, .int a3)] → W p l e rmL_change s m ([.ref b, .int a1, .int a2, .int a3] : List Value).toArray below meth c H locs 0 0 (MQ below (cQw (some (.int out.1)) b (b + LA.length) (RP X LA b out.2)) ([.ref b, .int a1, .int a2, .int a3] : List Value).toArray s 0 0 (t_fr b (b + LA.length))) (F0 m 157 ls [])) (We := fun s42 => ∀ (H : Heap) (locs : List Loc) (ls : Array Slot), Hp (t_fr b (b + LA.length)) s.heap s.heap.size X LA b s42.2 H locs → lv_has ls 6 [(4, .int s42.1), (0, .ref b), (1, .int a1), (2, .int a2), (3, .int a3)] → W p l e rmL_change s m ([.ref b, .int a1, .int a2, .int a3] : List Value).toArray below meth c H locs 0 0 (MQ below (cQw (some (.int out.1)) b (b + LA.length) (RP X LA b out.2)) ([.ref b, .int a1, .int a2, .int a3] : List Value).toArray s 0 0 (t_fr b (b + LA.length))) (F0 m 196 ls [])) ?_ _ _ _ hx43 ?_ s.heap [] ls hH (lv_sub hl [0, 1, 2, 3, 4] rfl)
                · intro s37 r9 hE hL9 hR9 H locs ls hH hl
                  unfold lbL_change_157_1 at hE
                  refine lv_iload hx hb dL_change_157 (lv_at hl 0 rfl) ?_
                  refine lv_iconst (v := 1) hx hb dL_change_159 (by decide) ?_
                  refine lv_iload_n hx hb dL_change_160 rfl (lv_at hl 3 rfl) ?_
                  refine lv_bipush (v := 6) hx hb dL_change_161 (by decide) ?_
                  obtain ⟨r38, er38, hE⟩ := bd_el hE
                  refine rg_callRS (As := [.int a2, .int ((6 : Int32))]) (rest := [.int ((1 : Int32)), .int s37.1]) F (mL_low l X a2 ((6 : Int32)) r38 er38) (va_cwS 2 F.1.2.2.2.2 gL_change_L_low rfl rfl rfl hsL_low ⟨Nat.le_of_ble_eq_true rfl, Nat.le_of_ble_eq_true rfl⟩) trivial rfl hl.1 (Nat.le_of_ble_eq_true rfl) dL_change_163 ⟨Nat.zero_le _, Nat.zero_le _⟩ rfl ?_
                  refine lv_iadd hx hb dL_change_166 ?_
                  refine lv_icmp_ge (tgt := 196) hx hb dL_change_167 (by decide) (fun c39 => ?_) (fun c39 => ?_)
                  · have hE := (if_pos c39).symm.trans hE
                    cases hE
                    exact hR9 _ rfl H locs ls hH (lv_sub hl [0, 1, 2, 3, 4] rfl)
                  · have hE := (if_neg c39).symm.trans hE
                    refine lv_aload_n hx hb dL_change_170 rfl (lv_at hl 1 rfl) ?_
                    refine lv_bipush (v := 97) hx hb dL_change_171 (by decide) ?_
                    refine lv_iload_n hx hb dL_change_173 rfl (lv_at hl 4 rfl) ?_
                    refine lv_iconst (v := 2) hx hb dL_change_174 (by decide) ?_
                    refine lv_iload hx hb dL_change_175 (lv_at hl 0 rfl) ?_
                    refine lv_imul hx hb dL_change_177 ?_
                    refine lv_ishr hx hb dL_change_178 ?_
                    refine lv_bipush (v := 26) hx hb dL_change_179 (by decide) ?_
                    obtain ⟨r40, er40, hE⟩ := bd_el hE
                    refine rg_callRS (As := [.int (a3 >>> ((((2 : Int32)) * s37.1) &&& 31)), .int ((26 : Int32))]) (rest := [.int ((97 : Int32)), .ref b]) F (mL_low l X (a3 >>> ((((2 : Int32)) * s37.1) &&& 31)) ((26 : Int32)) r40 er40) (va_cwS 2 F.1.2.2.2.2 gL_change_L_low rfl rfl rfl hsL_low ⟨Nat.le_of_ble_eq_true rfl, Nat.le_of_ble_eq_true rfl⟩) trivial rfl hl.1 (Nat.le_of_ble_eq_true rfl) dL_change_181 ⟨Nat.zero_le _, Nat.zero_le _⟩ rfl ?_
                    refine lv_iadd hx hb dL_change_184 ?_
                    refine lv_i2l (v := (((97 : Int32)) + r40).toInt64) hx hb dL_change_185 rfl ?_
                    obtain ⟨U41, eU41, hE⟩ := bd_el hE
                    refine rg_callWS (As := [.long ((((97 : Int32)) + r40).toInt64)]) (rest := []) F hH (fun q h1 h2 => ⟨h1, h2⟩) (mX6_write l X b s37.2 ((((97 : Int32)) + r40).toInt64) U41 eU41) (cwV 1 F.1.2.2.2.2 gL_change_X6_write rfl rfl rfl hvX6_write ⟨Nat.le_of_ble_eq_true rfl, Nat.le_of_ble_eq_true rfl⟩) (rp_recv F hH.1 0 rfl (C := RX6) (T := TX6) (N := 9) rfl rfl) hH.1 rfl hl.1 (Nat.le_of_ble_eq_true rfl) dL_change_186 ⟨Nat.zero_le _, Nat.zero_le _⟩ rfl (fun H locs hH => ?_)
                    refine lv_pop hx hb dL_change_189 rfl ?_
                    refine lv_iinc (v := s37.1 + 1) (lv' := [(4, .int (s37.1 + 1)), (0, .ref b), (1, .int a1), (2, .int a2), (3, .int a3)]) hx hb dL_change_190 hl (k := 0) rfl (congrArg (fun q => s37.1 + q) (by decide)) (by decide) rfl (fun ls hl => ?_)
                    refine lv_goto (tgt := 157) hx hb dL_change_193 (by decide) ?_
                    cases hE
                    exact hL9 _ rfl H locs ls hH (lv_sub hl [0, 1, 2, 3, 4] rfl)
                · intro H locs ls hH hl
                  refine lv_aload_n hx hb dL_change_196 rfl (lv_at hl 1 rfl) ?_
                  refine lv_iload_n hx hb dL_change_197 rfl (lv_at hl 3 rfl) ?_
                  refine lv_iconst (v := 4) hx hb dL_change_198 (by decide) ?_
                  refine lv_ishr hx hb dL_change_199 ?_
                  refine lv_iconst (v := 2) hx hb dL_change_200 (by decide) ?_
                  obtain ⟨r44, er44, hE⟩ := bd_el hE
                  refine rg_callRS (As := [.int (a2 >>> (((4 : Int32)) &&& 31)), .int ((2 : Int32))]) (rest := [.ref b]) F (mL_low l X (a2 >>> (((4 : Int32)) &&& 31)) ((2 : Int32)) r44 er44) (va_cwS 2 F.1.2.2.2.2 gL_change_L_low rfl rfl rfl hsL_low ⟨Nat.le_of_ble_eq_true rfl, Nat.le_of_ble_eq_true rfl⟩) trivial rfl hl.1 (Nat.le_of_ble_eq_true rfl) dL_change_201 ⟨Nat.zero_le _, Nat.zero_le _⟩ rfl ?_
                  obtain ⟨U45, eU45, hE⟩ := lt_el hE
                  refine rg_callWS (As := [.int r44]) (rest := []) F hH (fun q h1 h2 => ⟨h1, h2⟩) (mX6_put l X b x43.2 r44 U45 eU45) (cwV 1 F.1.2.2.2.2 gL_change_X6_put rfl rfl rfl hvX6_put ⟨Nat.le_of_ble_eq_true rfl, Nat.le_of_ble_eq_true rfl⟩) (rp_recv F hH.1 0 rfl (C := RX6) (T := TX6) (N := 9) rfl rfl) hH.1 rfl hl.1 (Nat.le_of_ble_eq_true rfl) dL_change_204 ⟨Nat.zero_le _, Nat.zero_le _⟩ rfl (fun H locs hH => ?_)
                  refine lv_istore (lv' := [(4, .int U45.1), (0, .ref b), (1, .int a1), (2, .int a2), (3, .int a3)]) hx hb dL_change_207 hl (by decide) rfl (fun ls hl => ?_)
                  refine lv_aload_n hx hb dL_change_209 rfl (lv_at hl 1 rfl) ?_
                  obtain ⟨U46, eU46, hE⟩ := lt_el hE
                  refine rg_callWS (As := []) (rest := []) F hH (fun q h1 h2 => ⟨h1, h2⟩) (mX6_wipe l X b U45.2  U46 eU46) (cwV 0 F.1.2.2.2.2 gL_change_X6_wipe rfl rfl rfl hvX6_wipe ⟨Nat.le_of_ble_eq_true rfl, Nat.le_of_ble_eq_true rfl⟩) (rp_recv F hH.1 0 rfl (C := RX6) (T := TX6) (N := 9) rfl rfl) hH.1 rfl hl.1 (Nat.le_of_ble_eq_true rfl) dL_change_210 ⟨Nat.zero_le _, Nat.zero_le _⟩ rfl (fun H locs hH => ?_)
                  refine lv_istore (lv' := [(5, .int U46.1), (4, .int U45.1), (0, .ref b), (1, .int a1), (2, .int a2), (3, .int a3)]) hx hb dL_change_213 hl (by decide) rfl (fun ls hl => ?_)
                  refine lv_iload hx hb dL_change_215 (lv_at hl 1 rfl) ?_
                  have hE := Option.some.inj hE
                  subst hE
                  exact W.iret (v := U45.1) hx hb hr (fun t ht _ => mw_post hH ht) hH.2.1.2.2 dL_change_217
              · have hE := (if_neg c36).symm.trans hE
                by_cases c47 : a1 = 7
                · have hE := (if_pos c47).symm.trans hE
                  refine lv_tableIn (off := 153) (tgt := 154) hx hb dL_change_1 (by rw [c47]; decide) (by rw [c47]; decide) (by rw [c47]; rfl) (by decide) ?_
                  refine lv_iconst (v := 0) hx hb dL_change_154 (by decide) ?_
                  refine lv_istore (lv' := [(4, .int ((0 : Int32))), (0, .ref b), (1, .int a1), (2, .int a2), (3, .int a3)]) hx hb dL_change_155 hl (by decide) rfl (fun ls hl => ?_)
                  obtain ⟨x54, hx54, hE⟩ := bd_el hE
                  refine it_walk2 (body := lbL_change_157_2 a2 a3) (Wh := fun s48 => ∀ (H : Heap) (locs : List Loc) (ls : Array Slot), Hp (t_fr b (b + LA.length)) s.heap s.heap.size X LA b s48.2 H locs → lv_has ls 6 [(4, .int s48.1), (0, .ref b), (1, .int a1), (2, .int a2), (3, .int a3)] → W p l e rmL_change s m ([.ref b, .int a1, .int a2, .int a3] : List Value).toArray below meth c H locs 0 0 (MQ below (cQw (some (.int out.1)) b (b + LA.length) (RP X LA b out.2)) ([.ref b, .int a1, .int a2, .int a3] : List Value).toArray s 0 0 (t_fr b (b + LA.length))) (F0 m 157 ls [])) (We := fun s53 => ∀ (H : Heap) (locs : List Loc) (ls : Array Slot), Hp (t_fr b (b + LA.length)) s.heap s.heap.size X LA b s53.2 H locs → lv_has ls 6 [(4, .int s53.1), (0, .ref b), (1, .int a1), (2, .int a2), (3, .int a3)] → W p l e rmL_change s m ([.ref b, .int a1, .int a2, .int a3] : List Value).toArray below meth c H locs 0 0 (MQ below (cQw (some (.int out.1)) b (b + LA.length) (RP X LA b out.2)) ([.ref b, .int a1, .int a2, .int a3] : List Value).toArray s 0 0 (t_fr b (b + LA.length))) (F0 m 196 ls [])) ?_ _ _ _ hx54 ?_ s.heap [] ls hH (lv_sub hl [0, 1, 2, 3, 4] rfl)
                  · intro s48 r9 hE hL9 hR9 H locs ls hH hl
                    unfold lbL_change_157_2 at hE
                    refine lv_iload hx hb dL_change_157 (lv_at hl 0 rfl) ?_
                    refine lv_iconst (v := 1) hx hb dL_change_159 (by decide) ?_
                    refine lv_iload_n hx hb dL_change_160 rfl (lv_at hl 3 rfl) ?_
                    refine lv_bipush (v := 6) hx hb dL_change_161 (by decide) ?_
                    obtain ⟨r49, er49, hE⟩ := bd_el hE
                    refine rg_callRS (As := [.int a2, .int ((6 : Int32))]) (rest := [.int ((1 : Int32)), .int s48.1]) F (mL_low l X a2 ((6 : Int32)) r49 er49) (va_cwS 2 F.1.2.2.2.2 gL_change_L_low rfl rfl rfl hsL_low ⟨Nat.le_of_ble_eq_true rfl, Nat.le_of_ble_eq_true rfl⟩) trivial rfl hl.1 (Nat.le_of_ble_eq_true rfl) dL_change_163 ⟨Nat.zero_le _, Nat.zero_le _⟩ rfl ?_
                    refine lv_iadd hx hb dL_change_166 ?_
                    refine lv_icmp_ge (tgt := 196) hx hb dL_change_167 (by decide) (fun c50 => ?_) (fun c50 => ?_)
                    · have hE := (if_pos c50).symm.trans hE
                      cases hE
                      exact hR9 _ rfl H locs ls hH (lv_sub hl [0, 1, 2, 3, 4] rfl)
                    · have hE := (if_neg c50).symm.trans hE
                      refine lv_aload_n hx hb dL_change_170 rfl (lv_at hl 1 rfl) ?_
                      refine lv_bipush (v := 97) hx hb dL_change_171 (by decide) ?_
                      refine lv_iload_n hx hb dL_change_173 rfl (lv_at hl 4 rfl) ?_
                      refine lv_iconst (v := 2) hx hb dL_change_174 (by decide) ?_
                      refine lv_iload hx hb dL_change_175 (lv_at hl 0 rfl) ?_
                      refine lv_imul hx hb dL_change_177 ?_
                      refine lv_ishr hx hb dL_change_178 ?_
                      refine lv_bipush (v := 26) hx hb dL_change_179 (by decide) ?_
                      obtain ⟨r51, er51, hE⟩ := bd_el hE
                      refine rg_callRS (As := [.int (a3 >>> ((((2 : Int32)) * s48.1) &&& 31)), .int ((26 : Int32))]) (rest := [.int ((97 : Int32)), .ref b]) F (mL_low l X (a3 >>> ((((2 : Int32)) * s48.1) &&& 31)) ((26 : Int32)) r51 er51) (va_cwS 2 F.1.2.2.2.2 gL_change_L_low rfl rfl rfl hsL_low ⟨Nat.le_of_ble_eq_true rfl, Nat.le_of_ble_eq_true rfl⟩) trivial rfl hl.1 (Nat.le_of_ble_eq_true rfl) dL_change_181 ⟨Nat.zero_le _, Nat.zero_le _⟩ rfl ?_
                      refine lv_iadd hx hb dL_change_184 ?_
                      refine lv_i2l (v := (((97 : Int32)) + r51).toInt64) hx hb dL_change_185 rfl ?_
                      obtain ⟨U52, eU52, hE⟩ := bd_el hE
                      refine rg_callWS (As := [.long ((((97 : Int32)) + r51).toInt64)]) (rest := []) F hH (fun q h1 h2 => ⟨h1, h2⟩) (mX6_write l X b s48.2 ((((97 : Int32)) + r51).toInt64) U52 eU52) (cwV 1 F.1.2.2.2.2 gL_change_X6_write rfl rfl rfl hvX6_write ⟨Nat.le_of_ble_eq_true rfl, Nat.le_of_ble_eq_true rfl⟩) (rp_recv F hH.1 0 rfl (C := RX6) (T := TX6) (N := 9) rfl rfl) hH.1 rfl hl.1 (Nat.le_of_ble_eq_true rfl) dL_change_186 ⟨Nat.zero_le _, Nat.zero_le _⟩ rfl (fun H locs hH => ?_)
                      refine lv_pop hx hb dL_change_189 rfl ?_
                      refine lv_iinc (v := s48.1 + 1) (lv' := [(4, .int (s48.1 + 1)), (0, .ref b), (1, .int a1), (2, .int a2), (3, .int a3)]) hx hb dL_change_190 hl (k := 0) rfl (congrArg (fun q => s48.1 + q) (by decide)) (by decide) rfl (fun ls hl => ?_)
                      refine lv_goto (tgt := 157) hx hb dL_change_193 (by decide) ?_
                      cases hE
                      exact hL9 _ rfl H locs ls hH (lv_sub hl [0, 1, 2, 3, 4] rfl)
                  · intro H locs ls hH hl
                    refine lv_aload_n hx hb dL_change_196 rfl (lv_at hl 1 rfl) ?_
                    refine lv_iload_n hx hb dL_change_197 rfl (lv_at hl 3 rfl) ?_
                    refine lv_iconst (v := 4) hx hb dL_change_198 (by decide) ?_
                    refine lv_ishr hx hb dL_change_199 ?_
                    refine lv_iconst (v := 2) hx hb dL_change_200 (by decide) ?_
                    obtain ⟨r55, er55, hE⟩ := bd_el hE
                    refine rg_callRS (As := [.int (a2 >>> (((4 : Int32)) &&& 31)), .int ((2 : Int32))]) (rest := [.ref b]) F (mL_low l X (a2 >>> (((4 : Int32)) &&& 31)) ((2 : Int32)) r55 er55) (va_cwS 2 F.1.2.2.2.2 gL_change_L_low rfl rfl rfl hsL_low ⟨Nat.le_of_ble_eq_true rfl, Nat.le_of_ble_eq_true rfl⟩) trivial rfl hl.1 (Nat.le_of_ble_eq_true rfl) dL_change_201 ⟨Nat.zero_le _, Nat.zero_le _⟩ rfl ?_
                    obtain ⟨U56, eU56, hE⟩ := lt_el hE
                    refine rg_callWS (As := [.int r55]) (rest := []) F hH (fun q h1 h2 => ⟨h1, h2⟩) (mX6_put l X b x54.2 r55 U56 eU56) (cwV 1 F.1.2.2.2.2 gL_change_X6_put rfl rfl rfl hvX6_put ⟨Nat.le_of_ble_eq_true rfl, Nat.le_of_ble_eq_true rfl⟩) (rp_recv F hH.1 0 rfl (C := RX6) (T := TX6) (N := 9) rfl rfl) hH.1 rfl hl.1 (Nat.le_of_ble_eq_true rfl) dL_change_204 ⟨Nat.zero_le _, Nat.zero_le _⟩ rfl (fun H locs hH => ?_)
                    refine lv_istore (lv' := [(4, .int U56.1), (0, .ref b), (1, .int a1), (2, .int a2), (3, .int a3)]) hx hb dL_change_207 hl (by decide) rfl (fun ls hl => ?_)
                    refine lv_aload_n hx hb dL_change_209 rfl (lv_at hl 1 rfl) ?_
                    obtain ⟨U57, eU57, hE⟩ := lt_el hE
                    refine rg_callWS (As := []) (rest := []) F hH (fun q h1 h2 => ⟨h1, h2⟩) (mX6_wipe l X b U56.2  U57 eU57) (cwV 0 F.1.2.2.2.2 gL_change_X6_wipe rfl rfl rfl hvX6_wipe ⟨Nat.le_of_ble_eq_true rfl, Nat.le_of_ble_eq_true rfl⟩) (rp_recv F hH.1 0 rfl (C := RX6) (T := TX6) (N := 9) rfl rfl) hH.1 rfl hl.1 (Nat.le_of_ble_eq_true rfl) dL_change_210 ⟨Nat.zero_le _, Nat.zero_le _⟩ rfl (fun H locs hH => ?_)
                    refine lv_istore (lv' := [(5, .int U57.1), (4, .int U56.1), (0, .ref b), (1, .int a1), (2, .int a2), (3, .int a3)]) hx hb dL_change_213 hl (by decide) rfl (fun ls hl => ?_)
                    refine lv_iload hx hb dL_change_215 (lv_at hl 1 rfl) ?_
                    have hE := Option.some.inj hE
                    subst hE
                    exact W.iret (v := U56.1) hx hb hr (fun t ht _ => mw_post hH ht) hH.2.1.2.2 dL_change_217
                · have hE := (if_neg c47).symm.trans hE
                  refine lv_tableOut (tgt := 218) hx hb dL_change_1 (ts_out8 c1 c7 c11 c15 c19 c25 c36 c47) (by decide) ?_
                  refine lv_aload_n hx hb dL_change_218 rfl (lv_at hl 0 rfl) ?_
                  refine lv_iconst (v := 1) hx hb dL_change_219 (by decide) ?_
                  refine lv_iload_n hx hb dL_change_220 rfl (lv_at hl 2 rfl) ?_
                  refine lv_bipush (v := 30) hx hb dL_change_221 (by decide) ?_
                  obtain ⟨r58, er58, hE⟩ := bd_el hE
                  refine rg_callRS (As := [.int a2, .int ((30 : Int32))]) (rest := [.int ((1 : Int32)), .ref b]) F (mL_low l X a2 ((30 : Int32)) r58 er58) (va_cwS 2 F.1.2.2.2.2 gL_change_L_low rfl rfl rfl hsL_low ⟨Nat.le_of_ble_eq_true rfl, Nat.le_of_ble_eq_true rfl⟩) trivial rfl hl.1 (Nat.le_of_ble_eq_true rfl) dL_change_223 ⟨Nat.zero_le _, Nat.zero_le _⟩ rfl ?_
                  refine lv_iadd hx hb dL_change_226 ?_
                  obtain ⟨U59, eU59, hE⟩ := lt_el hE
                  refine rg_callWS (As := [.int (((1 : Int32)) + r58)]) (rest := []) F hH (fun q h1 h2 => ⟨h1, h2⟩) (mX6_run l X b V (((1 : Int32)) + r58) U59 eU59) (cwV 1 F.1.2.2.2.2 gL_change_X6_run rfl rfl rfl hvX6_run ⟨Nat.le_of_ble_eq_true rfl, Nat.le_of_ble_eq_true rfl⟩) (rp_recv F hH.1 0 rfl (C := RX6) (T := TX6) (N := 9) rfl rfl) hH.1 rfl hl.1 (Nat.le_of_ble_eq_true rfl) dL_change_227 ⟨Nat.zero_le _, Nat.zero_le _⟩ rfl (fun H locs hH => ?_)
                  have hE := Option.some.inj hE
                  subst hE
                  exact W.iret (v := U59.1) hx hb hr (fun t ht _ => mw_post hH ht) hH.2.1.2.2 dL_change_230
