theorem hsL_low : yL_low.cls ≠ "java/lang/invoke/MethodHandle" ∧ yL_low.cls ≠ "java/lang/invoke/VarHandle" ∧ (parseMethodDescriptor yL_low.desc).map (fun d => d.parameters.length) = some 2 := by decide +kernel
theorem hvX6_ifRun : yX6_ifRun.cls = RX6 ∧ yX6_ifRun.cls ≠ "java/lang/invoke/MethodHandle" ∧ yX6_ifRun.cls ≠ "java/lang/invoke/VarHandle" ∧ (parseMethodDescriptor yX6_ifRun.desc).map (fun d => d.parameters.length) = some 2 := by decide +kernel
theorem hvX6_run : yX6_run.cls = RX6 ∧ yX6_run.cls ≠ "java/lang/invoke/MethodHandle" ∧ yX6_run.cls ≠ "java/lang/invoke/VarHandle" ∧ (parseMethodDescriptor yX6_run.desc).map (fun d => d.parameters.length) = some 1 := by decide +kernel
theorem hvX6_undo : yX6_undo.cls = RX6 ∧ yX6_undo.cls ≠ "java/lang/invoke/MethodHandle" ∧ yX6_undo.cls ≠ "java/lang/invoke/VarHandle" ∧ (parseMethodDescriptor yX6_undo.desc).map (fun d => d.parameters.length) = some 0 := by decide +kernel
theorem hvX6_leastSlack : yX6_leastSlack.cls = RX6 ∧ yX6_leastSlack.cls ≠ "java/lang/invoke/MethodHandle" ∧ yX6_leastSlack.cls ≠ "java/lang/invoke/VarHandle" ∧ (parseMethodDescriptor yX6_leastSlack.desc).map (fun d => d.parameters.length) = some 2 := by decide +kernel
theorem hvX6_gate : yX6_gate.cls = RX6 ∧ yX6_gate.cls ≠ "java/lang/invoke/MethodHandle" ∧ yX6_gate.cls ≠ "java/lang/invoke/VarHandle" ∧ (parseMethodDescriptor yX6_gate.desc).map (fun d => d.parameters.length) = some 4 := by decide +kernel
theorem hvX6_bestLie : yX6_bestLie.cls = RX6 ∧ yX6_bestLie.cls ≠ "java/lang/invoke/MethodHandle" ∧ yX6_bestLie.cls ≠ "java/lang/invoke/VarHandle" ∧ (parseMethodDescriptor yX6_bestLie.desc).map (fun d => d.parameters.length) = some 2 := by decide +kernel
theorem hvX6_gauge : yX6_gauge.cls = RX6 ∧ yX6_gauge.cls ≠ "java/lang/invoke/MethodHandle" ∧ yX6_gauge.cls ≠ "java/lang/invoke/VarHandle" ∧ (parseMethodDescriptor yX6_gauge.desc).map (fun d => d.parameters.length) = some 2 := by decide +kernel
theorem hsL_opens : yL_opens.cls ≠ "java/lang/invoke/MethodHandle" ∧ yL_opens.cls ≠ "java/lang/invoke/VarHandle" ∧ (parseMethodDescriptor yL_opens.desc).map (fun d => d.parameters.length) = some 2 := by decide +kernel
def qL_tries (V : Mem) (a1 : Int32) : Option (Int32 × Mem) := (qL_low a1 ((120 : Int32))).bind (fun r1 => lt (fX6_ifRun V (((1 : Int32)) + r1) ((0 : Int32))) (fun U2 => lt (fX6_ifRun U2.2 (((1 : Int32)) + r1) ((1 : Int32))) (fun U3 => lt (fX6_ifRun U3.2 (((1 : Int32)) + r1) ((3 : Int32))) (fun U4 => lt (fX6_count U4.2 ((6 : Int32))) (fun r5 => lt (fX6_count U4.2 ((8 : Int32))) (fun r6 => lt (fX6_count U4.2 ((0 : Int32))) (fun r7 => lt (fX6_run U4.2 (((1 : Int32)) + r1)) (fun U8 => (if U8.1 = U2.1 then lt (fX6_count U8.2 ((6 : Int32))) (fun r102 => if r102 = r5 + U3.1 then lt (fX6_count U8.2 ((8 : Int32))) (fun r104 => if r104 = r6 + U4.1 then (qX6_undo U8.2 ).bind (fun U106 => if U106.1 < 0 then some ((0 : Int32), U106.2) else lt (fX6_count U106.2 ((0 : Int32))) (fun r108 => if r108 = r7 then some ((1 : Int32), U106.2) else some ((0 : Int32), U106.2))) else some ((0 : Int32), U8.2)) else some ((0 : Int32), U8.2)) else some ((0 : Int32), U8.2) : Option (Int32 × Mem)).bind (fun j9 => lt (fX6_count j9.2 ((1 : Int32))) (fun r11 => (qL_low (a1 >>> (((7 : Int32)) &&& 31)) (r11 + ((1 : Int32)))).bind (fun r12 => (qX6_untilPassed j9.2 r12).bind (fun U13 => (if j9.1 = 0 then some (j9.1, U13.2) else if U13.1 ≤ 0 then some (j9.1, U13.2) else if (500 : Int32) < U13.1 then some (j9.1, U13.2) else lt (fX6_run U13.2 U13.1) (fun U84 => (if U84.1 < (1 : Int32) then some ((0 : Int32), U84.2) else lt (fX6_word U84.2 r12 ((3 : Int32))) (fun r88 => if r88 = (1 : Int32) then lt (fX6_word U84.2 r12 ((4 : Int32))) (fun r90 => if r90 = (r7 + U13.1) - ((1 : Int32)) then (qX6_undo U84.2 ).bind (fun U92 => if U92.1 < 0 then some ((0 : Int32), U92.2) else if U13.1 = (1 : Int32) then some ((1 : Int32), U92.2) else lt (fX6_run U92.2 (U13.1 - ((1 : Int32)))) (fun U95 => if U95.1 < 0 then some ((0 : Int32), U95.2) else lt (fX6_word U95.2 r12 ((3 : Int32))) (fun r97 => if r97 = 0 then (qX6_undo U95.2 ).bind (fun U99 => if U99.1 < 0 then some ((0 : Int32), U99.2) else some ((1 : Int32), U99.2)) else some ((0 : Int32), U95.2)))) else some ((0 : Int32), U84.2)) else some ((0 : Int32), U84.2)) : Option (Int32 × Mem)).bind (fun j85 => some (j85.1, j85.2))) : Option (Int32 × Mem)).bind (fun j14 => (qL_low (a1 >>> (((11 : Int32)) &&& 31)) ((4 : Int32))).bind (fun r16 => lt (fX6_gateOf j14.2 r16 ((0 : Int32))) (fun r17 => lt (fX6_gateOf j14.2 r16 ((1 : Int32))) (fun r18 => lt (fX6_gateOf j14.2 r16 ((2 : Int32))) (fun r19 => (qX6_leastSlack j14.2 r16 ((0 : Int32))).bind (fun U20 => (qX6_leastSlack U20.2 r16 ((1 : Int32))).bind (fun U21 => (qL_low (a1 >>> (((13 : Int32)) &&& 31)) ((100 : Int32))).bind (fun r22 => (if j14.1 = 0 then some ((0 : Int32), U21.2) else lt (fX6_gate U21.2 r16 r17 U20.1 r19) (fun U62 => if U62.1 = r18 then lt (fX6_ifRun U62.2 ((200 : Int32)) ((0 : Int32))) (fun U64 => if U64.1 = U21.1 then lt (fX6_gate U64.2 r16 r17 r22 r19) (fun U66 => if U66.1 = U20.1 then lt (fX6_ifRun U66.2 ((200 : Int32)) ((0 : Int32))) (fun U68 => if U68.1 < U21.1 then (qX6_undo U68.2 ).bind (fun U70 => if U70.1 < 0 then some ((0 : Int32), U70.2) else (qX6_undo U70.2 ).bind (fun U72 => if U72.1 < 0 then some ((0 : Int32), U72.2) else some ((1 : Int32), U72.2))) else lt (fX6_ifRun U68.2 ((200 : Int32)) ((0 : Int32))) (fun U74 => if U74.1 = U21.1 then if r22 < U20.1 then some ((0 : Int32), U74.2) else (qX6_undo U74.2 ).bind (fun U77 => if U77.1 < 0 then some ((0 : Int32), U77.2) else (qX6_undo U77.2 ).bind (fun U79 => if U79.1 < 0 then some ((0 : Int32), U79.2) else some ((1 : Int32), U79.2))) else some ((0 : Int32), U74.2))) else some ((0 : Int32), U66.2)) else some ((0 : Int32), U64.2)) else some ((0 : Int32), U62.2)) : Option (Int32 × Mem)).bind (fun j23 => lt (fX6_store j23.2 ((a1 >>> (((20 : Int32)) &&& 31)) &&& ((1 : Int32))) ((3 : Int32))) (fun r25 => (qX6_bestLie j23.2 ((a1 >>> (((20 : Int32)) &&& 31)) &&& ((1 : Int32))) r16).bind (fun U26 => (qL_low (a1 >>> (((13 : Int32)) &&& 31)) ((101 : Int32))).bind (fun r27 => (if j23.1 = 0 then some ((0 : Int32), U26.2) else lt (fX6_gauge U26.2 ((a1 >>> (((20 : Int32)) &&& 31)) &&& ((1 : Int32))) U26.1) (fun U59 => if U59.1 = r25 then some ((1 : Int32), U59.2) else some ((0 : Int32), U59.2)) : Option (Int32 × Mem)).bind (fun j28 => (qL_opens j28.2 r18).bind (fun r30 => (if j28.1 = 0 then some ((0 : Int32), j28.2) else lt (fX6_gauge j28.2 ((a1 >>> (((20 : Int32)) &&& 31)) &&& ((1 : Int32))) (r27 - ((50 : Int32)))) (fun U56 => if U56.1 = U26.1 then some ((1 : Int32), U56.2) else some ((0 : Int32), U56.2)) : Option (Int32 × Mem)).bind (fun j31 => (qL_opens j31.2 r18).bind (fun r33 => (if U26.1 * U26.1 < (r27 - ((50 : Int32))) * (r27 - ((50 : Int32))) then some ((1 : Int32)) else if (r27 - ((50 : Int32))) * (r27 - ((50 : Int32))) = U26.1 * U26.1 then if r27 - ((50 : Int32)) < U26.1 then some ((0 : Int32)) else some ((1 : Int32)) else some ((0 : Int32)) : Option (Int32)).bind (fun j34 => if j31.1 = 0 then some (((0 : Int32), j31.2)) else if r33 < r30 then (qX6_undo j31.2 ).bind (fun U38 => if U38.1 < 0 then some (((0 : Int32), U38.2)) else (qX6_undo U38.2 ).bind (fun U40 => if U40.1 < 0 then some (((0 : Int32), U40.2)) else lt (fX6_store U40.2 ((a1 >>> (((20 : Int32)) &&& 31)) &&& ((1 : Int32))) ((3 : Int32))) (fun r42 => if r42 = r25 then some (((1 : Int32), U40.2)) else some (((0 : Int32), U40.2))))) else if r33 = r30 then if j34 = 0 then some (((0 : Int32), j31.2)) else (qX6_undo j31.2 ).bind (fun U46 => if U46.1 < 0 then some (((0 : Int32), U46.2)) else (qX6_undo U46.2 ).bind (fun U48 => if U48.1 < 0 then some (((0 : Int32), U48.2)) else lt (fX6_store U48.2 ((a1 >>> (((20 : Int32)) &&& 31)) &&& ((1 : Int32))) ((3 : Int32))) (fun r50 => if r50 = r25 then some (((1 : Int32), U48.2)) else some (((0 : Int32), U48.2))))) else some (((0 : Int32), j31.2)))))))))))))))))))))))))))))))
abbrev rmL_tries : Room := { frames := 8, cells := 0, slots := 0, locals := 191 }
set_option maxHeartbeats 40000000 in
set_option maxRecDepth 1000000 in
theorem mL_tries (l : Launch) (X : kX) (b : Nat) (V : Mem) (a1 : Int32) (out : Int32 × Mem) (hE : qL_tries V a1 = some out) : MW l yL_tries wsL_tries rmL_tries X [.ref b, .int a1] (RP X LA b V) (some (.int out.1)) b (b + LA.length) (RP X LA b out.2) := by
  refine mt_head (cc := cL_tries) (maxL := 26) (ret := (some .boolean)) (own := RL) (by decide) rfl rfl (Nat.le_of_ble_eq_true rfl) ?_
  intro p e s m below meth c ls F hr hlocks hnm hR hl
  have hx := F.1.1
  have hb := F.1.2.1
  have hH : Hp (t_fr b (b + LA.length)) s.heap s.heap.size X LA b V s.heap [] := ⟨hR, va_S.rf, rfl⟩
  have hl : lv_has ls 26 [(0, .ref b), (1, .int a1)] := hl
  unfold qL_tries at hE
  refine lv_iconst (v := 1) hx hb dL_tries_0 (by decide) ?_
  refine lv_iload_n hx hb dL_tries_1 rfl (lv_at hl 1 rfl) ?_
  refine lv_bipush (v := 120) hx hb dL_tries_2 (by decide) ?_
  obtain ⟨r1, er1, hE⟩ := bd_el hE
  refine rg_callRS (As := [.int a1, .int ((120 : Int32))]) (rest := [.int ((1 : Int32))]) F (mL_low l X a1 ((120 : Int32)) r1 er1) (va_cwS 2 F.1.2.2.2.2 gL_tries_L_low rfl rfl rfl hsL_low ⟨Nat.le_of_ble_eq_true rfl, Nat.le_of_ble_eq_true rfl⟩) trivial rfl hl.1 (Nat.le_of_ble_eq_true rfl) dL_tries_4 ⟨Nat.zero_le _, Nat.zero_le _⟩ rfl ?_
  refine lv_iadd hx hb dL_tries_7 ?_
  refine lv_istore_n (lv' := [(2, .int (((1 : Int32)) + r1)), (0, .ref b), (1, .int a1)]) hx hb dL_tries_8 rfl hl (by decide) rfl (fun ls hl => ?_)
  refine lv_aload_n hx hb dL_tries_9 rfl (lv_at hl 1 rfl) ?_
  refine lv_iload_n hx hb dL_tries_10 rfl (lv_at hl 0 rfl) ?_
  refine lv_iconst (v := 0) hx hb dL_tries_11 (by decide) ?_
  obtain ⟨U2, eU2, hE⟩ := lt_el hE
  refine rg_callWS (As := [.int (((1 : Int32)) + r1), .int ((0 : Int32))]) (rest := []) F hH (fun q h1 h2 => ⟨h1, h2⟩) (mX6_ifRun l X b V (((1 : Int32)) + r1) ((0 : Int32)) U2 eU2) (cwV 2 F.1.2.2.2.2 gL_tries_X6_ifRun rfl rfl rfl hvX6_ifRun ⟨Nat.le_of_ble_eq_true rfl, Nat.le_of_ble_eq_true rfl⟩) (rp_recv F hH.1 0 rfl (C := RX6) (T := TX6) (N := 9) rfl rfl) hH.1 rfl hl.1 (Nat.le_of_ble_eq_true rfl) dL_tries_12 ⟨Nat.zero_le _, Nat.zero_le _⟩ rfl (fun H locs hH => ?_)
  refine lv_istore_n (lv' := [(3, .int U2.1), (2, .int (((1 : Int32)) + r1)), (0, .ref b), (1, .int a1)]) hx hb dL_tries_15 rfl hl (by decide) rfl (fun ls hl => ?_)
  refine lv_aload_n hx hb dL_tries_16 rfl (lv_at hl 2 rfl) ?_
  refine lv_iload_n hx hb dL_tries_17 rfl (lv_at hl 1 rfl) ?_
  refine lv_iconst (v := 1) hx hb dL_tries_18 (by decide) ?_
  obtain ⟨U3, eU3, hE⟩ := lt_el hE
  refine rg_callWS (As := [.int (((1 : Int32)) + r1), .int ((1 : Int32))]) (rest := []) F hH (fun q h1 h2 => ⟨h1, h2⟩) (mX6_ifRun l X b U2.2 (((1 : Int32)) + r1) ((1 : Int32)) U3 eU3) (cwV 2 F.1.2.2.2.2 gL_tries_X6_ifRun rfl rfl rfl hvX6_ifRun ⟨Nat.le_of_ble_eq_true rfl, Nat.le_of_ble_eq_true rfl⟩) (rp_recv F hH.1 0 rfl (C := RX6) (T := TX6) (N := 9) rfl rfl) hH.1 rfl hl.1 (Nat.le_of_ble_eq_true rfl) dL_tries_19 ⟨Nat.zero_le _, Nat.zero_le _⟩ rfl (fun H locs hH => ?_)
  refine lv_istore (lv' := [(4, .int U3.1), (3, .int U2.1), (2, .int (((1 : Int32)) + r1)), (0, .ref b), (1, .int a1)]) hx hb dL_tries_22 hl (by decide) rfl (fun ls hl => ?_)
  refine lv_aload_n hx hb dL_tries_24 rfl (lv_at hl 3 rfl) ?_
  refine lv_iload_n hx hb dL_tries_25 rfl (lv_at hl 2 rfl) ?_
  refine lv_iconst (v := 3) hx hb dL_tries_26 (by decide) ?_
  obtain ⟨U4, eU4, hE⟩ := lt_el hE
  refine rg_callWS (As := [.int (((1 : Int32)) + r1), .int ((3 : Int32))]) (rest := []) F hH (fun q h1 h2 => ⟨h1, h2⟩) (mX6_ifRun l X b U3.2 (((1 : Int32)) + r1) ((3 : Int32)) U4 eU4) (cwV 2 F.1.2.2.2.2 gL_tries_X6_ifRun rfl rfl rfl hvX6_ifRun ⟨Nat.le_of_ble_eq_true rfl, Nat.le_of_ble_eq_true rfl⟩) (rp_recv F hH.1 0 rfl (C := RX6) (T := TX6) (N := 9) rfl rfl) hH.1 rfl hl.1 (Nat.le_of_ble_eq_true rfl) dL_tries_27 ⟨Nat.zero_le _, Nat.zero_le _⟩ rfl (fun H locs hH => ?_)
  refine lv_istore (lv' := [(5, .int U4.1), (4, .int U3.1), (3, .int U2.1), (2, .int (((1 : Int32)) + r1)), (0, .ref b), (1, .int a1)]) hx hb dL_tries_30 hl (by decide) rfl (fun ls hl => ?_)
  refine lv_aload_n hx hb dL_tries_32 rfl (lv_at hl 4 rfl) ?_
  refine lv_bipush (v := 6) hx hb dL_tries_33 (by decide) ?_
  obtain ⟨r5, er5, hE⟩ := lt_el hE
  refine rg_callRV (As := [.int ((6 : Int32))]) (rest := []) F (mX6_count l X b U4.2 ((6 : Int32)) r5 er5) (cwV 1 F.1.2.2.2.2 gL_tries_X6_count rfl rfl rfl hvX6_count ⟨Nat.le_of_ble_eq_true rfl, Nat.le_of_ble_eq_true rfl⟩) (rp_recv F hH.1 0 rfl (C := RX6) (T := TX6) (N := 9) rfl rfl) hH.1 rfl hl.1 (Nat.le_of_ble_eq_true rfl) dL_tries_35 ⟨Nat.zero_le _, Nat.zero_le _⟩ rfl ?_
  refine lv_istore (lv' := [(6, .int r5), (5, .int U4.1), (4, .int U3.1), (3, .int U2.1), (2, .int (((1 : Int32)) + r1)), (0, .ref b), (1, .int a1)]) hx hb dL_tries_38 hl (by decide) rfl (fun ls hl => ?_)
  refine lv_aload_n hx hb dL_tries_40 rfl (lv_at hl 5 rfl) ?_
  refine lv_bipush (v := 8) hx hb dL_tries_41 (by decide) ?_
  obtain ⟨r6, er6, hE⟩ := lt_el hE
  refine rg_callRV (As := [.int ((8 : Int32))]) (rest := []) F (mX6_count l X b U4.2 ((8 : Int32)) r6 er6) (cwV 1 F.1.2.2.2.2 gL_tries_X6_count rfl rfl rfl hvX6_count ⟨Nat.le_of_ble_eq_true rfl, Nat.le_of_ble_eq_true rfl⟩) (rp_recv F hH.1 0 rfl (C := RX6) (T := TX6) (N := 9) rfl rfl) hH.1 rfl hl.1 (Nat.le_of_ble_eq_true rfl) dL_tries_43 ⟨Nat.zero_le _, Nat.zero_le _⟩ rfl ?_
  refine lv_istore (lv' := [(7, .int r6), (6, .int r5), (5, .int U4.1), (4, .int U3.1), (3, .int U2.1), (2, .int (((1 : Int32)) + r1)), (0, .ref b), (1, .int a1)]) hx hb dL_tries_46 hl (by decide) rfl (fun ls hl => ?_)
  refine lv_aload_n hx hb dL_tries_48 rfl (lv_at hl 6 rfl) ?_
  refine lv_iconst (v := 0) hx hb dL_tries_49 (by decide) ?_
  obtain ⟨r7, er7, hE⟩ := lt_el hE
  refine rg_callRV (As := [.int ((0 : Int32))]) (rest := []) F (mX6_count l X b U4.2 ((0 : Int32)) r7 er7) (cwV 1 F.1.2.2.2.2 gL_tries_X6_count rfl rfl rfl hvX6_count ⟨Nat.le_of_ble_eq_true rfl, Nat.le_of_ble_eq_true rfl⟩) (rp_recv F hH.1 0 rfl (C := RX6) (T := TX6) (N := 9) rfl rfl) hH.1 rfl hl.1 (Nat.le_of_ble_eq_true rfl) dL_tries_50 ⟨Nat.zero_le _, Nat.zero_le _⟩ rfl ?_
  refine lv_istore (lv' := [(8, .int r7), (7, .int r6), (6, .int r5), (5, .int U4.1), (4, .int U3.1), (3, .int U2.1), (2, .int (((1 : Int32)) + r1)), (0, .ref b), (1, .int a1)]) hx hb dL_tries_53 hl (by decide) rfl (fun ls hl => ?_)
  refine lv_aload_n hx hb dL_tries_55 rfl (lv_at hl 7 rfl) ?_
  refine lv_iload_n hx hb dL_tries_56 rfl (lv_at hl 6 rfl) ?_
  obtain ⟨U8, eU8, hE⟩ := lt_el hE
  refine rg_callWS (As := [.int (((1 : Int32)) + r1)]) (rest := []) F hH (fun q h1 h2 => ⟨h1, h2⟩) (mX6_run l X b U4.2 (((1 : Int32)) + r1) U8 eU8) (cwV 1 F.1.2.2.2.2 gL_tries_X6_run rfl rfl rfl hvX6_run ⟨Nat.le_of_ble_eq_true rfl, Nat.le_of_ble_eq_true rfl⟩) (rp_recv F hH.1 0 rfl (C := RX6) (T := TX6) (N := 9) rfl rfl) hH.1 rfl hl.1 (Nat.le_of_ble_eq_true rfl) dL_tries_57 ⟨Nat.zero_le _, Nat.zero_le _⟩ rfl (fun H locs hH => ?_)
  refine lv_iload_n hx hb dL_tries_60 rfl (lv_at hl 5 rfl) ?_
  obtain ⟨j9, hJ9, hE⟩ := bd_el hE
  have K10 : ∀ (H : Heap) (locs : List Loc) (ls : Array Slot), Hp (t_fr b (b + LA.length)) s.heap s.heap.size X LA b j9.2 H locs → lv_has ls 26 [(8, .int r7), (7, .int r6), (6, .int r5), (5, .int U4.1), (4, .int U3.1), (3, .int U2.1), (2, .int (((1 : Int32)) + r1)), (0, .ref b), (1, .int a1)] → W p l e rmL_tries s m ([.ref b, .int a1] : List Value).toArray below meth c H locs 0 0 (MQ below (cQw (some (.int out.1)) b (b + LA.length) (RP X LA b out.2)) ([.ref b, .int a1] : List Value).toArray s 0 0 (t_fr b (b + LA.length))) (F0 m 114 ls [.int j9.1]) := by
    clear hJ9
    intro H locs ls hH hl
    refine lv_istore (lv' := [(9, .int j9.1), (8, .int r7), (7, .int r6), (6, .int r5), (5, .int U4.1), (4, .int U3.1), (3, .int U2.1), (2, .int (((1 : Int32)) + r1)), (0, .ref b), (1, .int a1)]) hx hb dL_tries_114 hl (by decide) rfl (fun ls hl => ?_)
    refine lv_iload_n hx hb dL_tries_116 rfl (lv_at hl 9 rfl) ?_
    refine lv_bipush (v := 7) hx hb dL_tries_117 (by decide) ?_
    refine lv_ishr hx hb dL_tries_119 ?_
    refine lv_aload_n hx hb dL_tries_120 rfl (lv_at hl 8 rfl) ?_
    refine lv_iconst (v := 1) hx hb dL_tries_121 (by decide) ?_
    obtain ⟨r11, er11, hE⟩ := lt_el hE
    refine rg_callRV (As := [.int ((1 : Int32))]) (rest := [.int (a1 >>> (((7 : Int32)) &&& 31))]) F (mX6_count l X b j9.2 ((1 : Int32)) r11 er11) (cwV 1 F.1.2.2.2.2 gL_tries_X6_count rfl rfl rfl hvX6_count ⟨Nat.le_of_ble_eq_true rfl, Nat.le_of_ble_eq_true rfl⟩) (rp_recv F hH.1 0 rfl (C := RX6) (T := TX6) (N := 9) rfl rfl) hH.1 rfl hl.1 (Nat.le_of_ble_eq_true rfl) dL_tries_122 ⟨Nat.zero_le _, Nat.zero_le _⟩ rfl ?_
    refine lv_iconst (v := 1) hx hb dL_tries_125 (by decide) ?_
    refine lv_iadd hx hb dL_tries_126 ?_
    obtain ⟨r12, er12, hE⟩ := bd_el hE
    refine rg_callRS (As := [.int (a1 >>> (((7 : Int32)) &&& 31)), .int (r11 + ((1 : Int32)))]) (rest := []) F (mL_low l X (a1 >>> (((7 : Int32)) &&& 31)) (r11 + ((1 : Int32))) r12 er12) (va_cwS 2 F.1.2.2.2.2 gL_tries_L_low rfl rfl rfl hsL_low ⟨Nat.le_of_ble_eq_true rfl, Nat.le_of_ble_eq_true rfl⟩) trivial rfl hl.1 (Nat.le_of_ble_eq_true rfl) dL_tries_127 ⟨Nat.zero_le _, Nat.zero_le _⟩ rfl ?_
    refine lv_istore (lv' := [(10, .int r12), (9, .int j9.1), (8, .int r7), (7, .int r6), (6, .int r5), (5, .int U4.1), (4, .int U3.1), (3, .int U2.1), (2, .int (((1 : Int32)) + r1)), (0, .ref b), (1, .int a1)]) hx hb dL_tries_130 hl (by decide) rfl (fun ls hl => ?_)
    refine lv_aload_n hx hb dL_tries_132 rfl (lv_at hl 9 rfl) ?_
    refine lv_iload hx hb dL_tries_133 (lv_at hl 0 rfl) ?_
    obtain ⟨U13, eU13, hE⟩ := bd_el hE
    refine rg_callWS (As := [.int r12]) (rest := []) F hH (fun q h1 h2 => ⟨h1, h2⟩) (mX6_untilPassed l X b j9.2 r12 U13 eU13) (cwV 1 F.1.2.2.2.2 gL_tries_X6_untilPassed rfl rfl rfl hvX6_untilPassed ⟨Nat.le_of_ble_eq_true rfl, Nat.le_of_ble_eq_true rfl⟩) (rp_recv F hH.1 0 rfl (C := RX6) (T := TX6) (N := 9) rfl rfl) hH.1 rfl hl.1 (Nat.le_of_ble_eq_true rfl) dL_tries_135 ⟨Nat.zero_le _, Nat.zero_le _⟩ rfl (fun H locs hH => ?_)
    refine lv_istore (lv' := [(11, .int U13.1), (10, .int r12), (9, .int j9.1), (8, .int r7), (7, .int r6), (6, .int r5), (5, .int U4.1), (4, .int U3.1), (3, .int U2.1), (2, .int (((1 : Int32)) + r1)), (0, .ref b), (1, .int a1)]) hx hb dL_tries_138 hl (by decide) rfl (fun ls hl => ?_)
    refine lv_iload hx hb dL_tries_140 (lv_at hl 2 rfl) ?_
    obtain ⟨j14, hJ9, hE⟩ := bd_el hE
    have K15 : ∀ (H : Heap) (locs : List Loc) (ls : Array Slot), Hp (t_fr b (b + LA.length)) s.heap s.heap.size X LA b j14.2 H locs → lv_has ls 26 [(11, .int U13.1), (10, .int r12), (9, .int j14.1), (8, .int r7), (7, .int r6), (6, .int r5), (5, .int U4.1), (4, .int U3.1), (3, .int U2.1), (2, .int (((1 : Int32)) + r1)), (0, .ref b), (1, .int a1)] → W p l e rmL_tries s m ([.ref b, .int a1] : List Value).toArray below meth c H locs 0 0 (MQ below (cQw (some (.int out.1)) b (b + LA.length) (RP X LA b out.2)) ([.ref b, .int a1] : List Value).toArray s 0 0 (t_fr b (b + LA.length))) (F0 m 244 ls []) := by
      clear hJ9
      intro H locs ls hH hl
      refine lv_iload_n hx hb dL_tries_244 rfl (lv_at hl 11 rfl) ?_
      refine lv_bipush (v := 11) hx hb dL_tries_245 (by decide) ?_
      refine lv_ishr hx hb dL_tries_247 ?_
      refine lv_iconst (v := 4) hx hb dL_tries_248 (by decide) ?_
      obtain ⟨r16, er16, hE⟩ := bd_el hE
      refine rg_callRS (As := [.int (a1 >>> (((11 : Int32)) &&& 31)), .int ((4 : Int32))]) (rest := []) F (mL_low l X (a1 >>> (((11 : Int32)) &&& 31)) ((4 : Int32)) r16 er16) (va_cwS 2 F.1.2.2.2.2 gL_tries_L_low rfl rfl rfl hsL_low ⟨Nat.le_of_ble_eq_true rfl, Nat.le_of_ble_eq_true rfl⟩) trivial rfl hl.1 (Nat.le_of_ble_eq_true rfl) dL_tries_249 ⟨Nat.zero_le _, Nat.zero_le _⟩ rfl ?_
      refine lv_istore (lv' := [(12, .int r16), (11, .int U13.1), (10, .int r12), (9, .int j14.1), (8, .int r7), (7, .int r6), (6, .int r5), (5, .int U4.1), (4, .int U3.1), (3, .int U2.1), (2, .int (((1 : Int32)) + r1)), (0, .ref b), (1, .int a1)]) hx hb dL_tries_252 hl (by decide) rfl (fun ls hl => ?_)
      refine lv_aload_n hx hb dL_tries_254 rfl (lv_at hl 11 rfl) ?_
      refine lv_iload hx hb dL_tries_255 (lv_at hl 0 rfl) ?_
      refine lv_iconst (v := 0) hx hb dL_tries_257 (by decide) ?_
      obtain ⟨r17, er17, hE⟩ := lt_el hE
      refine rg_callRV (As := [.int r16, .int ((0 : Int32))]) (rest := []) F (mX6_gateOf l X b j14.2 r16 ((0 : Int32)) r17 er17) (cwV 2 F.1.2.2.2.2 gL_tries_X6_gateOf rfl rfl rfl hvX6_gateOf ⟨Nat.le_of_ble_eq_true rfl, Nat.le_of_ble_eq_true rfl⟩) (rp_recv F hH.1 0 rfl (C := RX6) (T := TX6) (N := 9) rfl rfl) hH.1 rfl hl.1 (Nat.le_of_ble_eq_true rfl) dL_tries_258 ⟨Nat.zero_le _, Nat.zero_le _⟩ rfl ?_
      refine lv_istore (lv' := [(13, .int r17), (12, .int r16), (11, .int U13.1), (10, .int r12), (9, .int j14.1), (8, .int r7), (7, .int r6), (6, .int r5), (5, .int U4.1), (4, .int U3.1), (3, .int U2.1), (2, .int (((1 : Int32)) + r1)), (0, .ref b), (1, .int a1)]) hx hb dL_tries_261 hl (by decide) rfl (fun ls hl => ?_)
      refine lv_aload_n hx hb dL_tries_263 rfl (lv_at hl 12 rfl) ?_
      refine lv_iload hx hb dL_tries_264 (lv_at hl 1 rfl) ?_
      refine lv_iconst (v := 1) hx hb dL_tries_266 (by decide) ?_
      obtain ⟨r18, er18, hE⟩ := lt_el hE
      refine rg_callRV (As := [.int r16, .int ((1 : Int32))]) (rest := []) F (mX6_gateOf l X b j14.2 r16 ((1 : Int32)) r18 er18) (cwV 2 F.1.2.2.2.2 gL_tries_X6_gateOf rfl rfl rfl hvX6_gateOf ⟨Nat.le_of_ble_eq_true rfl, Nat.le_of_ble_eq_true rfl⟩) (rp_recv F hH.1 0 rfl (C := RX6) (T := TX6) (N := 9) rfl rfl) hH.1 rfl hl.1 (Nat.le_of_ble_eq_true rfl) dL_tries_267 ⟨Nat.zero_le _, Nat.zero_le _⟩ rfl ?_
      refine lv_istore (lv' := [(14, .int r18), (13, .int r17), (12, .int r16), (11, .int U13.1), (10, .int r12), (9, .int j14.1), (8, .int r7), (7, .int r6), (6, .int r5), (5, .int U4.1), (4, .int U3.1), (3, .int U2.1), (2, .int (((1 : Int32)) + r1)), (0, .ref b), (1, .int a1)]) hx hb dL_tries_270 hl (by decide) rfl (fun ls hl => ?_)
      refine lv_aload_n hx hb dL_tries_272 rfl (lv_at hl 13 rfl) ?_
      refine lv_iload hx hb dL_tries_273 (lv_at hl 2 rfl) ?_
      refine lv_iconst (v := 2) hx hb dL_tries_275 (by decide) ?_
      obtain ⟨r19, er19, hE⟩ := lt_el hE
      refine rg_callRV (As := [.int r16, .int ((2 : Int32))]) (rest := []) F (mX6_gateOf l X b j14.2 r16 ((2 : Int32)) r19 er19) (cwV 2 F.1.2.2.2.2 gL_tries_X6_gateOf rfl rfl rfl hvX6_gateOf ⟨Nat.le_of_ble_eq_true rfl, Nat.le_of_ble_eq_true rfl⟩) (rp_recv F hH.1 0 rfl (C := RX6) (T := TX6) (N := 9) rfl rfl) hH.1 rfl hl.1 (Nat.le_of_ble_eq_true rfl) dL_tries_276 ⟨Nat.zero_le _, Nat.zero_le _⟩ rfl ?_
      refine lv_istore (lv' := [(15, .int r19), (14, .int r18), (13, .int r17), (12, .int r16), (11, .int U13.1), (10, .int r12), (9, .int j14.1), (8, .int r7), (7, .int r6), (6, .int r5), (5, .int U4.1), (4, .int U3.1), (3, .int U2.1), (2, .int (((1 : Int32)) + r1)), (0, .ref b), (1, .int a1)]) hx hb dL_tries_279 hl (by decide) rfl (fun ls hl => ?_)
      refine lv_aload_n hx hb dL_tries_281 rfl (lv_at hl 14 rfl) ?_
      refine lv_iload hx hb dL_tries_282 (lv_at hl 3 rfl) ?_
      refine lv_iconst (v := 0) hx hb dL_tries_284 (by decide) ?_
      obtain ⟨U20, eU20, hE⟩ := bd_el hE
      refine rg_callWS (As := [.int r16, .int ((0 : Int32))]) (rest := []) F hH (fun q h1 h2 => ⟨h1, h2⟩) (mX6_leastSlack l X b j14.2 r16 ((0 : Int32)) U20 eU20) (cwV 2 F.1.2.2.2.2 gL_tries_X6_leastSlack rfl rfl rfl hvX6_leastSlack ⟨Nat.le_of_ble_eq_true rfl, Nat.le_of_ble_eq_true rfl⟩) (rp_recv F hH.1 0 rfl (C := RX6) (T := TX6) (N := 9) rfl rfl) hH.1 rfl hl.1 (Nat.le_of_ble_eq_true rfl) dL_tries_285 ⟨Nat.zero_le _, Nat.zero_le _⟩ rfl (fun H locs hH => ?_)
      refine lv_istore (lv' := [(16, .int U20.1), (15, .int r19), (14, .int r18), (13, .int r17), (12, .int r16), (11, .int U13.1), (10, .int r12), (9, .int j14.1), (8, .int r7), (7, .int r6), (6, .int r5), (5, .int U4.1), (4, .int U3.1), (3, .int U2.1), (2, .int (((1 : Int32)) + r1)), (0, .ref b), (1, .int a1)]) hx hb dL_tries_288 hl (by decide) rfl (fun ls hl => ?_)
      refine lv_aload_n hx hb dL_tries_290 rfl (lv_at hl 15 rfl) ?_
      refine lv_iload hx hb dL_tries_291 (lv_at hl 4 rfl) ?_
      refine lv_iconst (v := 1) hx hb dL_tries_293 (by decide) ?_
      obtain ⟨U21, eU21, hE⟩ := bd_el hE
      refine rg_callWS (As := [.int r16, .int ((1 : Int32))]) (rest := []) F hH (fun q h1 h2 => ⟨h1, h2⟩) (mX6_leastSlack l X b U20.2 r16 ((1 : Int32)) U21 eU21) (cwV 2 F.1.2.2.2.2 gL_tries_X6_leastSlack rfl rfl rfl hvX6_leastSlack ⟨Nat.le_of_ble_eq_true rfl, Nat.le_of_ble_eq_true rfl⟩) (rp_recv F hH.1 0 rfl (C := RX6) (T := TX6) (N := 9) rfl rfl) hH.1 rfl hl.1 (Nat.le_of_ble_eq_true rfl) dL_tries_294 ⟨Nat.zero_le _, Nat.zero_le _⟩ rfl (fun H locs hH => ?_)
      refine lv_istore (lv' := [(17, .int U21.1), (16, .int U20.1), (15, .int r19), (14, .int r18), (13, .int r17), (12, .int r16), (11, .int U13.1), (10, .int r12), (9, .int j14.1), (8, .int r7), (7, .int r6), (6, .int r5), (5, .int U4.1), (4, .int U3.1), (3, .int U2.1), (2, .int (((1 : Int32)) + r1)), (0, .ref b), (1, .int a1)]) hx hb dL_tries_297 hl (by decide) rfl (fun ls hl => ?_)
      refine lv_iload_n hx hb dL_tries_299 rfl (lv_at hl 17 rfl) ?_
      refine lv_bipush (v := 13) hx hb dL_tries_300 (by decide) ?_
      refine lv_ishr hx hb dL_tries_302 ?_
      refine lv_bipush (v := 100) hx hb dL_tries_303 (by decide) ?_
      obtain ⟨r22, er22, hE⟩ := bd_el hE
      refine rg_callRS (As := [.int (a1 >>> (((13 : Int32)) &&& 31)), .int ((100 : Int32))]) (rest := []) F (mL_low l X (a1 >>> (((13 : Int32)) &&& 31)) ((100 : Int32)) r22 er22) (va_cwS 2 F.1.2.2.2.2 gL_tries_L_low rfl rfl rfl hsL_low ⟨Nat.le_of_ble_eq_true rfl, Nat.le_of_ble_eq_true rfl⟩) trivial rfl hl.1 (Nat.le_of_ble_eq_true rfl) dL_tries_305 ⟨Nat.zero_le _, Nat.zero_le _⟩ rfl ?_
      refine lv_istore (lv' := [(18, .int r22), (17, .int U21.1), (16, .int U20.1), (15, .int r19), (14, .int r18), (13, .int r17), (12, .int r16), (11, .int U13.1), (10, .int r12), (9, .int j14.1), (8, .int r7), (7, .int r6), (6, .int r5), (5, .int U4.1), (4, .int U3.1), (3, .int U2.1), (2, .int (((1 : Int32)) + r1)), (0, .ref b), (1, .int a1)]) hx hb dL_tries_308 hl (by decide) rfl (fun ls hl => ?_)
      refine lv_iload hx hb dL_tries_310 (lv_at hl 9 rfl) ?_
      obtain ⟨j23, hJ9, hE⟩ := bd_el hE
      have K24 : ∀ (H : Heap) (locs : List Loc) (ls : Array Slot), Hp (t_fr b (b + LA.length)) s.heap s.heap.size X LA b j23.2 H locs → lv_has ls 26 [(18, .int r22), (17, .int U21.1), (16, .int U20.1), (15, .int r19), (14, .int r18), (13, .int r17), (12, .int r16), (11, .int U13.1), (10, .int r12), (9, .int j14.1), (8, .int r7), (7, .int r6), (6, .int r5), (5, .int U4.1), (4, .int U3.1), (3, .int U2.1), (2, .int (((1 : Int32)) + r1)), (0, .ref b), (1, .int a1)] → W p l e rmL_tries s m ([.ref b, .int a1] : List Value).toArray below meth c H locs 0 0 (MQ below (cQw (some (.int out.1)) b (b + LA.length) (RP X LA b out.2)) ([.ref b, .int a1] : List Value).toArray s 0 0 (t_fr b (b + LA.length))) (F0 m 414 ls [.int j23.1]) := by
        clear hJ9
        intro H locs ls hH hl
        refine lv_istore (lv' := [(9, .int j23.1), (18, .int r22), (17, .int U21.1), (16, .int U20.1), (15, .int r19), (14, .int r18), (13, .int r17), (12, .int r16), (11, .int U13.1), (10, .int r12), (8, .int r7), (7, .int r6), (6, .int r5), (5, .int U4.1), (4, .int U3.1), (3, .int U2.1), (2, .int (((1 : Int32)) + r1)), (0, .ref b), (1, .int a1)]) hx hb dL_tries_414 hl (by decide) rfl (fun ls hl => ?_)
        refine lv_iload_n hx hb dL_tries_416 rfl (lv_at hl 18 rfl) ?_
        refine lv_bipush (v := 20) hx hb dL_tries_417 (by decide) ?_
        refine lv_ishr hx hb dL_tries_419 ?_
        refine lv_iconst (v := 1) hx hb dL_tries_420 (by decide) ?_
        refine lv_iand hx hb dL_tries_421 ?_
        refine lv_istore (lv' := [(19, .int ((a1 >>> (((20 : Int32)) &&& 31)) &&& ((1 : Int32)))), (9, .int j23.1), (18, .int r22), (17, .int U21.1), (16, .int U20.1), (15, .int r19), (14, .int r18), (13, .int r17), (12, .int r16), (11, .int U13.1), (10, .int r12), (8, .int r7), (7, .int r6), (6, .int r5), (5, .int U4.1), (4, .int U3.1), (3, .int U2.1), (2, .int (((1 : Int32)) + r1)), (0, .ref b), (1, .int a1)]) hx hb dL_tries_422 hl (by decide) rfl (fun ls hl => ?_)
        refine lv_aload_n hx hb dL_tries_424 rfl (lv_at hl 18 rfl) ?_
        refine lv_iload hx hb dL_tries_425 (lv_at hl 0 rfl) ?_
        refine lv_iconst (v := 3) hx hb dL_tries_427 (by decide) ?_
        obtain ⟨r25, er25, hE⟩ := lt_el hE
        refine rg_callRV (As := [.int ((a1 >>> (((20 : Int32)) &&& 31)) &&& ((1 : Int32))), .int ((3 : Int32))]) (rest := []) F (mX6_store l X b j23.2 ((a1 >>> (((20 : Int32)) &&& 31)) &&& ((1 : Int32))) ((3 : Int32)) r25 er25) (cwV 2 F.1.2.2.2.2 gL_tries_X6_store rfl rfl rfl hvX6_store ⟨Nat.le_of_ble_eq_true rfl, Nat.le_of_ble_eq_true rfl⟩) (rp_recv F hH.1 0 rfl (C := RX6) (T := TX6) (N := 9) rfl rfl) hH.1 rfl hl.1 (Nat.le_of_ble_eq_true rfl) dL_tries_428 ⟨Nat.zero_le _, Nat.zero_le _⟩ rfl ?_
        refine lv_istore (lv' := [(20, .int r25), (19, .int ((a1 >>> (((20 : Int32)) &&& 31)) &&& ((1 : Int32)))), (9, .int j23.1), (18, .int r22), (17, .int U21.1), (16, .int U20.1), (15, .int r19), (14, .int r18), (13, .int r17), (12, .int r16), (11, .int U13.1), (10, .int r12), (8, .int r7), (7, .int r6), (6, .int r5), (5, .int U4.1), (4, .int U3.1), (3, .int U2.1), (2, .int (((1 : Int32)) + r1)), (0, .ref b), (1, .int a1)]) hx hb dL_tries_431 hl (by decide) rfl (fun ls hl => ?_)
        refine lv_aload_n hx hb dL_tries_433 rfl (lv_at hl 19 rfl) ?_
        refine lv_iload hx hb dL_tries_434 (lv_at hl 1 rfl) ?_
        refine lv_iload hx hb dL_tries_436 (lv_at hl 9 rfl) ?_
        obtain ⟨U26, eU26, hE⟩ := bd_el hE
        refine rg_callWS (As := [.int ((a1 >>> (((20 : Int32)) &&& 31)) &&& ((1 : Int32))), .int r16]) (rest := []) F hH (fun q h1 h2 => ⟨h1, h2⟩) (mX6_bestLie l X b j23.2 ((a1 >>> (((20 : Int32)) &&& 31)) &&& ((1 : Int32))) r16 U26 eU26) (cwV 2 F.1.2.2.2.2 gL_tries_X6_bestLie rfl rfl rfl hvX6_bestLie ⟨Nat.le_of_ble_eq_true rfl, Nat.le_of_ble_eq_true rfl⟩) (rp_recv F hH.1 0 rfl (C := RX6) (T := TX6) (N := 9) rfl rfl) hH.1 rfl hl.1 (Nat.le_of_ble_eq_true rfl) dL_tries_438 ⟨Nat.zero_le _, Nat.zero_le _⟩ rfl (fun H locs hH => ?_)
        refine lv_istore (lv' := [(21, .int U26.1), (20, .int r25), (19, .int ((a1 >>> (((20 : Int32)) &&& 31)) &&& ((1 : Int32)))), (9, .int j23.1), (18, .int r22), (17, .int U21.1), (16, .int U20.1), (15, .int r19), (14, .int r18), (13, .int r17), (12, .int r16), (11, .int U13.1), (10, .int r12), (8, .int r7), (7, .int r6), (6, .int r5), (5, .int U4.1), (4, .int U3.1), (3, .int U2.1), (2, .int (((1 : Int32)) + r1)), (0, .ref b), (1, .int a1)]) hx hb dL_tries_441 hl (by decide) rfl (fun ls hl => ?_)
        refine lv_iload_n hx hb dL_tries_443 rfl (lv_at hl 21 rfl) ?_
        refine lv_bipush (v := 13) hx hb dL_tries_444 (by decide) ?_
        refine lv_ishr hx hb dL_tries_446 ?_
        refine lv_bipush (v := 101) hx hb dL_tries_447 (by decide) ?_
        obtain ⟨r27, er27, hE⟩ := bd_el hE
        refine rg_callRS (As := [.int (a1 >>> (((13 : Int32)) &&& 31)), .int ((101 : Int32))]) (rest := []) F (mL_low l X (a1 >>> (((13 : Int32)) &&& 31)) ((101 : Int32)) r27 er27) (va_cwS 2 F.1.2.2.2.2 gL_tries_L_low rfl rfl rfl hsL_low ⟨Nat.le_of_ble_eq_true rfl, Nat.le_of_ble_eq_true rfl⟩) trivial rfl hl.1 (Nat.le_of_ble_eq_true rfl) dL_tries_449 ⟨Nat.zero_le _, Nat.zero_le _⟩ rfl ?_
        refine lv_bipush (v := 50) hx hb dL_tries_452 (by decide) ?_
        refine lv_isub hx hb dL_tries_454 ?_
        refine lv_istore (lv' := [(22, .int (r27 - ((50 : Int32)))), (21, .int U26.1), (20, .int r25), (19, .int ((a1 >>> (((20 : Int32)) &&& 31)) &&& ((1 : Int32)))), (9, .int j23.1), (18, .int r22), (17, .int U21.1), (16, .int U20.1), (15, .int r19), (14, .int r18), (13, .int r17), (12, .int r16), (11, .int U13.1), (10, .int r12), (8, .int r7), (7, .int r6), (6, .int r5), (5, .int U4.1), (4, .int U3.1), (3, .int U2.1), (2, .int (((1 : Int32)) + r1)), (0, .ref b), (1, .int a1)]) hx hb dL_tries_455 hl (by decide) rfl (fun ls hl => ?_)
        refine lv_iload hx hb dL_tries_457 (lv_at hl 4 rfl) ?_
        obtain ⟨j28, hJ9, hE⟩ := bd_el hE
        have K29 : ∀ (H : Heap) (locs : List Loc) (ls : Array Slot), Hp (t_fr b (b + LA.length)) s.heap s.heap.size X LA b j28.2 H locs → lv_has ls 26 [(22, .int (r27 - ((50 : Int32)))), (21, .int U26.1), (20, .int r25), (19, .int ((a1 >>> (((20 : Int32)) &&& 31)) &&& ((1 : Int32)))), (9, .int j23.1), (18, .int r22), (17, .int U21.1), (16, .int U20.1), (15, .int r19), (14, .int r18), (13, .int r17), (12, .int r16), (11, .int U13.1), (10, .int r12), (8, .int r7), (7, .int r6), (6, .int r5), (5, .int U4.1), (4, .int U3.1), (3, .int U2.1), (2, .int (((1 : Int32)) + r1)), (0, .ref b), (1, .int a1)] → W p l e rmL_tries s m ([.ref b, .int a1] : List Value).toArray below meth c H locs 0 0 (MQ below (cQw (some (.int out.1)) b (b + LA.length) (RP X LA b out.2)) ([.ref b, .int a1] : List Value).toArray s 0 0 (t_fr b (b + LA.length))) (F0 m 480 ls [.int j28.1]) := by
          clear hJ9
          intro H locs ls hH hl
          refine lv_istore (lv' := [(9, .int j28.1), (22, .int (r27 - ((50 : Int32)))), (21, .int U26.1), (20, .int r25), (19, .int ((a1 >>> (((20 : Int32)) &&& 31)) &&& ((1 : Int32)))), (18, .int r22), (17, .int U21.1), (16, .int U20.1), (15, .int r19), (14, .int r18), (13, .int r17), (12, .int r16), (11, .int U13.1), (10, .int r12), (8, .int r7), (7, .int r6), (6, .int r5), (5, .int U4.1), (4, .int U3.1), (3, .int U2.1), (2, .int (((1 : Int32)) + r1)), (0, .ref b), (1, .int a1)]) hx hb dL_tries_480 hl (by decide) rfl (fun ls hl => ?_)
          refine lv_aload_n hx hb dL_tries_482 rfl (lv_at hl 21 rfl) ?_
          refine lv_iload hx hb dL_tries_483 (lv_at hl 9 rfl) ?_
          obtain ⟨r30, er30, hE⟩ := bd_el hE
          refine rg_callRS (As := [.ref b, .int r18]) (rest := []) F (mL_opens l X b j28.2 r18 r30 er30) (va_cwS 2 F.1.2.2.2.2 gL_tries_L_opens rfl rfl rfl hsL_opens ⟨Nat.le_of_ble_eq_true rfl, Nat.le_of_ble_eq_true rfl⟩) hH.1 rfl hl.1 (Nat.le_of_ble_eq_true rfl) dL_tries_485 ⟨Nat.zero_le _, Nat.zero_le _⟩ rfl ?_
          refine lv_istore (lv' := [(23, .int r30), (9, .int j28.1), (22, .int (r27 - ((50 : Int32)))), (21, .int U26.1), (20, .int r25), (19, .int ((a1 >>> (((20 : Int32)) &&& 31)) &&& ((1 : Int32)))), (18, .int r22), (17, .int U21.1), (16, .int U20.1), (15, .int r19), (14, .int r18), (13, .int r17), (12, .int r16), (11, .int U13.1), (10, .int r12), (8, .int r7), (7, .int r6), (6, .int r5), (5, .int U4.1), (4, .int U3.1), (3, .int U2.1), (2, .int (((1 : Int32)) + r1)), (0, .ref b), (1, .int a1)]) hx hb dL_tries_488 hl (by decide) rfl (fun ls hl => ?_)
          refine lv_iload hx hb dL_tries_490 (lv_at hl 1 rfl) ?_
          obtain ⟨j31, hJ9, hE⟩ := bd_el hE
          have K32 : ∀ (H : Heap) (locs : List Loc) (ls : Array Slot), Hp (t_fr b (b + LA.length)) s.heap s.heap.size X LA b j31.2 H locs → lv_has ls 26 [(23, .int r30), (9, .int j28.1), (22, .int (r27 - ((50 : Int32)))), (21, .int U26.1), (20, .int r25), (19, .int ((a1 >>> (((20 : Int32)) &&& 31)) &&& ((1 : Int32)))), (18, .int r22), (17, .int U21.1), (16, .int U20.1), (15, .int r19), (14, .int r18), (13, .int r17), (12, .int r16), (11, .int U13.1), (10, .int r12), (8, .int r7), (7, .int r6), (6, .int r5), (5, .int U4.1), (4, .int U3.1), (3, .int U2.1), (2, .int (((1 : Int32)) + r1)), (0, .ref b), (1, .int a1)] → W p l e rmL_tries s m ([.ref b, .int a1] : List Value).toArray below meth c H locs 0 0 (MQ below (cQw (some (.int out.1)) b (b + LA.length) (RP X LA b out.2)) ([.ref b, .int a1] : List Value).toArray s 0 0 (t_fr b (b + LA.length))) (F0 m 513 ls [.int j31.1]) := by
            clear hJ9
            intro H locs ls hH hl
            refine lv_istore (lv' := [(9, .int j31.1), (23, .int r30), (22, .int (r27 - ((50 : Int32)))), (21, .int U26.1), (20, .int r25), (19, .int ((a1 >>> (((20 : Int32)) &&& 31)) &&& ((1 : Int32)))), (18, .int r22), (17, .int U21.1), (16, .int U20.1), (15, .int r19), (14, .int r18), (13, .int r17), (12, .int r16), (11, .int U13.1), (10, .int r12), (8, .int r7), (7, .int r6), (6, .int r5), (5, .int U4.1), (4, .int U3.1), (3, .int U2.1), (2, .int (((1 : Int32)) + r1)), (0, .ref b), (1, .int a1)]) hx hb dL_tries_513 hl (by decide) rfl (fun ls hl => ?_)
            refine lv_aload_n hx hb dL_tries_515 rfl (lv_at hl 22 rfl) ?_
            refine lv_iload hx hb dL_tries_516 (lv_at hl 10 rfl) ?_
            obtain ⟨r33, er33, hE⟩ := bd_el hE
            refine rg_callRS (As := [.ref b, .int r18]) (rest := []) F (mL_opens l X b j31.2 r18 r33 er33) (va_cwS 2 F.1.2.2.2.2 gL_tries_L_opens rfl rfl rfl hsL_opens ⟨Nat.le_of_ble_eq_true rfl, Nat.le_of_ble_eq_true rfl⟩) hH.1 rfl hl.1 (Nat.le_of_ble_eq_true rfl) dL_tries_518 ⟨Nat.zero_le _, Nat.zero_le _⟩ rfl ?_
            refine lv_istore (lv' := [(24, .int r33), (9, .int j31.1), (23, .int r30), (22, .int (r27 - ((50 : Int32)))), (21, .int U26.1), (20, .int r25), (19, .int ((a1 >>> (((20 : Int32)) &&& 31)) &&& ((1 : Int32)))), (18, .int r22), (17, .int U21.1), (16, .int U20.1), (15, .int r19), (14, .int r18), (13, .int r17), (12, .int r16), (11, .int U13.1), (10, .int r12), (8, .int r7), (7, .int r6), (6, .int r5), (5, .int U4.1), (4, .int U3.1), (3, .int U2.1), (2, .int (((1 : Int32)) + r1)), (0, .ref b), (1, .int a1)]) hx hb dL_tries_521 hl (by decide) rfl (fun ls hl => ?_)
            refine lv_iload hx hb dL_tries_523 (lv_at hl 3 rfl) ?_
            refine lv_iload hx hb dL_tries_525 (lv_at hl 3 rfl) ?_
            refine lv_imul hx hb dL_tries_527 ?_
            refine lv_iload hx hb dL_tries_528 (lv_at hl 4 rfl) ?_
            refine lv_iload hx hb dL_tries_530 (lv_at hl 4 rfl) ?_
            refine lv_imul hx hb dL_tries_532 ?_
            obtain ⟨j34, hJ9, hE⟩ := bd_el hE
            have K35 : ∀ (ls : Array Slot), lv_has ls 26 [(24, .int r33), (9, .int j31.1), (23, .int r30), (22, .int (r27 - ((50 : Int32)))), (21, .int U26.1), (20, .int r25), (19, .int ((a1 >>> (((20 : Int32)) &&& 31)) &&& ((1 : Int32)))), (18, .int r22), (17, .int U21.1), (16, .int U20.1), (15, .int r19), (14, .int r18), (13, .int r17), (12, .int r16), (11, .int U13.1), (10, .int r12), (8, .int r7), (7, .int r6), (6, .int r5), (5, .int U4.1), (4, .int U3.1), (3, .int U2.1), (2, .int (((1 : Int32)) + r1)), (0, .ref b), (1, .int a1)] → W p l e rmL_tries s m ([.ref b, .int a1] : List Value).toArray below meth c H locs 0 0 (MQ below (cQw (some (.int out.1)) b (b + LA.length) (RP X LA b out.2)) ([.ref b, .int a1] : List Value).toArray s 0 0 (t_fr b (b + LA.length))) (F0 m 561 ls [.int j34]) := by
              clear hJ9
              intro ls hl
              refine lv_istore (lv' := [(25, .int j34), (24, .int r33), (9, .int j31.1), (23, .int r30), (22, .int (r27 - ((50 : Int32)))), (21, .int U26.1), (20, .int r25), (19, .int ((a1 >>> (((20 : Int32)) &&& 31)) &&& ((1 : Int32)))), (18, .int r22), (17, .int U21.1), (16, .int U20.1), (15, .int r19), (14, .int r18), (13, .int r17), (12, .int r16), (11, .int U13.1), (10, .int r12), (8, .int r7), (7, .int r6), (6, .int r5), (5, .int U4.1), (4, .int U3.1), (3, .int U2.1), (2, .int (((1 : Int32)) + r1)), (0, .ref b), (1, .int a1)]) hx hb dL_tries_561 hl (by decide) rfl (fun ls hl => ?_)
              refine lv_iload hx hb dL_tries_563 (lv_at hl 2 rfl) ?_
              refine lv_if_eq (tgt := 617) hx hb dL_tries_565 (by decide) (fun c36 => ?_) (fun c36 => ?_)
              · have hE := (if_pos c36).symm.trans hE
                refine lv_iconst (v := 0) hx hb dL_tries_617 (by decide) ?_
                have hE := Option.some.inj hE
                subst hE
                exact W.zret (v := (0 : Int32)) hx hb hr rfl (fun t ht _ => mw_post hH ht) hH.2.1.2.2 dL_tries_618
              · have hE := (if_neg c36).symm.trans hE
                refine lv_iload hx hb dL_tries_568 (lv_at hl 1 rfl) ?_
                refine lv_iload hx hb dL_tries_570 (lv_at hl 3 rfl) ?_
                refine lv_icmp_lt (tgt := 587) hx hb dL_tries_572 (by decide) (fun c37 => ?_) (fun c37 => ?_)
                · have hE := (if_pos c37).symm.trans hE
                  refine lv_aload_n hx hb dL_tries_587 rfl (lv_at hl 24 rfl) ?_
                  obtain ⟨U38, eU38, hE⟩ := bd_el hE
                  refine rg_callWS (As := []) (rest := []) F hH (fun q h1 h2 => ⟨h1, h2⟩) (mX6_undo l X b j31.2  U38 eU38) (cwV 0 F.1.2.2.2.2 gL_tries_X6_undo rfl rfl rfl hvX6_undo ⟨Nat.le_of_ble_eq_true rfl, Nat.le_of_ble_eq_true rfl⟩) (rp_recv F hH.1 0 rfl (C := RX6) (T := TX6) (N := 9) rfl rfl) hH.1 rfl hl.1 (Nat.le_of_ble_eq_true rfl) dL_tries_588 ⟨Nat.zero_le _, Nat.zero_le _⟩ rfl (fun H locs hH => ?_)
                  refine lv_if_lt (tgt := 617) hx hb dL_tries_591 (by decide) (fun c39 => ?_) (fun c39 => ?_)
                  · have hE := (if_pos c39).symm.trans hE
                    refine lv_iconst (v := 0) hx hb dL_tries_617 (by decide) ?_
                    have hE := Option.some.inj hE
                    subst hE
                    exact W.zret (v := (0 : Int32)) hx hb hr rfl (fun t ht _ => mw_post hH ht) hH.2.1.2.2 dL_tries_618
                  · have hE := (if_neg c39).symm.trans hE
                    refine lv_aload_n hx hb dL_tries_594 rfl (lv_at hl 24 rfl) ?_
                    obtain ⟨U40, eU40, hE⟩ := bd_el hE
                    refine rg_callWS (As := []) (rest := []) F hH (fun q h1 h2 => ⟨h1, h2⟩) (mX6_undo l X b U38.2  U40 eU40) (cwV 0 F.1.2.2.2.2 gL_tries_X6_undo rfl rfl rfl hvX6_undo ⟨Nat.le_of_ble_eq_true rfl, Nat.le_of_ble_eq_true rfl⟩) (rp_recv F hH.1 0 rfl (C := RX6) (T := TX6) (N := 9) rfl rfl) hH.1 rfl hl.1 (Nat.le_of_ble_eq_true rfl) dL_tries_595 ⟨Nat.zero_le _, Nat.zero_le _⟩ rfl (fun H locs hH => ?_)
                    refine lv_if_lt (tgt := 617) hx hb dL_tries_598 (by decide) (fun c41 => ?_) (fun c41 => ?_)
                    · have hE := (if_pos c41).symm.trans hE
                      refine lv_iconst (v := 0) hx hb dL_tries_617 (by decide) ?_
                      have hE := Option.some.inj hE
                      subst hE
                      exact W.zret (v := (0 : Int32)) hx hb hr rfl (fun t ht _ => mw_post hH ht) hH.2.1.2.2 dL_tries_618
                    · have hE := (if_neg c41).symm.trans hE
                      refine lv_aload_n hx hb dL_tries_601 rfl (lv_at hl 24 rfl) ?_
                      refine lv_iload hx hb dL_tries_602 (lv_at hl 7 rfl) ?_
                      refine lv_iconst (v := 3) hx hb dL_tries_604 (by decide) ?_
                      obtain ⟨r42, er42, hE⟩ := lt_el hE
                      refine rg_callRV (As := [.int ((a1 >>> (((20 : Int32)) &&& 31)) &&& ((1 : Int32))), .int ((3 : Int32))]) (rest := []) F (mX6_store l X b U40.2 ((a1 >>> (((20 : Int32)) &&& 31)) &&& ((1 : Int32))) ((3 : Int32)) r42 er42) (cwV 2 F.1.2.2.2.2 gL_tries_X6_store rfl rfl rfl hvX6_store ⟨Nat.le_of_ble_eq_true rfl, Nat.le_of_ble_eq_true rfl⟩) (rp_recv F hH.1 0 rfl (C := RX6) (T := TX6) (N := 9) rfl rfl) hH.1 rfl hl.1 (Nat.le_of_ble_eq_true rfl) dL_tries_605 ⟨Nat.zero_le _, Nat.zero_le _⟩ rfl ?_
                      refine lv_iload hx hb dL_tries_608 (lv_at hl 6 rfl) ?_
                      refine lv_icmp_ne (tgt := 617) hx hb dL_tries_610 (by decide) (fun c43 => ?_) (fun c43 => ?_)
                      · have hE := (if_neg c43).symm.trans hE
                        refine lv_iconst (v := 0) hx hb dL_tries_617 (by decide) ?_
                        have hE := Option.some.inj hE
                        subst hE
                        exact W.zret (v := (0 : Int32)) hx hb hr rfl (fun t ht _ => mw_post hH ht) hH.2.1.2.2 dL_tries_618
                      · have hE := (if_pos c43).symm.trans hE
                        refine lv_iconst (v := 1) hx hb dL_tries_613 (by decide) ?_
                        refine lv_goto (tgt := 618) hx hb dL_tries_614 (by decide) ?_
                        have hE := Option.some.inj hE
                        subst hE
                        exact W.zret (v := (1 : Int32)) hx hb hr rfl (fun t ht _ => mw_post hH ht) hH.2.1.2.2 dL_tries_618
                · have hE := (if_neg c37).symm.trans hE
                  refine lv_iload hx hb dL_tries_575 (lv_at hl 1 rfl) ?_
                  refine lv_iload hx hb dL_tries_577 (lv_at hl 3 rfl) ?_
                  refine lv_icmp_ne (tgt := 617) hx hb dL_tries_579 (by decide) (fun c44 => ?_) (fun c44 => ?_)
                  · have hE := (if_neg c44).symm.trans hE
                    refine lv_iconst (v := 0) hx hb dL_tries_617 (by decide) ?_
                    have hE := Option.some.inj hE
                    subst hE
                    exact W.zret (v := (0 : Int32)) hx hb hr rfl (fun t ht _ => mw_post hH ht) hH.2.1.2.2 dL_tries_618
                  · have hE := (if_pos c44).symm.trans hE
                    refine lv_iload hx hb dL_tries_582 (lv_at hl 0 rfl) ?_
                    refine lv_if_eq (tgt := 617) hx hb dL_tries_584 (by decide) (fun c45 => ?_) (fun c45 => ?_)
                    · have hE := (if_pos c45).symm.trans hE
                      refine lv_iconst (v := 0) hx hb dL_tries_617 (by decide) ?_
                      have hE := Option.some.inj hE
                      subst hE
                      exact W.zret (v := (0 : Int32)) hx hb hr rfl (fun t ht _ => mw_post hH ht) hH.2.1.2.2 dL_tries_618
                    · have hE := (if_neg c45).symm.trans hE
                      refine lv_aload_n hx hb dL_tries_587 rfl (lv_at hl 24 rfl) ?_
                      obtain ⟨U46, eU46, hE⟩ := bd_el hE
                      refine rg_callWS (As := []) (rest := []) F hH (fun q h1 h2 => ⟨h1, h2⟩) (mX6_undo l X b j31.2  U46 eU46) (cwV 0 F.1.2.2.2.2 gL_tries_X6_undo rfl rfl rfl hvX6_undo ⟨Nat.le_of_ble_eq_true rfl, Nat.le_of_ble_eq_true rfl⟩) (rp_recv F hH.1 0 rfl (C := RX6) (T := TX6) (N := 9) rfl rfl) hH.1 rfl hl.1 (Nat.le_of_ble_eq_true rfl) dL_tries_588 ⟨Nat.zero_le _, Nat.zero_le _⟩ rfl (fun H locs hH => ?_)
                      refine lv_if_lt (tgt := 617) hx hb dL_tries_591 (by decide) (fun c47 => ?_) (fun c47 => ?_)
                      · have hE := (if_pos c47).symm.trans hE
                        refine lv_iconst (v := 0) hx hb dL_tries_617 (by decide) ?_
                        have hE := Option.some.inj hE
                        subst hE
                        exact W.zret (v := (0 : Int32)) hx hb hr rfl (fun t ht _ => mw_post hH ht) hH.2.1.2.2 dL_tries_618
                      · have hE := (if_neg c47).symm.trans hE
                        refine lv_aload_n hx hb dL_tries_594 rfl (lv_at hl 24 rfl) ?_
                        obtain ⟨U48, eU48, hE⟩ := bd_el hE
                        refine rg_callWS (As := []) (rest := []) F hH (fun q h1 h2 => ⟨h1, h2⟩) (mX6_undo l X b U46.2  U48 eU48) (cwV 0 F.1.2.2.2.2 gL_tries_X6_undo rfl rfl rfl hvX6_undo ⟨Nat.le_of_ble_eq_true rfl, Nat.le_of_ble_eq_true rfl⟩) (rp_recv F hH.1 0 rfl (C := RX6) (T := TX6) (N := 9) rfl rfl) hH.1 rfl hl.1 (Nat.le_of_ble_eq_true rfl) dL_tries_595 ⟨Nat.zero_le _, Nat.zero_le _⟩ rfl (fun H locs hH => ?_)
                        refine lv_if_lt (tgt := 617) hx hb dL_tries_598 (by decide) (fun c49 => ?_) (fun c49 => ?_)
                        · have hE := (if_pos c49).symm.trans hE
                          refine lv_iconst (v := 0) hx hb dL_tries_617 (by decide) ?_
                          have hE := Option.some.inj hE
                          subst hE
                          exact W.zret (v := (0 : Int32)) hx hb hr rfl (fun t ht _ => mw_post hH ht) hH.2.1.2.2 dL_tries_618
                        · have hE := (if_neg c49).symm.trans hE
                          refine lv_aload_n hx hb dL_tries_601 rfl (lv_at hl 24 rfl) ?_
                          refine lv_iload hx hb dL_tries_602 (lv_at hl 7 rfl) ?_
                          refine lv_iconst (v := 3) hx hb dL_tries_604 (by decide) ?_
                          obtain ⟨r50, er50, hE⟩ := lt_el hE
                          refine rg_callRV (As := [.int ((a1 >>> (((20 : Int32)) &&& 31)) &&& ((1 : Int32))), .int ((3 : Int32))]) (rest := []) F (mX6_store l X b U48.2 ((a1 >>> (((20 : Int32)) &&& 31)) &&& ((1 : Int32))) ((3 : Int32)) r50 er50) (cwV 2 F.1.2.2.2.2 gL_tries_X6_store rfl rfl rfl hvX6_store ⟨Nat.le_of_ble_eq_true rfl, Nat.le_of_ble_eq_true rfl⟩) (rp_recv F hH.1 0 rfl (C := RX6) (T := TX6) (N := 9) rfl rfl) hH.1 rfl hl.1 (Nat.le_of_ble_eq_true rfl) dL_tries_605 ⟨Nat.zero_le _, Nat.zero_le _⟩ rfl ?_
                          refine lv_iload hx hb dL_tries_608 (lv_at hl 6 rfl) ?_
                          refine lv_icmp_ne (tgt := 617) hx hb dL_tries_610 (by decide) (fun c51 => ?_) (fun c51 => ?_)
                          · have hE := (if_neg c51).symm.trans hE
                            refine lv_iconst (v := 0) hx hb dL_tries_617 (by decide) ?_
                            have hE := Option.some.inj hE
                            subst hE
                            exact W.zret (v := (0 : Int32)) hx hb hr rfl (fun t ht _ => mw_post hH ht) hH.2.1.2.2 dL_tries_618
                          · have hE := (if_pos c51).symm.trans hE
                            refine lv_iconst (v := 1) hx hb dL_tries_613 (by decide) ?_
                            refine lv_goto (tgt := 618) hx hb dL_tries_614 (by decide) ?_
                            have hE := Option.some.inj hE
                            subst hE
                            exact W.zret (v := (1 : Int32)) hx hb hr rfl (fun t ht _ => mw_post hH ht) hH.2.1.2.2 dL_tries_618
            replace hE := hJ9
            clear hJ9
            refine lv_icmp_gt (tgt := 556) hx hb dL_tries_533 (by decide) (fun c52 => ?_) (fun c52 => ?_)
            · have hE := (if_pos c52).symm.trans hE
              refine lv_iconst (v := 1) hx hb dL_tries_556 (by decide) ?_
              refine lv_goto (tgt := 561) hx hb dL_tries_557 (by decide) ?_
              cases hE
              exact K35 ls (lv_sub hl [0, 1, 2, 3, 4, 5, 6, 7, 8, 9, 10, 11, 12, 13, 14, 15, 16, 17, 18, 19, 20, 21, 22, 23, 24] rfl)
            · have hE := (if_neg c52).symm.trans hE
              refine lv_iload hx hb dL_tries_536 (lv_at hl 3 rfl) ?_
              refine lv_iload hx hb dL_tries_538 (lv_at hl 3 rfl) ?_
              refine lv_imul hx hb dL_tries_540 ?_
              refine lv_iload hx hb dL_tries_541 (lv_at hl 4 rfl) ?_
              refine lv_iload hx hb dL_tries_543 (lv_at hl 4 rfl) ?_
              refine lv_imul hx hb dL_tries_545 ?_
              refine lv_icmp_ne (tgt := 560) hx hb dL_tries_546 (by decide) (fun c53 => ?_) (fun c53 => ?_)
              · have hE := (if_neg c53).symm.trans hE
                refine lv_iconst (v := 0) hx hb dL_tries_560 (by decide) ?_
                cases hE
                exact K35 ls (lv_sub hl [0, 1, 2, 3, 4, 5, 6, 7, 8, 9, 10, 11, 12, 13, 14, 15, 16, 17, 18, 19, 20, 21, 22, 23, 24] rfl)
              · have hE := (if_pos c53).symm.trans hE
                refine lv_iload hx hb dL_tries_549 (lv_at hl 3 rfl) ?_
                refine lv_iload hx hb dL_tries_551 (lv_at hl 4 rfl) ?_
                refine lv_icmp_lt (tgt := 560) hx hb dL_tries_553 (by decide) (fun c54 => ?_) (fun c54 => ?_)
                · have hE := (if_pos c54).symm.trans hE
                  refine lv_iconst (v := 0) hx hb dL_tries_560 (by decide) ?_
                  cases hE
                  exact K35 ls (lv_sub hl [0, 1, 2, 3, 4, 5, 6, 7, 8, 9, 10, 11, 12, 13, 14, 15, 16, 17, 18, 19, 20, 21, 22, 23, 24] rfl)
                · have hE := (if_neg c54).symm.trans hE
                  refine lv_iconst (v := 1) hx hb dL_tries_556 (by decide) ?_
                  refine lv_goto (tgt := 561) hx hb dL_tries_557 (by decide) ?_
                  cases hE
                  exact K35 ls (lv_sub hl [0, 1, 2, 3, 4, 5, 6, 7, 8, 9, 10, 11, 12, 13, 14, 15, 16, 17, 18, 19, 20, 21, 22, 23, 24] rfl)
          replace hE := hJ9
          clear hJ9
          refine lv_if_eq (tgt := 512) hx hb dL_tries_492 (by decide) (fun c55 => ?_) (fun c55 => ?_)
          · have hE := (if_pos c55).symm.trans hE
            refine lv_iconst (v := 0) hx hb dL_tries_512 (by decide) ?_
            cases hE
            exact K32 H locs ls hH (lv_sub hl [0, 1, 2, 3, 4, 5, 6, 7, 8, 9, 10, 11, 12, 13, 14, 15, 16, 17, 18, 19, 20, 21, 22, 23] rfl)
          · have hE := (if_neg c55).symm.trans hE
            refine lv_aload_n hx hb dL_tries_495 rfl (lv_at hl 22 rfl) ?_
            refine lv_iload hx hb dL_tries_496 (lv_at hl 5 rfl) ?_
            refine lv_iload hx hb dL_tries_498 (lv_at hl 2 rfl) ?_
            obtain ⟨U56, eU56, hE⟩ := lt_el hE
            refine rg_callWS (As := [.int ((a1 >>> (((20 : Int32)) &&& 31)) &&& ((1 : Int32))), .int (r27 - ((50 : Int32)))]) (rest := []) F hH (fun q h1 h2 => ⟨h1, h2⟩) (mX6_gauge l X b j28.2 ((a1 >>> (((20 : Int32)) &&& 31)) &&& ((1 : Int32))) (r27 - ((50 : Int32))) U56 eU56) (cwV 2 F.1.2.2.2.2 gL_tries_X6_gauge rfl rfl rfl hvX6_gauge ⟨Nat.le_of_ble_eq_true rfl, Nat.le_of_ble_eq_true rfl⟩) (rp_recv F hH.1 0 rfl (C := RX6) (T := TX6) (N := 9) rfl rfl) hH.1 rfl hl.1 (Nat.le_of_ble_eq_true rfl) dL_tries_500 ⟨Nat.zero_le _, Nat.zero_le _⟩ rfl (fun H locs hH => ?_)
            refine lv_iload hx hb dL_tries_503 (lv_at hl 3 rfl) ?_
            refine lv_icmp_ne (tgt := 512) hx hb dL_tries_505 (by decide) (fun c57 => ?_) (fun c57 => ?_)
            · have hE := (if_neg c57).symm.trans hE
              refine lv_iconst (v := 0) hx hb dL_tries_512 (by decide) ?_
              cases hE
              exact K32 H locs ls hH (lv_sub hl [0, 1, 2, 3, 4, 5, 6, 7, 8, 9, 10, 11, 12, 13, 14, 15, 16, 17, 18, 19, 20, 21, 22, 23] rfl)
            · have hE := (if_pos c57).symm.trans hE
              refine lv_iconst (v := 1) hx hb dL_tries_508 (by decide) ?_
              refine lv_goto (tgt := 513) hx hb dL_tries_509 (by decide) ?_
              cases hE
              exact K32 H locs ls hH (lv_sub hl [0, 1, 2, 3, 4, 5, 6, 7, 8, 9, 10, 11, 12, 13, 14, 15, 16, 17, 18, 19, 20, 21, 22, 23] rfl)
        replace hE := hJ9
        clear hJ9
        refine lv_if_eq (tgt := 479) hx hb dL_tries_459 (by decide) (fun c58 => ?_) (fun c58 => ?_)
        · have hE := (if_pos c58).symm.trans hE
          refine lv_iconst (v := 0) hx hb dL_tries_479 (by decide) ?_
          cases hE
          exact K29 H locs ls hH (lv_sub hl [0, 1, 2, 3, 4, 5, 6, 7, 8, 9, 10, 11, 12, 13, 14, 15, 16, 17, 18, 19, 20, 21, 22] rfl)
        · have hE := (if_neg c58).symm.trans hE
          refine lv_aload_n hx hb dL_tries_462 rfl (lv_at hl 21 rfl) ?_
          refine lv_iload hx hb dL_tries_463 (lv_at hl 3 rfl) ?_
          refine lv_iload hx hb dL_tries_465 (lv_at hl 1 rfl) ?_
          obtain ⟨U59, eU59, hE⟩ := lt_el hE
          refine rg_callWS (As := [.int ((a1 >>> (((20 : Int32)) &&& 31)) &&& ((1 : Int32))), .int U26.1]) (rest := []) F hH (fun q h1 h2 => ⟨h1, h2⟩) (mX6_gauge l X b U26.2 ((a1 >>> (((20 : Int32)) &&& 31)) &&& ((1 : Int32))) U26.1 U59 eU59) (cwV 2 F.1.2.2.2.2 gL_tries_X6_gauge rfl rfl rfl hvX6_gauge ⟨Nat.le_of_ble_eq_true rfl, Nat.le_of_ble_eq_true rfl⟩) (rp_recv F hH.1 0 rfl (C := RX6) (T := TX6) (N := 9) rfl rfl) hH.1 rfl hl.1 (Nat.le_of_ble_eq_true rfl) dL_tries_467 ⟨Nat.zero_le _, Nat.zero_le _⟩ rfl (fun H locs hH => ?_)
          refine lv_iload hx hb dL_tries_470 (lv_at hl 2 rfl) ?_
          refine lv_icmp_ne (tgt := 479) hx hb dL_tries_472 (by decide) (fun c60 => ?_) (fun c60 => ?_)
          · have hE := (if_neg c60).symm.trans hE
            refine lv_iconst (v := 0) hx hb dL_tries_479 (by decide) ?_
            cases hE
            exact K29 H locs ls hH (lv_sub hl [0, 1, 2, 3, 4, 5, 6, 7, 8, 9, 10, 11, 12, 13, 14, 15, 16, 17, 18, 19, 20, 21, 22] rfl)
          · have hE := (if_pos c60).symm.trans hE
            refine lv_iconst (v := 1) hx hb dL_tries_475 (by decide) ?_
            refine lv_goto (tgt := 480) hx hb dL_tries_476 (by decide) ?_
            cases hE
            exact K29 H locs ls hH (lv_sub hl [0, 1, 2, 3, 4, 5, 6, 7, 8, 9, 10, 11, 12, 13, 14, 15, 16, 17, 18, 19, 20, 21, 22] rfl)
      replace hE := hJ9
      clear hJ9
      refine lv_if_eq (tgt := 413) hx hb dL_tries_312 (by decide) (fun c61 => ?_) (fun c61 => ?_)
      · have hE := (if_pos c61).symm.trans hE
        refine lv_iconst (v := 0) hx hb dL_tries_413 (by decide) ?_
        cases hE
        exact K24 H locs ls hH (lv_sub hl [0, 1, 2, 3, 4, 5, 6, 7, 8, 9, 10, 11, 12, 13, 14, 15, 16, 17, 18] rfl)
      · have hE := (if_neg c61).symm.trans hE
        refine lv_aload_n hx hb dL_tries_315 rfl (lv_at hl 17 rfl) ?_
        refine lv_iload hx hb dL_tries_316 (lv_at hl 6 rfl) ?_
        refine lv_iload hx hb dL_tries_318 (lv_at hl 5 rfl) ?_
        refine lv_iload hx hb dL_tries_320 (lv_at hl 2 rfl) ?_
        refine lv_iload hx hb dL_tries_322 (lv_at hl 3 rfl) ?_
        obtain ⟨U62, eU62, hE⟩ := lt_el hE
        refine rg_callWS (As := [.int r16, .int r17, .int U20.1, .int r19]) (rest := []) F hH (fun q h1 h2 => ⟨h1, h2⟩) (mX6_gate l X b U21.2 r16 r17 U20.1 r19 U62 eU62) (cwV 4 F.1.2.2.2.2 gL_tries_X6_gate rfl rfl rfl hvX6_gate ⟨Nat.le_of_ble_eq_true rfl, Nat.le_of_ble_eq_true rfl⟩) (rp_recv F hH.1 0 rfl (C := RX6) (T := TX6) (N := 9) rfl rfl) hH.1 rfl hl.1 (Nat.le_of_ble_eq_true rfl) dL_tries_324 ⟨Nat.zero_le _, Nat.zero_le _⟩ rfl (fun H locs hH => ?_)
        refine lv_iload hx hb dL_tries_327 (lv_at hl 4 rfl) ?_
        refine lv_icmp_ne (tgt := 413) hx hb dL_tries_329 (by decide) (fun c63 => ?_) (fun c63 => ?_)
        · have hE := (if_neg c63).symm.trans hE
          refine lv_iconst (v := 0) hx hb dL_tries_413 (by decide) ?_
          cases hE
          exact K24 H locs ls hH (lv_sub hl [0, 1, 2, 3, 4, 5, 6, 7, 8, 9, 10, 11, 12, 13, 14, 15, 16, 17, 18] rfl)
        · have hE := (if_pos c63).symm.trans hE
          refine lv_aload_n hx hb dL_tries_332 rfl (lv_at hl 17 rfl) ?_
          refine lv_sipush (v := 200) hx hb dL_tries_333 (by decide) ?_
          refine lv_iconst (v := 0) hx hb dL_tries_336 (by decide) ?_
          obtain ⟨U64, eU64, hE⟩ := lt_el hE
          refine rg_callWS (As := [.int ((200 : Int32)), .int ((0 : Int32))]) (rest := []) F hH (fun q h1 h2 => ⟨h1, h2⟩) (mX6_ifRun l X b U62.2 ((200 : Int32)) ((0 : Int32)) U64 eU64) (cwV 2 F.1.2.2.2.2 gL_tries_X6_ifRun rfl rfl rfl hvX6_ifRun ⟨Nat.le_of_ble_eq_true rfl, Nat.le_of_ble_eq_true rfl⟩) (rp_recv F hH.1 0 rfl (C := RX6) (T := TX6) (N := 9) rfl rfl) hH.1 rfl hl.1 (Nat.le_of_ble_eq_true rfl) dL_tries_337 ⟨Nat.zero_le _, Nat.zero_le _⟩ rfl (fun H locs hH => ?_)
          refine lv_iload hx hb dL_tries_340 (lv_at hl 1 rfl) ?_
          refine lv_icmp_ne (tgt := 413) hx hb dL_tries_342 (by decide) (fun c65 => ?_) (fun c65 => ?_)
          · have hE := (if_neg c65).symm.trans hE
            refine lv_iconst (v := 0) hx hb dL_tries_413 (by decide) ?_
            cases hE
            exact K24 H locs ls hH (lv_sub hl [0, 1, 2, 3, 4, 5, 6, 7, 8, 9, 10, 11, 12, 13, 14, 15, 16, 17, 18] rfl)
          · have hE := (if_pos c65).symm.trans hE
            refine lv_aload_n hx hb dL_tries_345 rfl (lv_at hl 17 rfl) ?_
            refine lv_iload hx hb dL_tries_346 (lv_at hl 6 rfl) ?_
            refine lv_iload hx hb dL_tries_348 (lv_at hl 5 rfl) ?_
            refine lv_iload hx hb dL_tries_350 (lv_at hl 0 rfl) ?_
            refine lv_iload hx hb dL_tries_352 (lv_at hl 3 rfl) ?_
            obtain ⟨U66, eU66, hE⟩ := lt_el hE
            refine rg_callWS (As := [.int r16, .int r17, .int r22, .int r19]) (rest := []) F hH (fun q h1 h2 => ⟨h1, h2⟩) (mX6_gate l X b U64.2 r16 r17 r22 r19 U66 eU66) (cwV 4 F.1.2.2.2.2 gL_tries_X6_gate rfl rfl rfl hvX6_gate ⟨Nat.le_of_ble_eq_true rfl, Nat.le_of_ble_eq_true rfl⟩) (rp_recv F hH.1 0 rfl (C := RX6) (T := TX6) (N := 9) rfl rfl) hH.1 rfl hl.1 (Nat.le_of_ble_eq_true rfl) dL_tries_354 ⟨Nat.zero_le _, Nat.zero_le _⟩ rfl (fun H locs hH => ?_)
            refine lv_iload hx hb dL_tries_357 (lv_at hl 2 rfl) ?_
            refine lv_icmp_ne (tgt := 413) hx hb dL_tries_359 (by decide) (fun c67 => ?_) (fun c67 => ?_)
            · have hE := (if_neg c67).symm.trans hE
              refine lv_iconst (v := 0) hx hb dL_tries_413 (by decide) ?_
              cases hE
              exact K24 H locs ls hH (lv_sub hl [0, 1, 2, 3, 4, 5, 6, 7, 8, 9, 10, 11, 12, 13, 14, 15, 16, 17, 18] rfl)
            · have hE := (if_pos c67).symm.trans hE
              refine lv_aload_n hx hb dL_tries_362 rfl (lv_at hl 17 rfl) ?_
              refine lv_sipush (v := 200) hx hb dL_tries_363 (by decide) ?_
              refine lv_iconst (v := 0) hx hb dL_tries_366 (by decide) ?_
              obtain ⟨U68, eU68, hE⟩ := lt_el hE
              refine rg_callWS (As := [.int ((200 : Int32)), .int ((0 : Int32))]) (rest := []) F hH (fun q h1 h2 => ⟨h1, h2⟩) (mX6_ifRun l X b U66.2 ((200 : Int32)) ((0 : Int32)) U68 eU68) (cwV 2 F.1.2.2.2.2 gL_tries_X6_ifRun rfl rfl rfl hvX6_ifRun ⟨Nat.le_of_ble_eq_true rfl, Nat.le_of_ble_eq_true rfl⟩) (rp_recv F hH.1 0 rfl (C := RX6) (T := TX6) (N := 9) rfl rfl) hH.1 rfl hl.1 (Nat.le_of_ble_eq_true rfl) dL_tries_367 ⟨Nat.zero_le _, Nat.zero_le _⟩ rfl (fun H locs hH => ?_)
              refine lv_iload hx hb dL_tries_370 (lv_at hl 1 rfl) ?_
              refine lv_icmp_lt (tgt := 395) hx hb dL_tries_372 (by decide) (fun c69 => ?_) (fun c69 => ?_)
              · have hE := (if_pos c69).symm.trans hE
                refine lv_aload_n hx hb dL_tries_395 rfl (lv_at hl 17 rfl) ?_
                obtain ⟨U70, eU70, hE⟩ := bd_el hE
                refine rg_callWS (As := []) (rest := []) F hH (fun q h1 h2 => ⟨h1, h2⟩) (mX6_undo l X b U68.2  U70 eU70) (cwV 0 F.1.2.2.2.2 gL_tries_X6_undo rfl rfl rfl hvX6_undo ⟨Nat.le_of_ble_eq_true rfl, Nat.le_of_ble_eq_true rfl⟩) (rp_recv F hH.1 0 rfl (C := RX6) (T := TX6) (N := 9) rfl rfl) hH.1 rfl hl.1 (Nat.le_of_ble_eq_true rfl) dL_tries_396 ⟨Nat.zero_le _, Nat.zero_le _⟩ rfl (fun H locs hH => ?_)
                refine lv_if_lt (tgt := 413) hx hb dL_tries_399 (by decide) (fun c71 => ?_) (fun c71 => ?_)
                · have hE := (if_pos c71).symm.trans hE
                  refine lv_iconst (v := 0) hx hb dL_tries_413 (by decide) ?_
                  cases hE
                  exact K24 H locs ls hH (lv_sub hl [0, 1, 2, 3, 4, 5, 6, 7, 8, 9, 10, 11, 12, 13, 14, 15, 16, 17, 18] rfl)
                · have hE := (if_neg c71).symm.trans hE
                  refine lv_aload_n hx hb dL_tries_402 rfl (lv_at hl 17 rfl) ?_
                  obtain ⟨U72, eU72, hE⟩ := bd_el hE
                  refine rg_callWS (As := []) (rest := []) F hH (fun q h1 h2 => ⟨h1, h2⟩) (mX6_undo l X b U70.2  U72 eU72) (cwV 0 F.1.2.2.2.2 gL_tries_X6_undo rfl rfl rfl hvX6_undo ⟨Nat.le_of_ble_eq_true rfl, Nat.le_of_ble_eq_true rfl⟩) (rp_recv F hH.1 0 rfl (C := RX6) (T := TX6) (N := 9) rfl rfl) hH.1 rfl hl.1 (Nat.le_of_ble_eq_true rfl) dL_tries_403 ⟨Nat.zero_le _, Nat.zero_le _⟩ rfl (fun H locs hH => ?_)
                  refine lv_if_lt (tgt := 413) hx hb dL_tries_406 (by decide) (fun c73 => ?_) (fun c73 => ?_)
                  · have hE := (if_pos c73).symm.trans hE
                    refine lv_iconst (v := 0) hx hb dL_tries_413 (by decide) ?_
                    cases hE
                    exact K24 H locs ls hH (lv_sub hl [0, 1, 2, 3, 4, 5, 6, 7, 8, 9, 10, 11, 12, 13, 14, 15, 16, 17, 18] rfl)
                  · have hE := (if_neg c73).symm.trans hE
                    refine lv_iconst (v := 1) hx hb dL_tries_409 (by decide) ?_
                    refine lv_goto (tgt := 414) hx hb dL_tries_410 (by decide) ?_
                    cases hE
                    exact K24 H locs ls hH (lv_sub hl [0, 1, 2, 3, 4, 5, 6, 7, 8, 9, 10, 11, 12, 13, 14, 15, 16, 17, 18] rfl)
              · have hE := (if_neg c69).symm.trans hE
                refine lv_aload_n hx hb dL_tries_375 rfl (lv_at hl 17 rfl) ?_
                refine lv_sipush (v := 200) hx hb dL_tries_376 (by decide) ?_
                refine lv_iconst (v := 0) hx hb dL_tries_379 (by decide) ?_
                obtain ⟨U74, eU74, hE⟩ := lt_el hE
                refine rg_callWS (As := [.int ((200 : Int32)), .int ((0 : Int32))]) (rest := []) F hH (fun q h1 h2 => ⟨h1, h2⟩) (mX6_ifRun l X b U68.2 ((200 : Int32)) ((0 : Int32)) U74 eU74) (cwV 2 F.1.2.2.2.2 gL_tries_X6_ifRun rfl rfl rfl hvX6_ifRun ⟨Nat.le_of_ble_eq_true rfl, Nat.le_of_ble_eq_true rfl⟩) (rp_recv F hH.1 0 rfl (C := RX6) (T := TX6) (N := 9) rfl rfl) hH.1 rfl hl.1 (Nat.le_of_ble_eq_true rfl) dL_tries_380 ⟨Nat.zero_le _, Nat.zero_le _⟩ rfl (fun H locs hH => ?_)
                refine lv_iload hx hb dL_tries_383 (lv_at hl 1 rfl) ?_
                refine lv_icmp_ne (tgt := 413) hx hb dL_tries_385 (by decide) (fun c75 => ?_) (fun c75 => ?_)
                · have hE := (if_neg c75).symm.trans hE
                  refine lv_iconst (v := 0) hx hb dL_tries_413 (by decide) ?_
                  cases hE
                  exact K24 H locs ls hH (lv_sub hl [0, 1, 2, 3, 4, 5, 6, 7, 8, 9, 10, 11, 12, 13, 14, 15, 16, 17, 18] rfl)
                · have hE := (if_pos c75).symm.trans hE
                  refine lv_iload hx hb dL_tries_388 (lv_at hl 0 rfl) ?_
                  refine lv_iload hx hb dL_tries_390 (lv_at hl 2 rfl) ?_
                  refine lv_icmp_lt (tgt := 413) hx hb dL_tries_392 (by decide) (fun c76 => ?_) (fun c76 => ?_)
                  · have hE := (if_pos c76).symm.trans hE
                    refine lv_iconst (v := 0) hx hb dL_tries_413 (by decide) ?_
                    cases hE
                    exact K24 H locs ls hH (lv_sub hl [0, 1, 2, 3, 4, 5, 6, 7, 8, 9, 10, 11, 12, 13, 14, 15, 16, 17, 18] rfl)
                  · have hE := (if_neg c76).symm.trans hE
                    refine lv_aload_n hx hb dL_tries_395 rfl (lv_at hl 17 rfl) ?_
                    obtain ⟨U77, eU77, hE⟩ := bd_el hE
                    refine rg_callWS (As := []) (rest := []) F hH (fun q h1 h2 => ⟨h1, h2⟩) (mX6_undo l X b U74.2  U77 eU77) (cwV 0 F.1.2.2.2.2 gL_tries_X6_undo rfl rfl rfl hvX6_undo ⟨Nat.le_of_ble_eq_true rfl, Nat.le_of_ble_eq_true rfl⟩) (rp_recv F hH.1 0 rfl (C := RX6) (T := TX6) (N := 9) rfl rfl) hH.1 rfl hl.1 (Nat.le_of_ble_eq_true rfl) dL_tries_396 ⟨Nat.zero_le _, Nat.zero_le _⟩ rfl (fun H locs hH => ?_)
                    refine lv_if_lt (tgt := 413) hx hb dL_tries_399 (by decide) (fun c78 => ?_) (fun c78 => ?_)
                    · have hE := (if_pos c78).symm.trans hE
                      refine lv_iconst (v := 0) hx hb dL_tries_413 (by decide) ?_
                      cases hE
                      exact K24 H locs ls hH (lv_sub hl [0, 1, 2, 3, 4, 5, 6, 7, 8, 9, 10, 11, 12, 13, 14, 15, 16, 17, 18] rfl)
                    · have hE := (if_neg c78).symm.trans hE
                      refine lv_aload_n hx hb dL_tries_402 rfl (lv_at hl 17 rfl) ?_
                      obtain ⟨U79, eU79, hE⟩ := bd_el hE
                      refine rg_callWS (As := []) (rest := []) F hH (fun q h1 h2 => ⟨h1, h2⟩) (mX6_undo l X b U77.2  U79 eU79) (cwV 0 F.1.2.2.2.2 gL_tries_X6_undo rfl rfl rfl hvX6_undo ⟨Nat.le_of_ble_eq_true rfl, Nat.le_of_ble_eq_true rfl⟩) (rp_recv F hH.1 0 rfl (C := RX6) (T := TX6) (N := 9) rfl rfl) hH.1 rfl hl.1 (Nat.le_of_ble_eq_true rfl) dL_tries_403 ⟨Nat.zero_le _, Nat.zero_le _⟩ rfl (fun H locs hH => ?_)
                      refine lv_if_lt (tgt := 413) hx hb dL_tries_406 (by decide) (fun c80 => ?_) (fun c80 => ?_)
                      · have hE := (if_pos c80).symm.trans hE
                        refine lv_iconst (v := 0) hx hb dL_tries_413 (by decide) ?_
                        cases hE
                        exact K24 H locs ls hH (lv_sub hl [0, 1, 2, 3, 4, 5, 6, 7, 8, 9, 10, 11, 12, 13, 14, 15, 16, 17, 18] rfl)
                      · have hE := (if_neg c80).symm.trans hE
                        refine lv_iconst (v := 1) hx hb dL_tries_409 (by decide) ?_
                        refine lv_goto (tgt := 414) hx hb dL_tries_410 (by decide) ?_
                        cases hE
                        exact K24 H locs ls hH (lv_sub hl [0, 1, 2, 3, 4, 5, 6, 7, 8, 9, 10, 11, 12, 13, 14, 15, 16, 17, 18] rfl)
    replace hE := hJ9
    clear hJ9
    refine lv_if_eq (tgt := 244) hx hb dL_tries_142 (by decide) (fun c81 => ?_) (fun c81 => ?_)
    · have hE := (if_pos c81).symm.trans hE
      cases hE
      exact K15 H locs ls hH (lv_sub hl [0, 1, 2, 3, 4, 5, 6, 7, 8, 9, 10, 11] rfl)
    · have hE := (if_neg c81).symm.trans hE
      refine lv_iload hx hb dL_tries_145 (lv_at hl 0 rfl) ?_
      refine lv_if_le (tgt := 244) hx hb dL_tries_147 (by decide) (fun c82 => ?_) (fun c82 => ?_)
      · have hE := (if_pos c82).symm.trans hE
        cases hE
        exact K15 H locs ls hH (lv_sub hl [0, 1, 2, 3, 4, 5, 6, 7, 8, 9, 10, 11] rfl)
      · have hE := (if_neg c82).symm.trans hE
        refine lv_iload hx hb dL_tries_150 (lv_at hl 0 rfl) ?_
        refine lv_sipush (v := 500) hx hb dL_tries_152 (by decide) ?_
        refine lv_icmp_gt (tgt := 244) hx hb dL_tries_155 (by decide) (fun c83 => ?_) (fun c83 => ?_)
        · have hE := (if_pos c83).symm.trans hE
          cases hE
          exact K15 H locs ls hH (lv_sub hl [0, 1, 2, 3, 4, 5, 6, 7, 8, 9, 10, 11] rfl)
        · have hE := (if_neg c83).symm.trans hE
          refine lv_aload_n hx hb dL_tries_158 rfl (lv_at hl 10 rfl) ?_
          refine lv_iload hx hb dL_tries_159 (lv_at hl 0 rfl) ?_
          obtain ⟨U84, eU84, hE⟩ := lt_el hE
          refine rg_callWS (As := [.int U13.1]) (rest := []) F hH (fun q h1 h2 => ⟨h1, h2⟩) (mX6_run l X b U13.2 U13.1 U84 eU84) (cwV 1 F.1.2.2.2.2 gL_tries_X6_run rfl rfl rfl hvX6_run ⟨Nat.le_of_ble_eq_true rfl, Nat.le_of_ble_eq_true rfl⟩) (rp_recv F hH.1 0 rfl (C := RX6) (T := TX6) (N := 9) rfl rfl) hH.1 rfl hl.1 (Nat.le_of_ble_eq_true rfl) dL_tries_161 ⟨Nat.zero_le _, Nat.zero_le _⟩ rfl (fun H locs hH => ?_)
          refine lv_iconst (v := 1) hx hb dL_tries_164 (by decide) ?_
          obtain ⟨j85, hJ9, hE⟩ := bd_el hE
          have K86 : ∀ (H : Heap) (locs : List Loc) (ls : Array Slot), Hp (t_fr b (b + LA.length)) s.heap s.heap.size X LA b j85.2 H locs → lv_has ls 26 [(11, .int U13.1), (10, .int r12), (9, .int j9.1), (8, .int r7), (7, .int r6), (6, .int r5), (5, .int U4.1), (4, .int U3.1), (3, .int U2.1), (2, .int (((1 : Int32)) + r1)), (0, .ref b), (1, .int a1)] → W p l e rmL_tries s m ([.ref b, .int a1] : List Value).toArray below meth c H locs 0 0 (MQ below (cQw (some (.int out.1)) b (b + LA.length) (RP X LA b out.2)) ([.ref b, .int a1] : List Value).toArray s 0 0 (t_fr b (b + LA.length))) (F0 m 242 ls [.int j85.1]) := by
            clear hJ9
            intro H locs ls hH hl
            refine lv_istore (lv' := [(9, .int j85.1), (11, .int U13.1), (10, .int r12), (8, .int r7), (7, .int r6), (6, .int r5), (5, .int U4.1), (4, .int U3.1), (3, .int U2.1), (2, .int (((1 : Int32)) + r1)), (0, .ref b), (1, .int a1)]) hx hb dL_tries_242 hl (by decide) rfl (fun ls hl => ?_)
            cases hE
            exact K15 H locs ls hH (lv_sub hl [1, 2, 0, 3, 4, 5, 6, 7, 8, 9, 10, 11] rfl)
          replace hE := hJ9
          clear hJ9
          refine lv_icmp_lt (tgt := 241) hx hb dL_tries_165 (by decide) (fun c87 => ?_) (fun c87 => ?_)
          · have hE := (if_pos c87).symm.trans hE
            refine lv_iconst (v := 0) hx hb dL_tries_241 (by decide) ?_
            cases hE
            exact K86 H locs ls hH (lv_sub hl [0, 1, 2, 3, 4, 5, 6, 7, 8, 9, 10, 11] rfl)
          · have hE := (if_neg c87).symm.trans hE
            refine lv_aload_n hx hb dL_tries_168 rfl (lv_at hl 10 rfl) ?_
            refine lv_iload hx hb dL_tries_169 (lv_at hl 1 rfl) ?_
            refine lv_iconst (v := 3) hx hb dL_tries_171 (by decide) ?_
            obtain ⟨r88, er88, hE⟩ := lt_el hE
            refine rg_callRV (As := [.int r12, .int ((3 : Int32))]) (rest := []) F (mX6_word l X b U84.2 r12 ((3 : Int32)) r88 er88) (cwV 2 F.1.2.2.2.2 gL_tries_X6_word rfl rfl rfl hvX6_word ⟨Nat.le_of_ble_eq_true rfl, Nat.le_of_ble_eq_true rfl⟩) (rp_recv F hH.1 0 rfl (C := RX6) (T := TX6) (N := 9) rfl rfl) hH.1 rfl hl.1 (Nat.le_of_ble_eq_true rfl) dL_tries_172 ⟨Nat.zero_le _, Nat.zero_le _⟩ rfl ?_
            refine lv_iconst (v := 1) hx hb dL_tries_175 (by decide) ?_
            refine lv_icmp_ne (tgt := 241) hx hb dL_tries_176 (by decide) (fun c89 => ?_) (fun c89 => ?_)
            · have hE := (if_neg c89).symm.trans hE
              refine lv_iconst (v := 0) hx hb dL_tries_241 (by decide) ?_
              cases hE
              exact K86 H locs ls hH (lv_sub hl [0, 1, 2, 3, 4, 5, 6, 7, 8, 9, 10, 11] rfl)
            · have hE := (if_pos c89).symm.trans hE
              refine lv_aload_n hx hb dL_tries_179 rfl (lv_at hl 10 rfl) ?_
              refine lv_iload hx hb dL_tries_180 (lv_at hl 1 rfl) ?_
              refine lv_iconst (v := 4) hx hb dL_tries_182 (by decide) ?_
              obtain ⟨r90, er90, hE⟩ := lt_el hE
              refine rg_callRV (As := [.int r12, .int ((4 : Int32))]) (rest := []) F (mX6_word l X b U84.2 r12 ((4 : Int32)) r90 er90) (cwV 2 F.1.2.2.2.2 gL_tries_X6_word rfl rfl rfl hvX6_word ⟨Nat.le_of_ble_eq_true rfl, Nat.le_of_ble_eq_true rfl⟩) (rp_recv F hH.1 0 rfl (C := RX6) (T := TX6) (N := 9) rfl rfl) hH.1 rfl hl.1 (Nat.le_of_ble_eq_true rfl) dL_tries_183 ⟨Nat.zero_le _, Nat.zero_le _⟩ rfl ?_
              refine lv_iload hx hb dL_tries_186 (lv_at hl 3 rfl) ?_
              refine lv_iload hx hb dL_tries_188 (lv_at hl 0 rfl) ?_
              refine lv_iadd hx hb dL_tries_190 ?_
              refine lv_iconst (v := 1) hx hb dL_tries_191 (by decide) ?_
              refine lv_isub hx hb dL_tries_192 ?_
              refine lv_icmp_ne (tgt := 241) hx hb dL_tries_193 (by decide) (fun c91 => ?_) (fun c91 => ?_)
              · have hE := (if_neg c91).symm.trans hE
                refine lv_iconst (v := 0) hx hb dL_tries_241 (by decide) ?_
                cases hE
                exact K86 H locs ls hH (lv_sub hl [0, 1, 2, 3, 4, 5, 6, 7, 8, 9, 10, 11] rfl)
              · have hE := (if_pos c91).symm.trans hE
                refine lv_aload_n hx hb dL_tries_196 rfl (lv_at hl 10 rfl) ?_
                obtain ⟨U92, eU92, hE⟩ := bd_el hE
                refine rg_callWS (As := []) (rest := []) F hH (fun q h1 h2 => ⟨h1, h2⟩) (mX6_undo l X b U84.2  U92 eU92) (cwV 0 F.1.2.2.2.2 gL_tries_X6_undo rfl rfl rfl hvX6_undo ⟨Nat.le_of_ble_eq_true rfl, Nat.le_of_ble_eq_true rfl⟩) (rp_recv F hH.1 0 rfl (C := RX6) (T := TX6) (N := 9) rfl rfl) hH.1 rfl hl.1 (Nat.le_of_ble_eq_true rfl) dL_tries_197 ⟨Nat.zero_le _, Nat.zero_le _⟩ rfl (fun H locs hH => ?_)
                refine lv_if_lt (tgt := 241) hx hb dL_tries_200 (by decide) (fun c93 => ?_) (fun c93 => ?_)
                · have hE := (if_pos c93).symm.trans hE
                  refine lv_iconst (v := 0) hx hb dL_tries_241 (by decide) ?_
                  cases hE
                  exact K86 H locs ls hH (lv_sub hl [0, 1, 2, 3, 4, 5, 6, 7, 8, 9, 10, 11] rfl)
                · have hE := (if_neg c93).symm.trans hE
                  refine lv_iload hx hb dL_tries_203 (lv_at hl 0 rfl) ?_
                  refine lv_iconst (v := 1) hx hb dL_tries_205 (by decide) ?_
                  refine lv_icmp_eq (tgt := 237) hx hb dL_tries_206 (by decide) (fun c94 => ?_) (fun c94 => ?_)
                  · have hE := (if_pos c94).symm.trans hE
                    refine lv_iconst (v := 1) hx hb dL_tries_237 (by decide) ?_
                    refine lv_goto (tgt := 242) hx hb dL_tries_238 (by decide) ?_
                    cases hE
                    exact K86 H locs ls hH (lv_sub hl [0, 1, 2, 3, 4, 5, 6, 7, 8, 9, 10, 11] rfl)
                  · have hE := (if_neg c94).symm.trans hE
                    refine lv_aload_n hx hb dL_tries_209 rfl (lv_at hl 10 rfl) ?_
                    refine lv_iload hx hb dL_tries_210 (lv_at hl 0 rfl) ?_
                    refine lv_iconst (v := 1) hx hb dL_tries_212 (by decide) ?_
                    refine lv_isub hx hb dL_tries_213 ?_
                    obtain ⟨U95, eU95, hE⟩ := lt_el hE
                    refine rg_callWS (As := [.int (U13.1 - ((1 : Int32)))]) (rest := []) F hH (fun q h1 h2 => ⟨h1, h2⟩) (mX6_run l X b U92.2 (U13.1 - ((1 : Int32))) U95 eU95) (cwV 1 F.1.2.2.2.2 gL_tries_X6_run rfl rfl rfl hvX6_run ⟨Nat.le_of_ble_eq_true rfl, Nat.le_of_ble_eq_true rfl⟩) (rp_recv F hH.1 0 rfl (C := RX6) (T := TX6) (N := 9) rfl rfl) hH.1 rfl hl.1 (Nat.le_of_ble_eq_true rfl) dL_tries_214 ⟨Nat.zero_le _, Nat.zero_le _⟩ rfl (fun H locs hH => ?_)
                    refine lv_if_lt (tgt := 241) hx hb dL_tries_217 (by decide) (fun c96 => ?_) (fun c96 => ?_)
                    · have hE := (if_pos c96).symm.trans hE
                      refine lv_iconst (v := 0) hx hb dL_tries_241 (by decide) ?_
                      cases hE
                      exact K86 H locs ls hH (lv_sub hl [0, 1, 2, 3, 4, 5, 6, 7, 8, 9, 10, 11] rfl)
                    · have hE := (if_neg c96).symm.trans hE
                      refine lv_aload_n hx hb dL_tries_220 rfl (lv_at hl 10 rfl) ?_
                      refine lv_iload hx hb dL_tries_221 (lv_at hl 1 rfl) ?_
                      refine lv_iconst (v := 3) hx hb dL_tries_223 (by decide) ?_
                      obtain ⟨r97, er97, hE⟩ := lt_el hE
                      refine rg_callRV (As := [.int r12, .int ((3 : Int32))]) (rest := []) F (mX6_word l X b U95.2 r12 ((3 : Int32)) r97 er97) (cwV 2 F.1.2.2.2.2 gL_tries_X6_word rfl rfl rfl hvX6_word ⟨Nat.le_of_ble_eq_true rfl, Nat.le_of_ble_eq_true rfl⟩) (rp_recv F hH.1 0 rfl (C := RX6) (T := TX6) (N := 9) rfl rfl) hH.1 rfl hl.1 (Nat.le_of_ble_eq_true rfl) dL_tries_224 ⟨Nat.zero_le _, Nat.zero_le _⟩ rfl ?_
                      refine lv_if_ne (tgt := 241) hx hb dL_tries_227 (by decide) (fun c98 => ?_) (fun c98 => ?_)
                      · have hE := (if_neg c98).symm.trans hE
                        refine lv_iconst (v := 0) hx hb dL_tries_241 (by decide) ?_
                        cases hE
                        exact K86 H locs ls hH (lv_sub hl [0, 1, 2, 3, 4, 5, 6, 7, 8, 9, 10, 11] rfl)
                      · have hE := (if_pos c98).symm.trans hE
                        refine lv_aload_n hx hb dL_tries_230 rfl (lv_at hl 10 rfl) ?_
                        obtain ⟨U99, eU99, hE⟩ := bd_el hE
                        refine rg_callWS (As := []) (rest := []) F hH (fun q h1 h2 => ⟨h1, h2⟩) (mX6_undo l X b U95.2  U99 eU99) (cwV 0 F.1.2.2.2.2 gL_tries_X6_undo rfl rfl rfl hvX6_undo ⟨Nat.le_of_ble_eq_true rfl, Nat.le_of_ble_eq_true rfl⟩) (rp_recv F hH.1 0 rfl (C := RX6) (T := TX6) (N := 9) rfl rfl) hH.1 rfl hl.1 (Nat.le_of_ble_eq_true rfl) dL_tries_231 ⟨Nat.zero_le _, Nat.zero_le _⟩ rfl (fun H locs hH => ?_)
                        refine lv_if_lt (tgt := 241) hx hb dL_tries_234 (by decide) (fun c100 => ?_) (fun c100 => ?_)
                        · have hE := (if_pos c100).symm.trans hE
                          refine lv_iconst (v := 0) hx hb dL_tries_241 (by decide) ?_
                          cases hE
                          exact K86 H locs ls hH (lv_sub hl [0, 1, 2, 3, 4, 5, 6, 7, 8, 9, 10, 11] rfl)
                        · have hE := (if_neg c100).symm.trans hE
                          refine lv_iconst (v := 1) hx hb dL_tries_237 (by decide) ?_
                          refine lv_goto (tgt := 242) hx hb dL_tries_238 (by decide) ?_
                          cases hE
                          exact K86 H locs ls hH (lv_sub hl [0, 1, 2, 3, 4, 5, 6, 7, 8, 9, 10, 11] rfl)
  replace hE := hJ9
  clear hJ9
  refine lv_icmp_ne (tgt := 113) hx hb dL_tries_61 (by decide) (fun c101 => ?_) (fun c101 => ?_)
  · have hE := (if_neg c101).symm.trans hE
    refine lv_iconst (v := 0) hx hb dL_tries_113 (by decide) ?_
    cases hE
    exact K10 H locs ls hH (lv_sub hl [0, 1, 2, 3, 4, 5, 6, 7, 8] rfl)
  · have hE := (if_pos c101).symm.trans hE
    refine lv_aload_n hx hb dL_tries_64 rfl (lv_at hl 7 rfl) ?_
    refine lv_bipush (v := 6) hx hb dL_tries_65 (by decide) ?_
    obtain ⟨r102, er102, hE⟩ := lt_el hE
    refine rg_callRV (As := [.int ((6 : Int32))]) (rest := []) F (mX6_count l X b U8.2 ((6 : Int32)) r102 er102) (cwV 1 F.1.2.2.2.2 gL_tries_X6_count rfl rfl rfl hvX6_count ⟨Nat.le_of_ble_eq_true rfl, Nat.le_of_ble_eq_true rfl⟩) (rp_recv F hH.1 0 rfl (C := RX6) (T := TX6) (N := 9) rfl rfl) hH.1 rfl hl.1 (Nat.le_of_ble_eq_true rfl) dL_tries_67 ⟨Nat.zero_le _, Nat.zero_le _⟩ rfl ?_
    refine lv_iload hx hb dL_tries_70 (lv_at hl 2 rfl) ?_
    refine lv_iload hx hb dL_tries_72 (lv_at hl 4 rfl) ?_
    refine lv_iadd hx hb dL_tries_74 ?_
    refine lv_icmp_ne (tgt := 113) hx hb dL_tries_75 (by decide) (fun c103 => ?_) (fun c103 => ?_)
    · have hE := (if_neg c103).symm.trans hE
      refine lv_iconst (v := 0) hx hb dL_tries_113 (by decide) ?_
      cases hE
      exact K10 H locs ls hH (lv_sub hl [0, 1, 2, 3, 4, 5, 6, 7, 8] rfl)
    · have hE := (if_pos c103).symm.trans hE
      refine lv_aload_n hx hb dL_tries_78 rfl (lv_at hl 7 rfl) ?_
      refine lv_bipush (v := 8) hx hb dL_tries_79 (by decide) ?_
      obtain ⟨r104, er104, hE⟩ := lt_el hE
      refine rg_callRV (As := [.int ((8 : Int32))]) (rest := []) F (mX6_count l X b U8.2 ((8 : Int32)) r104 er104) (cwV 1 F.1.2.2.2.2 gL_tries_X6_count rfl rfl rfl hvX6_count ⟨Nat.le_of_ble_eq_true rfl, Nat.le_of_ble_eq_true rfl⟩) (rp_recv F hH.1 0 rfl (C := RX6) (T := TX6) (N := 9) rfl rfl) hH.1 rfl hl.1 (Nat.le_of_ble_eq_true rfl) dL_tries_81 ⟨Nat.zero_le _, Nat.zero_le _⟩ rfl ?_
      refine lv_iload hx hb dL_tries_84 (lv_at hl 1 rfl) ?_
      refine lv_iload hx hb dL_tries_86 (lv_at hl 3 rfl) ?_
      refine lv_iadd hx hb dL_tries_88 ?_
      refine lv_icmp_ne (tgt := 113) hx hb dL_tries_89 (by decide) (fun c105 => ?_) (fun c105 => ?_)
      · have hE := (if_neg c105).symm.trans hE
        refine lv_iconst (v := 0) hx hb dL_tries_113 (by decide) ?_
        cases hE
        exact K10 H locs ls hH (lv_sub hl [0, 1, 2, 3, 4, 5, 6, 7, 8] rfl)
      · have hE := (if_pos c105).symm.trans hE
        refine lv_aload_n hx hb dL_tries_92 rfl (lv_at hl 7 rfl) ?_
        obtain ⟨U106, eU106, hE⟩ := bd_el hE
        refine rg_callWS (As := []) (rest := []) F hH (fun q h1 h2 => ⟨h1, h2⟩) (mX6_undo l X b U8.2  U106 eU106) (cwV 0 F.1.2.2.2.2 gL_tries_X6_undo rfl rfl rfl hvX6_undo ⟨Nat.le_of_ble_eq_true rfl, Nat.le_of_ble_eq_true rfl⟩) (rp_recv F hH.1 0 rfl (C := RX6) (T := TX6) (N := 9) rfl rfl) hH.1 rfl hl.1 (Nat.le_of_ble_eq_true rfl) dL_tries_93 ⟨Nat.zero_le _, Nat.zero_le _⟩ rfl (fun H locs hH => ?_)
        refine lv_if_lt (tgt := 113) hx hb dL_tries_96 (by decide) (fun c107 => ?_) (fun c107 => ?_)
        · have hE := (if_pos c107).symm.trans hE
          refine lv_iconst (v := 0) hx hb dL_tries_113 (by decide) ?_
          cases hE
          exact K10 H locs ls hH (lv_sub hl [0, 1, 2, 3, 4, 5, 6, 7, 8] rfl)
        · have hE := (if_neg c107).symm.trans hE
          refine lv_aload_n hx hb dL_tries_99 rfl (lv_at hl 7 rfl) ?_
          refine lv_iconst (v := 0) hx hb dL_tries_100 (by decide) ?_
          obtain ⟨r108, er108, hE⟩ := lt_el hE
          refine rg_callRV (As := [.int ((0 : Int32))]) (rest := []) F (mX6_count l X b U106.2 ((0 : Int32)) r108 er108) (cwV 1 F.1.2.2.2.2 gL_tries_X6_count rfl rfl rfl hvX6_count ⟨Nat.le_of_ble_eq_true rfl, Nat.le_of_ble_eq_true rfl⟩) (rp_recv F hH.1 0 rfl (C := RX6) (T := TX6) (N := 9) rfl rfl) hH.1 rfl hl.1 (Nat.le_of_ble_eq_true rfl) dL_tries_101 ⟨Nat.zero_le _, Nat.zero_le _⟩ rfl ?_
          refine lv_iload hx hb dL_tries_104 (lv_at hl 0 rfl) ?_
          refine lv_icmp_ne (tgt := 113) hx hb dL_tries_106 (by decide) (fun c109 => ?_) (fun c109 => ?_)
          · have hE := (if_neg c109).symm.trans hE
            refine lv_iconst (v := 0) hx hb dL_tries_113 (by decide) ?_
            cases hE
            exact K10 H locs ls hH (lv_sub hl [0, 1, 2, 3, 4, 5, 6, 7, 8] rfl)
          · have hE := (if_pos c109).symm.trans hE
            refine lv_iconst (v := 1) hx hb dL_tries_109 (by decide) ?_
            refine lv_goto (tgt := 114) hx hb dL_tries_110 (by decide) ?_
            cases hE
            exact K10 H locs ls hH (lv_sub hl [0, 1, 2, 3, 4, 5, 6, 7, 8] rfl)
