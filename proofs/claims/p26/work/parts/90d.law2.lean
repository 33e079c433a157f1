theorem hvX6_gateOf : yX6_gateOf.cls = RX6 ∧ yX6_gateOf.cls ≠ "java/lang/invoke/MethodHandle" ∧ yX6_gateOf.cls ≠ "java/lang/invoke/VarHandle" ∧ (parseMethodDescriptor yX6_gateOf.desc).map (fun d => d.parameters.length) = some 2 := by decide +kernel
theorem hvX6_word : yX6_word.cls = RX6 ∧ yX6_word.cls ≠ "java/lang/invoke/MethodHandle" ∧ yX6_word.cls ≠ "java/lang/invoke/VarHandle" ∧ (parseMethodDescriptor yX6_word.desc).map (fun d => d.parameters.length) = some 2 := by decide +kernel
theorem hvX6_untilOpen : yX6_untilOpen.cls = RX6 ∧ yX6_untilOpen.cls ≠ "java/lang/invoke/MethodHandle" ∧ yX6_untilOpen.cls ≠ "java/lang/invoke/VarHandle" ∧ (parseMethodDescriptor yX6_untilOpen.desc).map (fun d => d.parameters.length) = some 1 := by decide +kernel
theorem hvX6_openFor : yX6_openFor.cls = RX6 ∧ yX6_openFor.cls ≠ "java/lang/invoke/MethodHandle" ∧ yX6_openFor.cls ≠ "java/lang/invoke/VarHandle" ∧ (parseMethodDescriptor yX6_openFor.desc).map (fun d => d.parameters.length) = some 1 := by decide +kernel
def lbL_isGate_196 (V : Mem) (a1 : Int32) (r1 : Int32) (j3 : Int32) (s14 : Int32 × Int32) : Option ((Int32 × Int32) ⊕ (Int32 × Int32)) := if s14.2 < 0 then some (.inr (s14.1, s14.2)) else if j3 = 0 then (qL_off V (r1 + s14.2)).bind (fun r17 => lt (fX6_gateOf V a1 ((1 : Int32))) (fun r18 => (if r18 < r17 then some s14.1 else some s14.2 : Option (Int32)).bind (fun j19 => some (.inl (j19, s14.2 + (-1)))))) else some (.inr (s14.1, s14.2))
def lbL_isGate_240 (V : Mem) (a1 : Int32) (r1 : Int32) (s22 : Int32 × Int32) (s24 : Int32) : Option ((Int32) ⊕ (Int32)) := if s22.1 = (-1006 : Int32) then some (.inr s24) else if (4000 : Int32) ≤ s24 then some (.inr s24) else (qL_off V ((r1 + s22.1) + s24)).bind (fun r27 => lt (fX6_gateOf V a1 ((1 : Int32))) (fun r28 => if r28 < r27 then some (.inr s24) else some (.inl (s24 + 1))))
def qL_isGate (V : Mem) (a1 : Int32) : Option (Int32) := lt (fX6_count V ((0 : Int32))) (fun r1 => lt (fX6_gateOf V a1 ((3 : Int32))) (fun r2 => (if r2 = (1 : Int32) then some ((1 : Int32)) else some ((0 : Int32)) : Option (Int32)).bind (fun j3 => (if j3 = 0 then (qL_off V r1).bind (fun r59 => lt (fX6_gateOf V a1 ((1 : Int32))) (fun r60 => if r60 < r59 then some ((0 : Int32)) else some ((1 : Int32)))) else some ((0 : Int32)) : Option (Int32)).bind (fun j5 => lt (fX6_gateOf V a1 ((5 : Int32))) (fun r7 => lt (fX6_gateOf V a1 ((4 : Int32))) (fun r8 => (if r8 = (1 : Int32) then some ((1 : Int32)) else some ((0 : Int32)) : Option (Int32)).bind (fun j9 => (if j9 = j5 then lt (fX6_count V ((7 : Int32))) (fun r40 => (if j5 = 0 then some ((0 : Int32)) else some ((1 : Int32)) : Option (Int32)).bind (fun j41 => if (r40 >>> (a1 &&& 31)) &&& ((1 : Int32)) = j41 then if r7 = (-1006 : Int32) then lt (fX6_gateOf V a1 ((6 : Int32))) (fun r54 => if r54 = 0 then some ((1 : Int32)) else some ((0 : Int32))) else lt (fX6_word V r7 ((0 : Int32))) (fun r45 => if r45 = ((2 : Int32)) + a1 then lt (fX6_word V r7 ((1 : Int32))) (fun r47 => if r47 = (-1006 : Int32) then lt (fX6_gateOf V a1 ((6 : Int32))) (fun r49 => lt (fX6_word V r7 ((2 : Int32))) (fun r50 => if r50 ≤ r49 then some ((0 : Int32)) else lt (fX6_gateOf V a1 ((6 : Int32))) (fun r52 => if r52 ≤ 0 then some ((0 : Int32)) else some ((1 : Int32))))) else some ((0 : Int32))) else some ((0 : Int32))) else some ((0 : Int32)))) else some ((0 : Int32)) : Option (Int32)).bind (fun j11 => lt (fX6_untilOpen V a1) (fun r13 => (it (lbL_isGate_196 V a1 r1 j3) fuel ((-1006 : Int32), (3599 : Int32))).bind (fun s22 => (it (lbL_isGate_240 V a1 r1 s22) fuel (0 : Int32)).bind (fun s30 => if j11 = 0 then some ((0 : Int32)) else if r13 = s22.1 then lt (fX6_openFor V a1) (fun r34 => (if s22.1 = (-1006 : Int32) then some ((-1006 : Int32)) else some s30 : Option (Int32)).bind (fun j35 => if r34 = j35 then some ((1 : Int32)) else some ((0 : Int32)))) else some ((0 : Int32)))))))))))))
abbrev rmL_isGate : Room := { frames := 7, cells := 0, slots := 0, locals := 159 }
set_option maxHeartbeats 40000000 in
set_option maxRecDepth 1000000 in
theorem mL_isGate (l : Launch) (X : kX) (b : Nat) (V : Mem) (a1 : Int32) (out : Int32) (hE : qL_isGate V a1 = some out) : MR l yL_isGate wsL_isGate rmL_isGate X [.ref b, .int a1] (RP X LA b V) (some (.int out)) := by
  refine mt_head (cc := cL_isGate) (maxL := 10) (ret := (some .boolean)) (own := RL) (by decide) rfl rfl (Nat.le_of_ble_eq_true rfl) ?_
  intro p e s m below meth c ls F hr hlocks hnm hR hl
  have hx := F.1.1
  have hb := F.1.2.1
  have hl : lv_has ls 10 [(0, .ref b), (1, .int a1)] := hl
  unfold qL_isGate at hE
  refine lv_aload_n hx hb dL_isGate_0 rfl (lv_at hl 0 rfl) ?_
  refine lv_iconst (v := 0) hx hb dL_isGate_1 (by decide) ?_
  obtain ⟨r1, er1, hE⟩ := lt_el hE
  refine rg_callRV (As := [.int ((0 : Int32))]) (rest := []) F (mX6_count l X b V ((0 : Int32)) r1 er1) (cwV 1 F.1.2.2.2.2 gL_isGate_X6_count rfl rfl rfl hvX6_count ⟨Nat.le_of_ble_eq_true rfl, Nat.le_of_ble_eq_true rfl⟩) (rp_recv F hR 0 rfl (C := RX6) (T := TX6) (N := 9) rfl rfl) hR rfl hl.1 (Nat.le_of_ble_eq_true rfl) dL_isGate_2 ⟨Nat.zero_le _, Nat.zero_le _⟩ rfl ?_
  refine lv_istore_n (lv' := [(2, .int r1), (0, .ref b), (1, .int a1)]) hx hb dL_isGate_5 rfl hl (by decide) rfl (fun ls hl => ?_)
  refine lv_aload_n hx hb dL_isGate_6 rfl (lv_at hl 1 rfl) ?_
  refine lv_iload_n hx hb dL_isGate_7 rfl (lv_at hl 2 rfl) ?_
  refine lv_iconst (v := 3) hx hb dL_isGate_8 (by decide) ?_
  obtain ⟨r2, er2, hE⟩ := lt_el hE
  refine rg_callRV (As := [.int a1, .int ((3 : Int32))]) (rest := []) F (mX6_gateOf l X b V a1 ((3 : Int32)) r2 er2) (cwV 2 F.1.2.2.2.2 gL_isGate_X6_gateOf rfl rfl rfl hvX6_gateOf ⟨Nat.le_of_ble_eq_true rfl, Nat.le_of_ble_eq_true rfl⟩) (rp_recv F hR 0 rfl (C := RX6) (T := TX6) (N := 9) rfl rfl) hR rfl hl.1 (Nat.le_of_ble_eq_true rfl) dL_isGate_9 ⟨Nat.zero_le _, Nat.zero_le _⟩ rfl ?_
  refine lv_iconst (v := 1) hx hb dL_isGate_12 (by decide) ?_
  obtain ⟨j3, hJ9, hE⟩ := bd_el hE
  have K4 : ∀ (ls : Array Slot), lv_has ls 10 [(2, .int r1), (0, .ref b), (1, .int a1)] → W p l e rmL_isGate s m ([.ref b, .int a1] : List Value).toArray below meth c s.heap [] 0 0 (MQ below (cQr (some (.int out))) ([.ref b, .int a1] : List Value).toArray s 0 0 (fun _ => False)) (F0 m 21 ls [.int j3]) := by
    clear hJ9
    intro ls hl
    refine lv_istore_n (lv' := [(3, .int j3), (2, .int r1), (0, .ref b), (1, .int a1)]) hx hb dL_isGate_21 rfl hl (by decide) rfl (fun ls hl => ?_)
    refine lv_iload_n hx hb dL_isGate_22 rfl (lv_at hl 0 rfl) ?_
    obtain ⟨j5, hJ9, hE⟩ := bd_el hE
    have K6 : ∀ (ls : Array Slot), lv_has ls 10 [(3, .int j3), (2, .int r1), (0, .ref b), (1, .int a1)] → W p l e rmL_isGate s m ([.ref b, .int a1] : List Value).toArray below meth c s.heap [] 0 0 (MQ below (cQr (some (.int out))) ([.ref b, .int a1] : List Value).toArray s 0 0 (fun _ => False)) (F0 m 45 ls [.int j5]) := by
      clear hJ9
      intro ls hl
      refine lv_istore (lv' := [(4, .int j5), (3, .int j3), (2, .int r1), (0, .ref b), (1, .int a1)]) hx hb dL_isGate_45 hl (by decide) rfl (fun ls hl => ?_)
      refine lv_aload_n hx hb dL_isGate_47 rfl (lv_at hl 3 rfl) ?_
      refine lv_iload_n hx hb dL_isGate_48 rfl (lv_at hl 4 rfl) ?_
      refine lv_iconst (v := 5) hx hb dL_isGate_49 (by decide) ?_
      obtain ⟨r7, er7, hE⟩ := lt_el hE
      refine rg_callRV (As := [.int a1, .int ((5 : Int32))]) (rest := []) F (mX6_gateOf l X b V a1 ((5 : Int32)) r7 er7) (cwV 2 F.1.2.2.2.2 gL_isGate_X6_gateOf rfl rfl rfl hvX6_gateOf ⟨Nat.le_of_ble_eq_true rfl, Nat.le_of_ble_eq_true rfl⟩) (rp_recv F hR 0 rfl (C := RX6) (T := TX6) (N := 9) rfl rfl) hR rfl hl.1 (Nat.le_of_ble_eq_true rfl) dL_isGate_50 ⟨Nat.zero_le _, Nat.zero_le _⟩ rfl ?_
      refine lv_istore (lv' := [(5, .int r7), (4, .int j5), (3, .int j3), (2, .int r1), (0, .ref b), (1, .int a1)]) hx hb dL_isGate_53 hl (by decide) rfl (fun ls hl => ?_)
      refine lv_aload_n hx hb dL_isGate_55 rfl (lv_at hl 4 rfl) ?_
      refine lv_iload_n hx hb dL_isGate_56 rfl (lv_at hl 5 rfl) ?_
      refine lv_iconst (v := 4) hx hb dL_isGate_57 (by decide) ?_
      obtain ⟨r8, er8, hE⟩ := lt_el hE
      refine rg_callRV (As := [.int a1, .int ((4 : Int32))]) (rest := []) F (mX6_gateOf l X b V a1 ((4 : Int32)) r8 er8) (cwV 2 F.1.2.2.2.2 gL_isGate_X6_gateOf rfl rfl rfl hvX6_gateOf ⟨Nat.le_of_ble_eq_true rfl, Nat.le_of_ble_eq_true rfl⟩) (rp_recv F hR 0 rfl (C := RX6) (T := TX6) (N := 9) rfl rfl) hR rfl hl.1 (Nat.le_of_ble_eq_true rfl) dL_isGate_58 ⟨Nat.zero_le _, Nat.zero_le _⟩ rfl ?_
      refine lv_iconst (v := 1) hx hb dL_isGate_61 (by decide) ?_
      obtain ⟨j9, hJ9, hE⟩ := bd_el hE
      have K10 : ∀ (ls : Array Slot), lv_has ls 10 [(5, .int r7), (4, .int j5), (3, .int j3), (2, .int r1), (0, .ref b), (1, .int a1)] → W p l e rmL_isGate s m ([.ref b, .int a1] : List Value).toArray below meth c s.heap [] 0 0 (MQ below (cQr (some (.int out))) ([.ref b, .int a1] : List Value).toArray s 0 0 (fun _ => False)) (F0 m 70 ls [.int j9]) := by
        clear hJ9
        intro ls hl
        refine lv_iload hx hb dL_isGate_70 (lv_at hl 1 rfl) ?_
        obtain ⟨j11, hJ9, hE⟩ := bd_el hE
        have K12 : ∀ (ls : Array Slot), lv_has ls 10 [(5, .int r7), (4, .int j5), (3, .int j3), (2, .int r1), (0, .ref b), (1, .int a1)] → W p l e rmL_isGate s m ([.ref b, .int a1] : List Value).toArray below meth c s.heap [] 0 0 (MQ below (cQr (some (.int out))) ([.ref b, .int a1] : List Value).toArray s 0 0 (fun _ => False)) (F0 m 177 ls [.int j11]) := by
          clear hJ9
          intro ls hl
          refine lv_istore (lv' := [(6, .int j11), (5, .int r7), (4, .int j5), (3, .int j3), (2, .int r1), (0, .ref b), (1, .int a1)]) hx hb dL_isGate_177 hl (by decide) rfl (fun ls hl => ?_)
          refine lv_aload_n hx hb dL_isGate_179 rfl (lv_at hl 5 rfl) ?_
          refine lv_iload_n hx hb dL_isGate_180 rfl (lv_at hl 6 rfl) ?_
          obtain ⟨r13, er13, hE⟩ := lt_el hE
          refine rg_callRV (As := [.int a1]) (rest := []) F (mX6_untilOpen l X b V a1 r13 er13) (cwV 1 F.1.2.2.2.2 gL_isGate_X6_untilOpen rfl rfl rfl hvX6_untilOpen ⟨Nat.le_of_ble_eq_true rfl, Nat.le_of_ble_eq_true rfl⟩) (rp_recv F hR 0 rfl (C := RX6) (T := TX6) (N := 9) rfl rfl) hR rfl hl.1 (Nat.le_of_ble_eq_true rfl) dL_isGate_181 ⟨Nat.zero_le _, Nat.zero_le _⟩ rfl ?_
          refine lv_istore (lv' := [(7, .int r13), (6, .int j11), (5, .int r7), (4, .int j5), (3, .int j3), (2, .int r1), (0, .ref b), (1, .int a1)]) hx hb dL_isGate_184 hl (by decide) rfl (fun ls hl => ?_)
          refine lv_sipush (v := (-1006)) hx hb dL_isGate_186 (by decide) ?_
          refine lv_istore (lv' := [(8, .int ((-1006 : Int32))), (7, .int r13), (6, .int j11), (5, .int r7), (4, .int j5), (3, .int j3), (2, .int r1), (0, .ref b), (1, .int a1)]) hx hb dL_isGate_189 hl (by decide) rfl (fun ls hl => ?_)
          refine lv_sipush (v := 3599) hx hb dL_isGate_191 (by decide) ?_
          refine lv_istore (lv' := [(9, .int ((3599 : Int32))), (8, .int ((-1006 : Int32))), (7, .int r13), (6, .int j11), (5, .int r7), (4, .int j5), (3, .int j3), (2, .int r1), (0, .ref b), (1, .int a1)]) hx hb dL_isGate_194 hl (by decide) rfl (fun ls hl => ?_)
          obtain ⟨x23, hx23, hE⟩ := bd_el hE
          refine it_walk2 (body := lbL_isGate_196 V a1 r1 j3) (Wh := fun s14 => ∀ (ls : Array Slot), lv_has ls 10 [(9, .int s14.2), (8, .int s14.1), (7, .int r13), (6, .int j11), (5, .int r7), (4, .int j5), (3, .int j3), (2, .int r1), (0, .ref b), (1, .int a1)] → W p l e rmL_isGate s m ([.ref b, .int a1] : List Value).toArray below meth c s.heap [] 0 0 (MQ below (cQr (some (.int out))) ([.ref b, .int a1] : List Value).toArray s 0 0 (fun _ => False)) (F0 m 196 ls [])) (We := fun s22 => ∀ (ls : Array Slot), lv_has ls 10 [(9, .int s22.2), (8, .int s22.1), (7, .int r13), (6, .int j11), (5, .int r7), (4, .int j5), (3, .int j3), (2, .int r1), (0, .ref b), (1, .int a1)] → W p l e rmL_isGate s m ([.ref b, .int a1] : List Value).toArray below meth c s.heap [] 0 0 (MQ below (cQr (some (.int out))) ([.ref b, .int a1] : List Value).toArray s 0 0 (fun _ => False)) (F0 m 237 ls [])) ?_ _ _ _ hx23 ?_ ls (lv_sub hl [0, 1, 2, 3, 4, 5, 6, 7, 8, 9] rfl)
          · intro s14 r9 hE hL9 hR9 ls hl
            unfold lbL_isGate_196 at hE
            refine lv_iload hx hb dL_isGate_196 (lv_at hl 0 rfl) ?_
            refine lv_if_lt (tgt := 237) hx hb dL_isGate_198 (by decide) (fun c15 => ?_) (fun c15 => ?_)
            · have hE := (if_pos c15).symm.trans hE
              cases hE
              exact hR9 _ rfl ls (lv_sub hl [0, 1, 2, 3, 4, 5, 6, 7, 8, 9] rfl)
            · have hE := (if_neg c15).symm.trans hE
              refine lv_iload_n hx hb dL_isGate_201 rfl (lv_at hl 6 rfl) ?_
              refine lv_if_ne (tgt := 237) hx hb dL_isGate_202 (by decide) (fun c16 => ?_) (fun c16 => ?_)
              · have hE := (if_neg c16).symm.trans hE
                cases hE
                exact hR9 _ rfl ls (lv_sub hl [0, 1, 2, 3, 4, 5, 6, 7, 8, 9] rfl)
              · have hE := (if_pos c16).symm.trans hE
                refine lv_aload_n hx hb dL_isGate_205 rfl (lv_at hl 8 rfl) ?_
                refine lv_iload_n hx hb dL_isGate_206 rfl (lv_at hl 7 rfl) ?_
                refine lv_iload hx hb dL_isGate_207 (lv_at hl 0 rfl) ?_
                refine lv_iadd hx hb dL_isGate_209 ?_
                obtain ⟨r17, er17, hE⟩ := bd_el hE
                refine rg_callRS (As := [.ref b, .int (r1 + s14.2)]) (rest := []) F (mL_off l X b V (r1 + s14.2) r17 er17) (va_cwS 2 F.1.2.2.2.2 gL_isGate_L_off rfl rfl rfl hsL_off ⟨Nat.le_of_ble_eq_true rfl, Nat.le_of_ble_eq_true rfl⟩) hR rfl hl.1 (Nat.le_of_ble_eq_true rfl) dL_isGate_210 ⟨Nat.zero_le _, Nat.zero_le _⟩ rfl ?_
                refine lv_aload_n hx hb dL_isGate_213 rfl (lv_at hl 8 rfl) ?_
                refine lv_iload_n hx hb dL_isGate_214 rfl (lv_at hl 9 rfl) ?_
                refine lv_iconst (v := 1) hx hb dL_isGate_215 (by decide) ?_
                obtain ⟨r18, er18, hE⟩ := lt_el hE
                refine rg_callRV (As := [.int a1, .int ((1 : Int32))]) (rest := [.int r17]) F (mX6_gateOf l X b V a1 ((1 : Int32)) r18 er18) (cwV 2 F.1.2.2.2.2 gL_isGate_X6_gateOf rfl rfl rfl hvX6_gateOf ⟨Nat.le_of_ble_eq_true rfl, Nat.le_of_ble_eq_true rfl⟩) (rp_recv F hR 0 rfl (C := RX6) (T := TX6) (N := 9) rfl rfl) hR rfl hl.1 (Nat.le_of_ble_eq_true rfl) dL_isGate_216 ⟨Nat.zero_le _, Nat.zero_le _⟩ rfl ?_
                obtain ⟨j19, hJ9, hE⟩ := bd_el hE
                have K20 : ∀ (ls : Array Slot), lv_has ls 10 [(9, .int s14.2), (8, .int s14.1), (7, .int r13), (6, .int j11), (5, .int r7), (4, .int j5), (3, .int j3), (2, .int r1), (0, .ref b), (1, .int a1)] → W p l e rmL_isGate s m ([.ref b, .int a1] : List Value).toArray below meth c s.heap [] 0 0 (MQ below (cQr (some (.int out))) ([.ref b, .int a1] : List Value).toArray s 0 0 (fun _ => False)) (F0 m 229 ls [.int j19]) := by
                  clear hJ9
                  intro ls hl
                  refine lv_istore (lv' := [(8, .int j19), (9, .int s14.2), (7, .int r13), (6, .int j11), (5, .int r7), (4, .int j5), (3, .int j3), (2, .int r1), (0, .ref b), (1, .int a1)]) hx hb dL_isGate_229 hl (by decide) rfl (fun ls hl => ?_)
                  refine lv_iinc (v := s14.2 + (-1)) (lv' := [(9, .int (s14.2 + (-1))), (8, .int j19), (7, .int r13), (6, .int j11), (5, .int r7), (4, .int j5), (3, .int j3), (2, .int r1), (0, .ref b), (1, .int a1)]) hx hb dL_isGate_231 hl (k := 1) rfl (congrArg (fun q => s14.2 + q) (by decide)) (by decide) rfl (fun ls hl => ?_)
                  refine lv_goto (tgt := 196) hx hb dL_isGate_234 (by decide) ?_
                  cases hE
                  exact hL9 _ rfl ls (lv_sub hl [0, 1, 2, 3, 4, 5, 6, 7, 8, 9] rfl)
                replace hE := hJ9
                clear hJ9
                refine lv_icmp_gt (tgt := 227) hx hb dL_isGate_219 (by decide) (fun c21 => ?_) (fun c21 => ?_)
                · have hE := (if_pos c21).symm.trans hE
                  refine lv_iload hx hb dL_isGate_227 (lv_at hl 1 rfl) ?_
                  cases hE
                  exact K20 ls (lv_sub hl [0, 1, 2, 3, 4, 5, 6, 7, 8, 9] rfl)
                · have hE := (if_neg c21).symm.trans hE
                  refine lv_iload hx hb dL_isGate_222 (lv_at hl 0 rfl) ?_
                  refine lv_goto (tgt := 229) hx hb dL_isGate_224 (by decide) ?_
                  cases hE
                  exact K20 ls (lv_sub hl [0, 1, 2, 3, 4, 5, 6, 7, 8, 9] rfl)
          · intro ls hl
            refine lv_iconst (v := 0) hx hb dL_isGate_237 (by decide) ?_
            refine lv_istore (lv' := [(9, .int ((0 : Int32))), (8, .int x23.1), (7, .int r13), (6, .int j11), (5, .int r7), (4, .int j5), (3, .int j3), (2, .int r1), (0, .ref b), (1, .int a1)]) hx hb dL_isGate_238 hl (by decide) rfl (fun ls hl => ?_)
            obtain ⟨x31, hx31, hE⟩ := bd_el hE
            refine it_walk2 (body := lbL_isGate_240 V a1 r1 x23) (Wh := fun s24 => ∀ (ls : Array Slot), lv_has ls 10 [(9, .int s24), (8, .int x23.1), (7, .int r13), (6, .int j11), (5, .int r7), (4, .int j5), (3, .int j3), (2, .int r1), (0, .ref b), (1, .int a1)] → W p l e rmL_isGate s m ([.ref b, .int a1] : List Value).toArray below meth c s.heap [] 0 0 (MQ below (cQr (some (.int out))) ([.ref b, .int a1] : List Value).toArray s 0 0 (fun _ => False)) (F0 m 240 ls [])) (We := fun s30 => ∀ (ls : Array Slot), lv_has ls 10 [(9, .int s30), (8, .int x23.1), (7, .int r13), (6, .int j11), (5, .int r7), (4, .int j5), (3, .int j3), (2, .int r1), (0, .ref b), (1, .int a1)] → W p l e rmL_isGate s m ([.ref b, .int a1] : List Value).toArray below meth c s.heap [] 0 0 (MQ below (cQr (some (.int out))) ([.ref b, .int a1] : List Value).toArray s 0 0 (fun _ => False)) (F0 m 282 ls [])) ?_ _ _ _ hx31 ?_ ls (lv_sub hl [0, 1, 2, 3, 4, 5, 6, 7, 8, 9] rfl)
            · intro s24 r9 hE hL9 hR9 ls hl
              unfold lbL_isGate_240 at hE
              refine lv_iload hx hb dL_isGate_240 (lv_at hl 1 rfl) ?_
              refine lv_sipush (v := (-1006)) hx hb dL_isGate_242 (by decide) ?_
              refine lv_icmp_eq (tgt := 282) hx hb dL_isGate_245 (by decide) (fun c25 => ?_) (fun c25 => ?_)
              · have hE := (if_pos c25).symm.trans hE
                cases hE
                exact hR9 _ rfl ls (lv_sub hl [0, 1, 2, 3, 4, 5, 6, 7, 8, 9] rfl)
              · have hE := (if_neg c25).symm.trans hE
                refine lv_iload hx hb dL_isGate_248 (lv_at hl 0 rfl) ?_
                refine lv_sipush (v := 4000) hx hb dL_isGate_250 (by decide) ?_
                refine lv_icmp_ge (tgt := 282) hx hb dL_isGate_253 (by decide) (fun c26 => ?_) (fun c26 => ?_)
                · have hE := (if_pos c26).symm.trans hE
                  cases hE
                  exact hR9 _ rfl ls (lv_sub hl [0, 1, 2, 3, 4, 5, 6, 7, 8, 9] rfl)
                · have hE := (if_neg c26).symm.trans hE
                  refine lv_aload_n hx hb dL_isGate_256 rfl (lv_at hl 8 rfl) ?_
                  refine lv_iload_n hx hb dL_isGate_257 rfl (lv_at hl 7 rfl) ?_
                  refine lv_iload hx hb dL_isGate_258 (lv_at hl 1 rfl) ?_
                  refine lv_iadd hx hb dL_isGate_260 ?_
                  refine lv_iload hx hb dL_isGate_261 (lv_at hl 0 rfl) ?_
                  refine lv_iadd hx hb dL_isGate_263 ?_
                  obtain ⟨r27, er27, hE⟩ := bd_el hE
                  refine rg_callRS (As := [.ref b, .int ((r1 + x23.1) + s24)]) (rest := []) F (mL_off l X b V ((r1 + x23.1) + s24) r27 er27) (va_cwS 2 F.1.2.2.2.2 gL_isGate_L_off rfl rfl rfl hsL_off ⟨Nat.le_of_ble_eq_true rfl, Nat.le_of_ble_eq_true rfl⟩) hR rfl hl.1 (Nat.le_of_ble_eq_true rfl) dL_isGate_264 ⟨Nat.zero_le _, Nat.zero_le _⟩ rfl ?_
                  refine lv_aload_n hx hb dL_isGate_267 rfl (lv_at hl 8 rfl) ?_
                  refine lv_iload_n hx hb dL_isGate_268 rfl (lv_at hl 9 rfl) ?_
                  refine lv_iconst (v := 1) hx hb dL_isGate_269 (by decide) ?_
                  obtain ⟨r28, er28, hE⟩ := lt_el hE
                  refine rg_callRV (As := [.int a1, .int ((1 : Int32))]) (rest := [.int r27]) F (mX6_gateOf l X b V a1 ((1 : Int32)) r28 er28) (cwV 2 F.1.2.2.2.2 gL_isGate_X6_gateOf rfl rfl rfl hvX6_gateOf ⟨Nat.le_of_ble_eq_true rfl, Nat.le_of_ble_eq_true rfl⟩) (rp_recv F hR 0 rfl (C := RX6) (T := TX6) (N := 9) rfl rfl) hR rfl hl.1 (Nat.le_of_ble_eq_true rfl) dL_isGate_270 ⟨Nat.zero_le _, Nat.zero_le _⟩ rfl ?_
                  refine lv_icmp_gt (tgt := 282) hx hb dL_isGate_273 (by decide) (fun c29 => ?_) (fun c29 => ?_)
                  · have hE := (if_pos c29).symm.trans hE
                    cases hE
                    exact hR9 _ rfl ls (lv_sub hl [0, 1, 2, 3, 4, 5, 6, 7, 8, 9] rfl)
                  · have hE := (if_neg c29).symm.trans hE
                    refine lv_iinc (v := s24 + 1) (lv' := [(9, .int (s24 + 1)), (8, .int x23.1), (7, .int r13), (6, .int j11), (5, .int r7), (4, .int j5), (3, .int j3), (2, .int r1), (0, .ref b), (1, .int a1)]) hx hb dL_isGate_276 hl (k := 0) rfl (congrArg (fun q => s24 + q) (by decide)) (by decide) rfl (fun ls hl => ?_)
                    refine lv_goto (tgt := 240) hx hb dL_isGate_279 (by decide) ?_
                    cases hE
                    exact hL9 _ rfl ls (lv_sub hl [0, 1, 2, 3, 4, 5, 6, 7, 8, 9] rfl)
            · intro ls hl
              refine lv_iload hx hb dL_isGate_282 (lv_at hl 3 rfl) ?_
              refine lv_if_eq (tgt := 322) hx hb dL_isGate_284 (by decide) (fun c32 => ?_) (fun c32 => ?_)
              · have hE := (if_pos c32).symm.trans hE
                refine lv_iconst (v := 0) hx hb dL_isGate_322 (by decide) ?_
                have hE := Option.some.inj hE
                subst hE
                exact W.zret (v := (0 : Int32)) hx hb hr rfl (fun t ht _ => ⟨rfl, ht⟩) (fun _ h => absurd h List.not_mem_nil) dL_isGate_323
              · have hE := (if_neg c32).symm.trans hE
                refine lv_iload hx hb dL_isGate_287 (lv_at hl 2 rfl) ?_
                refine lv_iload hx hb dL_isGate_289 (lv_at hl 1 rfl) ?_
                refine lv_icmp_ne (tgt := 322) hx hb dL_isGate_291 (by decide) (fun c33 => ?_) (fun c33 => ?_)
                · have hE := (if_neg c33).symm.trans hE
                  refine lv_iconst (v := 0) hx hb dL_isGate_322 (by decide) ?_
                  have hE := Option.some.inj hE
                  subst hE
                  exact W.zret (v := (0 : Int32)) hx hb hr rfl (fun t ht _ => ⟨rfl, ht⟩) (fun _ h => absurd h List.not_mem_nil) dL_isGate_323
                · have hE := (if_pos c33).symm.trans hE
                  refine lv_aload_n hx hb dL_isGate_294 rfl (lv_at hl 8 rfl) ?_
                  refine lv_iload_n hx hb dL_isGate_295 rfl (lv_at hl 9 rfl) ?_
                  obtain ⟨r34, er34, hE⟩ := lt_el hE
                  refine rg_callRV (As := [.int a1]) (rest := []) F (mX6_openFor l X b V a1 r34 er34) (cwV 1 F.1.2.2.2.2 gL_isGate_X6_openFor rfl rfl rfl hvX6_openFor ⟨Nat.le_of_ble_eq_true rfl, Nat.le_of_ble_eq_true rfl⟩) (rp_recv F hR 0 rfl (C := RX6) (T := TX6) (N := 9) rfl rfl) hR rfl hl.1 (Nat.le_of_ble_eq_true rfl) dL_isGate_296 ⟨Nat.zero_le _, Nat.zero_le _⟩ rfl ?_
                  refine lv_iload hx hb dL_isGate_299 (lv_at hl 1 rfl) ?_
                  refine lv_sipush (v := (-1006)) hx hb dL_isGate_301 (by decide) ?_
                  obtain ⟨j35, hJ9, hE⟩ := bd_el hE
                  have K36 : ∀ (ls : Array Slot), lv_has ls 10 [(9, .int x31), (8, .int x23.1), (7, .int r13), (6, .int j11), (5, .int r7), (4, .int j5), (3, .int j3), (2, .int r1), (0, .ref b), (1, .int a1)] → W p l e rmL_isGate s m ([.ref b, .int a1] : List Value).toArray below meth c s.heap [] 0 0 (MQ below (cQr (some (.int out))) ([.ref b, .int a1] : List Value).toArray s 0 0 (fun _ => False)) (F0 m 315 ls [.int j35, .int r34]) := by
                    clear hJ9
                    intro ls hl
                    refine lv_icmp_ne (tgt := 322) hx hb dL_isGate_315 (by decide) (fun c37 => ?_) (fun c37 => ?_)
                    · have hE := (if_neg c37).symm.trans hE
                      refine lv_iconst (v := 0) hx hb dL_isGate_322 (by decide) ?_
                      have hE := Option.some.inj hE
                      subst hE
                      exact W.zret (v := (0 : Int32)) hx hb hr rfl (fun t ht _ => ⟨rfl, ht⟩) (fun _ h => absurd h List.not_mem_nil) dL_isGate_323
                    · have hE := (if_pos c37).symm.trans hE
                      refine lv_iconst (v := 1) hx hb dL_isGate_318 (by decide) ?_
                      refine lv_goto (tgt := 323) hx hb dL_isGate_319 (by decide) ?_
                      have hE := Option.some.inj hE
                      subst hE
                      exact W.zret (v := (1 : Int32)) hx hb hr rfl (fun t ht _ => ⟨rfl, ht⟩) (fun _ h => absurd h List.not_mem_nil) dL_isGate_323
                  replace hE := hJ9
                  clear hJ9
                  refine lv_icmp_ne (tgt := 313) hx hb dL_isGate_304 (by decide) (fun c38 => ?_) (fun c38 => ?_)
                  · have hE := (if_neg c38).symm.trans hE
                    refine lv_iload hx hb dL_isGate_313 (lv_at hl 0 rfl) ?_
                    cases hE
                    exact K36 ls (lv_sub hl [0, 1, 2, 3, 4, 5, 6, 7, 8, 9] rfl)
                  · have hE := (if_pos c38).symm.trans hE
                    refine lv_sipush (v := (-1006)) hx hb dL_isGate_307 (by decide) ?_
                    refine lv_goto (tgt := 315) hx hb dL_isGate_310 (by decide) ?_
                    cases hE
                    exact K36 ls (lv_sub hl [0, 1, 2, 3, 4, 5, 6, 7, 8, 9] rfl)
        replace hE := hJ9
        clear hJ9
        refine lv_icmp_ne (tgt := 176) hx hb dL_isGate_72 (by decide) (fun c39 => ?_) (fun c39 => ?_)
        · have hE := (if_neg c39).symm.trans hE
          refine lv_iconst (v := 0) hx hb dL_isGate_176 (by decide) ?_
          cases hE
          exact K12 ls (lv_sub hl [0, 1, 2, 3, 4, 5] rfl)
        · have hE := (if_pos c39).symm.trans hE
          refine lv_aload_n hx hb dL_isGate_75 rfl (lv_at hl 4 rfl) ?_
          refine lv_bipush (v := 7) hx hb dL_isGate_76 (by decide) ?_
          obtain ⟨r40, er40, hE⟩ := lt_el hE
          refine rg_callRV (As := [.int ((7 : Int32))]) (rest := []) F (mX6_count l X b V ((7 : Int32)) r40 er40) (cwV 1 F.1.2.2.2.2 gL_isGate_X6_count rfl rfl rfl hvX6_count ⟨Nat.le_of_ble_eq_true rfl, Nat.le_of_ble_eq_true rfl⟩) (rp_recv F hR 0 rfl (C := RX6) (T := TX6) (N := 9) rfl rfl) hR rfl hl.1 (Nat.le_of_ble_eq_true rfl) dL_isGate_78 ⟨Nat.zero_le _, Nat.zero_le _⟩ rfl ?_
          refine lv_iload_n hx hb dL_isGate_81 rfl (lv_at hl 5 rfl) ?_
          refine lv_ishr hx hb dL_isGate_82 ?_
          refine lv_iconst (v := 1) hx hb dL_isGate_83 (by decide) ?_
          refine lv_iand hx hb dL_isGate_84 ?_
          refine lv_iload hx hb dL_isGate_85 (lv_at hl 1 rfl) ?_
          obtain ⟨j41, hJ9, hE⟩ := bd_el hE
          have K42 : ∀ (ls : Array Slot), lv_has ls 10 [(5, .int r7), (4, .int j5), (3, .int j3), (2, .int r1), (0, .ref b), (1, .int a1)] → W p l e rmL_isGate s m ([.ref b, .int a1] : List Value).toArray below meth c s.heap [] 0 0 (MQ below (cQr (some (.int out))) ([.ref b, .int a1] : List Value).toArray s 0 0 (fun _ => False)) (F0 m 95 ls [.int j41, .int ((r40 >>> (a1 &&& 31)) &&& ((1 : Int32)))]) := by
            clear hJ9
            intro ls hl
            refine lv_icmp_ne (tgt := 176) hx hb dL_isGate_95 (by decide) (fun c43 => ?_) (fun c43 => ?_)
            · have hE := (if_neg c43).symm.trans hE
              refine lv_iconst (v := 0) hx hb dL_isGate_176 (by decide) ?_
              cases hE
              exact K12 ls (lv_sub hl [0, 1, 2, 3, 4, 5] rfl)
            · have hE := (if_pos c43).symm.trans hE
              refine lv_iload hx hb dL_isGate_98 (lv_at hl 0 rfl) ?_
              refine lv_sipush (v := (-1006)) hx hb dL_isGate_100 (by decide) ?_
              refine lv_icmp_ne (tgt := 119) hx hb dL_isGate_103 (by decide) (fun c44 => ?_) (fun c44 => ?_)
              · have hE := (if_neg c44).symm.trans hE
                refine lv_aload_n hx hb dL_isGate_119 rfl (lv_at hl 4 rfl) ?_
                refine lv_iload hx hb dL_isGate_120 (lv_at hl 0 rfl) ?_
                refine lv_iconst (v := 0) hx hb dL_isGate_122 (by decide) ?_
                obtain ⟨r45, er45, hE⟩ := lt_el hE
                refine rg_callRV (As := [.int r7, .int ((0 : Int32))]) (rest := []) F (mX6_word l X b V r7 ((0 : Int32)) r45 er45) (cwV 2 F.1.2.2.2.2 gL_isGate_X6_word rfl rfl rfl hvX6_word ⟨Nat.le_of_ble_eq_true rfl, Nat.le_of_ble_eq_true rfl⟩) (rp_recv F hR 0 rfl (C := RX6) (T := TX6) (N := 9) rfl rfl) hR rfl hl.1 (Nat.le_of_ble_eq_true rfl) dL_isGate_123 ⟨Nat.zero_le _, Nat.zero_le _⟩ rfl ?_
                refine lv_iconst (v := 2) hx hb dL_isGate_126 (by decide) ?_
                refine lv_iload_n hx hb dL_isGate_127 rfl (lv_at hl 5 rfl) ?_
                refine lv_iadd hx hb dL_isGate_128 ?_
                refine lv_icmp_ne (tgt := 176) hx hb dL_isGate_129 (by decide) (fun c46 => ?_) (fun c46 => ?_)
                · have hE := (if_neg c46).symm.trans hE
                  refine lv_iconst (v := 0) hx hb dL_isGate_176 (by decide) ?_
                  cases hE
                  exact K12 ls (lv_sub hl [0, 1, 2, 3, 4, 5] rfl)
                · have hE := (if_pos c46).symm.trans hE
                  refine lv_aload_n hx hb dL_isGate_132 rfl (lv_at hl 4 rfl) ?_
                  refine lv_iload hx hb dL_isGate_133 (lv_at hl 0 rfl) ?_
                  refine lv_iconst (v := 1) hx hb dL_isGate_135 (by decide) ?_
                  obtain ⟨r47, er47, hE⟩ := lt_el hE
                  refine rg_callRV (As := [.int r7, .int ((1 : Int32))]) (rest := []) F (mX6_word l X b V r7 ((1 : Int32)) r47 er47) (cwV 2 F.1.2.2.2.2 gL_isGate_X6_word rfl rfl rfl hvX6_word ⟨Nat.le_of_ble_eq_true rfl, Nat.le_of_ble_eq_true rfl⟩) (rp_recv F hR 0 rfl (C := RX6) (T := TX6) (N := 9) rfl rfl) hR rfl hl.1 (Nat.le_of_ble_eq_true rfl) dL_isGate_136 ⟨Nat.zero_le _, Nat.zero_le _⟩ rfl ?_
                  refine lv_sipush (v := (-1006)) hx hb dL_isGate_139 (by decide) ?_
                  refine lv_icmp_ne (tgt := 176) hx hb dL_isGate_142 (by decide) (fun c48 => ?_) (fun c48 => ?_)
                  · have hE := (if_neg c48).symm.trans hE
                    refine lv_iconst (v := 0) hx hb dL_isGate_176 (by decide) ?_
                    cases hE
                    exact K12 ls (lv_sub hl [0, 1, 2, 3, 4, 5] rfl)
                  · have hE := (if_pos c48).symm.trans hE
                    refine lv_aload_n hx hb dL_isGate_145 rfl (lv_at hl 4 rfl) ?_
                    refine lv_iload_n hx hb dL_isGate_146 rfl (lv_at hl 5 rfl) ?_
                    refine lv_bipush (v := 6) hx hb dL_isGate_147 (by decide) ?_
                    obtain ⟨r49, er49, hE⟩ := lt_el hE
                    refine rg_callRV (As := [.int a1, .int ((6 : Int32))]) (rest := []) F (mX6_gateOf l X b V a1 ((6 : Int32)) r49 er49) (cwV 2 F.1.2.2.2.2 gL_isGate_X6_gateOf rfl rfl rfl hvX6_gateOf ⟨Nat.le_of_ble_eq_true rfl, Nat.le_of_ble_eq_true rfl⟩) (rp_recv F hR 0 rfl (C := RX6) (T := TX6) (N := 9) rfl rfl) hR rfl hl.1 (Nat.le_of_ble_eq_true rfl) dL_isGate_149 ⟨Nat.zero_le _, Nat.zero_le _⟩ rfl ?_
                    refine lv_aload_n hx hb dL_isGate_152 rfl (lv_at hl 4 rfl) ?_
                    refine lv_iload hx hb dL_isGate_153 (lv_at hl 0 rfl) ?_
                    refine lv_iconst (v := 2) hx hb dL_isGate_155 (by decide) ?_
                    obtain ⟨r50, er50, hE⟩ := lt_el hE
                    refine rg_callRV (As := [.int r7, .int ((2 : Int32))]) (rest := [.int r49]) F (mX6_word l X b V r7 ((2 : Int32)) r50 er50) (cwV 2 F.1.2.2.2.2 gL_isGate_X6_word rfl rfl rfl hvX6_word ⟨Nat.le_of_ble_eq_true rfl, Nat.le_of_ble_eq_true rfl⟩) (rp_recv F hR 0 rfl (C := RX6) (T := TX6) (N := 9) rfl rfl) hR rfl hl.1 (Nat.le_of_ble_eq_true rfl) dL_isGate_156 ⟨Nat.zero_le _, Nat.zero_le _⟩ rfl ?_
                    refine lv_icmp_ge (tgt := 176) hx hb dL_isGate_159 (by decide) (fun c51 => ?_) (fun c51 => ?_)
                    · have hE := (if_pos c51).symm.trans hE
                      refine lv_iconst (v := 0) hx hb dL_isGate_176 (by decide) ?_
                      cases hE
                      exact K12 ls (lv_sub hl [0, 1, 2, 3, 4, 5] rfl)
                    · have hE := (if_neg c51).symm.trans hE
                      refine lv_aload_n hx hb dL_isGate_162 rfl (lv_at hl 4 rfl) ?_
                      refine lv_iload_n hx hb dL_isGate_163 rfl (lv_at hl 5 rfl) ?_
                      refine lv_bipush (v := 6) hx hb dL_isGate_164 (by decide) ?_
                      obtain ⟨r52, er52, hE⟩ := lt_el hE
                      refine rg_callRV (As := [.int a1, .int ((6 : Int32))]) (rest := []) F (mX6_gateOf l X b V a1 ((6 : Int32)) r52 er52) (cwV 2 F.1.2.2.2.2 gL_isGate_X6_gateOf rfl rfl rfl hvX6_gateOf ⟨Nat.le_of_ble_eq_true rfl, Nat.le_of_ble_eq_true rfl⟩) (rp_recv F hR 0 rfl (C := RX6) (T := TX6) (N := 9) rfl rfl) hR rfl hl.1 (Nat.le_of_ble_eq_true rfl) dL_isGate_166 ⟨Nat.zero_le _, Nat.zero_le _⟩ rfl ?_
                      refine lv_if_le (tgt := 176) hx hb dL_isGate_169 (by decide) (fun c53 => ?_) (fun c53 => ?_)
                      · have hE := (if_pos c53).symm.trans hE
                        refine lv_iconst (v := 0) hx hb dL_isGate_176 (by decide) ?_
                        cases hE
                        exact K12 ls (lv_sub hl [0, 1, 2, 3, 4, 5] rfl)
                      · have hE := (if_neg c53).symm.trans hE
                        refine lv_iconst (v := 1) hx hb dL_isGate_172 (by decide) ?_
                        refine lv_goto (tgt := 177) hx hb dL_isGate_173 (by decide) ?_
                        cases hE
                        exact K12 ls (lv_sub hl [0, 1, 2, 3, 4, 5] rfl)
              · have hE := (if_pos c44).symm.trans hE
                refine lv_aload_n hx hb dL_isGate_106 rfl (lv_at hl 4 rfl) ?_
                refine lv_iload_n hx hb dL_isGate_107 rfl (lv_at hl 5 rfl) ?_
                refine lv_bipush (v := 6) hx hb dL_isGate_108 (by decide) ?_
                obtain ⟨r54, er54, hE⟩ := lt_el hE
                refine rg_callRV (As := [.int a1, .int ((6 : Int32))]) (rest := []) F (mX6_gateOf l X b V a1 ((6 : Int32)) r54 er54) (cwV 2 F.1.2.2.2.2 gL_isGate_X6_gateOf rfl rfl rfl hvX6_gateOf ⟨Nat.le_of_ble_eq_true rfl, Nat.le_of_ble_eq_true rfl⟩) (rp_recv F hR 0 rfl (C := RX6) (T := TX6) (N := 9) rfl rfl) hR rfl hl.1 (Nat.le_of_ble_eq_true rfl) dL_isGate_110 ⟨Nat.zero_le _, Nat.zero_le _⟩ rfl ?_
                refine lv_if_ne (tgt := 176) hx hb dL_isGate_113 (by decide) (fun c55 => ?_) (fun c55 => ?_)
                · have hE := (if_neg c55).symm.trans hE
                  refine lv_iconst (v := 0) hx hb dL_isGate_176 (by decide) ?_
                  cases hE
                  exact K12 ls (lv_sub hl [0, 1, 2, 3, 4, 5] rfl)
                · have hE := (if_pos c55).symm.trans hE
                  refine lv_goto (tgt := 172) hx hb dL_isGate_116 (by decide) ?_
                  refine lv_iconst (v := 1) hx hb dL_isGate_172 (by decide) ?_
                  refine lv_goto (tgt := 177) hx hb dL_isGate_173 (by decide) ?_
                  cases hE
                  exact K12 ls (lv_sub hl [0, 1, 2, 3, 4, 5] rfl)
          replace hE := hJ9
          clear hJ9
          refine lv_if_eq (tgt := 94) hx hb dL_isGate_87 (by decide) (fun c56 => ?_) (fun c56 => ?_)
          · have hE := (if_pos c56).symm.trans hE
            refine lv_iconst (v := 0) hx hb dL_isGate_94 (by decide) ?_
            cases hE
            exact K42 ls (lv_sub hl [0, 1, 2, 3, 4, 5] rfl)
          · have hE := (if_neg c56).symm.trans hE
            refine lv_iconst (v := 1) hx hb dL_isGate_90 (by decide) ?_
            refine lv_goto (tgt := 95) hx hb dL_isGate_91 (by decide) ?_
            cases hE
            exact K42 ls (lv_sub hl [0, 1, 2, 3, 4, 5] rfl)
      replace hE := hJ9
      clear hJ9
      refine lv_icmp_ne (tgt := 69) hx hb dL_isGate_62 (by decide) (fun c57 => ?_) (fun c57 => ?_)
      · have hE := (if_neg c57).symm.trans hE
        refine lv_iconst (v := 0) hx hb dL_isGate_69 (by decide) ?_
        cases hE
        exact K10 ls (lv_sub hl [0, 1, 2, 3, 4, 5] rfl)
      · have hE := (if_pos c57).symm.trans hE
        refine lv_iconst (v := 1) hx hb dL_isGate_65 (by decide) ?_
        refine lv_goto (tgt := 70) hx hb dL_isGate_66 (by decide) ?_
        cases hE
        exact K10 ls (lv_sub hl [0, 1, 2, 3, 4, 5] rfl)
    replace hE := hJ9
    clear hJ9
    refine lv_if_ne (tgt := 44) hx hb dL_isGate_23 (by decide) (fun c58 => ?_) (fun c58 => ?_)
    · have hE := (if_neg c58).symm.trans hE
      refine lv_iconst (v := 0) hx hb dL_isGate_44 (by decide) ?_
      cases hE
      exact K6 ls (lv_sub hl [0, 1, 2, 3] rfl)
    · have hE := (if_pos c58).symm.trans hE
      refine lv_aload_n hx hb dL_isGate_26 rfl (lv_at hl 2 rfl) ?_
      refine lv_iload_n hx hb dL_isGate_27 rfl (lv_at hl 1 rfl) ?_
      obtain ⟨r59, er59, hE⟩ := bd_el hE
      refine rg_callRS (As := [.ref b, .int r1]) (rest := []) F (mL_off l X b V r1 r59 er59) (va_cwS 2 F.1.2.2.2.2 gL_isGate_L_off rfl rfl rfl hsL_off ⟨Nat.le_of_ble_eq_true rfl, Nat.le_of_ble_eq_true rfl⟩) hR rfl hl.1 (Nat.le_of_ble_eq_true rfl) dL_isGate_28 ⟨Nat.zero_le _, Nat.zero_le _⟩ rfl ?_
      refine lv_aload_n hx hb dL_isGate_31 rfl (lv_at hl 2 rfl) ?_
      refine lv_iload_n hx hb dL_isGate_32 rfl (lv_at hl 3 rfl) ?_
      refine lv_iconst (v := 1) hx hb dL_isGate_33 (by decide) ?_
      obtain ⟨r60, er60, hE⟩ := lt_el hE
      refine rg_callRV (As := [.int a1, .int ((1 : Int32))]) (rest := [.int r59]) F (mX6_gateOf l X b V a1 ((1 : Int32)) r60 er60) (cwV 2 F.1.2.2.2.2 gL_isGate_X6_gateOf rfl rfl rfl hvX6_gateOf ⟨Nat.le_of_ble_eq_true rfl, Nat.le_of_ble_eq_true rfl⟩) (rp_recv F hR 0 rfl (C := RX6) (T := TX6) (N := 9) rfl rfl) hR rfl hl.1 (Nat.le_of_ble_eq_true rfl) dL_isGate_34 ⟨Nat.zero_le _, Nat.zero_le _⟩ rfl ?_
      refine lv_icmp_gt (tgt := 44) hx hb dL_isGate_37 (by decide) (fun c61 => ?_) (fun c61 => ?_)
      · have hE := (if_pos c61).symm.trans hE
        refine lv_iconst (v := 0) hx hb dL_isGate_44 (by decide) ?_
        cases hE
        exact K6 ls (lv_sub hl [0, 1, 2, 3] rfl)
      · have hE := (if_neg c61).symm.trans hE
        refine lv_iconst (v := 1) hx hb dL_isGate_40 (by decide) ?_
        refine lv_goto (tgt := 45) hx hb dL_isGate_41 (by decide) ?_
        cases hE
        exact K6 ls (lv_sub hl [0, 1, 2, 3] rfl)
  replace hE := hJ9
  clear hJ9
  refine lv_icmp_ne (tgt := 20) hx hb dL_isGate_13 (by decide) (fun c62 => ?_) (fun c62 => ?_)
  · have hE := (if_neg c62).symm.trans hE
    refine lv_iconst (v := 0) hx hb dL_isGate_20 (by decide) ?_
    cases hE
    exact K4 ls (lv_sub hl [0, 1, 2] rfl)
  · have hE := (if_pos c62).symm.trans hE
    refine lv_iconst (v := 1) hx hb dL_isGate_16 (by decide) ?_
    refine lv_goto (tgt := 21) hx hb dL_isGate_17 (by decide) ?_
    cases hE
    exact K4 ls (lv_sub hl [0, 1, 2] rfl)
