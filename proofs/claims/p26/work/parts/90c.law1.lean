set_option maxRecDepth 20000 in
theorem lkL_low_0 : Cond.constant RL 8 (2147483647) ∈ wsL_low := by decide +kernel
def qL_low (a1 : Int32) (a2 : Int32) : Option (Int32) := if a2 = 0 then none else some ((a1 &&& ((2147483647 : Int32))) - (a1 &&& ((2147483647 : Int32))) / a2 * a2)
abbrev rmL_low : Room := { frames := 0, cells := 0, slots := 0, locals := 0 }
set_option maxHeartbeats 40000000 in
set_option maxRecDepth 1000000 in
theorem mL_low (l : Launch) (X : kX) (a1 : Int32) (a2 : Int32) (out : Int32) (hE : qL_low a1 a2 = some out) : MR l yL_low wsL_low rmL_low X [.int a1, .int a2] (fun _ => True) (some (.int out)) := by
  refine mt_head (cc := cL_low) (maxL := 2) (ret := (some .int)) (own := RL) (by decide) rfl rfl (Nat.le_of_ble_eq_true rfl) ?_
  intro p e s m below meth c ls F hr hlocks hnm hR hl
  have hx := F.1.1
  have hb := F.1.2.1
  have hl : lv_has ls 2 [(0, .int a1), (1, .int a2)] := hl
  unfold qL_low at hE
  refine lv_iload_n hx hb dL_low_0 rfl (lv_at hl 0 rfl) ?_
  refine lv_ldc (v := 2147483647) hx hb F.1.2.2.2.1 (F.1.2.2.2.2 _ lkL_low_0) dL_low_1 ?_
  refine lv_iand hx hb dL_low_3 ?_
  refine lv_iload_n hx hb dL_low_4 rfl (lv_at hl 1 rfl) ?_
  obtain ⟨g1, hE⟩ := gd_el hE
  refine lv_irem hx hb dL_low_5 g1 ?_
  have hE := Option.some.inj hE
  subst hE
  exact W.iret (v := (a1 &&& ((2147483647 : Int32))) - (a1 &&& ((2147483647 : Int32))) / a2 * a2) hx hb hr (fun t ht _ => ⟨rfl, ht⟩) (fun _ h => absurd h List.not_mem_nil) dL_low_6
theorem hvX6_store : yX6_store.cls = RX6 ∧ yX6_store.cls ≠ "java/lang/invoke/MethodHandle" ∧ yX6_store.cls ≠ "java/lang/invoke/VarHandle" ∧ (parseMethodDescriptor yX6_store.desc).map (fun d => d.parameters.length) = some 2 := by decide +kernel
def qL_level (V : Mem) (a1 : Int32) (a2 : Int32) : Option (Int32) := lt (fX6_store V a1 ((2 : Int32))) (fun r1 => if r1 = 0 then none else (if (a2 - a2 / r1 * r1) + (a2 - a2 / r1 * r1) ≤ r1 then some (a2 - a2 / r1 * r1) else some (r1 - (a2 - a2 / r1 * r1)) : Option (Int32)).bind (fun j3 => lt (fX6_store V a1 ((0 : Int32))) (fun r5 => lt (fX6_store V a1 ((1 : Int32))) (fun r6 => lt (fX6_store V a1 ((1 : Int32))) (fun r7 => some ((r5 - r6) + (((((4 : Int32)) * r7) * j3) / r1)))))))
abbrev rmL_level : Room := { frames := 4, cells := 0, slots := 0, locals := 93 }
set_option maxHeartbeats 40000000 in
set_option maxRecDepth 1000000 in
theorem mL_level (l : Launch) (X : kX) (b : Nat) (V : Mem) (a1 : Int32) (a2 : Int32) (out : Int32) (hE : qL_level V a1 a2 = some out) : MR l yL_level wsL_level rmL_level X [.ref b, .int a1, .int a2] (RP X LA b V) (some (.int out)) := by
  refine mt_head (cc := cL_level) (maxL := 5) (ret := (some .int)) (own := RL) (by decide) rfl rfl (Nat.le_of_ble_eq_true rfl) ?_
  intro p e s m below meth c ls F hr hlocks hnm hR hl
  have hx := F.1.1
  have hb := F.1.2.1
  have hl : lv_has ls 5 [(0, .ref b), (1, .int a1), (2, .int a2)] := hl
  unfold qL_level at hE
  refine lv_aload_n hx hb dL_level_0 rfl (lv_at hl 0 rfl) ?_
  refine lv_iload_n hx hb dL_level_1 rfl (lv_at hl 1 rfl) ?_
  refine lv_iconst (v := 2) hx hb dL_level_2 (by decide) ?_
  obtain ⟨r1, er1, hE⟩ := lt_el hE
  refine rg_callRV (As := [.int a1, .int ((2 : Int32))]) (rest := []) F (mX6_store l X b V a1 ((2 : Int32)) r1 er1) (cwV 2 F.1.2.2.2.2 gL_level_X6_store rfl rfl rfl hvX6_store ⟨Nat.le_of_ble_eq_true rfl, Nat.le_of_ble_eq_true rfl⟩) (rp_recv F hR 0 rfl (C := RX6) (T := TX6) (N := 9) rfl rfl) hR rfl hl.1 (Nat.le_of_ble_eq_true rfl) dL_level_3 ⟨Nat.zero_le _, Nat.zero_le _⟩ rfl ?_
  refine lv_istore_n (lv' := [(3, .int r1), (0, .ref b), (1, .int a1), (2, .int a2)]) hx hb dL_level_6 rfl hl (by decide) rfl (fun ls hl => ?_)
  refine lv_iload_n hx hb dL_level_7 rfl (lv_at hl 3 rfl) ?_
  refine lv_iload_n hx hb dL_level_8 rfl (lv_at hl 0 rfl) ?_
  obtain ⟨g2, hE⟩ := gd_el hE
  refine lv_irem hx hb dL_level_9 g2 ?_
  refine lv_istore (lv' := [(4, .int (a2 - a2 / r1 * r1)), (3, .int r1), (0, .ref b), (1, .int a1), (2, .int a2)]) hx hb dL_level_10 hl (by decide) rfl (fun ls hl => ?_)
  refine lv_iload hx hb dL_level_12 (lv_at hl 0 rfl) ?_
  refine lv_iload hx hb dL_level_14 (lv_at hl 0 rfl) ?_
  refine lv_iadd hx hb dL_level_16 ?_
  refine lv_iload_n hx hb dL_level_17 rfl (lv_at hl 1 rfl) ?_
  obtain ⟨j3, hJ9, hE⟩ := bd_el hE
  have K4 : ∀ (ls : Array Slot), lv_has ls 5 [(4, .int (a2 - a2 / r1 * r1)), (3, .int r1), (0, .ref b), (1, .int a1), (2, .int a2)] → W p l e rmL_level s m ([.ref b, .int a1, .int a2] : List Value).toArray below meth c s.heap [] 0 0 (MQ below (cQr (some (.int out))) ([.ref b, .int a1, .int a2] : List Value).toArray s 0 0 (fun _ => False)) (F0 m 30 ls [.int j3]) := by
    clear hJ9
    intro ls hl
    refine lv_istore (lv' := [(4, .int j3), (3, .int r1), (0, .ref b), (1, .int a1), (2, .int a2)]) hx hb dL_level_30 hl (by decide) rfl (fun ls hl => ?_)
    refine lv_aload_n hx hb dL_level_32 rfl (lv_at hl 2 rfl) ?_
    refine lv_iload_n hx hb dL_level_33 rfl (lv_at hl 3 rfl) ?_
    refine lv_iconst (v := 0) hx hb dL_level_34 (by decide) ?_
    obtain ⟨r5, er5, hE⟩ := lt_el hE
    refine rg_callRV (As := [.int a1, .int ((0 : Int32))]) (rest := []) F (mX6_store l X b V a1 ((0 : Int32)) r5 er5) (cwV 2 F.1.2.2.2.2 gL_level_X6_store rfl rfl rfl hvX6_store ⟨Nat.le_of_ble_eq_true rfl, Nat.le_of_ble_eq_true rfl⟩) (rp_recv F hR 0 rfl (C := RX6) (T := TX6) (N := 9) rfl rfl) hR rfl hl.1 (Nat.le_of_ble_eq_true rfl) dL_level_35 ⟨Nat.zero_le _, Nat.zero_le _⟩ rfl ?_
    refine lv_aload_n hx hb dL_level_38 rfl (lv_at hl 2 rfl) ?_
    refine lv_iload_n hx hb dL_level_39 rfl (lv_at hl 3 rfl) ?_
    refine lv_iconst (v := 1) hx hb dL_level_40 (by decide) ?_
    obtain ⟨r6, er6, hE⟩ := lt_el hE
    refine rg_callRV (As := [.int a1, .int ((1 : Int32))]) (rest := [.int r5]) F (mX6_store l X b V a1 ((1 : Int32)) r6 er6) (cwV 2 F.1.2.2.2.2 gL_level_X6_store rfl rfl rfl hvX6_store ⟨Nat.le_of_ble_eq_true rfl, Nat.le_of_ble_eq_true rfl⟩) (rp_recv F hR 0 rfl (C := RX6) (T := TX6) (N := 9) rfl rfl) hR rfl hl.1 (Nat.le_of_ble_eq_true rfl) dL_level_41 ⟨Nat.zero_le _, Nat.zero_le _⟩ rfl ?_
    refine lv_isub hx hb dL_level_44 ?_
    refine lv_iconst (v := 4) hx hb dL_level_45 (by decide) ?_
    refine lv_aload_n hx hb dL_level_46 rfl (lv_at hl 2 rfl) ?_
    refine lv_iload_n hx hb dL_level_47 rfl (lv_at hl 3 rfl) ?_
    refine lv_iconst (v := 1) hx hb dL_level_48 (by decide) ?_
    obtain ⟨r7, er7, hE⟩ := lt_el hE
    refine rg_callRV (As := [.int a1, .int ((1 : Int32))]) (rest := [.int ((4 : Int32)), .int (r5 - r6)]) F (mX6_store l X b V a1 ((1 : Int32)) r7 er7) (cwV 2 F.1.2.2.2.2 gL_level_X6_store rfl rfl rfl hvX6_store ⟨Nat.le_of_ble_eq_true rfl, Nat.le_of_ble_eq_true rfl⟩) (rp_recv F hR 0 rfl (C := RX6) (T := TX6) (N := 9) rfl rfl) hR rfl hl.1 (Nat.le_of_ble_eq_true rfl) dL_level_49 ⟨Nat.zero_le _, Nat.zero_le _⟩ rfl ?_
    refine lv_imul hx hb dL_level_52 ?_
    refine lv_iload hx hb dL_level_53 (lv_at hl 0 rfl) ?_
    refine lv_imul hx hb dL_level_55 ?_
    refine lv_iload_n hx hb dL_level_56 rfl (lv_at hl 1 rfl) ?_
    refine lv_idiv hx hb dL_level_57 g2 ?_
    refine lv_iadd hx hb dL_level_58 ?_
    have hE := Option.some.inj hE
    subst hE
    exact W.iret (v := (r5 - r6) + (((((4 : Int32)) * r7) * j3) / r1)) hx hb hr (fun t ht _ => ⟨rfl, ht⟩) (fun _ h => absurd h List.not_mem_nil) dL_level_59
  replace hE := hJ9
  clear hJ9
  refine lv_icmp_le (tgt := 28) hx hb dL_level_18 (by decide) (fun c8 => ?_) (fun c8 => ?_)
  · have hE := (if_pos c8).symm.trans hE
    refine lv_iload hx hb dL_level_28 (lv_at hl 0 rfl) ?_
    cases hE
    exact K4 ls (lv_sub hl [0, 1, 2, 3, 4] rfl)
  · have hE := (if_neg c8).symm.trans hE
    refine lv_iload_n hx hb dL_level_21 rfl (lv_at hl 1 rfl) ?_
    refine lv_iload hx hb dL_level_22 (lv_at hl 0 rfl) ?_
    refine lv_isub hx hb dL_level_24 ?_
    refine lv_goto (tgt := 30) hx hb dL_level_25 (by decide) ?_
    cases hE
    exact K4 ls (lv_sub hl [0, 1, 2, 3, 4] rfl)
theorem hsL_level : yL_level.cls ≠ "java/lang/invoke/MethodHandle" ∧ yL_level.cls ≠ "java/lang/invoke/VarHandle" ∧ (parseMethodDescriptor yL_level.desc).map (fun d => d.parameters.length) = some 3 := by decide +kernel
def qL_off (V : Mem) (a1 : Int32) : Option (Int32) := (qL_level V ((0 : Int32)) a1).bind (fun r1 => lt (fX6_store V ((0 : Int32)) ((3 : Int32))) (fun r2 => (qL_level V ((1 : Int32)) a1).bind (fun r3 => lt (fX6_store V ((1 : Int32)) ((3 : Int32))) (fun r4 => if (0 : Int32) ≤ ((r1 + r2) - r3) - r4 then some (((r1 + r2) - r3) - r4) else some (-(((r1 + r2) - r3) - r4))))))
abbrev rmL_off : Room := { frames := 5, cells := 0, slots := 0, locals := 117 }
set_option maxHeartbeats 40000000 in
set_option maxRecDepth 1000000 in
theorem mL_off (l : Launch) (X : kX) (b : Nat) (V : Mem) (a1 : Int32) (out : Int32) (hE : qL_off V a1 = some out) : MR l yL_off wsL_off rmL_off X [.ref b, .int a1] (RP X LA b V) (some (.int out)) := by
  refine mt_head (cc := cL_off) (maxL := 3) (ret := (some .int)) (own := RL) (by decide) rfl rfl (Nat.le_of_ble_eq_true rfl) ?_
  intro p e s m below meth c ls F hr hlocks hnm hR hl
  have hx := F.1.1
  have hb := F.1.2.1
  have hl : lv_has ls 3 [(0, .ref b), (1, .int a1)] := hl
  unfold qL_off at hE
  refine lv_aload_n hx hb dL_off_0 rfl (lv_at hl 0 rfl) ?_
  refine lv_iconst (v := 0) hx hb dL_off_1 (by decide) ?_
  refine lv_iload_n hx hb dL_off_2 rfl (lv_at hl 1 rfl) ?_
  obtain ⟨r1, er1, hE⟩ := bd_el hE
  refine rg_callRS (As := [.ref b, .int ((0 : Int32)), .int a1]) (rest := []) F (mL_level l X b V ((0 : Int32)) a1 r1 er1) (va_cwS 3 F.1.2.2.2.2 gL_off_L_level rfl rfl rfl hsL_level ⟨Nat.le_of_ble_eq_true rfl, Nat.le_of_ble_eq_true rfl⟩) hR rfl hl.1 (Nat.le_of_ble_eq_true rfl) dL_off_3 ⟨Nat.zero_le _, Nat.zero_le _⟩ rfl ?_
  refine lv_aload_n hx hb dL_off_6 rfl (lv_at hl 0 rfl) ?_
  refine lv_iconst (v := 0) hx hb dL_off_7 (by decide) ?_
  refine lv_iconst (v := 3) hx hb dL_off_8 (by decide) ?_
  obtain ⟨r2, er2, hE⟩ := lt_el hE
  refine rg_callRV (As := [.int ((0 : Int32)), .int ((3 : Int32))]) (rest := [.int r1]) F (mX6_store l X b V ((0 : Int32)) ((3 : Int32)) r2 er2) (cwV 2 F.1.2.2.2.2 gL_off_X6_store rfl rfl rfl hvX6_store ⟨Nat.le_of_ble_eq_true rfl, Nat.le_of_ble_eq_true rfl⟩) (rp_recv F hR 0 rfl (C := RX6) (T := TX6) (N := 9) rfl rfl) hR rfl hl.1 (Nat.le_of_ble_eq_true rfl) dL_off_9 ⟨Nat.zero_le _, Nat.zero_le _⟩ rfl ?_
  refine lv_iadd hx hb dL_off_12 ?_
  refine lv_aload_n hx hb dL_off_13 rfl (lv_at hl 0 rfl) ?_
  refine lv_iconst (v := 1) hx hb dL_off_14 (by decide) ?_
  refine lv_iload_n hx hb dL_off_15 rfl (lv_at hl 1 rfl) ?_
  obtain ⟨r3, er3, hE⟩ := bd_el hE
  refine rg_callRS (As := [.ref b, .int ((1 : Int32)), .int a1]) (rest := [.int (r1 + r2)]) F (mL_level l X b V ((1 : Int32)) a1 r3 er3) (va_cwS 3 F.1.2.2.2.2 gL_off_L_level rfl rfl rfl hsL_level ⟨Nat.le_of_ble_eq_true rfl, Nat.le_of_ble_eq_true rfl⟩) hR rfl hl.1 (Nat.le_of_ble_eq_true rfl) dL_off_16 ⟨Nat.zero_le _, Nat.zero_le _⟩ rfl ?_
  refine lv_isub hx hb dL_off_19 ?_
  refine lv_aload_n hx hb dL_off_20 rfl (lv_at hl 0 rfl) ?_
  refine lv_iconst (v := 1) hx hb dL_off_21 (by decide) ?_
  refine lv_iconst (v := 3) hx hb dL_off_22 (by decide) ?_
  obtain ⟨r4, er4, hE⟩ := lt_el hE
  refine rg_callRV (As := [.int ((1 : Int32)), .int ((3 : Int32))]) (rest := [.int ((r1 + r2) - r3)]) F (mX6_store l X b V ((1 : Int32)) ((3 : Int32)) r4 er4) (cwV 2 F.1.2.2.2.2 gL_off_X6_store rfl rfl rfl hvX6_store ⟨Nat.le_of_ble_eq_true rfl, Nat.le_of_ble_eq_true rfl⟩) (rp_recv F hR 0 rfl (C := RX6) (T := TX6) (N := 9) rfl rfl) hR rfl hl.1 (Nat.le_of_ble_eq_true rfl) dL_off_23 ⟨Nat.zero_le _, Nat.zero_le _⟩ rfl ?_
  refine lv_isub hx hb dL_off_26 ?_
  refine lv_istore_n (lv' := [(2, .int (((r1 + r2) - r3) - r4)), (0, .ref b), (1, .int a1)]) hx hb dL_off_27 rfl hl (by decide) rfl (fun ls hl => ?_)
  refine lv_iload_n hx hb dL_off_28 rfl (lv_at hl 0 rfl) ?_
  refine lv_if_ge (tgt := 37) hx hb dL_off_29 (by decide) (fun c5 => ?_) (fun c5 => ?_)
  · have hE := (if_pos c5).symm.trans hE
    refine lv_iload_n hx hb dL_off_37 rfl (lv_at hl 0 rfl) ?_
    have hE := Option.some.inj hE
    subst hE
    exact W.iret (v := ((r1 + r2) - r3) - r4) hx hb hr (fun t ht _ => ⟨rfl, ht⟩) (fun _ h => absurd h List.not_mem_nil) dL_off_38
  · have hE := (if_neg c5).symm.trans hE
    refine lv_iload_n hx hb dL_off_32 rfl (lv_at hl 0 rfl) ?_
    refine lv_ineg hx hb dL_off_33 ?_
    refine lv_goto (tgt := 38) hx hb dL_off_34 (by decide) ?_
    have hE := Option.some.inj hE
    subst hE
    exact W.iret (v := -(((r1 + r2) - r3) - r4)) hx hb hr (fun t ht _ => ⟨rfl, ht⟩) (fun _ h => absurd h List.not_mem_nil) dL_off_38
theorem hvX6_count : yX6_count.cls = RX6 ∧ yX6_count.cls ≠ "java/lang/invoke/MethodHandle" ∧ yX6_count.cls ≠ "java/lang/invoke/VarHandle" ∧ (parseMethodDescriptor yX6_count.desc).map (fun d => d.parameters.length) = some 1 := by decide +kernel
theorem hsL_off : yL_off.cls ≠ "java/lang/invoke/MethodHandle" ∧ yL_off.cls ≠ "java/lang/invoke/VarHandle" ∧ (parseMethodDescriptor yL_off.desc).map (fun d => d.parameters.length) = some 2 := by decide +kernel
def lbL_opens_4 (V : Mem) (a1 : Int32) (s1 : Int32 × Int32) : Option ((Int32 × Int32) ⊕ (Int32 × Int32)) := if (200 : Int32) ≤ s1.2 then some (.inr (s1.1, s1.2)) else lt (fX6_count V ((0 : Int32))) (fun r3 => (qL_off V (r3 + s1.2)).bind (fun r4 => (if a1 < r4 then some ((0 : Int32)) else some ((1 : Int32)) : Option (Int32)).bind (fun j5 => some (.inl (s1.1 + j5, s1.2 + 1)))))
def qL_opens (V : Mem) (a1 : Int32) : Option (Int32) := (it (lbL_opens_4 V a1) fuel ((0 : Int32), (0 : Int32))).bind (fun s8 => some (s8.1))
abbrev rmL_opens : Room := { frames := 7, cells := 0, slots := 0, locals := 157 }
set_option maxHeartbeats 40000000 in
set_option maxRecDepth 1000000 in
theorem mL_opens (l : Launch) (X : kX) (b : Nat) (V : Mem) (a1 : Int32) (out : Int32) (hE : qL_opens V a1 = some out) : MR l yL_opens wsL_opens rmL_opens X [.ref b, .int a1] (RP X LA b V) (some (.int out)) := by
  refine mt_head (cc := cL_opens) (maxL := 4) (ret := (some .int)) (own := RL) (by decide) rfl rfl (Nat.le_of_ble_eq_true rfl) ?_
  intro p e s m below meth c ls F hr hlocks hnm hR hl
  have hx := F.1.1
  have hb := F.1.2.1
  have hl : lv_has ls 4 [(0, .ref b), (1, .int a1)] := hl
  unfold qL_opens at hE
  refine lv_iconst (v := 0) hx hb dL_opens_0 (by decide) ?_
  refine lv_istore_n (lv' := [(2, .int ((0 : Int32))), (0, .ref b), (1, .int a1)]) hx hb dL_opens_1 rfl hl (by decide) rfl (fun ls hl => ?_)
  refine lv_iconst (v := 0) hx hb dL_opens_2 (by decide) ?_
  refine lv_istore_n (lv' := [(3, .int ((0 : Int32))), (2, .int ((0 : Int32))), (0, .ref b), (1, .int a1)]) hx hb dL_opens_3 rfl hl (by decide) rfl (fun ls hl => ?_)
  obtain ⟨x9, hx9, hE⟩ := bd_el hE
  refine it_walk2 (body := lbL_opens_4 V a1) (Wh := fun s1 => ∀ (ls : Array Slot), lv_has ls 4 [(3, .int s1.2), (2, .int s1.1), (0, .ref b), (1, .int a1)] → W p l e rmL_opens s m ([.ref b, .int a1] : List Value).toArray below meth c s.heap [] 0 0 (MQ below (cQr (some (.int out))) ([.ref b, .int a1] : List Value).toArray s 0 0 (fun _ => False)) (F0 m 4 ls [])) (We := fun s8 => ∀ (ls : Array Slot), lv_has ls 4 [(3, .int s8.2), (2, .int s8.1), (0, .ref b), (1, .int a1)] → W p l e rmL_opens s m ([.ref b, .int a1] : List Value).toArray below meth c s.heap [] 0 0 (MQ below (cQr (some (.int out))) ([.ref b, .int a1] : List Value).toArray s 0 0 (fun _ => False)) (F0 m 40 ls [])) ?_ _ _ _ hx9 ?_ ls (lv_sub hl [0, 1, 2, 3] rfl)
  · intro s1 r9 hE hL9 hR9 ls hl
    unfold lbL_opens_4 at hE
    refine lv_iload_n hx hb dL_opens_4 rfl (lv_at hl 0 rfl) ?_
    refine lv_sipush (v := 200) hx hb dL_opens_5 (by decide) ?_
    refine lv_icmp_ge (tgt := 40) hx hb dL_opens_8 (by decide) (fun c2 => ?_) (fun c2 => ?_)
    · have hE := (if_pos c2).symm.trans hE
      cases hE
      exact hR9 _ rfl ls (lv_sub hl [0, 1, 2, 3] rfl)
    · have hE := (if_neg c2).symm.trans hE
      refine lv_iload_n hx hb dL_opens_11 rfl (lv_at hl 1 rfl) ?_
      refine lv_aload_n hx hb dL_opens_12 rfl (lv_at hl 2 rfl) ?_
      refine lv_aload_n hx hb dL_opens_13 rfl (lv_at hl 2 rfl) ?_
      refine lv_iconst (v := 0) hx hb dL_opens_14 (by decide) ?_
      obtain ⟨r3, er3, hE⟩ := lt_el hE
      refine rg_callRV (As := [.int ((0 : Int32))]) (rest := [.ref b, .int s1.1]) F (mX6_count l X b V ((0 : Int32)) r3 er3) (cwV 1 F.1.2.2.2.2 gL_opens_X6_count rfl rfl rfl hvX6_count ⟨Nat.le_of_ble_eq_true rfl, Nat.le_of_ble_eq_true rfl⟩) (rp_recv F hR 0 rfl (C := RX6) (T := TX6) (N := 9) rfl rfl) hR rfl hl.1 (Nat.le_of_ble_eq_true rfl) dL_opens_15 ⟨Nat.zero_le _, Nat.zero_le _⟩ rfl ?_
      refine lv_iload_n hx hb dL_opens_18 rfl (lv_at hl 0 rfl) ?_
      refine lv_iadd hx hb dL_opens_19 ?_
      obtain ⟨r4, er4, hE⟩ := bd_el hE
      refine rg_callRS (As := [.ref b, .int (r3 + s1.2)]) (rest := [.int s1.1]) F (mL_off l X b V (r3 + s1.2) r4 er4) (va_cwS 2 F.1.2.2.2.2 gL_opens_L_off rfl rfl rfl hsL_off ⟨Nat.le_of_ble_eq_true rfl, Nat.le_of_ble_eq_true rfl⟩) hR rfl hl.1 (Nat.le_of_ble_eq_true rfl) dL_opens_20 ⟨Nat.zero_le _, Nat.zero_le _⟩ rfl ?_
      refine lv_iload_n hx hb dL_opens_23 rfl (lv_at hl 3 rfl) ?_
      obtain ⟨j5, hJ9, hE⟩ := bd_el hE
      have K6 : ∀ (ls : Array Slot), lv_has ls 4 [(3, .int s1.2), (2, .int s1.1), (0, .ref b), (1, .int a1)] → W p l e rmL_opens s m ([.ref b, .int a1] : List Value).toArray below meth c s.heap [] 0 0 (MQ below (cQr (some (.int out))) ([.ref b, .int a1] : List Value).toArray s 0 0 (fun _ => False)) (F0 m 32 ls [.int j5, .int s1.1]) := by
        clear hJ9
        intro ls hl
        refine lv_iadd hx hb dL_opens_32 ?_
        refine lv_istore_n (lv' := [(2, .int (s1.1 + j5)), (3, .int s1.2), (0, .ref b), (1, .int a1)]) hx hb dL_opens_33 rfl hl (by decide) rfl (fun ls hl => ?_)
        refine lv_iinc (v := s1.2 + 1) (lv' := [(3, .int (s1.2 + 1)), (2, .int (s1.1 + j5)), (0, .ref b), (1, .int a1)]) hx hb dL_opens_34 hl (k := 1) rfl (congrArg (fun q => s1.2 + q) (by decide)) (by decide) rfl (fun ls hl => ?_)
        refine lv_goto (tgt := 4) hx hb dL_opens_37 (by decide) ?_
        cases hE
        exact hL9 _ rfl ls (lv_sub hl [0, 1, 2, 3] rfl)
      replace hE := hJ9
      clear hJ9
      refine lv_icmp_gt (tgt := 31) hx hb dL_opens_24 (by decide) (fun c7 => ?_) (fun c7 => ?_)
      · have hE := (if_pos c7).symm.trans hE
        refine lv_iconst (v := 0) hx hb dL_opens_31 (by decide) ?_
        cases hE
        exact K6 ls (lv_sub hl [0, 1, 2, 3] rfl)
      · have hE := (if_neg c7).symm.trans hE
        refine lv_iconst (v := 1) hx hb dL_opens_27 (by decide) ?_
        refine lv_goto (tgt := 32) hx hb dL_opens_28 (by decide) ?_
        cases hE
        exact K6 ls (lv_sub hl [0, 1, 2, 3] rfl)
  · intro ls hl
    refine lv_iload_n hx hb dL_opens_40 rfl (lv_at hl 1 rfl) ?_
    have hE := Option.some.inj hE
    subst hE
    exact W.iret (v := x9.1) hx hb hr (fun t ht _ => ⟨rfl, ht⟩) (fun _ h => absurd h List.not_mem_nil) dL_opens_41
