theorem hsL_isWord : yL_isWord.cls ≠ "java/lang/invoke/MethodHandle" ∧ yL_isWord.cls ≠ "java/lang/invoke/VarHandle" ∧ (parseMethodDescriptor yL_isWord.desc).map (fun d => d.parameters.length) = some 2 := by decide +kernel
theorem hsL_isGate : yL_isGate.cls ≠ "java/lang/invoke/MethodHandle" ∧ yL_isGate.cls ≠ "java/lang/invoke/VarHandle" ∧ (parseMethodDescriptor yL_isGate.desc).map (fun d => d.parameters.length) = some 2 := by decide +kernel
def lbL_holds_53 (r1 : Int32) (s5 : Int32 × Int32 × Int32 × Int32 × Mem) : Option ((Int32 × Int32 × Int32 × Int32 × Mem) ⊕ (Int32 × Int32 × Int32 × Int32 × Mem)) := if r1 ≤ s5.2.2.2.1 then some (.inr (s5.1, s5.2.1, s5.2.2.1, s5.2.2.2.1, s5.2.2.2.2)) else if s5.2.2.1 = 0 then some (.inr (s5.1, s5.2.1, s5.2.2.1, s5.2.2.2.1, s5.2.2.2.2)) else (qL_isWord s5.2.2.2.2 s5.2.2.2.1).bind (fun U8 => lt (fX6_word U8.2 s5.2.2.2.1 ((3 : Int32))) (fun r9 => lt (fX6_word U8.2 s5.2.2.2.1 ((3 : Int32))) (fun r10 => lt (fX6_word U8.2 s5.2.2.2.1 ((2 : Int32))) (fun r11 => some (.inl (s5.1 + r9, s5.2.1 + (r10 * r11), U8.1, s5.2.2.2.1 + 1, U8.2))))))
def lbL_holds_109 (s12 : Int32 × Int32 × Int32 × Int32 × Mem) (s14 : Int32 × Int32 × Int32 × Int32 × Int32 × Int32) : Option ((Int32 × Int32 × Int32 × Int32 × Int32 × Int32) ⊕ (Int32 × Int32 × Int32 × Int32 × Int32 × Int32)) := if (4 : Int32) ≤ s14.2.2.2.2.2 then some (.inr (s14.1, s14.2.1, s14.2.2.1, s14.2.2.2.1, s14.2.2.2.2.1, s14.2.2.2.2.2)) else if s14.2.2.2.2.1 = 0 then some (.inr (s14.1, s14.2.1, s14.2.2.1, s14.2.2.2.1, s14.2.2.2.2.1, s14.2.2.2.2.2)) else (qL_isGate s12.2.2.2.2 s14.2.2.2.2.2).bind (fun r17 => lt (fX6_gateOf s12.2.2.2.2 s14.2.2.2.2.2 ((7 : Int32))) (fun r18 => lt (fX6_gateOf s12.2.2.2.2 s14.2.2.2.2.2 ((8 : Int32))) (fun r19 => lt (fX6_gateOf s12.2.2.2.2 s14.2.2.2.2.2 ((6 : Int32))) (fun r20 => lt (fX6_gateOf s12.2.2.2.2 s14.2.2.2.2.2 ((5 : Int32))) (fun r21 => (if r21 = (-1006 : Int32) then some ((0 : Int32)) else some ((1 : Int32)) : Option (Int32)).bind (fun j22 => some (.inl (s14.1 + r20, s14.2.1 + r18, s14.2.2.1 + r19, s14.2.2.2.1 + j22, r17, s14.2.2.2.2.2 + 1))))))))
def lbL_holds_214 (s12 : Int32 × Int32 × Int32 × Int32 × Mem) (s27 : Int32 × Int32 × Int32 × Int32) (s30 : Int32 × Int32) : Option ((Int32 × Int32) ⊕ (Int32 × Int32)) := lt (fX6_store s12.2.2.2.2 s27.2.2.2 ((6 : Int32))) (fun r31 => if r31 ≤ s30.2 then some (.inr (s30.1, s30.2)) else lt (fX6_at s12.2.2.2.2 s27.2.2.2 s30.2) (fun r33 => lt (fX6_word s12.2.2.2.2 r33 ((2 : Int32))) (fun r34 => some (.inl (s30.1 + r34, s30.2 + 1)))))
def lbL_holds_197 (s12 : Int32 × Int32 × Int32 × Int32 × Mem) (s27 : Int32 × Int32 × Int32 × Int32) : Option ((Int32 × Int32 × Int32 × Int32) ⊕ (Int32 × Int32 × Int32 × Int32)) := if (2 : Int32) ≤ s27.2.2.2 then some (.inr (s27.1, s27.2.1, s27.2.2.1, s27.2.2.2)) else if s27.2.2.1 = 0 then some (.inr (s27.1, s27.2.1, s27.2.2.1, s27.2.2.2)) else (it (lbL_holds_214 s12 s27) fuel ((0 : Int32), (0 : Int32))).bind (fun s35 => lt (fX6_store s12.2.2.2.2 s27.2.2.2 ((6 : Int32))) (fun r37 => lt (fX6_store s12.2.2.2.2 s27.2.2.2 ((8 : Int32))) (fun r38 => lt (fX6_store s12.2.2.2.2 s27.2.2.2 ((4 : Int32))) (fun r39 => lt (fX6_count s12.2.2.2.2 ((0 : Int32))) (fun r40 => (qL_level s12.2.2.2.2 s27.2.2.2 r40).bind (fun r41 => (if r39 = r41 then lt (fX6_store s12.2.2.2.2 s27.2.2.2 ((5 : Int32))) (fun r45 => lt (fX6_store s12.2.2.2.2 s27.2.2.2 ((4 : Int32))) (fun r46 => lt (fX6_store s12.2.2.2.2 s27.2.2.2 ((3 : Int32))) (fun r47 => if r45 = r46 + r47 then lt (fX6_store s12.2.2.2.2 s27.2.2.2 ((7 : Int32))) (fun r49 => if s35.1 = r49 then lt (fX6_store s12.2.2.2.2 s27.2.2.2 ((6 : Int32))) (fun r51 => lt (fX6_at s12.2.2.2.2 s27.2.2.2 r51) (fun r52 => if r52 = (-1001 : Int32) then some ((1 : Int32)) else some ((0 : Int32)))) else some ((0 : Int32))) else some ((0 : Int32))))) else some ((0 : Int32)) : Option (Int32)).bind (fun j42 => some (.inl (s27.1 + r37, s27.2.1 + r38, j42, s27.2.2.2 + 1)))))))))
def qL_holds (V : Mem) : Option (Int32 × Mem) := lt (fX6_count V ((1 : Int32))) (fun r1 => lt (fX6_word V r1 ((0 : Int32))) (fun r2 => (if r2 = (-1001 : Int32) then if (12 : Int32) < r1 then some ((0 : Int32)) else some ((1 : Int32)) else some ((0 : Int32)) : Option (Int32)).bind (fun j3 => (it (lbL_holds_53 r1) fuel ((0 : Int32), (0 : Int32), j3, (0 : Int32), V)).bind (fun s12 => (it (lbL_holds_109 s12) fuel (s12.2.1, (0 : Int32), (0 : Int32), (0 : Int32), s12.2.2.1, (0 : Int32))).bind (fun s25 => (it (lbL_holds_197 s12) fuel ((0 : Int32), (0 : Int32), s25.2.2.2.2.1, (0 : Int32))).bind (fun s54 => if s54.2.2.1 = 0 then some (((0 : Int32), s12.2.2.2.2)) else lt (fX6_count s12.2.2.2.2 ((2 : Int32))) (fun r57 => if s12.1 = r57 then if s12.1 = s25.2.1 then lt (fX6_count s12.2.2.2.2 ((6 : Int32))) (fun r60 => if s25.2.2.1 = r60 then lt (fX6_count s12.2.2.2.2 ((5 : Int32))) (fun r62 => if s25.1 + s25.2.2.1 = r62 then if s54.1 + s25.2.2.2.1 = r1 then lt (fX6_count s12.2.2.2.2 ((3 : Int32))) (fun r65 => if s54.2.1 = r65 then lt (fX6_count s12.2.2.2.2 ((4 : Int32))) (fun r67 => if s25.2.2.2.1 = r67 then lt (fX6_count s12.2.2.2.2 ((8 : Int32))) (fun r69 => lt (fX6_count s12.2.2.2.2 ((0 : Int32))) (fun r70 => if r70 < r69 then some (((0 : Int32), s12.2.2.2.2)) else some (((1 : Int32), s12.2.2.2.2)))) else some (((0 : Int32), s12.2.2.2.2))) else some (((0 : Int32), s12.2.2.2.2))) else some (((0 : Int32), s12.2.2.2.2)) else some (((0 : Int32), s12.2.2.2.2))) else some (((0 : Int32), s12.2.2.2.2))) else some (((0 : Int32), s12.2.2.2.2)) else some (((0 : Int32), s12.2.2.2.2)))))))))
abbrev rmL_holds : Room := { frames := 8, cells := 0, slots := 0, locals := 188 }
set_option maxHeartbeats 40000000 in
set_option maxRecDepth 1000000 in
theorem mL_holds (l : Launch) (X : kX) (b : Nat) (V : Mem) (out : Int32 × Mem) (hE : qL_holds V = some out) : MW l yL_holds wsL_holds rmL_holds X [.ref b] (RP X LA b V) (some (.int out.1)) b (b + LA.length) (RP X LA b out.2) := by
  refine mt_head (cc := cL_holds) (maxL := 13) (ret := (some .boolean)) (own := RL) (by decide) rfl rfl (Nat.le_of_ble_eq_true rfl) ?_
  intro p e s m below meth c ls F hr hlocks hnm hR hl
  have hx := F.1.1
  have hb := F.1.2.1
  have hH : Hp (t_fr b (b + LA.length)) s.heap s.heap.size X LA b V s.heap [] := ⟨hR, va_S.rf, rfl⟩
  have hl : lv_has ls 13 [(0, .ref b)] := hl
  unfold qL_holds at hE
  refine lv_aload_n hx hb dL_holds_0 rfl (lv_at hl 0 rfl) ?_
  refine lv_iconst (v := 1) hx hb dL_holds_1 (by decide) ?_
  obtain ⟨r1, er1, hE⟩ := lt_el hE
  refine rg_callRV (As := [.int ((1 : Int32))]) (rest := []) F (mX6_count l X b V ((1 : Int32)) r1 er1) (cwV 1 F.1.2.2.2.2 gL_holds_X6_count rfl rfl rfl hvX6_count ⟨Nat.le_of_ble_eq_true rfl, Nat.le_of_ble_eq_true rfl⟩) (rp_recv F hH.1 0 rfl (C := RX6) (T := TX6) (N := 9) rfl rfl) hH.1 rfl hl.1 (Nat.le_of_ble_eq_true rfl) dL_holds_2 ⟨Nat.zero_le _, Nat.zero_le _⟩ rfl ?_
  refine lv_istore_n (lv' := [(1, .int r1), (0, .ref b)]) hx hb dL_holds_5 rfl hl (by decide) rfl (fun ls hl => ?_)
  refine lv_iconst (v := 0) hx hb dL_holds_6 (by decide) ?_
  refine lv_istore_n (lv' := [(2, .int ((0 : Int32))), (1, .int r1), (0, .ref b)]) hx hb dL_holds_7 rfl hl (by decide) rfl (fun ls hl => ?_)
  refine lv_iconst (v := 0) hx hb dL_holds_8 (by decide) ?_
  refine lv_istore_n (lv' := [(3, .int ((0 : Int32))), (2, .int ((0 : Int32))), (1, .int r1), (0, .ref b)]) hx hb dL_holds_9 rfl hl (by decide) rfl (fun ls hl => ?_)
  refine lv_iconst (v := 0) hx hb dL_holds_10 (by decide) ?_
  refine lv_istore (lv' := [(4, .int ((0 : Int32))), (3, .int ((0 : Int32))), (2, .int ((0 : Int32))), (1, .int r1), (0, .ref b)]) hx hb dL_holds_11 hl (by decide) rfl (fun ls hl => ?_)
  refine lv_iconst (v := 0) hx hb dL_holds_13 (by decide) ?_
  refine lv_istore (lv' := [(5, .int ((0 : Int32))), (4, .int ((0 : Int32))), (3, .int ((0 : Int32))), (2, .int ((0 : Int32))), (1, .int r1), (0, .ref b)]) hx hb dL_holds_14 hl (by decide) rfl (fun ls hl => ?_)
  refine lv_iconst (v := 0) hx hb dL_holds_16 (by decide) ?_
  refine lv_istore (lv' := [(6, .int ((0 : Int32))), (5, .int ((0 : Int32))), (4, .int ((0 : Int32))), (3, .int ((0 : Int32))), (2, .int ((0 : Int32))), (1, .int r1), (0, .ref b)]) hx hb dL_holds_17 hl (by decide) rfl (fun ls hl => ?_)
  refine lv_iconst (v := 0) hx hb dL_holds_19 (by decide) ?_
  refine lv_istore (lv' := [(7, .int ((0 : Int32))), (6, .int ((0 : Int32))), (5, .int ((0 : Int32))), (4, .int ((0 : Int32))), (3, .int ((0 : Int32))), (2, .int ((0 : Int32))), (1, .int r1), (0, .ref b)]) hx hb dL_holds_20 hl (by decide) rfl (fun ls hl => ?_)
  refine lv_iconst (v := 0) hx hb dL_holds_22 (by decide) ?_
  refine lv_istore (lv' := [(8, .int ((0 : Int32))), (7, .int ((0 : Int32))), (6, .int ((0 : Int32))), (5, .int ((0 : Int32))), (4, .int ((0 : Int32))), (3, .int ((0 : Int32))), (2, .int ((0 : Int32))), (1, .int r1), (0, .ref b)]) hx hb dL_holds_23 hl (by decide) rfl (fun ls hl => ?_)
  refine lv_aload_n hx hb dL_holds_25 rfl (lv_at hl 8 rfl) ?_
  refine lv_iload_n hx hb dL_holds_26 rfl (lv_at hl 7 rfl) ?_
  refine lv_iconst (v := 0) hx hb dL_holds_27 (by decide) ?_
  obtain ⟨r2, er2, hE⟩ := lt_el hE
  refine rg_callRV (As := [.int r1, .int ((0 : Int32))]) (rest := []) F (mX6_word l X b V r1 ((0 : Int32)) r2 er2) (cwV 2 F.1.2.2.2.2 gL_holds_X6_word rfl rfl rfl hvX6_word ⟨Nat.le_of_ble_eq_true rfl, Nat.le_of_ble_eq_true rfl⟩) (rp_recv F hH.1 0 rfl (C := RX6) (T := TX6) (N := 9) rfl rfl) hH.1 rfl hl.1 (Nat.le_of_ble_eq_true rfl) dL_holds_28 ⟨Nat.zero_le _, Nat.zero_le _⟩ rfl ?_
  refine lv_sipush (v := (-1001)) hx hb dL_holds_31 (by decide) ?_
  obtain ⟨j3, hJ9, hE⟩ := bd_el hE
  have K4 : ∀ (ls : Array Slot), lv_has ls 13 [(8, .int ((0 : Int32))), (7, .int ((0 : Int32))), (6, .int ((0 : Int32))), (5, .int ((0 : Int32))), (4, .int ((0 : Int32))), (3, .int ((0 : Int32))), (2, .int ((0 : Int32))), (1, .int r1), (0, .ref b)] → W p l e rmL_holds s m ([.ref b] : List Value).toArray below meth c s.heap [] 0 0 (MQ below (cQw (some (.int out.1)) b (b + LA.length) (RP X LA b out.2)) ([.ref b] : List Value).toArray s 0 0 (t_fr b (b + LA.length))) (F0 m 48 ls [.int j3]) := by
    clear hJ9
    intro ls hl
    refine lv_istore (lv' := [(9, .int j3), (8, .int ((0 : Int32))), (7, .int ((0 : Int32))), (6, .int ((0 : Int32))), (5, .int ((0 : Int32))), (4, .int ((0 : Int32))), (3, .int ((0 : Int32))), (2, .int ((0 : Int32))), (1, .int r1), (0, .ref b)]) hx hb dL_holds_48 hl (by decide) rfl (fun ls hl => ?_)
    refine lv_iconst (v := 0) hx hb dL_holds_50 (by decide) ?_
    refine lv_istore (lv' := [(10, .int ((0 : Int32))), (9, .int j3), (8, .int ((0 : Int32))), (7, .int ((0 : Int32))), (6, .int ((0 : Int32))), (5, .int ((0 : Int32))), (4, .int ((0 : Int32))), (3, .int ((0 : Int32))), (2, .int ((0 : Int32))), (1, .int r1), (0, .ref b)]) hx hb dL_holds_51 hl (by decide) rfl (fun ls hl => ?_)
    obtain ⟨x13, hx13, hE⟩ := bd_el hE
    refine it_walk2 (body := lbL_holds_53 r1) (Wh := fun s5 => ∀ (H : Heap) (locs : List Loc) (ls : Array Slot), Hp (t_fr b (b + LA.length)) s.heap s.heap.size X LA b s5.2.2.2.2 H locs → lv_has ls 13 [(10, .int s5.2.2.2.1), (9, .int s5.2.2.1), (8, .int ((0 : Int32))), (7, .int ((0 : Int32))), (6, .int ((0 : Int32))), (5, .int ((0 : Int32))), (4, .int ((0 : Int32))), (3, .int s5.2.1), (2, .int s5.1), (1, .int r1), (0, .ref b)] → W p l e rmL_holds s m ([.ref b] : List Value).toArray below meth c H locs 0 0 (MQ below (cQw (some (.int out.1)) b (b + LA.length) (RP X LA b out.2)) ([.ref b] : List Value).toArray s 0 0 (t_fr b (b + LA.length))) (F0 m 53 ls [])) (We := fun s12 => ∀ (H : Heap) (locs : List Loc) (ls : Array Slot), Hp (t_fr b (b + LA.length)) s.heap s.heap.size X LA b s12.2.2.2.2 H locs → lv_has ls 13 [(10, .int s12.2.2.2.1), (9, .int s12.2.2.1), (8, .int ((0 : Int32))), (7, .int ((0 : Int32))), (6, .int ((0 : Int32))), (5, .int ((0 : Int32))), (4, .int ((0 : Int32))), (3, .int s12.2.1), (2, .int s12.1), (1, .int r1), (0, .ref b)] → W p l e rmL_holds s m ([.ref b] : List Value).toArray below meth c H locs 0 0 (MQ below (cQw (some (.int out.1)) b (b + LA.length) (RP X LA b out.2)) ([.ref b] : List Value).toArray s 0 0 (t_fr b (b + LA.length))) (F0 m 106 ls [])) ?_ _ _ _ hx13 ?_ s.heap [] ls hH (lv_sub hl [0, 1, 2, 3, 4, 5, 6, 7, 8, 9, 10] rfl)
    · intro s5 r9 hE hL9 hR9 H locs ls hH hl
      unfold lbL_holds_53 at hE
      refine lv_iload hx hb dL_holds_53 (lv_at hl 0 rfl) ?_
      refine lv_iload_n hx hb dL_holds_55 rfl (lv_at hl 9 rfl) ?_
      refine lv_icmp_ge (tgt := 106) hx hb dL_holds_56 (by decide) (fun c6 => ?_) (fun c6 => ?_)
      · have hE := (if_pos c6).symm.trans hE
        cases hE
        exact hR9 _ rfl H locs ls hH (lv_sub hl [0, 1, 2, 3, 4, 5, 6, 7, 8, 9, 10] rfl)
      · have hE := (if_neg c6).symm.trans hE
        refine lv_iload hx hb dL_holds_59 (lv_at hl 1 rfl) ?_
        refine lv_if_eq (tgt := 106) hx hb dL_holds_61 (by decide) (fun c7 => ?_) (fun c7 => ?_)
        · have hE := (if_pos c7).symm.trans hE
          cases hE
          exact hR9 _ rfl H locs ls hH (lv_sub hl [0, 1, 2, 3, 4, 5, 6, 7, 8, 9, 10] rfl)
        · have hE := (if_neg c7).symm.trans hE
          refine lv_aload_n hx hb dL_holds_64 rfl (lv_at hl 10 rfl) ?_
          refine lv_iload hx hb dL_holds_65 (lv_at hl 0 rfl) ?_
          obtain ⟨U8, eU8, hE⟩ := bd_el hE
          refine rg_callWT (As := [.ref b, .int s5.2.2.2.1]) (rest := []) F hH (fun q h1 h2 => ⟨h1, h2⟩) (mL_isWord l X b s5.2.2.2.2 s5.2.2.2.1 U8 eU8) (va_cwS 2 F.1.2.2.2.2 gL_holds_L_isWord rfl rfl rfl hsL_isWord ⟨Nat.le_of_ble_eq_true rfl, Nat.le_of_ble_eq_true rfl⟩) hH.1 rfl hl.1 (Nat.le_of_ble_eq_true rfl) dL_holds_67 ⟨Nat.zero_le _, Nat.zero_le _⟩ rfl (fun H locs hH => ?_)
          refine lv_istore (lv' := [(9, .int U8.1), (10, .int s5.2.2.2.1), (8, .int ((0 : Int32))), (7, .int ((0 : Int32))), (6, .int ((0 : Int32))), (5, .int ((0 : Int32))), (4, .int ((0 : Int32))), (3, .int s5.2.1), (2, .int s5.1), (1, .int r1), (0, .ref b)]) hx hb dL_holds_70 hl (by decide) rfl (fun ls hl => ?_)
          refine lv_iload_n hx hb dL_holds_72 rfl (lv_at hl 8 rfl) ?_
          refine lv_aload_n hx hb dL_holds_73 rfl (lv_at hl 10 rfl) ?_
          refine lv_iload hx hb dL_holds_74 (lv_at hl 1 rfl) ?_
          refine lv_iconst (v := 3) hx hb dL_holds_76 (by decide) ?_
          obtain ⟨r9, er9, hE⟩ := lt_el hE
          refine rg_callRV (As := [.int s5.2.2.2.1, .int ((3 : Int32))]) (rest := [.int s5.1]) F (mX6_word l X b U8.2 s5.2.2.2.1 ((3 : Int32)) r9 er9) (cwV 2 F.1.2.2.2.2 gL_holds_X6_word rfl rfl rfl hvX6_word ⟨Nat.le_of_ble_eq_true rfl, Nat.le_of_ble_eq_true rfl⟩) (rp_recv F hH.1 0 rfl (C := RX6) (T := TX6) (N := 9) rfl rfl) hH.1 rfl hl.1 (Nat.le_of_ble_eq_true rfl) dL_holds_77 ⟨Nat.zero_le _, Nat.zero_le _⟩ rfl ?_
          refine lv_iadd hx hb dL_holds_80 ?_
          refine lv_istore_n (lv' := [(2, .int (s5.1 + r9)), (9, .int U8.1), (10, .int s5.2.2.2.1), (8, .int ((0 : Int32))), (7, .int ((0 : Int32))), (6, .int ((0 : Int32))), (5, .int ((0 : Int32))), (4, .int ((0 : Int32))), (3, .int s5.2.1), (1, .int r1), (0, .ref b)]) hx hb dL_holds_81 rfl hl (by decide) rfl (fun ls hl => ?_)
          refine lv_iload_n hx hb dL_holds_82 rfl (lv_at hl 8 rfl) ?_
          refine lv_aload_n hx hb dL_holds_83 rfl (lv_at hl 10 rfl) ?_
          refine lv_iload hx hb dL_holds_84 (lv_at hl 2 rfl) ?_
          refine lv_iconst (v := 3) hx hb dL_holds_86 (by decide) ?_
          obtain ⟨r10, er10, hE⟩ := lt_el hE
          refine rg_callRV (As := [.int s5.2.2.2.1, .int ((3 : Int32))]) (rest := [.int s5.2.1]) F (mX6_word l X b U8.2 s5.2.2.2.1 ((3 : Int32)) r10 er10) (cwV 2 F.1.2.2.2.2 gL_holds_X6_word rfl rfl rfl hvX6_word ⟨Nat.le_of_ble_eq_true rfl, Nat.le_of_ble_eq_true rfl⟩) (rp_recv F hH.1 0 rfl (C := RX6) (T := TX6) (N := 9) rfl rfl) hH.1 rfl hl.1 (Nat.le_of_ble_eq_true rfl) dL_holds_87 ⟨Nat.zero_le _, Nat.zero_le _⟩ rfl ?_
          refine lv_aload_n hx hb dL_holds_90 rfl (lv_at hl 10 rfl) ?_
          refine lv_iload hx hb dL_holds_91 (lv_at hl 2 rfl) ?_
          refine lv_iconst (v := 2) hx hb dL_holds_93 (by decide) ?_
          obtain ⟨r11, er11, hE⟩ := lt_el hE
          refine rg_callRV (As := [.int s5.2.2.2.1, .int ((2 : Int32))]) (rest := [.int r10, .int s5.2.1]) F (mX6_word l X b U8.2 s5.2.2.2.1 ((2 : Int32)) r11 er11) (cwV 2 F.1.2.2.2.2 gL_holds_X6_word rfl rfl rfl hvX6_word ⟨Nat.le_of_ble_eq_true rfl, Nat.le_of_ble_eq_true rfl⟩) (rp_recv F hH.1 0 rfl (C := RX6) (T := TX6) (N := 9) rfl rfl) hH.1 rfl hl.1 (Nat.le_of_ble_eq_true rfl) dL_holds_94 ⟨Nat.zero_le _, Nat.zero_le _⟩ rfl ?_
          refine lv_imul hx hb dL_holds_97 ?_
          refine lv_iadd hx hb dL_holds_98 ?_
          refine lv_istore_n (lv' := [(3, .int (s5.2.1 + (r10 * r11))), (2, .int (s5.1 + r9)), (9, .int U8.1), (10, .int s5.2.2.2.1), (8, .int ((0 : Int32))), (7, .int ((0 : Int32))), (6, .int ((0 : Int32))), (5, .int ((0 : Int32))), (4, .int ((0 : Int32))), (1, .int r1), (0, .ref b)]) hx hb dL_holds_99 rfl hl (by decide) rfl (fun ls hl => ?_)
          refine lv_iinc (v := s5.2.2.2.1 + 1) (lv' := [(10, .int (s5.2.2.2.1 + 1)), (3, .int (s5.2.1 + (r10 * r11))), (2, .int (s5.1 + r9)), (9, .int U8.1), (8, .int ((0 : Int32))), (7, .int ((0 : Int32))), (6, .int ((0 : Int32))), (5, .int ((0 : Int32))), (4, .int ((0 : Int32))), (1, .int r1), (0, .ref b)]) hx hb dL_holds_100 hl (k := 3) rfl (congrArg (fun q => s5.2.2.2.1 + q) (by decide)) (by decide) rfl (fun ls hl => ?_)
          refine lv_goto (tgt := 53) hx hb dL_holds_103 (by decide) ?_
          cases hE
          exact hL9 _ rfl H locs ls hH (lv_sub hl [0, 3, 4, 5, 6, 7, 8, 1, 2, 9, 10] rfl)
    · intro H locs ls hH hl
      refine lv_iconst (v := 0) hx hb dL_holds_106 (by decide) ?_
      refine lv_istore (lv' := [(10, .int ((0 : Int32))), (9, .int x13.2.2.1), (8, .int ((0 : Int32))), (7, .int ((0 : Int32))), (6, .int ((0 : Int32))), (5, .int ((0 : Int32))), (4, .int ((0 : Int32))), (3, .int x13.2.1), (2, .int x13.1), (1, .int r1), (0, .ref b)]) hx hb dL_holds_107 hl (by decide) rfl (fun ls hl => ?_)
      obtain ⟨x26, hx26, hE⟩ := bd_el hE
      refine it_walk2 (body := lbL_holds_109 x13) (Wh := fun s14 => ∀ (ls : Array Slot), lv_has ls 13 [(10, .int s14.2.2.2.2.2), (9, .int s14.2.2.2.2.1), (8, .int s14.2.2.2.1), (7, .int s14.2.2.1), (6, .int s14.2.1), (5, .int ((0 : Int32))), (4, .int ((0 : Int32))), (3, .int s14.1), (2, .int x13.1), (1, .int r1), (0, .ref b)] → W p l e rmL_holds s m ([.ref b] : List Value).toArray below meth c H locs 0 0 (MQ below (cQw (some (.int out.1)) b (b + LA.length) (RP X LA b out.2)) ([.ref b] : List Value).toArray s 0 0 (t_fr b (b + LA.length))) (F0 m 109 ls [])) (We := fun s25 => ∀ (ls : Array Slot), lv_has ls 13 [(10, .int s25.2.2.2.2.2), (9, .int s25.2.2.2.2.1), (8, .int s25.2.2.2.1), (7, .int s25.2.2.1), (6, .int s25.2.1), (5, .int ((0 : Int32))), (4, .int ((0 : Int32))), (3, .int s25.1), (2, .int x13.1), (1, .int r1), (0, .ref b)] → W p l e rmL_holds s m ([.ref b] : List Value).toArray below meth c H locs 0 0 (MQ below (cQw (some (.int out.1)) b (b + LA.length) (RP X LA b out.2)) ([.ref b] : List Value).toArray s 0 0 (t_fr b (b + LA.length))) (F0 m 194 ls [])) ?_ _ _ _ hx26 ?_ ls (lv_sub hl [0, 1, 2, 3, 4, 5, 6, 7, 8, 9, 10] rfl)
      · intro s14 r9 hE hL9 hR9 ls hl
        unfold lbL_holds_109 at hE
        refine lv_iload hx hb dL_holds_109 (lv_at hl 0 rfl) ?_
        refine lv_iconst (v := 4) hx hb dL_holds_111 (by decide) ?_
        refine lv_icmp_ge (tgt := 194) hx hb dL_holds_112 (by decide) (fun c15 => ?_) (fun c15 => ?_)
        · have hE := (if_pos c15).symm.trans hE
          cases hE
          exact hR9 _ rfl ls (lv_sub hl [0, 1, 2, 3, 4, 5, 6, 7, 8, 9, 10] rfl)
        · have hE := (if_neg c15).symm.trans hE
          refine lv_iload hx hb dL_holds_115 (lv_at hl 1 rfl) ?_
          refine lv_if_eq (tgt := 194) hx hb dL_holds_117 (by decide) (fun c16 => ?_) (fun c16 => ?_)
          · have hE := (if_pos c16).symm.trans hE
            cases hE
            exact hR9 _ rfl ls (lv_sub hl [0, 1, 2, 3, 4, 5, 6, 7, 8, 9, 10] rfl)
          · have hE := (if_neg c16).symm.trans hE
            refine lv_aload_n hx hb dL_holds_120 rfl (lv_at hl 10 rfl) ?_
            refine lv_iload hx hb dL_holds_121 (lv_at hl 0 rfl) ?_
            obtain ⟨r17, er17, hE⟩ := bd_el hE
            refine rg_callRS (As := [.ref b, .int s14.2.2.2.2.2]) (rest := []) F (mL_isGate l X b x13.2.2.2.2 s14.2.2.2.2.2 r17 er17) (va_cwS 2 F.1.2.2.2.2 gL_holds_L_isGate rfl rfl rfl hsL_isGate ⟨Nat.le_of_ble_eq_true rfl, Nat.le_of_ble_eq_true rfl⟩) hH.1 rfl hl.1 (Nat.le_of_ble_eq_true rfl) dL_holds_123 ⟨Nat.zero_le _, Nat.zero_le _⟩ rfl ?_
            refine lv_istore (lv' := [(9, .int r17), (10, .int s14.2.2.2.2.2), (8, .int s14.2.2.2.1), (7, .int s14.2.2.1), (6, .int s14.2.1), (5, .int ((0 : Int32))), (4, .int ((0 : Int32))), (3, .int s14.1), (2, .int x13.1), (1, .int r1), (0, .ref b)]) hx hb dL_holds_126 hl (by decide) rfl (fun ls hl => ?_)
            refine lv_iload hx hb dL_holds_128 (lv_at hl 4 rfl) ?_
            refine lv_aload_n hx hb dL_holds_130 rfl (lv_at hl 10 rfl) ?_
            refine lv_iload hx hb dL_holds_131 (lv_at hl 1 rfl) ?_
            refine lv_bipush (v := 7) hx hb dL_holds_133 (by decide) ?_
            obtain ⟨r18, er18, hE⟩ := lt_el hE
            refine rg_callRV (As := [.int s14.2.2.2.2.2, .int ((7 : Int32))]) (rest := [.int s14.2.1]) F (mX6_gateOf l X b x13.2.2.2.2 s14.2.2.2.2.2 ((7 : Int32)) r18 er18) (cwV 2 F.1.2.2.2.2 gL_holds_X6_gateOf rfl rfl rfl hvX6_gateOf ⟨Nat.le_of_ble_eq_true rfl, Nat.le_of_ble_eq_true rfl⟩) (rp_recv F hH.1 0 rfl (C := RX6) (T := TX6) (N := 9) rfl rfl) hH.1 rfl hl.1 (Nat.le_of_ble_eq_true rfl) dL_holds_135 ⟨Nat.zero_le _, Nat.zero_le _⟩ rfl ?_
            refine lv_iadd hx hb dL_holds_138 ?_
            refine lv_istore (lv' := [(6, .int (s14.2.1 + r18)), (9, .int r17), (10, .int s14.2.2.2.2.2), (8, .int s14.2.2.2.1), (7, .int s14.2.2.1), (5, .int ((0 : Int32))), (4, .int ((0 : Int32))), (3, .int s14.1), (2, .int x13.1), (1, .int r1), (0, .ref b)]) hx hb dL_holds_139 hl (by decide) rfl (fun ls hl => ?_)
            refine lv_iload hx hb dL_holds_141 (lv_at hl 4 rfl) ?_
            refine lv_aload_n hx hb dL_holds_143 rfl (lv_at hl 10 rfl) ?_
            refine lv_iload hx hb dL_holds_144 (lv_at hl 2 rfl) ?_
            refine lv_bipush (v := 8) hx hb dL_holds_146 (by decide) ?_
            obtain ⟨r19, er19, hE⟩ := lt_el hE
            refine rg_callRV (As := [.int s14.2.2.2.2.2, .int ((8 : Int32))]) (rest := [.int s14.2.2.1]) F (mX6_gateOf l X b x13.2.2.2.2 s14.2.2.2.2.2 ((8 : Int32)) r19 er19) (cwV 2 F.1.2.2.2.2 gL_holds_X6_gateOf rfl rfl rfl hvX6_gateOf ⟨Nat.le_of_ble_eq_true rfl, Nat.le_of_ble_eq_true rfl⟩) (rp_recv F hH.1 0 rfl (C := RX6) (T := TX6) (N := 9) rfl rfl) hH.1 rfl hl.1 (Nat.le_of_ble_eq_true rfl) dL_holds_148 ⟨Nat.zero_le _, Nat.zero_le _⟩ rfl ?_
            refine lv_iadd hx hb dL_holds_151 ?_
            refine lv_istore (lv' := [(7, .int (s14.2.2.1 + r19)), (6, .int (s14.2.1 + r18)), (9, .int r17), (10, .int s14.2.2.2.2.2), (8, .int s14.2.2.2.1), (5, .int ((0 : Int32))), (4, .int ((0 : Int32))), (3, .int s14.1), (2, .int x13.1), (1, .int r1), (0, .ref b)]) hx hb dL_holds_152 hl (by decide) rfl (fun ls hl => ?_)
            refine lv_iload_n hx hb dL_holds_154 rfl (lv_at hl 7 rfl) ?_
            refine lv_aload_n hx hb dL_holds_155 rfl (lv_at hl 10 rfl) ?_
            refine lv_iload hx hb dL_holds_156 (lv_at hl 3 rfl) ?_
            refine lv_bipush (v := 6) hx hb dL_holds_158 (by decide) ?_
            obtain ⟨r20, er20, hE⟩ := lt_el hE
            refine rg_callRV (As := [.int s14.2.2.2.2.2, .int ((6 : Int32))]) (rest := [.int s14.1]) F (mX6_gateOf l X b x13.2.2.2.2 s14.2.2.2.2.2 ((6 : Int32)) r20 er20) (cwV 2 F.1.2.2.2.2 gL_holds_X6_gateOf rfl rfl rfl hvX6_gateOf ⟨Nat.le_of_ble_eq_true rfl, Nat.le_of_ble_eq_true rfl⟩) (rp_recv F hH.1 0 rfl (C := RX6) (T := TX6) (N := 9) rfl rfl) hH.1 rfl hl.1 (Nat.le_of_ble_eq_true rfl) dL_holds_160 ⟨Nat.zero_le _, Nat.zero_le _⟩ rfl ?_
            refine lv_iadd hx hb dL_holds_163 ?_
            refine lv_istore_n (lv' := [(3, .int (s14.1 + r20)), (7, .int (s14.2.2.1 + r19)), (6, .int (s14.2.1 + r18)), (9, .int r17), (10, .int s14.2.2.2.2.2), (8, .int s14.2.2.2.1), (5, .int ((0 : Int32))), (4, .int ((0 : Int32))), (2, .int x13.1), (1, .int r1), (0, .ref b)]) hx hb dL_holds_164 rfl hl (by decide) rfl (fun ls hl => ?_)
            refine lv_iload hx hb dL_holds_165 (lv_at hl 5 rfl) ?_
            refine lv_aload_n hx hb dL_holds_167 rfl (lv_at hl 10 rfl) ?_
            refine lv_iload hx hb dL_holds_168 (lv_at hl 4 rfl) ?_
            refine lv_iconst (v := 5) hx hb dL_holds_170 (by decide) ?_
            obtain ⟨r21, er21, hE⟩ := lt_el hE
            refine rg_callRV (As := [.int s14.2.2.2.2.2, .int ((5 : Int32))]) (rest := [.int s14.2.2.2.1]) F (mX6_gateOf l X b x13.2.2.2.2 s14.2.2.2.2.2 ((5 : Int32)) r21 er21) (cwV 2 F.1.2.2.2.2 gL_holds_X6_gateOf rfl rfl rfl hvX6_gateOf ⟨Nat.le_of_ble_eq_true rfl, Nat.le_of_ble_eq_true rfl⟩) (rp_recv F hH.1 0 rfl (C := RX6) (T := TX6) (N := 9) rfl rfl) hH.1 rfl hl.1 (Nat.le_of_ble_eq_true rfl) dL_holds_171 ⟨Nat.zero_le _, Nat.zero_le _⟩ rfl ?_
            refine lv_sipush (v := (-1006)) hx hb dL_holds_174 (by decide) ?_
            obtain ⟨j22, hJ9, hE⟩ := bd_el hE
            have K23 : ∀ (ls : Array Slot), lv_has ls 13 [(3, .int (s14.1 + r20)), (7, .int (s14.2.2.1 + r19)), (6, .int (s14.2.1 + r18)), (9, .int r17), (10, .int s14.2.2.2.2.2), (8, .int s14.2.2.2.1), (5, .int ((0 : Int32))), (4, .int ((0 : Int32))), (2, .int x13.1), (1, .int r1), (0, .ref b)] → W p l e rmL_holds s m ([.ref b] : List Value).toArray below meth c H locs 0 0 (MQ below (cQw (some (.int out.1)) b (b + LA.length) (RP X LA b out.2)) ([.ref b] : List Value).toArray s 0 0 (t_fr b (b + LA.length))) (F0 m 185 ls [.int j22, .int s14.2.2.2.1]) := by
              clear hJ9
              intro ls hl
              refine lv_iadd hx hb dL_holds_185 ?_
              refine lv_istore (lv' := [(8, .int (s14.2.2.2.1 + j22)), (3, .int (s14.1 + r20)), (7, .int (s14.2.2.1 + r19)), (6, .int (s14.2.1 + r18)), (9, .int r17), (10, .int s14.2.2.2.2.2), (5, .int ((0 : Int32))), (4, .int ((0 : Int32))), (2, .int x13.1), (1, .int r1), (0, .ref b)]) hx hb dL_holds_186 hl (by decide) rfl (fun ls hl => ?_)
              refine lv_iinc (v := s14.2.2.2.2.2 + 1) (lv' := [(10, .int (s14.2.2.2.2.2 + 1)), (8, .int (s14.2.2.2.1 + j22)), (3, .int (s14.1 + r20)), (7, .int (s14.2.2.1 + r19)), (6, .int (s14.2.1 + r18)), (9, .int r17), (5, .int ((0 : Int32))), (4, .int ((0 : Int32))), (2, .int x13.1), (1, .int r1), (0, .ref b)]) hx hb dL_holds_188 hl (k := 5) rfl (congrArg (fun q => s14.2.2.2.2.2 + q) (by decide)) (by decide) rfl (fun ls hl => ?_)
              refine lv_goto (tgt := 109) hx hb dL_holds_191 (by decide) ?_
              cases hE
              exact hL9 _ rfl ls (lv_sub hl [0, 5, 1, 3, 4, 6, 7, 2, 8, 9, 10] rfl)
            replace hE := hJ9
            clear hJ9
            refine lv_icmp_ne (tgt := 184) hx hb dL_holds_177 (by decide) (fun c24 => ?_) (fun c24 => ?_)
            · have hE := (if_neg c24).symm.trans hE
              refine lv_iconst (v := 1) hx hb dL_holds_184 (by decide) ?_
              cases hE
              exact K23 ls (lv_sub hl [0, 1, 2, 3, 4, 5, 6, 7, 8, 9, 10] rfl)
            · have hE := (if_pos c24).symm.trans hE
              refine lv_iconst (v := 0) hx hb dL_holds_180 (by decide) ?_
              refine lv_goto (tgt := 185) hx hb dL_holds_181 (by decide) ?_
              cases hE
              exact K23 ls (lv_sub hl [0, 1, 2, 3, 4, 5, 6, 7, 8, 9, 10] rfl)
      · intro ls hl
        refine lv_iconst (v := 0) hx hb dL_holds_194 (by decide) ?_
        refine lv_istore (lv' := [(10, .int ((0 : Int32))), (9, .int x26.2.2.2.2.1), (8, .int x26.2.2.2.1), (7, .int x26.2.2.1), (6, .int x26.2.1), (5, .int ((0 : Int32))), (4, .int ((0 : Int32))), (3, .int x26.1), (2, .int x13.1), (1, .int r1), (0, .ref b)]) hx hb dL_holds_195 hl (by decide) rfl (fun ls hl => ?_)
        obtain ⟨x55, hx55, hE⟩ := bd_el hE
        refine it_walk2 (body := lbL_holds_197 x13) (Wh := fun s27 => ∀ (ls : Array Slot), lv_has ls 13 [(10, .int s27.2.2.2), (9, .int s27.2.2.1), (8, .int x26.2.2.2.1), (7, .int x26.2.2.1), (6, .int x26.2.1), (5, .int s27.2.1), (4, .int s27.1), (3, .int x26.1), (2, .int x13.1), (1, .int r1), (0, .ref b)] → W p l e rmL_holds s m ([.ref b] : List Value).toArray below meth c H locs 0 0 (MQ below (cQw (some (.int out.1)) b (b + LA.length) (RP X LA b out.2)) ([.ref b] : List Value).toArray s 0 0 (t_fr b (b + LA.length))) (F0 m 197 ls [])) (We := fun s54 => ∀ (ls : Array Slot), lv_has ls 13 [(10, .int s54.2.2.2), (9, .int s54.2.2.1), (8, .int x26.2.2.2.1), (7, .int x26.2.2.1), (6, .int x26.2.1), (5, .int s54.2.1), (4, .int s54.1), (3, .int x26.1), (2, .int x13.1), (1, .int r1), (0, .ref b)] → W p l e rmL_holds s m ([.ref b] : List Value).toArray below meth c H locs 0 0 (MQ below (cQw (some (.int out.1)) b (b + LA.length) (RP X LA b out.2)) ([.ref b] : List Value).toArray s 0 0 (t_fr b (b + LA.length))) (F0 m 369 ls [])) ?_ _ _ _ hx55 ?_ ls (lv_sub hl [0, 1, 2, 3, 4, 5, 6, 7, 8, 9, 10] rfl)
        · intro s27 r9 hE hL9 hR9 ls hl
          unfold lbL_holds_197 at hE
          refine lv_iload hx hb dL_holds_197 (lv_at hl 0 rfl) ?_
          refine lv_iconst (v := 2) hx hb dL_holds_199 (by decide) ?_
          refine lv_icmp_ge (tgt := 369) hx hb dL_holds_200 (by decide) (fun c28 => ?_) (fun c28 => ?_)
          · have hE := (if_pos c28).symm.trans hE
            cases hE
            exact hR9 _ rfl ls (lv_sub hl [0, 1, 2, 3, 4, 5, 6, 7, 8, 9, 10] rfl)
          · have hE := (if_neg c28).symm.trans hE
            refine lv_iload hx hb dL_holds_203 (lv_at hl 1 rfl) ?_
            refine lv_if_eq (tgt := 369) hx hb dL_holds_205 (by decide) (fun c29 => ?_) (fun c29 => ?_)
            · have hE := (if_pos c29).symm.trans hE
              cases hE
              exact hR9 _ rfl ls (lv_sub hl [0, 1, 2, 3, 4, 5, 6, 7, 8, 9, 10] rfl)
            · have hE := (if_neg c29).symm.trans hE
              refine lv_iconst (v := 0) hx hb dL_holds_208 (by decide) ?_
              refine lv_istore (lv' := [(11, .int ((0 : Int32))), (10, .int s27.2.2.2), (9, .int s27.2.2.1), (8, .int x26.2.2.2.1), (7, .int x26.2.2.1), (6, .int x26.2.1), (5, .int s27.2.1), (4, .int s27.1), (3, .int x26.1), (2, .int x13.1), (1, .int r1), (0, .ref b)]) hx hb dL_holds_209 hl (by decide) rfl (fun ls hl => ?_)
              refine lv_iconst (v := 0) hx hb dL_holds_211 (by decide) ?_
              refine lv_istore (lv' := [(12, .int ((0 : Int32))), (11, .int ((0 : Int32))), (10, .int s27.2.2.2), (9, .int s27.2.2.1), (8, .int x26.2.2.2.1), (7, .int x26.2.2.1), (6, .int x26.2.1), (5, .int s27.2.1), (4, .int s27.1), (3, .int x26.1), (2, .int x13.1), (1, .int r1), (0, .ref b)]) hx hb dL_holds_212 hl (by decide) rfl (fun ls hl => ?_)
              obtain ⟨x36, hx36, hE⟩ := bd_el hE
              refine it_walk2 (body := lbL_holds_214 x13 s27) (Wh := fun s30 => ∀ (ls : Array Slot), lv_has ls 13 [(12, .int s30.2), (11, .int s30.1), (10, .int s27.2.2.2), (9, .int s27.2.2.1), (8, .int x26.2.2.2.1), (7, .int x26.2.2.1), (6, .int x26.2.1), (5, .int s27.2.1), (4, .int s27.1), (3, .int x26.1), (2, .int x13.1), (1, .int r1), (0, .ref b)] → W p l e rmL_holds s m ([.ref b] : List Value).toArray below meth c H locs 0 0 (MQ below (cQw (some (.int out.1)) b (b + LA.length) (RP X LA b out.2)) ([.ref b] : List Value).toArray s 0 0 (t_fr b (b + LA.length))) (F0 m 214 ls [])) (We := fun s35 => ∀ (ls : Array Slot), lv_has ls 13 [(12, .int s35.2), (11, .int s35.1), (10, .int s27.2.2.2), (9, .int s27.2.2.1), (8, .int x26.2.2.2.1), (7, .int x26.2.2.1), (6, .int x26.2.1), (5, .int s27.2.1), (4, .int s27.1), (3, .int x26.1), (2, .int x13.1), (1, .int r1), (0, .ref b)] → W p l e rmL_holds s m ([.ref b] : List Value).toArray below meth c H locs 0 0 (MQ below (cQw (some (.int out.1)) b (b + LA.length) (RP X LA b out.2)) ([.ref b] : List Value).toArray s 0 0 (t_fr b (b + LA.length))) (F0 m 251 ls [])) ?_ _ _ _ hx36 ?_ ls (lv_sub hl [0, 1, 2, 3, 4, 5, 6, 7, 8, 9, 10, 11, 12] rfl)
              · intro s30 r9 hE hL9 hR9 ls hl
                unfold lbL_holds_214 at hE
                refine lv_iload hx hb dL_holds_214 (lv_at hl 0 rfl) ?_
                refine lv_aload_n hx hb dL_holds_216 rfl (lv_at hl 12 rfl) ?_
                refine lv_iload hx hb dL_holds_217 (lv_at hl 2 rfl) ?_
                refine lv_bipush (v := 6) hx hb dL_holds_219 (by decide) ?_
                obtain ⟨r31, er31, hE⟩ := lt_el hE
                refine rg_callRV (As := [.int s27.2.2.2, .int ((6 : Int32))]) (rest := [.int s30.2]) F (mX6_store l X b x13.2.2.2.2 s27.2.2.2 ((6 : Int32)) r31 er31) (cwV 2 F.1.2.2.2.2 gL_holds_X6_store rfl rfl rfl hvX6_store ⟨Nat.le_of_ble_eq_true rfl, Nat.le_of_ble_eq_true rfl⟩) (rp_recv F hH.1 0 rfl (C := RX6) (T := TX6) (N := 9) rfl rfl) hH.1 rfl hl.1 (Nat.le_of_ble_eq_true rfl) dL_holds_221 ⟨Nat.zero_le _, Nat.zero_le _⟩ rfl ?_
                refine lv_icmp_ge (tgt := 251) hx hb dL_holds_224 (by decide) (fun c32 => ?_) (fun c32 => ?_)
                · have hE := (if_pos c32).symm.trans hE
                  cases hE
                  exact hR9 _ rfl ls (lv_sub hl [0, 1, 2, 3, 4, 5, 6, 7, 8, 9, 10, 11, 12] rfl)
                · have hE := (if_neg c32).symm.trans hE
                  refine lv_iload hx hb dL_holds_227 (lv_at hl 1 rfl) ?_
                  refine lv_aload_n hx hb dL_holds_229 rfl (lv_at hl 12 rfl) ?_
                  refine lv_aload_n hx hb dL_holds_230 rfl (lv_at hl 12 rfl) ?_
                  refine lv_iload hx hb dL_holds_231 (lv_at hl 2 rfl) ?_
                  refine lv_iload hx hb dL_holds_233 (lv_at hl 0 rfl) ?_
                  obtain ⟨r33, er33, hE⟩ := lt_el hE
                  refine rg_callRV (As := [.int s27.2.2.2, .int s30.2]) (rest := [.ref b, .int s30.1]) F (mX6_at l X b x13.2.2.2.2 s27.2.2.2 s30.2 r33 er33) (cwV 2 F.1.2.2.2.2 gL_holds_X6_at rfl rfl rfl hvX6_at ⟨Nat.le_of_ble_eq_true rfl, Nat.le_of_ble_eq_true rfl⟩) (rp_recv F hH.1 0 rfl (C := RX6) (T := TX6) (N := 9) rfl rfl) hH.1 rfl hl.1 (Nat.le_of_ble_eq_true rfl) dL_holds_235 ⟨Nat.zero_le _, Nat.zero_le _⟩ rfl ?_
                  refine lv_iconst (v := 2) hx hb dL_holds_238 (by decide) ?_
                  obtain ⟨r34, er34, hE⟩ := lt_el hE
                  refine rg_callRV (As := [.int r33, .int ((2 : Int32))]) (rest := [.int s30.1]) F (mX6_word l X b x13.2.2.2.2 r33 ((2 : Int32)) r34 er34) (cwV 2 F.1.2.2.2.2 gL_holds_X6_word rfl rfl rfl hvX6_word ⟨Nat.le_of_ble_eq_true rfl, Nat.le_of_ble_eq_true rfl⟩) (rp_recv F hH.1 0 rfl (C := RX6) (T := TX6) (N := 9) rfl rfl) hH.1 rfl hl.1 (Nat.le_of_ble_eq_true rfl) dL_holds_239 ⟨Nat.zero_le _, Nat.zero_le _⟩ rfl ?_
                  refine lv_iadd hx hb dL_holds_242 ?_
                  refine lv_istore (lv' := [(11, .int (s30.1 + r34)), (12, .int s30.2), (10, .int s27.2.2.2), (9, .int s27.2.2.1), (8, .int x26.2.2.2.1), (7, .int x26.2.2.1), (6, .int x26.2.1), (5, .int s27.2.1), (4, .int s27.1), (3, .int x26.1), (2, .int x13.1), (1, .int r1), (0, .ref b)]) hx hb dL_holds_243 hl (by decide) rfl (fun ls hl => ?_)
                  refine lv_iinc (v := s30.2 + 1) (lv' := [(12, .int (s30.2 + 1)), (11, .int (s30.1 + r34)), (10, .int s27.2.2.2), (9, .int s27.2.2.1), (8, .int x26.2.2.2.1), (7, .int x26.2.2.1), (6, .int x26.2.1), (5, .int s27.2.1), (4, .int s27.1), (3, .int x26.1), (2, .int x13.1), (1, .int r1), (0, .ref b)]) hx hb dL_holds_245 hl (k := 1) rfl (congrArg (fun q => s30.2 + q) (by decide)) (by decide) rfl (fun ls hl => ?_)
                  refine lv_goto (tgt := 214) hx hb dL_holds_248 (by decide) ?_
                  cases hE
                  exact hL9 _ rfl ls (lv_sub hl [0, 1, 2, 3, 4, 5, 6, 7, 8, 9, 10, 11, 12] rfl)
              · intro ls hl
                refine lv_iload hx hb dL_holds_251 (lv_at hl 8 rfl) ?_
                refine lv_aload_n hx hb dL_holds_253 rfl (lv_at hl 12 rfl) ?_
                refine lv_iload hx hb dL_holds_254 (lv_at hl 2 rfl) ?_
                refine lv_bipush (v := 6) hx hb dL_holds_256 (by decide) ?_
                obtain ⟨r37, er37, hE⟩ := lt_el hE
                refine rg_callRV (As := [.int s27.2.2.2, .int ((6 : Int32))]) (rest := [.int s27.1]) F (mX6_store l X b x13.2.2.2.2 s27.2.2.2 ((6 : Int32)) r37 er37) (cwV 2 F.1.2.2.2.2 gL_holds_X6_store rfl rfl rfl hvX6_store ⟨Nat.le_of_ble_eq_true rfl, Nat.le_of_ble_eq_true rfl⟩) (rp_recv F hH.1 0 rfl (C := RX6) (T := TX6) (N := 9) rfl rfl) hH.1 rfl hl.1 (Nat.le_of_ble_eq_true rfl) dL_holds_258 ⟨Nat.zero_le _, Nat.zero_le _⟩ rfl ?_
                refine lv_iadd hx hb dL_holds_261 ?_
                refine lv_istore (lv' := [(4, .int (s27.1 + r37)), (12, .int x36.2), (11, .int x36.1), (10, .int s27.2.2.2), (9, .int s27.2.2.1), (8, .int x26.2.2.2.1), (7, .int x26.2.2.1), (6, .int x26.2.1), (5, .int s27.2.1), (3, .int x26.1), (2, .int x13.1), (1, .int r1), (0, .ref b)]) hx hb dL_holds_262 hl (by decide) rfl (fun ls hl => ?_)
                refine lv_iload hx hb dL_holds_264 (lv_at hl 8 rfl) ?_
                refine lv_aload_n hx hb dL_holds_266 rfl (lv_at hl 12 rfl) ?_
                refine lv_iload hx hb dL_holds_267 (lv_at hl 3 rfl) ?_
                refine lv_bipush (v := 8) hx hb dL_holds_269 (by decide) ?_
                obtain ⟨r38, er38, hE⟩ := lt_el hE
                refine rg_callRV (As := [.int s27.2.2.2, .int ((8 : Int32))]) (rest := [.int s27.2.1]) F (mX6_store l X b x13.2.2.2.2 s27.2.2.2 ((8 : Int32)) r38 er38) (cwV 2 F.1.2.2.2.2 gL_holds_X6_store rfl rfl rfl hvX6_store ⟨Nat.le_of_ble_eq_true rfl, Nat.le_of_ble_eq_true rfl⟩) (rp_recv F hH.1 0 rfl (C := RX6) (T := TX6) (N := 9) rfl rfl) hH.1 rfl hl.1 (Nat.le_of_ble_eq_true rfl) dL_holds_271 ⟨Nat.zero_le _, Nat.zero_le _⟩ rfl ?_
                refine lv_iadd hx hb dL_holds_274 ?_
                refine lv_istore (lv' := [(5, .int (s27.2.1 + r38)), (4, .int (s27.1 + r37)), (12, .int x36.2), (11, .int x36.1), (10, .int s27.2.2.2), (9, .int s27.2.2.1), (8, .int x26.2.2.2.1), (7, .int x26.2.2.1), (6, .int x26.2.1), (3, .int x26.1), (2, .int x13.1), (1, .int r1), (0, .ref b)]) hx hb dL_holds_275 hl (by decide) rfl (fun ls hl => ?_)
                refine lv_aload_n hx hb dL_holds_277 rfl (lv_at hl 12 rfl) ?_
                refine lv_iload hx hb dL_holds_278 (lv_at hl 4 rfl) ?_
                refine lv_iconst (v := 4) hx hb dL_holds_280 (by decide) ?_
                obtain ⟨r39, er39, hE⟩ := lt_el hE
                refine rg_callRV (As := [.int s27.2.2.2, .int ((4 : Int32))]) (rest := []) F (mX6_store l X b x13.2.2.2.2 s27.2.2.2 ((4 : Int32)) r39 er39) (cwV 2 F.1.2.2.2.2 gL_holds_X6_store rfl rfl rfl hvX6_store ⟨Nat.le_of_ble_eq_true rfl, Nat.le_of_ble_eq_true rfl⟩) (rp_recv F hH.1 0 rfl (C := RX6) (T := TX6) (N := 9) rfl rfl) hH.1 rfl hl.1 (Nat.le_of_ble_eq_true rfl) dL_holds_281 ⟨Nat.zero_le _, Nat.zero_le _⟩ rfl ?_
                refine lv_aload_n hx hb dL_holds_284 rfl (lv_at hl 12 rfl) ?_
                refine lv_iload hx hb dL_holds_285 (lv_at hl 4 rfl) ?_
                refine lv_aload_n hx hb dL_holds_287 rfl (lv_at hl 12 rfl) ?_
                refine lv_iconst (v := 0) hx hb dL_holds_288 (by decide) ?_
                obtain ⟨r40, er40, hE⟩ := lt_el hE
                refine rg_callRV (As := [.int ((0 : Int32))]) (rest := [.int s27.2.2.2, .ref b, .int r39]) F (mX6_count l X b x13.2.2.2.2 ((0 : Int32)) r40 er40) (cwV 1 F.1.2.2.2.2 gL_holds_X6_count rfl rfl rfl hvX6_count ⟨Nat.le_of_ble_eq_true rfl, Nat.le_of_ble_eq_true rfl⟩) (rp_recv F hH.1 0 rfl (C := RX6) (T := TX6) (N := 9) rfl rfl) hH.1 rfl hl.1 (Nat.le_of_ble_eq_true rfl) dL_holds_289 ⟨Nat.zero_le _, Nat.zero_le _⟩ rfl ?_
                obtain ⟨r41, er41, hE⟩ := bd_el hE
                refine rg_callRS (As := [.ref b, .int s27.2.2.2, .int r40]) (rest := [.int r39]) F (mL_level l X b x13.2.2.2.2 s27.2.2.2 r40 r41 er41) (va_cwS 3 F.1.2.2.2.2 gL_holds_L_level rfl rfl rfl hsL_level ⟨Nat.le_of_ble_eq_true rfl, Nat.le_of_ble_eq_true rfl⟩) hH.1 rfl hl.1 (Nat.le_of_ble_eq_true rfl) dL_holds_292 ⟨Nat.zero_le _, Nat.zero_le _⟩ rfl ?_
                obtain ⟨j42, hJ9, hE⟩ := bd_el hE
                have K43 : ∀ (ls : Array Slot), lv_has ls 13 [(5, .int (s27.2.1 + r38)), (4, .int (s27.1 + r37)), (12, .int x36.2), (11, .int x36.1), (10, .int s27.2.2.2), (9, .int s27.2.2.1), (8, .int x26.2.2.2.1), (7, .int x26.2.2.1), (6, .int x26.2.1), (3, .int x26.1), (2, .int x13.1), (1, .int r1), (0, .ref b)] → W p l e rmL_holds s m ([.ref b] : List Value).toArray below meth c H locs 0 0 (MQ below (cQw (some (.int out.1)) b (b + LA.length) (RP X LA b out.2)) ([.ref b] : List Value).toArray s 0 0 (t_fr b (b + LA.length))) (F0 m 361 ls [.int j42]) := by
                  clear hJ9
                  intro ls hl
                  refine lv_istore (lv' := [(9, .int j42), (5, .int (s27.2.1 + r38)), (4, .int (s27.1 + r37)), (12, .int x36.2), (11, .int x36.1), (10, .int s27.2.2.2), (8, .int x26.2.2.2.1), (7, .int x26.2.2.1), (6, .int x26.2.1), (3, .int x26.1), (2, .int x13.1), (1, .int r1), (0, .ref b)]) hx hb dL_holds_361 hl (by decide) rfl (fun ls hl => ?_)
                  refine lv_iinc (v := s27.2.2.2 + 1) (lv' := [(10, .int (s27.2.2.2 + 1)), (9, .int j42), (5, .int (s27.2.1 + r38)), (4, .int (s27.1 + r37)), (12, .int x36.2), (11, .int x36.1), (8, .int x26.2.2.2.1), (7, .int x26.2.2.1), (6, .int x26.2.1), (3, .int x26.1), (2, .int x13.1), (1, .int r1), (0, .ref b)]) hx hb dL_holds_363 hl (k := 5) rfl (congrArg (fun q => s27.2.2.2 + q) (by decide)) (by decide) rfl (fun ls hl => ?_)
                  refine lv_goto (tgt := 197) hx hb dL_holds_366 (by decide) ?_
                  cases hE
                  exact hL9 _ rfl ls (lv_sub hl [0, 1, 6, 7, 8, 2, 3, 9, 10, 11, 12] rfl)
                replace hE := hJ9
                clear hJ9
                refine lv_icmp_ne (tgt := 360) hx hb dL_holds_295 (by decide) (fun c44 => ?_) (fun c44 => ?_)
                · have hE := (if_neg c44).symm.trans hE
                  refine lv_iconst (v := 0) hx hb dL_holds_360 (by decide) ?_
                  cases hE
                  exact K43 ls (lv_sub hl [0, 1, 2, 3, 4, 5, 6, 7, 8, 9, 10, 11, 12] rfl)
                · have hE := (if_pos c44).symm.trans hE
                  refine lv_aload_n hx hb dL_holds_298 rfl (lv_at hl 12 rfl) ?_
                  refine lv_iload hx hb dL_holds_299 (lv_at hl 4 rfl) ?_
                  refine lv_iconst (v := 5) hx hb dL_holds_301 (by decide) ?_
                  obtain ⟨r45, er45, hE⟩ := lt_el hE
                  refine rg_callRV (As := [.int s27.2.2.2, .int ((5 : Int32))]) (rest := []) F (mX6_store l X b x13.2.2.2.2 s27.2.2.2 ((5 : Int32)) r45 er45) (cwV 2 F.1.2.2.2.2 gL_holds_X6_store rfl rfl rfl hvX6_store ⟨Nat.le_of_ble_eq_true rfl, Nat.le_of_ble_eq_true rfl⟩) (rp_recv F hH.1 0 rfl (C := RX6) (T := TX6) (N := 9) rfl rfl) hH.1 rfl hl.1 (Nat.le_of_ble_eq_true rfl) dL_holds_302 ⟨Nat.zero_le _, Nat.zero_le _⟩ rfl ?_
                  refine lv_aload_n hx hb dL_holds_305 rfl (lv_at hl 12 rfl) ?_
                  refine lv_iload hx hb dL_holds_306 (lv_at hl 4 rfl) ?_
                  refine lv_iconst (v := 4) hx hb dL_holds_308 (by decide) ?_
                  obtain ⟨r46, er46, hE⟩ := lt_el hE
                  refine rg_callRV (As := [.int s27.2.2.2, .int ((4 : Int32))]) (rest := [.int r45]) F (mX6_store l X b x13.2.2.2.2 s27.2.2.2 ((4 : Int32)) r46 er46) (cwV 2 F.1.2.2.2.2 gL_holds_X6_store rfl rfl rfl hvX6_store ⟨Nat.le_of_ble_eq_true rfl, Nat.le_of_ble_eq_true rfl⟩) (rp_recv F hH.1 0 rfl (C := RX6) (T := TX6) (N := 9) rfl rfl) hH.1 rfl hl.1 (Nat.le_of_ble_eq_true rfl) dL_holds_309 ⟨Nat.zero_le _, Nat.zero_le _⟩ rfl ?_
                  refine lv_aload_n hx hb dL_holds_312 rfl (lv_at hl 12 rfl) ?_
                  refine lv_iload hx hb dL_holds_313 (lv_at hl 4 rfl) ?_
                  refine lv_iconst (v := 3) hx hb dL_holds_315 (by decide) ?_
                  obtain ⟨r47, er47, hE⟩ := lt_el hE
                  refine rg_callRV (As := [.int s27.2.2.2, .int ((3 : Int32))]) (rest := [.int r46, .int r45]) F (mX6_store l X b x13.2.2.2.2 s27.2.2.2 ((3 : Int32)) r47 er47) (cwV 2 F.1.2.2.2.2 gL_holds_X6_store rfl rfl rfl hvX6_store ⟨Nat.le_of_ble_eq_true rfl, Nat.le_of_ble_eq_true rfl⟩) (rp_recv F hH.1 0 rfl (C := RX6) (T := TX6) (N := 9) rfl rfl) hH.1 rfl hl.1 (Nat.le_of_ble_eq_true rfl) dL_holds_316 ⟨Nat.zero_le _, Nat.zero_le _⟩ rfl ?_
                  refine lv_iadd hx hb dL_holds_319 ?_
                  refine lv_icmp_ne (tgt := 360) hx hb dL_holds_320 (by decide) (fun c48 => ?_) (fun c48 => ?_)
                  · have hE := (if_neg c48).symm.trans hE
                    refine lv_iconst (v := 0) hx hb dL_holds_360 (by decide) ?_
                    cases hE
                    exact K43 ls (lv_sub hl [0, 1, 2, 3, 4, 5, 6, 7, 8, 9, 10, 11, 12] rfl)
                  · have hE := (if_pos c48).symm.trans hE
                    refine lv_iload hx hb dL_holds_323 (lv_at hl 3 rfl) ?_
                    refine lv_aload_n hx hb dL_holds_325 rfl (lv_at hl 12 rfl) ?_
                    refine lv_iload hx hb dL_holds_326 (lv_at hl 4 rfl) ?_
                    refine lv_bipush (v := 7) hx hb dL_holds_328 (by decide) ?_
                    obtain ⟨r49, er49, hE⟩ := lt_el hE
                    refine rg_callRV (As := [.int s27.2.2.2, .int ((7 : Int32))]) (rest := [.int x36.1]) F (mX6_store l X b x13.2.2.2.2 s27.2.2.2 ((7 : Int32)) r49 er49) (cwV 2 F.1.2.2.2.2 gL_holds_X6_store rfl rfl rfl hvX6_store ⟨Nat.le_of_ble_eq_true rfl, Nat.le_of_ble_eq_true rfl⟩) (rp_recv F hH.1 0 rfl (C := RX6) (T := TX6) (N := 9) rfl rfl) hH.1 rfl hl.1 (Nat.le_of_ble_eq_true rfl) dL_holds_330 ⟨Nat.zero_le _, Nat.zero_le _⟩ rfl ?_
                    refine lv_icmp_ne (tgt := 360) hx hb dL_holds_333 (by decide) (fun c50 => ?_) (fun c50 => ?_)
                    · have hE := (if_neg c50).symm.trans hE
                      refine lv_iconst (v := 0) hx hb dL_holds_360 (by decide) ?_
                      cases hE
                      exact K43 ls (lv_sub hl [0, 1, 2, 3, 4, 5, 6, 7, 8, 9, 10, 11, 12] rfl)
                    · have hE := (if_pos c50).symm.trans hE
                      refine lv_aload_n hx hb dL_holds_336 rfl (lv_at hl 12 rfl) ?_
                      refine lv_iload hx hb dL_holds_337 (lv_at hl 4 rfl) ?_
                      refine lv_aload_n hx hb dL_holds_339 rfl (lv_at hl 12 rfl) ?_
                      refine lv_iload hx hb dL_holds_340 (lv_at hl 4 rfl) ?_
                      refine lv_bipush (v := 6) hx hb dL_holds_342 (by decide) ?_
                      obtain ⟨r51, er51, hE⟩ := lt_el hE
                      refine rg_callRV (As := [.int s27.2.2.2, .int ((6 : Int32))]) (rest := [.int s27.2.2.2, .ref b]) F (mX6_store l X b x13.2.2.2.2 s27.2.2.2 ((6 : Int32)) r51 er51) (cwV 2 F.1.2.2.2.2 gL_holds_X6_store rfl rfl rfl hvX6_store ⟨Nat.le_of_ble_eq_true rfl, Nat.le_of_ble_eq_true rfl⟩) (rp_recv F hH.1 0 rfl (C := RX6) (T := TX6) (N := 9) rfl rfl) hH.1 rfl hl.1 (Nat.le_of_ble_eq_true rfl) dL_holds_344 ⟨Nat.zero_le _, Nat.zero_le _⟩ rfl ?_
                      obtain ⟨r52, er52, hE⟩ := lt_el hE
                      refine rg_callRV (As := [.int s27.2.2.2, .int r51]) (rest := []) F (mX6_at l X b x13.2.2.2.2 s27.2.2.2 r51 r52 er52) (cwV 2 F.1.2.2.2.2 gL_holds_X6_at rfl rfl rfl hvX6_at ⟨Nat.le_of_ble_eq_true rfl, Nat.le_of_ble_eq_true rfl⟩) (rp_recv F hH.1 0 rfl (C := RX6) (T := TX6) (N := 9) rfl rfl) hH.1 rfl hl.1 (Nat.le_of_ble_eq_true rfl) dL_holds_347 ⟨Nat.zero_le _, Nat.zero_le _⟩ rfl ?_
                      refine lv_sipush (v := (-1001)) hx hb dL_holds_350 (by decide) ?_
                      refine lv_icmp_ne (tgt := 360) hx hb dL_holds_353 (by decide) (fun c53 => ?_) (fun c53 => ?_)
                      · have hE := (if_neg c53).symm.trans hE
                        refine lv_iconst (v := 0) hx hb dL_holds_360 (by decide) ?_
                        cases hE
                        exact K43 ls (lv_sub hl [0, 1, 2, 3, 4, 5, 6, 7, 8, 9, 10, 11, 12] rfl)
                      · have hE := (if_pos c53).symm.trans hE
                        refine lv_iconst (v := 1) hx hb dL_holds_356 (by decide) ?_
                        refine lv_goto (tgt := 361) hx hb dL_holds_357 (by decide) ?_
                        cases hE
                        exact K43 ls (lv_sub hl [0, 1, 2, 3, 4, 5, 6, 7, 8, 9, 10, 11, 12] rfl)
        · intro ls hl
          refine lv_iload hx hb dL_holds_369 (lv_at hl 1 rfl) ?_
          refine lv_if_eq (tgt := 459) hx hb dL_holds_371 (by decide) (fun c56 => ?_) (fun c56 => ?_)
          · have hE := (if_pos c56).symm.trans hE
            refine lv_iconst (v := 0) hx hb dL_holds_459 (by decide) ?_
            have hE := Option.some.inj hE
            subst hE
            exact W.zret (v := (0 : Int32)) hx hb hr rfl (fun t ht _ => mw_post hH ht) hH.2.1.2.2 dL_holds_460
          · have hE := (if_neg c56).symm.trans hE
            refine lv_iload_n hx hb dL_holds_374 rfl (lv_at hl 8 rfl) ?_
            refine lv_aload_n hx hb dL_holds_375 rfl (lv_at hl 10 rfl) ?_
            refine lv_iconst (v := 2) hx hb dL_holds_376 (by decide) ?_
            obtain ⟨r57, er57, hE⟩ := lt_el hE
            refine rg_callRV (As := [.int ((2 : Int32))]) (rest := [.int x13.1]) F (mX6_count l X b x13.2.2.2.2 ((2 : Int32)) r57 er57) (cwV 1 F.1.2.2.2.2 gL_holds_X6_count rfl rfl rfl hvX6_count ⟨Nat.le_of_ble_eq_true rfl, Nat.le_of_ble_eq_true rfl⟩) (rp_recv F hH.1 0 rfl (C := RX6) (T := TX6) (N := 9) rfl rfl) hH.1 rfl hl.1 (Nat.le_of_ble_eq_true rfl) dL_holds_377 ⟨Nat.zero_le _, Nat.zero_le _⟩ rfl ?_
            refine lv_icmp_ne (tgt := 459) hx hb dL_holds_380 (by decide) (fun c58 => ?_) (fun c58 => ?_)
            · have hE := (if_neg c58).symm.trans hE
              refine lv_iconst (v := 0) hx hb dL_holds_459 (by decide) ?_
              have hE := Option.some.inj hE
              subst hE
              exact W.zret (v := (0 : Int32)) hx hb hr rfl (fun t ht _ => mw_post hH ht) hH.2.1.2.2 dL_holds_460
            · have hE := (if_pos c58).symm.trans hE
              refine lv_iload_n hx hb dL_holds_383 rfl (lv_at hl 8 rfl) ?_
              refine lv_iload hx hb dL_holds_384 (lv_at hl 4 rfl) ?_
              refine lv_icmp_ne (tgt := 459) hx hb dL_holds_386 (by decide) (fun c59 => ?_) (fun c59 => ?_)
              · have hE := (if_neg c59).symm.trans hE
                refine lv_iconst (v := 0) hx hb dL_holds_459 (by decide) ?_
                have hE := Option.some.inj hE
                subst hE
                exact W.zret (v := (0 : Int32)) hx hb hr rfl (fun t ht _ => mw_post hH ht) hH.2.1.2.2 dL_holds_460
              · have hE := (if_pos c59).symm.trans hE
                refine lv_iload hx hb dL_holds_389 (lv_at hl 3 rfl) ?_
                refine lv_aload_n hx hb dL_holds_391 rfl (lv_at hl 10 rfl) ?_
                refine lv_bipush (v := 6) hx hb dL_holds_392 (by decide) ?_
                obtain ⟨r60, er60, hE⟩ := lt_el hE
                refine rg_callRV (As := [.int ((6 : Int32))]) (rest := [.int x26.2.2.1]) F (mX6_count l X b x13.2.2.2.2 ((6 : Int32)) r60 er60) (cwV 1 F.1.2.2.2.2 gL_holds_X6_count rfl rfl rfl hvX6_count ⟨Nat.le_of_ble_eq_true rfl, Nat.le_of_ble_eq_true rfl⟩) (rp_recv F hH.1 0 rfl (C := RX6) (T := TX6) (N := 9) rfl rfl) hH.1 rfl hl.1 (Nat.le_of_ble_eq_true rfl) dL_holds_394 ⟨Nat.zero_le _, Nat.zero_le _⟩ rfl ?_
                refine lv_icmp_ne (tgt := 459) hx hb dL_holds_397 (by decide) (fun c61 => ?_) (fun c61 => ?_)
                · have hE := (if_neg c61).symm.trans hE
                  refine lv_iconst (v := 0) hx hb dL_holds_459 (by decide) ?_
                  have hE := Option.some.inj hE
                  subst hE
                  exact W.zret (v := (0 : Int32)) hx hb hr rfl (fun t ht _ => mw_post hH ht) hH.2.1.2.2 dL_holds_460
                · have hE := (if_pos c61).symm.trans hE
                  refine lv_iload_n hx hb dL_holds_400 rfl (lv_at hl 7 rfl) ?_
                  refine lv_iload hx hb dL_holds_401 (lv_at hl 3 rfl) ?_
                  refine lv_iadd hx hb dL_holds_403 ?_
                  refine lv_aload_n hx hb dL_holds_404 rfl (lv_at hl 10 rfl) ?_
                  refine lv_iconst (v := 5) hx hb dL_holds_405 (by decide) ?_
                  obtain ⟨r62, er62, hE⟩ := lt_el hE
                  refine rg_callRV (As := [.int ((5 : Int32))]) (rest := [.int (x26.1 + x26.2.2.1)]) F (mX6_count l X b x13.2.2.2.2 ((5 : Int32)) r62 er62) (cwV 1 F.1.2.2.2.2 gL_holds_X6_count rfl rfl rfl hvX6_count ⟨Nat.le_of_ble_eq_true rfl, Nat.le_of_ble_eq_true rfl⟩) (rp_recv F hH.1 0 rfl (C := RX6) (T := TX6) (N := 9) rfl rfl) hH.1 rfl hl.1 (Nat.le_of_ble_eq_true rfl) dL_holds_406 ⟨Nat.zero_le _, Nat.zero_le _⟩ rfl ?_
                  refine lv_icmp_ne (tgt := 459) hx hb dL_holds_409 (by decide) (fun c63 => ?_) (fun c63 => ?_)
                  · have hE := (if_neg c63).symm.trans hE
                    refine lv_iconst (v := 0) hx hb dL_holds_459 (by decide) ?_
                    have hE := Option.some.inj hE
                    subst hE
                    exact W.zret (v := (0 : Int32)) hx hb hr rfl (fun t ht _ => mw_post hH ht) hH.2.1.2.2 dL_holds_460
                  · have hE := (if_pos c63).symm.trans hE
                    refine lv_iload hx hb dL_holds_412 (lv_at hl 6 rfl) ?_
                    refine lv_iload hx hb dL_holds_414 (lv_at hl 2 rfl) ?_
                    refine lv_iadd hx hb dL_holds_416 ?_
                    refine lv_iload_n hx hb dL_holds_417 rfl (lv_at hl 9 rfl) ?_
                    refine lv_icmp_ne (tgt := 459) hx hb dL_holds_418 (by decide) (fun c64 => ?_) (fun c64 => ?_)
                    · have hE := (if_neg c64).symm.trans hE
                      refine lv_iconst (v := 0) hx hb dL_holds_459 (by decide) ?_
                      have hE := Option.some.inj hE
                      subst hE
                      exact W.zret (v := (0 : Int32)) hx hb hr rfl (fun t ht _ => mw_post hH ht) hH.2.1.2.2 dL_holds_460
                    · have hE := (if_pos c64).symm.trans hE
                      refine lv_iload hx hb dL_holds_421 (lv_at hl 5 rfl) ?_
                      refine lv_aload_n hx hb dL_holds_423 rfl (lv_at hl 10 rfl) ?_
                      refine lv_iconst (v := 3) hx hb dL_holds_424 (by decide) ?_
                      obtain ⟨r65, er65, hE⟩ := lt_el hE
                      refine rg_callRV (As := [.int ((3 : Int32))]) (rest := [.int x55.2.1]) F (mX6_count l X b x13.2.2.2.2 ((3 : Int32)) r65 er65) (cwV 1 F.1.2.2.2.2 gL_holds_X6_count rfl rfl rfl hvX6_count ⟨Nat.le_of_ble_eq_true rfl, Nat.le_of_ble_eq_true rfl⟩) (rp_recv F hH.1 0 rfl (C := RX6) (T := TX6) (N := 9) rfl rfl) hH.1 rfl hl.1 (Nat.le_of_ble_eq_true rfl) dL_holds_425 ⟨Nat.zero_le _, Nat.zero_le _⟩ rfl ?_
                      refine lv_icmp_ne (tgt := 459) hx hb dL_holds_428 (by decide) (fun c66 => ?_) (fun c66 => ?_)
                      · have hE := (if_neg c66).symm.trans hE
                        refine lv_iconst (v := 0) hx hb dL_holds_459 (by decide) ?_
                        have hE := Option.some.inj hE
                        subst hE
                        exact W.zret (v := (0 : Int32)) hx hb hr rfl (fun t ht _ => mw_post hH ht) hH.2.1.2.2 dL_holds_460
                      · have hE := (if_pos c66).symm.trans hE
                        refine lv_iload hx hb dL_holds_431 (lv_at hl 2 rfl) ?_
                        refine lv_aload_n hx hb dL_holds_433 rfl (lv_at hl 10 rfl) ?_
                        refine lv_iconst (v := 4) hx hb dL_holds_434 (by decide) ?_
                        obtain ⟨r67, er67, hE⟩ := lt_el hE
                        refine rg_callRV (As := [.int ((4 : Int32))]) (rest := [.int x26.2.2.2.1]) F (mX6_count l X b x13.2.2.2.2 ((4 : Int32)) r67 er67) (cwV 1 F.1.2.2.2.2 gL_holds_X6_count rfl rfl rfl hvX6_count ⟨Nat.le_of_ble_eq_true rfl, Nat.le_of_ble_eq_true rfl⟩) (rp_recv F hH.1 0 rfl (C := RX6) (T := TX6) (N := 9) rfl rfl) hH.1 rfl hl.1 (Nat.le_of_ble_eq_true rfl) dL_holds_435 ⟨Nat.zero_le _, Nat.zero_le _⟩ rfl ?_
                        refine lv_icmp_ne (tgt := 459) hx hb dL_holds_438 (by decide) (fun c68 => ?_) (fun c68 => ?_)
                        · have hE := (if_neg c68).symm.trans hE
                          refine lv_iconst (v := 0) hx hb dL_holds_459 (by decide) ?_
                          have hE := Option.some.inj hE
                          subst hE
                          exact W.zret (v := (0 : Int32)) hx hb hr rfl (fun t ht _ => mw_post hH ht) hH.2.1.2.2 dL_holds_460
                        · have hE := (if_pos c68).symm.trans hE
                          refine lv_aload_n hx hb dL_holds_441 rfl (lv_at hl 10 rfl) ?_
                          refine lv_bipush (v := 8) hx hb dL_holds_442 (by decide) ?_
                          obtain ⟨r69, er69, hE⟩ := lt_el hE
                          refine rg_callRV (As := [.int ((8 : Int32))]) (rest := []) F (mX6_count l X b x13.2.2.2.2 ((8 : Int32)) r69 er69) (cwV 1 F.1.2.2.2.2 gL_holds_X6_count rfl rfl rfl hvX6_count ⟨Nat.le_of_ble_eq_true rfl, Nat.le_of_ble_eq_true rfl⟩) (rp_recv F hH.1 0 rfl (C := RX6) (T := TX6) (N := 9) rfl rfl) hH.1 rfl hl.1 (Nat.le_of_ble_eq_true rfl) dL_holds_444 ⟨Nat.zero_le _, Nat.zero_le _⟩ rfl ?_
                          refine lv_aload_n hx hb dL_holds_447 rfl (lv_at hl 10 rfl) ?_
                          refine lv_iconst (v := 0) hx hb dL_holds_448 (by decide) ?_
                          obtain ⟨r70, er70, hE⟩ := lt_el hE
                          refine rg_callRV (As := [.int ((0 : Int32))]) (rest := [.int r69]) F (mX6_count l X b x13.2.2.2.2 ((0 : Int32)) r70 er70) (cwV 1 F.1.2.2.2.2 gL_holds_X6_count rfl rfl rfl hvX6_count ⟨Nat.le_of_ble_eq_true rfl, Nat.le_of_ble_eq_true rfl⟩) (rp_recv F hH.1 0 rfl (C := RX6) (T := TX6) (N := 9) rfl rfl) hH.1 rfl hl.1 (Nat.le_of_ble_eq_true rfl) dL_holds_449 ⟨Nat.zero_le _, Nat.zero_le _⟩ rfl ?_
                          refine lv_icmp_gt (tgt := 459) hx hb dL_holds_452 (by decide) (fun c71 => ?_) (fun c71 => ?_)
                          · have hE := (if_pos c71).symm.trans hE
                            refine lv_iconst (v := 0) hx hb dL_holds_459 (by decide) ?_
                            have hE := Option.some.inj hE
                            subst hE
                            exact W.zret (v := (0 : Int32)) hx hb hr rfl (fun t ht _ => mw_post hH ht) hH.2.1.2.2 dL_holds_460
                          · have hE := (if_neg c71).symm.trans hE
                            refine lv_iconst (v := 1) hx hb dL_holds_455 (by decide) ?_
                            refine lv_goto (tgt := 460) hx hb dL_holds_456 (by decide) ?_
                            have hE := Option.some.inj hE
                            subst hE
                            exact W.zret (v := (1 : Int32)) hx hb hr rfl (fun t ht _ => mw_post hH ht) hH.2.1.2.2 dL_holds_460
  replace hE := hJ9
  clear hJ9
  refine lv_icmp_ne (tgt := 47) hx hb dL_holds_34 (by decide) (fun c72 => ?_) (fun c72 => ?_)
  · have hE := (if_neg c72).symm.trans hE
    refine lv_iconst (v := 0) hx hb dL_holds_47 (by decide) ?_
    cases hE
    exact K4 ls (lv_sub hl [0, 1, 2, 3, 4, 5, 6, 7, 8] rfl)
  · have hE := (if_pos c72).symm.trans hE
    refine lv_iload_n hx hb dL_holds_37 rfl (lv_at hl 7 rfl) ?_
    refine lv_bipush (v := 12) hx hb dL_holds_38 (by decide) ?_
    refine lv_icmp_gt (tgt := 47) hx hb dL_holds_40 (by decide) (fun c73 => ?_) (fun c73 => ?_)
    · have hE := (if_pos c73).symm.trans hE
      refine lv_iconst (v := 0) hx hb dL_holds_47 (by decide) ?_
      cases hE
      exact K4 ls (lv_sub hl [0, 1, 2, 3, 4, 5, 6, 7, 8] rfl)
    · have hE := (if_neg c73).symm.trans hE
      refine lv_iconst (v := 1) hx hb dL_holds_43 (by decide) ?_
      refine lv_goto (tgt := 48) hx hb dL_holds_44 (by decide) ?_
      cases hE
      exact K4 ls (lv_sub hl [0, 1, 2, 3, 4, 5, 6, 7, 8] rfl)
