theorem hvX6_findGapsAhead : yX6_findGapsAhead.cls = RX6 ∧ yX6_findGapsAhead.cls ≠ "java/lang/invoke/MethodHandle" ∧ yX6_findGapsAhead.cls ≠ "java/lang/invoke/VarHandle" ∧ (parseMethodDescriptor yX6_findGapsAhead.desc).map (fun d => d.parameters.length) = some 0 := by decide +kernel
set_option maxRecDepth 20000 in
theorem lkX6_leastSlack_0 : Cond.fieldLink RX6 10 "TideWords" "now" "LTideWords$World;" ∈ wsX6_leastSlack := by decide +kernel
set_option maxRecDepth 20000 in
theorem iwX6_leastSlack_X6 : ∀ w ∈ wsX60, w ∈ wsX6_leastSlack := by decide +kernel
set_option maxRecDepth 20000 in
theorem lkX6_leastSlack_1 : Cond.fieldLink RX6 117 "TideWords$World" "words" "LTideWords$Words;" ∈ wsX6_leastSlack := by decide +kernel
set_option maxRecDepth 20000 in
theorem iwX6_leastSlack_X5 : ∀ w ∈ wsX50, w ∈ wsX6_leastSlack := by decide +kernel
set_option maxRecDepth 20000 in
theorem lkX6_leastSlack_2 : Cond.fieldLink RX6 121 "TideWords$Words" "total" "I" ∈ wsX6_leastSlack := by decide +kernel
set_option maxRecDepth 20000 in
theorem iwX6_leastSlack_X4 : ∀ w ∈ wsX40, w ∈ wsX6_leastSlack := by decide +kernel
set_option maxRecDepth 20000 in
theorem lkX6_leastSlack_3 : Cond.fieldLink RX6 88 "TideWords$World" "gates" "LTideWords$Gates;" ∈ wsX6_leastSlack := by decide +kernel
set_option maxRecDepth 20000 in
theorem lkX6_leastSlack_4 : Cond.fieldLink RX6 136 "TideWords$Gates" "passedWords" "LTideWords$Cells;" ∈ wsX6_leastSlack := by decide +kernel
set_option maxRecDepth 20000 in
theorem iwX6_leastSlack_X1 : ∀ w ∈ wsX10, w ∈ wsX6_leastSlack := by decide +kernel
theorem hvX6_wordsPassingWith : yX6_wordsPassingWith.cls = RX6 ∧ yX6_wordsPassingWith.cls ≠ "java/lang/invoke/MethodHandle" ∧ yX6_wordsPassingWith.cls ≠ "java/lang/invoke/VarHandle" ∧ (parseMethodDescriptor yX6_wordsPassingWith.desc).map (fun d => d.parameters.length) = some 2 := by decide +kernel
theorem hvX6_hasGapAhead : yX6_hasGapAhead.cls = RX6 ∧ yX6_hasGapAhead.cls ≠ "java/lang/invoke/MethodHandle" ∧ yX6_hasGapAhead.cls ≠ "java/lang/invoke/VarHandle" ∧ (parseMethodDescriptor yX6_hasGapAhead.desc).map (fun d => d.parameters.length) = some 1 := by decide +kernel
def lbX6_leastSlack_67 (a1 : Int32) (U5 : Mem) (r6 : Int32) (s8 : Int32 × Int32 × Int32 × Mem) : Option ((Int32 × Int32 × Int32 × Mem) ⊕ (Int32 × Int32 × Int32 × Mem)) := if (99 : Int32) < s8.2.2.1 then some (.inr (s8.1, s8.2.1, s8.2.2.1, s8.2.2.2)) else if (U5 28 0) - r6 ≤ s8.2.1 then some (.inr (s8.1, s8.2.1, s8.2.2.1, s8.2.2.2)) else lt (fX6_hasGapAhead s8.2.2.2 s8.2.2.1) (fun r11 => if r11 = 0 then if s8.2.1 ≤ s8.2.1 then some (.inl (s8.1, s8.2.1, s8.2.2.1 + 1, s8.2.2.2)) else some (.inl (s8.2.2.1, s8.2.1, s8.2.2.1 + 1, s8.2.2.2)) else lt (fX6_wordsPassingWith s8.2.2.2 a1 s8.2.2.1) (fun U14 => if U14.1 ≤ s8.2.1 then some (.inl (s8.1, s8.2.1, s8.2.2.1 + 1, U14.2)) else some (.inl (s8.2.2.1, U14.1, s8.2.2.1 + 1, U14.2))))
def qX6_leastSlack (V : Mem) (a1 : Int32) (a2 : Int32) : Option (Int32 × Mem) := lt (fX6_isGate a1) (fun r1 => if r1 = 0 then some (((-1001 : Int32), V)) else lt (fX6_isWithin a2 ((0 : Int32)) ((1 : Int32))) (fun r3 => if r3 = 0 then some (((-1002 : Int32), V)) else lt (fX6_findGapsAhead V ) (fun U5 => lt (csum 4 (U5 25)) (fun r6 => lt (fX6_wordsPassingWith U5 a1 ((0 : Int32))) (fun U7 => (it (lbX6_leastSlack_67 a1 U5 r6) fuel ((0 : Int32), U7.1, (1 : Int32), U7.2)).bind (fun s16 => if a2 = 0 then some ((s16.1, s16.2.2.2)) else some ((s16.2.1, s16.2.2.2))))))))
abbrev rmX6_leastSlack : Room := { frames := 6, cells := 0, slots := 0, locals := 146 }
set_option maxHeartbeats 4000000 in
set_option maxRecDepth 100000 in
theorem mX6_leastSlack (l : Launch) (X : kX) (b : Nat) (V : Mem) (a1 : Int32) (a2 : Int32) (out : Int32 × Mem) (hE : qX6_leastSlack V a1 a2 = some out) : MW l yX6_leastSlack wsX6_leastSlack rmX6_leastSlack X [.ref b, .int a1, .int a2] (RP X LA b V) (some (.int out.1)) b (b + LA.length) (RP X LA b out.2) := by
  refine mt_head (cc := cX6_leastSlack) (maxL := 8) (ret := (some .int)) (own := RX6) (by decide) rfl rfl (Nat.le_of_ble_eq_true rfl) ?_
  intro p e s m below meth c ls F hr hlocks hnm hR hl
  have hx := F.1.1
  have hb := F.1.2.1
  have hH : Hp (t_fr b (b + LA.length)) s.heap s.heap.size X LA b V s.heap [] := ⟨hR, va_S.rf, rfl⟩
  have hl : lv_has ls 8 [(0, .ref b), (1, .int a1), (2, .int a2)] := hl
  unfold qX6_leastSlack at hE
  refine lv_iload_n hx hb dX6_leastSlack_0 rfl (lv_at hl 1 rfl) ?_
  obtain ⟨r1, er1, hE⟩ := lt_el hE
  refine rg_callRS (As := [.int a1]) (rest := []) F (mX6_isGate l X a1 r1 er1) (va_cwS 1 F.1.2.2.2.2 gX6_leastSlack_X6_isGate rfl rfl rfl hsX6_isGate ⟨Nat.le_of_ble_eq_true rfl, Nat.le_of_ble_eq_true rfl⟩)  trivial rfl hl.1 (Nat.le_of_ble_eq_true rfl) dX6_leastSlack_1 ⟨Nat.zero_le _, Nat.zero_le _⟩ rfl ?_
  refine lv_if_ne (tgt := 11) hx hb dX6_leastSlack_4 (by decide) (fun c2 => ?_) (fun c2 => ?_)
  · have hE := (if_neg c2).symm.trans hE
    refine lv_iload_n hx hb dX6_leastSlack_11 rfl (lv_at hl 2 rfl) ?_
    refine lv_iconst (v := 0) hx hb dX6_leastSlack_12 (by decide) ?_
    refine lv_iconst (v := 1) hx hb dX6_leastSlack_13 (by decide) ?_
    obtain ⟨r3, er3, hE⟩ := lt_el hE
    refine rg_callRS (As := [.int a2, .int ((0 : Int32)), .int ((1 : Int32))]) (rest := []) F (mX6_isWithin l X a2 ((0 : Int32)) ((1 : Int32)) r3 er3) (va_cwS 3 F.1.2.2.2.2 gX6_leastSlack_X6_isWithin rfl rfl rfl hsX6_isWithin ⟨Nat.le_of_ble_eq_true rfl, Nat.le_of_ble_eq_true rfl⟩)  trivial rfl hl.1 (Nat.le_of_ble_eq_true rfl) dX6_leastSlack_14 ⟨Nat.zero_le _, Nat.zero_le _⟩ rfl ?_
    refine lv_if_ne (tgt := 24) hx hb dX6_leastSlack_17 (by decide) (fun c4 => ?_) (fun c4 => ?_)
    · have hE := (if_neg c4).symm.trans hE
      refine lv_aload_n hx hb dX6_leastSlack_24 rfl (lv_at hl 0 rfl) ?_
      obtain ⟨U5, eU5, hE⟩ := lt_el hE
      refine rg_callWS (As := []) (rest := []) F hH (fun q h1 h2 => ⟨h1, h2⟩) (kX6_findGapsAhead l X b V  U5 eU5) (cwV 0 F.1.2.2.2.2 gX6_leastSlack_X6_findGapsAhead rfl rfl rfl hvX6_findGapsAhead ⟨Nat.le_of_ble_eq_true rfl, Nat.le_of_ble_eq_true rfl⟩) (rp_recv F hH.1 0 rfl (C := RX6) (T := TX6) (N := 9) rfl rfl) hH.1 rfl hl.1 (Nat.le_of_ble_eq_true rfl) dX6_leastSlack_25 ⟨Nat.zero_le _, Nat.zero_le _⟩ rfl (fun H locs hH => ?_)
      refine lv_aload_n hx hb dX6_leastSlack_28 rfl (lv_at hl 0 rfl) ?_
      refine rg_getr F hH.1 0 (ci := 6) rfl (C := RX6) (T := TX6) (N := 9) rfl iwX6_leastSlack_X6 0 (d := 1) (n := 1) rfl rfl (by decide) rfl lkX6_leastSlack_0 rfl dX6_leastSlack_29 ?_
      refine rg_getr F hH.1 1 (ci := 5) rfl (C := RX5) (T := TX5) (N := 6) rfl iwX6_leastSlack_X5 2 (d := 27) (n := 28) rfl rfl (by decide) rfl lkX6_leastSlack_1 rfl dX6_leastSlack_32 ?_
      refine rg_geti F hH.1 28 (ci := 4) rfl (C := RX4) (T := TX4) (N := 8) rfl iwX6_leastSlack_X4 7 (i := 0) rfl (by decide) rfl lkX6_leastSlack_2 rfl dX6_leastSlack_35 ?_
      refine lv_aload_n hx hb dX6_leastSlack_38 rfl (lv_at hl 0 rfl) ?_
      refine rg_getr F hH.1 0 (ci := 6) rfl (C := RX6) (T := TX6) (N := 9) rfl iwX6_leastSlack_X6 0 (d := 1) (n := 1) rfl rfl (by decide) rfl lkX6_leastSlack_0 rfl dX6_leastSlack_39 ?_
      refine rg_getr F hH.1 1 (ci := 5) rfl (C := RX5) (T := TX5) (N := 6) rfl iwX6_leastSlack_X5 1 (d := 10) (n := 11) rfl rfl (by decide) rfl lkX6_leastSlack_3 rfl dX6_leastSlack_42 ?_
      refine rg_getr F hH.1 11 (ci := 1) rfl (C := RX1) (T := TX1) (N := 8) rfl iwX6_leastSlack_X1 6 (d := 13) (n := 24) rfl rfl (by decide) rfl lkX6_leastSlack_4 rfl dX6_leastSlack_45 ?_
      obtain ⟨r6, er6, hE⟩ := lt_el hE
      refine rg_callRV (As := []) (rest := [.int (U5 28 0)]) F (kX0_sum l X 4 (by decide) (b + 24) (gv U5 24)  r6 er6) (cwV 0 F.1.2.2.2.2 gX6_leastSlack_X0_sum rfl rfl rfl hvX0_sum ⟨Nat.le_of_ble_eq_true rfl, Nat.le_of_ble_eq_true rfl⟩) (rp_recv F hH.1 24 rfl (C := RX0) (T := TX0) (N := 1) rfl rfl) (hH.1.sub 24 sb_LA_24_LC4) rfl hl.1 (Nat.le_of_ble_eq_true rfl) dX6_leastSlack_48 ⟨Nat.zero_le _, Nat.zero_le _⟩ rfl ?_
      refine lv_isub hx hb dX6_leastSlack_51 ?_
      refine lv_istore_n (lv' := [(3, .int ((U5 28 0) - r6)), (0, .ref b), (1, .int a1), (2, .int a2)]) hx hb dX6_leastSlack_52 rfl hl (by decide) rfl (fun ls hl => ?_)
      refine lv_iconst (v := 0) hx hb dX6_leastSlack_53 (by decide) ?_
      refine lv_istore (lv' := [(4, .int ((0 : Int32))), (3, .int ((U5 28 0) - r6)), (0, .ref b), (1, .int a1), (2, .int a2)]) hx hb dX6_leastSlack_54 hl (by decide) rfl (fun ls hl => ?_)
      refine lv_aload_n hx hb dX6_leastSlack_56 rfl (lv_at hl 2 rfl) ?_
      refine lv_iload_n hx hb dX6_leastSlack_57 rfl (lv_at hl 3 rfl) ?_
      refine lv_iconst (v := 0) hx hb dX6_leastSlack_58 (by decide) ?_
      obtain ⟨U7, eU7, hE⟩ := lt_el hE
      refine rg_callWS (As := [.int a1, .int ((0 : Int32))]) (rest := []) F hH (fun q h1 h2 => ⟨h1, h2⟩) (kX6_wordsPassingWith l X b U5 a1 ((0 : Int32)) U7 eU7) (cwV 2 F.1.2.2.2.2 gX6_leastSlack_X6_wordsPassingWith rfl rfl rfl hvX6_wordsPassingWith ⟨Nat.le_of_ble_eq_true rfl, Nat.le_of_ble_eq_true rfl⟩) (rp_recv F hH.1 0 rfl (C := RX6) (T := TX6) (N := 9) rfl rfl) hH.1 rfl hl.1 (Nat.le_of_ble_eq_true rfl) dX6_leastSlack_59 ⟨Nat.zero_le _, Nat.zero_le _⟩ rfl (fun H locs hH => ?_)
      refine lv_istore (lv' := [(5, .int U7.1), (4, .int ((0 : Int32))), (3, .int ((U5 28 0) - r6)), (0, .ref b), (1, .int a1), (2, .int a2)]) hx hb dX6_leastSlack_62 hl (by decide) rfl (fun ls hl => ?_)
      refine lv_iconst (v := 1) hx hb dX6_leastSlack_64 (by decide) ?_
      refine lv_istore (lv' := [(6, .int ((1 : Int32))), (5, .int U7.1), (4, .int ((0 : Int32))), (3, .int ((U5 28 0) - r6)), (0, .ref b), (1, .int a1), (2, .int a2)]) hx hb dX6_leastSlack_65 hl (by decide) rfl (fun ls hl => ?_)
      obtain ⟨x17, hx17, hE⟩ := bd_el hE
      refine it_walk2 (body := lbX6_leastSlack_67 a1 U5 r6) (Wh := fun s8 => ∀ (H : Heap) (locs : List Loc) (ls : Array Slot), Hp (t_fr b (b + LA.length)) s.heap s.heap.size X LA b s8.2.2.2 H locs → lv_has ls 8 [(6, .int s8.2.2.1), (5, .int s8.2.1), (4, .int s8.1), (3, .int ((U5 28 0) - r6)), (0, .ref b), (1, .int a1), (2, .int a2)] → W p l e rmX6_leastSlack s m ([.ref b, .int a1, .int a2] : List Value).toArray below meth c H locs 0 0 (MQ below (cQw (some (.int out.1)) b (b + LA.length) (RP X LA b out.2)) ([.ref b, .int a1, .int a2] : List Value).toArray s 0 0 (t_fr b (b + LA.length))) (F0 m 67 ls [])) (We := fun s16 => ∀ (H : Heap) (locs : List Loc) (ls : Array Slot), Hp (t_fr b (b + LA.length)) s.heap s.heap.size X LA b s16.2.2.2 H locs → lv_has ls 8 [(6, .int s16.2.2.1), (5, .int s16.2.1), (4, .int s16.1), (3, .int ((U5 28 0) - r6)), (0, .ref b), (1, .int a1), (2, .int a2)] → W p l e rmX6_leastSlack s m ([.ref b, .int a1, .int a2] : List Value).toArray below meth c H locs 0 0 (MQ below (cQw (some (.int out.1)) b (b + LA.length) (RP X LA b out.2)) ([.ref b, .int a1, .int a2] : List Value).toArray s 0 0 (t_fr b (b + LA.length))) (F0 m 124 ls [])) ?_ _ _ _ hx17 ?_ H locs ls hH (lv_sub hl [0, 1, 2, 3, 4, 5, 6] rfl)
      · intro s8 r9 hE hL9 hR9 H locs ls hH hl
        unfold lbX6_leastSlack_67 at hE
        refine lv_iload hx hb dX6_leastSlack_67 (lv_at hl 0 rfl) ?_
        refine lv_bipush (v := 99) hx hb dX6_leastSlack_69 (by decide) ?_
        refine lv_icmp_gt (tgt := 124) hx hb dX6_leastSlack_71 (by decide) (fun c9 => ?_) (fun c9 => ?_)
        · have hE := (if_pos c9).symm.trans hE
          cases hE
          exact hR9 _ rfl H locs ls hH (lv_sub hl [0, 1, 2, 3, 4, 5, 6] rfl)
        · have hE := (if_neg c9).symm.trans hE
          refine lv_iload hx hb dX6_leastSlack_74 (lv_at hl 1 rfl) ?_
          refine lv_iload_n hx hb dX6_leastSlack_76 rfl (lv_at hl 3 rfl) ?_
          refine lv_icmp_ge (tgt := 124) hx hb dX6_leastSlack_77 (by decide) (fun c10 => ?_) (fun c10 => ?_)
          · have hE := (if_pos c10).symm.trans hE
            cases hE
            exact hR9 _ rfl H locs ls hH (lv_sub hl [0, 1, 2, 3, 4, 5, 6] rfl)
          · have hE := (if_neg c10).symm.trans hE
            refine lv_aload_n hx hb dX6_leastSlack_80 rfl (lv_at hl 4 rfl) ?_
            refine lv_iload hx hb dX6_leastSlack_81 (lv_at hl 0 rfl) ?_
            obtain ⟨r11, er11, hE⟩ := lt_el hE
            refine rg_callRV (As := [.int s8.2.2.1]) (rest := []) F (kX6_hasGapAhead l X b s8.2.2.2 s8.2.2.1 r11 er11) (cwV 1 F.1.2.2.2.2 gX6_leastSlack_X6_hasGapAhead rfl rfl rfl hvX6_hasGapAhead ⟨Nat.le_of_ble_eq_true rfl, Nat.le_of_ble_eq_true rfl⟩) (rp_recv F hH.1 0 rfl (C := RX6) (T := TX6) (N := 9) rfl rfl) hH.1 rfl hl.1 (Nat.le_of_ble_eq_true rfl) dX6_leastSlack_83 ⟨Nat.zero_le _, Nat.zero_le _⟩ rfl ?_
            refine lv_if_eq (tgt := 99) hx hb dX6_leastSlack_86 (by decide) (fun c12 => ?_) (fun c12 => ?_)
            · have hE := (if_pos c12).symm.trans hE
              refine lv_iload hx hb dX6_leastSlack_99 (lv_at hl 1 rfl) ?_
              refine lv_istore (lv' := [(7, .int s8.2.1), (6, .int s8.2.2.1), (5, .int s8.2.1), (4, .int s8.1), (3, .int ((U5 28 0) - r6)), (0, .ref b), (1, .int a1), (2, .int a2)]) hx hb dX6_leastSlack_101 hl (by decide) rfl (fun ls hl => ?_)
              refine lv_iload hx hb dX6_leastSlack_103 (lv_at hl 0 rfl) ?_
              refine lv_iload hx hb dX6_leastSlack_105 (lv_at hl 2 rfl) ?_
              refine lv_icmp_le (tgt := 118) hx hb dX6_leastSlack_107 (by decide) (fun c13 => ?_) (fun c13 => ?_)
              · have hE := (if_pos c13).symm.trans hE
                refine lv_iinc (v := s8.2.2.1 + 1) (lv' := [(6, .int (s8.2.2.1 + 1)), (7, .int s8.2.1), (5, .int s8.2.1), (4, .int s8.1), (3, .int ((U5 28 0) - r6)), (0, .ref b), (1, .int a1), (2, .int a2)]) hx hb dX6_leastSlack_118 hl (k := 1) rfl (congrArg (fun q => s8.2.2.1 + q) (by decide)) (by decide) rfl (fun ls hl => ?_)
                refine lv_goto (tgt := 67) hx hb dX6_leastSlack_121 (by decide) ?_
                cases hE
                exact hL9 _ rfl H locs ls hH (lv_sub hl [0, 2, 3, 4, 5, 6, 7] rfl)
              · have hE := (if_neg c13).symm.trans hE
                refine lv_iload hx hb dX6_leastSlack_110 (lv_at hl 1 rfl) ?_
                refine lv_istore (lv' := [(4, .int s8.2.2.1), (7, .int s8.2.1), (6, .int s8.2.2.1), (5, .int s8.2.1), (3, .int ((U5 28 0) - r6)), (0, .ref b), (1, .int a1), (2, .int a2)]) hx hb dX6_leastSlack_112 hl (by decide) rfl (fun ls hl => ?_)
                refine lv_iload hx hb dX6_leastSlack_114 (lv_at hl 1 rfl) ?_
                refine lv_istore (lv' := [(5, .int s8.2.1), (4, .int s8.2.2.1), (7, .int s8.2.1), (6, .int s8.2.2.1), (3, .int ((U5 28 0) - r6)), (0, .ref b), (1, .int a1), (2, .int a2)]) hx hb dX6_leastSlack_116 hl (by decide) rfl (fun ls hl => ?_)
                refine lv_iinc (v := s8.2.2.1 + 1) (lv' := [(6, .int (s8.2.2.1 + 1)), (5, .int s8.2.1), (4, .int s8.2.2.1), (7, .int s8.2.1), (3, .int ((U5 28 0) - r6)), (0, .ref b), (1, .int a1), (2, .int a2)]) hx hb dX6_leastSlack_118 hl (k := 3) rfl (congrArg (fun q => s8.2.2.1 + q) (by decide)) (by decide) rfl (fun ls hl => ?_)
                refine lv_goto (tgt := 67) hx hb dX6_leastSlack_121 (by decide) ?_
                cases hE
                exact hL9 _ rfl H locs ls hH (lv_sub hl [0, 1, 2, 4, 5, 6, 7] rfl)
            · have hE := (if_neg c12).symm.trans hE
              refine lv_aload_n hx hb dX6_leastSlack_89 rfl (lv_at hl 4 rfl) ?_
              refine lv_iload_n hx hb dX6_leastSlack_90 rfl (lv_at hl 5 rfl) ?_
              refine lv_iload hx hb dX6_leastSlack_91 (lv_at hl 0 rfl) ?_
              obtain ⟨U14, eU14, hE⟩ := lt_el hE
              refine rg_callWS (As := [.int a1, .int s8.2.2.1]) (rest := []) F hH (fun q h1 h2 => ⟨h1, h2⟩) (kX6_wordsPassingWith l X b s8.2.2.2 a1 s8.2.2.1 U14 eU14) (cwV 2 F.1.2.2.2.2 gX6_leastSlack_X6_wordsPassingWith rfl rfl rfl hvX6_wordsPassingWith ⟨Nat.le_of_ble_eq_true rfl, Nat.le_of_ble_eq_true rfl⟩) (rp_recv F hH.1 0 rfl (C := RX6) (T := TX6) (N := 9) rfl rfl) hH.1 rfl hl.1 (Nat.le_of_ble_eq_true rfl) dX6_leastSlack_93 ⟨Nat.zero_le _, Nat.zero_le _⟩ rfl (fun H locs hH => ?_)
              refine lv_goto (tgt := 101) hx hb dX6_leastSlack_96 (by decide) ?_
              refine lv_istore (lv' := [(7, .int U14.1), (6, .int s8.2.2.1), (5, .int s8.2.1), (4, .int s8.1), (3, .int ((U5 28 0) - r6)), (0, .ref b), (1, .int a1), (2, .int a2)]) hx hb dX6_leastSlack_101 hl (by decide) rfl (fun ls hl => ?_)
              refine lv_iload hx hb dX6_leastSlack_103 (lv_at hl 0 rfl) ?_
              refine lv_iload hx hb dX6_leastSlack_105 (lv_at hl 2 rfl) ?_
              refine lv_icmp_le (tgt := 118) hx hb dX6_leastSlack_107 (by decide) (fun c15 => ?_) (fun c15 => ?_)
              · have hE := (if_pos c15).symm.trans hE
                refine lv_iinc (v := s8.2.2.1 + 1) (lv' := [(6, .int (s8.2.2.1 + 1)), (7, .int U14.1), (5, .int s8.2.1), (4, .int s8.1), (3, .int ((U5 28 0) - r6)), (0, .ref b), (1, .int a1), (2, .int a2)]) hx hb dX6_leastSlack_118 hl (k := 1) rfl (congrArg (fun q => s8.2.2.1 + q) (by decide)) (by decide) rfl (fun ls hl => ?_)
                refine lv_goto (tgt := 67) hx hb dX6_leastSlack_121 (by decide) ?_
                cases hE
                exact hL9 _ rfl H locs ls hH (lv_sub hl [0, 2, 3, 4, 5, 6, 7] rfl)
              · have hE := (if_neg c15).symm.trans hE
                refine lv_iload hx hb dX6_leastSlack_110 (lv_at hl 1 rfl) ?_
                refine lv_istore (lv' := [(4, .int s8.2.2.1), (7, .int U14.1), (6, .int s8.2.2.1), (5, .int s8.2.1), (3, .int ((U5 28 0) - r6)), (0, .ref b), (1, .int a1), (2, .int a2)]) hx hb dX6_leastSlack_112 hl (by decide) rfl (fun ls hl => ?_)
                refine lv_iload hx hb dX6_leastSlack_114 (lv_at hl 1 rfl) ?_
                refine lv_istore (lv' := [(5, .int U14.1), (4, .int s8.2.2.1), (7, .int U14.1), (6, .int s8.2.2.1), (3, .int ((U5 28 0) - r6)), (0, .ref b), (1, .int a1), (2, .int a2)]) hx hb dX6_leastSlack_116 hl (by decide) rfl (fun ls hl => ?_)
                refine lv_iinc (v := s8.2.2.1 + 1) (lv' := [(6, .int (s8.2.2.1 + 1)), (5, .int U14.1), (4, .int s8.2.2.1), (7, .int U14.1), (3, .int ((U5 28 0) - r6)), (0, .ref b), (1, .int a1), (2, .int a2)]) hx hb dX6_leastSlack_118 hl (k := 3) rfl (congrArg (fun q => s8.2.2.1 + q) (by decide)) (by decide) rfl (fun ls hl => ?_)
                refine lv_goto (tgt := 67) hx hb dX6_leastSlack_121 (by decide) ?_
                cases hE
                exact hL9 _ rfl H locs ls hH (lv_sub hl [0, 1, 2, 4, 5, 6, 7] rfl)
      · intro H locs ls hH hl
        refine lv_iload_n hx hb dX6_leastSlack_124 rfl (lv_at hl 6 rfl) ?_
        refine lv_if_ne (tgt := 133) hx hb dX6_leastSlack_125 (by decide) (fun c18 => ?_) (fun c18 => ?_)
        · have hE := (if_neg c18).symm.trans hE
          refine lv_iload hx hb dX6_leastSlack_133 (lv_at hl 1 rfl) ?_
          have hE := Option.some.inj hE
          subst hE
          exact W.iret (v := x17.2.1) hx hb hr (fun t ht _ => mw_post hH ht) hH.2.1.2.2 dX6_leastSlack_135
        · have hE := (if_pos c18).symm.trans hE
          refine lv_iload hx hb dX6_leastSlack_128 (lv_at hl 2 rfl) ?_
          refine lv_goto (tgt := 135) hx hb dX6_leastSlack_130 (by decide) ?_
          have hE := Option.some.inj hE
          subst hE
          exact W.iret (v := x17.1) hx hb hr (fun t ht _ => mw_post hH ht) hH.2.1.2.2 dX6_leastSlack_135
    · have hE := (if_pos c4).symm.trans hE
      refine lv_sipush (v := (-1002)) hx hb dX6_leastSlack_20 (by decide) ?_
      have hE := Option.some.inj hE
      subst hE
      exact W.iret (v := (-1002 : Int32)) hx hb hr (fun t ht _ => mw_post hH ht) hH.2.1.2.2 dX6_leastSlack_23
  · have hE := (if_pos c2).symm.trans hE
    refine lv_sipush (v := (-1001)) hx hb dX6_leastSlack_7 (by decide) ?_
    have hE := Option.some.inj hE
    subst hE
    exact W.iret (v := (-1001 : Int32)) hx hb hr (fun t ht _ => mw_post hH ht) hH.2.1.2.2 dX6_leastSlack_10
theorem hvX6_openStepsWith : yX6_openStepsWith.cls = RX6 ∧ yX6_openStepsWith.cls ≠ "java/lang/invoke/MethodHandle" ∧ yX6_openStepsWith.cls ≠ "java/lang/invoke/VarHandle" ∧ (parseMethodDescriptor yX6_openStepsWith.desc).map (fun d => d.parameters.length) = some 3 := by decide +kernel
def lbX6_bestLie_36 (a1 : Int32) (a2 : Int32) (U5 : Mem) (s7 : Int32 × Int32 × Int32) : Option ((Int32 × Int32 × Int32) ⊕ (Int32 × Int32 × Int32)) := if (100 : Int32) < s7.2.2 then some (.inr (s7.1, s7.2.1, s7.2.2)) else if s7.2.2 &&& ((1 : Int32)) = (1 : Int32) then lt (fX6_openStepsWith U5 a1 a2 ((-(s7.2.2 + ((1 : Int32)))) / ((2 : Int32)))) (fun r12 => if r12 ≤ s7.2.1 then some (.inl (s7.1, s7.2.1, s7.2.2 + 1)) else some (.inl ((-(s7.2.2 + ((1 : Int32)))) / ((2 : Int32)), r12, s7.2.2 + 1))) else lt (fX6_openStepsWith U5 a1 a2 (s7.2.2 / ((2 : Int32)))) (fun r10 => if r10 ≤ s7.2.1 then some (.inl (s7.1, s7.2.1, s7.2.2 + 1)) else some (.inl (s7.2.2 / ((2 : Int32)), r10, s7.2.2 + 1)))
def qX6_bestLie (V : Mem) (a1 : Int32) (a2 : Int32) : Option (Int32 × Mem) := lt (fX6_isStore a1) (fun r1 => if r1 = 0 then some (((-1001 : Int32), V)) else lt (fX6_isGate a2) (fun r3 => if r3 = 0 then some (((-1001 : Int32), V)) else lt (fX6_findGapsAhead V ) (fun U5 => lt (fX6_openStepsWith U5 a1 a2 ((0 : Int32))) (fun r6 => (it (lbX6_bestLie_36 a1 a2 U5) fuel ((0 : Int32), r6, (1 : Int32))).bind (fun s14 => some ((s14.1, U5)))))))
abbrev rmX6_bestLie : Room := { frames := 5, cells := 0, slots := 0, locals := 113 }
set_option maxHeartbeats 4000000 in
set_option maxRecDepth 100000 in
theorem mX6_bestLie (l : Launch) (X : kX) (b : Nat) (V : Mem) (a1 : Int32) (a2 : Int32) (out : Int32 × Mem) (hE : qX6_bestLie V a1 a2 = some out) : MW l yX6_bestLie wsX6_bestLie rmX6_bestLie X [.ref b, .int a1, .int a2] (RP X LA b V) (some (.int out.1)) b (b + LA.length) (RP X LA b out.2) := by
  refine mt_head (cc := cX6_bestLie) (maxL := 8) (ret := (some .int)) (own := RX6) (by decide) rfl rfl (Nat.le_of_ble_eq_true rfl) ?_
  intro p e s m below meth c ls F hr hlocks hnm hR hl
  have hx := F.1.1
  have hb := F.1.2.1
  have hH : Hp (t_fr b (b + LA.length)) s.heap s.heap.size X LA b V s.heap [] := ⟨hR, va_S.rf, rfl⟩
  have hl : lv_has ls 8 [(0, .ref b), (1, .int a1), (2, .int a2)] := hl
  unfold qX6_bestLie at hE
  refine lv_iload_n hx hb dX6_bestLie_0 rfl (lv_at hl 1 rfl) ?_
  obtain ⟨r1, er1, hE⟩ := lt_el hE
  refine rg_callRS (As := [.int a1]) (rest := []) F (mX6_isStore l X a1 r1 er1) (va_cwS 1 F.1.2.2.2.2 gX6_bestLie_X6_isStore rfl rfl rfl hsX6_isStore ⟨Nat.le_of_ble_eq_true rfl, Nat.le_of_ble_eq_true rfl⟩)  trivial rfl hl.1 (Nat.le_of_ble_eq_true rfl) dX6_bestLie_1 ⟨Nat.zero_le _, Nat.zero_le _⟩ rfl ?_
  refine lv_if_eq (tgt := 14) hx hb dX6_bestLie_4 (by decide) (fun c2 => ?_) (fun c2 => ?_)
  · have hE := (if_pos c2).symm.trans hE
    refine lv_sipush (v := (-1001)) hx hb dX6_bestLie_14 (by decide) ?_
    have hE := Option.some.inj hE
    subst hE
    exact W.iret (v := (-1001 : Int32)) hx hb hr (fun t ht _ => mw_post hH ht) hH.2.1.2.2 dX6_bestLie_17
  · have hE := (if_neg c2).symm.trans hE
    refine lv_iload_n hx hb dX6_bestLie_7 rfl (lv_at hl 2 rfl) ?_
    obtain ⟨r3, er3, hE⟩ := lt_el hE
    refine rg_callRS (As := [.int a2]) (rest := []) F (mX6_isGate l X a2 r3 er3) (va_cwS 1 F.1.2.2.2.2 gX6_bestLie_X6_isGate rfl rfl rfl hsX6_isGate ⟨Nat.le_of_ble_eq_true rfl, Nat.le_of_ble_eq_true rfl⟩)  trivial rfl hl.1 (Nat.le_of_ble_eq_true rfl) dX6_bestLie_8 ⟨Nat.zero_le _, Nat.zero_le _⟩ rfl ?_
    refine lv_if_ne (tgt := 18) hx hb dX6_bestLie_11 (by decide) (fun c4 => ?_) (fun c4 => ?_)
    · have hE := (if_neg c4).symm.trans hE
      refine lv_aload_n hx hb dX6_bestLie_18 rfl (lv_at hl 0 rfl) ?_
      obtain ⟨U5, eU5, hE⟩ := lt_el hE
      refine rg_callWS (As := []) (rest := []) F hH (fun q h1 h2 => ⟨h1, h2⟩) (kX6_findGapsAhead l X b V  U5 eU5) (cwV 0 F.1.2.2.2.2 gX6_bestLie_X6_findGapsAhead rfl rfl rfl hvX6_findGapsAhead ⟨Nat.le_of_ble_eq_true rfl, Nat.le_of_ble_eq_true rfl⟩) (rp_recv F hH.1 0 rfl (C := RX6) (T := TX6) (N := 9) rfl rfl) hH.1 rfl hl.1 (Nat.le_of_ble_eq_true rfl) dX6_bestLie_19 ⟨Nat.zero_le _, Nat.zero_le _⟩ rfl (fun H locs hH => ?_)
      refine lv_iconst (v := 0) hx hb dX6_bestLie_22 (by decide) ?_
      refine lv_istore_n (lv' := [(3, .int ((0 : Int32))), (0, .ref b), (1, .int a1), (2, .int a2)]) hx hb dX6_bestLie_23 rfl hl (by decide) rfl (fun ls hl => ?_)
      refine lv_aload_n hx hb dX6_bestLie_24 rfl (lv_at hl 1 rfl) ?_
      refine lv_iload_n hx hb dX6_bestLie_25 rfl (lv_at hl 2 rfl) ?_
      refine lv_iload_n hx hb dX6_bestLie_26 rfl (lv_at hl 3 rfl) ?_
      refine lv_iconst (v := 0) hx hb dX6_bestLie_27 (by decide) ?_
      obtain ⟨r6, er6, hE⟩ := lt_el hE
      refine rg_callRV (As := [.int a1, .int a2, .int ((0 : Int32))]) (rest := []) F (kX6_openStepsWith l X b U5 a1 a2 ((0 : Int32)) r6 er6) (cwV 3 F.1.2.2.2.2 gX6_bestLie_X6_openStepsWith rfl rfl rfl hvX6_openStepsWith ⟨Nat.le_of_ble_eq_true rfl, Nat.le_of_ble_eq_true rfl⟩) (rp_recv F hH.1 0 rfl (C := RX6) (T := TX6) (N := 9) rfl rfl) hH.1 rfl hl.1 (Nat.le_of_ble_eq_true rfl) dX6_bestLie_28 ⟨Nat.zero_le _, Nat.zero_le _⟩ rfl ?_
      refine lv_istore (lv' := [(4, .int r6), (3, .int ((0 : Int32))), (0, .ref b), (1, .int a1), (2, .int a2)]) hx hb dX6_bestLie_31 hl (by decide) rfl (fun ls hl => ?_)
      refine lv_iconst (v := 1) hx hb dX6_bestLie_33 (by decide) ?_
      refine lv_istore (lv' := [(5, .int ((1 : Int32))), (4, .int r6), (3, .int ((0 : Int32))), (0, .ref b), (1, .int a1), (2, .int a2)]) hx hb dX6_bestLie_34 hl (by decide) rfl (fun ls hl => ?_)
      obtain ⟨x15, hx15, hE⟩ := bd_el hE
      refine it_walk2 (body := lbX6_bestLie_36 a1 a2 U5) (Wh := fun s7 => ∀ (ls : Array Slot), lv_has ls 8 [(5, .int s7.2.2), (4, .int s7.2.1), (3, .int s7.1), (0, .ref b), (1, .int a1), (2, .int a2)] → W p l e rmX6_bestLie s m ([.ref b, .int a1, .int a2] : List Value).toArray below meth c H locs 0 0 (MQ below (cQw (some (.int out.1)) b (b + LA.length) (RP X LA b out.2)) ([.ref b, .int a1, .int a2] : List Value).toArray s 0 0 (t_fr b (b + LA.length))) (F0 m 36 ls [])) (We := fun s14 => ∀ (ls : Array Slot), lv_has ls 8 [(5, .int s14.2.2), (4, .int s14.2.1), (3, .int s14.1), (0, .ref b), (1, .int a1), (2, .int a2)] → W p l e rmX6_bestLie s m ([.ref b, .int a1, .int a2] : List Value).toArray below meth c H locs 0 0 (MQ below (cQw (some (.int out.1)) b (b + LA.length) (RP X LA b out.2)) ([.ref b, .int a1, .int a2] : List Value).toArray s 0 0 (t_fr b (b + LA.length))) (F0 m 97 ls [])) ?_ _ _ _ hx15 ?_ ls (lv_sub hl [0, 1, 2, 3, 4, 5] rfl)
      · intro s7 r9 hE hL9 hR9 ls hl
        unfold lbX6_bestLie_36 at hE
        refine lv_iload hx hb dX6_bestLie_36 (lv_at hl 0 rfl) ?_
        refine lv_bipush (v := 100) hx hb dX6_bestLie_38 (by decide) ?_
        refine lv_icmp_gt (tgt := 97) hx hb dX6_bestLie_40 (by decide) (fun c8 => ?_) (fun c8 => ?_)
        · have hE := (if_pos c8).symm.trans hE
          cases hE
          exact hR9 _ rfl ls (lv_sub hl [0, 1, 2, 3, 4, 5] rfl)
        · have hE := (if_neg c8).symm.trans hE
          refine lv_iload hx hb dX6_bestLie_43 (lv_at hl 0 rfl) ?_
          refine lv_iconst (v := 1) hx hb dX6_bestLie_45 (by decide) ?_
          refine lv_iand hx hb dX6_bestLie_46 ?_
          refine lv_iconst (v := 1) hx hb dX6_bestLie_47 (by decide) ?_
          refine lv_icmp_ne (tgt := 61) hx hb dX6_bestLie_48 (by decide) (fun c9 => ?_) (fun c9 => ?_)
          · have hE := (if_neg c9).symm.trans hE
            refine lv_iload hx hb dX6_bestLie_61 (lv_at hl 0 rfl) ?_
            refine lv_iconst (v := 2) hx hb dX6_bestLie_63 (by decide) ?_
            refine lv_idiv hx hb dX6_bestLie_64 (by decide) ?_
            refine lv_istore (lv' := [(6, .int (s7.2.2 / ((2 : Int32)))), (5, .int s7.2.2), (4, .int s7.2.1), (3, .int s7.1), (0, .ref b), (1, .int a1), (2, .int a2)]) hx hb dX6_bestLie_65 hl (by decide) rfl (fun ls hl => ?_)
            refine lv_aload_n hx hb dX6_bestLie_67 rfl (lv_at hl 4 rfl) ?_
            refine lv_iload_n hx hb dX6_bestLie_68 rfl (lv_at hl 5 rfl) ?_
            refine lv_iload_n hx hb dX6_bestLie_69 rfl (lv_at hl 6 rfl) ?_
            refine lv_iload hx hb dX6_bestLie_70 (lv_at hl 0 rfl) ?_
            obtain ⟨r10, er10, hE⟩ := lt_el hE
            refine rg_callRV (As := [.int a1, .int a2, .int (s7.2.2 / ((2 : Int32)))]) (rest := []) F (kX6_openStepsWith l X b U5 a1 a2 (s7.2.2 / ((2 : Int32))) r10 er10) (cwV 3 F.1.2.2.2.2 gX6_bestLie_X6_openStepsWith rfl rfl rfl hvX6_openStepsWith ⟨Nat.le_of_ble_eq_true rfl, Nat.le_of_ble_eq_true rfl⟩) (rp_recv F hH.1 0 rfl (C := RX6) (T := TX6) (N := 9) rfl rfl) hH.1 rfl hl.1 (Nat.le_of_ble_eq_true rfl) dX6_bestLie_72 ⟨Nat.zero_le _, Nat.zero_le _⟩ rfl ?_
            refine lv_istore (lv' := [(7, .int r10), (6, .int (s7.2.2 / ((2 : Int32)))), (5, .int s7.2.2), (4, .int s7.2.1), (3, .int s7.1), (0, .ref b), (1, .int a1), (2, .int a2)]) hx hb dX6_bestLie_75 hl (by decide) rfl (fun ls hl => ?_)
            refine lv_iload hx hb dX6_bestLie_77 (lv_at hl 0 rfl) ?_
            refine lv_iload hx hb dX6_bestLie_79 (lv_at hl 3 rfl) ?_
            refine lv_icmp_le (tgt := 91) hx hb dX6_bestLie_81 (by decide) (fun c11 => ?_) (fun c11 => ?_)
            · have hE := (if_pos c11).symm.trans hE
              refine lv_iinc (v := s7.2.2 + 1) (lv' := [(5, .int (s7.2.2 + 1)), (7, .int r10), (6, .int (s7.2.2 / ((2 : Int32)))), (4, .int s7.2.1), (3, .int s7.1), (0, .ref b), (1, .int a1), (2, .int a2)]) hx hb dX6_bestLie_91 hl (k := 2) rfl (congrArg (fun q => s7.2.2 + q) (by decide)) (by decide) rfl (fun ls hl => ?_)
              refine lv_goto (tgt := 36) hx hb dX6_bestLie_94 (by decide) ?_
              cases hE
              exact hL9 _ rfl ls (lv_sub hl [0, 3, 4, 5, 6, 7] rfl)
            · have hE := (if_neg c11).symm.trans hE
              refine lv_iload hx hb dX6_bestLie_84 (lv_at hl 1 rfl) ?_
              refine lv_istore_n (lv' := [(3, .int (s7.2.2 / ((2 : Int32)))), (7, .int r10), (6, .int (s7.2.2 / ((2 : Int32)))), (5, .int s7.2.2), (4, .int s7.2.1), (0, .ref b), (1, .int a1), (2, .int a2)]) hx hb dX6_bestLie_86 rfl hl (by decide) rfl (fun ls hl => ?_)
              refine lv_iload hx hb dX6_bestLie_87 (lv_at hl 1 rfl) ?_
              refine lv_istore (lv' := [(4, .int r10), (3, .int (s7.2.2 / ((2 : Int32)))), (7, .int r10), (6, .int (s7.2.2 / ((2 : Int32)))), (5, .int s7.2.2), (0, .ref b), (1, .int a1), (2, .int a2)]) hx hb dX6_bestLie_89 hl (by decide) rfl (fun ls hl => ?_)
              refine lv_iinc (v := s7.2.2 + 1) (lv' := [(5, .int (s7.2.2 + 1)), (4, .int r10), (3, .int (s7.2.2 / ((2 : Int32)))), (7, .int r10), (6, .int (s7.2.2 / ((2 : Int32)))), (0, .ref b), (1, .int a1), (2, .int a2)]) hx hb dX6_bestLie_91 hl (k := 4) rfl (congrArg (fun q => s7.2.2 + q) (by decide)) (by decide) rfl (fun ls hl => ?_)
              refine lv_goto (tgt := 36) hx hb dX6_bestLie_94 (by decide) ?_
              cases hE
              exact hL9 _ rfl ls (lv_sub hl [0, 1, 2, 5, 6, 7] rfl)
          · have hE := (if_pos c9).symm.trans hE
            refine lv_iload hx hb dX6_bestLie_51 (lv_at hl 0 rfl) ?_
            refine lv_iconst (v := 1) hx hb dX6_bestLie_53 (by decide) ?_
            refine lv_iadd hx hb dX6_bestLie_54 ?_
            refine lv_ineg hx hb dX6_bestLie_55 ?_
            refine lv_iconst (v := 2) hx hb dX6_bestLie_56 (by decide) ?_
            refine lv_idiv hx hb dX6_bestLie_57 (by decide) ?_
            refine lv_goto (tgt := 65) hx hb dX6_bestLie_58 (by decide) ?_
            refine lv_istore (lv' := [(6, .int ((-(s7.2.2 + ((1 : Int32)))) / ((2 : Int32)))), (5, .int s7.2.2), (4, .int s7.2.1), (3, .int s7.1), (0, .ref b), (1, .int a1), (2, .int a2)]) hx hb dX6_bestLie_65 hl (by decide) rfl (fun ls hl => ?_)
            refine lv_aload_n hx hb dX6_bestLie_67 rfl (lv_at hl 4 rfl) ?_
            refine lv_iload_n hx hb dX6_bestLie_68 rfl (lv_at hl 5 rfl) ?_
            refine lv_iload_n hx hb dX6_bestLie_69 rfl (lv_at hl 6 rfl) ?_
            refine lv_iload hx hb dX6_bestLie_70 (lv_at hl 0 rfl) ?_
            obtain ⟨r12, er12, hE⟩ := lt_el hE
            refine rg_callRV (As := [.int a1, .int a2, .int ((-(s7.2.2 + ((1 : Int32)))) / ((2 : Int32)))]) (rest := []) F (kX6_openStepsWith l X b U5 a1 a2 ((-(s7.2.2 + ((1 : Int32)))) / ((2 : Int32))) r12 er12) (cwV 3 F.1.2.2.2.2 gX6_bestLie_X6_openStepsWith rfl rfl rfl hvX6_openStepsWith ⟨Nat.le_of_ble_eq_true rfl, Nat.le_of_ble_eq_true rfl⟩) (rp_recv F hH.1 0 rfl (C := RX6) (T := TX6) (N := 9) rfl rfl) hH.1 rfl hl.1 (Nat.le_of_ble_eq_true rfl) dX6_bestLie_72 ⟨Nat.zero_le _, Nat.zero_le _⟩ rfl ?_
            refine lv_istore (lv' := [(7, .int r12), (6, .int ((-(s7.2.2 + ((1 : Int32)))) / ((2 : Int32)))), (5, .int s7.2.2), (4, .int s7.2.1), (3, .int s7.1), (0, .ref b), (1, .int a1), (2, .int a2)]) hx hb dX6_bestLie_75 hl (by decide) rfl (fun ls hl => ?_)
            refine lv_iload hx hb dX6_bestLie_77 (lv_at hl 0 rfl) ?_
            refine lv_iload hx hb dX6_bestLie_79 (lv_at hl 3 rfl) ?_
            refine lv_icmp_le (tgt := 91) hx hb dX6_bestLie_81 (by decide) (fun c13 => ?_) (fun c13 => ?_)
            · have hE := (if_pos c13).symm.trans hE
              refine lv_iinc (v := s7.2.2 + 1) (lv' := [(5, .int (s7.2.2 + 1)), (7, .int r12), (6, .int ((-(s7.2.2 + ((1 : Int32)))) / ((2 : Int32)))), (4, .int s7.2.1), (3, .int s7.1), (0, .ref b), (1, .int a1), (2, .int a2)]) hx hb dX6_bestLie_91 hl (k := 2) rfl (congrArg (fun q => s7.2.2 + q) (by decide)) (by decide) rfl (fun ls hl => ?_)
              refine lv_goto (tgt := 36) hx hb dX6_bestLie_94 (by decide) ?_
              cases hE
              exact hL9 _ rfl ls (lv_sub hl [0, 3, 4, 5, 6, 7] rfl)
            · have hE := (if_neg c13).symm.trans hE
              refine lv_iload hx hb dX6_bestLie_84 (lv_at hl 1 rfl) ?_
              refine lv_istore_n (lv' := [(3, .int ((-(s7.2.2 + ((1 : Int32)))) / ((2 : Int32)))), (7, .int r12), (6, .int ((-(s7.2.2 + ((1 : Int32)))) / ((2 : Int32)))), (5, .int s7.2.2), (4, .int s7.2.1), (0, .ref b), (1, .int a1), (2, .int a2)]) hx hb dX6_bestLie_86 rfl hl (by decide) rfl (fun ls hl => ?_)
              refine lv_iload hx hb dX6_bestLie_87 (lv_at hl 1 rfl) ?_
              refine lv_istore (lv' := [(4, .int r12), (3, .int ((-(s7.2.2 + ((1 : Int32)))) / ((2 : Int32)))), (7, .int r12), (6, .int ((-(s7.2.2 + ((1 : Int32)))) / ((2 : Int32)))), (5, .int s7.2.2), (0, .ref b), (1, .int a1), (2, .int a2)]) hx hb dX6_bestLie_89 hl (by decide) rfl (fun ls hl => ?_)
              refine lv_iinc (v := s7.2.2 + 1) (lv' := [(5, .int (s7.2.2 + 1)), (4, .int r12), (3, .int ((-(s7.2.2 + ((1 : Int32)))) / ((2 : Int32)))), (7, .int r12), (6, .int ((-(s7.2.2 + ((1 : Int32)))) / ((2 : Int32)))), (0, .ref b), (1, .int a1), (2, .int a2)]) hx hb dX6_bestLie_91 hl (k := 4) rfl (congrArg (fun q => s7.2.2 + q) (by decide)) (by decide) rfl (fun ls hl => ?_)
              refine lv_goto (tgt := 36) hx hb dX6_bestLie_94 (by decide) ?_
              cases hE
              exact hL9 _ rfl ls (lv_sub hl [0, 1, 2, 5, 6, 7] rfl)
      · intro ls hl
        refine lv_iload_n hx hb dX6_bestLie_97 rfl (lv_at hl 2 rfl) ?_
        have hE := Option.some.inj hE
        subst hE
        exact W.iret (v := x15.1) hx hb hr (fun t ht _ => mw_post hH ht) hH.2.1.2.2 dX6_bestLie_98
    · have hE := (if_pos c4).symm.trans hE
      refine lv_sipush (v := (-1001)) hx hb dX6_bestLie_14 (by decide) ?_
      have hE := Option.some.inj hE
      subst hE
      exact W.iret (v := (-1001 : Int32)) hx hb hr (fun t ht _ => mw_post hH ht) hH.2.1.2.2 dX6_bestLie_17
set_option maxRecDepth 20000 in
theorem lkX6_untilPassed_0 : Cond.fieldLink RX6 16 "TideWords" "trial" "LTideWords$World;" ∈ wsX6_untilPassed := by decide +kernel
set_option maxRecDepth 20000 in
theorem iwX6_untilPassed_X6 : ∀ w ∈ wsX60, w ∈ wsX6_untilPassed := by decide +kernel
set_option maxRecDepth 20000 in
theorem lkX6_untilPassed_1 : Cond.fieldLink RX6 10 "TideWords" "now" "LTideWords$World;" ∈ wsX6_untilPassed := by decide +kernel
set_option maxRecDepth 20000 in
theorem lkX6_untilPassed_2 : Cond.fieldLink RX6 117 "TideWords$World" "words" "LTideWords$Words;" ∈ wsX6_untilPassed := by decide +kernel
set_option maxRecDepth 20000 in
theorem iwX6_untilPassed_X5 : ∀ w ∈ wsX50, w ∈ wsX6_untilPassed := by decide +kernel
theorem hvX5_makeSteps : yX5_makeSteps.cls = RX5 ∧ yX5_makeSteps.cls ≠ "java/lang/invoke/MethodHandle" ∧ yX5_makeSteps.cls ≠ "java/lang/invoke/VarHandle" ∧ (parseMethodDescriptor yX5_makeSteps.desc).map (fun d => d.parameters.length) = some 1 := by decide +kernel
def lbX6_untilPassed_25 (a1 : Int32) (s4 : Int32 × Mem) : Option ((Int32 × Mem) ⊕ ((Int32 × Mem) ⊕ (Int32 × Mem))) := if (1000 : Int32) < s4.1 then some (.inr (.inr (s4.1, s4.2))) else lt (fX4_hasPassed (gv s4.2 43) a1) (fun r6 => if r6 = 0 then lt (fX5_makeSteps (gv s4.2 43) ((1 : Int32))) (fun U8 => lt (pv s4.2 43 42 U8) (fun V9 => some (.inl (s4.1 + 1, V9)))) else some (.inr (.inl ((s4.1, s4.2)))))
def qX6_untilPassed (V : Mem) (a1 : Int32) : Option (Int32 × Mem) := lt (fX6_isWord V a1) (fun r1 => if r1 = 0 then some (((-1001 : Int32), V)) else lt (pv V 43 42 (gv V 1)) (fun V3 => (it (lbX6_untilPassed_25 a1) fuel ((0 : Int32), V3)).bind (fun x11 => Sum.elim (fun r0 => some r0) (fun s10 => some (((-1006 : Int32), s10.2))) x11)))
abbrev rmX6_untilPassed : Room := { frames := 6, cells := 0, slots := 0, locals := 137 }
set_option maxHeartbeats 4000000 in
set_option maxRecDepth 100000 in
theorem mX6_untilPassed (l : Launch) (X : kX) (b : Nat) (V : Mem) (a1 : Int32) (out : Int32 × Mem) (hE : qX6_untilPassed V a1 = some out) : MW l yX6_untilPassed wsX6_untilPassed rmX6_untilPassed X [.ref b, .int a1] (RP X LA b V) (some (.int out.1)) b (b + LA.length) (RP X LA b out.2) := by
  refine mt_head (cc := cX6_untilPassed) (maxL := 3) (ret := (some .int)) (own := RX6) (by decide) rfl rfl (Nat.le_of_ble_eq_true rfl) ?_
  intro p e s m below meth c ls F hr hlocks hnm hR hl
  have hx := F.1.1
  have hb := F.1.2.1
  have hH : Hp (t_fr b (b + LA.length)) s.heap s.heap.size X LA b V s.heap [] := ⟨hR, va_S.rf, rfl⟩
  have hl : lv_has ls 3 [(0, .ref b), (1, .int a1)] := hl
  unfold qX6_untilPassed at hE
  refine lv_aload_n hx hb dX6_untilPassed_0 rfl (lv_at hl 0 rfl) ?_
  refine lv_iload_n hx hb dX6_untilPassed_1 rfl (lv_at hl 1 rfl) ?_
  obtain ⟨r1, er1, hE⟩ := lt_el hE
  refine rg_callRV (As := [.int a1]) (rest := []) F (mX6_isWord l X b V a1 r1 er1) (cwV 1 F.1.2.2.2.2 gX6_untilPassed_X6_isWord rfl rfl rfl hvX6_isWord ⟨Nat.le_of_ble_eq_true rfl, Nat.le_of_ble_eq_true rfl⟩) (rp_recv F hH.1 0 rfl (C := RX6) (T := TX6) (N := 9) rfl rfl) hH.1 rfl hl.1 (Nat.le_of_ble_eq_true rfl) dX6_untilPassed_2 ⟨Nat.zero_le _, Nat.zero_le _⟩ rfl ?_
  refine lv_if_ne (tgt := 12) hx hb dX6_untilPassed_5 (by decide) (fun c2 => ?_) (fun c2 => ?_)
  · have hE := (if_neg c2).symm.trans hE
    refine lv_aload_n hx hb dX6_untilPassed_12 rfl (lv_at hl 0 rfl) ?_
    refine rg_getr F hH.1 0 (ci := 6) rfl (C := RX6) (T := TX6) (N := 9) rfl iwX6_untilPassed_X6 1 (d := 43) (n := 43) rfl rfl (by decide) rfl lkX6_untilPassed_0 rfl dX6_untilPassed_13 ?_
    refine lv_aload_n hx hb dX6_untilPassed_16 rfl (lv_at hl 0 rfl) ?_
    refine rg_getr F hH.1 0 (ci := 6) rfl (C := RX6) (T := TX6) (N := 9) rfl iwX6_untilPassed_X6 0 (d := 1) (n := 1) rfl rfl (by decide) rfl lkX6_untilPassed_1 rfl dX6_untilPassed_17 ?_
    obtain ⟨V3, eV3, hE⟩ := lt_el hE
    refine rg_callWV (As := [.ref (b + 1)]) (rest := []) (P := fun H => RP X LW (b + 43) (gv V 43) H ∧ RP X LW (b + 1) (gv V 1) H) F hH (fun q h1 h2 => ⟨h1, h2⟩) 43 sb_LA_43_LW (mX5_copyFrom l X (b + 43) (b + 1) (gv V 43) (gv V 1) (by omega)) (cwV 1 F.1.2.2.2.2 gX6_untilPassed_X5_copyFrom rfl rfl rfl hvX5_copyFrom ⟨Nat.le_of_ble_eq_true rfl, Nat.le_of_ble_eq_true rfl⟩) (rp_recv F hH.1 43 rfl (C := RX5) (T := TX5) (N := 6) rfl rfl) ⟨hH.1.sub 43 sb_LA_43_LW, hH.1.sub 1 sb_LA_1_LW⟩ rfl hl.1 (Nat.le_of_ble_eq_true rfl) dX6_untilPassed_20 ⟨Nat.zero_le _, Nat.zero_le _⟩ rfl eV3 (fun H locs hH hfr => ?_)
    refine lv_iconst (v := 0) hx hb dX6_untilPassed_23 (by decide) ?_
    refine lv_istore_n (lv' := [(2, .int ((0 : Int32))), (0, .ref b), (1, .int a1)]) hx hb dX6_untilPassed_24 rfl hl (by decide) rfl (fun ls hl => ?_)
    obtain ⟨x11, hx11, hE⟩ := bd_el hE
    refine it_walk2 (body := lbX6_untilPassed_25 a1) (Wh := fun s4 => ∀ (H : Heap) (locs : List Loc) (ls : Array Slot), Hp (t_fr b (b + LA.length)) s.heap s.heap.size X LA b s4.2 H locs → lv_has ls 3 [(2, .int s4.1), (0, .ref b), (1, .int a1)] → W p l e rmX6_untilPassed s m ([.ref b, .int a1] : List Value).toArray below meth c H locs 0 0 (MQ below (cQw (some (.int out.1)) b (b + LA.length) (RP X LA b out.2)) ([.ref b, .int a1] : List Value).toArray s 0 0 (t_fr b (b + LA.length))) (F0 m 25 ls [])) (We := fun x11 => (∀ r0, x11 = .inl r0 → r0 = out) ∧ (∀ s10, x11 = .inr s10 → ∀ (H : Heap) (locs : List Loc) (ls : Array Slot), Hp (t_fr b (b + LA.length)) s.heap s.heap.size X LA b s10.2 H locs → lv_has ls 3 [(2, .int s10.1), (0, .ref b), (1, .int a1)] → W p l e rmX6_untilPassed s m ([.ref b, .int a1] : List Value).toArray below meth c H locs 0 0 (MQ below (cQw (some (.int out.1)) b (b + LA.length) (RP X LA b out.2)) ([.ref b, .int a1] : List Value).toArray s 0 0 (t_fr b (b + LA.length))) (F0 m 62 ls []))) ?_ _ _ _ hx11 ?_ H locs ls hH (lv_sub hl [0, 1, 2] rfl)
    · intro s4 r9 hE hL9 hR9 H locs ls hH hl
      unfold lbX6_untilPassed_25 at hE
      refine lv_iload_n hx hb dX6_untilPassed_25 rfl (lv_at hl 0 rfl) ?_
      refine lv_sipush (v := 1000) hx hb dX6_untilPassed_26 (by decide) ?_
      refine lv_icmp_gt (tgt := 62) hx hb dX6_untilPassed_29 (by decide) (fun c5 => ?_) (fun c5 => ?_)
      · have hE := (if_pos c5).symm.trans hE
        cases hE
        exact (hR9 _ rfl).2 _ rfl H locs ls hH (lv_sub hl [0, 1, 2] rfl)
      · have hE := (if_neg c5).symm.trans hE
        refine lv_aload_n hx hb dX6_untilPassed_32 rfl (lv_at hl 1 rfl) ?_
        refine rg_getr F hH.1 0 (ci := 6) rfl (C := RX6) (T := TX6) (N := 9) rfl iwX6_untilPassed_X6 1 (d := 43) (n := 43) rfl rfl (by decide) rfl lkX6_untilPassed_0 rfl dX6_untilPassed_33 ?_
        refine rg_getr F hH.1 43 (ci := 5) rfl (C := RX5) (T := TX5) (N := 6) rfl iwX6_untilPassed_X5 2 (d := 27) (n := 70) rfl rfl (by decide) rfl lkX6_untilPassed_2 rfl dX6_untilPassed_36 ?_
        refine lv_iload_n hx hb dX6_untilPassed_39 rfl (lv_at hl 2 rfl) ?_
        obtain ⟨r6, er6, hE⟩ := lt_el hE
        refine rg_callRV (As := [.int a1]) (rest := []) F (mX4_hasPassed l X (b + 43) (gv s4.2 43) a1 r6 er6) (cwV 1 F.1.2.2.2.2 gX6_untilPassed_X4_hasPassed rfl rfl rfl hvX4_hasPassed ⟨Nat.le_of_ble_eq_true rfl, Nat.le_of_ble_eq_true rfl⟩) (rp_recv F hH.1 70 rfl (C := RX4) (T := TX4) (N := 8) rfl rfl) (hH.1.sub 43 sb_LA_43_LW) rfl hl.1 (Nat.le_of_ble_eq_true rfl) dX6_untilPassed_40 ⟨Nat.zero_le _, Nat.zero_le _⟩ rfl ?_
        refine lv_if_eq (tgt := 48) hx hb dX6_untilPassed_43 (by decide) (fun c7 => ?_) (fun c7 => ?_)
        · have hE := (if_pos c7).symm.trans hE
          refine lv_aload_n hx hb dX6_untilPassed_48 rfl (lv_at hl 1 rfl) ?_
          refine rg_getr F hH.1 0 (ci := 6) rfl (C := RX6) (T := TX6) (N := 9) rfl iwX6_untilPassed_X6 1 (d := 43) (n := 43) rfl rfl (by decide) rfl lkX6_untilPassed_0 rfl dX6_untilPassed_49 ?_
          refine lv_iconst (v := 1) hx hb dX6_untilPassed_52 (by decide) ?_
          obtain ⟨U8, eU8, hE⟩ := lt_el hE
          obtain ⟨V9, eV9, hE⟩ := lt_el hE
          refine rg_callWV (As := [.int ((1 : Int32))]) (rest := []) F hH (fun q h1 h2 => ⟨h1, h2⟩) 43 sb_LA_43_LW (kX5_makeSteps l X (b + 43) (gv s4.2 43) ((1 : Int32)) U8 eU8) (cwV 1 F.1.2.2.2.2 gX6_untilPassed_X5_makeSteps rfl rfl rfl hvX5_makeSteps ⟨Nat.le_of_ble_eq_true rfl, Nat.le_of_ble_eq_true rfl⟩) (rp_recv F hH.1 43 rfl (C := RX5) (T := TX5) (N := 6) rfl rfl) (hH.1.sub 43 sb_LA_43_LW) rfl hl.1 (Nat.le_of_ble_eq_true rfl) dX6_untilPassed_53 ⟨Nat.zero_le _, Nat.zero_le _⟩ rfl eV9 (fun H locs hH hfr => ?_)
          refine lv_iinc (v := s4.1 + 1) (lv' := [(2, .int (s4.1 + 1)), (0, .ref b), (1, .int a1)]) hx hb dX6_untilPassed_56 hl (k := 0) rfl (congrArg (fun q => s4.1 + q) (by decide)) (by decide) rfl (fun ls hl => ?_)
          refine lv_goto (tgt := 25) hx hb dX6_untilPassed_59 (by decide) ?_
          cases hE
          exact hL9 _ rfl H locs ls hH (lv_sub hl [0, 1, 2] rfl)
        · have hE := (if_neg c7).symm.trans hE
          refine lv_iload_n hx hb dX6_untilPassed_46 rfl (lv_at hl 0 rfl) ?_
          cases hE
          have hE := (hR9 _ rfl).1 _ rfl
          subst hE
          exact W.iret (v := s4.1) hx hb hr (fun t ht _ => mw_post hH ht) hH.2.1.2.2 dX6_untilPassed_47
    · refine ⟨fun r0 h9 => ?_, fun s10 h9 => ?_⟩
      · subst h9
        exact Option.some.inj hE
      · subst h9
        have hE := sel_r hE
        intro H locs ls hH hl
        refine lv_sipush (v := (-1006)) hx hb dX6_untilPassed_62 (by decide) ?_
        have hE := Option.some.inj hE
        subst hE
        exact W.iret (v := (-1006 : Int32)) hx hb hr (fun t ht _ => mw_post hH ht) hH.2.1.2.2 dX6_untilPassed_65
  · have hE := (if_pos c2).symm.trans hE
    refine lv_sipush (v := (-1001)) hx hb dX6_untilPassed_8 (by decide) ?_
    have hE := Option.some.inj hE
    subst hE
    exact W.iret (v := (-1001 : Int32)) hx hb hr (fun t ht _ => mw_post hH ht) hH.2.1.2.2 dX6_untilPassed_11
set_option maxRecDepth 20000 in
theorem lkX6_ifRun_0 : Cond.fieldLink RX6 16 "TideWords" "trial" "LTideWords$World;" ∈ wsX6_ifRun := by decide +kernel
set_option maxRecDepth 20000 in
theorem iwX6_ifRun_X6 : ∀ w ∈ wsX60, w ∈ wsX6_ifRun := by decide +kernel
set_option maxRecDepth 20000 in
theorem lkX6_ifRun_1 : Cond.fieldLink RX6 10 "TideWords" "now" "LTideWords$World;" ∈ wsX6_ifRun := by decide +kernel
theorem hvX5_tally : yX5_tally.cls = RX5 ∧ yX5_tally.cls ≠ "java/lang/invoke/MethodHandle" ∧ yX5_tally.cls ≠ "java/lang/invoke/VarHandle" ∧ (parseMethodDescriptor yX5_tally.desc).map (fun d => d.parameters.length) = some 1 := by decide +kernel
def fX6_ifRun (V : Mem) (a1 : Int32) (a2 : Int32) : Int32 × Mem := lt (fX6_isWithin a1 ((1 : Int32)) ((1000 : Int32))) (fun r1 => if r1 = 0 then ((-1002 : Int32), V) else lt (fX6_isWithin a2 ((0 : Int32)) ((3 : Int32))) (fun r3 => if r3 = 0 then ((-1002 : Int32), V) else lt (pv V 43 42 (gv V 1)) (fun V5 => lt (fX5_makeSteps (gv V5 43) a1) (fun U6 => lt (pv V5 43 42 U6) (fun V7 => lt (fX5_tally (gv V7 43) a2) (fun r8 => lt (fX5_tally (gv V7 1) a2) (fun r9 => (r8 - r9, V7))))))))
abbrev rmX6_ifRun : Room := { frames := 6, cells := 0, slots := 0, locals := 137 }
set_option maxHeartbeats 4000000 in
set_option maxRecDepth 100000 in
theorem mX6_ifRun (l : Launch) (X : kX) (b : Nat) (V : Mem) (a1 : Int32) (a2 : Int32) (out : Int32 × Mem) (hE : fX6_ifRun V a1 a2 = out) : MW l yX6_ifRun wsX6_ifRun rmX6_ifRun X [.ref b, .int a1, .int a2] (RP X LA b V) (some (.int out.1)) b (b + LA.length) (RP X LA b out.2) := by
  refine mt_head (cc := cX6_ifRun) (maxL := 3) (ret := (some .int)) (own := RX6) (by decide) rfl rfl (Nat.le_of_ble_eq_true rfl) ?_
  intro p e s m below meth c ls F hr hlocks hnm hR hl
  have hx := F.1.1
  have hb := F.1.2.1
  have hH : Hp (t_fr b (b + LA.length)) s.heap s.heap.size X LA b V s.heap [] := ⟨hR, va_S.rf, rfl⟩
  have hl : lv_has ls 3 [(0, .ref b), (1, .int a1), (2, .int a2)] := hl
  unfold fX6_ifRun at hE
  refine lv_iload_n hx hb dX6_ifRun_0 rfl (lv_at hl 1 rfl) ?_
  refine lv_iconst (v := 1) hx hb dX6_ifRun_1 (by decide) ?_
  refine lv_sipush (v := 1000) hx hb dX6_ifRun_2 (by decide) ?_
  obtain ⟨r1, er1, hE⟩ := lt_el hE
  refine rg_callRS (As := [.int a1, .int ((1 : Int32)), .int ((1000 : Int32))]) (rest := []) F (mX6_isWithin l X a1 ((1 : Int32)) ((1000 : Int32)) r1 er1) (va_cwS 3 F.1.2.2.2.2 gX6_ifRun_X6_isWithin rfl rfl rfl hsX6_isWithin ⟨Nat.le_of_ble_eq_true rfl, Nat.le_of_ble_eq_true rfl⟩)  trivial rfl hl.1 (Nat.le_of_ble_eq_true rfl) dX6_ifRun_5 ⟨Nat.zero_le _, Nat.zero_le _⟩ rfl ?_
  refine lv_if_eq (tgt := 20) hx hb dX6_ifRun_8 (by decide) (fun c2 => ?_) (fun c2 => ?_)
  · have hE := (if_pos c2).symm.trans hE
    refine lv_sipush (v := (-1002)) hx hb dX6_ifRun_20 (by decide) ?_
    subst hE
    exact W.iret (v := (-1002 : Int32)) hx hb hr (fun t ht _ => mw_post hH ht) hH.2.1.2.2 dX6_ifRun_23
  · have hE := (if_neg c2).symm.trans hE
    refine lv_iload_n hx hb dX6_ifRun_11 rfl (lv_at hl 2 rfl) ?_
    refine lv_iconst (v := 0) hx hb dX6_ifRun_12 (by decide) ?_
    refine lv_iconst (v := 3) hx hb dX6_ifRun_13 (by decide) ?_
    obtain ⟨r3, er3, hE⟩ := lt_el hE
    refine rg_callRS (As := [.int a2, .int ((0 : Int32)), .int ((3 : Int32))]) (rest := []) F (mX6_isWithin l X a2 ((0 : Int32)) ((3 : Int32)) r3 er3) (va_cwS 3 F.1.2.2.2.2 gX6_ifRun_X6_isWithin rfl rfl rfl hsX6_isWithin ⟨Nat.le_of_ble_eq_true rfl, Nat.le_of_ble_eq_true rfl⟩)  trivial rfl hl.1 (Nat.le_of_ble_eq_true rfl) dX6_ifRun_14 ⟨Nat.zero_le _, Nat.zero_le _⟩ rfl ?_
    refine lv_if_ne (tgt := 24) hx hb dX6_ifRun_17 (by decide) (fun c4 => ?_) (fun c4 => ?_)
    · have hE := (if_neg c4).symm.trans hE
      refine lv_aload_n hx hb dX6_ifRun_24 rfl (lv_at hl 0 rfl) ?_
      refine rg_getr F hH.1 0 (ci := 6) rfl (C := RX6) (T := TX6) (N := 9) rfl iwX6_ifRun_X6 1 (d := 43) (n := 43) rfl rfl (by decide) rfl lkX6_ifRun_0 rfl dX6_ifRun_25 ?_
      refine lv_aload_n hx hb dX6_ifRun_28 rfl (lv_at hl 0 rfl) ?_
      refine rg_getr F hH.1 0 (ci := 6) rfl (C := RX6) (T := TX6) (N := 9) rfl iwX6_ifRun_X6 0 (d := 1) (n := 1) rfl rfl (by decide) rfl lkX6_ifRun_1 rfl dX6_ifRun_29 ?_
      obtain ⟨V5, eV5, hE⟩ := lt_el hE
      refine rg_callWV (As := [.ref (b + 1)]) (rest := []) (P := fun H => RP X LW (b + 43) (gv V 43) H ∧ RP X LW (b + 1) (gv V 1) H) F hH (fun q h1 h2 => ⟨h1, h2⟩) 43 sb_LA_43_LW (mX5_copyFrom l X (b + 43) (b + 1) (gv V 43) (gv V 1) (by omega)) (cwV 1 F.1.2.2.2.2 gX6_ifRun_X5_copyFrom rfl rfl rfl hvX5_copyFrom ⟨Nat.le_of_ble_eq_true rfl, Nat.le_of_ble_eq_true rfl⟩) (rp_recv F hH.1 43 rfl (C := RX5) (T := TX5) (N := 6) rfl rfl) ⟨hH.1.sub 43 sb_LA_43_LW, hH.1.sub 1 sb_LA_1_LW⟩ rfl hl.1 (Nat.le_of_ble_eq_true rfl) dX6_ifRun_32 ⟨Nat.zero_le _, Nat.zero_le _⟩ rfl eV5 (fun H locs hH hfr => ?_)
      refine lv_aload_n hx hb dX6_ifRun_35 rfl (lv_at hl 0 rfl) ?_
      refine rg_getr F hH.1 0 (ci := 6) rfl (C := RX6) (T := TX6) (N := 9) rfl iwX6_ifRun_X6 1 (d := 43) (n := 43) rfl rfl (by decide) rfl lkX6_ifRun_0 rfl dX6_ifRun_36 ?_
      refine lv_iload_n hx hb dX6_ifRun_39 rfl (lv_at hl 1 rfl) ?_
      obtain ⟨U6, eU6, hE⟩ := lt_el hE
      obtain ⟨V7, eV7, hE⟩ := lt_el hE
      refine rg_callWV (As := [.int a1]) (rest := []) F hH (fun q h1 h2 => ⟨h1, h2⟩) 43 sb_LA_43_LW (kX5_makeSteps l X (b + 43) (gv V5 43) a1 U6 eU6) (cwV 1 F.1.2.2.2.2 gX6_ifRun_X5_makeSteps rfl rfl rfl hvX5_makeSteps ⟨Nat.le_of_ble_eq_true rfl, Nat.le_of_ble_eq_true rfl⟩) (rp_recv F hH.1 43 rfl (C := RX5) (T := TX5) (N := 6) rfl rfl) (hH.1.sub 43 sb_LA_43_LW) rfl hl.1 (Nat.le_of_ble_eq_true rfl) dX6_ifRun_40 ⟨Nat.zero_le _, Nat.zero_le _⟩ rfl eV7 (fun H locs hH hfr => ?_)
      refine lv_aload_n hx hb dX6_ifRun_43 rfl (lv_at hl 0 rfl) ?_
      refine rg_getr F hH.1 0 (ci := 6) rfl (C := RX6) (T := TX6) (N := 9) rfl iwX6_ifRun_X6 1 (d := 43) (n := 43) rfl rfl (by decide) rfl lkX6_ifRun_0 rfl dX6_ifRun_44 ?_
      refine lv_iload_n hx hb dX6_ifRun_47 rfl (lv_at hl 2 rfl) ?_
      obtain ⟨r8, er8, hE⟩ := lt_el hE
      refine rg_callRV (As := [.int a2]) (rest := []) F (mX5_tally l X (b + 43) (gv V7 43) a2 r8 er8) (cwV 1 F.1.2.2.2.2 gX6_ifRun_X5_tally rfl rfl rfl hvX5_tally ⟨Nat.le_of_ble_eq_true rfl, Nat.le_of_ble_eq_true rfl⟩) (rp_recv F hH.1 43 rfl (C := RX5) (T := TX5) (N := 6) rfl rfl) (hH.1.sub 43 sb_LA_43_LW) rfl hl.1 (Nat.le_of_ble_eq_true rfl) dX6_ifRun_48 ⟨Nat.zero_le _, Nat.zero_le _⟩ rfl ?_
      refine lv_aload_n hx hb dX6_ifRun_51 rfl (lv_at hl 0 rfl) ?_
      refine rg_getr F hH.1 0 (ci := 6) rfl (C := RX6) (T := TX6) (N := 9) rfl iwX6_ifRun_X6 0 (d := 1) (n := 1) rfl rfl (by decide) rfl lkX6_ifRun_1 rfl dX6_ifRun_52 ?_
      refine lv_iload_n hx hb dX6_ifRun_55 rfl (lv_at hl 2 rfl) ?_
      obtain ⟨r9, er9, hE⟩ := lt_el hE
      refine rg_callRV (As := [.int a2]) (rest := [.int r8]) F (mX5_tally l X (b + 1) (gv V7 1) a2 r9 er9) (cwV 1 F.1.2.2.2.2 gX6_ifRun_X5_tally rfl rfl rfl hvX5_tally ⟨Nat.le_of_ble_eq_true rfl, Nat.le_of_ble_eq_true rfl⟩) (rp_recv F hH.1 1 rfl (C := RX5) (T := TX5) (N := 6) rfl rfl) (hH.1.sub 1 sb_LA_1_LW) rfl hl.1 (Nat.le_of_ble_eq_true rfl) dX6_ifRun_56 ⟨Nat.zero_le _, Nat.zero_le _⟩ rfl ?_
      refine lv_isub hx hb dX6_ifRun_59 ?_
      subst hE
      exact W.iret (v := r8 - r9) hx hb hr (fun t ht _ => mw_post hH ht) hH.2.1.2.2 dX6_ifRun_60
    · have hE := (if_pos c4).symm.trans hE
      refine lv_sipush (v := (-1002)) hx hb dX6_ifRun_20 (by decide) ?_
      subst hE
      exact W.iret (v := (-1002 : Int32)) hx hb hr (fun t ht _ => mw_post hH ht) hH.2.1.2.2 dX6_ifRun_23
