theorem hvX7_putAside : yX7_putAside.cls = RX7 ∧ yX7_putAside.cls ≠ "java/lang/invoke/MethodHandle" ∧ yX7_putAside.cls ≠ "java/lang/invoke/VarHandle" ∧ (parseMethodDescriptor yX7_putAside.desc).map (fun d => d.parameters.length) = some 0 := by decide +kernel
theorem hvX7_putBack : yX7_putBack.cls = RX7 ∧ yX7_putBack.cls ≠ "java/lang/invoke/MethodHandle" ∧ yX7_putBack.cls ≠ "java/lang/invoke/VarHandle" ∧ (parseMethodDescriptor yX7_putBack.desc).map (fun d => d.parameters.length) = some 0 := by decide +kernel
def lbX7_untilPassed_18 (a1 : Int32) (s4 : Int32 × Mem) : Option ((Int32 × Mem) ⊕ (Int32 × Mem)) := (qX7_hasPassed s4.2 a1).bind (fun r5 => if r5 = 0 then if (1000 : Int32) ≤ s4.1 then some (.inr (s4.1, s4.2)) else (qX7_step s4.2 ).bind (fun U8 => some (.inl (s4.1 + 1, U8))) else some (.inr (s4.1, s4.2)))
def qX7_untilPassed (V : Mem) (a1 : Int32) : Option (Int32 × Mem) := lt (fX7_isWord V a1) (fun r1 => if r1 = 0 then some (((-1001 : Int32), V)) else (qX7_putAside V ).bind (fun U3 => (it (lbX7_untilPassed_18 a1) fuel ((0 : Int32), U3)).bind (fun s9 => (qX7_hasPassed s9.2 a1).bind (fun r11 => (qX7_putBack s9.2 ).bind (fun U12 => if r11 = 0 then some (((-1006 : Int32), U12)) else some ((s9.1, U12)))))))
abbrev rmX7_untilPassed : Room := { frames := 6, cells := 0, slots := 0, locals := 136 }
set_option maxHeartbeats 4000000 in
set_option maxRecDepth 100000 in
theorem mX7_untilPassed (l : Launch) (X : kX) (b : Nat) (V : Mem) (a1 : Int32) (out : Int32 × Mem) (hE : qX7_untilPassed V a1 = some out) : MW l yX7_untilPassed wsX7_untilPassed rmX7_untilPassed X [.ref b, .int a1] (RP X LM b V) (some (.int out.1)) b (b + LM.length) (RP X LM b out.2) := by
  refine mt_head (cc := cX7_untilPassed) (maxL := 4) (ret := (some .int)) (own := RX7) (by decide) rfl rfl (Nat.le_of_ble_eq_true rfl) ?_
  intro p e s m below meth c ls F hr hlocks hnm hR hl
  have hx := F.1.1
  have hb := F.1.2.1
  have hH : Hp (t_fr b (b + LM.length)) s.heap s.heap.size X LM b V s.heap [] := ⟨hR, va_S.rf, rfl⟩
  have hl : lv_has ls 4 [(0, .ref b), (1, .int a1)] := hl
  unfold qX7_untilPassed at hE
  refine lv_aload_n hx hb dX7_untilPassed_0 rfl (lv_at hl 0 rfl) ?_
  refine lv_iload_n hx hb dX7_untilPassed_1 rfl (lv_at hl 1 rfl) ?_
  obtain ⟨r1, er1, hE⟩ := lt_el hE
  refine rg_callRV (As := [.int a1]) (rest := []) F (mX7_isWord l X b V a1 r1 er1) (cwV 1 F.1.2.2.2.2 gX7_untilPassed_X7_isWord rfl rfl rfl hvX7_isWord ⟨Nat.le_of_ble_eq_true rfl, Nat.le_of_ble_eq_true rfl⟩) (rp_recv F hH.1 0 rfl (C := RX7) (T := TX7) (N := 8) rfl rfl) hH.1 rfl hl.1 (Nat.le_of_ble_eq_true rfl) dX7_untilPassed_2 ⟨Nat.zero_le _, Nat.zero_le _⟩ rfl ?_
  refine lv_if_ne (tgt := 12) hx hb dX7_untilPassed_5 (by decide) (fun c2 => ?_) (fun c2 => ?_)
  · have hE := (if_neg c2).symm.trans hE
    refine lv_aload_n hx hb dX7_untilPassed_12 rfl (lv_at hl 0 rfl) ?_
    obtain ⟨U3, eU3, hE⟩ := bd_el hE
    refine rg_callWS (As := []) (rest := []) F hH (fun q h1 h2 => ⟨h1, h2⟩) (mX7_putAside l X b V  U3 eU3) (cwV 0 F.1.2.2.2.2 gX7_untilPassed_X7_putAside rfl rfl rfl hvX7_putAside ⟨Nat.le_of_ble_eq_true rfl, Nat.le_of_ble_eq_true rfl⟩) (rp_recv F hH.1 0 rfl (C := RX7) (T := TX7) (N := 8) rfl rfl) hH.1 rfl hl.1 (Nat.le_of_ble_eq_true rfl) dX7_untilPassed_13 ⟨Nat.zero_le _, Nat.zero_le _⟩ rfl (fun H locs hH => ?_)
    refine lv_iconst (v := 0) hx hb dX7_untilPassed_16 (by decide) ?_
    refine lv_istore_n (lv' := [(2, .int ((0 : Int32))), (0, .ref b), (1, .int a1)]) hx hb dX7_untilPassed_17 rfl hl (by decide) rfl (fun ls hl => ?_)
    obtain ⟨x10, hx10, hE⟩ := bd_el hE
    refine it_walk2 (body := lbX7_untilPassed_18 a1) (Wh := fun s4 => ∀ (H : Heap) (locs : List Loc) (ls : Array Slot), Hp (t_fr b (b + LM.length)) s.heap s.heap.size X LM b s4.2 H locs → lv_has ls 4 [(2, .int s4.1), (0, .ref b), (1, .int a1)] → W p l e rmX7_untilPassed s m ([.ref b, .int a1] : List Value).toArray below meth c H locs 0 0 (MQ below (cQw (some (.int out.1)) b (b + LM.length) (RP X LM b out.2)) ([.ref b, .int a1] : List Value).toArray s 0 0 (t_fr b (b + LM.length))) (F0 m 18 ls [])) (We := fun s9 => ∀ (H : Heap) (locs : List Loc) (ls : Array Slot), Hp (t_fr b (b + LM.length)) s.heap s.heap.size X LM b s9.2 H locs → lv_has ls 4 [(2, .int s9.1), (0, .ref b), (1, .int a1)] → W p l e rmX7_untilPassed s m ([.ref b, .int a1] : List Value).toArray below meth c H locs 0 0 (MQ below (cQw (some (.int out.1)) b (b + LM.length) (RP X LM b out.2)) ([.ref b, .int a1] : List Value).toArray s 0 0 (t_fr b (b + LM.length))) (F0 m 43 ls [])) ?_ _ _ _ hx10 ?_ H locs ls hH (lv_sub hl [0, 1, 2] rfl)
    · intro s4 r9 hE hL9 hR9 H locs ls hH hl
      unfold lbX7_untilPassed_18 at hE
      refine lv_aload_n hx hb dX7_untilPassed_18 rfl (lv_at hl 1 rfl) ?_
      refine lv_iload_n hx hb dX7_untilPassed_19 rfl (lv_at hl 2 rfl) ?_
      obtain ⟨r5, er5, hE⟩ := bd_el hE
      refine rg_callRV (As := [.int a1]) (rest := []) F (mX7_hasPassed l X b s4.2 a1 r5 er5) (cwV 1 F.1.2.2.2.2 gX7_untilPassed_X7_hasPassed rfl rfl rfl hvX7_hasPassed ⟨Nat.le_of_ble_eq_true rfl, Nat.le_of_ble_eq_true rfl⟩) (rp_recv F hH.1 0 rfl (C := RX7) (T := TX7) (N := 8) rfl rfl) hH.1 rfl hl.1 (Nat.le_of_ble_eq_true rfl) dX7_untilPassed_20 ⟨Nat.zero_le _, Nat.zero_le _⟩ rfl ?_
      refine lv_if_ne (tgt := 43) hx hb dX7_untilPassed_23 (by decide) (fun c6 => ?_) (fun c6 => ?_)
      · have hE := (if_neg c6).symm.trans hE
        cases hE
        exact hR9 _ rfl H locs ls hH (lv_sub hl [0, 1, 2] rfl)
      · have hE := (if_pos c6).symm.trans hE
        refine lv_iload_n hx hb dX7_untilPassed_26 rfl (lv_at hl 0 rfl) ?_
        refine lv_sipush (v := 1000) hx hb dX7_untilPassed_27 (by decide) ?_
        refine lv_icmp_ge (tgt := 43) hx hb dX7_untilPassed_30 (by decide) (fun c7 => ?_) (fun c7 => ?_)
        · have hE := (if_pos c7).symm.trans hE
          cases hE
          exact hR9 _ rfl H locs ls hH (lv_sub hl [0, 1, 2] rfl)
        · have hE := (if_neg c7).symm.trans hE
          refine lv_aload_n hx hb dX7_untilPassed_33 rfl (lv_at hl 1 rfl) ?_
          obtain ⟨U8, eU8, hE⟩ := bd_el hE
          refine rg_callWS (As := []) (rest := []) F hH (fun q h1 h2 => ⟨h1, h2⟩) (mX7_step l X b s4.2  U8 eU8) (cwV 0 F.1.2.2.2.2 gX7_untilPassed_X7_step rfl rfl rfl hvX7_step ⟨Nat.le_of_ble_eq_true rfl, Nat.le_of_ble_eq_true rfl⟩) (rp_recv F hH.1 0 rfl (C := RX7) (T := TX7) (N := 8) rfl rfl) hH.1 rfl hl.1 (Nat.le_of_ble_eq_true rfl) dX7_untilPassed_34 ⟨Nat.zero_le _, Nat.zero_le _⟩ rfl (fun H locs hH => ?_)
          refine lv_iinc (v := s4.1 + 1) (lv' := [(2, .int (s4.1 + 1)), (0, .ref b), (1, .int a1)]) hx hb dX7_untilPassed_37 hl (k := 0) rfl (congrArg (fun q => s4.1 + q) (by decide)) (by decide) rfl (fun ls hl => ?_)
          refine lv_goto (tgt := 18) hx hb dX7_untilPassed_40 (by decide) ?_
          cases hE
          exact hL9 _ rfl H locs ls hH (lv_sub hl [0, 1, 2] rfl)
    · intro H locs ls hH hl
      refine lv_aload_n hx hb dX7_untilPassed_43 rfl (lv_at hl 1 rfl) ?_
      refine lv_iload_n hx hb dX7_untilPassed_44 rfl (lv_at hl 2 rfl) ?_
      obtain ⟨r11, er11, hE⟩ := bd_el hE
      refine rg_callRV (As := [.int a1]) (rest := []) F (mX7_hasPassed l X b x10.2 a1 r11 er11) (cwV 1 F.1.2.2.2.2 gX7_untilPassed_X7_hasPassed rfl rfl rfl hvX7_hasPassed ⟨Nat.le_of_ble_eq_true rfl, Nat.le_of_ble_eq_true rfl⟩) (rp_recv F hH.1 0 rfl (C := RX7) (T := TX7) (N := 8) rfl rfl) hH.1 rfl hl.1 (Nat.le_of_ble_eq_true rfl) dX7_untilPassed_45 ⟨Nat.zero_le _, Nat.zero_le _⟩ rfl ?_
      refine lv_istore_n (lv' := [(3, .int r11), (2, .int x10.1), (0, .ref b), (1, .int a1)]) hx hb dX7_untilPassed_48 rfl hl (by decide) rfl (fun ls hl => ?_)
      refine lv_aload_n hx hb dX7_untilPassed_49 rfl (lv_at hl 2 rfl) ?_
      obtain ⟨U12, eU12, hE⟩ := bd_el hE
      refine rg_callWS (As := []) (rest := []) F hH (fun q h1 h2 => ⟨h1, h2⟩) (mX7_putBack l X b x10.2  U12 eU12) (cwV 0 F.1.2.2.2.2 gX7_untilPassed_X7_putBack rfl rfl rfl hvX7_putBack ⟨Nat.le_of_ble_eq_true rfl, Nat.le_of_ble_eq_true rfl⟩) (rp_recv F hH.1 0 rfl (C := RX7) (T := TX7) (N := 8) rfl rfl) hH.1 rfl hl.1 (Nat.le_of_ble_eq_true rfl) dX7_untilPassed_50 ⟨Nat.zero_le _, Nat.zero_le _⟩ rfl (fun H locs hH => ?_)
      refine lv_iload_n hx hb dX7_untilPassed_53 rfl (lv_at hl 0 rfl) ?_
      refine lv_if_eq (tgt := 61) hx hb dX7_untilPassed_54 (by decide) (fun c13 => ?_) (fun c13 => ?_)
      · have hE := (if_pos c13).symm.trans hE
        refine lv_sipush (v := (-1006)) hx hb dX7_untilPassed_61 (by decide) ?_
        have hE := Option.some.inj hE
        subst hE
        exact W.iret (v := (-1006 : Int32)) hx hb hr (fun t ht _ => mw_post hH ht) hH.2.1.2.2 dX7_untilPassed_64
      · have hE := (if_neg c13).symm.trans hE
        refine lv_iload_n hx hb dX7_untilPassed_57 rfl (lv_at hl 1 rfl) ?_
        refine lv_goto (tgt := 64) hx hb dX7_untilPassed_58 (by decide) ?_
        have hE := Option.some.inj hE
        subst hE
        exact W.iret (v := x10.1) hx hb hr (fun t ht _ => mw_post hH ht) hH.2.1.2.2 dX7_untilPassed_64
  · have hE := (if_pos c2).symm.trans hE
    refine lv_sipush (v := (-1001)) hx hb dX7_untilPassed_8 (by decide) ?_
    have hE := Option.some.inj hE
    subst hE
    exact W.iret (v := (-1001 : Int32)) hx hb hr (fun t ht _ => mw_post hH ht) hH.2.1.2.2 dX7_untilPassed_11
set_option maxRecDepth 20000 in
theorem lkX7_ifRun_0 : Cond.fieldLink RX7 7 "TideWordsModel" "s" "[I" ∈ wsX7_ifRun := by decide +kernel
set_option maxRecDepth 20000 in
theorem iwX7_ifRun_X7 : ∀ w ∈ wsX70, w ∈ wsX7_ifRun := by decide +kernel
theorem hvX7_runs : yX7_runs.cls = RX7 ∧ yX7_runs.cls ≠ "java/lang/invoke/MethodHandle" ∧ yX7_runs.cls ≠ "java/lang/invoke/VarHandle" ∧ (parseMethodDescriptor yX7_runs.desc).map (fun d => d.parameters.length) = some 1 := by decide +kernel
theorem hvX7_backs : yX7_backs.cls = RX7 ∧ yX7_backs.cls ≠ "java/lang/invoke/MethodHandle" ∧ yX7_backs.cls ≠ "java/lang/invoke/VarHandle" ∧ (parseMethodDescriptor yX7_backs.desc).map (fun d => d.parameters.length) = some 0 := by decide +kernel
def qX7_ifRun (V : Mem) (a1 : Int32) (a2 : Int32) : Option (Int32 × Mem) := lt (fX7_in a1 ((1 : Int32)) ((1000 : Int32))) (fun r1 => if r1 = 0 then some (((-1002 : Int32), V)) else lt (fX7_in a2 ((0 : Int32)) ((3 : Int32))) (fun r3 => if r3 = 0 then some (((-1002 : Int32), V)) else (qX7_putAside V ).bind (fun U5 => if a2 = 0 then (qX7_passedWords U5 ).bind (fun r17 => (qX7_runs U5 a1).bind (fun U18 => (qX7_passedWords U18 ).bind (fun r19 => (qX7_putBack U18 ).bind (fun U20 => some ((r19 - r17, U20)))))) else if a2 = (1 : Int32) then (qX7_runs U5 a1).bind (fun U15 => (qX7_putBack U15 ).bind (fun U16 => some (((U15 1 3) - (U5 1 3), U16)))) else if a2 = (2 : Int32) then (qX7_backs U5 ).bind (fun r11 => (qX7_runs U5 a1).bind (fun U12 => (qX7_backs U12 ).bind (fun r13 => (qX7_putBack U12 ).bind (fun U14 => some ((r13 - r11, U14)))))) else (qX7_runs U5 a1).bind (fun U9 => (qX7_putBack U9 ).bind (fun U10 => some (((U9 1 1) - (U5 1 1), U10)))))))
abbrev rmX7_ifRun : Room := { frames := 7, cells := 0, slots := 0, locals := 158 }
set_option maxHeartbeats 4000000 in
set_option maxRecDepth 100000 in
theorem mX7_ifRun (l : Launch) (X : kX) (b : Nat) (V : Mem) (a1 : Int32) (a2 : Int32) (out : Int32 × Mem) (hE : qX7_ifRun V a1 a2 = some out) : MW l yX7_ifRun wsX7_ifRun rmX7_ifRun X [.ref b, .int a1, .int a2] (RP X LM b V) (some (.int out.1)) b (b + LM.length) (RP X LM b out.2) := by
  refine mt_head (cc := cX7_ifRun) (maxL := 5) (ret := (some .int)) (own := RX7) (by decide) rfl rfl (Nat.le_of_ble_eq_true rfl) ?_
  intro p e s m below meth c ls F hr hlocks hnm hR hl
  have hx := F.1.1
  have hb := F.1.2.1
  have hH : Hp (t_fr b (b + LM.length)) s.heap s.heap.size X LM b V s.heap [] := ⟨hR, va_S.rf, rfl⟩
  have hl : lv_has ls 5 [(0, .ref b), (1, .int a1), (2, .int a2)] := hl
  unfold qX7_ifRun at hE
  refine lv_iload_n hx hb dX7_ifRun_0 rfl (lv_at hl 1 rfl) ?_
  refine lv_iconst (v := 1) hx hb dX7_ifRun_1 (by decide) ?_
  refine lv_sipush (v := 1000) hx hb dX7_ifRun_2 (by decide) ?_
  obtain ⟨r1, er1, hE⟩ := lt_el hE
  refine rg_callRS (As := [.int a1, .int ((1 : Int32)), .int ((1000 : Int32))]) (rest := []) F (mX7_in l X a1 ((1 : Int32)) ((1000 : Int32)) r1 er1) (va_cwS 3 F.1.2.2.2.2 gX7_ifRun_X7_in rfl rfl rfl hsX7_in ⟨Nat.le_of_ble_eq_true rfl, Nat.le_of_ble_eq_true rfl⟩)  trivial rfl hl.1 (Nat.le_of_ble_eq_true rfl) dX7_ifRun_5 ⟨Nat.zero_le _, Nat.zero_le _⟩ rfl ?_
  refine lv_if_eq (tgt := 20) hx hb dX7_ifRun_8 (by decide) (fun c2 => ?_) (fun c2 => ?_)
  · have hE := (if_pos c2).symm.trans hE
    refine lv_sipush (v := (-1002)) hx hb dX7_ifRun_20 (by decide) ?_
    have hE := Option.some.inj hE
    subst hE
    exact W.iret (v := (-1002 : Int32)) hx hb hr (fun t ht _ => mw_post hH ht) hH.2.1.2.2 dX7_ifRun_23
  · have hE := (if_neg c2).symm.trans hE
    refine lv_iload_n hx hb dX7_ifRun_11 rfl (lv_at hl 2 rfl) ?_
    refine lv_iconst (v := 0) hx hb dX7_ifRun_12 (by decide) ?_
    refine lv_iconst (v := 3) hx hb dX7_ifRun_13 (by decide) ?_
    obtain ⟨r3, er3, hE⟩ := lt_el hE
    refine rg_callRS (As := [.int a2, .int ((0 : Int32)), .int ((3 : Int32))]) (rest := []) F (mX7_in l X a2 ((0 : Int32)) ((3 : Int32)) r3 er3) (va_cwS 3 F.1.2.2.2.2 gX7_ifRun_X7_in rfl rfl rfl hsX7_in ⟨Nat.le_of_ble_eq_true rfl, Nat.le_of_ble_eq_true rfl⟩)  trivial rfl hl.1 (Nat.le_of_ble_eq_true rfl) dX7_ifRun_14 ⟨Nat.zero_le _, Nat.zero_le _⟩ rfl ?_
    refine lv_if_ne (tgt := 24) hx hb dX7_ifRun_17 (by decide) (fun c4 => ?_) (fun c4 => ?_)
    · have hE := (if_neg c4).symm.trans hE
      refine lv_aload_n hx hb dX7_ifRun_24 rfl (lv_at hl 0 rfl) ?_
      obtain ⟨U5, eU5, hE⟩ := bd_el hE
      refine rg_callWS (As := []) (rest := []) F hH (fun q h1 h2 => ⟨h1, h2⟩) (mX7_putAside l X b V  U5 eU5) (cwV 0 F.1.2.2.2.2 gX7_ifRun_X7_putAside rfl rfl rfl hvX7_putAside ⟨Nat.le_of_ble_eq_true rfl, Nat.le_of_ble_eq_true rfl⟩) (rp_recv F hH.1 0 rfl (C := RX7) (T := TX7) (N := 8) rfl rfl) hH.1 rfl hl.1 (Nat.le_of_ble_eq_true rfl) dX7_ifRun_25 ⟨Nat.zero_le _, Nat.zero_le _⟩ rfl (fun H locs hH => ?_)
      refine lv_iload_n hx hb dX7_ifRun_28 rfl (lv_at hl 2 rfl) ?_
      refine lv_if_ne (tgt := 39) hx hb dX7_ifRun_29 (by decide) (fun c6 => ?_) (fun c6 => ?_)
      · have hE := (if_neg c6).symm.trans hE
        refine lv_iload_n hx hb dX7_ifRun_39 rfl (lv_at hl 2 rfl) ?_
        refine lv_iconst (v := 1) hx hb dX7_ifRun_40 (by decide) ?_
        refine lv_icmp_ne (tgt := 53) hx hb dX7_ifRun_41 (by decide) (fun c7 => ?_) (fun c7 => ?_)
        · have hE := (if_neg c7).symm.trans hE
          refine lv_iload_n hx hb dX7_ifRun_53 rfl (lv_at hl 2 rfl) ?_
          refine lv_iconst (v := 2) hx hb dX7_ifRun_54 (by decide) ?_
          refine lv_icmp_ne (tgt := 65) hx hb dX7_ifRun_55 (by decide) (fun c8 => ?_) (fun c8 => ?_)
          · have hE := (if_neg c8).symm.trans hE
            refine lv_aload_n hx hb dX7_ifRun_65 rfl (lv_at hl 0 rfl) ?_
            refine rg_getr F hH.1 0 (ci := 7) rfl (C := RX7) (T := TX7) (N := 8) rfl iwX7_ifRun_X7 0 (d := 1) (n := 1) rfl rfl (by decide) rfl lkX7_ifRun_0 rfl dX7_ifRun_66 ?_
            refine lv_iconst (v := 1) hx hb dX7_ifRun_69 (by decide) ?_
            refine rg_iald F hH.1 1 rfl (i := 1) (by decide) rfl dX7_ifRun_70 ?_
            refine lv_istore_n (lv' := [(3, .int (U5 1 1)), (0, .ref b), (1, .int a1), (2, .int a2)]) hx hb dX7_ifRun_71 rfl hl (by decide) rfl (fun ls hl => ?_)
            refine lv_aload_n hx hb dX7_ifRun_72 rfl (lv_at hl 1 rfl) ?_
            refine lv_iload_n hx hb dX7_ifRun_73 rfl (lv_at hl 2 rfl) ?_
            obtain ⟨U9, eU9, hE⟩ := bd_el hE
            refine rg_callWS (As := [.int a1]) (rest := []) F hH (fun q h1 h2 => ⟨h1, h2⟩) (mX7_runs l X b U5 a1 U9 eU9) (cwV 1 F.1.2.2.2.2 gX7_ifRun_X7_runs rfl rfl rfl hvX7_runs ⟨Nat.le_of_ble_eq_true rfl, Nat.le_of_ble_eq_true rfl⟩) (rp_recv F hH.1 0 rfl (C := RX7) (T := TX7) (N := 8) rfl rfl) hH.1 rfl hl.1 (Nat.le_of_ble_eq_true rfl) dX7_ifRun_74 ⟨Nat.zero_le _, Nat.zero_le _⟩ rfl (fun H locs hH => ?_)
            refine lv_iload_n hx hb dX7_ifRun_77 rfl (lv_at hl 3 rfl) ?_
            refine lv_if_ne (tgt := 88) hx hb dX7_ifRun_78 (by decide) (fun _ => ?_) (fun c => absurd c c6)
            refine lv_iload_n hx hb dX7_ifRun_88 rfl (lv_at hl 3 rfl) ?_
            refine lv_iconst (v := 1) hx hb dX7_ifRun_89 (by decide) ?_
            refine lv_icmp_ne (tgt := 102) hx hb dX7_ifRun_90 (by decide) (fun _ => ?_) (fun c => absurd c c7)
            refine lv_iload_n hx hb dX7_ifRun_102 rfl (lv_at hl 3 rfl) ?_
            refine lv_iconst (v := 2) hx hb dX7_ifRun_103 (by decide) ?_
            refine lv_icmp_ne (tgt := 114) hx hb dX7_ifRun_104 (by decide) (fun _ => ?_) (fun c => absurd c c8)
            refine lv_aload_n hx hb dX7_ifRun_114 rfl (lv_at hl 1 rfl) ?_
            refine rg_getr F hH.1 0 (ci := 7) rfl (C := RX7) (T := TX7) (N := 8) rfl iwX7_ifRun_X7 0 (d := 1) (n := 1) rfl rfl (by decide) rfl lkX7_ifRun_0 rfl dX7_ifRun_115 ?_
            refine lv_iconst (v := 1) hx hb dX7_ifRun_118 (by decide) ?_
            refine rg_iald F hH.1 1 rfl (i := 1) (by decide) rfl dX7_ifRun_119 ?_
            refine lv_istore (lv' := [(4, .int (U9 1 1)), (3, .int (U5 1 1)), (0, .ref b), (1, .int a1), (2, .int a2)]) hx hb dX7_ifRun_120 hl (by decide) rfl (fun ls hl => ?_)
            refine lv_aload_n hx hb dX7_ifRun_122 rfl (lv_at hl 2 rfl) ?_
            obtain ⟨U10, eU10, hE⟩ := bd_el hE
            refine rg_callWS (As := []) (rest := []) F hH (fun q h1 h2 => ⟨h1, h2⟩) (mX7_putBack l X b U9  U10 eU10) (cwV 0 F.1.2.2.2.2 gX7_ifRun_X7_putBack rfl rfl rfl hvX7_putBack ⟨Nat.le_of_ble_eq_true rfl, Nat.le_of_ble_eq_true rfl⟩) (rp_recv F hH.1 0 rfl (C := RX7) (T := TX7) (N := 8) rfl rfl) hH.1 rfl hl.1 (Nat.le_of_ble_eq_true rfl) dX7_ifRun_123 ⟨Nat.zero_le _, Nat.zero_le _⟩ rfl (fun H locs hH => ?_)
            refine lv_iload hx hb dX7_ifRun_126 (lv_at hl 0 rfl) ?_
            refine lv_iload_n hx hb dX7_ifRun_128 rfl (lv_at hl 1 rfl) ?_
            refine lv_isub hx hb dX7_ifRun_129 ?_
            have hE := Option.some.inj hE
            subst hE
            exact W.iret (v := (U9 1 1) - (U5 1 1)) hx hb hr (fun t ht _ => mw_post hH ht) hH.2.1.2.2 dX7_ifRun_130
          · have hE := (if_pos c8).symm.trans hE
            refine lv_aload_n hx hb dX7_ifRun_58 rfl (lv_at hl 0 rfl) ?_
            obtain ⟨r11, er11, hE⟩ := bd_el hE
            refine rg_callRV (As := []) (rest := []) F (mX7_backs l X b U5  r11 er11) (cwV 0 F.1.2.2.2.2 gX7_ifRun_X7_backs rfl rfl rfl hvX7_backs ⟨Nat.le_of_ble_eq_true rfl, Nat.le_of_ble_eq_true rfl⟩) (rp_recv F hH.1 0 rfl (C := RX7) (T := TX7) (N := 8) rfl rfl) hH.1 rfl hl.1 (Nat.le_of_ble_eq_true rfl) dX7_ifRun_59 ⟨Nat.zero_le _, Nat.zero_le _⟩ rfl ?_
            refine lv_goto (tgt := 71) hx hb dX7_ifRun_62 (by decide) ?_
            refine lv_istore_n (lv' := [(3, .int r11), (0, .ref b), (1, .int a1), (2, .int a2)]) hx hb dX7_ifRun_71 rfl hl (by decide) rfl (fun ls hl => ?_)
            refine lv_aload_n hx hb dX7_ifRun_72 rfl (lv_at hl 1 rfl) ?_
            refine lv_iload_n hx hb dX7_ifRun_73 rfl (lv_at hl 2 rfl) ?_
            obtain ⟨U12, eU12, hE⟩ := bd_el hE
            refine rg_callWS (As := [.int a1]) (rest := []) F hH (fun q h1 h2 => ⟨h1, h2⟩) (mX7_runs l X b U5 a1 U12 eU12) (cwV 1 F.1.2.2.2.2 gX7_ifRun_X7_runs rfl rfl rfl hvX7_runs ⟨Nat.le_of_ble_eq_true rfl, Nat.le_of_ble_eq_true rfl⟩) (rp_recv F hH.1 0 rfl (C := RX7) (T := TX7) (N := 8) rfl rfl) hH.1 rfl hl.1 (Nat.le_of_ble_eq_true rfl) dX7_ifRun_74 ⟨Nat.zero_le _, Nat.zero_le _⟩ rfl (fun H locs hH => ?_)
            refine lv_iload_n hx hb dX7_ifRun_77 rfl (lv_at hl 3 rfl) ?_
            refine lv_if_ne (tgt := 88) hx hb dX7_ifRun_78 (by decide) (fun _ => ?_) (fun c => absurd c c6)
            refine lv_iload_n hx hb dX7_ifRun_88 rfl (lv_at hl 3 rfl) ?_
            refine lv_iconst (v := 1) hx hb dX7_ifRun_89 (by decide) ?_
            refine lv_icmp_ne (tgt := 102) hx hb dX7_ifRun_90 (by decide) (fun _ => ?_) (fun c => absurd c c7)
            refine lv_iload_n hx hb dX7_ifRun_102 rfl (lv_at hl 3 rfl) ?_
            refine lv_iconst (v := 2) hx hb dX7_ifRun_103 (by decide) ?_
            refine lv_icmp_ne (tgt := 114) hx hb dX7_ifRun_104 (by decide) (fun c => absurd c8 c) (fun _ => ?_)
            refine lv_aload_n hx hb dX7_ifRun_107 rfl (lv_at hl 1 rfl) ?_
            obtain ⟨r13, er13, hE⟩ := bd_el hE
            refine rg_callRV (As := []) (rest := []) F (mX7_backs l X b U12  r13 er13) (cwV 0 F.1.2.2.2.2 gX7_ifRun_X7_backs rfl rfl rfl hvX7_backs ⟨Nat.le_of_ble_eq_true rfl, Nat.le_of_ble_eq_true rfl⟩) (rp_recv F hH.1 0 rfl (C := RX7) (T := TX7) (N := 8) rfl rfl) hH.1 rfl hl.1 (Nat.le_of_ble_eq_true rfl) dX7_ifRun_108 ⟨Nat.zero_le _, Nat.zero_le _⟩ rfl ?_
            refine lv_goto (tgt := 120) hx hb dX7_ifRun_111 (by decide) ?_
            refine lv_istore (lv' := [(4, .int r13), (3, .int r11), (0, .ref b), (1, .int a1), (2, .int a2)]) hx hb dX7_ifRun_120 hl (by decide) rfl (fun ls hl => ?_)
            refine lv_aload_n hx hb dX7_ifRun_122 rfl (lv_at hl 2 rfl) ?_
            obtain ⟨U14, eU14, hE⟩ := bd_el hE
            refine rg_callWS (As := []) (rest := []) F hH (fun q h1 h2 => ⟨h1, h2⟩) (mX7_putBack l X b U12  U14 eU14) (cwV 0 F.1.2.2.2.2 gX7_ifRun_X7_putBack rfl rfl rfl hvX7_putBack ⟨Nat.le_of_ble_eq_true rfl, Nat.le_of_ble_eq_true rfl⟩) (rp_recv F hH.1 0 rfl (C := RX7) (T := TX7) (N := 8) rfl rfl) hH.1 rfl hl.1 (Nat.le_of_ble_eq_true rfl) dX7_ifRun_123 ⟨Nat.zero_le _, Nat.zero_le _⟩ rfl (fun H locs hH => ?_)
            refine lv_iload hx hb dX7_ifRun_126 (lv_at hl 0 rfl) ?_
            refine lv_iload_n hx hb dX7_ifRun_128 rfl (lv_at hl 1 rfl) ?_
            refine lv_isub hx hb dX7_ifRun_129 ?_
            have hE := Option.some.inj hE
            subst hE
            exact W.iret (v := r13 - r11) hx hb hr (fun t ht _ => mw_post hH ht) hH.2.1.2.2 dX7_ifRun_130
        · have hE := (if_pos c7).symm.trans hE
          refine lv_aload_n hx hb dX7_ifRun_44 rfl (lv_at hl 0 rfl) ?_
          refine rg_getr F hH.1 0 (ci := 7) rfl (C := RX7) (T := TX7) (N := 8) rfl iwX7_ifRun_X7 0 (d := 1) (n := 1) rfl rfl (by decide) rfl lkX7_ifRun_0 rfl dX7_ifRun_45 ?_
          refine lv_iconst (v := 3) hx hb dX7_ifRun_48 (by decide) ?_
          refine rg_iald F hH.1 1 rfl (i := 3) (by decide) rfl dX7_ifRun_49 ?_
          refine lv_goto (tgt := 71) hx hb dX7_ifRun_50 (by decide) ?_
          refine lv_istore_n (lv' := [(3, .int (U5 1 3)), (0, .ref b), (1, .int a1), (2, .int a2)]) hx hb dX7_ifRun_71 rfl hl (by decide) rfl (fun ls hl => ?_)
          refine lv_aload_n hx hb dX7_ifRun_72 rfl (lv_at hl 1 rfl) ?_
          refine lv_iload_n hx hb dX7_ifRun_73 rfl (lv_at hl 2 rfl) ?_
          obtain ⟨U15, eU15, hE⟩ := bd_el hE
          refine rg_callWS (As := [.int a1]) (rest := []) F hH (fun q h1 h2 => ⟨h1, h2⟩) (mX7_runs l X b U5 a1 U15 eU15) (cwV 1 F.1.2.2.2.2 gX7_ifRun_X7_runs rfl rfl rfl hvX7_runs ⟨Nat.le_of_ble_eq_true rfl, Nat.le_of_ble_eq_true rfl⟩) (rp_recv F hH.1 0 rfl (C := RX7) (T := TX7) (N := 8) rfl rfl) hH.1 rfl hl.1 (Nat.le_of_ble_eq_true rfl) dX7_ifRun_74 ⟨Nat.zero_le _, Nat.zero_le _⟩ rfl (fun H locs hH => ?_)
          refine lv_iload_n hx hb dX7_ifRun_77 rfl (lv_at hl 3 rfl) ?_
          refine lv_if_ne (tgt := 88) hx hb dX7_ifRun_78 (by decide) (fun _ => ?_) (fun c => absurd c c6)
          refine lv_iload_n hx hb dX7_ifRun_88 rfl (lv_at hl 3 rfl) ?_
          refine lv_iconst (v := 1) hx hb dX7_ifRun_89 (by decide) ?_
          refine lv_icmp_ne (tgt := 102) hx hb dX7_ifRun_90 (by decide) (fun c => absurd c7 c) (fun _ => ?_)
          refine lv_aload_n hx hb dX7_ifRun_93 rfl (lv_at hl 1 rfl) ?_
          refine rg_getr F hH.1 0 (ci := 7) rfl (C := RX7) (T := TX7) (N := 8) rfl iwX7_ifRun_X7 0 (d := 1) (n := 1) rfl rfl (by decide) rfl lkX7_ifRun_0 rfl dX7_ifRun_94 ?_
          refine lv_iconst (v := 3) hx hb dX7_ifRun_97 (by decide) ?_
          refine rg_iald F hH.1 1 rfl (i := 3) (by decide) rfl dX7_ifRun_98 ?_
          refine lv_goto (tgt := 120) hx hb dX7_ifRun_99 (by decide) ?_
          refine lv_istore (lv' := [(4, .int (U15 1 3)), (3, .int (U5 1 3)), (0, .ref b), (1, .int a1), (2, .int a2)]) hx hb dX7_ifRun_120 hl (by decide) rfl (fun ls hl => ?_)
          refine lv_aload_n hx hb dX7_ifRun_122 rfl (lv_at hl 2 rfl) ?_
          obtain ⟨U16, eU16, hE⟩ := bd_el hE
          refine rg_callWS (As := []) (rest := []) F hH (fun q h1 h2 => ⟨h1, h2⟩) (mX7_putBack l X b U15  U16 eU16) (cwV 0 F.1.2.2.2.2 gX7_ifRun_X7_putBack rfl rfl rfl hvX7_putBack ⟨Nat.le_of_ble_eq_true rfl, Nat.le_of_ble_eq_true rfl⟩) (rp_recv F hH.1 0 rfl (C := RX7) (T := TX7) (N := 8) rfl rfl) hH.1 rfl hl.1 (Nat.le_of_ble_eq_true rfl) dX7_ifRun_123 ⟨Nat.zero_le _, Nat.zero_le _⟩ rfl (fun H locs hH => ?_)
          refine lv_iload hx hb dX7_ifRun_126 (lv_at hl 0 rfl) ?_
          refine lv_iload_n hx hb dX7_ifRun_128 rfl (lv_at hl 1 rfl) ?_
          refine lv_isub hx hb dX7_ifRun_129 ?_
          have hE := Option.some.inj hE
          subst hE
          exact W.iret (v := (U15 1 3) - (U5 1 3)) hx hb hr (fun t ht _ => mw_post hH ht) hH.2.1.2.2 dX7_ifRun_130
      · have hE := (if_pos c6).symm.trans hE
        refine lv_aload_n hx hb dX7_ifRun_32 rfl (lv_at hl 0 rfl) ?_
        obtain ⟨r17, er17, hE⟩ := bd_el hE
        refine rg_callRV (As := []) (rest := []) F (mX7_passedWords l X b U5  r17 er17) (cwV 0 F.1.2.2.2.2 gX7_ifRun_X7_passedWords rfl rfl rfl hvX7_passedWords ⟨Nat.le_of_ble_eq_true rfl, Nat.le_of_ble_eq_true rfl⟩) (rp_recv F hH.1 0 rfl (C := RX7) (T := TX7) (N := 8) rfl rfl) hH.1 rfl hl.1 (Nat.le_of_ble_eq_true rfl) dX7_ifRun_33 ⟨Nat.zero_le _, Nat.zero_le _⟩ rfl ?_
        refine lv_goto (tgt := 71) hx hb dX7_ifRun_36 (by decide) ?_
        refine lv_istore_n (lv' := [(3, .int r17), (0, .ref b), (1, .int a1), (2, .int a2)]) hx hb dX7_ifRun_71 rfl hl (by decide) rfl (fun ls hl => ?_)
        refine lv_aload_n hx hb dX7_ifRun_72 rfl (lv_at hl 1 rfl) ?_
        refine lv_iload_n hx hb dX7_ifRun_73 rfl (lv_at hl 2 rfl) ?_
        obtain ⟨U18, eU18, hE⟩ := bd_el hE
        refine rg_callWS (As := [.int a1]) (rest := []) F hH (fun q h1 h2 => ⟨h1, h2⟩) (mX7_runs l X b U5 a1 U18 eU18) (cwV 1 F.1.2.2.2.2 gX7_ifRun_X7_runs rfl rfl rfl hvX7_runs ⟨Nat.le_of_ble_eq_true rfl, Nat.le_of_ble_eq_true rfl⟩) (rp_recv F hH.1 0 rfl (C := RX7) (T := TX7) (N := 8) rfl rfl) hH.1 rfl hl.1 (Nat.le_of_ble_eq_true rfl) dX7_ifRun_74 ⟨Nat.zero_le _, Nat.zero_le _⟩ rfl (fun H locs hH => ?_)
        refine lv_iload_n hx hb dX7_ifRun_77 rfl (lv_at hl 3 rfl) ?_
        refine lv_if_ne (tgt := 88) hx hb dX7_ifRun_78 (by decide) (fun c => absurd c6 c) (fun _ => ?_)
        refine lv_aload_n hx hb dX7_ifRun_81 rfl (lv_at hl 1 rfl) ?_
        obtain ⟨r19, er19, hE⟩ := bd_el hE
        refine rg_callRV (As := []) (rest := []) F (mX7_passedWords l X b U18  r19 er19) (cwV 0 F.1.2.2.2.2 gX7_ifRun_X7_passedWords rfl rfl rfl hvX7_passedWords ⟨Nat.le_of_ble_eq_true rfl, Nat.le_of_ble_eq_true rfl⟩) (rp_recv F hH.1 0 rfl (C := RX7) (T := TX7) (N := 8) rfl rfl) hH.1 rfl hl.1 (Nat.le_of_ble_eq_true rfl) dX7_ifRun_82 ⟨Nat.zero_le _, Nat.zero_le _⟩ rfl ?_
        refine lv_goto (tgt := 120) hx hb dX7_ifRun_85 (by decide) ?_
        refine lv_istore (lv' := [(4, .int r19), (3, .int r17), (0, .ref b), (1, .int a1), (2, .int a2)]) hx hb dX7_ifRun_120 hl (by decide) rfl (fun ls hl => ?_)
        refine lv_aload_n hx hb dX7_ifRun_122 rfl (lv_at hl 2 rfl) ?_
        obtain ⟨U20, eU20, hE⟩ := bd_el hE
        refine rg_callWS (As := []) (rest := []) F hH (fun q h1 h2 => ⟨h1, h2⟩) (mX7_putBack l X b U18  U20 eU20) (cwV 0 F.1.2.2.2.2 gX7_ifRun_X7_putBack rfl rfl rfl hvX7_putBack ⟨Nat.le_of_ble_eq_true rfl, Nat.le_of_ble_eq_true rfl⟩) (rp_recv F hH.1 0 rfl (C := RX7) (T := TX7) (N := 8) rfl rfl) hH.1 rfl hl.1 (Nat.le_of_ble_eq_true rfl) dX7_ifRun_123 ⟨Nat.zero_le _, Nat.zero_le _⟩ rfl (fun H locs hH => ?_)
        refine lv_iload hx hb dX7_ifRun_126 (lv_at hl 0 rfl) ?_
        refine lv_iload_n hx hb dX7_ifRun_128 rfl (lv_at hl 1 rfl) ?_
        refine lv_isub hx hb dX7_ifRun_129 ?_
        have hE := Option.some.inj hE
        subst hE
        exact W.iret (v := r19 - r17) hx hb hr (fun t ht _ => mw_post hH ht) hH.2.1.2.2 dX7_ifRun_130
    · have hE := (if_pos c4).symm.trans hE
      refine lv_sipush (v := (-1002)) hx hb dX7_ifRun_20 (by decide) ?_
      have hE := Option.some.inj hE
      subst hE
      exact W.iret (v := (-1002 : Int32)) hx hb hr (fun t ht _ => mw_post hH ht) hH.2.1.2.2 dX7_ifRun_23
set_option maxRecDepth 20000 in
theorem lkX7_leastSlack_0 : Cond.fieldLink RX7 7 "TideWordsModel" "s" "[I" ∈ wsX7_leastSlack := by decide +kernel
set_option maxRecDepth 20000 in
theorem iwX7_leastSlack_X7 : ∀ w ∈ wsX70, w ∈ wsX7_leastSlack := by decide +kernel
def lbX7_leastSlack_42 (a1 : Int32) (r5 : Int32) (s7 : Int32 × Int32 × Int32 × Mem) : Option ((Int32 × Int32 × Int32 × Mem) ⊕ (Int32 × Int32 × Int32 × Mem)) := if (100 : Int32) ≤ s7.2.2.1 then some (.inr (s7.1, s7.2.1, s7.2.2.1, s7.2.2.2)) else lt (fX7_ofGate a1 ((1 : Int32))) (fun r9 => if r9 < 0 ∨ 131 ≤ r9.toNatClampNeg then none else lt (sv s7.2.2.2 1 r9.toNatClampNeg s7.2.2.1) (fun V11 => (qX7_runs V11 ((200 : Int32))).bind (fun U12 => (qX7_passedWords U12 ).bind (fun r13 => if r13 - r5 ≤ s7.2.1 then (qX7_putBack U12 ).bind (fun U15 => some (.inl (s7.1, s7.2.1, s7.2.2.1 + 1, U15))) else (qX7_putBack U12 ).bind (fun U16 => some (.inl (s7.2.2.1, r13 - r5, s7.2.2.1 + 1, U16)))))))
def qX7_leastSlack (V : Mem) (a1 : Int32) (a2 : Int32) : Option (Int32 × Mem) := lt (fX7_isGate a1) (fun r1 => if r1 = 0 then some (((-1001 : Int32), V)) else lt (fX7_in a2 ((0 : Int32)) ((1 : Int32))) (fun r3 => if r3 = 0 then some (((-1002 : Int32), V)) else (qX7_passedWords V ).bind (fun r5 => (qX7_putAside V ).bind (fun U6 => (it (lbX7_leastSlack_42 a1 r5) fuel ((0 : Int32), (-1 : Int32), (0 : Int32), U6)).bind (fun s17 => if a2 = 0 then some ((s17.1, s17.2.2.2)) else some ((s17.2.1, s17.2.2.2)))))))
abbrev rmX7_leastSlack : Room := { frames := 7, cells := 0, slots := 0, locals := 158 }
set_option maxHeartbeats 4000000 in
set_option maxRecDepth 100000 in
theorem mX7_leastSlack (l : Launch) (X : kX) (b : Nat) (V : Mem) (a1 : Int32) (a2 : Int32) (out : Int32 × Mem) (hE : qX7_leastSlack V a1 a2 = some out) : MW l yX7_leastSlack wsX7_leastSlack rmX7_leastSlack X [.ref b, .int a1, .int a2] (RP X LM b V) (some (.int out.1)) b (b + LM.length) (RP X LM b out.2) := by
  refine mt_head (cc := cX7_leastSlack) (maxL := 8) (ret := (some .int)) (own := RX7) (by decide) rfl rfl (Nat.le_of_ble_eq_true rfl) ?_
  intro p e s m below meth c ls F hr hlocks hnm hR hl
  have hx := F.1.1
  have hb := F.1.2.1
  have hH : Hp (t_fr b (b + LM.length)) s.heap s.heap.size X LM b V s.heap [] := ⟨hR, va_S.rf, rfl⟩
  have hl : lv_has ls 8 [(0, .ref b), (1, .int a1), (2, .int a2)] := hl
  unfold qX7_leastSlack at hE
  refine lv_iload_n hx hb dX7_leastSlack_0 rfl (lv_at hl 1 rfl) ?_
  obtain ⟨r1, er1, hE⟩ := lt_el hE
  refine rg_callRS (As := [.int a1]) (rest := []) F (mX7_isGate l X a1 r1 er1) (va_cwS 1 F.1.2.2.2.2 gX7_leastSlack_X7_isGate rfl rfl rfl hsX7_isGate ⟨Nat.le_of_ble_eq_true rfl, Nat.le_of_ble_eq_true rfl⟩)  trivial rfl hl.1 (Nat.le_of_ble_eq_true rfl) dX7_leastSlack_1 ⟨Nat.zero_le _, Nat.zero_le _⟩ rfl ?_
  refine lv_if_ne (tgt := 11) hx hb dX7_leastSlack_4 (by decide) (fun c2 => ?_) (fun c2 => ?_)
  · have hE := (if_neg c2).symm.trans hE
    refine lv_iload_n hx hb dX7_leastSlack_11 rfl (lv_at hl 2 rfl) ?_
    refine lv_iconst (v := 0) hx hb dX7_leastSlack_12 (by decide) ?_
    refine lv_iconst (v := 1) hx hb dX7_leastSlack_13 (by decide) ?_
    obtain ⟨r3, er3, hE⟩ := lt_el hE
    refine rg_callRS (As := [.int a2, .int ((0 : Int32)), .int ((1 : Int32))]) (rest := []) F (mX7_in l X a2 ((0 : Int32)) ((1 : Int32)) r3 er3) (va_cwS 3 F.1.2.2.2.2 gX7_leastSlack_X7_in rfl rfl rfl hsX7_in ⟨Nat.le_of_ble_eq_true rfl, Nat.le_of_ble_eq_true rfl⟩)  trivial rfl hl.1 (Nat.le_of_ble_eq_true rfl) dX7_leastSlack_14 ⟨Nat.zero_le _, Nat.zero_le _⟩ rfl ?_
    refine lv_if_ne (tgt := 24) hx hb dX7_leastSlack_17 (by decide) (fun c4 => ?_) (fun c4 => ?_)
    · have hE := (if_neg c4).symm.trans hE
      refine lv_aload_n hx hb dX7_leastSlack_24 rfl (lv_at hl 0 rfl) ?_
      obtain ⟨r5, er5, hE⟩ := bd_el hE
      refine rg_callRV (As := []) (rest := []) F (mX7_passedWords l X b V  r5 er5) (cwV 0 F.1.2.2.2.2 gX7_leastSlack_X7_passedWords rfl rfl rfl hvX7_passedWords ⟨Nat.le_of_ble_eq_true rfl, Nat.le_of_ble_eq_true rfl⟩) (rp_recv F hH.1 0 rfl (C := RX7) (T := TX7) (N := 8) rfl rfl) hH.1 rfl hl.1 (Nat.le_of_ble_eq_true rfl) dX7_leastSlack_25 ⟨Nat.zero_le _, Nat.zero_le _⟩ rfl ?_
      refine lv_istore_n (lv' := [(3, .int r5), (0, .ref b), (1, .int a1), (2, .int a2)]) hx hb dX7_leastSlack_28 rfl hl (by decide) rfl (fun ls hl => ?_)
      refine lv_iconst (v := 0) hx hb dX7_leastSlack_29 (by decide) ?_
      refine lv_istore (lv' := [(4, .int ((0 : Int32))), (3, .int r5), (0, .ref b), (1, .int a1), (2, .int a2)]) hx hb dX7_leastSlack_30 hl (by decide) rfl (fun ls hl => ?_)
      refine lv_iconst (v := (-1)) hx hb dX7_leastSlack_32 (by decide) ?_
      refine lv_istore (lv' := [(5, .int ((-1 : Int32))), (4, .int ((0 : Int32))), (3, .int r5), (0, .ref b), (1, .int a1), (2, .int a2)]) hx hb dX7_leastSlack_33 hl (by decide) rfl (fun ls hl => ?_)
      refine lv_aload_n hx hb dX7_leastSlack_35 rfl (lv_at hl 3 rfl) ?_
      obtain ⟨U6, eU6, hE⟩ := bd_el hE
      refine rg_callWS (As := []) (rest := []) F hH (fun q h1 h2 => ⟨h1, h2⟩) (mX7_putAside l X b V  U6 eU6) (cwV 0 F.1.2.2.2.2 gX7_leastSlack_X7_putAside rfl rfl rfl hvX7_putAside ⟨Nat.le_of_ble_eq_true rfl, Nat.le_of_ble_eq_true rfl⟩) (rp_recv F hH.1 0 rfl (C := RX7) (T := TX7) (N := 8) rfl rfl) hH.1 rfl hl.1 (Nat.le_of_ble_eq_true rfl) dX7_leastSlack_36 ⟨Nat.zero_le _, Nat.zero_le _⟩ rfl (fun H locs hH => ?_)
      refine lv_iconst (v := 0) hx hb dX7_leastSlack_39 (by decide) ?_
      refine lv_istore (lv' := [(6, .int ((0 : Int32))), (5, .int ((-1 : Int32))), (4, .int ((0 : Int32))), (3, .int r5), (0, .ref b), (1, .int a1), (2, .int a2)]) hx hb dX7_leastSlack_40 hl (by decide) rfl (fun ls hl => ?_)
      obtain ⟨x18, hx18, hE⟩ := bd_el hE
      refine it_walk2 (body := lbX7_leastSlack_42 a1 r5) (Wh := fun s7 => ∀ (H : Heap) (locs : List Loc) (ls : Array Slot), Hp (t_fr b (b + LM.length)) s.heap s.heap.size X LM b s7.2.2.2 H locs → lv_has ls 8 [(6, .int s7.2.2.1), (5, .int s7.2.1), (4, .int s7.1), (3, .int r5), (0, .ref b), (1, .int a1), (2, .int a2)] → W p l e rmX7_leastSlack s m ([.ref b, .int a1, .int a2] : List Value).toArray below meth c H locs 0 0 (MQ below (cQw (some (.int out.1)) b (b + LM.length) (RP X LM b out.2)) ([.ref b, .int a1, .int a2] : List Value).toArray s 0 0 (t_fr b (b + LM.length))) (F0 m 42 ls [])) (We := fun s17 => ∀ (H : Heap) (locs : List Loc) (ls : Array Slot), Hp (t_fr b (b + LM.length)) s.heap s.heap.size X LM b s17.2.2.2 H locs → lv_has ls 8 [(6, .int s17.2.2.1), (5, .int s17.2.1), (4, .int s17.1), (3, .int r5), (0, .ref b), (1, .int a1), (2, .int a2)] → W p l e rmX7_leastSlack s m ([.ref b, .int a1, .int a2] : List Value).toArray below meth c H locs 0 0 (MQ below (cQw (some (.int out.1)) b (b + LM.length) (RP X LM b out.2)) ([.ref b, .int a1, .int a2] : List Value).toArray s 0 0 (t_fr b (b + LM.length))) (F0 m 118 ls [])) ?_ _ _ _ hx18 ?_ H locs ls hH (lv_sub hl [0, 1, 2, 3, 4, 5, 6] rfl)
      · intro s7 r9 hE hL9 hR9 H locs ls hH hl
        unfold lbX7_leastSlack_42 at hE
        refine lv_iload hx hb dX7_leastSlack_42 (lv_at hl 0 rfl) ?_
        refine lv_bipush (v := 100) hx hb dX7_leastSlack_44 (by decide) ?_
        refine lv_icmp_ge (tgt := 118) hx hb dX7_leastSlack_46 (by decide) (fun c8 => ?_) (fun c8 => ?_)
        · have hE := (if_pos c8).symm.trans hE
          cases hE
          exact hR9 _ rfl H locs ls hH (lv_sub hl [0, 1, 2, 3, 4, 5, 6] rfl)
        · have hE := (if_neg c8).symm.trans hE
          refine lv_aload_n hx hb dX7_leastSlack_49 rfl (lv_at hl 4 rfl) ?_
          refine rg_getr F hH.1 0 (ci := 7) rfl (C := RX7) (T := TX7) (N := 8) rfl iwX7_leastSlack_X7 0 (d := 1) (n := 1) rfl rfl (by decide) rfl lkX7_leastSlack_0 rfl dX7_leastSlack_50 ?_
          refine lv_iload_n hx hb dX7_leastSlack_53 rfl (lv_at hl 5 rfl) ?_
          refine lv_iconst (v := 1) hx hb dX7_leastSlack_54 (by decide) ?_
          obtain ⟨r9, er9, hE⟩ := lt_el hE
          refine rg_callRS (As := [.int a1, .int ((1 : Int32))]) (rest := [.ref (b + 1)]) F (mX7_ofGate l X a1 ((1 : Int32)) r9 er9) (va_cwS 2 F.1.2.2.2.2 gX7_leastSlack_X7_ofGate rfl rfl rfl hsX7_ofGate ⟨Nat.le_of_ble_eq_true rfl, Nat.le_of_ble_eq_true rfl⟩)  trivial rfl hl.1 (Nat.le_of_ble_eq_true rfl) dX7_leastSlack_55 ⟨Nat.zero_le _, Nat.zero_le _⟩ rfl ?_
          refine lv_iload hx hb dX7_leastSlack_58 (lv_at hl 0 rfl) ?_
          obtain ⟨g10, hE⟩ := gd_el hE
          obtain ⟨V11, eV11, hE⟩ := lt_el hE
          refine rg_iast F hH (fun q h1 h2 => ⟨h1, h2⟩) 1 (n := 131) rfl g10 rfl dX7_leastSlack_60 (fun H locs hH => ?_)
          replace hH := hp_cast eV11 hH
          refine lv_aload_n hx hb dX7_leastSlack_61 rfl (lv_at hl 4 rfl) ?_
          refine lv_sipush (v := 200) hx hb dX7_leastSlack_62 (by decide) ?_
          obtain ⟨U12, eU12, hE⟩ := bd_el hE
          refine rg_callWS (As := [.int ((200 : Int32))]) (rest := []) F hH (fun q h1 h2 => ⟨h1, h2⟩) (mX7_runs l X b V11 ((200 : Int32)) U12 eU12) (cwV 1 F.1.2.2.2.2 gX7_leastSlack_X7_runs rfl rfl rfl hvX7_runs ⟨Nat.le_of_ble_eq_true rfl, Nat.le_of_ble_eq_true rfl⟩) (rp_recv F hH.1 0 rfl (C := RX7) (T := TX7) (N := 8) rfl rfl) hH.1 rfl hl.1 (Nat.le_of_ble_eq_true rfl) dX7_leastSlack_65 ⟨Nat.zero_le _, Nat.zero_le _⟩ rfl (fun H locs hH => ?_)
          refine lv_aload_n hx hb dX7_leastSlack_68 rfl (lv_at hl 4 rfl) ?_
          obtain ⟨r13, er13, hE⟩ := bd_el hE
          refine rg_callRV (As := []) (rest := []) F (mX7_passedWords l X b U12  r13 er13) (cwV 0 F.1.2.2.2.2 gX7_leastSlack_X7_passedWords rfl rfl rfl hvX7_passedWords ⟨Nat.le_of_ble_eq_true rfl, Nat.le_of_ble_eq_true rfl⟩) (rp_recv F hH.1 0 rfl (C := RX7) (T := TX7) (N := 8) rfl rfl) hH.1 rfl hl.1 (Nat.le_of_ble_eq_true rfl) dX7_leastSlack_69 ⟨Nat.zero_le _, Nat.zero_le _⟩ rfl ?_
          refine lv_iload_n hx hb dX7_leastSlack_72 rfl (lv_at hl 3 rfl) ?_
          refine lv_isub hx hb dX7_leastSlack_73 ?_
          refine lv_istore (lv' := [(7, .int (r13 - r5)), (6, .int s7.2.2.1), (5, .int s7.2.1), (4, .int s7.1), (3, .int r5), (0, .ref b), (1, .int a1), (2, .int a2)]) hx hb dX7_leastSlack_74 hl (by decide) rfl (fun ls hl => ?_)
          refine lv_iload hx hb dX7_leastSlack_76 (lv_at hl 0 rfl) ?_
          refine lv_iload hx hb dX7_leastSlack_78 (lv_at hl 2 rfl) ?_
          refine lv_icmp_le (tgt := 88) hx hb dX7_leastSlack_80 (by decide) (fun c14 => ?_) (fun c14 => ?_)
          · have hE := (if_pos c14).symm.trans hE
            refine lv_iload hx hb dX7_leastSlack_88 (lv_at hl 3 rfl) ?_
            refine lv_istore (lv' := [(4, .int s7.1), (7, .int (r13 - r5)), (6, .int s7.2.2.1), (5, .int s7.2.1), (3, .int r5), (0, .ref b), (1, .int a1), (2, .int a2)]) hx hb dX7_leastSlack_90 hl (by decide) rfl (fun ls hl => ?_)
            refine lv_iload hx hb dX7_leastSlack_92 (lv_at hl 1 rfl) ?_
            refine lv_iload hx hb dX7_leastSlack_94 (lv_at hl 3 rfl) ?_
            refine lv_icmp_le (tgt := 104) hx hb dX7_leastSlack_96 (by decide) (fun _ => ?_) (fun c => absurd c14 c)
            refine lv_iload hx hb dX7_leastSlack_104 (lv_at hl 3 rfl) ?_
            refine lv_istore (lv' := [(5, .int s7.2.1), (4, .int s7.1), (7, .int (r13 - r5)), (6, .int s7.2.2.1), (3, .int r5), (0, .ref b), (1, .int a1), (2, .int a2)]) hx hb dX7_leastSlack_106 hl (by decide) rfl (fun ls hl => ?_)
            refine lv_aload_n hx hb dX7_leastSlack_108 rfl (lv_at hl 5 rfl) ?_
            obtain ⟨U15, eU15, hE⟩ := bd_el hE
            refine rg_callWS (As := []) (rest := []) F hH (fun q h1 h2 => ⟨h1, h2⟩) (mX7_putBack l X b U12  U15 eU15) (cwV 0 F.1.2.2.2.2 gX7_leastSlack_X7_putBack rfl rfl rfl hvX7_putBack ⟨Nat.le_of_ble_eq_true rfl, Nat.le_of_ble_eq_true rfl⟩) (rp_recv F hH.1 0 rfl (C := RX7) (T := TX7) (N := 8) rfl rfl) hH.1 rfl hl.1 (Nat.le_of_ble_eq_true rfl) dX7_leastSlack_109 ⟨Nat.zero_le _, Nat.zero_le _⟩ rfl (fun H locs hH => ?_)
            refine lv_iinc (v := s7.2.2.1 + 1) (lv' := [(6, .int (s7.2.2.1 + 1)), (5, .int s7.2.1), (4, .int s7.1), (7, .int (r13 - r5)), (3, .int r5), (0, .ref b), (1, .int a1), (2, .int a2)]) hx hb dX7_leastSlack_112 hl (k := 3) rfl (congrArg (fun q => s7.2.2.1 + q) (by decide)) (by decide) rfl (fun ls hl => ?_)
            refine lv_goto (tgt := 42) hx hb dX7_leastSlack_115 (by decide) ?_
            cases hE
            exact hL9 _ rfl H locs ls hH (lv_sub hl [0, 1, 2, 4, 5, 6, 7] rfl)
          · have hE := (if_neg c14).symm.trans hE
            refine lv_iload hx hb dX7_leastSlack_83 (lv_at hl 1 rfl) ?_
            refine lv_goto (tgt := 90) hx hb dX7_leastSlack_85 (by decide) ?_
            refine lv_istore (lv' := [(4, .int s7.2.2.1), (7, .int (r13 - r5)), (6, .int s7.2.2.1), (5, .int s7.2.1), (3, .int r5), (0, .ref b), (1, .int a1), (2, .int a2)]) hx hb dX7_leastSlack_90 hl (by decide) rfl (fun ls hl => ?_)
            refine lv_iload hx hb dX7_leastSlack_92 (lv_at hl 1 rfl) ?_
            refine lv_iload hx hb dX7_leastSlack_94 (lv_at hl 3 rfl) ?_
            refine lv_icmp_le (tgt := 104) hx hb dX7_leastSlack_96 (by decide) (fun c => absurd c c14) (fun _ => ?_)
            refine lv_iload hx hb dX7_leastSlack_99 (lv_at hl 1 rfl) ?_
            refine lv_goto (tgt := 106) hx hb dX7_leastSlack_101 (by decide) ?_
            refine lv_istore (lv' := [(5, .int (r13 - r5)), (4, .int s7.2.2.1), (7, .int (r13 - r5)), (6, .int s7.2.2.1), (3, .int r5), (0, .ref b), (1, .int a1), (2, .int a2)]) hx hb dX7_leastSlack_106 hl (by decide) rfl (fun ls hl => ?_)
            refine lv_aload_n hx hb dX7_leastSlack_108 rfl (lv_at hl 5 rfl) ?_
            obtain ⟨U16, eU16, hE⟩ := bd_el hE
            refine rg_callWS (As := []) (rest := []) F hH (fun q h1 h2 => ⟨h1, h2⟩) (mX7_putBack l X b U12  U16 eU16) (cwV 0 F.1.2.2.2.2 gX7_leastSlack_X7_putBack rfl rfl rfl hvX7_putBack ⟨Nat.le_of_ble_eq_true rfl, Nat.le_of_ble_eq_true rfl⟩) (rp_recv F hH.1 0 rfl (C := RX7) (T := TX7) (N := 8) rfl rfl) hH.1 rfl hl.1 (Nat.le_of_ble_eq_true rfl) dX7_leastSlack_109 ⟨Nat.zero_le _, Nat.zero_le _⟩ rfl (fun H locs hH => ?_)
            refine lv_iinc (v := s7.2.2.1 + 1) (lv' := [(6, .int (s7.2.2.1 + 1)), (5, .int (r13 - r5)), (4, .int s7.2.2.1), (7, .int (r13 - r5)), (3, .int r5), (0, .ref b), (1, .int a1), (2, .int a2)]) hx hb dX7_leastSlack_112 hl (k := 3) rfl (congrArg (fun q => s7.2.2.1 + q) (by decide)) (by decide) rfl (fun ls hl => ?_)
            refine lv_goto (tgt := 42) hx hb dX7_leastSlack_115 (by decide) ?_
            cases hE
            exact hL9 _ rfl H locs ls hH (lv_sub hl [0, 1, 2, 4, 5, 6, 7] rfl)
      · intro H locs ls hH hl
        refine lv_iload_n hx hb dX7_leastSlack_118 rfl (lv_at hl 6 rfl) ?_
        refine lv_if_ne (tgt := 127) hx hb dX7_leastSlack_119 (by decide) (fun c19 => ?_) (fun c19 => ?_)
        · have hE := (if_neg c19).symm.trans hE
          refine lv_iload hx hb dX7_leastSlack_127 (lv_at hl 1 rfl) ?_
          have hE := Option.some.inj hE
          subst hE
          exact W.iret (v := x18.2.1) hx hb hr (fun t ht _ => mw_post hH ht) hH.2.1.2.2 dX7_leastSlack_129
        · have hE := (if_pos c19).symm.trans hE
          refine lv_iload hx hb dX7_leastSlack_122 (lv_at hl 2 rfl) ?_
          refine lv_goto (tgt := 129) hx hb dX7_leastSlack_124 (by decide) ?_
          have hE := Option.some.inj hE
          subst hE
          exact W.iret (v := x18.1) hx hb hr (fun t ht _ => mw_post hH ht) hH.2.1.2.2 dX7_leastSlack_129
    · have hE := (if_pos c4).symm.trans hE
      refine lv_sipush (v := (-1002)) hx hb dX7_leastSlack_20 (by decide) ?_
      have hE := Option.some.inj hE
      subst hE
      exact W.iret (v := (-1002 : Int32)) hx hb hr (fun t ht _ => mw_post hH ht) hH.2.1.2.2 dX7_leastSlack_23
  · have hE := (if_pos c2).symm.trans hE
    refine lv_sipush (v := (-1001)) hx hb dX7_leastSlack_7 (by decide) ?_
    have hE := Option.some.inj hE
    subst hE
    exact W.iret (v := (-1001 : Int32)) hx hb hr (fun t ht _ => mw_post hH ht) hH.2.1.2.2 dX7_leastSlack_10
set_option maxRecDepth 20000 in
theorem lkX7_opensWith_0 : Cond.fieldLink RX7 7 "TideWordsModel" "s" "[I" ∈ wsX7_opensWith := by decide +kernel
set_option maxRecDepth 20000 in
theorem iwX7_opensWith_X7 : ∀ w ∈ wsX70, w ∈ wsX7_opensWith := by decide +kernel
def lbX7_opensWith_29 (a2 : Int32) (V5 : Mem) (s6 : Int32 × Int32) : Option ((Int32 × Int32) ⊕ (Int32 × Int32)) := if (200 : Int32) ≤ s6.2 then some (.inr (s6.1, s6.2)) else (qX7_off V5 ((V5 1 0) + s6.2)).bind (fun r8 => lt (fX7_ofGate a2 ((1 : Int32))) (fun r9 => if r9 < 0 ∨ 131 ≤ r9.toNatClampNeg then none else if V5 1 r9.toNatClampNeg < r8 then some (.inl (s6.1 + ((0 : Int32)), s6.2 + 1)) else some (.inl (s6.1 + ((1 : Int32)), s6.2 + 1))))
def qX7_opensWith (V : Mem) (a1 : Int32) (a2 : Int32) (a3 : Int32) : Option (Int32 × Mem) := lt (fX7_ofStore a1 ((3 : Int32))) (fun r1 => if r1 < 0 ∨ 131 ≤ r1.toNatClampNeg then none else lt (fX7_ofStore a1 ((3 : Int32))) (fun r3 => if r3 < 0 ∨ 131 ≤ r3.toNatClampNeg then none else lt (sv V 1 r3.toNatClampNeg a3) (fun V5 => (it (lbX7_opensWith_29 a2 V5) fuel ((0 : Int32), (0 : Int32))).bind (fun s12 => lt (fX7_ofStore a1 ((3 : Int32))) (fun r14 => if r14 < 0 ∨ 131 ≤ r14.toNatClampNeg then none else lt (sv V5 1 r14.toNatClampNeg (V 1 r1.toNatClampNeg)) (fun V16 => some ((s12.1, V16))))))))
abbrev rmX7_opensWith : Room := { frames := 3, cells := 0, slots := 0, locals := 69 }
set_option maxHeartbeats 4000000 in
set_option maxRecDepth 100000 in
theorem mX7_opensWith (l : Launch) (X : kX) (b : Nat) (V : Mem) (a1 : Int32) (a2 : Int32) (a3 : Int32) (out : Int32 × Mem) (hE : qX7_opensWith V a1 a2 a3 = some out) : MW l yX7_opensWith wsX7_opensWith rmX7_opensWith X [.ref b, .int a1, .int a2, .int a3] (RP X LM b V) (some (.int out.1)) b (b + LM.length) (RP X LM b out.2) := by
  refine mt_head (cc := cX7_opensWith) (maxL := 7) (ret := (some .int)) (own := RX7) (by decide) rfl rfl (Nat.le_of_ble_eq_true rfl) ?_
  intro p e s m below meth c ls F hr hlocks hnm hR hl
  have hx := F.1.1
  have hb := F.1.2.1
  have hH : Hp (t_fr b (b + LM.length)) s.heap s.heap.size X LM b V s.heap [] := ⟨hR, va_S.rf, rfl⟩
  have hl : lv_has ls 7 [(0, .ref b), (1, .int a1), (2, .int a2), (3, .int a3)] := hl
  unfold qX7_opensWith at hE
  refine lv_iconst (v := 0) hx hb dX7_opensWith_0 (by decide) ?_
  refine lv_istore (lv' := [(4, .int ((0 : Int32))), (0, .ref b), (1, .int a1), (2, .int a2), (3, .int a3)]) hx hb dX7_opensWith_1 hl (by decide) rfl (fun ls hl => ?_)
  refine lv_aload_n hx hb dX7_opensWith_3 rfl (lv_at hl 1 rfl) ?_
  refine rg_getr F hH.1 0 (ci := 7) rfl (C := RX7) (T := TX7) (N := 8) rfl iwX7_opensWith_X7 0 (d := 1) (n := 1) rfl rfl (by decide) rfl lkX7_opensWith_0 rfl dX7_opensWith_4 ?_
  refine lv_iload_n hx hb dX7_opensWith_7 rfl (lv_at hl 2 rfl) ?_
  refine lv_iconst (v := 3) hx hb dX7_opensWith_8 (by decide) ?_
  obtain ⟨r1, er1, hE⟩ := lt_el hE
  refine rg_callRS (As := [.int a1, .int ((3 : Int32))]) (rest := [.ref (b + 1)]) F (mX7_ofStore l X a1 ((3 : Int32)) r1 er1) (va_cwS 2 F.1.2.2.2.2 gX7_opensWith_X7_ofStore rfl rfl rfl hsX7_ofStore ⟨Nat.le_of_ble_eq_true rfl, Nat.le_of_ble_eq_true rfl⟩)  trivial rfl hl.1 (Nat.le_of_ble_eq_true rfl) dX7_opensWith_9 ⟨Nat.zero_le _, Nat.zero_le _⟩ rfl ?_
  obtain ⟨g2, hE⟩ := gd_el hE
  refine rg_iald F hH.1 1 (n := 131) rfl g2 rfl dX7_opensWith_12 ?_
  refine lv_istore (lv' := [(5, .int (V 1 r1.toNatClampNeg)), (4, .int ((0 : Int32))), (0, .ref b), (1, .int a1), (2, .int a2), (3, .int a3)]) hx hb dX7_opensWith_13 hl (by decide) rfl (fun ls hl => ?_)
  refine lv_aload_n hx hb dX7_opensWith_15 rfl (lv_at hl 2 rfl) ?_
  refine rg_getr F hH.1 0 (ci := 7) rfl (C := RX7) (T := TX7) (N := 8) rfl iwX7_opensWith_X7 0 (d := 1) (n := 1) rfl rfl (by decide) rfl lkX7_opensWith_0 rfl dX7_opensWith_16 ?_
  refine lv_iload_n hx hb dX7_opensWith_19 rfl (lv_at hl 3 rfl) ?_
  refine lv_iconst (v := 3) hx hb dX7_opensWith_20 (by decide) ?_
  obtain ⟨r3, er3, hE⟩ := lt_el hE
  refine rg_callRS (As := [.int a1, .int ((3 : Int32))]) (rest := [.ref (b + 1)]) F (mX7_ofStore l X a1 ((3 : Int32)) r3 er3) (va_cwS 2 F.1.2.2.2.2 gX7_opensWith_X7_ofStore rfl rfl rfl hsX7_ofStore ⟨Nat.le_of_ble_eq_true rfl, Nat.le_of_ble_eq_true rfl⟩)  trivial rfl hl.1 (Nat.le_of_ble_eq_true rfl) dX7_opensWith_21 ⟨Nat.zero_le _, Nat.zero_le _⟩ rfl ?_
  refine lv_iload_n hx hb dX7_opensWith_24 rfl (lv_at hl 5 rfl) ?_
  obtain ⟨g4, hE⟩ := gd_el hE
  obtain ⟨V5, eV5, hE⟩ := lt_el hE
  refine rg_iast F hH (fun q h1 h2 => ⟨h1, h2⟩) 1 (n := 131) rfl g4 rfl dX7_opensWith_25 (fun H locs hH => ?_)
  replace hH := hp_cast eV5 hH
  refine lv_iconst (v := 0) hx hb dX7_opensWith_26 (by decide) ?_
  refine lv_istore (lv' := [(6, .int ((0 : Int32))), (5, .int (V 1 r1.toNatClampNeg)), (4, .int ((0 : Int32))), (0, .ref b), (1, .int a1), (2, .int a2), (3, .int a3)]) hx hb dX7_opensWith_27 hl (by decide) rfl (fun ls hl => ?_)
  obtain ⟨x13, hx13, hE⟩ := bd_el hE
  refine it_walk2 (body := lbX7_opensWith_29 a2 V5) (Wh := fun s6 => ∀ (ls : Array Slot), lv_has ls 7 [(6, .int s6.2), (5, .int (V 1 r1.toNatClampNeg)), (4, .int s6.1), (0, .ref b), (1, .int a1), (2, .int a2), (3, .int a3)] → W p l e rmX7_opensWith s m ([.ref b, .int a1, .int a2, .int a3] : List Value).toArray below meth c H locs 0 0 (MQ below (cQw (some (.int out.1)) b (b + LM.length) (RP X LM b out.2)) ([.ref b, .int a1, .int a2, .int a3] : List Value).toArray s 0 0 (t_fr b (b + LM.length))) (F0 m 29 ls [])) (We := fun s12 => ∀ (ls : Array Slot), lv_has ls 7 [(6, .int s12.2), (5, .int (V 1 r1.toNatClampNeg)), (4, .int s12.1), (0, .ref b), (1, .int a1), (2, .int a2), (3, .int a3)] → W p l e rmX7_opensWith s m ([.ref b, .int a1, .int a2, .int a3] : List Value).toArray below meth c H locs 0 0 (MQ below (cQw (some (.int out.1)) b (b + LM.length) (RP X LM b out.2)) ([.ref b, .int a1, .int a2, .int a3] : List Value).toArray s 0 0 (t_fr b (b + LM.length))) (F0 m 79 ls [])) ?_ _ _ _ hx13 ?_ ls (lv_sub hl [0, 1, 2, 3, 4, 5, 6] rfl)
  · intro s6 r9 hE hL9 hR9 ls hl
    unfold lbX7_opensWith_29 at hE
    refine lv_iload hx hb dX7_opensWith_29 (lv_at hl 0 rfl) ?_
    refine lv_sipush (v := 200) hx hb dX7_opensWith_31 (by decide) ?_
    refine lv_icmp_ge (tgt := 79) hx hb dX7_opensWith_34 (by decide) (fun c7 => ?_) (fun c7 => ?_)
    · have hE := (if_pos c7).symm.trans hE
      cases hE
      exact hR9 _ rfl ls (lv_sub hl [0, 1, 2, 3, 4, 5, 6] rfl)
    · have hE := (if_neg c7).symm.trans hE
      refine lv_iload hx hb dX7_opensWith_37 (lv_at hl 2 rfl) ?_
      refine lv_aload_n hx hb dX7_opensWith_39 rfl (lv_at hl 3 rfl) ?_
      refine lv_aload_n hx hb dX7_opensWith_40 rfl (lv_at hl 3 rfl) ?_
      refine rg_getr F hH.1 0 (ci := 7) rfl (C := RX7) (T := TX7) (N := 8) rfl iwX7_opensWith_X7 0 (d := 1) (n := 1) rfl rfl (by decide) rfl lkX7_opensWith_0 rfl dX7_opensWith_41 ?_
      refine lv_iconst (v := 0) hx hb dX7_opensWith_44 (by decide) ?_
      refine rg_iald F hH.1 1 rfl (i := 0) (by decide) rfl dX7_opensWith_45 ?_
      refine lv_iload hx hb dX7_opensWith_46 (lv_at hl 0 rfl) ?_
      refine lv_iadd hx hb dX7_opensWith_48 ?_
      obtain ⟨r8, er8, hE⟩ := bd_el hE
      refine rg_callRV (As := [.int ((V5 1 0) + s6.2)]) (rest := [.int s6.1]) F (mX7_off l X b V5 ((V5 1 0) + s6.2) r8 er8) (cwV 1 F.1.2.2.2.2 gX7_opensWith_X7_off rfl rfl rfl hvX7_off ⟨Nat.le_of_ble_eq_true rfl, Nat.le_of_ble_eq_true rfl⟩) (rp_recv F hH.1 0 rfl (C := RX7) (T := TX7) (N := 8) rfl rfl) hH.1 rfl hl.1 (Nat.le_of_ble_eq_true rfl) dX7_opensWith_49 ⟨Nat.zero_le _, Nat.zero_le _⟩ rfl ?_
      refine lv_aload_n hx hb dX7_opensWith_52 rfl (lv_at hl 3 rfl) ?_
      refine rg_getr F hH.1 0 (ci := 7) rfl (C := RX7) (T := TX7) (N := 8) rfl iwX7_opensWith_X7 0 (d := 1) (n := 1) rfl rfl (by decide) rfl lkX7_opensWith_0 rfl dX7_opensWith_53 ?_
      refine lv_iload_n hx hb dX7_opensWith_56 rfl (lv_at hl 5 rfl) ?_
      refine lv_iconst (v := 1) hx hb dX7_opensWith_57 (by decide) ?_
      obtain ⟨r9, er9, hE⟩ := lt_el hE
      refine rg_callRS (As := [.int a2, .int ((1 : Int32))]) (rest := [.ref (b + 1), .int r8, .int s6.1]) F (mX7_ofGate l X a2 ((1 : Int32)) r9 er9) (va_cwS 2 F.1.2.2.2.2 gX7_opensWith_X7_ofGate rfl rfl rfl hsX7_ofGate ⟨Nat.le_of_ble_eq_true rfl, Nat.le_of_ble_eq_true rfl⟩)  trivial rfl hl.1 (Nat.le_of_ble_eq_true rfl) dX7_opensWith_58 ⟨Nat.zero_le _, Nat.zero_le _⟩ rfl ?_
      obtain ⟨g10, hE⟩ := gd_el hE
      refine rg_iald F hH.1 1 (n := 131) rfl g10 rfl dX7_opensWith_61 ?_
      refine lv_icmp_gt (tgt := 69) hx hb dX7_opensWith_62 (by decide) (fun c11 => ?_) (fun c11 => ?_)
      · have hE := (if_pos c11).symm.trans hE
        refine lv_iconst (v := 0) hx hb dX7_opensWith_69 (by decide) ?_
        refine lv_iadd hx hb dX7_opensWith_70 ?_
        refine lv_istore (lv' := [(4, .int (s6.1 + ((0 : Int32)))), (6, .int s6.2), (5, .int (V 1 r1.toNatClampNeg)), (0, .ref b), (1, .int a1), (2, .int a2), (3, .int a3)]) hx hb dX7_opensWith_71 hl (by decide) rfl (fun ls hl => ?_)
        refine lv_iinc (v := s6.2 + 1) (lv' := [(6, .int (s6.2 + 1)), (4, .int (s6.1 + ((0 : Int32)))), (5, .int (V 1 r1.toNatClampNeg)), (0, .ref b), (1, .int a1), (2, .int a2), (3, .int a3)]) hx hb dX7_opensWith_73 hl (k := 1) rfl (congrArg (fun q => s6.2 + q) (by decide)) (by decide) rfl (fun ls hl => ?_)
        refine lv_goto (tgt := 29) hx hb dX7_opensWith_76 (by decide) ?_
        cases hE
        exact hL9 _ rfl ls (lv_sub hl [0, 2, 1, 3, 4, 5, 6] rfl)
      · have hE := (if_neg c11).symm.trans hE
        refine lv_iconst (v := 1) hx hb dX7_opensWith_65 (by decide) ?_
        refine lv_goto (tgt := 70) hx hb dX7_opensWith_66 (by decide) ?_
        refine lv_iadd hx hb dX7_opensWith_70 ?_
        refine lv_istore (lv' := [(4, .int (s6.1 + ((1 : Int32)))), (6, .int s6.2), (5, .int (V 1 r1.toNatClampNeg)), (0, .ref b), (1, .int a1), (2, .int a2), (3, .int a3)]) hx hb dX7_opensWith_71 hl (by decide) rfl (fun ls hl => ?_)
        refine lv_iinc (v := s6.2 + 1) (lv' := [(6, .int (s6.2 + 1)), (4, .int (s6.1 + ((1 : Int32)))), (5, .int (V 1 r1.toNatClampNeg)), (0, .ref b), (1, .int a1), (2, .int a2), (3, .int a3)]) hx hb dX7_opensWith_73 hl (k := 1) rfl (congrArg (fun q => s6.2 + q) (by decide)) (by decide) rfl (fun ls hl => ?_)
        refine lv_goto (tgt := 29) hx hb dX7_opensWith_76 (by decide) ?_
        cases hE
        exact hL9 _ rfl ls (lv_sub hl [0, 2, 1, 3, 4, 5, 6] rfl)
  · intro ls hl
    refine lv_aload_n hx hb dX7_opensWith_79 rfl (lv_at hl 3 rfl) ?_
    refine rg_getr F hH.1 0 (ci := 7) rfl (C := RX7) (T := TX7) (N := 8) rfl iwX7_opensWith_X7 0 (d := 1) (n := 1) rfl rfl (by decide) rfl lkX7_opensWith_0 rfl dX7_opensWith_80 ?_
    refine lv_iload_n hx hb dX7_opensWith_83 rfl (lv_at hl 4 rfl) ?_
    refine lv_iconst (v := 3) hx hb dX7_opensWith_84 (by decide) ?_
    obtain ⟨r14, er14, hE⟩ := lt_el hE
    refine rg_callRS (As := [.int a1, .int ((3 : Int32))]) (rest := [.ref (b + 1)]) F (mX7_ofStore l X a1 ((3 : Int32)) r14 er14) (va_cwS 2 F.1.2.2.2.2 gX7_opensWith_X7_ofStore rfl rfl rfl hsX7_ofStore ⟨Nat.le_of_ble_eq_true rfl, Nat.le_of_ble_eq_true rfl⟩)  trivial rfl hl.1 (Nat.le_of_ble_eq_true rfl) dX7_opensWith_85 ⟨Nat.zero_le _, Nat.zero_le _⟩ rfl ?_
    refine lv_iload hx hb dX7_opensWith_88 (lv_at hl 1 rfl) ?_
    obtain ⟨g15, hE⟩ := gd_el hE
    obtain ⟨V16, eV16, hE⟩ := lt_el hE
    refine rg_iast F hH (fun q h1 h2 => ⟨h1, h2⟩) 1 (n := 131) rfl g15 rfl dX7_opensWith_90 (fun H locs hH => ?_)
    replace hH := hp_cast eV16 hH
    refine lv_iload hx hb dX7_opensWith_91 (lv_at hl 2 rfl) ?_
    have hE := Option.some.inj hE
    subst hE
    exact W.iret (v := x13.1) hx hb hr (fun t ht _ => mw_post hH ht) hH.2.1.2.2 dX7_opensWith_93
theorem hvX7_opensWith : yX7_opensWith.cls = RX7 ∧ yX7_opensWith.cls ≠ "java/lang/invoke/MethodHandle" ∧ yX7_opensWith.cls ≠ "java/lang/invoke/VarHandle" ∧ (parseMethodDescriptor yX7_opensWith.desc).map (fun d => d.parameters.length) = some 3 := by decide +kernel
def lbX7_bestLie_26 (a1 : Int32) (a2 : Int32) (s5 : Int32 × Int32 × Int32 × Mem) : Option ((Int32 × Int32 × Int32 × Mem) ⊕ (Int32 × Int32 × Int32 × Mem)) := if (101 : Int32) ≤ s5.2.2.1 then some (.inr (s5.1, s5.2.1, s5.2.2.1, s5.2.2.2)) else if s5.2.2.1 - s5.2.2.1 / ((2 : Int32)) * ((2 : Int32)) = (1 : Int32) then (qX7_opensWith s5.2.2.2 a1 a2 ((-(s5.2.2.1 / ((2 : Int32)))) - ((1 : Int32)))).bind (fun U10 => if U10.1 ≤ s5.2.1 then some (.inl (s5.1, s5.2.1, s5.2.2.1 + 1, U10.2)) else some (.inl ((-(s5.2.2.1 / ((2 : Int32)))) - ((1 : Int32)), U10.1, s5.2.2.1 + 1, U10.2))) else (qX7_opensWith s5.2.2.2 a1 a2 (s5.2.2.1 / ((2 : Int32)))).bind (fun U8 => if U8.1 ≤ s5.2.1 then some (.inl (s5.1, s5.2.1, s5.2.2.1 + 1, U8.2)) else some (.inl (s5.2.2.1 / ((2 : Int32)), U8.1, s5.2.2.1 + 1, U8.2)))
def qX7_bestLie (V : Mem) (a1 : Int32) (a2 : Int32) : Option (Int32 × Mem) := lt (fX7_isStore a1) (fun r1 => if r1 = 0 then some (((-1001 : Int32), V)) else lt (fX7_isGate a2) (fun r3 => if r3 = 0 then some (((-1001 : Int32), V)) else (it (lbX7_bestLie_26 a1 a2) fuel ((0 : Int32), (-1 : Int32), (0 : Int32), V)).bind (fun s12 => some ((s12.1, s12.2.2.2)))))
abbrev rmX7_bestLie : Room := { frames := 4, cells := 0, slots := 0, locals := 95 }
set_option maxHeartbeats 4000000 in
set_option maxRecDepth 100000 in
theorem mX7_bestLie (l : Launch) (X : kX) (b : Nat) (V : Mem) (a1 : Int32) (a2 : Int32) (out : Int32 × Mem) (hE : qX7_bestLie V a1 a2 = some out) : MW l yX7_bestLie wsX7_bestLie rmX7_bestLie X [.ref b, .int a1, .int a2] (RP X LM b V) (some (.int out.1)) b (b + LM.length) (RP X LM b out.2) := by
  refine mt_head (cc := cX7_bestLie) (maxL := 8) (ret := (some .int)) (own := RX7) (by decide) rfl rfl (Nat.le_of_ble_eq_true rfl) ?_
  intro p e s m below meth c ls F hr hlocks hnm hR hl
  have hx := F.1.1
  have hb := F.1.2.1
  have hH : Hp (t_fr b (b + LM.length)) s.heap s.heap.size X LM b V s.heap [] := ⟨hR, va_S.rf, rfl⟩
  have hl : lv_has ls 8 [(0, .ref b), (1, .int a1), (2, .int a2)] := hl
  unfold qX7_bestLie at hE
  refine lv_iload_n hx hb dX7_bestLie_0 rfl (lv_at hl 1 rfl) ?_
  obtain ⟨r1, er1, hE⟩ := lt_el hE
  refine rg_callRS (As := [.int a1]) (rest := []) F (mX7_isStore l X a1 r1 er1) (va_cwS 1 F.1.2.2.2.2 gX7_bestLie_X7_isStore rfl rfl rfl hsX7_isStore ⟨Nat.le_of_ble_eq_true rfl, Nat.le_of_ble_eq_true rfl⟩)  trivial rfl hl.1 (Nat.le_of_ble_eq_true rfl) dX7_bestLie_1 ⟨Nat.zero_le _, Nat.zero_le _⟩ rfl ?_
  refine lv_if_eq (tgt := 14) hx hb dX7_bestLie_4 (by decide) (fun c2 => ?_) (fun c2 => ?_)
  · have hE := (if_pos c2).symm.trans hE
    refine lv_sipush (v := (-1001)) hx hb dX7_bestLie_14 (by decide) ?_
    have hE := Option.some.inj hE
    subst hE
    exact W.iret (v := (-1001 : Int32)) hx hb hr (fun t ht _ => mw_post hH ht) hH.2.1.2.2 dX7_bestLie_17
  · have hE := (if_neg c2).symm.trans hE
    refine lv_iload_n hx hb dX7_bestLie_7 rfl (lv_at hl 2 rfl) ?_
    obtain ⟨r3, er3, hE⟩ := lt_el hE
    refine rg_callRS (As := [.int a2]) (rest := []) F (mX7_isGate l X a2 r3 er3) (va_cwS 1 F.1.2.2.2.2 gX7_bestLie_X7_isGate rfl rfl rfl hsX7_isGate ⟨Nat.le_of_ble_eq_true rfl, Nat.le_of_ble_eq_true rfl⟩)  trivial rfl hl.1 (Nat.le_of_ble_eq_true rfl) dX7_bestLie_8 ⟨Nat.zero_le _, Nat.zero_le _⟩ rfl ?_
    refine lv_if_ne (tgt := 18) hx hb dX7_bestLie_11 (by decide) (fun c4 => ?_) (fun c4 => ?_)
    · have hE := (if_neg c4).symm.trans hE
      refine lv_iconst (v := 0) hx hb dX7_bestLie_18 (by decide) ?_
      refine lv_istore_n (lv' := [(3, .int ((0 : Int32))), (0, .ref b), (1, .int a1), (2, .int a2)]) hx hb dX7_bestLie_19 rfl hl (by decide) rfl (fun ls hl => ?_)
      refine lv_iconst (v := (-1)) hx hb dX7_bestLie_20 (by decide) ?_
      refine lv_istore (lv' := [(4, .int ((-1 : Int32))), (3, .int ((0 : Int32))), (0, .ref b), (1, .int a1), (2, .int a2)]) hx hb dX7_bestLie_21 hl (by decide) rfl (fun ls hl => ?_)
      refine lv_iconst (v := 0) hx hb dX7_bestLie_23 (by decide) ?_
      refine lv_istore (lv' := [(5, .int ((0 : Int32))), (4, .int ((-1 : Int32))), (3, .int ((0 : Int32))), (0, .ref b), (1, .int a1), (2, .int a2)]) hx hb dX7_bestLie_24 hl (by decide) rfl (fun ls hl => ?_)
      obtain ⟨x13, hx13, hE⟩ := bd_el hE
      refine it_walk2 (body := lbX7_bestLie_26 a1 a2) (Wh := fun s5 => ∀ (H : Heap) (locs : List Loc) (ls : Array Slot), Hp (t_fr b (b + LM.length)) s.heap s.heap.size X LM b s5.2.2.2 H locs → lv_has ls 8 [(5, .int s5.2.2.1), (4, .int s5.2.1), (3, .int s5.1), (0, .ref b), (1, .int a1), (2, .int a2)] → W p l e rmX7_bestLie s m ([.ref b, .int a1, .int a2] : List Value).toArray below meth c H locs 0 0 (MQ below (cQw (some (.int out.1)) b (b + LM.length) (RP X LM b out.2)) ([.ref b, .int a1, .int a2] : List Value).toArray s 0 0 (t_fr b (b + LM.length))) (F0 m 26 ls [])) (We := fun s12 => ∀ (H : Heap) (locs : List Loc) (ls : Array Slot), Hp (t_fr b (b + LM.length)) s.heap s.heap.size X LM b s12.2.2.2 H locs → lv_has ls 8 [(5, .int s12.2.2.1), (4, .int s12.2.1), (3, .int s12.1), (0, .ref b), (1, .int a1), (2, .int a2)] → W p l e rmX7_bestLie s m ([.ref b, .int a1, .int a2] : List Value).toArray below meth c H locs 0 0 (MQ below (cQw (some (.int out.1)) b (b + LM.length) (RP X LM b out.2)) ([.ref b, .int a1, .int a2] : List Value).toArray s 0 0 (t_fr b (b + LM.length))) (F0 m 103 ls [])) ?_ _ _ _ hx13 ?_ s.heap [] ls hH (lv_sub hl [0, 1, 2, 3, 4, 5] rfl)
      · intro s5 r9 hE hL9 hR9 H locs ls hH hl
        unfold lbX7_bestLie_26 at hE
        refine lv_iload hx hb dX7_bestLie_26 (lv_at hl 0 rfl) ?_
        refine lv_bipush (v := 101) hx hb dX7_bestLie_28 (by decide) ?_
        refine lv_icmp_ge (tgt := 103) hx hb dX7_bestLie_30 (by decide) (fun c6 => ?_) (fun c6 => ?_)
        · have hE := (if_pos c6).symm.trans hE
          cases hE
          exact hR9 _ rfl H locs ls hH (lv_sub hl [0, 1, 2, 3, 4, 5] rfl)
        · have hE := (if_neg c6).symm.trans hE
          refine lv_iload hx hb dX7_bestLie_33 (lv_at hl 0 rfl) ?_
          refine lv_iconst (v := 2) hx hb dX7_bestLie_35 (by decide) ?_
          refine lv_irem hx hb dX7_bestLie_36 (by decide) ?_
          refine lv_iconst (v := 1) hx hb dX7_bestLie_37 (by decide) ?_
          refine lv_icmp_ne (tgt := 51) hx hb dX7_bestLie_38 (by decide) (fun c7 => ?_) (fun c7 => ?_)
          · have hE := (if_neg c7).symm.trans hE
            refine lv_iload hx hb dX7_bestLie_51 (lv_at hl 0 rfl) ?_
            refine lv_iconst (v := 2) hx hb dX7_bestLie_53 (by decide) ?_
            refine lv_idiv hx hb dX7_bestLie_54 (by decide) ?_
            refine lv_istore (lv' := [(6, .int (s5.2.2.1 / ((2 : Int32)))), (5, .int s5.2.2.1), (4, .int s5.2.1), (3, .int s5.1), (0, .ref b), (1, .int a1), (2, .int a2)]) hx hb dX7_bestLie_55 hl (by decide) rfl (fun ls hl => ?_)
            refine lv_aload_n hx hb dX7_bestLie_57 rfl (lv_at hl 4 rfl) ?_
            refine lv_iload_n hx hb dX7_bestLie_58 rfl (lv_at hl 5 rfl) ?_
            refine lv_iload_n hx hb dX7_bestLie_59 rfl (lv_at hl 6 rfl) ?_
            refine lv_iload hx hb dX7_bestLie_60 (lv_at hl 0 rfl) ?_
            obtain ⟨U8, eU8, hE⟩ := bd_el hE
            refine rg_callWS (As := [.int a1, .int a2, .int (s5.2.2.1 / ((2 : Int32)))]) (rest := []) F hH (fun q h1 h2 => ⟨h1, h2⟩) (mX7_opensWith l X b s5.2.2.2 a1 a2 (s5.2.2.1 / ((2 : Int32))) U8 eU8) (cwV 3 F.1.2.2.2.2 gX7_bestLie_X7_opensWith rfl rfl rfl hvX7_opensWith ⟨Nat.le_of_ble_eq_true rfl, Nat.le_of_ble_eq_true rfl⟩) (rp_recv F hH.1 0 rfl (C := RX7) (T := TX7) (N := 8) rfl rfl) hH.1 rfl hl.1 (Nat.le_of_ble_eq_true rfl) dX7_bestLie_62 ⟨Nat.zero_le _, Nat.zero_le _⟩ rfl (fun H locs hH => ?_)
            refine lv_istore (lv' := [(7, .int U8.1), (6, .int (s5.2.2.1 / ((2 : Int32)))), (5, .int s5.2.2.1), (4, .int s5.2.1), (3, .int s5.1), (0, .ref b), (1, .int a1), (2, .int a2)]) hx hb dX7_bestLie_65 hl (by decide) rfl (fun ls hl => ?_)
            refine lv_iload hx hb dX7_bestLie_67 (lv_at hl 0 rfl) ?_
            refine lv_iload hx hb dX7_bestLie_69 (lv_at hl 3 rfl) ?_
            refine lv_icmp_le (tgt := 79) hx hb dX7_bestLie_71 (by decide) (fun c9 => ?_) (fun c9 => ?_)
            · have hE := (if_pos c9).symm.trans hE
              refine lv_iload_n hx hb dX7_bestLie_79 rfl (lv_at hl 4 rfl) ?_
              refine lv_istore_n (lv' := [(3, .int s5.1), (7, .int U8.1), (6, .int (s5.2.2.1 / ((2 : Int32)))), (5, .int s5.2.2.1), (4, .int s5.2.1), (0, .ref b), (1, .int a1), (2, .int a2)]) hx hb dX7_bestLie_80 rfl hl (by decide) rfl (fun ls hl => ?_)
              refine lv_iload hx hb dX7_bestLie_81 (lv_at hl 1 rfl) ?_
              refine lv_iload hx hb dX7_bestLie_83 (lv_at hl 4 rfl) ?_
              refine lv_icmp_le (tgt := 93) hx hb dX7_bestLie_85 (by decide) (fun _ => ?_) (fun c => absurd c9 c)
              refine lv_iload hx hb dX7_bestLie_93 (lv_at hl 4 rfl) ?_
              refine lv_istore (lv' := [(4, .int s5.2.1), (3, .int s5.1), (7, .int U8.1), (6, .int (s5.2.2.1 / ((2 : Int32)))), (5, .int s5.2.2.1), (0, .ref b), (1, .int a1), (2, .int a2)]) hx hb dX7_bestLie_95 hl (by decide) rfl (fun ls hl => ?_)
              refine lv_iinc (v := s5.2.2.1 + 1) (lv' := [(5, .int (s5.2.2.1 + 1)), (4, .int s5.2.1), (3, .int s5.1), (7, .int U8.1), (6, .int (s5.2.2.1 / ((2 : Int32)))), (0, .ref b), (1, .int a1), (2, .int a2)]) hx hb dX7_bestLie_97 hl (k := 4) rfl (congrArg (fun q => s5.2.2.1 + q) (by decide)) (by decide) rfl (fun ls hl => ?_)
              refine lv_goto (tgt := 26) hx hb dX7_bestLie_100 (by decide) ?_
              cases hE
              exact hL9 _ rfl H locs ls hH (lv_sub hl [0, 1, 2, 5, 6, 7] rfl)
            · have hE := (if_neg c9).symm.trans hE
              refine lv_iload hx hb dX7_bestLie_74 (lv_at hl 1 rfl) ?_
              refine lv_goto (tgt := 80) hx hb dX7_bestLie_76 (by decide) ?_
              refine lv_istore_n (lv' := [(3, .int (s5.2.2.1 / ((2 : Int32)))), (7, .int U8.1), (6, .int (s5.2.2.1 / ((2 : Int32)))), (5, .int s5.2.2.1), (4, .int s5.2.1), (0, .ref b), (1, .int a1), (2, .int a2)]) hx hb dX7_bestLie_80 rfl hl (by decide) rfl (fun ls hl => ?_)
              refine lv_iload hx hb dX7_bestLie_81 (lv_at hl 1 rfl) ?_
              refine lv_iload hx hb dX7_bestLie_83 (lv_at hl 4 rfl) ?_
              refine lv_icmp_le (tgt := 93) hx hb dX7_bestLie_85 (by decide) (fun c => absurd c c9) (fun _ => ?_)
              refine lv_iload hx hb dX7_bestLie_88 (lv_at hl 1 rfl) ?_
              refine lv_goto (tgt := 95) hx hb dX7_bestLie_90 (by decide) ?_
              refine lv_istore (lv' := [(4, .int U8.1), (3, .int (s5.2.2.1 / ((2 : Int32)))), (7, .int U8.1), (6, .int (s5.2.2.1 / ((2 : Int32)))), (5, .int s5.2.2.1), (0, .ref b), (1, .int a1), (2, .int a2)]) hx hb dX7_bestLie_95 hl (by decide) rfl (fun ls hl => ?_)
              refine lv_iinc (v := s5.2.2.1 + 1) (lv' := [(5, .int (s5.2.2.1 + 1)), (4, .int U8.1), (3, .int (s5.2.2.1 / ((2 : Int32)))), (7, .int U8.1), (6, .int (s5.2.2.1 / ((2 : Int32)))), (0, .ref b), (1, .int a1), (2, .int a2)]) hx hb dX7_bestLie_97 hl (k := 4) rfl (congrArg (fun q => s5.2.2.1 + q) (by decide)) (by decide) rfl (fun ls hl => ?_)
              refine lv_goto (tgt := 26) hx hb dX7_bestLie_100 (by decide) ?_
              cases hE
              exact hL9 _ rfl H locs ls hH (lv_sub hl [0, 1, 2, 5, 6, 7] rfl)
          · have hE := (if_pos c7).symm.trans hE
            refine lv_iload hx hb dX7_bestLie_41 (lv_at hl 0 rfl) ?_
            refine lv_iconst (v := 2) hx hb dX7_bestLie_43 (by decide) ?_
            refine lv_idiv hx hb dX7_bestLie_44 (by decide) ?_
            refine lv_ineg hx hb dX7_bestLie_45 ?_
            refine lv_iconst (v := 1) hx hb dX7_bestLie_46 (by decide) ?_
            refine lv_isub hx hb dX7_bestLie_47 ?_
            refine lv_goto (tgt := 55) hx hb dX7_bestLie_48 (by decide) ?_
            refine lv_istore (lv' := [(6, .int ((-(s5.2.2.1 / ((2 : Int32)))) - ((1 : Int32)))), (5, .int s5.2.2.1), (4, .int s5.2.1), (3, .int s5.1), (0, .ref b), (1, .int a1), (2, .int a2)]) hx hb dX7_bestLie_55 hl (by decide) rfl (fun ls hl => ?_)
            refine lv_aload_n hx hb dX7_bestLie_57 rfl (lv_at hl 4 rfl) ?_
            refine lv_iload_n hx hb dX7_bestLie_58 rfl (lv_at hl 5 rfl) ?_
            refine lv_iload_n hx hb dX7_bestLie_59 rfl (lv_at hl 6 rfl) ?_
            refine lv_iload hx hb dX7_bestLie_60 (lv_at hl 0 rfl) ?_
            obtain ⟨U10, eU10, hE⟩ := bd_el hE
            refine rg_callWS (As := [.int a1, .int a2, .int ((-(s5.2.2.1 / ((2 : Int32)))) - ((1 : Int32)))]) (rest := []) F hH (fun q h1 h2 => ⟨h1, h2⟩) (mX7_opensWith l X b s5.2.2.2 a1 a2 ((-(s5.2.2.1 / ((2 : Int32)))) - ((1 : Int32))) U10 eU10) (cwV 3 F.1.2.2.2.2 gX7_bestLie_X7_opensWith rfl rfl rfl hvX7_opensWith ⟨Nat.le_of_ble_eq_true rfl, Nat.le_of_ble_eq_true rfl⟩) (rp_recv F hH.1 0 rfl (C := RX7) (T := TX7) (N := 8) rfl rfl) hH.1 rfl hl.1 (Nat.le_of_ble_eq_true rfl) dX7_bestLie_62 ⟨Nat.zero_le _, Nat.zero_le _⟩ rfl (fun H locs hH => ?_)
            refine lv_istore (lv' := [(7, .int U10.1), (6, .int ((-(s5.2.2.1 / ((2 : Int32)))) - ((1 : Int32)))), (5, .int s5.2.2.1), (4, .int s5.2.1), (3, .int s5.1), (0, .ref b), (1, .int a1), (2, .int a2)]) hx hb dX7_bestLie_65 hl (by decide) rfl (fun ls hl => ?_)
            refine lv_iload hx hb dX7_bestLie_67 (lv_at hl 0 rfl) ?_
            refine lv_iload hx hb dX7_bestLie_69 (lv_at hl 3 rfl) ?_
            refine lv_icmp_le (tgt := 79) hx hb dX7_bestLie_71 (by decide) (fun c11 => ?_) (fun c11 => ?_)
            · have hE := (if_pos c11).symm.trans hE
              refine lv_iload_n hx hb dX7_bestLie_79 rfl (lv_at hl 4 rfl) ?_
              refine lv_istore_n (lv' := [(3, .int s5.1), (7, .int U10.1), (6, .int ((-(s5.2.2.1 / ((2 : Int32)))) - ((1 : Int32)))), (5, .int s5.2.2.1), (4, .int s5.2.1), (0, .ref b), (1, .int a1), (2, .int a2)]) hx hb dX7_bestLie_80 rfl hl (by decide) rfl (fun ls hl => ?_)
              refine lv_iload hx hb dX7_bestLie_81 (lv_at hl 1 rfl) ?_
              refine lv_iload hx hb dX7_bestLie_83 (lv_at hl 4 rfl) ?_
              refine lv_icmp_le (tgt := 93) hx hb dX7_bestLie_85 (by decide) (fun _ => ?_) (fun c => absurd c11 c)
              refine lv_iload hx hb dX7_bestLie_93 (lv_at hl 4 rfl) ?_
              refine lv_istore (lv' := [(4, .int s5.2.1), (3, .int s5.1), (7, .int U10.1), (6, .int ((-(s5.2.2.1 / ((2 : Int32)))) - ((1 : Int32)))), (5, .int s5.2.2.1), (0, .ref b), (1, .int a1), (2, .int a2)]) hx hb dX7_bestLie_95 hl (by decide) rfl (fun ls hl => ?_)
              refine lv_iinc (v := s5.2.2.1 + 1) (lv' := [(5, .int (s5.2.2.1 + 1)), (4, .int s5.2.1), (3, .int s5.1), (7, .int U10.1), (6, .int ((-(s5.2.2.1 / ((2 : Int32)))) - ((1 : Int32)))), (0, .ref b), (1, .int a1), (2, .int a2)]) hx hb dX7_bestLie_97 hl (k := 4) rfl (congrArg (fun q => s5.2.2.1 + q) (by decide)) (by decide) rfl (fun ls hl => ?_)
              refine lv_goto (tgt := 26) hx hb dX7_bestLie_100 (by decide) ?_
              cases hE
              exact hL9 _ rfl H locs ls hH (lv_sub hl [0, 1, 2, 5, 6, 7] rfl)
            · have hE := (if_neg c11).symm.trans hE
              refine lv_iload hx hb dX7_bestLie_74 (lv_at hl 1 rfl) ?_
              refine lv_goto (tgt := 80) hx hb dX7_bestLie_76 (by decide) ?_
              refine lv_istore_n (lv' := [(3, .int ((-(s5.2.2.1 / ((2 : Int32)))) - ((1 : Int32)))), (7, .int U10.1), (6, .int ((-(s5.2.2.1 / ((2 : Int32)))) - ((1 : Int32)))), (5, .int s5.2.2.1), (4, .int s5.2.1), (0, .ref b), (1, .int a1), (2, .int a2)]) hx hb dX7_bestLie_80 rfl hl (by decide) rfl (fun ls hl => ?_)
              refine lv_iload hx hb dX7_bestLie_81 (lv_at hl 1 rfl) ?_
              refine lv_iload hx hb dX7_bestLie_83 (lv_at hl 4 rfl) ?_
              refine lv_icmp_le (tgt := 93) hx hb dX7_bestLie_85 (by decide) (fun c => absurd c c11) (fun _ => ?_)
              refine lv_iload hx hb dX7_bestLie_88 (lv_at hl 1 rfl) ?_
              refine lv_goto (tgt := 95) hx hb dX7_bestLie_90 (by decide) ?_
              refine lv_istore (lv' := [(4, .int U10.1), (3, .int ((-(s5.2.2.1 / ((2 : Int32)))) - ((1 : Int32)))), (7, .int U10.1), (6, .int ((-(s5.2.2.1 / ((2 : Int32)))) - ((1 : Int32)))), (5, .int s5.2.2.1), (0, .ref b), (1, .int a1), (2, .int a2)]) hx hb dX7_bestLie_95 hl (by decide) rfl (fun ls hl => ?_)
              refine lv_iinc (v := s5.2.2.1 + 1) (lv' := [(5, .int (s5.2.2.1 + 1)), (4, .int U10.1), (3, .int ((-(s5.2.2.1 / ((2 : Int32)))) - ((1 : Int32)))), (7, .int U10.1), (6, .int ((-(s5.2.2.1 / ((2 : Int32)))) - ((1 : Int32)))), (0, .ref b), (1, .int a1), (2, .int a2)]) hx hb dX7_bestLie_97 hl (k := 4) rfl (congrArg (fun q => s5.2.2.1 + q) (by decide)) (by decide) rfl (fun ls hl => ?_)
              refine lv_goto (tgt := 26) hx hb dX7_bestLie_100 (by decide) ?_
              cases hE
              exact hL9 _ rfl H locs ls hH (lv_sub hl [0, 1, 2, 5, 6, 7] rfl)
      · intro H locs ls hH hl
        refine lv_iload_n hx hb dX7_bestLie_103 rfl (lv_at hl 2 rfl) ?_
        have hE := Option.some.inj hE
        subst hE
        exact W.iret (v := x13.1) hx hb hr (fun t ht _ => mw_post hH ht) hH.2.1.2.2 dX7_bestLie_104
    · have hE := (if_pos c4).symm.trans hE
      refine lv_sipush (v := (-1001)) hx hb dX7_bestLie_14 (by decide) ?_
      have hE := Option.some.inj hE
      subst hE
      exact W.iret (v := (-1001 : Int32)) hx hb hr (fun t ht _ => mw_post hH ht) hH.2.1.2.2 dX7_bestLie_17
set_option maxRecDepth 20000 in
theorem lkX7_write_0 : Cond.constantLong RX7 142 (255) ∈ wsX7_write := by decide +kernel
set_option maxRecDepth 20000 in
theorem lkX7_write_1 : Cond.fieldLink RX7 123 "TideWordsModel" "length" "I" ∈ wsX7_write := by decide +kernel
set_option maxRecDepth 20000 in
theorem iwX7_write_X7 : ∀ w ∈ wsX70, w ∈ wsX7_write := by decide +kernel
set_option maxRecDepth 20000 in
theorem lkX7_write_2 : Cond.fieldLink RX7 26 "TideWordsModel" "pad" "[I" ∈ wsX7_write := by decide +kernel
def lbX7_write_8 (a1 : Int64) (s1 : Int32 × Int32 × Int32) : Option ((Int32 × Int32 × Int32) ⊕ (Int32 × Int32 × Int32)) := if (8 : Int32) ≤ s1.2.2 then some (.inr (s1.1, s1.2.1, s1.2.2)) else if s1.2.2 ≤ 0 then if s1.2.1 = 0 then lt (fX7_in ((((a1.toUInt64 >>> ((((8 : Int32)) * s1.2.2).toInt64.toUInt64 &&& Int64.toUInt64 63)).toInt64) &&& ((255 : Int64))).toInt32) ((33 : Int32)) ((126 : Int32))) (fun r5 => if r5 = 0 then some (.inl (s1.1 + ((1 : Int32)), (1 : Int32), s1.2.2 + 1)) else some (.inl (s1.1 + ((1 : Int32)), (0 : Int32), s1.2.2 + 1))) else some (.inl (s1.1 + ((1 : Int32)), (1 : Int32), s1.2.2 + 1)) else if lg_cmp ((a1.toUInt64 >>> ((((8 : Int32)) * s1.2.2).toInt64.toUInt64 &&& Int64.toUInt64 63)).toInt64) ((0 : Int64)) = 0 then if s1.2.1 = 0 then some (.inl (s1.1 + ((0 : Int32)), (0 : Int32), s1.2.2 + 1)) else some (.inl (s1.1 + ((0 : Int32)), (1 : Int32), s1.2.2 + 1)) else if s1.2.1 = 0 then lt (fX7_in ((((a1.toUInt64 >>> ((((8 : Int32)) * s1.2.2).toInt64.toUInt64 &&& Int64.toUInt64 63)).toInt64) &&& ((255 : Int64))).toInt32) ((33 : Int32)) ((126 : Int32))) (fun r9 => if r9 = 0 then some (.inl (s1.1 + ((1 : Int32)), (1 : Int32), s1.2.2 + 1)) else some (.inl (s1.1 + ((1 : Int32)), (0 : Int32), s1.2.2 + 1))) else some (.inl (s1.1 + ((1 : Int32)), (1 : Int32), s1.2.2 + 1))
def lbX7_write_128 (a1 : Int64) (s12 : Int32 × Int32 × Int32) (s16 : Int32 × Mem) : Option ((Int32 × Mem) ⊕ (Int32 × Mem)) := if s12.1 ≤ s16.1 then some (.inr (s16.1, s16.2)) else if (((s16.2 0 1) + s12.1) - ((1 : Int32))) - s16.1 < 0 ∨ 60 ≤ ((((s16.2 0 1) + s12.1) - ((1 : Int32))) - s16.1).toNatClampNeg then none else lt (sv s16.2 6 ((((s16.2 0 1) + s12.1) - ((1 : Int32))) - s16.1).toNatClampNeg ((((a1.toUInt64 >>> ((((8 : Int32)) * s16.1).toInt64.toUInt64 &&& Int64.toUInt64 63)).toInt64) &&& ((255 : Int64))).toInt32)) (fun V19 => some (.inl (s16.1 + 1, V19)))
def qX7_write (V : Mem) (a1 : Int64) : Option (Int32 × Mem) := (it (lbX7_write_8 a1) fuel ((0 : Int32), (0 : Int32), (0 : Int32))).bind (fun s12 => if s12.2.1 = 0 then if (V 0 1) + s12.1 ≤ (60 : Int32) then (it (lbX7_write_128 a1 s12) fuel ((0 : Int32), V)).bind (fun s20 => lt (sv s20.2 0 1 ((s20.2 0 1) + s12.1)) (fun V22 => some ((V22 0 1, V22)))) else some (((-1004 : Int32), V)) else some (((-1002 : Int32), V)))
abbrev rmX7_write : Room := { frames := 1, cells := 0, slots := 0, locals := 22 }
set_option maxHeartbeats 4000000 in
set_option maxRecDepth 100000 in
theorem mX7_write (l : Launch) (X : kX) (b : Nat) (V : Mem) (a1 : Int64) (out : Int32 × Mem) (hE : qX7_write V a1 = some out) : MW l yX7_write wsX7_write rmX7_write X [.ref b, .long a1] (RP X LM b V) (some (.int out.1)) b (b + LM.length) (RP X LM b out.2) := by
  refine mt_head (cc := cX7_write) (maxL := 8) (ret := (some .int)) (own := RX7) (by decide) rfl rfl (Nat.le_of_ble_eq_true rfl) ?_
  intro p e s m below meth c ls F hr hlocks hnm hR hl
  have hx := F.1.1
  have hb := F.1.2.1
  have hH : Hp (t_fr b (b + LM.length)) s.heap s.heap.size X LM b V s.heap [] := ⟨hR, va_S.rf, rfl⟩
  have hl : lv_has ls 8 [(0, .ref b), (1, .long a1)] := hl
  unfold qX7_write at hE
  refine lv_iconst (v := 0) hx hb dX7_write_0 (by decide) ?_
  refine lv_istore_n (lv' := [(3, .int ((0 : Int32))), (0, .ref b), (1, .long a1)]) hx hb dX7_write_1 rfl hl (by decide) rfl (fun ls hl => ?_)
  refine lv_iconst (v := 0) hx hb dX7_write_2 (by decide) ?_
  refine lv_istore (lv' := [(4, .int ((0 : Int32))), (3, .int ((0 : Int32))), (0, .ref b), (1, .long a1)]) hx hb dX7_write_3 hl (by decide) rfl (fun ls hl => ?_)
  refine lv_iconst (v := 0) hx hb dX7_write_5 (by decide) ?_
  refine lv_istore (lv' := [(5, .int ((0 : Int32))), (4, .int ((0 : Int32))), (3, .int ((0 : Int32))), (0, .ref b), (1, .long a1)]) hx hb dX7_write_6 hl (by decide) rfl (fun ls hl => ?_)
  obtain ⟨x13, hx13, hE⟩ := bd_el hE
  refine it_walk2 (body := lbX7_write_8 a1) (Wh := fun s1 => ∀ (ls : Array Slot), lv_has ls 8 [(5, .int s1.2.2), (4, .int s1.2.1), (3, .int s1.1), (0, .ref b), (1, .long a1)] → W p l e rmX7_write s m ([.ref b, .long a1] : List Value).toArray below meth c s.heap [] 0 0 (MQ below (cQw (some (.int out.1)) b (b + LM.length) (RP X LM b out.2)) ([.ref b, .long a1] : List Value).toArray s 0 0 (t_fr b (b + LM.length))) (F0 m 8 ls [])) (We := fun s12 => ∀ (ls : Array Slot), lv_has ls 8 [(5, .int s12.2.2), (4, .int s12.2.1), (3, .int s12.1), (0, .ref b), (1, .long a1)] → W p l e rmX7_write s m ([.ref b, .long a1] : List Value).toArray below meth c s.heap [] 0 0 (MQ below (cQw (some (.int out.1)) b (b + LM.length) (RP X LM b out.2)) ([.ref b, .long a1] : List Value).toArray s 0 0 (t_fr b (b + LM.length))) (F0 m 101 ls [])) ?_ _ _ _ hx13 ?_ ls (lv_sub hl [0, 1, 2, 3, 4] rfl)
  · intro s1 r9 hE hL9 hR9 ls hl
    unfold lbX7_write_8 at hE
    refine lv_iload hx hb dX7_write_8 (lv_at hl 0 rfl) ?_
    refine lv_bipush (v := 8) hx hb dX7_write_10 (by decide) ?_
    refine lv_icmp_ge (tgt := 101) hx hb dX7_write_12 (by decide) (fun c2 => ?_) (fun c2 => ?_)
    · have hE := (if_pos c2).symm.trans hE
      cases hE
      exact hR9 _ rfl ls (lv_sub hl [0, 1, 2, 3, 4] rfl)
    · have hE := (if_neg c2).symm.trans hE
      refine lv_lload_n hx hb dX7_write_15 rfl (lv_at hl 4 rfl) ?_
      refine lv_bipush (v := 8) hx hb dX7_write_16 (by decide) ?_
      refine lv_iload hx hb dX7_write_18 (lv_at hl 0 rfl) ?_
      refine lv_imul hx hb dX7_write_20 ?_
      refine lv_lushr (v := (a1.toUInt64 >>> ((((8 : Int32)) * s1.2.2).toInt64.toUInt64 &&& Int64.toUInt64 63)).toInt64) hx hb dX7_write_21 rfl ?_
      refine lv_ldc2 (v := 255) hx hb F.1.2.2.2.1 (F.1.2.2.2.2 _ lkX7_write_0) dX7_write_22 ?_
      refine lv_land hx hb dX7_write_25 ?_
      refine lv_l2i (v := (((a1.toUInt64 >>> ((((8 : Int32)) * s1.2.2).toInt64.toUInt64 &&& Int64.toUInt64 63)).toInt64) &&& ((255 : Int64))).toInt32) hx hb dX7_write_26 rfl ?_
      refine lv_istore (lv' := [(6, .int ((((a1.toUInt64 >>> ((((8 : Int32)) * s1.2.2).toInt64.toUInt64 &&& Int64.toUInt64 63)).toInt64) &&& ((255 : Int64))).toInt32)), (5, .int s1.2.2), (4, .int s1.2.1), (3, .int s1.1), (0, .ref b), (1, .long a1)]) hx hb dX7_write_27 hl (by decide) rfl (fun ls hl => ?_)
      refine lv_iload hx hb dX7_write_29 (lv_at hl 1 rfl) ?_
      refine lv_if_le (tgt := 50) hx hb dX7_write_31 (by decide) (fun c3 => ?_) (fun c3 => ?_)
      · have hE := (if_pos c3).symm.trans hE
        refine lv_iconst (v := 0) hx hb dX7_write_50 (by decide) ?_
        refine lv_istore (lv' := [(7, .int ((0 : Int32))), (6, .int ((((a1.toUInt64 >>> ((((8 : Int32)) * s1.2.2).toInt64.toUInt64 &&& Int64.toUInt64 63)).toInt64) &&& ((255 : Int64))).toInt32)), (5, .int s1.2.2), (4, .int s1.2.1), (3, .int s1.1), (0, .ref b), (1, .long a1)]) hx hb dX7_write_51 hl (by decide) rfl (fun ls hl => ?_)
        refine lv_iload hx hb dX7_write_53 (lv_at hl 3 rfl) ?_
        refine lv_if_ne (tgt := 75) hx hb dX7_write_55 (by decide) (fun c4 => ?_) (fun c4 => ?_)
        · have hE := (if_neg c4).symm.trans hE
          refine lv_iconst (v := 1) hx hb dX7_write_75 (by decide) ?_
          refine lv_goto (tgt := 80) hx hb dX7_write_76 (by decide) ?_
          refine lv_istore (lv' := [(4, .int ((1 : Int32))), (7, .int ((0 : Int32))), (6, .int ((((a1.toUInt64 >>> ((((8 : Int32)) * s1.2.2).toInt64.toUInt64 &&& Int64.toUInt64 63)).toInt64) &&& ((255 : Int64))).toInt32)), (5, .int s1.2.2), (3, .int s1.1), (0, .ref b), (1, .long a1)]) hx hb dX7_write_80 hl (by decide) rfl (fun ls hl => ?_)
          refine lv_iload_n hx hb dX7_write_82 rfl (lv_at hl 4 rfl) ?_
          refine lv_iload hx hb dX7_write_83 (lv_at hl 1 rfl) ?_
          refine lv_if_eq (tgt := 92) hx hb dX7_write_85 (by decide) (fun _ => ?_) (fun c => absurd c (by decide))
          refine lv_iconst (v := 1) hx hb dX7_write_92 (by decide) ?_
          refine lv_iadd hx hb dX7_write_93 ?_
          refine lv_istore_n (lv' := [(3, .int (s1.1 + ((1 : Int32)))), (4, .int ((1 : Int32))), (7, .int ((0 : Int32))), (6, .int ((((a1.toUInt64 >>> ((((8 : Int32)) * s1.2.2).toInt64.toUInt64 &&& Int64.toUInt64 63)).toInt64) &&& ((255 : Int64))).toInt32)), (5, .int s1.2.2), (0, .ref b), (1, .long a1)]) hx hb dX7_write_94 rfl hl (by decide) rfl (fun ls hl => ?_)
          refine lv_iinc (v := s1.2.2 + 1) (lv' := [(5, .int (s1.2.2 + 1)), (3, .int (s1.1 + ((1 : Int32)))), (4, .int ((1 : Int32))), (7, .int ((0 : Int32))), (6, .int ((((a1.toUInt64 >>> ((((8 : Int32)) * s1.2.2).toInt64.toUInt64 &&& Int64.toUInt64 63)).toInt64) &&& ((255 : Int64))).toInt32)), (0, .ref b), (1, .long a1)]) hx hb dX7_write_95 hl (k := 4) rfl (congrArg (fun q => s1.2.2 + q) (by decide)) (by decide) rfl (fun ls hl => ?_)
          refine lv_goto (tgt := 8) hx hb dX7_write_98 (by decide) ?_
          cases hE
          exact hL9 _ rfl ls (lv_sub hl [0, 2, 1, 5, 6] rfl)
        · have hE := (if_pos c4).symm.trans hE
          refine lv_iload hx hb dX7_write_58 (lv_at hl 0 rfl) ?_
          refine lv_if_ne (tgt := 79) hx hb dX7_write_60 (by decide) (fun c => absurd c (by decide)) (fun _ => ?_)
          refine lv_iload hx hb dX7_write_63 (lv_at hl 1 rfl) ?_
          refine lv_bipush (v := 33) hx hb dX7_write_65 (by decide) ?_
          refine lv_bipush (v := 126) hx hb dX7_write_67 (by decide) ?_
          obtain ⟨r5, er5, hE⟩ := lt_el hE
          refine rg_callRS (As := [.int ((((a1.toUInt64 >>> ((((8 : Int32)) * s1.2.2).toInt64.toUInt64 &&& Int64.toUInt64 63)).toInt64) &&& ((255 : Int64))).toInt32), .int ((33 : Int32)), .int ((126 : Int32))]) (rest := []) F (mX7_in l X ((((a1.toUInt64 >>> ((((8 : Int32)) * s1.2.2).toInt64.toUInt64 &&& Int64.toUInt64 63)).toInt64) &&& ((255 : Int64))).toInt32) ((33 : Int32)) ((126 : Int32)) r5 er5) (va_cwS 3 F.1.2.2.2.2 gX7_write_X7_in rfl rfl rfl hsX7_in ⟨Nat.le_of_ble_eq_true rfl, Nat.le_of_ble_eq_true rfl⟩)  trivial rfl hl.1 (Nat.le_of_ble_eq_true rfl) dX7_write_69 ⟨Nat.zero_le _, Nat.zero_le _⟩ rfl ?_
          refine lv_if_ne (tgt := 79) hx hb dX7_write_72 (by decide) (fun c6 => ?_) (fun c6 => ?_)
          · have hE := (if_neg c6).symm.trans hE
            refine lv_iconst (v := 0) hx hb dX7_write_79 (by decide) ?_
            refine lv_istore (lv' := [(4, .int ((0 : Int32))), (7, .int ((0 : Int32))), (6, .int ((((a1.toUInt64 >>> ((((8 : Int32)) * s1.2.2).toInt64.toUInt64 &&& Int64.toUInt64 63)).toInt64) &&& ((255 : Int64))).toInt32)), (5, .int s1.2.2), (3, .int s1.1), (0, .ref b), (1, .long a1)]) hx hb dX7_write_80 hl (by decide) rfl (fun ls hl => ?_)
            refine lv_iload_n hx hb dX7_write_82 rfl (lv_at hl 4 rfl) ?_
            refine lv_iload hx hb dX7_write_83 (lv_at hl 1 rfl) ?_
            refine lv_if_eq (tgt := 92) hx hb dX7_write_85 (by decide) (fun _ => ?_) (fun c => absurd c (by decide))
            refine lv_iconst (v := 1) hx hb dX7_write_92 (by decide) ?_
            refine lv_iadd hx hb dX7_write_93 ?_
            refine lv_istore_n (lv' := [(3, .int (s1.1 + ((1 : Int32)))), (4, .int ((0 : Int32))), (7, .int ((0 : Int32))), (6, .int ((((a1.toUInt64 >>> ((((8 : Int32)) * s1.2.2).toInt64.toUInt64 &&& Int64.toUInt64 63)).toInt64) &&& ((255 : Int64))).toInt32)), (5, .int s1.2.2), (0, .ref b), (1, .long a1)]) hx hb dX7_write_94 rfl hl (by decide) rfl (fun ls hl => ?_)
            refine lv_iinc (v := s1.2.2 + 1) (lv' := [(5, .int (s1.2.2 + 1)), (3, .int (s1.1 + ((1 : Int32)))), (4, .int ((0 : Int32))), (7, .int ((0 : Int32))), (6, .int ((((a1.toUInt64 >>> ((((8 : Int32)) * s1.2.2).toInt64.toUInt64 &&& Int64.toUInt64 63)).toInt64) &&& ((255 : Int64))).toInt32)), (0, .ref b), (1, .long a1)]) hx hb dX7_write_95 hl (k := 4) rfl (congrArg (fun q => s1.2.2 + q) (by decide)) (by decide) rfl (fun ls hl => ?_)
            refine lv_goto (tgt := 8) hx hb dX7_write_98 (by decide) ?_
            cases hE
            exact hL9 _ rfl ls (lv_sub hl [0, 2, 1, 5, 6] rfl)
          · have hE := (if_pos c6).symm.trans hE
            refine lv_iconst (v := 1) hx hb dX7_write_75 (by decide) ?_
            refine lv_goto (tgt := 80) hx hb dX7_write_76 (by decide) ?_
            refine lv_istore (lv' := [(4, .int ((1 : Int32))), (7, .int ((0 : Int32))), (6, .int ((((a1.toUInt64 >>> ((((8 : Int32)) * s1.2.2).toInt64.toUInt64 &&& Int64.toUInt64 63)).toInt64) &&& ((255 : Int64))).toInt32)), (5, .int s1.2.2), (3, .int s1.1), (0, .ref b), (1, .long a1)]) hx hb dX7_write_80 hl (by decide) rfl (fun ls hl => ?_)
            refine lv_iload_n hx hb dX7_write_82 rfl (lv_at hl 4 rfl) ?_
            refine lv_iload hx hb dX7_write_83 (lv_at hl 1 rfl) ?_
            refine lv_if_eq (tgt := 92) hx hb dX7_write_85 (by decide) (fun _ => ?_) (fun c => absurd c (by decide))
            refine lv_iconst (v := 1) hx hb dX7_write_92 (by decide) ?_
            refine lv_iadd hx hb dX7_write_93 ?_
            refine lv_istore_n (lv' := [(3, .int (s1.1 + ((1 : Int32)))), (4, .int ((1 : Int32))), (7, .int ((0 : Int32))), (6, .int ((((a1.toUInt64 >>> ((((8 : Int32)) * s1.2.2).toInt64.toUInt64 &&& Int64.toUInt64 63)).toInt64) &&& ((255 : Int64))).toInt32)), (5, .int s1.2.2), (0, .ref b), (1, .long a1)]) hx hb dX7_write_94 rfl hl (by decide) rfl (fun ls hl => ?_)
            refine lv_iinc (v := s1.2.2 + 1) (lv' := [(5, .int (s1.2.2 + 1)), (3, .int (s1.1 + ((1 : Int32)))), (4, .int ((1 : Int32))), (7, .int ((0 : Int32))), (6, .int ((((a1.toUInt64 >>> ((((8 : Int32)) * s1.2.2).toInt64.toUInt64 &&& Int64.toUInt64 63)).toInt64) &&& ((255 : Int64))).toInt32)), (0, .ref b), (1, .long a1)]) hx hb dX7_write_95 hl (k := 4) rfl (congrArg (fun q => s1.2.2 + q) (by decide)) (by decide) rfl (fun ls hl => ?_)
            refine lv_goto (tgt := 8) hx hb dX7_write_98 (by decide) ?_
            cases hE
            exact hL9 _ rfl ls (lv_sub hl [0, 2, 1, 5, 6] rfl)
      · have hE := (if_neg c3).symm.trans hE
        refine lv_lload_n hx hb dX7_write_34 rfl (lv_at hl 5 rfl) ?_
        refine lv_bipush (v := 8) hx hb dX7_write_35 (by decide) ?_
        refine lv_iload hx hb dX7_write_37 (lv_at hl 1 rfl) ?_
        refine lv_imul hx hb dX7_write_39 ?_
        refine lv_lushr (v := (a1.toUInt64 >>> ((((8 : Int32)) * s1.2.2).toInt64.toUInt64 &&& Int64.toUInt64 63)).toInt64) hx hb dX7_write_40 rfl ?_
        refine lv_lconst (v := 0) hx hb dX7_write_41 (by decide) ?_
        refine W.lcmp hx hb dX7_write_42 ?_
        refine lv_if_ne (tgt := 50) hx hb dX7_write_43 (by decide) (fun c7 => ?_) (fun c7 => ?_)
        · have hE := (if_neg c7).symm.trans hE
          refine lv_iconst (v := 0) hx hb dX7_write_50 (by decide) ?_
          refine lv_istore (lv' := [(7, .int ((0 : Int32))), (6, .int ((((a1.toUInt64 >>> ((((8 : Int32)) * s1.2.2).toInt64.toUInt64 &&& Int64.toUInt64 63)).toInt64) &&& ((255 : Int64))).toInt32)), (5, .int s1.2.2), (4, .int s1.2.1), (3, .int s1.1), (0, .ref b), (1, .long a1)]) hx hb dX7_write_51 hl (by decide) rfl (fun ls hl => ?_)
          refine lv_iload hx hb dX7_write_53 (lv_at hl 3 rfl) ?_
          refine lv_if_ne (tgt := 75) hx hb dX7_write_55 (by decide) (fun c8 => ?_) (fun c8 => ?_)
          · have hE := (if_neg c8).symm.trans hE
            refine lv_iconst (v := 1) hx hb dX7_write_75 (by decide) ?_
            refine lv_goto (tgt := 80) hx hb dX7_write_76 (by decide) ?_
            refine lv_istore (lv' := [(4, .int ((1 : Int32))), (7, .int ((0 : Int32))), (6, .int ((((a1.toUInt64 >>> ((((8 : Int32)) * s1.2.2).toInt64.toUInt64 &&& Int64.toUInt64 63)).toInt64) &&& ((255 : Int64))).toInt32)), (5, .int s1.2.2), (3, .int s1.1), (0, .ref b), (1, .long a1)]) hx hb dX7_write_80 hl (by decide) rfl (fun ls hl => ?_)
            refine lv_iload_n hx hb dX7_write_82 rfl (lv_at hl 4 rfl) ?_
            refine lv_iload hx hb dX7_write_83 (lv_at hl 1 rfl) ?_
            refine lv_if_eq (tgt := 92) hx hb dX7_write_85 (by decide) (fun _ => ?_) (fun c => absurd c (by decide))
            refine lv_iconst (v := 1) hx hb dX7_write_92 (by decide) ?_
            refine lv_iadd hx hb dX7_write_93 ?_
            refine lv_istore_n (lv' := [(3, .int (s1.1 + ((1 : Int32)))), (4, .int ((1 : Int32))), (7, .int ((0 : Int32))), (6, .int ((((a1.toUInt64 >>> ((((8 : Int32)) * s1.2.2).toInt64.toUInt64 &&& Int64.toUInt64 63)).toInt64) &&& ((255 : Int64))).toInt32)), (5, .int s1.2.2), (0, .ref b), (1, .long a1)]) hx hb dX7_write_94 rfl hl (by decide) rfl (fun ls hl => ?_)
            refine lv_iinc (v := s1.2.2 + 1) (lv' := [(5, .int (s1.2.2 + 1)), (3, .int (s1.1 + ((1 : Int32)))), (4, .int ((1 : Int32))), (7, .int ((0 : Int32))), (6, .int ((((a1.toUInt64 >>> ((((8 : Int32)) * s1.2.2).toInt64.toUInt64 &&& Int64.toUInt64 63)).toInt64) &&& ((255 : Int64))).toInt32)), (0, .ref b), (1, .long a1)]) hx hb dX7_write_95 hl (k := 4) rfl (congrArg (fun q => s1.2.2 + q) (by decide)) (by decide) rfl (fun ls hl => ?_)
            refine lv_goto (tgt := 8) hx hb dX7_write_98 (by decide) ?_
            cases hE
            exact hL9 _ rfl ls (lv_sub hl [0, 2, 1, 5, 6] rfl)
          · have hE := (if_pos c8).symm.trans hE
            refine lv_iload hx hb dX7_write_58 (lv_at hl 0 rfl) ?_
            refine lv_if_ne (tgt := 79) hx hb dX7_write_60 (by decide) (fun c => absurd c (by decide)) (fun _ => ?_)
            refine lv_iload hx hb dX7_write_63 (lv_at hl 1 rfl) ?_
            refine lv_bipush (v := 33) hx hb dX7_write_65 (by decide) ?_
            refine lv_bipush (v := 126) hx hb dX7_write_67 (by decide) ?_
            obtain ⟨r9, er9, hE⟩ := lt_el hE
            refine rg_callRS (As := [.int ((((a1.toUInt64 >>> ((((8 : Int32)) * s1.2.2).toInt64.toUInt64 &&& Int64.toUInt64 63)).toInt64) &&& ((255 : Int64))).toInt32), .int ((33 : Int32)), .int ((126 : Int32))]) (rest := []) F (mX7_in l X ((((a1.toUInt64 >>> ((((8 : Int32)) * s1.2.2).toInt64.toUInt64 &&& Int64.toUInt64 63)).toInt64) &&& ((255 : Int64))).toInt32) ((33 : Int32)) ((126 : Int32)) r9 er9) (va_cwS 3 F.1.2.2.2.2 gX7_write_X7_in rfl rfl rfl hsX7_in ⟨Nat.le_of_ble_eq_true rfl, Nat.le_of_ble_eq_true rfl⟩)  trivial rfl hl.1 (Nat.le_of_ble_eq_true rfl) dX7_write_69 ⟨Nat.zero_le _, Nat.zero_le _⟩ rfl ?_
            refine lv_if_ne (tgt := 79) hx hb dX7_write_72 (by decide) (fun c10 => ?_) (fun c10 => ?_)
            · have hE := (if_neg c10).symm.trans hE
              refine lv_iconst (v := 0) hx hb dX7_write_79 (by decide) ?_
              refine lv_istore (lv' := [(4, .int ((0 : Int32))), (7, .int ((0 : Int32))), (6, .int ((((a1.toUInt64 >>> ((((8 : Int32)) * s1.2.2).toInt64.toUInt64 &&& Int64.toUInt64 63)).toInt64) &&& ((255 : Int64))).toInt32)), (5, .int s1.2.2), (3, .int s1.1), (0, .ref b), (1, .long a1)]) hx hb dX7_write_80 hl (by decide) rfl (fun ls hl => ?_)
              refine lv_iload_n hx hb dX7_write_82 rfl (lv_at hl 4 rfl) ?_
              refine lv_iload hx hb dX7_write_83 (lv_at hl 1 rfl) ?_
              refine lv_if_eq (tgt := 92) hx hb dX7_write_85 (by decide) (fun _ => ?_) (fun c => absurd c (by decide))
              refine lv_iconst (v := 1) hx hb dX7_write_92 (by decide) ?_
              refine lv_iadd hx hb dX7_write_93 ?_
              refine lv_istore_n (lv' := [(3, .int (s1.1 + ((1 : Int32)))), (4, .int ((0 : Int32))), (7, .int ((0 : Int32))), (6, .int ((((a1.toUInt64 >>> ((((8 : Int32)) * s1.2.2).toInt64.toUInt64 &&& Int64.toUInt64 63)).toInt64) &&& ((255 : Int64))).toInt32)), (5, .int s1.2.2), (0, .ref b), (1, .long a1)]) hx hb dX7_write_94 rfl hl (by decide) rfl (fun ls hl => ?_)
              refine lv_iinc (v := s1.2.2 + 1) (lv' := [(5, .int (s1.2.2 + 1)), (3, .int (s1.1 + ((1 : Int32)))), (4, .int ((0 : Int32))), (7, .int ((0 : Int32))), (6, .int ((((a1.toUInt64 >>> ((((8 : Int32)) * s1.2.2).toInt64.toUInt64 &&& Int64.toUInt64 63)).toInt64) &&& ((255 : Int64))).toInt32)), (0, .ref b), (1, .long a1)]) hx hb dX7_write_95 hl (k := 4) rfl (congrArg (fun q => s1.2.2 + q) (by decide)) (by decide) rfl (fun ls hl => ?_)
              refine lv_goto (tgt := 8) hx hb dX7_write_98 (by decide) ?_
              cases hE
              exact hL9 _ rfl ls (lv_sub hl [0, 2, 1, 5, 6] rfl)
            · have hE := (if_pos c10).symm.trans hE
              refine lv_iconst (v := 1) hx hb dX7_write_75 (by decide) ?_
              refine lv_goto (tgt := 80) hx hb dX7_write_76 (by decide) ?_
              refine lv_istore (lv' := [(4, .int ((1 : Int32))), (7, .int ((0 : Int32))), (6, .int ((((a1.toUInt64 >>> ((((8 : Int32)) * s1.2.2).toInt64.toUInt64 &&& Int64.toUInt64 63)).toInt64) &&& ((255 : Int64))).toInt32)), (5, .int s1.2.2), (3, .int s1.1), (0, .ref b), (1, .long a1)]) hx hb dX7_write_80 hl (by decide) rfl (fun ls hl => ?_)
              refine lv_iload_n hx hb dX7_write_82 rfl (lv_at hl 4 rfl) ?_
              refine lv_iload hx hb dX7_write_83 (lv_at hl 1 rfl) ?_
              refine lv_if_eq (tgt := 92) hx hb dX7_write_85 (by decide) (fun _ => ?_) (fun c => absurd c (by decide))
              refine lv_iconst (v := 1) hx hb dX7_write_92 (by decide) ?_
              refine lv_iadd hx hb dX7_write_93 ?_
              refine lv_istore_n (lv' := [(3, .int (s1.1 + ((1 : Int32)))), (4, .int ((1 : Int32))), (7, .int ((0 : Int32))), (6, .int ((((a1.toUInt64 >>> ((((8 : Int32)) * s1.2.2).toInt64.toUInt64 &&& Int64.toUInt64 63)).toInt64) &&& ((255 : Int64))).toInt32)), (5, .int s1.2.2), (0, .ref b), (1, .long a1)]) hx hb dX7_write_94 rfl hl (by decide) rfl (fun ls hl => ?_)
              refine lv_iinc (v := s1.2.2 + 1) (lv' := [(5, .int (s1.2.2 + 1)), (3, .int (s1.1 + ((1 : Int32)))), (4, .int ((1 : Int32))), (7, .int ((0 : Int32))), (6, .int ((((a1.toUInt64 >>> ((((8 : Int32)) * s1.2.2).toInt64.toUInt64 &&& Int64.toUInt64 63)).toInt64) &&& ((255 : Int64))).toInt32)), (0, .ref b), (1, .long a1)]) hx hb dX7_write_95 hl (k := 4) rfl (congrArg (fun q => s1.2.2 + q) (by decide)) (by decide) rfl (fun ls hl => ?_)
              refine lv_goto (tgt := 8) hx hb dX7_write_98 (by decide) ?_
              cases hE
              exact hL9 _ rfl ls (lv_sub hl [0, 2, 1, 5, 6] rfl)
        · have hE := (if_pos c7).symm.trans hE
          refine lv_iconst (v := 1) hx hb dX7_write_46 (by decide) ?_
          refine lv_goto (tgt := 51) hx hb dX7_write_47 (by decide) ?_
          refine lv_istore (lv' := [(7, .int ((1 : Int32))), (6, .int ((((a1.toUInt64 >>> ((((8 : Int32)) * s1.2.2).toInt64.toUInt64 &&& Int64.toUInt64 63)).toInt64) &&& ((255 : Int64))).toInt32)), (5, .int s1.2.2), (4, .int s1.2.1), (3, .int s1.1), (0, .ref b), (1, .long a1)]) hx hb dX7_write_51 hl (by decide) rfl (fun ls hl => ?_)
          refine lv_iload hx hb dX7_write_53 (lv_at hl 3 rfl) ?_
          refine lv_if_ne (tgt := 75) hx hb dX7_write_55 (by decide) (fun c11 => ?_) (fun c11 => ?_)
          · have hE := (if_neg c11).symm.trans hE
            refine lv_iconst (v := 1) hx hb dX7_write_75 (by decide) ?_
            refine lv_goto (tgt := 80) hx hb dX7_write_76 (by decide) ?_
            refine lv_istore (lv' := [(4, .int ((1 : Int32))), (7, .int ((1 : Int32))), (6, .int ((((a1.toUInt64 >>> ((((8 : Int32)) * s1.2.2).toInt64.toUInt64 &&& Int64.toUInt64 63)).toInt64) &&& ((255 : Int64))).toInt32)), (5, .int s1.2.2), (3, .int s1.1), (0, .ref b), (1, .long a1)]) hx hb dX7_write_80 hl (by decide) rfl (fun ls hl => ?_)
            refine lv_iload_n hx hb dX7_write_82 rfl (lv_at hl 4 rfl) ?_
            refine lv_iload hx hb dX7_write_83 (lv_at hl 1 rfl) ?_
            refine lv_if_eq (tgt := 92) hx hb dX7_write_85 (by decide) (fun c => absurd c (by decide)) (fun _ => ?_)
            refine lv_iconst (v := 0) hx hb dX7_write_88 (by decide) ?_
            refine lv_goto (tgt := 93) hx hb dX7_write_89 (by decide) ?_
            refine lv_iadd hx hb dX7_write_93 ?_
            refine lv_istore_n (lv' := [(3, .int (s1.1 + ((0 : Int32)))), (4, .int ((1 : Int32))), (7, .int ((1 : Int32))), (6, .int ((((a1.toUInt64 >>> ((((8 : Int32)) * s1.2.2).toInt64.toUInt64 &&& Int64.toUInt64 63)).toInt64) &&& ((255 : Int64))).toInt32)), (5, .int s1.2.2), (0, .ref b), (1, .long a1)]) hx hb dX7_write_94 rfl hl (by decide) rfl (fun ls hl => ?_)
            refine lv_iinc (v := s1.2.2 + 1) (lv' := [(5, .int (s1.2.2 + 1)), (3, .int (s1.1 + ((0 : Int32)))), (4, .int ((1 : Int32))), (7, .int ((1 : Int32))), (6, .int ((((a1.toUInt64 >>> ((((8 : Int32)) * s1.2.2).toInt64.toUInt64 &&& Int64.toUInt64 63)).toInt64) &&& ((255 : Int64))).toInt32)), (0, .ref b), (1, .long a1)]) hx hb dX7_write_95 hl (k := 4) rfl (congrArg (fun q => s1.2.2 + q) (by decide)) (by decide) rfl (fun ls hl => ?_)
            refine lv_goto (tgt := 8) hx hb dX7_write_98 (by decide) ?_
            cases hE
            exact hL9 _ rfl ls (lv_sub hl [0, 2, 1, 5, 6] rfl)
          · have hE := (if_pos c11).symm.trans hE
            refine lv_iload hx hb dX7_write_58 (lv_at hl 0 rfl) ?_
            refine lv_if_ne (tgt := 79) hx hb dX7_write_60 (by decide) (fun _ => ?_) (fun c => absurd c (by decide))
            refine lv_iconst (v := 0) hx hb dX7_write_79 (by decide) ?_
            refine lv_istore (lv' := [(4, .int ((0 : Int32))), (7, .int ((1 : Int32))), (6, .int ((((a1.toUInt64 >>> ((((8 : Int32)) * s1.2.2).toInt64.toUInt64 &&& Int64.toUInt64 63)).toInt64) &&& ((255 : Int64))).toInt32)), (5, .int s1.2.2), (3, .int s1.1), (0, .ref b), (1, .long a1)]) hx hb dX7_write_80 hl (by decide) rfl (fun ls hl => ?_)
            refine lv_iload_n hx hb dX7_write_82 rfl (lv_at hl 4 rfl) ?_
            refine lv_iload hx hb dX7_write_83 (lv_at hl 1 rfl) ?_
            refine lv_if_eq (tgt := 92) hx hb dX7_write_85 (by decide) (fun c => absurd c (by decide)) (fun _ => ?_)
            refine lv_iconst (v := 0) hx hb dX7_write_88 (by decide) ?_
            refine lv_goto (tgt := 93) hx hb dX7_write_89 (by decide) ?_
            refine lv_iadd hx hb dX7_write_93 ?_
            refine lv_istore_n (lv' := [(3, .int (s1.1 + ((0 : Int32)))), (4, .int ((0 : Int32))), (7, .int ((1 : Int32))), (6, .int ((((a1.toUInt64 >>> ((((8 : Int32)) * s1.2.2).toInt64.toUInt64 &&& Int64.toUInt64 63)).toInt64) &&& ((255 : Int64))).toInt32)), (5, .int s1.2.2), (0, .ref b), (1, .long a1)]) hx hb dX7_write_94 rfl hl (by decide) rfl (fun ls hl => ?_)
            refine lv_iinc (v := s1.2.2 + 1) (lv' := [(5, .int (s1.2.2 + 1)), (3, .int (s1.1 + ((0 : Int32)))), (4, .int ((0 : Int32))), (7, .int ((1 : Int32))), (6, .int ((((a1.toUInt64 >>> ((((8 : Int32)) * s1.2.2).toInt64.toUInt64 &&& Int64.toUInt64 63)).toInt64) &&& ((255 : Int64))).toInt32)), (0, .ref b), (1, .long a1)]) hx hb dX7_write_95 hl (k := 4) rfl (congrArg (fun q => s1.2.2 + q) (by decide)) (by decide) rfl (fun ls hl => ?_)
            refine lv_goto (tgt := 8) hx hb dX7_write_98 (by decide) ?_
            cases hE
            exact hL9 _ rfl ls (lv_sub hl [0, 2, 1, 5, 6] rfl)
  · intro ls hl
    refine lv_iload hx hb dX7_write_101 (lv_at hl 1 rfl) ?_
    refine lv_if_eq (tgt := 110) hx hb dX7_write_103 (by decide) (fun c14 => ?_) (fun c14 => ?_)
    · have hE := (if_pos c14).symm.trans hE
      refine lv_aload_n hx hb dX7_write_110 rfl (lv_at hl 3 rfl) ?_
      refine rg_geti F hH.1 0 (ci := 7) rfl (C := RX7) (T := TX7) (N := 8) rfl iwX7_write_X7 7 (i := 1) rfl (by decide) rfl lkX7_write_1 rfl dX7_write_111 ?_
      refine lv_iload_n hx hb dX7_write_114 rfl (lv_at hl 2 rfl) ?_
      refine lv_iadd hx hb dX7_write_115 ?_
      refine lv_bipush (v := 60) hx hb dX7_write_116 (by decide) ?_
      refine lv_icmp_le (tgt := 125) hx hb dX7_write_118 (by decide) (fun c15 => ?_) (fun c15 => ?_)
      · have hE := (if_pos c15).symm.trans hE
        refine lv_iconst (v := 0) hx hb dX7_write_125 (by decide) ?_
        refine lv_istore (lv' := [(5, .int ((0 : Int32))), (4, .int x13.2.1), (3, .int x13.1), (0, .ref b), (1, .long a1)]) hx hb dX7_write_126 hl (by decide) rfl (fun ls hl => ?_)
        obtain ⟨x21, hx21, hE⟩ := bd_el hE
        refine it_walk2 (body := lbX7_write_128 a1 x13) (Wh := fun s16 => ∀ (H : Heap) (locs : List Loc) (ls : Array Slot), Hp (t_fr b (b + LM.length)) s.heap s.heap.size X LM b s16.2 H locs → lv_has ls 8 [(5, .int s16.1), (4, .int x13.2.1), (3, .int x13.1), (0, .ref b), (1, .long a1)] → W p l e rmX7_write s m ([.ref b, .long a1] : List Value).toArray below meth c H locs 0 0 (MQ below (cQw (some (.int out.1)) b (b + LM.length) (RP X LM b out.2)) ([.ref b, .long a1] : List Value).toArray s 0 0 (t_fr b (b + LM.length))) (F0 m 128 ls [])) (We := fun s20 => ∀ (H : Heap) (locs : List Loc) (ls : Array Slot), Hp (t_fr b (b + LM.length)) s.heap s.heap.size X LM b s20.2 H locs → lv_has ls 8 [(5, .int s20.1), (4, .int x13.2.1), (3, .int x13.1), (0, .ref b), (1, .long a1)] → W p l e rmX7_write s m ([.ref b, .long a1] : List Value).toArray below meth c H locs 0 0 (MQ below (cQw (some (.int out.1)) b (b + LM.length) (RP X LM b out.2)) ([.ref b, .long a1] : List Value).toArray s 0 0 (t_fr b (b + LM.length))) (F0 m 168 ls [])) ?_ _ _ _ hx21 ?_ s.heap [] ls hH (lv_sub hl [0, 1, 2, 3, 4] rfl)
        · intro s16 r9 hE hL9 hR9 H locs ls hH hl
          unfold lbX7_write_128 at hE
          refine lv_iload hx hb dX7_write_128 (lv_at hl 0 rfl) ?_
          refine lv_iload_n hx hb dX7_write_130 rfl (lv_at hl 2 rfl) ?_
          refine lv_icmp_ge (tgt := 168) hx hb dX7_write_131 (by decide) (fun c17 => ?_) (fun c17 => ?_)
          · have hE := (if_pos c17).symm.trans hE
            cases hE
            exact hR9 _ rfl H locs ls hH (lv_sub hl [0, 1, 2, 3, 4] rfl)
          · have hE := (if_neg c17).symm.trans hE
            refine lv_aload_n hx hb dX7_write_134 rfl (lv_at hl 3 rfl) ?_
            refine rg_getr F hH.1 0 (ci := 7) rfl (C := RX7) (T := TX7) (N := 8) rfl iwX7_write_X7 6 (d := 6) (n := 6) rfl rfl (by decide) rfl lkX7_write_2 rfl dX7_write_135 ?_
            refine lv_aload_n hx hb dX7_write_138 rfl (lv_at hl 3 rfl) ?_
            refine rg_geti F hH.1 0 (ci := 7) rfl (C := RX7) (T := TX7) (N := 8) rfl iwX7_write_X7 7 (i := 1) rfl (by decide) rfl lkX7_write_1 rfl dX7_write_139 ?_
            refine lv_iload_n hx hb dX7_write_142 rfl (lv_at hl 2 rfl) ?_
            refine lv_iadd hx hb dX7_write_143 ?_
            refine lv_iconst (v := 1) hx hb dX7_write_144 (by decide) ?_
            refine lv_isub hx hb dX7_write_145 ?_
            refine lv_iload hx hb dX7_write_146 (lv_at hl 0 rfl) ?_
            refine lv_isub hx hb dX7_write_148 ?_
            refine lv_lload_n hx hb dX7_write_149 rfl (lv_at hl 4 rfl) ?_
            refine lv_bipush (v := 8) hx hb dX7_write_150 (by decide) ?_
            refine lv_iload hx hb dX7_write_152 (lv_at hl 0 rfl) ?_
            refine lv_imul hx hb dX7_write_154 ?_
            refine lv_lushr (v := (a1.toUInt64 >>> ((((8 : Int32)) * s16.1).toInt64.toUInt64 &&& Int64.toUInt64 63)).toInt64) hx hb dX7_write_155 rfl ?_
            refine lv_ldc2 (v := 255) hx hb F.1.2.2.2.1 (F.1.2.2.2.2 _ lkX7_write_0) dX7_write_156 ?_
            refine lv_land hx hb dX7_write_159 ?_
            refine lv_l2i (v := (((a1.toUInt64 >>> ((((8 : Int32)) * s16.1).toInt64.toUInt64 &&& Int64.toUInt64 63)).toInt64) &&& ((255 : Int64))).toInt32) hx hb dX7_write_160 rfl ?_
            obtain ⟨g18, hE⟩ := gd_el hE
            obtain ⟨V19, eV19, hE⟩ := lt_el hE
            refine rg_iast F hH (fun q h1 h2 => ⟨h1, h2⟩) 6 (n := 60) rfl g18 rfl dX7_write_161 (fun H locs hH => ?_)
            replace hH := hp_cast eV19 hH
            refine lv_iinc (v := s16.1 + 1) (lv' := [(5, .int (s16.1 + 1)), (4, .int x13.2.1), (3, .int x13.1), (0, .ref b), (1, .long a1)]) hx hb dX7_write_162 hl (k := 0) rfl (congrArg (fun q => s16.1 + q) (by decide)) (by decide) rfl (fun ls hl => ?_)
            refine lv_goto (tgt := 128) hx hb dX7_write_165 (by decide) ?_
            cases hE
            exact hL9 _ rfl H locs ls hH (lv_sub hl [0, 1, 2, 3, 4] rfl)
        · intro H locs ls hH hl
          refine lv_aload_n hx hb dX7_write_168 rfl (lv_at hl 3 rfl) ?_
          refine lv_dup hx hb dX7_write_169 rfl ?_
          refine rg_geti F hH.1 0 (ci := 7) rfl (C := RX7) (T := TX7) (N := 8) rfl iwX7_write_X7 7 (i := 1) rfl (by decide) rfl lkX7_write_1 rfl dX7_write_170 ?_
          refine lv_iload_n hx hb dX7_write_173 rfl (lv_at hl 2 rfl) ?_
          refine lv_iadd hx hb dX7_write_174 ?_
          obtain ⟨V22, eV22, hE⟩ := lt_el hE
          refine rg_put F hH (fun q h1 h2 => ⟨h1, h2⟩) 0 (ci := 7) rfl (C := RX7) (T := TX7) (N := 8) rfl iwX7_write_X7 tyX7 tyX7_ok nmX7 7 (i := 1) rfl (by decide) (by decide) rfl rfl (by decide +kernel) lkX7_write_1 rfl dX7_write_175 (fun H locs hH hfr => ?_)
          replace hH := hp_cast eV22 hH
          refine lv_aload_n hx hb dX7_write_178 rfl (lv_at hl 3 rfl) ?_
          refine rg_geti F hH.1 0 (ci := 7) rfl (C := RX7) (T := TX7) (N := 8) rfl iwX7_write_X7 7 (i := 1) rfl (by decide) rfl lkX7_write_1 rfl dX7_write_179 ?_
          have hE := Option.some.inj hE
          subst hE
          exact W.iret (v := V22 0 1) hx hb hr (fun t ht _ => mw_post hH ht) hH.2.1.2.2 dX7_write_182
      · have hE := (if_neg c15).symm.trans hE
        refine lv_sipush (v := (-1004)) hx hb dX7_write_121 (by decide) ?_
        have hE := Option.some.inj hE
        subst hE
        exact W.iret (v := (-1004 : Int32)) hx hb hr (fun t ht _ => mw_post hH ht) hH.2.1.2.2 dX7_write_124
    · have hE := (if_neg c14).symm.trans hE
      refine lv_sipush (v := (-1002)) hx hb dX7_write_106 (by decide) ?_
      have hE := Option.some.inj hE
      subst hE
      exact W.iret (v := (-1002 : Int32)) hx hb hr (fun t ht _ => mw_post hH ht) hH.2.1.2.2 dX7_write_109
set_option maxRecDepth 20000 in
theorem lkX7_wipe_0 : Cond.fieldLink RX7 123 "TideWordsModel" "length" "I" ∈ wsX7_wipe := by decide +kernel
set_option maxRecDepth 20000 in
theorem iwX7_wipe_X7 : ∀ w ∈ wsX70, w ∈ wsX7_wipe := by decide +kernel
def fX7_wipe (V : Mem) : Int32 × Mem := lt (sv V 0 1 ((0 : Int32))) (fun V1 => (V 0 1, V1))
abbrev rmX7_wipe : Room := { frames := 0, cells := 0, slots := 0, locals := 0 }
set_option maxHeartbeats 4000000 in
set_option maxRecDepth 100000 in
theorem mX7_wipe (l : Launch) (X : kX) (b : Nat) (V : Mem) (out : Int32 × Mem) (hE : fX7_wipe V = out) : MW l yX7_wipe wsX7_wipe rmX7_wipe X [.ref b] (RP X LM b V) (some (.int out.1)) b (b + LM.length) (RP X LM b out.2) := by
  refine mt_head (cc := cX7_wipe) (maxL := 2) (ret := (some .int)) (own := RX7) (by decide) rfl rfl (Nat.le_of_ble_eq_true rfl) ?_
  intro p e s m below meth c ls F hr hlocks hnm hR hl
  have hx := F.1.1
  have hb := F.1.2.1
  have hH : Hp (t_fr b (b + LM.length)) s.heap s.heap.size X LM b V s.heap [] := ⟨hR, va_S.rf, rfl⟩
  have hl : lv_has ls 2 [(0, .ref b)] := hl
  unfold fX7_wipe at hE
  refine lv_aload_n hx hb dX7_wipe_0 rfl (lv_at hl 0 rfl) ?_
  refine rg_geti F hH.1 0 (ci := 7) rfl (C := RX7) (T := TX7) (N := 8) rfl iwX7_wipe_X7 7 (i := 1) rfl (by decide) rfl lkX7_wipe_0 rfl dX7_wipe_1 ?_
  refine lv_istore_n (lv' := [(1, .int (V 0 1)), (0, .ref b)]) hx hb dX7_wipe_4 rfl hl (by decide) rfl (fun ls hl => ?_)
  refine lv_aload_n hx hb dX7_wipe_5 rfl (lv_at hl 1 rfl) ?_
  refine lv_iconst (v := 0) hx hb dX7_wipe_6 (by decide) ?_
  obtain ⟨V1, eV1, hE⟩ := lt_el hE
  refine rg_put F hH (fun q h1 h2 => ⟨h1, h2⟩) 0 (ci := 7) rfl (C := RX7) (T := TX7) (N := 8) rfl iwX7_wipe_X7 tyX7 tyX7_ok nmX7 7 (i := 1) rfl (by decide) (by decide) rfl rfl (by decide +kernel) lkX7_wipe_0 rfl dX7_wipe_7 (fun H locs hH hfr => ?_)
  replace hH := hp_cast eV1 hH
  refine lv_iload_n hx hb dX7_wipe_10 rfl (lv_at hl 0 rfl) ?_
  subst hE
  exact W.iret (v := V 0 1) hx hb hr (fun t ht _ => mw_post hH ht) hH.2.1.2.2 dX7_wipe_11
set_option maxRecDepth 20000 in
theorem lkX7_behind_0 : Cond.fieldLink RX7 123 "TideWordsModel" "length" "I" ∈ wsX7_behind := by decide +kernel
set_option maxRecDepth 20000 in
theorem iwX7_behind_X7 : ∀ w ∈ wsX70, w ∈ wsX7_behind := by decide +kernel
set_option maxRecDepth 20000 in
theorem lkX7_behind_1 : Cond.fieldLink RX7 26 "TideWordsModel" "pad" "[I" ∈ wsX7_behind := by decide +kernel
def lbX7_behind_2 (V : Mem) (a1 : Int32) (s1 : Int32) : Option ((Int32) ⊕ (Int32)) := if V 0 1 ≤ s1 then some (.inr s1) else if a1 + ((6 : Int32)) ≤ s1 then some (.inr s1) else if s1 < 0 ∨ 60 ≤ s1.toNatClampNeg then none else lt (fX7_in (V 6 s1.toNatClampNeg) ((97 : Int32)) ((122 : Int32))) (fun r5 => if r5 = 0 then some (.inr s1) else some (.inl (s1 + 1)))
def qX7_behind (V : Mem) (a1 : Int32) : Option (Int32) := (it (lbX7_behind_2 V a1) fuel a1).bind (fun s7 => some (s7))
abbrev rmX7_behind : Room := { frames := 1, cells := 0, slots := 0, locals := 22 }
set_option maxHeartbeats 4000000 in
set_option maxRecDepth 100000 in
theorem mX7_behind (l : Launch) (X : kX) (b : Nat) (V : Mem) (a1 : Int32) (out : Int32) (hE : qX7_behind V a1 = some out) : MR l yX7_behind wsX7_behind rmX7_behind X [.ref b, .int a1] (RP X LM b V) (some (.int out)) := by
  refine mt_head (cc := cX7_behind) (maxL := 3) (ret := (some .int)) (own := RX7) (by decide) rfl rfl (Nat.le_of_ble_eq_true rfl) ?_
  intro p e s m below meth c ls F hr hlocks hnm hR hl
  have hx := F.1.1
  have hb := F.1.2.1
  have hl : lv_has ls 3 [(0, .ref b), (1, .int a1)] := hl
  unfold qX7_behind at hE
  refine lv_iload_n hx hb dX7_behind_0 rfl (lv_at hl 1 rfl) ?_
  refine lv_istore_n (lv' := [(2, .int a1), (0, .ref b), (1, .int a1)]) hx hb dX7_behind_1 rfl hl (by decide) rfl (fun ls hl => ?_)
  obtain ⟨x8, hx8, hE⟩ := bd_el hE
  refine it_walk2 (body := lbX7_behind_2 V a1) (Wh := fun s1 => ∀ (ls : Array Slot), lv_has ls 3 [(2, .int s1), (0, .ref b), (1, .int a1)] → W p l e rmX7_behind s m ([.ref b, .int a1] : List Value).toArray below meth c s.heap [] 0 0 (MQ below (cQr (some (.int out))) ([.ref b, .int a1] : List Value).toArray s 0 0 (fun _ => False)) (F0 m 2 ls [])) (We := fun s7 => ∀ (ls : Array Slot), lv_has ls 3 [(2, .int s7), (0, .ref b), (1, .int a1)] → W p l e rmX7_behind s m ([.ref b, .int a1] : List Value).toArray below meth c s.heap [] 0 0 (MQ below (cQr (some (.int out))) ([.ref b, .int a1] : List Value).toArray s 0 0 (fun _ => False)) (F0 m 40 ls [])) ?_ _ _ _ hx8 ?_ ls (lv_sub hl [0, 1, 2] rfl)
  · intro s1 r9 hE hL9 hR9 ls hl
    unfold lbX7_behind_2 at hE
    refine lv_iload_n hx hb dX7_behind_2 rfl (lv_at hl 0 rfl) ?_
    refine lv_aload_n hx hb dX7_behind_3 rfl (lv_at hl 1 rfl) ?_
    refine rg_geti F hR 0 (ci := 7) rfl (C := RX7) (T := TX7) (N := 8) rfl iwX7_behind_X7 7 (i := 1) rfl (by decide) rfl lkX7_behind_0 rfl dX7_behind_4 ?_
    refine lv_icmp_ge (tgt := 40) hx hb dX7_behind_7 (by decide) (fun c2 => ?_) (fun c2 => ?_)
    · have hE := (if_pos c2).symm.trans hE
      cases hE
      exact hR9 _ rfl ls (lv_sub hl [0, 1, 2] rfl)
    · have hE := (if_neg c2).symm.trans hE
      refine lv_iload_n hx hb dX7_behind_10 rfl (lv_at hl 0 rfl) ?_
      refine lv_iload_n hx hb dX7_behind_11 rfl (lv_at hl 2 rfl) ?_
      refine lv_bipush (v := 6) hx hb dX7_behind_12 (by decide) ?_
      refine lv_iadd hx hb dX7_behind_14 ?_
      refine lv_icmp_ge (tgt := 40) hx hb dX7_behind_15 (by decide) (fun c3 => ?_) (fun c3 => ?_)
      · have hE := (if_pos c3).symm.trans hE
        cases hE
        exact hR9 _ rfl ls (lv_sub hl [0, 1, 2] rfl)
      · have hE := (if_neg c3).symm.trans hE
        refine lv_aload_n hx hb dX7_behind_18 rfl (lv_at hl 1 rfl) ?_
        refine rg_getr F hR 0 (ci := 7) rfl (C := RX7) (T := TX7) (N := 8) rfl iwX7_behind_X7 6 (d := 6) (n := 6) rfl rfl (by decide) rfl lkX7_behind_1 rfl dX7_behind_19 ?_
        refine lv_iload_n hx hb dX7_behind_22 rfl (lv_at hl 0 rfl) ?_
        obtain ⟨g4, hE⟩ := gd_el hE
        refine rg_iald F hR 6 (n := 60) rfl g4 rfl dX7_behind_23 ?_
        refine lv_bipush (v := 97) hx hb dX7_behind_24 (by decide) ?_
        refine lv_bipush (v := 122) hx hb dX7_behind_26 (by decide) ?_
        obtain ⟨r5, er5, hE⟩ := lt_el hE
        refine rg_callRS (As := [.int (V 6 s1.toNatClampNeg), .int ((97 : Int32)), .int ((122 : Int32))]) (rest := []) F (mX7_in l X (V 6 s1.toNatClampNeg) ((97 : Int32)) ((122 : Int32)) r5 er5) (va_cwS 3 F.1.2.2.2.2 gX7_behind_X7_in rfl rfl rfl hsX7_in ⟨Nat.le_of_ble_eq_true rfl, Nat.le_of_ble_eq_true rfl⟩)  trivial rfl hl.1 (Nat.le_of_ble_eq_true rfl) dX7_behind_28 ⟨Nat.zero_le _, Nat.zero_le _⟩ rfl ?_
        refine lv_if_eq (tgt := 40) hx hb dX7_behind_31 (by decide) (fun c6 => ?_) (fun c6 => ?_)
        · have hE := (if_pos c6).symm.trans hE
          cases hE
          exact hR9 _ rfl ls (lv_sub hl [0, 1, 2] rfl)
        · have hE := (if_neg c6).symm.trans hE
          refine lv_iinc (v := s1 + 1) (lv' := [(2, .int (s1 + 1)), (0, .ref b), (1, .int a1)]) hx hb dX7_behind_34 hl (k := 0) rfl (congrArg (fun q => s1 + q) (by decide)) (by decide) rfl (fun ls hl => ?_)
          refine lv_goto (tgt := 2) hx hb dX7_behind_37 (by decide) ?_
          cases hE
          exact hL9 _ rfl ls (lv_sub hl [0, 1, 2] rfl)
  · intro ls hl
    refine lv_iload_n hx hb dX7_behind_40 rfl (lv_at hl 0 rfl) ?_
    have hE := Option.some.inj hE
    subst hE
    exact W.iret (v := x8) hx hb hr (fun t ht _ => ⟨rfl, ht⟩) (fun _ h => absurd h List.not_mem_nil) dX7_behind_41
theorem hvX7_behind : yX7_behind.cls = RX7 ∧ yX7_behind.cls ≠ "java/lang/invoke/MethodHandle" ∧ yX7_behind.cls ≠ "java/lang/invoke/VarHandle" ∧ (parseMethodDescriptor yX7_behind.desc).map (fun d => d.parameters.length) = some 1 := by decide +kernel
set_option maxRecDepth 20000 in
theorem lkX7_wrong_0 : Cond.fieldLink RX7 123 "TideWordsModel" "length" "I" ∈ wsX7_wrong := by decide +kernel
set_option maxRecDepth 20000 in
theorem iwX7_wrong_X7 : ∀ w ∈ wsX70, w ∈ wsX7_wrong := by decide +kernel
set_option maxRecDepth 20000 in
theorem lkX7_wrong_1 : Cond.fieldLink RX7 26 "TideWordsModel" "pad" "[I" ∈ wsX7_wrong := by decide +kernel
def lbX7_wrong_2 (V : Mem) (s1 : Int32) : Option ((Int32) ⊕ (Int32)) := (qX7_behind V s1).bind (fun r2 => if r2 = s1 then some (.inr (r2)) else if V 0 1 ≤ r2 then if r2 = V 0 1 then some (.inr ((-1006 : Int32))) else some (.inl (r2 + ((1 : Int32)))) else if r2 < 0 ∨ 60 ≤ r2.toNatClampNeg then none else if V 6 r2.toNatClampNeg = (44 : Int32) then if r2 = V 0 1 then some (.inr ((-1006 : Int32))) else some (.inl (r2 + ((1 : Int32)))) else some (.inr (r2)))
def qX7_wrong (V : Mem) : Option (Int32) := (it (lbX7_wrong_2 V) fuel (0 : Int32)).bind (fun x10 => some x10)
abbrev rmX7_wrong : Room := { frames := 2, cells := 0, slots := 0, locals := 44 }
set_option maxHeartbeats 4000000 in
set_option maxRecDepth 100000 in
theorem mX7_wrong (l : Launch) (X : kX) (b : Nat) (V : Mem) (out : Int32) (hE : qX7_wrong V = some out) : MR l yX7_wrong wsX7_wrong rmX7_wrong X [.ref b] (RP X LM b V) (some (.int out)) := by
  refine mt_head (cc := cX7_wrong) (maxL := 3) (ret := (some .int)) (own := RX7) (by decide) rfl rfl (Nat.le_of_ble_eq_true rfl) ?_
  intro p e s m below meth c ls F hr hlocks hnm hR hl
  have hx := F.1.1
  have hb := F.1.2.1
  have hl : lv_has ls 3 [(0, .ref b)] := hl
  unfold qX7_wrong at hE
  refine lv_iconst (v := 0) hx hb dX7_wrong_0 (by decide) ?_
  refine lv_istore_n (lv' := [(1, .int ((0 : Int32))), (0, .ref b)]) hx hb dX7_wrong_1 rfl hl (by decide) rfl (fun ls hl => ?_)
  obtain ⟨x10, hx10, hE⟩ := bd_el hE
  refine it_walk2 (body := lbX7_wrong_2 V) (Wh := fun s1 => ∀ (ls : Array Slot), lv_has ls 3 [(1, .int s1), (0, .ref b)] → W p l e rmX7_wrong s m ([.ref b] : List Value).toArray below meth c s.heap [] 0 0 (MQ below (cQr (some (.int out))) ([.ref b] : List Value).toArray s 0 0 (fun _ => False)) (F0 m 2 ls [])) (We := fun x10 => x10 = out) ?_ _ _ _ hx10 ?_ ls (lv_sub hl [0, 1] rfl)
  · intro s1 r9 hE hL9 hR9 ls hl
    unfold lbX7_wrong_2 at hE
    refine lv_aload_n hx hb dX7_wrong_2 rfl (lv_at hl 1 rfl) ?_
    refine lv_iload_n hx hb dX7_wrong_3 rfl (lv_at hl 0 rfl) ?_
    obtain ⟨r2, er2, hE⟩ := bd_el hE
    refine rg_callRV (As := [.int s1]) (rest := []) F (mX7_behind l X b V s1 r2 er2) (cwV 1 F.1.2.2.2.2 gX7_wrong_X7_behind rfl rfl rfl hvX7_behind ⟨Nat.le_of_ble_eq_true rfl, Nat.le_of_ble_eq_true rfl⟩) (rp_recv F hR 0 rfl (C := RX7) (T := TX7) (N := 8) rfl rfl) hR rfl hl.1 (Nat.le_of_ble_eq_true rfl) dX7_wrong_4 ⟨Nat.zero_le _, Nat.zero_le _⟩ rfl ?_
    refine lv_istore_n (lv' := [(2, .int r2), (1, .int s1), (0, .ref b)]) hx hb dX7_wrong_7 rfl hl (by decide) rfl (fun ls hl => ?_)
    refine lv_iload_n hx hb dX7_wrong_8 rfl (lv_at hl 0 rfl) ?_
    refine lv_iload_n hx hb dX7_wrong_9 rfl (lv_at hl 1 rfl) ?_
    refine lv_icmp_eq (tgt := 32) hx hb dX7_wrong_10 (by decide) (fun c3 => ?_) (fun c3 => ?_)
    · have hE := (if_pos c3).symm.trans hE
      refine lv_iload_n hx hb dX7_wrong_32 rfl (lv_at hl 0 rfl) ?_
      cases hE
      have hE := hR9 _ rfl
      subst hE
      exact W.iret (v := r2) hx hb hr (fun t ht _ => ⟨rfl, ht⟩) (fun _ h => absurd h List.not_mem_nil) dX7_wrong_33
    · have hE := (if_neg c3).symm.trans hE
      refine lv_iload_n hx hb dX7_wrong_13 rfl (lv_at hl 0 rfl) ?_
      refine lv_aload_n hx hb dX7_wrong_14 rfl (lv_at hl 2 rfl) ?_
      refine rg_geti F hR 0 (ci := 7) rfl (C := RX7) (T := TX7) (N := 8) rfl iwX7_wrong_X7 7 (i := 1) rfl (by decide) rfl lkX7_wrong_0 rfl dX7_wrong_15 ?_
      refine lv_icmp_ge (tgt := 34) hx hb dX7_wrong_18 (by decide) (fun c4 => ?_) (fun c4 => ?_)
      · have hE := (if_pos c4).symm.trans hE
        refine lv_iload_n hx hb dX7_wrong_34 rfl (lv_at hl 0 rfl) ?_
        refine lv_aload_n hx hb dX7_wrong_35 rfl (lv_at hl 2 rfl) ?_
        refine rg_geti F hR 0 (ci := 7) rfl (C := RX7) (T := TX7) (N := 8) rfl iwX7_wrong_X7 7 (i := 1) rfl (by decide) rfl lkX7_wrong_0 rfl dX7_wrong_36 ?_
        refine lv_icmp_ne (tgt := 46) hx hb dX7_wrong_39 (by decide) (fun c5 => ?_) (fun c5 => ?_)
        · have hE := (if_neg c5).symm.trans hE
          refine lv_iload_n hx hb dX7_wrong_46 rfl (lv_at hl 0 rfl) ?_
          refine lv_iconst (v := 1) hx hb dX7_wrong_47 (by decide) ?_
          refine lv_iadd hx hb dX7_wrong_48 ?_
          refine lv_istore_n (lv' := [(1, .int (r2 + ((1 : Int32)))), (2, .int r2), (0, .ref b)]) hx hb dX7_wrong_49 rfl hl (by decide) rfl (fun ls hl => ?_)
          refine lv_goto (tgt := 2) hx hb dX7_wrong_50 (by decide) ?_
          cases hE
          exact hL9 _ rfl ls (lv_sub hl [0, 2] rfl)
        · have hE := (if_pos c5).symm.trans hE
          refine lv_sipush (v := (-1006)) hx hb dX7_wrong_42 (by decide) ?_
          cases hE
          have hE := hR9 _ rfl
          subst hE
          exact W.iret (v := (-1006 : Int32)) hx hb hr (fun t ht _ => ⟨rfl, ht⟩) (fun _ h => absurd h List.not_mem_nil) dX7_wrong_45
      · have hE := (if_neg c4).symm.trans hE
        refine lv_aload_n hx hb dX7_wrong_21 rfl (lv_at hl 2 rfl) ?_
        refine rg_getr F hR 0 (ci := 7) rfl (C := RX7) (T := TX7) (N := 8) rfl iwX7_wrong_X7 6 (d := 6) (n := 6) rfl rfl (by decide) rfl lkX7_wrong_1 rfl dX7_wrong_22 ?_
        refine lv_iload_n hx hb dX7_wrong_25 rfl (lv_at hl 0 rfl) ?_
        obtain ⟨g6, hE⟩ := gd_el hE
        refine rg_iald F hR 6 (n := 60) rfl g6 rfl dX7_wrong_26 ?_
        refine lv_bipush (v := 44) hx hb dX7_wrong_27 (by decide) ?_
        refine lv_icmp_eq (tgt := 34) hx hb dX7_wrong_29 (by decide) (fun c7 => ?_) (fun c7 => ?_)
        · have hE := (if_pos c7).symm.trans hE
          refine lv_iload_n hx hb dX7_wrong_34 rfl (lv_at hl 0 rfl) ?_
          refine lv_aload_n hx hb dX7_wrong_35 rfl (lv_at hl 2 rfl) ?_
          refine rg_geti F hR 0 (ci := 7) rfl (C := RX7) (T := TX7) (N := 8) rfl iwX7_wrong_X7 7 (i := 1) rfl (by decide) rfl lkX7_wrong_0 rfl dX7_wrong_36 ?_
          refine lv_icmp_ne (tgt := 46) hx hb dX7_wrong_39 (by decide) (fun c8 => ?_) (fun c8 => ?_)
          · have hE := (if_neg c8).symm.trans hE
            refine lv_iload_n hx hb dX7_wrong_46 rfl (lv_at hl 0 rfl) ?_
            refine lv_iconst (v := 1) hx hb dX7_wrong_47 (by decide) ?_
            refine lv_iadd hx hb dX7_wrong_48 ?_
            refine lv_istore_n (lv' := [(1, .int (r2 + ((1 : Int32)))), (2, .int r2), (0, .ref b)]) hx hb dX7_wrong_49 rfl hl (by decide) rfl (fun ls hl => ?_)
            refine lv_goto (tgt := 2) hx hb dX7_wrong_50 (by decide) ?_
            cases hE
            exact hL9 _ rfl ls (lv_sub hl [0, 2] rfl)
          · have hE := (if_pos c8).symm.trans hE
            refine lv_sipush (v := (-1006)) hx hb dX7_wrong_42 (by decide) ?_
            cases hE
            have hE := hR9 _ rfl
            subst hE
            exact W.iret (v := (-1006 : Int32)) hx hb hr (fun t ht _ => ⟨rfl, ht⟩) (fun _ h => absurd h List.not_mem_nil) dX7_wrong_45
        · have hE := (if_neg c7).symm.trans hE
          refine lv_iload_n hx hb dX7_wrong_32 rfl (lv_at hl 0 rfl) ?_
          cases hE
          have hE := hR9 _ rfl
          subst hE
          exact W.iret (v := r2) hx hb hr (fun t ht _ => ⟨rfl, ht⟩) (fun _ h => absurd h List.not_mem_nil) dX7_wrong_33
  · exact Option.some.inj hE
theorem hvX7_wrong : yX7_wrong.cls = RX7 ∧ yX7_wrong.cls ≠ "java/lang/invoke/MethodHandle" ∧ yX7_wrong.cls ≠ "java/lang/invoke/VarHandle" ∧ (parseMethodDescriptor yX7_wrong.desc).map (fun d => d.parameters.length) = some 0 := by decide +kernel
def qX7_fault (V : Mem) : Option (Int32) := (qX7_wrong V ).bind (fun r1 => some (r1))
abbrev rmX7_fault : Room := { frames := 3, cells := 0, slots := 0, locals := 66 }
set_option maxHeartbeats 4000000 in
set_option maxRecDepth 100000 in
theorem mX7_fault (l : Launch) (X : kX) (b : Nat) (V : Mem) (out : Int32) (hE : qX7_fault V = some out) : MR l yX7_fault wsX7_fault rmX7_fault X [.ref b] (RP X LM b V) (some (.int out)) := by
  refine mt_head (cc := cX7_fault) (maxL := 1) (ret := (some .int)) (own := RX7) (by decide) rfl rfl (Nat.le_of_ble_eq_true rfl) ?_
  intro p e s m below meth c ls F hr hlocks hnm hR hl
  have hx := F.1.1
  have hb := F.1.2.1
  have hl : lv_has ls 1 [(0, .ref b)] := hl
  unfold qX7_fault at hE
  refine lv_aload_n hx hb dX7_fault_0 rfl (lv_at hl 0 rfl) ?_
  obtain ⟨r1, er1, hE⟩ := bd_el hE
  refine rg_callRV (As := []) (rest := []) F (mX7_wrong l X b V  r1 er1) (cwV 0 F.1.2.2.2.2 gX7_fault_X7_wrong rfl rfl rfl hvX7_wrong ⟨Nat.le_of_ble_eq_true rfl, Nat.le_of_ble_eq_true rfl⟩) (rp_recv F hR 0 rfl (C := RX7) (T := TX7) (N := 8) rfl rfl) hR rfl hl.1 (Nat.le_of_ble_eq_true rfl) dX7_fault_1 ⟨Nat.zero_le _, Nat.zero_le _⟩ rfl ?_
  have hE := Option.some.inj hE
  subst hE
  exact W.iret (v := r1) hx hb hr (fun t ht _ => ⟨rfl, ht⟩) (fun _ h => absurd h List.not_mem_nil) dX7_fault_4
set_option maxRecDepth 20000 in
theorem lkX7_told_0 : Cond.fieldLink RX7 123 "TideWordsModel" "length" "I" ∈ wsX7_told := by decide +kernel
set_option maxRecDepth 20000 in
theorem iwX7_told_X7 : ∀ w ∈ wsX70, w ∈ wsX7_told := by decide +kernel
set_option maxRecDepth 20000 in
theorem lkX7_told_1 : Cond.fieldLink RX7 26 "TideWordsModel" "pad" "[I" ∈ wsX7_told := by decide +kernel
def lbX7_told_4 (V : Mem) (s1 : Int32 × Int32) : Option ((Int32 × Int32) ⊕ (Int32 × Int32)) := if V 0 1 ≤ s1.2 then some (.inr (s1.1, s1.2)) else if s1.2 < 0 ∨ 60 ≤ s1.2.toNatClampNeg then none else if V 6 s1.2.toNatClampNeg = (44 : Int32) then some (.inl (s1.1 + ((1 : Int32)), s1.2 + 1)) else some (.inl (s1.1 + ((0 : Int32)), s1.2 + 1))
def qX7_told (V : Mem) : Option (Int32) := (it (lbX7_told_4 V) fuel ((1 : Int32), (0 : Int32))).bind (fun s5 => some (s5.1))
abbrev rmX7_told : Room := { frames := 0, cells := 0, slots := 0, locals := 0 }
set_option maxHeartbeats 4000000 in
set_option maxRecDepth 100000 in
theorem mX7_told (l : Launch) (X : kX) (b : Nat) (V : Mem) (out : Int32) (hE : qX7_told V = some out) : MR l yX7_told wsX7_told rmX7_told X [.ref b] (RP X LM b V) (some (.int out)) := by
  refine mt_head (cc := cX7_told) (maxL := 3) (ret := (some .int)) (own := RX7) (by decide) rfl rfl (Nat.le_of_ble_eq_true rfl) ?_
  intro p e s m below meth c ls F hr hlocks hnm hR hl
  have hx := F.1.1
  have hb := F.1.2.1
  have hl : lv_has ls 3 [(0, .ref b)] := hl
  unfold qX7_told at hE
  refine lv_iconst (v := 1) hx hb dX7_told_0 (by decide) ?_
  refine lv_istore_n (lv' := [(1, .int ((1 : Int32))), (0, .ref b)]) hx hb dX7_told_1 rfl hl (by decide) rfl (fun ls hl => ?_)
  refine lv_iconst (v := 0) hx hb dX7_told_2 (by decide) ?_
  refine lv_istore_n (lv' := [(2, .int ((0 : Int32))), (1, .int ((1 : Int32))), (0, .ref b)]) hx hb dX7_told_3 rfl hl (by decide) rfl (fun ls hl => ?_)
  obtain ⟨x6, hx6, hE⟩ := bd_el hE
  refine it_walk2 (body := lbX7_told_4 V) (Wh := fun s1 => ∀ (ls : Array Slot), lv_has ls 3 [(2, .int s1.2), (1, .int s1.1), (0, .ref b)] → W p l e rmX7_told s m ([.ref b] : List Value).toArray below meth c s.heap [] 0 0 (MQ below (cQr (some (.int out))) ([.ref b] : List Value).toArray s 0 0 (fun _ => False)) (F0 m 4 ls [])) (We := fun s5 => ∀ (ls : Array Slot), lv_has ls 3 [(2, .int s5.2), (1, .int s5.1), (0, .ref b)] → W p l e rmX7_told s m ([.ref b] : List Value).toArray below meth c s.heap [] 0 0 (MQ below (cQr (some (.int out))) ([.ref b] : List Value).toArray s 0 0 (fun _ => False)) (F0 m 37 ls [])) ?_ _ _ _ hx6 ?_ ls (lv_sub hl [0, 1, 2] rfl)
  · intro s1 r9 hE hL9 hR9 ls hl
    unfold lbX7_told_4 at hE
    refine lv_iload_n hx hb dX7_told_4 rfl (lv_at hl 0 rfl) ?_
    refine lv_aload_n hx hb dX7_told_5 rfl (lv_at hl 2 rfl) ?_
    refine rg_geti F hR 0 (ci := 7) rfl (C := RX7) (T := TX7) (N := 8) rfl iwX7_told_X7 7 (i := 1) rfl (by decide) rfl lkX7_told_0 rfl dX7_told_6 ?_
    refine lv_icmp_ge (tgt := 37) hx hb dX7_told_9 (by decide) (fun c2 => ?_) (fun c2 => ?_)
    · have hE := (if_pos c2).symm.trans hE
      cases hE
      exact hR9 _ rfl ls (lv_sub hl [0, 1, 2] rfl)
    · have hE := (if_neg c2).symm.trans hE
      refine lv_iload_n hx hb dX7_told_12 rfl (lv_at hl 1 rfl) ?_
      refine lv_aload_n hx hb dX7_told_13 rfl (lv_at hl 2 rfl) ?_
      refine rg_getr F hR 0 (ci := 7) rfl (C := RX7) (T := TX7) (N := 8) rfl iwX7_told_X7 6 (d := 6) (n := 6) rfl rfl (by decide) rfl lkX7_told_1 rfl dX7_told_14 ?_
      refine lv_iload_n hx hb dX7_told_17 rfl (lv_at hl 0 rfl) ?_
      obtain ⟨g3, hE⟩ := gd_el hE
      refine rg_iald F hR 6 (n := 60) rfl g3 rfl dX7_told_18 ?_
      refine lv_bipush (v := 44) hx hb dX7_told_19 (by decide) ?_
      refine lv_icmp_ne (tgt := 28) hx hb dX7_told_21 (by decide) (fun c4 => ?_) (fun c4 => ?_)
      · have hE := (if_neg c4).symm.trans hE
        refine lv_iconst (v := 0) hx hb dX7_told_28 (by decide) ?_
        refine lv_iadd hx hb dX7_told_29 ?_
        refine lv_istore_n (lv' := [(1, .int (s1.1 + ((0 : Int32)))), (2, .int s1.2), (0, .ref b)]) hx hb dX7_told_30 rfl hl (by decide) rfl (fun ls hl => ?_)
        refine lv_iinc (v := s1.2 + 1) (lv' := [(2, .int (s1.2 + 1)), (1, .int (s1.1 + ((0 : Int32)))), (0, .ref b)]) hx hb dX7_told_31 hl (k := 1) rfl (congrArg (fun q => s1.2 + q) (by decide)) (by decide) rfl (fun ls hl => ?_)
        refine lv_goto (tgt := 4) hx hb dX7_told_34 (by decide) ?_
        cases hE
        exact hL9 _ rfl ls (lv_sub hl [0, 1, 2] rfl)
      · have hE := (if_pos c4).symm.trans hE
        refine lv_iconst (v := 1) hx hb dX7_told_24 (by decide) ?_
        refine lv_goto (tgt := 29) hx hb dX7_told_25 (by decide) ?_
        refine lv_iadd hx hb dX7_told_29 ?_
        refine lv_istore_n (lv' := [(1, .int (s1.1 + ((1 : Int32)))), (2, .int s1.2), (0, .ref b)]) hx hb dX7_told_30 rfl hl (by decide) rfl (fun ls hl => ?_)
        refine lv_iinc (v := s1.2 + 1) (lv' := [(2, .int (s1.2 + 1)), (1, .int (s1.1 + ((1 : Int32)))), (0, .ref b)]) hx hb dX7_told_31 hl (k := 1) rfl (congrArg (fun q => s1.2 + q) (by decide)) (by decide) rfl (fun ls hl => ?_)
        refine lv_goto (tgt := 4) hx hb dX7_told_34 (by decide) ?_
        cases hE
        exact hL9 _ rfl ls (lv_sub hl [0, 1, 2] rfl)
  · intro ls hl
    refine lv_iload_n hx hb dX7_told_37 rfl (lv_at hl 1 rfl) ?_
    have hE := Option.some.inj hE
    subst hE
    exact W.iret (v := x6.1) hx hb hr (fun t ht _ => ⟨rfl, ht⟩) (fun _ h => absurd h List.not_mem_nil) dX7_told_38
