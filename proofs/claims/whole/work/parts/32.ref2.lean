set_option maxRecDepth 20000 in
theorem lkX7_comes_0 : Cond.fieldLink RX7 7 "TideWordsModel" "s" "[I" ∈ wsX7_comes := by decide +kernel
set_option maxRecDepth 20000 in
theorem iwX7_comes_X7 : ∀ w ∈ wsX70, w ∈ wsX7_comes := by decide +kernel
theorem hsX7_inRow : yX7_inRow.cls ≠ "java/lang/invoke/MethodHandle" ∧ yX7_inRow.cls ≠ "java/lang/invoke/VarHandle" ∧ (parseMethodDescriptor yX7_inRow.desc).map (fun d => d.parameters.length) = some 2 := by decide +kernel
def qX7_comes (V : Mem) (a1 : Int32) (a2 : Int32) : Option (Mem) := if ((45 : Int32)) + a1 < 0 ∨ 131 ≤ (((45 : Int32)) + a1).toNatClampNeg then none else lt (fX7_inRow a1 (V 1 (((45 : Int32)) + a1).toNatClampNeg)) (fun r2 => if r2 < 0 ∨ 131 ≤ r2.toNatClampNeg then none else lt (sv V 1 r2.toNatClampNeg a2) (fun V4 => lt (sv V4 1 (((45 : Int32)) + a1).toNatClampNeg ((V4 1 (((45 : Int32)) + a1).toNatClampNeg) + ((1 : Int32)))) (fun V5 => some (V5))))
abbrev rmX7_comes : Room := { frames := 1, cells := 0, slots := 0, locals := 21 }
set_option maxHeartbeats 4000000 in
set_option maxRecDepth 100000 in
theorem mX7_comes (l : Launch) (X : kX) (b : Nat) (V : Mem) (a1 : Int32) (a2 : Int32) (out : Mem) (hE : qX7_comes V a1 a2 = some out) : MW l yX7_comes wsX7_comes rmX7_comes X [.ref b, .int a1, .int a2] (RP X LM b V) (none) b (b + LM.length) (RP X LM b out) := by
  refine mt_head (cc := cX7_comes) (maxL := 3) (ret := none) (own := RX7) (by decide) rfl rfl (Nat.le_of_ble_eq_true rfl) ?_
  intro p e s m below meth c ls F hr hlocks hnm hR hl
  have hx := F.1.1
  have hb := F.1.2.1
  have hH : Hp (t_fr b (b + LM.length)) s.heap s.heap.size X LM b V s.heap [] := ⟨hR, va_S.rf, rfl⟩
  have hl : lv_has ls 3 [(0, .ref b), (1, .int a1), (2, .int a2)] := hl
  unfold qX7_comes at hE
  refine lv_aload_n hx hb dX7_comes_0 rfl (lv_at hl 0 rfl) ?_
  refine rg_getr F hH.1 0 (ci := 7) rfl (C := RX7) (T := TX7) (N := 8) rfl iwX7_comes_X7 0 (d := 1) (n := 1) rfl rfl (by decide) rfl lkX7_comes_0 rfl dX7_comes_1 ?_
  refine lv_iload_n hx hb dX7_comes_4 rfl (lv_at hl 1 rfl) ?_
  refine lv_aload_n hx hb dX7_comes_5 rfl (lv_at hl 0 rfl) ?_
  refine rg_getr F hH.1 0 (ci := 7) rfl (C := RX7) (T := TX7) (N := 8) rfl iwX7_comes_X7 0 (d := 1) (n := 1) rfl rfl (by decide) rfl lkX7_comes_0 rfl dX7_comes_6 ?_
  refine lv_bipush (v := 45) hx hb dX7_comes_9 (by decide) ?_
  refine lv_iload_n hx hb dX7_comes_11 rfl (lv_at hl 1 rfl) ?_
  refine lv_iadd hx hb dX7_comes_12 ?_
  obtain ⟨g1, hE⟩ := gd_el hE
  refine rg_iald F hH.1 1 (n := 131) rfl g1 rfl dX7_comes_13 ?_
  obtain ⟨r2, er2, hE⟩ := lt_el hE
  refine rg_callRS (As := [.int a1, .int (V 1 (((45 : Int32)) + a1).toNatClampNeg)]) (rest := [.ref (b + 1)]) F (mX7_inRow l X a1 (V 1 (((45 : Int32)) + a1).toNatClampNeg) r2 er2) (va_cwS 2 F.1.2.2.2.2 gX7_comes_X7_inRow rfl rfl rfl hsX7_inRow ⟨Nat.le_of_ble_eq_true rfl, Nat.le_of_ble_eq_true rfl⟩)  trivial rfl hl.1 (Nat.le_of_ble_eq_true rfl) dX7_comes_14 ⟨Nat.zero_le _, Nat.zero_le _⟩ rfl ?_
  refine lv_iload_n hx hb dX7_comes_17 rfl (lv_at hl 2 rfl) ?_
  obtain ⟨g3, hE⟩ := gd_el hE
  obtain ⟨V4, eV4, hE⟩ := lt_el hE
  refine rg_iast F hH (fun q h1 h2 => ⟨h1, h2⟩) 1 (n := 131) rfl g3 rfl dX7_comes_18 (fun H locs hH => ?_)
  replace hH := hp_cast eV4 hH
  refine lv_aload_n hx hb dX7_comes_19 rfl (lv_at hl 0 rfl) ?_
  refine rg_getr F hH.1 0 (ci := 7) rfl (C := RX7) (T := TX7) (N := 8) rfl iwX7_comes_X7 0 (d := 1) (n := 1) rfl rfl (by decide) rfl lkX7_comes_0 rfl dX7_comes_20 ?_
  refine lv_bipush (v := 45) hx hb dX7_comes_23 (by decide) ?_
  refine lv_iload_n hx hb dX7_comes_25 rfl (lv_at hl 1 rfl) ?_
  refine lv_iadd hx hb dX7_comes_26 ?_
  refine lv_dup2_11 hx hb dX7_comes_27 rfl rfl ?_
  refine rg_iald F hH.1 1 (n := 131) rfl g1 rfl dX7_comes_28 ?_
  refine lv_iconst (v := 1) hx hb dX7_comes_29 (by decide) ?_
  refine lv_iadd hx hb dX7_comes_30 ?_
  obtain ⟨V5, eV5, hE⟩ := lt_el hE
  refine rg_iast F hH (fun q h1 h2 => ⟨h1, h2⟩) 1 (n := 131) rfl g1 rfl dX7_comes_31 (fun H locs hH => ?_)
  replace hH := hp_cast eV5 hH
  have hE := Option.some.inj hE
  subst hE
  exact W.vret hx hb hr (fun t ht _ => mw_post hH ht) hH.2.1.2.2 dX7_comes_32
set_option maxRecDepth 20000 in
theorem lkX7_goesBack_0 : Cond.fieldLink RX7 7 "TideWordsModel" "s" "[I" ∈ wsX7_goesBack := by decide +kernel
set_option maxRecDepth 20000 in
theorem iwX7_goesBack_X7 : ∀ w ∈ wsX70, w ∈ wsX7_goesBack := by decide +kernel
def lbX7_goesBack_10 (a1 : Int32) (s2 : Int32 × Mem) : Option ((Int32 × Mem) ⊕ (Int32 × Mem)) := if s2.1 ≤ 0 then some (.inr (s2.1, s2.2)) else lt (fX7_inRow a1 s2.1) (fun r4 => lt (fX7_inRow a1 (s2.1 - ((1 : Int32)))) (fun r5 => if r5 < 0 ∨ 131 ≤ r5.toNatClampNeg then none else if r4 < 0 ∨ 131 ≤ r4.toNatClampNeg then none else lt (sv s2.2 1 r4.toNatClampNeg (s2.2 1 r5.toNatClampNeg)) (fun V8 => some (.inl (s2.1 + (-1), V8)))))
def qX7_goesBack (V : Mem) (a1 : Int32) (a2 : Int32) : Option (Mem) := if ((45 : Int32)) + a1 < 0 ∨ 131 ≤ (((45 : Int32)) + a1).toNatClampNeg then none else (it (lbX7_goesBack_10 a1) fuel (V 1 (((45 : Int32)) + a1).toNatClampNeg, V)).bind (fun s9 => lt (fX7_inRow a1 ((0 : Int32))) (fun r11 => if r11 < 0 ∨ 131 ≤ r11.toNatClampNeg then none else lt (sv s9.2 1 r11.toNatClampNeg a2) (fun V13 => lt (sv V13 1 (((45 : Int32)) + a1).toNatClampNeg ((V13 1 (((45 : Int32)) + a1).toNatClampNeg) + ((1 : Int32)))) (fun V14 => some (V14)))))
abbrev rmX7_goesBack : Room := { frames := 1, cells := 0, slots := 0, locals := 21 }
set_option maxHeartbeats 4000000 in
set_option maxRecDepth 100000 in
theorem mX7_goesBack (l : Launch) (X : kX) (b : Nat) (V : Mem) (a1 : Int32) (a2 : Int32) (out : Mem) (hE : qX7_goesBack V a1 a2 = some out) : MW l yX7_goesBack wsX7_goesBack rmX7_goesBack X [.ref b, .int a1, .int a2] (RP X LM b V) (none) b (b + LM.length) (RP X LM b out) := by
  refine mt_head (cc := cX7_goesBack) (maxL := 4) (ret := none) (own := RX7) (by decide) rfl rfl (Nat.le_of_ble_eq_true rfl) ?_
  intro p e s m below meth c ls F hr hlocks hnm hR hl
  have hx := F.1.1
  have hb := F.1.2.1
  have hH : Hp (t_fr b (b + LM.length)) s.heap s.heap.size X LM b V s.heap [] := ⟨hR, va_S.rf, rfl⟩
  have hl : lv_has ls 4 [(0, .ref b), (1, .int a1), (2, .int a2)] := hl
  unfold qX7_goesBack at hE
  refine lv_aload_n hx hb dX7_goesBack_0 rfl (lv_at hl 0 rfl) ?_
  refine rg_getr F hH.1 0 (ci := 7) rfl (C := RX7) (T := TX7) (N := 8) rfl iwX7_goesBack_X7 0 (d := 1) (n := 1) rfl rfl (by decide) rfl lkX7_goesBack_0 rfl dX7_goesBack_1 ?_
  refine lv_bipush (v := 45) hx hb dX7_goesBack_4 (by decide) ?_
  refine lv_iload_n hx hb dX7_goesBack_6 rfl (lv_at hl 1 rfl) ?_
  refine lv_iadd hx hb dX7_goesBack_7 ?_
  obtain ⟨g1, hE⟩ := gd_el hE
  refine rg_iald F hH.1 1 (n := 131) rfl g1 rfl dX7_goesBack_8 ?_
  refine lv_istore_n (lv' := [(3, .int (V 1 (((45 : Int32)) + a1).toNatClampNeg)), (0, .ref b), (1, .int a1), (2, .int a2)]) hx hb dX7_goesBack_9 rfl hl (by decide) rfl (fun ls hl => ?_)
  obtain ⟨x10, hx10, hE⟩ := bd_el hE
  refine it_walk2 (body := lbX7_goesBack_10 a1) (Wh := fun s2 => ∀ (H : Heap) (locs : List Loc) (ls : Array Slot), Hp (t_fr b (b + LM.length)) s.heap s.heap.size X LM b s2.2 H locs → lv_has ls 4 [(3, .int s2.1), (0, .ref b), (1, .int a1), (2, .int a2)] → W p l e rmX7_goesBack s m ([.ref b, .int a1, .int a2] : List Value).toArray below meth c H locs 0 0 (MQ below (cQw (none) b (b + LM.length) (RP X LM b out)) ([.ref b, .int a1, .int a2] : List Value).toArray s 0 0 (t_fr b (b + LM.length))) (F0 m 10 ls [])) (We := fun s9 => ∀ (H : Heap) (locs : List Loc) (ls : Array Slot), Hp (t_fr b (b + LM.length)) s.heap s.heap.size X LM b s9.2 H locs → lv_has ls 4 [(3, .int s9.1), (0, .ref b), (1, .int a1), (2, .int a2)] → W p l e rmX7_goesBack s m ([.ref b, .int a1, .int a2] : List Value).toArray below meth c H locs 0 0 (MQ below (cQw (none) b (b + LM.length) (RP X LM b out)) ([.ref b, .int a1, .int a2] : List Value).toArray s 0 0 (t_fr b (b + LM.length))) (F0 m 42 ls [])) ?_ _ _ _ hx10 ?_ s.heap [] ls hH (lv_sub hl [0, 1, 2, 3] rfl)
  · intro s2 r9 hE hL9 hR9 H locs ls hH hl
    unfold lbX7_goesBack_10 at hE
    refine lv_iload_n hx hb dX7_goesBack_10 rfl (lv_at hl 0 rfl) ?_
    refine lv_if_le (tgt := 42) hx hb dX7_goesBack_11 (by decide) (fun c3 => ?_) (fun c3 => ?_)
    · have hE := (if_pos c3).symm.trans hE
      cases hE
      exact hR9 _ rfl H locs ls hH (lv_sub hl [0, 1, 2, 3] rfl)
    · have hE := (if_neg c3).symm.trans hE
      refine lv_aload_n hx hb dX7_goesBack_14 rfl (lv_at hl 1 rfl) ?_
      refine rg_getr F hH.1 0 (ci := 7) rfl (C := RX7) (T := TX7) (N := 8) rfl iwX7_goesBack_X7 0 (d := 1) (n := 1) rfl rfl (by decide) rfl lkX7_goesBack_0 rfl dX7_goesBack_15 ?_
      refine lv_iload_n hx hb dX7_goesBack_18 rfl (lv_at hl 2 rfl) ?_
      refine lv_iload_n hx hb dX7_goesBack_19 rfl (lv_at hl 0 rfl) ?_
      obtain ⟨r4, er4, hE⟩ := lt_el hE
      refine rg_callRS (As := [.int a1, .int s2.1]) (rest := [.ref (b + 1)]) F (mX7_inRow l X a1 s2.1 r4 er4) (va_cwS 2 F.1.2.2.2.2 gX7_goesBack_X7_inRow rfl rfl rfl hsX7_inRow ⟨Nat.le_of_ble_eq_true rfl, Nat.le_of_ble_eq_true rfl⟩)  trivial rfl hl.1 (Nat.le_of_ble_eq_true rfl) dX7_goesBack_20 ⟨Nat.zero_le _, Nat.zero_le _⟩ rfl ?_
      refine lv_aload_n hx hb dX7_goesBack_23 rfl (lv_at hl 1 rfl) ?_
      refine rg_getr F hH.1 0 (ci := 7) rfl (C := RX7) (T := TX7) (N := 8) rfl iwX7_goesBack_X7 0 (d := 1) (n := 1) rfl rfl (by decide) rfl lkX7_goesBack_0 rfl dX7_goesBack_24 ?_
      refine lv_iload_n hx hb dX7_goesBack_27 rfl (lv_at hl 2 rfl) ?_
      refine lv_iload_n hx hb dX7_goesBack_28 rfl (lv_at hl 0 rfl) ?_
      refine lv_iconst (v := 1) hx hb dX7_goesBack_29 (by decide) ?_
      refine lv_isub hx hb dX7_goesBack_30 ?_
      obtain ⟨r5, er5, hE⟩ := lt_el hE
      refine rg_callRS (As := [.int a1, .int (s2.1 - ((1 : Int32)))]) (rest := [.ref (b + 1), .int r4, .ref (b + 1)]) F (mX7_inRow l X a1 (s2.1 - ((1 : Int32))) r5 er5) (va_cwS 2 F.1.2.2.2.2 gX7_goesBack_X7_inRow rfl rfl rfl hsX7_inRow ⟨Nat.le_of_ble_eq_true rfl, Nat.le_of_ble_eq_true rfl⟩)  trivial rfl hl.1 (Nat.le_of_ble_eq_true rfl) dX7_goesBack_31 ⟨Nat.zero_le _, Nat.zero_le _⟩ rfl ?_
      obtain ⟨g6, hE⟩ := gd_el hE
      refine rg_iald F hH.1 1 (n := 131) rfl g6 rfl dX7_goesBack_34 ?_
      obtain ⟨g7, hE⟩ := gd_el hE
      obtain ⟨V8, eV8, hE⟩ := lt_el hE
      refine rg_iast F hH (fun q h1 h2 => ⟨h1, h2⟩) 1 (n := 131) rfl g7 rfl dX7_goesBack_35 (fun H locs hH => ?_)
      replace hH := hp_cast eV8 hH
      refine lv_iinc (v := s2.1 + (-1)) (lv' := [(3, .int (s2.1 + (-1))), (0, .ref b), (1, .int a1), (2, .int a2)]) hx hb dX7_goesBack_36 hl (k := 0) rfl (congrArg (fun q => s2.1 + q) (by decide)) (by decide) rfl (fun ls hl => ?_)
      refine lv_goto (tgt := 10) hx hb dX7_goesBack_39 (by decide) ?_
      cases hE
      exact hL9 _ rfl H locs ls hH (lv_sub hl [0, 1, 2, 3] rfl)
  · intro H locs ls hH hl
    refine lv_aload_n hx hb dX7_goesBack_42 rfl (lv_at hl 1 rfl) ?_
    refine rg_getr F hH.1 0 (ci := 7) rfl (C := RX7) (T := TX7) (N := 8) rfl iwX7_goesBack_X7 0 (d := 1) (n := 1) rfl rfl (by decide) rfl lkX7_goesBack_0 rfl dX7_goesBack_43 ?_
    refine lv_iload_n hx hb dX7_goesBack_46 rfl (lv_at hl 2 rfl) ?_
    refine lv_iconst (v := 0) hx hb dX7_goesBack_47 (by decide) ?_
    obtain ⟨r11, er11, hE⟩ := lt_el hE
    refine rg_callRS (As := [.int a1, .int ((0 : Int32))]) (rest := [.ref (b + 1)]) F (mX7_inRow l X a1 ((0 : Int32)) r11 er11) (va_cwS 2 F.1.2.2.2.2 gX7_goesBack_X7_inRow rfl rfl rfl hsX7_inRow ⟨Nat.le_of_ble_eq_true rfl, Nat.le_of_ble_eq_true rfl⟩)  trivial rfl hl.1 (Nat.le_of_ble_eq_true rfl) dX7_goesBack_48 ⟨Nat.zero_le _, Nat.zero_le _⟩ rfl ?_
    refine lv_iload_n hx hb dX7_goesBack_51 rfl (lv_at hl 3 rfl) ?_
    obtain ⟨g12, hE⟩ := gd_el hE
    obtain ⟨V13, eV13, hE⟩ := lt_el hE
    refine rg_iast F hH (fun q h1 h2 => ⟨h1, h2⟩) 1 (n := 131) rfl g12 rfl dX7_goesBack_52 (fun H locs hH => ?_)
    replace hH := hp_cast eV13 hH
    refine lv_aload_n hx hb dX7_goesBack_53 rfl (lv_at hl 1 rfl) ?_
    refine rg_getr F hH.1 0 (ci := 7) rfl (C := RX7) (T := TX7) (N := 8) rfl iwX7_goesBack_X7 0 (d := 1) (n := 1) rfl rfl (by decide) rfl lkX7_goesBack_0 rfl dX7_goesBack_54 ?_
    refine lv_bipush (v := 45) hx hb dX7_goesBack_57 (by decide) ?_
    refine lv_iload_n hx hb dX7_goesBack_59 rfl (lv_at hl 2 rfl) ?_
    refine lv_iadd hx hb dX7_goesBack_60 ?_
    refine lv_dup2_11 hx hb dX7_goesBack_61 rfl rfl ?_
    refine rg_iald F hH.1 1 (n := 131) rfl g1 rfl dX7_goesBack_62 ?_
    refine lv_iconst (v := 1) hx hb dX7_goesBack_63 (by decide) ?_
    refine lv_iadd hx hb dX7_goesBack_64 ?_
    obtain ⟨V14, eV14, hE⟩ := lt_el hE
    refine rg_iast F hH (fun q h1 h2 => ⟨h1, h2⟩) 1 (n := 131) rfl g1 rfl dX7_goesBack_65 (fun H locs hH => ?_)
    replace hH := hp_cast eV14 hH
    have hE := Option.some.inj hE
    subst hE
    exact W.vret hx hb hr (fun t ht _ => mw_post hH ht) hH.2.1.2.2 dX7_goesBack_66
set_option maxRecDepth 20000 in
theorem lkX7_takes_0 : Cond.fieldLink RX7 7 "TideWordsModel" "s" "[I" ∈ wsX7_takes := by decide +kernel
set_option maxRecDepth 20000 in
theorem iwX7_takes_X7 : ∀ w ∈ wsX70, w ∈ wsX7_takes := by decide +kernel
theorem hvX7_hasPassed : yX7_hasPassed.cls = RX7 ∧ yX7_hasPassed.cls ≠ "java/lang/invoke/MethodHandle" ∧ yX7_hasPassed.cls ≠ "java/lang/invoke/VarHandle" ∧ (parseMethodDescriptor yX7_hasPassed.desc).map (fun d => d.parameters.length) = some 1 := by decide +kernel
def lbX7_takes_2 (V : Mem) (a1 : Int32) (s1 : Int32) : Option ((Int32) ⊕ (Int32)) := if ((45 : Int32)) + a1 < 0 ∨ 131 ≤ (((45 : Int32)) + a1).toNatClampNeg then none else if V 1 (((45 : Int32)) + a1).toNatClampNeg ≤ s1 then some (.inr s1) else lt (fX7_inRow a1 s1) (fun r4 => if r4 < 0 ∨ 131 ≤ r4.toNatClampNeg then none else (qX7_hasPassed V (V 1 r4.toNatClampNeg)).bind (fun r6 => if r6 = 0 then some (.inr s1) else some (.inl (s1 + 1))))
def lbX7_takes_82 (a1 : Int32) (s15 : Int32 × Mem) : Option ((Int32 × Mem) ⊕ (Int32 × Mem)) := if s15.2 1 (((45 : Int32)) + a1).toNatClampNeg ≤ s15.1 then some (.inr (s15.1, s15.2)) else lt (fX7_inRow a1 s15.1) (fun r17 => lt (fX7_inRow a1 (s15.1 + ((1 : Int32)))) (fun r18 => if r18 < 0 ∨ 131 ≤ r18.toNatClampNeg then none else if r17 < 0 ∨ 131 ≤ r17.toNatClampNeg then none else lt (sv s15.2 1 r17.toNatClampNeg (s15.2 1 r18.toNatClampNeg)) (fun V21 => some (.inl (s15.1 + 1, V21)))))
def qX7_takes (V : Mem) (a1 : Int32) : Option (Int32 × Mem) := (it (lbX7_takes_2 V a1) fuel (0 : Int32)).bind (fun s8 => if ((45 : Int32)) + a1 < 0 ∨ 131 ≤ (((45 : Int32)) + a1).toNatClampNeg then none else if s8 = V 1 (((45 : Int32)) + a1).toNatClampNeg then some (((-1006 : Int32), V)) else lt (fX7_inRow a1 s8) (fun r12 => if r12 < 0 ∨ 131 ≤ r12.toNatClampNeg then none else lt (sv V 1 (((45 : Int32)) + a1).toNatClampNeg ((V 1 (((45 : Int32)) + a1).toNatClampNeg) - ((1 : Int32)))) (fun V14 => (it (lbX7_takes_82 a1) fuel (s8, V14)).bind (fun s22 => lt (fX7_inRow a1 (s22.2 1 (((45 : Int32)) + a1).toNatClampNeg)) (fun r24 => if r24 < 0 ∨ 131 ≤ r24.toNatClampNeg then none else lt (sv s22.2 1 r24.toNatClampNeg ((0 : Int32))) (fun V26 => some ((V 1 r12.toNatClampNeg, V26))))))))
abbrev rmX7_takes : Room := { frames := 2, cells := 0, slots := 0, locals := 42 }
set_option maxHeartbeats 4000000 in
set_option maxRecDepth 100000 in
theorem mX7_takes (l : Launch) (X : kX) (b : Nat) (V : Mem) (a1 : Int32) (out : Int32 × Mem) (hE : qX7_takes V a1 = some out) : MW l yX7_takes wsX7_takes rmX7_takes X [.ref b, .int a1] (RP X LM b V) (some (.int out.1)) b (b + LM.length) (RP X LM b out.2) := by
  refine mt_head (cc := cX7_takes) (maxL := 5) (ret := (some .int)) (own := RX7) (by decide) rfl rfl (Nat.le_of_ble_eq_true rfl) ?_
  intro p e s m below meth c ls F hr hlocks hnm hR hl
  have hx := F.1.1
  have hb := F.1.2.1
  have hH : Hp (t_fr b (b + LM.length)) s.heap s.heap.size X LM b V s.heap [] := ⟨hR, va_S.rf, rfl⟩
  have hl : lv_has ls 5 [(0, .ref b), (1, .int a1)] := hl
  unfold qX7_takes at hE
  refine lv_iconst (v := 0) hx hb dX7_takes_0 (by decide) ?_
  refine lv_istore_n (lv' := [(2, .int ((0 : Int32))), (0, .ref b), (1, .int a1)]) hx hb dX7_takes_1 rfl hl (by decide) rfl (fun ls hl => ?_)
  obtain ⟨x9, hx9, hE⟩ := bd_el hE
  refine it_walk2 (body := lbX7_takes_2 V a1) (Wh := fun s1 => ∀ (ls : Array Slot), lv_has ls 5 [(2, .int s1), (0, .ref b), (1, .int a1)] → W p l e rmX7_takes s m ([.ref b, .int a1] : List Value).toArray below meth c s.heap [] 0 0 (MQ below (cQw (some (.int out.1)) b (b + LM.length) (RP X LM b out.2)) ([.ref b, .int a1] : List Value).toArray s 0 0 (t_fr b (b + LM.length))) (F0 m 2 ls [])) (We := fun s8 => ∀ (ls : Array Slot), lv_has ls 5 [(2, .int s8), (0, .ref b), (1, .int a1)] → W p l e rmX7_takes s m ([.ref b, .int a1] : List Value).toArray below meth c s.heap [] 0 0 (MQ below (cQw (some (.int out.1)) b (b + LM.length) (RP X LM b out.2)) ([.ref b, .int a1] : List Value).toArray s 0 0 (t_fr b (b + LM.length))) (F0 m 38 ls [])) ?_ _ _ _ hx9 ?_ ls (lv_sub hl [0, 1, 2] rfl)
  · intro s1 r9 hE hL9 hR9 ls hl
    unfold lbX7_takes_2 at hE
    refine lv_iload_n hx hb dX7_takes_2 rfl (lv_at hl 0 rfl) ?_
    refine lv_aload_n hx hb dX7_takes_3 rfl (lv_at hl 1 rfl) ?_
    refine rg_getr F hH.1 0 (ci := 7) rfl (C := RX7) (T := TX7) (N := 8) rfl iwX7_takes_X7 0 (d := 1) (n := 1) rfl rfl (by decide) rfl lkX7_takes_0 rfl dX7_takes_4 ?_
    refine lv_bipush (v := 45) hx hb dX7_takes_7 (by decide) ?_
    refine lv_iload_n hx hb dX7_takes_9 rfl (lv_at hl 2 rfl) ?_
    refine lv_iadd hx hb dX7_takes_10 ?_
    obtain ⟨g2, hE⟩ := gd_el hE
    refine rg_iald F hH.1 1 (n := 131) rfl g2 rfl dX7_takes_11 ?_
    refine lv_icmp_ge (tgt := 38) hx hb dX7_takes_12 (by decide) (fun c3 => ?_) (fun c3 => ?_)
    · have hE := (if_pos c3).symm.trans hE
      cases hE
      exact hR9 _ rfl ls (lv_sub hl [0, 1, 2] rfl)
    · have hE := (if_neg c3).symm.trans hE
      refine lv_aload_n hx hb dX7_takes_15 rfl (lv_at hl 1 rfl) ?_
      refine lv_aload_n hx hb dX7_takes_16 rfl (lv_at hl 1 rfl) ?_
      refine rg_getr F hH.1 0 (ci := 7) rfl (C := RX7) (T := TX7) (N := 8) rfl iwX7_takes_X7 0 (d := 1) (n := 1) rfl rfl (by decide) rfl lkX7_takes_0 rfl dX7_takes_17 ?_
      refine lv_iload_n hx hb dX7_takes_20 rfl (lv_at hl 2 rfl) ?_
      refine lv_iload_n hx hb dX7_takes_21 rfl (lv_at hl 0 rfl) ?_
      obtain ⟨r4, er4, hE⟩ := lt_el hE
      refine rg_callRS (As := [.int a1, .int s1]) (rest := [.ref (b + 1), .ref b]) F (mX7_inRow l X a1 s1 r4 er4) (va_cwS 2 F.1.2.2.2.2 gX7_takes_X7_inRow rfl rfl rfl hsX7_inRow ⟨Nat.le_of_ble_eq_true rfl, Nat.le_of_ble_eq_true rfl⟩)  trivial rfl hl.1 (Nat.le_of_ble_eq_true rfl) dX7_takes_22 ⟨Nat.zero_le _, Nat.zero_le _⟩ rfl ?_
      obtain ⟨g5, hE⟩ := gd_el hE
      refine rg_iald F hH.1 1 (n := 131) rfl g5 rfl dX7_takes_25 ?_
      obtain ⟨r6, er6, hE⟩ := bd_el hE
      refine rg_callRV (As := [.int (V 1 r4.toNatClampNeg)]) (rest := []) F (mX7_hasPassed l X b V (V 1 r4.toNatClampNeg) r6 er6) (cwV 1 F.1.2.2.2.2 gX7_takes_X7_hasPassed rfl rfl rfl hvX7_hasPassed ⟨Nat.le_of_ble_eq_true rfl, Nat.le_of_ble_eq_true rfl⟩) (rp_recv F hH.1 0 rfl (C := RX7) (T := TX7) (N := 8) rfl rfl) hH.1 rfl hl.1 (Nat.le_of_ble_eq_true rfl) dX7_takes_26 ⟨Nat.zero_le _, Nat.zero_le _⟩ rfl ?_
      refine lv_if_eq (tgt := 38) hx hb dX7_takes_29 (by decide) (fun c7 => ?_) (fun c7 => ?_)
      · have hE := (if_pos c7).symm.trans hE
        cases hE
        exact hR9 _ rfl ls (lv_sub hl [0, 1, 2] rfl)
      · have hE := (if_neg c7).symm.trans hE
        refine lv_iinc (v := s1 + 1) (lv' := [(2, .int (s1 + 1)), (0, .ref b), (1, .int a1)]) hx hb dX7_takes_32 hl (k := 0) rfl (congrArg (fun q => s1 + q) (by decide)) (by decide) rfl (fun ls hl => ?_)
        refine lv_goto (tgt := 2) hx hb dX7_takes_35 (by decide) ?_
        cases hE
        exact hL9 _ rfl ls (lv_sub hl [0, 1, 2] rfl)
  · intro ls hl
    refine lv_iload_n hx hb dX7_takes_38 rfl (lv_at hl 0 rfl) ?_
    refine lv_aload_n hx hb dX7_takes_39 rfl (lv_at hl 1 rfl) ?_
    refine rg_getr F hH.1 0 (ci := 7) rfl (C := RX7) (T := TX7) (N := 8) rfl iwX7_takes_X7 0 (d := 1) (n := 1) rfl rfl (by decide) rfl lkX7_takes_0 rfl dX7_takes_40 ?_
    refine lv_bipush (v := 45) hx hb dX7_takes_43 (by decide) ?_
    refine lv_iload_n hx hb dX7_takes_45 rfl (lv_at hl 2 rfl) ?_
    refine lv_iadd hx hb dX7_takes_46 ?_
    obtain ⟨g10, hE⟩ := gd_el hE
    refine rg_iald F hH.1 1 (n := 131) rfl g10 rfl dX7_takes_47 ?_
    refine lv_icmp_ne (tgt := 55) hx hb dX7_takes_48 (by decide) (fun c11 => ?_) (fun c11 => ?_)
    · have hE := (if_neg c11).symm.trans hE
      refine lv_aload_n hx hb dX7_takes_55 rfl (lv_at hl 1 rfl) ?_
      refine rg_getr F hH.1 0 (ci := 7) rfl (C := RX7) (T := TX7) (N := 8) rfl iwX7_takes_X7 0 (d := 1) (n := 1) rfl rfl (by decide) rfl lkX7_takes_0 rfl dX7_takes_56 ?_
      refine lv_iload_n hx hb dX7_takes_59 rfl (lv_at hl 2 rfl) ?_
      refine lv_iload_n hx hb dX7_takes_60 rfl (lv_at hl 0 rfl) ?_
      obtain ⟨r12, er12, hE⟩ := lt_el hE
      refine rg_callRS (As := [.int a1, .int x9]) (rest := [.ref (b + 1)]) F (mX7_inRow l X a1 x9 r12 er12) (va_cwS 2 F.1.2.2.2.2 gX7_takes_X7_inRow rfl rfl rfl hsX7_inRow ⟨Nat.le_of_ble_eq_true rfl, Nat.le_of_ble_eq_true rfl⟩)  trivial rfl hl.1 (Nat.le_of_ble_eq_true rfl) dX7_takes_61 ⟨Nat.zero_le _, Nat.zero_le _⟩ rfl ?_
      obtain ⟨g13, hE⟩ := gd_el hE
      refine rg_iald F hH.1 1 (n := 131) rfl g13 rfl dX7_takes_64 ?_
      refine lv_istore_n (lv' := [(3, .int (V 1 r12.toNatClampNeg)), (2, .int x9), (0, .ref b), (1, .int a1)]) hx hb dX7_takes_65 rfl hl (by decide) rfl (fun ls hl => ?_)
      refine lv_aload_n hx hb dX7_takes_66 rfl (lv_at hl 2 rfl) ?_
      refine rg_getr F hH.1 0 (ci := 7) rfl (C := RX7) (T := TX7) (N := 8) rfl iwX7_takes_X7 0 (d := 1) (n := 1) rfl rfl (by decide) rfl lkX7_takes_0 rfl dX7_takes_67 ?_
      refine lv_bipush (v := 45) hx hb dX7_takes_70 (by decide) ?_
      refine lv_iload_n hx hb dX7_takes_72 rfl (lv_at hl 3 rfl) ?_
      refine lv_iadd hx hb dX7_takes_73 ?_
      refine lv_dup2_11 hx hb dX7_takes_74 rfl rfl ?_
      refine rg_iald F hH.1 1 (n := 131) rfl g10 rfl dX7_takes_75 ?_
      refine lv_iconst (v := 1) hx hb dX7_takes_76 (by decide) ?_
      refine lv_isub hx hb dX7_takes_77 ?_
      obtain ⟨V14, eV14, hE⟩ := lt_el hE
      refine rg_iast F hH (fun q h1 h2 => ⟨h1, h2⟩) 1 (n := 131) rfl g10 rfl dX7_takes_78 (fun H locs hH => ?_)
      replace hH := hp_cast eV14 hH
      refine lv_iload_n hx hb dX7_takes_79 rfl (lv_at hl 1 rfl) ?_
      refine lv_istore (lv' := [(4, .int x9), (3, .int (V 1 r12.toNatClampNeg)), (2, .int x9), (0, .ref b), (1, .int a1)]) hx hb dX7_takes_80 hl (by decide) rfl (fun ls hl => ?_)
      obtain ⟨x23, hx23, hE⟩ := bd_el hE
      refine it_walk2 (body := lbX7_takes_82 a1) (Wh := fun s15 => ∀ (H : Heap) (locs : List Loc) (ls : Array Slot), Hp (t_fr b (b + LM.length)) s.heap s.heap.size X LM b s15.2 H locs → lv_has ls 5 [(4, .int s15.1), (3, .int (V 1 r12.toNatClampNeg)), (2, .int x9), (0, .ref b), (1, .int a1)] → W p l e rmX7_takes s m ([.ref b, .int a1] : List Value).toArray below meth c H locs 0 0 (MQ below (cQw (some (.int out.1)) b (b + LM.length) (RP X LM b out.2)) ([.ref b, .int a1] : List Value).toArray s 0 0 (t_fr b (b + LM.length))) (F0 m 82 ls [])) (We := fun s22 => ∀ (H : Heap) (locs : List Loc) (ls : Array Slot), Hp (t_fr b (b + LM.length)) s.heap s.heap.size X LM b s22.2 H locs → lv_has ls 5 [(4, .int s22.1), (3, .int (V 1 r12.toNatClampNeg)), (2, .int x9), (0, .ref b), (1, .int a1)] → W p l e rmX7_takes s m ([.ref b, .int a1] : List Value).toArray below meth c H locs 0 0 (MQ below (cQw (some (.int out.1)) b (b + LM.length) (RP X LM b out.2)) ([.ref b, .int a1] : List Value).toArray s 0 0 (t_fr b (b + LM.length))) (F0 m 126 ls [])) ?_ _ _ _ hx23 ?_ H locs ls hH (lv_sub hl [0, 1, 2, 3, 4] rfl)
      · intro s15 r9 hE hL9 hR9 H locs ls hH hl
        unfold lbX7_takes_82 at hE
        refine lv_iload hx hb dX7_takes_82 (lv_at hl 0 rfl) ?_
        refine lv_aload_n hx hb dX7_takes_84 rfl (lv_at hl 3 rfl) ?_
        refine rg_getr F hH.1 0 (ci := 7) rfl (C := RX7) (T := TX7) (N := 8) rfl iwX7_takes_X7 0 (d := 1) (n := 1) rfl rfl (by decide) rfl lkX7_takes_0 rfl dX7_takes_85 ?_
        refine lv_bipush (v := 45) hx hb dX7_takes_88 (by decide) ?_
        refine lv_iload_n hx hb dX7_takes_90 rfl (lv_at hl 4 rfl) ?_
        refine lv_iadd hx hb dX7_takes_91 ?_
        refine rg_iald F hH.1 1 (n := 131) rfl g10 rfl dX7_takes_92 ?_
        refine lv_icmp_ge (tgt := 126) hx hb dX7_takes_93 (by decide) (fun c16 => ?_) (fun c16 => ?_)
        · have hE := (if_pos c16).symm.trans hE
          cases hE
          exact hR9 _ rfl H locs ls hH (lv_sub hl [0, 1, 2, 3, 4] rfl)
        · have hE := (if_neg c16).symm.trans hE
          refine lv_aload_n hx hb dX7_takes_96 rfl (lv_at hl 3 rfl) ?_
          refine rg_getr F hH.1 0 (ci := 7) rfl (C := RX7) (T := TX7) (N := 8) rfl iwX7_takes_X7 0 (d := 1) (n := 1) rfl rfl (by decide) rfl lkX7_takes_0 rfl dX7_takes_97 ?_
          refine lv_iload_n hx hb dX7_takes_100 rfl (lv_at hl 4 rfl) ?_
          refine lv_iload hx hb dX7_takes_101 (lv_at hl 0 rfl) ?_
          obtain ⟨r17, er17, hE⟩ := lt_el hE
          refine rg_callRS (As := [.int a1, .int s15.1]) (rest := [.ref (b + 1)]) F (mX7_inRow l X a1 s15.1 r17 er17) (va_cwS 2 F.1.2.2.2.2 gX7_takes_X7_inRow rfl rfl rfl hsX7_inRow ⟨Nat.le_of_ble_eq_true rfl, Nat.le_of_ble_eq_true rfl⟩)  trivial rfl hl.1 (Nat.le_of_ble_eq_true rfl) dX7_takes_103 ⟨Nat.zero_le _, Nat.zero_le _⟩ rfl ?_
          refine lv_aload_n hx hb dX7_takes_106 rfl (lv_at hl 3 rfl) ?_
          refine rg_getr F hH.1 0 (ci := 7) rfl (C := RX7) (T := TX7) (N := 8) rfl iwX7_takes_X7 0 (d := 1) (n := 1) rfl rfl (by decide) rfl lkX7_takes_0 rfl dX7_takes_107 ?_
          refine lv_iload_n hx hb dX7_takes_110 rfl (lv_at hl 4 rfl) ?_
          refine lv_iload hx hb dX7_takes_111 (lv_at hl 0 rfl) ?_
          refine lv_iconst (v := 1) hx hb dX7_takes_113 (by decide) ?_
          refine lv_iadd hx hb dX7_takes_114 ?_
          obtain ⟨r18, er18, hE⟩ := lt_el hE
          refine rg_callRS (As := [.int a1, .int (s15.1 + ((1 : Int32)))]) (rest := [.ref (b + 1), .int r17, .ref (b + 1)]) F (mX7_inRow l X a1 (s15.1 + ((1 : Int32))) r18 er18) (va_cwS 2 F.1.2.2.2.2 gX7_takes_X7_inRow rfl rfl rfl hsX7_inRow ⟨Nat.le_of_ble_eq_true rfl, Nat.le_of_ble_eq_true rfl⟩)  trivial rfl hl.1 (Nat.le_of_ble_eq_true rfl) dX7_takes_115 ⟨Nat.zero_le _, Nat.zero_le _⟩ rfl ?_
          obtain ⟨g19, hE⟩ := gd_el hE
          refine rg_iald F hH.1 1 (n := 131) rfl g19 rfl dX7_takes_118 ?_
          obtain ⟨g20, hE⟩ := gd_el hE
          obtain ⟨V21, eV21, hE⟩ := lt_el hE
          refine rg_iast F hH (fun q h1 h2 => ⟨h1, h2⟩) 1 (n := 131) rfl g20 rfl dX7_takes_119 (fun H locs hH => ?_)
          replace hH := hp_cast eV21 hH
          refine lv_iinc (v := s15.1 + 1) (lv' := [(4, .int (s15.1 + 1)), (3, .int (V 1 r12.toNatClampNeg)), (2, .int x9), (0, .ref b), (1, .int a1)]) hx hb dX7_takes_120 hl (k := 0) rfl (congrArg (fun q => s15.1 + q) (by decide)) (by decide) rfl (fun ls hl => ?_)
          refine lv_goto (tgt := 82) hx hb dX7_takes_123 (by decide) ?_
          cases hE
          exact hL9 _ rfl H locs ls hH (lv_sub hl [0, 1, 2, 3, 4] rfl)
      · intro H locs ls hH hl
        refine lv_aload_n hx hb dX7_takes_126 rfl (lv_at hl 3 rfl) ?_
        refine rg_getr F hH.1 0 (ci := 7) rfl (C := RX7) (T := TX7) (N := 8) rfl iwX7_takes_X7 0 (d := 1) (n := 1) rfl rfl (by decide) rfl lkX7_takes_0 rfl dX7_takes_127 ?_
        refine lv_iload_n hx hb dX7_takes_130 rfl (lv_at hl 4 rfl) ?_
        refine lv_aload_n hx hb dX7_takes_131 rfl (lv_at hl 3 rfl) ?_
        refine rg_getr F hH.1 0 (ci := 7) rfl (C := RX7) (T := TX7) (N := 8) rfl iwX7_takes_X7 0 (d := 1) (n := 1) rfl rfl (by decide) rfl lkX7_takes_0 rfl dX7_takes_132 ?_
        refine lv_bipush (v := 45) hx hb dX7_takes_135 (by decide) ?_
        refine lv_iload_n hx hb dX7_takes_137 rfl (lv_at hl 4 rfl) ?_
        refine lv_iadd hx hb dX7_takes_138 ?_
        refine rg_iald F hH.1 1 (n := 131) rfl g10 rfl dX7_takes_139 ?_
        obtain ⟨r24, er24, hE⟩ := lt_el hE
        refine rg_callRS (As := [.int a1, .int (x23.2 1 (((45 : Int32)) + a1).toNatClampNeg)]) (rest := [.ref (b + 1)]) F (mX7_inRow l X a1 (x23.2 1 (((45 : Int32)) + a1).toNatClampNeg) r24 er24) (va_cwS 2 F.1.2.2.2.2 gX7_takes_X7_inRow rfl rfl rfl hsX7_inRow ⟨Nat.le_of_ble_eq_true rfl, Nat.le_of_ble_eq_true rfl⟩)  trivial rfl hl.1 (Nat.le_of_ble_eq_true rfl) dX7_takes_140 ⟨Nat.zero_le _, Nat.zero_le _⟩ rfl ?_
        refine lv_iconst (v := 0) hx hb dX7_takes_143 (by decide) ?_
        obtain ⟨g25, hE⟩ := gd_el hE
        obtain ⟨V26, eV26, hE⟩ := lt_el hE
        refine rg_iast F hH (fun q h1 h2 => ⟨h1, h2⟩) 1 (n := 131) rfl g25 rfl dX7_takes_144 (fun H locs hH => ?_)
        replace hH := hp_cast eV26 hH
        refine lv_iload_n hx hb dX7_takes_145 rfl (lv_at hl 1 rfl) ?_
        have hE := Option.some.inj hE
        subst hE
        exact W.iret (v := V 1 r12.toNatClampNeg) hx hb hr (fun t ht _ => mw_post hH ht) hH.2.1.2.2 dX7_takes_146
    · have hE := (if_pos c11).symm.trans hE
      refine lv_sipush (v := (-1006)) hx hb dX7_takes_51 (by decide) ?_
      have hE := Option.some.inj hE
      subst hE
      exact W.iret (v := (-1006 : Int32)) hx hb hr (fun t ht _ => mw_post hH ht) hH.2.1.2.2 dX7_takes_54
set_option maxRecDepth 20000 in
theorem lkX7_acts_0 : Cond.fieldLink RX7 7 "TideWordsModel" "s" "[I" ∈ wsX7_acts := by decide +kernel
set_option maxRecDepth 20000 in
theorem iwX7_acts_X7 : ∀ w ∈ wsX70, w ∈ wsX7_acts := by decide +kernel
theorem hvX7_goesBack : yX7_goesBack.cls = RX7 ∧ yX7_goesBack.cls ≠ "java/lang/invoke/MethodHandle" ∧ yX7_goesBack.cls ≠ "java/lang/invoke/VarHandle" ∧ (parseMethodDescriptor yX7_goesBack.desc).map (fun d => d.parameters.length) = some 2 := by decide +kernel
theorem hvX7_comes : yX7_comes.cls = RX7 ∧ yX7_comes.cls ≠ "java/lang/invoke/MethodHandle" ∧ yX7_comes.cls ≠ "java/lang/invoke/VarHandle" ∧ (parseMethodDescriptor yX7_comes.desc).map (fun d => d.parameters.length) = some 2 := by decide +kernel
theorem hvX7_takes : yX7_takes.cls = RX7 ∧ yX7_takes.cls ≠ "java/lang/invoke/MethodHandle" ∧ yX7_takes.cls ≠ "java/lang/invoke/VarHandle" ∧ (parseMethodDescriptor yX7_takes.desc).map (fun d => d.parameters.length) = some 1 := by decide +kernel
def qX7_acts (V : Mem) (a1 : Int32) : Option (Mem) := (qX7_isOpen V a1 (V 1 0)).bind (fun r1 => lt (fX7_ofGate a1 ((0 : Int32))) (fun r2 => if r2 < 0 ∨ 131 ≤ r2.toNatClampNeg then none else if r1 = 0 then lt (fX7_ofGate a1 ((4 : Int32))) (fun r5 => if r5 < 0 ∨ 131 ≤ r5.toNatClampNeg then none else if V 1 r5.toNatClampNeg = (-1006 : Int32) then some (V) else lt (fX7_ofGate a1 ((2 : Int32))) (fun r8 => if r8 < 0 ∨ 131 ≤ r8.toNatClampNeg then none else if V 1 r8.toNatClampNeg = 0 then lt (fX7_ofGate a1 ((5 : Int32))) (fun r11 => if r11 < 0 ∨ 131 ≤ r11.toNatClampNeg then none else lt (sv V 1 3 ((V 1 3) + (V 1 r11.toNatClampNeg))) (fun V13 => lt (fX7_ofGate a1 ((7 : Int32))) (fun r14 => if r14 < 0 ∨ 131 ≤ r14.toNatClampNeg then none else lt (fX7_ofGate a1 ((5 : Int32))) (fun r16 => if r16 < 0 ∨ 131 ≤ r16.toNatClampNeg then none else lt (sv V13 1 r14.toNatClampNeg ((V13 1 r14.toNatClampNeg) + (V13 1 r16.toNatClampNeg))) (fun V18 => lt (fX7_ofWord (V 1 r5.toNatClampNeg) ((4 : Int32))) (fun r19 => if r19 < 0 ∨ 131 ≤ r19.toNatClampNeg then none else lt (sv V18 1 r19.toNatClampNeg ((V18 1 r19.toNatClampNeg) + ((1 : Int32)))) (fun V21 => lt (fX7_ofGate a1 ((4 : Int32))) (fun r22 => if r22 < 0 ∨ 131 ≤ r22.toNatClampNeg then none else lt (sv V21 1 r22.toNatClampNeg ((-1006 : Int32))) (fun V24 => lt (fX7_ofGate a1 ((5 : Int32))) (fun r25 => if r25 < 0 ∨ 131 ≤ r25.toNatClampNeg then none else lt (sv V24 1 r25.toNatClampNeg ((0 : Int32))) (fun V27 => (qX7_goesBack V27 (V 1 r2.toNatClampNeg) (V 1 r5.toNatClampNeg)).bind (fun U28 => some (U28))))))))))))) else some (V))) else lt (fX7_ofGate a1 ((4 : Int32))) (fun r29 => if r29 < 0 ∨ 131 ≤ r29.toNatClampNeg then none else if V 1 r29.toNatClampNeg = (-1006 : Int32) then lt (fX7_ofGate a1 ((4 : Int32))) (fun r62 => (qX7_takes V (V 1 r2.toNatClampNeg)).bind (fun U63 => if r62 < 0 ∨ 131 ≤ r62.toNatClampNeg then none else lt (sv U63.2 1 r62.toNatClampNeg U63.1) (fun V65 => lt (fX7_ofGate a1 ((4 : Int32))) (fun r66 => if r66 < 0 ∨ 131 ≤ r66.toNatClampNeg then none else if V65 1 r66.toNatClampNeg = (-1006 : Int32) then some (V65) else lt (fX7_ofGate a1 ((5 : Int32))) (fun r69 => if r69 < 0 ∨ 131 ≤ r69.toNatClampNeg then none else lt (sv V65 1 r69.toNatClampNeg ((V65 1 r69.toNatClampNeg) + ((1 : Int32)))) (fun V71 => lt (sv V71 1 2 ((V71 1 2) + ((1 : Int32)))) (fun V72 => lt (fX7_ofGate a1 ((5 : Int32))) (fun r73 => if r73 < 0 ∨ 131 ≤ r73.toNatClampNeg then none else (qX7_lettersOf V72 (V65 1 r66.toNatClampNeg)).bind (fun r75 => if V72 1 r73.toNatClampNeg = r75 then lt (fX7_ofWord (V65 1 r66.toNatClampNeg) ((1 : Int32))) (fun r77 => if r77 < 0 ∨ 131 ≤ r77.toNatClampNeg then none else lt (sv V72 1 r77.toNatClampNeg ((1 : Int32))) (fun V79 => lt (fX7_ofWord (V65 1 r66.toNatClampNeg) ((2 : Int32))) (fun r80 => if r80 < 0 ∨ 131 ≤ r80.toNatClampNeg then none else lt (sv V79 1 r80.toNatClampNeg (V79 1 0)) (fun V82 => lt (fX7_ofWord (V65 1 r66.toNatClampNeg) ((3 : Int32))) (fun r83 => if r83 < 0 ∨ 131 ≤ r83.toNatClampNeg then none else lt (sv V82 1 r83.toNatClampNeg a1) (fun V85 => lt (fX7_ofGate a1 ((6 : Int32))) (fun r86 => if r86 < 0 ∨ 131 ≤ r86.toNatClampNeg then none else lt (sv V85 1 r86.toNatClampNeg ((V85 1 r86.toNatClampNeg) + ((1 : Int32)))) (fun V88 => lt (fX7_ofGate a1 ((4 : Int32))) (fun r89 => if r89 < 0 ∨ 131 ≤ r89.toNatClampNeg then none else lt (sv V88 1 r89.toNatClampNeg ((-1006 : Int32))) (fun V91 => lt (fX7_ofGate a1 ((5 : Int32))) (fun r92 => if r92 < 0 ∨ 131 ≤ r92.toNatClampNeg then none else lt (sv V91 1 r92.toNatClampNeg ((0 : Int32))) (fun V94 => (qX7_comes V94 (((1 : Int32)) - (V 1 r2.toNatClampNeg)) (V65 1 r66.toNatClampNeg)).bind (fun U95 => some (U95)))))))))))))) else some (V72)))))))))) else lt (fX7_ofGate a1 ((4 : Int32))) (fun r32 => if r32 < 0 ∨ 131 ≤ r32.toNatClampNeg then none else if V 1 r32.toNatClampNeg = (-1006 : Int32) then some (V) else lt (fX7_ofGate a1 ((5 : Int32))) (fun r35 => if r35 < 0 ∨ 131 ≤ r35.toNatClampNeg then none else lt (sv V 1 r35.toNatClampNeg ((V 1 r35.toNatClampNeg) + ((1 : Int32)))) (fun V37 => lt (sv V37 1 2 ((V37 1 2) + ((1 : Int32)))) (fun V38 => lt (fX7_ofGate a1 ((5 : Int32))) (fun r39 => if r39 < 0 ∨ 131 ≤ r39.toNatClampNeg then none else (qX7_lettersOf V38 (V 1 r32.toNatClampNeg)).bind (fun r41 => if V38 1 r39.toNatClampNeg = r41 then lt (fX7_ofWord (V 1 r32.toNatClampNeg) ((1 : Int32))) (fun r43 => if r43 < 0 ∨ 131 ≤ r43.toNatClampNeg then none else lt (sv V38 1 r43.toNatClampNeg ((1 : Int32))) (fun V45 => lt (fX7_ofWord (V 1 r32.toNatClampNeg) ((2 : Int32))) (fun r46 => if r46 < 0 ∨ 131 ≤ r46.toNatClampNeg then none else lt (sv V45 1 r46.toNatClampNeg (V45 1 0)) (fun V48 => lt (fX7_ofWord (V 1 r32.toNatClampNeg) ((3 : Int32))) (fun r49 => if r49 < 0 ∨ 131 ≤ r49.toNatClampNeg then none else lt (sv V48 1 r49.toNatClampNeg a1) (fun V51 => lt (fX7_ofGate a1 ((6 : Int32))) (fun r52 => if r52 < 0 ∨ 131 ≤ r52.toNatClampNeg then none else lt (sv V51 1 r52.toNatClampNeg ((V51 1 r52.toNatClampNeg) + ((1 : Int32)))) (fun V54 => lt (fX7_ofGate a1 ((4 : Int32))) (fun r55 => if r55 < 0 ∨ 131 ≤ r55.toNatClampNeg then none else lt (sv V54 1 r55.toNatClampNeg ((-1006 : Int32))) (fun V57 => lt (fX7_ofGate a1 ((5 : Int32))) (fun r58 => if r58 < 0 ∨ 131 ≤ r58.toNatClampNeg then none else lt (sv V57 1 r58.toNatClampNeg ((0 : Int32))) (fun V60 => (qX7_comes V60 (((1 : Int32)) - (V 1 r2.toNatClampNeg)) (V 1 r32.toNatClampNeg)).bind (fun U61 => some (U61)))))))))))))) else some (V38))))))))))
abbrev rmX7_acts : Room := { frames := 4, cells := 0, slots := 0, locals := 91 }
set_option maxHeartbeats 4000000 in
set_option maxRecDepth 100000 in
theorem mX7_acts (l : Launch) (X : kX) (b : Nat) (V : Mem) (a1 : Int32) (out : Mem) (hE : qX7_acts V a1 = some out) : MW l yX7_acts wsX7_acts rmX7_acts X [.ref b, .int a1] (RP X LM b V) (none) b (b + LM.length) (RP X LM b out) := by
  refine mt_head (cc := cX7_acts) (maxL := 5) (ret := none) (own := RX7) (by decide) rfl rfl (Nat.le_of_ble_eq_true rfl) ?_
  intro p e s m below meth c ls F hr hlocks hnm hR hl
  have hx := F.1.1
  have hb := F.1.2.1
  have hH : Hp (t_fr b (b + LM.length)) s.heap s.heap.size X LM b V s.heap [] := ⟨hR, va_S.rf, rfl⟩
  have hl : lv_has ls 5 [(0, .ref b), (1, .int a1)] := hl
  unfold qX7_acts at hE
  refine lv_aload_n hx hb dX7_acts_0 rfl (lv_at hl 0 rfl) ?_
  refine lv_iload_n hx hb dX7_acts_1 rfl (lv_at hl 1 rfl) ?_
  refine lv_aload_n hx hb dX7_acts_2 rfl (lv_at hl 0 rfl) ?_
  refine rg_getr F hH.1 0 (ci := 7) rfl (C := RX7) (T := TX7) (N := 8) rfl iwX7_acts_X7 0 (d := 1) (n := 1) rfl rfl (by decide) rfl lkX7_acts_0 rfl dX7_acts_3 ?_
  refine lv_iconst (v := 0) hx hb dX7_acts_6 (by decide) ?_
  refine rg_iald F hH.1 1 rfl (i := 0) (by decide) rfl dX7_acts_7 ?_
  obtain ⟨r1, er1, hE⟩ := bd_el hE
  refine rg_callRV (As := [.int a1, .int (V 1 0)]) (rest := []) F (mX7_isOpen l X b V a1 (V 1 0) r1 er1) (cwV 2 F.1.2.2.2.2 gX7_acts_X7_isOpen rfl rfl rfl hvX7_isOpen ⟨Nat.le_of_ble_eq_true rfl, Nat.le_of_ble_eq_true rfl⟩) (rp_recv F hH.1 0 rfl (C := RX7) (T := TX7) (N := 8) rfl rfl) hH.1 rfl hl.1 (Nat.le_of_ble_eq_true rfl) dX7_acts_8 ⟨Nat.zero_le _, Nat.zero_le _⟩ rfl ?_
  refine lv_istore_n (lv' := [(2, .int r1), (0, .ref b), (1, .int a1)]) hx hb dX7_acts_11 rfl hl (by decide) rfl (fun ls hl => ?_)
  refine lv_aload_n hx hb dX7_acts_12 rfl (lv_at hl 1 rfl) ?_
  refine rg_getr F hH.1 0 (ci := 7) rfl (C := RX7) (T := TX7) (N := 8) rfl iwX7_acts_X7 0 (d := 1) (n := 1) rfl rfl (by decide) rfl lkX7_acts_0 rfl dX7_acts_13 ?_
  refine lv_iload_n hx hb dX7_acts_16 rfl (lv_at hl 2 rfl) ?_
  refine lv_iconst (v := 0) hx hb dX7_acts_17 (by decide) ?_
  obtain ⟨r2, er2, hE⟩ := lt_el hE
  refine rg_callRS (As := [.int a1, .int ((0 : Int32))]) (rest := [.ref (b + 1)]) F (mX7_ofGate l X a1 ((0 : Int32)) r2 er2) (va_cwS 2 F.1.2.2.2.2 gX7_acts_X7_ofGate rfl rfl rfl hsX7_ofGate ⟨Nat.le_of_ble_eq_true rfl, Nat.le_of_ble_eq_true rfl⟩)  trivial rfl hl.1 (Nat.le_of_ble_eq_true rfl) dX7_acts_18 ⟨Nat.zero_le _, Nat.zero_le _⟩ rfl ?_
  obtain ⟨g3, hE⟩ := gd_el hE
  refine rg_iald F hH.1 1 (n := 131) rfl g3 rfl dX7_acts_21 ?_
  refine lv_istore_n (lv' := [(3, .int (V 1 r2.toNatClampNeg)), (2, .int r1), (0, .ref b), (1, .int a1)]) hx hb dX7_acts_22 rfl hl (by decide) rfl (fun ls hl => ?_)
  refine lv_iload_n hx hb dX7_acts_23 rfl (lv_at hl 1 rfl) ?_
  refine lv_if_eq (tgt := 58) hx hb dX7_acts_24 (by decide) (fun c4 => ?_) (fun c4 => ?_)
  · have hE := (if_pos c4).symm.trans hE
    refine lv_aload_n hx hb dX7_acts_58 rfl (lv_at hl 2 rfl) ?_
    refine rg_getr F hH.1 0 (ci := 7) rfl (C := RX7) (T := TX7) (N := 8) rfl iwX7_acts_X7 0 (d := 1) (n := 1) rfl rfl (by decide) rfl lkX7_acts_0 rfl dX7_acts_59 ?_
    refine lv_iload_n hx hb dX7_acts_62 rfl (lv_at hl 3 rfl) ?_
    refine lv_iconst (v := 4) hx hb dX7_acts_63 (by decide) ?_
    obtain ⟨r5, er5, hE⟩ := lt_el hE
    refine rg_callRS (As := [.int a1, .int ((4 : Int32))]) (rest := [.ref (b + 1)]) F (mX7_ofGate l X a1 ((4 : Int32)) r5 er5) (va_cwS 2 F.1.2.2.2.2 gX7_acts_X7_ofGate rfl rfl rfl hsX7_ofGate ⟨Nat.le_of_ble_eq_true rfl, Nat.le_of_ble_eq_true rfl⟩)  trivial rfl hl.1 (Nat.le_of_ble_eq_true rfl) dX7_acts_64 ⟨Nat.zero_le _, Nat.zero_le _⟩ rfl ?_
    obtain ⟨g6, hE⟩ := gd_el hE
    refine rg_iald F hH.1 1 (n := 131) rfl g6 rfl dX7_acts_67 ?_
    refine lv_istore (lv' := [(4, .int (V 1 r5.toNatClampNeg)), (3, .int (V 1 r2.toNatClampNeg)), (2, .int r1), (0, .ref b), (1, .int a1)]) hx hb dX7_acts_68 hl (by decide) rfl (fun ls hl => ?_)
    refine lv_iload_n hx hb dX7_acts_70 rfl (lv_at hl 2 rfl) ?_
    refine lv_if_eq (tgt := 217) hx hb dX7_acts_71 (by decide) (fun _ => ?_) (fun c => absurd c4 c)
    refine lv_iload_n hx hb dX7_acts_217 rfl (lv_at hl 2 rfl) ?_
    refine lv_if_ne (tgt := 331) hx hb dX7_acts_218 (by decide) (fun c => absurd c4 c) (fun _ => ?_)
    refine lv_iload hx hb dX7_acts_221 (lv_at hl 0 rfl) ?_
    refine lv_sipush (v := (-1006)) hx hb dX7_acts_223 (by decide) ?_
    refine lv_icmp_eq (tgt := 331) hx hb dX7_acts_226 (by decide) (fun c7 => ?_) (fun c7 => ?_)
    · have hE := (if_pos c7).symm.trans hE
      have hE := Option.some.inj hE
      subst hE
      exact W.vret hx hb hr (fun t ht _ => mw_post hH ht) hH.2.1.2.2 dX7_acts_331
    · have hE := (if_neg c7).symm.trans hE
      refine lv_aload_n hx hb dX7_acts_229 rfl (lv_at hl 3 rfl) ?_
      refine rg_getr F hH.1 0 (ci := 7) rfl (C := RX7) (T := TX7) (N := 8) rfl iwX7_acts_X7 0 (d := 1) (n := 1) rfl rfl (by decide) rfl lkX7_acts_0 rfl dX7_acts_230 ?_
      refine lv_iload_n hx hb dX7_acts_233 rfl (lv_at hl 4 rfl) ?_
      refine lv_iconst (v := 2) hx hb dX7_acts_234 (by decide) ?_
      obtain ⟨r8, er8, hE⟩ := lt_el hE
      refine rg_callRS (As := [.int a1, .int ((2 : Int32))]) (rest := [.ref (b + 1)]) F (mX7_ofGate l X a1 ((2 : Int32)) r8 er8) (va_cwS 2 F.1.2.2.2.2 gX7_acts_X7_ofGate rfl rfl rfl hsX7_ofGate ⟨Nat.le_of_ble_eq_true rfl, Nat.le_of_ble_eq_true rfl⟩)  trivial rfl hl.1 (Nat.le_of_ble_eq_true rfl) dX7_acts_235 ⟨Nat.zero_le _, Nat.zero_le _⟩ rfl ?_
      obtain ⟨g9, hE⟩ := gd_el hE
      refine rg_iald F hH.1 1 (n := 131) rfl g9 rfl dX7_acts_238 ?_
      refine lv_if_ne (tgt := 331) hx hb dX7_acts_239 (by decide) (fun c10 => ?_) (fun c10 => ?_)
      · have hE := (if_neg c10).symm.trans hE
        have hE := Option.some.inj hE
        subst hE
        exact W.vret hx hb hr (fun t ht _ => mw_post hH ht) hH.2.1.2.2 dX7_acts_331
      · have hE := (if_pos c10).symm.trans hE
        refine lv_aload_n hx hb dX7_acts_242 rfl (lv_at hl 3 rfl) ?_
        refine rg_getr F hH.1 0 (ci := 7) rfl (C := RX7) (T := TX7) (N := 8) rfl iwX7_acts_X7 0 (d := 1) (n := 1) rfl rfl (by decide) rfl lkX7_acts_0 rfl dX7_acts_243 ?_
        refine lv_iconst (v := 3) hx hb dX7_acts_246 (by decide) ?_
        refine lv_dup2_11 hx hb dX7_acts_247 rfl rfl ?_
        refine rg_iald F hH.1 1 rfl (i := 3) (by decide) rfl dX7_acts_248 ?_
        refine lv_aload_n hx hb dX7_acts_249 rfl (lv_at hl 3 rfl) ?_
        refine rg_getr F hH.1 0 (ci := 7) rfl (C := RX7) (T := TX7) (N := 8) rfl iwX7_acts_X7 0 (d := 1) (n := 1) rfl rfl (by decide) rfl lkX7_acts_0 rfl dX7_acts_250 ?_
        refine lv_iload_n hx hb dX7_acts_253 rfl (lv_at hl 4 rfl) ?_
        refine lv_iconst (v := 5) hx hb dX7_acts_254 (by decide) ?_
        obtain ⟨r11, er11, hE⟩ := lt_el hE
        refine rg_callRS (As := [.int a1, .int ((5 : Int32))]) (rest := [.ref (b + 1), .int (V 1 3), .int ((3 : Int32)), .ref (b + 1)]) F (mX7_ofGate l X a1 ((5 : Int32)) r11 er11) (va_cwS 2 F.1.2.2.2.2 gX7_acts_X7_ofGate rfl rfl rfl hsX7_ofGate ⟨Nat.le_of_ble_eq_true rfl, Nat.le_of_ble_eq_true rfl⟩)  trivial rfl hl.1 (Nat.le_of_ble_eq_true rfl) dX7_acts_255 ⟨Nat.zero_le _, Nat.zero_le _⟩ rfl ?_
        obtain ⟨g12, hE⟩ := gd_el hE
        refine rg_iald F hH.1 1 (n := 131) rfl g12 rfl dX7_acts_258 ?_
        refine lv_iadd hx hb dX7_acts_259 ?_
        obtain ⟨V13, eV13, hE⟩ := lt_el hE
        refine rg_iast F hH (fun q h1 h2 => ⟨h1, h2⟩) 1 (n := 131) rfl (i := 3) (by decide) rfl dX7_acts_260 (fun H locs hH => ?_)
        replace hH := hp_cast eV13 hH
        refine lv_aload_n hx hb dX7_acts_261 rfl (lv_at hl 3 rfl) ?_
        refine rg_getr F hH.1 0 (ci := 7) rfl (C := RX7) (T := TX7) (N := 8) rfl iwX7_acts_X7 0 (d := 1) (n := 1) rfl rfl (by decide) rfl lkX7_acts_0 rfl dX7_acts_262 ?_
        refine lv_iload_n hx hb dX7_acts_265 rfl (lv_at hl 4 rfl) ?_
        refine lv_bipush (v := 7) hx hb dX7_acts_266 (by decide) ?_
        obtain ⟨r14, er14, hE⟩ := lt_el hE
        refine rg_callRS (As := [.int a1, .int ((7 : Int32))]) (rest := [.ref (b + 1)]) F (mX7_ofGate l X a1 ((7 : Int32)) r14 er14) (va_cwS 2 F.1.2.2.2.2 gX7_acts_X7_ofGate rfl rfl rfl hsX7_ofGate ⟨Nat.le_of_ble_eq_true rfl, Nat.le_of_ble_eq_true rfl⟩)  trivial rfl hl.1 (Nat.le_of_ble_eq_true rfl) dX7_acts_268 ⟨Nat.zero_le _, Nat.zero_le _⟩ rfl ?_
        refine lv_dup2_11 hx hb dX7_acts_271 rfl rfl ?_
        obtain ⟨g15, hE⟩ := gd_el hE
        refine rg_iald F hH.1 1 (n := 131) rfl g15 rfl dX7_acts_272 ?_
        refine lv_aload_n hx hb dX7_acts_273 rfl (lv_at hl 3 rfl) ?_
        refine rg_getr F hH.1 0 (ci := 7) rfl (C := RX7) (T := TX7) (N := 8) rfl iwX7_acts_X7 0 (d := 1) (n := 1) rfl rfl (by decide) rfl lkX7_acts_0 rfl dX7_acts_274 ?_
        refine lv_iload_n hx hb dX7_acts_277 rfl (lv_at hl 4 rfl) ?_
        refine lv_iconst (v := 5) hx hb dX7_acts_278 (by decide) ?_
        obtain ⟨r16, er16, hE⟩ := lt_el hE
        refine rg_callRS (As := [.int a1, .int ((5 : Int32))]) (rest := [.ref (b + 1), .int (V13 1 r14.toNatClampNeg), .int r14, .ref (b + 1)]) F (mX7_ofGate l X a1 ((5 : Int32)) r16 er16) (va_cwS 2 F.1.2.2.2.2 gX7_acts_X7_ofGate rfl rfl rfl hsX7_ofGate ⟨Nat.le_of_ble_eq_true rfl, Nat.le_of_ble_eq_true rfl⟩)  trivial rfl hl.1 (Nat.le_of_ble_eq_true rfl) dX7_acts_279 ⟨Nat.zero_le _, Nat.zero_le _⟩ rfl ?_
        obtain ⟨g17, hE⟩ := gd_el hE
        refine rg_iald F hH.1 1 (n := 131) rfl g17 rfl dX7_acts_282 ?_
        refine lv_iadd hx hb dX7_acts_283 ?_
        obtain ⟨V18, eV18, hE⟩ := lt_el hE
        refine rg_iast F hH (fun q h1 h2 => ⟨h1, h2⟩) 1 (n := 131) rfl g15 rfl dX7_acts_284 (fun H locs hH => ?_)
        replace hH := hp_cast eV18 hH
        refine lv_aload_n hx hb dX7_acts_285 rfl (lv_at hl 3 rfl) ?_
        refine rg_getr F hH.1 0 (ci := 7) rfl (C := RX7) (T := TX7) (N := 8) rfl iwX7_acts_X7 0 (d := 1) (n := 1) rfl rfl (by decide) rfl lkX7_acts_0 rfl dX7_acts_286 ?_
        refine lv_iload hx hb dX7_acts_289 (lv_at hl 0 rfl) ?_
        refine lv_iconst (v := 4) hx hb dX7_acts_291 (by decide) ?_
        obtain ⟨r19, er19, hE⟩ := lt_el hE
        refine rg_callRS (As := [.int (V 1 r5.toNatClampNeg), .int ((4 : Int32))]) (rest := [.ref (b + 1)]) F (mX7_ofWord l X (V 1 r5.toNatClampNeg) ((4 : Int32)) r19 er19) (va_cwS 2 F.1.2.2.2.2 gX7_acts_X7_ofWord rfl rfl rfl hsX7_ofWord ⟨Nat.le_of_ble_eq_true rfl, Nat.le_of_ble_eq_true rfl⟩)  trivial rfl hl.1 (Nat.le_of_ble_eq_true rfl) dX7_acts_292 ⟨Nat.zero_le _, Nat.zero_le _⟩ rfl ?_
        refine lv_dup2_11 hx hb dX7_acts_295 rfl rfl ?_
        obtain ⟨g20, hE⟩ := gd_el hE
        refine rg_iald F hH.1 1 (n := 131) rfl g20 rfl dX7_acts_296 ?_
        refine lv_iconst (v := 1) hx hb dX7_acts_297 (by decide) ?_
        refine lv_iadd hx hb dX7_acts_298 ?_
        obtain ⟨V21, eV21, hE⟩ := lt_el hE
        refine rg_iast F hH (fun q h1 h2 => ⟨h1, h2⟩) 1 (n := 131) rfl g20 rfl dX7_acts_299 (fun H locs hH => ?_)
        replace hH := hp_cast eV21 hH
        refine lv_aload_n hx hb dX7_acts_300 rfl (lv_at hl 3 rfl) ?_
        refine rg_getr F hH.1 0 (ci := 7) rfl (C := RX7) (T := TX7) (N := 8) rfl iwX7_acts_X7 0 (d := 1) (n := 1) rfl rfl (by decide) rfl lkX7_acts_0 rfl dX7_acts_301 ?_
        refine lv_iload_n hx hb dX7_acts_304 rfl (lv_at hl 4 rfl) ?_
        refine lv_iconst (v := 4) hx hb dX7_acts_305 (by decide) ?_
        obtain ⟨r22, er22, hE⟩ := lt_el hE
        refine rg_callRS (As := [.int a1, .int ((4 : Int32))]) (rest := [.ref (b + 1)]) F (mX7_ofGate l X a1 ((4 : Int32)) r22 er22) (va_cwS 2 F.1.2.2.2.2 gX7_acts_X7_ofGate rfl rfl rfl hsX7_ofGate ⟨Nat.le_of_ble_eq_true rfl, Nat.le_of_ble_eq_true rfl⟩)  trivial rfl hl.1 (Nat.le_of_ble_eq_true rfl) dX7_acts_306 ⟨Nat.zero_le _, Nat.zero_le _⟩ rfl ?_
        refine lv_sipush (v := (-1006)) hx hb dX7_acts_309 (by decide) ?_
        obtain ⟨g23, hE⟩ := gd_el hE
        obtain ⟨V24, eV24, hE⟩ := lt_el hE
        refine rg_iast F hH (fun q h1 h2 => ⟨h1, h2⟩) 1 (n := 131) rfl g23 rfl dX7_acts_312 (fun H locs hH => ?_)
        replace hH := hp_cast eV24 hH
        refine lv_aload_n hx hb dX7_acts_313 rfl (lv_at hl 3 rfl) ?_
        refine rg_getr F hH.1 0 (ci := 7) rfl (C := RX7) (T := TX7) (N := 8) rfl iwX7_acts_X7 0 (d := 1) (n := 1) rfl rfl (by decide) rfl lkX7_acts_0 rfl dX7_acts_314 ?_
        refine lv_iload_n hx hb dX7_acts_317 rfl (lv_at hl 4 rfl) ?_
        refine lv_iconst (v := 5) hx hb dX7_acts_318 (by decide) ?_
        obtain ⟨r25, er25, hE⟩ := lt_el hE
        refine rg_callRS (As := [.int a1, .int ((5 : Int32))]) (rest := [.ref (b + 1)]) F (mX7_ofGate l X a1 ((5 : Int32)) r25 er25) (va_cwS 2 F.1.2.2.2.2 gX7_acts_X7_ofGate rfl rfl rfl hsX7_ofGate ⟨Nat.le_of_ble_eq_true rfl, Nat.le_of_ble_eq_true rfl⟩)  trivial rfl hl.1 (Nat.le_of_ble_eq_true rfl) dX7_acts_319 ⟨Nat.zero_le _, Nat.zero_le _⟩ rfl ?_
        refine lv_iconst (v := 0) hx hb dX7_acts_322 (by decide) ?_
        obtain ⟨g26, hE⟩ := gd_el hE
        obtain ⟨V27, eV27, hE⟩ := lt_el hE
        refine rg_iast F hH (fun q h1 h2 => ⟨h1, h2⟩) 1 (n := 131) rfl g26 rfl dX7_acts_323 (fun H locs hH => ?_)
        replace hH := hp_cast eV27 hH
        refine lv_aload_n hx hb dX7_acts_324 rfl (lv_at hl 3 rfl) ?_
        refine lv_iload_n hx hb dX7_acts_325 rfl (lv_at hl 1 rfl) ?_
        refine lv_iload hx hb dX7_acts_326 (lv_at hl 0 rfl) ?_
        obtain ⟨U28, eU28, hE⟩ := bd_el hE
        refine rg_callWS (As := [.int (V 1 r2.toNatClampNeg), .int (V 1 r5.toNatClampNeg)]) (rest := []) F hH (fun q h1 h2 => ⟨h1, h2⟩) (mX7_goesBack l X b V27 (V 1 r2.toNatClampNeg) (V 1 r5.toNatClampNeg) U28 eU28) (cwV 2 F.1.2.2.2.2 gX7_acts_X7_goesBack rfl rfl rfl hvX7_goesBack ⟨Nat.le_of_ble_eq_true rfl, Nat.le_of_ble_eq_true rfl⟩) (rp_recv F hH.1 0 rfl (C := RX7) (T := TX7) (N := 8) rfl rfl) hH.1 rfl hl.1 (Nat.le_of_ble_eq_true rfl) dX7_acts_328 ⟨Nat.zero_le _, Nat.zero_le _⟩ rfl (fun H locs hH => ?_)
        have hE := Option.some.inj hE
        subst hE
        exact W.vret hx hb hr (fun t ht _ => mw_post hH ht) hH.2.1.2.2 dX7_acts_331
  · have hE := (if_neg c4).symm.trans hE
    refine lv_aload_n hx hb dX7_acts_27 rfl (lv_at hl 2 rfl) ?_
    refine rg_getr F hH.1 0 (ci := 7) rfl (C := RX7) (T := TX7) (N := 8) rfl iwX7_acts_X7 0 (d := 1) (n := 1) rfl rfl (by decide) rfl lkX7_acts_0 rfl dX7_acts_28 ?_
    refine lv_iload_n hx hb dX7_acts_31 rfl (lv_at hl 3 rfl) ?_
    refine lv_iconst (v := 4) hx hb dX7_acts_32 (by decide) ?_
    obtain ⟨r29, er29, hE⟩ := lt_el hE
    refine rg_callRS (As := [.int a1, .int ((4 : Int32))]) (rest := [.ref (b + 1)]) F (mX7_ofGate l X a1 ((4 : Int32)) r29 er29) (va_cwS 2 F.1.2.2.2.2 gX7_acts_X7_ofGate rfl rfl rfl hsX7_ofGate ⟨Nat.le_of_ble_eq_true rfl, Nat.le_of_ble_eq_true rfl⟩)  trivial rfl hl.1 (Nat.le_of_ble_eq_true rfl) dX7_acts_33 ⟨Nat.zero_le _, Nat.zero_le _⟩ rfl ?_
    obtain ⟨g30, hE⟩ := gd_el hE
    refine rg_iald F hH.1 1 (n := 131) rfl g30 rfl dX7_acts_36 ?_
    refine lv_sipush (v := (-1006)) hx hb dX7_acts_37 (by decide) ?_
    refine lv_icmp_ne (tgt := 58) hx hb dX7_acts_40 (by decide) (fun c31 => ?_) (fun c31 => ?_)
    · have hE := (if_neg c31).symm.trans hE
      refine lv_aload_n hx hb dX7_acts_58 rfl (lv_at hl 2 rfl) ?_
      refine rg_getr F hH.1 0 (ci := 7) rfl (C := RX7) (T := TX7) (N := 8) rfl iwX7_acts_X7 0 (d := 1) (n := 1) rfl rfl (by decide) rfl lkX7_acts_0 rfl dX7_acts_59 ?_
      refine lv_iload_n hx hb dX7_acts_62 rfl (lv_at hl 3 rfl) ?_
      refine lv_iconst (v := 4) hx hb dX7_acts_63 (by decide) ?_
      obtain ⟨r32, er32, hE⟩ := lt_el hE
      refine rg_callRS (As := [.int a1, .int ((4 : Int32))]) (rest := [.ref (b + 1)]) F (mX7_ofGate l X a1 ((4 : Int32)) r32 er32) (va_cwS 2 F.1.2.2.2.2 gX7_acts_X7_ofGate rfl rfl rfl hsX7_ofGate ⟨Nat.le_of_ble_eq_true rfl, Nat.le_of_ble_eq_true rfl⟩)  trivial rfl hl.1 (Nat.le_of_ble_eq_true rfl) dX7_acts_64 ⟨Nat.zero_le _, Nat.zero_le _⟩ rfl ?_
      obtain ⟨g33, hE⟩ := gd_el hE
      refine rg_iald F hH.1 1 (n := 131) rfl g33 rfl dX7_acts_67 ?_
      refine lv_istore (lv' := [(4, .int (V 1 r32.toNatClampNeg)), (3, .int (V 1 r2.toNatClampNeg)), (2, .int r1), (0, .ref b), (1, .int a1)]) hx hb dX7_acts_68 hl (by decide) rfl (fun ls hl => ?_)
      refine lv_iload_n hx hb dX7_acts_70 rfl (lv_at hl 2 rfl) ?_
      refine lv_if_eq (tgt := 217) hx hb dX7_acts_71 (by decide) (fun c => absurd c c4) (fun _ => ?_)
      refine lv_iload hx hb dX7_acts_74 (lv_at hl 0 rfl) ?_
      refine lv_sipush (v := (-1006)) hx hb dX7_acts_76 (by decide) ?_
      refine lv_icmp_eq (tgt := 217) hx hb dX7_acts_79 (by decide) (fun c34 => ?_) (fun c34 => ?_)
      · have hE := (if_pos c34).symm.trans hE
        refine lv_iload_n hx hb dX7_acts_217 rfl (lv_at hl 2 rfl) ?_
        refine lv_if_ne (tgt := 331) hx hb dX7_acts_218 (by decide) (fun _ => ?_) (fun c => absurd c c4)
        have hE := Option.some.inj hE
        subst hE
        exact W.vret hx hb hr (fun t ht _ => mw_post hH ht) hH.2.1.2.2 dX7_acts_331
      · have hE := (if_neg c34).symm.trans hE
        refine lv_aload_n hx hb dX7_acts_82 rfl (lv_at hl 3 rfl) ?_
        refine rg_getr F hH.1 0 (ci := 7) rfl (C := RX7) (T := TX7) (N := 8) rfl iwX7_acts_X7 0 (d := 1) (n := 1) rfl rfl (by decide) rfl lkX7_acts_0 rfl dX7_acts_83 ?_
        refine lv_iload_n hx hb dX7_acts_86 rfl (lv_at hl 4 rfl) ?_
        refine lv_iconst (v := 5) hx hb dX7_acts_87 (by decide) ?_
        obtain ⟨r35, er35, hE⟩ := lt_el hE
        refine rg_callRS (As := [.int a1, .int ((5 : Int32))]) (rest := [.ref (b + 1)]) F (mX7_ofGate l X a1 ((5 : Int32)) r35 er35) (va_cwS 2 F.1.2.2.2.2 gX7_acts_X7_ofGate rfl rfl rfl hsX7_ofGate ⟨Nat.le_of_ble_eq_true rfl, Nat.le_of_ble_eq_true rfl⟩)  trivial rfl hl.1 (Nat.le_of_ble_eq_true rfl) dX7_acts_88 ⟨Nat.zero_le _, Nat.zero_le _⟩ rfl ?_
        refine lv_dup2_11 hx hb dX7_acts_91 rfl rfl ?_
        obtain ⟨g36, hE⟩ := gd_el hE
        refine rg_iald F hH.1 1 (n := 131) rfl g36 rfl dX7_acts_92 ?_
        refine lv_iconst (v := 1) hx hb dX7_acts_93 (by decide) ?_
        refine lv_iadd hx hb dX7_acts_94 ?_
        obtain ⟨V37, eV37, hE⟩ := lt_el hE
        refine rg_iast F hH (fun q h1 h2 => ⟨h1, h2⟩) 1 (n := 131) rfl g36 rfl dX7_acts_95 (fun H locs hH => ?_)
        replace hH := hp_cast eV37 hH
        refine lv_aload_n hx hb dX7_acts_96 rfl (lv_at hl 3 rfl) ?_
        refine rg_getr F hH.1 0 (ci := 7) rfl (C := RX7) (T := TX7) (N := 8) rfl iwX7_acts_X7 0 (d := 1) (n := 1) rfl rfl (by decide) rfl lkX7_acts_0 rfl dX7_acts_97 ?_
        refine lv_iconst (v := 2) hx hb dX7_acts_100 (by decide) ?_
        refine lv_dup2_11 hx hb dX7_acts_101 rfl rfl ?_
        refine rg_iald F hH.1 1 rfl (i := 2) (by decide) rfl dX7_acts_102 ?_
        refine lv_iconst (v := 1) hx hb dX7_acts_103 (by decide) ?_
        refine lv_iadd hx hb dX7_acts_104 ?_
        obtain ⟨V38, eV38, hE⟩ := lt_el hE
        refine rg_iast F hH (fun q h1 h2 => ⟨h1, h2⟩) 1 (n := 131) rfl (i := 2) (by decide) rfl dX7_acts_105 (fun H locs hH => ?_)
        replace hH := hp_cast eV38 hH
        refine lv_aload_n hx hb dX7_acts_106 rfl (lv_at hl 3 rfl) ?_
        refine rg_getr F hH.1 0 (ci := 7) rfl (C := RX7) (T := TX7) (N := 8) rfl iwX7_acts_X7 0 (d := 1) (n := 1) rfl rfl (by decide) rfl lkX7_acts_0 rfl dX7_acts_107 ?_
        refine lv_iload_n hx hb dX7_acts_110 rfl (lv_at hl 4 rfl) ?_
        refine lv_iconst (v := 5) hx hb dX7_acts_111 (by decide) ?_
        obtain ⟨r39, er39, hE⟩ := lt_el hE
        refine rg_callRS (As := [.int a1, .int ((5 : Int32))]) (rest := [.ref (b + 1)]) F (mX7_ofGate l X a1 ((5 : Int32)) r39 er39) (va_cwS 2 F.1.2.2.2.2 gX7_acts_X7_ofGate rfl rfl rfl hsX7_ofGate ⟨Nat.le_of_ble_eq_true rfl, Nat.le_of_ble_eq_true rfl⟩)  trivial rfl hl.1 (Nat.le_of_ble_eq_true rfl) dX7_acts_112 ⟨Nat.zero_le _, Nat.zero_le _⟩ rfl ?_
        obtain ⟨g40, hE⟩ := gd_el hE
        refine rg_iald F hH.1 1 (n := 131) rfl g40 rfl dX7_acts_115 ?_
        refine lv_aload_n hx hb dX7_acts_116 rfl (lv_at hl 3 rfl) ?_
        refine lv_iload hx hb dX7_acts_117 (lv_at hl 0 rfl) ?_
        obtain ⟨r41, er41, hE⟩ := bd_el hE
        refine rg_callRV (As := [.int (V 1 r32.toNatClampNeg)]) (rest := [.int (V38 1 r39.toNatClampNeg)]) F (mX7_lettersOf l X b V38 (V 1 r32.toNatClampNeg) r41 er41) (cwV 1 F.1.2.2.2.2 gX7_acts_X7_lettersOf rfl rfl rfl hvX7_lettersOf ⟨Nat.le_of_ble_eq_true rfl, Nat.le_of_ble_eq_true rfl⟩) (rp_recv F hH.1 0 rfl (C := RX7) (T := TX7) (N := 8) rfl rfl) hH.1 rfl hl.1 (Nat.le_of_ble_eq_true rfl) dX7_acts_119 ⟨Nat.zero_le _, Nat.zero_le _⟩ rfl ?_
        refine lv_icmp_ne (tgt := 331) hx hb dX7_acts_122 (by decide) (fun c42 => ?_) (fun c42 => ?_)
        · have hE := (if_neg c42).symm.trans hE
          have hE := Option.some.inj hE
          subst hE
          exact W.vret hx hb hr (fun t ht _ => mw_post hH ht) hH.2.1.2.2 dX7_acts_331
        · have hE := (if_pos c42).symm.trans hE
          refine lv_aload_n hx hb dX7_acts_125 rfl (lv_at hl 3 rfl) ?_
          refine rg_getr F hH.1 0 (ci := 7) rfl (C := RX7) (T := TX7) (N := 8) rfl iwX7_acts_X7 0 (d := 1) (n := 1) rfl rfl (by decide) rfl lkX7_acts_0 rfl dX7_acts_126 ?_
          refine lv_iload hx hb dX7_acts_129 (lv_at hl 0 rfl) ?_
          refine lv_iconst (v := 1) hx hb dX7_acts_131 (by decide) ?_
          obtain ⟨r43, er43, hE⟩ := lt_el hE
          refine rg_callRS (As := [.int (V 1 r32.toNatClampNeg), .int ((1 : Int32))]) (rest := [.ref (b + 1)]) F (mX7_ofWord l X (V 1 r32.toNatClampNeg) ((1 : Int32)) r43 er43) (va_cwS 2 F.1.2.2.2.2 gX7_acts_X7_ofWord rfl rfl rfl hsX7_ofWord ⟨Nat.le_of_ble_eq_true rfl, Nat.le_of_ble_eq_true rfl⟩)  trivial rfl hl.1 (Nat.le_of_ble_eq_true rfl) dX7_acts_132 ⟨Nat.zero_le _, Nat.zero_le _⟩ rfl ?_
          refine lv_iconst (v := 1) hx hb dX7_acts_135 (by decide) ?_
          obtain ⟨g44, hE⟩ := gd_el hE
          obtain ⟨V45, eV45, hE⟩ := lt_el hE
          refine rg_iast F hH (fun q h1 h2 => ⟨h1, h2⟩) 1 (n := 131) rfl g44 rfl dX7_acts_136 (fun H locs hH => ?_)
          replace hH := hp_cast eV45 hH
          refine lv_aload_n hx hb dX7_acts_137 rfl (lv_at hl 3 rfl) ?_
          refine rg_getr F hH.1 0 (ci := 7) rfl (C := RX7) (T := TX7) (N := 8) rfl iwX7_acts_X7 0 (d := 1) (n := 1) rfl rfl (by decide) rfl lkX7_acts_0 rfl dX7_acts_138 ?_
          refine lv_iload hx hb dX7_acts_141 (lv_at hl 0 rfl) ?_
          refine lv_iconst (v := 2) hx hb dX7_acts_143 (by decide) ?_
          obtain ⟨r46, er46, hE⟩ := lt_el hE
          refine rg_callRS (As := [.int (V 1 r32.toNatClampNeg), .int ((2 : Int32))]) (rest := [.ref (b + 1)]) F (mX7_ofWord l X (V 1 r32.toNatClampNeg) ((2 : Int32)) r46 er46) (va_cwS 2 F.1.2.2.2.2 gX7_acts_X7_ofWord rfl rfl rfl hsX7_ofWord ⟨Nat.le_of_ble_eq_true rfl, Nat.le_of_ble_eq_true rfl⟩)  trivial rfl hl.1 (Nat.le_of_ble_eq_true rfl) dX7_acts_144 ⟨Nat.zero_le _, Nat.zero_le _⟩ rfl ?_
          refine lv_aload_n hx hb dX7_acts_147 rfl (lv_at hl 3 rfl) ?_
          refine rg_getr F hH.1 0 (ci := 7) rfl (C := RX7) (T := TX7) (N := 8) rfl iwX7_acts_X7 0 (d := 1) (n := 1) rfl rfl (by decide) rfl lkX7_acts_0 rfl dX7_acts_148 ?_
          refine lv_iconst (v := 0) hx hb dX7_acts_151 (by decide) ?_
          refine rg_iald F hH.1 1 rfl (i := 0) (by decide) rfl dX7_acts_152 ?_
          obtain ⟨g47, hE⟩ := gd_el hE
          obtain ⟨V48, eV48, hE⟩ := lt_el hE
          refine rg_iast F hH (fun q h1 h2 => ⟨h1, h2⟩) 1 (n := 131) rfl g47 rfl dX7_acts_153 (fun H locs hH => ?_)
          replace hH := hp_cast eV48 hH
          refine lv_aload_n hx hb dX7_acts_154 rfl (lv_at hl 3 rfl) ?_
          refine rg_getr F hH.1 0 (ci := 7) rfl (C := RX7) (T := TX7) (N := 8) rfl iwX7_acts_X7 0 (d := 1) (n := 1) rfl rfl (by decide) rfl lkX7_acts_0 rfl dX7_acts_155 ?_
          refine lv_iload hx hb dX7_acts_158 (lv_at hl 0 rfl) ?_
          refine lv_iconst (v := 3) hx hb dX7_acts_160 (by decide) ?_
          obtain ⟨r49, er49, hE⟩ := lt_el hE
          refine rg_callRS (As := [.int (V 1 r32.toNatClampNeg), .int ((3 : Int32))]) (rest := [.ref (b + 1)]) F (mX7_ofWord l X (V 1 r32.toNatClampNeg) ((3 : Int32)) r49 er49) (va_cwS 2 F.1.2.2.2.2 gX7_acts_X7_ofWord rfl rfl rfl hsX7_ofWord ⟨Nat.le_of_ble_eq_true rfl, Nat.le_of_ble_eq_true rfl⟩)  trivial rfl hl.1 (Nat.le_of_ble_eq_true rfl) dX7_acts_161 ⟨Nat.zero_le _, Nat.zero_le _⟩ rfl ?_
          refine lv_iload_n hx hb dX7_acts_164 rfl (lv_at hl 4 rfl) ?_
          obtain ⟨g50, hE⟩ := gd_el hE
          obtain ⟨V51, eV51, hE⟩ := lt_el hE
          refine rg_iast F hH (fun q h1 h2 => ⟨h1, h2⟩) 1 (n := 131) rfl g50 rfl dX7_acts_165 (fun H locs hH => ?_)
          replace hH := hp_cast eV51 hH
          refine lv_aload_n hx hb dX7_acts_166 rfl (lv_at hl 3 rfl) ?_
          refine rg_getr F hH.1 0 (ci := 7) rfl (C := RX7) (T := TX7) (N := 8) rfl iwX7_acts_X7 0 (d := 1) (n := 1) rfl rfl (by decide) rfl lkX7_acts_0 rfl dX7_acts_167 ?_
          refine lv_iload_n hx hb dX7_acts_170 rfl (lv_at hl 4 rfl) ?_
          refine lv_bipush (v := 6) hx hb dX7_acts_171 (by decide) ?_
          obtain ⟨r52, er52, hE⟩ := lt_el hE
          refine rg_callRS (As := [.int a1, .int ((6 : Int32))]) (rest := [.ref (b + 1)]) F (mX7_ofGate l X a1 ((6 : Int32)) r52 er52) (va_cwS 2 F.1.2.2.2.2 gX7_acts_X7_ofGate rfl rfl rfl hsX7_ofGate ⟨Nat.le_of_ble_eq_true rfl, Nat.le_of_ble_eq_true rfl⟩)  trivial rfl hl.1 (Nat.le_of_ble_eq_true rfl) dX7_acts_173 ⟨Nat.zero_le _, Nat.zero_le _⟩ rfl ?_
          refine lv_dup2_11 hx hb dX7_acts_176 rfl rfl ?_
          obtain ⟨g53, hE⟩ := gd_el hE
          refine rg_iald F hH.1 1 (n := 131) rfl g53 rfl dX7_acts_177 ?_
          refine lv_iconst (v := 1) hx hb dX7_acts_178 (by decide) ?_
          refine lv_iadd hx hb dX7_acts_179 ?_
          obtain ⟨V54, eV54, hE⟩ := lt_el hE
          refine rg_iast F hH (fun q h1 h2 => ⟨h1, h2⟩) 1 (n := 131) rfl g53 rfl dX7_acts_180 (fun H locs hH => ?_)
          replace hH := hp_cast eV54 hH
          refine lv_aload_n hx hb dX7_acts_181 rfl (lv_at hl 3 rfl) ?_
          refine rg_getr F hH.1 0 (ci := 7) rfl (C := RX7) (T := TX7) (N := 8) rfl iwX7_acts_X7 0 (d := 1) (n := 1) rfl rfl (by decide) rfl lkX7_acts_0 rfl dX7_acts_182 ?_
          refine lv_iload_n hx hb dX7_acts_185 rfl (lv_at hl 4 rfl) ?_
          refine lv_iconst (v := 4) hx hb dX7_acts_186 (by decide) ?_
          obtain ⟨r55, er55, hE⟩ := lt_el hE
          refine rg_callRS (As := [.int a1, .int ((4 : Int32))]) (rest := [.ref (b + 1)]) F (mX7_ofGate l X a1 ((4 : Int32)) r55 er55) (va_cwS 2 F.1.2.2.2.2 gX7_acts_X7_ofGate rfl rfl rfl hsX7_ofGate ⟨Nat.le_of_ble_eq_true rfl, Nat.le_of_ble_eq_true rfl⟩)  trivial rfl hl.1 (Nat.le_of_ble_eq_true rfl) dX7_acts_187 ⟨Nat.zero_le _, Nat.zero_le _⟩ rfl ?_
          refine lv_sipush (v := (-1006)) hx hb dX7_acts_190 (by decide) ?_
          obtain ⟨g56, hE⟩ := gd_el hE
          obtain ⟨V57, eV57, hE⟩ := lt_el hE
          refine rg_iast F hH (fun q h1 h2 => ⟨h1, h2⟩) 1 (n := 131) rfl g56 rfl dX7_acts_193 (fun H locs hH => ?_)
          replace hH := hp_cast eV57 hH
          refine lv_aload_n hx hb dX7_acts_194 rfl (lv_at hl 3 rfl) ?_
          refine rg_getr F hH.1 0 (ci := 7) rfl (C := RX7) (T := TX7) (N := 8) rfl iwX7_acts_X7 0 (d := 1) (n := 1) rfl rfl (by decide) rfl lkX7_acts_0 rfl dX7_acts_195 ?_
          refine lv_iload_n hx hb dX7_acts_198 rfl (lv_at hl 4 rfl) ?_
          refine lv_iconst (v := 5) hx hb dX7_acts_199 (by decide) ?_
          obtain ⟨r58, er58, hE⟩ := lt_el hE
          refine rg_callRS (As := [.int a1, .int ((5 : Int32))]) (rest := [.ref (b + 1)]) F (mX7_ofGate l X a1 ((5 : Int32)) r58 er58) (va_cwS 2 F.1.2.2.2.2 gX7_acts_X7_ofGate rfl rfl rfl hsX7_ofGate ⟨Nat.le_of_ble_eq_true rfl, Nat.le_of_ble_eq_true rfl⟩)  trivial rfl hl.1 (Nat.le_of_ble_eq_true rfl) dX7_acts_200 ⟨Nat.zero_le _, Nat.zero_le _⟩ rfl ?_
          refine lv_iconst (v := 0) hx hb dX7_acts_203 (by decide) ?_
          obtain ⟨g59, hE⟩ := gd_el hE
          obtain ⟨V60, eV60, hE⟩ := lt_el hE
          refine rg_iast F hH (fun q h1 h2 => ⟨h1, h2⟩) 1 (n := 131) rfl g59 rfl dX7_acts_204 (fun H locs hH => ?_)
          replace hH := hp_cast eV60 hH
          refine lv_aload_n hx hb dX7_acts_205 rfl (lv_at hl 3 rfl) ?_
          refine lv_iconst (v := 1) hx hb dX7_acts_206 (by decide) ?_
          refine lv_iload_n hx hb dX7_acts_207 rfl (lv_at hl 1 rfl) ?_
          refine lv_isub hx hb dX7_acts_208 ?_
          refine lv_iload hx hb dX7_acts_209 (lv_at hl 0 rfl) ?_
          obtain ⟨U61, eU61, hE⟩ := bd_el hE
          refine rg_callWS (As := [.int (((1 : Int32)) - (V 1 r2.toNatClampNeg)), .int (V 1 r32.toNatClampNeg)]) (rest := []) F hH (fun q h1 h2 => ⟨h1, h2⟩) (mX7_comes l X b V60 (((1 : Int32)) - (V 1 r2.toNatClampNeg)) (V 1 r32.toNatClampNeg) U61 eU61) (cwV 2 F.1.2.2.2.2 gX7_acts_X7_comes rfl rfl rfl hvX7_comes ⟨Nat.le_of_ble_eq_true rfl, Nat.le_of_ble_eq_true rfl⟩) (rp_recv F hH.1 0 rfl (C := RX7) (T := TX7) (N := 8) rfl rfl) hH.1 rfl hl.1 (Nat.le_of_ble_eq_true rfl) dX7_acts_211 ⟨Nat.zero_le _, Nat.zero_le _⟩ rfl (fun H locs hH => ?_)
          refine lv_goto (tgt := 331) hx hb dX7_acts_214 (by decide) ?_
          have hE := Option.some.inj hE
          subst hE
          exact W.vret hx hb hr (fun t ht _ => mw_post hH ht) hH.2.1.2.2 dX7_acts_331
    · have hE := (if_pos c31).symm.trans hE
      refine lv_aload_n hx hb dX7_acts_43 rfl (lv_at hl 2 rfl) ?_
      refine rg_getr F hH.1 0 (ci := 7) rfl (C := RX7) (T := TX7) (N := 8) rfl iwX7_acts_X7 0 (d := 1) (n := 1) rfl rfl (by decide) rfl lkX7_acts_0 rfl dX7_acts_44 ?_
      refine lv_iload_n hx hb dX7_acts_47 rfl (lv_at hl 3 rfl) ?_
      refine lv_iconst (v := 4) hx hb dX7_acts_48 (by decide) ?_
      obtain ⟨r62, er62, hE⟩ := lt_el hE
      refine rg_callRS (As := [.int a1, .int ((4 : Int32))]) (rest := [.ref (b + 1)]) F (mX7_ofGate l X a1 ((4 : Int32)) r62 er62) (va_cwS 2 F.1.2.2.2.2 gX7_acts_X7_ofGate rfl rfl rfl hsX7_ofGate ⟨Nat.le_of_ble_eq_true rfl, Nat.le_of_ble_eq_true rfl⟩)  trivial rfl hl.1 (Nat.le_of_ble_eq_true rfl) dX7_acts_49 ⟨Nat.zero_le _, Nat.zero_le _⟩ rfl ?_
      refine lv_aload_n hx hb dX7_acts_52 rfl (lv_at hl 2 rfl) ?_
      refine lv_iload_n hx hb dX7_acts_53 rfl (lv_at hl 0 rfl) ?_
      obtain ⟨U63, eU63, hE⟩ := bd_el hE
      refine rg_callWS (As := [.int (V 1 r2.toNatClampNeg)]) (rest := [.int r62, .ref (b + 1)]) F hH (fun q h1 h2 => ⟨h1, h2⟩) (mX7_takes l X b V (V 1 r2.toNatClampNeg) U63 eU63) (cwV 1 F.1.2.2.2.2 gX7_acts_X7_takes rfl rfl rfl hvX7_takes ⟨Nat.le_of_ble_eq_true rfl, Nat.le_of_ble_eq_true rfl⟩) (rp_recv F hH.1 0 rfl (C := RX7) (T := TX7) (N := 8) rfl rfl) hH.1 rfl hl.1 (Nat.le_of_ble_eq_true rfl) dX7_acts_54 ⟨Nat.zero_le _, Nat.zero_le _⟩ rfl (fun H locs hH => ?_)
      obtain ⟨g64, hE⟩ := gd_el hE
      obtain ⟨V65, eV65, hE⟩ := lt_el hE
      refine rg_iast F hH (fun q h1 h2 => ⟨h1, h2⟩) 1 (n := 131) rfl g64 rfl dX7_acts_57 (fun H locs hH => ?_)
      replace hH := hp_cast eV65 hH
      refine lv_aload_n hx hb dX7_acts_58 rfl (lv_at hl 2 rfl) ?_
      refine rg_getr F hH.1 0 (ci := 7) rfl (C := RX7) (T := TX7) (N := 8) rfl iwX7_acts_X7 0 (d := 1) (n := 1) rfl rfl (by decide) rfl lkX7_acts_0 rfl dX7_acts_59 ?_
      refine lv_iload_n hx hb dX7_acts_62 rfl (lv_at hl 3 rfl) ?_
      refine lv_iconst (v := 4) hx hb dX7_acts_63 (by decide) ?_
      obtain ⟨r66, er66, hE⟩ := lt_el hE
      refine rg_callRS (As := [.int a1, .int ((4 : Int32))]) (rest := [.ref (b + 1)]) F (mX7_ofGate l X a1 ((4 : Int32)) r66 er66) (va_cwS 2 F.1.2.2.2.2 gX7_acts_X7_ofGate rfl rfl rfl hsX7_ofGate ⟨Nat.le_of_ble_eq_true rfl, Nat.le_of_ble_eq_true rfl⟩)  trivial rfl hl.1 (Nat.le_of_ble_eq_true rfl) dX7_acts_64 ⟨Nat.zero_le _, Nat.zero_le _⟩ rfl ?_
      obtain ⟨g67, hE⟩ := gd_el hE
      refine rg_iald F hH.1 1 (n := 131) rfl g67 rfl dX7_acts_67 ?_
      refine lv_istore (lv' := [(4, .int (V65 1 r66.toNatClampNeg)), (3, .int (V 1 r2.toNatClampNeg)), (2, .int r1), (0, .ref b), (1, .int a1)]) hx hb dX7_acts_68 hl (by decide) rfl (fun ls hl => ?_)
      refine lv_iload_n hx hb dX7_acts_70 rfl (lv_at hl 2 rfl) ?_
      refine lv_if_eq (tgt := 217) hx hb dX7_acts_71 (by decide) (fun c => absurd c c4) (fun _ => ?_)
      refine lv_iload hx hb dX7_acts_74 (lv_at hl 0 rfl) ?_
      refine lv_sipush (v := (-1006)) hx hb dX7_acts_76 (by decide) ?_
      refine lv_icmp_eq (tgt := 217) hx hb dX7_acts_79 (by decide) (fun c68 => ?_) (fun c68 => ?_)
      · have hE := (if_pos c68).symm.trans hE
        refine lv_iload_n hx hb dX7_acts_217 rfl (lv_at hl 2 rfl) ?_
        refine lv_if_ne (tgt := 331) hx hb dX7_acts_218 (by decide) (fun _ => ?_) (fun c => absurd c c4)
        have hE := Option.some.inj hE
        subst hE
        exact W.vret hx hb hr (fun t ht _ => mw_post hH ht) hH.2.1.2.2 dX7_acts_331
      · have hE := (if_neg c68).symm.trans hE
        refine lv_aload_n hx hb dX7_acts_82 rfl (lv_at hl 3 rfl) ?_
        refine rg_getr F hH.1 0 (ci := 7) rfl (C := RX7) (T := TX7) (N := 8) rfl iwX7_acts_X7 0 (d := 1) (n := 1) rfl rfl (by decide) rfl lkX7_acts_0 rfl dX7_acts_83 ?_
        refine lv_iload_n hx hb dX7_acts_86 rfl (lv_at hl 4 rfl) ?_
        refine lv_iconst (v := 5) hx hb dX7_acts_87 (by decide) ?_
        obtain ⟨r69, er69, hE⟩ := lt_el hE
        refine rg_callRS (As := [.int a1, .int ((5 : Int32))]) (rest := [.ref (b + 1)]) F (mX7_ofGate l X a1 ((5 : Int32)) r69 er69) (va_cwS 2 F.1.2.2.2.2 gX7_acts_X7_ofGate rfl rfl rfl hsX7_ofGate ⟨Nat.le_of_ble_eq_true rfl, Nat.le_of_ble_eq_true rfl⟩)  trivial rfl hl.1 (Nat.le_of_ble_eq_true rfl) dX7_acts_88 ⟨Nat.zero_le _, Nat.zero_le _⟩ rfl ?_
        refine lv_dup2_11 hx hb dX7_acts_91 rfl rfl ?_
        obtain ⟨g70, hE⟩ := gd_el hE
        refine rg_iald F hH.1 1 (n := 131) rfl g70 rfl dX7_acts_92 ?_
        refine lv_iconst (v := 1) hx hb dX7_acts_93 (by decide) ?_
        refine lv_iadd hx hb dX7_acts_94 ?_
        obtain ⟨V71, eV71, hE⟩ := lt_el hE
        refine rg_iast F hH (fun q h1 h2 => ⟨h1, h2⟩) 1 (n := 131) rfl g70 rfl dX7_acts_95 (fun H locs hH => ?_)
        replace hH := hp_cast eV71 hH
        refine lv_aload_n hx hb dX7_acts_96 rfl (lv_at hl 3 rfl) ?_
        refine rg_getr F hH.1 0 (ci := 7) rfl (C := RX7) (T := TX7) (N := 8) rfl iwX7_acts_X7 0 (d := 1) (n := 1) rfl rfl (by decide) rfl lkX7_acts_0 rfl dX7_acts_97 ?_
        refine lv_iconst (v := 2) hx hb dX7_acts_100 (by decide) ?_
        refine lv_dup2_11 hx hb dX7_acts_101 rfl rfl ?_
        refine rg_iald F hH.1 1 rfl (i := 2) (by decide) rfl dX7_acts_102 ?_
        refine lv_iconst (v := 1) hx hb dX7_acts_103 (by decide) ?_
        refine lv_iadd hx hb dX7_acts_104 ?_
        obtain ⟨V72, eV72, hE⟩ := lt_el hE
        refine rg_iast F hH (fun q h1 h2 => ⟨h1, h2⟩) 1 (n := 131) rfl (i := 2) (by decide) rfl dX7_acts_105 (fun H locs hH => ?_)
        replace hH := hp_cast eV72 hH
        refine lv_aload_n hx hb dX7_acts_106 rfl (lv_at hl 3 rfl) ?_
        refine rg_getr F hH.1 0 (ci := 7) rfl (C := RX7) (T := TX7) (N := 8) rfl iwX7_acts_X7 0 (d := 1) (n := 1) rfl rfl (by decide) rfl lkX7_acts_0 rfl dX7_acts_107 ?_
        refine lv_iload_n hx hb dX7_acts_110 rfl (lv_at hl 4 rfl) ?_
        refine lv_iconst (v := 5) hx hb dX7_acts_111 (by decide) ?_
        obtain ⟨r73, er73, hE⟩ := lt_el hE
        refine rg_callRS (As := [.int a1, .int ((5 : Int32))]) (rest := [.ref (b + 1)]) F (mX7_ofGate l X a1 ((5 : Int32)) r73 er73) (va_cwS 2 F.1.2.2.2.2 gX7_acts_X7_ofGate rfl rfl rfl hsX7_ofGate ⟨Nat.le_of_ble_eq_true rfl, Nat.le_of_ble_eq_true rfl⟩)  trivial rfl hl.1 (Nat.le_of_ble_eq_true rfl) dX7_acts_112 ⟨Nat.zero_le _, Nat.zero_le _⟩ rfl ?_
        obtain ⟨g74, hE⟩ := gd_el hE
        refine rg_iald F hH.1 1 (n := 131) rfl g74 rfl dX7_acts_115 ?_
        refine lv_aload_n hx hb dX7_acts_116 rfl (lv_at hl 3 rfl) ?_
        refine lv_iload hx hb dX7_acts_117 (lv_at hl 0 rfl) ?_
        obtain ⟨r75, er75, hE⟩ := bd_el hE
        refine rg_callRV (As := [.int (V65 1 r66.toNatClampNeg)]) (rest := [.int (V72 1 r73.toNatClampNeg)]) F (mX7_lettersOf l X b V72 (V65 1 r66.toNatClampNeg) r75 er75) (cwV 1 F.1.2.2.2.2 gX7_acts_X7_lettersOf rfl rfl rfl hvX7_lettersOf ⟨Nat.le_of_ble_eq_true rfl, Nat.le_of_ble_eq_true rfl⟩) (rp_recv F hH.1 0 rfl (C := RX7) (T := TX7) (N := 8) rfl rfl) hH.1 rfl hl.1 (Nat.le_of_ble_eq_true rfl) dX7_acts_119 ⟨Nat.zero_le _, Nat.zero_le _⟩ rfl ?_
        refine lv_icmp_ne (tgt := 331) hx hb dX7_acts_122 (by decide) (fun c76 => ?_) (fun c76 => ?_)
        · have hE := (if_neg c76).symm.trans hE
          have hE := Option.some.inj hE
          subst hE
          exact W.vret hx hb hr (fun t ht _ => mw_post hH ht) hH.2.1.2.2 dX7_acts_331
        · have hE := (if_pos c76).symm.trans hE
          refine lv_aload_n hx hb dX7_acts_125 rfl (lv_at hl 3 rfl) ?_
          refine rg_getr F hH.1 0 (ci := 7) rfl (C := RX7) (T := TX7) (N := 8) rfl iwX7_acts_X7 0 (d := 1) (n := 1) rfl rfl (by decide) rfl lkX7_acts_0 rfl dX7_acts_126 ?_
          refine lv_iload hx hb dX7_acts_129 (lv_at hl 0 rfl) ?_
          refine lv_iconst (v := 1) hx hb dX7_acts_131 (by decide) ?_
          obtain ⟨r77, er77, hE⟩ := lt_el hE
          refine rg_callRS (As := [.int (V65 1 r66.toNatClampNeg), .int ((1 : Int32))]) (rest := [.ref (b + 1)]) F (mX7_ofWord l X (V65 1 r66.toNatClampNeg) ((1 : Int32)) r77 er77) (va_cwS 2 F.1.2.2.2.2 gX7_acts_X7_ofWord rfl rfl rfl hsX7_ofWord ⟨Nat.le_of_ble_eq_true rfl, Nat.le_of_ble_eq_true rfl⟩)  trivial rfl hl.1 (Nat.le_of_ble_eq_true rfl) dX7_acts_132 ⟨Nat.zero_le _, Nat.zero_le _⟩ rfl ?_
          refine lv_iconst (v := 1) hx hb dX7_acts_135 (by decide) ?_
          obtain ⟨g78, hE⟩ := gd_el hE
          obtain ⟨V79, eV79, hE⟩ := lt_el hE
          refine rg_iast F hH (fun q h1 h2 => ⟨h1, h2⟩) 1 (n := 131) rfl g78 rfl dX7_acts_136 (fun H locs hH => ?_)
          replace hH := hp_cast eV79 hH
          refine lv_aload_n hx hb dX7_acts_137 rfl (lv_at hl 3 rfl) ?_
          refine rg_getr F hH.1 0 (ci := 7) rfl (C := RX7) (T := TX7) (N := 8) rfl iwX7_acts_X7 0 (d := 1) (n := 1) rfl rfl (by decide) rfl lkX7_acts_0 rfl dX7_acts_138 ?_
          refine lv_iload hx hb dX7_acts_141 (lv_at hl 0 rfl) ?_
          refine lv_iconst (v := 2) hx hb dX7_acts_143 (by decide) ?_
          obtain ⟨r80, er80, hE⟩ := lt_el hE
          refine rg_callRS (As := [.int (V65 1 r66.toNatClampNeg), .int ((2 : Int32))]) (rest := [.ref (b + 1)]) F (mX7_ofWord l X (V65 1 r66.toNatClampNeg) ((2 : Int32)) r80 er80) (va_cwS 2 F.1.2.2.2.2 gX7_acts_X7_ofWord rfl rfl rfl hsX7_ofWord ⟨Nat.le_of_ble_eq_true rfl, Nat.le_of_ble_eq_true rfl⟩)  trivial rfl hl.1 (Nat.le_of_ble_eq_true rfl) dX7_acts_144 ⟨Nat.zero_le _, Nat.zero_le _⟩ rfl ?_
          refine lv_aload_n hx hb dX7_acts_147 rfl (lv_at hl 3 rfl) ?_
          refine rg_getr F hH.1 0 (ci := 7) rfl (C := RX7) (T := TX7) (N := 8) rfl iwX7_acts_X7 0 (d := 1) (n := 1) rfl rfl (by decide) rfl lkX7_acts_0 rfl dX7_acts_148 ?_
          refine lv_iconst (v := 0) hx hb dX7_acts_151 (by decide) ?_
          refine rg_iald F hH.1 1 rfl (i := 0) (by decide) rfl dX7_acts_152 ?_
          obtain ⟨g81, hE⟩ := gd_el hE
          obtain ⟨V82, eV82, hE⟩ := lt_el hE
          refine rg_iast F hH (fun q h1 h2 => ⟨h1, h2⟩) 1 (n := 131) rfl g81 rfl dX7_acts_153 (fun H locs hH => ?_)
          replace hH := hp_cast eV82 hH
          refine lv_aload_n hx hb dX7_acts_154 rfl (lv_at hl 3 rfl) ?_
          refine rg_getr F hH.1 0 (ci := 7) rfl (C := RX7) (T := TX7) (N := 8) rfl iwX7_acts_X7 0 (d := 1) (n := 1) rfl rfl (by decide) rfl lkX7_acts_0 rfl dX7_acts_155 ?_
          refine lv_iload hx hb dX7_acts_158 (lv_at hl 0 rfl) ?_
          refine lv_iconst (v := 3) hx hb dX7_acts_160 (by decide) ?_
          obtain ⟨r83, er83, hE⟩ := lt_el hE
          refine rg_callRS (As := [.int (V65 1 r66.toNatClampNeg), .int ((3 : Int32))]) (rest := [.ref (b + 1)]) F (mX7_ofWord l X (V65 1 r66.toNatClampNeg) ((3 : Int32)) r83 er83) (va_cwS 2 F.1.2.2.2.2 gX7_acts_X7_ofWord rfl rfl rfl hsX7_ofWord ⟨Nat.le_of_ble_eq_true rfl, Nat.le_of_ble_eq_true rfl⟩)  trivial rfl hl.1 (Nat.le_of_ble_eq_true rfl) dX7_acts_161 ⟨Nat.zero_le _, Nat.zero_le _⟩ rfl ?_
          refine lv_iload_n hx hb dX7_acts_164 rfl (lv_at hl 4 rfl) ?_
          obtain ⟨g84, hE⟩ := gd_el hE
          obtain ⟨V85, eV85, hE⟩ := lt_el hE
          refine rg_iast F hH (fun q h1 h2 => ⟨h1, h2⟩) 1 (n := 131) rfl g84 rfl dX7_acts_165 (fun H locs hH => ?_)
          replace hH := hp_cast eV85 hH
          refine lv_aload_n hx hb dX7_acts_166 rfl (lv_at hl 3 rfl) ?_
          refine rg_getr F hH.1 0 (ci := 7) rfl (C := RX7) (T := TX7) (N := 8) rfl iwX7_acts_X7 0 (d := 1) (n := 1) rfl rfl (by decide) rfl lkX7_acts_0 rfl dX7_acts_167 ?_
          refine lv_iload_n hx hb dX7_acts_170 rfl (lv_at hl 4 rfl) ?_
          refine lv_bipush (v := 6) hx hb dX7_acts_171 (by decide) ?_
          obtain ⟨r86, er86, hE⟩ := lt_el hE
          refine rg_callRS (As := [.int a1, .int ((6 : Int32))]) (rest := [.ref (b + 1)]) F (mX7_ofGate l X a1 ((6 : Int32)) r86 er86) (va_cwS 2 F.1.2.2.2.2 gX7_acts_X7_ofGate rfl rfl rfl hsX7_ofGate ⟨Nat.le_of_ble_eq_true rfl, Nat.le_of_ble_eq_true rfl⟩)  trivial rfl hl.1 (Nat.le_of_ble_eq_true rfl) dX7_acts_173 ⟨Nat.zero_le _, Nat.zero_le _⟩ rfl ?_
          refine lv_dup2_11 hx hb dX7_acts_176 rfl rfl ?_
          obtain ⟨g87, hE⟩ := gd_el hE
          refine rg_iald F hH.1 1 (n := 131) rfl g87 rfl dX7_acts_177 ?_
          refine lv_iconst (v := 1) hx hb dX7_acts_178 (by decide) ?_
          refine lv_iadd hx hb dX7_acts_179 ?_
          obtain ⟨V88, eV88, hE⟩ := lt_el hE
          refine rg_iast F hH (fun q h1 h2 => ⟨h1, h2⟩) 1 (n := 131) rfl g87 rfl dX7_acts_180 (fun H locs hH => ?_)
          replace hH := hp_cast eV88 hH
          refine lv_aload_n hx hb dX7_acts_181 rfl (lv_at hl 3 rfl) ?_
          refine rg_getr F hH.1 0 (ci := 7) rfl (C := RX7) (T := TX7) (N := 8) rfl iwX7_acts_X7 0 (d := 1) (n := 1) rfl rfl (by decide) rfl lkX7_acts_0 rfl dX7_acts_182 ?_
          refine lv_iload_n hx hb dX7_acts_185 rfl (lv_at hl 4 rfl) ?_
          refine lv_iconst (v := 4) hx hb dX7_acts_186 (by decide) ?_
          obtain ⟨r89, er89, hE⟩ := lt_el hE
          refine rg_callRS (As := [.int a1, .int ((4 : Int32))]) (rest := [.ref (b + 1)]) F (mX7_ofGate l X a1 ((4 : Int32)) r89 er89) (va_cwS 2 F.1.2.2.2.2 gX7_acts_X7_ofGate rfl rfl rfl hsX7_ofGate ⟨Nat.le_of_ble_eq_true rfl, Nat.le_of_ble_eq_true rfl⟩)  trivial rfl hl.1 (Nat.le_of_ble_eq_true rfl) dX7_acts_187 ⟨Nat.zero_le _, Nat.zero_le _⟩ rfl ?_
          refine lv_sipush (v := (-1006)) hx hb dX7_acts_190 (by decide) ?_
          obtain ⟨g90, hE⟩ := gd_el hE
          obtain ⟨V91, eV91, hE⟩ := lt_el hE
          refine rg_iast F hH (fun q h1 h2 => ⟨h1, h2⟩) 1 (n := 131) rfl g90 rfl dX7_acts_193 (fun H locs hH => ?_)
          replace hH := hp_cast eV91 hH
          refine lv_aload_n hx hb dX7_acts_194 rfl (lv_at hl 3 rfl) ?_
          refine rg_getr F hH.1 0 (ci := 7) rfl (C := RX7) (T := TX7) (N := 8) rfl iwX7_acts_X7 0 (d := 1) (n := 1) rfl rfl (by decide) rfl lkX7_acts_0 rfl dX7_acts_195 ?_
          refine lv_iload_n hx hb dX7_acts_198 rfl (lv_at hl 4 rfl) ?_
          refine lv_iconst (v := 5) hx hb dX7_acts_199 (by decide) ?_
          obtain ⟨r92, er92, hE⟩ := lt_el hE
          refine rg_callRS (As := [.int a1, .int ((5 : Int32))]) (rest := [.ref (b + 1)]) F (mX7_ofGate l X a1 ((5 : Int32)) r92 er92) (va_cwS 2 F.1.2.2.2.2 gX7_acts_X7_ofGate rfl rfl rfl hsX7_ofGate ⟨Nat.le_of_ble_eq_true rfl, Nat.le_of_ble_eq_true rfl⟩)  trivial rfl hl.1 (Nat.le_of_ble_eq_true rfl) dX7_acts_200 ⟨Nat.zero_le _, Nat.zero_le _⟩ rfl ?_
          refine lv_iconst (v := 0) hx hb dX7_acts_203 (by decide) ?_
          obtain ⟨g93, hE⟩ := gd_el hE
          obtain ⟨V94, eV94, hE⟩ := lt_el hE
          refine rg_iast F hH (fun q h1 h2 => ⟨h1, h2⟩) 1 (n := 131) rfl g93 rfl dX7_acts_204 (fun H locs hH => ?_)
          replace hH := hp_cast eV94 hH
          refine lv_aload_n hx hb dX7_acts_205 rfl (lv_at hl 3 rfl) ?_
          refine lv_iconst (v := 1) hx hb dX7_acts_206 (by decide) ?_
          refine lv_iload_n hx hb dX7_acts_207 rfl (lv_at hl 1 rfl) ?_
          refine lv_isub hx hb dX7_acts_208 ?_
          refine lv_iload hx hb dX7_acts_209 (lv_at hl 0 rfl) ?_
          obtain ⟨U95, eU95, hE⟩ := bd_el hE
          refine rg_callWS (As := [.int (((1 : Int32)) - (V 1 r2.toNatClampNeg)), .int (V65 1 r66.toNatClampNeg)]) (rest := []) F hH (fun q h1 h2 => ⟨h1, h2⟩) (mX7_comes l X b V94 (((1 : Int32)) - (V 1 r2.toNatClampNeg)) (V65 1 r66.toNatClampNeg) U95 eU95) (cwV 2 F.1.2.2.2.2 gX7_acts_X7_comes rfl rfl rfl hvX7_comes ⟨Nat.le_of_ble_eq_true rfl, Nat.le_of_ble_eq_true rfl⟩) (rp_recv F hH.1 0 rfl (C := RX7) (T := TX7) (N := 8) rfl rfl) hH.1 rfl hl.1 (Nat.le_of_ble_eq_true rfl) dX7_acts_211 ⟨Nat.zero_le _, Nat.zero_le _⟩ rfl (fun H locs hH => ?_)
          refine lv_goto (tgt := 331) hx hb dX7_acts_214 (by decide) ?_
          have hE := Option.some.inj hE
          subst hE
          exact W.vret hx hb hr (fun t ht _ => mw_post hH ht) hH.2.1.2.2 dX7_acts_331
set_option maxRecDepth 20000 in
theorem lkX7_step_0 : Cond.fieldLink RX7 7 "TideWordsModel" "s" "[I" ∈ wsX7_step := by decide +kernel
set_option maxRecDepth 20000 in
theorem iwX7_step_X7 : ∀ w ∈ wsX70, w ∈ wsX7_step := by decide +kernel
theorem hvX7_openNow : yX7_openNow.cls = RX7 ∧ yX7_openNow.cls ≠ "java/lang/invoke/MethodHandle" ∧ yX7_openNow.cls ≠ "java/lang/invoke/VarHandle" ∧ (parseMethodDescriptor yX7_openNow.desc).map (fun d => d.parameters.length) = some 0 := by decide +kernel
theorem hvX7_acts : yX7_acts.cls = RX7 ∧ yX7_acts.cls ≠ "java/lang/invoke/MethodHandle" ∧ yX7_acts.cls ≠ "java/lang/invoke/VarHandle" ∧ (parseMethodDescriptor yX7_acts.desc).map (fun d => d.parameters.length) = some 1 := by decide +kernel
def lbX7_step_23 (s4 : Int32 × Mem) : Option ((Int32 × Mem) ⊕ (Int32 × Mem)) := if (4 : Int32) ≤ s4.1 then some (.inr (s4.1, s4.2)) else (qX7_acts s4.2 s4.1).bind (fun U6 => some (.inl (s4.1 + 1, U6)))
def lbX7_step_23_1 (s11 : Int32 × Mem) : Option ((Int32 × Mem) ⊕ (Int32 × Mem)) := if (4 : Int32) ≤ s11.1 then some (.inr (s11.1, s11.2)) else (qX7_acts s11.2 s11.1).bind (fun U13 => some (.inl (s11.1 + 1, U13)))
def qX7_step (V : Mem) : Option (Mem) := (qX7_openNow V ).bind (fun r1 => if r1 = 0 then lt (sv V 1 1 ((V 1 1) + ((1 : Int32)))) (fun V10 => (it (lbX7_step_23_1) fuel ((0 : Int32), V10)).bind (fun s14 => lt (sv s14.2 1 0 ((s14.2 1 0) + ((1 : Int32)))) (fun V16 => some (V16)))) else lt (sv V 1 1 ((V 1 1) + ((0 : Int32)))) (fun V3 => (it (lbX7_step_23) fuel ((0 : Int32), V3)).bind (fun s7 => lt (sv s7.2 1 0 ((s7.2 1 0) + ((1 : Int32)))) (fun V9 => some (V9)))))
abbrev rmX7_step : Room := { frames := 5, cells := 0, slots := 0, locals := 115 }
set_option maxHeartbeats 4000000 in
set_option maxRecDepth 100000 in
theorem mX7_step (l : Launch) (X : kX) (b : Nat) (V : Mem) (out : Mem) (hE : qX7_step V = some out) : MW l yX7_step wsX7_step rmX7_step X [.ref b] (RP X LM b V) (none) b (b + LM.length) (RP X LM b out) := by
  refine mt_head (cc := cX7_step) (maxL := 2) (ret := none) (own := RX7) (by decide) rfl rfl (Nat.le_of_ble_eq_true rfl) ?_
  intro p e s m below meth c ls F hr hlocks hnm hR hl
  have hx := F.1.1
  have hb := F.1.2.1
  have hH : Hp (t_fr b (b + LM.length)) s.heap s.heap.size X LM b V s.heap [] := ⟨hR, va_S.rf, rfl⟩
  have hl : lv_has ls 2 [(0, .ref b)] := hl
  unfold qX7_step at hE
  refine lv_aload_n hx hb dX7_step_0 rfl (lv_at hl 0 rfl) ?_
  refine rg_getr F hH.1 0 (ci := 7) rfl (C := RX7) (T := TX7) (N := 8) rfl iwX7_step_X7 0 (d := 1) (n := 1) rfl rfl (by decide) rfl lkX7_step_0 rfl dX7_step_1 ?_
  refine lv_iconst (v := 1) hx hb dX7_step_4 (by decide) ?_
  refine lv_dup2_11 hx hb dX7_step_5 rfl rfl ?_
  refine rg_iald F hH.1 1 rfl (i := 1) (by decide) rfl dX7_step_6 ?_
  refine lv_aload_n hx hb dX7_step_7 rfl (lv_at hl 0 rfl) ?_
  obtain ⟨r1, er1, hE⟩ := bd_el hE
  refine rg_callRV (As := []) (rest := [.int (V 1 1), .int ((1 : Int32)), .ref (b + 1)]) F (mX7_openNow l X b V  r1 er1) (cwV 0 F.1.2.2.2.2 gX7_step_X7_openNow rfl rfl rfl hvX7_openNow ⟨Nat.le_of_ble_eq_true rfl, Nat.le_of_ble_eq_true rfl⟩) (rp_recv F hH.1 0 rfl (C := RX7) (T := TX7) (N := 8) rfl rfl) hH.1 rfl hl.1 (Nat.le_of_ble_eq_true rfl) dX7_step_8 ⟨Nat.zero_le _, Nat.zero_le _⟩ rfl ?_
  refine lv_if_ne (tgt := 18) hx hb dX7_step_11 (by decide) (fun c2 => ?_) (fun c2 => ?_)
  · have hE := (if_neg c2).symm.trans hE
    refine lv_iconst (v := 0) hx hb dX7_step_18 (by decide) ?_
    refine lv_iadd hx hb dX7_step_19 ?_
    obtain ⟨V3, eV3, hE⟩ := lt_el hE
    refine rg_iast F hH (fun q h1 h2 => ⟨h1, h2⟩) 1 (n := 131) rfl (i := 1) (by decide) rfl dX7_step_20 (fun H locs hH => ?_)
    replace hH := hp_cast eV3 hH
    refine lv_iconst (v := 0) hx hb dX7_step_21 (by decide) ?_
    refine lv_istore_n (lv' := [(1, .int ((0 : Int32))), (0, .ref b)]) hx hb dX7_step_22 rfl hl (by decide) rfl (fun ls hl => ?_)
    obtain ⟨x8, hx8, hE⟩ := bd_el hE
    refine it_walk2 (body := lbX7_step_23) (Wh := fun s4 => ∀ (H : Heap) (locs : List Loc) (ls : Array Slot), Hp (t_fr b (b + LM.length)) s.heap s.heap.size X LM b s4.2 H locs → lv_has ls 2 [(1, .int s4.1), (0, .ref b)] → W p l e rmX7_step s m ([.ref b] : List Value).toArray below meth c H locs 0 0 (MQ below (cQw (none) b (b + LM.length) (RP X LM b out)) ([.ref b] : List Value).toArray s 0 0 (t_fr b (b + LM.length))) (F0 m 23 ls [])) (We := fun s7 => ∀ (H : Heap) (locs : List Loc) (ls : Array Slot), Hp (t_fr b (b + LM.length)) s.heap s.heap.size X LM b s7.2 H locs → lv_has ls 2 [(1, .int s7.1), (0, .ref b)] → W p l e rmX7_step s m ([.ref b] : List Value).toArray below meth c H locs 0 0 (MQ below (cQw (none) b (b + LM.length) (RP X LM b out)) ([.ref b] : List Value).toArray s 0 0 (t_fr b (b + LM.length))) (F0 m 39 ls [])) ?_ _ _ _ hx8 ?_ H locs ls hH (lv_sub hl [0, 1] rfl)
    · intro s4 r9 hE hL9 hR9 H locs ls hH hl
      unfold lbX7_step_23 at hE
      refine lv_iload_n hx hb dX7_step_23 rfl (lv_at hl 0 rfl) ?_
      refine lv_iconst (v := 4) hx hb dX7_step_24 (by decide) ?_
      refine lv_icmp_ge (tgt := 39) hx hb dX7_step_25 (by decide) (fun c5 => ?_) (fun c5 => ?_)
      · have hE := (if_pos c5).symm.trans hE
        cases hE
        exact hR9 _ rfl H locs ls hH (lv_sub hl [0, 1] rfl)
      · have hE := (if_neg c5).symm.trans hE
        refine lv_aload_n hx hb dX7_step_28 rfl (lv_at hl 1 rfl) ?_
        refine lv_iload_n hx hb dX7_step_29 rfl (lv_at hl 0 rfl) ?_
        obtain ⟨U6, eU6, hE⟩ := bd_el hE
        refine rg_callWS (As := [.int s4.1]) (rest := []) F hH (fun q h1 h2 => ⟨h1, h2⟩) (mX7_acts l X b s4.2 s4.1 U6 eU6) (cwV 1 F.1.2.2.2.2 gX7_step_X7_acts rfl rfl rfl hvX7_acts ⟨Nat.le_of_ble_eq_true rfl, Nat.le_of_ble_eq_true rfl⟩) (rp_recv F hH.1 0 rfl (C := RX7) (T := TX7) (N := 8) rfl rfl) hH.1 rfl hl.1 (Nat.le_of_ble_eq_true rfl) dX7_step_30 ⟨Nat.zero_le _, Nat.zero_le _⟩ rfl (fun H locs hH => ?_)
        refine lv_iinc (v := s4.1 + 1) (lv' := [(1, .int (s4.1 + 1)), (0, .ref b)]) hx hb dX7_step_33 hl (k := 0) rfl (congrArg (fun q => s4.1 + q) (by decide)) (by decide) rfl (fun ls hl => ?_)
        refine lv_goto (tgt := 23) hx hb dX7_step_36 (by decide) ?_
        cases hE
        exact hL9 _ rfl H locs ls hH (lv_sub hl [0, 1] rfl)
    · intro H locs ls hH hl
      refine lv_aload_n hx hb dX7_step_39 rfl (lv_at hl 1 rfl) ?_
      refine rg_getr F hH.1 0 (ci := 7) rfl (C := RX7) (T := TX7) (N := 8) rfl iwX7_step_X7 0 (d := 1) (n := 1) rfl rfl (by decide) rfl lkX7_step_0 rfl dX7_step_40 ?_
      refine lv_iconst (v := 0) hx hb dX7_step_43 (by decide) ?_
      refine lv_dup2_11 hx hb dX7_step_44 rfl rfl ?_
      refine rg_iald F hH.1 1 rfl (i := 0) (by decide) rfl dX7_step_45 ?_
      refine lv_iconst (v := 1) hx hb dX7_step_46 (by decide) ?_
      refine lv_iadd hx hb dX7_step_47 ?_
      obtain ⟨V9, eV9, hE⟩ := lt_el hE
      refine rg_iast F hH (fun q h1 h2 => ⟨h1, h2⟩) 1 (n := 131) rfl (i := 0) (by decide) rfl dX7_step_48 (fun H locs hH => ?_)
      replace hH := hp_cast eV9 hH
      have hE := Option.some.inj hE
      subst hE
      exact W.vret hx hb hr (fun t ht _ => mw_post hH ht) hH.2.1.2.2 dX7_step_49
  · have hE := (if_pos c2).symm.trans hE
    refine lv_iconst (v := 1) hx hb dX7_step_14 (by decide) ?_
    refine lv_goto (tgt := 19) hx hb dX7_step_15 (by decide) ?_
    refine lv_iadd hx hb dX7_step_19 ?_
    obtain ⟨V10, eV10, hE⟩ := lt_el hE
    refine rg_iast F hH (fun q h1 h2 => ⟨h1, h2⟩) 1 (n := 131) rfl (i := 1) (by decide) rfl dX7_step_20 (fun H locs hH => ?_)
    replace hH := hp_cast eV10 hH
    refine lv_iconst (v := 0) hx hb dX7_step_21 (by decide) ?_
    refine lv_istore_n (lv' := [(1, .int ((0 : Int32))), (0, .ref b)]) hx hb dX7_step_22 rfl hl (by decide) rfl (fun ls hl => ?_)
    obtain ⟨x15, hx15, hE⟩ := bd_el hE
    refine it_walk2 (body := lbX7_step_23_1) (Wh := fun s11 => ∀ (H : Heap) (locs : List Loc) (ls : Array Slot), Hp (t_fr b (b + LM.length)) s.heap s.heap.size X LM b s11.2 H locs → lv_has ls 2 [(1, .int s11.1), (0, .ref b)] → W p l e rmX7_step s m ([.ref b] : List Value).toArray below meth c H locs 0 0 (MQ below (cQw (none) b (b + LM.length) (RP X LM b out)) ([.ref b] : List Value).toArray s 0 0 (t_fr b (b + LM.length))) (F0 m 23 ls [])) (We := fun s14 => ∀ (H : Heap) (locs : List Loc) (ls : Array Slot), Hp (t_fr b (b + LM.length)) s.heap s.heap.size X LM b s14.2 H locs → lv_has ls 2 [(1, .int s14.1), (0, .ref b)] → W p l e rmX7_step s m ([.ref b] : List Value).toArray below meth c H locs 0 0 (MQ below (cQw (none) b (b + LM.length) (RP X LM b out)) ([.ref b] : List Value).toArray s 0 0 (t_fr b (b + LM.length))) (F0 m 39 ls [])) ?_ _ _ _ hx15 ?_ H locs ls hH (lv_sub hl [0, 1] rfl)
    · intro s11 r9 hE hL9 hR9 H locs ls hH hl
      unfold lbX7_step_23_1 at hE
      refine lv_iload_n hx hb dX7_step_23 rfl (lv_at hl 0 rfl) ?_
      refine lv_iconst (v := 4) hx hb dX7_step_24 (by decide) ?_
      refine lv_icmp_ge (tgt := 39) hx hb dX7_step_25 (by decide) (fun c12 => ?_) (fun c12 => ?_)
      · have hE := (if_pos c12).symm.trans hE
        cases hE
        exact hR9 _ rfl H locs ls hH (lv_sub hl [0, 1] rfl)
      · have hE := (if_neg c12).symm.trans hE
        refine lv_aload_n hx hb dX7_step_28 rfl (lv_at hl 1 rfl) ?_
        refine lv_iload_n hx hb dX7_step_29 rfl (lv_at hl 0 rfl) ?_
        obtain ⟨U13, eU13, hE⟩ := bd_el hE
        refine rg_callWS (As := [.int s11.1]) (rest := []) F hH (fun q h1 h2 => ⟨h1, h2⟩) (mX7_acts l X b s11.2 s11.1 U13 eU13) (cwV 1 F.1.2.2.2.2 gX7_step_X7_acts rfl rfl rfl hvX7_acts ⟨Nat.le_of_ble_eq_true rfl, Nat.le_of_ble_eq_true rfl⟩) (rp_recv F hH.1 0 rfl (C := RX7) (T := TX7) (N := 8) rfl rfl) hH.1 rfl hl.1 (Nat.le_of_ble_eq_true rfl) dX7_step_30 ⟨Nat.zero_le _, Nat.zero_le _⟩ rfl (fun H locs hH => ?_)
        refine lv_iinc (v := s11.1 + 1) (lv' := [(1, .int (s11.1 + 1)), (0, .ref b)]) hx hb dX7_step_33 hl (k := 0) rfl (congrArg (fun q => s11.1 + q) (by decide)) (by decide) rfl (fun ls hl => ?_)
        refine lv_goto (tgt := 23) hx hb dX7_step_36 (by decide) ?_
        cases hE
        exact hL9 _ rfl H locs ls hH (lv_sub hl [0, 1] rfl)
    · intro H locs ls hH hl
      refine lv_aload_n hx hb dX7_step_39 rfl (lv_at hl 1 rfl) ?_
      refine rg_getr F hH.1 0 (ci := 7) rfl (C := RX7) (T := TX7) (N := 8) rfl iwX7_step_X7 0 (d := 1) (n := 1) rfl rfl (by decide) rfl lkX7_step_0 rfl dX7_step_40 ?_
      refine lv_iconst (v := 0) hx hb dX7_step_43 (by decide) ?_
      refine lv_dup2_11 hx hb dX7_step_44 rfl rfl ?_
      refine rg_iald F hH.1 1 rfl (i := 0) (by decide) rfl dX7_step_45 ?_
      refine lv_iconst (v := 1) hx hb dX7_step_46 (by decide) ?_
      refine lv_iadd hx hb dX7_step_47 ?_
      obtain ⟨V16, eV16, hE⟩ := lt_el hE
      refine rg_iast F hH (fun q h1 h2 => ⟨h1, h2⟩) 1 (n := 131) rfl (i := 0) (by decide) rfl dX7_step_48 (fun H locs hH => ?_)
      replace hH := hp_cast eV16 hH
      have hE := Option.some.inj hE
      subst hE
      exact W.vret hx hb hr (fun t ht _ => mw_post hH ht) hH.2.1.2.2 dX7_step_49
theorem hvX7_step : yX7_step.cls = RX7 ∧ yX7_step.cls ≠ "java/lang/invoke/MethodHandle" ∧ yX7_step.cls ≠ "java/lang/invoke/VarHandle" ∧ (parseMethodDescriptor yX7_step.desc).map (fun d => d.parameters.length) = some 0 := by decide +kernel
def lbX7_runs_2 (a1 : Int32) (s1 : Int32 × Mem) : Option ((Int32 × Mem) ⊕ (Int32 × Mem)) := if a1 ≤ s1.1 then some (.inr (s1.1, s1.2)) else (qX7_step s1.2 ).bind (fun U3 => some (.inl (s1.1 + 1, U3)))
def qX7_runs (V : Mem) (a1 : Int32) : Option (Mem) := (it (lbX7_runs_2 a1) fuel ((0 : Int32), V)).bind (fun s4 => some (s4.2))
abbrev rmX7_runs : Room := { frames := 6, cells := 0, slots := 0, locals := 136 }
set_option maxHeartbeats 4000000 in
set_option maxRecDepth 100000 in
theorem mX7_runs (l : Launch) (X : kX) (b : Nat) (V : Mem) (a1 : Int32) (out : Mem) (hE : qX7_runs V a1 = some out) : MW l yX7_runs wsX7_runs rmX7_runs X [.ref b, .int a1] (RP X LM b V) (none) b (b + LM.length) (RP X LM b out) := by
  refine mt_head (cc := cX7_runs) (maxL := 3) (ret := none) (own := RX7) (by decide) rfl rfl (Nat.le_of_ble_eq_true rfl) ?_
  intro p e s m below meth c ls F hr hlocks hnm hR hl
  have hx := F.1.1
  have hb := F.1.2.1
  have hH : Hp (t_fr b (b + LM.length)) s.heap s.heap.size X LM b V s.heap [] := ⟨hR, va_S.rf, rfl⟩
  have hl : lv_has ls 3 [(0, .ref b), (1, .int a1)] := hl
  unfold qX7_runs at hE
  refine lv_iconst (v := 0) hx hb dX7_runs_0 (by decide) ?_
  refine lv_istore_n (lv' := [(2, .int ((0 : Int32))), (0, .ref b), (1, .int a1)]) hx hb dX7_runs_1 rfl hl (by decide) rfl (fun ls hl => ?_)
  obtain ⟨x5, hx5, hE⟩ := bd_el hE
  refine it_walk2 (body := lbX7_runs_2 a1) (Wh := fun s1 => ∀ (H : Heap) (locs : List Loc) (ls : Array Slot), Hp (t_fr b (b + LM.length)) s.heap s.heap.size X LM b s1.2 H locs → lv_has ls 3 [(2, .int s1.1), (0, .ref b), (1, .int a1)] → W p l e rmX7_runs s m ([.ref b, .int a1] : List Value).toArray below meth c H locs 0 0 (MQ below (cQw (none) b (b + LM.length) (RP X LM b out)) ([.ref b, .int a1] : List Value).toArray s 0 0 (t_fr b (b + LM.length))) (F0 m 2 ls [])) (We := fun s4 => ∀ (H : Heap) (locs : List Loc) (ls : Array Slot), Hp (t_fr b (b + LM.length)) s.heap s.heap.size X LM b s4.2 H locs → lv_has ls 3 [(2, .int s4.1), (0, .ref b), (1, .int a1)] → W p l e rmX7_runs s m ([.ref b, .int a1] : List Value).toArray below meth c H locs 0 0 (MQ below (cQw (none) b (b + LM.length) (RP X LM b out)) ([.ref b, .int a1] : List Value).toArray s 0 0 (t_fr b (b + LM.length))) (F0 m 17 ls [])) ?_ _ _ _ hx5 ?_ s.heap [] ls hH (lv_sub hl [0, 1, 2] rfl)
  · intro s1 r9 hE hL9 hR9 H locs ls hH hl
    unfold lbX7_runs_2 at hE
    refine lv_iload_n hx hb dX7_runs_2 rfl (lv_at hl 0 rfl) ?_
    refine lv_iload_n hx hb dX7_runs_3 rfl (lv_at hl 2 rfl) ?_
    refine lv_icmp_ge (tgt := 17) hx hb dX7_runs_4 (by decide) (fun c2 => ?_) (fun c2 => ?_)
    · have hE := (if_pos c2).symm.trans hE
      cases hE
      exact hR9 _ rfl H locs ls hH (lv_sub hl [0, 1, 2] rfl)
    · have hE := (if_neg c2).symm.trans hE
      refine lv_aload_n hx hb dX7_runs_7 rfl (lv_at hl 1 rfl) ?_
      obtain ⟨U3, eU3, hE⟩ := bd_el hE
      refine rg_callWS (As := []) (rest := []) F hH (fun q h1 h2 => ⟨h1, h2⟩) (mX7_step l X b s1.2  U3 eU3) (cwV 0 F.1.2.2.2.2 gX7_runs_X7_step rfl rfl rfl hvX7_step ⟨Nat.le_of_ble_eq_true rfl, Nat.le_of_ble_eq_true rfl⟩) (rp_recv F hH.1 0 rfl (C := RX7) (T := TX7) (N := 8) rfl rfl) hH.1 rfl hl.1 (Nat.le_of_ble_eq_true rfl) dX7_runs_8 ⟨Nat.zero_le _, Nat.zero_le _⟩ rfl (fun H locs hH => ?_)
      refine lv_iinc (v := s1.1 + 1) (lv' := [(2, .int (s1.1 + 1)), (0, .ref b), (1, .int a1)]) hx hb dX7_runs_11 hl (k := 0) rfl (congrArg (fun q => s1.1 + q) (by decide)) (by decide) rfl (fun ls hl => ?_)
      refine lv_goto (tgt := 2) hx hb dX7_runs_14 (by decide) ?_
      cases hE
      exact hL9 _ rfl H locs ls hH (lv_sub hl [0, 1, 2] rfl)
  · intro H locs ls hH hl
    have hE := Option.some.inj hE
    subst hE
    exact W.vret hx hb hr (fun t ht _ => mw_post hH ht) hH.2.1.2.2 dX7_runs_17
set_option maxRecDepth 20000 in
theorem lkX7_passedWords_0 : Cond.fieldLink RX7 7 "TideWordsModel" "s" "[I" ∈ wsX7_passedWords := by decide +kernel
set_option maxRecDepth 20000 in
theorem iwX7_passedWords_X7 : ∀ w ∈ wsX70, w ∈ wsX7_passedWords := by decide +kernel
def lbX7_passedWords_4 (V : Mem) (s1 : Int32 × Int32) : Option ((Int32 × Int32) ⊕ (Int32 × Int32)) := if V 1 4 ≤ s1.2 then some (.inr (s1.1, s1.2)) else lt (fX7_ofWord s1.2 ((1 : Int32))) (fun r3 => if r3 < 0 ∨ 131 ≤ r3.toNatClampNeg then none else some (.inl (s1.1 + (V 1 r3.toNatClampNeg), s1.2 + 1)))
def qX7_passedWords (V : Mem) : Option (Int32) := (it (lbX7_passedWords_4 V) fuel ((0 : Int32), (0 : Int32))).bind (fun s5 => some (s5.1))
abbrev rmX7_passedWords : Room := { frames := 1, cells := 0, slots := 0, locals := 21 }
set_option maxHeartbeats 4000000 in
set_option maxRecDepth 100000 in
theorem mX7_passedWords (l : Launch) (X : kX) (b : Nat) (V : Mem) (out : Int32) (hE : qX7_passedWords V = some out) : MR l yX7_passedWords wsX7_passedWords rmX7_passedWords X [.ref b] (RP X LM b V) (some (.int out)) := by
  refine mt_head (cc := cX7_passedWords) (maxL := 3) (ret := (some .int)) (own := RX7) (by decide) rfl rfl (Nat.le_of_ble_eq_true rfl) ?_
  intro p e s m below meth c ls F hr hlocks hnm hR hl
  have hx := F.1.1
  have hb := F.1.2.1
  have hl : lv_has ls 3 [(0, .ref b)] := hl
  unfold qX7_passedWords at hE
  refine lv_iconst (v := 0) hx hb dX7_passedWords_0 (by decide) ?_
  refine lv_istore_n (lv' := [(1, .int ((0 : Int32))), (0, .ref b)]) hx hb dX7_passedWords_1 rfl hl (by decide) rfl (fun ls hl => ?_)
  refine lv_iconst (v := 0) hx hb dX7_passedWords_2 (by decide) ?_
  refine lv_istore_n (lv' := [(2, .int ((0 : Int32))), (1, .int ((0 : Int32))), (0, .ref b)]) hx hb dX7_passedWords_3 rfl hl (by decide) rfl (fun ls hl => ?_)
  obtain ⟨x6, hx6, hE⟩ := bd_el hE
  refine it_walk2 (body := lbX7_passedWords_4 V) (Wh := fun s1 => ∀ (ls : Array Slot), lv_has ls 3 [(2, .int s1.2), (1, .int s1.1), (0, .ref b)] → W p l e rmX7_passedWords s m ([.ref b] : List Value).toArray below meth c s.heap [] 0 0 (MQ below (cQr (some (.int out))) ([.ref b] : List Value).toArray s 0 0 (fun _ => False)) (F0 m 4 ls [])) (We := fun s5 => ∀ (ls : Array Slot), lv_has ls 3 [(2, .int s5.2), (1, .int s5.1), (0, .ref b)] → W p l e rmX7_passedWords s m ([.ref b] : List Value).toArray below meth c s.heap [] 0 0 (MQ below (cQr (some (.int out))) ([.ref b] : List Value).toArray s 0 0 (fun _ => False)) (F0 m 33 ls [])) ?_ _ _ _ hx6 ?_ ls (lv_sub hl [0, 1, 2] rfl)
  · intro s1 r9 hE hL9 hR9 ls hl
    unfold lbX7_passedWords_4 at hE
    refine lv_iload_n hx hb dX7_passedWords_4 rfl (lv_at hl 0 rfl) ?_
    refine lv_aload_n hx hb dX7_passedWords_5 rfl (lv_at hl 2 rfl) ?_
    refine rg_getr F hR 0 (ci := 7) rfl (C := RX7) (T := TX7) (N := 8) rfl iwX7_passedWords_X7 0 (d := 1) (n := 1) rfl rfl (by decide) rfl lkX7_passedWords_0 rfl dX7_passedWords_6 ?_
    refine lv_iconst (v := 4) hx hb dX7_passedWords_9 (by decide) ?_
    refine rg_iald F hR 1 rfl (i := 4) (by decide) rfl dX7_passedWords_10 ?_
    refine lv_icmp_ge (tgt := 33) hx hb dX7_passedWords_11 (by decide) (fun c2 => ?_) (fun c2 => ?_)
    · have hE := (if_pos c2).symm.trans hE
      cases hE
      exact hR9 _ rfl ls (lv_sub hl [0, 1, 2] rfl)
    · have hE := (if_neg c2).symm.trans hE
      refine lv_iload_n hx hb dX7_passedWords_14 rfl (lv_at hl 1 rfl) ?_
      refine lv_aload_n hx hb dX7_passedWords_15 rfl (lv_at hl 2 rfl) ?_
      refine rg_getr F hR 0 (ci := 7) rfl (C := RX7) (T := TX7) (N := 8) rfl iwX7_passedWords_X7 0 (d := 1) (n := 1) rfl rfl (by decide) rfl lkX7_passedWords_0 rfl dX7_passedWords_16 ?_
      refine lv_iload_n hx hb dX7_passedWords_19 rfl (lv_at hl 0 rfl) ?_
      refine lv_iconst (v := 1) hx hb dX7_passedWords_20 (by decide) ?_
      obtain ⟨r3, er3, hE⟩ := lt_el hE
      refine rg_callRS (As := [.int s1.2, .int ((1 : Int32))]) (rest := [.ref (b + 1), .int s1.1]) F (mX7_ofWord l X s1.2 ((1 : Int32)) r3 er3) (va_cwS 2 F.1.2.2.2.2 gX7_passedWords_X7_ofWord rfl rfl rfl hsX7_ofWord ⟨Nat.le_of_ble_eq_true rfl, Nat.le_of_ble_eq_true rfl⟩)  trivial rfl hl.1 (Nat.le_of_ble_eq_true rfl) dX7_passedWords_21 ⟨Nat.zero_le _, Nat.zero_le _⟩ rfl ?_
      obtain ⟨g4, hE⟩ := gd_el hE
      refine rg_iald F hR 1 (n := 131) rfl g4 rfl dX7_passedWords_24 ?_
      refine lv_iadd hx hb dX7_passedWords_25 ?_
      refine lv_istore_n (lv' := [(1, .int (s1.1 + (V 1 r3.toNatClampNeg))), (2, .int s1.2), (0, .ref b)]) hx hb dX7_passedWords_26 rfl hl (by decide) rfl (fun ls hl => ?_)
      refine lv_iinc (v := s1.2 + 1) (lv' := [(2, .int (s1.2 + 1)), (1, .int (s1.1 + (V 1 r3.toNatClampNeg))), (0, .ref b)]) hx hb dX7_passedWords_27 hl (k := 1) rfl (congrArg (fun q => s1.2 + q) (by decide)) (by decide) rfl (fun ls hl => ?_)
      refine lv_goto (tgt := 4) hx hb dX7_passedWords_30 (by decide) ?_
      cases hE
      exact hL9 _ rfl ls (lv_sub hl [0, 1, 2] rfl)
  · intro ls hl
    refine lv_iload_n hx hb dX7_passedWords_33 rfl (lv_at hl 1 rfl) ?_
    have hE := Option.some.inj hE
    subst hE
    exact W.iret (v := x6.1) hx hb hr (fun t ht _ => ⟨rfl, ht⟩) (fun _ h => absurd h List.not_mem_nil) dX7_passedWords_34
set_option maxRecDepth 20000 in
theorem lkX7_backs_0 : Cond.fieldLink RX7 7 "TideWordsModel" "s" "[I" ∈ wsX7_backs := by decide +kernel
set_option maxRecDepth 20000 in
theorem iwX7_backs_X7 : ∀ w ∈ wsX70, w ∈ wsX7_backs := by decide +kernel
def lbX7_backs_4 (V : Mem) (s1 : Int32 × Int32) : Option ((Int32 × Int32) ⊕ (Int32 × Int32)) := if V 1 4 ≤ s1.2 then some (.inr (s1.1, s1.2)) else lt (fX7_ofWord s1.2 ((4 : Int32))) (fun r3 => if r3 < 0 ∨ 131 ≤ r3.toNatClampNeg then none else some (.inl (s1.1 + (V 1 r3.toNatClampNeg), s1.2 + 1)))
def qX7_backs (V : Mem) : Option (Int32) := (it (lbX7_backs_4 V) fuel ((0 : Int32), (0 : Int32))).bind (fun s5 => some (s5.1))
abbrev rmX7_backs : Room := { frames := 1, cells := 0, slots := 0, locals := 21 }
set_option maxHeartbeats 4000000 in
set_option maxRecDepth 100000 in
theorem mX7_backs (l : Launch) (X : kX) (b : Nat) (V : Mem) (out : Int32) (hE : qX7_backs V = some out) : MR l yX7_backs wsX7_backs rmX7_backs X [.ref b] (RP X LM b V) (some (.int out)) := by
  refine mt_head (cc := cX7_backs) (maxL := 3) (ret := (some .int)) (own := RX7) (by decide) rfl rfl (Nat.le_of_ble_eq_true rfl) ?_
  intro p e s m below meth c ls F hr hlocks hnm hR hl
  have hx := F.1.1
  have hb := F.1.2.1
  have hl : lv_has ls 3 [(0, .ref b)] := hl
  unfold qX7_backs at hE
  refine lv_iconst (v := 0) hx hb dX7_backs_0 (by decide) ?_
  refine lv_istore_n (lv' := [(1, .int ((0 : Int32))), (0, .ref b)]) hx hb dX7_backs_1 rfl hl (by decide) rfl (fun ls hl => ?_)
  refine lv_iconst (v := 0) hx hb dX7_backs_2 (by decide) ?_
  refine lv_istore_n (lv' := [(2, .int ((0 : Int32))), (1, .int ((0 : Int32))), (0, .ref b)]) hx hb dX7_backs_3 rfl hl (by decide) rfl (fun ls hl => ?_)
  obtain ⟨x6, hx6, hE⟩ := bd_el hE
  refine it_walk2 (body := lbX7_backs_4 V) (Wh := fun s1 => ∀ (ls : Array Slot), lv_has ls 3 [(2, .int s1.2), (1, .int s1.1), (0, .ref b)] → W p l e rmX7_backs s m ([.ref b] : List Value).toArray below meth c s.heap [] 0 0 (MQ below (cQr (some (.int out))) ([.ref b] : List Value).toArray s 0 0 (fun _ => False)) (F0 m 4 ls [])) (We := fun s5 => ∀ (ls : Array Slot), lv_has ls 3 [(2, .int s5.2), (1, .int s5.1), (0, .ref b)] → W p l e rmX7_backs s m ([.ref b] : List Value).toArray below meth c s.heap [] 0 0 (MQ below (cQr (some (.int out))) ([.ref b] : List Value).toArray s 0 0 (fun _ => False)) (F0 m 33 ls [])) ?_ _ _ _ hx6 ?_ ls (lv_sub hl [0, 1, 2] rfl)
  · intro s1 r9 hE hL9 hR9 ls hl
    unfold lbX7_backs_4 at hE
    refine lv_iload_n hx hb dX7_backs_4 rfl (lv_at hl 0 rfl) ?_
    refine lv_aload_n hx hb dX7_backs_5 rfl (lv_at hl 2 rfl) ?_
    refine rg_getr F hR 0 (ci := 7) rfl (C := RX7) (T := TX7) (N := 8) rfl iwX7_backs_X7 0 (d := 1) (n := 1) rfl rfl (by decide) rfl lkX7_backs_0 rfl dX7_backs_6 ?_
    refine lv_iconst (v := 4) hx hb dX7_backs_9 (by decide) ?_
    refine rg_iald F hR 1 rfl (i := 4) (by decide) rfl dX7_backs_10 ?_
    refine lv_icmp_ge (tgt := 33) hx hb dX7_backs_11 (by decide) (fun c2 => ?_) (fun c2 => ?_)
    · have hE := (if_pos c2).symm.trans hE
      cases hE
      exact hR9 _ rfl ls (lv_sub hl [0, 1, 2] rfl)
    · have hE := (if_neg c2).symm.trans hE
      refine lv_iload_n hx hb dX7_backs_14 rfl (lv_at hl 1 rfl) ?_
      refine lv_aload_n hx hb dX7_backs_15 rfl (lv_at hl 2 rfl) ?_
      refine rg_getr F hR 0 (ci := 7) rfl (C := RX7) (T := TX7) (N := 8) rfl iwX7_backs_X7 0 (d := 1) (n := 1) rfl rfl (by decide) rfl lkX7_backs_0 rfl dX7_backs_16 ?_
      refine lv_iload_n hx hb dX7_backs_19 rfl (lv_at hl 0 rfl) ?_
      refine lv_iconst (v := 4) hx hb dX7_backs_20 (by decide) ?_
      obtain ⟨r3, er3, hE⟩ := lt_el hE
      refine rg_callRS (As := [.int s1.2, .int ((4 : Int32))]) (rest := [.ref (b + 1), .int s1.1]) F (mX7_ofWord l X s1.2 ((4 : Int32)) r3 er3) (va_cwS 2 F.1.2.2.2.2 gX7_backs_X7_ofWord rfl rfl rfl hsX7_ofWord ⟨Nat.le_of_ble_eq_true rfl, Nat.le_of_ble_eq_true rfl⟩)  trivial rfl hl.1 (Nat.le_of_ble_eq_true rfl) dX7_backs_21 ⟨Nat.zero_le _, Nat.zero_le _⟩ rfl ?_
      obtain ⟨g4, hE⟩ := gd_el hE
      refine rg_iald F hR 1 (n := 131) rfl g4 rfl dX7_backs_24 ?_
      refine lv_iadd hx hb dX7_backs_25 ?_
      refine lv_istore_n (lv' := [(1, .int (s1.1 + (V 1 r3.toNatClampNeg))), (2, .int s1.2), (0, .ref b)]) hx hb dX7_backs_26 rfl hl (by decide) rfl (fun ls hl => ?_)
      refine lv_iinc (v := s1.2 + 1) (lv' := [(2, .int (s1.2 + 1)), (1, .int (s1.1 + (V 1 r3.toNatClampNeg))), (0, .ref b)]) hx hb dX7_backs_27 hl (k := 1) rfl (congrArg (fun q => s1.2 + q) (by decide)) (by decide) rfl (fun ls hl => ?_)
      refine lv_goto (tgt := 4) hx hb dX7_backs_30 (by decide) ?_
      cases hE
      exact hL9 _ rfl ls (lv_sub hl [0, 1, 2] rfl)
  · intro ls hl
    refine lv_iload_n hx hb dX7_backs_33 rfl (lv_at hl 1 rfl) ?_
    have hE := Option.some.inj hE
    subst hE
    exact W.iret (v := x6.1) hx hb hr (fun t ht _ => ⟨rfl, ht⟩) (fun _ h => absurd h List.not_mem_nil) dX7_backs_34
set_option maxRecDepth 20000 in
theorem lkX7_record_0 : Cond.fieldLink RX7 40 "TideWordsModel" "kept" "I" ∈ wsX7_record := by decide +kernel
set_option maxRecDepth 20000 in
theorem iwX7_record_X7 : ∀ w ∈ wsX70, w ∈ wsX7_record := by decide +kernel
set_option maxRecDepth 20000 in
theorem lkX7_record_1 : Cond.fieldLink RX7 16 "TideWordsModel" "history" "[I" ∈ wsX7_record := by decide +kernel
set_option maxRecDepth 20000 in
theorem lkX7_record_2 : Cond.fieldLink RX7 7 "TideWordsModel" "s" "[I" ∈ wsX7_record := by decide +kernel
def lbX7_record_52 (s2 : Int32 × Mem) : Option ((Int32 × Mem) ⊕ (Int32 × Mem)) := if (131 : Int32) ≤ s2.1 then some (.inr (s2.1, s2.2)) else if s2.1 < 0 ∨ 131 ≤ s2.1.toNatClampNeg then none else if (((131 : Int32)) * (s2.2 0 0)) + s2.1 < 0 ∨ 786 ≤ ((((131 : Int32)) * (s2.2 0 0)) + s2.1).toNatClampNeg then none else lt (sv s2.2 3 ((((131 : Int32)) * (s2.2 0 0)) + s2.1).toNatClampNeg (s2.2 1 s2.1.toNatClampNeg)) (fun V6 => some (.inl (s2.1 + 1, V6)))
def lbX7_record_11 (s10 : Int32 × Mem) : Option ((Int32 × Mem) ⊕ (Int32 × Mem)) := if (655 : Int32) ≤ s10.1 then some (.inr (s10.1, s10.2)) else if s10.1 + ((131 : Int32)) < 0 ∨ 786 ≤ (s10.1 + ((131 : Int32))).toNatClampNeg then none else if s10.1 < 0 ∨ 786 ≤ s10.1.toNatClampNeg then none else lt (sv s10.2 3 s10.1.toNatClampNeg (s10.2 3 (s10.1 + ((131 : Int32))).toNatClampNeg)) (fun V14 => some (.inl (s10.1 + 1, V14)))
def lbX7_record_52_2 (s18 : Int32 × Mem) : Option ((Int32 × Mem) ⊕ (Int32 × Mem)) := if (131 : Int32) ≤ s18.1 then some (.inr (s18.1, s18.2)) else if s18.1 < 0 ∨ 131 ≤ s18.1.toNatClampNeg then none else if (((131 : Int32)) * (s18.2 0 0)) + s18.1 < 0 ∨ 786 ≤ ((((131 : Int32)) * (s18.2 0 0)) + s18.1).toNatClampNeg then none else lt (sv s18.2 3 ((((131 : Int32)) * (s18.2 0 0)) + s18.1).toNatClampNeg (s18.2 1 s18.1.toNatClampNeg)) (fun V22 => some (.inl (s18.1 + 1, V22)))
def qX7_record (V : Mem) : Option (Mem) := if V 0 0 = (6 : Int32) then (it (lbX7_record_11) fuel ((0 : Int32), V)).bind (fun s15 => lt (sv s15.2 0 0 ((s15.2 0 0) - ((1 : Int32)))) (fun V17 => (it (lbX7_record_52_2) fuel ((0 : Int32), V17)).bind (fun s23 => lt (sv s23.2 0 0 ((s23.2 0 0) + ((1 : Int32)))) (fun V25 => some (V25))))) else (it (lbX7_record_52) fuel ((0 : Int32), V)).bind (fun s7 => lt (sv s7.2 0 0 ((s7.2 0 0) + ((1 : Int32)))) (fun V9 => some (V9)))
abbrev rmX7_record : Room := { frames := 0, cells := 0, slots := 0, locals := 0 }
set_option maxHeartbeats 4000000 in
set_option maxRecDepth 100000 in
theorem mX7_record (l : Launch) (X : kX) (b : Nat) (V : Mem) (out : Mem) (hE : qX7_record V = some out) : MW l yX7_record wsX7_record rmX7_record X [.ref b] (RP X LM b V) (none) b (b + LM.length) (RP X LM b out) := by
  refine mt_head (cc := cX7_record) (maxL := 2) (ret := none) (own := RX7) (by decide) rfl rfl (Nat.le_of_ble_eq_true rfl) ?_
  intro p e s m below meth c ls F hr hlocks hnm hR hl
  have hx := F.1.1
  have hb := F.1.2.1
  have hH : Hp (t_fr b (b + LM.length)) s.heap s.heap.size X LM b V s.heap [] := ⟨hR, va_S.rf, rfl⟩
  have hl : lv_has ls 2 [(0, .ref b)] := hl
  unfold qX7_record at hE
  refine lv_aload_n hx hb dX7_record_0 rfl (lv_at hl 0 rfl) ?_
  refine rg_geti F hH.1 0 (ci := 7) rfl (C := RX7) (T := TX7) (N := 8) rfl iwX7_record_X7 3 (i := 0) rfl (by decide) rfl lkX7_record_0 rfl dX7_record_1 ?_
  refine lv_bipush (v := 6) hx hb dX7_record_4 (by decide) ?_
  refine lv_icmp_ne (tgt := 50) hx hb dX7_record_6 (by decide) (fun c1 => ?_) (fun c1 => ?_)
  · have hE := (if_neg c1).symm.trans hE
    refine lv_iconst (v := 0) hx hb dX7_record_50 (by decide) ?_
    refine lv_istore_n (lv' := [(1, .int ((0 : Int32))), (0, .ref b)]) hx hb dX7_record_51 rfl hl (by decide) rfl (fun ls hl => ?_)
    obtain ⟨x8, hx8, hE⟩ := bd_el hE
    refine it_walk2 (body := lbX7_record_52) (Wh := fun s2 => ∀ (H : Heap) (locs : List Loc) (ls : Array Slot), Hp (t_fr b (b + LM.length)) s.heap s.heap.size X LM b s2.2 H locs → lv_has ls 2 [(1, .int s2.1), (0, .ref b)] → W p l e rmX7_record s m ([.ref b] : List Value).toArray below meth c H locs 0 0 (MQ below (cQw (none) b (b + LM.length) (RP X LM b out)) ([.ref b] : List Value).toArray s 0 0 (t_fr b (b + LM.length))) (F0 m 52 ls [])) (We := fun s7 => ∀ (H : Heap) (locs : List Loc) (ls : Array Slot), Hp (t_fr b (b + LM.length)) s.heap s.heap.size X LM b s7.2 H locs → lv_has ls 2 [(1, .int s7.1), (0, .ref b)] → W p l e rmX7_record s m ([.ref b] : List Value).toArray below meth c H locs 0 0 (MQ below (cQw (none) b (b + LM.length) (RP X LM b out)) ([.ref b] : List Value).toArray s 0 0 (t_fr b (b + LM.length))) (F0 m 86 ls [])) ?_ _ _ _ hx8 ?_ s.heap [] ls hH (lv_sub hl [0, 1] rfl)
    · intro s2 r9 hE hL9 hR9 H locs ls hH hl
      unfold lbX7_record_52 at hE
      refine lv_iload_n hx hb dX7_record_52 rfl (lv_at hl 0 rfl) ?_
      refine lv_sipush (v := 131) hx hb dX7_record_53 (by decide) ?_
      refine lv_icmp_ge (tgt := 86) hx hb dX7_record_56 (by decide) (fun c3 => ?_) (fun c3 => ?_)
      · have hE := (if_pos c3).symm.trans hE
        cases hE
        exact hR9 _ rfl H locs ls hH (lv_sub hl [0, 1] rfl)
      · have hE := (if_neg c3).symm.trans hE
        refine lv_aload_n hx hb dX7_record_59 rfl (lv_at hl 1 rfl) ?_
        refine rg_getr F hH.1 0 (ci := 7) rfl (C := RX7) (T := TX7) (N := 8) rfl iwX7_record_X7 2 (d := 3) (n := 3) rfl rfl (by decide) rfl lkX7_record_1 rfl dX7_record_60 ?_
        refine lv_sipush (v := 131) hx hb dX7_record_63 (by decide) ?_
        refine lv_aload_n hx hb dX7_record_66 rfl (lv_at hl 1 rfl) ?_
        refine rg_geti F hH.1 0 (ci := 7) rfl (C := RX7) (T := TX7) (N := 8) rfl iwX7_record_X7 3 (i := 0) rfl (by decide) rfl lkX7_record_0 rfl dX7_record_67 ?_
        refine lv_imul hx hb dX7_record_70 ?_
        refine lv_iload_n hx hb dX7_record_71 rfl (lv_at hl 0 rfl) ?_
        refine lv_iadd hx hb dX7_record_72 ?_
        refine lv_aload_n hx hb dX7_record_73 rfl (lv_at hl 1 rfl) ?_
        refine rg_getr F hH.1 0 (ci := 7) rfl (C := RX7) (T := TX7) (N := 8) rfl iwX7_record_X7 0 (d := 1) (n := 1) rfl rfl (by decide) rfl lkX7_record_2 rfl dX7_record_74 ?_
        refine lv_iload_n hx hb dX7_record_77 rfl (lv_at hl 0 rfl) ?_
        obtain ⟨g4, hE⟩ := gd_el hE
        refine rg_iald F hH.1 1 (n := 131) rfl g4 rfl dX7_record_78 ?_
        obtain ⟨g5, hE⟩ := gd_el hE
        obtain ⟨V6, eV6, hE⟩ := lt_el hE
        refine rg_iast F hH (fun q h1 h2 => ⟨h1, h2⟩) 3 (n := 786) rfl g5 rfl dX7_record_79 (fun H locs hH => ?_)
        replace hH := hp_cast eV6 hH
        refine lv_iinc (v := s2.1 + 1) (lv' := [(1, .int (s2.1 + 1)), (0, .ref b)]) hx hb dX7_record_80 hl (k := 0) rfl (congrArg (fun q => s2.1 + q) (by decide)) (by decide) rfl (fun ls hl => ?_)
        refine lv_goto (tgt := 52) hx hb dX7_record_83 (by decide) ?_
        cases hE
        exact hL9 _ rfl H locs ls hH (lv_sub hl [0, 1] rfl)
    · intro H locs ls hH hl
      refine lv_aload_n hx hb dX7_record_86 rfl (lv_at hl 1 rfl) ?_
      refine lv_dup hx hb dX7_record_87 rfl ?_
      refine rg_geti F hH.1 0 (ci := 7) rfl (C := RX7) (T := TX7) (N := 8) rfl iwX7_record_X7 3 (i := 0) rfl (by decide) rfl lkX7_record_0 rfl dX7_record_88 ?_
      refine lv_iconst (v := 1) hx hb dX7_record_91 (by decide) ?_
      refine lv_iadd hx hb dX7_record_92 ?_
      obtain ⟨V9, eV9, hE⟩ := lt_el hE
      refine rg_put F hH (fun q h1 h2 => ⟨h1, h2⟩) 0 (ci := 7) rfl (C := RX7) (T := TX7) (N := 8) rfl iwX7_record_X7 tyX7 tyX7_ok nmX7 3 (i := 0) rfl (by decide) (by decide) rfl rfl (by decide +kernel) lkX7_record_0 rfl dX7_record_93 (fun H locs hH hfr => ?_)
      replace hH := hp_cast eV9 hH
      have hE := Option.some.inj hE
      subst hE
      exact W.vret hx hb hr (fun t ht _ => mw_post hH ht) hH.2.1.2.2 dX7_record_96
  · have hE := (if_pos c1).symm.trans hE
    refine lv_iconst (v := 0) hx hb dX7_record_9 (by decide) ?_
    refine lv_istore_n (lv' := [(1, .int ((0 : Int32))), (0, .ref b)]) hx hb dX7_record_10 rfl hl (by decide) rfl (fun ls hl => ?_)
    obtain ⟨x16, hx16, hE⟩ := bd_el hE
    refine it_walk2 (body := lbX7_record_11) (Wh := fun s10 => ∀ (H : Heap) (locs : List Loc) (ls : Array Slot), Hp (t_fr b (b + LM.length)) s.heap s.heap.size X LM b s10.2 H locs → lv_has ls 2 [(1, .int s10.1), (0, .ref b)] → W p l e rmX7_record s m ([.ref b] : List Value).toArray below meth c H locs 0 0 (MQ below (cQw (none) b (b + LM.length) (RP X LM b out)) ([.ref b] : List Value).toArray s 0 0 (t_fr b (b + LM.length))) (F0 m 11 ls [])) (We := fun s15 => ∀ (H : Heap) (locs : List Loc) (ls : Array Slot), Hp (t_fr b (b + LM.length)) s.heap s.heap.size X LM b s15.2 H locs → lv_has ls 2 [(1, .int s15.1), (0, .ref b)] → W p l e rmX7_record s m ([.ref b] : List Value).toArray below meth c H locs 0 0 (MQ below (cQw (none) b (b + LM.length) (RP X LM b out)) ([.ref b] : List Value).toArray s 0 0 (t_fr b (b + LM.length))) (F0 m 40 ls [])) ?_ _ _ _ hx16 ?_ s.heap [] ls hH (lv_sub hl [0, 1] rfl)
    · intro s10 r9 hE hL9 hR9 H locs ls hH hl
      unfold lbX7_record_11 at hE
      refine lv_iload_n hx hb dX7_record_11 rfl (lv_at hl 0 rfl) ?_
      refine lv_sipush (v := 655) hx hb dX7_record_12 (by decide) ?_
      refine lv_icmp_ge (tgt := 40) hx hb dX7_record_15 (by decide) (fun c11 => ?_) (fun c11 => ?_)
      · have hE := (if_pos c11).symm.trans hE
        cases hE
        exact hR9 _ rfl H locs ls hH (lv_sub hl [0, 1] rfl)
      · have hE := (if_neg c11).symm.trans hE
        refine lv_aload_n hx hb dX7_record_18 rfl (lv_at hl 1 rfl) ?_
        refine rg_getr F hH.1 0 (ci := 7) rfl (C := RX7) (T := TX7) (N := 8) rfl iwX7_record_X7 2 (d := 3) (n := 3) rfl rfl (by decide) rfl lkX7_record_1 rfl dX7_record_19 ?_
        refine lv_iload_n hx hb dX7_record_22 rfl (lv_at hl 0 rfl) ?_
        refine lv_aload_n hx hb dX7_record_23 rfl (lv_at hl 1 rfl) ?_
        refine rg_getr F hH.1 0 (ci := 7) rfl (C := RX7) (T := TX7) (N := 8) rfl iwX7_record_X7 2 (d := 3) (n := 3) rfl rfl (by decide) rfl lkX7_record_1 rfl dX7_record_24 ?_
        refine lv_iload_n hx hb dX7_record_27 rfl (lv_at hl 0 rfl) ?_
        refine lv_sipush (v := 131) hx hb dX7_record_28 (by decide) ?_
        refine lv_iadd hx hb dX7_record_31 ?_
        obtain ⟨g12, hE⟩ := gd_el hE
        refine rg_iald F hH.1 3 (n := 786) rfl g12 rfl dX7_record_32 ?_
        obtain ⟨g13, hE⟩ := gd_el hE
        obtain ⟨V14, eV14, hE⟩ := lt_el hE
        refine rg_iast F hH (fun q h1 h2 => ⟨h1, h2⟩) 3 (n := 786) rfl g13 rfl dX7_record_33 (fun H locs hH => ?_)
        replace hH := hp_cast eV14 hH
        refine lv_iinc (v := s10.1 + 1) (lv' := [(1, .int (s10.1 + 1)), (0, .ref b)]) hx hb dX7_record_34 hl (k := 0) rfl (congrArg (fun q => s10.1 + q) (by decide)) (by decide) rfl (fun ls hl => ?_)
        refine lv_goto (tgt := 11) hx hb dX7_record_37 (by decide) ?_
        cases hE
        exact hL9 _ rfl H locs ls hH (lv_sub hl [0, 1] rfl)
    · intro H locs ls hH hl
      refine lv_aload_n hx hb dX7_record_40 rfl (lv_at hl 1 rfl) ?_
      refine lv_dup hx hb dX7_record_41 rfl ?_
      refine rg_geti F hH.1 0 (ci := 7) rfl (C := RX7) (T := TX7) (N := 8) rfl iwX7_record_X7 3 (i := 0) rfl (by decide) rfl lkX7_record_0 rfl dX7_record_42 ?_
      refine lv_iconst (v := 1) hx hb dX7_record_45 (by decide) ?_
      refine lv_isub hx hb dX7_record_46 ?_
      obtain ⟨V17, eV17, hE⟩ := lt_el hE
      refine rg_put F hH (fun q h1 h2 => ⟨h1, h2⟩) 0 (ci := 7) rfl (C := RX7) (T := TX7) (N := 8) rfl iwX7_record_X7 tyX7 tyX7_ok nmX7 3 (i := 0) rfl (by decide) (by decide) rfl rfl (by decide +kernel) lkX7_record_0 rfl dX7_record_47 (fun H locs hH hfr => ?_)
      replace hH := hp_cast eV17 hH
      refine lv_iconst (v := 0) hx hb dX7_record_50 (by decide) ?_
      refine lv_istore_n (lv' := [(1, .int ((0 : Int32))), (0, .ref b)]) hx hb dX7_record_51 rfl hl (by decide) rfl (fun ls hl => ?_)
      obtain ⟨x24, hx24, hE⟩ := bd_el hE
      refine it_walk2 (body := lbX7_record_52_2) (Wh := fun s18 => ∀ (H : Heap) (locs : List Loc) (ls : Array Slot), Hp (t_fr b (b + LM.length)) s.heap s.heap.size X LM b s18.2 H locs → lv_has ls 2 [(1, .int s18.1), (0, .ref b)] → W p l e rmX7_record s m ([.ref b] : List Value).toArray below meth c H locs 0 0 (MQ below (cQw (none) b (b + LM.length) (RP X LM b out)) ([.ref b] : List Value).toArray s 0 0 (t_fr b (b + LM.length))) (F0 m 52 ls [])) (We := fun s23 => ∀ (H : Heap) (locs : List Loc) (ls : Array Slot), Hp (t_fr b (b + LM.length)) s.heap s.heap.size X LM b s23.2 H locs → lv_has ls 2 [(1, .int s23.1), (0, .ref b)] → W p l e rmX7_record s m ([.ref b] : List Value).toArray below meth c H locs 0 0 (MQ below (cQw (none) b (b + LM.length) (RP X LM b out)) ([.ref b] : List Value).toArray s 0 0 (t_fr b (b + LM.length))) (F0 m 86 ls [])) ?_ _ _ _ hx24 ?_ H locs ls hH (lv_sub hl [0, 1] rfl)
      · intro s18 r9 hE hL9 hR9 H locs ls hH hl
        unfold lbX7_record_52_2 at hE
        refine lv_iload_n hx hb dX7_record_52 rfl (lv_at hl 0 rfl) ?_
        refine lv_sipush (v := 131) hx hb dX7_record_53 (by decide) ?_
        refine lv_icmp_ge (tgt := 86) hx hb dX7_record_56 (by decide) (fun c19 => ?_) (fun c19 => ?_)
        · have hE := (if_pos c19).symm.trans hE
          cases hE
          exact hR9 _ rfl H locs ls hH (lv_sub hl [0, 1] rfl)
        · have hE := (if_neg c19).symm.trans hE
          refine lv_aload_n hx hb dX7_record_59 rfl (lv_at hl 1 rfl) ?_
          refine rg_getr F hH.1 0 (ci := 7) rfl (C := RX7) (T := TX7) (N := 8) rfl iwX7_record_X7 2 (d := 3) (n := 3) rfl rfl (by decide) rfl lkX7_record_1 rfl dX7_record_60 ?_
          refine lv_sipush (v := 131) hx hb dX7_record_63 (by decide) ?_
          refine lv_aload_n hx hb dX7_record_66 rfl (lv_at hl 1 rfl) ?_
          refine rg_geti F hH.1 0 (ci := 7) rfl (C := RX7) (T := TX7) (N := 8) rfl iwX7_record_X7 3 (i := 0) rfl (by decide) rfl lkX7_record_0 rfl dX7_record_67 ?_
          refine lv_imul hx hb dX7_record_70 ?_
          refine lv_iload_n hx hb dX7_record_71 rfl (lv_at hl 0 rfl) ?_
          refine lv_iadd hx hb dX7_record_72 ?_
          refine lv_aload_n hx hb dX7_record_73 rfl (lv_at hl 1 rfl) ?_
          refine rg_getr F hH.1 0 (ci := 7) rfl (C := RX7) (T := TX7) (N := 8) rfl iwX7_record_X7 0 (d := 1) (n := 1) rfl rfl (by decide) rfl lkX7_record_2 rfl dX7_record_74 ?_
          refine lv_iload_n hx hb dX7_record_77 rfl (lv_at hl 0 rfl) ?_
          obtain ⟨g20, hE⟩ := gd_el hE
          refine rg_iald F hH.1 1 (n := 131) rfl g20 rfl dX7_record_78 ?_
          obtain ⟨g21, hE⟩ := gd_el hE
          obtain ⟨V22, eV22, hE⟩ := lt_el hE
          refine rg_iast F hH (fun q h1 h2 => ⟨h1, h2⟩) 3 (n := 786) rfl g21 rfl dX7_record_79 (fun H locs hH => ?_)
          replace hH := hp_cast eV22 hH
          refine lv_iinc (v := s18.1 + 1) (lv' := [(1, .int (s18.1 + 1)), (0, .ref b)]) hx hb dX7_record_80 hl (k := 0) rfl (congrArg (fun q => s18.1 + q) (by decide)) (by decide) rfl (fun ls hl => ?_)
          refine lv_goto (tgt := 52) hx hb dX7_record_83 (by decide) ?_
          cases hE
          exact hL9 _ rfl H locs ls hH (lv_sub hl [0, 1] rfl)
      · intro H locs ls hH hl
        refine lv_aload_n hx hb dX7_record_86 rfl (lv_at hl 1 rfl) ?_
        refine lv_dup hx hb dX7_record_87 rfl ?_
        refine rg_geti F hH.1 0 (ci := 7) rfl (C := RX7) (T := TX7) (N := 8) rfl iwX7_record_X7 3 (i := 0) rfl (by decide) rfl lkX7_record_0 rfl dX7_record_88 ?_
        refine lv_iconst (v := 1) hx hb dX7_record_91 (by decide) ?_
        refine lv_iadd hx hb dX7_record_92 ?_
        obtain ⟨V25, eV25, hE⟩ := lt_el hE
        refine rg_put F hH (fun q h1 h2 => ⟨h1, h2⟩) 0 (ci := 7) rfl (C := RX7) (T := TX7) (N := 8) rfl iwX7_record_X7 tyX7 tyX7_ok nmX7 3 (i := 0) rfl (by decide) (by decide) rfl rfl (by decide +kernel) lkX7_record_0 rfl dX7_record_93 (fun H locs hH hfr => ?_)
        replace hH := hp_cast eV25 hH
        have hE := Option.some.inj hE
        subst hE
        exact W.vret hx hb hr (fun t ht _ => mw_post hH ht) hH.2.1.2.2 dX7_record_96
set_option maxRecDepth 20000 in
theorem lkX7_putAside_0 : Cond.fieldLink RX7 13 "TideWordsModel" "aside" "[I" ∈ wsX7_putAside := by decide +kernel
set_option maxRecDepth 20000 in
theorem iwX7_putAside_X7 : ∀ w ∈ wsX70, w ∈ wsX7_putAside := by decide +kernel
set_option maxRecDepth 20000 in
theorem lkX7_putAside_1 : Cond.fieldLink RX7 7 "TideWordsModel" "s" "[I" ∈ wsX7_putAside := by decide +kernel
def lbX7_putAside_2 (s1 : Int32 × Mem) : Option ((Int32 × Mem) ⊕ (Int32 × Mem)) := if (131 : Int32) ≤ s1.1 then some (.inr (s1.1, s1.2)) else if s1.1 < 0 ∨ 131 ≤ s1.1.toNatClampNeg then none else lt (sv s1.2 2 s1.1.toNatClampNeg (s1.2 1 s1.1.toNatClampNeg)) (fun V4 => some (.inl (s1.1 + 1, V4)))
def qX7_putAside (V : Mem) : Option (Mem) := (it (lbX7_putAside_2) fuel ((0 : Int32), V)).bind (fun s5 => some (s5.2))
abbrev rmX7_putAside : Room := { frames := 0, cells := 0, slots := 0, locals := 0 }
set_option maxHeartbeats 4000000 in
set_option maxRecDepth 100000 in
theorem mX7_putAside (l : Launch) (X : kX) (b : Nat) (V : Mem) (out : Mem) (hE : qX7_putAside V = some out) : MW l yX7_putAside wsX7_putAside rmX7_putAside X [.ref b] (RP X LM b V) (none) b (b + LM.length) (RP X LM b out) := by
  refine mt_head (cc := cX7_putAside) (maxL := 2) (ret := none) (own := RX7) (by decide) rfl rfl (Nat.le_of_ble_eq_true rfl) ?_
  intro p e s m below meth c ls F hr hlocks hnm hR hl
  have hx := F.1.1
  have hb := F.1.2.1
  have hH : Hp (t_fr b (b + LM.length)) s.heap s.heap.size X LM b V s.heap [] := ⟨hR, va_S.rf, rfl⟩
  have hl : lv_has ls 2 [(0, .ref b)] := hl
  unfold qX7_putAside at hE
  refine lv_iconst (v := 0) hx hb dX7_putAside_0 (by decide) ?_
  refine lv_istore_n (lv' := [(1, .int ((0 : Int32))), (0, .ref b)]) hx hb dX7_putAside_1 rfl hl (by decide) rfl (fun ls hl => ?_)
  obtain ⟨x6, hx6, hE⟩ := bd_el hE
  refine it_walk2 (body := lbX7_putAside_2) (Wh := fun s1 => ∀ (H : Heap) (locs : List Loc) (ls : Array Slot), Hp (t_fr b (b + LM.length)) s.heap s.heap.size X LM b s1.2 H locs → lv_has ls 2 [(1, .int s1.1), (0, .ref b)] → W p l e rmX7_putAside s m ([.ref b] : List Value).toArray below meth c H locs 0 0 (MQ below (cQw (none) b (b + LM.length) (RP X LM b out)) ([.ref b] : List Value).toArray s 0 0 (t_fr b (b + LM.length))) (F0 m 2 ls [])) (We := fun s5 => ∀ (H : Heap) (locs : List Loc) (ls : Array Slot), Hp (t_fr b (b + LM.length)) s.heap s.heap.size X LM b s5.2 H locs → lv_has ls 2 [(1, .int s5.1), (0, .ref b)] → W p l e rmX7_putAside s m ([.ref b] : List Value).toArray below meth c H locs 0 0 (MQ below (cQw (none) b (b + LM.length) (RP X LM b out)) ([.ref b] : List Value).toArray s 0 0 (t_fr b (b + LM.length))) (F0 m 27 ls [])) ?_ _ _ _ hx6 ?_ s.heap [] ls hH (lv_sub hl [0, 1] rfl)
  · intro s1 r9 hE hL9 hR9 H locs ls hH hl
    unfold lbX7_putAside_2 at hE
    refine lv_iload_n hx hb dX7_putAside_2 rfl (lv_at hl 0 rfl) ?_
    refine lv_sipush (v := 131) hx hb dX7_putAside_3 (by decide) ?_
    refine lv_icmp_ge (tgt := 27) hx hb dX7_putAside_6 (by decide) (fun c2 => ?_) (fun c2 => ?_)
    · have hE := (if_pos c2).symm.trans hE
      cases hE
      exact hR9 _ rfl H locs ls hH (lv_sub hl [0, 1] rfl)
    · have hE := (if_neg c2).symm.trans hE
      refine lv_aload_n hx hb dX7_putAside_9 rfl (lv_at hl 1 rfl) ?_
      refine rg_getr F hH.1 0 (ci := 7) rfl (C := RX7) (T := TX7) (N := 8) rfl iwX7_putAside_X7 1 (d := 2) (n := 2) rfl rfl (by decide) rfl lkX7_putAside_0 rfl dX7_putAside_10 ?_
      refine lv_iload_n hx hb dX7_putAside_13 rfl (lv_at hl 0 rfl) ?_
      refine lv_aload_n hx hb dX7_putAside_14 rfl (lv_at hl 1 rfl) ?_
      refine rg_getr F hH.1 0 (ci := 7) rfl (C := RX7) (T := TX7) (N := 8) rfl iwX7_putAside_X7 0 (d := 1) (n := 1) rfl rfl (by decide) rfl lkX7_putAside_1 rfl dX7_putAside_15 ?_
      refine lv_iload_n hx hb dX7_putAside_18 rfl (lv_at hl 0 rfl) ?_
      obtain ⟨g3, hE⟩ := gd_el hE
      refine rg_iald F hH.1 1 (n := 131) rfl g3 rfl dX7_putAside_19 ?_
      obtain ⟨V4, eV4, hE⟩ := lt_el hE
      refine rg_iast F hH (fun q h1 h2 => ⟨h1, h2⟩) 2 (n := 131) rfl g3 rfl dX7_putAside_20 (fun H locs hH => ?_)
      replace hH := hp_cast eV4 hH
      refine lv_iinc (v := s1.1 + 1) (lv' := [(1, .int (s1.1 + 1)), (0, .ref b)]) hx hb dX7_putAside_21 hl (k := 0) rfl (congrArg (fun q => s1.1 + q) (by decide)) (by decide) rfl (fun ls hl => ?_)
      refine lv_goto (tgt := 2) hx hb dX7_putAside_24 (by decide) ?_
      cases hE
      exact hL9 _ rfl H locs ls hH (lv_sub hl [0, 1] rfl)
  · intro H locs ls hH hl
    have hE := Option.some.inj hE
    subst hE
    exact W.vret hx hb hr (fun t ht _ => mw_post hH ht) hH.2.1.2.2 dX7_putAside_27
set_option maxRecDepth 20000 in
theorem lkX7_putBack_0 : Cond.fieldLink RX7 7 "TideWordsModel" "s" "[I" ∈ wsX7_putBack := by decide +kernel
set_option maxRecDepth 20000 in
theorem iwX7_putBack_X7 : ∀ w ∈ wsX70, w ∈ wsX7_putBack := by decide +kernel
set_option maxRecDepth 20000 in
theorem lkX7_putBack_1 : Cond.fieldLink RX7 13 "TideWordsModel" "aside" "[I" ∈ wsX7_putBack := by decide +kernel
def lbX7_putBack_2 (s1 : Int32 × Mem) : Option ((Int32 × Mem) ⊕ (Int32 × Mem)) := if (131 : Int32) ≤ s1.1 then some (.inr (s1.1, s1.2)) else if s1.1 < 0 ∨ 131 ≤ s1.1.toNatClampNeg then none else lt (sv s1.2 1 s1.1.toNatClampNeg (s1.2 2 s1.1.toNatClampNeg)) (fun V4 => some (.inl (s1.1 + 1, V4)))
def qX7_putBack (V : Mem) : Option (Mem) := (it (lbX7_putBack_2) fuel ((0 : Int32), V)).bind (fun s5 => some (s5.2))
abbrev rmX7_putBack : Room := { frames := 0, cells := 0, slots := 0, locals := 0 }
set_option maxHeartbeats 4000000 in
set_option maxRecDepth 100000 in
theorem mX7_putBack (l : Launch) (X : kX) (b : Nat) (V : Mem) (out : Mem) (hE : qX7_putBack V = some out) : MW l yX7_putBack wsX7_putBack rmX7_putBack X [.ref b] (RP X LM b V) (none) b (b + LM.length) (RP X LM b out) := by
  refine mt_head (cc := cX7_putBack) (maxL := 2) (ret := none) (own := RX7) (by decide) rfl rfl (Nat.le_of_ble_eq_true rfl) ?_
  intro p e s m below meth c ls F hr hlocks hnm hR hl
  have hx := F.1.1
  have hb := F.1.2.1
  have hH : Hp (t_fr b (b + LM.length)) s.heap s.heap.size X LM b V s.heap [] := ⟨hR, va_S.rf, rfl⟩
  have hl : lv_has ls 2 [(0, .ref b)] := hl
  unfold qX7_putBack at hE
  refine lv_iconst (v := 0) hx hb dX7_putBack_0 (by decide) ?_
  refine lv_istore_n (lv' := [(1, .int ((0 : Int32))), (0, .ref b)]) hx hb dX7_putBack_1 rfl hl (by decide) rfl (fun ls hl => ?_)
  obtain ⟨x6, hx6, hE⟩ := bd_el hE
  refine it_walk2 (body := lbX7_putBack_2) (Wh := fun s1 => ∀ (H : Heap) (locs : List Loc) (ls : Array Slot), Hp (t_fr b (b + LM.length)) s.heap s.heap.size X LM b s1.2 H locs → lv_has ls 2 [(1, .int s1.1), (0, .ref b)] → W p l e rmX7_putBack s m ([.ref b] : List Value).toArray below meth c H locs 0 0 (MQ below (cQw (none) b (b + LM.length) (RP X LM b out)) ([.ref b] : List Value).toArray s 0 0 (t_fr b (b + LM.length))) (F0 m 2 ls [])) (We := fun s5 => ∀ (H : Heap) (locs : List Loc) (ls : Array Slot), Hp (t_fr b (b + LM.length)) s.heap s.heap.size X LM b s5.2 H locs → lv_has ls 2 [(1, .int s5.1), (0, .ref b)] → W p l e rmX7_putBack s m ([.ref b] : List Value).toArray below meth c H locs 0 0 (MQ below (cQw (none) b (b + LM.length) (RP X LM b out)) ([.ref b] : List Value).toArray s 0 0 (t_fr b (b + LM.length))) (F0 m 27 ls [])) ?_ _ _ _ hx6 ?_ s.heap [] ls hH (lv_sub hl [0, 1] rfl)
  · intro s1 r9 hE hL9 hR9 H locs ls hH hl
    unfold lbX7_putBack_2 at hE
    refine lv_iload_n hx hb dX7_putBack_2 rfl (lv_at hl 0 rfl) ?_
    refine lv_sipush (v := 131) hx hb dX7_putBack_3 (by decide) ?_
    refine lv_icmp_ge (tgt := 27) hx hb dX7_putBack_6 (by decide) (fun c2 => ?_) (fun c2 => ?_)
    · have hE := (if_pos c2).symm.trans hE
      cases hE
      exact hR9 _ rfl H locs ls hH (lv_sub hl [0, 1] rfl)
    · have hE := (if_neg c2).symm.trans hE
      refine lv_aload_n hx hb dX7_putBack_9 rfl (lv_at hl 1 rfl) ?_
      refine rg_getr F hH.1 0 (ci := 7) rfl (C := RX7) (T := TX7) (N := 8) rfl iwX7_putBack_X7 0 (d := 1) (n := 1) rfl rfl (by decide) rfl lkX7_putBack_0 rfl dX7_putBack_10 ?_
      refine lv_iload_n hx hb dX7_putBack_13 rfl (lv_at hl 0 rfl) ?_
      refine lv_aload_n hx hb dX7_putBack_14 rfl (lv_at hl 1 rfl) ?_
      refine rg_getr F hH.1 0 (ci := 7) rfl (C := RX7) (T := TX7) (N := 8) rfl iwX7_putBack_X7 1 (d := 2) (n := 2) rfl rfl (by decide) rfl lkX7_putBack_1 rfl dX7_putBack_15 ?_
      refine lv_iload_n hx hb dX7_putBack_18 rfl (lv_at hl 0 rfl) ?_
      obtain ⟨g3, hE⟩ := gd_el hE
      refine rg_iald F hH.1 2 (n := 131) rfl g3 rfl dX7_putBack_19 ?_
      obtain ⟨V4, eV4, hE⟩ := lt_el hE
      refine rg_iast F hH (fun q h1 h2 => ⟨h1, h2⟩) 1 (n := 131) rfl g3 rfl dX7_putBack_20 (fun H locs hH => ?_)
      replace hH := hp_cast eV4 hH
      refine lv_iinc (v := s1.1 + 1) (lv' := [(1, .int (s1.1 + 1)), (0, .ref b)]) hx hb dX7_putBack_21 hl (k := 0) rfl (congrArg (fun q => s1.1 + q) (by decide)) (by decide) rfl (fun ls hl => ?_)
      refine lv_goto (tgt := 2) hx hb dX7_putBack_24 (by decide) ?_
      cases hE
      exact hL9 _ rfl H locs ls hH (lv_sub hl [0, 1] rfl)
  · intro H locs ls hH hl
    have hE := Option.some.inj hE
    subst hE
    exact W.vret hx hb hr (fun t ht _ => mw_post hH ht) hH.2.1.2.2 dX7_putBack_27
