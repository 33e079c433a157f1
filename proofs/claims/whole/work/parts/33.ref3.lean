set_option maxRecDepth 20000 in
theorem lkX7_sumOf_0 : Cond.fieldLink RX7 7 "TideWordsModel" "s" "[I" ∈ wsX7_sumOf := by decide +kernel
set_option maxRecDepth 20000 in
theorem iwX7_sumOf_X7 : ∀ w ∈ wsX70, w ∈ wsX7_sumOf := by decide +kernel
def lbX7_sumOf_5 (V : Mem) (a1 : Int32) (a2 : Int32) (s1 : Int32 × Int32) : Option ((Int32 × Int32) ⊕ (Int32 × Int32)) := if ((45 : Int32)) + a1 < 0 ∨ 131 ≤ (((45 : Int32)) + a1).toNatClampNeg then none else if V 1 (((45 : Int32)) + a1).toNatClampNeg ≤ s1.2 then some (.inr (s1.1, s1.2)) else lt (fX7_inRow a1 s1.2) (fun r4 => if r4 < 0 ∨ 131 ≤ r4.toNatClampNeg then none else if a2 = (6 : Int32) then some (.inl (s1.1 + ((1 : Int32)), s1.2 + 1)) else if a2 = (7 : Int32) then (qX7_lettersOf V (V 1 r4.toNatClampNeg)).bind (fun r10 => some (.inl (s1.1 + r10, s1.2 + 1))) else (qX7_hasPassed V (V 1 r4.toNatClampNeg)).bind (fun r8 => if r8 = 0 then some (.inl (s1.1 + ((1 : Int32)), s1.2 + 1)) else some (.inl (s1.1 + ((0 : Int32)), s1.2 + 1))))
def qX7_sumOf (V : Mem) (a1 : Int32) (a2 : Int32) : Option (Int32) := (it (lbX7_sumOf_5 V a1 a2) fuel ((0 : Int32), (0 : Int32))).bind (fun s11 => some (s11.1))
abbrev rmX7_sumOf : Room := { frames := 2, cells := 0, slots := 0, locals := 44 }
set_option maxHeartbeats 4000000 in
set_option maxRecDepth 100000 in
theorem mX7_sumOf (l : Launch) (X : kX) (b : Nat) (V : Mem) (a1 : Int32) (a2 : Int32) (out : Int32) (hE : qX7_sumOf V a1 a2 = some out) : MR l yX7_sumOf wsX7_sumOf rmX7_sumOf X [.ref b, .int a1, .int a2] (RP X LM b V) (some (.int out)) := by
  refine mt_head (cc := cX7_sumOf) (maxL := 6) (ret := (some .int)) (own := RX7) (by decide) rfl rfl (Nat.le_of_ble_eq_true rfl) ?_
  intro p e s m below meth c ls F hr hlocks hnm hR hl
  have hx := F.1.1
  have hb := F.1.2.1
  have hl : lv_has ls 6 [(0, .ref b), (1, .int a1), (2, .int a2)] := hl
  unfold qX7_sumOf at hE
  refine lv_iconst (v := 0) hx hb dX7_sumOf_0 (by decide) ?_
  refine lv_istore_n (lv' := [(3, .int ((0 : Int32))), (0, .ref b), (1, .int a1), (2, .int a2)]) hx hb dX7_sumOf_1 rfl hl (by decide) rfl (fun ls hl => ?_)
  refine lv_iconst (v := 0) hx hb dX7_sumOf_2 (by decide) ?_
  refine lv_istore (lv' := [(4, .int ((0 : Int32))), (3, .int ((0 : Int32))), (0, .ref b), (1, .int a1), (2, .int a2)]) hx hb dX7_sumOf_3 hl (by decide) rfl (fun ls hl => ?_)
  obtain ⟨x12, hx12, hE⟩ := bd_el hE
  refine it_walk2 (body := lbX7_sumOf_5 V a1 a2) (Wh := fun s1 => ∀ (ls : Array Slot), lv_has ls 6 [(4, .int s1.2), (3, .int s1.1), (0, .ref b), (1, .int a1), (2, .int a2)] → W p l e rmX7_sumOf s m ([.ref b, .int a1, .int a2] : List Value).toArray below meth c s.heap [] 0 0 (MQ below (cQr (some (.int out))) ([.ref b, .int a1, .int a2] : List Value).toArray s 0 0 (fun _ => False)) (F0 m 5 ls [])) (We := fun s11 => ∀ (ls : Array Slot), lv_has ls 6 [(4, .int s11.2), (3, .int s11.1), (0, .ref b), (1, .int a1), (2, .int a2)] → W p l e rmX7_sumOf s m ([.ref b, .int a1, .int a2] : List Value).toArray below meth c s.heap [] 0 0 (MQ below (cQr (some (.int out))) ([.ref b, .int a1, .int a2] : List Value).toArray s 0 0 (fun _ => False)) (F0 m 80 ls [])) ?_ _ _ _ hx12 ?_ ls (lv_sub hl [0, 1, 2, 3, 4] rfl)
  · intro s1 r9 hE hL9 hR9 ls hl
    unfold lbX7_sumOf_5 at hE
    refine lv_iload hx hb dX7_sumOf_5 (lv_at hl 0 rfl) ?_
    refine lv_aload_n hx hb dX7_sumOf_7 rfl (lv_at hl 2 rfl) ?_
    refine rg_getr F hR 0 (ci := 7) rfl (C := RX7) (T := TX7) (N := 8) rfl iwX7_sumOf_X7 0 (d := 1) (n := 1) rfl rfl (by decide) rfl lkX7_sumOf_0 rfl dX7_sumOf_8 ?_
    refine lv_bipush (v := 45) hx hb dX7_sumOf_11 (by decide) ?_
    refine lv_iload_n hx hb dX7_sumOf_13 rfl (lv_at hl 3 rfl) ?_
    refine lv_iadd hx hb dX7_sumOf_14 ?_
    obtain ⟨g2, hE⟩ := gd_el hE
    refine rg_iald F hR 1 (n := 131) rfl g2 rfl dX7_sumOf_15 ?_
    refine lv_icmp_ge (tgt := 80) hx hb dX7_sumOf_16 (by decide) (fun c3 => ?_) (fun c3 => ?_)
    · have hE := (if_pos c3).symm.trans hE
      cases hE
      exact hR9 _ rfl ls (lv_sub hl [0, 1, 2, 3, 4] rfl)
    · have hE := (if_neg c3).symm.trans hE
      refine lv_aload_n hx hb dX7_sumOf_19 rfl (lv_at hl 2 rfl) ?_
      refine rg_getr F hR 0 (ci := 7) rfl (C := RX7) (T := TX7) (N := 8) rfl iwX7_sumOf_X7 0 (d := 1) (n := 1) rfl rfl (by decide) rfl lkX7_sumOf_0 rfl dX7_sumOf_20 ?_
      refine lv_iload_n hx hb dX7_sumOf_23 rfl (lv_at hl 3 rfl) ?_
      refine lv_iload hx hb dX7_sumOf_24 (lv_at hl 0 rfl) ?_
      obtain ⟨r4, er4, hE⟩ := lt_el hE
      refine rg_callRS (As := [.int a1, .int s1.2]) (rest := [.ref (b + 1)]) F (mX7_inRow l X a1 s1.2 r4 er4) (va_cwS 2 F.1.2.2.2.2 gX7_sumOf_X7_inRow rfl rfl rfl hsX7_inRow ⟨Nat.le_of_ble_eq_true rfl, Nat.le_of_ble_eq_true rfl⟩)  trivial rfl hl.1 (Nat.le_of_ble_eq_true rfl) dX7_sumOf_26 ⟨Nat.zero_le _, Nat.zero_le _⟩ rfl ?_
      obtain ⟨g5, hE⟩ := gd_el hE
      refine rg_iald F hR 1 (n := 131) rfl g5 rfl dX7_sumOf_29 ?_
      refine lv_istore (lv' := [(5, .int (V 1 r4.toNatClampNeg)), (4, .int s1.2), (3, .int s1.1), (0, .ref b), (1, .int a1), (2, .int a2)]) hx hb dX7_sumOf_30 hl (by decide) rfl (fun ls hl => ?_)
      refine lv_iload_n hx hb dX7_sumOf_32 rfl (lv_at hl 2 rfl) ?_
      refine lv_iload_n hx hb dX7_sumOf_33 rfl (lv_at hl 5 rfl) ?_
      refine lv_bipush (v := 6) hx hb dX7_sumOf_34 (by decide) ?_
      refine lv_icmp_ne (tgt := 43) hx hb dX7_sumOf_36 (by decide) (fun c6 => ?_) (fun c6 => ?_)
      · have hE := (if_neg c6).symm.trans hE
        refine lv_iload_n hx hb dX7_sumOf_43 rfl (lv_at hl 5 rfl) ?_
        refine lv_bipush (v := 7) hx hb dX7_sumOf_44 (by decide) ?_
        refine lv_icmp_ne (tgt := 58) hx hb dX7_sumOf_46 (by decide) (fun c7 => ?_) (fun c7 => ?_)
        · have hE := (if_neg c7).symm.trans hE
          refine lv_aload_n hx hb dX7_sumOf_58 rfl (lv_at hl 3 rfl) ?_
          refine lv_iload hx hb dX7_sumOf_59 (lv_at hl 0 rfl) ?_
          obtain ⟨r8, er8, hE⟩ := bd_el hE
          refine rg_callRV (As := [.int (V 1 r4.toNatClampNeg)]) (rest := [.int s1.1]) F (mX7_hasPassed l X b V (V 1 r4.toNatClampNeg) r8 er8) (cwV 1 F.1.2.2.2.2 gX7_sumOf_X7_hasPassed rfl rfl rfl hvX7_hasPassed ⟨Nat.le_of_ble_eq_true rfl, Nat.le_of_ble_eq_true rfl⟩) (rp_recv F hR 0 rfl (C := RX7) (T := TX7) (N := 8) rfl rfl) hR rfl hl.1 (Nat.le_of_ble_eq_true rfl) dX7_sumOf_61 ⟨Nat.zero_le _, Nat.zero_le _⟩ rfl ?_
          refine lv_if_eq (tgt := 71) hx hb dX7_sumOf_64 (by decide) (fun c9 => ?_) (fun c9 => ?_)
          · have hE := (if_pos c9).symm.trans hE
            refine lv_iconst (v := 1) hx hb dX7_sumOf_71 (by decide) ?_
            refine lv_iadd hx hb dX7_sumOf_72 ?_
            refine lv_istore_n (lv' := [(3, .int (s1.1 + ((1 : Int32)))), (5, .int (V 1 r4.toNatClampNeg)), (4, .int s1.2), (0, .ref b), (1, .int a1), (2, .int a2)]) hx hb dX7_sumOf_73 rfl hl (by decide) rfl (fun ls hl => ?_)
            refine lv_iinc (v := s1.2 + 1) (lv' := [(4, .int (s1.2 + 1)), (3, .int (s1.1 + ((1 : Int32)))), (5, .int (V 1 r4.toNatClampNeg)), (0, .ref b), (1, .int a1), (2, .int a2)]) hx hb dX7_sumOf_74 hl (k := 2) rfl (congrArg (fun q => s1.2 + q) (by decide)) (by decide) rfl (fun ls hl => ?_)
            refine lv_goto (tgt := 5) hx hb dX7_sumOf_77 (by decide) ?_
            cases hE
            exact hL9 _ rfl ls (lv_sub hl [0, 1, 3, 4, 5] rfl)
          · have hE := (if_neg c9).symm.trans hE
            refine lv_iconst (v := 0) hx hb dX7_sumOf_67 (by decide) ?_
            refine lv_goto (tgt := 72) hx hb dX7_sumOf_68 (by decide) ?_
            refine lv_iadd hx hb dX7_sumOf_72 ?_
            refine lv_istore_n (lv' := [(3, .int (s1.1 + ((0 : Int32)))), (5, .int (V 1 r4.toNatClampNeg)), (4, .int s1.2), (0, .ref b), (1, .int a1), (2, .int a2)]) hx hb dX7_sumOf_73 rfl hl (by decide) rfl (fun ls hl => ?_)
            refine lv_iinc (v := s1.2 + 1) (lv' := [(4, .int (s1.2 + 1)), (3, .int (s1.1 + ((0 : Int32)))), (5, .int (V 1 r4.toNatClampNeg)), (0, .ref b), (1, .int a1), (2, .int a2)]) hx hb dX7_sumOf_74 hl (k := 2) rfl (congrArg (fun q => s1.2 + q) (by decide)) (by decide) rfl (fun ls hl => ?_)
            refine lv_goto (tgt := 5) hx hb dX7_sumOf_77 (by decide) ?_
            cases hE
            exact hL9 _ rfl ls (lv_sub hl [0, 1, 3, 4, 5] rfl)
        · have hE := (if_pos c7).symm.trans hE
          refine lv_aload_n hx hb dX7_sumOf_49 rfl (lv_at hl 3 rfl) ?_
          refine lv_iload hx hb dX7_sumOf_50 (lv_at hl 0 rfl) ?_
          obtain ⟨r10, er10, hE⟩ := bd_el hE
          refine rg_callRV (As := [.int (V 1 r4.toNatClampNeg)]) (rest := [.int s1.1]) F (mX7_lettersOf l X b V (V 1 r4.toNatClampNeg) r10 er10) (cwV 1 F.1.2.2.2.2 gX7_sumOf_X7_lettersOf rfl rfl rfl hvX7_lettersOf ⟨Nat.le_of_ble_eq_true rfl, Nat.le_of_ble_eq_true rfl⟩) (rp_recv F hR 0 rfl (C := RX7) (T := TX7) (N := 8) rfl rfl) hR rfl hl.1 (Nat.le_of_ble_eq_true rfl) dX7_sumOf_52 ⟨Nat.zero_le _, Nat.zero_le _⟩ rfl ?_
          refine lv_goto (tgt := 72) hx hb dX7_sumOf_55 (by decide) ?_
          refine lv_iadd hx hb dX7_sumOf_72 ?_
          refine lv_istore_n (lv' := [(3, .int (s1.1 + r10)), (5, .int (V 1 r4.toNatClampNeg)), (4, .int s1.2), (0, .ref b), (1, .int a1), (2, .int a2)]) hx hb dX7_sumOf_73 rfl hl (by decide) rfl (fun ls hl => ?_)
          refine lv_iinc (v := s1.2 + 1) (lv' := [(4, .int (s1.2 + 1)), (3, .int (s1.1 + r10)), (5, .int (V 1 r4.toNatClampNeg)), (0, .ref b), (1, .int a1), (2, .int a2)]) hx hb dX7_sumOf_74 hl (k := 2) rfl (congrArg (fun q => s1.2 + q) (by decide)) (by decide) rfl (fun ls hl => ?_)
          refine lv_goto (tgt := 5) hx hb dX7_sumOf_77 (by decide) ?_
          cases hE
          exact hL9 _ rfl ls (lv_sub hl [0, 1, 3, 4, 5] rfl)
      · have hE := (if_pos c6).symm.trans hE
        refine lv_iconst (v := 1) hx hb dX7_sumOf_39 (by decide) ?_
        refine lv_goto (tgt := 72) hx hb dX7_sumOf_40 (by decide) ?_
        refine lv_iadd hx hb dX7_sumOf_72 ?_
        refine lv_istore_n (lv' := [(3, .int (s1.1 + ((1 : Int32)))), (5, .int (V 1 r4.toNatClampNeg)), (4, .int s1.2), (0, .ref b), (1, .int a1), (2, .int a2)]) hx hb dX7_sumOf_73 rfl hl (by decide) rfl (fun ls hl => ?_)
        refine lv_iinc (v := s1.2 + 1) (lv' := [(4, .int (s1.2 + 1)), (3, .int (s1.1 + ((1 : Int32)))), (5, .int (V 1 r4.toNatClampNeg)), (0, .ref b), (1, .int a1), (2, .int a2)]) hx hb dX7_sumOf_74 hl (k := 2) rfl (congrArg (fun q => s1.2 + q) (by decide)) (by decide) rfl (fun ls hl => ?_)
        refine lv_goto (tgt := 5) hx hb dX7_sumOf_77 (by decide) ?_
        cases hE
        exact hL9 _ rfl ls (lv_sub hl [0, 1, 3, 4, 5] rfl)
  · intro ls hl
    refine lv_iload_n hx hb dX7_sumOf_80 rfl (lv_at hl 1 rfl) ?_
    have hE := Option.some.inj hE
    subst hE
    exact W.iret (v := x12.1) hx hb hr (fun t ht _ => ⟨rfl, ht⟩) (fun _ h => absurd h List.not_mem_nil) dX7_sumOf_81
theorem hsX7_isStore : yX7_isStore.cls ≠ "java/lang/invoke/MethodHandle" ∧ yX7_isStore.cls ≠ "java/lang/invoke/VarHandle" ∧ (parseMethodDescriptor yX7_isStore.desc).map (fun d => d.parameters.length) = some 1 := by decide +kernel
set_option maxRecDepth 20000 in
theorem lkX7_store_0 : Cond.fieldLink RX7 7 "TideWordsModel" "s" "[I" ∈ wsX7_store := by decide +kernel
set_option maxRecDepth 20000 in
theorem iwX7_store_X7 : ∀ w ∈ wsX70, w ∈ wsX7_store := by decide +kernel
theorem hvX7_sumOf : yX7_sumOf.cls = RX7 ∧ yX7_sumOf.cls ≠ "java/lang/invoke/MethodHandle" ∧ yX7_sumOf.cls ≠ "java/lang/invoke/VarHandle" ∧ (parseMethodDescriptor yX7_sumOf.desc).map (fun d => d.parameters.length) = some 2 := by decide +kernel
def qX7_store (V : Mem) (a1 : Int32) (a2 : Int32) : Option (Int32) := lt (fX7_isStore a1) (fun r1 => if r1 = 0 then some ((-1001 : Int32)) else if a2 = 0 then lt (fX7_ofStore a1 a2) (fun r4 => if r4 < 0 ∨ 131 ≤ r4.toNatClampNeg then none else some (V 1 r4.toNatClampNeg)) else if a2 = 1 then lt (fX7_ofStore a1 a2) (fun r7 => if r7 < 0 ∨ 131 ≤ r7.toNatClampNeg then none else some (V 1 r7.toNatClampNeg)) else if a2 = 2 then lt (fX7_ofStore a1 a2) (fun r10 => if r10 < 0 ∨ 131 ≤ r10.toNatClampNeg then none else some (V 1 r10.toNatClampNeg)) else if a2 = 3 then lt (fX7_ofStore a1 a2) (fun r13 => if r13 < 0 ∨ 131 ≤ r13.toNatClampNeg then none else some (V 1 r13.toNatClampNeg)) else if a2 = 4 then (qX7_level V a1 (V 1 0)).bind (fun r16 => some (r16)) else if a2 = 5 then (qX7_level V a1 (V 1 0)).bind (fun r18 => lt (fX7_ofStore a1 ((3 : Int32))) (fun r19 => if r19 < 0 ∨ 131 ≤ r19.toNatClampNeg then none else some (r18 + (V 1 r19.toNatClampNeg)))) else if a2 = 6 then (qX7_sumOf V a1 a2).bind (fun r22 => some (r22)) else if a2 = 7 then (qX7_sumOf V a1 a2).bind (fun r24 => some (r24)) else if a2 = 8 then (qX7_sumOf V a1 a2).bind (fun r26 => some (r26)) else some ((-1002 : Int32)))
abbrev rmX7_store : Room := { frames := 3, cells := 0, slots := 0, locals := 69 }
set_option maxHeartbeats 4000000 in
set_option maxRecDepth 100000 in
theorem mX7_store (l : Launch) (X : kX) (b : Nat) (V : Mem) (a1 : Int32) (a2 : Int32) (out : Int32) (hE : qX7_store V a1 a2 = some out) : MR l yX7_store wsX7_store rmX7_store X [.ref b, .int a1, .int a2] (RP X LM b V) (some (.int out)) := by
  refine mt_head (cc := cX7_store) (maxL := 3) (ret := (some .int)) (own := RX7) (by decide) rfl rfl (Nat.le_of_ble_eq_true rfl) ?_
  intro p e s m below meth c ls F hr hlocks hnm hR hl
  have hx := F.1.1
  have hb := F.1.2.1
  have hl : lv_has ls 3 [(0, .ref b), (1, .int a1), (2, .int a2)] := hl
  unfold qX7_store at hE
  refine lv_iload_n hx hb dX7_store_0 rfl (lv_at hl 1 rfl) ?_
  obtain ⟨r1, er1, hE⟩ := lt_el hE
  refine rg_callRS (As := [.int a1]) (rest := []) F (mX7_isStore l X a1 r1 er1) (va_cwS 1 F.1.2.2.2.2 gX7_store_X7_isStore rfl rfl rfl hsX7_isStore ⟨Nat.le_of_ble_eq_true rfl, Nat.le_of_ble_eq_true rfl⟩)  trivial rfl hl.1 (Nat.le_of_ble_eq_true rfl) dX7_store_1 ⟨Nat.zero_le _, Nat.zero_le _⟩ rfl ?_
  refine lv_if_ne (tgt := 11) hx hb dX7_store_4 (by decide) (fun c2 => ?_) (fun c2 => ?_)
  · have hE := (if_neg c2).symm.trans hE
    refine lv_iload_n hx hb dX7_store_11 rfl (lv_at hl 2 rfl) ?_
    by_cases c3 : a2 = 0
    · have hE := (if_pos c3).symm.trans hE
      refine lv_tableIn (off := 52) (tgt := 64) hx hb dX7_store_12 (by rw [c3]; decide) (by rw [c3]; decide) (by rw [c3]; rfl) (by decide) ?_
      refine lv_aload_n hx hb dX7_store_64 rfl (lv_at hl 0 rfl) ?_
      refine rg_getr F hR 0 (ci := 7) rfl (C := RX7) (T := TX7) (N := 8) rfl iwX7_store_X7 0 (d := 1) (n := 1) rfl rfl (by decide) rfl lkX7_store_0 rfl dX7_store_65 ?_
      refine lv_iload_n hx hb dX7_store_68 rfl (lv_at hl 1 rfl) ?_
      refine lv_iload_n hx hb dX7_store_69 rfl (lv_at hl 2 rfl) ?_
      obtain ⟨r4, er4, hE⟩ := lt_el hE
      refine rg_callRS (As := [.int a1, .int a2]) (rest := [.ref (b + 1)]) F (mX7_ofStore l X a1 a2 r4 er4) (va_cwS 2 F.1.2.2.2.2 gX7_store_X7_ofStore rfl rfl rfl hsX7_ofStore ⟨Nat.le_of_ble_eq_true rfl, Nat.le_of_ble_eq_true rfl⟩)  trivial rfl hl.1 (Nat.le_of_ble_eq_true rfl) dX7_store_70 ⟨Nat.zero_le _, Nat.zero_le _⟩ rfl ?_
      obtain ⟨g5, hE⟩ := gd_el hE
      refine rg_iald F hR 1 (n := 131) rfl g5 rfl dX7_store_73 ?_
      have hE := Option.some.inj hE
      subst hE
      exact W.iret (v := V 1 r4.toNatClampNeg) hx hb hr (fun t ht _ => ⟨rfl, ht⟩) (fun _ h => absurd h List.not_mem_nil) dX7_store_74
    · have hE := (if_neg c3).symm.trans hE
      by_cases c6 : a2 = 1
      · have hE := (if_pos c6).symm.trans hE
        refine lv_tableIn (off := 52) (tgt := 64) hx hb dX7_store_12 (by rw [c6]; decide) (by rw [c6]; decide) (by rw [c6]; rfl) (by decide) ?_
        refine lv_aload_n hx hb dX7_store_64 rfl (lv_at hl 0 rfl) ?_
        refine rg_getr F hR 0 (ci := 7) rfl (C := RX7) (T := TX7) (N := 8) rfl iwX7_store_X7 0 (d := 1) (n := 1) rfl rfl (by decide) rfl lkX7_store_0 rfl dX7_store_65 ?_
        refine lv_iload_n hx hb dX7_store_68 rfl (lv_at hl 1 rfl) ?_
        refine lv_iload_n hx hb dX7_store_69 rfl (lv_at hl 2 rfl) ?_
        obtain ⟨r7, er7, hE⟩ := lt_el hE
        refine rg_callRS (As := [.int a1, .int a2]) (rest := [.ref (b + 1)]) F (mX7_ofStore l X a1 a2 r7 er7) (va_cwS 2 F.1.2.2.2.2 gX7_store_X7_ofStore rfl rfl rfl hsX7_ofStore ⟨Nat.le_of_ble_eq_true rfl, Nat.le_of_ble_eq_true rfl⟩)  trivial rfl hl.1 (Nat.le_of_ble_eq_true rfl) dX7_store_70 ⟨Nat.zero_le _, Nat.zero_le _⟩ rfl ?_
        obtain ⟨g8, hE⟩ := gd_el hE
        refine rg_iald F hR 1 (n := 131) rfl g8 rfl dX7_store_73 ?_
        have hE := Option.some.inj hE
        subst hE
        exact W.iret (v := V 1 r7.toNatClampNeg) hx hb hr (fun t ht _ => ⟨rfl, ht⟩) (fun _ h => absurd h List.not_mem_nil) dX7_store_74
      · have hE := (if_neg c6).symm.trans hE
        by_cases c9 : a2 = 2
        · have hE := (if_pos c9).symm.trans hE
          refine lv_tableIn (off := 52) (tgt := 64) hx hb dX7_store_12 (by rw [c9]; decide) (by rw [c9]; decide) (by rw [c9]; rfl) (by decide) ?_
          refine lv_aload_n hx hb dX7_store_64 rfl (lv_at hl 0 rfl) ?_
          refine rg_getr F hR 0 (ci := 7) rfl (C := RX7) (T := TX7) (N := 8) rfl iwX7_store_X7 0 (d := 1) (n := 1) rfl rfl (by decide) rfl lkX7_store_0 rfl dX7_store_65 ?_
          refine lv_iload_n hx hb dX7_store_68 rfl (lv_at hl 1 rfl) ?_
          refine lv_iload_n hx hb dX7_store_69 rfl (lv_at hl 2 rfl) ?_
          obtain ⟨r10, er10, hE⟩ := lt_el hE
          refine rg_callRS (As := [.int a1, .int a2]) (rest := [.ref (b + 1)]) F (mX7_ofStore l X a1 a2 r10 er10) (va_cwS 2 F.1.2.2.2.2 gX7_store_X7_ofStore rfl rfl rfl hsX7_ofStore ⟨Nat.le_of_ble_eq_true rfl, Nat.le_of_ble_eq_true rfl⟩)  trivial rfl hl.1 (Nat.le_of_ble_eq_true rfl) dX7_store_70 ⟨Nat.zero_le _, Nat.zero_le _⟩ rfl ?_
          obtain ⟨g11, hE⟩ := gd_el hE
          refine rg_iald F hR 1 (n := 131) rfl g11 rfl dX7_store_73 ?_
          have hE := Option.some.inj hE
          subst hE
          exact W.iret (v := V 1 r10.toNatClampNeg) hx hb hr (fun t ht _ => ⟨rfl, ht⟩) (fun _ h => absurd h List.not_mem_nil) dX7_store_74
        · have hE := (if_neg c9).symm.trans hE
          by_cases c12 : a2 = 3
          · have hE := (if_pos c12).symm.trans hE
            refine lv_tableIn (off := 52) (tgt := 64) hx hb dX7_store_12 (by rw [c12]; decide) (by rw [c12]; decide) (by rw [c12]; rfl) (by decide) ?_
            refine lv_aload_n hx hb dX7_store_64 rfl (lv_at hl 0 rfl) ?_
            refine rg_getr F hR 0 (ci := 7) rfl (C := RX7) (T := TX7) (N := 8) rfl iwX7_store_X7 0 (d := 1) (n := 1) rfl rfl (by decide) rfl lkX7_store_0 rfl dX7_store_65 ?_
            refine lv_iload_n hx hb dX7_store_68 rfl (lv_at hl 1 rfl) ?_
            refine lv_iload_n hx hb dX7_store_69 rfl (lv_at hl 2 rfl) ?_
            obtain ⟨r13, er13, hE⟩ := lt_el hE
            refine rg_callRS (As := [.int a1, .int a2]) (rest := [.ref (b + 1)]) F (mX7_ofStore l X a1 a2 r13 er13) (va_cwS 2 F.1.2.2.2.2 gX7_store_X7_ofStore rfl rfl rfl hsX7_ofStore ⟨Nat.le_of_ble_eq_true rfl, Nat.le_of_ble_eq_true rfl⟩)  trivial rfl hl.1 (Nat.le_of_ble_eq_true rfl) dX7_store_70 ⟨Nat.zero_le _, Nat.zero_le _⟩ rfl ?_
            obtain ⟨g14, hE⟩ := gd_el hE
            refine rg_iald F hR 1 (n := 131) rfl g14 rfl dX7_store_73 ?_
            have hE := Option.some.inj hE
            subst hE
            exact W.iret (v := V 1 r13.toNatClampNeg) hx hb hr (fun t ht _ => ⟨rfl, ht⟩) (fun _ h => absurd h List.not_mem_nil) dX7_store_74
          · have hE := (if_neg c12).symm.trans hE
            by_cases c15 : a2 = 4
            · have hE := (if_pos c15).symm.trans hE
              refine lv_tableIn (off := 63) (tgt := 75) hx hb dX7_store_12 (by rw [c15]; decide) (by rw [c15]; decide) (by rw [c15]; rfl) (by decide) ?_
              refine lv_aload_n hx hb dX7_store_75 rfl (lv_at hl 0 rfl) ?_
              refine lv_iload_n hx hb dX7_store_76 rfl (lv_at hl 1 rfl) ?_
              refine lv_aload_n hx hb dX7_store_77 rfl (lv_at hl 0 rfl) ?_
              refine rg_getr F hR 0 (ci := 7) rfl (C := RX7) (T := TX7) (N := 8) rfl iwX7_store_X7 0 (d := 1) (n := 1) rfl rfl (by decide) rfl lkX7_store_0 rfl dX7_store_78 ?_
              refine lv_iconst (v := 0) hx hb dX7_store_81 (by decide) ?_
              refine rg_iald F hR 1 rfl (i := 0) (by decide) rfl dX7_store_82 ?_
              obtain ⟨r16, er16, hE⟩ := bd_el hE
              refine rg_callRV (As := [.int a1, .int (V 1 0)]) (rest := []) F (mX7_level l X b V a1 (V 1 0) r16 er16) (cwV 2 F.1.2.2.2.2 gX7_store_X7_level rfl rfl rfl hvX7_level ⟨Nat.le_of_ble_eq_true rfl, Nat.le_of_ble_eq_true rfl⟩) (rp_recv F hR 0 rfl (C := RX7) (T := TX7) (N := 8) rfl rfl) hR rfl hl.1 (Nat.le_of_ble_eq_true rfl) dX7_store_83 ⟨Nat.zero_le _, Nat.zero_le _⟩ rfl ?_
              have hE := Option.some.inj hE
              subst hE
              exact W.iret (v := r16) hx hb hr (fun t ht _ => ⟨rfl, ht⟩) (fun _ h => absurd h List.not_mem_nil) dX7_store_86
            · have hE := (if_neg c15).symm.trans hE
              by_cases c17 : a2 = 5
              · have hE := (if_pos c17).symm.trans hE
                refine lv_tableIn (off := 75) (tgt := 87) hx hb dX7_store_12 (by rw [c17]; decide) (by rw [c17]; decide) (by rw [c17]; rfl) (by decide) ?_
                refine lv_aload_n hx hb dX7_store_87 rfl (lv_at hl 0 rfl) ?_
                refine lv_iload_n hx hb dX7_store_88 rfl (lv_at hl 1 rfl) ?_
                refine lv_aload_n hx hb dX7_store_89 rfl (lv_at hl 0 rfl) ?_
                refine rg_getr F hR 0 (ci := 7) rfl (C := RX7) (T := TX7) (N := 8) rfl iwX7_store_X7 0 (d := 1) (n := 1) rfl rfl (by decide) rfl lkX7_store_0 rfl dX7_store_90 ?_
                refine lv_iconst (v := 0) hx hb dX7_store_93 (by decide) ?_
                refine rg_iald F hR 1 rfl (i := 0) (by decide) rfl dX7_store_94 ?_
                obtain ⟨r18, er18, hE⟩ := bd_el hE
                refine rg_callRV (As := [.int a1, .int (V 1 0)]) (rest := []) F (mX7_level l X b V a1 (V 1 0) r18 er18) (cwV 2 F.1.2.2.2.2 gX7_store_X7_level rfl rfl rfl hvX7_level ⟨Nat.le_of_ble_eq_true rfl, Nat.le_of_ble_eq_true rfl⟩) (rp_recv F hR 0 rfl (C := RX7) (T := TX7) (N := 8) rfl rfl) hR rfl hl.1 (Nat.le_of_ble_eq_true rfl) dX7_store_95 ⟨Nat.zero_le _, Nat.zero_le _⟩ rfl ?_
                refine lv_aload_n hx hb dX7_store_98 rfl (lv_at hl 0 rfl) ?_
                refine rg_getr F hR 0 (ci := 7) rfl (C := RX7) (T := TX7) (N := 8) rfl iwX7_store_X7 0 (d := 1) (n := 1) rfl rfl (by decide) rfl lkX7_store_0 rfl dX7_store_99 ?_
                refine lv_iload_n hx hb dX7_store_102 rfl (lv_at hl 1 rfl) ?_
                refine lv_iconst (v := 3) hx hb dX7_store_103 (by decide) ?_
                obtain ⟨r19, er19, hE⟩ := lt_el hE
                refine rg_callRS (As := [.int a1, .int ((3 : Int32))]) (rest := [.ref (b + 1), .int r18]) F (mX7_ofStore l X a1 ((3 : Int32)) r19 er19) (va_cwS 2 F.1.2.2.2.2 gX7_store_X7_ofStore rfl rfl rfl hsX7_ofStore ⟨Nat.le_of_ble_eq_true rfl, Nat.le_of_ble_eq_true rfl⟩)  trivial rfl hl.1 (Nat.le_of_ble_eq_true rfl) dX7_store_104 ⟨Nat.zero_le _, Nat.zero_le _⟩ rfl ?_
                obtain ⟨g20, hE⟩ := gd_el hE
                refine rg_iald F hR 1 (n := 131) rfl g20 rfl dX7_store_107 ?_
                refine lv_iadd hx hb dX7_store_108 ?_
                have hE := Option.some.inj hE
                subst hE
                exact W.iret (v := r18 + (V 1 r19.toNatClampNeg)) hx hb hr (fun t ht _ => ⟨rfl, ht⟩) (fun _ h => absurd h List.not_mem_nil) dX7_store_109
              · have hE := (if_neg c17).symm.trans hE
                by_cases c21 : a2 = 6
                · have hE := (if_pos c21).symm.trans hE
                  refine lv_tableIn (off := 98) (tgt := 110) hx hb dX7_store_12 (by rw [c21]; decide) (by rw [c21]; decide) (by rw [c21]; rfl) (by decide) ?_
                  refine lv_aload_n hx hb dX7_store_110 rfl (lv_at hl 0 rfl) ?_
                  refine lv_iload_n hx hb dX7_store_111 rfl (lv_at hl 1 rfl) ?_
                  refine lv_iload_n hx hb dX7_store_112 rfl (lv_at hl 2 rfl) ?_
                  obtain ⟨r22, er22, hE⟩ := bd_el hE
                  refine rg_callRV (As := [.int a1, .int a2]) (rest := []) F (mX7_sumOf l X b V a1 a2 r22 er22) (cwV 2 F.1.2.2.2.2 gX7_store_X7_sumOf rfl rfl rfl hvX7_sumOf ⟨Nat.le_of_ble_eq_true rfl, Nat.le_of_ble_eq_true rfl⟩) (rp_recv F hR 0 rfl (C := RX7) (T := TX7) (N := 8) rfl rfl) hR rfl hl.1 (Nat.le_of_ble_eq_true rfl) dX7_store_113 ⟨Nat.zero_le _, Nat.zero_le _⟩ rfl ?_
                  have hE := Option.some.inj hE
                  subst hE
                  exact W.iret (v := r22) hx hb hr (fun t ht _ => ⟨rfl, ht⟩) (fun _ h => absurd h List.not_mem_nil) dX7_store_116
                · have hE := (if_neg c21).symm.trans hE
                  by_cases c23 : a2 = 7
                  · have hE := (if_pos c23).symm.trans hE
                    refine lv_tableIn (off := 98) (tgt := 110) hx hb dX7_store_12 (by rw [c23]; decide) (by rw [c23]; decide) (by rw [c23]; rfl) (by decide) ?_
                    refine lv_aload_n hx hb dX7_store_110 rfl (lv_at hl 0 rfl) ?_
                    refine lv_iload_n hx hb dX7_store_111 rfl (lv_at hl 1 rfl) ?_
                    refine lv_iload_n hx hb dX7_store_112 rfl (lv_at hl 2 rfl) ?_
                    obtain ⟨r24, er24, hE⟩ := bd_el hE
                    refine rg_callRV (As := [.int a1, .int a2]) (rest := []) F (mX7_sumOf l X b V a1 a2 r24 er24) (cwV 2 F.1.2.2.2.2 gX7_store_X7_sumOf rfl rfl rfl hvX7_sumOf ⟨Nat.le_of_ble_eq_true rfl, Nat.le_of_ble_eq_true rfl⟩) (rp_recv F hR 0 rfl (C := RX7) (T := TX7) (N := 8) rfl rfl) hR rfl hl.1 (Nat.le_of_ble_eq_true rfl) dX7_store_113 ⟨Nat.zero_le _, Nat.zero_le _⟩ rfl ?_
                    have hE := Option.some.inj hE
                    subst hE
                    exact W.iret (v := r24) hx hb hr (fun t ht _ => ⟨rfl, ht⟩) (fun _ h => absurd h List.not_mem_nil) dX7_store_116
                  · have hE := (if_neg c23).symm.trans hE
                    by_cases c25 : a2 = 8
                    · have hE := (if_pos c25).symm.trans hE
                      refine lv_tableIn (off := 98) (tgt := 110) hx hb dX7_store_12 (by rw [c25]; decide) (by rw [c25]; decide) (by rw [c25]; rfl) (by decide) ?_
                      refine lv_aload_n hx hb dX7_store_110 rfl (lv_at hl 0 rfl) ?_
                      refine lv_iload_n hx hb dX7_store_111 rfl (lv_at hl 1 rfl) ?_
                      refine lv_iload_n hx hb dX7_store_112 rfl (lv_at hl 2 rfl) ?_
                      obtain ⟨r26, er26, hE⟩ := bd_el hE
                      refine rg_callRV (As := [.int a1, .int a2]) (rest := []) F (mX7_sumOf l X b V a1 a2 r26 er26) (cwV 2 F.1.2.2.2.2 gX7_store_X7_sumOf rfl rfl rfl hvX7_sumOf ⟨Nat.le_of_ble_eq_true rfl, Nat.le_of_ble_eq_true rfl⟩) (rp_recv F hR 0 rfl (C := RX7) (T := TX7) (N := 8) rfl rfl) hR rfl hl.1 (Nat.le_of_ble_eq_true rfl) dX7_store_113 ⟨Nat.zero_le _, Nat.zero_le _⟩ rfl ?_
                      have hE := Option.some.inj hE
                      subst hE
                      exact W.iret (v := r26) hx hb hr (fun t ht _ => ⟨rfl, ht⟩) (fun _ h => absurd h List.not_mem_nil) dX7_store_116
                    · have hE := (if_neg c25).symm.trans hE
                      refine lv_tableOut (tgt := 117) hx hb dX7_store_12 (ts_out9 c3 c6 c9 c12 c15 c17 c21 c23 c25) (by decide) ?_
                      refine lv_sipush (v := (-1002)) hx hb dX7_store_117 (by decide) ?_
                      have hE := Option.some.inj hE
                      subst hE
                      exact W.iret (v := (-1002 : Int32)) hx hb hr (fun t ht _ => ⟨rfl, ht⟩) (fun _ h => absurd h List.not_mem_nil) dX7_store_120
  · have hE := (if_pos c2).symm.trans hE
    refine lv_sipush (v := (-1001)) hx hb dX7_store_7 (by decide) ?_
    have hE := Option.some.inj hE
    subst hE
    exact W.iret (v := (-1001 : Int32)) hx hb hr (fun t ht _ => ⟨rfl, ht⟩) (fun _ h => absurd h List.not_mem_nil) dX7_store_10
theorem hsX7_isGate : yX7_isGate.cls ≠ "java/lang/invoke/MethodHandle" ∧ yX7_isGate.cls ≠ "java/lang/invoke/VarHandle" ∧ (parseMethodDescriptor yX7_isGate.desc).map (fun d => d.parameters.length) = some 1 := by decide +kernel
set_option maxRecDepth 20000 in
theorem lkX7_gateOf_0 : Cond.fieldLink RX7 7 "TideWordsModel" "s" "[I" ∈ wsX7_gateOf := by decide +kernel
set_option maxRecDepth 20000 in
theorem iwX7_gateOf_X7 : ∀ w ∈ wsX70, w ∈ wsX7_gateOf := by decide +kernel
def qX7_gateOf (V : Mem) (a1 : Int32) (a2 : Int32) : Option (Int32) := lt (fX7_isGate a1) (fun r1 => if r1 = 0 then some ((-1001 : Int32)) else if a2 = (4 : Int32) then (qX7_isOpen V a1 (V 1 0)).bind (fun r12 => if r12 = 0 then some ((0 : Int32)) else some ((1 : Int32))) else lt (fX7_in a2 ((0 : Int32)) ((3 : Int32))) (fun r4 => if r4 = 0 then lt (fX7_in a2 ((5 : Int32)) ((8 : Int32))) (fun r6 => if r6 = 0 then some ((-1002 : Int32)) else lt (fX7_ofGate a1 (a2 - ((1 : Int32)))) (fun r8 => if r8 < 0 ∨ 131 ≤ r8.toNatClampNeg then none else some (V 1 r8.toNatClampNeg))) else lt (fX7_ofGate a1 a2) (fun r10 => if r10 < 0 ∨ 131 ≤ r10.toNatClampNeg then none else some (V 1 r10.toNatClampNeg))))
abbrev rmX7_gateOf : Room := { frames := 4, cells := 0, slots := 0, locals := 91 }
set_option maxHeartbeats 4000000 in
set_option maxRecDepth 100000 in
theorem mX7_gateOf (l : Launch) (X : kX) (b : Nat) (V : Mem) (a1 : Int32) (a2 : Int32) (out : Int32) (hE : qX7_gateOf V a1 a2 = some out) : MR l yX7_gateOf wsX7_gateOf rmX7_gateOf X [.ref b, .int a1, .int a2] (RP X LM b V) (some (.int out)) := by
  refine mt_head (cc := cX7_gateOf) (maxL := 3) (ret := (some .int)) (own := RX7) (by decide) rfl rfl (Nat.le_of_ble_eq_true rfl) ?_
  intro p e s m below meth c ls F hr hlocks hnm hR hl
  have hx := F.1.1
  have hb := F.1.2.1
  have hl : lv_has ls 3 [(0, .ref b), (1, .int a1), (2, .int a2)] := hl
  unfold qX7_gateOf at hE
  refine lv_iload_n hx hb dX7_gateOf_0 rfl (lv_at hl 1 rfl) ?_
  obtain ⟨r1, er1, hE⟩ := lt_el hE
  refine rg_callRS (As := [.int a1]) (rest := []) F (mX7_isGate l X a1 r1 er1) (va_cwS 1 F.1.2.2.2.2 gX7_gateOf_X7_isGate rfl rfl rfl hsX7_isGate ⟨Nat.le_of_ble_eq_true rfl, Nat.le_of_ble_eq_true rfl⟩)  trivial rfl hl.1 (Nat.le_of_ble_eq_true rfl) dX7_gateOf_1 ⟨Nat.zero_le _, Nat.zero_le _⟩ rfl ?_
  refine lv_if_ne (tgt := 11) hx hb dX7_gateOf_4 (by decide) (fun c2 => ?_) (fun c2 => ?_)
  · have hE := (if_neg c2).symm.trans hE
    refine lv_iload_n hx hb dX7_gateOf_11 rfl (lv_at hl 2 rfl) ?_
    refine lv_iconst (v := 4) hx hb dX7_gateOf_12 (by decide) ?_
    refine lv_icmp_ne (tgt := 36) hx hb dX7_gateOf_13 (by decide) (fun c3 => ?_) (fun c3 => ?_)
    · have hE := (if_neg c3).symm.trans hE
      refine lv_iload_n hx hb dX7_gateOf_36 rfl (lv_at hl 2 rfl) ?_
      refine lv_iconst (v := 0) hx hb dX7_gateOf_37 (by decide) ?_
      refine lv_iconst (v := 3) hx hb dX7_gateOf_38 (by decide) ?_
      obtain ⟨r4, er4, hE⟩ := lt_el hE
      refine rg_callRS (As := [.int a2, .int ((0 : Int32)), .int ((3 : Int32))]) (rest := []) F (mX7_in l X a2 ((0 : Int32)) ((3 : Int32)) r4 er4) (va_cwS 3 F.1.2.2.2.2 gX7_gateOf_X7_in rfl rfl rfl hsX7_in ⟨Nat.le_of_ble_eq_true rfl, Nat.le_of_ble_eq_true rfl⟩)  trivial rfl hl.1 (Nat.le_of_ble_eq_true rfl) dX7_gateOf_39 ⟨Nat.zero_le _, Nat.zero_le _⟩ rfl ?_
      refine lv_if_eq (tgt := 58) hx hb dX7_gateOf_42 (by decide) (fun c5 => ?_) (fun c5 => ?_)
      · have hE := (if_pos c5).symm.trans hE
        refine lv_iload_n hx hb dX7_gateOf_58 rfl (lv_at hl 2 rfl) ?_
        refine lv_iconst (v := 5) hx hb dX7_gateOf_59 (by decide) ?_
        refine lv_bipush (v := 8) hx hb dX7_gateOf_60 (by decide) ?_
        obtain ⟨r6, er6, hE⟩ := lt_el hE
        refine rg_callRS (As := [.int a2, .int ((5 : Int32)), .int ((8 : Int32))]) (rest := []) F (mX7_in l X a2 ((5 : Int32)) ((8 : Int32)) r6 er6) (va_cwS 3 F.1.2.2.2.2 gX7_gateOf_X7_in rfl rfl rfl hsX7_in ⟨Nat.le_of_ble_eq_true rfl, Nat.le_of_ble_eq_true rfl⟩)  trivial rfl hl.1 (Nat.le_of_ble_eq_true rfl) dX7_gateOf_62 ⟨Nat.zero_le _, Nat.zero_le _⟩ rfl ?_
        refine lv_if_eq (tgt := 83) hx hb dX7_gateOf_65 (by decide) (fun c7 => ?_) (fun c7 => ?_)
        · have hE := (if_pos c7).symm.trans hE
          refine lv_sipush (v := (-1002)) hx hb dX7_gateOf_83 (by decide) ?_
          have hE := Option.some.inj hE
          subst hE
          exact W.iret (v := (-1002 : Int32)) hx hb hr (fun t ht _ => ⟨rfl, ht⟩) (fun _ h => absurd h List.not_mem_nil) dX7_gateOf_86
        · have hE := (if_neg c7).symm.trans hE
          refine lv_aload_n hx hb dX7_gateOf_68 rfl (lv_at hl 0 rfl) ?_
          refine rg_getr F hR 0 (ci := 7) rfl (C := RX7) (T := TX7) (N := 8) rfl iwX7_gateOf_X7 0 (d := 1) (n := 1) rfl rfl (by decide) rfl lkX7_gateOf_0 rfl dX7_gateOf_69 ?_
          refine lv_iload_n hx hb dX7_gateOf_72 rfl (lv_at hl 1 rfl) ?_
          refine lv_iload_n hx hb dX7_gateOf_73 rfl (lv_at hl 2 rfl) ?_
          refine lv_iconst (v := 1) hx hb dX7_gateOf_74 (by decide) ?_
          refine lv_isub hx hb dX7_gateOf_75 ?_
          obtain ⟨r8, er8, hE⟩ := lt_el hE
          refine rg_callRS (As := [.int a1, .int (a2 - ((1 : Int32)))]) (rest := [.ref (b + 1)]) F (mX7_ofGate l X a1 (a2 - ((1 : Int32))) r8 er8) (va_cwS 2 F.1.2.2.2.2 gX7_gateOf_X7_ofGate rfl rfl rfl hsX7_ofGate ⟨Nat.le_of_ble_eq_true rfl, Nat.le_of_ble_eq_true rfl⟩)  trivial rfl hl.1 (Nat.le_of_ble_eq_true rfl) dX7_gateOf_76 ⟨Nat.zero_le _, Nat.zero_le _⟩ rfl ?_
          obtain ⟨g9, hE⟩ := gd_el hE
          refine rg_iald F hR 1 (n := 131) rfl g9 rfl dX7_gateOf_79 ?_
          refine lv_goto (tgt := 86) hx hb dX7_gateOf_80 (by decide) ?_
          have hE := Option.some.inj hE
          subst hE
          exact W.iret (v := V 1 r8.toNatClampNeg) hx hb hr (fun t ht _ => ⟨rfl, ht⟩) (fun _ h => absurd h List.not_mem_nil) dX7_gateOf_86
      · have hE := (if_neg c5).symm.trans hE
        refine lv_aload_n hx hb dX7_gateOf_45 rfl (lv_at hl 0 rfl) ?_
        refine rg_getr F hR 0 (ci := 7) rfl (C := RX7) (T := TX7) (N := 8) rfl iwX7_gateOf_X7 0 (d := 1) (n := 1) rfl rfl (by decide) rfl lkX7_gateOf_0 rfl dX7_gateOf_46 ?_
        refine lv_iload_n hx hb dX7_gateOf_49 rfl (lv_at hl 1 rfl) ?_
        refine lv_iload_n hx hb dX7_gateOf_50 rfl (lv_at hl 2 rfl) ?_
        obtain ⟨r10, er10, hE⟩ := lt_el hE
        refine rg_callRS (As := [.int a1, .int a2]) (rest := [.ref (b + 1)]) F (mX7_ofGate l X a1 a2 r10 er10) (va_cwS 2 F.1.2.2.2.2 gX7_gateOf_X7_ofGate rfl rfl rfl hsX7_ofGate ⟨Nat.le_of_ble_eq_true rfl, Nat.le_of_ble_eq_true rfl⟩)  trivial rfl hl.1 (Nat.le_of_ble_eq_true rfl) dX7_gateOf_51 ⟨Nat.zero_le _, Nat.zero_le _⟩ rfl ?_
        obtain ⟨g11, hE⟩ := gd_el hE
        refine rg_iald F hR 1 (n := 131) rfl g11 rfl dX7_gateOf_54 ?_
        refine lv_goto (tgt := 86) hx hb dX7_gateOf_55 (by decide) ?_
        have hE := Option.some.inj hE
        subst hE
        exact W.iret (v := V 1 r10.toNatClampNeg) hx hb hr (fun t ht _ => ⟨rfl, ht⟩) (fun _ h => absurd h List.not_mem_nil) dX7_gateOf_86
    · have hE := (if_pos c3).symm.trans hE
      refine lv_aload_n hx hb dX7_gateOf_16 rfl (lv_at hl 0 rfl) ?_
      refine lv_iload_n hx hb dX7_gateOf_17 rfl (lv_at hl 1 rfl) ?_
      refine lv_aload_n hx hb dX7_gateOf_18 rfl (lv_at hl 0 rfl) ?_
      refine rg_getr F hR 0 (ci := 7) rfl (C := RX7) (T := TX7) (N := 8) rfl iwX7_gateOf_X7 0 (d := 1) (n := 1) rfl rfl (by decide) rfl lkX7_gateOf_0 rfl dX7_gateOf_19 ?_
      refine lv_iconst (v := 0) hx hb dX7_gateOf_22 (by decide) ?_
      refine rg_iald F hR 1 rfl (i := 0) (by decide) rfl dX7_gateOf_23 ?_
      obtain ⟨r12, er12, hE⟩ := bd_el hE
      refine rg_callRV (As := [.int a1, .int (V 1 0)]) (rest := []) F (mX7_isOpen l X b V a1 (V 1 0) r12 er12) (cwV 2 F.1.2.2.2.2 gX7_gateOf_X7_isOpen rfl rfl rfl hvX7_isOpen ⟨Nat.le_of_ble_eq_true rfl, Nat.le_of_ble_eq_true rfl⟩) (rp_recv F hR 0 rfl (C := RX7) (T := TX7) (N := 8) rfl rfl) hR rfl hl.1 (Nat.le_of_ble_eq_true rfl) dX7_gateOf_24 ⟨Nat.zero_le _, Nat.zero_le _⟩ rfl ?_
      refine lv_if_eq (tgt := 34) hx hb dX7_gateOf_27 (by decide) (fun c13 => ?_) (fun c13 => ?_)
      · have hE := (if_pos c13).symm.trans hE
        refine lv_iconst (v := 0) hx hb dX7_gateOf_34 (by decide) ?_
        have hE := Option.some.inj hE
        subst hE
        exact W.iret (v := (0 : Int32)) hx hb hr (fun t ht _ => ⟨rfl, ht⟩) (fun _ h => absurd h List.not_mem_nil) dX7_gateOf_35
      · have hE := (if_neg c13).symm.trans hE
        refine lv_iconst (v := 1) hx hb dX7_gateOf_30 (by decide) ?_
        refine lv_goto (tgt := 35) hx hb dX7_gateOf_31 (by decide) ?_
        have hE := Option.some.inj hE
        subst hE
        exact W.iret (v := (1 : Int32)) hx hb hr (fun t ht _ => ⟨rfl, ht⟩) (fun _ h => absurd h List.not_mem_nil) dX7_gateOf_35
  · have hE := (if_pos c2).symm.trans hE
    refine lv_sipush (v := (-1001)) hx hb dX7_gateOf_7 (by decide) ?_
    have hE := Option.some.inj hE
    subst hE
    exact W.iret (v := (-1001 : Int32)) hx hb hr (fun t ht _ => ⟨rfl, ht⟩) (fun _ h => absurd h List.not_mem_nil) dX7_gateOf_10
set_option maxRecDepth 20000 in
theorem lkX7_whereIs_0 : Cond.fieldLink RX7 7 "TideWordsModel" "s" "[I" ∈ wsX7_whereIs := by decide +kernel
set_option maxRecDepth 20000 in
theorem iwX7_whereIs_X7 : ∀ w ∈ wsX70, w ∈ wsX7_whereIs := by decide +kernel
def lbX7_whereIs_4 (V : Mem) (a1 : Int32) (s1 : Int32 × Int32) : Option ((Int32 × Int32) ⊕ (Int32 × Int32)) := if V 1 45 ≤ s1.2 then some (.inr (s1.1, s1.2)) else lt (fX7_inRow ((0 : Int32)) s1.2) (fun r3 => if r3 < 0 ∨ 131 ≤ r3.toNatClampNeg then none else if V 1 r3.toNatClampNeg = a1 then some (.inl (s1.2, s1.2 + 1)) else some (.inl (s1.1, s1.2 + 1)))
def lbX7_whereIs_43 (V : Mem) (a1 : Int32) (s8 : Int32 × Int32) : Option ((Int32 × Int32) ⊕ (Int32 × Int32)) := if V 1 46 ≤ s8.2 then some (.inr (s8.1, s8.2)) else lt (fX7_inRow ((1 : Int32)) s8.2) (fun r10 => if r10 < 0 ∨ 131 ≤ r10.toNatClampNeg then none else if V 1 r10.toNatClampNeg = a1 then some (.inl (((100 : Int32)) + s8.2, s8.2 + 1)) else some (.inl (s8.1, s8.2 + 1)))
def lbX7_whereIs_85 (V : Mem) (a1 : Int32) (s15 : Int32 × Int32) : Option ((Int32 × Int32) ⊕ (Int32 × Int32)) := if (4 : Int32) ≤ s15.2 then some (.inr (s15.1, s15.2)) else lt (fX7_ofGate s15.2 ((4 : Int32))) (fun r17 => if r17 < 0 ∨ 131 ≤ r17.toNatClampNeg then none else if V 1 r17.toNatClampNeg = a1 then some (.inl (((299 : Int32)) + (((100 : Int32)) * s15.2), s15.2 + 1)) else some (.inl (s15.1, s15.2 + 1)))
def qX7_whereIs (V : Mem) (a1 : Int32) : Option (Int32) := (it (lbX7_whereIs_4 V a1) fuel ((0 : Int32), (0 : Int32))).bind (fun s6 => (it (lbX7_whereIs_43 V a1) fuel (s6.1, (0 : Int32))).bind (fun s13 => (it (lbX7_whereIs_85 V a1) fuel (s13.1, (0 : Int32))).bind (fun s20 => some (s20.1))))
abbrev rmX7_whereIs : Room := { frames := 1, cells := 0, slots := 0, locals := 21 }
set_option maxHeartbeats 4000000 in
set_option maxRecDepth 100000 in
theorem mX7_whereIs (l : Launch) (X : kX) (b : Nat) (V : Mem) (a1 : Int32) (out : Int32) (hE : qX7_whereIs V a1 = some out) : MR l yX7_whereIs wsX7_whereIs rmX7_whereIs X [.ref b, .int a1] (RP X LM b V) (some (.int out)) := by
  refine mt_head (cc := cX7_whereIs) (maxL := 4) (ret := (some .int)) (own := RX7) (by decide) rfl rfl (Nat.le_of_ble_eq_true rfl) ?_
  intro p e s m below meth c ls F hr hlocks hnm hR hl
  have hx := F.1.1
  have hb := F.1.2.1
  have hl : lv_has ls 4 [(0, .ref b), (1, .int a1)] := hl
  unfold qX7_whereIs at hE
  refine lv_iconst (v := 0) hx hb dX7_whereIs_0 (by decide) ?_
  refine lv_istore_n (lv' := [(2, .int ((0 : Int32))), (0, .ref b), (1, .int a1)]) hx hb dX7_whereIs_1 rfl hl (by decide) rfl (fun ls hl => ?_)
  refine lv_iconst (v := 0) hx hb dX7_whereIs_2 (by decide) ?_
  refine lv_istore_n (lv' := [(3, .int ((0 : Int32))), (2, .int ((0 : Int32))), (0, .ref b), (1, .int a1)]) hx hb dX7_whereIs_3 rfl hl (by decide) rfl (fun ls hl => ?_)
  obtain ⟨x7, hx7, hE⟩ := bd_el hE
  refine it_walk2 (body := lbX7_whereIs_4 V a1) (Wh := fun s1 => ∀ (ls : Array Slot), lv_has ls 4 [(3, .int s1.2), (2, .int s1.1), (0, .ref b), (1, .int a1)] → W p l e rmX7_whereIs s m ([.ref b, .int a1] : List Value).toArray below meth c s.heap [] 0 0 (MQ below (cQr (some (.int out))) ([.ref b, .int a1] : List Value).toArray s 0 0 (fun _ => False)) (F0 m 4 ls [])) (We := fun s6 => ∀ (ls : Array Slot), lv_has ls 4 [(3, .int s6.2), (2, .int s6.1), (0, .ref b), (1, .int a1)] → W p l e rmX7_whereIs s m ([.ref b, .int a1] : List Value).toArray below meth c s.heap [] 0 0 (MQ below (cQr (some (.int out))) ([.ref b, .int a1] : List Value).toArray s 0 0 (fun _ => False)) (F0 m 41 ls [])) ?_ _ _ _ hx7 ?_ ls (lv_sub hl [0, 1, 2, 3] rfl)
  · intro s1 r9 hE hL9 hR9 ls hl
    unfold lbX7_whereIs_4 at hE
    refine lv_iload_n hx hb dX7_whereIs_4 rfl (lv_at hl 0 rfl) ?_
    refine lv_aload_n hx hb dX7_whereIs_5 rfl (lv_at hl 2 rfl) ?_
    refine rg_getr F hR 0 (ci := 7) rfl (C := RX7) (T := TX7) (N := 8) rfl iwX7_whereIs_X7 0 (d := 1) (n := 1) rfl rfl (by decide) rfl lkX7_whereIs_0 rfl dX7_whereIs_6 ?_
    refine lv_bipush (v := 45) hx hb dX7_whereIs_9 (by decide) ?_
    refine rg_iald F hR 1 rfl (i := 45) (by decide) rfl dX7_whereIs_11 ?_
    refine lv_icmp_ge (tgt := 41) hx hb dX7_whereIs_12 (by decide) (fun c2 => ?_) (fun c2 => ?_)
    · have hE := (if_pos c2).symm.trans hE
      cases hE
      exact hR9 _ rfl ls (lv_sub hl [0, 1, 2, 3] rfl)
    · have hE := (if_neg c2).symm.trans hE
      refine lv_aload_n hx hb dX7_whereIs_15 rfl (lv_at hl 2 rfl) ?_
      refine rg_getr F hR 0 (ci := 7) rfl (C := RX7) (T := TX7) (N := 8) rfl iwX7_whereIs_X7 0 (d := 1) (n := 1) rfl rfl (by decide) rfl lkX7_whereIs_0 rfl dX7_whereIs_16 ?_
      refine lv_iconst (v := 0) hx hb dX7_whereIs_19 (by decide) ?_
      refine lv_iload_n hx hb dX7_whereIs_20 rfl (lv_at hl 0 rfl) ?_
      obtain ⟨r3, er3, hE⟩ := lt_el hE
      refine rg_callRS (As := [.int ((0 : Int32)), .int s1.2]) (rest := [.ref (b + 1)]) F (mX7_inRow l X ((0 : Int32)) s1.2 r3 er3) (va_cwS 2 F.1.2.2.2.2 gX7_whereIs_X7_inRow rfl rfl rfl hsX7_inRow ⟨Nat.le_of_ble_eq_true rfl, Nat.le_of_ble_eq_true rfl⟩)  trivial rfl hl.1 (Nat.le_of_ble_eq_true rfl) dX7_whereIs_21 ⟨Nat.zero_le _, Nat.zero_le _⟩ rfl ?_
      obtain ⟨g4, hE⟩ := gd_el hE
      refine rg_iald F hR 1 (n := 131) rfl g4 rfl dX7_whereIs_24 ?_
      refine lv_iload_n hx hb dX7_whereIs_25 rfl (lv_at hl 3 rfl) ?_
      refine lv_icmp_ne (tgt := 33) hx hb dX7_whereIs_26 (by decide) (fun c5 => ?_) (fun c5 => ?_)
      · have hE := (if_neg c5).symm.trans hE
        refine lv_iload_n hx hb dX7_whereIs_33 rfl (lv_at hl 1 rfl) ?_
        refine lv_istore_n (lv' := [(2, .int s1.1), (3, .int s1.2), (0, .ref b), (1, .int a1)]) hx hb dX7_whereIs_34 rfl hl (by decide) rfl (fun ls hl => ?_)
        refine lv_iinc (v := s1.2 + 1) (lv' := [(3, .int (s1.2 + 1)), (2, .int s1.1), (0, .ref b), (1, .int a1)]) hx hb dX7_whereIs_35 hl (k := 1) rfl (congrArg (fun q => s1.2 + q) (by decide)) (by decide) rfl (fun ls hl => ?_)
        refine lv_goto (tgt := 4) hx hb dX7_whereIs_38 (by decide) ?_
        cases hE
        exact hL9 _ rfl ls (lv_sub hl [0, 1, 2, 3] rfl)
      · have hE := (if_pos c5).symm.trans hE
        refine lv_iload_n hx hb dX7_whereIs_29 rfl (lv_at hl 0 rfl) ?_
        refine lv_goto (tgt := 34) hx hb dX7_whereIs_30 (by decide) ?_
        refine lv_istore_n (lv' := [(2, .int s1.2), (3, .int s1.2), (0, .ref b), (1, .int a1)]) hx hb dX7_whereIs_34 rfl hl (by decide) rfl (fun ls hl => ?_)
        refine lv_iinc (v := s1.2 + 1) (lv' := [(3, .int (s1.2 + 1)), (2, .int s1.2), (0, .ref b), (1, .int a1)]) hx hb dX7_whereIs_35 hl (k := 1) rfl (congrArg (fun q => s1.2 + q) (by decide)) (by decide) rfl (fun ls hl => ?_)
        refine lv_goto (tgt := 4) hx hb dX7_whereIs_38 (by decide) ?_
        cases hE
        exact hL9 _ rfl ls (lv_sub hl [0, 1, 2, 3] rfl)
  · intro ls hl
    refine lv_iconst (v := 0) hx hb dX7_whereIs_41 (by decide) ?_
    refine lv_istore_n (lv' := [(3, .int ((0 : Int32))), (2, .int x7.1), (0, .ref b), (1, .int a1)]) hx hb dX7_whereIs_42 rfl hl (by decide) rfl (fun ls hl => ?_)
    obtain ⟨x14, hx14, hE⟩ := bd_el hE
    refine it_walk2 (body := lbX7_whereIs_43 V a1) (Wh := fun s8 => ∀ (ls : Array Slot), lv_has ls 4 [(3, .int s8.2), (2, .int s8.1), (0, .ref b), (1, .int a1)] → W p l e rmX7_whereIs s m ([.ref b, .int a1] : List Value).toArray below meth c s.heap [] 0 0 (MQ below (cQr (some (.int out))) ([.ref b, .int a1] : List Value).toArray s 0 0 (fun _ => False)) (F0 m 43 ls [])) (We := fun s13 => ∀ (ls : Array Slot), lv_has ls 4 [(3, .int s13.2), (2, .int s13.1), (0, .ref b), (1, .int a1)] → W p l e rmX7_whereIs s m ([.ref b, .int a1] : List Value).toArray below meth c s.heap [] 0 0 (MQ below (cQr (some (.int out))) ([.ref b, .int a1] : List Value).toArray s 0 0 (fun _ => False)) (F0 m 83 ls [])) ?_ _ _ _ hx14 ?_ ls (lv_sub hl [0, 1, 2, 3] rfl)
    · intro s8 r9 hE hL9 hR9 ls hl
      unfold lbX7_whereIs_43 at hE
      refine lv_iload_n hx hb dX7_whereIs_43 rfl (lv_at hl 0 rfl) ?_
      refine lv_aload_n hx hb dX7_whereIs_44 rfl (lv_at hl 2 rfl) ?_
      refine rg_getr F hR 0 (ci := 7) rfl (C := RX7) (T := TX7) (N := 8) rfl iwX7_whereIs_X7 0 (d := 1) (n := 1) rfl rfl (by decide) rfl lkX7_whereIs_0 rfl dX7_whereIs_45 ?_
      refine lv_bipush (v := 46) hx hb dX7_whereIs_48 (by decide) ?_
      refine rg_iald F hR 1 rfl (i := 46) (by decide) rfl dX7_whereIs_50 ?_
      refine lv_icmp_ge (tgt := 83) hx hb dX7_whereIs_51 (by decide) (fun c9 => ?_) (fun c9 => ?_)
      · have hE := (if_pos c9).symm.trans hE
        cases hE
        exact hR9 _ rfl ls (lv_sub hl [0, 1, 2, 3] rfl)
      · have hE := (if_neg c9).symm.trans hE
        refine lv_aload_n hx hb dX7_whereIs_54 rfl (lv_at hl 2 rfl) ?_
        refine rg_getr F hR 0 (ci := 7) rfl (C := RX7) (T := TX7) (N := 8) rfl iwX7_whereIs_X7 0 (d := 1) (n := 1) rfl rfl (by decide) rfl lkX7_whereIs_0 rfl dX7_whereIs_55 ?_
        refine lv_iconst (v := 1) hx hb dX7_whereIs_58 (by decide) ?_
        refine lv_iload_n hx hb dX7_whereIs_59 rfl (lv_at hl 0 rfl) ?_
        obtain ⟨r10, er10, hE⟩ := lt_el hE
        refine rg_callRS (As := [.int ((1 : Int32)), .int s8.2]) (rest := [.ref (b + 1)]) F (mX7_inRow l X ((1 : Int32)) s8.2 r10 er10) (va_cwS 2 F.1.2.2.2.2 gX7_whereIs_X7_inRow rfl rfl rfl hsX7_inRow ⟨Nat.le_of_ble_eq_true rfl, Nat.le_of_ble_eq_true rfl⟩)  trivial rfl hl.1 (Nat.le_of_ble_eq_true rfl) dX7_whereIs_60 ⟨Nat.zero_le _, Nat.zero_le _⟩ rfl ?_
        obtain ⟨g11, hE⟩ := gd_el hE
        refine rg_iald F hR 1 (n := 131) rfl g11 rfl dX7_whereIs_63 ?_
        refine lv_iload_n hx hb dX7_whereIs_64 rfl (lv_at hl 3 rfl) ?_
        refine lv_icmp_ne (tgt := 75) hx hb dX7_whereIs_65 (by decide) (fun c12 => ?_) (fun c12 => ?_)
        · have hE := (if_neg c12).symm.trans hE
          refine lv_iload_n hx hb dX7_whereIs_75 rfl (lv_at hl 1 rfl) ?_
          refine lv_istore_n (lv' := [(2, .int s8.1), (3, .int s8.2), (0, .ref b), (1, .int a1)]) hx hb dX7_whereIs_76 rfl hl (by decide) rfl (fun ls hl => ?_)
          refine lv_iinc (v := s8.2 + 1) (lv' := [(3, .int (s8.2 + 1)), (2, .int s8.1), (0, .ref b), (1, .int a1)]) hx hb dX7_whereIs_77 hl (k := 1) rfl (congrArg (fun q => s8.2 + q) (by decide)) (by decide) rfl (fun ls hl => ?_)
          refine lv_goto (tgt := 43) hx hb dX7_whereIs_80 (by decide) ?_
          cases hE
          exact hL9 _ rfl ls (lv_sub hl [0, 1, 2, 3] rfl)
        · have hE := (if_pos c12).symm.trans hE
          refine lv_bipush (v := 100) hx hb dX7_whereIs_68 (by decide) ?_
          refine lv_iload_n hx hb dX7_whereIs_70 rfl (lv_at hl 0 rfl) ?_
          refine lv_iadd hx hb dX7_whereIs_71 ?_
          refine lv_goto (tgt := 76) hx hb dX7_whereIs_72 (by decide) ?_
          refine lv_istore_n (lv' := [(2, .int (((100 : Int32)) + s8.2)), (3, .int s8.2), (0, .ref b), (1, .int a1)]) hx hb dX7_whereIs_76 rfl hl (by decide) rfl (fun ls hl => ?_)
          refine lv_iinc (v := s8.2 + 1) (lv' := [(3, .int (s8.2 + 1)), (2, .int (((100 : Int32)) + s8.2)), (0, .ref b), (1, .int a1)]) hx hb dX7_whereIs_77 hl (k := 1) rfl (congrArg (fun q => s8.2 + q) (by decide)) (by decide) rfl (fun ls hl => ?_)
          refine lv_goto (tgt := 43) hx hb dX7_whereIs_80 (by decide) ?_
          cases hE
          exact hL9 _ rfl ls (lv_sub hl [0, 1, 2, 3] rfl)
    · intro ls hl
      refine lv_iconst (v := 0) hx hb dX7_whereIs_83 (by decide) ?_
      refine lv_istore_n (lv' := [(3, .int ((0 : Int32))), (2, .int x14.1), (0, .ref b), (1, .int a1)]) hx hb dX7_whereIs_84 rfl hl (by decide) rfl (fun ls hl => ?_)
      obtain ⟨x21, hx21, hE⟩ := bd_el hE
      refine it_walk2 (body := lbX7_whereIs_85 V a1) (Wh := fun s15 => ∀ (ls : Array Slot), lv_has ls 4 [(3, .int s15.2), (2, .int s15.1), (0, .ref b), (1, .int a1)] → W p l e rmX7_whereIs s m ([.ref b, .int a1] : List Value).toArray below meth c s.heap [] 0 0 (MQ below (cQr (some (.int out))) ([.ref b, .int a1] : List Value).toArray s 0 0 (fun _ => False)) (F0 m 85 ls [])) (We := fun s20 => ∀ (ls : Array Slot), lv_has ls 4 [(3, .int s20.2), (2, .int s20.1), (0, .ref b), (1, .int a1)] → W p l e rmX7_whereIs s m ([.ref b, .int a1] : List Value).toArray below meth c s.heap [] 0 0 (MQ below (cQr (some (.int out))) ([.ref b, .int a1] : List Value).toArray s 0 0 (fun _ => False)) (F0 m 123 ls [])) ?_ _ _ _ hx21 ?_ ls (lv_sub hl [0, 1, 2, 3] rfl)
      · intro s15 r9 hE hL9 hR9 ls hl
        unfold lbX7_whereIs_85 at hE
        refine lv_iload_n hx hb dX7_whereIs_85 rfl (lv_at hl 0 rfl) ?_
        refine lv_iconst (v := 4) hx hb dX7_whereIs_86 (by decide) ?_
        refine lv_icmp_ge (tgt := 123) hx hb dX7_whereIs_87 (by decide) (fun c16 => ?_) (fun c16 => ?_)
        · have hE := (if_pos c16).symm.trans hE
          cases hE
          exact hR9 _ rfl ls (lv_sub hl [0, 1, 2, 3] rfl)
        · have hE := (if_neg c16).symm.trans hE
          refine lv_aload_n hx hb dX7_whereIs_90 rfl (lv_at hl 2 rfl) ?_
          refine rg_getr F hR 0 (ci := 7) rfl (C := RX7) (T := TX7) (N := 8) rfl iwX7_whereIs_X7 0 (d := 1) (n := 1) rfl rfl (by decide) rfl lkX7_whereIs_0 rfl dX7_whereIs_91 ?_
          refine lv_iload_n hx hb dX7_whereIs_94 rfl (lv_at hl 0 rfl) ?_
          refine lv_iconst (v := 4) hx hb dX7_whereIs_95 (by decide) ?_
          obtain ⟨r17, er17, hE⟩ := lt_el hE
          refine rg_callRS (As := [.int s15.2, .int ((4 : Int32))]) (rest := [.ref (b + 1)]) F (mX7_ofGate l X s15.2 ((4 : Int32)) r17 er17) (va_cwS 2 F.1.2.2.2.2 gX7_whereIs_X7_ofGate rfl rfl rfl hsX7_ofGate ⟨Nat.le_of_ble_eq_true rfl, Nat.le_of_ble_eq_true rfl⟩)  trivial rfl hl.1 (Nat.le_of_ble_eq_true rfl) dX7_whereIs_96 ⟨Nat.zero_le _, Nat.zero_le _⟩ rfl ?_
          obtain ⟨g18, hE⟩ := gd_el hE
          refine rg_iald F hR 1 (n := 131) rfl g18 rfl dX7_whereIs_99 ?_
          refine lv_iload_n hx hb dX7_whereIs_100 rfl (lv_at hl 3 rfl) ?_
          refine lv_icmp_ne (tgt := 115) hx hb dX7_whereIs_101 (by decide) (fun c19 => ?_) (fun c19 => ?_)
          · have hE := (if_neg c19).symm.trans hE
            refine lv_iload_n hx hb dX7_whereIs_115 rfl (lv_at hl 1 rfl) ?_
            refine lv_istore_n (lv' := [(2, .int s15.1), (3, .int s15.2), (0, .ref b), (1, .int a1)]) hx hb dX7_whereIs_116 rfl hl (by decide) rfl (fun ls hl => ?_)
            refine lv_iinc (v := s15.2 + 1) (lv' := [(3, .int (s15.2 + 1)), (2, .int s15.1), (0, .ref b), (1, .int a1)]) hx hb dX7_whereIs_117 hl (k := 1) rfl (congrArg (fun q => s15.2 + q) (by decide)) (by decide) rfl (fun ls hl => ?_)
            refine lv_goto (tgt := 85) hx hb dX7_whereIs_120 (by decide) ?_
            cases hE
            exact hL9 _ rfl ls (lv_sub hl [0, 1, 2, 3] rfl)
          · have hE := (if_pos c19).symm.trans hE
            refine lv_sipush (v := 299) hx hb dX7_whereIs_104 (by decide) ?_
            refine lv_bipush (v := 100) hx hb dX7_whereIs_107 (by decide) ?_
            refine lv_iload_n hx hb dX7_whereIs_109 rfl (lv_at hl 0 rfl) ?_
            refine lv_imul hx hb dX7_whereIs_110 ?_
            refine lv_iadd hx hb dX7_whereIs_111 ?_
            refine lv_goto (tgt := 116) hx hb dX7_whereIs_112 (by decide) ?_
            refine lv_istore_n (lv' := [(2, .int (((299 : Int32)) + (((100 : Int32)) * s15.2))), (3, .int s15.2), (0, .ref b), (1, .int a1)]) hx hb dX7_whereIs_116 rfl hl (by decide) rfl (fun ls hl => ?_)
            refine lv_iinc (v := s15.2 + 1) (lv' := [(3, .int (s15.2 + 1)), (2, .int (((299 : Int32)) + (((100 : Int32)) * s15.2))), (0, .ref b), (1, .int a1)]) hx hb dX7_whereIs_117 hl (k := 1) rfl (congrArg (fun q => s15.2 + q) (by decide)) (by decide) rfl (fun ls hl => ?_)
            refine lv_goto (tgt := 85) hx hb dX7_whereIs_120 (by decide) ?_
            cases hE
            exact hL9 _ rfl ls (lv_sub hl [0, 1, 2, 3] rfl)
      · intro ls hl
        refine lv_iload_n hx hb dX7_whereIs_123 rfl (lv_at hl 1 rfl) ?_
        have hE := Option.some.inj hE
        subst hE
        exact W.iret (v := x21.1) hx hb hr (fun t ht _ => ⟨rfl, ht⟩) (fun _ h => absurd h List.not_mem_nil) dX7_whereIs_124
theorem hvX7_isWord : yX7_isWord.cls = RX7 ∧ yX7_isWord.cls ≠ "java/lang/invoke/MethodHandle" ∧ yX7_isWord.cls ≠ "java/lang/invoke/VarHandle" ∧ (parseMethodDescriptor yX7_isWord.desc).map (fun d => d.parameters.length) = some 1 := by decide +kernel
theorem hvX7_whereIs : yX7_whereIs.cls = RX7 ∧ yX7_whereIs.cls ≠ "java/lang/invoke/MethodHandle" ∧ yX7_whereIs.cls ≠ "java/lang/invoke/VarHandle" ∧ (parseMethodDescriptor yX7_whereIs.desc).map (fun d => d.parameters.length) = some 1 := by decide +kernel
set_option maxRecDepth 20000 in
theorem lkX7_word_0 : Cond.fieldLink RX7 7 "TideWordsModel" "s" "[I" ∈ wsX7_word := by decide +kernel
set_option maxRecDepth 20000 in
theorem iwX7_word_X7 : ∀ w ∈ wsX70, w ∈ wsX7_word := by decide +kernel
theorem hvX7_letterOf : yX7_letterOf.cls = RX7 ∧ yX7_letterOf.cls ≠ "java/lang/invoke/MethodHandle" ∧ yX7_letterOf.cls ≠ "java/lang/invoke/VarHandle" ∧ (parseMethodDescriptor yX7_letterOf.desc).map (fun d => d.parameters.length) = some 2 := by decide +kernel
def qX7_word (V : Mem) (a1 : Int32) (a2 : Int32) : Option (Int32) := lt (fX7_isWord V a1) (fun r1 => if r1 = 0 then some ((-1001 : Int32)) else if a2 = 0 then (qX7_whereIs V a1).bind (fun r4 => some (r4 / ((100 : Int32)))) else if a2 = 1 then (qX7_whereIs V a1).bind (fun r6 => if r6 - r6 / ((100 : Int32)) * ((100 : Int32)) = (99 : Int32) then some ((-1006 : Int32)) else (qX7_whereIs V a1).bind (fun r8 => some (r8 - r8 / ((100 : Int32)) * ((100 : Int32))))) else if a2 = 2 then (qX7_lettersOf V a1).bind (fun r10 => some (r10)) else if a2 = 3 then lt (fX7_ofWord a1 (a2 - ((2 : Int32)))) (fun r12 => if r12 < 0 ∨ 131 ≤ r12.toNatClampNeg then none else some (V 1 r12.toNatClampNeg)) else if a2 = 4 then lt (fX7_ofWord a1 (a2 - ((2 : Int32)))) (fun r15 => if r15 < 0 ∨ 131 ≤ r15.toNatClampNeg then none else some (V 1 r15.toNatClampNeg)) else if a2 = 5 then lt (fX7_ofWord a1 (a2 - ((2 : Int32)))) (fun r18 => if r18 < 0 ∨ 131 ≤ r18.toNatClampNeg then none else some (V 1 r18.toNatClampNeg)) else if a2 = 6 then lt (fX7_ofWord a1 (a2 - ((2 : Int32)))) (fun r21 => if r21 < 0 ∨ 131 ≤ r21.toNatClampNeg then none else some (V 1 r21.toNatClampNeg)) else if (0 : Int32) ≤ a2 then (qX7_letterOf V a1 (a2 - ((7 : Int32)))).bind (fun r24 => some (r24)) else some ((-1002 : Int32)))
abbrev rmX7_word : Room := { frames := 3, cells := 0, slots := 0, locals := 68 }
set_option maxHeartbeats 4000000 in
set_option maxRecDepth 100000 in
theorem mX7_word (l : Launch) (X : kX) (b : Nat) (V : Mem) (a1 : Int32) (a2 : Int32) (out : Int32) (hE : qX7_word V a1 a2 = some out) : MR l yX7_word wsX7_word rmX7_word X [.ref b, .int a1, .int a2] (RP X LM b V) (some (.int out)) := by
  refine mt_head (cc := cX7_word) (maxL := 3) (ret := (some .int)) (own := RX7) (by decide) rfl rfl (Nat.le_of_ble_eq_true rfl) ?_
  intro p e s m below meth c ls F hr hlocks hnm hR hl
  have hx := F.1.1
  have hb := F.1.2.1
  have hl : lv_has ls 3 [(0, .ref b), (1, .int a1), (2, .int a2)] := hl
  unfold qX7_word at hE
  refine lv_aload_n hx hb dX7_word_0 rfl (lv_at hl 0 rfl) ?_
  refine lv_iload_n hx hb dX7_word_1 rfl (lv_at hl 1 rfl) ?_
  obtain ⟨r1, er1, hE⟩ := lt_el hE
  refine rg_callRV (As := [.int a1]) (rest := []) F (mX7_isWord l X b V a1 r1 er1) (cwV 1 F.1.2.2.2.2 gX7_word_X7_isWord rfl rfl rfl hvX7_isWord ⟨Nat.le_of_ble_eq_true rfl, Nat.le_of_ble_eq_true rfl⟩) (rp_recv F hR 0 rfl (C := RX7) (T := TX7) (N := 8) rfl rfl) hR rfl hl.1 (Nat.le_of_ble_eq_true rfl) dX7_word_2 ⟨Nat.zero_le _, Nat.zero_le _⟩ rfl ?_
  refine lv_if_ne (tgt := 12) hx hb dX7_word_5 (by decide) (fun c2 => ?_) (fun c2 => ?_)
  · have hE := (if_neg c2).symm.trans hE
    refine lv_iload_n hx hb dX7_word_12 rfl (lv_at hl 2 rfl) ?_
    by_cases c3 : a2 = 0
    · have hE := (if_pos c3).symm.trans hE
      refine lv_tableIn (off := 43) (tgt := 56) hx hb dX7_word_13 (by rw [c3]; decide) (by rw [c3]; decide) (by rw [c3]; rfl) (by decide) ?_
      refine lv_aload_n hx hb dX7_word_56 rfl (lv_at hl 0 rfl) ?_
      refine lv_iload_n hx hb dX7_word_57 rfl (lv_at hl 1 rfl) ?_
      obtain ⟨r4, er4, hE⟩ := bd_el hE
      refine rg_callRV (As := [.int a1]) (rest := []) F (mX7_whereIs l X b V a1 r4 er4) (cwV 1 F.1.2.2.2.2 gX7_word_X7_whereIs rfl rfl rfl hvX7_whereIs ⟨Nat.le_of_ble_eq_true rfl, Nat.le_of_ble_eq_true rfl⟩) (rp_recv F hR 0 rfl (C := RX7) (T := TX7) (N := 8) rfl rfl) hR rfl hl.1 (Nat.le_of_ble_eq_true rfl) dX7_word_58 ⟨Nat.zero_le _, Nat.zero_le _⟩ rfl ?_
      refine lv_bipush (v := 100) hx hb dX7_word_61 (by decide) ?_
      refine lv_idiv hx hb dX7_word_63 (by decide) ?_
      have hE := Option.some.inj hE
      subst hE
      exact W.iret (v := r4 / ((100 : Int32))) hx hb hr (fun t ht _ => ⟨rfl, ht⟩) (fun _ h => absurd h List.not_mem_nil) dX7_word_64
    · have hE := (if_neg c3).symm.trans hE
      by_cases c5 : a2 = 1
      · have hE := (if_pos c5).symm.trans hE
        refine lv_tableIn (off := 52) (tgt := 65) hx hb dX7_word_13 (by rw [c5]; decide) (by rw [c5]; decide) (by rw [c5]; rfl) (by decide) ?_
        refine lv_aload_n hx hb dX7_word_65 rfl (lv_at hl 0 rfl) ?_
        refine lv_iload_n hx hb dX7_word_66 rfl (lv_at hl 1 rfl) ?_
        obtain ⟨r6, er6, hE⟩ := bd_el hE
        refine rg_callRV (As := [.int a1]) (rest := []) F (mX7_whereIs l X b V a1 r6 er6) (cwV 1 F.1.2.2.2.2 gX7_word_X7_whereIs rfl rfl rfl hvX7_whereIs ⟨Nat.le_of_ble_eq_true rfl, Nat.le_of_ble_eq_true rfl⟩) (rp_recv F hR 0 rfl (C := RX7) (T := TX7) (N := 8) rfl rfl) hR rfl hl.1 (Nat.le_of_ble_eq_true rfl) dX7_word_67 ⟨Nat.zero_le _, Nat.zero_le _⟩ rfl ?_
        refine lv_bipush (v := 100) hx hb dX7_word_70 (by decide) ?_
        refine lv_irem hx hb dX7_word_72 (by decide) ?_
        refine lv_bipush (v := 99) hx hb dX7_word_73 (by decide) ?_
        refine lv_icmp_ne (tgt := 84) hx hb dX7_word_75 (by decide) (fun c7 => ?_) (fun c7 => ?_)
        · have hE := (if_neg c7).symm.trans hE
          refine lv_aload_n hx hb dX7_word_84 rfl (lv_at hl 0 rfl) ?_
          refine lv_iload_n hx hb dX7_word_85 rfl (lv_at hl 1 rfl) ?_
          obtain ⟨r8, er8, hE⟩ := bd_el hE
          refine rg_callRV (As := [.int a1]) (rest := []) F (mX7_whereIs l X b V a1 r8 er8) (cwV 1 F.1.2.2.2.2 gX7_word_X7_whereIs rfl rfl rfl hvX7_whereIs ⟨Nat.le_of_ble_eq_true rfl, Nat.le_of_ble_eq_true rfl⟩) (rp_recv F hR 0 rfl (C := RX7) (T := TX7) (N := 8) rfl rfl) hR rfl hl.1 (Nat.le_of_ble_eq_true rfl) dX7_word_86 ⟨Nat.zero_le _, Nat.zero_le _⟩ rfl ?_
          refine lv_bipush (v := 100) hx hb dX7_word_89 (by decide) ?_
          refine lv_irem hx hb dX7_word_91 (by decide) ?_
          have hE := Option.some.inj hE
          subst hE
          exact W.iret (v := r8 - r8 / ((100 : Int32)) * ((100 : Int32))) hx hb hr (fun t ht _ => ⟨rfl, ht⟩) (fun _ h => absurd h List.not_mem_nil) dX7_word_92
        · have hE := (if_pos c7).symm.trans hE
          refine lv_sipush (v := (-1006)) hx hb dX7_word_78 (by decide) ?_
          refine lv_goto (tgt := 92) hx hb dX7_word_81 (by decide) ?_
          have hE := Option.some.inj hE
          subst hE
          exact W.iret (v := (-1006 : Int32)) hx hb hr (fun t ht _ => ⟨rfl, ht⟩) (fun _ h => absurd h List.not_mem_nil) dX7_word_92
      · have hE := (if_neg c5).symm.trans hE
        by_cases c9 : a2 = 2
        · have hE := (if_pos c9).symm.trans hE
          refine lv_tableIn (off := 80) (tgt := 93) hx hb dX7_word_13 (by rw [c9]; decide) (by rw [c9]; decide) (by rw [c9]; rfl) (by decide) ?_
          refine lv_aload_n hx hb dX7_word_93 rfl (lv_at hl 0 rfl) ?_
          refine lv_iload_n hx hb dX7_word_94 rfl (lv_at hl 1 rfl) ?_
          obtain ⟨r10, er10, hE⟩ := bd_el hE
          refine rg_callRV (As := [.int a1]) (rest := []) F (mX7_lettersOf l X b V a1 r10 er10) (cwV 1 F.1.2.2.2.2 gX7_word_X7_lettersOf rfl rfl rfl hvX7_lettersOf ⟨Nat.le_of_ble_eq_true rfl, Nat.le_of_ble_eq_true rfl⟩) (rp_recv F hR 0 rfl (C := RX7) (T := TX7) (N := 8) rfl rfl) hR rfl hl.1 (Nat.le_of_ble_eq_true rfl) dX7_word_95 ⟨Nat.zero_le _, Nat.zero_le _⟩ rfl ?_
          have hE := Option.some.inj hE
          subst hE
          exact W.iret (v := r10) hx hb hr (fun t ht _ => ⟨rfl, ht⟩) (fun _ h => absurd h List.not_mem_nil) dX7_word_98
        · have hE := (if_neg c9).symm.trans hE
          by_cases c11 : a2 = 3
          · have hE := (if_pos c11).symm.trans hE
            refine lv_tableIn (off := 86) (tgt := 99) hx hb dX7_word_13 (by rw [c11]; decide) (by rw [c11]; decide) (by rw [c11]; rfl) (by decide) ?_
            refine lv_aload_n hx hb dX7_word_99 rfl (lv_at hl 0 rfl) ?_
            refine rg_getr F hR 0 (ci := 7) rfl (C := RX7) (T := TX7) (N := 8) rfl iwX7_word_X7 0 (d := 1) (n := 1) rfl rfl (by decide) rfl lkX7_word_0 rfl dX7_word_100 ?_
            refine lv_iload_n hx hb dX7_word_103 rfl (lv_at hl 1 rfl) ?_
            refine lv_iload_n hx hb dX7_word_104 rfl (lv_at hl 2 rfl) ?_
            refine lv_iconst (v := 2) hx hb dX7_word_105 (by decide) ?_
            refine lv_isub hx hb dX7_word_106 ?_
            obtain ⟨r12, er12, hE⟩ := lt_el hE
            refine rg_callRS (As := [.int a1, .int (a2 - ((2 : Int32)))]) (rest := [.ref (b + 1)]) F (mX7_ofWord l X a1 (a2 - ((2 : Int32))) r12 er12) (va_cwS 2 F.1.2.2.2.2 gX7_word_X7_ofWord rfl rfl rfl hsX7_ofWord ⟨Nat.le_of_ble_eq_true rfl, Nat.le_of_ble_eq_true rfl⟩)  trivial rfl hl.1 (Nat.le_of_ble_eq_true rfl) dX7_word_107 ⟨Nat.zero_le _, Nat.zero_le _⟩ rfl ?_
            obtain ⟨g13, hE⟩ := gd_el hE
            refine rg_iald F hR 1 (n := 131) rfl g13 rfl dX7_word_110 ?_
            have hE := Option.some.inj hE
            subst hE
            exact W.iret (v := V 1 r12.toNatClampNeg) hx hb hr (fun t ht _ => ⟨rfl, ht⟩) (fun _ h => absurd h List.not_mem_nil) dX7_word_111
          · have hE := (if_neg c11).symm.trans hE
            by_cases c14 : a2 = 4
            · have hE := (if_pos c14).symm.trans hE
              refine lv_tableIn (off := 86) (tgt := 99) hx hb dX7_word_13 (by rw [c14]; decide) (by rw [c14]; decide) (by rw [c14]; rfl) (by decide) ?_
              refine lv_aload_n hx hb dX7_word_99 rfl (lv_at hl 0 rfl) ?_
              refine rg_getr F hR 0 (ci := 7) rfl (C := RX7) (T := TX7) (N := 8) rfl iwX7_word_X7 0 (d := 1) (n := 1) rfl rfl (by decide) rfl lkX7_word_0 rfl dX7_word_100 ?_
              refine lv_iload_n hx hb dX7_word_103 rfl (lv_at hl 1 rfl) ?_
              refine lv_iload_n hx hb dX7_word_104 rfl (lv_at hl 2 rfl) ?_
              refine lv_iconst (v := 2) hx hb dX7_word_105 (by decide) ?_
              refine lv_isub hx hb dX7_word_106 ?_
              obtain ⟨r15, er15, hE⟩ := lt_el hE
              refine rg_callRS (As := [.int a1, .int (a2 - ((2 : Int32)))]) (rest := [.ref (b + 1)]) F (mX7_ofWord l X a1 (a2 - ((2 : Int32))) r15 er15) (va_cwS 2 F.1.2.2.2.2 gX7_word_X7_ofWord rfl rfl rfl hsX7_ofWord ⟨Nat.le_of_ble_eq_true rfl, Nat.le_of_ble_eq_true rfl⟩)  trivial rfl hl.1 (Nat.le_of_ble_eq_true rfl) dX7_word_107 ⟨Nat.zero_le _, Nat.zero_le _⟩ rfl ?_
              obtain ⟨g16, hE⟩ := gd_el hE
              refine rg_iald F hR 1 (n := 131) rfl g16 rfl dX7_word_110 ?_
              have hE := Option.some.inj hE
              subst hE
              exact W.iret (v := V 1 r15.toNatClampNeg) hx hb hr (fun t ht _ => ⟨rfl, ht⟩) (fun _ h => absurd h List.not_mem_nil) dX7_word_111
            · have hE := (if_neg c14).symm.trans hE
              by_cases c17 : a2 = 5
              · have hE := (if_pos c17).symm.trans hE
                refine lv_tableIn (off := 86) (tgt := 99) hx hb dX7_word_13 (by rw [c17]; decide) (by rw [c17]; decide) (by rw [c17]; rfl) (by decide) ?_
                refine lv_aload_n hx hb dX7_word_99 rfl (lv_at hl 0 rfl) ?_
                refine rg_getr F hR 0 (ci := 7) rfl (C := RX7) (T := TX7) (N := 8) rfl iwX7_word_X7 0 (d := 1) (n := 1) rfl rfl (by decide) rfl lkX7_word_0 rfl dX7_word_100 ?_
                refine lv_iload_n hx hb dX7_word_103 rfl (lv_at hl 1 rfl) ?_
                refine lv_iload_n hx hb dX7_word_104 rfl (lv_at hl 2 rfl) ?_
                refine lv_iconst (v := 2) hx hb dX7_word_105 (by decide) ?_
                refine lv_isub hx hb dX7_word_106 ?_
                obtain ⟨r18, er18, hE⟩ := lt_el hE
                refine rg_callRS (As := [.int a1, .int (a2 - ((2 : Int32)))]) (rest := [.ref (b + 1)]) F (mX7_ofWord l X a1 (a2 - ((2 : Int32))) r18 er18) (va_cwS 2 F.1.2.2.2.2 gX7_word_X7_ofWord rfl rfl rfl hsX7_ofWord ⟨Nat.le_of_ble_eq_true rfl, Nat.le_of_ble_eq_true rfl⟩)  trivial rfl hl.1 (Nat.le_of_ble_eq_true rfl) dX7_word_107 ⟨Nat.zero_le _, Nat.zero_le _⟩ rfl ?_
                obtain ⟨g19, hE⟩ := gd_el hE
                refine rg_iald F hR 1 (n := 131) rfl g19 rfl dX7_word_110 ?_
                have hE := Option.some.inj hE
                subst hE
                exact W.iret (v := V 1 r18.toNatClampNeg) hx hb hr (fun t ht _ => ⟨rfl, ht⟩) (fun _ h => absurd h List.not_mem_nil) dX7_word_111
              · have hE := (if_neg c17).symm.trans hE
                by_cases c20 : a2 = 6
                · have hE := (if_pos c20).symm.trans hE
                  refine lv_tableIn (off := 86) (tgt := 99) hx hb dX7_word_13 (by rw [c20]; decide) (by rw [c20]; decide) (by rw [c20]; rfl) (by decide) ?_
                  refine lv_aload_n hx hb dX7_word_99 rfl (lv_at hl 0 rfl) ?_
                  refine rg_getr F hR 0 (ci := 7) rfl (C := RX7) (T := TX7) (N := 8) rfl iwX7_word_X7 0 (d := 1) (n := 1) rfl rfl (by decide) rfl lkX7_word_0 rfl dX7_word_100 ?_
                  refine lv_iload_n hx hb dX7_word_103 rfl (lv_at hl 1 rfl) ?_
                  refine lv_iload_n hx hb dX7_word_104 rfl (lv_at hl 2 rfl) ?_
                  refine lv_iconst (v := 2) hx hb dX7_word_105 (by decide) ?_
                  refine lv_isub hx hb dX7_word_106 ?_
                  obtain ⟨r21, er21, hE⟩ := lt_el hE
                  refine rg_callRS (As := [.int a1, .int (a2 - ((2 : Int32)))]) (rest := [.ref (b + 1)]) F (mX7_ofWord l X a1 (a2 - ((2 : Int32))) r21 er21) (va_cwS 2 F.1.2.2.2.2 gX7_word_X7_ofWord rfl rfl rfl hsX7_ofWord ⟨Nat.le_of_ble_eq_true rfl, Nat.le_of_ble_eq_true rfl⟩)  trivial rfl hl.1 (Nat.le_of_ble_eq_true rfl) dX7_word_107 ⟨Nat.zero_le _, Nat.zero_le _⟩ rfl ?_
                  obtain ⟨g22, hE⟩ := gd_el hE
                  refine rg_iald F hR 1 (n := 131) rfl g22 rfl dX7_word_110 ?_
                  have hE := Option.some.inj hE
                  subst hE
                  exact W.iret (v := V 1 r21.toNatClampNeg) hx hb hr (fun t ht _ => ⟨rfl, ht⟩) (fun _ h => absurd h List.not_mem_nil) dX7_word_111
                · have hE := (if_neg c20).symm.trans hE
                  refine lv_tableOut (tgt := 112) hx hb dX7_word_13 (ts_out7 c3 c5 c9 c11 c14 c17 c20) (by decide) ?_
                  refine lv_iload_n hx hb dX7_word_112 rfl (lv_at hl 2 rfl) ?_
                  refine lv_if_ge (tgt := 122) hx hb dX7_word_113 (by decide) (fun c23 => ?_) (fun c23 => ?_)
                  · have hE := (if_pos c23).symm.trans hE
                    refine lv_aload_n hx hb dX7_word_122 rfl (lv_at hl 0 rfl) ?_
                    refine lv_iload_n hx hb dX7_word_123 rfl (lv_at hl 1 rfl) ?_
                    refine lv_iload_n hx hb dX7_word_124 rfl (lv_at hl 2 rfl) ?_
                    refine lv_bipush (v := 7) hx hb dX7_word_125 (by decide) ?_
                    refine lv_isub hx hb dX7_word_127 ?_
                    obtain ⟨r24, er24, hE⟩ := bd_el hE
                    refine rg_callRV (As := [.int a1, .int (a2 - ((7 : Int32)))]) (rest := []) F (mX7_letterOf l X b V a1 (a2 - ((7 : Int32))) r24 er24) (cwV 2 F.1.2.2.2.2 gX7_word_X7_letterOf rfl rfl rfl hvX7_letterOf ⟨Nat.le_of_ble_eq_true rfl, Nat.le_of_ble_eq_true rfl⟩) (rp_recv F hR 0 rfl (C := RX7) (T := TX7) (N := 8) rfl rfl) hR rfl hl.1 (Nat.le_of_ble_eq_true rfl) dX7_word_128 ⟨Nat.zero_le _, Nat.zero_le _⟩ rfl ?_
                    have hE := Option.some.inj hE
                    subst hE
                    exact W.iret (v := r24) hx hb hr (fun t ht _ => ⟨rfl, ht⟩) (fun _ h => absurd h List.not_mem_nil) dX7_word_131
                  · have hE := (if_neg c23).symm.trans hE
                    refine lv_sipush (v := (-1002)) hx hb dX7_word_116 (by decide) ?_
                    refine lv_goto (tgt := 131) hx hb dX7_word_119 (by decide) ?_
                    have hE := Option.some.inj hE
                    subst hE
                    exact W.iret (v := (-1002 : Int32)) hx hb hr (fun t ht _ => ⟨rfl, ht⟩) (fun _ h => absurd h List.not_mem_nil) dX7_word_131
  · have hE := (if_pos c2).symm.trans hE
    refine lv_sipush (v := (-1001)) hx hb dX7_word_8 (by decide) ?_
    have hE := Option.some.inj hE
    subst hE
    exact W.iret (v := (-1001 : Int32)) hx hb hr (fun t ht _ => ⟨rfl, ht⟩) (fun _ h => absurd h List.not_mem_nil) dX7_word_11
set_option maxRecDepth 20000 in
theorem lkX7_at_0 : Cond.fieldLink RX7 7 "TideWordsModel" "s" "[I" ∈ wsX7_at := by decide +kernel
set_option maxRecDepth 20000 in
theorem iwX7_at_X7 : ∀ w ∈ wsX70, w ∈ wsX7_at := by decide +kernel
def qX7_at (V : Mem) (a1 : Int32) (a2 : Int32) : Option (Int32) := lt (fX7_isStore a1) (fun r1 => if r1 = 0 then some ((-1001 : Int32)) else if ((45 : Int32)) + a1 < 0 ∨ 131 ≤ (((45 : Int32)) + a1).toNatClampNeg then none else lt (fX7_in a2 ((0 : Int32)) ((V 1 (((45 : Int32)) + a1).toNatClampNeg) - ((1 : Int32)))) (fun r4 => if r4 = 0 then some ((-1001 : Int32)) else lt (fX7_inRow a1 a2) (fun r6 => if r6 < 0 ∨ 131 ≤ r6.toNatClampNeg then none else some (V 1 r6.toNatClampNeg))))
abbrev rmX7_at : Room := { frames := 2, cells := 0, slots := 0, locals := 42 }
set_option maxHeartbeats 4000000 in
set_option maxRecDepth 100000 in
theorem mX7_at (l : Launch) (X : kX) (b : Nat) (V : Mem) (a1 : Int32) (a2 : Int32) (out : Int32) (hE : qX7_at V a1 a2 = some out) : MR l yX7_at wsX7_at rmX7_at X [.ref b, .int a1, .int a2] (RP X LM b V) (some (.int out)) := by
  refine mt_head (cc := cX7_at) (maxL := 3) (ret := (some .int)) (own := RX7) (by decide) rfl rfl (Nat.le_of_ble_eq_true rfl) ?_
  intro p e s m below meth c ls F hr hlocks hnm hR hl
  have hx := F.1.1
  have hb := F.1.2.1
  have hl : lv_has ls 3 [(0, .ref b), (1, .int a1), (2, .int a2)] := hl
  unfold qX7_at at hE
  refine lv_iload_n hx hb dX7_at_0 rfl (lv_at hl 1 rfl) ?_
  obtain ⟨r1, er1, hE⟩ := lt_el hE
  refine rg_callRS (As := [.int a1]) (rest := []) F (mX7_isStore l X a1 r1 er1) (va_cwS 1 F.1.2.2.2.2 gX7_at_X7_isStore rfl rfl rfl hsX7_isStore ⟨Nat.le_of_ble_eq_true rfl, Nat.le_of_ble_eq_true rfl⟩)  trivial rfl hl.1 (Nat.le_of_ble_eq_true rfl) dX7_at_1 ⟨Nat.zero_le _, Nat.zero_le _⟩ rfl ?_
  refine lv_if_eq (tgt := 39) hx hb dX7_at_4 (by decide) (fun c2 => ?_) (fun c2 => ?_)
  · have hE := (if_pos c2).symm.trans hE
    refine lv_sipush (v := (-1001)) hx hb dX7_at_39 (by decide) ?_
    have hE := Option.some.inj hE
    subst hE
    exact W.iret (v := (-1001 : Int32)) hx hb hr (fun t ht _ => ⟨rfl, ht⟩) (fun _ h => absurd h List.not_mem_nil) dX7_at_42
  · have hE := (if_neg c2).symm.trans hE
    refine lv_iload_n hx hb dX7_at_7 rfl (lv_at hl 2 rfl) ?_
    refine lv_iconst (v := 0) hx hb dX7_at_8 (by decide) ?_
    refine lv_aload_n hx hb dX7_at_9 rfl (lv_at hl 0 rfl) ?_
    refine rg_getr F hR 0 (ci := 7) rfl (C := RX7) (T := TX7) (N := 8) rfl iwX7_at_X7 0 (d := 1) (n := 1) rfl rfl (by decide) rfl lkX7_at_0 rfl dX7_at_10 ?_
    refine lv_bipush (v := 45) hx hb dX7_at_13 (by decide) ?_
    refine lv_iload_n hx hb dX7_at_15 rfl (lv_at hl 1 rfl) ?_
    refine lv_iadd hx hb dX7_at_16 ?_
    obtain ⟨g3, hE⟩ := gd_el hE
    refine rg_iald F hR 1 (n := 131) rfl g3 rfl dX7_at_17 ?_
    refine lv_iconst (v := 1) hx hb dX7_at_18 (by decide) ?_
    refine lv_isub hx hb dX7_at_19 ?_
    obtain ⟨r4, er4, hE⟩ := lt_el hE
    refine rg_callRS (As := [.int a2, .int ((0 : Int32)), .int ((V 1 (((45 : Int32)) + a1).toNatClampNeg) - ((1 : Int32)))]) (rest := []) F (mX7_in l X a2 ((0 : Int32)) ((V 1 (((45 : Int32)) + a1).toNatClampNeg) - ((1 : Int32))) r4 er4) (va_cwS 3 F.1.2.2.2.2 gX7_at_X7_in rfl rfl rfl hsX7_in ⟨Nat.le_of_ble_eq_true rfl, Nat.le_of_ble_eq_true rfl⟩)  trivial rfl hl.1 (Nat.le_of_ble_eq_true rfl) dX7_at_20 ⟨Nat.zero_le _, Nat.zero_le _⟩ rfl ?_
    refine lv_if_eq (tgt := 39) hx hb dX7_at_23 (by decide) (fun c5 => ?_) (fun c5 => ?_)
    · have hE := (if_pos c5).symm.trans hE
      refine lv_sipush (v := (-1001)) hx hb dX7_at_39 (by decide) ?_
      have hE := Option.some.inj hE
      subst hE
      exact W.iret (v := (-1001 : Int32)) hx hb hr (fun t ht _ => ⟨rfl, ht⟩) (fun _ h => absurd h List.not_mem_nil) dX7_at_42
    · have hE := (if_neg c5).symm.trans hE
      refine lv_aload_n hx hb dX7_at_26 rfl (lv_at hl 0 rfl) ?_
      refine rg_getr F hR 0 (ci := 7) rfl (C := RX7) (T := TX7) (N := 8) rfl iwX7_at_X7 0 (d := 1) (n := 1) rfl rfl (by decide) rfl lkX7_at_0 rfl dX7_at_27 ?_
      refine lv_iload_n hx hb dX7_at_30 rfl (lv_at hl 1 rfl) ?_
      refine lv_iload_n hx hb dX7_at_31 rfl (lv_at hl 2 rfl) ?_
      obtain ⟨r6, er6, hE⟩ := lt_el hE
      refine rg_callRS (As := [.int a1, .int a2]) (rest := [.ref (b + 1)]) F (mX7_inRow l X a1 a2 r6 er6) (va_cwS 2 F.1.2.2.2.2 gX7_at_X7_inRow rfl rfl rfl hsX7_inRow ⟨Nat.le_of_ble_eq_true rfl, Nat.le_of_ble_eq_true rfl⟩)  trivial rfl hl.1 (Nat.le_of_ble_eq_true rfl) dX7_at_32 ⟨Nat.zero_le _, Nat.zero_le _⟩ rfl ?_
      obtain ⟨g7, hE⟩ := gd_el hE
      refine rg_iald F hR 1 (n := 131) rfl g7 rfl dX7_at_35 ?_
      refine lv_goto (tgt := 42) hx hb dX7_at_36 (by decide) ?_
      have hE := Option.some.inj hE
      subst hE
      exact W.iret (v := V 1 r6.toNatClampNeg) hx hb hr (fun t ht _ => ⟨rfl, ht⟩) (fun _ h => absurd h List.not_mem_nil) dX7_at_42
set_option maxRecDepth 20000 in
theorem lkX7_inGates_0 : Cond.fieldLink RX7 7 "TideWordsModel" "s" "[I" ∈ wsX7_inGates := by decide +kernel
set_option maxRecDepth 20000 in
theorem iwX7_inGates_X7 : ∀ w ∈ wsX70, w ∈ wsX7_inGates := by decide +kernel
def lbX7_inGates_4 (V : Mem) (s1 : Int32 × Int32) : Option ((Int32 × Int32) ⊕ (Int32 × Int32)) := if (4 : Int32) ≤ s1.2 then some (.inr (s1.1, s1.2)) else lt (fX7_ofGate s1.2 ((4 : Int32))) (fun r3 => if r3 < 0 ∨ 131 ≤ r3.toNatClampNeg then none else if V 1 r3.toNatClampNeg = (-1006 : Int32) then some (.inl (s1.1 + ((0 : Int32)), s1.2 + 1)) else some (.inl (s1.1 + ((1 : Int32)), s1.2 + 1)))
def qX7_inGates (V : Mem) : Option (Int32) := (it (lbX7_inGates_4 V) fuel ((0 : Int32), (0 : Int32))).bind (fun s6 => some (s6.1))
abbrev rmX7_inGates : Room := { frames := 1, cells := 0, slots := 0, locals := 21 }
set_option maxHeartbeats 4000000 in
set_option maxRecDepth 100000 in
theorem mX7_inGates (l : Launch) (X : kX) (b : Nat) (V : Mem) (out : Int32) (hE : qX7_inGates V = some out) : MR l yX7_inGates wsX7_inGates rmX7_inGates X [.ref b] (RP X LM b V) (some (.int out)) := by
  refine mt_head (cc := cX7_inGates) (maxL := 3) (ret := (some .int)) (own := RX7) (by decide) rfl rfl (Nat.le_of_ble_eq_true rfl) ?_
  intro p e s m below meth c ls F hr hlocks hnm hR hl
  have hx := F.1.1
  have hb := F.1.2.1
  have hl : lv_has ls 3 [(0, .ref b)] := hl
  unfold qX7_inGates at hE
  refine lv_iconst (v := 0) hx hb dX7_inGates_0 (by decide) ?_
  refine lv_istore_n (lv' := [(1, .int ((0 : Int32))), (0, .ref b)]) hx hb dX7_inGates_1 rfl hl (by decide) rfl (fun ls hl => ?_)
  refine lv_iconst (v := 0) hx hb dX7_inGates_2 (by decide) ?_
  refine lv_istore_n (lv' := [(2, .int ((0 : Int32))), (1, .int ((0 : Int32))), (0, .ref b)]) hx hb dX7_inGates_3 rfl hl (by decide) rfl (fun ls hl => ?_)
  obtain ⟨x7, hx7, hE⟩ := bd_el hE
  refine it_walk2 (body := lbX7_inGates_4 V) (Wh := fun s1 => ∀ (ls : Array Slot), lv_has ls 3 [(2, .int s1.2), (1, .int s1.1), (0, .ref b)] → W p l e rmX7_inGates s m ([.ref b] : List Value).toArray below meth c s.heap [] 0 0 (MQ below (cQr (some (.int out))) ([.ref b] : List Value).toArray s 0 0 (fun _ => False)) (F0 m 4 ls [])) (We := fun s6 => ∀ (ls : Array Slot), lv_has ls 3 [(2, .int s6.2), (1, .int s6.1), (0, .ref b)] → W p l e rmX7_inGates s m ([.ref b] : List Value).toArray below meth c s.heap [] 0 0 (MQ below (cQr (some (.int out))) ([.ref b] : List Value).toArray s 0 0 (fun _ => False)) (F0 m 39 ls [])) ?_ _ _ _ hx7 ?_ ls (lv_sub hl [0, 1, 2] rfl)
  · intro s1 r9 hE hL9 hR9 ls hl
    unfold lbX7_inGates_4 at hE
    refine lv_iload_n hx hb dX7_inGates_4 rfl (lv_at hl 0 rfl) ?_
    refine lv_iconst (v := 4) hx hb dX7_inGates_5 (by decide) ?_
    refine lv_icmp_ge (tgt := 39) hx hb dX7_inGates_6 (by decide) (fun c2 => ?_) (fun c2 => ?_)
    · have hE := (if_pos c2).symm.trans hE
      cases hE
      exact hR9 _ rfl ls (lv_sub hl [0, 1, 2] rfl)
    · have hE := (if_neg c2).symm.trans hE
      refine lv_iload_n hx hb dX7_inGates_9 rfl (lv_at hl 1 rfl) ?_
      refine lv_aload_n hx hb dX7_inGates_10 rfl (lv_at hl 2 rfl) ?_
      refine rg_getr F hR 0 (ci := 7) rfl (C := RX7) (T := TX7) (N := 8) rfl iwX7_inGates_X7 0 (d := 1) (n := 1) rfl rfl (by decide) rfl lkX7_inGates_0 rfl dX7_inGates_11 ?_
      refine lv_iload_n hx hb dX7_inGates_14 rfl (lv_at hl 0 rfl) ?_
      refine lv_iconst (v := 4) hx hb dX7_inGates_15 (by decide) ?_
      obtain ⟨r3, er3, hE⟩ := lt_el hE
      refine rg_callRS (As := [.int s1.2, .int ((4 : Int32))]) (rest := [.ref (b + 1), .int s1.1]) F (mX7_ofGate l X s1.2 ((4 : Int32)) r3 er3) (va_cwS 2 F.1.2.2.2.2 gX7_inGates_X7_ofGate rfl rfl rfl hsX7_ofGate ⟨Nat.le_of_ble_eq_true rfl, Nat.le_of_ble_eq_true rfl⟩)  trivial rfl hl.1 (Nat.le_of_ble_eq_true rfl) dX7_inGates_16 ⟨Nat.zero_le _, Nat.zero_le _⟩ rfl ?_
      obtain ⟨g4, hE⟩ := gd_el hE
      refine rg_iald F hR 1 (n := 131) rfl g4 rfl dX7_inGates_19 ?_
      refine lv_sipush (v := (-1006)) hx hb dX7_inGates_20 (by decide) ?_
      refine lv_icmp_ne (tgt := 30) hx hb dX7_inGates_23 (by decide) (fun c5 => ?_) (fun c5 => ?_)
      · have hE := (if_neg c5).symm.trans hE
        refine lv_iconst (v := 1) hx hb dX7_inGates_30 (by decide) ?_
        refine lv_iadd hx hb dX7_inGates_31 ?_
        refine lv_istore_n (lv' := [(1, .int (s1.1 + ((1 : Int32)))), (2, .int s1.2), (0, .ref b)]) hx hb dX7_inGates_32 rfl hl (by decide) rfl (fun ls hl => ?_)
        refine lv_iinc (v := s1.2 + 1) (lv' := [(2, .int (s1.2 + 1)), (1, .int (s1.1 + ((1 : Int32)))), (0, .ref b)]) hx hb dX7_inGates_33 hl (k := 1) rfl (congrArg (fun q => s1.2 + q) (by decide)) (by decide) rfl (fun ls hl => ?_)
        refine lv_goto (tgt := 4) hx hb dX7_inGates_36 (by decide) ?_
        cases hE
        exact hL9 _ rfl ls (lv_sub hl [0, 1, 2] rfl)
      · have hE := (if_pos c5).symm.trans hE
        refine lv_iconst (v := 0) hx hb dX7_inGates_26 (by decide) ?_
        refine lv_goto (tgt := 31) hx hb dX7_inGates_27 (by decide) ?_
        refine lv_iadd hx hb dX7_inGates_31 ?_
        refine lv_istore_n (lv' := [(1, .int (s1.1 + ((0 : Int32)))), (2, .int s1.2), (0, .ref b)]) hx hb dX7_inGates_32 rfl hl (by decide) rfl (fun ls hl => ?_)
        refine lv_iinc (v := s1.2 + 1) (lv' := [(2, .int (s1.2 + 1)), (1, .int (s1.1 + ((0 : Int32)))), (0, .ref b)]) hx hb dX7_inGates_33 hl (k := 1) rfl (congrArg (fun q => s1.2 + q) (by decide)) (by decide) rfl (fun ls hl => ?_)
        refine lv_goto (tgt := 4) hx hb dX7_inGates_36 (by decide) ?_
        cases hE
        exact hL9 _ rfl ls (lv_sub hl [0, 1, 2] rfl)
  · intro ls hl
    refine lv_iload_n hx hb dX7_inGates_39 rfl (lv_at hl 1 rfl) ?_
    have hE := Option.some.inj hE
    subst hE
    exact W.iret (v := x7.1) hx hb hr (fun t ht _ => ⟨rfl, ht⟩) (fun _ h => absurd h List.not_mem_nil) dX7_inGates_40
set_option maxRecDepth 20000 in
theorem lkX7_count_0 : Cond.fieldLink RX7 7 "TideWordsModel" "s" "[I" ∈ wsX7_count := by decide +kernel
set_option maxRecDepth 20000 in
theorem iwX7_count_X7 : ∀ w ∈ wsX70, w ∈ wsX7_count := by decide +kernel
theorem hvX7_passedWords : yX7_passedWords.cls = RX7 ∧ yX7_passedWords.cls ≠ "java/lang/invoke/MethodHandle" ∧ yX7_passedWords.cls ≠ "java/lang/invoke/VarHandle" ∧ (parseMethodDescriptor yX7_passedWords.desc).map (fun d => d.parameters.length) = some 0 := by decide +kernel
theorem hvX7_inGates : yX7_inGates.cls = RX7 ∧ yX7_inGates.cls ≠ "java/lang/invoke/MethodHandle" ∧ yX7_inGates.cls ≠ "java/lang/invoke/VarHandle" ∧ (parseMethodDescriptor yX7_inGates.desc).map (fun d => d.parameters.length) = some 0 := by decide +kernel
set_option maxRecDepth 20000 in
theorem lkX7_count_1 : Cond.fieldLink RX7 123 "TideWordsModel" "length" "I" ∈ wsX7_count := by decide +kernel
set_option maxRecDepth 20000 in
theorem lkX7_count_2 : Cond.fieldLink RX7 40 "TideWordsModel" "kept" "I" ∈ wsX7_count := by decide +kernel
def qX7_count (V : Mem) (a1 : Int32) : Option (Int32) := if a1 = 0 then some (V 1 0) else if a1 = 1 then some (V 1 4) else if a1 = 2 then (qX7_passedWords V ).bind (fun r4 => some (r4)) else if a1 = 3 then (qX7_passedWords V ).bind (fun r6 => (qX7_inGates V ).bind (fun r7 => some (((V 1 4) - r6) - r7))) else if a1 = 4 then (qX7_inGates V ).bind (fun r9 => some (r9)) else if a1 = 5 then if (((2 : Int32)) + a1) - ((5 : Int32)) < 0 ∨ 131 ≤ ((((2 : Int32)) + a1) - ((5 : Int32))).toNatClampNeg then none else some (V 1 ((((2 : Int32)) + a1) - ((5 : Int32))).toNatClampNeg) else if a1 = 6 then if (((2 : Int32)) + a1) - ((5 : Int32)) < 0 ∨ 131 ≤ ((((2 : Int32)) + a1) - ((5 : Int32))).toNatClampNeg then none else some (V 1 ((((2 : Int32)) + a1) - ((5 : Int32))).toNatClampNeg) else if a1 = 7 then (qX7_openNow V ).bind (fun r15 => some (r15)) else if a1 = 8 then some (V 1 1) else if a1 = 9 then some (V 0 1) else if a1 = 10 then some (V 0 0) else some ((-1002 : Int32))
abbrev rmX7_count : Room := { frames := 5, cells := 0, slots := 0, locals := 113 }
set_option maxHeartbeats 4000000 in
set_option maxRecDepth 100000 in
theorem mX7_count (l : Launch) (X : kX) (b : Nat) (V : Mem) (a1 : Int32) (out : Int32) (hE : qX7_count V a1 = some out) : MR l yX7_count wsX7_count rmX7_count X [.ref b, .int a1] (RP X LM b V) (some (.int out)) := by
  refine mt_head (cc := cX7_count) (maxL := 2) (ret := (some .int)) (own := RX7) (by decide) rfl rfl (Nat.le_of_ble_eq_true rfl) ?_
  intro p e s m below meth c ls F hr hlocks hnm hR hl
  have hx := F.1.1
  have hb := F.1.2.1
  have hl : lv_has ls 2 [(0, .ref b), (1, .int a1)] := hl
  unfold qX7_count at hE
  refine lv_iload_n hx hb dX7_count_0 rfl (lv_at hl 1 rfl) ?_
  by_cases c1 : a1 = 0
  · have hE := (if_pos c1).symm.trans hE
    refine lv_tableIn (off := 59) (tgt := 60) hx hb dX7_count_1 (by rw [c1]; decide) (by rw [c1]; decide) (by rw [c1]; rfl) (by decide) ?_
    refine lv_aload_n hx hb dX7_count_60 rfl (lv_at hl 0 rfl) ?_
    refine rg_getr F hR 0 (ci := 7) rfl (C := RX7) (T := TX7) (N := 8) rfl iwX7_count_X7 0 (d := 1) (n := 1) rfl rfl (by decide) rfl lkX7_count_0 rfl dX7_count_61 ?_
    refine lv_iconst (v := 0) hx hb dX7_count_64 (by decide) ?_
    refine rg_iald F hR 1 rfl (i := 0) (by decide) rfl dX7_count_65 ?_
    have hE := Option.some.inj hE
    subst hE
    exact W.iret (v := V 1 0) hx hb hr (fun t ht _ => ⟨rfl, ht⟩) (fun _ h => absurd h List.not_mem_nil) dX7_count_66
  · have hE := (if_neg c1).symm.trans hE
    by_cases c2 : a1 = 1
    · have hE := (if_pos c2).symm.trans hE
      refine lv_tableIn (off := 66) (tgt := 67) hx hb dX7_count_1 (by rw [c2]; decide) (by rw [c2]; decide) (by rw [c2]; rfl) (by decide) ?_
      refine lv_aload_n hx hb dX7_count_67 rfl (lv_at hl 0 rfl) ?_
      refine rg_getr F hR 0 (ci := 7) rfl (C := RX7) (T := TX7) (N := 8) rfl iwX7_count_X7 0 (d := 1) (n := 1) rfl rfl (by decide) rfl lkX7_count_0 rfl dX7_count_68 ?_
      refine lv_iconst (v := 4) hx hb dX7_count_71 (by decide) ?_
      refine rg_iald F hR 1 rfl (i := 4) (by decide) rfl dX7_count_72 ?_
      have hE := Option.some.inj hE
      subst hE
      exact W.iret (v := V 1 4) hx hb hr (fun t ht _ => ⟨rfl, ht⟩) (fun _ h => absurd h List.not_mem_nil) dX7_count_73
    · have hE := (if_neg c2).symm.trans hE
      by_cases c3 : a1 = 2
      · have hE := (if_pos c3).symm.trans hE
        refine lv_tableIn (off := 73) (tgt := 74) hx hb dX7_count_1 (by rw [c3]; decide) (by rw [c3]; decide) (by rw [c3]; rfl) (by decide) ?_
        refine lv_aload_n hx hb dX7_count_74 rfl (lv_at hl 0 rfl) ?_
        obtain ⟨r4, er4, hE⟩ := bd_el hE
        refine rg_callRV (As := []) (rest := []) F (mX7_passedWords l X b V  r4 er4) (cwV 0 F.1.2.2.2.2 gX7_count_X7_passedWords rfl rfl rfl hvX7_passedWords ⟨Nat.le_of_ble_eq_true rfl, Nat.le_of_ble_eq_true rfl⟩) (rp_recv F hR 0 rfl (C := RX7) (T := TX7) (N := 8) rfl rfl) hR rfl hl.1 (Nat.le_of_ble_eq_true rfl) dX7_count_75 ⟨Nat.zero_le _, Nat.zero_le _⟩ rfl ?_
        have hE := Option.some.inj hE
        subst hE
        exact W.iret (v := r4) hx hb hr (fun t ht _ => ⟨rfl, ht⟩) (fun _ h => absurd h List.not_mem_nil) dX7_count_78
      · have hE := (if_neg c3).symm.trans hE
        by_cases c5 : a1 = 3
        · have hE := (if_pos c5).symm.trans hE
          refine lv_tableIn (off := 78) (tgt := 79) hx hb dX7_count_1 (by rw [c5]; decide) (by rw [c5]; decide) (by rw [c5]; rfl) (by decide) ?_
          refine lv_aload_n hx hb dX7_count_79 rfl (lv_at hl 0 rfl) ?_
          refine rg_getr F hR 0 (ci := 7) rfl (C := RX7) (T := TX7) (N := 8) rfl iwX7_count_X7 0 (d := 1) (n := 1) rfl rfl (by decide) rfl lkX7_count_0 rfl dX7_count_80 ?_
          refine lv_iconst (v := 4) hx hb dX7_count_83 (by decide) ?_
          refine rg_iald F hR 1 rfl (i := 4) (by decide) rfl dX7_count_84 ?_
          refine lv_aload_n hx hb dX7_count_85 rfl (lv_at hl 0 rfl) ?_
          obtain ⟨r6, er6, hE⟩ := bd_el hE
          refine rg_callRV (As := []) (rest := [.int (V 1 4)]) F (mX7_passedWords l X b V  r6 er6) (cwV 0 F.1.2.2.2.2 gX7_count_X7_passedWords rfl rfl rfl hvX7_passedWords ⟨Nat.le_of_ble_eq_true rfl, Nat.le_of_ble_eq_true rfl⟩) (rp_recv F hR 0 rfl (C := RX7) (T := TX7) (N := 8) rfl rfl) hR rfl hl.1 (Nat.le_of_ble_eq_true rfl) dX7_count_86 ⟨Nat.zero_le _, Nat.zero_le _⟩ rfl ?_
          refine lv_isub hx hb dX7_count_89 ?_
          refine lv_aload_n hx hb dX7_count_90 rfl (lv_at hl 0 rfl) ?_
          obtain ⟨r7, er7, hE⟩ := bd_el hE
          refine rg_callRV (As := []) (rest := [.int ((V 1 4) - r6)]) F (mX7_inGates l X b V  r7 er7) (cwV 0 F.1.2.2.2.2 gX7_count_X7_inGates rfl rfl rfl hvX7_inGates ⟨Nat.le_of_ble_eq_true rfl, Nat.le_of_ble_eq_true rfl⟩) (rp_recv F hR 0 rfl (C := RX7) (T := TX7) (N := 8) rfl rfl) hR rfl hl.1 (Nat.le_of_ble_eq_true rfl) dX7_count_91 ⟨Nat.zero_le _, Nat.zero_le _⟩ rfl ?_
          refine lv_isub hx hb dX7_count_94 ?_
          have hE := Option.some.inj hE
          subst hE
          exact W.iret (v := ((V 1 4) - r6) - r7) hx hb hr (fun t ht _ => ⟨rfl, ht⟩) (fun _ h => absurd h List.not_mem_nil) dX7_count_95
        · have hE := (if_neg c5).symm.trans hE
          by_cases c8 : a1 = 4
          · have hE := (if_pos c8).symm.trans hE
            refine lv_tableIn (off := 95) (tgt := 96) hx hb dX7_count_1 (by rw [c8]; decide) (by rw [c8]; decide) (by rw [c8]; rfl) (by decide) ?_
            refine lv_aload_n hx hb dX7_count_96 rfl (lv_at hl 0 rfl) ?_
            obtain ⟨r9, er9, hE⟩ := bd_el hE
            refine rg_callRV (As := []) (rest := []) F (mX7_inGates l X b V  r9 er9) (cwV 0 F.1.2.2.2.2 gX7_count_X7_inGates rfl rfl rfl hvX7_inGates ⟨Nat.le_of_ble_eq_true rfl, Nat.le_of_ble_eq_true rfl⟩) (rp_recv F hR 0 rfl (C := RX7) (T := TX7) (N := 8) rfl rfl) hR rfl hl.1 (Nat.le_of_ble_eq_true rfl) dX7_count_97 ⟨Nat.zero_le _, Nat.zero_le _⟩ rfl ?_
            have hE := Option.some.inj hE
            subst hE
            exact W.iret (v := r9) hx hb hr (fun t ht _ => ⟨rfl, ht⟩) (fun _ h => absurd h List.not_mem_nil) dX7_count_100
          · have hE := (if_neg c8).symm.trans hE
            by_cases c10 : a1 = 5
            · have hE := (if_pos c10).symm.trans hE
              refine lv_tableIn (off := 100) (tgt := 101) hx hb dX7_count_1 (by rw [c10]; decide) (by rw [c10]; decide) (by rw [c10]; rfl) (by decide) ?_
              refine lv_aload_n hx hb dX7_count_101 rfl (lv_at hl 0 rfl) ?_
              refine rg_getr F hR 0 (ci := 7) rfl (C := RX7) (T := TX7) (N := 8) rfl iwX7_count_X7 0 (d := 1) (n := 1) rfl rfl (by decide) rfl lkX7_count_0 rfl dX7_count_102 ?_
              refine lv_iconst (v := 2) hx hb dX7_count_105 (by decide) ?_
              refine lv_iload_n hx hb dX7_count_106 rfl (lv_at hl 1 rfl) ?_
              refine lv_iadd hx hb dX7_count_107 ?_
              refine lv_iconst (v := 5) hx hb dX7_count_108 (by decide) ?_
              refine lv_isub hx hb dX7_count_109 ?_
              obtain ⟨g11, hE⟩ := gd_el hE
              refine rg_iald F hR 1 (n := 131) rfl g11 rfl dX7_count_110 ?_
              have hE := Option.some.inj hE
              subst hE
              exact W.iret (v := V 1 ((((2 : Int32)) + a1) - ((5 : Int32))).toNatClampNeg) hx hb hr (fun t ht _ => ⟨rfl, ht⟩) (fun _ h => absurd h List.not_mem_nil) dX7_count_111
            · have hE := (if_neg c10).symm.trans hE
              by_cases c12 : a1 = 6
              · have hE := (if_pos c12).symm.trans hE
                refine lv_tableIn (off := 100) (tgt := 101) hx hb dX7_count_1 (by rw [c12]; decide) (by rw [c12]; decide) (by rw [c12]; rfl) (by decide) ?_
                refine lv_aload_n hx hb dX7_count_101 rfl (lv_at hl 0 rfl) ?_
                refine rg_getr F hR 0 (ci := 7) rfl (C := RX7) (T := TX7) (N := 8) rfl iwX7_count_X7 0 (d := 1) (n := 1) rfl rfl (by decide) rfl lkX7_count_0 rfl dX7_count_102 ?_
                refine lv_iconst (v := 2) hx hb dX7_count_105 (by decide) ?_
                refine lv_iload_n hx hb dX7_count_106 rfl (lv_at hl 1 rfl) ?_
                refine lv_iadd hx hb dX7_count_107 ?_
                refine lv_iconst (v := 5) hx hb dX7_count_108 (by decide) ?_
                refine lv_isub hx hb dX7_count_109 ?_
                obtain ⟨g13, hE⟩ := gd_el hE
                refine rg_iald F hR 1 (n := 131) rfl g13 rfl dX7_count_110 ?_
                have hE := Option.some.inj hE
                subst hE
                exact W.iret (v := V 1 ((((2 : Int32)) + a1) - ((5 : Int32))).toNatClampNeg) hx hb hr (fun t ht _ => ⟨rfl, ht⟩) (fun _ h => absurd h List.not_mem_nil) dX7_count_111
              · have hE := (if_neg c12).symm.trans hE
                by_cases c14 : a1 = 7
                · have hE := (if_pos c14).symm.trans hE
                  refine lv_tableIn (off := 111) (tgt := 112) hx hb dX7_count_1 (by rw [c14]; decide) (by rw [c14]; decide) (by rw [c14]; rfl) (by decide) ?_
                  refine lv_aload_n hx hb dX7_count_112 rfl (lv_at hl 0 rfl) ?_
                  obtain ⟨r15, er15, hE⟩ := bd_el hE
                  refine rg_callRV (As := []) (rest := []) F (mX7_openNow l X b V  r15 er15) (cwV 0 F.1.2.2.2.2 gX7_count_X7_openNow rfl rfl rfl hvX7_openNow ⟨Nat.le_of_ble_eq_true rfl, Nat.le_of_ble_eq_true rfl⟩) (rp_recv F hR 0 rfl (C := RX7) (T := TX7) (N := 8) rfl rfl) hR rfl hl.1 (Nat.le_of_ble_eq_true rfl) dX7_count_113 ⟨Nat.zero_le _, Nat.zero_le _⟩ rfl ?_
                  have hE := Option.some.inj hE
                  subst hE
                  exact W.iret (v := r15) hx hb hr (fun t ht _ => ⟨rfl, ht⟩) (fun _ h => absurd h List.not_mem_nil) dX7_count_116
                · have hE := (if_neg c14).symm.trans hE
                  by_cases c16 : a1 = 8
                  · have hE := (if_pos c16).symm.trans hE
                    refine lv_tableIn (off := 116) (tgt := 117) hx hb dX7_count_1 (by rw [c16]; decide) (by rw [c16]; decide) (by rw [c16]; rfl) (by decide) ?_
                    refine lv_aload_n hx hb dX7_count_117 rfl (lv_at hl 0 rfl) ?_
                    refine rg_getr F hR 0 (ci := 7) rfl (C := RX7) (T := TX7) (N := 8) rfl iwX7_count_X7 0 (d := 1) (n := 1) rfl rfl (by decide) rfl lkX7_count_0 rfl dX7_count_118 ?_
                    refine lv_iconst (v := 1) hx hb dX7_count_121 (by decide) ?_
                    refine rg_iald F hR 1 rfl (i := 1) (by decide) rfl dX7_count_122 ?_
                    have hE := Option.some.inj hE
                    subst hE
                    exact W.iret (v := V 1 1) hx hb hr (fun t ht _ => ⟨rfl, ht⟩) (fun _ h => absurd h List.not_mem_nil) dX7_count_123
                  · have hE := (if_neg c16).symm.trans hE
                    by_cases c17 : a1 = 9
                    · have hE := (if_pos c17).symm.trans hE
                      refine lv_tableIn (off := 123) (tgt := 124) hx hb dX7_count_1 (by rw [c17]; decide) (by rw [c17]; decide) (by rw [c17]; rfl) (by decide) ?_
                      refine lv_aload_n hx hb dX7_count_124 rfl (lv_at hl 0 rfl) ?_
                      refine rg_geti F hR 0 (ci := 7) rfl (C := RX7) (T := TX7) (N := 8) rfl iwX7_count_X7 7 (i := 1) rfl (by decide) rfl lkX7_count_1 rfl dX7_count_125 ?_
                      have hE := Option.some.inj hE
                      subst hE
                      exact W.iret (v := V 0 1) hx hb hr (fun t ht _ => ⟨rfl, ht⟩) (fun _ h => absurd h List.not_mem_nil) dX7_count_128
                    · have hE := (if_neg c17).symm.trans hE
                      by_cases c18 : a1 = 10
                      · have hE := (if_pos c18).symm.trans hE
                        refine lv_tableIn (off := 128) (tgt := 129) hx hb dX7_count_1 (by rw [c18]; decide) (by rw [c18]; decide) (by rw [c18]; rfl) (by decide) ?_
                        refine lv_aload_n hx hb dX7_count_129 rfl (lv_at hl 0 rfl) ?_
                        refine rg_geti F hR 0 (ci := 7) rfl (C := RX7) (T := TX7) (N := 8) rfl iwX7_count_X7 3 (i := 0) rfl (by decide) rfl lkX7_count_2 rfl dX7_count_130 ?_
                        have hE := Option.some.inj hE
                        subst hE
                        exact W.iret (v := V 0 0) hx hb hr (fun t ht _ => ⟨rfl, ht⟩) (fun _ h => absurd h List.not_mem_nil) dX7_count_133
                      · have hE := (if_neg c18).symm.trans hE
                        refine lv_tableOut (tgt := 134) hx hb dX7_count_1 (ts_out11 c1 c2 c3 c5 c8 c10 c12 c14 c16 c17 c18) (by decide) ?_
                        refine lv_sipush (v := (-1002)) hx hb dX7_count_134 (by decide) ?_
                        have hE := Option.some.inj hE
                        subst hE
                        exact W.iret (v := (-1002 : Int32)) hx hb hr (fun t ht _ => ⟨rfl, ht⟩) (fun _ h => absurd h List.not_mem_nil) dX7_count_137
set_option maxRecDepth 20000 in
theorem lkX7_opensIn_0 : Cond.fieldLink RX7 7 "TideWordsModel" "s" "[I" ∈ wsX7_opensIn := by decide +kernel
set_option maxRecDepth 20000 in
theorem iwX7_opensIn_X7 : ∀ w ∈ wsX70, w ∈ wsX7_opensIn := by decide +kernel
def lbX7_opensIn_2 (V : Mem) (a1 : Int32) (s1 : Int32) : Option ((Int32) ⊕ ((Int32) ⊕ (Int32))) := if (4000 : Int32) ≤ s1 then some (.inr (.inr s1)) else (qX7_isOpen V a1 ((V 1 0) + s1)).bind (fun r3 => if r3 = 0 then some (.inl (s1 + 1)) else some (.inr (.inl (s1))))
def qX7_opensIn (V : Mem) (a1 : Int32) : Option (Int32) := (it (lbX7_opensIn_2 V a1) fuel (0 : Int32)).bind (fun x6 => Sum.elim (fun r0 => some r0) (fun s5 => some ((-1006 : Int32))) x6)
abbrev rmX7_opensIn : Room := { frames := 4, cells := 0, slots := 0, locals := 91 }
set_option maxHeartbeats 4000000 in
set_option maxRecDepth 100000 in
theorem mX7_opensIn (l : Launch) (X : kX) (b : Nat) (V : Mem) (a1 : Int32) (out : Int32) (hE : qX7_opensIn V a1 = some out) : MR l yX7_opensIn wsX7_opensIn rmX7_opensIn X [.ref b, .int a1] (RP X LM b V) (some (.int out)) := by
  refine mt_head (cc := cX7_opensIn) (maxL := 3) (ret := (some .int)) (own := RX7) (by decide) rfl rfl (Nat.le_of_ble_eq_true rfl) ?_
  intro p e s m below meth c ls F hr hlocks hnm hR hl
  have hx := F.1.1
  have hb := F.1.2.1
  have hl : lv_has ls 3 [(0, .ref b), (1, .int a1)] := hl
  unfold qX7_opensIn at hE
  refine lv_iconst (v := 0) hx hb dX7_opensIn_0 (by decide) ?_
  refine lv_istore_n (lv' := [(2, .int ((0 : Int32))), (0, .ref b), (1, .int a1)]) hx hb dX7_opensIn_1 rfl hl (by decide) rfl (fun ls hl => ?_)
  obtain ⟨x6, hx6, hE⟩ := bd_el hE
  refine it_walk2 (body := lbX7_opensIn_2 V a1) (Wh := fun s1 => ∀ (ls : Array Slot), lv_has ls 3 [(2, .int s1), (0, .ref b), (1, .int a1)] → W p l e rmX7_opensIn s m ([.ref b, .int a1] : List Value).toArray below meth c s.heap [] 0 0 (MQ below (cQr (some (.int out))) ([.ref b, .int a1] : List Value).toArray s 0 0 (fun _ => False)) (F0 m 2 ls [])) (We := fun x6 => (∀ r0, x6 = .inl r0 → r0 = out) ∧ (∀ s5, x6 = .inr s5 → ∀ (ls : Array Slot), lv_has ls 3 [(2, .int s5), (0, .ref b), (1, .int a1)] → W p l e rmX7_opensIn s m ([.ref b, .int a1] : List Value).toArray below meth c s.heap [] 0 0 (MQ below (cQr (some (.int out))) ([.ref b, .int a1] : List Value).toArray s 0 0 (fun _ => False)) (F0 m 33 ls []))) ?_ _ _ _ hx6 ?_ ls (lv_sub hl [0, 1, 2] rfl)
  · intro s1 r9 hE hL9 hR9 ls hl
    unfold lbX7_opensIn_2 at hE
    refine lv_iload_n hx hb dX7_opensIn_2 rfl (lv_at hl 0 rfl) ?_
    refine lv_sipush (v := 4000) hx hb dX7_opensIn_3 (by decide) ?_
    refine lv_icmp_ge (tgt := 33) hx hb dX7_opensIn_6 (by decide) (fun c2 => ?_) (fun c2 => ?_)
    · have hE := (if_pos c2).symm.trans hE
      cases hE
      exact (hR9 _ rfl).2 _ rfl ls (lv_sub hl [0, 1, 2] rfl)
    · have hE := (if_neg c2).symm.trans hE
      refine lv_aload_n hx hb dX7_opensIn_9 rfl (lv_at hl 1 rfl) ?_
      refine lv_iload_n hx hb dX7_opensIn_10 rfl (lv_at hl 2 rfl) ?_
      refine lv_aload_n hx hb dX7_opensIn_11 rfl (lv_at hl 1 rfl) ?_
      refine rg_getr F hR 0 (ci := 7) rfl (C := RX7) (T := TX7) (N := 8) rfl iwX7_opensIn_X7 0 (d := 1) (n := 1) rfl rfl (by decide) rfl lkX7_opensIn_0 rfl dX7_opensIn_12 ?_
      refine lv_iconst (v := 0) hx hb dX7_opensIn_15 (by decide) ?_
      refine rg_iald F hR 1 rfl (i := 0) (by decide) rfl dX7_opensIn_16 ?_
      refine lv_iload_n hx hb dX7_opensIn_17 rfl (lv_at hl 0 rfl) ?_
      refine lv_iadd hx hb dX7_opensIn_18 ?_
      obtain ⟨r3, er3, hE⟩ := bd_el hE
      refine rg_callRV (As := [.int a1, .int ((V 1 0) + s1)]) (rest := []) F (mX7_isOpen l X b V a1 ((V 1 0) + s1) r3 er3) (cwV 2 F.1.2.2.2.2 gX7_opensIn_X7_isOpen rfl rfl rfl hvX7_isOpen ⟨Nat.le_of_ble_eq_true rfl, Nat.le_of_ble_eq_true rfl⟩) (rp_recv F hR 0 rfl (C := RX7) (T := TX7) (N := 8) rfl rfl) hR rfl hl.1 (Nat.le_of_ble_eq_true rfl) dX7_opensIn_19 ⟨Nat.zero_le _, Nat.zero_le _⟩ rfl ?_
      refine lv_if_eq (tgt := 27) hx hb dX7_opensIn_22 (by decide) (fun c4 => ?_) (fun c4 => ?_)
      · have hE := (if_pos c4).symm.trans hE
        refine lv_iinc (v := s1 + 1) (lv' := [(2, .int (s1 + 1)), (0, .ref b), (1, .int a1)]) hx hb dX7_opensIn_27 hl (k := 0) rfl (congrArg (fun q => s1 + q) (by decide)) (by decide) rfl (fun ls hl => ?_)
        refine lv_goto (tgt := 2) hx hb dX7_opensIn_30 (by decide) ?_
        cases hE
        exact hL9 _ rfl ls (lv_sub hl [0, 1, 2] rfl)
      · have hE := (if_neg c4).symm.trans hE
        refine lv_iload_n hx hb dX7_opensIn_25 rfl (lv_at hl 0 rfl) ?_
        cases hE
        have hE := (hR9 _ rfl).1 _ rfl
        subst hE
        exact W.iret (v := s1) hx hb hr (fun t ht _ => ⟨rfl, ht⟩) (fun _ h => absurd h List.not_mem_nil) dX7_opensIn_26
  · refine ⟨fun r0 h9 => ?_, fun s5 h9 => ?_⟩
    · subst h9
      exact Option.some.inj hE
    · subst h9
      have hE := sel_r hE
      intro ls hl
      refine lv_sipush (v := (-1006)) hx hb dX7_opensIn_33 (by decide) ?_
      have hE := Option.some.inj hE
      subst hE
      exact W.iret (v := (-1006 : Int32)) hx hb hr (fun t ht _ => ⟨rfl, ht⟩) (fun _ h => absurd h List.not_mem_nil) dX7_opensIn_36
theorem hvX7_opensIn : yX7_opensIn.cls = RX7 ∧ yX7_opensIn.cls ≠ "java/lang/invoke/MethodHandle" ∧ yX7_opensIn.cls ≠ "java/lang/invoke/VarHandle" ∧ (parseMethodDescriptor yX7_opensIn.desc).map (fun d => d.parameters.length) = some 1 := by decide +kernel
def qX7_untilOpen (V : Mem) (a1 : Int32) : Option (Int32) := lt (fX7_isGate a1) (fun r1 => if r1 = 0 then some ((-1001 : Int32)) else (qX7_opensIn V a1).bind (fun r3 => some (r3)))
abbrev rmX7_untilOpen : Room := { frames := 5, cells := 0, slots := 0, locals := 113 }
set_option maxHeartbeats 4000000 in
set_option maxRecDepth 100000 in
theorem mX7_untilOpen (l : Launch) (X : kX) (b : Nat) (V : Mem) (a1 : Int32) (out : Int32) (hE : qX7_untilOpen V a1 = some out) : MR l yX7_untilOpen wsX7_untilOpen rmX7_untilOpen X [.ref b, .int a1] (RP X LM b V) (some (.int out)) := by
  refine mt_head (cc := cX7_untilOpen) (maxL := 2) (ret := (some .int)) (own := RX7) (by decide) rfl rfl (Nat.le_of_ble_eq_true rfl) ?_
  intro p e s m below meth c ls F hr hlocks hnm hR hl
  have hx := F.1.1
  have hb := F.1.2.1
  have hl : lv_has ls 2 [(0, .ref b), (1, .int a1)] := hl
  unfold qX7_untilOpen at hE
  refine lv_iload_n hx hb dX7_untilOpen_0 rfl (lv_at hl 1 rfl) ?_
  obtain ⟨r1, er1, hE⟩ := lt_el hE
  refine rg_callRS (As := [.int a1]) (rest := []) F (mX7_isGate l X a1 r1 er1) (va_cwS 1 F.1.2.2.2.2 gX7_untilOpen_X7_isGate rfl rfl rfl hsX7_isGate ⟨Nat.le_of_ble_eq_true rfl, Nat.le_of_ble_eq_true rfl⟩)  trivial rfl hl.1 (Nat.le_of_ble_eq_true rfl) dX7_untilOpen_1 ⟨Nat.zero_le _, Nat.zero_le _⟩ rfl ?_
  refine lv_if_eq (tgt := 15) hx hb dX7_untilOpen_4 (by decide) (fun c2 => ?_) (fun c2 => ?_)
  · have hE := (if_pos c2).symm.trans hE
    refine lv_sipush (v := (-1001)) hx hb dX7_untilOpen_15 (by decide) ?_
    have hE := Option.some.inj hE
    subst hE
    exact W.iret (v := (-1001 : Int32)) hx hb hr (fun t ht _ => ⟨rfl, ht⟩) (fun _ h => absurd h List.not_mem_nil) dX7_untilOpen_18
  · have hE := (if_neg c2).symm.trans hE
    refine lv_aload_n hx hb dX7_untilOpen_7 rfl (lv_at hl 0 rfl) ?_
    refine lv_iload_n hx hb dX7_untilOpen_8 rfl (lv_at hl 1 rfl) ?_
    obtain ⟨r3, er3, hE⟩ := bd_el hE
    refine rg_callRV (As := [.int a1]) (rest := []) F (mX7_opensIn l X b V a1 r3 er3) (cwV 1 F.1.2.2.2.2 gX7_untilOpen_X7_opensIn rfl rfl rfl hvX7_opensIn ⟨Nat.le_of_ble_eq_true rfl, Nat.le_of_ble_eq_true rfl⟩) (rp_recv F hR 0 rfl (C := RX7) (T := TX7) (N := 8) rfl rfl) hR rfl hl.1 (Nat.le_of_ble_eq_true rfl) dX7_untilOpen_9 ⟨Nat.zero_le _, Nat.zero_le _⟩ rfl ?_
    refine lv_goto (tgt := 18) hx hb dX7_untilOpen_12 (by decide) ?_
    have hE := Option.some.inj hE
    subst hE
    exact W.iret (v := r3) hx hb hr (fun t ht _ => ⟨rfl, ht⟩) (fun _ h => absurd h List.not_mem_nil) dX7_untilOpen_18
set_option maxRecDepth 20000 in
theorem lkX7_openFor_0 : Cond.fieldLink RX7 7 "TideWordsModel" "s" "[I" ∈ wsX7_openFor := by decide +kernel
set_option maxRecDepth 20000 in
theorem iwX7_openFor_X7 : ∀ w ∈ wsX70, w ∈ wsX7_openFor := by decide +kernel
def lbX7_openFor_19 (V : Mem) (a1 : Int32) (r3 : Int32) (s4 : Int32) : Option ((Int32) ⊕ (Int32)) := if r3 = (-1006 : Int32) then some (.inr s4) else if (4000 : Int32) ≤ s4 then some (.inr s4) else (qX7_isOpen V a1 (((V 1 0) + r3) + s4)).bind (fun r7 => if r7 = 0 then some (.inr s4) else some (.inl (s4 + 1)))
def qX7_openFor (V : Mem) (a1 : Int32) : Option (Int32) := lt (fX7_isGate a1) (fun r1 => if r1 = 0 then some ((-1001 : Int32)) else (qX7_opensIn V a1).bind (fun r3 => (it (lbX7_openFor_19 V a1 r3) fuel (0 : Int32)).bind (fun s9 => if r3 = (-1006 : Int32) then some ((-1006 : Int32)) else some (s9))))
abbrev rmX7_openFor : Room := { frames := 5, cells := 0, slots := 0, locals := 113 }
set_option maxHeartbeats 4000000 in
set_option maxRecDepth 100000 in
theorem mX7_openFor (l : Launch) (X : kX) (b : Nat) (V : Mem) (a1 : Int32) (out : Int32) (hE : qX7_openFor V a1 = some out) : MR l yX7_openFor wsX7_openFor rmX7_openFor X [.ref b, .int a1] (RP X LM b V) (some (.int out)) := by
  refine mt_head (cc := cX7_openFor) (maxL := 4) (ret := (some .int)) (own := RX7) (by decide) rfl rfl (Nat.le_of_ble_eq_true rfl) ?_
  intro p e s m below meth c ls F hr hlocks hnm hR hl
  have hx := F.1.1
  have hb := F.1.2.1
  have hl : lv_has ls 4 [(0, .ref b), (1, .int a1)] := hl
  unfold qX7_openFor at hE
  refine lv_iload_n hx hb dX7_openFor_0 rfl (lv_at hl 1 rfl) ?_
  obtain ⟨r1, er1, hE⟩ := lt_el hE
  refine rg_callRS (As := [.int a1]) (rest := []) F (mX7_isGate l X a1 r1 er1) (va_cwS 1 F.1.2.2.2.2 gX7_openFor_X7_isGate rfl rfl rfl hsX7_isGate ⟨Nat.le_of_ble_eq_true rfl, Nat.le_of_ble_eq_true rfl⟩)  trivial rfl hl.1 (Nat.le_of_ble_eq_true rfl) dX7_openFor_1 ⟨Nat.zero_le _, Nat.zero_le _⟩ rfl ?_
  refine lv_if_ne (tgt := 11) hx hb dX7_openFor_4 (by decide) (fun c2 => ?_) (fun c2 => ?_)
  · have hE := (if_neg c2).symm.trans hE
    refine lv_aload_n hx hb dX7_openFor_11 rfl (lv_at hl 0 rfl) ?_
    refine lv_iload_n hx hb dX7_openFor_12 rfl (lv_at hl 1 rfl) ?_
    obtain ⟨r3, er3, hE⟩ := bd_el hE
    refine rg_callRV (As := [.int a1]) (rest := []) F (mX7_opensIn l X b V a1 r3 er3) (cwV 1 F.1.2.2.2.2 gX7_openFor_X7_opensIn rfl rfl rfl hvX7_opensIn ⟨Nat.le_of_ble_eq_true rfl, Nat.le_of_ble_eq_true rfl⟩) (rp_recv F hR 0 rfl (C := RX7) (T := TX7) (N := 8) rfl rfl) hR rfl hl.1 (Nat.le_of_ble_eq_true rfl) dX7_openFor_13 ⟨Nat.zero_le _, Nat.zero_le _⟩ rfl ?_
    refine lv_istore_n (lv' := [(2, .int r3), (0, .ref b), (1, .int a1)]) hx hb dX7_openFor_16 rfl hl (by decide) rfl (fun ls hl => ?_)
    refine lv_iconst (v := 0) hx hb dX7_openFor_17 (by decide) ?_
    refine lv_istore_n (lv' := [(3, .int ((0 : Int32))), (2, .int r3), (0, .ref b), (1, .int a1)]) hx hb dX7_openFor_18 rfl hl (by decide) rfl (fun ls hl => ?_)
    obtain ⟨x10, hx10, hE⟩ := bd_el hE
    refine it_walk2 (body := lbX7_openFor_19 V a1 r3) (Wh := fun s4 => ∀ (ls : Array Slot), lv_has ls 4 [(3, .int s4), (2, .int r3), (0, .ref b), (1, .int a1)] → W p l e rmX7_openFor s m ([.ref b, .int a1] : List Value).toArray below meth c s.heap [] 0 0 (MQ below (cQr (some (.int out))) ([.ref b, .int a1] : List Value).toArray s 0 0 (fun _ => False)) (F0 m 19 ls [])) (We := fun s9 => ∀ (ls : Array Slot), lv_has ls 4 [(3, .int s9), (2, .int r3), (0, .ref b), (1, .int a1)] → W p l e rmX7_openFor s m ([.ref b, .int a1] : List Value).toArray below meth c s.heap [] 0 0 (MQ below (cQr (some (.int out))) ([.ref b, .int a1] : List Value).toArray s 0 0 (fun _ => False)) (F0 m 57 ls [])) ?_ _ _ _ hx10 ?_ ls (lv_sub hl [0, 1, 2, 3] rfl)
    · intro s4 r9 hE hL9 hR9 ls hl
      unfold lbX7_openFor_19 at hE
      refine lv_iload_n hx hb dX7_openFor_19 rfl (lv_at hl 1 rfl) ?_
      refine lv_sipush (v := (-1006)) hx hb dX7_openFor_20 (by decide) ?_
      refine lv_icmp_eq (tgt := 57) hx hb dX7_openFor_23 (by decide) (fun c5 => ?_) (fun c5 => ?_)
      · have hE := (if_pos c5).symm.trans hE
        cases hE
        exact hR9 _ rfl ls (lv_sub hl [0, 1, 2, 3] rfl)
      · have hE := (if_neg c5).symm.trans hE
        refine lv_iload_n hx hb dX7_openFor_26 rfl (lv_at hl 0 rfl) ?_
        refine lv_sipush (v := 4000) hx hb dX7_openFor_27 (by decide) ?_
        refine lv_icmp_ge (tgt := 57) hx hb dX7_openFor_30 (by decide) (fun c6 => ?_) (fun c6 => ?_)
        · have hE := (if_pos c6).symm.trans hE
          cases hE
          exact hR9 _ rfl ls (lv_sub hl [0, 1, 2, 3] rfl)
        · have hE := (if_neg c6).symm.trans hE
          refine lv_aload_n hx hb dX7_openFor_33 rfl (lv_at hl 2 rfl) ?_
          refine lv_iload_n hx hb dX7_openFor_34 rfl (lv_at hl 3 rfl) ?_
          refine lv_aload_n hx hb dX7_openFor_35 rfl (lv_at hl 2 rfl) ?_
          refine rg_getr F hR 0 (ci := 7) rfl (C := RX7) (T := TX7) (N := 8) rfl iwX7_openFor_X7 0 (d := 1) (n := 1) rfl rfl (by decide) rfl lkX7_openFor_0 rfl dX7_openFor_36 ?_
          refine lv_iconst (v := 0) hx hb dX7_openFor_39 (by decide) ?_
          refine rg_iald F hR 1 rfl (i := 0) (by decide) rfl dX7_openFor_40 ?_
          refine lv_iload_n hx hb dX7_openFor_41 rfl (lv_at hl 1 rfl) ?_
          refine lv_iadd hx hb dX7_openFor_42 ?_
          refine lv_iload_n hx hb dX7_openFor_43 rfl (lv_at hl 0 rfl) ?_
          refine lv_iadd hx hb dX7_openFor_44 ?_
          obtain ⟨r7, er7, hE⟩ := bd_el hE
          refine rg_callRV (As := [.int a1, .int (((V 1 0) + r3) + s4)]) (rest := []) F (mX7_isOpen l X b V a1 (((V 1 0) + r3) + s4) r7 er7) (cwV 2 F.1.2.2.2.2 gX7_openFor_X7_isOpen rfl rfl rfl hvX7_isOpen ⟨Nat.le_of_ble_eq_true rfl, Nat.le_of_ble_eq_true rfl⟩) (rp_recv F hR 0 rfl (C := RX7) (T := TX7) (N := 8) rfl rfl) hR rfl hl.1 (Nat.le_of_ble_eq_true rfl) dX7_openFor_45 ⟨Nat.zero_le _, Nat.zero_le _⟩ rfl ?_
          refine lv_if_eq (tgt := 57) hx hb dX7_openFor_48 (by decide) (fun c8 => ?_) (fun c8 => ?_)
          · have hE := (if_pos c8).symm.trans hE
            cases hE
            exact hR9 _ rfl ls (lv_sub hl [0, 1, 2, 3] rfl)
          · have hE := (if_neg c8).symm.trans hE
            refine lv_iinc (v := s4 + 1) (lv' := [(3, .int (s4 + 1)), (2, .int r3), (0, .ref b), (1, .int a1)]) hx hb dX7_openFor_51 hl (k := 0) rfl (congrArg (fun q => s4 + q) (by decide)) (by decide) rfl (fun ls hl => ?_)
            refine lv_goto (tgt := 19) hx hb dX7_openFor_54 (by decide) ?_
            cases hE
            exact hL9 _ rfl ls (lv_sub hl [0, 1, 2, 3] rfl)
    · intro ls hl
      refine lv_iload_n hx hb dX7_openFor_57 rfl (lv_at hl 1 rfl) ?_
      refine lv_sipush (v := (-1006)) hx hb dX7_openFor_58 (by decide) ?_
      refine lv_icmp_ne (tgt := 70) hx hb dX7_openFor_61 (by decide) (fun c11 => ?_) (fun c11 => ?_)
      · have hE := (if_neg c11).symm.trans hE
        refine lv_iload_n hx hb dX7_openFor_70 rfl (lv_at hl 0 rfl) ?_
        have hE := Option.some.inj hE
        subst hE
        exact W.iret (v := x10) hx hb hr (fun t ht _ => ⟨rfl, ht⟩) (fun _ h => absurd h List.not_mem_nil) dX7_openFor_71
      · have hE := (if_pos c11).symm.trans hE
        refine lv_sipush (v := (-1006)) hx hb dX7_openFor_64 (by decide) ?_
        refine lv_goto (tgt := 71) hx hb dX7_openFor_67 (by decide) ?_
        have hE := Option.some.inj hE
        subst hE
        exact W.iret (v := (-1006 : Int32)) hx hb hr (fun t ht _ => ⟨rfl, ht⟩) (fun _ h => absurd h List.not_mem_nil) dX7_openFor_71
  · have hE := (if_pos c2).symm.trans hE
    refine lv_sipush (v := (-1001)) hx hb dX7_openFor_7 (by decide) ?_
    have hE := Option.some.inj hE
    subst hE
    exact W.iret (v := (-1001 : Int32)) hx hb hr (fun t ht _ => ⟨rfl, ht⟩) (fun _ h => absurd h List.not_mem_nil) dX7_openFor_10
