set_option maxRecDepth 20000 in
theorem lkX5_isOpenAt_0 : Cond.fieldLink RX5 21 "TideWords$World" "gates" "LTideWords$Gates;" ∈ wsX5_isOpenAt := by decide +kernel
set_option maxRecDepth 20000 in
theorem iwX5_isOpenAt_X5 : ∀ w ∈ wsX50, w ∈ wsX5_isOpenAt := by decide +kernel
set_option maxRecDepth 20000 in
theorem lkX5_isOpenAt_1 : Cond.fieldLink RX5 12 "TideWords$World" "tides" "LTideWords$Tides;" ∈ wsX5_isOpenAt := by decide +kernel
theorem hvX3_gapAt : yX3_gapAt.cls = RX3 ∧ yX3_gapAt.cls ≠ "java/lang/invoke/MethodHandle" ∧ yX3_gapAt.cls ≠ "java/lang/invoke/VarHandle" ∧ (parseMethodDescriptor yX3_gapAt.desc).map (fun d => d.parameters.length) = some 1 := by decide +kernel
theorem hvX1_isOpenAcross : yX1_isOpenAcross.cls = RX1 ∧ yX1_isOpenAcross.cls ≠ "java/lang/invoke/MethodHandle" ∧ yX1_isOpenAcross.cls ≠ "java/lang/invoke/VarHandle" ∧ (parseMethodDescriptor yX1_isOpenAcross.desc).map (fun d => d.parameters.length) = some 2 := by decide +kernel
def fX5_isOpenAt (V : Mem) (a1 : Int32) (a2 : Int32) : Int32 := lt (fX3_gapAt V a2) (fun r1 => lt (fX1_isOpenAcross V a1 r1) (fun r2 => r2))
abbrev rmX5_isOpenAt : Room := { frames := 4, cells := 0, slots := 0, locals := 92 }
set_option maxHeartbeats 4000000 in
set_option maxRecDepth 100000 in
theorem mX5_isOpenAt (l : Launch) (X : kX) (b : Nat) (V : Mem) (a1 : Int32) (a2 : Int32) (out : Int32) (hE : fX5_isOpenAt V a1 a2 = out) : MR l yX5_isOpenAt wsX5_isOpenAt rmX5_isOpenAt X [.ref b, .int a1, .int a2] (RP X LW b V) (some (.int out)) := by
  refine mt_head (cc := cX5_isOpenAt) (maxL := 3) (ret := (some .boolean)) (own := RX5) (by decide) rfl rfl (Nat.le_of_ble_eq_true rfl) ?_
  intro p e s m below meth c ls F hr hlocks hnm hR hl
  have hx := F.1.1
  have hb := F.1.2.1
  have hl : lv_has ls 3 [(0, .ref b), (1, .int a1), (2, .int a2)] := hl
  unfold fX5_isOpenAt at hE
  refine lv_aload_n hx hb dX5_isOpenAt_0 rfl (lv_at hl 0 rfl) ?_
  refine rg_getr F hR 0 (ci := 5) rfl (C := RX5) (T := TX5) (N := 6) rfl iwX5_isOpenAt_X5 1 (d := 10) (n := 10) rfl rfl (by decide) rfl lkX5_isOpenAt_0 rfl dX5_isOpenAt_1 ?_
  refine lv_iload_n hx hb dX5_isOpenAt_4 rfl (lv_at hl 1 rfl) ?_
  refine lv_aload_n hx hb dX5_isOpenAt_5 rfl (lv_at hl 0 rfl) ?_
  refine rg_getr F hR 0 (ci := 5) rfl (C := RX5) (T := TX5) (N := 6) rfl iwX5_isOpenAt_X5 0 (d := 1) (n := 1) rfl rfl (by decide) rfl lkX5_isOpenAt_1 rfl dX5_isOpenAt_6 ?_
  refine lv_iload_n hx hb dX5_isOpenAt_9 rfl (lv_at hl 2 rfl) ?_
  obtain ⟨r1, er1, hE⟩ := lt_el hE
  refine rg_callRV (As := [.int a2]) (rest := [.int a1, .ref (b + 10)]) F (mX3_gapAt l X b V a2 r1 er1) (cwV 1 F.1.2.2.2.2 gX5_isOpenAt_X3_gapAt rfl rfl rfl hvX3_gapAt ⟨Nat.le_of_ble_eq_true rfl, Nat.le_of_ble_eq_true rfl⟩) (rp_recv F hR 1 rfl (C := RX3) (T := TX3) (N := 4) rfl rfl) hR rfl hl.1 (Nat.le_of_ble_eq_true rfl) dX5_isOpenAt_10 ⟨Nat.zero_le _, Nat.zero_le _⟩ rfl ?_
  obtain ⟨r2, er2, hE⟩ := lt_el hE
  refine rg_callRV (As := [.int a1, .int r1]) (rest := []) F (mX1_isOpenAcross l X b V a1 r1 r2 er2) (cwV 2 F.1.2.2.2.2 gX5_isOpenAt_X1_isOpenAcross rfl rfl rfl hvX1_isOpenAcross ⟨Nat.le_of_ble_eq_true rfl, Nat.le_of_ble_eq_true rfl⟩) (rp_recv F hR 10 rfl (C := RX1) (T := TX1) (N := 8) rfl rfl) hR rfl hl.1 (Nat.le_of_ble_eq_true rfl) dX5_isOpenAt_13 ⟨Nat.zero_le _, Nat.zero_le _⟩ rfl ?_
  subst hE
  exact W.zret (v := r2) hx hb hr (zX1_isOpenAcross er2) (fun t ht _ => ⟨rfl, ht⟩) (fun _ h => absurd h List.not_mem_nil) dX5_isOpenAt_16
theorem zX5_isOpenAt {V : Mem} {a1 : Int32} {a2 : Int32} {out : Int32} (h : fX5_isOpenAt V a1 a2 = out) : narrow .boolean (.int out) = .int out := by
  rw [← h]
  unfold fX5_isOpenAt
  repeat (first | rfl | exact zX1_isOpenAcross rfl | (simp only [lt]) | split)
set_option maxRecDepth 20000 in
theorem lkX5_openMask_0 : Cond.fieldLink RX5 40 "TideWords$World" "steps" "I" ∈ wsX5_openMask := by decide +kernel
set_option maxRecDepth 20000 in
theorem iwX5_openMask_X5 : ∀ w ∈ wsX50, w ∈ wsX5_openMask := by decide +kernel
theorem hvX5_isOpenAt : yX5_isOpenAt.cls = RX5 ∧ yX5_isOpenAt.cls ≠ "java/lang/invoke/MethodHandle" ∧ yX5_isOpenAt.cls ≠ "java/lang/invoke/VarHandle" ∧ (parseMethodDescriptor yX5_isOpenAt.desc).map (fun d => d.parameters.length) = some 2 := by decide +kernel
def lbX5_openMask_4 (V : Mem) (s1 : Int32 × Int32) : Option ((Int32 × Int32) ⊕ (Int32 × Int32)) := if (4 : Int32) ≤ s1.2 then some (.inr (s1.1, s1.2)) else lt (fX5_isOpenAt V s1.2 (V 0 0)) (fun r3 => if r3 = 0 then some (.inl (s1.1 ||| ((0 : Int32)), s1.2 + 1)) else some (.inl (s1.1 ||| (((1 : Int32)) <<< (s1.2 &&& 31)), s1.2 + 1)))
def qX5_openMask (V : Mem) : Option (Int32) := (it (lbX5_openMask_4 V) fuel ((0 : Int32), (0 : Int32))).bind (fun s5 => some (s5.1))
abbrev rmX5_openMask : Room := { frames := 5, cells := 0, slots := 0, locals := 114 }
set_option maxHeartbeats 4000000 in
set_option maxRecDepth 100000 in
theorem mX5_openMask (l : Launch) (X : kX) (b : Nat) (V : Mem) (out : Int32) (hE : qX5_openMask V = some out) : MR l yX5_openMask wsX5_openMask rmX5_openMask X [.ref b] (RP X LW b V) (some (.int out)) := by
  refine mt_head (cc := cX5_openMask) (maxL := 3) (ret := (some .int)) (own := RX5) (by decide) rfl rfl (Nat.le_of_ble_eq_true rfl) ?_
  intro p e s m below meth c ls F hr hlocks hnm hR hl
  have hx := F.1.1
  have hb := F.1.2.1
  have hl : lv_has ls 3 [(0, .ref b)] := hl
  unfold qX5_openMask at hE
  refine lv_iconst (v := 0) hx hb dX5_openMask_0 (by decide) ?_
  refine lv_istore_n (lv' := [(1, .int ((0 : Int32))), (0, .ref b)]) hx hb dX5_openMask_1 rfl hl (by decide) rfl (fun ls hl => ?_)
  refine lv_iconst (v := 0) hx hb dX5_openMask_2 (by decide) ?_
  refine lv_istore_n (lv' := [(2, .int ((0 : Int32))), (1, .int ((0 : Int32))), (0, .ref b)]) hx hb dX5_openMask_3 rfl hl (by decide) rfl (fun ls hl => ?_)
  obtain ⟨x6, hx6, hE⟩ := bd_el hE
  refine it_walk2 (body := lbX5_openMask_4 V) (Wh := fun s1 => ∀ (ls : Array Slot), lv_has ls 3 [(2, .int s1.2), (1, .int s1.1), (0, .ref b)] → W p l e rmX5_openMask s m ([.ref b] : List Value).toArray below meth c s.heap [] 0 0 (MQ below (cQr (some (.int out))) ([.ref b] : List Value).toArray s 0 0 (fun _ => False)) (F0 m 4 ls [])) (We := fun s5 => ∀ (ls : Array Slot), lv_has ls 3 [(2, .int s5.2), (1, .int s5.1), (0, .ref b)] → W p l e rmX5_openMask s m ([.ref b] : List Value).toArray below meth c s.heap [] 0 0 (MQ below (cQr (some (.int out))) ([.ref b] : List Value).toArray s 0 0 (fun _ => False)) (F0 m 37 ls [])) ?_ _ _ _ hx6 ?_ ls (lv_sub hl [0, 1, 2] rfl)
  · intro s1 r9 hE hL9 hR9 ls hl
    unfold lbX5_openMask_4 at hE
    refine lv_iload_n hx hb dX5_openMask_4 rfl (lv_at hl 0 rfl) ?_
    refine lv_iconst (v := 4) hx hb dX5_openMask_5 (by decide) ?_
    refine lv_icmp_ge (tgt := 37) hx hb dX5_openMask_6 (by decide) (fun c2 => ?_) (fun c2 => ?_)
    · have hE := (if_pos c2).symm.trans hE
      cases hE
      exact hR9 _ rfl ls (lv_sub hl [0, 1, 2] rfl)
    · have hE := (if_neg c2).symm.trans hE
      refine lv_iload_n hx hb dX5_openMask_9 rfl (lv_at hl 1 rfl) ?_
      refine lv_aload_n hx hb dX5_openMask_10 rfl (lv_at hl 2 rfl) ?_
      refine lv_iload_n hx hb dX5_openMask_11 rfl (lv_at hl 0 rfl) ?_
      refine lv_aload_n hx hb dX5_openMask_12 rfl (lv_at hl 2 rfl) ?_
      refine rg_geti F hR 0 (ci := 5) rfl (C := RX5) (T := TX5) (N := 6) rfl iwX5_openMask_X5 3 (i := 0) rfl (by decide) rfl lkX5_openMask_0 rfl dX5_openMask_13 ?_
      obtain ⟨r3, er3, hE⟩ := lt_el hE
      refine rg_callRV (As := [.int s1.2, .int (V 0 0)]) (rest := [.int s1.1]) F (mX5_isOpenAt l X b V s1.2 (V 0 0) r3 er3) (cwV 2 F.1.2.2.2.2 gX5_openMask_X5_isOpenAt rfl rfl rfl hvX5_isOpenAt ⟨Nat.le_of_ble_eq_true rfl, Nat.le_of_ble_eq_true rfl⟩) (rp_recv F hR 0 rfl (C := RX5) (T := TX5) (N := 6) rfl rfl) hR rfl hl.1 (Nat.le_of_ble_eq_true rfl) dX5_openMask_16 ⟨Nat.zero_le _, Nat.zero_le _⟩ rfl ?_
      refine lv_if_eq (tgt := 28) hx hb dX5_openMask_19 (by decide) (fun c4 => ?_) (fun c4 => ?_)
      · have hE := (if_pos c4).symm.trans hE
        refine lv_iconst (v := 0) hx hb dX5_openMask_28 (by decide) ?_
        refine lv_ior hx hb dX5_openMask_29 ?_
        refine lv_istore_n (lv' := [(1, .int (s1.1 ||| ((0 : Int32)))), (2, .int s1.2), (0, .ref b)]) hx hb dX5_openMask_30 rfl hl (by decide) rfl (fun ls hl => ?_)
        refine lv_iinc (v := s1.2 + 1) (lv' := [(2, .int (s1.2 + 1)), (1, .int (s1.1 ||| ((0 : Int32)))), (0, .ref b)]) hx hb dX5_openMask_31 hl (k := 1) rfl (congrArg (fun q => s1.2 + q) (by decide)) (by decide) rfl (fun ls hl => ?_)
        refine lv_goto (tgt := 4) hx hb dX5_openMask_34 (by decide) ?_
        cases hE
        exact hL9 _ rfl ls (lv_sub hl [0, 1, 2] rfl)
      · have hE := (if_neg c4).symm.trans hE
        refine lv_iconst (v := 1) hx hb dX5_openMask_22 (by decide) ?_
        refine lv_iload_n hx hb dX5_openMask_23 rfl (lv_at hl 0 rfl) ?_
        refine lv_ishl hx hb dX5_openMask_24 ?_
        refine lv_goto (tgt := 29) hx hb dX5_openMask_25 (by decide) ?_
        refine lv_ior hx hb dX5_openMask_29 ?_
        refine lv_istore_n (lv' := [(1, .int (s1.1 ||| (((1 : Int32)) <<< (s1.2 &&& 31)))), (2, .int s1.2), (0, .ref b)]) hx hb dX5_openMask_30 rfl hl (by decide) rfl (fun ls hl => ?_)
        refine lv_iinc (v := s1.2 + 1) (lv' := [(2, .int (s1.2 + 1)), (1, .int (s1.1 ||| (((1 : Int32)) <<< (s1.2 &&& 31)))), (0, .ref b)]) hx hb dX5_openMask_31 hl (k := 1) rfl (congrArg (fun q => s1.2 + q) (by decide)) (by decide) rfl (fun ls hl => ?_)
        refine lv_goto (tgt := 4) hx hb dX5_openMask_34 (by decide) ?_
        cases hE
        exact hL9 _ rfl ls (lv_sub hl [0, 1, 2] rfl)
  · intro ls hl
    refine lv_iload_n hx hb dX5_openMask_37 rfl (lv_at hl 1 rfl) ?_
    have hE := Option.some.inj hE
    subst hE
    exact W.iret (v := x6.1) hx hb hr (fun t ht _ => ⟨rfl, ht⟩) (fun _ h => absurd h List.not_mem_nil) dX5_openMask_38
set_option maxRecDepth 20000 in
theorem lkX5_stepsUntilOpen_0 : Cond.fieldLink RX5 40 "TideWords$World" "steps" "I" ∈ wsX5_stepsUntilOpen := by decide +kernel
set_option maxRecDepth 20000 in
theorem iwX5_stepsUntilOpen_X5 : ∀ w ∈ wsX50, w ∈ wsX5_stepsUntilOpen := by decide +kernel
def lbX5_stepsUntilOpen_2 (V : Mem) (a1 : Int32) (s1 : Int32) : Option ((Int32) ⊕ ((Int32) ⊕ (Int32))) := if (4000 : Int32) ≤ s1 then some (.inr (.inr s1)) else lt (fX5_isOpenAt V a1 ((V 0 0) + s1)) (fun r3 => if r3 = 0 then some (.inl (s1 + 1)) else some (.inr (.inl (s1))))
def qX5_stepsUntilOpen (V : Mem) (a1 : Int32) : Option (Int32) := (it (lbX5_stepsUntilOpen_2 V a1) fuel (0 : Int32)).bind (fun x6 => Sum.elim (fun r0 => some r0) (fun s5 => some ((-1006 : Int32))) x6)
abbrev rmX5_stepsUntilOpen : Room := { frames := 5, cells := 0, slots := 0, locals := 114 }
set_option maxHeartbeats 4000000 in
set_option maxRecDepth 100000 in
theorem mX5_stepsUntilOpen (l : Launch) (X : kX) (b : Nat) (V : Mem) (a1 : Int32) (out : Int32) (hE : qX5_stepsUntilOpen V a1 = some out) : MR l yX5_stepsUntilOpen wsX5_stepsUntilOpen rmX5_stepsUntilOpen X [.ref b, .int a1] (RP X LW b V) (some (.int out)) := by
  refine mt_head (cc := cX5_stepsUntilOpen) (maxL := 3) (ret := (some .int)) (own := RX5) (by decide) rfl rfl (Nat.le_of_ble_eq_true rfl) ?_
  intro p e s m below meth c ls F hr hlocks hnm hR hl
  have hx := F.1.1
  have hb := F.1.2.1
  have hl : lv_has ls 3 [(0, .ref b), (1, .int a1)] := hl
  unfold qX5_stepsUntilOpen at hE
  refine lv_iconst (v := 0) hx hb dX5_stepsUntilOpen_0 (by decide) ?_
  refine lv_istore_n (lv' := [(2, .int ((0 : Int32))), (0, .ref b), (1, .int a1)]) hx hb dX5_stepsUntilOpen_1 rfl hl (by decide) rfl (fun ls hl => ?_)
  obtain ⟨x6, hx6, hE⟩ := bd_el hE
  refine it_walk2 (body := lbX5_stepsUntilOpen_2 V a1) (Wh := fun s1 => ∀ (ls : Array Slot), lv_has ls 3 [(2, .int s1), (0, .ref b), (1, .int a1)] → W p l e rmX5_stepsUntilOpen s m ([.ref b, .int a1] : List Value).toArray below meth c s.heap [] 0 0 (MQ below (cQr (some (.int out))) ([.ref b, .int a1] : List Value).toArray s 0 0 (fun _ => False)) (F0 m 2 ls [])) (We := fun x6 => (∀ r0, x6 = .inl r0 → r0 = out) ∧ (∀ s5, x6 = .inr s5 → ∀ (ls : Array Slot), lv_has ls 3 [(2, .int s5), (0, .ref b), (1, .int a1)] → W p l e rmX5_stepsUntilOpen s m ([.ref b, .int a1] : List Value).toArray below meth c s.heap [] 0 0 (MQ below (cQr (some (.int out))) ([.ref b, .int a1] : List Value).toArray s 0 0 (fun _ => False)) (F0 m 31 ls []))) ?_ _ _ _ hx6 ?_ ls (lv_sub hl [0, 1, 2] rfl)
  · intro s1 r9 hE hL9 hR9 ls hl
    unfold lbX5_stepsUntilOpen_2 at hE
    refine lv_iload_n hx hb dX5_stepsUntilOpen_2 rfl (lv_at hl 0 rfl) ?_
    refine lv_sipush (v := 4000) hx hb dX5_stepsUntilOpen_3 (by decide) ?_
    refine lv_icmp_ge (tgt := 31) hx hb dX5_stepsUntilOpen_6 (by decide) (fun c2 => ?_) (fun c2 => ?_)
    · have hE := (if_pos c2).symm.trans hE
      cases hE
      exact (hR9 _ rfl).2 _ rfl ls (lv_sub hl [0, 1, 2] rfl)
    · have hE := (if_neg c2).symm.trans hE
      refine lv_aload_n hx hb dX5_stepsUntilOpen_9 rfl (lv_at hl 1 rfl) ?_
      refine lv_iload_n hx hb dX5_stepsUntilOpen_10 rfl (lv_at hl 2 rfl) ?_
      refine lv_aload_n hx hb dX5_stepsUntilOpen_11 rfl (lv_at hl 1 rfl) ?_
      refine rg_geti F hR 0 (ci := 5) rfl (C := RX5) (T := TX5) (N := 6) rfl iwX5_stepsUntilOpen_X5 3 (i := 0) rfl (by decide) rfl lkX5_stepsUntilOpen_0 rfl dX5_stepsUntilOpen_12 ?_
      refine lv_iload_n hx hb dX5_stepsUntilOpen_15 rfl (lv_at hl 0 rfl) ?_
      refine lv_iadd hx hb dX5_stepsUntilOpen_16 ?_
      obtain ⟨r3, er3, hE⟩ := lt_el hE
      refine rg_callRV (As := [.int a1, .int ((V 0 0) + s1)]) (rest := []) F (mX5_isOpenAt l X b V a1 ((V 0 0) + s1) r3 er3) (cwV 2 F.1.2.2.2.2 gX5_stepsUntilOpen_X5_isOpenAt rfl rfl rfl hvX5_isOpenAt ⟨Nat.le_of_ble_eq_true rfl, Nat.le_of_ble_eq_true rfl⟩) (rp_recv F hR 0 rfl (C := RX5) (T := TX5) (N := 6) rfl rfl) hR rfl hl.1 (Nat.le_of_ble_eq_true rfl) dX5_stepsUntilOpen_17 ⟨Nat.zero_le _, Nat.zero_le _⟩ rfl ?_
      refine lv_if_eq (tgt := 25) hx hb dX5_stepsUntilOpen_20 (by decide) (fun c4 => ?_) (fun c4 => ?_)
      · have hE := (if_pos c4).symm.trans hE
        refine lv_iinc (v := s1 + 1) (lv' := [(2, .int (s1 + 1)), (0, .ref b), (1, .int a1)]) hx hb dX5_stepsUntilOpen_25 hl (k := 0) rfl (congrArg (fun q => s1 + q) (by decide)) (by decide) rfl (fun ls hl => ?_)
        refine lv_goto (tgt := 2) hx hb dX5_stepsUntilOpen_28 (by decide) ?_
        cases hE
        exact hL9 _ rfl ls (lv_sub hl [0, 1, 2] rfl)
      · have hE := (if_neg c4).symm.trans hE
        refine lv_iload_n hx hb dX5_stepsUntilOpen_23 rfl (lv_at hl 0 rfl) ?_
        cases hE
        have hE := (hR9 _ rfl).1 _ rfl
        subst hE
        exact W.iret (v := s1) hx hb hr (fun t ht _ => ⟨rfl, ht⟩) (fun _ h => absurd h List.not_mem_nil) dX5_stepsUntilOpen_24
  · refine ⟨fun r0 h9 => ?_, fun s5 h9 => ?_⟩
    · subst h9
      exact Option.some.inj hE
    · subst h9
      have hE := sel_r hE
      intro ls hl
      refine lv_sipush (v := (-1006)) hx hb dX5_stepsUntilOpen_31 (by decide) ?_
      have hE := Option.some.inj hE
      subst hE
      exact W.iret (v := (-1006 : Int32)) hx hb hr (fun t ht _ => ⟨rfl, ht⟩) (fun _ h => absurd h List.not_mem_nil) dX5_stepsUntilOpen_34
def lbX5_openStepsFrom_2 (V : Mem) (a1 : Int32) (a2 : Int32) (s1 : Int32) : Option ((Int32) ⊕ (Int32)) := if (4000 : Int32) ≤ s1 then some (.inr s1) else lt (fX5_isOpenAt V a1 (a2 + s1)) (fun r3 => if r3 = 0 then some (.inr s1) else some (.inl (s1 + 1)))
def qX5_openStepsFrom (V : Mem) (a1 : Int32) (a2 : Int32) : Option (Int32) := (it (lbX5_openStepsFrom_2 V a1 a2) fuel (0 : Int32)).bind (fun s5 => some (s5))
abbrev rmX5_openStepsFrom : Room := { frames := 5, cells := 0, slots := 0, locals := 114 }
set_option maxHeartbeats 4000000 in
set_option maxRecDepth 100000 in
theorem mX5_openStepsFrom (l : Launch) (X : kX) (b : Nat) (V : Mem) (a1 : Int32) (a2 : Int32) (out : Int32) (hE : qX5_openStepsFrom V a1 a2 = some out) : MR l yX5_openStepsFrom wsX5_openStepsFrom rmX5_openStepsFrom X [.ref b, .int a1, .int a2] (RP X LW b V) (some (.int out)) := by
  refine mt_head (cc := cX5_openStepsFrom) (maxL := 4) (ret := (some .int)) (own := RX5) (by decide) rfl rfl (Nat.le_of_ble_eq_true rfl) ?_
  intro p e s m below meth c ls F hr hlocks hnm hR hl
  have hx := F.1.1
  have hb := F.1.2.1
  have hl : lv_has ls 4 [(0, .ref b), (1, .int a1), (2, .int a2)] := hl
  unfold qX5_openStepsFrom at hE
  refine lv_iconst (v := 0) hx hb dX5_openStepsFrom_0 (by decide) ?_
  refine lv_istore_n (lv' := [(3, .int ((0 : Int32))), (0, .ref b), (1, .int a1), (2, .int a2)]) hx hb dX5_openStepsFrom_1 rfl hl (by decide) rfl (fun ls hl => ?_)
  obtain ⟨x6, hx6, hE⟩ := bd_el hE
  refine it_walk2 (body := lbX5_openStepsFrom_2 V a1 a2) (Wh := fun s1 => ∀ (ls : Array Slot), lv_has ls 4 [(3, .int s1), (0, .ref b), (1, .int a1), (2, .int a2)] → W p l e rmX5_openStepsFrom s m ([.ref b, .int a1, .int a2] : List Value).toArray below meth c s.heap [] 0 0 (MQ below (cQr (some (.int out))) ([.ref b, .int a1, .int a2] : List Value).toArray s 0 0 (fun _ => False)) (F0 m 2 ls [])) (We := fun s5 => ∀ (ls : Array Slot), lv_has ls 4 [(3, .int s5), (0, .ref b), (1, .int a1), (2, .int a2)] → W p l e rmX5_openStepsFrom s m ([.ref b, .int a1, .int a2] : List Value).toArray below meth c s.heap [] 0 0 (MQ below (cQr (some (.int out))) ([.ref b, .int a1, .int a2] : List Value).toArray s 0 0 (fun _ => False)) (F0 m 26 ls [])) ?_ _ _ _ hx6 ?_ ls (lv_sub hl [0, 1, 2, 3] rfl)
  · intro s1 r9 hE hL9 hR9 ls hl
    unfold lbX5_openStepsFrom_2 at hE
    refine lv_iload_n hx hb dX5_openStepsFrom_2 rfl (lv_at hl 0 rfl) ?_
    refine lv_sipush (v := 4000) hx hb dX5_openStepsFrom_3 (by decide) ?_
    refine lv_icmp_ge (tgt := 26) hx hb dX5_openStepsFrom_6 (by decide) (fun c2 => ?_) (fun c2 => ?_)
    · have hE := (if_pos c2).symm.trans hE
      cases hE
      exact hR9 _ rfl ls (lv_sub hl [0, 1, 2, 3] rfl)
    · have hE := (if_neg c2).symm.trans hE
      refine lv_aload_n hx hb dX5_openStepsFrom_9 rfl (lv_at hl 1 rfl) ?_
      refine lv_iload_n hx hb dX5_openStepsFrom_10 rfl (lv_at hl 2 rfl) ?_
      refine lv_iload_n hx hb dX5_openStepsFrom_11 rfl (lv_at hl 3 rfl) ?_
      refine lv_iload_n hx hb dX5_openStepsFrom_12 rfl (lv_at hl 0 rfl) ?_
      refine lv_iadd hx hb dX5_openStepsFrom_13 ?_
      obtain ⟨r3, er3, hE⟩ := lt_el hE
      refine rg_callRV (As := [.int a1, .int (a2 + s1)]) (rest := []) F (mX5_isOpenAt l X b V a1 (a2 + s1) r3 er3) (cwV 2 F.1.2.2.2.2 gX5_openStepsFrom_X5_isOpenAt rfl rfl rfl hvX5_isOpenAt ⟨Nat.le_of_ble_eq_true rfl, Nat.le_of_ble_eq_true rfl⟩) (rp_recv F hR 0 rfl (C := RX5) (T := TX5) (N := 6) rfl rfl) hR rfl hl.1 (Nat.le_of_ble_eq_true rfl) dX5_openStepsFrom_14 ⟨Nat.zero_le _, Nat.zero_le _⟩ rfl ?_
      refine lv_if_eq (tgt := 26) hx hb dX5_openStepsFrom_17 (by decide) (fun c4 => ?_) (fun c4 => ?_)
      · have hE := (if_pos c4).symm.trans hE
        cases hE
        exact hR9 _ rfl ls (lv_sub hl [0, 1, 2, 3] rfl)
      · have hE := (if_neg c4).symm.trans hE
        refine lv_iinc (v := s1 + 1) (lv' := [(3, .int (s1 + 1)), (0, .ref b), (1, .int a1), (2, .int a2)]) hx hb dX5_openStepsFrom_20 hl (k := 0) rfl (congrArg (fun q => s1 + q) (by decide)) (by decide) rfl (fun ls hl => ?_)
        refine lv_goto (tgt := 2) hx hb dX5_openStepsFrom_23 (by decide) ?_
        cases hE
        exact hL9 _ rfl ls (lv_sub hl [0, 1, 2, 3] rfl)
  · intro ls hl
    refine lv_iload_n hx hb dX5_openStepsFrom_26 rfl (lv_at hl 0 rfl) ?_
    have hE := Option.some.inj hE
    subst hE
    exact W.iret (v := x6) hx hb hr (fun t ht _ => ⟨rfl, ht⟩) (fun _ h => absurd h List.not_mem_nil) dX5_openStepsFrom_27
def orm : Nat → (Nat → Int32) → Int32
  | 0, _ => 0
  | n + 1, f => orm n f ||| f n
def omf (V : Mem) (i : Nat) : Int32 := if fX5_isOpenAt V (nI i) (V 0 0) = 0 then 0 else 1 <<< (nI i &&& 31)
def fX5_openMask (V : Mem) : Int32 := orm 4 (omf V)
theorem tX5_openMask (V : Mem) : qX5_openMask V = some (fX5_openMask V) := by
  have h : it (lbX5_openMask_4 V) fuel ((0 : Int32), (0 : Int32)) = some (fX5_openMask V, nI 4) := by
    refine it_for (fun i => (orm i (omf V), nI i)) 4 (fun i hi => ?_) ?_ fuel (fuel_lt (by omega))
    · unfold lbX5_openMask_4 lt
      dsimp only
      rw [if_neg (ge4 hi), nI_1]
      by_cases h : fX5_isOpenAt V (nI i) (V 0 0) = 0
      · rw [if_pos h]
        show _ = some (Sum.inl (orm i (omf V) ||| omf V i, nI (i + 1)))
        rw [show omf V i = 0 from if_pos h]
      · rw [if_neg h]
        show _ = some (Sum.inl (orm i (omf V) ||| omf V i, nI (i + 1)))
        rw [show omf V i = 1 <<< (nI i &&& 31) from if_neg h]
    · unfold lbX5_openMask_4
      dsimp only
      rw [if_pos (show (4 : Int32) ≤ nI 4 from nI_le (Nat.le_refl _) (by omega))]
      rfl
  unfold qX5_openMask
  rw [h]
  rfl
theorem ge4k {i : Nat} (h : i < 4000) : ¬ (4000 : Int32) ≤ nI i := nI_ge (b := 4000) h (by decide)
theorem le4k : (4000 : Int32) ≤ nI 4000 := nI_le (a := 4000) (b := 4000) (Nat.le_refl _) (by decide)
def fX5_stepsUntilOpen (V : Mem) (a1 : Int32) : Int32 := fnd (fun i => decide (¬ fX5_isOpenAt V a1 (V 0 0 + nI i) = 0)) 4000
theorem tX5_stepsUntilOpen (V : Mem) (a1 : Int32) : qX5_stepsUntilOpen V a1 = some (fX5_stepsUntilOpen V a1) := by
  have h : it (lbX5_stepsUntilOpen_2 V a1) fuel (0 : Int32) = some ((fndO (fun i => decide (¬ fX5_isOpenAt V a1 (V 0 0 + nI i) = 0)) 4000 0).elim (Sum.inr (nI 4000)) (fun i => Sum.inl (nI i))) := by
    refine it_fnd (fun i => nI i) _ (fun i => Sum.inl (nI i)) _ 4000 (fun i hi => ?_) ?_ fuel (fuel_lt (by omega))
    · unfold lbX5_stepsUntilOpen_2 lt
      rw [if_neg (ge4k hi), nI_1]
      by_cases h : fX5_isOpenAt V a1 (V 0 0 + nI i) = 0
      · simp only [h, not_true, decide_false, if_true, if_false, Bool.false_eq_true]
      · simp only [h, not_false_eq_true, decide_true, if_true, if_false]
    · unfold lbX5_stepsUntilOpen_2
      rw [if_pos le4k]
  unfold qX5_stepsUntilOpen fX5_stepsUntilOpen fnd
  rw [h]
  cases fndO (fun i => decide (¬ fX5_isOpenAt V a1 (V 0 0 + nI i) = 0)) 4000 0 <;> rfl
def fX5_openStepsFrom (V : Mem) (a1 a2 : Int32) : Int32 := (fndO (fun i => decide (fX5_isOpenAt V a1 (a2 + nI i) = 0)) 4000 0).elim (nI 4000) nI
theorem tX5_openStepsFrom (V : Mem) (a1 a2 : Int32) : qX5_openStepsFrom V a1 a2 = some (fX5_openStepsFrom V a1 a2) := by
  have h : it (lbX5_openStepsFrom_2 V a1 a2) fuel (0 : Int32) = some ((fndO (fun i => decide (fX5_isOpenAt V a1 (a2 + nI i) = 0)) 4000 0).elim (nI 4000) nI) := by
    refine it_fnd (fun i => nI i) _ nI _ 4000 (fun i hi => ?_) ?_ fuel (fuel_lt (by omega))
    · unfold lbX5_openStepsFrom_2 lt
      rw [if_neg (ge4k hi), nI_1]
      by_cases h : fX5_isOpenAt V a1 (a2 + nI i) = 0
      · simp only [h, decide_true, if_true]
      · simp only [h, decide_false, if_false, Bool.false_eq_true]
    · unfold lbX5_openStepsFrom_2
      rw [if_pos le4k]
  unfold qX5_openStepsFrom fX5_openStepsFrom
  rw [h]
  rfl

theorem kX5_openMask (l : Launch) (X : kX) (b : Nat) (V : Mem) (out : Int32) (hE : fX5_openMask V = out) : MR l yX5_openMask wsX5_openMask rmX5_openMask X [.ref b] (RP X LW b V) (some (.int out)) := mX5_openMask l X b V out ((tX5_openMask V).trans (congrArg some hE))
theorem kX5_stepsUntilOpen (l : Launch) (X : kX) (b : Nat) (V : Mem) (a1 : Int32) (out : Int32) (hE : fX5_stepsUntilOpen V a1 = out) : MR l yX5_stepsUntilOpen wsX5_stepsUntilOpen rmX5_stepsUntilOpen X [.ref b, .int a1] (RP X LW b V) (some (.int out)) := mX5_stepsUntilOpen l X b V a1 out ((tX5_stepsUntilOpen V a1).trans (congrArg some hE))
theorem kX5_openStepsFrom (l : Launch) (X : kX) (b : Nat) (V : Mem) (a1 : Int32) (a2 : Int32) (out : Int32) (hE : fX5_openStepsFrom V a1 a2 = out) : MR l yX5_openStepsFrom wsX5_openStepsFrom rmX5_openStepsFrom X [.ref b, .int a1, .int a2] (RP X LW b V) (some (.int out)) := mX5_openStepsFrom l X b V a1 a2 out ((tX5_openStepsFrom V a1 a2).trans (congrArg some hE))
set_option maxRecDepth 20000 in
theorem lkX5_whereIs_0 : Cond.fieldLink RX5 21 "TideWords$World" "gates" "LTideWords$Gates;" ∈ wsX5_whereIs := by decide +kernel
set_option maxRecDepth 20000 in
theorem iwX5_whereIs_X5 : ∀ w ∈ wsX50, w ∈ wsX5_whereIs := by decide +kernel
theorem hvX1_gateWith : yX1_gateWith.cls = RX1 ∧ yX1_gateWith.cls ≠ "java/lang/invoke/MethodHandle" ∧ yX1_gateWith.cls ≠ "java/lang/invoke/VarHandle" ∧ (parseMethodDescriptor yX1_gateWith.desc).map (fun d => d.parameters.length) = some 1 := by decide +kernel
set_option maxRecDepth 20000 in
theorem lkX5_whereIs_1 : Cond.fieldLink RX5 28 "TideWords$World" "words" "LTideWords$Words;" ∈ wsX5_whereIs := by decide +kernel
def fX5_whereIs (V : Mem) (a1 : Int32) : Int32 := lt (fX1_gateWith V a1) (fun r1 => if r1 = (-1006 : Int32) then lt (fX4_placeIn V ((0 : Int32)) a1) (fun r3 => if r3 = (-1006 : Int32) then (1 : Int32) else (0 : Int32)) else ((2 : Int32)) + r1)
abbrev rmX5_whereIs : Room := { frames := 3, cells := 0, slots := 0, locals := 67 }
set_option maxHeartbeats 4000000 in
set_option maxRecDepth 100000 in
theorem mX5_whereIs (l : Launch) (X : kX) (b : Nat) (V : Mem) (a1 : Int32) (out : Int32) (hE : fX5_whereIs V a1 = out) : MR l yX5_whereIs wsX5_whereIs rmX5_whereIs X [.ref b, .int a1] (RP X LW b V) (some (.int out)) := by
  refine mt_head (cc := cX5_whereIs) (maxL := 3) (ret := (some .int)) (own := RX5) (by decide) rfl rfl (Nat.le_of_ble_eq_true rfl) ?_
  intro p e s m below meth c ls F hr hlocks hnm hR hl
  have hx := F.1.1
  have hb := F.1.2.1
  have hl : lv_has ls 3 [(0, .ref b), (1, .int a1)] := hl
  unfold fX5_whereIs at hE
  refine lv_aload_n hx hb dX5_whereIs_0 rfl (lv_at hl 0 rfl) ?_
  refine rg_getr F hR 0 (ci := 5) rfl (C := RX5) (T := TX5) (N := 6) rfl iwX5_whereIs_X5 1 (d := 10) (n := 10) rfl rfl (by decide) rfl lkX5_whereIs_0 rfl dX5_whereIs_1 ?_
  refine lv_iload_n hx hb dX5_whereIs_4 rfl (lv_at hl 1 rfl) ?_
  obtain ⟨r1, er1, hE⟩ := lt_el hE
  refine rg_callRV (As := [.int a1]) (rest := []) F (kX1_gateWith l X b V a1 r1 er1) (cwV 1 F.1.2.2.2.2 gX5_whereIs_X1_gateWith rfl rfl rfl hvX1_gateWith ⟨Nat.le_of_ble_eq_true rfl, Nat.le_of_ble_eq_true rfl⟩) (rp_recv F hR 10 rfl (C := RX1) (T := TX1) (N := 8) rfl rfl) hR rfl hl.1 (Nat.le_of_ble_eq_true rfl) dX5_whereIs_5 ⟨Nat.zero_le _, Nat.zero_le _⟩ rfl ?_
  refine lv_istore_n (lv' := [(2, .int r1), (0, .ref b), (1, .int a1)]) hx hb dX5_whereIs_8 rfl hl (by decide) rfl (fun ls hl => ?_)
  refine lv_iload_n hx hb dX5_whereIs_9 rfl (lv_at hl 0 rfl) ?_
  refine lv_sipush (v := (-1006)) hx hb dX5_whereIs_10 (by decide) ?_
  refine lv_icmp_eq (tgt := 20) hx hb dX5_whereIs_13 (by decide) (fun c2 => ?_) (fun c2 => ?_)
  · have hE := (if_pos c2).symm.trans hE
    refine lv_aload_n hx hb dX5_whereIs_20 rfl (lv_at hl 1 rfl) ?_
    refine rg_getr F hR 0 (ci := 5) rfl (C := RX5) (T := TX5) (N := 6) rfl iwX5_whereIs_X5 2 (d := 27) (n := 27) rfl rfl (by decide) rfl lkX5_whereIs_1 rfl dX5_whereIs_21 ?_
    refine lv_iconst (v := 0) hx hb dX5_whereIs_24 (by decide) ?_
    refine lv_iload_n hx hb dX5_whereIs_25 rfl (lv_at hl 2 rfl) ?_
    obtain ⟨r3, er3, hE⟩ := lt_el hE
    refine rg_callRV (As := [.int ((0 : Int32)), .int a1]) (rest := []) F (kX4_placeIn l X b V ((0 : Int32)) a1 r3 er3) (cwV 2 F.1.2.2.2.2 gX5_whereIs_X4_placeIn rfl rfl rfl hvX4_placeIn ⟨Nat.le_of_ble_eq_true rfl, Nat.le_of_ble_eq_true rfl⟩) (rp_recv F hR 27 rfl (C := RX4) (T := TX4) (N := 8) rfl rfl) hR rfl hl.1 (Nat.le_of_ble_eq_true rfl) dX5_whereIs_26 ⟨Nat.zero_le _, Nat.zero_le _⟩ rfl ?_
    refine lv_sipush (v := (-1006)) hx hb dX5_whereIs_29 (by decide) ?_
    refine lv_icmp_eq (tgt := 39) hx hb dX5_whereIs_32 (by decide) (fun c4 => ?_) (fun c4 => ?_)
    · have hE := (if_pos c4).symm.trans hE
      refine lv_iconst (v := 1) hx hb dX5_whereIs_39 (by decide) ?_
      subst hE
      exact W.iret (v := (1 : Int32)) hx hb hr (fun t ht _ => ⟨rfl, ht⟩) (fun _ h => absurd h List.not_mem_nil) dX5_whereIs_40
    · have hE := (if_neg c4).symm.trans hE
      refine lv_iconst (v := 0) hx hb dX5_whereIs_35 (by decide) ?_
      refine lv_goto (tgt := 40) hx hb dX5_whereIs_36 (by decide) ?_
      subst hE
      exact W.iret (v := (0 : Int32)) hx hb hr (fun t ht _ => ⟨rfl, ht⟩) (fun _ h => absurd h List.not_mem_nil) dX5_whereIs_40
  · have hE := (if_neg c2).symm.trans hE
    refine lv_iconst (v := 2) hx hb dX5_whereIs_16 (by decide) ?_
    refine lv_iload_n hx hb dX5_whereIs_17 rfl (lv_at hl 0 rfl) ?_
    refine lv_iadd hx hb dX5_whereIs_18 ?_
    subst hE
    exact W.iret (v := ((2 : Int32)) + r1) hx hb hr (fun t ht _ => ⟨rfl, ht⟩) (fun _ h => absurd h List.not_mem_nil) dX5_whereIs_19
set_option maxRecDepth 20000 in
theorem lkX5_tally_0 : Cond.fieldLink RX5 21 "TideWords$World" "gates" "LTideWords$Gates;" ∈ wsX5_tally := by decide +kernel
set_option maxRecDepth 20000 in
theorem iwX5_tally_X5 : ∀ w ∈ wsX50, w ∈ wsX5_tally := by decide +kernel
set_option maxRecDepth 20000 in
theorem lkX5_tally_1 : Cond.fieldLink RX5 108 "TideWords$Gates" "passedWords" "LTideWords$Cells;" ∈ wsX5_tally := by decide +kernel
set_option maxRecDepth 20000 in
theorem iwX5_tally_X1 : ∀ w ∈ wsX10, w ∈ wsX5_tally := by decide +kernel
theorem hvX0_sum : yX0_sum.cls = RX0 ∧ yX0_sum.cls ≠ "java/lang/invoke/MethodHandle" ∧ yX0_sum.cls ≠ "java/lang/invoke/VarHandle" ∧ (parseMethodDescriptor yX0_sum.desc).map (fun d => d.parameters.length) = some 0 := by decide +kernel
set_option maxRecDepth 20000 in
theorem sb_LW_23_LC4 : sbL LW 23 (LC 4) := sbl_of rfl
set_option maxRecDepth 20000 in
theorem lkX5_tally_2 : Cond.fieldLink RX5 121 "TideWords$Gates" "vainLetters" "LTideWords$Cells;" ∈ wsX5_tally := by decide +kernel
set_option maxRecDepth 20000 in
theorem sb_LW_25_LC4 : sbL LW 25 (LC 4) := sbl_of rfl
set_option maxRecDepth 20000 in
theorem lkX5_tally_3 : Cond.fieldLink RX5 28 "TideWords$World" "words" "LTideWords$Words;" ∈ wsX5_tally := by decide +kernel
set_option maxRecDepth 20000 in
theorem lkX5_tally_4 : Cond.fieldLink RX5 124 "TideWords$Words" "timesBack" "LTideWords$Cells;" ∈ wsX5_tally := by decide +kernel
set_option maxRecDepth 20000 in
theorem iwX5_tally_X4 : ∀ w ∈ wsX40, w ∈ wsX5_tally := by decide +kernel
set_option maxRecDepth 20000 in
theorem sb_LW_36_LC12 : sbL LW 36 (LC 12) := sbl_of rfl
set_option maxRecDepth 20000 in
theorem lkX5_tally_5 : Cond.fieldLink RX5 67 "TideWords$World" "idleSteps" "I" ∈ wsX5_tally := by decide +kernel
def fX5_tally (V : Mem) (a1 : Int32) : Int32 := if a1 = 0 then lt (csum 4 (V 24)) (fun r2 => r2) else if a1 = 1 then lt (csum 4 (V 26)) (fun r4 => r4) else if a1 = 2 then lt (csum 12 (V 37)) (fun r6 => r6) else V 0 2
abbrev rmX5_tally : Room := { frames := 1, cells := 0, slots := 0, locals := 22 }
set_option maxHeartbeats 4000000 in
set_option maxRecDepth 100000 in
theorem mX5_tally (l : Launch) (X : kX) (b : Nat) (V : Mem) (a1 : Int32) (out : Int32) (hE : fX5_tally V a1 = out) : MR l yX5_tally wsX5_tally rmX5_tally X [.ref b, .int a1] (RP X LW b V) (some (.int out)) := by
  refine mt_head (cc := cX5_tally) (maxL := 2) (ret := (some .int)) (own := RX5) (by decide) rfl rfl (Nat.le_of_ble_eq_true rfl) ?_
  intro p e s m below meth c ls F hr hlocks hnm hR hl
  have hx := F.1.1
  have hb := F.1.2.1
  have hl : lv_has ls 2 [(0, .ref b), (1, .int a1)] := hl
  unfold fX5_tally at hE
  refine lv_iload_n hx hb dX5_tally_0 rfl (lv_at hl 1 rfl) ?_
  by_cases c1 : a1 = 0
  · have hE := (if_pos c1).symm.trans hE
    refine lv_tableIn (off := 27) (tgt := 28) hx hb dX5_tally_1 (by rw [c1]; decide) (by rw [c1]; decide) (by rw [c1]; rfl) (by decide) ?_
    refine lv_aload_n hx hb dX5_tally_28 rfl (lv_at hl 0 rfl) ?_
    refine rg_getr F hR 0 (ci := 5) rfl (C := RX5) (T := TX5) (N := 6) rfl iwX5_tally_X5 1 (d := 10) (n := 10) rfl rfl (by decide) rfl lkX5_tally_0 rfl dX5_tally_29 ?_
    refine rg_getr F hR 10 (ci := 1) rfl (C := RX1) (T := TX1) (N := 8) rfl iwX5_tally_X1 6 (d := 13) (n := 23) rfl rfl (by decide) rfl lkX5_tally_1 rfl dX5_tally_32 ?_
    obtain ⟨r2, er2, hE⟩ := lt_el hE
    refine rg_callRV (As := []) (rest := []) F (kX0_sum l X 4 (by decide) (b + 23) (gv V 23)  r2 er2) (cwV 0 F.1.2.2.2.2 gX5_tally_X0_sum rfl rfl rfl hvX0_sum ⟨Nat.le_of_ble_eq_true rfl, Nat.le_of_ble_eq_true rfl⟩) (rp_recv F hR 23 rfl (C := RX0) (T := TX0) (N := 1) rfl rfl) (hR.sub 23 sb_LW_23_LC4) rfl hl.1 (Nat.le_of_ble_eq_true rfl) dX5_tally_35 ⟨Nat.zero_le _, Nat.zero_le _⟩ rfl ?_
    subst hE
    exact W.iret (v := r2) hx hb hr (fun t ht _ => ⟨rfl, ht⟩) (fun _ h => absurd h List.not_mem_nil) dX5_tally_38
  · have hE := (if_neg c1).symm.trans hE
    by_cases c3 : a1 = 1
    · have hE := (if_pos c3).symm.trans hE
      refine lv_tableIn (off := 38) (tgt := 39) hx hb dX5_tally_1 (by rw [c3]; decide) (by rw [c3]; decide) (by rw [c3]; rfl) (by decide) ?_
      refine lv_aload_n hx hb dX5_tally_39 rfl (lv_at hl 0 rfl) ?_
      refine rg_getr F hR 0 (ci := 5) rfl (C := RX5) (T := TX5) (N := 6) rfl iwX5_tally_X5 1 (d := 10) (n := 10) rfl rfl (by decide) rfl lkX5_tally_0 rfl dX5_tally_40 ?_
      refine rg_getr F hR 10 (ci := 1) rfl (C := RX1) (T := TX1) (N := 8) rfl iwX5_tally_X1 7 (d := 15) (n := 25) rfl rfl (by decide) rfl lkX5_tally_2 rfl dX5_tally_43 ?_
      obtain ⟨r4, er4, hE⟩ := lt_el hE
      refine rg_callRV (As := []) (rest := []) F (kX0_sum l X 4 (by decide) (b + 25) (gv V 25)  r4 er4) (cwV 0 F.1.2.2.2.2 gX5_tally_X0_sum rfl rfl rfl hvX0_sum ⟨Nat.le_of_ble_eq_true rfl, Nat.le_of_ble_eq_true rfl⟩) (rp_recv F hR 25 rfl (C := RX0) (T := TX0) (N := 1) rfl rfl) (hR.sub 25 sb_LW_25_LC4) rfl hl.1 (Nat.le_of_ble_eq_true rfl) dX5_tally_46 ⟨Nat.zero_le _, Nat.zero_le _⟩ rfl ?_
      subst hE
      exact W.iret (v := r4) hx hb hr (fun t ht _ => ⟨rfl, ht⟩) (fun _ h => absurd h List.not_mem_nil) dX5_tally_49
    · have hE := (if_neg c3).symm.trans hE
      by_cases c5 : a1 = 2
      · have hE := (if_pos c5).symm.trans hE
        refine lv_tableIn (off := 49) (tgt := 50) hx hb dX5_tally_1 (by rw [c5]; decide) (by rw [c5]; decide) (by rw [c5]; rfl) (by decide) ?_
        refine lv_aload_n hx hb dX5_tally_50 rfl (lv_at hl 0 rfl) ?_
        refine rg_getr F hR 0 (ci := 5) rfl (C := RX5) (T := TX5) (N := 6) rfl iwX5_tally_X5 2 (d := 27) (n := 27) rfl rfl (by decide) rfl lkX5_tally_3 rfl dX5_tally_51 ?_
        refine rg_getr F hR 27 (ci := 4) rfl (C := RX4) (T := TX4) (N := 8) rfl iwX5_tally_X4 4 (d := 9) (n := 36) rfl rfl (by decide) rfl lkX5_tally_4 rfl dX5_tally_54 ?_
        obtain ⟨r6, er6, hE⟩ := lt_el hE
        refine rg_callRV (As := []) (rest := []) F (kX0_sum l X 12 (by decide) (b + 36) (gv V 36)  r6 er6) (cwV 0 F.1.2.2.2.2 gX5_tally_X0_sum rfl rfl rfl hvX0_sum ⟨Nat.le_of_ble_eq_true rfl, Nat.le_of_ble_eq_true rfl⟩) (rp_recv F hR 36 rfl (C := RX0) (T := TX0) (N := 1) rfl rfl) (hR.sub 36 sb_LW_36_LC12) rfl hl.1 (Nat.le_of_ble_eq_true rfl) dX5_tally_57 ⟨Nat.zero_le _, Nat.zero_le _⟩ rfl ?_
        subst hE
        exact W.iret (v := r6) hx hb hr (fun t ht _ => ⟨rfl, ht⟩) (fun _ h => absurd h List.not_mem_nil) dX5_tally_60
      · have hE := (if_neg c5).symm.trans hE
        refine lv_tableOut (tgt := 61) hx hb dX5_tally_1 (ts_out3 c1 c3 c5) (by decide) ?_
        refine lv_aload_n hx hb dX5_tally_61 rfl (lv_at hl 0 rfl) ?_
        refine rg_geti F hR 0 (ci := 5) rfl (C := RX5) (T := TX5) (N := 6) rfl iwX5_tally_X5 5 (i := 2) rfl (by decide) rfl lkX5_tally_5 rfl dX5_tally_62 ?_
        subst hE
        exact W.iret (v := V 0 2) hx hb hr (fun t ht _ => ⟨rfl, ht⟩) (fun _ h => absurd h List.not_mem_nil) dX5_tally_65
