set_option maxRecDepth 20000 in
theorem lkX4_letterOf_0 : Cond.fieldLink RX4 14 "TideWords$Words" "lengths" "LTideWords$Cells;" ∈ wsX4_letterOf := by decide +kernel
set_option maxRecDepth 20000 in
theorem iwX4_letterOf_X4 : ∀ w ∈ wsX40, w ∈ wsX4_letterOf := by decide +kernel
set_option maxRecDepth 20000 in
theorem sb_LW_28_LC12 : sbL LW 28 (LC 12) := sbl_of rfl
set_option maxRecDepth 20000 in
theorem lkX4_letterOf_1 : Cond.fieldLink RX4 20 "TideWords$Words" "letters" "LTideWords$Cells;" ∈ wsX4_letterOf := by decide +kernel
set_option maxRecDepth 20000 in
theorem sb_LW_30_LC72 : sbL LW 30 (LC 72) := sbl_of rfl
def fX4_letterOf (V : Mem) (a1 : Int32) (a2 : Int32) : Int32 := if a2 < 0 then (-1006 : Int32) else lt (cget 12 (V 29) a1) (fun r2 => if r2 ≤ a2 then (-1006 : Int32) else lt (cget 72 (V 31) ((a1 * ((6 : Int32))) + a2)) (fun r4 => r4))
abbrev rmX4_letterOf : Room := { frames := 1, cells := 0, slots := 0, locals := 21 }
set_option maxHeartbeats 4000000 in
set_option maxRecDepth 100000 in
theorem mX4_letterOf (l : Launch) (X : kX) (b : Nat) (V : Mem) (a1 : Int32) (a2 : Int32) (out : Int32) (hE : fX4_letterOf V a1 a2 = out) : MR l yX4_letterOf wsX4_letterOf rmX4_letterOf X [.ref (b + 27), .int a1, .int a2] (RP X LW b V) (some (.int out)) := by
  refine mt_head (cc := cX4_letterOf) (maxL := 4) (ret := (some .int)) (own := RX4) (by decide) rfl rfl (Nat.le_of_ble_eq_true rfl) ?_
  intro p e s m below meth c ls F hr hlocks hnm hR hl
  have hx := F.1.1
  have hb := F.1.2.1
  have hl : lv_has ls 4 [(0, .ref (b + 27)), (1, .int a1), (2, .int a2)] := hl
  unfold fX4_letterOf at hE
  refine lv_iload_n hx hb dX4_letterOf_0 rfl (lv_at hl 2 rfl) ?_
  refine lv_if_lt (tgt := 20) hx hb dX4_letterOf_1 (by decide) (fun c1 => ?_) (fun c1 => ?_)
  · have hE := (if_pos c1).symm.trans hE
    refine lv_iconst (v := 0) hx hb dX4_letterOf_20 (by decide) ?_
    refine lv_istore_n (lv' := [(3, .int ((0 : Int32))), (0, .ref (b + 27)), (1, .int a1), (2, .int a2)]) hx hb dX4_letterOf_21 rfl hl (by decide) rfl (fun ls hl => ?_)
    refine lv_iload_n hx hb dX4_letterOf_22 rfl (lv_at hl 0 rfl) ?_
    refine lv_if_eq (tgt := 42) hx hb dX4_letterOf_23 (by decide) (fun _ => ?_) (fun c => absurd c (by decide))
    refine lv_sipush (v := (-1006)) hx hb dX4_letterOf_42 (by decide) ?_
    subst hE
    exact W.iret (v := (-1006 : Int32)) hx hb hr (fun t ht _ => ⟨rfl, ht⟩) (fun _ h => absurd h List.not_mem_nil) dX4_letterOf_45
  · have hE := (if_neg c1).symm.trans hE
    refine lv_iload_n hx hb dX4_letterOf_4 rfl (lv_at hl 2 rfl) ?_
    refine lv_aload_n hx hb dX4_letterOf_5 rfl (lv_at hl 0 rfl) ?_
    refine rg_getr F hR 27 (ci := 4) rfl (C := RX4) (T := TX4) (N := 8) rfl iwX4_letterOf_X4 0 (d := 1) (n := 28) rfl rfl (by decide) rfl lkX4_letterOf_0 rfl dX4_letterOf_6 ?_
    refine lv_iload_n hx hb dX4_letterOf_9 rfl (lv_at hl 1 rfl) ?_
    obtain ⟨r2, er2, hE⟩ := lt_el hE
    refine rg_callRV (As := [.int a1]) (rest := [.int a2]) F (kX0_get l X 12 (by decide) (b + 28) (gv V 28) a1 r2 er2) (cwV 1 F.1.2.2.2.2 gX4_letterOf_X0_get rfl rfl rfl hvX0_get ⟨Nat.le_of_ble_eq_true rfl, Nat.le_of_ble_eq_true rfl⟩) (rp_recv F hR 28 rfl (C := RX0) (T := TX0) (N := 1) rfl rfl) (hR.sub 28 sb_LW_28_LC12) rfl hl.1 (Nat.le_of_ble_eq_true rfl) dX4_letterOf_10 ⟨Nat.zero_le _, Nat.zero_le _⟩ rfl ?_
    refine lv_icmp_ge (tgt := 20) hx hb dX4_letterOf_13 (by decide) (fun c3 => ?_) (fun c3 => ?_)
    · have hE := (if_pos c3).symm.trans hE
      refine lv_iconst (v := 0) hx hb dX4_letterOf_20 (by decide) ?_
      refine lv_istore_n (lv' := [(3, .int ((0 : Int32))), (0, .ref (b + 27)), (1, .int a1), (2, .int a2)]) hx hb dX4_letterOf_21 rfl hl (by decide) rfl (fun ls hl => ?_)
      refine lv_iload_n hx hb dX4_letterOf_22 rfl (lv_at hl 0 rfl) ?_
      refine lv_if_eq (tgt := 42) hx hb dX4_letterOf_23 (by decide) (fun _ => ?_) (fun c => absurd c (by decide))
      refine lv_sipush (v := (-1006)) hx hb dX4_letterOf_42 (by decide) ?_
      subst hE
      exact W.iret (v := (-1006 : Int32)) hx hb hr (fun t ht _ => ⟨rfl, ht⟩) (fun _ h => absurd h List.not_mem_nil) dX4_letterOf_45
    · have hE := (if_neg c3).symm.trans hE
      refine lv_iconst (v := 1) hx hb dX4_letterOf_16 (by decide) ?_
      refine lv_goto (tgt := 21) hx hb dX4_letterOf_17 (by decide) ?_
      refine lv_istore_n (lv' := [(3, .int ((1 : Int32))), (0, .ref (b + 27)), (1, .int a1), (2, .int a2)]) hx hb dX4_letterOf_21 rfl hl (by decide) rfl (fun ls hl => ?_)
      refine lv_iload_n hx hb dX4_letterOf_22 rfl (lv_at hl 0 rfl) ?_
      refine lv_if_eq (tgt := 42) hx hb dX4_letterOf_23 (by decide) (fun c => absurd c (by decide)) (fun _ => ?_)
      refine lv_aload_n hx hb dX4_letterOf_26 rfl (lv_at hl 1 rfl) ?_
      refine rg_getr F hR 27 (ci := 4) rfl (C := RX4) (T := TX4) (N := 8) rfl iwX4_letterOf_X4 1 (d := 3) (n := 30) rfl rfl (by decide) rfl lkX4_letterOf_1 rfl dX4_letterOf_27 ?_
      refine lv_iload_n hx hb dX4_letterOf_30 rfl (lv_at hl 2 rfl) ?_
      refine lv_bipush (v := 6) hx hb dX4_letterOf_31 (by decide) ?_
      refine lv_imul hx hb dX4_letterOf_33 ?_
      refine lv_iload_n hx hb dX4_letterOf_34 rfl (lv_at hl 3 rfl) ?_
      refine lv_iadd hx hb dX4_letterOf_35 ?_
      obtain ⟨r4, er4, hE⟩ := lt_el hE
      refine rg_callRV (As := [.int ((a1 * ((6 : Int32))) + a2)]) (rest := []) F (kX0_get l X 72 (by decide) (b + 30) (gv V 30) ((a1 * ((6 : Int32))) + a2) r4 er4) (cwV 1 F.1.2.2.2.2 gX4_letterOf_X0_get rfl rfl rfl hvX0_get ⟨Nat.le_of_ble_eq_true rfl, Nat.le_of_ble_eq_true rfl⟩) (rp_recv F hR 30 rfl (C := RX0) (T := TX0) (N := 1) rfl rfl) (hR.sub 30 sb_LW_30_LC72) rfl hl.1 (Nat.le_of_ble_eq_true rfl) dX4_letterOf_36 ⟨Nat.zero_le _, Nat.zero_le _⟩ rfl ?_
      refine lv_goto (tgt := 45) hx hb dX4_letterOf_39 (by decide) ?_
      subst hE
      exact W.iret (v := r4) hx hb hr (fun t ht _ => ⟨rfl, ht⟩) (fun _ h => absurd h List.not_mem_nil) dX4_letterOf_45
set_option maxRecDepth 20000 in
theorem lkX4_hasPassed_0 : Cond.fieldLink RX4 23 "TideWords$Words" "passedSteps" "LTideWords$Cells;" ∈ wsX4_hasPassed := by decide +kernel
set_option maxRecDepth 20000 in
theorem iwX4_hasPassed_X4 : ∀ w ∈ wsX40, w ∈ wsX4_hasPassed := by decide +kernel
set_option maxRecDepth 20000 in
theorem sb_LW_32_LC12 : sbL LW 32 (LC 12) := sbl_of rfl
def fX4_hasPassed (V : Mem) (a1 : Int32) : Int32 := lt (cget 12 (V 33) a1) (fun r1 => if r1 = (-1006 : Int32) then (0 : Int32) else (1 : Int32))
abbrev rmX4_hasPassed : Room := { frames := 1, cells := 0, slots := 0, locals := 21 }
set_option maxHeartbeats 4000000 in
set_option maxRecDepth 100000 in
theorem mX4_hasPassed (l : Launch) (X : kX) (b : Nat) (V : Mem) (a1 : Int32) (out : Int32) (hE : fX4_hasPassed V a1 = out) : MR l yX4_hasPassed wsX4_hasPassed rmX4_hasPassed X [.ref (b + 27), .int a1] (RP X LW b V) (some (.int out)) := by
  refine mt_head (cc := cX4_hasPassed) (maxL := 2) (ret := (some .boolean)) (own := RX4) (by decide) rfl rfl (Nat.le_of_ble_eq_true rfl) ?_
  intro p e s m below meth c ls F hr hlocks hnm hR hl
  have hx := F.1.1
  have hb := F.1.2.1
  have hl : lv_has ls 2 [(0, .ref (b + 27)), (1, .int a1)] := hl
  unfold fX4_hasPassed at hE
  refine lv_aload_n hx hb dX4_hasPassed_0 rfl (lv_at hl 0 rfl) ?_
  refine rg_getr F hR 27 (ci := 4) rfl (C := RX4) (T := TX4) (N := 8) rfl iwX4_hasPassed_X4 2 (d := 5) (n := 32) rfl rfl (by decide) rfl lkX4_hasPassed_0 rfl dX4_hasPassed_1 ?_
  refine lv_iload_n hx hb dX4_hasPassed_4 rfl (lv_at hl 1 rfl) ?_
  obtain ⟨r1, er1, hE⟩ := lt_el hE
  refine rg_callRV (As := [.int a1]) (rest := []) F (kX0_get l X 12 (by decide) (b + 32) (gv V 32) a1 r1 er1) (cwV 1 F.1.2.2.2.2 gX4_hasPassed_X0_get rfl rfl rfl hvX0_get ⟨Nat.le_of_ble_eq_true rfl, Nat.le_of_ble_eq_true rfl⟩) (rp_recv F hR 32 rfl (C := RX0) (T := TX0) (N := 1) rfl rfl) (hR.sub 32 sb_LW_32_LC12) rfl hl.1 (Nat.le_of_ble_eq_true rfl) dX4_hasPassed_5 ⟨Nat.zero_le _, Nat.zero_le _⟩ rfl ?_
  refine lv_sipush (v := (-1006)) hx hb dX4_hasPassed_8 (by decide) ?_
  refine lv_icmp_eq (tgt := 18) hx hb dX4_hasPassed_11 (by decide) (fun c2 => ?_) (fun c2 => ?_)
  · have hE := (if_pos c2).symm.trans hE
    refine lv_iconst (v := 0) hx hb dX4_hasPassed_18 (by decide) ?_
    subst hE
    exact W.zret (v := (0 : Int32)) hx hb hr rfl (fun t ht _ => ⟨rfl, ht⟩) (fun _ h => absurd h List.not_mem_nil) dX4_hasPassed_19
  · have hE := (if_neg c2).symm.trans hE
    refine lv_iconst (v := 1) hx hb dX4_hasPassed_14 (by decide) ?_
    refine lv_goto (tgt := 19) hx hb dX4_hasPassed_15 (by decide) ?_
    subst hE
    exact W.zret (v := (1 : Int32)) hx hb hr rfl (fun t ht _ => ⟨rfl, ht⟩) (fun _ h => absurd h List.not_mem_nil) dX4_hasPassed_19
set_option maxRecDepth 20000 in
theorem lkX4_wordAt_0 : Cond.fieldLink RX4 32 "TideWords$Words" "rows" "LTideWords$Cells;" ∈ wsX4_wordAt := by decide +kernel
set_option maxRecDepth 20000 in
theorem iwX4_wordAt_X4 : ∀ w ∈ wsX40, w ∈ wsX4_wordAt := by decide +kernel
set_option maxRecDepth 20000 in
theorem sb_LW_38_LC24 : sbL LW 38 (LC 24) := sbl_of rfl
def fX4_wordAt (V : Mem) (a1 : Int32) (a2 : Int32) : Int32 := lt (cget 24 (V 39) ((a1 * ((12 : Int32))) + a2)) (fun r1 => r1)
abbrev rmX4_wordAt : Room := { frames := 1, cells := 0, slots := 0, locals := 21 }
set_option maxHeartbeats 4000000 in
set_option maxRecDepth 100000 in
theorem mX4_wordAt (l : Launch) (X : kX) (b : Nat) (V : Mem) (a1 : Int32) (a2 : Int32) (out : Int32) (hE : fX4_wordAt V a1 a2 = out) : MR l yX4_wordAt wsX4_wordAt rmX4_wordAt X [.ref (b + 27), .int a1, .int a2] (RP X LW b V) (some (.int out)) := by
  refine mt_head (cc := cX4_wordAt) (maxL := 3) (ret := (some .int)) (own := RX4) (by decide) rfl rfl (Nat.le_of_ble_eq_true rfl) ?_
  intro p e s m below meth c ls F hr hlocks hnm hR hl
  have hx := F.1.1
  have hb := F.1.2.1
  have hl : lv_has ls 3 [(0, .ref (b + 27)), (1, .int a1), (2, .int a2)] := hl
  unfold fX4_wordAt at hE
  refine lv_aload_n hx hb dX4_wordAt_0 rfl (lv_at hl 0 rfl) ?_
  refine rg_getr F hR 27 (ci := 4) rfl (C := RX4) (T := TX4) (N := 8) rfl iwX4_wordAt_X4 5 (d := 11) (n := 38) rfl rfl (by decide) rfl lkX4_wordAt_0 rfl dX4_wordAt_1 ?_
  refine lv_iload_n hx hb dX4_wordAt_4 rfl (lv_at hl 1 rfl) ?_
  refine lv_bipush (v := 12) hx hb dX4_wordAt_5 (by decide) ?_
  refine lv_imul hx hb dX4_wordAt_7 ?_
  refine lv_iload_n hx hb dX4_wordAt_8 rfl (lv_at hl 2 rfl) ?_
  refine lv_iadd hx hb dX4_wordAt_9 ?_
  obtain ⟨r1, er1, hE⟩ := lt_el hE
  refine rg_callRV (As := [.int ((a1 * ((12 : Int32))) + a2)]) (rest := []) F (kX0_get l X 24 (by decide) (b + 38) (gv V 38) ((a1 * ((12 : Int32))) + a2) r1 er1) (cwV 1 F.1.2.2.2.2 gX4_wordAt_X0_get rfl rfl rfl hvX0_get ⟨Nat.le_of_ble_eq_true rfl, Nat.le_of_ble_eq_true rfl⟩) (rp_recv F hR 38 rfl (C := RX0) (T := TX0) (N := 1) rfl rfl) (hR.sub 38 sb_LW_38_LC24) rfl hl.1 (Nat.le_of_ble_eq_true rfl) dX4_wordAt_10 ⟨Nat.zero_le _, Nat.zero_le _⟩ rfl ?_
  subst hE
  exact W.iret (v := r1) hx hb hr (fun t ht _ => ⟨rfl, ht⟩) (fun _ h => absurd h List.not_mem_nil) dX4_wordAt_13
set_option maxRecDepth 20000 in
theorem lkX4_placeIn_0 : Cond.fieldLink RX4 35 "TideWords$Words" "rowLengths" "LTideWords$Cells;" ∈ wsX4_placeIn := by decide +kernel
set_option maxRecDepth 20000 in
theorem iwX4_placeIn_X4 : ∀ w ∈ wsX40, w ∈ wsX4_placeIn := by decide +kernel
set_option maxRecDepth 20000 in
theorem sb_LW_40_LC2 : sbL LW 40 (LC 2) := sbl_of rfl
theorem hvX4_wordAt : yX4_wordAt.cls = RX4 ∧ yX4_wordAt.cls ≠ "java/lang/invoke/MethodHandle" ∧ yX4_wordAt.cls ≠ "java/lang/invoke/VarHandle" ∧ (parseMethodDescriptor yX4_wordAt.desc).map (fun d => d.parameters.length) = some 2 := by decide +kernel
def lbX4_placeIn_12 (V : Mem) (a1 : Int32) (a2 : Int32) (r1 : Int32) (s2 : Int32) : Option ((Int32) ⊕ ((Int32) ⊕ (Int32))) := if r1 ≤ s2 then some (.inr (.inr s2)) else lt (fX4_wordAt V a1 s2) (fun r4 => if r4 = a2 then some (.inr (.inl (s2))) else some (.inl (s2 + 1)))
def qX4_placeIn (V : Mem) (a1 : Int32) (a2 : Int32) : Option (Int32) := lt (cget 2 (V 41) a1) (fun r1 => (it (lbX4_placeIn_12 V a1 a2 r1) fuel (0 : Int32)).bind (fun x7 => Sum.elim (fun r0 => some r0) (fun s6 => some ((-1006 : Int32))) x7))
abbrev rmX4_placeIn : Room := { frames := 2, cells := 0, slots := 0, locals := 43 }
set_option maxHeartbeats 4000000 in
set_option maxRecDepth 100000 in
theorem mX4_placeIn (l : Launch) (X : kX) (b : Nat) (V : Mem) (a1 : Int32) (a2 : Int32) (out : Int32) (hE : qX4_placeIn V a1 a2 = some out) : MR l yX4_placeIn wsX4_placeIn rmX4_placeIn X [.ref (b + 27), .int a1, .int a2] (RP X LW b V) (some (.int out)) := by
  refine mt_head (cc := cX4_placeIn) (maxL := 5) (ret := (some .int)) (own := RX4) (by decide) rfl rfl (Nat.le_of_ble_eq_true rfl) ?_
  intro p e s m below meth c ls F hr hlocks hnm hR hl
  have hx := F.1.1
  have hb := F.1.2.1
  have hl : lv_has ls 5 [(0, .ref (b + 27)), (1, .int a1), (2, .int a2)] := hl
  unfold qX4_placeIn at hE
  refine lv_aload_n hx hb dX4_placeIn_0 rfl (lv_at hl 0 rfl) ?_
  refine rg_getr F hR 27 (ci := 4) rfl (C := RX4) (T := TX4) (N := 8) rfl iwX4_placeIn_X4 6 (d := 13) (n := 40) rfl rfl (by decide) rfl lkX4_placeIn_0 rfl dX4_placeIn_1 ?_
  refine lv_iload_n hx hb dX4_placeIn_4 rfl (lv_at hl 1 rfl) ?_
  obtain ⟨r1, er1, hE⟩ := lt_el hE
  refine rg_callRV (As := [.int a1]) (rest := []) F (kX0_get l X 2 (by decide) (b + 40) (gv V 40) a1 r1 er1) (cwV 1 F.1.2.2.2.2 gX4_placeIn_X0_get rfl rfl rfl hvX0_get ⟨Nat.le_of_ble_eq_true rfl, Nat.le_of_ble_eq_true rfl⟩) (rp_recv F hR 40 rfl (C := RX0) (T := TX0) (N := 1) rfl rfl) (hR.sub 40 sb_LW_40_LC2) rfl hl.1 (Nat.le_of_ble_eq_true rfl) dX4_placeIn_5 ⟨Nat.zero_le _, Nat.zero_le _⟩ rfl ?_
  refine lv_istore_n (lv' := [(3, .int r1), (0, .ref (b + 27)), (1, .int a1), (2, .int a2)]) hx hb dX4_placeIn_8 rfl hl (by decide) rfl (fun ls hl => ?_)
  refine lv_iconst (v := 0) hx hb dX4_placeIn_9 (by decide) ?_
  refine lv_istore (lv' := [(4, .int ((0 : Int32))), (3, .int r1), (0, .ref (b + 27)), (1, .int a1), (2, .int a2)]) hx hb dX4_placeIn_10 hl (by decide) rfl (fun ls hl => ?_)
  obtain ⟨x7, hx7, hE⟩ := bd_el hE
  refine it_walk2 (body := lbX4_placeIn_12 V a1 a2 r1) (Wh := fun s2 => ∀ (ls : Array Slot), lv_has ls 5 [(4, .int s2), (3, .int r1), (0, .ref (b + 27)), (1, .int a1), (2, .int a2)] → W p l e rmX4_placeIn s m ([.ref (b + 27), .int a1, .int a2] : List Value).toArray below meth c s.heap [] 0 0 (MQ below (cQr (some (.int out))) ([.ref (b + 27), .int a1, .int a2] : List Value).toArray s 0 0 (fun _ => False)) (F0 m 12 ls [])) (We := fun x7 => (∀ r0, x7 = .inl r0 → r0 = out) ∧ (∀ s6, x7 = .inr s6 → ∀ (ls : Array Slot), lv_has ls 5 [(4, .int s6), (3, .int r1), (0, .ref (b + 27)), (1, .int a1), (2, .int a2)] → W p l e rmX4_placeIn s m ([.ref (b + 27), .int a1, .int a2] : List Value).toArray below meth c s.heap [] 0 0 (MQ below (cQr (some (.int out))) ([.ref (b + 27), .int a1, .int a2] : List Value).toArray s 0 0 (fun _ => False)) (F0 m 38 ls []))) ?_ _ _ _ hx7 ?_ ls (lv_sub hl [0, 1, 2, 3, 4] rfl)
  · intro s2 r9 hE hL9 hR9 ls hl
    unfold lbX4_placeIn_12 at hE
    refine lv_iload hx hb dX4_placeIn_12 (lv_at hl 0 rfl) ?_
    refine lv_iload_n hx hb dX4_placeIn_14 rfl (lv_at hl 1 rfl) ?_
    refine lv_icmp_ge (tgt := 38) hx hb dX4_placeIn_15 (by decide) (fun c3 => ?_) (fun c3 => ?_)
    · have hE := (if_pos c3).symm.trans hE
      cases hE
      exact (hR9 _ rfl).2 _ rfl ls (lv_sub hl [0, 1, 2, 3, 4] rfl)
    · have hE := (if_neg c3).symm.trans hE
      refine lv_aload_n hx hb dX4_placeIn_18 rfl (lv_at hl 2 rfl) ?_
      refine lv_iload_n hx hb dX4_placeIn_19 rfl (lv_at hl 3 rfl) ?_
      refine lv_iload hx hb dX4_placeIn_20 (lv_at hl 0 rfl) ?_
      obtain ⟨r4, er4, hE⟩ := lt_el hE
      refine rg_callRV (As := [.int a1, .int s2]) (rest := []) F (mX4_wordAt l X b V a1 s2 r4 er4) (cwV 2 F.1.2.2.2.2 gX4_placeIn_X4_wordAt rfl rfl rfl hvX4_wordAt ⟨Nat.le_of_ble_eq_true rfl, Nat.le_of_ble_eq_true rfl⟩) (rp_recv F hR 27 rfl (C := RX4) (T := TX4) (N := 8) rfl rfl) hR rfl hl.1 (Nat.le_of_ble_eq_true rfl) dX4_placeIn_22 ⟨Nat.zero_le _, Nat.zero_le _⟩ rfl ?_
      refine lv_iload_n hx hb dX4_placeIn_25 rfl (lv_at hl 4 rfl) ?_
      refine lv_icmp_ne (tgt := 32) hx hb dX4_placeIn_26 (by decide) (fun c5 => ?_) (fun c5 => ?_)
      · have hE := (if_neg c5).symm.trans hE
        refine lv_iinc (v := s2 + 1) (lv' := [(4, .int (s2 + 1)), (3, .int r1), (0, .ref (b + 27)), (1, .int a1), (2, .int a2)]) hx hb dX4_placeIn_32 hl (k := 0) rfl (congrArg (fun q => s2 + q) (by decide)) (by decide) rfl (fun ls hl => ?_)
        refine lv_goto (tgt := 12) hx hb dX4_placeIn_35 (by decide) ?_
        cases hE
        exact hL9 _ rfl ls (lv_sub hl [0, 1, 2, 3, 4] rfl)
      · have hE := (if_pos c5).symm.trans hE
        refine lv_iload hx hb dX4_placeIn_29 (lv_at hl 0 rfl) ?_
        cases hE
        have hE := (hR9 _ rfl).1 _ rfl
        subst hE
        exact W.iret (v := s2) hx hb hr (fun t ht _ => ⟨rfl, ht⟩) (fun _ h => absurd h List.not_mem_nil) dX4_placeIn_31
  · refine ⟨fun r0 h9 => ?_, fun s6 h9 => ?_⟩
    · subst h9
      exact Option.some.inj hE
    · subst h9
      have hE := sel_r hE
      intro ls hl
      refine lv_sipush (v := (-1006)) hx hb dX4_placeIn_38 (by decide) ?_
      have hE := Option.some.inj hE
      subst hE
      exact W.iret (v := (-1006 : Int32)) hx hb hr (fun t ht _ => ⟨rfl, ht⟩) (fun _ h => absurd h List.not_mem_nil) dX4_placeIn_41
set_option maxRecDepth 20000 in
theorem lkX4_lettersInRow_0 : Cond.fieldLink RX4 35 "TideWords$Words" "rowLengths" "LTideWords$Cells;" ∈ wsX4_lettersInRow := by decide +kernel
set_option maxRecDepth 20000 in
theorem iwX4_lettersInRow_X4 : ∀ w ∈ wsX40, w ∈ wsX4_lettersInRow := by decide +kernel
set_option maxRecDepth 20000 in
theorem lkX4_lettersInRow_1 : Cond.fieldLink RX4 14 "TideWords$Words" "lengths" "LTideWords$Cells;" ∈ wsX4_lettersInRow := by decide +kernel
def lbX4_lettersInRow_14 (V : Mem) (a1 : Int32) (r1 : Int32) (s2 : Int32 × Int32) : Option ((Int32 × Int32) ⊕ (Int32 × Int32)) := if r1 ≤ s2.2 then some (.inr (s2.1, s2.2)) else lt (fX4_wordAt V a1 s2.2) (fun r4 => lt (cget 12 (V 29) r4) (fun r5 => some (.inl (s2.1 + r5, s2.2 + 1))))
def qX4_lettersInRow (V : Mem) (a1 : Int32) : Option (Int32) := lt (cget 2 (V 41) a1) (fun r1 => (it (lbX4_lettersInRow_14 V a1 r1) fuel ((0 : Int32), (0 : Int32))).bind (fun s6 => some (s6.1)))
abbrev rmX4_lettersInRow : Room := { frames := 2, cells := 0, slots := 0, locals := 43 }
set_option maxHeartbeats 4000000 in
set_option maxRecDepth 100000 in
theorem mX4_lettersInRow (l : Launch) (X : kX) (b : Nat) (V : Mem) (a1 : Int32) (out : Int32) (hE : qX4_lettersInRow V a1 = some out) : MR l yX4_lettersInRow wsX4_lettersInRow rmX4_lettersInRow X [.ref (b + 27), .int a1] (RP X LW b V) (some (.int out)) := by
  refine mt_head (cc := cX4_lettersInRow) (maxL := 5) (ret := (some .int)) (own := RX4) (by decide) rfl rfl (Nat.le_of_ble_eq_true rfl) ?_
  intro p e s m below meth c ls F hr hlocks hnm hR hl
  have hx := F.1.1
  have hb := F.1.2.1
  have hl : lv_has ls 5 [(0, .ref (b + 27)), (1, .int a1)] := hl
  unfold qX4_lettersInRow at hE
  refine lv_aload_n hx hb dX4_lettersInRow_0 rfl (lv_at hl 0 rfl) ?_
  refine rg_getr F hR 27 (ci := 4) rfl (C := RX4) (T := TX4) (N := 8) rfl iwX4_lettersInRow_X4 6 (d := 13) (n := 40) rfl rfl (by decide) rfl lkX4_lettersInRow_0 rfl dX4_lettersInRow_1 ?_
  refine lv_iload_n hx hb dX4_lettersInRow_4 rfl (lv_at hl 1 rfl) ?_
  obtain ⟨r1, er1, hE⟩ := lt_el hE
  refine rg_callRV (As := [.int a1]) (rest := []) F (kX0_get l X 2 (by decide) (b + 40) (gv V 40) a1 r1 er1) (cwV 1 F.1.2.2.2.2 gX4_lettersInRow_X0_get rfl rfl rfl hvX0_get ⟨Nat.le_of_ble_eq_true rfl, Nat.le_of_ble_eq_true rfl⟩) (rp_recv F hR 40 rfl (C := RX0) (T := TX0) (N := 1) rfl rfl) (hR.sub 40 sb_LW_40_LC2) rfl hl.1 (Nat.le_of_ble_eq_true rfl) dX4_lettersInRow_5 ⟨Nat.zero_le _, Nat.zero_le _⟩ rfl ?_
  refine lv_istore_n (lv' := [(2, .int r1), (0, .ref (b + 27)), (1, .int a1)]) hx hb dX4_lettersInRow_8 rfl hl (by decide) rfl (fun ls hl => ?_)
  refine lv_iconst (v := 0) hx hb dX4_lettersInRow_9 (by decide) ?_
  refine lv_istore_n (lv' := [(3, .int ((0 : Int32))), (2, .int r1), (0, .ref (b + 27)), (1, .int a1)]) hx hb dX4_lettersInRow_10 rfl hl (by decide) rfl (fun ls hl => ?_)
  refine lv_iconst (v := 0) hx hb dX4_lettersInRow_11 (by decide) ?_
  refine lv_istore (lv' := [(4, .int ((0 : Int32))), (3, .int ((0 : Int32))), (2, .int r1), (0, .ref (b + 27)), (1, .int a1)]) hx hb dX4_lettersInRow_12 hl (by decide) rfl (fun ls hl => ?_)
  obtain ⟨x7, hx7, hE⟩ := bd_el hE
  refine it_walk2 (body := lbX4_lettersInRow_14 V a1 r1) (Wh := fun s2 => ∀ (ls : Array Slot), lv_has ls 5 [(4, .int s2.2), (3, .int s2.1), (2, .int r1), (0, .ref (b + 27)), (1, .int a1)] → W p l e rmX4_lettersInRow s m ([.ref (b + 27), .int a1] : List Value).toArray below meth c s.heap [] 0 0 (MQ below (cQr (some (.int out))) ([.ref (b + 27), .int a1] : List Value).toArray s 0 0 (fun _ => False)) (F0 m 14 ls [])) (We := fun s6 => ∀ (ls : Array Slot), lv_has ls 5 [(4, .int s6.2), (3, .int s6.1), (2, .int r1), (0, .ref (b + 27)), (1, .int a1)] → W p l e rmX4_lettersInRow s m ([.ref (b + 27), .int a1] : List Value).toArray below meth c s.heap [] 0 0 (MQ below (cQr (some (.int out))) ([.ref (b + 27), .int a1] : List Value).toArray s 0 0 (fun _ => False)) (F0 m 43 ls [])) ?_ _ _ _ hx7 ?_ ls (lv_sub hl [0, 1, 2, 3, 4] rfl)
  · intro s2 r9 hE hL9 hR9 ls hl
    unfold lbX4_lettersInRow_14 at hE
    refine lv_iload hx hb dX4_lettersInRow_14 (lv_at hl 0 rfl) ?_
    refine lv_iload_n hx hb dX4_lettersInRow_16 rfl (lv_at hl 2 rfl) ?_
    refine lv_icmp_ge (tgt := 43) hx hb dX4_lettersInRow_17 (by decide) (fun c3 => ?_) (fun c3 => ?_)
    · have hE := (if_pos c3).symm.trans hE
      cases hE
      exact hR9 _ rfl ls (lv_sub hl [0, 1, 2, 3, 4] rfl)
    · have hE := (if_neg c3).symm.trans hE
      refine lv_iload_n hx hb dX4_lettersInRow_20 rfl (lv_at hl 1 rfl) ?_
      refine lv_aload_n hx hb dX4_lettersInRow_21 rfl (lv_at hl 3 rfl) ?_
      refine rg_getr F hR 27 (ci := 4) rfl (C := RX4) (T := TX4) (N := 8) rfl iwX4_lettersInRow_X4 0 (d := 1) (n := 28) rfl rfl (by decide) rfl lkX4_lettersInRow_1 rfl dX4_lettersInRow_22 ?_
      refine lv_aload_n hx hb dX4_lettersInRow_25 rfl (lv_at hl 3 rfl) ?_
      refine lv_iload_n hx hb dX4_lettersInRow_26 rfl (lv_at hl 4 rfl) ?_
      refine lv_iload hx hb dX4_lettersInRow_27 (lv_at hl 0 rfl) ?_
      obtain ⟨r4, er4, hE⟩ := lt_el hE
      refine rg_callRV (As := [.int a1, .int s2.2]) (rest := [.ref (b + 28), .int s2.1]) F (mX4_wordAt l X b V a1 s2.2 r4 er4) (cwV 2 F.1.2.2.2.2 gX4_lettersInRow_X4_wordAt rfl rfl rfl hvX4_wordAt ⟨Nat.le_of_ble_eq_true rfl, Nat.le_of_ble_eq_true rfl⟩) (rp_recv F hR 27 rfl (C := RX4) (T := TX4) (N := 8) rfl rfl) hR rfl hl.1 (Nat.le_of_ble_eq_true rfl) dX4_lettersInRow_29 ⟨Nat.zero_le _, Nat.zero_le _⟩ rfl ?_
      obtain ⟨r5, er5, hE⟩ := lt_el hE
      refine rg_callRV (As := [.int r4]) (rest := [.int s2.1]) F (kX0_get l X 12 (by decide) (b + 28) (gv V 28) r4 r5 er5) (cwV 1 F.1.2.2.2.2 gX4_lettersInRow_X0_get rfl rfl rfl hvX0_get ⟨Nat.le_of_ble_eq_true rfl, Nat.le_of_ble_eq_true rfl⟩) (rp_recv F hR 28 rfl (C := RX0) (T := TX0) (N := 1) rfl rfl) (hR.sub 28 sb_LW_28_LC12) rfl hl.1 (Nat.le_of_ble_eq_true rfl) dX4_lettersInRow_32 ⟨Nat.zero_le _, Nat.zero_le _⟩ rfl ?_
      refine lv_iadd hx hb dX4_lettersInRow_35 ?_
      refine lv_istore_n (lv' := [(3, .int (s2.1 + r5)), (4, .int s2.2), (2, .int r1), (0, .ref (b + 27)), (1, .int a1)]) hx hb dX4_lettersInRow_36 rfl hl (by decide) rfl (fun ls hl => ?_)
      refine lv_iinc (v := s2.2 + 1) (lv' := [(4, .int (s2.2 + 1)), (3, .int (s2.1 + r5)), (2, .int r1), (0, .ref (b + 27)), (1, .int a1)]) hx hb dX4_lettersInRow_37 hl (k := 1) rfl (congrArg (fun q => s2.2 + q) (by decide)) (by decide) rfl (fun ls hl => ?_)
      refine lv_goto (tgt := 14) hx hb dX4_lettersInRow_40 (by decide) ?_
      cases hE
      exact hL9 _ rfl ls (lv_sub hl [0, 1, 2, 3, 4] rfl)
  · intro ls hl
    refine lv_iload_n hx hb dX4_lettersInRow_43 rfl (lv_at hl 1 rfl) ?_
    have hE := Option.some.inj hE
    subst hE
    exact W.iret (v := x7.1) hx hb hr (fun t ht _ => ⟨rfl, ht⟩) (fun _ h => absurd h List.not_mem_nil) dX4_lettersInRow_44
set_option maxRecDepth 20000 in
theorem lkX4_waitingInRow_0 : Cond.fieldLink RX4 35 "TideWords$Words" "rowLengths" "LTideWords$Cells;" ∈ wsX4_waitingInRow := by decide +kernel
set_option maxRecDepth 20000 in
theorem iwX4_waitingInRow_X4 : ∀ w ∈ wsX40, w ∈ wsX4_waitingInRow := by decide +kernel
theorem hvX4_hasPassed : yX4_hasPassed.cls = RX4 ∧ yX4_hasPassed.cls ≠ "java/lang/invoke/MethodHandle" ∧ yX4_hasPassed.cls ≠ "java/lang/invoke/VarHandle" ∧ (parseMethodDescriptor yX4_hasPassed.desc).map (fun d => d.parameters.length) = some 1 := by decide +kernel
def lbX4_waitingInRow_14 (V : Mem) (a1 : Int32) (r1 : Int32) (s2 : Int32 × Int32) : Option ((Int32 × Int32) ⊕ (Int32 × Int32)) := if r1 ≤ s2.2 then some (.inr (s2.1, s2.2)) else lt (fX4_wordAt V a1 s2.2) (fun r4 => lt (fX4_hasPassed V r4) (fun r5 => if r5 = 0 then some (.inl (s2.1 + ((1 : Int32)), s2.2 + 1)) else some (.inl (s2.1 + ((0 : Int32)), s2.2 + 1))))
def qX4_waitingInRow (V : Mem) (a1 : Int32) : Option (Int32) := lt (cget 2 (V 41) a1) (fun r1 => (it (lbX4_waitingInRow_14 V a1 r1) fuel ((0 : Int32), (0 : Int32))).bind (fun s7 => some (s7.1)))
abbrev rmX4_waitingInRow : Room := { frames := 2, cells := 0, slots := 0, locals := 43 }
set_option maxHeartbeats 4000000 in
set_option maxRecDepth 100000 in
theorem mX4_waitingInRow (l : Launch) (X : kX) (b : Nat) (V : Mem) (a1 : Int32) (out : Int32) (hE : qX4_waitingInRow V a1 = some out) : MR l yX4_waitingInRow wsX4_waitingInRow rmX4_waitingInRow X [.ref (b + 27), .int a1] (RP X LW b V) (some (.int out)) := by
  refine mt_head (cc := cX4_waitingInRow) (maxL := 5) (ret := (some .int)) (own := RX4) (by decide) rfl rfl (Nat.le_of_ble_eq_true rfl) ?_
  intro p e s m below meth c ls F hr hlocks hnm hR hl
  have hx := F.1.1
  have hb := F.1.2.1
  have hl : lv_has ls 5 [(0, .ref (b + 27)), (1, .int a1)] := hl
  unfold qX4_waitingInRow at hE
  refine lv_aload_n hx hb dX4_waitingInRow_0 rfl (lv_at hl 0 rfl) ?_
  refine rg_getr F hR 27 (ci := 4) rfl (C := RX4) (T := TX4) (N := 8) rfl iwX4_waitingInRow_X4 6 (d := 13) (n := 40) rfl rfl (by decide) rfl lkX4_waitingInRow_0 rfl dX4_waitingInRow_1 ?_
  refine lv_iload_n hx hb dX4_waitingInRow_4 rfl (lv_at hl 1 rfl) ?_
  obtain ⟨r1, er1, hE⟩ := lt_el hE
  refine rg_callRV (As := [.int a1]) (rest := []) F (kX0_get l X 2 (by decide) (b + 40) (gv V 40) a1 r1 er1) (cwV 1 F.1.2.2.2.2 gX4_waitingInRow_X0_get rfl rfl rfl hvX0_get ⟨Nat.le_of_ble_eq_true rfl, Nat.le_of_ble_eq_true rfl⟩) (rp_recv F hR 40 rfl (C := RX0) (T := TX0) (N := 1) rfl rfl) (hR.sub 40 sb_LW_40_LC2) rfl hl.1 (Nat.le_of_ble_eq_true rfl) dX4_waitingInRow_5 ⟨Nat.zero_le _, Nat.zero_le _⟩ rfl ?_
  refine lv_istore_n (lv' := [(2, .int r1), (0, .ref (b + 27)), (1, .int a1)]) hx hb dX4_waitingInRow_8 rfl hl (by decide) rfl (fun ls hl => ?_)
  refine lv_iconst (v := 0) hx hb dX4_waitingInRow_9 (by decide) ?_
  refine lv_istore_n (lv' := [(3, .int ((0 : Int32))), (2, .int r1), (0, .ref (b + 27)), (1, .int a1)]) hx hb dX4_waitingInRow_10 rfl hl (by decide) rfl (fun ls hl => ?_)
  refine lv_iconst (v := 0) hx hb dX4_waitingInRow_11 (by decide) ?_
  refine lv_istore (lv' := [(4, .int ((0 : Int32))), (3, .int ((0 : Int32))), (2, .int r1), (0, .ref (b + 27)), (1, .int a1)]) hx hb dX4_waitingInRow_12 hl (by decide) rfl (fun ls hl => ?_)
  obtain ⟨x8, hx8, hE⟩ := bd_el hE
  refine it_walk2 (body := lbX4_waitingInRow_14 V a1 r1) (Wh := fun s2 => ∀ (ls : Array Slot), lv_has ls 5 [(4, .int s2.2), (3, .int s2.1), (2, .int r1), (0, .ref (b + 27)), (1, .int a1)] → W p l e rmX4_waitingInRow s m ([.ref (b + 27), .int a1] : List Value).toArray below meth c s.heap [] 0 0 (MQ below (cQr (some (.int out))) ([.ref (b + 27), .int a1] : List Value).toArray s 0 0 (fun _ => False)) (F0 m 14 ls [])) (We := fun s7 => ∀ (ls : Array Slot), lv_has ls 5 [(4, .int s7.2), (3, .int s7.1), (2, .int r1), (0, .ref (b + 27)), (1, .int a1)] → W p l e rmX4_waitingInRow s m ([.ref (b + 27), .int a1] : List Value).toArray below meth c s.heap [] 0 0 (MQ below (cQr (some (.int out))) ([.ref (b + 27), .int a1] : List Value).toArray s 0 0 (fun _ => False)) (F0 m 48 ls [])) ?_ _ _ _ hx8 ?_ ls (lv_sub hl [0, 1, 2, 3, 4] rfl)
  · intro s2 r9 hE hL9 hR9 ls hl
    unfold lbX4_waitingInRow_14 at hE
    refine lv_iload hx hb dX4_waitingInRow_14 (lv_at hl 0 rfl) ?_
    refine lv_iload_n hx hb dX4_waitingInRow_16 rfl (lv_at hl 2 rfl) ?_
    refine lv_icmp_ge (tgt := 48) hx hb dX4_waitingInRow_17 (by decide) (fun c3 => ?_) (fun c3 => ?_)
    · have hE := (if_pos c3).symm.trans hE
      cases hE
      exact hR9 _ rfl ls (lv_sub hl [0, 1, 2, 3, 4] rfl)
    · have hE := (if_neg c3).symm.trans hE
      refine lv_iload_n hx hb dX4_waitingInRow_20 rfl (lv_at hl 1 rfl) ?_
      refine lv_aload_n hx hb dX4_waitingInRow_21 rfl (lv_at hl 3 rfl) ?_
      refine lv_aload_n hx hb dX4_waitingInRow_22 rfl (lv_at hl 3 rfl) ?_
      refine lv_iload_n hx hb dX4_waitingInRow_23 rfl (lv_at hl 4 rfl) ?_
      refine lv_iload hx hb dX4_waitingInRow_24 (lv_at hl 0 rfl) ?_
      obtain ⟨r4, er4, hE⟩ := lt_el hE
      refine rg_callRV (As := [.int a1, .int s2.2]) (rest := [.ref (b + 27), .int s2.1]) F (mX4_wordAt l X b V a1 s2.2 r4 er4) (cwV 2 F.1.2.2.2.2 gX4_waitingInRow_X4_wordAt rfl rfl rfl hvX4_wordAt ⟨Nat.le_of_ble_eq_true rfl, Nat.le_of_ble_eq_true rfl⟩) (rp_recv F hR 27 rfl (C := RX4) (T := TX4) (N := 8) rfl rfl) hR rfl hl.1 (Nat.le_of_ble_eq_true rfl) dX4_waitingInRow_26 ⟨Nat.zero_le _, Nat.zero_le _⟩ rfl ?_
      obtain ⟨r5, er5, hE⟩ := lt_el hE
      refine rg_callRV (As := [.int r4]) (rest := [.int s2.1]) F (mX4_hasPassed l X b V r4 r5 er5) (cwV 1 F.1.2.2.2.2 gX4_waitingInRow_X4_hasPassed rfl rfl rfl hvX4_hasPassed ⟨Nat.le_of_ble_eq_true rfl, Nat.le_of_ble_eq_true rfl⟩) (rp_recv F hR 27 rfl (C := RX4) (T := TX4) (N := 8) rfl rfl) hR rfl hl.1 (Nat.le_of_ble_eq_true rfl) dX4_waitingInRow_29 ⟨Nat.zero_le _, Nat.zero_le _⟩ rfl ?_
      refine lv_if_eq (tgt := 39) hx hb dX4_waitingInRow_32 (by decide) (fun c6 => ?_) (fun c6 => ?_)
      · have hE := (if_pos c6).symm.trans hE
        refine lv_iconst (v := 1) hx hb dX4_waitingInRow_39 (by decide) ?_
        refine lv_iadd hx hb dX4_waitingInRow_40 ?_
        refine lv_istore_n (lv' := [(3, .int (s2.1 + ((1 : Int32)))), (4, .int s2.2), (2, .int r1), (0, .ref (b + 27)), (1, .int a1)]) hx hb dX4_waitingInRow_41 rfl hl (by decide) rfl (fun ls hl => ?_)
        refine lv_iinc (v := s2.2 + 1) (lv' := [(4, .int (s2.2 + 1)), (3, .int (s2.1 + ((1 : Int32)))), (2, .int r1), (0, .ref (b + 27)), (1, .int a1)]) hx hb dX4_waitingInRow_42 hl (k := 1) rfl (congrArg (fun q => s2.2 + q) (by decide)) (by decide) rfl (fun ls hl => ?_)
        refine lv_goto (tgt := 14) hx hb dX4_waitingInRow_45 (by decide) ?_
        cases hE
        exact hL9 _ rfl ls (lv_sub hl [0, 1, 2, 3, 4] rfl)
      · have hE := (if_neg c6).symm.trans hE
        refine lv_iconst (v := 0) hx hb dX4_waitingInRow_35 (by decide) ?_
        refine lv_goto (tgt := 40) hx hb dX4_waitingInRow_36 (by decide) ?_
        refine lv_iadd hx hb dX4_waitingInRow_40 ?_
        refine lv_istore_n (lv' := [(3, .int (s2.1 + ((0 : Int32)))), (4, .int s2.2), (2, .int r1), (0, .ref (b + 27)), (1, .int a1)]) hx hb dX4_waitingInRow_41 rfl hl (by decide) rfl (fun ls hl => ?_)
        refine lv_iinc (v := s2.2 + 1) (lv' := [(4, .int (s2.2 + 1)), (3, .int (s2.1 + ((0 : Int32)))), (2, .int r1), (0, .ref (b + 27)), (1, .int a1)]) hx hb dX4_waitingInRow_42 hl (k := 1) rfl (congrArg (fun q => s2.2 + q) (by decide)) (by decide) rfl (fun ls hl => ?_)
        refine lv_goto (tgt := 14) hx hb dX4_waitingInRow_45 (by decide) ?_
        cases hE
        exact hL9 _ rfl ls (lv_sub hl [0, 1, 2, 3, 4] rfl)
  · intro ls hl
    refine lv_iload_n hx hb dX4_waitingInRow_48 rfl (lv_at hl 1 rfl) ?_
    have hE := Option.some.inj hE
    subst hE
    exact W.iret (v := x8.1) hx hb hr (fun t ht _ => ⟨rfl, ht⟩) (fun _ h => absurd h List.not_mem_nil) dX4_waitingInRow_49
def fX4_placeIn (V : Mem) (a1 a2 : Int32) : Int32 := fnd (fun i => decide (fX4_wordAt V a1 (nI i) = a2)) (cget 2 (V 41) a1).toNatClampNeg
theorem tX4_placeIn (V : Mem) (a1 a2 : Int32) : qX4_placeIn V a1 a2 = some (fX4_placeIn V a1 a2) := by
  unfold qX4_placeIn fX4_placeIn fnd lt
  dsimp only
  generalize cget 2 (V 41) a1 = r
  have h : it (lbX4_placeIn_12 V a1 a2 r) fuel (0 : Int32) = some ((fndO (fun i => decide (fX4_wordAt V a1 (nI i) = a2)) r.toNatClampNeg 0).elim (Sum.inr (nI r.toNatClampNeg)) (fun i => Sum.inl (nI i))) := by
    refine it_fnd (fun i => nI i) _ (fun i => Sum.inl (nI i)) _ r.toNatClampNeg (fun i hi => ?_) ?_ fuel (fuel_lt (by have := r32 r; omega))
    · unfold lbX4_placeIn_12 lt
      rw [if_neg (r_lt hi), nI_1]
      by_cases h : fX4_wordAt V a1 (nI i) = a2
      · simp only [h, decide_true, if_true]
      · simp only [h, decide_false, if_false, Bool.false_eq_true]
    · unfold lbX4_placeIn_12
      rw [if_pos (r_ge r)]
  rw [h]
  cases fndO (fun i => decide (fX4_wordAt V a1 (nI i) = a2)) r.toNatClampNeg 0 <;> rfl
def fX4_lettersInRow (V : Mem) (a1 : Int32) : Int32 := csum (cget 2 (V 41) a1).toNatClampNeg (fun i => cget 12 (V 29) (fX4_wordAt V a1 (nI i)))
theorem tX4_lettersInRow (V : Mem) (a1 : Int32) : qX4_lettersInRow V a1 = some (fX4_lettersInRow V a1) := by
  unfold qX4_lettersInRow fX4_lettersInRow lt
  dsimp only
  generalize cget 2 (V 41) a1 = r
  have h : it (lbX4_lettersInRow_14 V a1 r) fuel ((0 : Int32), (0 : Int32)) = some (csum r.toNatClampNeg (fun i => cget 12 (V 29) (fX4_wordAt V a1 (nI i))), nI r.toNatClampNeg) := by
    refine it_for (fun i => (csum i (fun i => cget 12 (V 29) (fX4_wordAt V a1 (nI i))), nI i)) r.toNatClampNeg (fun i hi => ?_) ?_ fuel (fuel_lt (by have := r32 r; omega))
    · unfold lbX4_lettersInRow_14 lt
      dsimp only
      rw [if_neg (r_lt hi), nI_1]
      rfl
    · unfold lbX4_lettersInRow_14
      dsimp only
      rw [if_pos (r_ge r)]
  rw [h]
  rfl
def fX4_waitingInRow (V : Mem) (a1 : Int32) : Int32 := csum (cget 2 (V 41) a1).toNatClampNeg (fun i => if fX4_hasPassed V (fX4_wordAt V a1 (nI i)) = 0 then 1 else 0)
theorem tX4_waitingInRow (V : Mem) (a1 : Int32) : qX4_waitingInRow V a1 = some (fX4_waitingInRow V a1) := by
  unfold qX4_waitingInRow fX4_waitingInRow lt
  dsimp only
  generalize cget 2 (V 41) a1 = r
  have h : it (lbX4_waitingInRow_14 V a1 r) fuel ((0 : Int32), (0 : Int32)) = some (csum r.toNatClampNeg (fun i => if fX4_hasPassed V (fX4_wordAt V a1 (nI i)) = 0 then 1 else 0), nI r.toNatClampNeg) := by
    refine it_for (fun i => (csum i (fun i => if fX4_hasPassed V (fX4_wordAt V a1 (nI i)) = 0 then 1 else 0), nI i)) r.toNatClampNeg (fun i hi => ?_) ?_ fuel (fuel_lt (by have := r32 r; omega))
    · unfold lbX4_waitingInRow_14 lt
      dsimp only
      rw [if_neg (r_lt hi), nI_1]
      by_cases h : fX4_hasPassed V (fX4_wordAt V a1 (nI i)) = 0
      · rw [if_pos h]
        show _ = some (Sum.inl (csum i _ + (if fX4_hasPassed V (fX4_wordAt V a1 (nI i)) = 0 then 1 else 0), nI (i + 1)))
        rw [if_pos h]
      · rw [if_neg h]
        show _ = some (Sum.inl (csum i _ + (if fX4_hasPassed V (fX4_wordAt V a1 (nI i)) = 0 then 1 else 0), nI (i + 1)))
        rw [if_neg h]
    · unfold lbX4_waitingInRow_14
      dsimp only
      rw [if_pos (r_ge r)]
  rw [h]
  rfl

theorem kX4_placeIn (l : Launch) (X : kX) (b : Nat) (V : Mem) (a1 : Int32) (a2 : Int32) (out : Int32) (hE : fX4_placeIn V a1 a2 = out) : MR l yX4_placeIn wsX4_placeIn rmX4_placeIn X [.ref (b + 27), .int a1, .int a2] (RP X LW b V) (some (.int out)) := mX4_placeIn l X b V a1 a2 out ((tX4_placeIn V a1 a2).trans (congrArg some hE))
theorem kX4_lettersInRow (l : Launch) (X : kX) (b : Nat) (V : Mem) (a1 : Int32) (out : Int32) (hE : fX4_lettersInRow V a1 = out) : MR l yX4_lettersInRow wsX4_lettersInRow rmX4_lettersInRow X [.ref (b + 27), .int a1] (RP X LW b V) (some (.int out)) := mX4_lettersInRow l X b V a1 out ((tX4_lettersInRow V a1).trans (congrArg some hE))
theorem kX4_waitingInRow (l : Launch) (X : kX) (b : Nat) (V : Mem) (a1 : Int32) (out : Int32) (hE : fX4_waitingInRow V a1 = out) : MR l yX4_waitingInRow wsX4_waitingInRow rmX4_waitingInRow X [.ref (b + 27), .int a1] (RP X LW b V) (some (.int out)) := mX4_waitingInRow l X b V a1 out ((tX4_waitingInRow V a1).trans (congrArg some hE))
theorem hvX4_placeIn : yX4_placeIn.cls = RX4 ∧ yX4_placeIn.cls ≠ "java/lang/invoke/MethodHandle" ∧ yX4_placeIn.cls ≠ "java/lang/invoke/VarHandle" ∧ (parseMethodDescriptor yX4_placeIn.desc).map (fun d => d.parameters.length) = some 2 := by decide +kernel
def fX4_placeOf (V : Mem) (a1 : Int32) : Int32 := lt (fX4_placeIn V ((0 : Int32)) a1) (fun r1 => if r1 = (-1006 : Int32) then lt (fX4_placeIn V ((1 : Int32)) a1) (fun r3 => r3) else r1)
abbrev rmX4_placeOf : Room := { frames := 3, cells := 0, slots := 0, locals := 67 }
set_option maxHeartbeats 4000000 in
set_option maxRecDepth 100000 in
theorem mX4_placeOf (l : Launch) (X : kX) (b : Nat) (V : Mem) (a1 : Int32) (out : Int32) (hE : fX4_placeOf V a1 = out) : MR l yX4_placeOf wsX4_placeOf rmX4_placeOf X [.ref (b + 27), .int a1] (RP X LW b V) (some (.int out)) := by
  refine mt_head (cc := cX4_placeOf) (maxL := 3) (ret := (some .int)) (own := RX4) (by decide) rfl rfl (Nat.le_of_ble_eq_true rfl) ?_
  intro p e s m below meth c ls F hr hlocks hnm hR hl
  have hx := F.1.1
  have hb := F.1.2.1
  have hl : lv_has ls 3 [(0, .ref (b + 27)), (1, .int a1)] := hl
  unfold fX4_placeOf at hE
  refine lv_aload_n hx hb dX4_placeOf_0 rfl (lv_at hl 0 rfl) ?_
  refine lv_iconst (v := 0) hx hb dX4_placeOf_1 (by decide) ?_
  refine lv_iload_n hx hb dX4_placeOf_2 rfl (lv_at hl 1 rfl) ?_
  obtain ⟨r1, er1, hE⟩ := lt_el hE
  refine rg_callRV (As := [.int ((0 : Int32)), .int a1]) (rest := []) F (kX4_placeIn l X b V ((0 : Int32)) a1 r1 er1) (cwV 2 F.1.2.2.2.2 gX4_placeOf_X4_placeIn rfl rfl rfl hvX4_placeIn ⟨Nat.le_of_ble_eq_true rfl, Nat.le_of_ble_eq_true rfl⟩) (rp_recv F hR 27 rfl (C := RX4) (T := TX4) (N := 8) rfl rfl) hR rfl hl.1 (Nat.le_of_ble_eq_true rfl) dX4_placeOf_3 ⟨Nat.zero_le _, Nat.zero_le _⟩ rfl ?_
  refine lv_istore_n (lv' := [(2, .int r1), (0, .ref (b + 27)), (1, .int a1)]) hx hb dX4_placeOf_6 rfl hl (by decide) rfl (fun ls hl => ?_)
  refine lv_iload_n hx hb dX4_placeOf_7 rfl (lv_at hl 0 rfl) ?_
  refine lv_sipush (v := (-1006)) hx hb dX4_placeOf_8 (by decide) ?_
  refine lv_icmp_eq (tgt := 18) hx hb dX4_placeOf_11 (by decide) (fun c2 => ?_) (fun c2 => ?_)
  · have hE := (if_pos c2).symm.trans hE
    refine lv_aload_n hx hb dX4_placeOf_18 rfl (lv_at hl 1 rfl) ?_
    refine lv_iconst (v := 1) hx hb dX4_placeOf_19 (by decide) ?_
    refine lv_iload_n hx hb dX4_placeOf_20 rfl (lv_at hl 2 rfl) ?_
    obtain ⟨r3, er3, hE⟩ := lt_el hE
    refine rg_callRV (As := [.int ((1 : Int32)), .int a1]) (rest := []) F (kX4_placeIn l X b V ((1 : Int32)) a1 r3 er3) (cwV 2 F.1.2.2.2.2 gX4_placeOf_X4_placeIn rfl rfl rfl hvX4_placeIn ⟨Nat.le_of_ble_eq_true rfl, Nat.le_of_ble_eq_true rfl⟩) (rp_recv F hR 27 rfl (C := RX4) (T := TX4) (N := 8) rfl rfl) hR rfl hl.1 (Nat.le_of_ble_eq_true rfl) dX4_placeOf_21 ⟨Nat.zero_le _, Nat.zero_le _⟩ rfl ?_
    subst hE
    exact W.iret (v := r3) hx hb hr (fun t ht _ => ⟨rfl, ht⟩) (fun _ h => absurd h List.not_mem_nil) dX4_placeOf_24
  · have hE := (if_neg c2).symm.trans hE
    refine lv_iload_n hx hb dX4_placeOf_14 rfl (lv_at hl 0 rfl) ?_
    refine lv_goto (tgt := 24) hx hb dX4_placeOf_15 (by decide) ?_
    subst hE
    exact W.iret (v := r1) hx hb hr (fun t ht _ => ⟨rfl, ht⟩) (fun _ h => absurd h List.not_mem_nil) dX4_placeOf_24
