set_option maxRecDepth 20000 in
theorem lkX2_append_0 : Cond.fieldLink RX2 20 "TideWords$Pad" "length" "I" ∈ wsX2_append := by decide +kernel
set_option maxRecDepth 20000 in
theorem iwX2_append_X2 : ∀ w ∈ wsX20, w ∈ wsX2_append := by decide +kernel
set_option maxRecDepth 20000 in
theorem lkX2_append_1 : Cond.fieldLink RX2 14 "TideWords$Pad" "codes" "LTideWords$Cells;" ∈ wsX2_append := by decide +kernel
set_option maxRecDepth 20000 in
theorem sb_LPd_1_LC60 : sbL LPd 1 (LC 60) := sbl_of rfl
def fX2_append (V : Mem) (a1 : Int32) : Mem := if (60 : Int32) ≤ V 0 0 then V else lt (cset V 2 60 (V 0 0) a1) (fun V2 => lt (sv V2 0 0 ((V2 0 0) + ((1 : Int32)))) (fun V3 => V3))
abbrev rmX2_append : Room := { frames := 1, cells := 0, slots := 0, locals := 22 }
set_option maxHeartbeats 4000000 in
set_option maxRecDepth 100000 in
theorem mX2_append (l : Launch) (X : kX) (b : Nat) (V : Mem) (a1 : Int32) (out : Mem) (hE : fX2_append V a1 = out) : MW l yX2_append wsX2_append rmX2_append X [.ref b, .int a1] (RP X LPd b V) (none) b (b + LPd.length) (RP X LPd b out) := by
  refine mt_head (cc := cX2_append) (maxL := 2) (ret := none) (own := RX2) (by decide) rfl rfl (Nat.le_of_ble_eq_true rfl) ?_
  intro p e s m below meth c ls F hr hlocks hnm hR hl
  have hx := F.1.1
  have hb := F.1.2.1
  have hH : Hp (t_fr b (b + LPd.length)) s.heap s.heap.size X LPd b V s.heap [] := ⟨hR, va_S.rf, rfl⟩
  have hl : lv_has ls 2 [(0, .ref b), (1, .int a1)] := hl
  unfold fX2_append at hE
  refine lv_aload_n hx hb dX2_append_0 rfl (lv_at hl 0 rfl) ?_
  refine rg_geti F hH.1 0 (ci := 2) rfl (C := RX2) (T := TX2) (N := 2) rfl iwX2_append_X2 1 (i := 0) rfl (by decide) rfl lkX2_append_0 rfl dX2_append_1 ?_
  refine lv_bipush (v := 60) hx hb dX2_append_4 (by decide) ?_
  refine lv_icmp_ge (tgt := 31) hx hb dX2_append_6 (by decide) (fun c1 => ?_) (fun c1 => ?_)
  · have hE := (if_pos c1).symm.trans hE
    subst hE
    exact W.vret hx hb hr (fun t ht _ => mw_post hH ht) hH.2.1.2.2 dX2_append_31
  · have hE := (if_neg c1).symm.trans hE
    refine lv_aload_n hx hb dX2_append_9 rfl (lv_at hl 0 rfl) ?_
    refine rg_getr F hH.1 0 (ci := 2) rfl (C := RX2) (T := TX2) (N := 2) rfl iwX2_append_X2 0 (d := 1) (n := 1) rfl rfl (by decide) rfl lkX2_append_1 rfl dX2_append_10 ?_
    refine lv_aload_n hx hb dX2_append_13 rfl (lv_at hl 0 rfl) ?_
    refine rg_geti F hH.1 0 (ci := 2) rfl (C := RX2) (T := TX2) (N := 2) rfl iwX2_append_X2 1 (i := 0) rfl (by decide) rfl lkX2_append_0 rfl dX2_append_14 ?_
    refine lv_iload_n hx hb dX2_append_17 rfl (lv_at hl 1 rfl) ?_
    obtain ⟨V2, eV2, hE⟩ := lt_el hE
    refine rg_callWV (As := [.int (V 0 0), .int a1]) (rest := []) F hH (fun q h1 h2 => ⟨h1, h2⟩) 1 sb_LPd_1_LC60 (kX0_set l X 60 (by decide) (b + 1) (gv V 1) (V 0 0) a1 _ rfl) (cwV 2 F.1.2.2.2.2 gX2_append_X0_set rfl rfl rfl hvX0_set ⟨Nat.le_of_ble_eq_true rfl, Nat.le_of_ble_eq_true rfl⟩) (rp_recv F hH.1 1 rfl (C := RX0) (T := TX0) (N := 1) rfl rfl) (hH.1.sub 1 sb_LPd_1_LC60) rfl hl.1 (Nat.le_of_ble_eq_true rfl) dX2_append_18 ⟨Nat.zero_le _, Nat.zero_le _⟩ rfl ((pv_cset ..).trans eV2) (fun H locs hH hfr => ?_)
    refine lv_aload_n hx hb dX2_append_21 rfl (lv_at hl 0 rfl) ?_
    refine lv_dup hx hb dX2_append_22 rfl ?_
    refine rg_geti F hH.1 0 (ci := 2) rfl (C := RX2) (T := TX2) (N := 2) rfl iwX2_append_X2 1 (i := 0) rfl (by decide) rfl lkX2_append_0 rfl dX2_append_23 ?_
    refine lv_iconst (v := 1) hx hb dX2_append_26 (by decide) ?_
    refine lv_iadd hx hb dX2_append_27 ?_
    obtain ⟨V3, eV3, hE⟩ := lt_el hE
    refine rg_put F hH (fun q h1 h2 => ⟨h1, h2⟩) 0 (ci := 2) rfl (C := RX2) (T := TX2) (N := 2) rfl iwX2_append_X2 tyX2 tyX2_ok nmX2 1 (i := 0) rfl (by decide) (by decide) rfl rfl (by decide +kernel) lkX2_append_0 rfl dX2_append_28 (fun H locs hH hfr => ?_)
    replace hH := hp_cast eV3 hH
    subst hE
    exact W.vret hx hb hr (fun t ht _ => mw_post hH ht) hH.2.1.2.2 dX2_append_31
set_option maxRecDepth 20000 in
theorem lkX2_wordsInside_0 : Cond.fieldLink RX2 20 "TideWords$Pad" "length" "I" ∈ wsX2_wordsInside := by decide +kernel
set_option maxRecDepth 20000 in
theorem iwX2_wordsInside_X2 : ∀ w ∈ wsX20, w ∈ wsX2_wordsInside := by decide +kernel
set_option maxRecDepth 20000 in
theorem lkX2_wordsInside_1 : Cond.fieldLink RX2 14 "TideWords$Pad" "codes" "LTideWords$Cells;" ∈ wsX2_wordsInside := by decide +kernel
def lbX2_wordsInside_4 (V : Mem) (s1 : Int32 × Int32) : Option ((Int32 × Int32) ⊕ (Int32 × Int32)) := if V 0 0 ≤ s1.2 then some (.inr (s1.1, s1.2)) else lt (cget 60 (V 2) s1.2) (fun r3 => if r3 = (44 : Int32) then some (.inl (s1.1 + ((1 : Int32)), s1.2 + 1)) else some (.inl (s1.1 + ((0 : Int32)), s1.2 + 1)))
def qX2_wordsInside (V : Mem) : Option (Int32) := (it (lbX2_wordsInside_4 V) fuel ((1 : Int32), (0 : Int32))).bind (fun s5 => some (s5.1))
abbrev rmX2_wordsInside : Room := { frames := 1, cells := 0, slots := 0, locals := 21 }
set_option maxHeartbeats 4000000 in
set_option maxRecDepth 100000 in
theorem mX2_wordsInside (l : Launch) (X : kX) (b : Nat) (V : Mem) (out : Int32) (hE : qX2_wordsInside V = some out) : MR l yX2_wordsInside wsX2_wordsInside rmX2_wordsInside X [.ref b] (RP X LPd b V) (some (.int out)) := by
  refine mt_head (cc := cX2_wordsInside) (maxL := 3) (ret := (some .int)) (own := RX2) (by decide) rfl rfl (Nat.le_of_ble_eq_true rfl) ?_
  intro p e s m below meth c ls F hr hlocks hnm hR hl
  have hx := F.1.1
  have hb := F.1.2.1
  have hl : lv_has ls 3 [(0, .ref b)] := hl
  unfold qX2_wordsInside at hE
  refine lv_iconst (v := 1) hx hb dX2_wordsInside_0 (by decide) ?_
  refine lv_istore_n (lv' := [(1, .int ((1 : Int32))), (0, .ref b)]) hx hb dX2_wordsInside_1 rfl hl (by decide) rfl (fun ls hl => ?_)
  refine lv_iconst (v := 0) hx hb dX2_wordsInside_2 (by decide) ?_
  refine lv_istore_n (lv' := [(2, .int ((0 : Int32))), (1, .int ((1 : Int32))), (0, .ref b)]) hx hb dX2_wordsInside_3 rfl hl (by decide) rfl (fun ls hl => ?_)
  obtain ⟨x6, hx6, hE⟩ := bd_el hE
  refine it_walk2 (body := lbX2_wordsInside_4 V) (Wh := fun s1 => ∀ (ls : Array Slot), lv_has ls 3 [(2, .int s1.2), (1, .int s1.1), (0, .ref b)] → W p l e rmX2_wordsInside s m ([.ref b] : List Value).toArray below meth c s.heap [] 0 0 (MQ below (cQr (some (.int out))) ([.ref b] : List Value).toArray s 0 0 (fun _ => False)) (F0 m 4 ls [])) (We := fun s5 => ∀ (ls : Array Slot), lv_has ls 3 [(2, .int s5.2), (1, .int s5.1), (0, .ref b)] → W p l e rmX2_wordsInside s m ([.ref b] : List Value).toArray below meth c s.heap [] 0 0 (MQ below (cQr (some (.int out))) ([.ref b] : List Value).toArray s 0 0 (fun _ => False)) (F0 m 39 ls [])) ?_ _ _ _ hx6 ?_ ls (lv_sub hl [0, 1, 2] rfl)
  · intro s1 r9 hE hL9 hR9 ls hl
    unfold lbX2_wordsInside_4 at hE
    refine lv_iload_n hx hb dX2_wordsInside_4 rfl (lv_at hl 0 rfl) ?_
    refine lv_aload_n hx hb dX2_wordsInside_5 rfl (lv_at hl 2 rfl) ?_
    refine rg_geti F hR 0 (ci := 2) rfl (C := RX2) (T := TX2) (N := 2) rfl iwX2_wordsInside_X2 1 (i := 0) rfl (by decide) rfl lkX2_wordsInside_0 rfl dX2_wordsInside_6 ?_
    refine lv_icmp_ge (tgt := 39) hx hb dX2_wordsInside_9 (by decide) (fun c2 => ?_) (fun c2 => ?_)
    · have hE := (if_pos c2).symm.trans hE
      cases hE
      exact hR9 _ rfl ls (lv_sub hl [0, 1, 2] rfl)
    · have hE := (if_neg c2).symm.trans hE
      refine lv_iload_n hx hb dX2_wordsInside_12 rfl (lv_at hl 1 rfl) ?_
      refine lv_aload_n hx hb dX2_wordsInside_13 rfl (lv_at hl 2 rfl) ?_
      refine rg_getr F hR 0 (ci := 2) rfl (C := RX2) (T := TX2) (N := 2) rfl iwX2_wordsInside_X2 0 (d := 1) (n := 1) rfl rfl (by decide) rfl lkX2_wordsInside_1 rfl dX2_wordsInside_14 ?_
      refine lv_iload_n hx hb dX2_wordsInside_17 rfl (lv_at hl 0 rfl) ?_
      obtain ⟨r3, er3, hE⟩ := lt_el hE
      refine rg_callRV (As := [.int s1.2]) (rest := [.int s1.1]) F (kX0_get l X 60 (by decide) (b + 1) (gv V 1) s1.2 r3 er3) (cwV 1 F.1.2.2.2.2 gX2_wordsInside_X0_get rfl rfl rfl hvX0_get ⟨Nat.le_of_ble_eq_true rfl, Nat.le_of_ble_eq_true rfl⟩) (rp_recv F hR 1 rfl (C := RX0) (T := TX0) (N := 1) rfl rfl) (hR.sub 1 sb_LPd_1_LC60) rfl hl.1 (Nat.le_of_ble_eq_true rfl) dX2_wordsInside_18 ⟨Nat.zero_le _, Nat.zero_le _⟩ rfl ?_
      refine lv_bipush (v := 44) hx hb dX2_wordsInside_21 (by decide) ?_
      refine lv_icmp_ne (tgt := 30) hx hb dX2_wordsInside_23 (by decide) (fun c4 => ?_) (fun c4 => ?_)
      · have hE := (if_neg c4).symm.trans hE
        refine lv_iconst (v := 0) hx hb dX2_wordsInside_30 (by decide) ?_
        refine lv_iadd hx hb dX2_wordsInside_31 ?_
        refine lv_istore_n (lv' := [(1, .int (s1.1 + ((0 : Int32)))), (2, .int s1.2), (0, .ref b)]) hx hb dX2_wordsInside_32 rfl hl (by decide) rfl (fun ls hl => ?_)
        refine lv_iinc (v := s1.2 + 1) (lv' := [(2, .int (s1.2 + 1)), (1, .int (s1.1 + ((0 : Int32)))), (0, .ref b)]) hx hb dX2_wordsInside_33 hl (k := 1) rfl (congrArg (fun q => s1.2 + q) (by decide)) (by decide) rfl (fun ls hl => ?_)
        refine lv_goto (tgt := 4) hx hb dX2_wordsInside_36 (by decide) ?_
        cases hE
        exact hL9 _ rfl ls (lv_sub hl [0, 1, 2] rfl)
      · have hE := (if_pos c4).symm.trans hE
        refine lv_iconst (v := 1) hx hb dX2_wordsInside_26 (by decide) ?_
        refine lv_goto (tgt := 31) hx hb dX2_wordsInside_27 (by decide) ?_
        refine lv_iadd hx hb dX2_wordsInside_31 ?_
        refine lv_istore_n (lv' := [(1, .int (s1.1 + ((1 : Int32)))), (2, .int s1.2), (0, .ref b)]) hx hb dX2_wordsInside_32 rfl hl (by decide) rfl (fun ls hl => ?_)
        refine lv_iinc (v := s1.2 + 1) (lv' := [(2, .int (s1.2 + 1)), (1, .int (s1.1 + ((1 : Int32)))), (0, .ref b)]) hx hb dX2_wordsInside_33 hl (k := 1) rfl (congrArg (fun q => s1.2 + q) (by decide)) (by decide) rfl (fun ls hl => ?_)
        refine lv_goto (tgt := 4) hx hb dX2_wordsInside_36 (by decide) ?_
        cases hE
        exact hL9 _ rfl ls (lv_sub hl [0, 1, 2] rfl)
  · intro ls hl
    refine lv_iload_n hx hb dX2_wordsInside_39 rfl (lv_at hl 1 rfl) ?_
    have hE := Option.some.inj hE
    subst hE
    exact W.iret (v := x6.1) hx hb hr (fun t ht _ => ⟨rfl, ht⟩) (fun _ h => absurd h List.not_mem_nil) dX2_wordsInside_40
set_option maxRecDepth 20000 in
theorem lkX2_faultPlace_0 : Cond.fieldLink RX2 20 "TideWords$Pad" "length" "I" ∈ wsX2_faultPlace := by decide +kernel
set_option maxRecDepth 20000 in
theorem iwX2_faultPlace_X2 : ∀ w ∈ wsX20, w ∈ wsX2_faultPlace := by decide +kernel
set_option maxRecDepth 20000 in
theorem lkX2_faultPlace_1 : Cond.fieldLink RX2 14 "TideWords$Pad" "codes" "LTideWords$Cells;" ∈ wsX2_faultPlace := by decide +kernel
def lbX2_faultPlace_4 (V : Mem) (s1 : Int32 × Int32) : Option ((Int32 × Int32) ⊕ ((Int32) ⊕ (Int32 × Int32))) := if V 0 0 ≤ s1.2 then some (.inr (.inr (s1.1, s1.2))) else lt (cget 60 (V 2) s1.2) (fun r3 => if r3 < (97 : Int32) then if r3 = (44 : Int32) then if s1.1 ≤ 0 then some (.inr (.inl (s1.2))) else some (.inl ((0 : Int32), s1.2 + 1)) else some (.inr (.inl (s1.2))) else if (122 : Int32) < r3 then if r3 = (44 : Int32) then if s1.1 ≤ 0 then some (.inr (.inl (s1.2))) else some (.inl ((0 : Int32), s1.2 + 1)) else some (.inr (.inl (s1.2))) else if (6 : Int32) ≤ s1.1 then some (.inr (.inl (s1.2))) else some (.inl (s1.1 + ((1 : Int32)), s1.2 + 1)))
def qX2_faultPlace (V : Mem) : Option (Int32) := (it (lbX2_faultPlace_4 V) fuel ((0 : Int32), (0 : Int32))).bind (fun x12 => Sum.elim (fun r0 => some r0) (fun s11 => if s11.1 = 0 then some (V 0 0) else some ((-1006 : Int32))) x12)
abbrev rmX2_faultPlace : Room := { frames := 1, cells := 0, slots := 0, locals := 21 }
set_option maxHeartbeats 4000000 in
set_option maxRecDepth 100000 in
theorem mX2_faultPlace (l : Launch) (X : kX) (b : Nat) (V : Mem) (out : Int32) (hE : qX2_faultPlace V = some out) : MR l yX2_faultPlace wsX2_faultPlace rmX2_faultPlace X [.ref b] (RP X LPd b V) (some (.int out)) := by
  refine mt_head (cc := cX2_faultPlace) (maxL := 6) (ret := (some .int)) (own := RX2) (by decide) rfl rfl (Nat.le_of_ble_eq_true rfl) ?_
  intro p e s m below meth c ls F hr hlocks hnm hR hl
  have hx := F.1.1
  have hb := F.1.2.1
  have hl : lv_has ls 6 [(0, .ref b)] := hl
  unfold qX2_faultPlace at hE
  refine lv_iconst (v := 0) hx hb dX2_faultPlace_0 (by decide) ?_
  refine lv_istore_n (lv' := [(1, .int ((0 : Int32))), (0, .ref b)]) hx hb dX2_faultPlace_1 rfl hl (by decide) rfl (fun ls hl => ?_)
  refine lv_iconst (v := 0) hx hb dX2_faultPlace_2 (by decide) ?_
  refine lv_istore_n (lv' := [(2, .int ((0 : Int32))), (1, .int ((0 : Int32))), (0, .ref b)]) hx hb dX2_faultPlace_3 rfl hl (by decide) rfl (fun ls hl => ?_)
  obtain ⟨x12, hx12, hE⟩ := bd_el hE
  refine it_walk2 (body := lbX2_faultPlace_4 V) (Wh := fun s1 => ∀ (ls : Array Slot), lv_has ls 6 [(2, .int s1.2), (1, .int s1.1), (0, .ref b)] → W p l e rmX2_faultPlace s m ([.ref b] : List Value).toArray below meth c s.heap [] 0 0 (MQ below (cQr (some (.int out))) ([.ref b] : List Value).toArray s 0 0 (fun _ => False)) (F0 m 4 ls [])) (We := fun x12 => (∀ r0, x12 = .inl r0 → r0 = out) ∧ (∀ s11, x12 = .inr s11 → ∀ (ls : Array Slot), lv_has ls 6 [(2, .int s11.2), (1, .int s11.1), (0, .ref b)] → W p l e rmX2_faultPlace s m ([.ref b] : List Value).toArray below meth c s.heap [] 0 0 (MQ below (cQr (some (.int out))) ([.ref b] : List Value).toArray s 0 0 (fun _ => False)) (F0 m 102 ls []))) ?_ _ _ _ hx12 ?_ ls (lv_sub hl [0, 1, 2] rfl)
  · intro s1 r9 hE hL9 hR9 ls hl
    unfold lbX2_faultPlace_4 at hE
    refine lv_iload_n hx hb dX2_faultPlace_4 rfl (lv_at hl 0 rfl) ?_
    refine lv_aload_n hx hb dX2_faultPlace_5 rfl (lv_at hl 2 rfl) ?_
    refine rg_geti F hR 0 (ci := 2) rfl (C := RX2) (T := TX2) (N := 2) rfl iwX2_faultPlace_X2 1 (i := 0) rfl (by decide) rfl lkX2_faultPlace_0 rfl dX2_faultPlace_6 ?_
    refine lv_icmp_ge (tgt := 102) hx hb dX2_faultPlace_9 (by decide) (fun c2 => ?_) (fun c2 => ?_)
    · have hE := (if_pos c2).symm.trans hE
      cases hE
      exact (hR9 _ rfl).2 _ rfl ls (lv_sub hl [0, 1, 2] rfl)
    · have hE := (if_neg c2).symm.trans hE
      refine lv_aload_n hx hb dX2_faultPlace_12 rfl (lv_at hl 2 rfl) ?_
      refine rg_getr F hR 0 (ci := 2) rfl (C := RX2) (T := TX2) (N := 2) rfl iwX2_faultPlace_X2 0 (d := 1) (n := 1) rfl rfl (by decide) rfl lkX2_faultPlace_1 rfl dX2_faultPlace_13 ?_
      refine lv_iload_n hx hb dX2_faultPlace_16 rfl (lv_at hl 0 rfl) ?_
      obtain ⟨r3, er3, hE⟩ := lt_el hE
      refine rg_callRV (As := [.int s1.2]) (rest := []) F (kX0_get l X 60 (by decide) (b + 1) (gv V 1) s1.2 r3 er3) (cwV 1 F.1.2.2.2.2 gX2_faultPlace_X0_get rfl rfl rfl hvX0_get ⟨Nat.le_of_ble_eq_true rfl, Nat.le_of_ble_eq_true rfl⟩) (rp_recv F hR 1 rfl (C := RX0) (T := TX0) (N := 1) rfl rfl) (hR.sub 1 sb_LPd_1_LC60) rfl hl.1 (Nat.le_of_ble_eq_true rfl) dX2_faultPlace_17 ⟨Nat.zero_le _, Nat.zero_le _⟩ rfl ?_
      refine lv_istore_n (lv' := [(3, .int r3), (2, .int s1.2), (1, .int s1.1), (0, .ref b)]) hx hb dX2_faultPlace_20 rfl hl (by decide) rfl (fun ls hl => ?_)
      refine lv_iload_n hx hb dX2_faultPlace_21 rfl (lv_at hl 0 rfl) ?_
      refine lv_bipush (v := 97) hx hb dX2_faultPlace_22 (by decide) ?_
      refine lv_icmp_lt (tgt := 37) hx hb dX2_faultPlace_24 (by decide) (fun c4 => ?_) (fun c4 => ?_)
      · have hE := (if_pos c4).symm.trans hE
        refine lv_iconst (v := 0) hx hb dX2_faultPlace_37 (by decide) ?_
        refine lv_istore (lv' := [(4, .int ((0 : Int32))), (3, .int r3), (2, .int s1.2), (1, .int s1.1), (0, .ref b)]) hx hb dX2_faultPlace_38 hl (by decide) rfl (fun ls hl => ?_)
        refine lv_iload hx hb dX2_faultPlace_40 (lv_at hl 0 rfl) ?_
        refine lv_if_eq (tgt := 59) hx hb dX2_faultPlace_42 (by decide) (fun _ => ?_) (fun c => absurd c (by decide))
        refine lv_iload_n hx hb dX2_faultPlace_59 rfl (lv_at hl 1 rfl) ?_
        refine lv_bipush (v := 44) hx hb dX2_faultPlace_60 (by decide) ?_
        refine lv_icmp_ne (tgt := 73) hx hb dX2_faultPlace_62 (by decide) (fun c5 => ?_) (fun c5 => ?_)
        · have hE := (if_neg c5).symm.trans hE
          refine lv_iconst (v := 0) hx hb dX2_faultPlace_73 (by decide) ?_
          refine lv_istore (lv' := [(5, .int ((0 : Int32))), (4, .int ((0 : Int32))), (3, .int r3), (2, .int s1.2), (1, .int s1.1), (0, .ref b)]) hx hb dX2_faultPlace_74 hl (by decide) rfl (fun ls hl => ?_)
          refine lv_iload hx hb dX2_faultPlace_76 (lv_at hl 0 rfl) ?_
          refine lv_if_ne (tgt := 83) hx hb dX2_faultPlace_78 (by decide) (fun c => absurd c (by decide)) (fun _ => ?_)
          refine lv_iload_n hx hb dX2_faultPlace_81 rfl (lv_at hl 3 rfl) ?_
          cases hE
          have hE := (hR9 _ rfl).1 _ rfl
          subst hE
          exact W.iret (v := s1.2) hx hb hr (fun t ht _ => ⟨rfl, ht⟩) (fun _ h => absurd h List.not_mem_nil) dX2_faultPlace_82
        · have hE := (if_pos c5).symm.trans hE
          refine lv_iload_n hx hb dX2_faultPlace_65 rfl (lv_at hl 3 rfl) ?_
          refine lv_if_le (tgt := 73) hx hb dX2_faultPlace_66 (by decide) (fun c6 => ?_) (fun c6 => ?_)
          · have hE := (if_pos c6).symm.trans hE
            refine lv_iconst (v := 0) hx hb dX2_faultPlace_73 (by decide) ?_
            refine lv_istore (lv' := [(5, .int ((0 : Int32))), (4, .int ((0 : Int32))), (3, .int r3), (2, .int s1.2), (1, .int s1.1), (0, .ref b)]) hx hb dX2_faultPlace_74 hl (by decide) rfl (fun ls hl => ?_)
            refine lv_iload hx hb dX2_faultPlace_76 (lv_at hl 0 rfl) ?_
            refine lv_if_ne (tgt := 83) hx hb dX2_faultPlace_78 (by decide) (fun c => absurd c (by decide)) (fun _ => ?_)
            refine lv_iload_n hx hb dX2_faultPlace_81 rfl (lv_at hl 3 rfl) ?_
            cases hE
            have hE := (hR9 _ rfl).1 _ rfl
            subst hE
            exact W.iret (v := s1.2) hx hb hr (fun t ht _ => ⟨rfl, ht⟩) (fun _ h => absurd h List.not_mem_nil) dX2_faultPlace_82
          · have hE := (if_neg c6).symm.trans hE
            refine lv_iconst (v := 1) hx hb dX2_faultPlace_69 (by decide) ?_
            refine lv_goto (tgt := 74) hx hb dX2_faultPlace_70 (by decide) ?_
            refine lv_istore (lv' := [(5, .int ((1 : Int32))), (4, .int ((0 : Int32))), (3, .int r3), (2, .int s1.2), (1, .int s1.1), (0, .ref b)]) hx hb dX2_faultPlace_74 hl (by decide) rfl (fun ls hl => ?_)
            refine lv_iload hx hb dX2_faultPlace_76 (lv_at hl 0 rfl) ?_
            refine lv_if_ne (tgt := 83) hx hb dX2_faultPlace_78 (by decide) (fun _ => ?_) (fun c => absurd c (by decide))
            refine lv_iload hx hb dX2_faultPlace_83 (lv_at hl 1 rfl) ?_
            refine lv_if_eq (tgt := 94) hx hb dX2_faultPlace_85 (by decide) (fun _ => ?_) (fun c => absurd c (by decide))
            refine lv_iconst (v := 0) hx hb dX2_faultPlace_94 (by decide) ?_
            refine lv_istore_n (lv' := [(1, .int ((0 : Int32))), (5, .int ((1 : Int32))), (4, .int ((0 : Int32))), (3, .int r3), (2, .int s1.2), (0, .ref b)]) hx hb dX2_faultPlace_95 rfl hl (by decide) rfl (fun ls hl => ?_)
            refine lv_iinc (v := s1.2 + 1) (lv' := [(2, .int (s1.2 + 1)), (1, .int ((0 : Int32))), (5, .int ((1 : Int32))), (4, .int ((0 : Int32))), (3, .int r3), (0, .ref b)]) hx hb dX2_faultPlace_96 hl (k := 4) rfl (congrArg (fun q => s1.2 + q) (by decide)) (by decide) rfl (fun ls hl => ?_)
            refine lv_goto (tgt := 4) hx hb dX2_faultPlace_99 (by decide) ?_
            cases hE
            exact hL9 _ rfl ls (lv_sub hl [0, 1, 5] rfl)
      · have hE := (if_neg c4).symm.trans hE
        refine lv_iload_n hx hb dX2_faultPlace_27 rfl (lv_at hl 0 rfl) ?_
        refine lv_bipush (v := 122) hx hb dX2_faultPlace_28 (by decide) ?_
        refine lv_icmp_gt (tgt := 37) hx hb dX2_faultPlace_30 (by decide) (fun c7 => ?_) (fun c7 => ?_)
        · have hE := (if_pos c7).symm.trans hE
          refine lv_iconst (v := 0) hx hb dX2_faultPlace_37 (by decide) ?_
          refine lv_istore (lv' := [(4, .int ((0 : Int32))), (3, .int r3), (2, .int s1.2), (1, .int s1.1), (0, .ref b)]) hx hb dX2_faultPlace_38 hl (by decide) rfl (fun ls hl => ?_)
          refine lv_iload hx hb dX2_faultPlace_40 (lv_at hl 0 rfl) ?_
          refine lv_if_eq (tgt := 59) hx hb dX2_faultPlace_42 (by decide) (fun _ => ?_) (fun c => absurd c (by decide))
          refine lv_iload_n hx hb dX2_faultPlace_59 rfl (lv_at hl 1 rfl) ?_
          refine lv_bipush (v := 44) hx hb dX2_faultPlace_60 (by decide) ?_
          refine lv_icmp_ne (tgt := 73) hx hb dX2_faultPlace_62 (by decide) (fun c8 => ?_) (fun c8 => ?_)
          · have hE := (if_neg c8).symm.trans hE
            refine lv_iconst (v := 0) hx hb dX2_faultPlace_73 (by decide) ?_
            refine lv_istore (lv' := [(5, .int ((0 : Int32))), (4, .int ((0 : Int32))), (3, .int r3), (2, .int s1.2), (1, .int s1.1), (0, .ref b)]) hx hb dX2_faultPlace_74 hl (by decide) rfl (fun ls hl => ?_)
            refine lv_iload hx hb dX2_faultPlace_76 (lv_at hl 0 rfl) ?_
            refine lv_if_ne (tgt := 83) hx hb dX2_faultPlace_78 (by decide) (fun c => absurd c (by decide)) (fun _ => ?_)
            refine lv_iload_n hx hb dX2_faultPlace_81 rfl (lv_at hl 3 rfl) ?_
            cases hE
            have hE := (hR9 _ rfl).1 _ rfl
            subst hE
            exact W.iret (v := s1.2) hx hb hr (fun t ht _ => ⟨rfl, ht⟩) (fun _ h => absurd h List.not_mem_nil) dX2_faultPlace_82
          · have hE := (if_pos c8).symm.trans hE
            refine lv_iload_n hx hb dX2_faultPlace_65 rfl (lv_at hl 3 rfl) ?_
            refine lv_if_le (tgt := 73) hx hb dX2_faultPlace_66 (by decide) (fun c9 => ?_) (fun c9 => ?_)
            · have hE := (if_pos c9).symm.trans hE
              refine lv_iconst (v := 0) hx hb dX2_faultPlace_73 (by decide) ?_
              refine lv_istore (lv' := [(5, .int ((0 : Int32))), (4, .int ((0 : Int32))), (3, .int r3), (2, .int s1.2), (1, .int s1.1), (0, .ref b)]) hx hb dX2_faultPlace_74 hl (by decide) rfl (fun ls hl => ?_)
              refine lv_iload hx hb dX2_faultPlace_76 (lv_at hl 0 rfl) ?_
              refine lv_if_ne (tgt := 83) hx hb dX2_faultPlace_78 (by decide) (fun c => absurd c (by decide)) (fun _ => ?_)
              refine lv_iload_n hx hb dX2_faultPlace_81 rfl (lv_at hl 3 rfl) ?_
              cases hE
              have hE := (hR9 _ rfl).1 _ rfl
              subst hE
              exact W.iret (v := s1.2) hx hb hr (fun t ht _ => ⟨rfl, ht⟩) (fun _ h => absurd h List.not_mem_nil) dX2_faultPlace_82
            · have hE := (if_neg c9).symm.trans hE
              refine lv_iconst (v := 1) hx hb dX2_faultPlace_69 (by decide) ?_
              refine lv_goto (tgt := 74) hx hb dX2_faultPlace_70 (by decide) ?_
              refine lv_istore (lv' := [(5, .int ((1 : Int32))), (4, .int ((0 : Int32))), (3, .int r3), (2, .int s1.2), (1, .int s1.1), (0, .ref b)]) hx hb dX2_faultPlace_74 hl (by decide) rfl (fun ls hl => ?_)
              refine lv_iload hx hb dX2_faultPlace_76 (lv_at hl 0 rfl) ?_
              refine lv_if_ne (tgt := 83) hx hb dX2_faultPlace_78 (by decide) (fun _ => ?_) (fun c => absurd c (by decide))
              refine lv_iload hx hb dX2_faultPlace_83 (lv_at hl 1 rfl) ?_
              refine lv_if_eq (tgt := 94) hx hb dX2_faultPlace_85 (by decide) (fun _ => ?_) (fun c => absurd c (by decide))
              refine lv_iconst (v := 0) hx hb dX2_faultPlace_94 (by decide) ?_
              refine lv_istore_n (lv' := [(1, .int ((0 : Int32))), (5, .int ((1 : Int32))), (4, .int ((0 : Int32))), (3, .int r3), (2, .int s1.2), (0, .ref b)]) hx hb dX2_faultPlace_95 rfl hl (by decide) rfl (fun ls hl => ?_)
              refine lv_iinc (v := s1.2 + 1) (lv' := [(2, .int (s1.2 + 1)), (1, .int ((0 : Int32))), (5, .int ((1 : Int32))), (4, .int ((0 : Int32))), (3, .int r3), (0, .ref b)]) hx hb dX2_faultPlace_96 hl (k := 4) rfl (congrArg (fun q => s1.2 + q) (by decide)) (by decide) rfl (fun ls hl => ?_)
              refine lv_goto (tgt := 4) hx hb dX2_faultPlace_99 (by decide) ?_
              cases hE
              exact hL9 _ rfl ls (lv_sub hl [0, 1, 5] rfl)
        · have hE := (if_neg c7).symm.trans hE
          refine lv_iconst (v := 1) hx hb dX2_faultPlace_33 (by decide) ?_
          refine lv_goto (tgt := 38) hx hb dX2_faultPlace_34 (by decide) ?_
          refine lv_istore (lv' := [(4, .int ((1 : Int32))), (3, .int r3), (2, .int s1.2), (1, .int s1.1), (0, .ref b)]) hx hb dX2_faultPlace_38 hl (by decide) rfl (fun ls hl => ?_)
          refine lv_iload hx hb dX2_faultPlace_40 (lv_at hl 0 rfl) ?_
          refine lv_if_eq (tgt := 59) hx hb dX2_faultPlace_42 (by decide) (fun c => absurd c (by decide)) (fun _ => ?_)
          refine lv_iload_n hx hb dX2_faultPlace_45 rfl (lv_at hl 3 rfl) ?_
          refine lv_bipush (v := 6) hx hb dX2_faultPlace_46 (by decide) ?_
          refine lv_icmp_ge (tgt := 55) hx hb dX2_faultPlace_48 (by decide) (fun c10 => ?_) (fun c10 => ?_)
          · have hE := (if_pos c10).symm.trans hE
            refine lv_iconst (v := 0) hx hb dX2_faultPlace_55 (by decide) ?_
            refine lv_goto (tgt := 74) hx hb dX2_faultPlace_56 (by decide) ?_
            refine lv_istore (lv' := [(5, .int ((0 : Int32))), (4, .int ((1 : Int32))), (3, .int r3), (2, .int s1.2), (1, .int s1.1), (0, .ref b)]) hx hb dX2_faultPlace_74 hl (by decide) rfl (fun ls hl => ?_)
            refine lv_iload hx hb dX2_faultPlace_76 (lv_at hl 0 rfl) ?_
            refine lv_if_ne (tgt := 83) hx hb dX2_faultPlace_78 (by decide) (fun c => absurd c (by decide)) (fun _ => ?_)
            refine lv_iload_n hx hb dX2_faultPlace_81 rfl (lv_at hl 3 rfl) ?_
            cases hE
            have hE := (hR9 _ rfl).1 _ rfl
            subst hE
            exact W.iret (v := s1.2) hx hb hr (fun t ht _ => ⟨rfl, ht⟩) (fun _ h => absurd h List.not_mem_nil) dX2_faultPlace_82
          · have hE := (if_neg c10).symm.trans hE
            refine lv_iconst (v := 1) hx hb dX2_faultPlace_51 (by decide) ?_
            refine lv_goto (tgt := 74) hx hb dX2_faultPlace_52 (by decide) ?_
            refine lv_istore (lv' := [(5, .int ((1 : Int32))), (4, .int ((1 : Int32))), (3, .int r3), (2, .int s1.2), (1, .int s1.1), (0, .ref b)]) hx hb dX2_faultPlace_74 hl (by decide) rfl (fun ls hl => ?_)
            refine lv_iload hx hb dX2_faultPlace_76 (lv_at hl 0 rfl) ?_
            refine lv_if_ne (tgt := 83) hx hb dX2_faultPlace_78 (by decide) (fun _ => ?_) (fun c => absurd c (by decide))
            refine lv_iload hx hb dX2_faultPlace_83 (lv_at hl 1 rfl) ?_
            refine lv_if_eq (tgt := 94) hx hb dX2_faultPlace_85 (by decide) (fun c => absurd c (by decide)) (fun _ => ?_)
            refine lv_iload_n hx hb dX2_faultPlace_88 rfl (lv_at hl 4 rfl) ?_
            refine lv_iconst (v := 1) hx hb dX2_faultPlace_89 (by decide) ?_
            refine lv_iadd hx hb dX2_faultPlace_90 ?_
            refine lv_goto (tgt := 95) hx hb dX2_faultPlace_91 (by decide) ?_
            refine lv_istore_n (lv' := [(1, .int (s1.1 + ((1 : Int32)))), (5, .int ((1 : Int32))), (4, .int ((1 : Int32))), (3, .int r3), (2, .int s1.2), (0, .ref b)]) hx hb dX2_faultPlace_95 rfl hl (by decide) rfl (fun ls hl => ?_)
            refine lv_iinc (v := s1.2 + 1) (lv' := [(2, .int (s1.2 + 1)), (1, .int (s1.1 + ((1 : Int32)))), (5, .int ((1 : Int32))), (4, .int ((1 : Int32))), (3, .int r3), (0, .ref b)]) hx hb dX2_faultPlace_96 hl (k := 4) rfl (congrArg (fun q => s1.2 + q) (by decide)) (by decide) rfl (fun ls hl => ?_)
            refine lv_goto (tgt := 4) hx hb dX2_faultPlace_99 (by decide) ?_
            cases hE
            exact hL9 _ rfl ls (lv_sub hl [0, 1, 5] rfl)
  · refine ⟨fun r0 h9 => ?_, fun s11 h9 => ?_⟩
    · subst h9
      exact Option.some.inj hE
    · subst h9
      have hE := sel_r hE
      intro ls hl
      refine lv_iload_n hx hb dX2_faultPlace_102 rfl (lv_at hl 1 rfl) ?_
      refine lv_if_ne (tgt := 113) hx hb dX2_faultPlace_103 (by decide) (fun c13 => ?_) (fun c13 => ?_)
      · have hE := (if_neg c13).symm.trans hE
        refine lv_sipush (v := (-1006)) hx hb dX2_faultPlace_113 (by decide) ?_
        have hE := Option.some.inj hE
        subst hE
        exact W.iret (v := (-1006 : Int32)) hx hb hr (fun t ht _ => ⟨rfl, ht⟩) (fun _ h => absurd h List.not_mem_nil) dX2_faultPlace_116
      · have hE := (if_pos c13).symm.trans hE
        refine lv_aload_n hx hb dX2_faultPlace_106 rfl (lv_at hl 2 rfl) ?_
        refine rg_geti F hR 0 (ci := 2) rfl (C := RX2) (T := TX2) (N := 2) rfl iwX2_faultPlace_X2 1 (i := 0) rfl (by decide) rfl lkX2_faultPlace_0 rfl dX2_faultPlace_107 ?_
        refine lv_goto (tgt := 116) hx hb dX2_faultPlace_110 (by decide) ?_
        have hE := Option.some.inj hE
        subst hE
        exact W.iret (v := V 0 0) hx hb hr (fun t ht _ => ⟨rfl, ht⟩) (fun _ h => absurd h List.not_mem_nil) dX2_faultPlace_116
def fX2_wordsInside (V : Mem) : Int32 := 1 + csum (V 0 0).toNatClampNeg (fun i => if cget 60 (V 2) (nI i) = (44 : Int32) then 1 else 0)
theorem tX2_wordsInside (V : Mem) : qX2_wordsInside V = some (fX2_wordsInside V) := by
  have h : it (lbX2_wordsInside_4 V) fuel ((1 : Int32), (0 : Int32)) = some (fX2_wordsInside V, nI (V 0 0).toNatClampNeg) := by
    refine it_for (fun i => (1 + csum i (fun i => if cget 60 (V 2) (nI i) = (44 : Int32) then 1 else 0), nI i)) (V 0 0).toNatClampNeg (fun i hi => ?_) ?_ fuel (fuel_lt (by have := r32 (V 0 0); omega))
    · unfold lbX2_wordsInside_4 lt
      dsimp only
      rw [if_neg (r_lt hi), nI_1]
      by_cases h : cget 60 (V 2) (nI i) = (44 : Int32)
      · rw [if_pos h]
        show _ = some (Sum.inl (1 + (csum i _ + (if cget 60 (V 2) (nI i) = (44 : Int32) then 1 else 0)), nI (i + 1)))
        rw [if_pos h, Int32.add_assoc]
      · rw [if_neg h]
        show _ = some (Sum.inl (1 + (csum i _ + (if cget 60 (V 2) (nI i) = (44 : Int32) then 1 else 0)), nI (i + 1)))
        rw [if_neg h, Int32.add_assoc]
    · unfold lbX2_wordsInside_4
      dsimp only
      rw [if_pos (r_ge _)]
      rfl
  unfold qX2_wordsInside
  rw [h]
  rfl
/-- the place of the fault: k characters left, from the i-th on, behind so many letters of a word -/
def fpl (V : Mem) : Nat → Nat → Int32 → Int32
  | 0, _, lts => if lts = 0 then V 0 0 else -1006
  | k + 1, i, lts => if cget 60 (V 2) (nI i) < (97 : Int32) then (if cget 60 (V 2) (nI i) = (44 : Int32) then (if lts ≤ 0 then nI i else fpl V k (i + 1) 0) else nI i) else if (122 : Int32) < cget 60 (V 2) (nI i) then (if cget 60 (V 2) (nI i) = (44 : Int32) then (if lts ≤ 0 then nI i else fpl V k (i + 1) 0) else nI i) else if (6 : Int32) ≤ lts then nI i else fpl V k (i + 1) (lts + 1)
def fX2_faultPlace (V : Mem) : Int32 := fpl V (V 0 0).toNatClampNeg 0 0
theorem it_fpl (V : Mem) : ∀ (k i : Nat) (lts : Int32) (f : Nat), i + k = (V 0 0).toNatClampNeg → k < f → (it (lbX2_faultPlace_4 V) f (lts, nI i)).bind (fun x12 => Sum.elim (fun r0 => some r0) (fun s11 => if s11.1 = 0 then some (V 0 0) else some ((-1006 : Int32))) x12) = some (fpl V k i lts)
  | 0, i, lts, f, hi, hf => by
    obtain ⟨f, rfl⟩ : ∃ g, f = g + 1 := ⟨f - 1, by omega⟩
    have e : lbX2_faultPlace_4 V (lts, nI i) = some (.inr (.inr (lts, nI i))) := by
      unfold lbX2_faultPlace_4
      dsimp only
      have : i = (V 0 0).toNatClampNeg := by omega
      subst this
      rw [if_pos (r_ge _)]
    show ((lbX2_faultPlace_4 V (lts, nI i)).bind _).bind _ = _
    rw [e]
    show (if lts = 0 then some (V 0 0) else some ((-1006 : Int32))) = some (if lts = 0 then V 0 0 else -1006)
    by_cases h : lts = 0
    · rw [if_pos h, if_pos h]
    · rw [if_neg h, if_neg h]
  | k + 1, i, lts, f, hi, hf => by
    obtain ⟨f, rfl⟩ : ∃ g, f = g + 1 := ⟨f - 1, by omega⟩
    have ih0 := it_fpl V k (i + 1) 0 f (by omega) (by omega)
    have ih1 := it_fpl V k (i + 1) (lts + 1) f (by omega) (by omega)
    show ((lbX2_faultPlace_4 V (lts, nI i)).bind _).bind _ = _
    unfold lbX2_faultPlace_4 fpl lt
    dsimp only
    rw [if_neg (r_lt (by omega)), nI_1]
    generalize cget 60 (V 2) (nI i) = r
    by_cases h1 : r < (97 : Int32)
    · rw [if_pos h1, if_pos h1]
      by_cases h2 : r = (44 : Int32)
      · rw [if_pos h2, if_pos h2]
        by_cases h3 : lts ≤ 0
        · rw [if_pos h3, if_pos h3]
          rfl
        · rw [if_neg h3, if_neg h3]
          exact ih0
      · rw [if_neg h2, if_neg h2]
        rfl
    · rw [if_neg h1, if_neg h1]
      by_cases h4 : (122 : Int32) < r
      · rw [if_pos h4, if_pos h4]
        by_cases h2 : r = (44 : Int32)
        · rw [if_pos h2, if_pos h2]
          by_cases h3 : lts ≤ 0
          · rw [if_pos h3, if_pos h3]
            rfl
          · rw [if_neg h3, if_neg h3]
            exact ih0
        · rw [if_neg h2, if_neg h2]
          rfl
      · rw [if_neg h4, if_neg h4]
        by_cases h5 : (6 : Int32) ≤ lts
        · rw [if_pos h5, if_pos h5]
          rfl
        · rw [if_neg h5, if_neg h5]
          exact ih1
theorem tX2_faultPlace (V : Mem) : qX2_faultPlace V = some (fX2_faultPlace V) := it_fpl V (V 0 0).toNatClampNeg 0 0 fuel (by omega) (fuel_lt (by have := r32 (V 0 0); omega))

theorem kX2_wordsInside (l : Launch) (X : kX) (b : Nat) (V : Mem) (out : Int32) (hE : fX2_wordsInside V = out) : MR l yX2_wordsInside wsX2_wordsInside rmX2_wordsInside X [.ref b] (RP X LPd b V) (some (.int out)) := mX2_wordsInside l X b V out ((tX2_wordsInside V).trans (congrArg some hE))
theorem kX2_faultPlace (l : Launch) (X : kX) (b : Nat) (V : Mem) (out : Int32) (hE : fX2_faultPlace V = out) : MR l yX2_faultPlace wsX2_faultPlace rmX2_faultPlace X [.ref b] (RP X LPd b V) (some (.int out)) := mX2_faultPlace l X b V out ((tX2_faultPlace V).trans (congrArg some hE))
