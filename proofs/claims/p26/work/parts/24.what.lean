set_option maxRecDepth 20000 in
theorem lkX6_openStepsWith_0 : Cond.fieldLink RX6 10 "TideWords" "now" "LTideWords$World;" ∈ wsX6_openStepsWith := by decide +kernel
set_option maxRecDepth 20000 in
theorem iwX6_openStepsWith_X6 : ∀ w ∈ wsX60, w ∈ wsX6_openStepsWith := by decide +kernel
set_option maxRecDepth 20000 in
theorem lkX6_openStepsWith_1 : Cond.fieldLink RX6 56 "TideWords$World" "tides" "LTideWords$Tides;" ∈ wsX6_openStepsWith := by decide +kernel
set_option maxRecDepth 20000 in
theorem iwX6_openStepsWith_X5 : ∀ w ∈ wsX50, w ∈ wsX6_openStepsWith := by decide +kernel
set_option maxRecDepth 20000 in
theorem lkX6_openStepsWith_2 : Cond.fieldLink RX6 74 "TideWords$Tides" "lies" "LTideWords$Cells;" ∈ wsX6_openStepsWith := by decide +kernel
set_option maxRecDepth 20000 in
theorem iwX6_openStepsWith_X3 : ∀ w ∈ wsX30, w ∈ wsX6_openStepsWith := by decide +kernel
set_option maxRecDepth 20000 in
theorem lkX6_openStepsWith_3 : Cond.fieldLink RX6 88 "TideWords$World" "gates" "LTideWords$Gates;" ∈ wsX6_openStepsWith := by decide +kernel
set_option maxRecDepth 20000 in
theorem lkX6_openStepsWith_4 : Cond.fieldLink RX6 100 "TideWords$Gates" "slacks" "LTideWords$Cells;" ∈ wsX6_openStepsWith := by decide +kernel
set_option maxRecDepth 20000 in
theorem iwX6_openStepsWith_X1 : ∀ w ∈ wsX10, w ∈ wsX6_openStepsWith := by decide +kernel
set_option maxRecDepth 20000 in
theorem lkX6_openStepsWith_5 : Cond.fieldLink RX6 42 "TideWords" "gapsAhead" "LTideWords$Cells;" ∈ wsX6_openStepsWith := by decide +kernel
set_option maxRecDepth 20000 in
theorem sb_LA_428_LC200 : sbL LA 428 (LC 200) := sbl_of rfl
set_option maxRecDepth 20000 in
theorem lkX6_openStepsWith_6 : Cond.methodLink RX6 289 Lib.Math.abs.name ∈ wsX6_openStepsWith := by decide +kernel
set_option maxRecDepth 20000 in
theorem lkX6_openStepsWith_7 : Cond.static Lib.Math.abs.name ∈ wsX6_openStepsWith := by decide +kernel
set_option maxRecDepth 20000 in
theorem lkX6_openStepsWith_8 : Cond.initialized "java/lang/Math" ∈ wsX6_openStepsWith := by decide +kernel
set_option maxRecDepth 20000 in
theorem lkX6_openStepsWith_9 : Cond.code Lib.Math.abs.name Lib.Math.abs.code 1 (some .int) ∈ wsX6_openStepsWith := by decide +kernel
def lbX6_openStepsWith_54 (V : Mem) (a3 : Int32) (r1 : Int32) (r3 : Int32) (s4 : Int32 × Int32) : Option ((Int32 × Int32) ⊕ (Int32 × Int32)) := if (200 : Int32) ≤ s4.2 then some (.inr (s4.1, s4.2)) else lt (cget 200 (V 429) s4.2) (fun r6 => lt (if 0 ≤ (r6 + (-(a3 - r1))) then (r6 + (-(a3 - r1))) else 0 - (r6 + (-(a3 - r1)))) (fun r7 => if r3 < r7 then some (.inl (s4.1, s4.2 + 1)) else some (.inl (s4.1 + 1, s4.2 + 1))))
def lbX6_openStepsWith_54_1 (V : Mem) (a3 : Int32) (r1 : Int32) (r11 : Int32) (s12 : Int32 × Int32) : Option ((Int32 × Int32) ⊕ (Int32 × Int32)) := if (200 : Int32) ≤ s12.2 then some (.inr (s12.1, s12.2)) else lt (cget 200 (V 429) s12.2) (fun r14 => lt (if 0 ≤ (r14 + (a3 - r1)) then (r14 + (a3 - r1)) else 0 - (r14 + (a3 - r1))) (fun r15 => if r11 < r15 then some (.inl (s12.1, s12.2 + 1)) else some (.inl (s12.1 + 1, s12.2 + 1))))
def qX6_openStepsWith (V : Mem) (a1 : Int32) (a2 : Int32) (a3 : Int32) : Option (Int32) := lt (cget 2 (V 10) a1) (fun r1 => if a1 = 0 then lt (cget 4 (V 15) a2) (fun r11 => (it (lbX6_openStepsWith_54_1 V a3 r1 r11) fuel ((0 : Int32), (0 : Int32))).bind (fun s17 => some (s17.1))) else lt (cget 4 (V 15) a2) (fun r3 => (it (lbX6_openStepsWith_54 V a3 r1 r3) fuel ((0 : Int32), (0 : Int32))).bind (fun s9 => some (s9.1))))
abbrev rmX6_openStepsWith : Room := { frames := 1, cells := 0, slots := 0, locals := 24 }
set_option maxHeartbeats 4000000 in
set_option maxRecDepth 100000 in
theorem mX6_openStepsWith (l : Launch) (X : kX) (b : Nat) (V : Mem) (a1 : Int32) (a2 : Int32) (a3 : Int32) (out : Int32) (hE : qX6_openStepsWith V a1 a2 a3 = some out) : MR l yX6_openStepsWith wsX6_openStepsWith rmX6_openStepsWith X [.ref b, .int a1, .int a2, .int a3] (RP X LA b V) (some (.int out)) := by
  refine mt_head (cc := cX6_openStepsWith) (maxL := 9) (ret := (some .int)) (own := RX6) (by decide) rfl rfl (Nat.le_of_ble_eq_true rfl) ?_
  intro p e s m below meth c ls F hr hlocks hnm hR hl
  have hx := F.1.1
  have hb := F.1.2.1
  have hl : lv_has ls 9 [(0, .ref b), (1, .int a1), (2, .int a2), (3, .int a3)] := hl
  unfold qX6_openStepsWith at hE
  refine lv_iload_n hx hb dX6_openStepsWith_0 rfl (lv_at hl 3 rfl) ?_
  refine lv_aload_n hx hb dX6_openStepsWith_1 rfl (lv_at hl 0 rfl) ?_
  refine rg_getr F hR 0 (ci := 6) rfl (C := RX6) (T := TX6) (N := 9) rfl iwX6_openStepsWith_X6 0 (d := 1) (n := 1) rfl rfl (by decide) rfl lkX6_openStepsWith_0 rfl dX6_openStepsWith_2 ?_
  refine rg_getr F hR 1 (ci := 5) rfl (C := RX5) (T := TX5) (N := 6) rfl iwX6_openStepsWith_X5 0 (d := 1) (n := 2) rfl rfl (by decide) rfl lkX6_openStepsWith_1 rfl dX6_openStepsWith_5 ?_
  refine rg_getr F hR 2 (ci := 3) rfl (C := RX3) (T := TX3) (N := 4) rfl iwX6_openStepsWith_X3 3 (d := 7) (n := 9) rfl rfl (by decide) rfl lkX6_openStepsWith_2 rfl dX6_openStepsWith_8 ?_
  refine lv_iload_n hx hb dX6_openStepsWith_11 rfl (lv_at hl 1 rfl) ?_
  obtain ⟨r1, er1, hE⟩ := lt_el hE
  refine rg_callRV (As := [.int a1]) (rest := [.int a3]) F (kX0_get l X 2 (by decide) (b + 9) (gv V 9) a1 r1 er1) (cwV 1 F.1.2.2.2.2 gX6_openStepsWith_X0_get rfl rfl rfl hvX0_get ⟨Nat.le_of_ble_eq_true rfl, Nat.le_of_ble_eq_true rfl⟩) (rp_recv F hR 9 rfl (C := RX0) (T := TX0) (N := 1) rfl rfl) (hR.sub 9 sb_LA_9_LC2) rfl hl.1 (Nat.le_of_ble_eq_true rfl) dX6_openStepsWith_12 ⟨Nat.zero_le _, Nat.zero_le _⟩ rfl ?_
  refine lv_isub hx hb dX6_openStepsWith_15 ?_
  refine lv_istore (lv' := [(4, .int (a3 - r1)), (0, .ref b), (1, .int a1), (2, .int a2), (3, .int a3)]) hx hb dX6_openStepsWith_16 hl (by decide) rfl (fun ls hl => ?_)
  refine lv_iload_n hx hb dX6_openStepsWith_18 rfl (lv_at hl 2 rfl) ?_
  refine lv_if_ne (tgt := 27) hx hb dX6_openStepsWith_19 (by decide) (fun c2 => ?_) (fun c2 => ?_)
  · have hE := (if_neg c2).symm.trans hE
    refine lv_iload hx hb dX6_openStepsWith_27 (lv_at hl 0 rfl) ?_
    refine lv_ineg hx hb dX6_openStepsWith_29 ?_
    refine lv_istore (lv' := [(5, .int (-(a3 - r1))), (4, .int (a3 - r1)), (0, .ref b), (1, .int a1), (2, .int a2), (3, .int a3)]) hx hb dX6_openStepsWith_30 hl (by decide) rfl (fun ls hl => ?_)
    refine lv_aload_n hx hb dX6_openStepsWith_32 rfl (lv_at hl 2 rfl) ?_
    refine rg_getr F hR 0 (ci := 6) rfl (C := RX6) (T := TX6) (N := 9) rfl iwX6_openStepsWith_X6 0 (d := 1) (n := 1) rfl rfl (by decide) rfl lkX6_openStepsWith_0 rfl dX6_openStepsWith_33 ?_
    refine rg_getr F hR 1 (ci := 5) rfl (C := RX5) (T := TX5) (N := 6) rfl iwX6_openStepsWith_X5 1 (d := 10) (n := 11) rfl rfl (by decide) rfl lkX6_openStepsWith_3 rfl dX6_openStepsWith_36 ?_
    refine rg_getr F hR 11 (ci := 1) rfl (C := RX1) (T := TX1) (N := 8) rfl iwX6_openStepsWith_X1 1 (d := 3) (n := 14) rfl rfl (by decide) rfl lkX6_openStepsWith_4 rfl dX6_openStepsWith_39 ?_
    refine lv_iload_n hx hb dX6_openStepsWith_42 rfl (lv_at hl 4 rfl) ?_
    obtain ⟨r3, er3, hE⟩ := lt_el hE
    refine rg_callRV (As := [.int a2]) (rest := []) F (kX0_get l X 4 (by decide) (b + 14) (gv V 14) a2 r3 er3) (cwV 1 F.1.2.2.2.2 gX6_openStepsWith_X0_get rfl rfl rfl hvX0_get ⟨Nat.le_of_ble_eq_true rfl, Nat.le_of_ble_eq_true rfl⟩) (rp_recv F hR 14 rfl (C := RX0) (T := TX0) (N := 1) rfl rfl) (hR.sub 14 sb_LA_14_LC4) rfl hl.1 (Nat.le_of_ble_eq_true rfl) dX6_openStepsWith_43 ⟨Nat.zero_le _, Nat.zero_le _⟩ rfl ?_
    refine lv_istore (lv' := [(6, .int r3), (5, .int (-(a3 - r1))), (4, .int (a3 - r1)), (0, .ref b), (1, .int a1), (2, .int a2), (3, .int a3)]) hx hb dX6_openStepsWith_46 hl (by decide) rfl (fun ls hl => ?_)
    refine lv_iconst (v := 0) hx hb dX6_openStepsWith_48 (by decide) ?_
    refine lv_istore (lv' := [(7, .int ((0 : Int32))), (6, .int r3), (5, .int (-(a3 - r1))), (4, .int (a3 - r1)), (0, .ref b), (1, .int a1), (2, .int a2), (3, .int a3)]) hx hb dX6_openStepsWith_49 hl (by decide) rfl (fun ls hl => ?_)
    refine lv_iconst (v := 0) hx hb dX6_openStepsWith_51 (by decide) ?_
    refine lv_istore (lv' := [(8, .int ((0 : Int32))), (7, .int ((0 : Int32))), (6, .int r3), (5, .int (-(a3 - r1))), (4, .int (a3 - r1)), (0, .ref b), (1, .int a1), (2, .int a2), (3, .int a3)]) hx hb dX6_openStepsWith_52 hl (by decide) rfl (fun ls hl => ?_)
    obtain ⟨x10, hx10, hE⟩ := bd_el hE
    refine it_walk2 (body := lbX6_openStepsWith_54 V a3 r1 r3) (Wh := fun s4 => ∀ (ls : Array Slot), lv_has ls 9 [(8, .int s4.2), (7, .int s4.1), (6, .int r3), (5, .int (-(a3 - r1))), (4, .int (a3 - r1)), (0, .ref b), (1, .int a1), (2, .int a2), (3, .int a3)] → W p l e rmX6_openStepsWith s m ([.ref b, .int a1, .int a2, .int a3] : List Value).toArray below meth c s.heap [] 0 0 (MQ below (cQr (some (.int out))) ([.ref b, .int a1, .int a2, .int a3] : List Value).toArray s 0 0 (fun _ => False)) (F0 m 54 ls [])) (We := fun s9 => ∀ (ls : Array Slot), lv_has ls 9 [(8, .int s9.2), (7, .int s9.1), (6, .int r3), (5, .int (-(a3 - r1))), (4, .int (a3 - r1)), (0, .ref b), (1, .int a1), (2, .int a2), (3, .int a3)] → W p l e rmX6_openStepsWith s m ([.ref b, .int a1, .int a2, .int a3] : List Value).toArray below meth c s.heap [] 0 0 (MQ below (cQr (some (.int out))) ([.ref b, .int a1, .int a2, .int a3] : List Value).toArray s 0 0 (fun _ => False)) (F0 m 91 ls [])) ?_ _ _ _ hx10 ?_ ls (lv_sub hl [0, 1, 2, 3, 4, 5, 6, 7, 8] rfl)
    · intro s4 r9 hE hL9 hR9 ls hl
      unfold lbX6_openStepsWith_54 at hE
      refine lv_iload hx hb dX6_openStepsWith_54 (lv_at hl 0 rfl) ?_
      refine lv_sipush (v := 200) hx hb dX6_openStepsWith_56 (by decide) ?_
      refine lv_icmp_ge (tgt := 91) hx hb dX6_openStepsWith_59 (by decide) (fun c5 => ?_) (fun c5 => ?_)
      · have hE := (if_pos c5).symm.trans hE
        cases hE
        exact hR9 _ rfl ls (lv_sub hl [0, 1, 2, 3, 4, 5, 6, 7, 8] rfl)
      · have hE := (if_neg c5).symm.trans hE
        refine lv_aload_n hx hb dX6_openStepsWith_62 rfl (lv_at hl 5 rfl) ?_
        refine rg_getr F hR 0 (ci := 6) rfl (C := RX6) (T := TX6) (N := 9) rfl iwX6_openStepsWith_X6 6 (d := 428) (n := 428) rfl rfl (by decide) rfl lkX6_openStepsWith_5 rfl dX6_openStepsWith_63 ?_
        refine lv_iload hx hb dX6_openStepsWith_66 (lv_at hl 0 rfl) ?_
        obtain ⟨r6, er6, hE⟩ := lt_el hE
        refine rg_callRV (As := [.int s4.2]) (rest := []) F (kX0_get l X 200 (by decide) (b + 428) (gv V 428) s4.2 r6 er6) (cwV 1 F.1.2.2.2.2 gX6_openStepsWith_X0_get rfl rfl rfl hvX0_get ⟨Nat.le_of_ble_eq_true rfl, Nat.le_of_ble_eq_true rfl⟩) (rp_recv F hR 428 rfl (C := RX0) (T := TX0) (N := 1) rfl rfl) (hR.sub 428 sb_LA_428_LC200) rfl hl.1 (Nat.le_of_ble_eq_true rfl) dX6_openStepsWith_68 ⟨Nat.zero_le _, Nat.zero_le _⟩ rfl ?_
        refine lv_iload hx hb dX6_openStepsWith_71 (lv_at hl 3 rfl) ?_
        refine lv_iadd hx hb dX6_openStepsWith_73 ?_
        obtain ⟨r7, er7, hE⟩ := lt_el hE
        refine va_mabs hx hb (F.1.2.2.1.trans hl.1.symm) F.1.2.2.2.1 (F.1.2.2.2.2 _ lkX6_openStepsWith_6) (F.1.2.2.2.2 _ lkX6_openStepsWith_7) (F.1.2.2.2.2 _ lkX6_openStepsWith_8) (F.1.2.2.2.2 _ lkX6_openStepsWith_9) (Nat.le_of_ble_eq_true rfl) (Nat.le_of_ble_eq_true rfl) (Nat.zero_le _) (Nat.zero_le _) dX6_openStepsWith_74 ?_
        refine lv_nm er7 ?_
        refine lv_iload hx hb dX6_openStepsWith_77 (lv_at hl 2 rfl) ?_
        refine lv_icmp_gt (tgt := 85) hx hb dX6_openStepsWith_79 (by decide) (fun c8 => ?_) (fun c8 => ?_)
        · have hE := (if_pos c8).symm.trans hE
          refine lv_iinc (v := s4.2 + 1) (lv' := [(8, .int (s4.2 + 1)), (7, .int s4.1), (6, .int r3), (5, .int (-(a3 - r1))), (4, .int (a3 - r1)), (0, .ref b), (1, .int a1), (2, .int a2), (3, .int a3)]) hx hb dX6_openStepsWith_85 hl (k := 0) rfl (congrArg (fun q => s4.2 + q) (by decide)) (by decide) rfl (fun ls hl => ?_)
          refine lv_goto (tgt := 54) hx hb dX6_openStepsWith_88 (by decide) ?_
          cases hE
          exact hL9 _ rfl ls (lv_sub hl [0, 1, 2, 3, 4, 5, 6, 7, 8] rfl)
        · have hE := (if_neg c8).symm.trans hE
          refine lv_iinc (v := s4.1 + 1) (lv' := [(7, .int (s4.1 + 1)), (8, .int s4.2), (6, .int r3), (5, .int (-(a3 - r1))), (4, .int (a3 - r1)), (0, .ref b), (1, .int a1), (2, .int a2), (3, .int a3)]) hx hb dX6_openStepsWith_82 hl (k := 1) rfl (congrArg (fun q => s4.1 + q) (by decide)) (by decide) rfl (fun ls hl => ?_)
          refine lv_iinc (v := s4.2 + 1) (lv' := [(8, .int (s4.2 + 1)), (7, .int (s4.1 + 1)), (6, .int r3), (5, .int (-(a3 - r1))), (4, .int (a3 - r1)), (0, .ref b), (1, .int a1), (2, .int a2), (3, .int a3)]) hx hb dX6_openStepsWith_85 hl (k := 1) rfl (congrArg (fun q => s4.2 + q) (by decide)) (by decide) rfl (fun ls hl => ?_)
          refine lv_goto (tgt := 54) hx hb dX6_openStepsWith_88 (by decide) ?_
          cases hE
          exact hL9 _ rfl ls (lv_sub hl [0, 1, 2, 3, 4, 5, 6, 7, 8] rfl)
    · intro ls hl
      refine lv_iload hx hb dX6_openStepsWith_91 (lv_at hl 1 rfl) ?_
      have hE := Option.some.inj hE
      subst hE
      exact W.iret (v := x10.1) hx hb hr (fun t ht _ => ⟨rfl, ht⟩) (fun _ h => absurd h List.not_mem_nil) dX6_openStepsWith_93
  · have hE := (if_pos c2).symm.trans hE
    refine lv_iload hx hb dX6_openStepsWith_22 (lv_at hl 0 rfl) ?_
    refine lv_goto (tgt := 30) hx hb dX6_openStepsWith_24 (by decide) ?_
    refine lv_istore (lv' := [(5, .int (a3 - r1)), (4, .int (a3 - r1)), (0, .ref b), (1, .int a1), (2, .int a2), (3, .int a3)]) hx hb dX6_openStepsWith_30 hl (by decide) rfl (fun ls hl => ?_)
    refine lv_aload_n hx hb dX6_openStepsWith_32 rfl (lv_at hl 2 rfl) ?_
    refine rg_getr F hR 0 (ci := 6) rfl (C := RX6) (T := TX6) (N := 9) rfl iwX6_openStepsWith_X6 0 (d := 1) (n := 1) rfl rfl (by decide) rfl lkX6_openStepsWith_0 rfl dX6_openStepsWith_33 ?_
    refine rg_getr F hR 1 (ci := 5) rfl (C := RX5) (T := TX5) (N := 6) rfl iwX6_openStepsWith_X5 1 (d := 10) (n := 11) rfl rfl (by decide) rfl lkX6_openStepsWith_3 rfl dX6_openStepsWith_36 ?_
    refine rg_getr F hR 11 (ci := 1) rfl (C := RX1) (T := TX1) (N := 8) rfl iwX6_openStepsWith_X1 1 (d := 3) (n := 14) rfl rfl (by decide) rfl lkX6_openStepsWith_4 rfl dX6_openStepsWith_39 ?_
    refine lv_iload_n hx hb dX6_openStepsWith_42 rfl (lv_at hl 4 rfl) ?_
    obtain ⟨r11, er11, hE⟩ := lt_el hE
    refine rg_callRV (As := [.int a2]) (rest := []) F (kX0_get l X 4 (by decide) (b + 14) (gv V 14) a2 r11 er11) (cwV 1 F.1.2.2.2.2 gX6_openStepsWith_X0_get rfl rfl rfl hvX0_get ⟨Nat.le_of_ble_eq_true rfl, Nat.le_of_ble_eq_true rfl⟩) (rp_recv F hR 14 rfl (C := RX0) (T := TX0) (N := 1) rfl rfl) (hR.sub 14 sb_LA_14_LC4) rfl hl.1 (Nat.le_of_ble_eq_true rfl) dX6_openStepsWith_43 ⟨Nat.zero_le _, Nat.zero_le _⟩ rfl ?_
    refine lv_istore (lv' := [(6, .int r11), (5, .int (a3 - r1)), (4, .int (a3 - r1)), (0, .ref b), (1, .int a1), (2, .int a2), (3, .int a3)]) hx hb dX6_openStepsWith_46 hl (by decide) rfl (fun ls hl => ?_)
    refine lv_iconst (v := 0) hx hb dX6_openStepsWith_48 (by decide) ?_
    refine lv_istore (lv' := [(7, .int ((0 : Int32))), (6, .int r11), (5, .int (a3 - r1)), (4, .int (a3 - r1)), (0, .ref b), (1, .int a1), (2, .int a2), (3, .int a3)]) hx hb dX6_openStepsWith_49 hl (by decide) rfl (fun ls hl => ?_)
    refine lv_iconst (v := 0) hx hb dX6_openStepsWith_51 (by decide) ?_
    refine lv_istore (lv' := [(8, .int ((0 : Int32))), (7, .int ((0 : Int32))), (6, .int r11), (5, .int (a3 - r1)), (4, .int (a3 - r1)), (0, .ref b), (1, .int a1), (2, .int a2), (3, .int a3)]) hx hb dX6_openStepsWith_52 hl (by decide) rfl (fun ls hl => ?_)
    obtain ⟨x18, hx18, hE⟩ := bd_el hE
    refine it_walk2 (body := lbX6_openStepsWith_54_1 V a3 r1 r11) (Wh := fun s12 => ∀ (ls : Array Slot), lv_has ls 9 [(8, .int s12.2), (7, .int s12.1), (6, .int r11), (5, .int (a3 - r1)), (4, .int (a3 - r1)), (0, .ref b), (1, .int a1), (2, .int a2), (3, .int a3)] → W p l e rmX6_openStepsWith s m ([.ref b, .int a1, .int a2, .int a3] : List Value).toArray below meth c s.heap [] 0 0 (MQ below (cQr (some (.int out))) ([.ref b, .int a1, .int a2, .int a3] : List Value).toArray s 0 0 (fun _ => False)) (F0 m 54 ls [])) (We := fun s17 => ∀ (ls : Array Slot), lv_has ls 9 [(8, .int s17.2), (7, .int s17.1), (6, .int r11), (5, .int (a3 - r1)), (4, .int (a3 - r1)), (0, .ref b), (1, .int a1), (2, .int a2), (3, .int a3)] → W p l e rmX6_openStepsWith s m ([.ref b, .int a1, .int a2, .int a3] : List Value).toArray below meth c s.heap [] 0 0 (MQ below (cQr (some (.int out))) ([.ref b, .int a1, .int a2, .int a3] : List Value).toArray s 0 0 (fun _ => False)) (F0 m 91 ls [])) ?_ _ _ _ hx18 ?_ ls (lv_sub hl [0, 1, 2, 3, 4, 5, 6, 7, 8] rfl)
    · intro s12 r9 hE hL9 hR9 ls hl
      unfold lbX6_openStepsWith_54_1 at hE
      refine lv_iload hx hb dX6_openStepsWith_54 (lv_at hl 0 rfl) ?_
      refine lv_sipush (v := 200) hx hb dX6_openStepsWith_56 (by decide) ?_
      refine lv_icmp_ge (tgt := 91) hx hb dX6_openStepsWith_59 (by decide) (fun c13 => ?_) (fun c13 => ?_)
      · have hE := (if_pos c13).symm.trans hE
        cases hE
        exact hR9 _ rfl ls (lv_sub hl [0, 1, 2, 3, 4, 5, 6, 7, 8] rfl)
      · have hE := (if_neg c13).symm.trans hE
        refine lv_aload_n hx hb dX6_openStepsWith_62 rfl (lv_at hl 5 rfl) ?_
        refine rg_getr F hR 0 (ci := 6) rfl (C := RX6) (T := TX6) (N := 9) rfl iwX6_openStepsWith_X6 6 (d := 428) (n := 428) rfl rfl (by decide) rfl lkX6_openStepsWith_5 rfl dX6_openStepsWith_63 ?_
        refine lv_iload hx hb dX6_openStepsWith_66 (lv_at hl 0 rfl) ?_
        obtain ⟨r14, er14, hE⟩ := lt_el hE
        refine rg_callRV (As := [.int s12.2]) (rest := []) F (kX0_get l X 200 (by decide) (b + 428) (gv V 428) s12.2 r14 er14) (cwV 1 F.1.2.2.2.2 gX6_openStepsWith_X0_get rfl rfl rfl hvX0_get ⟨Nat.le_of_ble_eq_true rfl, Nat.le_of_ble_eq_true rfl⟩) (rp_recv F hR 428 rfl (C := RX0) (T := TX0) (N := 1) rfl rfl) (hR.sub 428 sb_LA_428_LC200) rfl hl.1 (Nat.le_of_ble_eq_true rfl) dX6_openStepsWith_68 ⟨Nat.zero_le _, Nat.zero_le _⟩ rfl ?_
        refine lv_iload hx hb dX6_openStepsWith_71 (lv_at hl 3 rfl) ?_
        refine lv_iadd hx hb dX6_openStepsWith_73 ?_
        obtain ⟨r15, er15, hE⟩ := lt_el hE
        refine va_mabs hx hb (F.1.2.2.1.trans hl.1.symm) F.1.2.2.2.1 (F.1.2.2.2.2 _ lkX6_openStepsWith_6) (F.1.2.2.2.2 _ lkX6_openStepsWith_7) (F.1.2.2.2.2 _ lkX6_openStepsWith_8) (F.1.2.2.2.2 _ lkX6_openStepsWith_9) (Nat.le_of_ble_eq_true rfl) (Nat.le_of_ble_eq_true rfl) (Nat.zero_le _) (Nat.zero_le _) dX6_openStepsWith_74 ?_
        refine lv_nm er15 ?_
        refine lv_iload hx hb dX6_openStepsWith_77 (lv_at hl 2 rfl) ?_
        refine lv_icmp_gt (tgt := 85) hx hb dX6_openStepsWith_79 (by decide) (fun c16 => ?_) (fun c16 => ?_)
        · have hE := (if_pos c16).symm.trans hE
          refine lv_iinc (v := s12.2 + 1) (lv' := [(8, .int (s12.2 + 1)), (7, .int s12.1), (6, .int r11), (5, .int (a3 - r1)), (4, .int (a3 - r1)), (0, .ref b), (1, .int a1), (2, .int a2), (3, .int a3)]) hx hb dX6_openStepsWith_85 hl (k := 0) rfl (congrArg (fun q => s12.2 + q) (by decide)) (by decide) rfl (fun ls hl => ?_)
          refine lv_goto (tgt := 54) hx hb dX6_openStepsWith_88 (by decide) ?_
          cases hE
          exact hL9 _ rfl ls (lv_sub hl [0, 1, 2, 3, 4, 5, 6, 7, 8] rfl)
        · have hE := (if_neg c16).symm.trans hE
          refine lv_iinc (v := s12.1 + 1) (lv' := [(7, .int (s12.1 + 1)), (8, .int s12.2), (6, .int r11), (5, .int (a3 - r1)), (4, .int (a3 - r1)), (0, .ref b), (1, .int a1), (2, .int a2), (3, .int a3)]) hx hb dX6_openStepsWith_82 hl (k := 1) rfl (congrArg (fun q => s12.1 + q) (by decide)) (by decide) rfl (fun ls hl => ?_)
          refine lv_iinc (v := s12.2 + 1) (lv' := [(8, .int (s12.2 + 1)), (7, .int (s12.1 + 1)), (6, .int r11), (5, .int (a3 - r1)), (4, .int (a3 - r1)), (0, .ref b), (1, .int a1), (2, .int a2), (3, .int a3)]) hx hb dX6_openStepsWith_85 hl (k := 1) rfl (congrArg (fun q => s12.2 + q) (by decide)) (by decide) rfl (fun ls hl => ?_)
          refine lv_goto (tgt := 54) hx hb dX6_openStepsWith_88 (by decide) ?_
          cases hE
          exact hL9 _ rfl ls (lv_sub hl [0, 1, 2, 3, 4, 5, 6, 7, 8] rfl)
    · intro ls hl
      refine lv_iload hx hb dX6_openStepsWith_91 (lv_at hl 1 rfl) ?_
      have hE := Option.some.inj hE
      subst hE
      exact W.iret (v := x18.1) hx hb hr (fun t ht _ => ⟨rfl, ht⟩) (fun _ h => absurd h List.not_mem_nil) dX6_openStepsWith_93
set_option maxRecDepth 20000 in
theorem lkX6_hasGapAhead_0 : Cond.fieldLink RX6 42 "TideWords" "gapsAhead" "LTideWords$Cells;" ∈ wsX6_hasGapAhead := by decide +kernel
set_option maxRecDepth 20000 in
theorem iwX6_hasGapAhead_X6 : ∀ w ∈ wsX60, w ∈ wsX6_hasGapAhead := by decide +kernel
set_option maxRecDepth 20000 in
theorem lkX6_hasGapAhead_1 : Cond.methodLink RX6 289 Lib.Math.abs.name ∈ wsX6_hasGapAhead := by decide +kernel
set_option maxRecDepth 20000 in
theorem lkX6_hasGapAhead_2 : Cond.static Lib.Math.abs.name ∈ wsX6_hasGapAhead := by decide +kernel
set_option maxRecDepth 20000 in
theorem lkX6_hasGapAhead_3 : Cond.initialized "java/lang/Math" ∈ wsX6_hasGapAhead := by decide +kernel
set_option maxRecDepth 20000 in
theorem lkX6_hasGapAhead_4 : Cond.code Lib.Math.abs.name Lib.Math.abs.code 1 (some .int) ∈ wsX6_hasGapAhead := by decide +kernel
def lbX6_hasGapAhead_2 (V : Mem) (a1 : Int32) (s1 : Int32) : Option ((Int32) ⊕ ((Int32) ⊕ (Int32))) := if (200 : Int32) ≤ s1 then some (.inr (.inr s1)) else lt (cget 200 (V 429) s1) (fun r3 => lt (if 0 ≤ r3 then r3 else 0 - r3) (fun r4 => if r4 = a1 then some (.inr (.inl ((1 : Int32)))) else some (.inl (s1 + 1))))
def qX6_hasGapAhead (V : Mem) (a1 : Int32) : Option (Int32) := (it (lbX6_hasGapAhead_2 V a1) fuel (0 : Int32)).bind (fun x7 => Sum.elim (fun r0 => some r0) (fun s6 => some ((0 : Int32))) x7)
abbrev rmX6_hasGapAhead : Room := { frames := 1, cells := 0, slots := 0, locals := 24 }
set_option maxHeartbeats 4000000 in
set_option maxRecDepth 100000 in
theorem mX6_hasGapAhead (l : Launch) (X : kX) (b : Nat) (V : Mem) (a1 : Int32) (out : Int32) (hE : qX6_hasGapAhead V a1 = some out) : MR l yX6_hasGapAhead wsX6_hasGapAhead rmX6_hasGapAhead X [.ref b, .int a1] (RP X LA b V) (some (.int out)) := by
  refine mt_head (cc := cX6_hasGapAhead) (maxL := 3) (ret := (some .boolean)) (own := RX6) (by decide) rfl rfl (Nat.le_of_ble_eq_true rfl) ?_
  intro p e s m below meth c ls F hr hlocks hnm hR hl
  have hx := F.1.1
  have hb := F.1.2.1
  have hl : lv_has ls 3 [(0, .ref b), (1, .int a1)] := hl
  unfold qX6_hasGapAhead at hE
  refine lv_iconst (v := 0) hx hb dX6_hasGapAhead_0 (by decide) ?_
  refine lv_istore_n (lv' := [(2, .int ((0 : Int32))), (0, .ref b), (1, .int a1)]) hx hb dX6_hasGapAhead_1 rfl hl (by decide) rfl (fun ls hl => ?_)
  obtain ⟨x7, hx7, hE⟩ := bd_el hE
  refine it_walk2 (body := lbX6_hasGapAhead_2 V a1) (Wh := fun s1 => ∀ (ls : Array Slot), lv_has ls 3 [(2, .int s1), (0, .ref b), (1, .int a1)] → W p l e rmX6_hasGapAhead s m ([.ref b, .int a1] : List Value).toArray below meth c s.heap [] 0 0 (MQ below (cQr (some (.int out))) ([.ref b, .int a1] : List Value).toArray s 0 0 (fun _ => False)) (F0 m 2 ls [])) (We := fun x7 => (∀ r0, x7 = .inl r0 → r0 = out) ∧ (∀ s6, x7 = .inr s6 → ∀ (ls : Array Slot), lv_has ls 3 [(2, .int s6), (0, .ref b), (1, .int a1)] → W p l e rmX6_hasGapAhead s m ([.ref b, .int a1] : List Value).toArray below meth c s.heap [] 0 0 (MQ below (cQr (some (.int out))) ([.ref b, .int a1] : List Value).toArray s 0 0 (fun _ => False)) (F0 m 32 ls []))) ?_ _ _ _ hx7 ?_ ls (lv_sub hl [0, 1, 2] rfl)
  · intro s1 r9 hE hL9 hR9 ls hl
    unfold lbX6_hasGapAhead_2 at hE
    refine lv_iload_n hx hb dX6_hasGapAhead_2 rfl (lv_at hl 0 rfl) ?_
    refine lv_sipush (v := 200) hx hb dX6_hasGapAhead_3 (by decide) ?_
    refine lv_icmp_ge (tgt := 32) hx hb dX6_hasGapAhead_6 (by decide) (fun c2 => ?_) (fun c2 => ?_)
    · have hE := (if_pos c2).symm.trans hE
      cases hE
      exact (hR9 _ rfl).2 _ rfl ls (lv_sub hl [0, 1, 2] rfl)
    · have hE := (if_neg c2).symm.trans hE
      refine lv_aload_n hx hb dX6_hasGapAhead_9 rfl (lv_at hl 1 rfl) ?_
      refine rg_getr F hR 0 (ci := 6) rfl (C := RX6) (T := TX6) (N := 9) rfl iwX6_hasGapAhead_X6 6 (d := 428) (n := 428) rfl rfl (by decide) rfl lkX6_hasGapAhead_0 rfl dX6_hasGapAhead_10 ?_
      refine lv_iload_n hx hb dX6_hasGapAhead_13 rfl (lv_at hl 0 rfl) ?_
      obtain ⟨r3, er3, hE⟩ := lt_el hE
      refine rg_callRV (As := [.int s1]) (rest := []) F (kX0_get l X 200 (by decide) (b + 428) (gv V 428) s1 r3 er3) (cwV 1 F.1.2.2.2.2 gX6_hasGapAhead_X0_get rfl rfl rfl hvX0_get ⟨Nat.le_of_ble_eq_true rfl, Nat.le_of_ble_eq_true rfl⟩) (rp_recv F hR 428 rfl (C := RX0) (T := TX0) (N := 1) rfl rfl) (hR.sub 428 sb_LA_428_LC200) rfl hl.1 (Nat.le_of_ble_eq_true rfl) dX6_hasGapAhead_14 ⟨Nat.zero_le _, Nat.zero_le _⟩ rfl ?_
      obtain ⟨r4, er4, hE⟩ := lt_el hE
      refine va_mabs hx hb (F.1.2.2.1.trans hl.1.symm) F.1.2.2.2.1 (F.1.2.2.2.2 _ lkX6_hasGapAhead_1) (F.1.2.2.2.2 _ lkX6_hasGapAhead_2) (F.1.2.2.2.2 _ lkX6_hasGapAhead_3) (F.1.2.2.2.2 _ lkX6_hasGapAhead_4) (Nat.le_of_ble_eq_true rfl) (Nat.le_of_ble_eq_true rfl) (Nat.zero_le _) (Nat.zero_le _) dX6_hasGapAhead_17 ?_
      refine lv_nm er4 ?_
      refine lv_iload_n hx hb dX6_hasGapAhead_20 rfl (lv_at hl 2 rfl) ?_
      refine lv_icmp_ne (tgt := 26) hx hb dX6_hasGapAhead_21 (by decide) (fun c5 => ?_) (fun c5 => ?_)
      · have hE := (if_neg c5).symm.trans hE
        refine lv_iinc (v := s1 + 1) (lv' := [(2, .int (s1 + 1)), (0, .ref b), (1, .int a1)]) hx hb dX6_hasGapAhead_26 hl (k := 0) rfl (congrArg (fun q => s1 + q) (by decide)) (by decide) rfl (fun ls hl => ?_)
        refine lv_goto (tgt := 2) hx hb dX6_hasGapAhead_29 (by decide) ?_
        cases hE
        exact hL9 _ rfl ls (lv_sub hl [0, 1, 2] rfl)
      · have hE := (if_pos c5).symm.trans hE
        refine lv_iconst (v := 1) hx hb dX6_hasGapAhead_24 (by decide) ?_
        cases hE
        have hE := (hR9 _ rfl).1 _ rfl
        subst hE
        exact W.zret (v := (1 : Int32)) hx hb hr rfl (fun t ht _ => ⟨rfl, ht⟩) (fun _ h => absurd h List.not_mem_nil) dX6_hasGapAhead_25
  · refine ⟨fun r0 h9 => ?_, fun s6 h9 => ?_⟩
    · subst h9
      exact Option.some.inj hE
    · subst h9
      have hE := sel_r hE
      intro ls hl
      refine lv_iconst (v := 0) hx hb dX6_hasGapAhead_32 (by decide) ?_
      have hE := Option.some.inj hE
      subst hE
      exact W.zret (v := (0 : Int32)) hx hb hr rfl (fun t ht _ => ⟨rfl, ht⟩) (fun _ h => absurd h List.not_mem_nil) dX6_hasGapAhead_33
set_option maxRecDepth 20000 in
theorem lkX6_findGapsAhead_0 : Cond.fieldLink RX6 42 "TideWords" "gapsAhead" "LTideWords$Cells;" ∈ wsX6_findGapsAhead := by decide +kernel
set_option maxRecDepth 20000 in
theorem iwX6_findGapsAhead_X6 : ∀ w ∈ wsX60, w ∈ wsX6_findGapsAhead := by decide +kernel
set_option maxRecDepth 20000 in
theorem lkX6_findGapsAhead_1 : Cond.fieldLink RX6 10 "TideWords" "now" "LTideWords$World;" ∈ wsX6_findGapsAhead := by decide +kernel
set_option maxRecDepth 20000 in
theorem lkX6_findGapsAhead_2 : Cond.fieldLink RX6 56 "TideWords$World" "tides" "LTideWords$Tides;" ∈ wsX6_findGapsAhead := by decide +kernel
set_option maxRecDepth 20000 in
theorem iwX6_findGapsAhead_X5 : ∀ w ∈ wsX50, w ∈ wsX6_findGapsAhead := by decide +kernel
set_option maxRecDepth 20000 in
theorem lkX6_findGapsAhead_3 : Cond.fieldLink RX6 66 "TideWords$World" "steps" "I" ∈ wsX6_findGapsAhead := by decide +kernel
def lbX6_findGapsAhead_2 (s1 : Int32 × Mem) : Option ((Int32 × Mem) ⊕ (Int32 × Mem)) := if (200 : Int32) ≤ s1.1 then some (.inr (s1.1, s1.2)) else lt (fX3_gapAt (gv s1.2 1) ((s1.2 1 0) + s1.1)) (fun r3 => lt (cset s1.2 429 200 s1.1 r3) (fun V4 => some (.inl (s1.1 + 1, V4))))
def qX6_findGapsAhead (V : Mem) : Option (Mem) := (it (lbX6_findGapsAhead_2) fuel ((0 : Int32), V)).bind (fun s5 => some (s5.2))
abbrev rmX6_findGapsAhead : Room := { frames := 4, cells := 0, slots := 0, locals := 92 }
set_option maxHeartbeats 4000000 in
set_option maxRecDepth 100000 in
theorem mX6_findGapsAhead (l : Launch) (X : kX) (b : Nat) (V : Mem) (out : Mem) (hE : qX6_findGapsAhead V = some out) : MW l yX6_findGapsAhead wsX6_findGapsAhead rmX6_findGapsAhead X [.ref b] (RP X LA b V) (none) b (b + LA.length) (RP X LA b out) := by
  refine mt_head (cc := cX6_findGapsAhead) (maxL := 2) (ret := none) (own := RX6) (by decide) rfl rfl (Nat.le_of_ble_eq_true rfl) ?_
  intro p e s m below meth c ls F hr hlocks hnm hR hl
  have hx := F.1.1
  have hb := F.1.2.1
  have hH : Hp (t_fr b (b + LA.length)) s.heap s.heap.size X LA b V s.heap [] := ⟨hR, va_S.rf, rfl⟩
  have hl : lv_has ls 2 [(0, .ref b)] := hl
  unfold qX6_findGapsAhead at hE
  refine lv_iconst (v := 0) hx hb dX6_findGapsAhead_0 (by decide) ?_
  refine lv_istore_n (lv' := [(1, .int ((0 : Int32))), (0, .ref b)]) hx hb dX6_findGapsAhead_1 rfl hl (by decide) rfl (fun ls hl => ?_)
  obtain ⟨x6, hx6, hE⟩ := bd_el hE
  refine it_walk2 (body := lbX6_findGapsAhead_2) (Wh := fun s1 => ∀ (H : Heap) (locs : List Loc) (ls : Array Slot), Hp (t_fr b (b + LA.length)) s.heap s.heap.size X LA b s1.2 H locs → lv_has ls 2 [(1, .int s1.1), (0, .ref b)] → W p l e rmX6_findGapsAhead s m ([.ref b] : List Value).toArray below meth c H locs 0 0 (MQ below (cQw (none) b (b + LA.length) (RP X LA b out)) ([.ref b] : List Value).toArray s 0 0 (t_fr b (b + LA.length))) (F0 m 2 ls [])) (We := fun s5 => ∀ (H : Heap) (locs : List Loc) (ls : Array Slot), Hp (t_fr b (b + LA.length)) s.heap s.heap.size X LA b s5.2 H locs → lv_has ls 2 [(1, .int s5.1), (0, .ref b)] → W p l e rmX6_findGapsAhead s m ([.ref b] : List Value).toArray below meth c H locs 0 0 (MQ below (cQw (none) b (b + LA.length) (RP X LA b out)) ([.ref b] : List Value).toArray s 0 0 (t_fr b (b + LA.length))) (F0 m 42 ls [])) ?_ _ _ _ hx6 ?_ s.heap [] ls hH (lv_sub hl [0, 1] rfl)
  · intro s1 r9 hE hL9 hR9 H locs ls hH hl
    unfold lbX6_findGapsAhead_2 at hE
    refine lv_iload_n hx hb dX6_findGapsAhead_2 rfl (lv_at hl 0 rfl) ?_
    refine lv_sipush (v := 200) hx hb dX6_findGapsAhead_3 (by decide) ?_
    refine lv_icmp_ge (tgt := 42) hx hb dX6_findGapsAhead_6 (by decide) (fun c2 => ?_) (fun c2 => ?_)
    · have hE := (if_pos c2).symm.trans hE
      cases hE
      exact hR9 _ rfl H locs ls hH (lv_sub hl [0, 1] rfl)
    · have hE := (if_neg c2).symm.trans hE
      refine lv_aload_n hx hb dX6_findGapsAhead_9 rfl (lv_at hl 1 rfl) ?_
      refine rg_getr F hH.1 0 (ci := 6) rfl (C := RX6) (T := TX6) (N := 9) rfl iwX6_findGapsAhead_X6 6 (d := 428) (n := 428) rfl rfl (by decide) rfl lkX6_findGapsAhead_0 rfl dX6_findGapsAhead_10 ?_
      refine lv_iload_n hx hb dX6_findGapsAhead_13 rfl (lv_at hl 0 rfl) ?_
      refine lv_aload_n hx hb dX6_findGapsAhead_14 rfl (lv_at hl 1 rfl) ?_
      refine rg_getr F hH.1 0 (ci := 6) rfl (C := RX6) (T := TX6) (N := 9) rfl iwX6_findGapsAhead_X6 0 (d := 1) (n := 1) rfl rfl (by decide) rfl lkX6_findGapsAhead_1 rfl dX6_findGapsAhead_15 ?_
      refine rg_getr F hH.1 1 (ci := 5) rfl (C := RX5) (T := TX5) (N := 6) rfl iwX6_findGapsAhead_X5 0 (d := 1) (n := 2) rfl rfl (by decide) rfl lkX6_findGapsAhead_2 rfl dX6_findGapsAhead_18 ?_
      refine lv_aload_n hx hb dX6_findGapsAhead_21 rfl (lv_at hl 1 rfl) ?_
      refine rg_getr F hH.1 0 (ci := 6) rfl (C := RX6) (T := TX6) (N := 9) rfl iwX6_findGapsAhead_X6 0 (d := 1) (n := 1) rfl rfl (by decide) rfl lkX6_findGapsAhead_1 rfl dX6_findGapsAhead_22 ?_
      refine rg_geti F hH.1 1 (ci := 5) rfl (C := RX5) (T := TX5) (N := 6) rfl iwX6_findGapsAhead_X5 3 (i := 0) rfl (by decide) rfl lkX6_findGapsAhead_3 rfl dX6_findGapsAhead_25 ?_
      refine lv_iload_n hx hb dX6_findGapsAhead_28 rfl (lv_at hl 0 rfl) ?_
      refine lv_iadd hx hb dX6_findGapsAhead_29 ?_
      obtain ⟨r3, er3, hE⟩ := lt_el hE
      refine rg_callRV (As := [.int ((s1.2 1 0) + s1.1)]) (rest := [.int s1.1, .ref (b + 428)]) F (mX3_gapAt l X (b + 1) (gv s1.2 1) ((s1.2 1 0) + s1.1) r3 er3) (cwV 1 F.1.2.2.2.2 gX6_findGapsAhead_X3_gapAt rfl rfl rfl hvX3_gapAt ⟨Nat.le_of_ble_eq_true rfl, Nat.le_of_ble_eq_true rfl⟩) (rp_recv F hH.1 2 rfl (C := RX3) (T := TX3) (N := 4) rfl rfl) (hH.1.sub 1 sb_LA_1_LW) rfl hl.1 (Nat.le_of_ble_eq_true rfl) dX6_findGapsAhead_30 ⟨Nat.zero_le _, Nat.zero_le _⟩ rfl ?_
      obtain ⟨V4, eV4, hE⟩ := lt_el hE
      refine rg_callWV (As := [.int s1.1, .int r3]) (rest := []) F hH (fun q h1 h2 => ⟨h1, h2⟩) 428 sb_LA_428_LC200 (kX0_set l X 200 (by decide) (b + 428) (gv s1.2 428) s1.1 r3 _ rfl) (cwV 2 F.1.2.2.2.2 gX6_findGapsAhead_X0_set rfl rfl rfl hvX0_set ⟨Nat.le_of_ble_eq_true rfl, Nat.le_of_ble_eq_true rfl⟩) (rp_recv F hH.1 428 rfl (C := RX0) (T := TX0) (N := 1) rfl rfl) (hH.1.sub 428 sb_LA_428_LC200) rfl hl.1 (Nat.le_of_ble_eq_true rfl) dX6_findGapsAhead_33 ⟨Nat.zero_le _, Nat.zero_le _⟩ rfl ((pv_cset ..).trans eV4) (fun H locs hH hfr => ?_)
      refine lv_iinc (v := s1.1 + 1) (lv' := [(1, .int (s1.1 + 1)), (0, .ref b)]) hx hb dX6_findGapsAhead_36 hl (k := 0) rfl (congrArg (fun q => s1.1 + q) (by decide)) (by decide) rfl (fun ls hl => ?_)
      refine lv_goto (tgt := 2) hx hb dX6_findGapsAhead_39 (by decide) ?_
      cases hE
      exact hL9 _ rfl H locs ls hH (lv_sub hl [0, 1] rfl)
  · intro H locs ls hH hl
    have hE := Option.some.inj hE
    subst hE
    exact W.vret hx hb hr (fun t ht _ => mw_post hH ht) hH.2.1.2.2 dX6_findGapsAhead_42
set_option maxRecDepth 20000 in
theorem lkX6_wordsPassingWith_0 : Cond.fieldLink RX6 16 "TideWords" "trial" "LTideWords$World;" ∈ wsX6_wordsPassingWith := by decide +kernel
set_option maxRecDepth 20000 in
theorem iwX6_wordsPassingWith_X6 : ∀ w ∈ wsX60, w ∈ wsX6_wordsPassingWith := by decide +kernel
set_option maxRecDepth 20000 in
theorem lkX6_wordsPassingWith_1 : Cond.fieldLink RX6 10 "TideWords" "now" "LTideWords$World;" ∈ wsX6_wordsPassingWith := by decide +kernel
set_option maxRecDepth 20000 in
theorem sb_LA_43_LW : sbL LA 43 LW := sbl_of rfl
set_option maxRecDepth 20000 in
theorem lkX6_wordsPassingWith_2 : Cond.fieldLink RX6 88 "TideWords$World" "gates" "LTideWords$Gates;" ∈ wsX6_wordsPassingWith := by decide +kernel
set_option maxRecDepth 20000 in
theorem iwX6_wordsPassingWith_X5 : ∀ w ∈ wsX50, w ∈ wsX6_wordsPassingWith := by decide +kernel
set_option maxRecDepth 20000 in
theorem lkX6_wordsPassingWith_3 : Cond.fieldLink RX6 100 "TideWords$Gates" "slacks" "LTideWords$Cells;" ∈ wsX6_wordsPassingWith := by decide +kernel
set_option maxRecDepth 20000 in
theorem iwX6_wordsPassingWith_X1 : ∀ w ∈ wsX10, w ∈ wsX6_wordsPassingWith := by decide +kernel
set_option maxRecDepth 20000 in
theorem sb_LA_56_LC4 : sbL LA 56 (LC 4) := sbl_of rfl
set_option maxRecDepth 20000 in
theorem lkX6_wordsPassingWith_4 : Cond.fieldLink RX6 42 "TideWords" "gapsAhead" "LTideWords$Cells;" ∈ wsX6_wordsPassingWith := by decide +kernel
set_option maxRecDepth 20000 in
theorem lkX6_wordsPassingWith_5 : Cond.fieldLink RX6 136 "TideWords$Gates" "passedWords" "LTideWords$Cells;" ∈ wsX6_wordsPassingWith := by decide +kernel
set_option maxRecDepth 20000 in
theorem sb_LA_66_LC4 : sbL LA 66 (LC 4) := sbl_of rfl
def lbX6_wordsPassingWith_28 (s3 : Int32 × Mem) : Option ((Int32 × Mem) ⊕ (Int32 × Mem)) := if (200 : Int32) ≤ s3.1 then some (.inr (s3.1, s3.2)) else lt (cget 200 (s3.2 429) s3.1) (fun r5 => lt (fX5_stepAcross (gv s3.2 43) r5) (fun U6 => lt (pv s3.2 43 42 U6) (fun V7 => some (.inl (s3.1 + 1, V7)))))
def qX6_wordsPassingWith (V : Mem) (a1 : Int32) (a2 : Int32) : Option (Int32 × Mem) := lt (pv V 43 42 (gv V 1)) (fun V1 => lt (cset V1 57 4 a1 a2) (fun V2 => (it (lbX6_wordsPassingWith_28) fuel ((0 : Int32), V2)).bind (fun s8 => lt (csum 4 (s8.2 67)) (fun r10 => lt (csum 4 (s8.2 25)) (fun r11 => some ((r10 - r11, s8.2)))))))
abbrev rmX6_wordsPassingWith : Room := { frames := 5, cells := 0, slots := 0, locals := 123 }
set_option maxHeartbeats 4000000 in
set_option maxRecDepth 100000 in
theorem mX6_wordsPassingWith (l : Launch) (X : kX) (b : Nat) (V : Mem) (a1 : Int32) (a2 : Int32) (out : Int32 × Mem) (hE : qX6_wordsPassingWith V a1 a2 = some out) : MW l yX6_wordsPassingWith wsX6_wordsPassingWith rmX6_wordsPassingWith X [.ref b, .int a1, .int a2] (RP X LA b V) (some (.int out.1)) b (b + LA.length) (RP X LA b out.2) := by
  refine mt_head (cc := cX6_wordsPassingWith) (maxL := 4) (ret := (some .int)) (own := RX6) (by decide) rfl rfl (Nat.le_of_ble_eq_true rfl) ?_
  intro p e s m below meth c ls F hr hlocks hnm hR hl
  have hx := F.1.1
  have hb := F.1.2.1
  have hH : Hp (t_fr b (b + LA.length)) s.heap s.heap.size X LA b V s.heap [] := ⟨hR, va_S.rf, rfl⟩
  have hl : lv_has ls 4 [(0, .ref b), (1, .int a1), (2, .int a2)] := hl
  unfold qX6_wordsPassingWith at hE
  refine lv_aload_n hx hb dX6_wordsPassingWith_0 rfl (lv_at hl 0 rfl) ?_
  refine rg_getr F hH.1 0 (ci := 6) rfl (C := RX6) (T := TX6) (N := 9) rfl iwX6_wordsPassingWith_X6 1 (d := 43) (n := 43) rfl rfl (by decide) rfl lkX6_wordsPassingWith_0 rfl dX6_wordsPassingWith_1 ?_
  refine lv_aload_n hx hb dX6_wordsPassingWith_4 rfl (lv_at hl 0 rfl) ?_
  refine rg_getr F hH.1 0 (ci := 6) rfl (C := RX6) (T := TX6) (N := 9) rfl iwX6_wordsPassingWith_X6 0 (d := 1) (n := 1) rfl rfl (by decide) rfl lkX6_wordsPassingWith_1 rfl dX6_wordsPassingWith_5 ?_
  obtain ⟨V1, eV1, hE⟩ := lt_el hE
  refine rg_callWV (As := [.ref (b + 1)]) (rest := []) (P := fun H => RP X LW (b + 43) (gv V 43) H ∧ RP X LW (b + 1) (gv V 1) H) F hH (fun q h1 h2 => ⟨h1, h2⟩) 43 sb_LA_43_LW (mX5_copyFrom l X (b + 43) (b + 1) (gv V 43) (gv V 1) (by omega)) (cwV 1 F.1.2.2.2.2 gX6_wordsPassingWith_X5_copyFrom rfl rfl rfl hvX5_copyFrom ⟨Nat.le_of_ble_eq_true rfl, Nat.le_of_ble_eq_true rfl⟩) (rp_recv F hH.1 43 rfl (C := RX5) (T := TX5) (N := 6) rfl rfl) ⟨hH.1.sub 43 sb_LA_43_LW, hH.1.sub 1 sb_LA_1_LW⟩ rfl hl.1 (Nat.le_of_ble_eq_true rfl) dX6_wordsPassingWith_8 ⟨Nat.zero_le _, Nat.zero_le _⟩ rfl eV1 (fun H locs hH hfr => ?_)
  refine lv_aload_n hx hb dX6_wordsPassingWith_11 rfl (lv_at hl 0 rfl) ?_
  refine rg_getr F hH.1 0 (ci := 6) rfl (C := RX6) (T := TX6) (N := 9) rfl iwX6_wordsPassingWith_X6 1 (d := 43) (n := 43) rfl rfl (by decide) rfl lkX6_wordsPassingWith_0 rfl dX6_wordsPassingWith_12 ?_
  refine rg_getr F hH.1 43 (ci := 5) rfl (C := RX5) (T := TX5) (N := 6) rfl iwX6_wordsPassingWith_X5 1 (d := 10) (n := 53) rfl rfl (by decide) rfl lkX6_wordsPassingWith_2 rfl dX6_wordsPassingWith_15 ?_
  refine rg_getr F hH.1 53 (ci := 1) rfl (C := RX1) (T := TX1) (N := 8) rfl iwX6_wordsPassingWith_X1 1 (d := 3) (n := 56) rfl rfl (by decide) rfl lkX6_wordsPassingWith_3 rfl dX6_wordsPassingWith_18 ?_
  refine lv_iload_n hx hb dX6_wordsPassingWith_21 rfl (lv_at hl 1 rfl) ?_
  refine lv_iload_n hx hb dX6_wordsPassingWith_22 rfl (lv_at hl 2 rfl) ?_
  obtain ⟨V2, eV2, hE⟩ := lt_el hE
  refine rg_callWV (As := [.int a1, .int a2]) (rest := []) F hH (fun q h1 h2 => ⟨h1, h2⟩) 56 sb_LA_56_LC4 (kX0_set l X 4 (by decide) (b + 56) (gv V1 56) a1 a2 _ rfl) (cwV 2 F.1.2.2.2.2 gX6_wordsPassingWith_X0_set rfl rfl rfl hvX0_set ⟨Nat.le_of_ble_eq_true rfl, Nat.le_of_ble_eq_true rfl⟩) (rp_recv F hH.1 56 rfl (C := RX0) (T := TX0) (N := 1) rfl rfl) (hH.1.sub 56 sb_LA_56_LC4) rfl hl.1 (Nat.le_of_ble_eq_true rfl) dX6_wordsPassingWith_23 ⟨Nat.zero_le _, Nat.zero_le _⟩ rfl ((pv_cset ..).trans eV2) (fun H locs hH hfr => ?_)
  refine lv_iconst (v := 0) hx hb dX6_wordsPassingWith_26 (by decide) ?_
  refine lv_istore_n (lv' := [(3, .int ((0 : Int32))), (0, .ref b), (1, .int a1), (2, .int a2)]) hx hb dX6_wordsPassingWith_27 rfl hl (by decide) rfl (fun ls hl => ?_)
  obtain ⟨x9, hx9, hE⟩ := bd_el hE
  refine it_walk2 (body := lbX6_wordsPassingWith_28) (Wh := fun s3 => ∀ (H : Heap) (locs : List Loc) (ls : Array Slot), Hp (t_fr b (b + LA.length)) s.heap s.heap.size X LA b s3.2 H locs → lv_has ls 4 [(3, .int s3.1), (0, .ref b), (1, .int a1), (2, .int a2)] → W p l e rmX6_wordsPassingWith s m ([.ref b, .int a1, .int a2] : List Value).toArray below meth c H locs 0 0 (MQ below (cQw (some (.int out.1)) b (b + LA.length) (RP X LA b out.2)) ([.ref b, .int a1, .int a2] : List Value).toArray s 0 0 (t_fr b (b + LA.length))) (F0 m 28 ls [])) (We := fun s8 => ∀ (H : Heap) (locs : List Loc) (ls : Array Slot), Hp (t_fr b (b + LA.length)) s.heap s.heap.size X LA b s8.2 H locs → lv_has ls 4 [(3, .int s8.1), (0, .ref b), (1, .int a1), (2, .int a2)] → W p l e rmX6_wordsPassingWith s m ([.ref b, .int a1, .int a2] : List Value).toArray below meth c H locs 0 0 (MQ below (cQw (some (.int out.1)) b (b + LA.length) (RP X LA b out.2)) ([.ref b, .int a1, .int a2] : List Value).toArray s 0 0 (t_fr b (b + LA.length))) (F0 m 56 ls [])) ?_ _ _ _ hx9 ?_ H locs ls hH (lv_sub hl [0, 1, 2, 3] rfl)
  · intro s3 r9 hE hL9 hR9 H locs ls hH hl
    unfold lbX6_wordsPassingWith_28 at hE
    refine lv_iload_n hx hb dX6_wordsPassingWith_28 rfl (lv_at hl 0 rfl) ?_
    refine lv_sipush (v := 200) hx hb dX6_wordsPassingWith_29 (by decide) ?_
    refine lv_icmp_ge (tgt := 56) hx hb dX6_wordsPassingWith_32 (by decide) (fun c4 => ?_) (fun c4 => ?_)
    · have hE := (if_pos c4).symm.trans hE
      cases hE
      exact hR9 _ rfl H locs ls hH (lv_sub hl [0, 1, 2, 3] rfl)
    · have hE := (if_neg c4).symm.trans hE
      refine lv_aload_n hx hb dX6_wordsPassingWith_35 rfl (lv_at hl 1 rfl) ?_
      refine rg_getr F hH.1 0 (ci := 6) rfl (C := RX6) (T := TX6) (N := 9) rfl iwX6_wordsPassingWith_X6 1 (d := 43) (n := 43) rfl rfl (by decide) rfl lkX6_wordsPassingWith_0 rfl dX6_wordsPassingWith_36 ?_
      refine lv_aload_n hx hb dX6_wordsPassingWith_39 rfl (lv_at hl 1 rfl) ?_
      refine rg_getr F hH.1 0 (ci := 6) rfl (C := RX6) (T := TX6) (N := 9) rfl iwX6_wordsPassingWith_X6 6 (d := 428) (n := 428) rfl rfl (by decide) rfl lkX6_wordsPassingWith_4 rfl dX6_wordsPassingWith_40 ?_
      refine lv_iload_n hx hb dX6_wordsPassingWith_43 rfl (lv_at hl 0 rfl) ?_
      obtain ⟨r5, er5, hE⟩ := lt_el hE
      refine rg_callRV (As := [.int s3.1]) (rest := [.ref (b + 43)]) F (kX0_get l X 200 (by decide) (b + 428) (gv s3.2 428) s3.1 r5 er5) (cwV 1 F.1.2.2.2.2 gX6_wordsPassingWith_X0_get rfl rfl rfl hvX0_get ⟨Nat.le_of_ble_eq_true rfl, Nat.le_of_ble_eq_true rfl⟩) (rp_recv F hH.1 428 rfl (C := RX0) (T := TX0) (N := 1) rfl rfl) (hH.1.sub 428 sb_LA_428_LC200) rfl hl.1 (Nat.le_of_ble_eq_true rfl) dX6_wordsPassingWith_44 ⟨Nat.zero_le _, Nat.zero_le _⟩ rfl ?_
      obtain ⟨U6, eU6, hE⟩ := lt_el hE
      obtain ⟨V7, eV7, hE⟩ := lt_el hE
      refine rg_callWV (As := [.int r5]) (rest := []) F hH (fun q h1 h2 => ⟨h1, h2⟩) 43 sb_LA_43_LW (kX5_stepAcross l X (b + 43) (gv s3.2 43) r5 U6 eU6) (cwV 1 F.1.2.2.2.2 gX6_wordsPassingWith_X5_stepAcross rfl rfl rfl hvX5_stepAcross ⟨Nat.le_of_ble_eq_true rfl, Nat.le_of_ble_eq_true rfl⟩) (rp_recv F hH.1 43 rfl (C := RX5) (T := TX5) (N := 6) rfl rfl) (hH.1.sub 43 sb_LA_43_LW) rfl hl.1 (Nat.le_of_ble_eq_true rfl) dX6_wordsPassingWith_47 ⟨Nat.zero_le _, Nat.zero_le _⟩ rfl eV7 (fun H locs hH hfr => ?_)
      refine lv_iinc (v := s3.1 + 1) (lv' := [(3, .int (s3.1 + 1)), (0, .ref b), (1, .int a1), (2, .int a2)]) hx hb dX6_wordsPassingWith_50 hl (k := 0) rfl (congrArg (fun q => s3.1 + q) (by decide)) (by decide) rfl (fun ls hl => ?_)
      refine lv_goto (tgt := 28) hx hb dX6_wordsPassingWith_53 (by decide) ?_
      cases hE
      exact hL9 _ rfl H locs ls hH (lv_sub hl [0, 1, 2, 3] rfl)
  · intro H locs ls hH hl
    refine lv_aload_n hx hb dX6_wordsPassingWith_56 rfl (lv_at hl 1 rfl) ?_
    refine rg_getr F hH.1 0 (ci := 6) rfl (C := RX6) (T := TX6) (N := 9) rfl iwX6_wordsPassingWith_X6 1 (d := 43) (n := 43) rfl rfl (by decide) rfl lkX6_wordsPassingWith_0 rfl dX6_wordsPassingWith_57 ?_
    refine rg_getr F hH.1 43 (ci := 5) rfl (C := RX5) (T := TX5) (N := 6) rfl iwX6_wordsPassingWith_X5 1 (d := 10) (n := 53) rfl rfl (by decide) rfl lkX6_wordsPassingWith_2 rfl dX6_wordsPassingWith_60 ?_
    refine rg_getr F hH.1 53 (ci := 1) rfl (C := RX1) (T := TX1) (N := 8) rfl iwX6_wordsPassingWith_X1 6 (d := 13) (n := 66) rfl rfl (by decide) rfl lkX6_wordsPassingWith_5 rfl dX6_wordsPassingWith_63 ?_
    obtain ⟨r10, er10, hE⟩ := lt_el hE
    refine rg_callRV (As := []) (rest := []) F (kX0_sum l X 4 (by decide) (b + 66) (gv x9.2 66)  r10 er10) (cwV 0 F.1.2.2.2.2 gX6_wordsPassingWith_X0_sum rfl rfl rfl hvX0_sum ⟨Nat.le_of_ble_eq_true rfl, Nat.le_of_ble_eq_true rfl⟩) (rp_recv F hH.1 66 rfl (C := RX0) (T := TX0) (N := 1) rfl rfl) (hH.1.sub 66 sb_LA_66_LC4) rfl hl.1 (Nat.le_of_ble_eq_true rfl) dX6_wordsPassingWith_66 ⟨Nat.zero_le _, Nat.zero_le _⟩ rfl ?_
    refine lv_aload_n hx hb dX6_wordsPassingWith_69 rfl (lv_at hl 1 rfl) ?_
    refine rg_getr F hH.1 0 (ci := 6) rfl (C := RX6) (T := TX6) (N := 9) rfl iwX6_wordsPassingWith_X6 0 (d := 1) (n := 1) rfl rfl (by decide) rfl lkX6_wordsPassingWith_1 rfl dX6_wordsPassingWith_70 ?_
    refine rg_getr F hH.1 1 (ci := 5) rfl (C := RX5) (T := TX5) (N := 6) rfl iwX6_wordsPassingWith_X5 1 (d := 10) (n := 11) rfl rfl (by decide) rfl lkX6_wordsPassingWith_2 rfl dX6_wordsPassingWith_73 ?_
    refine rg_getr F hH.1 11 (ci := 1) rfl (C := RX1) (T := TX1) (N := 8) rfl iwX6_wordsPassingWith_X1 6 (d := 13) (n := 24) rfl rfl (by decide) rfl lkX6_wordsPassingWith_5 rfl dX6_wordsPassingWith_76 ?_
    obtain ⟨r11, er11, hE⟩ := lt_el hE
    refine rg_callRV (As := []) (rest := [.int r10]) F (kX0_sum l X 4 (by decide) (b + 24) (gv x9.2 24)  r11 er11) (cwV 0 F.1.2.2.2.2 gX6_wordsPassingWith_X0_sum rfl rfl rfl hvX0_sum ⟨Nat.le_of_ble_eq_true rfl, Nat.le_of_ble_eq_true rfl⟩) (rp_recv F hH.1 24 rfl (C := RX0) (T := TX0) (N := 1) rfl rfl) (hH.1.sub 24 sb_LA_24_LC4) rfl hl.1 (Nat.le_of_ble_eq_true rfl) dX6_wordsPassingWith_79 ⟨Nat.zero_le _, Nat.zero_le _⟩ rfl ?_
    refine lv_isub hx hb dX6_wordsPassingWith_82 ?_
    have hE := Option.some.inj hE
    subst hE
    exact W.iret (v := r10 - r11) hx hb hr (fun t ht _ => mw_post hH ht) hH.2.1.2.2 dX6_wordsPassingWith_83
def ab (x : Int32) : Int32 := if 0 ≤ x then x else 0 - x
theorem ge200 {i : Nat} (h : i < 200) : ¬ (200 : Int32) ≤ nI i := nI_ge (b := 200) h (by decide)
theorem le200 : (200 : Int32) ≤ nI 200 := nI_le (a := 200) (b := 200) (Nat.le_refl _) (by decide)
def fX6_openStepsWith (V : Mem) (a1 a2 a3 : Int32) : Int32 := csum 200 (fun i => if cget 4 (V 15) a2 < ab (cget 200 (V 429) (nI i) + (if a1 = 0 then a3 - cget 2 (V 10) a1 else -(a3 - cget 2 (V 10) a1))) then 0 else 1)
theorem tX6_openStepsWith (V : Mem) (a1 a2 a3 : Int32) : qX6_openStepsWith V a1 a2 a3 = some (fX6_openStepsWith V a1 a2 a3) := by
  unfold qX6_openStepsWith fX6_openStepsWith lt
  dsimp only
  generalize cget 2 (V 10) a1 = r1
  generalize cget 4 (V 15) a2 = r3
  by_cases h0 : a1 = 0
  · rw [if_pos h0, if_pos h0]
    have h : it (lbX6_openStepsWith_54_1 V a3 r1 r3) fuel ((0 : Int32), (0 : Int32)) = some (csum 200 (fun i => if r3 < ab (cget 200 (V 429) (nI i) + (a3 - r1)) then 0 else 1), nI 200) := by
      refine it_for (fun i => (csum i (fun i => if r3 < ab (cget 200 (V 429) (nI i) + (a3 - r1)) then 0 else 1), nI i)) 200 (fun i hi => ?_) ?_ fuel (fuel_lt (by omega))
      · unfold lbX6_openStepsWith_54_1 lt
        dsimp only
        rw [if_neg (ge200 hi), nI_1]
        show (if r3 < ab (cget 200 (V 429) (nI i) + (a3 - r1)) then _ else _) = some (Sum.inl (csum i _ + (if r3 < ab (cget 200 (V 429) (nI i) + (a3 - r1)) then 0 else 1), nI (i + 1)))
        by_cases h : r3 < ab (cget 200 (V 429) (nI i) + (a3 - r1))
        · rw [if_pos h, if_pos h, Int32.add_zero]
        · rw [if_neg h, if_neg h]
      · unfold lbX6_openStepsWith_54_1
        dsimp only
        rw [if_pos le200]
    rw [h]
    rfl
  · rw [if_neg h0, if_neg h0]
    have h : it (lbX6_openStepsWith_54 V a3 r1 r3) fuel ((0 : Int32), (0 : Int32)) = some (csum 200 (fun i => if r3 < ab (cget 200 (V 429) (nI i) + (-(a3 - r1))) then 0 else 1), nI 200) := by
      refine it_for (fun i => (csum i (fun i => if r3 < ab (cget 200 (V 429) (nI i) + (-(a3 - r1))) then 0 else 1), nI i)) 200 (fun i hi => ?_) ?_ fuel (fuel_lt (by omega))
      · unfold lbX6_openStepsWith_54 lt
        dsimp only
        rw [if_neg (ge200 hi), nI_1]
        show (if r3 < ab (cget 200 (V 429) (nI i) + (-(a3 - r1))) then _ else _) = some (Sum.inl (csum i _ + (if r3 < ab (cget 200 (V 429) (nI i) + (-(a3 - r1))) then 0 else 1), nI (i + 1)))
        by_cases h : r3 < ab (cget 200 (V 429) (nI i) + (-(a3 - r1)))
        · rw [if_pos h, if_pos h, Int32.add_zero]
        · rw [if_neg h, if_neg h]
      · unfold lbX6_openStepsWith_54
        dsimp only
        rw [if_pos le200]
    rw [h]
    rfl
def fX6_hasGapAhead (V : Mem) (a1 : Int32) : Int32 := (fndO (fun i => decide (ab (cget 200 (V 429) (nI i)) = a1)) 200 0).elim 0 (fun _ => 1)
theorem tX6_hasGapAhead (V : Mem) (a1 : Int32) : qX6_hasGapAhead V a1 = some (fX6_hasGapAhead V a1) := by
  have h : it (lbX6_hasGapAhead_2 V a1) fuel (0 : Int32) = some ((fndO (fun i => decide (ab (cget 200 (V 429) (nI i)) = a1)) 200 0).elim (Sum.inr (nI 200)) (fun _ => Sum.inl (1 : Int32))) := by
    refine it_fnd (fun i => nI i) _ (fun _ => Sum.inl (1 : Int32)) _ 200 (fun i hi => ?_) ?_ fuel (fuel_lt (by omega))
    · unfold lbX6_hasGapAhead_2 lt
      rw [if_neg (ge200 hi), nI_1]
      show (if ab (cget 200 (V 429) (nI i)) = a1 then _ else _) = _
      by_cases h : ab (cget 200 (V 429) (nI i)) = a1
      · simp only [h, decide_true, if_true]
      · simp only [h, decide_false, if_false, Bool.false_eq_true]
    · unfold lbX6_hasGapAhead_2
      rw [if_pos le200]
  unfold qX6_hasGapAhead fX6_hasGapAhead
  rw [h]
  cases fndO (fun i => decide (ab (cget 200 (V 429) (nI i)) = a1)) 200 0 <;> rfl
def gapC (i : Nat) (V : Mem) : Mem := cset V 429 200 (nI i) (fX3_gapAt (gv V 1) (V 1 0 + nI i))
def fX6_findGapsAhead (V : Mem) : Mem := fld gapC 200 V
theorem tX6_findGapsAhead (V : Mem) : qX6_findGapsAhead V = some (fX6_findGapsAhead V) := by
  have h : it (lbX6_findGapsAhead_2) fuel ((0 : Int32), V) = some (nI 200, fX6_findGapsAhead V) := by
    refine it_for (fun i => (nI i, fld gapC i V)) 200 (fun i hi => ?_) ?_ fuel (fuel_lt (by omega))
    · unfold lbX6_findGapsAhead_2 lt
      dsimp only
      rw [if_neg (ge200 hi), nI_1]
      rfl
    · unfold lbX6_findGapsAhead_2
      dsimp only
      rw [if_pos le200]
      rfl
  unfold qX6_findGapsAhead
  rw [h]
  rfl
def trialC (i : Nat) (V : Mem) : Mem := pv V 43 42 (fX5_stepAcross (gv V 43) (cget 200 (V 429) (nI i)))
def fX6_wordsPassingWith (V : Mem) (a1 a2 : Int32) : Int32 × Mem := (csum 4 (fld trialC 200 (cset (pv V 43 42 (gv V 1)) 57 4 a1 a2) 67) - csum 4 (fld trialC 200 (cset (pv V 43 42 (gv V 1)) 57 4 a1 a2) 25), fld trialC 200 (cset (pv V 43 42 (gv V 1)) 57 4 a1 a2))
theorem tX6_wordsPassingWith (V : Mem) (a1 a2 : Int32) : qX6_wordsPassingWith V a1 a2 = some (fX6_wordsPassingWith V a1 a2) := by
  unfold qX6_wordsPassingWith fX6_wordsPassingWith lt
  dsimp only
  generalize cset (pv V 43 42 (gv V 1)) 57 4 a1 a2 = V2
  have h : it (lbX6_wordsPassingWith_28) fuel ((0 : Int32), V2) = some (nI 200, fld trialC 200 V2) := by
    refine it_for (fun i => (nI i, fld trialC i V2)) 200 (fun i hi => ?_) ?_ fuel (fuel_lt (by omega))
    · unfold lbX6_wordsPassingWith_28 lt
      dsimp only
      rw [if_neg (ge200 hi), nI_1]
      rfl
    · unfold lbX6_wordsPassingWith_28
      dsimp only
      rw [if_pos le200]
  generalize fld trialC 200 V2 = q at h ⊢
  rw [h]
  rfl

theorem kX6_openStepsWith (l : Launch) (X : kX) (b : Nat) (V : Mem) (a1 : Int32) (a2 : Int32) (a3 : Int32) (out : Int32) (hE : fX6_openStepsWith V a1 a2 a3 = out) : MR l yX6_openStepsWith wsX6_openStepsWith rmX6_openStepsWith X [.ref b, .int a1, .int a2, .int a3] (RP X LA b V) (some (.int out)) := mX6_openStepsWith l X b V a1 a2 a3 out ((tX6_openStepsWith V a1 a2 a3).trans (congrArg some hE))
theorem kX6_hasGapAhead (l : Launch) (X : kX) (b : Nat) (V : Mem) (a1 : Int32) (out : Int32) (hE : fX6_hasGapAhead V a1 = out) : MR l yX6_hasGapAhead wsX6_hasGapAhead rmX6_hasGapAhead X [.ref b, .int a1] (RP X LA b V) (some (.int out)) := mX6_hasGapAhead l X b V a1 out ((tX6_hasGapAhead V a1).trans (congrArg some hE))
theorem kX6_findGapsAhead (l : Launch) (X : kX) (b : Nat) (V : Mem) (out : Mem) (hE : fX6_findGapsAhead V = out) : MW l yX6_findGapsAhead wsX6_findGapsAhead rmX6_findGapsAhead X [.ref b] (RP X LA b V) (none) b (b + LA.length) (RP X LA b out) := mX6_findGapsAhead l X b V out ((tX6_findGapsAhead V).trans (congrArg some hE))
theorem kX6_wordsPassingWith (l : Launch) (X : kX) (b : Nat) (V : Mem) (a1 : Int32) (a2 : Int32) (out : Int32 × Mem) (hE : fX6_wordsPassingWith V a1 a2 = out) : MW l yX6_wordsPassingWith wsX6_wordsPassingWith rmX6_wordsPassingWith X [.ref b, .int a1, .int a2] (RP X LA b V) (some (.int out.1)) b (b + LA.length) (RP X LA b out.2) := mX6_wordsPassingWith l X b V a1 a2 out ((tX6_wordsPassingWith V a1 a2).trans (congrArg some hE))
