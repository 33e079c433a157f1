set_option maxRecDepth 20000 in
theorem lkX1_isShut_0 : Cond.fieldLink RX1 26 "TideWords$Gates" "shuts" "LTideWords$Cells;" ∈ wsX1_isShut := by decide +kernel
set_option maxRecDepth 20000 in
theorem iwX1_isShut_X1 : ∀ w ∈ wsX10, w ∈ wsX1_isShut := by decide +kernel
set_option maxRecDepth 20000 in
theorem sb_LW_17_LC4 : sbL LW 17 (LC 4) := sbl_of rfl
def fX1_isShut (V : Mem) (a1 : Int32) : Int32 := lt (cget 4 (V 18) a1) (fun r1 => if r1 = 0 then (0 : Int32) else (1 : Int32))
abbrev rmX1_isShut : Room := { frames := 1, cells := 0, slots := 0, locals := 21 }
set_option maxHeartbeats 4000000 in
set_option maxRecDepth 100000 in
theorem mX1_isShut (l : Launch) (X : kX) (b : Nat) (V : Mem) (a1 : Int32) (out : Int32) (hE : fX1_isShut V a1 = out) : MR l yX1_isShut wsX1_isShut rmX1_isShut X [.ref (b + 10), .int a1] (RP X LW b V) (some (.int out)) := by
  refine mt_head (cc := cX1_isShut) (maxL := 2) (ret := (some .boolean)) (own := RX1) (by decide) rfl rfl (Nat.le_of_ble_eq_true rfl) ?_
  intro p e s m below meth c ls F hr hlocks hnm hR hl
  have hx := F.1.1
  have hb := F.1.2.1
  have hl : lv_has ls 2 [(0, .ref (b + 10)), (1, .int a1)] := hl
  unfold fX1_isShut at hE
  refine lv_aload_n hx hb dX1_isShut_0 rfl (lv_at hl 0 rfl) ?_
  refine rg_getr F hR 10 (ci := 1) rfl (C := RX1) (T := TX1) (N := 8) rfl iwX1_isShut_X1 3 (d := 7) (n := 17) rfl rfl (by decide) rfl lkX1_isShut_0 rfl dX1_isShut_1 ?_
  refine lv_iload_n hx hb dX1_isShut_4 rfl (lv_at hl 1 rfl) ?_
  obtain ⟨r1, er1, hE⟩ := lt_el hE
  refine rg_callRV (As := [.int a1]) (rest := []) F (kX0_get l X 4 (by decide) (b + 17) (gv V 17) a1 r1 er1) (cwV 1 F.1.2.2.2.2 gX1_isShut_X0_get rfl rfl rfl hvX0_get ⟨Nat.le_of_ble_eq_true rfl, Nat.le_of_ble_eq_true rfl⟩) (rp_recv F hR 17 rfl (C := RX0) (T := TX0) (N := 1) rfl rfl) (hR.sub 17 sb_LW_17_LC4) rfl hl.1 (Nat.le_of_ble_eq_true rfl) dX1_isShut_5 ⟨Nat.zero_le _, Nat.zero_le _⟩ rfl ?_
  refine lv_if_eq (tgt := 15) hx hb dX1_isShut_8 (by decide) (fun c2 => ?_) (fun c2 => ?_)
  · have hE := (if_pos c2).symm.trans hE
    refine lv_iconst (v := 0) hx hb dX1_isShut_15 (by decide) ?_
    subst hE
    exact W.zret (v := (0 : Int32)) hx hb hr rfl (fun t ht _ => ⟨rfl, ht⟩) (fun _ h => absurd h List.not_mem_nil) dX1_isShut_16
  · have hE := (if_neg c2).symm.trans hE
    refine lv_iconst (v := 1) hx hb dX1_isShut_11 (by decide) ?_
    refine lv_goto (tgt := 16) hx hb dX1_isShut_12 (by decide) ?_
    subst hE
    exact W.zret (v := (1 : Int32)) hx hb hr rfl (fun t ht _ => ⟨rfl, ht⟩) (fun _ h => absurd h List.not_mem_nil) dX1_isShut_16
theorem hvX1_isShut : yX1_isShut.cls = RX1 ∧ yX1_isShut.cls ≠ "java/lang/invoke/MethodHandle" ∧ yX1_isShut.cls ≠ "java/lang/invoke/VarHandle" ∧ (parseMethodDescriptor yX1_isShut.desc).map (fun d => d.parameters.length) = some 1 := by decide +kernel
set_option maxRecDepth 20000 in
theorem lkX1_isOpenAcross_0 : Cond.methodLink RX1 57 Lib.Math.abs.name ∈ wsX1_isOpenAcross := by decide +kernel
set_option maxRecDepth 20000 in
theorem lkX1_isOpenAcross_1 : Cond.static Lib.Math.abs.name ∈ wsX1_isOpenAcross := by decide +kernel
set_option maxRecDepth 20000 in
theorem lkX1_isOpenAcross_2 : Cond.initialized "java/lang/Math" ∈ wsX1_isOpenAcross := by decide +kernel
set_option maxRecDepth 20000 in
theorem lkX1_isOpenAcross_3 : Cond.code Lib.Math.abs.name Lib.Math.abs.code 1 (some .int) ∈ wsX1_isOpenAcross := by decide +kernel
set_option maxRecDepth 20000 in
theorem lkX1_isOpenAcross_4 : Cond.fieldLink RX1 20 "TideWords$Gates" "slacks" "LTideWords$Cells;" ∈ wsX1_isOpenAcross := by decide +kernel
set_option maxRecDepth 20000 in
theorem iwX1_isOpenAcross_X1 : ∀ w ∈ wsX10, w ∈ wsX1_isOpenAcross := by decide +kernel
set_option maxRecDepth 20000 in
theorem sb_LW_13_LC4 : sbL LW 13 (LC 4) := sbl_of rfl
def fX1_isOpenAcross (V : Mem) (a1 : Int32) (a2 : Int32) : Int32 := lt (fX1_isShut V a1) (fun r1 => if r1 = 0 then lt (if 0 ≤ a2 then a2 else 0 - a2) (fun r3 => lt (cget 4 (V 14) a1) (fun r4 => if r4 < r3 then (0 : Int32) else (1 : Int32))) else (0 : Int32))
abbrev rmX1_isOpenAcross : Room := { frames := 2, cells := 0, slots := 0, locals := 42 }
set_option maxHeartbeats 4000000 in
set_option maxRecDepth 100000 in
theorem mX1_isOpenAcross (l : Launch) (X : kX) (b : Nat) (V : Mem) (a1 : Int32) (a2 : Int32) (out : Int32) (hE : fX1_isOpenAcross V a1 a2 = out) : MR l yX1_isOpenAcross wsX1_isOpenAcross rmX1_isOpenAcross X [.ref (b + 10), .int a1, .int a2] (RP X LW b V) (some (.int out)) := by
  refine mt_head (cc := cX1_isOpenAcross) (maxL := 3) (ret := (some .boolean)) (own := RX1) (by decide) rfl rfl (Nat.le_of_ble_eq_true rfl) ?_
  intro p e s m below meth c ls F hr hlocks hnm hR hl
  have hx := F.1.1
  have hb := F.1.2.1
  have hl : lv_has ls 3 [(0, .ref (b + 10)), (1, .int a1), (2, .int a2)] := hl
  unfold fX1_isOpenAcross at hE
  refine lv_aload_n hx hb dX1_isOpenAcross_0 rfl (lv_at hl 0 rfl) ?_
  refine lv_iload_n hx hb dX1_isOpenAcross_1 rfl (lv_at hl 1 rfl) ?_
  obtain ⟨r1, er1, hE⟩ := lt_el hE
  refine rg_callRV (As := [.int a1]) (rest := []) F (mX1_isShut l X b V a1 r1 er1) (cwV 1 F.1.2.2.2.2 gX1_isOpenAcross_X1_isShut rfl rfl rfl hvX1_isShut ⟨Nat.le_of_ble_eq_true rfl, Nat.le_of_ble_eq_true rfl⟩) (rp_recv F hR 10 rfl (C := RX1) (T := TX1) (N := 8) rfl rfl) hR rfl hl.1 (Nat.le_of_ble_eq_true rfl) dX1_isOpenAcross_2 ⟨Nat.zero_le _, Nat.zero_le _⟩ rfl ?_
  refine lv_if_ne (tgt := 27) hx hb dX1_isOpenAcross_5 (by decide) (fun c2 => ?_) (fun c2 => ?_)
  · have hE := (if_neg c2).symm.trans hE
    refine lv_iconst (v := 0) hx hb dX1_isOpenAcross_27 (by decide) ?_
    subst hE
    exact W.zret (v := (0 : Int32)) hx hb hr rfl (fun t ht _ => ⟨rfl, ht⟩) (fun _ h => absurd h List.not_mem_nil) dX1_isOpenAcross_28
  · have hE := (if_pos c2).symm.trans hE
    refine lv_iload_n hx hb dX1_isOpenAcross_8 rfl (lv_at hl 2 rfl) ?_
    obtain ⟨r3, er3, hE⟩ := lt_el hE
    refine va_mabs hx hb (F.1.2.2.1.trans hl.1.symm) F.1.2.2.2.1 (F.1.2.2.2.2 _ lkX1_isOpenAcross_0) (F.1.2.2.2.2 _ lkX1_isOpenAcross_1) (F.1.2.2.2.2 _ lkX1_isOpenAcross_2) (F.1.2.2.2.2 _ lkX1_isOpenAcross_3) (Nat.le_of_ble_eq_true rfl) (Nat.le_of_ble_eq_true rfl) (Nat.zero_le _) (Nat.zero_le _) dX1_isOpenAcross_9 ?_
    refine lv_nm er3 ?_
    refine lv_aload_n hx hb dX1_isOpenAcross_12 rfl (lv_at hl 0 rfl) ?_
    refine rg_getr F hR 10 (ci := 1) rfl (C := RX1) (T := TX1) (N := 8) rfl iwX1_isOpenAcross_X1 1 (d := 3) (n := 13) rfl rfl (by decide) rfl lkX1_isOpenAcross_4 rfl dX1_isOpenAcross_13 ?_
    refine lv_iload_n hx hb dX1_isOpenAcross_16 rfl (lv_at hl 1 rfl) ?_
    obtain ⟨r4, er4, hE⟩ := lt_el hE
    refine rg_callRV (As := [.int a1]) (rest := [.int r3]) F (kX0_get l X 4 (by decide) (b + 13) (gv V 13) a1 r4 er4) (cwV 1 F.1.2.2.2.2 gX1_isOpenAcross_X0_get rfl rfl rfl hvX0_get ⟨Nat.le_of_ble_eq_true rfl, Nat.le_of_ble_eq_true rfl⟩) (rp_recv F hR 13 rfl (C := RX0) (T := TX0) (N := 1) rfl rfl) (hR.sub 13 sb_LW_13_LC4) rfl hl.1 (Nat.le_of_ble_eq_true rfl) dX1_isOpenAcross_17 ⟨Nat.zero_le _, Nat.zero_le _⟩ rfl ?_
    refine lv_icmp_gt (tgt := 27) hx hb dX1_isOpenAcross_20 (by decide) (fun c5 => ?_) (fun c5 => ?_)
    · have hE := (if_pos c5).symm.trans hE
      refine lv_iconst (v := 0) hx hb dX1_isOpenAcross_27 (by decide) ?_
      subst hE
      exact W.zret (v := (0 : Int32)) hx hb hr rfl (fun t ht _ => ⟨rfl, ht⟩) (fun _ h => absurd h List.not_mem_nil) dX1_isOpenAcross_28
    · have hE := (if_neg c5).symm.trans hE
      refine lv_iconst (v := 1) hx hb dX1_isOpenAcross_23 (by decide) ?_
      refine lv_goto (tgt := 28) hx hb dX1_isOpenAcross_24 (by decide) ?_
      subst hE
      exact W.zret (v := (1 : Int32)) hx hb hr rfl (fun t ht _ => ⟨rfl, ht⟩) (fun _ h => absurd h List.not_mem_nil) dX1_isOpenAcross_28
theorem zX1_isOpenAcross {V : Mem} {a1 : Int32} {a2 : Int32} {out : Int32} (h : fX1_isOpenAcross V a1 a2 = out) : narrow .boolean (.int out) = .int out := by
  rw [← h]
  unfold fX1_isOpenAcross
  repeat (first | rfl | (simp only [lt]) | split)
set_option maxRecDepth 20000 in
theorem lkX1_hasWord_0 : Cond.fieldLink RX1 29 "TideWords$Gates" "held" "LTideWords$Cells;" ∈ wsX1_hasWord := by decide +kernel
set_option maxRecDepth 20000 in
theorem iwX1_hasWord_X1 : ∀ w ∈ wsX10, w ∈ wsX1_hasWord := by decide +kernel
set_option maxRecDepth 20000 in
theorem sb_LW_19_LC4 : sbL LW 19 (LC 4) := sbl_of rfl
def fX1_hasWord (V : Mem) (a1 : Int32) : Int32 := lt (cget 4 (V 20) a1) (fun r1 => if r1 = (-1006 : Int32) then (0 : Int32) else (1 : Int32))
abbrev rmX1_hasWord : Room := { frames := 1, cells := 0, slots := 0, locals := 21 }
set_option maxHeartbeats 4000000 in
set_option maxRecDepth 100000 in
theorem mX1_hasWord (l : Launch) (X : kX) (b : Nat) (V : Mem) (a1 : Int32) (out : Int32) (hE : fX1_hasWord V a1 = out) : MR l yX1_hasWord wsX1_hasWord rmX1_hasWord X [.ref (b + 10), .int a1] (RP X LW b V) (some (.int out)) := by
  refine mt_head (cc := cX1_hasWord) (maxL := 2) (ret := (some .boolean)) (own := RX1) (by decide) rfl rfl (Nat.le_of_ble_eq_true rfl) ?_
  intro p e s m below meth c ls F hr hlocks hnm hR hl
  have hx := F.1.1
  have hb := F.1.2.1
  have hl : lv_has ls 2 [(0, .ref (b + 10)), (1, .int a1)] := hl
  unfold fX1_hasWord at hE
  refine lv_aload_n hx hb dX1_hasWord_0 rfl (lv_at hl 0 rfl) ?_
  refine rg_getr F hR 10 (ci := 1) rfl (C := RX1) (T := TX1) (N := 8) rfl iwX1_hasWord_X1 4 (d := 9) (n := 19) rfl rfl (by decide) rfl lkX1_hasWord_0 rfl dX1_hasWord_1 ?_
  refine lv_iload_n hx hb dX1_hasWord_4 rfl (lv_at hl 1 rfl) ?_
  obtain ⟨r1, er1, hE⟩ := lt_el hE
  refine rg_callRV (As := [.int a1]) (rest := []) F (kX0_get l X 4 (by decide) (b + 19) (gv V 19) a1 r1 er1) (cwV 1 F.1.2.2.2.2 gX1_hasWord_X0_get rfl rfl rfl hvX0_get ⟨Nat.le_of_ble_eq_true rfl, Nat.le_of_ble_eq_true rfl⟩) (rp_recv F hR 19 rfl (C := RX0) (T := TX0) (N := 1) rfl rfl) (hR.sub 19 sb_LW_19_LC4) rfl hl.1 (Nat.le_of_ble_eq_true rfl) dX1_hasWord_5 ⟨Nat.zero_le _, Nat.zero_le _⟩ rfl ?_
  refine lv_sipush (v := (-1006)) hx hb dX1_hasWord_8 (by decide) ?_
  refine lv_icmp_eq (tgt := 18) hx hb dX1_hasWord_11 (by decide) (fun c2 => ?_) (fun c2 => ?_)
  · have hE := (if_pos c2).symm.trans hE
    refine lv_iconst (v := 0) hx hb dX1_hasWord_18 (by decide) ?_
    subst hE
    exact W.zret (v := (0 : Int32)) hx hb hr rfl (fun t ht _ => ⟨rfl, ht⟩) (fun _ h => absurd h List.not_mem_nil) dX1_hasWord_19
  · have hE := (if_neg c2).symm.trans hE
    refine lv_iconst (v := 1) hx hb dX1_hasWord_14 (by decide) ?_
    refine lv_goto (tgt := 19) hx hb dX1_hasWord_15 (by decide) ?_
    subst hE
    exact W.zret (v := (1 : Int32)) hx hb hr rfl (fun t ht _ => ⟨rfl, ht⟩) (fun _ h => absurd h List.not_mem_nil) dX1_hasWord_19
set_option maxRecDepth 20000 in
theorem lkX1_release_0 : Cond.fieldLink RX1 29 "TideWords$Gates" "held" "LTideWords$Cells;" ∈ wsX1_release := by decide +kernel
set_option maxRecDepth 20000 in
theorem iwX1_release_X1 : ∀ w ∈ wsX10, w ∈ wsX1_release := by decide +kernel
set_option maxRecDepth 20000 in
theorem lkX1_release_1 : Cond.fieldLink RX1 32 "TideWords$Gates" "lettersDone" "LTideWords$Cells;" ∈ wsX1_release := by decide +kernel
set_option maxRecDepth 20000 in
theorem sb_LW_21_LC4 : sbL LW 21 (LC 4) := sbl_of rfl
def fX1_release (V : Mem) (a1 : Int32) : Mem := lt (cset V 20 4 a1 ((-1006 : Int32))) (fun V1 => lt (cset V1 22 4 a1 ((0 : Int32))) (fun V2 => V2))
abbrev rmX1_release : Room := { frames := 1, cells := 0, slots := 0, locals := 22 }
set_option maxHeartbeats 4000000 in
set_option maxRecDepth 100000 in
theorem mX1_release (l : Launch) (X : kX) (b : Nat) (V : Mem) (a1 : Int32) (out : Mem) (hE : fX1_release V a1 = out) : MW l yX1_release wsX1_release rmX1_release X [.ref (b + 10), .int a1] (RP X LW b V) (none) b (b + LW.length) (RP X LW b out) := by
  refine mt_head (cc := cX1_release) (maxL := 2) (ret := none) (own := RX1) (by decide) rfl rfl (Nat.le_of_ble_eq_true rfl) ?_
  intro p e s m below meth c ls F hr hlocks hnm hR hl
  have hx := F.1.1
  have hb := F.1.2.1
  have hH : Hp (t_fr b (b + LW.length)) s.heap s.heap.size X LW b V s.heap [] := ⟨hR, va_S.rf, rfl⟩
  have hl : lv_has ls 2 [(0, .ref (b + 10)), (1, .int a1)] := hl
  unfold fX1_release at hE
  refine lv_aload_n hx hb dX1_release_0 rfl (lv_at hl 0 rfl) ?_
  refine rg_getr F hH.1 10 (ci := 1) rfl (C := RX1) (T := TX1) (N := 8) rfl iwX1_release_X1 4 (d := 9) (n := 19) rfl rfl (by decide) rfl lkX1_release_0 rfl dX1_release_1 ?_
  refine lv_iload_n hx hb dX1_release_4 rfl (lv_at hl 1 rfl) ?_
  refine lv_sipush (v := (-1006)) hx hb dX1_release_5 (by decide) ?_
  obtain ⟨V1, eV1, hE⟩ := lt_el hE
  refine rg_callWV (As := [.int a1, .int ((-1006 : Int32))]) (rest := []) F hH (fun q h1 h2 => ⟨h1, h2⟩) 19 sb_LW_19_LC4 (kX0_set l X 4 (by decide) (b + 19) (gv V 19) a1 ((-1006 : Int32)) _ rfl) (cwV 2 F.1.2.2.2.2 gX1_release_X0_set rfl rfl rfl hvX0_set ⟨Nat.le_of_ble_eq_true rfl, Nat.le_of_ble_eq_true rfl⟩) (rp_recv F hH.1 19 rfl (C := RX0) (T := TX0) (N := 1) rfl rfl) (hH.1.sub 19 sb_LW_19_LC4) rfl hl.1 (Nat.le_of_ble_eq_true rfl) dX1_release_8 ⟨Nat.zero_le _, Nat.zero_le _⟩ rfl ((pv_cset ..).trans eV1) (fun H locs hH hfr => ?_)
  refine lv_aload_n hx hb dX1_release_11 rfl (lv_at hl 0 rfl) ?_
  refine rg_getr F hH.1 10 (ci := 1) rfl (C := RX1) (T := TX1) (N := 8) rfl iwX1_release_X1 5 (d := 11) (n := 21) rfl rfl (by decide) rfl lkX1_release_1 rfl dX1_release_12 ?_
  refine lv_iload_n hx hb dX1_release_15 rfl (lv_at hl 1 rfl) ?_
  refine lv_iconst (v := 0) hx hb dX1_release_16 (by decide) ?_
  obtain ⟨V2, eV2, hE⟩ := lt_el hE
  refine rg_callWV (As := [.int a1, .int ((0 : Int32))]) (rest := []) F hH (fun q h1 h2 => ⟨h1, h2⟩) 21 sb_LW_21_LC4 (kX0_set l X 4 (by decide) (b + 21) (gv V1 21) a1 ((0 : Int32)) _ rfl) (cwV 2 F.1.2.2.2.2 gX1_release_X0_set rfl rfl rfl hvX0_set ⟨Nat.le_of_ble_eq_true rfl, Nat.le_of_ble_eq_true rfl⟩) (rp_recv F hH.1 21 rfl (C := RX0) (T := TX0) (N := 1) rfl rfl) (hH.1.sub 21 sb_LW_21_LC4) rfl hl.1 (Nat.le_of_ble_eq_true rfl) dX1_release_17 ⟨Nat.zero_le _, Nat.zero_le _⟩ rfl ((pv_cset ..).trans eV2) (fun H locs hH hfr => ?_)
  subst hE
  exact W.vret hx hb hr (fun t ht _ => mw_post hH ht) hH.2.1.2.2 dX1_release_20
theorem hvX1_hasWord : yX1_hasWord.cls = RX1 ∧ yX1_hasWord.cls ≠ "java/lang/invoke/MethodHandle" ∧ yX1_hasWord.cls ≠ "java/lang/invoke/VarHandle" ∧ (parseMethodDescriptor yX1_hasWord.desc).map (fun d => d.parameters.length) = some 1 := by decide +kernel
def lbX1_wordsInside_4 (V : Mem) (s1 : Int32 × Int32) : Option ((Int32 × Int32) ⊕ (Int32 × Int32)) := if (4 : Int32) ≤ s1.2 then some (.inr (s1.1, s1.2)) else lt (fX1_hasWord V s1.2) (fun r3 => if r3 = 0 then some (.inl (s1.1 + ((0 : Int32)), s1.2 + 1)) else some (.inl (s1.1 + ((1 : Int32)), s1.2 + 1)))
def qX1_wordsInside (V : Mem) : Option (Int32) := (it (lbX1_wordsInside_4 V) fuel ((0 : Int32), (0 : Int32))).bind (fun s5 => some (s5.1))
abbrev rmX1_wordsInside : Room := { frames := 2, cells := 0, slots := 0, locals := 42 }
set_option maxHeartbeats 4000000 in
set_option maxRecDepth 100000 in
theorem mX1_wordsInside (l : Launch) (X : kX) (b : Nat) (V : Mem) (out : Int32) (hE : qX1_wordsInside V = some out) : MR l yX1_wordsInside wsX1_wordsInside rmX1_wordsInside X [.ref (b + 10)] (RP X LW b V) (some (.int out)) := by
  refine mt_head (cc := cX1_wordsInside) (maxL := 3) (ret := (some .int)) (own := RX1) (by decide) rfl rfl (Nat.le_of_ble_eq_true rfl) ?_
  intro p e s m below meth c ls F hr hlocks hnm hR hl
  have hx := F.1.1
  have hb := F.1.2.1
  have hl : lv_has ls 3 [(0, .ref (b + 10))] := hl
  unfold qX1_wordsInside at hE
  refine lv_iconst (v := 0) hx hb dX1_wordsInside_0 (by decide) ?_
  refine lv_istore_n (lv' := [(1, .int ((0 : Int32))), (0, .ref (b + 10))]) hx hb dX1_wordsInside_1 rfl hl (by decide) rfl (fun ls hl => ?_)
  refine lv_iconst (v := 0) hx hb dX1_wordsInside_2 (by decide) ?_
  refine lv_istore_n (lv' := [(2, .int ((0 : Int32))), (1, .int ((0 : Int32))), (0, .ref (b + 10))]) hx hb dX1_wordsInside_3 rfl hl (by decide) rfl (fun ls hl => ?_)
  obtain ⟨x6, hx6, hE⟩ := bd_el hE
  refine it_walk2 (body := lbX1_wordsInside_4 V) (Wh := fun s1 => ∀ (ls : Array Slot), lv_has ls 3 [(2, .int s1.2), (1, .int s1.1), (0, .ref (b + 10))] → W p l e rmX1_wordsInside s m ([.ref (b + 10)] : List Value).toArray below meth c s.heap [] 0 0 (MQ below (cQr (some (.int out))) ([.ref (b + 10)] : List Value).toArray s 0 0 (fun _ => False)) (F0 m 4 ls [])) (We := fun s5 => ∀ (ls : Array Slot), lv_has ls 3 [(2, .int s5.2), (1, .int s5.1), (0, .ref (b + 10))] → W p l e rmX1_wordsInside s m ([.ref (b + 10)] : List Value).toArray below meth c s.heap [] 0 0 (MQ below (cQr (some (.int out))) ([.ref (b + 10)] : List Value).toArray s 0 0 (fun _ => False)) (F0 m 31 ls [])) ?_ _ _ _ hx6 ?_ ls (lv_sub hl [0, 1, 2] rfl)
  · intro s1 r9 hE hL9 hR9 ls hl
    unfold lbX1_wordsInside_4 at hE
    refine lv_iload_n hx hb dX1_wordsInside_4 rfl (lv_at hl 0 rfl) ?_
    refine lv_iconst (v := 4) hx hb dX1_wordsInside_5 (by decide) ?_
    refine lv_icmp_ge (tgt := 31) hx hb dX1_wordsInside_6 (by decide) (fun c2 => ?_) (fun c2 => ?_)
    · have hE := (if_pos c2).symm.trans hE
      cases hE
      exact hR9 _ rfl ls (lv_sub hl [0, 1, 2] rfl)
    · have hE := (if_neg c2).symm.trans hE
      refine lv_iload_n hx hb dX1_wordsInside_9 rfl (lv_at hl 1 rfl) ?_
      refine lv_aload_n hx hb dX1_wordsInside_10 rfl (lv_at hl 2 rfl) ?_
      refine lv_iload_n hx hb dX1_wordsInside_11 rfl (lv_at hl 0 rfl) ?_
      obtain ⟨r3, er3, hE⟩ := lt_el hE
      refine rg_callRV (As := [.int s1.2]) (rest := [.int s1.1]) F (mX1_hasWord l X b V s1.2 r3 er3) (cwV 1 F.1.2.2.2.2 gX1_wordsInside_X1_hasWord rfl rfl rfl hvX1_hasWord ⟨Nat.le_of_ble_eq_true rfl, Nat.le_of_ble_eq_true rfl⟩) (rp_recv F hR 10 rfl (C := RX1) (T := TX1) (N := 8) rfl rfl) hR rfl hl.1 (Nat.le_of_ble_eq_true rfl) dX1_wordsInside_12 ⟨Nat.zero_le _, Nat.zero_le _⟩ rfl ?_
      refine lv_if_eq (tgt := 22) hx hb dX1_wordsInside_15 (by decide) (fun c4 => ?_) (fun c4 => ?_)
      · have hE := (if_pos c4).symm.trans hE
        refine lv_iconst (v := 0) hx hb dX1_wordsInside_22 (by decide) ?_
        refine lv_iadd hx hb dX1_wordsInside_23 ?_
        refine lv_istore_n (lv' := [(1, .int (s1.1 + ((0 : Int32)))), (2, .int s1.2), (0, .ref (b + 10))]) hx hb dX1_wordsInside_24 rfl hl (by decide) rfl (fun ls hl => ?_)
        refine lv_iinc (v := s1.2 + 1) (lv' := [(2, .int (s1.2 + 1)), (1, .int (s1.1 + ((0 : Int32)))), (0, .ref (b + 10))]) hx hb dX1_wordsInside_25 hl (k := 1) rfl (congrArg (fun q => s1.2 + q) (by decide)) (by decide) rfl (fun ls hl => ?_)
        refine lv_goto (tgt := 4) hx hb dX1_wordsInside_28 (by decide) ?_
        cases hE
        exact hL9 _ rfl ls (lv_sub hl [0, 1, 2] rfl)
      · have hE := (if_neg c4).symm.trans hE
        refine lv_iconst (v := 1) hx hb dX1_wordsInside_18 (by decide) ?_
        refine lv_goto (tgt := 23) hx hb dX1_wordsInside_19 (by decide) ?_
        refine lv_iadd hx hb dX1_wordsInside_23 ?_
        refine lv_istore_n (lv' := [(1, .int (s1.1 + ((1 : Int32)))), (2, .int s1.2), (0, .ref (b + 10))]) hx hb dX1_wordsInside_24 rfl hl (by decide) rfl (fun ls hl => ?_)
        refine lv_iinc (v := s1.2 + 1) (lv' := [(2, .int (s1.2 + 1)), (1, .int (s1.1 + ((1 : Int32)))), (0, .ref (b + 10))]) hx hb dX1_wordsInside_25 hl (k := 1) rfl (congrArg (fun q => s1.2 + q) (by decide)) (by decide) rfl (fun ls hl => ?_)
        refine lv_goto (tgt := 4) hx hb dX1_wordsInside_28 (by decide) ?_
        cases hE
        exact hL9 _ rfl ls (lv_sub hl [0, 1, 2] rfl)
  · intro ls hl
    refine lv_iload_n hx hb dX1_wordsInside_31 rfl (lv_at hl 1 rfl) ?_
    have hE := Option.some.inj hE
    subst hE
    exact W.iret (v := x6.1) hx hb hr (fun t ht _ => ⟨rfl, ht⟩) (fun _ h => absurd h List.not_mem_nil) dX1_wordsInside_32
set_option maxRecDepth 20000 in
theorem lkX1_gateWith_0 : Cond.fieldLink RX1 29 "TideWords$Gates" "held" "LTideWords$Cells;" ∈ wsX1_gateWith := by decide +kernel
set_option maxRecDepth 20000 in
theorem iwX1_gateWith_X1 : ∀ w ∈ wsX10, w ∈ wsX1_gateWith := by decide +kernel
def lbX1_gateWith_2 (V : Mem) (a1 : Int32) (s1 : Int32) : Option ((Int32) ⊕ ((Int32) ⊕ (Int32))) := if (4 : Int32) ≤ s1 then some (.inr (.inr s1)) else lt (cget 4 (V 20) s1) (fun r3 => if r3 = a1 then some (.inr (.inl (s1))) else some (.inl (s1 + 1)))
def qX1_gateWith (V : Mem) (a1 : Int32) : Option (Int32) := (it (lbX1_gateWith_2 V a1) fuel (0 : Int32)).bind (fun x6 => Sum.elim (fun r0 => some r0) (fun s5 => some ((-1006 : Int32))) x6)
abbrev rmX1_gateWith : Room := { frames := 1, cells := 0, slots := 0, locals := 21 }
set_option maxHeartbeats 4000000 in
set_option maxRecDepth 100000 in
theorem mX1_gateWith (l : Launch) (X : kX) (b : Nat) (V : Mem) (a1 : Int32) (out : Int32) (hE : qX1_gateWith V a1 = some out) : MR l yX1_gateWith wsX1_gateWith rmX1_gateWith X [.ref (b + 10), .int a1] (RP X LW b V) (some (.int out)) := by
  refine mt_head (cc := cX1_gateWith) (maxL := 3) (ret := (some .int)) (own := RX1) (by decide) rfl rfl (Nat.le_of_ble_eq_true rfl) ?_
  intro p e s m below meth c ls F hr hlocks hnm hR hl
  have hx := F.1.1
  have hb := F.1.2.1
  have hl : lv_has ls 3 [(0, .ref (b + 10)), (1, .int a1)] := hl
  unfold qX1_gateWith at hE
  refine lv_iconst (v := 0) hx hb dX1_gateWith_0 (by decide) ?_
  refine lv_istore_n (lv' := [(2, .int ((0 : Int32))), (0, .ref (b + 10)), (1, .int a1)]) hx hb dX1_gateWith_1 rfl hl (by decide) rfl (fun ls hl => ?_)
  obtain ⟨x6, hx6, hE⟩ := bd_el hE
  refine it_walk2 (body := lbX1_gateWith_2 V a1) (Wh := fun s1 => ∀ (ls : Array Slot), lv_has ls 3 [(2, .int s1), (0, .ref (b + 10)), (1, .int a1)] → W p l e rmX1_gateWith s m ([.ref (b + 10), .int a1] : List Value).toArray below meth c s.heap [] 0 0 (MQ below (cQr (some (.int out))) ([.ref (b + 10), .int a1] : List Value).toArray s 0 0 (fun _ => False)) (F0 m 2 ls [])) (We := fun x6 => (∀ r0, x6 = .inl r0 → r0 = out) ∧ (∀ s5, x6 = .inr s5 → ∀ (ls : Array Slot), lv_has ls 3 [(2, .int s5), (0, .ref (b + 10)), (1, .int a1)] → W p l e rmX1_gateWith s m ([.ref (b + 10), .int a1] : List Value).toArray below meth c s.heap [] 0 0 (MQ below (cQr (some (.int out))) ([.ref (b + 10), .int a1] : List Value).toArray s 0 0 (fun _ => False)) (F0 m 27 ls []))) ?_ _ _ _ hx6 ?_ ls (lv_sub hl [0, 1, 2] rfl)
  · intro s1 r9 hE hL9 hR9 ls hl
    unfold lbX1_gateWith_2 at hE
    refine lv_iload_n hx hb dX1_gateWith_2 rfl (lv_at hl 0 rfl) ?_
    refine lv_iconst (v := 4) hx hb dX1_gateWith_3 (by decide) ?_
    refine lv_icmp_ge (tgt := 27) hx hb dX1_gateWith_4 (by decide) (fun c2 => ?_) (fun c2 => ?_)
    · have hE := (if_pos c2).symm.trans hE
      cases hE
      exact (hR9 _ rfl).2 _ rfl ls (lv_sub hl [0, 1, 2] rfl)
    · have hE := (if_neg c2).symm.trans hE
      refine lv_aload_n hx hb dX1_gateWith_7 rfl (lv_at hl 1 rfl) ?_
      refine rg_getr F hR 10 (ci := 1) rfl (C := RX1) (T := TX1) (N := 8) rfl iwX1_gateWith_X1 4 (d := 9) (n := 19) rfl rfl (by decide) rfl lkX1_gateWith_0 rfl dX1_gateWith_8 ?_
      refine lv_iload_n hx hb dX1_gateWith_11 rfl (lv_at hl 0 rfl) ?_
      obtain ⟨r3, er3, hE⟩ := lt_el hE
      refine rg_callRV (As := [.int s1]) (rest := []) F (kX0_get l X 4 (by decide) (b + 19) (gv V 19) s1 r3 er3) (cwV 1 F.1.2.2.2.2 gX1_gateWith_X0_get rfl rfl rfl hvX0_get ⟨Nat.le_of_ble_eq_true rfl, Nat.le_of_ble_eq_true rfl⟩) (rp_recv F hR 19 rfl (C := RX0) (T := TX0) (N := 1) rfl rfl) (hR.sub 19 sb_LW_19_LC4) rfl hl.1 (Nat.le_of_ble_eq_true rfl) dX1_gateWith_12 ⟨Nat.zero_le _, Nat.zero_le _⟩ rfl ?_
      refine lv_iload_n hx hb dX1_gateWith_15 rfl (lv_at hl 2 rfl) ?_
      refine lv_icmp_ne (tgt := 21) hx hb dX1_gateWith_16 (by decide) (fun c4 => ?_) (fun c4 => ?_)
      · have hE := (if_neg c4).symm.trans hE
        refine lv_iinc (v := s1 + 1) (lv' := [(2, .int (s1 + 1)), (0, .ref (b + 10)), (1, .int a1)]) hx hb dX1_gateWith_21 hl (k := 0) rfl (congrArg (fun q => s1 + q) (by decide)) (by decide) rfl (fun ls hl => ?_)
        refine lv_goto (tgt := 2) hx hb dX1_gateWith_24 (by decide) ?_
        cases hE
        exact hL9 _ rfl ls (lv_sub hl [0, 1, 2] rfl)
      · have hE := (if_pos c4).symm.trans hE
        refine lv_iload_n hx hb dX1_gateWith_19 rfl (lv_at hl 0 rfl) ?_
        cases hE
        have hE := (hR9 _ rfl).1 _ rfl
        subst hE
        exact W.iret (v := s1) hx hb hr (fun t ht _ => ⟨rfl, ht⟩) (fun _ h => absurd h List.not_mem_nil) dX1_gateWith_20
  · refine ⟨fun r0 h9 => ?_, fun s5 h9 => ?_⟩
    · subst h9
      exact Option.some.inj hE
    · subst h9
      have hE := sel_r hE
      intro ls hl
      refine lv_sipush (v := (-1006)) hx hb dX1_gateWith_27 (by decide) ?_
      have hE := Option.some.inj hE
      subst hE
      exact W.iret (v := (-1006 : Int32)) hx hb hr (fun t ht _ => ⟨rfl, ht⟩) (fun _ h => absurd h List.not_mem_nil) dX1_gateWith_30
theorem hasWord_01 (V : Mem) (a1 : Int32) : fX1_hasWord V a1 = 0 ∨ fX1_hasWord V a1 = 1 := by
  unfold fX1_hasWord lt
  by_cases h : cget 4 (V 20) a1 = (-1006 : Int32)
  · exact Or.inl (if_pos h)
  · exact Or.inr (if_neg h)
theorem one_ne0 : ¬ (1 : Int32) = 0 := by decide
def fX1_wordsInside (V : Mem) : Int32 := csum 4 (fun i => fX1_hasWord V (nI i))
theorem ge4 {i : Nat} (h : i < 4) : ¬ (4 : Int32) ≤ nI i := nI_ge (b := 4) h (by decide)
theorem tX1_wordsInside (V : Mem) : qX1_wordsInside V = some (fX1_wordsInside V) := by
  have h : it (lbX1_wordsInside_4 V) fuel ((0 : Int32), (0 : Int32)) = some (fX1_wordsInside V, nI 4) := by
    refine it_for (fun i => (csum i (fun i => fX1_hasWord V (nI i)), nI i)) 4 (fun i hi => ?_) ?_ fuel (fuel_lt (by omega))
    · have h1 : i < 2 ^ 31 := by omega
      unfold lbX1_wordsInside_4 lt
      dsimp only
      rw [if_neg (ge4 hi), nI_1]
      rcases hasWord_01 V (nI i) with h | h
      · rw [h, if_pos rfl]
        show _ = some (Sum.inl (csum i _ + fX1_hasWord V (nI i), nI (i + 1)))
        rw [h]
      · rw [h, if_neg one_ne0]
        show _ = some (Sum.inl (csum i _ + fX1_hasWord V (nI i), nI (i + 1)))
        rw [h]
    · unfold lbX1_wordsInside_4
      dsimp only
      rw [if_pos (show (4 : Int32) ≤ nI 4 from nI_le (Nat.le_refl _) (by omega))]
      rfl
  unfold qX1_wordsInside
  rw [h]
  rfl
def fX1_gateWith (V : Mem) (a1 : Int32) : Int32 := fnd (fun i => decide (cget 4 (V 20) (nI i) = a1)) 4
theorem tX1_gateWith (V : Mem) (a1 : Int32) : qX1_gateWith V a1 = some (fX1_gateWith V a1) := by
  have h : it (lbX1_gateWith_2 V a1) fuel (0 : Int32) = some ((fndO (fun i => decide (cget 4 (V 20) (nI i) = a1)) 4 0).elim (Sum.inr (nI 4)) (fun i => Sum.inl (nI i))) := by
    refine it_fnd (fun i => nI i) _ (fun i => Sum.inl (nI i)) _ 4 (fun i hi => ?_) ?_ fuel (fuel_lt (by omega))
    · unfold lbX1_gateWith_2 lt
      rw [if_neg (ge4 hi), nI_1]
      by_cases h : cget 4 (V 20) (nI i) = a1
      · simp only [h, decide_true, if_true]
      · simp only [h, decide_false, if_false, Bool.false_eq_true]
    · unfold lbX1_gateWith_2
      rw [if_pos (show (4 : Int32) ≤ nI 4 from nI_le (Nat.le_refl _) (by omega))]
  unfold qX1_gateWith fX1_gateWith fnd
  rw [h]
  cases fndO (fun i => decide (cget 4 (V 20) (nI i) = a1)) 4 0 <;> rfl

theorem kX1_wordsInside (l : Launch) (X : kX) (b : Nat) (V : Mem) (out : Int32) (hE : fX1_wordsInside V = out) : MR l yX1_wordsInside wsX1_wordsInside rmX1_wordsInside X [.ref (b + 10)] (RP X LW b V) (some (.int out)) := mX1_wordsInside l X b V out ((tX1_wordsInside V).trans (congrArg some hE))
theorem kX1_gateWith (l : Launch) (X : kX) (b : Nat) (V : Mem) (a1 : Int32) (out : Int32) (hE : fX1_gateWith V a1 = out) : MR l yX1_gateWith wsX1_gateWith rmX1_gateWith X [.ref (b + 10), .int a1] (RP X LW b V) (some (.int out)) := mX1_gateWith l X b V a1 out ((tX1_gateWith V a1).trans (congrArg some hE))
