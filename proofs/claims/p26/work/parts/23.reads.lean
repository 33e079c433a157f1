theorem hsX6_isStore : yX6_isStore.cls ≠ "java/lang/invoke/MethodHandle" ∧ yX6_isStore.cls ≠ "java/lang/invoke/VarHandle" ∧ (parseMethodDescriptor yX6_isStore.desc).map (fun d => d.parameters.length) = some 1 := by decide +kernel
set_option maxRecDepth 20000 in
theorem lkX6_store_0 : Cond.fieldLink RX6 10 "TideWords" "now" "LTideWords$World;" ∈ wsX6_store := by decide +kernel
set_option maxRecDepth 20000 in
theorem iwX6_store_X6 : ∀ w ∈ wsX60, w ∈ wsX6_store := by decide +kernel
set_option maxRecDepth 20000 in
theorem lkX6_store_1 : Cond.fieldLink RX6 56 "TideWords$World" "tides" "LTideWords$Tides;" ∈ wsX6_store := by decide +kernel
set_option maxRecDepth 20000 in
theorem iwX6_store_X5 : ∀ w ∈ wsX50, w ∈ wsX6_store := by decide +kernel
set_option maxRecDepth 20000 in
theorem lkX6_store_2 : Cond.fieldLink RX6 142 "TideWords$Tides" "means" "LTideWords$Cells;" ∈ wsX6_store := by decide +kernel
set_option maxRecDepth 20000 in
theorem iwX6_store_X3 : ∀ w ∈ wsX30, w ∈ wsX6_store := by decide +kernel
set_option maxRecDepth 20000 in
theorem sb_LA_3_LC2 : sbL LA 3 (LC 2) := sbl_of rfl
set_option maxRecDepth 20000 in
theorem lkX6_store_3 : Cond.fieldLink RX6 145 "TideWords$Tides" "swings" "LTideWords$Cells;" ∈ wsX6_store := by decide +kernel
set_option maxRecDepth 20000 in
theorem sb_LA_5_LC2 : sbL LA 5 (LC 2) := sbl_of rfl
set_option maxRecDepth 20000 in
theorem lkX6_store_4 : Cond.fieldLink RX6 148 "TideWords$Tides" "periods" "LTideWords$Cells;" ∈ wsX6_store := by decide +kernel
set_option maxRecDepth 20000 in
theorem sb_LA_7_LC2 : sbL LA 7 (LC 2) := sbl_of rfl
set_option maxRecDepth 20000 in
theorem lkX6_store_5 : Cond.fieldLink RX6 74 "TideWords$Tides" "lies" "LTideWords$Cells;" ∈ wsX6_store := by decide +kernel
set_option maxRecDepth 20000 in
theorem sb_LA_9_LC2 : sbL LA 9 (LC 2) := sbl_of rfl
set_option maxRecDepth 20000 in
theorem lkX6_store_6 : Cond.fieldLink RX6 66 "TideWords$World" "steps" "I" ∈ wsX6_store := by decide +kernel
set_option maxRecDepth 20000 in
theorem lkX6_store_7 : Cond.fieldLink RX6 117 "TideWords$World" "words" "LTideWords$Words;" ∈ wsX6_store := by decide +kernel
set_option maxRecDepth 20000 in
theorem lkX6_store_8 : Cond.fieldLink RX6 154 "TideWords$Words" "rowLengths" "LTideWords$Cells;" ∈ wsX6_store := by decide +kernel
set_option maxRecDepth 20000 in
theorem iwX6_store_X4 : ∀ w ∈ wsX40, w ∈ wsX6_store := by decide +kernel
set_option maxRecDepth 20000 in
theorem sb_LA_41_LC2 : sbL LA 41 (LC 2) := sbl_of rfl
theorem hvX4_lettersInRow : yX4_lettersInRow.cls = RX4 ∧ yX4_lettersInRow.cls ≠ "java/lang/invoke/MethodHandle" ∧ yX4_lettersInRow.cls ≠ "java/lang/invoke/VarHandle" ∧ (parseMethodDescriptor yX4_lettersInRow.desc).map (fun d => d.parameters.length) = some 1 := by decide +kernel
theorem hvX4_waitingInRow : yX4_waitingInRow.cls = RX4 ∧ yX4_waitingInRow.cls ≠ "java/lang/invoke/MethodHandle" ∧ yX4_waitingInRow.cls ≠ "java/lang/invoke/VarHandle" ∧ (parseMethodDescriptor yX4_waitingInRow.desc).map (fun d => d.parameters.length) = some 1 := by decide +kernel
def fX6_store (V : Mem) (a1 : Int32) (a2 : Int32) : Int32 := lt (fX6_isStore a1) (fun r1 => if r1 = 0 then (-1001 : Int32) else if a2 = 0 then lt (cget 2 (V 4) a1) (fun r4 => r4) else if a2 = 1 then lt (cget 2 (V 6) a1) (fun r6 => r6) else if a2 = 2 then lt (cget 2 (V 8) a1) (fun r8 => r8) else if a2 = 3 then lt (cget 2 (V 10) a1) (fun r10 => r10) else if a2 = 4 then lt (fX3_levelAt (gv V 1) a1 (V 1 0)) (fun r12 => r12) else if a2 = 5 then lt (fX3_toldAt (gv V 1) a1 (V 1 0)) (fun r14 => r14) else if a2 = 6 then lt (cget 2 (V 42) a1) (fun r16 => r16) else if a2 = 7 then lt (fX4_lettersInRow (gv V 1) a1) (fun r18 => r18) else if a2 = 8 then lt (fX4_waitingInRow (gv V 1) a1) (fun r20 => r20) else (-1002 : Int32))
abbrev rmX6_store : Room := { frames := 3, cells := 0, slots := 0, locals := 71 }
set_option maxHeartbeats 4000000 in
set_option maxRecDepth 100000 in
theorem mX6_store (l : Launch) (X : kX) (b : Nat) (V : Mem) (a1 : Int32) (a2 : Int32) (out : Int32) (hE : fX6_store V a1 a2 = out) : MR l yX6_store wsX6_store rmX6_store X [.ref b, .int a1, .int a2] (RP X LA b V) (some (.int out)) := by
  refine mt_head (cc := cX6_store) (maxL := 3) (ret := (some .int)) (own := RX6) (by decide) rfl rfl (Nat.le_of_ble_eq_true rfl) ?_
  intro p e s m below meth c ls F hr hlocks hnm hR hl
  have hx := F.1.1
  have hb := F.1.2.1
  have hl : lv_has ls 3 [(0, .ref b), (1, .int a1), (2, .int a2)] := hl
  unfold fX6_store at hE
  refine lv_iload_n hx hb dX6_store_0 rfl (lv_at hl 1 rfl) ?_
  obtain ⟨r1, er1, hE⟩ := lt_el hE
  refine rg_callRS (As := [.int a1]) (rest := []) F (mX6_isStore l X a1 r1 er1) (va_cwS 1 F.1.2.2.2.2 gX6_store_X6_isStore rfl rfl rfl hsX6_isStore ⟨Nat.le_of_ble_eq_true rfl, Nat.le_of_ble_eq_true rfl⟩)  trivial rfl hl.1 (Nat.le_of_ble_eq_true rfl) dX6_store_1 ⟨Nat.zero_le _, Nat.zero_le _⟩ rfl ?_
  refine lv_if_ne (tgt := 11) hx hb dX6_store_4 (by decide) (fun c2 => ?_) (fun c2 => ?_)
  · have hE := (if_neg c2).symm.trans hE
    refine lv_iload_n hx hb dX6_store_11 rfl (lv_at hl 2 rfl) ?_
    by_cases c3 : a2 = 0
    · have hE := (if_pos c3).symm.trans hE
      refine lv_tableIn (off := 52) (tgt := 64) hx hb dX6_store_12 (by rw [c3]; decide) (by rw [c3]; decide) (by rw [c3]; rfl) (by decide) ?_
      refine lv_aload_n hx hb dX6_store_64 rfl (lv_at hl 0 rfl) ?_
      refine rg_getr F hR 0 (ci := 6) rfl (C := RX6) (T := TX6) (N := 9) rfl iwX6_store_X6 0 (d := 1) (n := 1) rfl rfl (by decide) rfl lkX6_store_0 rfl dX6_store_65 ?_
      refine rg_getr F hR 1 (ci := 5) rfl (C := RX5) (T := TX5) (N := 6) rfl iwX6_store_X5 0 (d := 1) (n := 2) rfl rfl (by decide) rfl lkX6_store_1 rfl dX6_store_68 ?_
      refine rg_getr F hR 2 (ci := 3) rfl (C := RX3) (T := TX3) (N := 4) rfl iwX6_store_X3 0 (d := 1) (n := 3) rfl rfl (by decide) rfl lkX6_store_2 rfl dX6_store_71 ?_
      refine lv_iload_n hx hb dX6_store_74 rfl (lv_at hl 1 rfl) ?_
      obtain ⟨r4, er4, hE⟩ := lt_el hE
      refine rg_callRV (As := [.int a1]) (rest := []) F (kX0_get l X 2 (by decide) (b + 3) (gv V 3) a1 r4 er4) (cwV 1 F.1.2.2.2.2 gX6_store_X0_get rfl rfl rfl hvX0_get ⟨Nat.le_of_ble_eq_true rfl, Nat.le_of_ble_eq_true rfl⟩) (rp_recv F hR 3 rfl (C := RX0) (T := TX0) (N := 1) rfl rfl) (hR.sub 3 sb_LA_3_LC2) rfl hl.1 (Nat.le_of_ble_eq_true rfl) dX6_store_75 ⟨Nat.zero_le _, Nat.zero_le _⟩ rfl ?_
      subst hE
      exact W.iret (v := r4) hx hb hr (fun t ht _ => ⟨rfl, ht⟩) (fun _ h => absurd h List.not_mem_nil) dX6_store_78
    · have hE := (if_neg c3).symm.trans hE
      by_cases c5 : a2 = 1
      · have hE := (if_pos c5).symm.trans hE
        refine lv_tableIn (off := 67) (tgt := 79) hx hb dX6_store_12 (by rw [c5]; decide) (by rw [c5]; decide) (by rw [c5]; rfl) (by decide) ?_
        refine lv_aload_n hx hb dX6_store_79 rfl (lv_at hl 0 rfl) ?_
        refine rg_getr F hR 0 (ci := 6) rfl (C := RX6) (T := TX6) (N := 9) rfl iwX6_store_X6 0 (d := 1) (n := 1) rfl rfl (by decide) rfl lkX6_store_0 rfl dX6_store_80 ?_
        refine rg_getr F hR 1 (ci := 5) rfl (C := RX5) (T := TX5) (N := 6) rfl iwX6_store_X5 0 (d := 1) (n := 2) rfl rfl (by decide) rfl lkX6_store_1 rfl dX6_store_83 ?_
        refine rg_getr F hR 2 (ci := 3) rfl (C := RX3) (T := TX3) (N := 4) rfl iwX6_store_X3 1 (d := 3) (n := 5) rfl rfl (by decide) rfl lkX6_store_3 rfl dX6_store_86 ?_
        refine lv_iload_n hx hb dX6_store_89 rfl (lv_at hl 1 rfl) ?_
        obtain ⟨r6, er6, hE⟩ := lt_el hE
        refine rg_callRV (As := [.int a1]) (rest := []) F (kX0_get l X 2 (by decide) (b + 5) (gv V 5) a1 r6 er6) (cwV 1 F.1.2.2.2.2 gX6_store_X0_get rfl rfl rfl hvX0_get ⟨Nat.le_of_ble_eq_true rfl, Nat.le_of_ble_eq_true rfl⟩) (rp_recv F hR 5 rfl (C := RX0) (T := TX0) (N := 1) rfl rfl) (hR.sub 5 sb_LA_5_LC2) rfl hl.1 (Nat.le_of_ble_eq_true rfl) dX6_store_90 ⟨Nat.zero_le _, Nat.zero_le _⟩ rfl ?_
        subst hE
        exact W.iret (v := r6) hx hb hr (fun t ht _ => ⟨rfl, ht⟩) (fun _ h => absurd h List.not_mem_nil) dX6_store_93
      · have hE := (if_neg c5).symm.trans hE
        by_cases c7 : a2 = 2
        · have hE := (if_pos c7).symm.trans hE
          refine lv_tableIn (off := 82) (tgt := 94) hx hb dX6_store_12 (by rw [c7]; decide) (by rw [c7]; decide) (by rw [c7]; rfl) (by decide) ?_
          refine lv_aload_n hx hb dX6_store_94 rfl (lv_at hl 0 rfl) ?_
          refine rg_getr F hR 0 (ci := 6) rfl (C := RX6) (T := TX6) (N := 9) rfl iwX6_store_X6 0 (d := 1) (n := 1) rfl rfl (by decide) rfl lkX6_store_0 rfl dX6_store_95 ?_
          refine rg_getr F hR 1 (ci := 5) rfl (C := RX5) (T := TX5) (N := 6) rfl iwX6_store_X5 0 (d := 1) (n := 2) rfl rfl (by decide) rfl lkX6_store_1 rfl dX6_store_98 ?_
          refine rg_getr F hR 2 (ci := 3) rfl (C := RX3) (T := TX3) (N := 4) rfl iwX6_store_X3 2 (d := 5) (n := 7) rfl rfl (by decide) rfl lkX6_store_4 rfl dX6_store_101 ?_
          refine lv_iload_n hx hb dX6_store_104 rfl (lv_at hl 1 rfl) ?_
          obtain ⟨r8, er8, hE⟩ := lt_el hE
          refine rg_callRV (As := [.int a1]) (rest := []) F (kX0_get l X 2 (by decide) (b + 7) (gv V 7) a1 r8 er8) (cwV 1 F.1.2.2.2.2 gX6_store_X0_get rfl rfl rfl hvX0_get ⟨Nat.le_of_ble_eq_true rfl, Nat.le_of_ble_eq_true rfl⟩) (rp_recv F hR 7 rfl (C := RX0) (T := TX0) (N := 1) rfl rfl) (hR.sub 7 sb_LA_7_LC2) rfl hl.1 (Nat.le_of_ble_eq_true rfl) dX6_store_105 ⟨Nat.zero_le _, Nat.zero_le _⟩ rfl ?_
          subst hE
          exact W.iret (v := r8) hx hb hr (fun t ht _ => ⟨rfl, ht⟩) (fun _ h => absurd h List.not_mem_nil) dX6_store_108
        · have hE := (if_neg c7).symm.trans hE
          by_cases c9 : a2 = 3
          · have hE := (if_pos c9).symm.trans hE
            refine lv_tableIn (off := 97) (tgt := 109) hx hb dX6_store_12 (by rw [c9]; decide) (by rw [c9]; decide) (by rw [c9]; rfl) (by decide) ?_
            refine lv_aload_n hx hb dX6_store_109 rfl (lv_at hl 0 rfl) ?_
            refine rg_getr F hR 0 (ci := 6) rfl (C := RX6) (T := TX6) (N := 9) rfl iwX6_store_X6 0 (d := 1) (n := 1) rfl rfl (by decide) rfl lkX6_store_0 rfl dX6_store_110 ?_
            refine rg_getr F hR 1 (ci := 5) rfl (C := RX5) (T := TX5) (N := 6) rfl iwX6_store_X5 0 (d := 1) (n := 2) rfl rfl (by decide) rfl lkX6_store_1 rfl dX6_store_113 ?_
            refine rg_getr F hR 2 (ci := 3) rfl (C := RX3) (T := TX3) (N := 4) rfl iwX6_store_X3 3 (d := 7) (n := 9) rfl rfl (by decide) rfl lkX6_store_5 rfl dX6_store_116 ?_
            refine lv_iload_n hx hb dX6_store_119 rfl (lv_at hl 1 rfl) ?_
            obtain ⟨r10, er10, hE⟩ := lt_el hE
            refine rg_callRV (As := [.int a1]) (rest := []) F (kX0_get l X 2 (by decide) (b + 9) (gv V 9) a1 r10 er10) (cwV 1 F.1.2.2.2.2 gX6_store_X0_get rfl rfl rfl hvX0_get ⟨Nat.le_of_ble_eq_true rfl, Nat.le_of_ble_eq_true rfl⟩) (rp_recv F hR 9 rfl (C := RX0) (T := TX0) (N := 1) rfl rfl) (hR.sub 9 sb_LA_9_LC2) rfl hl.1 (Nat.le_of_ble_eq_true rfl) dX6_store_120 ⟨Nat.zero_le _, Nat.zero_le _⟩ rfl ?_
            subst hE
            exact W.iret (v := r10) hx hb hr (fun t ht _ => ⟨rfl, ht⟩) (fun _ h => absurd h List.not_mem_nil) dX6_store_123
          · have hE := (if_neg c9).symm.trans hE
            by_cases c11 : a2 = 4
            · have hE := (if_pos c11).symm.trans hE
              refine lv_tableIn (off := 112) (tgt := 124) hx hb dX6_store_12 (by rw [c11]; decide) (by rw [c11]; decide) (by rw [c11]; rfl) (by decide) ?_
              refine lv_aload_n hx hb dX6_store_124 rfl (lv_at hl 0 rfl) ?_
              refine rg_getr F hR 0 (ci := 6) rfl (C := RX6) (T := TX6) (N := 9) rfl iwX6_store_X6 0 (d := 1) (n := 1) rfl rfl (by decide) rfl lkX6_store_0 rfl dX6_store_125 ?_
              refine rg_getr F hR 1 (ci := 5) rfl (C := RX5) (T := TX5) (N := 6) rfl iwX6_store_X5 0 (d := 1) (n := 2) rfl rfl (by decide) rfl lkX6_store_1 rfl dX6_store_128 ?_
              refine lv_iload_n hx hb dX6_store_131 rfl (lv_at hl 1 rfl) ?_
              refine lv_aload_n hx hb dX6_store_132 rfl (lv_at hl 0 rfl) ?_
              refine rg_getr F hR 0 (ci := 6) rfl (C := RX6) (T := TX6) (N := 9) rfl iwX6_store_X6 0 (d := 1) (n := 1) rfl rfl (by decide) rfl lkX6_store_0 rfl dX6_store_133 ?_
              refine rg_geti F hR 1 (ci := 5) rfl (C := RX5) (T := TX5) (N := 6) rfl iwX6_store_X5 3 (i := 0) rfl (by decide) rfl lkX6_store_6 rfl dX6_store_136 ?_
              obtain ⟨r12, er12, hE⟩ := lt_el hE
              refine rg_callRV (As := [.int a1, .int (V 1 0)]) (rest := []) F (kX3_levelAt l X (b + 1) (gv V 1) a1 (V 1 0) r12 er12) (cwV 2 F.1.2.2.2.2 gX6_store_X3_levelAt rfl rfl rfl hvX3_levelAt ⟨Nat.le_of_ble_eq_true rfl, Nat.le_of_ble_eq_true rfl⟩) (rp_recv F hR 2 rfl (C := RX3) (T := TX3) (N := 4) rfl rfl) (hR.sub 1 sb_LA_1_LW) rfl hl.1 (Nat.le_of_ble_eq_true rfl) dX6_store_139 ⟨Nat.zero_le _, Nat.zero_le _⟩ rfl ?_
              subst hE
              exact W.iret (v := r12) hx hb hr (fun t ht _ => ⟨rfl, ht⟩) (fun _ h => absurd h List.not_mem_nil) dX6_store_142
            · have hE := (if_neg c11).symm.trans hE
              by_cases c13 : a2 = 5
              · have hE := (if_pos c13).symm.trans hE
                refine lv_tableIn (off := 131) (tgt := 143) hx hb dX6_store_12 (by rw [c13]; decide) (by rw [c13]; decide) (by rw [c13]; rfl) (by decide) ?_
                refine lv_aload_n hx hb dX6_store_143 rfl (lv_at hl 0 rfl) ?_
                refine rg_getr F hR 0 (ci := 6) rfl (C := RX6) (T := TX6) (N := 9) rfl iwX6_store_X6 0 (d := 1) (n := 1) rfl rfl (by decide) rfl lkX6_store_0 rfl dX6_store_144 ?_
                refine rg_getr F hR 1 (ci := 5) rfl (C := RX5) (T := TX5) (N := 6) rfl iwX6_store_X5 0 (d := 1) (n := 2) rfl rfl (by decide) rfl lkX6_store_1 rfl dX6_store_147 ?_
                refine lv_iload_n hx hb dX6_store_150 rfl (lv_at hl 1 rfl) ?_
                refine lv_aload_n hx hb dX6_store_151 rfl (lv_at hl 0 rfl) ?_
                refine rg_getr F hR 0 (ci := 6) rfl (C := RX6) (T := TX6) (N := 9) rfl iwX6_store_X6 0 (d := 1) (n := 1) rfl rfl (by decide) rfl lkX6_store_0 rfl dX6_store_152 ?_
                refine rg_geti F hR 1 (ci := 5) rfl (C := RX5) (T := TX5) (N := 6) rfl iwX6_store_X5 3 (i := 0) rfl (by decide) rfl lkX6_store_6 rfl dX6_store_155 ?_
                obtain ⟨r14, er14, hE⟩ := lt_el hE
                refine rg_callRV (As := [.int a1, .int (V 1 0)]) (rest := []) F (mX3_toldAt l X (b + 1) (gv V 1) a1 (V 1 0) r14 er14) (cwV 2 F.1.2.2.2.2 gX6_store_X3_toldAt rfl rfl rfl hvX3_toldAt ⟨Nat.le_of_ble_eq_true rfl, Nat.le_of_ble_eq_true rfl⟩) (rp_recv F hR 2 rfl (C := RX3) (T := TX3) (N := 4) rfl rfl) (hR.sub 1 sb_LA_1_LW) rfl hl.1 (Nat.le_of_ble_eq_true rfl) dX6_store_158 ⟨Nat.zero_le _, Nat.zero_le _⟩ rfl ?_
                subst hE
                exact W.iret (v := r14) hx hb hr (fun t ht _ => ⟨rfl, ht⟩) (fun _ h => absurd h List.not_mem_nil) dX6_store_161
              · have hE := (if_neg c13).symm.trans hE
                by_cases c15 : a2 = 6
                · have hE := (if_pos c15).symm.trans hE
                  refine lv_tableIn (off := 150) (tgt := 162) hx hb dX6_store_12 (by rw [c15]; decide) (by rw [c15]; decide) (by rw [c15]; rfl) (by decide) ?_
                  refine lv_aload_n hx hb dX6_store_162 rfl (lv_at hl 0 rfl) ?_
                  refine rg_getr F hR 0 (ci := 6) rfl (C := RX6) (T := TX6) (N := 9) rfl iwX6_store_X6 0 (d := 1) (n := 1) rfl rfl (by decide) rfl lkX6_store_0 rfl dX6_store_163 ?_
                  refine rg_getr F hR 1 (ci := 5) rfl (C := RX5) (T := TX5) (N := 6) rfl iwX6_store_X5 2 (d := 27) (n := 28) rfl rfl (by decide) rfl lkX6_store_7 rfl dX6_store_166 ?_
                  refine rg_getr F hR 28 (ci := 4) rfl (C := RX4) (T := TX4) (N := 8) rfl iwX6_store_X4 6 (d := 13) (n := 41) rfl rfl (by decide) rfl lkX6_store_8 rfl dX6_store_169 ?_
                  refine lv_iload_n hx hb dX6_store_172 rfl (lv_at hl 1 rfl) ?_
                  obtain ⟨r16, er16, hE⟩ := lt_el hE
                  refine rg_callRV (As := [.int a1]) (rest := []) F (kX0_get l X 2 (by decide) (b + 41) (gv V 41) a1 r16 er16) (cwV 1 F.1.2.2.2.2 gX6_store_X0_get rfl rfl rfl hvX0_get ⟨Nat.le_of_ble_eq_true rfl, Nat.le_of_ble_eq_true rfl⟩) (rp_recv F hR 41 rfl (C := RX0) (T := TX0) (N := 1) rfl rfl) (hR.sub 41 sb_LA_41_LC2) rfl hl.1 (Nat.le_of_ble_eq_true rfl) dX6_store_173 ⟨Nat.zero_le _, Nat.zero_le _⟩ rfl ?_
                  subst hE
                  exact W.iret (v := r16) hx hb hr (fun t ht _ => ⟨rfl, ht⟩) (fun _ h => absurd h List.not_mem_nil) dX6_store_176
                · have hE := (if_neg c15).symm.trans hE
                  by_cases c17 : a2 = 7
                  · have hE := (if_pos c17).symm.trans hE
                    refine lv_tableIn (off := 165) (tgt := 177) hx hb dX6_store_12 (by rw [c17]; decide) (by rw [c17]; decide) (by rw [c17]; rfl) (by decide) ?_
                    refine lv_aload_n hx hb dX6_store_177 rfl (lv_at hl 0 rfl) ?_
                    refine rg_getr F hR 0 (ci := 6) rfl (C := RX6) (T := TX6) (N := 9) rfl iwX6_store_X6 0 (d := 1) (n := 1) rfl rfl (by decide) rfl lkX6_store_0 rfl dX6_store_178 ?_
                    refine rg_getr F hR 1 (ci := 5) rfl (C := RX5) (T := TX5) (N := 6) rfl iwX6_store_X5 2 (d := 27) (n := 28) rfl rfl (by decide) rfl lkX6_store_7 rfl dX6_store_181 ?_
                    refine lv_iload_n hx hb dX6_store_184 rfl (lv_at hl 1 rfl) ?_
                    obtain ⟨r18, er18, hE⟩ := lt_el hE
                    refine rg_callRV (As := [.int a1]) (rest := []) F (kX4_lettersInRow l X (b + 1) (gv V 1) a1 r18 er18) (cwV 1 F.1.2.2.2.2 gX6_store_X4_lettersInRow rfl rfl rfl hvX4_lettersInRow ⟨Nat.le_of_ble_eq_true rfl, Nat.le_of_ble_eq_true rfl⟩) (rp_recv F hR 28 rfl (C := RX4) (T := TX4) (N := 8) rfl rfl) (hR.sub 1 sb_LA_1_LW) rfl hl.1 (Nat.le_of_ble_eq_true rfl) dX6_store_185 ⟨Nat.zero_le _, Nat.zero_le _⟩ rfl ?_
                    subst hE
                    exact W.iret (v := r18) hx hb hr (fun t ht _ => ⟨rfl, ht⟩) (fun _ h => absurd h List.not_mem_nil) dX6_store_188
                  · have hE := (if_neg c17).symm.trans hE
                    by_cases c19 : a2 = 8
                    · have hE := (if_pos c19).symm.trans hE
                      refine lv_tableIn (off := 177) (tgt := 189) hx hb dX6_store_12 (by rw [c19]; decide) (by rw [c19]; decide) (by rw [c19]; rfl) (by decide) ?_
                      refine lv_aload_n hx hb dX6_store_189 rfl (lv_at hl 0 rfl) ?_
                      refine rg_getr F hR 0 (ci := 6) rfl (C := RX6) (T := TX6) (N := 9) rfl iwX6_store_X6 0 (d := 1) (n := 1) rfl rfl (by decide) rfl lkX6_store_0 rfl dX6_store_190 ?_
                      refine rg_getr F hR 1 (ci := 5) rfl (C := RX5) (T := TX5) (N := 6) rfl iwX6_store_X5 2 (d := 27) (n := 28) rfl rfl (by decide) rfl lkX6_store_7 rfl dX6_store_193 ?_
                      refine lv_iload_n hx hb dX6_store_196 rfl (lv_at hl 1 rfl) ?_
                      obtain ⟨r20, er20, hE⟩ := lt_el hE
                      refine rg_callRV (As := [.int a1]) (rest := []) F (kX4_waitingInRow l X (b + 1) (gv V 1) a1 r20 er20) (cwV 1 F.1.2.2.2.2 gX6_store_X4_waitingInRow rfl rfl rfl hvX4_waitingInRow ⟨Nat.le_of_ble_eq_true rfl, Nat.le_of_ble_eq_true rfl⟩) (rp_recv F hR 28 rfl (C := RX4) (T := TX4) (N := 8) rfl rfl) (hR.sub 1 sb_LA_1_LW) rfl hl.1 (Nat.le_of_ble_eq_true rfl) dX6_store_197 ⟨Nat.zero_le _, Nat.zero_le _⟩ rfl ?_
                      subst hE
                      exact W.iret (v := r20) hx hb hr (fun t ht _ => ⟨rfl, ht⟩) (fun _ h => absurd h List.not_mem_nil) dX6_store_200
                    · have hE := (if_neg c19).symm.trans hE
                      refine lv_tableOut (tgt := 201) hx hb dX6_store_12 (ts_out9 c3 c5 c7 c9 c11 c13 c15 c17 c19) (by decide) ?_
                      refine lv_sipush (v := (-1002)) hx hb dX6_store_201 (by decide) ?_
                      subst hE
                      exact W.iret (v := (-1002 : Int32)) hx hb hr (fun t ht _ => ⟨rfl, ht⟩) (fun _ h => absurd h List.not_mem_nil) dX6_store_204
  · have hE := (if_pos c2).symm.trans hE
    refine lv_sipush (v := (-1001)) hx hb dX6_store_7 (by decide) ?_
    subst hE
    exact W.iret (v := (-1001 : Int32)) hx hb hr (fun t ht _ => ⟨rfl, ht⟩) (fun _ h => absurd h List.not_mem_nil) dX6_store_10
theorem hsX6_isGate : yX6_isGate.cls ≠ "java/lang/invoke/MethodHandle" ∧ yX6_isGate.cls ≠ "java/lang/invoke/VarHandle" ∧ (parseMethodDescriptor yX6_isGate.desc).map (fun d => d.parameters.length) = some 1 := by decide +kernel
set_option maxRecDepth 20000 in
theorem lkX6_gateOf_0 : Cond.fieldLink RX6 10 "TideWords" "now" "LTideWords$World;" ∈ wsX6_gateOf := by decide +kernel
set_option maxRecDepth 20000 in
theorem iwX6_gateOf_X6 : ∀ w ∈ wsX60, w ∈ wsX6_gateOf := by decide +kernel
set_option maxRecDepth 20000 in
theorem lkX6_gateOf_1 : Cond.fieldLink RX6 88 "TideWords$World" "gates" "LTideWords$Gates;" ∈ wsX6_gateOf := by decide +kernel
set_option maxRecDepth 20000 in
theorem iwX6_gateOf_X5 : ∀ w ∈ wsX50, w ∈ wsX6_gateOf := by decide +kernel
set_option maxRecDepth 20000 in
theorem lkX6_gateOf_2 : Cond.fieldLink RX6 97 "TideWords$Gates" "sides" "LTideWords$Cells;" ∈ wsX6_gateOf := by decide +kernel
set_option maxRecDepth 20000 in
theorem iwX6_gateOf_X1 : ∀ w ∈ wsX10, w ∈ wsX6_gateOf := by decide +kernel
set_option maxRecDepth 20000 in
theorem sb_LA_12_LC4 : sbL LA 12 (LC 4) := sbl_of rfl
set_option maxRecDepth 20000 in
theorem lkX6_gateOf_3 : Cond.fieldLink RX6 100 "TideWords$Gates" "slacks" "LTideWords$Cells;" ∈ wsX6_gateOf := by decide +kernel
set_option maxRecDepth 20000 in
theorem sb_LA_14_LC4 : sbL LA 14 (LC 4) := sbl_of rfl
set_option maxRecDepth 20000 in
theorem lkX6_gateOf_4 : Cond.fieldLink RX6 163 "TideWords$Gates" "ways" "LTideWords$Cells;" ∈ wsX6_gateOf := by decide +kernel
set_option maxRecDepth 20000 in
theorem sb_LA_16_LC4 : sbL LA 16 (LC 4) := sbl_of rfl
set_option maxRecDepth 20000 in
theorem lkX6_gateOf_5 : Cond.fieldLink RX6 107 "TideWords$Gates" "shuts" "LTideWords$Cells;" ∈ wsX6_gateOf := by decide +kernel
set_option maxRecDepth 20000 in
theorem sb_LA_18_LC4 : sbL LA 18 (LC 4) := sbl_of rfl
set_option maxRecDepth 20000 in
theorem lkX6_gateOf_6 : Cond.fieldLink RX6 66 "TideWords$World" "steps" "I" ∈ wsX6_gateOf := by decide +kernel
set_option maxRecDepth 20000 in
theorem lkX6_gateOf_7 : Cond.fieldLink RX6 170 "TideWords$Gates" "held" "LTideWords$Cells;" ∈ wsX6_gateOf := by decide +kernel
set_option maxRecDepth 20000 in
theorem sb_LA_20_LC4 : sbL LA 20 (LC 4) := sbl_of rfl
set_option maxRecDepth 20000 in
theorem lkX6_gateOf_8 : Cond.fieldLink RX6 173 "TideWords$Gates" "lettersDone" "LTideWords$Cells;" ∈ wsX6_gateOf := by decide +kernel
set_option maxRecDepth 20000 in
theorem sb_LA_22_LC4 : sbL LA 22 (LC 4) := sbl_of rfl
set_option maxRecDepth 20000 in
theorem lkX6_gateOf_9 : Cond.fieldLink RX6 136 "TideWords$Gates" "passedWords" "LTideWords$Cells;" ∈ wsX6_gateOf := by decide +kernel
set_option maxRecDepth 20000 in
theorem sb_LA_24_LC4 : sbL LA 24 (LC 4) := sbl_of rfl
set_option maxRecDepth 20000 in
theorem lkX6_gateOf_10 : Cond.fieldLink RX6 176 "TideWords$Gates" "vainLetters" "LTideWords$Cells;" ∈ wsX6_gateOf := by decide +kernel
set_option maxRecDepth 20000 in
theorem sb_LA_26_LC4 : sbL LA 26 (LC 4) := sbl_of rfl
def fX6_gateOf (V : Mem) (a1 : Int32) (a2 : Int32) : Int32 := lt (fX6_isGate a1) (fun r1 => if r1 = 0 then (-1001 : Int32) else if a2 = 0 then lt (cget 4 (V 13) a1) (fun r4 => r4) else if a2 = 1 then lt (cget 4 (V 15) a1) (fun r6 => r6) else if a2 = 2 then lt (cget 4 (V 17) a1) (fun r8 => r8) else if a2 = 3 then lt (cget 4 (V 19) a1) (fun r10 => r10) else if a2 = 4 then lt (fX5_isOpenAt (gv V 1) a1 (V 1 0)) (fun r12 => if r12 = 0 then (0 : Int32) else (1 : Int32)) else if a2 = 5 then lt (cget 4 (V 21) a1) (fun r15 => r15) else if a2 = 6 then lt (cget 4 (V 23) a1) (fun r17 => r17) else if a2 = 7 then lt (cget 4 (V 25) a1) (fun r19 => r19) else if a2 = 8 then lt (cget 4 (V 27) a1) (fun r21 => r21) else (-1002 : Int32))
abbrev rmX6_gateOf : Room := { frames := 5, cells := 0, slots := 0, locals := 114 }
set_option maxHeartbeats 4000000 in
set_option maxRecDepth 100000 in
theorem mX6_gateOf (l : Launch) (X : kX) (b : Nat) (V : Mem) (a1 : Int32) (a2 : Int32) (out : Int32) (hE : fX6_gateOf V a1 a2 = out) : MR l yX6_gateOf wsX6_gateOf rmX6_gateOf X [.ref b, .int a1, .int a2] (RP X LA b V) (some (.int out)) := by
  refine mt_head (cc := cX6_gateOf) (maxL := 3) (ret := (some .int)) (own := RX6) (by decide) rfl rfl (Nat.le_of_ble_eq_true rfl) ?_
  intro p e s m below meth c ls F hr hlocks hnm hR hl
  have hx := F.1.1
  have hb := F.1.2.1
  have hl : lv_has ls 3 [(0, .ref b), (1, .int a1), (2, .int a2)] := hl
  unfold fX6_gateOf at hE
  refine lv_iload_n hx hb dX6_gateOf_0 rfl (lv_at hl 1 rfl) ?_
  obtain ⟨r1, er1, hE⟩ := lt_el hE
  refine rg_callRS (As := [.int a1]) (rest := []) F (mX6_isGate l X a1 r1 er1) (va_cwS 1 F.1.2.2.2.2 gX6_gateOf_X6_isGate rfl rfl rfl hsX6_isGate ⟨Nat.le_of_ble_eq_true rfl, Nat.le_of_ble_eq_true rfl⟩)  trivial rfl hl.1 (Nat.le_of_ble_eq_true rfl) dX6_gateOf_1 ⟨Nat.zero_le _, Nat.zero_le _⟩ rfl ?_
  refine lv_if_ne (tgt := 11) hx hb dX6_gateOf_4 (by decide) (fun c2 => ?_) (fun c2 => ?_)
  · have hE := (if_neg c2).symm.trans hE
    refine lv_iload_n hx hb dX6_gateOf_11 rfl (lv_at hl 2 rfl) ?_
    by_cases c3 : a2 = 0
    · have hE := (if_pos c3).symm.trans hE
      refine lv_tableIn (off := 52) (tgt := 64) hx hb dX6_gateOf_12 (by rw [c3]; decide) (by rw [c3]; decide) (by rw [c3]; rfl) (by decide) ?_
      refine lv_aload_n hx hb dX6_gateOf_64 rfl (lv_at hl 0 rfl) ?_
      refine rg_getr F hR 0 (ci := 6) rfl (C := RX6) (T := TX6) (N := 9) rfl iwX6_gateOf_X6 0 (d := 1) (n := 1) rfl rfl (by decide) rfl lkX6_gateOf_0 rfl dX6_gateOf_65 ?_
      refine rg_getr F hR 1 (ci := 5) rfl (C := RX5) (T := TX5) (N := 6) rfl iwX6_gateOf_X5 1 (d := 10) (n := 11) rfl rfl (by decide) rfl lkX6_gateOf_1 rfl dX6_gateOf_68 ?_
      refine rg_getr F hR 11 (ci := 1) rfl (C := RX1) (T := TX1) (N := 8) rfl iwX6_gateOf_X1 0 (d := 1) (n := 12) rfl rfl (by decide) rfl lkX6_gateOf_2 rfl dX6_gateOf_71 ?_
      refine lv_iload_n hx hb dX6_gateOf_74 rfl (lv_at hl 1 rfl) ?_
      obtain ⟨r4, er4, hE⟩ := lt_el hE
      refine rg_callRV (As := [.int a1]) (rest := []) F (kX0_get l X 4 (by decide) (b + 12) (gv V 12) a1 r4 er4) (cwV 1 F.1.2.2.2.2 gX6_gateOf_X0_get rfl rfl rfl hvX0_get ⟨Nat.le_of_ble_eq_true rfl, Nat.le_of_ble_eq_true rfl⟩) (rp_recv F hR 12 rfl (C := RX0) (T := TX0) (N := 1) rfl rfl) (hR.sub 12 sb_LA_12_LC4) rfl hl.1 (Nat.le_of_ble_eq_true rfl) dX6_gateOf_75 ⟨Nat.zero_le _, Nat.zero_le _⟩ rfl ?_
      subst hE
      exact W.iret (v := r4) hx hb hr (fun t ht _ => ⟨rfl, ht⟩) (fun _ h => absurd h List.not_mem_nil) dX6_gateOf_78
    · have hE := (if_neg c3).symm.trans hE
      by_cases c5 : a2 = 1
      · have hE := (if_pos c5).symm.trans hE
        refine lv_tableIn (off := 67) (tgt := 79) hx hb dX6_gateOf_12 (by rw [c5]; decide) (by rw [c5]; decide) (by rw [c5]; rfl) (by decide) ?_
        refine lv_aload_n hx hb dX6_gateOf_79 rfl (lv_at hl 0 rfl) ?_
        refine rg_getr F hR 0 (ci := 6) rfl (C := RX6) (T := TX6) (N := 9) rfl iwX6_gateOf_X6 0 (d := 1) (n := 1) rfl rfl (by decide) rfl lkX6_gateOf_0 rfl dX6_gateOf_80 ?_
        refine rg_getr F hR 1 (ci := 5) rfl (C := RX5) (T := TX5) (N := 6) rfl iwX6_gateOf_X5 1 (d := 10) (n := 11) rfl rfl (by decide) rfl lkX6_gateOf_1 rfl dX6_gateOf_83 ?_
        refine rg_getr F hR 11 (ci := 1) rfl (C := RX1) (T := TX1) (N := 8) rfl iwX6_gateOf_X1 1 (d := 3) (n := 14) rfl rfl (by decide) rfl lkX6_gateOf_3 rfl dX6_gateOf_86 ?_
        refine lv_iload_n hx hb dX6_gateOf_89 rfl (lv_at hl 1 rfl) ?_
        obtain ⟨r6, er6, hE⟩ := lt_el hE
        refine rg_callRV (As := [.int a1]) (rest := []) F (kX0_get l X 4 (by decide) (b + 14) (gv V 14) a1 r6 er6) (cwV 1 F.1.2.2.2.2 gX6_gateOf_X0_get rfl rfl rfl hvX0_get ⟨Nat.le_of_ble_eq_true rfl, Nat.le_of_ble_eq_true rfl⟩) (rp_recv F hR 14 rfl (C := RX0) (T := TX0) (N := 1) rfl rfl) (hR.sub 14 sb_LA_14_LC4) rfl hl.1 (Nat.le_of_ble_eq_true rfl) dX6_gateOf_90 ⟨Nat.zero_le _, Nat.zero_le _⟩ rfl ?_
        subst hE
        exact W.iret (v := r6) hx hb hr (fun t ht _ => ⟨rfl, ht⟩) (fun _ h => absurd h List.not_mem_nil) dX6_gateOf_93
      · have hE := (if_neg c5).symm.trans hE
        by_cases c7 : a2 = 2
        · have hE := (if_pos c7).symm.trans hE
          refine lv_tableIn (off := 82) (tgt := 94) hx hb dX6_gateOf_12 (by rw [c7]; decide) (by rw [c7]; decide) (by rw [c7]; rfl) (by decide) ?_
          refine lv_aload_n hx hb dX6_gateOf_94 rfl (lv_at hl 0 rfl) ?_
          refine rg_getr F hR 0 (ci := 6) rfl (C := RX6) (T := TX6) (N := 9) rfl iwX6_gateOf_X6 0 (d := 1) (n := 1) rfl rfl (by decide) rfl lkX6_gateOf_0 rfl dX6_gateOf_95 ?_
          refine rg_getr F hR 1 (ci := 5) rfl (C := RX5) (T := TX5) (N := 6) rfl iwX6_gateOf_X5 1 (d := 10) (n := 11) rfl rfl (by decide) rfl lkX6_gateOf_1 rfl dX6_gateOf_98 ?_
          refine rg_getr F hR 11 (ci := 1) rfl (C := RX1) (T := TX1) (N := 8) rfl iwX6_gateOf_X1 2 (d := 5) (n := 16) rfl rfl (by decide) rfl lkX6_gateOf_4 rfl dX6_gateOf_101 ?_
          refine lv_iload_n hx hb dX6_gateOf_104 rfl (lv_at hl 1 rfl) ?_
          obtain ⟨r8, er8, hE⟩ := lt_el hE
          refine rg_callRV (As := [.int a1]) (rest := []) F (kX0_get l X 4 (by decide) (b + 16) (gv V 16) a1 r8 er8) (cwV 1 F.1.2.2.2.2 gX6_gateOf_X0_get rfl rfl rfl hvX0_get ⟨Nat.le_of_ble_eq_true rfl, Nat.le_of_ble_eq_true rfl⟩) (rp_recv F hR 16 rfl (C := RX0) (T := TX0) (N := 1) rfl rfl) (hR.sub 16 sb_LA_16_LC4) rfl hl.1 (Nat.le_of_ble_eq_true rfl) dX6_gateOf_105 ⟨Nat.zero_le _, Nat.zero_le _⟩ rfl ?_
          subst hE
          exact W.iret (v := r8) hx hb hr (fun t ht _ => ⟨rfl, ht⟩) (fun _ h => absurd h List.not_mem_nil) dX6_gateOf_108
        · have hE := (if_neg c7).symm.trans hE
          by_cases c9 : a2 = 3
          · have hE := (if_pos c9).symm.trans hE
            refine lv_tableIn (off := 97) (tgt := 109) hx hb dX6_gateOf_12 (by rw [c9]; decide) (by rw [c9]; decide) (by rw [c9]; rfl) (by decide) ?_
            refine lv_aload_n hx hb dX6_gateOf_109 rfl (lv_at hl 0 rfl) ?_
            refine rg_getr F hR 0 (ci := 6) rfl (C := RX6) (T := TX6) (N := 9) rfl iwX6_gateOf_X6 0 (d := 1) (n := 1) rfl rfl (by decide) rfl lkX6_gateOf_0 rfl dX6_gateOf_110 ?_
            refine rg_getr F hR 1 (ci := 5) rfl (C := RX5) (T := TX5) (N := 6) rfl iwX6_gateOf_X5 1 (d := 10) (n := 11) rfl rfl (by decide) rfl lkX6_gateOf_1 rfl dX6_gateOf_113 ?_
            refine rg_getr F hR 11 (ci := 1) rfl (C := RX1) (T := TX1) (N := 8) rfl iwX6_gateOf_X1 3 (d := 7) (n := 18) rfl rfl (by decide) rfl lkX6_gateOf_5 rfl dX6_gateOf_116 ?_
            refine lv_iload_n hx hb dX6_gateOf_119 rfl (lv_at hl 1 rfl) ?_
            obtain ⟨r10, er10, hE⟩ := lt_el hE
            refine rg_callRV (As := [.int a1]) (rest := []) F (kX0_get l X 4 (by decide) (b + 18) (gv V 18) a1 r10 er10) (cwV 1 F.1.2.2.2.2 gX6_gateOf_X0_get rfl rfl rfl hvX0_get ⟨Nat.le_of_ble_eq_true rfl, Nat.le_of_ble_eq_true rfl⟩) (rp_recv F hR 18 rfl (C := RX0) (T := TX0) (N := 1) rfl rfl) (hR.sub 18 sb_LA_18_LC4) rfl hl.1 (Nat.le_of_ble_eq_true rfl) dX6_gateOf_120 ⟨Nat.zero_le _, Nat.zero_le _⟩ rfl ?_
            subst hE
            exact W.iret (v := r10) hx hb hr (fun t ht _ => ⟨rfl, ht⟩) (fun _ h => absurd h List.not_mem_nil) dX6_gateOf_123
          · have hE := (if_neg c9).symm.trans hE
            by_cases c11 : a2 = 4
            · have hE := (if_pos c11).symm.trans hE
              refine lv_tableIn (off := 112) (tgt := 124) hx hb dX6_gateOf_12 (by rw [c11]; decide) (by rw [c11]; decide) (by rw [c11]; rfl) (by decide) ?_
              refine lv_aload_n hx hb dX6_gateOf_124 rfl (lv_at hl 0 rfl) ?_
              refine rg_getr F hR 0 (ci := 6) rfl (C := RX6) (T := TX6) (N := 9) rfl iwX6_gateOf_X6 0 (d := 1) (n := 1) rfl rfl (by decide) rfl lkX6_gateOf_0 rfl dX6_gateOf_125 ?_
              refine lv_iload_n hx hb dX6_gateOf_128 rfl (lv_at hl 1 rfl) ?_
              refine lv_aload_n hx hb dX6_gateOf_129 rfl (lv_at hl 0 rfl) ?_
              refine rg_getr F hR 0 (ci := 6) rfl (C := RX6) (T := TX6) (N := 9) rfl iwX6_gateOf_X6 0 (d := 1) (n := 1) rfl rfl (by decide) rfl lkX6_gateOf_0 rfl dX6_gateOf_130 ?_
              refine rg_geti F hR 1 (ci := 5) rfl (C := RX5) (T := TX5) (N := 6) rfl iwX6_gateOf_X5 3 (i := 0) rfl (by decide) rfl lkX6_gateOf_6 rfl dX6_gateOf_133 ?_
              obtain ⟨r12, er12, hE⟩ := lt_el hE
              refine rg_callRV (As := [.int a1, .int (V 1 0)]) (rest := []) F (mX5_isOpenAt l X (b + 1) (gv V 1) a1 (V 1 0) r12 er12) (cwV 2 F.1.2.2.2.2 gX6_gateOf_X5_isOpenAt rfl rfl rfl hvX5_isOpenAt ⟨Nat.le_of_ble_eq_true rfl, Nat.le_of_ble_eq_true rfl⟩) (rp_recv F hR 1 rfl (C := RX5) (T := TX5) (N := 6) rfl rfl) (hR.sub 1 sb_LA_1_LW) rfl hl.1 (Nat.le_of_ble_eq_true rfl) dX6_gateOf_136 ⟨Nat.zero_le _, Nat.zero_le _⟩ rfl ?_
              refine lv_if_eq (tgt := 146) hx hb dX6_gateOf_139 (by decide) (fun c13 => ?_) (fun c13 => ?_)
              · have hE := (if_pos c13).symm.trans hE
                refine lv_iconst (v := 0) hx hb dX6_gateOf_146 (by decide) ?_
                subst hE
                exact W.iret (v := (0 : Int32)) hx hb hr (fun t ht _ => ⟨rfl, ht⟩) (fun _ h => absurd h List.not_mem_nil) dX6_gateOf_147
              · have hE := (if_neg c13).symm.trans hE
                refine lv_iconst (v := 1) hx hb dX6_gateOf_142 (by decide) ?_
                refine lv_goto (tgt := 147) hx hb dX6_gateOf_143 (by decide) ?_
                subst hE
                exact W.iret (v := (1 : Int32)) hx hb hr (fun t ht _ => ⟨rfl, ht⟩) (fun _ h => absurd h List.not_mem_nil) dX6_gateOf_147
            · have hE := (if_neg c11).symm.trans hE
              by_cases c14 : a2 = 5
              · have hE := (if_pos c14).symm.trans hE
                refine lv_tableIn (off := 136) (tgt := 148) hx hb dX6_gateOf_12 (by rw [c14]; decide) (by rw [c14]; decide) (by rw [c14]; rfl) (by decide) ?_
                refine lv_aload_n hx hb dX6_gateOf_148 rfl (lv_at hl 0 rfl) ?_
                refine rg_getr F hR 0 (ci := 6) rfl (C := RX6) (T := TX6) (N := 9) rfl iwX6_gateOf_X6 0 (d := 1) (n := 1) rfl rfl (by decide) rfl lkX6_gateOf_0 rfl dX6_gateOf_149 ?_
                refine rg_getr F hR 1 (ci := 5) rfl (C := RX5) (T := TX5) (N := 6) rfl iwX6_gateOf_X5 1 (d := 10) (n := 11) rfl rfl (by decide) rfl lkX6_gateOf_1 rfl dX6_gateOf_152 ?_
                refine rg_getr F hR 11 (ci := 1) rfl (C := RX1) (T := TX1) (N := 8) rfl iwX6_gateOf_X1 4 (d := 9) (n := 20) rfl rfl (by decide) rfl lkX6_gateOf_7 rfl dX6_gateOf_155 ?_
                refine lv_iload_n hx hb dX6_gateOf_158 rfl (lv_at hl 1 rfl) ?_
                obtain ⟨r15, er15, hE⟩ := lt_el hE
                refine rg_callRV (As := [.int a1]) (rest := []) F (kX0_get l X 4 (by decide) (b + 20) (gv V 20) a1 r15 er15) (cwV 1 F.1.2.2.2.2 gX6_gateOf_X0_get rfl rfl rfl hvX0_get ⟨Nat.le_of_ble_eq_true rfl, Nat.le_of_ble_eq_true rfl⟩) (rp_recv F hR 20 rfl (C := RX0) (T := TX0) (N := 1) rfl rfl) (hR.sub 20 sb_LA_20_LC4) rfl hl.1 (Nat.le_of_ble_eq_true rfl) dX6_gateOf_159 ⟨Nat.zero_le _, Nat.zero_le _⟩ rfl ?_
                subst hE
                exact W.iret (v := r15) hx hb hr (fun t ht _ => ⟨rfl, ht⟩) (fun _ h => absurd h List.not_mem_nil) dX6_gateOf_162
              · have hE := (if_neg c14).symm.trans hE
                by_cases c16 : a2 = 6
                · have hE := (if_pos c16).symm.trans hE
                  refine lv_tableIn (off := 151) (tgt := 163) hx hb dX6_gateOf_12 (by rw [c16]; decide) (by rw [c16]; decide) (by rw [c16]; rfl) (by decide) ?_
                  refine lv_aload_n hx hb dX6_gateOf_163 rfl (lv_at hl 0 rfl) ?_
                  refine rg_getr F hR 0 (ci := 6) rfl (C := RX6) (T := TX6) (N := 9) rfl iwX6_gateOf_X6 0 (d := 1) (n := 1) rfl rfl (by decide) rfl lkX6_gateOf_0 rfl dX6_gateOf_164 ?_
                  refine rg_getr F hR 1 (ci := 5) rfl (C := RX5) (T := TX5) (N := 6) rfl iwX6_gateOf_X5 1 (d := 10) (n := 11) rfl rfl (by decide) rfl lkX6_gateOf_1 rfl dX6_gateOf_167 ?_
                  refine rg_getr F hR 11 (ci := 1) rfl (C := RX1) (T := TX1) (N := 8) rfl iwX6_gateOf_X1 5 (d := 11) (n := 22) rfl rfl (by decide) rfl lkX6_gateOf_8 rfl dX6_gateOf_170 ?_
                  refine lv_iload_n hx hb dX6_gateOf_173 rfl (lv_at hl 1 rfl) ?_
                  obtain ⟨r17, er17, hE⟩ := lt_el hE
                  refine rg_callRV (As := [.int a1]) (rest := []) F (kX0_get l X 4 (by decide) (b + 22) (gv V 22) a1 r17 er17) (cwV 1 F.1.2.2.2.2 gX6_gateOf_X0_get rfl rfl rfl hvX0_get ⟨Nat.le_of_ble_eq_true rfl, Nat.le_of_ble_eq_true rfl⟩) (rp_recv F hR 22 rfl (C := RX0) (T := TX0) (N := 1) rfl rfl) (hR.sub 22 sb_LA_22_LC4) rfl hl.1 (Nat.le_of_ble_eq_true rfl) dX6_gateOf_174 ⟨Nat.zero_le _, Nat.zero_le _⟩ rfl ?_
                  subst hE
                  exact W.iret (v := r17) hx hb hr (fun t ht _ => ⟨rfl, ht⟩) (fun _ h => absurd h List.not_mem_nil) dX6_gateOf_177
                · have hE := (if_neg c16).symm.trans hE
                  by_cases c18 : a2 = 7
                  · have hE := (if_pos c18).symm.trans hE
                    refine lv_tableIn (off := 166) (tgt := 178) hx hb dX6_gateOf_12 (by rw [c18]; decide) (by rw [c18]; decide) (by rw [c18]; rfl) (by decide) ?_
                    refine lv_aload_n hx hb dX6_gateOf_178 rfl (lv_at hl 0 rfl) ?_
                    refine rg_getr F hR 0 (ci := 6) rfl (C := RX6) (T := TX6) (N := 9) rfl iwX6_gateOf_X6 0 (d := 1) (n := 1) rfl rfl (by decide) rfl lkX6_gateOf_0 rfl dX6_gateOf_179 ?_
                    refine rg_getr F hR 1 (ci := 5) rfl (C := RX5) (T := TX5) (N := 6) rfl iwX6_gateOf_X5 1 (d := 10) (n := 11) rfl rfl (by decide) rfl lkX6_gateOf_1 rfl dX6_gateOf_182 ?_
                    refine rg_getr F hR 11 (ci := 1) rfl (C := RX1) (T := TX1) (N := 8) rfl iwX6_gateOf_X1 6 (d := 13) (n := 24) rfl rfl (by decide) rfl lkX6_gateOf_9 rfl dX6_gateOf_185 ?_
                    refine lv_iload_n hx hb dX6_gateOf_188 rfl (lv_at hl 1 rfl) ?_
                    obtain ⟨r19, er19, hE⟩ := lt_el hE
                    refine rg_callRV (As := [.int a1]) (rest := []) F (kX0_get l X 4 (by decide) (b + 24) (gv V 24) a1 r19 er19) (cwV 1 F.1.2.2.2.2 gX6_gateOf_X0_get rfl rfl rfl hvX0_get ⟨Nat.le_of_ble_eq_true rfl, Nat.le_of_ble_eq_true rfl⟩) (rp_recv F hR 24 rfl (C := RX0) (T := TX0) (N := 1) rfl rfl) (hR.sub 24 sb_LA_24_LC4) rfl hl.1 (Nat.le_of_ble_eq_true rfl) dX6_gateOf_189 ⟨Nat.zero_le _, Nat.zero_le _⟩ rfl ?_
                    subst hE
                    exact W.iret (v := r19) hx hb hr (fun t ht _ => ⟨rfl, ht⟩) (fun _ h => absurd h List.not_mem_nil) dX6_gateOf_192
                  · have hE := (if_neg c18).symm.trans hE
                    by_cases c20 : a2 = 8
                    · have hE := (if_pos c20).symm.trans hE
                      refine lv_tableIn (off := 181) (tgt := 193) hx hb dX6_gateOf_12 (by rw [c20]; decide) (by rw [c20]; decide) (by rw [c20]; rfl) (by decide) ?_
                      refine lv_aload_n hx hb dX6_gateOf_193 rfl (lv_at hl 0 rfl) ?_
                      refine rg_getr F hR 0 (ci := 6) rfl (C := RX6) (T := TX6) (N := 9) rfl iwX6_gateOf_X6 0 (d := 1) (n := 1) rfl rfl (by decide) rfl lkX6_gateOf_0 rfl dX6_gateOf_194 ?_
                      refine rg_getr F hR 1 (ci := 5) rfl (C := RX5) (T := TX5) (N := 6) rfl iwX6_gateOf_X5 1 (d := 10) (n := 11) rfl rfl (by decide) rfl lkX6_gateOf_1 rfl dX6_gateOf_197 ?_
                      refine rg_getr F hR 11 (ci := 1) rfl (C := RX1) (T := TX1) (N := 8) rfl iwX6_gateOf_X1 7 (d := 15) (n := 26) rfl rfl (by decide) rfl lkX6_gateOf_10 rfl dX6_gateOf_200 ?_
                      refine lv_iload_n hx hb dX6_gateOf_203 rfl (lv_at hl 1 rfl) ?_
                      obtain ⟨r21, er21, hE⟩ := lt_el hE
                      refine rg_callRV (As := [.int a1]) (rest := []) F (kX0_get l X 4 (by decide) (b + 26) (gv V 26) a1 r21 er21) (cwV 1 F.1.2.2.2.2 gX6_gateOf_X0_get rfl rfl rfl hvX0_get ⟨Nat.le_of_ble_eq_true rfl, Nat.le_of_ble_eq_true rfl⟩) (rp_recv F hR 26 rfl (C := RX0) (T := TX0) (N := 1) rfl rfl) (hR.sub 26 sb_LA_26_LC4) rfl hl.1 (Nat.le_of_ble_eq_true rfl) dX6_gateOf_204 ⟨Nat.zero_le _, Nat.zero_le _⟩ rfl ?_
                      subst hE
                      exact W.iret (v := r21) hx hb hr (fun t ht _ => ⟨rfl, ht⟩) (fun _ h => absurd h List.not_mem_nil) dX6_gateOf_207
                    · have hE := (if_neg c20).symm.trans hE
                      refine lv_tableOut (tgt := 208) hx hb dX6_gateOf_12 (ts_out9 c3 c5 c7 c9 c11 c14 c16 c18 c20) (by decide) ?_
                      refine lv_sipush (v := (-1002)) hx hb dX6_gateOf_208 (by decide) ?_
                      subst hE
                      exact W.iret (v := (-1002 : Int32)) hx hb hr (fun t ht _ => ⟨rfl, ht⟩) (fun _ h => absurd h List.not_mem_nil) dX6_gateOf_211
  · have hE := (if_pos c2).symm.trans hE
    refine lv_sipush (v := (-1001)) hx hb dX6_gateOf_7 (by decide) ?_
    subst hE
    exact W.iret (v := (-1001 : Int32)) hx hb hr (fun t ht _ => ⟨rfl, ht⟩) (fun _ h => absurd h List.not_mem_nil) dX6_gateOf_10
theorem hvX6_isWord : yX6_isWord.cls = RX6 ∧ yX6_isWord.cls ≠ "java/lang/invoke/MethodHandle" ∧ yX6_isWord.cls ≠ "java/lang/invoke/VarHandle" ∧ (parseMethodDescriptor yX6_isWord.desc).map (fun d => d.parameters.length) = some 1 := by decide +kernel
set_option maxRecDepth 20000 in
theorem lkX6_word_0 : Cond.fieldLink RX6 10 "TideWords" "now" "LTideWords$World;" ∈ wsX6_word := by decide +kernel
set_option maxRecDepth 20000 in
theorem iwX6_word_X6 : ∀ w ∈ wsX60, w ∈ wsX6_word := by decide +kernel
theorem hvX5_whereIs : yX5_whereIs.cls = RX5 ∧ yX5_whereIs.cls ≠ "java/lang/invoke/MethodHandle" ∧ yX5_whereIs.cls ≠ "java/lang/invoke/VarHandle" ∧ (parseMethodDescriptor yX5_whereIs.desc).map (fun d => d.parameters.length) = some 1 := by decide +kernel
set_option maxRecDepth 20000 in
theorem lkX6_word_1 : Cond.fieldLink RX6 117 "TideWords$World" "words" "LTideWords$Words;" ∈ wsX6_word := by decide +kernel
set_option maxRecDepth 20000 in
theorem iwX6_word_X5 : ∀ w ∈ wsX50, w ∈ wsX6_word := by decide +kernel
theorem hvX4_placeOf : yX4_placeOf.cls = RX4 ∧ yX4_placeOf.cls ≠ "java/lang/invoke/MethodHandle" ∧ yX4_placeOf.cls ≠ "java/lang/invoke/VarHandle" ∧ (parseMethodDescriptor yX4_placeOf.desc).map (fun d => d.parameters.length) = some 1 := by decide +kernel
set_option maxRecDepth 20000 in
theorem lkX6_word_2 : Cond.fieldLink RX6 188 "TideWords$Words" "lengths" "LTideWords$Cells;" ∈ wsX6_word := by decide +kernel
set_option maxRecDepth 20000 in
theorem iwX6_word_X4 : ∀ w ∈ wsX40, w ∈ wsX6_word := by decide +kernel
set_option maxRecDepth 20000 in
theorem sb_LA_29_LC12 : sbL LA 29 (LC 12) := sbl_of rfl
set_option maxRecDepth 20000 in
theorem lkX6_word_3 : Cond.fieldLink RX6 194 "TideWords$Words" "passedSteps" "LTideWords$Cells;" ∈ wsX6_word := by decide +kernel
set_option maxRecDepth 20000 in
theorem sb_LA_33_LC12 : sbL LA 33 (LC 12) := sbl_of rfl
set_option maxRecDepth 20000 in
theorem lkX6_word_4 : Cond.fieldLink RX6 197 "TideWords$Words" "passedGates" "LTideWords$Cells;" ∈ wsX6_word := by decide +kernel
set_option maxRecDepth 20000 in
theorem sb_LA_35_LC12 : sbL LA 35 (LC 12) := sbl_of rfl
set_option maxRecDepth 20000 in
theorem lkX6_word_5 : Cond.fieldLink RX6 200 "TideWords$Words" "timesBack" "LTideWords$Cells;" ∈ wsX6_word := by decide +kernel
set_option maxRecDepth 20000 in
theorem sb_LA_37_LC12 : sbL LA 37 (LC 12) := sbl_of rfl
theorem hvX4_letterOf : yX4_letterOf.cls = RX4 ∧ yX4_letterOf.cls ≠ "java/lang/invoke/MethodHandle" ∧ yX4_letterOf.cls ≠ "java/lang/invoke/VarHandle" ∧ (parseMethodDescriptor yX4_letterOf.desc).map (fun d => d.parameters.length) = some 2 := by decide +kernel
def fX6_word (V : Mem) (a1 : Int32) (a2 : Int32) : Int32 := lt (fX6_isWord V a1) (fun r1 => if r1 = 0 then (-1001 : Int32) else if (0 : Int32) ≤ a2 then if a2 = 0 then lt (fX5_whereIs (gv V 1) a1) (fun r5 => r5) else if a2 = 1 then lt (fX4_placeOf (gv V 1) a1) (fun r7 => r7) else if a2 = 2 then lt (cget 12 (V 30) a1) (fun r9 => r9) else if a2 = 3 then lt (fX4_hasPassed (gv V 1) a1) (fun r11 => if r11 = 0 then (0 : Int32) else (1 : Int32)) else if a2 = 4 then lt (cget 12 (V 34) a1) (fun r14 => r14) else if a2 = 5 then lt (cget 12 (V 36) a1) (fun r16 => r16) else if a2 = 6 then lt (cget 12 (V 38) a1) (fun r18 => r18) else lt (fX4_letterOf (gv V 1) a1 (a2 - ((7 : Int32)))) (fun r19 => r19) else (-1002 : Int32))
abbrev rmX6_word : Room := { frames := 4, cells := 0, slots := 0, locals := 89 }
set_option maxHeartbeats 4000000 in
set_option maxRecDepth 100000 in
theorem mX6_word (l : Launch) (X : kX) (b : Nat) (V : Mem) (a1 : Int32) (a2 : Int32) (out : Int32) (hE : fX6_word V a1 a2 = out) : MR l yX6_word wsX6_word rmX6_word X [.ref b, .int a1, .int a2] (RP X LA b V) (some (.int out)) := by
  refine mt_head (cc := cX6_word) (maxL := 3) (ret := (some .int)) (own := RX6) (by decide) rfl rfl (Nat.le_of_ble_eq_true rfl) ?_
  intro p e s m below meth c ls F hr hlocks hnm hR hl
  have hx := F.1.1
  have hb := F.1.2.1
  have hl : lv_has ls 3 [(0, .ref b), (1, .int a1), (2, .int a2)] := hl
  unfold fX6_word at hE
  refine lv_aload_n hx hb dX6_word_0 rfl (lv_at hl 0 rfl) ?_
  refine lv_iload_n hx hb dX6_word_1 rfl (lv_at hl 1 rfl) ?_
  obtain ⟨r1, er1, hE⟩ := lt_el hE
  refine rg_callRV (As := [.int a1]) (rest := []) F (mX6_isWord l X b V a1 r1 er1) (cwV 1 F.1.2.2.2.2 gX6_word_X6_isWord rfl rfl rfl hvX6_isWord ⟨Nat.le_of_ble_eq_true rfl, Nat.le_of_ble_eq_true rfl⟩) (rp_recv F hR 0 rfl (C := RX6) (T := TX6) (N := 9) rfl rfl) hR rfl hl.1 (Nat.le_of_ble_eq_true rfl) dX6_word_2 ⟨Nat.zero_le _, Nat.zero_le _⟩ rfl ?_
  refine lv_if_ne (tgt := 12) hx hb dX6_word_5 (by decide) (fun c2 => ?_) (fun c2 => ?_)
  · have hE := (if_neg c2).symm.trans hE
    refine lv_iload_n hx hb dX6_word_12 rfl (lv_at hl 2 rfl) ?_
    refine lv_if_ge (tgt := 20) hx hb dX6_word_13 (by decide) (fun c3 => ?_) (fun c3 => ?_)
    · have hE := (if_pos c3).symm.trans hE
      refine lv_iload_n hx hb dX6_word_20 rfl (lv_at hl 2 rfl) ?_
      by_cases c4 : a2 = 0
      · have hE := (if_pos c4).symm.trans hE
        refine lv_tableIn (off := 43) (tgt := 64) hx hb dX6_word_21 (by rw [c4]; decide) (by rw [c4]; decide) (by rw [c4]; rfl) (by decide) ?_
        refine lv_aload_n hx hb dX6_word_64 rfl (lv_at hl 0 rfl) ?_
        refine rg_getr F hR 0 (ci := 6) rfl (C := RX6) (T := TX6) (N := 9) rfl iwX6_word_X6 0 (d := 1) (n := 1) rfl rfl (by decide) rfl lkX6_word_0 rfl dX6_word_65 ?_
        refine lv_iload_n hx hb dX6_word_68 rfl (lv_at hl 1 rfl) ?_
        obtain ⟨r5, er5, hE⟩ := lt_el hE
        refine rg_callRV (As := [.int a1]) (rest := []) F (mX5_whereIs l X (b + 1) (gv V 1) a1 r5 er5) (cwV 1 F.1.2.2.2.2 gX6_word_X5_whereIs rfl rfl rfl hvX5_whereIs ⟨Nat.le_of_ble_eq_true rfl, Nat.le_of_ble_eq_true rfl⟩) (rp_recv F hR 1 rfl (C := RX5) (T := TX5) (N := 6) rfl rfl) (hR.sub 1 sb_LA_1_LW) rfl hl.1 (Nat.le_of_ble_eq_true rfl) dX6_word_69 ⟨Nat.zero_le _, Nat.zero_le _⟩ rfl ?_
        subst hE
        exact W.iret (v := r5) hx hb hr (fun t ht _ => ⟨rfl, ht⟩) (fun _ h => absurd h List.not_mem_nil) dX6_word_72
      · have hE := (if_neg c4).symm.trans hE
        by_cases c6 : a2 = 1
        · have hE := (if_pos c6).symm.trans hE
          refine lv_tableIn (off := 52) (tgt := 73) hx hb dX6_word_21 (by rw [c6]; decide) (by rw [c6]; decide) (by rw [c6]; rfl) (by decide) ?_
          refine lv_aload_n hx hb dX6_word_73 rfl (lv_at hl 0 rfl) ?_
          refine rg_getr F hR 0 (ci := 6) rfl (C := RX6) (T := TX6) (N := 9) rfl iwX6_word_X6 0 (d := 1) (n := 1) rfl rfl (by decide) rfl lkX6_word_0 rfl dX6_word_74 ?_
          refine rg_getr F hR 1 (ci := 5) rfl (C := RX5) (T := TX5) (N := 6) rfl iwX6_word_X5 2 (d := 27) (n := 28) rfl rfl (by decide) rfl lkX6_word_1 rfl dX6_word_77 ?_
          refine lv_iload_n hx hb dX6_word_80 rfl (lv_at hl 1 rfl) ?_
          obtain ⟨r7, er7, hE⟩ := lt_el hE
          refine rg_callRV (As := [.int a1]) (rest := []) F (mX4_placeOf l X (b + 1) (gv V 1) a1 r7 er7) (cwV 1 F.1.2.2.2.2 gX6_word_X4_placeOf rfl rfl rfl hvX4_placeOf ⟨Nat.le_of_ble_eq_true rfl, Nat.le_of_ble_eq_true rfl⟩) (rp_recv F hR 28 rfl (C := RX4) (T := TX4) (N := 8) rfl rfl) (hR.sub 1 sb_LA_1_LW) rfl hl.1 (Nat.le_of_ble_eq_true rfl) dX6_word_81 ⟨Nat.zero_le _, Nat.zero_le _⟩ rfl ?_
          subst hE
          exact W.iret (v := r7) hx hb hr (fun t ht _ => ⟨rfl, ht⟩) (fun _ h => absurd h List.not_mem_nil) dX6_word_84
        · have hE := (if_neg c6).symm.trans hE
          by_cases c8 : a2 = 2
          · have hE := (if_pos c8).symm.trans hE
            refine lv_tableIn (off := 64) (tgt := 85) hx hb dX6_word_21 (by rw [c8]; decide) (by rw [c8]; decide) (by rw [c8]; rfl) (by decide) ?_
            refine lv_aload_n hx hb dX6_word_85 rfl (lv_at hl 0 rfl) ?_
            refine rg_getr F hR 0 (ci := 6) rfl (C := RX6) (T := TX6) (N := 9) rfl iwX6_word_X6 0 (d := 1) (n := 1) rfl rfl (by decide) rfl lkX6_word_0 rfl dX6_word_86 ?_
            refine rg_getr F hR 1 (ci := 5) rfl (C := RX5) (T := TX5) (N := 6) rfl iwX6_word_X5 2 (d := 27) (n := 28) rfl rfl (by decide) rfl lkX6_word_1 rfl dX6_word_89 ?_
            refine rg_getr F hR 28 (ci := 4) rfl (C := RX4) (T := TX4) (N := 8) rfl iwX6_word_X4 0 (d := 1) (n := 29) rfl rfl (by decide) rfl lkX6_word_2 rfl dX6_word_92 ?_
            refine lv_iload_n hx hb dX6_word_95 rfl (lv_at hl 1 rfl) ?_
            obtain ⟨r9, er9, hE⟩ := lt_el hE
            refine rg_callRV (As := [.int a1]) (rest := []) F (kX0_get l X 12 (by decide) (b + 29) (gv V 29) a1 r9 er9) (cwV 1 F.1.2.2.2.2 gX6_word_X0_get rfl rfl rfl hvX0_get ⟨Nat.le_of_ble_eq_true rfl, Nat.le_of_ble_eq_true rfl⟩) (rp_recv F hR 29 rfl (C := RX0) (T := TX0) (N := 1) rfl rfl) (hR.sub 29 sb_LA_29_LC12) rfl hl.1 (Nat.le_of_ble_eq_true rfl) dX6_word_96 ⟨Nat.zero_le _, Nat.zero_le _⟩ rfl ?_
            subst hE
            exact W.iret (v := r9) hx hb hr (fun t ht _ => ⟨rfl, ht⟩) (fun _ h => absurd h List.not_mem_nil) dX6_word_99
          · have hE := (if_neg c8).symm.trans hE
            by_cases c10 : a2 = 3
            · have hE := (if_pos c10).symm.trans hE
              refine lv_tableIn (off := 79) (tgt := 100) hx hb dX6_word_21 (by rw [c10]; decide) (by rw [c10]; decide) (by rw [c10]; rfl) (by decide) ?_
              refine lv_aload_n hx hb dX6_word_100 rfl (lv_at hl 0 rfl) ?_
              refine rg_getr F hR 0 (ci := 6) rfl (C := RX6) (T := TX6) (N := 9) rfl iwX6_word_X6 0 (d := 1) (n := 1) rfl rfl (by decide) rfl lkX6_word_0 rfl dX6_word_101 ?_
              refine rg_getr F hR 1 (ci := 5) rfl (C := RX5) (T := TX5) (N := 6) rfl iwX6_word_X5 2 (d := 27) (n := 28) rfl rfl (by decide) rfl lkX6_word_1 rfl dX6_word_104 ?_
              refine lv_iload_n hx hb dX6_word_107 rfl (lv_at hl 1 rfl) ?_
              obtain ⟨r11, er11, hE⟩ := lt_el hE
              refine rg_callRV (As := [.int a1]) (rest := []) F (mX4_hasPassed l X (b + 1) (gv V 1) a1 r11 er11) (cwV 1 F.1.2.2.2.2 gX6_word_X4_hasPassed rfl rfl rfl hvX4_hasPassed ⟨Nat.le_of_ble_eq_true rfl, Nat.le_of_ble_eq_true rfl⟩) (rp_recv F hR 28 rfl (C := RX4) (T := TX4) (N := 8) rfl rfl) (hR.sub 1 sb_LA_1_LW) rfl hl.1 (Nat.le_of_ble_eq_true rfl) dX6_word_108 ⟨Nat.zero_le _, Nat.zero_le _⟩ rfl ?_
              refine lv_if_eq (tgt := 118) hx hb dX6_word_111 (by decide) (fun c12 => ?_) (fun c12 => ?_)
              · have hE := (if_pos c12).symm.trans hE
                refine lv_iconst (v := 0) hx hb dX6_word_118 (by decide) ?_
                subst hE
                exact W.iret (v := (0 : Int32)) hx hb hr (fun t ht _ => ⟨rfl, ht⟩) (fun _ h => absurd h List.not_mem_nil) dX6_word_119
              · have hE := (if_neg c12).symm.trans hE
                refine lv_iconst (v := 1) hx hb dX6_word_114 (by decide) ?_
                refine lv_goto (tgt := 119) hx hb dX6_word_115 (by decide) ?_
                subst hE
                exact W.iret (v := (1 : Int32)) hx hb hr (fun t ht _ => ⟨rfl, ht⟩) (fun _ h => absurd h List.not_mem_nil) dX6_word_119
            · have hE := (if_neg c10).symm.trans hE
              by_cases c13 : a2 = 4
              · have hE := (if_pos c13).symm.trans hE
                refine lv_tableIn (off := 99) (tgt := 120) hx hb dX6_word_21 (by rw [c13]; decide) (by rw [c13]; decide) (by rw [c13]; rfl) (by decide) ?_
                refine lv_aload_n hx hb dX6_word_120 rfl (lv_at hl 0 rfl) ?_
                refine rg_getr F hR 0 (ci := 6) rfl (C := RX6) (T := TX6) (N := 9) rfl iwX6_word_X6 0 (d := 1) (n := 1) rfl rfl (by decide) rfl lkX6_word_0 rfl dX6_word_121 ?_
                refine rg_getr F hR 1 (ci := 5) rfl (C := RX5) (T := TX5) (N := 6) rfl iwX6_word_X5 2 (d := 27) (n := 28) rfl rfl (by decide) rfl lkX6_word_1 rfl dX6_word_124 ?_
                refine rg_getr F hR 28 (ci := 4) rfl (C := RX4) (T := TX4) (N := 8) rfl iwX6_word_X4 2 (d := 5) (n := 33) rfl rfl (by decide) rfl lkX6_word_3 rfl dX6_word_127 ?_
                refine lv_iload_n hx hb dX6_word_130 rfl (lv_at hl 1 rfl) ?_
                obtain ⟨r14, er14, hE⟩ := lt_el hE
                refine rg_callRV (As := [.int a1]) (rest := []) F (kX0_get l X 12 (by decide) (b + 33) (gv V 33) a1 r14 er14) (cwV 1 F.1.2.2.2.2 gX6_word_X0_get rfl rfl rfl hvX0_get ⟨Nat.le_of_ble_eq_true rfl, Nat.le_of_ble_eq_true rfl⟩) (rp_recv F hR 33 rfl (C := RX0) (T := TX0) (N := 1) rfl rfl) (hR.sub 33 sb_LA_33_LC12) rfl hl.1 (Nat.le_of_ble_eq_true rfl) dX6_word_131 ⟨Nat.zero_le _, Nat.zero_le _⟩ rfl ?_
                subst hE
                exact W.iret (v := r14) hx hb hr (fun t ht _ => ⟨rfl, ht⟩) (fun _ h => absurd h List.not_mem_nil) dX6_word_134
              · have hE := (if_neg c13).symm.trans hE
                by_cases c15 : a2 = 5
                · have hE := (if_pos c15).symm.trans hE
                  refine lv_tableIn (off := 114) (tgt := 135) hx hb dX6_word_21 (by rw [c15]; decide) (by rw [c15]; decide) (by rw [c15]; rfl) (by decide) ?_
                  refine lv_aload_n hx hb dX6_word_135 rfl (lv_at hl 0 rfl) ?_
                  refine rg_getr F hR 0 (ci := 6) rfl (C := RX6) (T := TX6) (N := 9) rfl iwX6_word_X6 0 (d := 1) (n := 1) rfl rfl (by decide) rfl lkX6_word_0 rfl dX6_word_136 ?_
                  refine rg_getr F hR 1 (ci := 5) rfl (C := RX5) (T := TX5) (N := 6) rfl iwX6_word_X5 2 (d := 27) (n := 28) rfl rfl (by decide) rfl lkX6_word_1 rfl dX6_word_139 ?_
                  refine rg_getr F hR 28 (ci := 4) rfl (C := RX4) (T := TX4) (N := 8) rfl iwX6_word_X4 3 (d := 7) (n := 35) rfl rfl (by decide) rfl lkX6_word_4 rfl dX6_word_142 ?_
                  refine lv_iload_n hx hb dX6_word_145 rfl (lv_at hl 1 rfl) ?_
                  obtain ⟨r16, er16, hE⟩ := lt_el hE
                  refine rg_callRV (As := [.int a1]) (rest := []) F (kX0_get l X 12 (by decide) (b + 35) (gv V 35) a1 r16 er16) (cwV 1 F.1.2.2.2.2 gX6_word_X0_get rfl rfl rfl hvX0_get ⟨Nat.le_of_ble_eq_true rfl, Nat.le_of_ble_eq_true rfl⟩) (rp_recv F hR 35 rfl (C := RX0) (T := TX0) (N := 1) rfl rfl) (hR.sub 35 sb_LA_35_LC12) rfl hl.1 (Nat.le_of_ble_eq_true rfl) dX6_word_146 ⟨Nat.zero_le _, Nat.zero_le _⟩ rfl ?_
                  subst hE
                  exact W.iret (v := r16) hx hb hr (fun t ht _ => ⟨rfl, ht⟩) (fun _ h => absurd h List.not_mem_nil) dX6_word_149
                · have hE := (if_neg c15).symm.trans hE
                  by_cases c17 : a2 = 6
                  · have hE := (if_pos c17).symm.trans hE
                    refine lv_tableIn (off := 129) (tgt := 150) hx hb dX6_word_21 (by rw [c17]; decide) (by rw [c17]; decide) (by rw [c17]; rfl) (by decide) ?_
                    refine lv_aload_n hx hb dX6_word_150 rfl (lv_at hl 0 rfl) ?_
                    refine rg_getr F hR 0 (ci := 6) rfl (C := RX6) (T := TX6) (N := 9) rfl iwX6_word_X6 0 (d := 1) (n := 1) rfl rfl (by decide) rfl lkX6_word_0 rfl dX6_word_151 ?_
                    refine rg_getr F hR 1 (ci := 5) rfl (C := RX5) (T := TX5) (N := 6) rfl iwX6_word_X5 2 (d := 27) (n := 28) rfl rfl (by decide) rfl lkX6_word_1 rfl dX6_word_154 ?_
                    refine rg_getr F hR 28 (ci := 4) rfl (C := RX4) (T := TX4) (N := 8) rfl iwX6_word_X4 4 (d := 9) (n := 37) rfl rfl (by decide) rfl lkX6_word_5 rfl dX6_word_157 ?_
                    refine lv_iload_n hx hb dX6_word_160 rfl (lv_at hl 1 rfl) ?_
                    obtain ⟨r18, er18, hE⟩ := lt_el hE
                    refine rg_callRV (As := [.int a1]) (rest := []) F (kX0_get l X 12 (by decide) (b + 37) (gv V 37) a1 r18 er18) (cwV 1 F.1.2.2.2.2 gX6_word_X0_get rfl rfl rfl hvX0_get ⟨Nat.le_of_ble_eq_true rfl, Nat.le_of_ble_eq_true rfl⟩) (rp_recv F hR 37 rfl (C := RX0) (T := TX0) (N := 1) rfl rfl) (hR.sub 37 sb_LA_37_LC12) rfl hl.1 (Nat.le_of_ble_eq_true rfl) dX6_word_161 ⟨Nat.zero_le _, Nat.zero_le _⟩ rfl ?_
                    subst hE
                    exact W.iret (v := r18) hx hb hr (fun t ht _ => ⟨rfl, ht⟩) (fun _ h => absurd h List.not_mem_nil) dX6_word_164
                  · have hE := (if_neg c17).symm.trans hE
                    refine lv_tableOut (tgt := 165) hx hb dX6_word_21 (ts_out7 c4 c6 c8 c10 c13 c15 c17) (by decide) ?_
                    refine lv_aload_n hx hb dX6_word_165 rfl (lv_at hl 0 rfl) ?_
                    refine rg_getr F hR 0 (ci := 6) rfl (C := RX6) (T := TX6) (N := 9) rfl iwX6_word_X6 0 (d := 1) (n := 1) rfl rfl (by decide) rfl lkX6_word_0 rfl dX6_word_166 ?_
                    refine rg_getr F hR 1 (ci := 5) rfl (C := RX5) (T := TX5) (N := 6) rfl iwX6_word_X5 2 (d := 27) (n := 28) rfl rfl (by decide) rfl lkX6_word_1 rfl dX6_word_169 ?_
                    refine lv_iload_n hx hb dX6_word_172 rfl (lv_at hl 1 rfl) ?_
                    refine lv_iload_n hx hb dX6_word_173 rfl (lv_at hl 2 rfl) ?_
                    refine lv_bipush (v := 7) hx hb dX6_word_174 (by decide) ?_
                    refine lv_isub hx hb dX6_word_176 ?_
                    obtain ⟨r19, er19, hE⟩ := lt_el hE
                    refine rg_callRV (As := [.int a1, .int (a2 - ((7 : Int32)))]) (rest := []) F (mX4_letterOf l X (b + 1) (gv V 1) a1 (a2 - ((7 : Int32))) r19 er19) (cwV 2 F.1.2.2.2.2 gX6_word_X4_letterOf rfl rfl rfl hvX4_letterOf ⟨Nat.le_of_ble_eq_true rfl, Nat.le_of_ble_eq_true rfl⟩) (rp_recv F hR 28 rfl (C := RX4) (T := TX4) (N := 8) rfl rfl) (hR.sub 1 sb_LA_1_LW) rfl hl.1 (Nat.le_of_ble_eq_true rfl) dX6_word_177 ⟨Nat.zero_le _, Nat.zero_le _⟩ rfl ?_
                    subst hE
                    exact W.iret (v := r19) hx hb hr (fun t ht _ => ⟨rfl, ht⟩) (fun _ h => absurd h List.not_mem_nil) dX6_word_180
    · have hE := (if_neg c3).symm.trans hE
      refine lv_sipush (v := (-1002)) hx hb dX6_word_16 (by decide) ?_
      subst hE
      exact W.iret (v := (-1002 : Int32)) hx hb hr (fun t ht _ => ⟨rfl, ht⟩) (fun _ h => absurd h List.not_mem_nil) dX6_word_19
  · have hE := (if_pos c2).symm.trans hE
    refine lv_sipush (v := (-1001)) hx hb dX6_word_8 (by decide) ?_
    subst hE
    exact W.iret (v := (-1001 : Int32)) hx hb hr (fun t ht _ => ⟨rfl, ht⟩) (fun _ h => absurd h List.not_mem_nil) dX6_word_11
set_option maxRecDepth 20000 in
theorem lkX6_at_0 : Cond.fieldLink RX6 10 "TideWords" "now" "LTideWords$World;" ∈ wsX6_at := by decide +kernel
set_option maxRecDepth 20000 in
theorem iwX6_at_X6 : ∀ w ∈ wsX60, w ∈ wsX6_at := by decide +kernel
set_option maxRecDepth 20000 in
theorem lkX6_at_1 : Cond.fieldLink RX6 117 "TideWords$World" "words" "LTideWords$Words;" ∈ wsX6_at := by decide +kernel
set_option maxRecDepth 20000 in
theorem iwX6_at_X5 : ∀ w ∈ wsX50, w ∈ wsX6_at := by decide +kernel
set_option maxRecDepth 20000 in
theorem lkX6_at_2 : Cond.fieldLink RX6 154 "TideWords$Words" "rowLengths" "LTideWords$Cells;" ∈ wsX6_at := by decide +kernel
set_option maxRecDepth 20000 in
theorem iwX6_at_X4 : ∀ w ∈ wsX40, w ∈ wsX6_at := by decide +kernel
def fX6_at (V : Mem) (a1 : Int32) (a2 : Int32) : Int32 := lt (fX6_isStore a1) (fun r1 => if r1 = 0 then (-1001 : Int32) else lt (cget 2 (V 42) a1) (fun r3 => lt (fX6_isWithin a2 ((0 : Int32)) (r3 - ((1 : Int32)))) (fun r4 => if r4 = 0 then (-1001 : Int32) else lt (fX4_wordAt (gv V 1) a1 a2) (fun r6 => r6))))
abbrev rmX6_at : Room := { frames := 2, cells := 0, slots := 0, locals := 43 }
set_option maxHeartbeats 4000000 in
set_option maxRecDepth 100000 in
theorem mX6_at (l : Launch) (X : kX) (b : Nat) (V : Mem) (a1 : Int32) (a2 : Int32) (out : Int32) (hE : fX6_at V a1 a2 = out) : MR l yX6_at wsX6_at rmX6_at X [.ref b, .int a1, .int a2] (RP X LA b V) (some (.int out)) := by
  refine mt_head (cc := cX6_at) (maxL := 3) (ret := (some .int)) (own := RX6) (by decide) rfl rfl (Nat.le_of_ble_eq_true rfl) ?_
  intro p e s m below meth c ls F hr hlocks hnm hR hl
  have hx := F.1.1
  have hb := F.1.2.1
  have hl : lv_has ls 3 [(0, .ref b), (1, .int a1), (2, .int a2)] := hl
  unfold fX6_at at hE
  refine lv_iload_n hx hb dX6_at_0 rfl (lv_at hl 1 rfl) ?_
  obtain ⟨r1, er1, hE⟩ := lt_el hE
  refine rg_callRS (As := [.int a1]) (rest := []) F (mX6_isStore l X a1 r1 er1) (va_cwS 1 F.1.2.2.2.2 gX6_at_X6_isStore rfl rfl rfl hsX6_isStore ⟨Nat.le_of_ble_eq_true rfl, Nat.le_of_ble_eq_true rfl⟩)  trivial rfl hl.1 (Nat.le_of_ble_eq_true rfl) dX6_at_1 ⟨Nat.zero_le _, Nat.zero_le _⟩ rfl ?_
  refine lv_if_eq (tgt := 31) hx hb dX6_at_4 (by decide) (fun c2 => ?_) (fun c2 => ?_)
  · have hE := (if_pos c2).symm.trans hE
    refine lv_sipush (v := (-1001)) hx hb dX6_at_31 (by decide) ?_
    subst hE
    exact W.iret (v := (-1001 : Int32)) hx hb hr (fun t ht _ => ⟨rfl, ht⟩) (fun _ h => absurd h List.not_mem_nil) dX6_at_34
  · have hE := (if_neg c2).symm.trans hE
    refine lv_iload_n hx hb dX6_at_7 rfl (lv_at hl 2 rfl) ?_
    refine lv_iconst (v := 0) hx hb dX6_at_8 (by decide) ?_
    refine lv_aload_n hx hb dX6_at_9 rfl (lv_at hl 0 rfl) ?_
    refine rg_getr F hR 0 (ci := 6) rfl (C := RX6) (T := TX6) (N := 9) rfl iwX6_at_X6 0 (d := 1) (n := 1) rfl rfl (by decide) rfl lkX6_at_0 rfl dX6_at_10 ?_
    refine rg_getr F hR 1 (ci := 5) rfl (C := RX5) (T := TX5) (N := 6) rfl iwX6_at_X5 2 (d := 27) (n := 28) rfl rfl (by decide) rfl lkX6_at_1 rfl dX6_at_13 ?_
    refine rg_getr F hR 28 (ci := 4) rfl (C := RX4) (T := TX4) (N := 8) rfl iwX6_at_X4 6 (d := 13) (n := 41) rfl rfl (by decide) rfl lkX6_at_2 rfl dX6_at_16 ?_
    refine lv_iload_n hx hb dX6_at_19 rfl (lv_at hl 1 rfl) ?_
    obtain ⟨r3, er3, hE⟩ := lt_el hE
    refine rg_callRV (As := [.int a1]) (rest := [.int ((0 : Int32)), .int a2]) F (kX0_get l X 2 (by decide) (b + 41) (gv V 41) a1 r3 er3) (cwV 1 F.1.2.2.2.2 gX6_at_X0_get rfl rfl rfl hvX0_get ⟨Nat.le_of_ble_eq_true rfl, Nat.le_of_ble_eq_true rfl⟩) (rp_recv F hR 41 rfl (C := RX0) (T := TX0) (N := 1) rfl rfl) (hR.sub 41 sb_LA_41_LC2) rfl hl.1 (Nat.le_of_ble_eq_true rfl) dX6_at_20 ⟨Nat.zero_le _, Nat.zero_le _⟩ rfl ?_
    refine lv_iconst (v := 1) hx hb dX6_at_23 (by decide) ?_
    refine lv_isub hx hb dX6_at_24 ?_
    obtain ⟨r4, er4, hE⟩ := lt_el hE
    refine rg_callRS (As := [.int a2, .int ((0 : Int32)), .int (r3 - ((1 : Int32)))]) (rest := []) F (mX6_isWithin l X a2 ((0 : Int32)) (r3 - ((1 : Int32))) r4 er4) (va_cwS 3 F.1.2.2.2.2 gX6_at_X6_isWithin rfl rfl rfl hsX6_isWithin ⟨Nat.le_of_ble_eq_true rfl, Nat.le_of_ble_eq_true rfl⟩)  trivial rfl hl.1 (Nat.le_of_ble_eq_true rfl) dX6_at_25 ⟨Nat.zero_le _, Nat.zero_le _⟩ rfl ?_
    refine lv_if_ne (tgt := 35) hx hb dX6_at_28 (by decide) (fun c5 => ?_) (fun c5 => ?_)
    · have hE := (if_neg c5).symm.trans hE
      refine lv_aload_n hx hb dX6_at_35 rfl (lv_at hl 0 rfl) ?_
      refine rg_getr F hR 0 (ci := 6) rfl (C := RX6) (T := TX6) (N := 9) rfl iwX6_at_X6 0 (d := 1) (n := 1) rfl rfl (by decide) rfl lkX6_at_0 rfl dX6_at_36 ?_
      refine rg_getr F hR 1 (ci := 5) rfl (C := RX5) (T := TX5) (N := 6) rfl iwX6_at_X5 2 (d := 27) (n := 28) rfl rfl (by decide) rfl lkX6_at_1 rfl dX6_at_39 ?_
      refine lv_iload_n hx hb dX6_at_42 rfl (lv_at hl 1 rfl) ?_
      refine lv_iload_n hx hb dX6_at_43 rfl (lv_at hl 2 rfl) ?_
      obtain ⟨r6, er6, hE⟩ := lt_el hE
      refine rg_callRV (As := [.int a1, .int a2]) (rest := []) F (mX4_wordAt l X (b + 1) (gv V 1) a1 a2 r6 er6) (cwV 2 F.1.2.2.2.2 gX6_at_X4_wordAt rfl rfl rfl hvX4_wordAt ⟨Nat.le_of_ble_eq_true rfl, Nat.le_of_ble_eq_true rfl⟩) (rp_recv F hR 28 rfl (C := RX4) (T := TX4) (N := 8) rfl rfl) (hR.sub 1 sb_LA_1_LW) rfl hl.1 (Nat.le_of_ble_eq_true rfl) dX6_at_44 ⟨Nat.zero_le _, Nat.zero_le _⟩ rfl ?_
      subst hE
      exact W.iret (v := r6) hx hb hr (fun t ht _ => ⟨rfl, ht⟩) (fun _ h => absurd h List.not_mem_nil) dX6_at_47
    · have hE := (if_pos c5).symm.trans hE
      refine lv_sipush (v := (-1001)) hx hb dX6_at_31 (by decide) ?_
      subst hE
      exact W.iret (v := (-1001 : Int32)) hx hb hr (fun t ht _ => ⟨rfl, ht⟩) (fun _ h => absurd h List.not_mem_nil) dX6_at_34
set_option maxRecDepth 20000 in
theorem lkX6_count_0 : Cond.fieldLink RX6 10 "TideWords" "now" "LTideWords$World;" ∈ wsX6_count := by decide +kernel
set_option maxRecDepth 20000 in
theorem iwX6_count_X6 : ∀ w ∈ wsX60, w ∈ wsX6_count := by decide +kernel
set_option maxRecDepth 20000 in
theorem lkX6_count_1 : Cond.fieldLink RX6 66 "TideWords$World" "steps" "I" ∈ wsX6_count := by decide +kernel
set_option maxRecDepth 20000 in
theorem iwX6_count_X5 : ∀ w ∈ wsX50, w ∈ wsX6_count := by decide +kernel
set_option maxRecDepth 20000 in
theorem lkX6_count_2 : Cond.fieldLink RX6 117 "TideWords$World" "words" "LTideWords$Words;" ∈ wsX6_count := by decide +kernel
set_option maxRecDepth 20000 in
theorem lkX6_count_3 : Cond.fieldLink RX6 121 "TideWords$Words" "total" "I" ∈ wsX6_count := by decide +kernel
set_option maxRecDepth 20000 in
theorem iwX6_count_X4 : ∀ w ∈ wsX40, w ∈ wsX6_count := by decide +kernel
set_option maxRecDepth 20000 in
theorem lkX6_count_4 : Cond.fieldLink RX6 88 "TideWords$World" "gates" "LTideWords$Gates;" ∈ wsX6_count := by decide +kernel
set_option maxRecDepth 20000 in
theorem lkX6_count_5 : Cond.fieldLink RX6 136 "TideWords$Gates" "passedWords" "LTideWords$Cells;" ∈ wsX6_count := by decide +kernel
set_option maxRecDepth 20000 in
theorem iwX6_count_X1 : ∀ w ∈ wsX10, w ∈ wsX6_count := by decide +kernel
theorem hvX1_wordsInside : yX1_wordsInside.cls = RX1 ∧ yX1_wordsInside.cls ≠ "java/lang/invoke/MethodHandle" ∧ yX1_wordsInside.cls ≠ "java/lang/invoke/VarHandle" ∧ (parseMethodDescriptor yX1_wordsInside.desc).map (fun d => d.parameters.length) = some 0 := by decide +kernel
set_option maxRecDepth 20000 in
theorem lkX6_count_6 : Cond.fieldLink RX6 210 "TideWords$World" "letters" "I" ∈ wsX6_count := by decide +kernel
set_option maxRecDepth 20000 in
theorem lkX6_count_7 : Cond.fieldLink RX6 176 "TideWords$Gates" "vainLetters" "LTideWords$Cells;" ∈ wsX6_count := by decide +kernel
theorem hvX5_openMask : yX5_openMask.cls = RX5 ∧ yX5_openMask.cls ≠ "java/lang/invoke/MethodHandle" ∧ yX5_openMask.cls ≠ "java/lang/invoke/VarHandle" ∧ (parseMethodDescriptor yX5_openMask.desc).map (fun d => d.parameters.length) = some 0 := by decide +kernel
set_option maxRecDepth 20000 in
theorem lkX6_count_8 : Cond.fieldLink RX6 216 "TideWords$World" "idleSteps" "I" ∈ wsX6_count := by decide +kernel
set_option maxRecDepth 20000 in
theorem lkX6_count_9 : Cond.fieldLink RX6 22 "TideWords" "pad" "LTideWords$Pad;" ∈ wsX6_count := by decide +kernel
set_option maxRecDepth 20000 in
theorem lkX6_count_10 : Cond.fieldLink RX6 132 "TideWords$Pad" "length" "I" ∈ wsX6_count := by decide +kernel
set_option maxRecDepth 20000 in
theorem iwX6_count_X2 : ∀ w ∈ wsX20, w ∈ wsX6_count := by decide +kernel
set_option maxRecDepth 20000 in
theorem lkX6_count_11 : Cond.fieldLink RX6 219 "TideWords" "records" "I" ∈ wsX6_count := by decide +kernel
def fX6_count (V : Mem) (a1 : Int32) : Int32 := if a1 = 0 then V 1 0 else if a1 = 1 then V 28 0 else if a1 = 2 then lt (csum 4 (V 25)) (fun r4 => r4) else if a1 = 3 then lt (fX4_waitingInRow (gv V 1) ((0 : Int32))) (fun r6 => lt (fX4_waitingInRow (gv V 1) ((1 : Int32))) (fun r7 => r6 + r7)) else if a1 = 4 then lt (fX1_wordsInside (gv V 1) ) (fun r9 => r9) else if a1 = 5 then V 1 1 else if a1 = 6 then lt (csum 4 (V 27)) (fun r12 => r12) else if a1 = 7 then lt (fX5_openMask (gv V 1) ) (fun r14 => r14) else if a1 = 8 then V 1 2 else if a1 = 9 then V 85 0 else if a1 = 10 then V 0 1 else (-1002 : Int32)
abbrev rmX6_count : Room := { frames := 6, cells := 0, slots := 0, locals := 136 }
set_option maxHeartbeats 4000000 in
set_option maxRecDepth 100000 in
theorem mX6_count (l : Launch) (X : kX) (b : Nat) (V : Mem) (a1 : Int32) (out : Int32) (hE : fX6_count V a1 = out) : MR l yX6_count wsX6_count rmX6_count X [.ref b, .int a1] (RP X LA b V) (some (.int out)) := by
  refine mt_head (cc := cX6_count) (maxL := 2) (ret := (some .int)) (own := RX6) (by decide) rfl rfl (Nat.le_of_ble_eq_true rfl) ?_
  intro p e s m below meth c ls F hr hlocks hnm hR hl
  have hx := F.1.1
  have hb := F.1.2.1
  have hl : lv_has ls 2 [(0, .ref b), (1, .int a1)] := hl
  unfold fX6_count at hE
  refine lv_iload_n hx hb dX6_count_0 rfl (lv_at hl 1 rfl) ?_
  by_cases c1 : a1 = 0
  · have hE := (if_pos c1).symm.trans hE
    refine lv_tableIn (off := 59) (tgt := 60) hx hb dX6_count_1 (by rw [c1]; decide) (by rw [c1]; decide) (by rw [c1]; rfl) (by decide) ?_
    refine lv_aload_n hx hb dX6_count_60 rfl (lv_at hl 0 rfl) ?_
    refine rg_getr F hR 0 (ci := 6) rfl (C := RX6) (T := TX6) (N := 9) rfl iwX6_count_X6 0 (d := 1) (n := 1) rfl rfl (by decide) rfl lkX6_count_0 rfl dX6_count_61 ?_
    refine rg_geti F hR 1 (ci := 5) rfl (C := RX5) (T := TX5) (N := 6) rfl iwX6_count_X5 3 (i := 0) rfl (by decide) rfl lkX6_count_1 rfl dX6_count_64 ?_
    subst hE
    exact W.iret (v := V 1 0) hx hb hr (fun t ht _ => ⟨rfl, ht⟩) (fun _ h => absurd h List.not_mem_nil) dX6_count_67
  · have hE := (if_neg c1).symm.trans hE
    by_cases c2 : a1 = 1
    · have hE := (if_pos c2).symm.trans hE
      refine lv_tableIn (off := 67) (tgt := 68) hx hb dX6_count_1 (by rw [c2]; decide) (by rw [c2]; decide) (by rw [c2]; rfl) (by decide) ?_
      refine lv_aload_n hx hb dX6_count_68 rfl (lv_at hl 0 rfl) ?_
      refine rg_getr F hR 0 (ci := 6) rfl (C := RX6) (T := TX6) (N := 9) rfl iwX6_count_X6 0 (d := 1) (n := 1) rfl rfl (by decide) rfl lkX6_count_0 rfl dX6_count_69 ?_
      refine rg_getr F hR 1 (ci := 5) rfl (C := RX5) (T := TX5) (N := 6) rfl iwX6_count_X5 2 (d := 27) (n := 28) rfl rfl (by decide) rfl lkX6_count_2 rfl dX6_count_72 ?_
      refine rg_geti F hR 28 (ci := 4) rfl (C := RX4) (T := TX4) (N := 8) rfl iwX6_count_X4 7 (i := 0) rfl (by decide) rfl lkX6_count_3 rfl dX6_count_75 ?_
      subst hE
      exact W.iret (v := V 28 0) hx hb hr (fun t ht _ => ⟨rfl, ht⟩) (fun _ h => absurd h List.not_mem_nil) dX6_count_78
    · have hE := (if_neg c2).symm.trans hE
      by_cases c3 : a1 = 2
      · have hE := (if_pos c3).symm.trans hE
        refine lv_tableIn (off := 78) (tgt := 79) hx hb dX6_count_1 (by rw [c3]; decide) (by rw [c3]; decide) (by rw [c3]; rfl) (by decide) ?_
        refine lv_aload_n hx hb dX6_count_79 rfl (lv_at hl 0 rfl) ?_
        refine rg_getr F hR 0 (ci := 6) rfl (C := RX6) (T := TX6) (N := 9) rfl iwX6_count_X6 0 (d := 1) (n := 1) rfl rfl (by decide) rfl lkX6_count_0 rfl dX6_count_80 ?_
        refine rg_getr F hR 1 (ci := 5) rfl (C := RX5) (T := TX5) (N := 6) rfl iwX6_count_X5 1 (d := 10) (n := 11) rfl rfl (by decide) rfl lkX6_count_4 rfl dX6_count_83 ?_
        refine rg_getr F hR 11 (ci := 1) rfl (C := RX1) (T := TX1) (N := 8) rfl iwX6_count_X1 6 (d := 13) (n := 24) rfl rfl (by decide) rfl lkX6_count_5 rfl dX6_count_86 ?_
        obtain ⟨r4, er4, hE⟩ := lt_el hE
        refine rg_callRV (As := []) (rest := []) F (kX0_sum l X 4 (by decide) (b + 24) (gv V 24)  r4 er4) (cwV 0 F.1.2.2.2.2 gX6_count_X0_sum rfl rfl rfl hvX0_sum ⟨Nat.le_of_ble_eq_true rfl, Nat.le_of_ble_eq_true rfl⟩) (rp_recv F hR 24 rfl (C := RX0) (T := TX0) (N := 1) rfl rfl) (hR.sub 24 sb_LA_24_LC4) rfl hl.1 (Nat.le_of_ble_eq_true rfl) dX6_count_89 ⟨Nat.zero_le _, Nat.zero_le _⟩ rfl ?_
        subst hE
        exact W.iret (v := r4) hx hb hr (fun t ht _ => ⟨rfl, ht⟩) (fun _ h => absurd h List.not_mem_nil) dX6_count_92
      · have hE := (if_neg c3).symm.trans hE
        by_cases c5 : a1 = 3
        · have hE := (if_pos c5).symm.trans hE
          refine lv_tableIn (off := 92) (tgt := 93) hx hb dX6_count_1 (by rw [c5]; decide) (by rw [c5]; decide) (by rw [c5]; rfl) (by decide) ?_
          refine lv_aload_n hx hb dX6_count_93 rfl (lv_at hl 0 rfl) ?_
          refine rg_getr F hR 0 (ci := 6) rfl (C := RX6) (T := TX6) (N := 9) rfl iwX6_count_X6 0 (d := 1) (n := 1) rfl rfl (by decide) rfl lkX6_count_0 rfl dX6_count_94 ?_
          refine rg_getr F hR 1 (ci := 5) rfl (C := RX5) (T := TX5) (N := 6) rfl iwX6_count_X5 2 (d := 27) (n := 28) rfl rfl (by decide) rfl lkX6_count_2 rfl dX6_count_97 ?_
          refine lv_iconst (v := 0) hx hb dX6_count_100 (by decide) ?_
          obtain ⟨r6, er6, hE⟩ := lt_el hE
          refine rg_callRV (As := [.int ((0 : Int32))]) (rest := []) F (kX4_waitingInRow l X (b + 1) (gv V 1) ((0 : Int32)) r6 er6) (cwV 1 F.1.2.2.2.2 gX6_count_X4_waitingInRow rfl rfl rfl hvX4_waitingInRow ⟨Nat.le_of_ble_eq_true rfl, Nat.le_of_ble_eq_true rfl⟩) (rp_recv F hR 28 rfl (C := RX4) (T := TX4) (N := 8) rfl rfl) (hR.sub 1 sb_LA_1_LW) rfl hl.1 (Nat.le_of_ble_eq_true rfl) dX6_count_101 ⟨Nat.zero_le _, Nat.zero_le _⟩ rfl ?_
          refine lv_aload_n hx hb dX6_count_104 rfl (lv_at hl 0 rfl) ?_
          refine rg_getr F hR 0 (ci := 6) rfl (C := RX6) (T := TX6) (N := 9) rfl iwX6_count_X6 0 (d := 1) (n := 1) rfl rfl (by decide) rfl lkX6_count_0 rfl dX6_count_105 ?_
          refine rg_getr F hR 1 (ci := 5) rfl (C := RX5) (T := TX5) (N := 6) rfl iwX6_count_X5 2 (d := 27) (n := 28) rfl rfl (by decide) rfl lkX6_count_2 rfl dX6_count_108 ?_
          refine lv_iconst (v := 1) hx hb dX6_count_111 (by decide) ?_
          obtain ⟨r7, er7, hE⟩ := lt_el hE
          refine rg_callRV (As := [.int ((1 : Int32))]) (rest := [.int r6]) F (kX4_waitingInRow l X (b + 1) (gv V 1) ((1 : Int32)) r7 er7) (cwV 1 F.1.2.2.2.2 gX6_count_X4_waitingInRow rfl rfl rfl hvX4_waitingInRow ⟨Nat.le_of_ble_eq_true rfl, Nat.le_of_ble_eq_true rfl⟩) (rp_recv F hR 28 rfl (C := RX4) (T := TX4) (N := 8) rfl rfl) (hR.sub 1 sb_LA_1_LW) rfl hl.1 (Nat.le_of_ble_eq_true rfl) dX6_count_112 ⟨Nat.zero_le _, Nat.zero_le _⟩ rfl ?_
          refine lv_iadd hx hb dX6_count_115 ?_
          subst hE
          exact W.iret (v := r6 + r7) hx hb hr (fun t ht _ => ⟨rfl, ht⟩) (fun _ h => absurd h List.not_mem_nil) dX6_count_116
        · have hE := (if_neg c5).symm.trans hE
          by_cases c8 : a1 = 4
          · have hE := (if_pos c8).symm.trans hE
            refine lv_tableIn (off := 116) (tgt := 117) hx hb dX6_count_1 (by rw [c8]; decide) (by rw [c8]; decide) (by rw [c8]; rfl) (by decide) ?_
            refine lv_aload_n hx hb dX6_count_117 rfl (lv_at hl 0 rfl) ?_
            refine rg_getr F hR 0 (ci := 6) rfl (C := RX6) (T := TX6) (N := 9) rfl iwX6_count_X6 0 (d := 1) (n := 1) rfl rfl (by decide) rfl lkX6_count_0 rfl dX6_count_118 ?_
            refine rg_getr F hR 1 (ci := 5) rfl (C := RX5) (T := TX5) (N := 6) rfl iwX6_count_X5 1 (d := 10) (n := 11) rfl rfl (by decide) rfl lkX6_count_4 rfl dX6_count_121 ?_
            obtain ⟨r9, er9, hE⟩ := lt_el hE
            refine rg_callRV (As := []) (rest := []) F (kX1_wordsInside l X (b + 1) (gv V 1)  r9 er9) (cwV 0 F.1.2.2.2.2 gX6_count_X1_wordsInside rfl rfl rfl hvX1_wordsInside ⟨Nat.le_of_ble_eq_true rfl, Nat.le_of_ble_eq_true rfl⟩) (rp_recv F hR 11 rfl (C := RX1) (T := TX1) (N := 8) rfl rfl) (hR.sub 1 sb_LA_1_LW) rfl hl.1 (Nat.le_of_ble_eq_true rfl) dX6_count_124 ⟨Nat.zero_le _, Nat.zero_le _⟩ rfl ?_
            subst hE
            exact W.iret (v := r9) hx hb hr (fun t ht _ => ⟨rfl, ht⟩) (fun _ h => absurd h List.not_mem_nil) dX6_count_127
          · have hE := (if_neg c8).symm.trans hE
            by_cases c10 : a1 = 5
            · have hE := (if_pos c10).symm.trans hE
              refine lv_tableIn (off := 127) (tgt := 128) hx hb dX6_count_1 (by rw [c10]; decide) (by rw [c10]; decide) (by rw [c10]; rfl) (by decide) ?_
              refine lv_aload_n hx hb dX6_count_128 rfl (lv_at hl 0 rfl) ?_
              refine rg_getr F hR 0 (ci := 6) rfl (C := RX6) (T := TX6) (N := 9) rfl iwX6_count_X6 0 (d := 1) (n := 1) rfl rfl (by decide) rfl lkX6_count_0 rfl dX6_count_129 ?_
              refine rg_geti F hR 1 (ci := 5) rfl (C := RX5) (T := TX5) (N := 6) rfl iwX6_count_X5 4 (i := 1) rfl (by decide) rfl lkX6_count_6 rfl dX6_count_132 ?_
              subst hE
              exact W.iret (v := V 1 1) hx hb hr (fun t ht _ => ⟨rfl, ht⟩) (fun _ h => absurd h List.not_mem_nil) dX6_count_135
            · have hE := (if_neg c10).symm.trans hE
              by_cases c11 : a1 = 6
              · have hE := (if_pos c11).symm.trans hE
                refine lv_tableIn (off := 135) (tgt := 136) hx hb dX6_count_1 (by rw [c11]; decide) (by rw [c11]; decide) (by rw [c11]; rfl) (by decide) ?_
                refine lv_aload_n hx hb dX6_count_136 rfl (lv_at hl 0 rfl) ?_
                refine rg_getr F hR 0 (ci := 6) rfl (C := RX6) (T := TX6) (N := 9) rfl iwX6_count_X6 0 (d := 1) (n := 1) rfl rfl (by decide) rfl lkX6_count_0 rfl dX6_count_137 ?_
                refine rg_getr F hR 1 (ci := 5) rfl (C := RX5) (T := TX5) (N := 6) rfl iwX6_count_X5 1 (d := 10) (n := 11) rfl rfl (by decide) rfl lkX6_count_4 rfl dX6_count_140 ?_
                refine rg_getr F hR 11 (ci := 1) rfl (C := RX1) (T := TX1) (N := 8) rfl iwX6_count_X1 7 (d := 15) (n := 26) rfl rfl (by decide) rfl lkX6_count_7 rfl dX6_count_143 ?_
                obtain ⟨r12, er12, hE⟩ := lt_el hE
                refine rg_callRV (As := []) (rest := []) F (kX0_sum l X 4 (by decide) (b + 26) (gv V 26)  r12 er12) (cwV 0 F.1.2.2.2.2 gX6_count_X0_sum rfl rfl rfl hvX0_sum ⟨Nat.le_of_ble_eq_true rfl, Nat.le_of_ble_eq_true rfl⟩) (rp_recv F hR 26 rfl (C := RX0) (T := TX0) (N := 1) rfl rfl) (hR.sub 26 sb_LA_26_LC4) rfl hl.1 (Nat.le_of_ble_eq_true rfl) dX6_count_146 ⟨Nat.zero_le _, Nat.zero_le _⟩ rfl ?_
                subst hE
                exact W.iret (v := r12) hx hb hr (fun t ht _ => ⟨rfl, ht⟩) (fun _ h => absurd h List.not_mem_nil) dX6_count_149
              · have hE := (if_neg c11).symm.trans hE
                by_cases c13 : a1 = 7
                · have hE := (if_pos c13).symm.trans hE
                  refine lv_tableIn (off := 149) (tgt := 150) hx hb dX6_count_1 (by rw [c13]; decide) (by rw [c13]; decide) (by rw [c13]; rfl) (by decide) ?_
                  refine lv_aload_n hx hb dX6_count_150 rfl (lv_at hl 0 rfl) ?_
                  refine rg_getr F hR 0 (ci := 6) rfl (C := RX6) (T := TX6) (N := 9) rfl iwX6_count_X6 0 (d := 1) (n := 1) rfl rfl (by decide) rfl lkX6_count_0 rfl dX6_count_151 ?_
                  obtain ⟨r14, er14, hE⟩ := lt_el hE
                  refine rg_callRV (As := []) (rest := []) F (kX5_openMask l X (b + 1) (gv V 1)  r14 er14) (cwV 0 F.1.2.2.2.2 gX6_count_X5_openMask rfl rfl rfl hvX5_openMask ⟨Nat.le_of_ble_eq_true rfl, Nat.le_of_ble_eq_true rfl⟩) (rp_recv F hR 1 rfl (C := RX5) (T := TX5) (N := 6) rfl rfl) (hR.sub 1 sb_LA_1_LW) rfl hl.1 (Nat.le_of_ble_eq_true rfl) dX6_count_154 ⟨Nat.zero_le _, Nat.zero_le _⟩ rfl ?_
                  subst hE
                  exact W.iret (v := r14) hx hb hr (fun t ht _ => ⟨rfl, ht⟩) (fun _ h => absurd h List.not_mem_nil) dX6_count_157
                · have hE := (if_neg c13).symm.trans hE
                  by_cases c15 : a1 = 8
                  · have hE := (if_pos c15).symm.trans hE
                    refine lv_tableIn (off := 157) (tgt := 158) hx hb dX6_count_1 (by rw [c15]; decide) (by rw [c15]; decide) (by rw [c15]; rfl) (by decide) ?_
                    refine lv_aload_n hx hb dX6_count_158 rfl (lv_at hl 0 rfl) ?_
                    refine rg_getr F hR 0 (ci := 6) rfl (C := RX6) (T := TX6) (N := 9) rfl iwX6_count_X6 0 (d := 1) (n := 1) rfl rfl (by decide) rfl lkX6_count_0 rfl dX6_count_159 ?_
                    refine rg_geti F hR 1 (ci := 5) rfl (C := RX5) (T := TX5) (N := 6) rfl iwX6_count_X5 5 (i := 2) rfl (by decide) rfl lkX6_count_8 rfl dX6_count_162 ?_
                    subst hE
                    exact W.iret (v := V 1 2) hx hb hr (fun t ht _ => ⟨rfl, ht⟩) (fun _ h => absurd h List.not_mem_nil) dX6_count_165
                  · have hE := (if_neg c15).symm.trans hE
                    by_cases c16 : a1 = 9
                    · have hE := (if_pos c16).symm.trans hE
                      refine lv_tableIn (off := 165) (tgt := 166) hx hb dX6_count_1 (by rw [c16]; decide) (by rw [c16]; decide) (by rw [c16]; rfl) (by decide) ?_
                      refine lv_aload_n hx hb dX6_count_166 rfl (lv_at hl 0 rfl) ?_
                      refine rg_getr F hR 0 (ci := 6) rfl (C := RX6) (T := TX6) (N := 9) rfl iwX6_count_X6 2 (d := 85) (n := 85) rfl rfl (by decide) rfl lkX6_count_9 rfl dX6_count_167 ?_
                      refine rg_geti F hR 85 (ci := 2) rfl (C := RX2) (T := TX2) (N := 2) rfl iwX6_count_X2 1 (i := 0) rfl (by decide) rfl lkX6_count_10 rfl dX6_count_170 ?_
                      subst hE
                      exact W.iret (v := V 85 0) hx hb hr (fun t ht _ => ⟨rfl, ht⟩) (fun _ h => absurd h List.not_mem_nil) dX6_count_173
                    · have hE := (if_neg c16).symm.trans hE
                      by_cases c17 : a1 = 10
                      · have hE := (if_pos c17).symm.trans hE
                        refine lv_tableIn (off := 173) (tgt := 174) hx hb dX6_count_1 (by rw [c17]; decide) (by rw [c17]; decide) (by rw [c17]; rfl) (by decide) ?_
                        refine lv_aload_n hx hb dX6_count_174 rfl (lv_at hl 0 rfl) ?_
                        refine rg_geti F hR 0 (ci := 6) rfl (C := RX6) (T := TX6) (N := 9) rfl iwX6_count_X6 8 (i := 1) rfl (by decide) rfl lkX6_count_11 rfl dX6_count_175 ?_
                        subst hE
                        exact W.iret (v := V 0 1) hx hb hr (fun t ht _ => ⟨rfl, ht⟩) (fun _ h => absurd h List.not_mem_nil) dX6_count_178
                      · have hE := (if_neg c17).symm.trans hE
                        refine lv_tableOut (tgt := 179) hx hb dX6_count_1 (ts_out11 c1 c2 c3 c5 c8 c10 c11 c13 c15 c16 c17) (by decide) ?_
                        refine lv_sipush (v := (-1002)) hx hb dX6_count_179 (by decide) ?_
                        subst hE
                        exact W.iret (v := (-1002 : Int32)) hx hb hr (fun t ht _ => ⟨rfl, ht⟩) (fun _ h => absurd h List.not_mem_nil) dX6_count_182
set_option maxRecDepth 20000 in
theorem lkX6_untilOpen_0 : Cond.fieldLink RX6 10 "TideWords" "now" "LTideWords$World;" ∈ wsX6_untilOpen := by decide +kernel
set_option maxRecDepth 20000 in
theorem iwX6_untilOpen_X6 : ∀ w ∈ wsX60, w ∈ wsX6_untilOpen := by decide +kernel
theorem hvX5_stepsUntilOpen : yX5_stepsUntilOpen.cls = RX5 ∧ yX5_stepsUntilOpen.cls ≠ "java/lang/invoke/MethodHandle" ∧ yX5_stepsUntilOpen.cls ≠ "java/lang/invoke/VarHandle" ∧ (parseMethodDescriptor yX5_stepsUntilOpen.desc).map (fun d => d.parameters.length) = some 1 := by decide +kernel
def fX6_untilOpen (V : Mem) (a1 : Int32) : Int32 := lt (fX6_isGate a1) (fun r1 => if r1 = 0 then (-1001 : Int32) else lt (fX5_stepsUntilOpen (gv V 1) a1) (fun r3 => r3))
abbrev rmX6_untilOpen : Room := { frames := 6, cells := 0, slots := 0, locals := 136 }
set_option maxHeartbeats 4000000 in
set_option maxRecDepth 100000 in
theorem mX6_untilOpen (l : Launch) (X : kX) (b : Nat) (V : Mem) (a1 : Int32) (out : Int32) (hE : fX6_untilOpen V a1 = out) : MR l yX6_untilOpen wsX6_untilOpen rmX6_untilOpen X [.ref b, .int a1] (RP X LA b V) (some (.int out)) := by
  refine mt_head (cc := cX6_untilOpen) (maxL := 2) (ret := (some .int)) (own := RX6) (by decide) rfl rfl (Nat.le_of_ble_eq_true rfl) ?_
  intro p e s m below meth c ls F hr hlocks hnm hR hl
  have hx := F.1.1
  have hb := F.1.2.1
  have hl : lv_has ls 2 [(0, .ref b), (1, .int a1)] := hl
  unfold fX6_untilOpen at hE
  refine lv_iload_n hx hb dX6_untilOpen_0 rfl (lv_at hl 1 rfl) ?_
  obtain ⟨r1, er1, hE⟩ := lt_el hE
  refine rg_callRS (As := [.int a1]) (rest := []) F (mX6_isGate l X a1 r1 er1) (va_cwS 1 F.1.2.2.2.2 gX6_untilOpen_X6_isGate rfl rfl rfl hsX6_isGate ⟨Nat.le_of_ble_eq_true rfl, Nat.le_of_ble_eq_true rfl⟩)  trivial rfl hl.1 (Nat.le_of_ble_eq_true rfl) dX6_untilOpen_1 ⟨Nat.zero_le _, Nat.zero_le _⟩ rfl ?_
  refine lv_if_ne (tgt := 11) hx hb dX6_untilOpen_4 (by decide) (fun c2 => ?_) (fun c2 => ?_)
  · have hE := (if_neg c2).symm.trans hE
    refine lv_aload_n hx hb dX6_untilOpen_11 rfl (lv_at hl 0 rfl) ?_
    refine rg_getr F hR 0 (ci := 6) rfl (C := RX6) (T := TX6) (N := 9) rfl iwX6_untilOpen_X6 0 (d := 1) (n := 1) rfl rfl (by decide) rfl lkX6_untilOpen_0 rfl dX6_untilOpen_12 ?_
    refine lv_iload_n hx hb dX6_untilOpen_15 rfl (lv_at hl 1 rfl) ?_
    obtain ⟨r3, er3, hE⟩ := lt_el hE
    refine rg_callRV (As := [.int a1]) (rest := []) F (kX5_stepsUntilOpen l X (b + 1) (gv V 1) a1 r3 er3) (cwV 1 F.1.2.2.2.2 gX6_untilOpen_X5_stepsUntilOpen rfl rfl rfl hvX5_stepsUntilOpen ⟨Nat.le_of_ble_eq_true rfl, Nat.le_of_ble_eq_true rfl⟩) (rp_recv F hR 1 rfl (C := RX5) (T := TX5) (N := 6) rfl rfl) (hR.sub 1 sb_LA_1_LW) rfl hl.1 (Nat.le_of_ble_eq_true rfl) dX6_untilOpen_16 ⟨Nat.zero_le _, Nat.zero_le _⟩ rfl ?_
    subst hE
    exact W.iret (v := r3) hx hb hr (fun t ht _ => ⟨rfl, ht⟩) (fun _ h => absurd h List.not_mem_nil) dX6_untilOpen_19
  · have hE := (if_pos c2).symm.trans hE
    refine lv_sipush (v := (-1001)) hx hb dX6_untilOpen_7 (by decide) ?_
    subst hE
    exact W.iret (v := (-1001 : Int32)) hx hb hr (fun t ht _ => ⟨rfl, ht⟩) (fun _ h => absurd h List.not_mem_nil) dX6_untilOpen_10
set_option maxRecDepth 20000 in
theorem lkX6_openFor_0 : Cond.fieldLink RX6 10 "TideWords" "now" "LTideWords$World;" ∈ wsX6_openFor := by decide +kernel
set_option maxRecDepth 20000 in
theorem iwX6_openFor_X6 : ∀ w ∈ wsX60, w ∈ wsX6_openFor := by decide +kernel
set_option maxRecDepth 20000 in
theorem lkX6_openFor_1 : Cond.fieldLink RX6 66 "TideWords$World" "steps" "I" ∈ wsX6_openFor := by decide +kernel
set_option maxRecDepth 20000 in
theorem iwX6_openFor_X5 : ∀ w ∈ wsX50, w ∈ wsX6_openFor := by decide +kernel
theorem hvX5_openStepsFrom : yX5_openStepsFrom.cls = RX5 ∧ yX5_openStepsFrom.cls ≠ "java/lang/invoke/MethodHandle" ∧ yX5_openStepsFrom.cls ≠ "java/lang/invoke/VarHandle" ∧ (parseMethodDescriptor yX5_openStepsFrom.desc).map (fun d => d.parameters.length) = some 2 := by decide +kernel
def fX6_openFor (V : Mem) (a1 : Int32) : Int32 := lt (fX6_isGate a1) (fun r1 => if r1 = 0 then (-1001 : Int32) else lt (fX5_stepsUntilOpen (gv V 1) a1) (fun r3 => if r3 = (-1006 : Int32) then (-1006 : Int32) else lt (fX5_openStepsFrom (gv V 1) a1 ((V 1 0) + r3)) (fun r5 => r5)))
abbrev rmX6_openFor : Room := { frames := 6, cells := 0, slots := 0, locals := 137 }
set_option maxHeartbeats 4000000 in
set_option maxRecDepth 100000 in
theorem mX6_openFor (l : Launch) (X : kX) (b : Nat) (V : Mem) (a1 : Int32) (out : Int32) (hE : fX6_openFor V a1 = out) : MR l yX6_openFor wsX6_openFor rmX6_openFor X [.ref b, .int a1] (RP X LA b V) (some (.int out)) := by
  refine mt_head (cc := cX6_openFor) (maxL := 3) (ret := (some .int)) (own := RX6) (by decide) rfl rfl (Nat.le_of_ble_eq_true rfl) ?_
  intro p e s m below meth c ls F hr hlocks hnm hR hl
  have hx := F.1.1
  have hb := F.1.2.1
  have hl : lv_has ls 3 [(0, .ref b), (1, .int a1)] := hl
  unfold fX6_openFor at hE
  refine lv_iload_n hx hb dX6_openFor_0 rfl (lv_at hl 1 rfl) ?_
  obtain ⟨r1, er1, hE⟩ := lt_el hE
  refine rg_callRS (As := [.int a1]) (rest := []) F (mX6_isGate l X a1 r1 er1) (va_cwS 1 F.1.2.2.2.2 gX6_openFor_X6_isGate rfl rfl rfl hsX6_isGate ⟨Nat.le_of_ble_eq_true rfl, Nat.le_of_ble_eq_true rfl⟩)  trivial rfl hl.1 (Nat.le_of_ble_eq_true rfl) dX6_openFor_1 ⟨Nat.zero_le _, Nat.zero_le _⟩ rfl ?_
  refine lv_if_ne (tgt := 11) hx hb dX6_openFor_4 (by decide) (fun c2 => ?_) (fun c2 => ?_)
  · have hE := (if_neg c2).symm.trans hE
    refine lv_aload_n hx hb dX6_openFor_11 rfl (lv_at hl 0 rfl) ?_
    refine rg_getr F hR 0 (ci := 6) rfl (C := RX6) (T := TX6) (N := 9) rfl iwX6_openFor_X6 0 (d := 1) (n := 1) rfl rfl (by decide) rfl lkX6_openFor_0 rfl dX6_openFor_12 ?_
    refine lv_iload_n hx hb dX6_openFor_15 rfl (lv_at hl 1 rfl) ?_
    obtain ⟨r3, er3, hE⟩ := lt_el hE
    refine rg_callRV (As := [.int a1]) (rest := []) F (kX5_stepsUntilOpen l X (b + 1) (gv V 1) a1 r3 er3) (cwV 1 F.1.2.2.2.2 gX6_openFor_X5_stepsUntilOpen rfl rfl rfl hvX5_stepsUntilOpen ⟨Nat.le_of_ble_eq_true rfl, Nat.le_of_ble_eq_true rfl⟩) (rp_recv F hR 1 rfl (C := RX5) (T := TX5) (N := 6) rfl rfl) (hR.sub 1 sb_LA_1_LW) rfl hl.1 (Nat.le_of_ble_eq_true rfl) dX6_openFor_16 ⟨Nat.zero_le _, Nat.zero_le _⟩ rfl ?_
    refine lv_istore_n (lv' := [(2, .int r3), (0, .ref b), (1, .int a1)]) hx hb dX6_openFor_19 rfl hl (by decide) rfl (fun ls hl => ?_)
    refine lv_iload_n hx hb dX6_openFor_20 rfl (lv_at hl 0 rfl) ?_
    refine lv_sipush (v := (-1006)) hx hb dX6_openFor_21 (by decide) ?_
    refine lv_icmp_ne (tgt := 33) hx hb dX6_openFor_24 (by decide) (fun c4 => ?_) (fun c4 => ?_)
    · have hE := (if_neg c4).symm.trans hE
      refine lv_aload_n hx hb dX6_openFor_33 rfl (lv_at hl 1 rfl) ?_
      refine rg_getr F hR 0 (ci := 6) rfl (C := RX6) (T := TX6) (N := 9) rfl iwX6_openFor_X6 0 (d := 1) (n := 1) rfl rfl (by decide) rfl lkX6_openFor_0 rfl dX6_openFor_34 ?_
      refine lv_iload_n hx hb dX6_openFor_37 rfl (lv_at hl 2 rfl) ?_
      refine lv_aload_n hx hb dX6_openFor_38 rfl (lv_at hl 1 rfl) ?_
      refine rg_getr F hR 0 (ci := 6) rfl (C := RX6) (T := TX6) (N := 9) rfl iwX6_openFor_X6 0 (d := 1) (n := 1) rfl rfl (by decide) rfl lkX6_openFor_0 rfl dX6_openFor_39 ?_
      refine rg_geti F hR 1 (ci := 5) rfl (C := RX5) (T := TX5) (N := 6) rfl iwX6_openFor_X5 3 (i := 0) rfl (by decide) rfl lkX6_openFor_1 rfl dX6_openFor_42 ?_
      refine lv_iload_n hx hb dX6_openFor_45 rfl (lv_at hl 0 rfl) ?_
      refine lv_iadd hx hb dX6_openFor_46 ?_
      obtain ⟨r5, er5, hE⟩ := lt_el hE
      refine rg_callRV (As := [.int a1, .int ((V 1 0) + r3)]) (rest := []) F (kX5_openStepsFrom l X (b + 1) (gv V 1) a1 ((V 1 0) + r3) r5 er5) (cwV 2 F.1.2.2.2.2 gX6_openFor_X5_openStepsFrom rfl rfl rfl hvX5_openStepsFrom ⟨Nat.le_of_ble_eq_true rfl, Nat.le_of_ble_eq_true rfl⟩) (rp_recv F hR 1 rfl (C := RX5) (T := TX5) (N := 6) rfl rfl) (hR.sub 1 sb_LA_1_LW) rfl hl.1 (Nat.le_of_ble_eq_true rfl) dX6_openFor_47 ⟨Nat.zero_le _, Nat.zero_le _⟩ rfl ?_
      subst hE
      exact W.iret (v := r5) hx hb hr (fun t ht _ => ⟨rfl, ht⟩) (fun _ h => absurd h List.not_mem_nil) dX6_openFor_50
    · have hE := (if_pos c4).symm.trans hE
      refine lv_sipush (v := (-1006)) hx hb dX6_openFor_27 (by decide) ?_
      refine lv_goto (tgt := 50) hx hb dX6_openFor_30 (by decide) ?_
      subst hE
      exact W.iret (v := (-1006 : Int32)) hx hb hr (fun t ht _ => ⟨rfl, ht⟩) (fun _ h => absurd h List.not_mem_nil) dX6_openFor_50
  · have hE := (if_pos c2).symm.trans hE
    refine lv_sipush (v := (-1001)) hx hb dX6_openFor_7 (by decide) ?_
    subst hE
    exact W.iret (v := (-1001 : Int32)) hx hb hr (fun t ht _ => ⟨rfl, ht⟩) (fun _ h => absurd h List.not_mem_nil) dX6_openFor_10
