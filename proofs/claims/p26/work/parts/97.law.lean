theorem hsL_holds : yL_holds.cls ≠ "java/lang/invoke/MethodHandle" ∧ yL_holds.cls ≠ "java/lang/invoke/VarHandle" ∧ (parseMethodDescriptor yL_holds.desc).map (fun d => d.parameters.length) = some 1 := by decide +kernel
theorem hsL_cell : yL_cell.cls ≠ "java/lang/invoke/MethodHandle" ∧ yL_cell.cls ≠ "java/lang/invoke/VarHandle" ∧ (parseMethodDescriptor yL_cell.desc).map (fun d => d.parameters.length) = some 2 := by decide +kernel
theorem hsL_change : yL_change.cls ≠ "java/lang/invoke/MethodHandle" ∧ yL_change.cls ≠ "java/lang/invoke/VarHandle" ∧ (parseMethodDescriptor yL_change.desc).map (fun d => d.parameters.length) = some 4 := by decide +kernel
theorem hsL_tries : yL_tries.cls ≠ "java/lang/invoke/MethodHandle" ∧ yL_tries.cls ≠ "java/lang/invoke/VarHandle" ∧ (parseMethodDescriptor yL_tries.desc).map (fun d => d.parameters.length) = some 2 := by decide +kernel
def lbL_law_53 (Ls : Nat) (xs : Nat → Int32) (j4 : Int32) (s6 : Int32 × Int32 × Mem) : Option ((Int32 × Int32 × Mem) ⊕ (Int32 × Int32 × Mem)) := if j4 ≤ s6.2.1 then some (.inr (s6.1, s6.2.1, s6.2.2)) else if s6.1 = 0 then some (.inr (s6.1, s6.2.1, s6.2.2)) else lt (fX6_count s6.2.2 ((10 : Int32))) (fun r9 => (qL_cell Ls xs (((3 : Int32)) * s6.2.1)).bind (fun r10 => (qL_low r10 ((14 : Int32))).bind (fun r11 => (qL_cell Ls xs ((((3 : Int32)) * s6.2.1) + ((1 : Int32)))).bind (fun r12 => (qL_cell Ls xs ((((3 : Int32)) * s6.2.1) + ((2 : Int32)))).bind (fun r13 => (qL_change s6.2.2 r11 r12 r13).bind (fun U14 => (if (-1001 : Int32) < U14.1 then some ((0 : Int32)) else some ((1 : Int32)) : Option (Int32)).bind (fun j15 => lt (fX6_count U14.2 ((10 : Int32))) (fun r17 => (if j15 = 0 then if r9 = (6 : Int32) then some ((6 : Int32)) else some (r9 + ((1 : Int32))) else some r9 : Option (Int32)).bind (fun j18 => (if r17 = j18 then (qL_holds U14.2).bind (fun U23 => if U23.1 = 0 then some ((0 : Int32), U23.2) else if s6.2.1 - s6.2.1 / ((5 : Int32)) * ((5 : Int32)) = (4 : Int32) then (qL_cell Ls xs ((((3 : Int32)) * s6.2.1) + ((2 : Int32)))).bind (fun r26 => (qL_tries U23.2 r26).bind (fun U27 => if U27.1 = 0 then some ((0 : Int32), U27.2) else some ((1 : Int32), U27.2))) else some ((1 : Int32), U23.2)) else some ((0 : Int32), U14.2) : Option (Int32 × Mem)).bind (fun j20 => some (.inl (j20.1, s6.2.1 + 1, j20.2))))))))))))
def qL_law (Ls : Nat) (xs : Nat → Int32) (V : Mem) : Option Int32 := (qL_holds V).bind (fun U1 => (if U1.1 = 0 then some ((0 : Int32), U1.2) else (qX6_undo U1.2 ).bind (fun U36 => if U36.1 = (-1005 : Int32) then some ((1 : Int32), U36.2) else some ((0 : Int32), U36.2)) : Option (Int32 × Mem)).bind (fun j2 => (if (Int32.ofNat Ls) / ((3 : Int32)) ≤ (26 : Int32) then some ((Int32.ofNat Ls) / ((3 : Int32))) else some ((26 : Int32)) : Option (Int32)).bind (fun j4 => (it (lbL_law_53 Ls xs j4) fuel (j2.1, (0 : Int32), j2.2)).bind (fun s32 => some (s32.1)))))
set_option maxHeartbeats 40000000 in
set_option maxRecDepth 1000000 in
theorem law_walk {p : Program} {l : Launch} {e : Env} {s : State} {m : MethodId} {below : List Frame} {meth : Method} {c : Code} {sb Ls : Nat} {xs : Nat → Int32} (X : kX) (b : Nat) (F : Fx p c s m #[Value.ref sb] wsL_law RL cL_law 8 X) (hX : va_X sb Ls xs s s.heap) (hbl : sb < s.heap.size) (hbs : s.heap.size = b) (hr : meth.sig.returnType = ret) (hlocks : meth.locks = false) (V : Mem) (H : Heap) (locs : List Loc) (ls : Array Slot) (hH : Hp (fun q => b ≤ q) s.heap (b + 430) X LA b V H locs) (hl : lv_has ls 8 [(1, .ref b), (0, .ref sb)]) (out : Int32) (ho : out = 1) (hE : qL_law Ls xs V = some out) : W p l e room_1 s m #[Value.ref sb] below meth c H locs 1200000 5502250 (lw_Z below #[Value.ref sb] s) (F0 m 8 ls []) := by
  have hx := F.1.1
  have hb := F.1.2.1
  have hbA : ¬ b ≤ sb := by omega
  unfold qL_law at hE
  refine lv_aload_n hx hb dL_law_8 rfl (lv_at hl 0 rfl) ?_
  obtain ⟨U1, eU1, hE⟩ := bd_el hE
  refine rg_callWT (As := [.ref b]) (rest := []) F hH (fun q h1 _ => h1) (mL_holds l X b V  U1 eU1) (va_cwS 1 F.1.2.2.2.2 gL_law_L_holds rfl rfl rfl hsL_holds ⟨Nat.le_of_ble_eq_true rfl, Nat.le_of_ble_eq_true rfl⟩) hH.1 rfl hl.1 (Nat.le_of_ble_eq_true rfl) dL_law_9 ⟨Nat.le_refl _, Nat.le_refl _⟩ rfl (fun H locs hH => ?_)
  obtain ⟨j2, hJ9, hE⟩ := bd_el hE
  have K3 : ∀ (H : Heap) (locs : List Loc) (ls : Array Slot), Hp (fun q => b ≤ q) s.heap (b + 430) X LA b j2.2 H locs → lv_has ls 8 [(1, .ref b), (0, .ref sb)] → W p l e room_1 s m #[Value.ref sb] below meth c H locs 1200000 5502250 (lw_Z below #[Value.ref sb] s) (F0 m 30 ls [.int j2.1]) := by
    clear hJ9
    intro H locs ls hH hl
    refine lv_istore_n (lv' := [(2, .int j2.1), (1, .ref b), (0, .ref sb)]) hx hb dL_law_30 rfl hl (by decide) rfl (fun ls hl => ?_)
    refine lv_aload_n hx hb dL_law_31 rfl (lv_at hl 2 rfl) ?_
    refine va_slen hx hb hX hbl hbA hH.2.1 dL_law_32 ?_
    refine lv_iconst (v := 3) hx hb dL_law_33 (by decide) ?_
    refine lv_idiv hx hb dL_law_34 (by decide) ?_
    refine lv_bipush (v := 26) hx hb dL_law_35 (by decide) ?_
    obtain ⟨j4, hJ9, hE⟩ := bd_el hE
    have K5 : ∀ (ls : Array Slot), lv_has ls 8 [(2, .int j2.1), (1, .ref b), (0, .ref sb)] → W p l e room_1 s m #[Value.ref sb] below meth c H locs 1200000 5502250 (lw_Z below #[Value.ref sb] s) (F0 m 49 ls [.int j4]) := by
      clear hJ9
      intro ls hl
      refine lv_istore_n (lv' := [(3, .int j4), (2, .int j2.1), (1, .ref b), (0, .ref sb)]) hx hb dL_law_49 rfl hl (by decide) rfl (fun ls hl => ?_)
      refine lv_iconst (v := 0) hx hb dL_law_50 (by decide) ?_
      refine lv_istore (lv' := [(4, .int ((0 : Int32))), (3, .int j4), (2, .int j2.1), (1, .ref b), (0, .ref sb)]) hx hb dL_law_51 hl (by decide) rfl (fun ls hl => ?_)
      obtain ⟨x33, hx33, hE⟩ := bd_el hE
      refine it_walk2 (body := lbL_law_53 Ls xs j4) (Wh := fun s6 => ∀ (H : Heap) (locs : List Loc) (ls : Array Slot), Hp (fun q => b ≤ q) s.heap (b + 430) X LA b s6.2.2 H locs → lv_has ls 8 [(4, .int s6.2.1), (3, .int j4), (2, .int s6.1), (1, .ref b), (0, .ref sb)] → W p l e room_1 s m #[Value.ref sb] below meth c H locs 1200000 5502250 (lw_Z below #[Value.ref sb] s) (F0 m 53 ls [])) (We := fun s32 => ∀ (H : Heap) (locs : List Loc) (ls : Array Slot), Hp (fun q => b ≤ q) s.heap (b + 430) X LA b s32.2.2 H locs → lv_has ls 8 [(4, .int s32.2.1), (3, .int j4), (2, .int s32.1), (1, .ref b), (0, .ref sb)] → W p l e room_1 s m #[Value.ref sb] below meth c H locs 1200000 5502250 (lw_Z below #[Value.ref sb] s) (F0 m 204 ls [])) ?_ _ _ _ hx33 ?_ H locs ls hH (lv_sub hl [0, 1, 2, 3, 4] rfl)
      · intro s6 r9 hE hL9 hR9 H locs ls hH hl
        unfold lbL_law_53 at hE
        refine lv_iload hx hb dL_law_53 (lv_at hl 0 rfl) ?_
        refine lv_iload_n hx hb dL_law_55 rfl (lv_at hl 1 rfl) ?_
        refine lv_icmp_ge (tgt := 204) hx hb dL_law_56 (by decide) (fun c7 => ?_) (fun c7 => ?_)
        · have hE := (if_pos c7).symm.trans hE
          cases hE
          exact hR9 _ rfl H locs ls hH (lv_sub hl [0, 1, 2, 3, 4] rfl)
        · have hE := (if_neg c7).symm.trans hE
          refine lv_iload_n hx hb dL_law_59 rfl (lv_at hl 2 rfl) ?_
          refine lv_if_eq (tgt := 204) hx hb dL_law_60 (by decide) (fun c8 => ?_) (fun c8 => ?_)
          · have hE := (if_pos c8).symm.trans hE
            cases hE
            exact hR9 _ rfl H locs ls hH (lv_sub hl [0, 1, 2, 3, 4] rfl)
          · have hE := (if_neg c8).symm.trans hE
            refine lv_aload_n hx hb dL_law_63 rfl (lv_at hl 3 rfl) ?_
            refine lv_bipush (v := 10) hx hb dL_law_64 (by decide) ?_
            obtain ⟨r9, er9, hE⟩ := lt_el hE
            refine rg_callRV (As := [.int ((10 : Int32))]) (rest := []) F (mX6_count l X b s6.2.2 ((10 : Int32)) r9 er9) (cwV 1 F.1.2.2.2.2 gL_law_X6_count rfl rfl rfl hvX6_count ⟨Nat.le_of_ble_eq_true rfl, Nat.le_of_ble_eq_true rfl⟩) (rp_recv F hH.1 0 rfl (C := RX6) (T := TX6) (N := 9) rfl rfl) hH.1 rfl hl.1 (Nat.le_of_ble_eq_true rfl) dL_law_66 ⟨Nat.le_refl _, Nat.le_refl _⟩ rfl ?_
            refine lv_istore (lv' := [(5, .int r9), (4, .int s6.2.1), (3, .int j4), (2, .int s6.1), (1, .ref b), (0, .ref sb)]) hx hb dL_law_69 hl (by decide) rfl (fun ls hl => ?_)
            refine lv_aload_n hx hb dL_law_71 rfl (lv_at hl 4 rfl) ?_
            refine lv_aload_n hx hb dL_law_72 rfl (lv_at hl 5 rfl) ?_
            refine lv_iconst (v := 3) hx hb dL_law_73 (by decide) ?_
            refine lv_iload hx hb dL_law_74 (lv_at hl 1 rfl) ?_
            refine lv_imul hx hb dL_law_76 ?_
            obtain ⟨r10, er10, hE⟩ := bd_el hE
            refine rg_callX (As := [.ref sb, .int (((3 : Int32)) * s6.2.1)]) (rest := [.ref b]) F hX hbl hbA hH.2.1 (mL_cell l X sb Ls xs (((3 : Int32)) * s6.2.1) r10 er10) (va_cwS 2 F.1.2.2.2.2 gL_law_L_cell rfl rfl rfl hsL_cell ⟨Nat.le_of_ble_eq_true rfl, Nat.le_of_ble_eq_true rfl⟩) rfl hl.1 (Nat.le_of_ble_eq_true rfl) dL_law_77 ⟨Nat.le_refl _, Nat.le_refl _⟩ rfl ?_
            refine lv_bipush (v := 14) hx hb dL_law_80 (by decide) ?_
            obtain ⟨r11, er11, hE⟩ := bd_el hE
            refine rg_callRS (As := [.int r10, .int ((14 : Int32))]) (rest := [.ref b]) F (mL_low l X r10 ((14 : Int32)) r11 er11) (va_cwS 2 F.1.2.2.2.2 gL_law_L_low rfl rfl rfl hsL_low ⟨Nat.le_of_ble_eq_true rfl, Nat.le_of_ble_eq_true rfl⟩) trivial rfl hl.1 (Nat.le_of_ble_eq_true rfl) dL_law_82 ⟨Nat.le_refl _, Nat.le_refl _⟩ rfl ?_
            refine lv_aload_n hx hb dL_law_85 rfl (lv_at hl 5 rfl) ?_
            refine lv_iconst (v := 3) hx hb dL_law_86 (by decide) ?_
            refine lv_iload hx hb dL_law_87 (lv_at hl 1 rfl) ?_
            refine lv_imul hx hb dL_law_89 ?_
            refine lv_iconst (v := 1) hx hb dL_law_90 (by decide) ?_
            refine lv_iadd hx hb dL_law_91 ?_
            obtain ⟨r12, er12, hE⟩ := bd_el hE
            refine rg_callX (As := [.ref sb, .int ((((3 : Int32)) * s6.2.1) + ((1 : Int32)))]) (rest := [.int r11, .ref b]) F hX hbl hbA hH.2.1 (mL_cell l X sb Ls xs ((((3 : Int32)) * s6.2.1) + ((1 : Int32))) r12 er12) (va_cwS 2 F.1.2.2.2.2 gL_law_L_cell rfl rfl rfl hsL_cell ⟨Nat.le_of_ble_eq_true rfl, Nat.le_of_ble_eq_true rfl⟩) rfl hl.1 (Nat.le_of_ble_eq_true rfl) dL_law_92 ⟨Nat.le_refl _, Nat.le_refl _⟩ rfl ?_
            refine lv_aload_n hx hb dL_law_95 rfl (lv_at hl 5 rfl) ?_
            refine lv_iconst (v := 3) hx hb dL_law_96 (by decide) ?_
            refine lv_iload hx hb dL_law_97 (lv_at hl 1 rfl) ?_
            refine lv_imul hx hb dL_law_99 ?_
            refine lv_iconst (v := 2) hx hb dL_law_100 (by decide) ?_
            refine lv_iadd hx hb dL_law_101 ?_
            obtain ⟨r13, er13, hE⟩ := bd_el hE
            refine rg_callX (As := [.ref sb, .int ((((3 : Int32)) * s6.2.1) + ((2 : Int32)))]) (rest := [.int r12, .int r11, .ref b]) F hX hbl hbA hH.2.1 (mL_cell l X sb Ls xs ((((3 : Int32)) * s6.2.1) + ((2 : Int32))) r13 er13) (va_cwS 2 F.1.2.2.2.2 gL_law_L_cell rfl rfl rfl hsL_cell ⟨Nat.le_of_ble_eq_true rfl, Nat.le_of_ble_eq_true rfl⟩) rfl hl.1 (Nat.le_of_ble_eq_true rfl) dL_law_102 ⟨Nat.le_refl _, Nat.le_refl _⟩ rfl ?_
            obtain ⟨U14, eU14, hE⟩ := bd_el hE
            refine rg_callWT (As := [.ref b, .int r11, .int r12, .int r13]) (rest := []) F hH (fun q h1 _ => h1) (mL_change l X b s6.2.2 r11 r12 r13 U14 eU14) (va_cwS 4 F.1.2.2.2.2 gL_law_L_change rfl rfl rfl hsL_change ⟨Nat.le_of_ble_eq_true rfl, Nat.le_of_ble_eq_true rfl⟩) hH.1 rfl hl.1 (Nat.le_of_ble_eq_true rfl) dL_law_105 ⟨Nat.le_refl _, Nat.le_refl _⟩ rfl (fun H locs hH => ?_)
            refine lv_istore (lv' := [(6, .int U14.1), (5, .int r9), (4, .int s6.2.1), (3, .int j4), (2, .int s6.1), (1, .ref b), (0, .ref sb)]) hx hb dL_law_108 hl (by decide) rfl (fun ls hl => ?_)
            refine lv_iload hx hb dL_law_110 (lv_at hl 0 rfl) ?_
            refine lv_sipush (v := (-1001)) hx hb dL_law_112 (by decide) ?_
            obtain ⟨j15, hJ9, hE⟩ := bd_el hE
            have K16 : ∀ (ls : Array Slot), lv_has ls 8 [(6, .int U14.1), (5, .int r9), (4, .int s6.2.1), (3, .int j4), (2, .int s6.1), (1, .ref b), (0, .ref sb)] → W p l e room_1 s m #[Value.ref sb] below meth c H locs 1200000 5502250 (lw_Z below #[Value.ref sb] s) (F0 m 123 ls [.int j15]) := by
              clear hJ9
              intro ls hl
              refine lv_istore (lv' := [(7, .int j15), (6, .int U14.1), (5, .int r9), (4, .int s6.2.1), (3, .int j4), (2, .int s6.1), (1, .ref b), (0, .ref sb)]) hx hb dL_law_123 hl (by decide) rfl (fun ls hl => ?_)
              refine lv_aload_n hx hb dL_law_125 rfl (lv_at hl 6 rfl) ?_
              refine lv_bipush (v := 10) hx hb dL_law_126 (by decide) ?_
              obtain ⟨r17, er17, hE⟩ := lt_el hE
              refine rg_callRV (As := [.int ((10 : Int32))]) (rest := []) F (mX6_count l X b U14.2 ((10 : Int32)) r17 er17) (cwV 1 F.1.2.2.2.2 gL_law_X6_count rfl rfl rfl hvX6_count ⟨Nat.le_of_ble_eq_true rfl, Nat.le_of_ble_eq_true rfl⟩) (rp_recv F hH.1 0 rfl (C := RX6) (T := TX6) (N := 9) rfl rfl) hH.1 rfl hl.1 (Nat.le_of_ble_eq_true rfl) dL_law_128 ⟨Nat.le_refl _, Nat.le_refl _⟩ rfl ?_
              refine lv_iload hx hb dL_law_131 (lv_at hl 0 rfl) ?_
              obtain ⟨j18, hJ9, hE⟩ := bd_el hE
              have K19 : ∀ (ls : Array Slot), lv_has ls 8 [(7, .int j15), (6, .int U14.1), (5, .int r9), (4, .int s6.2.1), (3, .int j4), (2, .int s6.1), (1, .ref b), (0, .ref sb)] → W p l e room_1 s m #[Value.ref sb] below meth c H locs 1200000 5502250 (lw_Z below #[Value.ref sb] s) (F0 m 157 ls [.int j18, .int r17]) := by
                clear hJ9
                intro ls hl
                obtain ⟨j20, hJ9, hE⟩ := bd_el hE
                have K21 : ∀ (H : Heap) (locs : List Loc) (ls : Array Slot), Hp (fun q => b ≤ q) s.heap (b + 430) X LA b j20.2 H locs → lv_has ls 8 [(7, .int j15), (6, .int U14.1), (5, .int r9), (4, .int s6.2.1), (3, .int j4), (2, .int s6.1), (1, .ref b), (0, .ref sb)] → W p l e room_1 s m #[Value.ref sb] below meth c H locs 1200000 5502250 (lw_Z below #[Value.ref sb] s) (F0 m 197 ls [.int j20.1]) := by
                  clear hJ9
                  intro H locs ls hH hl
                  refine lv_istore_n (lv' := [(2, .int j20.1), (7, .int j15), (6, .int U14.1), (5, .int r9), (4, .int s6.2.1), (3, .int j4), (1, .ref b), (0, .ref sb)]) hx hb dL_law_197 rfl hl (by decide) rfl (fun ls hl => ?_)
                  refine lv_iinc (v := s6.2.1 + 1) (lv' := [(4, .int (s6.2.1 + 1)), (2, .int j20.1), (7, .int j15), (6, .int U14.1), (5, .int r9), (3, .int j4), (1, .ref b), (0, .ref sb)]) hx hb dL_law_198 hl (k := 4) rfl (congrArg (fun q => s6.2.1 + q) (by decide)) (by decide) rfl (fun ls hl => ?_)
                  refine lv_goto (tgt := 53) hx hb dL_law_201 (by decide) ?_
                  cases hE
                  exact hL9 _ rfl H locs ls hH (lv_sub hl [0, 5, 1, 6, 7] rfl)
                replace hE := hJ9
                clear hJ9
                refine lv_icmp_ne (tgt := 196) hx hb dL_law_157 (by decide) (fun c22 => ?_) (fun c22 => ?_)
                · have hE := (if_neg c22).symm.trans hE
                  refine lv_iconst (v := 0) hx hb dL_law_196 (by decide) ?_
                  cases hE
                  exact K21 H locs ls hH (lv_sub hl [0, 1, 2, 3, 4, 5, 6, 7] rfl)
                · have hE := (if_pos c22).symm.trans hE
                  refine lv_aload_n hx hb dL_law_160 rfl (lv_at hl 6 rfl) ?_
                  obtain ⟨U23, eU23, hE⟩ := bd_el hE
                  refine rg_callWT (As := [.ref b]) (rest := []) F hH (fun q h1 _ => h1) (mL_holds l X b U14.2  U23 eU23) (va_cwS 1 F.1.2.2.2.2 gL_law_L_holds rfl rfl rfl hsL_holds ⟨Nat.le_of_ble_eq_true rfl, Nat.le_of_ble_eq_true rfl⟩) hH.1 rfl hl.1 (Nat.le_of_ble_eq_true rfl) dL_law_161 ⟨Nat.le_refl _, Nat.le_refl _⟩ rfl (fun H locs hH => ?_)
                  refine lv_if_eq (tgt := 196) hx hb dL_law_164 (by decide) (fun c24 => ?_) (fun c24 => ?_)
                  · have hE := (if_pos c24).symm.trans hE
                    refine lv_iconst (v := 0) hx hb dL_law_196 (by decide) ?_
                    cases hE
                    exact K21 H locs ls hH (lv_sub hl [0, 1, 2, 3, 4, 5, 6, 7] rfl)
                  · have hE := (if_neg c24).symm.trans hE
                    refine lv_iload hx hb dL_law_167 (lv_at hl 3 rfl) ?_
                    refine lv_iconst (v := 5) hx hb dL_law_169 (by decide) ?_
                    refine lv_irem hx hb dL_law_170 (by decide) ?_
                    refine lv_iconst (v := 4) hx hb dL_law_171 (by decide) ?_
                    refine lv_icmp_ne (tgt := 192) hx hb dL_law_172 (by decide) (fun c25 => ?_) (fun c25 => ?_)
                    · have hE := (if_neg c25).symm.trans hE
                      refine lv_iconst (v := 1) hx hb dL_law_192 (by decide) ?_
                      refine lv_goto (tgt := 197) hx hb dL_law_193 (by decide) ?_
                      cases hE
                      exact K21 H locs ls hH (lv_sub hl [0, 1, 2, 3, 4, 5, 6, 7] rfl)
                    · have hE := (if_pos c25).symm.trans hE
                      refine lv_aload_n hx hb dL_law_175 rfl (lv_at hl 6 rfl) ?_
                      refine lv_aload_n hx hb dL_law_176 rfl (lv_at hl 7 rfl) ?_
                      refine lv_iconst (v := 3) hx hb dL_law_177 (by decide) ?_
                      refine lv_iload hx hb dL_law_178 (lv_at hl 3 rfl) ?_
                      refine lv_imul hx hb dL_law_180 ?_
                      refine lv_iconst (v := 2) hx hb dL_law_181 (by decide) ?_
                      refine lv_iadd hx hb dL_law_182 ?_
                      obtain ⟨r26, er26, hE⟩ := bd_el hE
                      refine rg_callX (As := [.ref sb, .int ((((3 : Int32)) * s6.2.1) + ((2 : Int32)))]) (rest := [.ref b]) F hX hbl hbA hH.2.1 (mL_cell l X sb Ls xs ((((3 : Int32)) * s6.2.1) + ((2 : Int32))) r26 er26) (va_cwS 2 F.1.2.2.2.2 gL_law_L_cell rfl rfl rfl hsL_cell ⟨Nat.le_of_ble_eq_true rfl, Nat.le_of_ble_eq_true rfl⟩) rfl hl.1 (Nat.le_of_ble_eq_true rfl) dL_law_183 ⟨Nat.le_refl _, Nat.le_refl _⟩ rfl ?_
                      obtain ⟨U27, eU27, hE⟩ := bd_el hE
                      refine rg_callWT (As := [.ref b, .int r26]) (rest := []) F hH (fun q h1 _ => h1) (mL_tries l X b U23.2 r26 U27 eU27) (va_cwS 2 F.1.2.2.2.2 gL_law_L_tries rfl rfl rfl hsL_tries ⟨Nat.le_of_ble_eq_true rfl, Nat.le_of_ble_eq_true rfl⟩) hH.1 rfl hl.1 (Nat.le_of_ble_eq_true rfl) dL_law_186 ⟨Nat.le_refl _, Nat.le_refl _⟩ rfl (fun H locs hH => ?_)
                      refine lv_if_eq (tgt := 196) hx hb dL_law_189 (by decide) (fun c28 => ?_) (fun c28 => ?_)
                      · have hE := (if_pos c28).symm.trans hE
                        refine lv_iconst (v := 0) hx hb dL_law_196 (by decide) ?_
                        cases hE
                        exact K21 H locs ls hH (lv_sub hl [0, 1, 2, 3, 4, 5, 6, 7] rfl)
                      · have hE := (if_neg c28).symm.trans hE
                        refine lv_iconst (v := 1) hx hb dL_law_192 (by decide) ?_
                        refine lv_goto (tgt := 197) hx hb dL_law_193 (by decide) ?_
                        cases hE
                        exact K21 H locs ls hH (lv_sub hl [0, 1, 2, 3, 4, 5, 6, 7] rfl)
              replace hE := hJ9
              clear hJ9
              refine lv_if_eq (tgt := 141) hx hb dL_law_133 (by decide) (fun c29 => ?_) (fun c29 => ?_)
              · have hE := (if_pos c29).symm.trans hE
                refine lv_iload hx hb dL_law_141 (lv_at hl 2 rfl) ?_
                refine lv_bipush (v := 6) hx hb dL_law_143 (by decide) ?_
                refine lv_icmp_ne (tgt := 153) hx hb dL_law_145 (by decide) (fun c30 => ?_) (fun c30 => ?_)
                · have hE := (if_neg c30).symm.trans hE
                  refine lv_iload hx hb dL_law_153 (lv_at hl 2 rfl) ?_
                  refine lv_iconst (v := 1) hx hb dL_law_155 (by decide) ?_
                  refine lv_iadd hx hb dL_law_156 ?_
                  cases hE
                  exact K19 ls (lv_sub hl [0, 1, 2, 3, 4, 5, 6, 7] rfl)
                · have hE := (if_pos c30).symm.trans hE
                  refine lv_bipush (v := 6) hx hb dL_law_148 (by decide) ?_
                  refine lv_goto (tgt := 157) hx hb dL_law_150 (by decide) ?_
                  cases hE
                  exact K19 ls (lv_sub hl [0, 1, 2, 3, 4, 5, 6, 7] rfl)
              · have hE := (if_neg c29).symm.trans hE
                refine lv_iload hx hb dL_law_136 (lv_at hl 2 rfl) ?_
                refine lv_goto (tgt := 157) hx hb dL_law_138 (by decide) ?_
                cases hE
                exact K19 ls (lv_sub hl [0, 1, 2, 3, 4, 5, 6, 7] rfl)
            replace hE := hJ9
            clear hJ9
            refine lv_icmp_gt (tgt := 122) hx hb dL_law_115 (by decide) (fun c31 => ?_) (fun c31 => ?_)
            · have hE := (if_pos c31).symm.trans hE
              refine lv_iconst (v := 0) hx hb dL_law_122 (by decide) ?_
              cases hE
              exact K16 ls (lv_sub hl [0, 1, 2, 3, 4, 5, 6] rfl)
            · have hE := (if_neg c31).symm.trans hE
              refine lv_iconst (v := 1) hx hb dL_law_118 (by decide) ?_
              refine lv_goto (tgt := 123) hx hb dL_law_119 (by decide) ?_
              cases hE
              exact K16 ls (lv_sub hl [0, 1, 2, 3, 4, 5, 6] rfl)
      · intro H locs ls hH hl
        refine lv_iload_n hx hb dL_law_204 rfl (lv_at hl 2 rfl) ?_
        have hE := Option.some.inj hE
        refine lv_nm (x' := 1) (hE.trans ho) ?_
        refine va_forget (fun q hq => by rw [hbs]; exact hH.2.1.2.2 q hq) ?_
        exact lw_ret hx hb hr hlocks dL_law_205
    replace hE := hJ9
    clear hJ9
    refine lv_icmp_le (tgt := 45) hx hb dL_law_37 (by decide) (fun c34 => ?_) (fun c34 => ?_)
    · have hE := (if_pos c34).symm.trans hE
      refine lv_aload_n hx hb dL_law_45 rfl (lv_at hl 2 rfl) ?_
      refine va_slen hx hb hX hbl hbA hH.2.1 dL_law_46 ?_
      refine lv_iconst (v := 3) hx hb dL_law_47 (by decide) ?_
      refine lv_idiv hx hb dL_law_48 (by decide) ?_
      cases hE
      exact K5 ls (lv_sub hl [0, 1, 2] rfl)
    · have hE := (if_neg c34).symm.trans hE
      refine lv_bipush (v := 26) hx hb dL_law_40 (by decide) ?_
      refine lv_goto (tgt := 49) hx hb dL_law_42 (by decide) ?_
      cases hE
      exact K5 ls (lv_sub hl [0, 1, 2] rfl)
  replace hE := hJ9
  clear hJ9
  refine lv_if_eq (tgt := 29) hx hb dL_law_12 (by decide) (fun c35 => ?_) (fun c35 => ?_)
  · have hE := (if_pos c35).symm.trans hE
    refine lv_iconst (v := 0) hx hb dL_law_29 (by decide) ?_
    cases hE
    exact K3 H locs ls hH (lv_sub hl [0, 1] rfl)
  · have hE := (if_neg c35).symm.trans hE
    refine lv_aload_n hx hb dL_law_15 rfl (lv_at hl 0 rfl) ?_
    obtain ⟨U36, eU36, hE⟩ := bd_el hE
    refine rg_callWS (As := []) (rest := []) F hH (fun q h1 _ => h1) (mX6_undo l X b U1.2  U36 eU36) (cwV 0 F.1.2.2.2.2 gL_law_X6_undo rfl rfl rfl hvX6_undo ⟨Nat.le_of_ble_eq_true rfl, Nat.le_of_ble_eq_true rfl⟩) (rp_recv F hH.1 0 rfl (C := RX6) (T := TX6) (N := 9) rfl rfl) hH.1 rfl hl.1 (Nat.le_of_ble_eq_true rfl) dL_law_16 ⟨Nat.le_refl _, Nat.le_refl _⟩ rfl (fun H locs hH => ?_)
    refine lv_sipush (v := (-1005)) hx hb dL_law_19 (by decide) ?_
    refine lv_icmp_ne (tgt := 29) hx hb dL_law_22 (by decide) (fun c37 => ?_) (fun c37 => ?_)
    · have hE := (if_neg c37).symm.trans hE
      refine lv_iconst (v := 0) hx hb dL_law_29 (by decide) ?_
      cases hE
      exact K3 H locs ls hH (lv_sub hl [0, 1] rfl)
    · have hE := (if_pos c37).symm.trans hE
      refine lv_iconst (v := 1) hx hb dL_law_25 (by decide) ?_
      refine lv_goto (tgt := 30) hx hb dL_law_26 (by decide) ?_
      cases hE
      exact K3 H locs ls hH (lv_sub hl [0, 1] rfl)
