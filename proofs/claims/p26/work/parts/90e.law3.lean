theorem hvX6_at : yX6_at.cls = RX6 ∧ yX6_at.cls ≠ "java/lang/invoke/MethodHandle" ∧ yX6_at.cls ≠ "java/lang/invoke/VarHandle" ∧ (parseMethodDescriptor yX6_at.desc).map (fun d => d.parameters.length) = some 2 := by decide +kernel
theorem hvX6_untilPassed : yX6_untilPassed.cls = RX6 ∧ yX6_untilPassed.cls ≠ "java/lang/invoke/MethodHandle" ∧ yX6_untilPassed.cls ≠ "java/lang/invoke/VarHandle" ∧ (parseMethodDescriptor yX6_untilPassed.desc).map (fun d => d.parameters.length) = some 1 := by decide +kernel
def lbL_isWord_157 (V : Mem) (a1 : Int32) (r3 : Int32) (s9 : Int32 × Int32) : Option ((Int32 × Int32) ⊕ (Int32 × Int32)) := if r3 ≤ s9.2 then some (.inr (s9.1, s9.2)) else if s9.1 = 0 then some (.inr (s9.1, s9.2)) else lt (fX6_word V a1 (((7 : Int32)) + s9.2)) (fun r12 => (if r12 < (97 : Int32) then some ((0 : Int32)) else lt (fX6_word V a1 (((7 : Int32)) + s9.2)) (fun r16 => if (122 : Int32) < r16 then some ((0 : Int32)) else some ((1 : Int32))) : Option (Int32)).bind (fun j13 => some (.inl (j13, s9.2 + 1))))
def qL_isWord (V : Mem) (a1 : Int32) : Option (Int32 × Mem) := lt (fX6_word V a1 ((0 : Int32))) (fun r1 => lt (fX6_word V a1 ((1 : Int32))) (fun r2 => lt (fX6_word V a1 ((2 : Int32))) (fun r3 => lt (fX6_word V a1 ((3 : Int32))) (fun r4 => (if r4 = (1 : Int32) then some ((1 : Int32)) else some ((0 : Int32)) : Option (Int32)).bind (fun j5 => (if r3 < (1 : Int32) then some ((0 : Int32)) else if (6 : Int32) < r3 then some ((0 : Int32)) else if (2 : Int32) ≤ r1 then lt (fX6_gateOf V (r1 - ((2 : Int32))) ((5 : Int32))) (fun r41 => if r41 = a1 then if j5 = 0 then lt (fX6_word V a1 ((4 : Int32))) (fun r44 => (if r44 = (-1006 : Int32) then some ((0 : Int32)) else some ((1 : Int32)) : Option (Int32)).bind (fun j45 => if j5 = j45 then lt (fX6_word V a1 ((5 : Int32))) (fun r48 => (if r48 = (-1006 : Int32) then some ((0 : Int32)) else some ((1 : Int32)) : Option (Int32)).bind (fun j49 => if j5 = j49 then lt (fX6_word V a1 (((7 : Int32)) + r3)) (fun r52 => if r52 = (-1006 : Int32) then some ((1 : Int32)) else some ((0 : Int32))) else some ((0 : Int32)))) else some ((0 : Int32)))) else some ((0 : Int32)) else some ((0 : Int32))) else lt (fX6_at V r1 r2) (fun r56 => if r56 = a1 then lt (fX6_word V a1 ((4 : Int32))) (fun r58 => (if r58 = (-1006 : Int32) then some ((0 : Int32)) else some ((1 : Int32)) : Option (Int32)).bind (fun j59 => if j5 = j59 then lt (fX6_word V a1 ((5 : Int32))) (fun r62 => (if r62 = (-1006 : Int32) then some ((0 : Int32)) else some ((1 : Int32)) : Option (Int32)).bind (fun j63 => if j5 = j63 then lt (fX6_word V a1 (((7 : Int32)) + r3)) (fun r66 => if r66 = (-1006 : Int32) then some ((1 : Int32)) else some ((0 : Int32))) else some ((0 : Int32)))) else some ((0 : Int32)))) else some ((0 : Int32))) : Option (Int32)).bind (fun j7 => (it (lbL_isWord_157 V a1 r3) fuel (j7, (0 : Int32))).bind (fun s18 => if s18.1 = 0 then some (((0 : Int32), V)) else if j5 = 0 then (qX6_untilPassed V a1).bind (fun U22 => if U22.1 = 0 then some (((0 : Int32), U22.2)) else some (((1 : Int32), U22.2))) else lt (fX6_word V a1 ((5 : Int32))) (fun r24 => lt (fX6_gateOf V r24 ((0 : Int32))) (fun r25 => if r1 = ((1 : Int32)) - r25 then lt (fX6_word V a1 ((4 : Int32))) (fun r27 => lt (fX6_count V ((0 : Int32))) (fun r28 => if r28 ≤ r27 then some (((0 : Int32), V)) else (qX6_untilPassed V a1).bind (fun U30 => if U30.1 = 0 then some (((1 : Int32), U30.2)) else some (((0 : Int32), U30.2))))) else if (2 : Int32) ≤ r1 then some (((0 : Int32), V)) else lt (fX6_word V a1 ((4 : Int32))) (fun r33 => lt (fX6_count V ((0 : Int32))) (fun r34 => if r34 ≤ r33 then some (((0 : Int32), V)) else (qX6_untilPassed V a1).bind (fun U36 => if U36.1 = 0 then some (((1 : Int32), U36.2)) else some (((0 : Int32), U36.2))))))))))))))
abbrev rmL_isWord : Room := { frames := 7, cells := 0, slots := 0, locals := 159 }
set_option maxHeartbeats 40000000 in
set_option maxRecDepth 1000000 in
theorem mL_isWord (l : Launch) (X : kX) (b : Nat) (V : Mem) (a1 : Int32) (out : Int32 × Mem) (hE : qL_isWord V a1 = some out) : MW l yL_isWord wsL_isWord rmL_isWord X [.ref b, .int a1] (RP X LA b V) (some (.int out.1)) b (b + LA.length) (RP X LA b out.2) := by
  refine mt_head (cc := cL_isWord) (maxL := 8) (ret := (some .boolean)) (own := RL) (by decide) rfl rfl (Nat.le_of_ble_eq_true rfl) ?_
  intro p e s m below meth c ls F hr hlocks hnm hR hl
  have hx := F.1.1
  have hb := F.1.2.1
  have hH : Hp (t_fr b (b + LA.length)) s.heap s.heap.size X LA b V s.heap [] := ⟨hR, va_S.rf, rfl⟩
  have hl : lv_has ls 8 [(0, .ref b), (1, .int a1)] := hl
  unfold qL_isWord at hE
  refine lv_aload_n hx hb dL_isWord_0 rfl (lv_at hl 0 rfl) ?_
  refine lv_iload_n hx hb dL_isWord_1 rfl (lv_at hl 1 rfl) ?_
  refine lv_iconst (v := 0) hx hb dL_isWord_2 (by decide) ?_
  obtain ⟨r1, er1, hE⟩ := lt_el hE
  refine rg_callRV (As := [.int a1, .int ((0 : Int32))]) (rest := []) F (mX6_word l X b V a1 ((0 : Int32)) r1 er1) (cwV 2 F.1.2.2.2.2 gL_isWord_X6_word rfl rfl rfl hvX6_word ⟨Nat.le_of_ble_eq_true rfl, Nat.le_of_ble_eq_true rfl⟩) (rp_recv F hH.1 0 rfl (C := RX6) (T := TX6) (N := 9) rfl rfl) hH.1 rfl hl.1 (Nat.le_of_ble_eq_true rfl) dL_isWord_3 ⟨Nat.zero_le _, Nat.zero_le _⟩ rfl ?_
  refine lv_istore_n (lv' := [(2, .int r1), (0, .ref b), (1, .int a1)]) hx hb dL_isWord_6 rfl hl (by decide) rfl (fun ls hl => ?_)
  refine lv_aload_n hx hb dL_isWord_7 rfl (lv_at hl 1 rfl) ?_
  refine lv_iload_n hx hb dL_isWord_8 rfl (lv_at hl 2 rfl) ?_
  refine lv_iconst (v := 1) hx hb dL_isWord_9 (by decide) ?_
  obtain ⟨r2, er2, hE⟩ := lt_el hE
  refine rg_callRV (As := [.int a1, .int ((1 : Int32))]) (rest := []) F (mX6_word l X b V a1 ((1 : Int32)) r2 er2) (cwV 2 F.1.2.2.2.2 gL_isWord_X6_word rfl rfl rfl hvX6_word ⟨Nat.le_of_ble_eq_true rfl, Nat.le_of_ble_eq_true rfl⟩) (rp_recv F hH.1 0 rfl (C := RX6) (T := TX6) (N := 9) rfl rfl) hH.1 rfl hl.1 (Nat.le_of_ble_eq_true rfl) dL_isWord_10 ⟨Nat.zero_le _, Nat.zero_le _⟩ rfl ?_
  refine lv_istore_n (lv' := [(3, .int r2), (2, .int r1), (0, .ref b), (1, .int a1)]) hx hb dL_isWord_13 rfl hl (by decide) rfl (fun ls hl => ?_)
  refine lv_aload_n hx hb dL_isWord_14 rfl (lv_at hl 2 rfl) ?_
  refine lv_iload_n hx hb dL_isWord_15 rfl (lv_at hl 3 rfl) ?_
  refine lv_iconst (v := 2) hx hb dL_isWord_16 (by decide) ?_
  obtain ⟨r3, er3, hE⟩ := lt_el hE
  refine rg_callRV (As := [.int a1, .int ((2 : Int32))]) (rest := []) F (mX6_word l X b V a1 ((2 : Int32)) r3 er3) (cwV 2 F.1.2.2.2.2 gL_isWord_X6_word rfl rfl rfl hvX6_word ⟨Nat.le_of_ble_eq_true rfl, Nat.le_of_ble_eq_true rfl⟩) (rp_recv F hH.1 0 rfl (C := RX6) (T := TX6) (N := 9) rfl rfl) hH.1 rfl hl.1 (Nat.le_of_ble_eq_true rfl) dL_isWord_17 ⟨Nat.zero_le _, Nat.zero_le _⟩ rfl ?_
  refine lv_istore (lv' := [(4, .int r3), (3, .int r2), (2, .int r1), (0, .ref b), (1, .int a1)]) hx hb dL_isWord_20 hl (by decide) rfl (fun ls hl => ?_)
  refine lv_aload_n hx hb dL_isWord_22 rfl (lv_at hl 3 rfl) ?_
  refine lv_iload_n hx hb dL_isWord_23 rfl (lv_at hl 4 rfl) ?_
  refine lv_iconst (v := 3) hx hb dL_isWord_24 (by decide) ?_
  obtain ⟨r4, er4, hE⟩ := lt_el hE
  refine rg_callRV (As := [.int a1, .int ((3 : Int32))]) (rest := []) F (mX6_word l X b V a1 ((3 : Int32)) r4 er4) (cwV 2 F.1.2.2.2.2 gL_isWord_X6_word rfl rfl rfl hvX6_word ⟨Nat.le_of_ble_eq_true rfl, Nat.le_of_ble_eq_true rfl⟩) (rp_recv F hH.1 0 rfl (C := RX6) (T := TX6) (N := 9) rfl rfl) hH.1 rfl hl.1 (Nat.le_of_ble_eq_true rfl) dL_isWord_25 ⟨Nat.zero_le _, Nat.zero_le _⟩ rfl ?_
  refine lv_iconst (v := 1) hx hb dL_isWord_28 (by decide) ?_
  obtain ⟨j5, hJ9, hE⟩ := bd_el hE
  have K6 : ∀ (ls : Array Slot), lv_has ls 8 [(4, .int r3), (3, .int r2), (2, .int r1), (0, .ref b), (1, .int a1)] → W p l e rmL_isWord s m ([.ref b, .int a1] : List Value).toArray below meth c s.heap [] 0 0 (MQ below (cQw (some (.int out.1)) b (b + LA.length) (RP X LA b out.2)) ([.ref b, .int a1] : List Value).toArray s 0 0 (t_fr b (b + LA.length))) (F0 m 37 ls [.int j5]) := by
    clear hJ9
    intro ls hl
    refine lv_istore (lv' := [(5, .int j5), (4, .int r3), (3, .int r2), (2, .int r1), (0, .ref b), (1, .int a1)]) hx hb dL_isWord_37 hl (by decide) rfl (fun ls hl => ?_)
    refine lv_iload hx hb dL_isWord_39 (lv_at hl 1 rfl) ?_
    refine lv_iconst (v := 1) hx hb dL_isWord_41 (by decide) ?_
    obtain ⟨j7, hJ9, hE⟩ := bd_el hE
    have K8 : ∀ (ls : Array Slot), lv_has ls 8 [(5, .int j5), (4, .int r3), (3, .int r2), (2, .int r1), (0, .ref b), (1, .int a1)] → W p l e rmL_isWord s m ([.ref b, .int a1] : List Value).toArray below meth c s.heap [] 0 0 (MQ below (cQw (some (.int out.1)) b (b + LA.length) (RP X LA b out.2)) ([.ref b, .int a1] : List Value).toArray s 0 0 (t_fr b (b + LA.length))) (F0 m 152 ls [.int j7]) := by
      clear hJ9
      intro ls hl
      refine lv_istore (lv' := [(6, .int j7), (5, .int j5), (4, .int r3), (3, .int r2), (2, .int r1), (0, .ref b), (1, .int a1)]) hx hb dL_isWord_152 hl (by decide) rfl (fun ls hl => ?_)
      refine lv_iconst (v := 0) hx hb dL_isWord_154 (by decide) ?_
      refine lv_istore (lv' := [(7, .int ((0 : Int32))), (6, .int j7), (5, .int j5), (4, .int r3), (3, .int r2), (2, .int r1), (0, .ref b), (1, .int a1)]) hx hb dL_isWord_155 hl (by decide) rfl (fun ls hl => ?_)
      obtain ⟨x19, hx19, hE⟩ := bd_el hE
      refine it_walk2 (body := lbL_isWord_157 V a1 r3) (Wh := fun s9 => ∀ (ls : Array Slot), lv_has ls 8 [(7, .int s9.2), (6, .int s9.1), (5, .int j5), (4, .int r3), (3, .int r2), (2, .int r1), (0, .ref b), (1, .int a1)] → W p l e rmL_isWord s m ([.ref b, .int a1] : List Value).toArray below meth c s.heap [] 0 0 (MQ below (cQw (some (.int out.1)) b (b + LA.length) (RP X LA b out.2)) ([.ref b, .int a1] : List Value).toArray s 0 0 (t_fr b (b + LA.length))) (F0 m 157 ls [])) (We := fun s18 => ∀ (ls : Array Slot), lv_has ls 8 [(7, .int s18.2), (6, .int s18.1), (5, .int j5), (4, .int r3), (3, .int r2), (2, .int r1), (0, .ref b), (1, .int a1)] → W p l e rmL_isWord s m ([.ref b, .int a1] : List Value).toArray below meth c s.heap [] 0 0 (MQ below (cQw (some (.int out.1)) b (b + LA.length) (RP X LA b out.2)) ([.ref b, .int a1] : List Value).toArray s 0 0 (t_fr b (b + LA.length))) (F0 m 212 ls [])) ?_ _ _ _ hx19 ?_ ls (lv_sub hl [0, 1, 2, 3, 4, 5, 6, 7] rfl)
      · intro s9 r9 hE hL9 hR9 ls hl
        unfold lbL_isWord_157 at hE
        refine lv_iload hx hb dL_isWord_157 (lv_at hl 0 rfl) ?_
        refine lv_iload hx hb dL_isWord_159 (lv_at hl 3 rfl) ?_
        refine lv_icmp_ge (tgt := 212) hx hb dL_isWord_161 (by decide) (fun c10 => ?_) (fun c10 => ?_)
        · have hE := (if_pos c10).symm.trans hE
          cases hE
          exact hR9 _ rfl ls (lv_sub hl [0, 1, 2, 3, 4, 5, 6, 7] rfl)
        · have hE := (if_neg c10).symm.trans hE
          refine lv_iload hx hb dL_isWord_164 (lv_at hl 1 rfl) ?_
          refine lv_if_eq (tgt := 212) hx hb dL_isWord_166 (by decide) (fun c11 => ?_) (fun c11 => ?_)
          · have hE := (if_pos c11).symm.trans hE
            cases hE
            exact hR9 _ rfl ls (lv_sub hl [0, 1, 2, 3, 4, 5, 6, 7] rfl)
          · have hE := (if_neg c11).symm.trans hE
            refine lv_aload_n hx hb dL_isWord_169 rfl (lv_at hl 6 rfl) ?_
            refine lv_iload_n hx hb dL_isWord_170 rfl (lv_at hl 7 rfl) ?_
            refine lv_bipush (v := 7) hx hb dL_isWord_171 (by decide) ?_
            refine lv_iload hx hb dL_isWord_173 (lv_at hl 0 rfl) ?_
            refine lv_iadd hx hb dL_isWord_175 ?_
            obtain ⟨r12, er12, hE⟩ := lt_el hE
            refine rg_callRV (As := [.int a1, .int (((7 : Int32)) + s9.2)]) (rest := []) F (mX6_word l X b V a1 (((7 : Int32)) + s9.2) r12 er12) (cwV 2 F.1.2.2.2.2 gL_isWord_X6_word rfl rfl rfl hvX6_word ⟨Nat.le_of_ble_eq_true rfl, Nat.le_of_ble_eq_true rfl⟩) (rp_recv F hH.1 0 rfl (C := RX6) (T := TX6) (N := 9) rfl rfl) hH.1 rfl hl.1 (Nat.le_of_ble_eq_true rfl) dL_isWord_176 ⟨Nat.zero_le _, Nat.zero_le _⟩ rfl ?_
            refine lv_bipush (v := 97) hx hb dL_isWord_179 (by decide) ?_
            obtain ⟨j13, hJ9, hE⟩ := bd_el hE
            have K14 : ∀ (ls : Array Slot), lv_has ls 8 [(7, .int s9.2), (6, .int s9.1), (5, .int j5), (4, .int r3), (3, .int r2), (2, .int r1), (0, .ref b), (1, .int a1)] → W p l e rmL_isWord s m ([.ref b, .int a1] : List Value).toArray below meth c s.heap [] 0 0 (MQ below (cQw (some (.int out.1)) b (b + LA.length) (RP X LA b out.2)) ([.ref b, .int a1] : List Value).toArray s 0 0 (t_fr b (b + LA.length))) (F0 m 204 ls [.int j13]) := by
              clear hJ9
              intro ls hl
              refine lv_istore (lv' := [(6, .int j13), (7, .int s9.2), (5, .int j5), (4, .int r3), (3, .int r2), (2, .int r1), (0, .ref b), (1, .int a1)]) hx hb dL_isWord_204 hl (by decide) rfl (fun ls hl => ?_)
              refine lv_iinc (v := s9.2 + 1) (lv' := [(7, .int (s9.2 + 1)), (6, .int j13), (5, .int j5), (4, .int r3), (3, .int r2), (2, .int r1), (0, .ref b), (1, .int a1)]) hx hb dL_isWord_206 hl (k := 1) rfl (congrArg (fun q => s9.2 + q) (by decide)) (by decide) rfl (fun ls hl => ?_)
              refine lv_goto (tgt := 157) hx hb dL_isWord_209 (by decide) ?_
              cases hE
              exact hL9 _ rfl ls (lv_sub hl [0, 1, 2, 3, 4, 5, 6, 7] rfl)
            replace hE := hJ9
            clear hJ9
            refine lv_icmp_lt (tgt := 203) hx hb dL_isWord_181 (by decide) (fun c15 => ?_) (fun c15 => ?_)
            · have hE := (if_pos c15).symm.trans hE
              refine lv_iconst (v := 0) hx hb dL_isWord_203 (by decide) ?_
              cases hE
              exact K14 ls (lv_sub hl [0, 1, 2, 3, 4, 5, 6, 7] rfl)
            · have hE := (if_neg c15).symm.trans hE
              refine lv_aload_n hx hb dL_isWord_184 rfl (lv_at hl 6 rfl) ?_
              refine lv_iload_n hx hb dL_isWord_185 rfl (lv_at hl 7 rfl) ?_
              refine lv_bipush (v := 7) hx hb dL_isWord_186 (by decide) ?_
              refine lv_iload hx hb dL_isWord_188 (lv_at hl 0 rfl) ?_
              refine lv_iadd hx hb dL_isWord_190 ?_
              obtain ⟨r16, er16, hE⟩ := lt_el hE
              refine rg_callRV (As := [.int a1, .int (((7 : Int32)) + s9.2)]) (rest := []) F (mX6_word l X b V a1 (((7 : Int32)) + s9.2) r16 er16) (cwV 2 F.1.2.2.2.2 gL_isWord_X6_word rfl rfl rfl hvX6_word ⟨Nat.le_of_ble_eq_true rfl, Nat.le_of_ble_eq_true rfl⟩) (rp_recv F hH.1 0 rfl (C := RX6) (T := TX6) (N := 9) rfl rfl) hH.1 rfl hl.1 (Nat.le_of_ble_eq_true rfl) dL_isWord_191 ⟨Nat.zero_le _, Nat.zero_le _⟩ rfl ?_
              refine lv_bipush (v := 122) hx hb dL_isWord_194 (by decide) ?_
              refine lv_icmp_gt (tgt := 203) hx hb dL_isWord_196 (by decide) (fun c17 => ?_) (fun c17 => ?_)
              · have hE := (if_pos c17).symm.trans hE
                refine lv_iconst (v := 0) hx hb dL_isWord_203 (by decide) ?_
                cases hE
                exact K14 ls (lv_sub hl [0, 1, 2, 3, 4, 5, 6, 7] rfl)
              · have hE := (if_neg c17).symm.trans hE
                refine lv_iconst (v := 1) hx hb dL_isWord_199 (by decide) ?_
                refine lv_goto (tgt := 204) hx hb dL_isWord_200 (by decide) ?_
                cases hE
                exact K14 ls (lv_sub hl [0, 1, 2, 3, 4, 5, 6, 7] rfl)
      · intro ls hl
        refine lv_iload hx hb dL_isWord_212 (lv_at hl 1 rfl) ?_
        refine lv_if_eq (tgt := 288) hx hb dL_isWord_214 (by decide) (fun c20 => ?_) (fun c20 => ?_)
        · have hE := (if_pos c20).symm.trans hE
          refine lv_iconst (v := 0) hx hb dL_isWord_288 (by decide) ?_
          have hE := Option.some.inj hE
          subst hE
          exact W.zret (v := (0 : Int32)) hx hb hr rfl (fun t ht _ => mw_post hH ht) hH.2.1.2.2 dL_isWord_289
        · have hE := (if_neg c20).symm.trans hE
          refine lv_iload hx hb dL_isWord_217 (lv_at hl 2 rfl) ?_
          refine lv_if_eq (tgt := 244) hx hb dL_isWord_219 (by decide) (fun c21 => ?_) (fun c21 => ?_)
          · have hE := (if_pos c21).symm.trans hE
            refine lv_iload hx hb dL_isWord_244 (lv_at hl 2 rfl) ?_
            refine lv_if_eq (tgt := 271) hx hb dL_isWord_246 (by decide) (fun _ => ?_) (fun c => absurd c21 c)
            refine lv_iload hx hb dL_isWord_271 (lv_at hl 2 rfl) ?_
            refine lv_if_ne (tgt := 284) hx hb dL_isWord_273 (by decide) (fun c => absurd c21 c) (fun _ => ?_)
            refine lv_aload_n hx hb dL_isWord_276 rfl (lv_at hl 6 rfl) ?_
            refine lv_iload_n hx hb dL_isWord_277 rfl (lv_at hl 7 rfl) ?_
            obtain ⟨U22, eU22, hE⟩ := bd_el hE
            refine rg_callWS (As := [.int a1]) (rest := []) F hH (fun q h1 h2 => ⟨h1, h2⟩) (mX6_untilPassed l X b V a1 U22 eU22) (cwV 1 F.1.2.2.2.2 gL_isWord_X6_untilPassed rfl rfl rfl hvX6_untilPassed ⟨Nat.le_of_ble_eq_true rfl, Nat.le_of_ble_eq_true rfl⟩) (rp_recv F hH.1 0 rfl (C := RX6) (T := TX6) (N := 9) rfl rfl) hH.1 rfl hl.1 (Nat.le_of_ble_eq_true rfl) dL_isWord_278 ⟨Nat.zero_le _, Nat.zero_le _⟩ rfl (fun H locs hH => ?_)
            refine lv_if_eq (tgt := 288) hx hb dL_isWord_281 (by decide) (fun c23 => ?_) (fun c23 => ?_)
            · have hE := (if_pos c23).symm.trans hE
              refine lv_iconst (v := 0) hx hb dL_isWord_288 (by decide) ?_
              have hE := Option.some.inj hE
              subst hE
              exact W.zret (v := (0 : Int32)) hx hb hr rfl (fun t ht _ => mw_post hH ht) hH.2.1.2.2 dL_isWord_289
            · have hE := (if_neg c23).symm.trans hE
              refine lv_iconst (v := 1) hx hb dL_isWord_284 (by decide) ?_
              refine lv_goto (tgt := 289) hx hb dL_isWord_285 (by decide) ?_
              have hE := Option.some.inj hE
              subst hE
              exact W.zret (v := (1 : Int32)) hx hb hr rfl (fun t ht _ => mw_post hH ht) hH.2.1.2.2 dL_isWord_289
          · have hE := (if_neg c21).symm.trans hE
            refine lv_iload_n hx hb dL_isWord_222 rfl (lv_at hl 5 rfl) ?_
            refine lv_iconst (v := 1) hx hb dL_isWord_223 (by decide) ?_
            refine lv_aload_n hx hb dL_isWord_224 rfl (lv_at hl 6 rfl) ?_
            refine lv_aload_n hx hb dL_isWord_225 rfl (lv_at hl 6 rfl) ?_
            refine lv_iload_n hx hb dL_isWord_226 rfl (lv_at hl 7 rfl) ?_
            refine lv_iconst (v := 5) hx hb dL_isWord_227 (by decide) ?_
            obtain ⟨r24, er24, hE⟩ := lt_el hE
            refine rg_callRV (As := [.int a1, .int ((5 : Int32))]) (rest := [.ref b, .int ((1 : Int32)), .int r1]) F (mX6_word l X b V a1 ((5 : Int32)) r24 er24) (cwV 2 F.1.2.2.2.2 gL_isWord_X6_word rfl rfl rfl hvX6_word ⟨Nat.le_of_ble_eq_true rfl, Nat.le_of_ble_eq_true rfl⟩) (rp_recv F hH.1 0 rfl (C := RX6) (T := TX6) (N := 9) rfl rfl) hH.1 rfl hl.1 (Nat.le_of_ble_eq_true rfl) dL_isWord_228 ⟨Nat.zero_le _, Nat.zero_le _⟩ rfl ?_
            refine lv_iconst (v := 0) hx hb dL_isWord_231 (by decide) ?_
            obtain ⟨r25, er25, hE⟩ := lt_el hE
            refine rg_callRV (As := [.int r24, .int ((0 : Int32))]) (rest := [.int ((1 : Int32)), .int r1]) F (mX6_gateOf l X b V r24 ((0 : Int32)) r25 er25) (cwV 2 F.1.2.2.2.2 gL_isWord_X6_gateOf rfl rfl rfl hvX6_gateOf ⟨Nat.le_of_ble_eq_true rfl, Nat.le_of_ble_eq_true rfl⟩) (rp_recv F hH.1 0 rfl (C := RX6) (T := TX6) (N := 9) rfl rfl) hH.1 rfl hl.1 (Nat.le_of_ble_eq_true rfl) dL_isWord_232 ⟨Nat.zero_le _, Nat.zero_le _⟩ rfl ?_
            refine lv_isub hx hb dL_isWord_235 ?_
            refine lv_icmp_eq (tgt := 244) hx hb dL_isWord_236 (by decide) (fun c26 => ?_) (fun c26 => ?_)
            · have hE := (if_pos c26).symm.trans hE
              refine lv_iload hx hb dL_isWord_244 (lv_at hl 2 rfl) ?_
              refine lv_if_eq (tgt := 271) hx hb dL_isWord_246 (by decide) (fun c => absurd c c21) (fun _ => ?_)
              refine lv_aload_n hx hb dL_isWord_249 rfl (lv_at hl 6 rfl) ?_
              refine lv_iload_n hx hb dL_isWord_250 rfl (lv_at hl 7 rfl) ?_
              refine lv_iconst (v := 4) hx hb dL_isWord_251 (by decide) ?_
              obtain ⟨r27, er27, hE⟩ := lt_el hE
              refine rg_callRV (As := [.int a1, .int ((4 : Int32))]) (rest := []) F (mX6_word l X b V a1 ((4 : Int32)) r27 er27) (cwV 2 F.1.2.2.2.2 gL_isWord_X6_word rfl rfl rfl hvX6_word ⟨Nat.le_of_ble_eq_true rfl, Nat.le_of_ble_eq_true rfl⟩) (rp_recv F hH.1 0 rfl (C := RX6) (T := TX6) (N := 9) rfl rfl) hH.1 rfl hl.1 (Nat.le_of_ble_eq_true rfl) dL_isWord_252 ⟨Nat.zero_le _, Nat.zero_le _⟩ rfl ?_
              refine lv_aload_n hx hb dL_isWord_255 rfl (lv_at hl 6 rfl) ?_
              refine lv_iconst (v := 0) hx hb dL_isWord_256 (by decide) ?_
              obtain ⟨r28, er28, hE⟩ := lt_el hE
              refine rg_callRV (As := [.int ((0 : Int32))]) (rest := [.int r27]) F (mX6_count l X b V ((0 : Int32)) r28 er28) (cwV 1 F.1.2.2.2.2 gL_isWord_X6_count rfl rfl rfl hvX6_count ⟨Nat.le_of_ble_eq_true rfl, Nat.le_of_ble_eq_true rfl⟩) (rp_recv F hH.1 0 rfl (C := RX6) (T := TX6) (N := 9) rfl rfl) hH.1 rfl hl.1 (Nat.le_of_ble_eq_true rfl) dL_isWord_257 ⟨Nat.zero_le _, Nat.zero_le _⟩ rfl ?_
              refine lv_icmp_ge (tgt := 288) hx hb dL_isWord_260 (by decide) (fun c29 => ?_) (fun c29 => ?_)
              · have hE := (if_pos c29).symm.trans hE
                refine lv_iconst (v := 0) hx hb dL_isWord_288 (by decide) ?_
                have hE := Option.some.inj hE
                subst hE
                exact W.zret (v := (0 : Int32)) hx hb hr rfl (fun t ht _ => mw_post hH ht) hH.2.1.2.2 dL_isWord_289
              · have hE := (if_neg c29).symm.trans hE
                refine lv_aload_n hx hb dL_isWord_263 rfl (lv_at hl 6 rfl) ?_
                refine lv_iload_n hx hb dL_isWord_264 rfl (lv_at hl 7 rfl) ?_
                obtain ⟨U30, eU30, hE⟩ := bd_el hE
                refine rg_callWS (As := [.int a1]) (rest := []) F hH (fun q h1 h2 => ⟨h1, h2⟩) (mX6_untilPassed l X b V a1 U30 eU30) (cwV 1 F.1.2.2.2.2 gL_isWord_X6_untilPassed rfl rfl rfl hvX6_untilPassed ⟨Nat.le_of_ble_eq_true rfl, Nat.le_of_ble_eq_true rfl⟩) (rp_recv F hH.1 0 rfl (C := RX6) (T := TX6) (N := 9) rfl rfl) hH.1 rfl hl.1 (Nat.le_of_ble_eq_true rfl) dL_isWord_265 ⟨Nat.zero_le _, Nat.zero_le _⟩ rfl (fun H locs hH => ?_)
                refine lv_if_ne (tgt := 288) hx hb dL_isWord_268 (by decide) (fun c31 => ?_) (fun c31 => ?_)
                · have hE := (if_neg c31).symm.trans hE
                  refine lv_iconst (v := 0) hx hb dL_isWord_288 (by decide) ?_
                  have hE := Option.some.inj hE
                  subst hE
                  exact W.zret (v := (0 : Int32)) hx hb hr rfl (fun t ht _ => mw_post hH ht) hH.2.1.2.2 dL_isWord_289
                · have hE := (if_pos c31).symm.trans hE
                  refine lv_iload hx hb dL_isWord_271 (lv_at hl 2 rfl) ?_
                  refine lv_if_ne (tgt := 284) hx hb dL_isWord_273 (by decide) (fun _ => ?_) (fun c => absurd c c21)
                  refine lv_iconst (v := 1) hx hb dL_isWord_284 (by decide) ?_
                  refine lv_goto (tgt := 289) hx hb dL_isWord_285 (by decide) ?_
                  have hE := Option.some.inj hE
                  subst hE
                  exact W.zret (v := (1 : Int32)) hx hb hr rfl (fun t ht _ => mw_post hH ht) hH.2.1.2.2 dL_isWord_289
            · have hE := (if_neg c26).symm.trans hE
              refine lv_iload_n hx hb dL_isWord_239 rfl (lv_at hl 5 rfl) ?_
              refine lv_iconst (v := 2) hx hb dL_isWord_240 (by decide) ?_
              refine lv_icmp_ge (tgt := 288) hx hb dL_isWord_241 (by decide) (fun c32 => ?_) (fun c32 => ?_)
              · have hE := (if_pos c32).symm.trans hE
                refine lv_iconst (v := 0) hx hb dL_isWord_288 (by decide) ?_
                have hE := Option.some.inj hE
                subst hE
                exact W.zret (v := (0 : Int32)) hx hb hr rfl (fun t ht _ => mw_post hH ht) hH.2.1.2.2 dL_isWord_289
              · have hE := (if_neg c32).symm.trans hE
                refine lv_iload hx hb dL_isWord_244 (lv_at hl 2 rfl) ?_
                refine lv_if_eq (tgt := 271) hx hb dL_isWord_246 (by decide) (fun c => absurd c c21) (fun _ => ?_)
                refine lv_aload_n hx hb dL_isWord_249 rfl (lv_at hl 6 rfl) ?_
                refine lv_iload_n hx hb dL_isWord_250 rfl (lv_at hl 7 rfl) ?_
                refine lv_iconst (v := 4) hx hb dL_isWord_251 (by decide) ?_
                obtain ⟨r33, er33, hE⟩ := lt_el hE
                refine rg_callRV (As := [.int a1, .int ((4 : Int32))]) (rest := []) F (mX6_word l X b V a1 ((4 : Int32)) r33 er33) (cwV 2 F.1.2.2.2.2 gL_isWord_X6_word rfl rfl rfl hvX6_word ⟨Nat.le_of_ble_eq_true rfl, Nat.le_of_ble_eq_true rfl⟩) (rp_recv F hH.1 0 rfl (C := RX6) (T := TX6) (N := 9) rfl rfl) hH.1 rfl hl.1 (Nat.le_of_ble_eq_true rfl) dL_isWord_252 ⟨Nat.zero_le _, Nat.zero_le _⟩ rfl ?_
                refine lv_aload_n hx hb dL_isWord_255 rfl (lv_at hl 6 rfl) ?_
                refine lv_iconst (v := 0) hx hb dL_isWord_256 (by decide) ?_
                obtain ⟨r34, er34, hE⟩ := lt_el hE
                refine rg_callRV (As := [.int ((0 : Int32))]) (rest := [.int r33]) F (mX6_count l X b V ((0 : Int32)) r34 er34) (cwV 1 F.1.2.2.2.2 gL_isWord_X6_count rfl rfl rfl hvX6_count ⟨Nat.le_of_ble_eq_true rfl, Nat.le_of_ble_eq_true rfl⟩) (rp_recv F hH.1 0 rfl (C := RX6) (T := TX6) (N := 9) rfl rfl) hH.1 rfl hl.1 (Nat.le_of_ble_eq_true rfl) dL_isWord_257 ⟨Nat.zero_le _, Nat.zero_le _⟩ rfl ?_
                refine lv_icmp_ge (tgt := 288) hx hb dL_isWord_260 (by decide) (fun c35 => ?_) (fun c35 => ?_)
                · have hE := (if_pos c35).symm.trans hE
                  refine lv_iconst (v := 0) hx hb dL_isWord_288 (by decide) ?_
                  have hE := Option.some.inj hE
                  subst hE
                  exact W.zret (v := (0 : Int32)) hx hb hr rfl (fun t ht _ => mw_post hH ht) hH.2.1.2.2 dL_isWord_289
                · have hE := (if_neg c35).symm.trans hE
                  refine lv_aload_n hx hb dL_isWord_263 rfl (lv_at hl 6 rfl) ?_
                  refine lv_iload_n hx hb dL_isWord_264 rfl (lv_at hl 7 rfl) ?_
                  obtain ⟨U36, eU36, hE⟩ := bd_el hE
                  refine rg_callWS (As := [.int a1]) (rest := []) F hH (fun q h1 h2 => ⟨h1, h2⟩) (mX6_untilPassed l X b V a1 U36 eU36) (cwV 1 F.1.2.2.2.2 gL_isWord_X6_untilPassed rfl rfl rfl hvX6_untilPassed ⟨Nat.le_of_ble_eq_true rfl, Nat.le_of_ble_eq_true rfl⟩) (rp_recv F hH.1 0 rfl (C := RX6) (T := TX6) (N := 9) rfl rfl) hH.1 rfl hl.1 (Nat.le_of_ble_eq_true rfl) dL_isWord_265 ⟨Nat.zero_le _, Nat.zero_le _⟩ rfl (fun H locs hH => ?_)
                  refine lv_if_ne (tgt := 288) hx hb dL_isWord_268 (by decide) (fun c37 => ?_) (fun c37 => ?_)
                  · have hE := (if_neg c37).symm.trans hE
                    refine lv_iconst (v := 0) hx hb dL_isWord_288 (by decide) ?_
                    have hE := Option.some.inj hE
                    subst hE
                    exact W.zret (v := (0 : Int32)) hx hb hr rfl (fun t ht _ => mw_post hH ht) hH.2.1.2.2 dL_isWord_289
                  · have hE := (if_pos c37).symm.trans hE
                    refine lv_iload hx hb dL_isWord_271 (lv_at hl 2 rfl) ?_
                    refine lv_if_ne (tgt := 284) hx hb dL_isWord_273 (by decide) (fun _ => ?_) (fun c => absurd c c21)
                    refine lv_iconst (v := 1) hx hb dL_isWord_284 (by decide) ?_
                    refine lv_goto (tgt := 289) hx hb dL_isWord_285 (by decide) ?_
                    have hE := Option.some.inj hE
                    subst hE
                    exact W.zret (v := (1 : Int32)) hx hb hr rfl (fun t ht _ => mw_post hH ht) hH.2.1.2.2 dL_isWord_289
    replace hE := hJ9
    clear hJ9
    refine lv_icmp_lt (tgt := 151) hx hb dL_isWord_42 (by decide) (fun c38 => ?_) (fun c38 => ?_)
    · have hE := (if_pos c38).symm.trans hE
      refine lv_iconst (v := 0) hx hb dL_isWord_151 (by decide) ?_
      cases hE
      exact K8 ls (lv_sub hl [0, 1, 2, 3, 4, 5] rfl)
    · have hE := (if_neg c38).symm.trans hE
      refine lv_iload hx hb dL_isWord_45 (lv_at hl 1 rfl) ?_
      refine lv_bipush (v := 6) hx hb dL_isWord_47 (by decide) ?_
      refine lv_icmp_gt (tgt := 151) hx hb dL_isWord_49 (by decide) (fun c39 => ?_) (fun c39 => ?_)
      · have hE := (if_pos c39).symm.trans hE
        refine lv_iconst (v := 0) hx hb dL_isWord_151 (by decide) ?_
        cases hE
        exact K8 ls (lv_sub hl [0, 1, 2, 3, 4, 5] rfl)
      · have hE := (if_neg c39).symm.trans hE
        refine lv_iload_n hx hb dL_isWord_52 rfl (lv_at hl 3 rfl) ?_
        refine lv_iconst (v := 2) hx hb dL_isWord_53 (by decide) ?_
        refine lv_icmp_ge (tgt := 70) hx hb dL_isWord_54 (by decide) (fun c40 => ?_) (fun c40 => ?_)
        · have hE := (if_pos c40).symm.trans hE
          refine lv_aload_n hx hb dL_isWord_70 rfl (lv_at hl 4 rfl) ?_
          refine lv_iload_n hx hb dL_isWord_71 rfl (lv_at hl 3 rfl) ?_
          refine lv_iconst (v := 2) hx hb dL_isWord_72 (by decide) ?_
          refine lv_isub hx hb dL_isWord_73 ?_
          refine lv_iconst (v := 5) hx hb dL_isWord_74 (by decide) ?_
          obtain ⟨r41, er41, hE⟩ := lt_el hE
          refine rg_callRV (As := [.int (r1 - ((2 : Int32))), .int ((5 : Int32))]) (rest := []) F (mX6_gateOf l X b V (r1 - ((2 : Int32))) ((5 : Int32)) r41 er41) (cwV 2 F.1.2.2.2.2 gL_isWord_X6_gateOf rfl rfl rfl hvX6_gateOf ⟨Nat.le_of_ble_eq_true rfl, Nat.le_of_ble_eq_true rfl⟩) (rp_recv F hH.1 0 rfl (C := RX6) (T := TX6) (N := 9) rfl rfl) hH.1 rfl hl.1 (Nat.le_of_ble_eq_true rfl) dL_isWord_75 ⟨Nat.zero_le _, Nat.zero_le _⟩ rfl ?_
          refine lv_iload_n hx hb dL_isWord_78 rfl (lv_at hl 5 rfl) ?_
          refine lv_icmp_ne (tgt := 151) hx hb dL_isWord_79 (by decide) (fun c42 => ?_) (fun c42 => ?_)
          · have hE := (if_neg c42).symm.trans hE
            refine lv_iconst (v := 0) hx hb dL_isWord_151 (by decide) ?_
            cases hE
            exact K8 ls (lv_sub hl [0, 1, 2, 3, 4, 5] rfl)
          · have hE := (if_pos c42).symm.trans hE
            refine lv_iload hx hb dL_isWord_82 (lv_at hl 0 rfl) ?_
            refine lv_if_ne (tgt := 151) hx hb dL_isWord_84 (by decide) (fun c43 => ?_) (fun c43 => ?_)
            · have hE := (if_neg c43).symm.trans hE
              refine lv_iconst (v := 0) hx hb dL_isWord_151 (by decide) ?_
              cases hE
              exact K8 ls (lv_sub hl [0, 1, 2, 3, 4, 5] rfl)
            · have hE := (if_pos c43).symm.trans hE
              refine lv_iload hx hb dL_isWord_87 (lv_at hl 0 rfl) ?_
              refine lv_aload_n hx hb dL_isWord_89 rfl (lv_at hl 4 rfl) ?_
              refine lv_iload_n hx hb dL_isWord_90 rfl (lv_at hl 5 rfl) ?_
              refine lv_iconst (v := 4) hx hb dL_isWord_91 (by decide) ?_
              obtain ⟨r44, er44, hE⟩ := lt_el hE
              refine rg_callRV (As := [.int a1, .int ((4 : Int32))]) (rest := [.int j5]) F (mX6_word l X b V a1 ((4 : Int32)) r44 er44) (cwV 2 F.1.2.2.2.2 gL_isWord_X6_word rfl rfl rfl hvX6_word ⟨Nat.le_of_ble_eq_true rfl, Nat.le_of_ble_eq_true rfl⟩) (rp_recv F hH.1 0 rfl (C := RX6) (T := TX6) (N := 9) rfl rfl) hH.1 rfl hl.1 (Nat.le_of_ble_eq_true rfl) dL_isWord_92 ⟨Nat.zero_le _, Nat.zero_le _⟩ rfl ?_
              refine lv_sipush (v := (-1006)) hx hb dL_isWord_95 (by decide) ?_
              obtain ⟨j45, hJ9, hE⟩ := bd_el hE
              have K46 : ∀ (ls : Array Slot), lv_has ls 8 [(5, .int j5), (4, .int r3), (3, .int r2), (2, .int r1), (0, .ref b), (1, .int a1)] → W p l e rmL_isWord s m ([.ref b, .int a1] : List Value).toArray below meth c s.heap [] 0 0 (MQ below (cQw (some (.int out.1)) b (b + LA.length) (RP X LA b out.2)) ([.ref b, .int a1] : List Value).toArray s 0 0 (t_fr b (b + LA.length))) (F0 m 106 ls [.int j45, .int j5]) := by
                clear hJ9
                intro ls hl
                refine lv_icmp_ne (tgt := 151) hx hb dL_isWord_106 (by decide) (fun c47 => ?_) (fun c47 => ?_)
                · have hE := (if_neg c47).symm.trans hE
                  refine lv_iconst (v := 0) hx hb dL_isWord_151 (by decide) ?_
                  cases hE
                  exact K8 ls (lv_sub hl [0, 1, 2, 3, 4, 5] rfl)
                · have hE := (if_pos c47).symm.trans hE
                  refine lv_iload hx hb dL_isWord_109 (lv_at hl 0 rfl) ?_
                  refine lv_aload_n hx hb dL_isWord_111 rfl (lv_at hl 4 rfl) ?_
                  refine lv_iload_n hx hb dL_isWord_112 rfl (lv_at hl 5 rfl) ?_
                  refine lv_iconst (v := 5) hx hb dL_isWord_113 (by decide) ?_
                  obtain ⟨r48, er48, hE⟩ := lt_el hE
                  refine rg_callRV (As := [.int a1, .int ((5 : Int32))]) (rest := [.int j5]) F (mX6_word l X b V a1 ((5 : Int32)) r48 er48) (cwV 2 F.1.2.2.2.2 gL_isWord_X6_word rfl rfl rfl hvX6_word ⟨Nat.le_of_ble_eq_true rfl, Nat.le_of_ble_eq_true rfl⟩) (rp_recv F hH.1 0 rfl (C := RX6) (T := TX6) (N := 9) rfl rfl) hH.1 rfl hl.1 (Nat.le_of_ble_eq_true rfl) dL_isWord_114 ⟨Nat.zero_le _, Nat.zero_le _⟩ rfl ?_
                  refine lv_sipush (v := (-1006)) hx hb dL_isWord_117 (by decide) ?_
                  obtain ⟨j49, hJ9, hE⟩ := bd_el hE
                  have K50 : ∀ (ls : Array Slot), lv_has ls 8 [(5, .int j5), (4, .int r3), (3, .int r2), (2, .int r1), (0, .ref b), (1, .int a1)] → W p l e rmL_isWord s m ([.ref b, .int a1] : List Value).toArray below meth c s.heap [] 0 0 (MQ below (cQw (some (.int out.1)) b (b + LA.length) (RP X LA b out.2)) ([.ref b, .int a1] : List Value).toArray s 0 0 (t_fr b (b + LA.length))) (F0 m 128 ls [.int j49, .int j5]) := by
                    clear hJ9
                    intro ls hl
                    refine lv_icmp_ne (tgt := 151) hx hb dL_isWord_128 (by decide) (fun c51 => ?_) (fun c51 => ?_)
                    · have hE := (if_neg c51).symm.trans hE
                      refine lv_iconst (v := 0) hx hb dL_isWord_151 (by decide) ?_
                      cases hE
                      exact K8 ls (lv_sub hl [0, 1, 2, 3, 4, 5] rfl)
                    · have hE := (if_pos c51).symm.trans hE
                      refine lv_aload_n hx hb dL_isWord_131 rfl (lv_at hl 4 rfl) ?_
                      refine lv_iload_n hx hb dL_isWord_132 rfl (lv_at hl 5 rfl) ?_
                      refine lv_bipush (v := 7) hx hb dL_isWord_133 (by decide) ?_
                      refine lv_iload hx hb dL_isWord_135 (lv_at hl 1 rfl) ?_
                      refine lv_iadd hx hb dL_isWord_137 ?_
                      obtain ⟨r52, er52, hE⟩ := lt_el hE
                      refine rg_callRV (As := [.int a1, .int (((7 : Int32)) + r3)]) (rest := []) F (mX6_word l X b V a1 (((7 : Int32)) + r3) r52 er52) (cwV 2 F.1.2.2.2.2 gL_isWord_X6_word rfl rfl rfl hvX6_word ⟨Nat.le_of_ble_eq_true rfl, Nat.le_of_ble_eq_true rfl⟩) (rp_recv F hH.1 0 rfl (C := RX6) (T := TX6) (N := 9) rfl rfl) hH.1 rfl hl.1 (Nat.le_of_ble_eq_true rfl) dL_isWord_138 ⟨Nat.zero_le _, Nat.zero_le _⟩ rfl ?_
                      refine lv_sipush (v := (-1006)) hx hb dL_isWord_141 (by decide) ?_
                      refine lv_icmp_ne (tgt := 151) hx hb dL_isWord_144 (by decide) (fun c53 => ?_) (fun c53 => ?_)
                      · have hE := (if_neg c53).symm.trans hE
                        refine lv_iconst (v := 0) hx hb dL_isWord_151 (by decide) ?_
                        cases hE
                        exact K8 ls (lv_sub hl [0, 1, 2, 3, 4, 5] rfl)
                      · have hE := (if_pos c53).symm.trans hE
                        refine lv_iconst (v := 1) hx hb dL_isWord_147 (by decide) ?_
                        refine lv_goto (tgt := 152) hx hb dL_isWord_148 (by decide) ?_
                        cases hE
                        exact K8 ls (lv_sub hl [0, 1, 2, 3, 4, 5] rfl)
                  replace hE := hJ9
                  clear hJ9
                  refine lv_icmp_eq (tgt := 127) hx hb dL_isWord_120 (by decide) (fun c54 => ?_) (fun c54 => ?_)
                  · have hE := (if_pos c54).symm.trans hE
                    refine lv_iconst (v := 0) hx hb dL_isWord_127 (by decide) ?_
                    cases hE
                    exact K50 ls (lv_sub hl [0, 1, 2, 3, 4, 5] rfl)
                  · have hE := (if_neg c54).symm.trans hE
                    refine lv_iconst (v := 1) hx hb dL_isWord_123 (by decide) ?_
                    refine lv_goto (tgt := 128) hx hb dL_isWord_124 (by decide) ?_
                    cases hE
                    exact K50 ls (lv_sub hl [0, 1, 2, 3, 4, 5] rfl)
              replace hE := hJ9
              clear hJ9
              refine lv_icmp_eq (tgt := 105) hx hb dL_isWord_98 (by decide) (fun c55 => ?_) (fun c55 => ?_)
              · have hE := (if_pos c55).symm.trans hE
                refine lv_iconst (v := 0) hx hb dL_isWord_105 (by decide) ?_
                cases hE
                exact K46 ls (lv_sub hl [0, 1, 2, 3, 4, 5] rfl)
              · have hE := (if_neg c55).symm.trans hE
                refine lv_iconst (v := 1) hx hb dL_isWord_101 (by decide) ?_
                refine lv_goto (tgt := 106) hx hb dL_isWord_102 (by decide) ?_
                cases hE
                exact K46 ls (lv_sub hl [0, 1, 2, 3, 4, 5] rfl)
        · have hE := (if_neg c40).symm.trans hE
          refine lv_aload_n hx hb dL_isWord_57 rfl (lv_at hl 4 rfl) ?_
          refine lv_iload_n hx hb dL_isWord_58 rfl (lv_at hl 3 rfl) ?_
          refine lv_iload_n hx hb dL_isWord_59 rfl (lv_at hl 2 rfl) ?_
          obtain ⟨r56, er56, hE⟩ := lt_el hE
          refine rg_callRV (As := [.int r1, .int r2]) (rest := []) F (mX6_at l X b V r1 r2 r56 er56) (cwV 2 F.1.2.2.2.2 gL_isWord_X6_at rfl rfl rfl hvX6_at ⟨Nat.le_of_ble_eq_true rfl, Nat.le_of_ble_eq_true rfl⟩) (rp_recv F hH.1 0 rfl (C := RX6) (T := TX6) (N := 9) rfl rfl) hH.1 rfl hl.1 (Nat.le_of_ble_eq_true rfl) dL_isWord_60 ⟨Nat.zero_le _, Nat.zero_le _⟩ rfl ?_
          refine lv_iload_n hx hb dL_isWord_63 rfl (lv_at hl 5 rfl) ?_
          refine lv_icmp_ne (tgt := 151) hx hb dL_isWord_64 (by decide) (fun c57 => ?_) (fun c57 => ?_)
          · have hE := (if_neg c57).symm.trans hE
            refine lv_iconst (v := 0) hx hb dL_isWord_151 (by decide) ?_
            cases hE
            exact K8 ls (lv_sub hl [0, 1, 2, 3, 4, 5] rfl)
          · have hE := (if_pos c57).symm.trans hE
            refine lv_goto (tgt := 87) hx hb dL_isWord_67 (by decide) ?_
            refine lv_iload hx hb dL_isWord_87 (lv_at hl 0 rfl) ?_
            refine lv_aload_n hx hb dL_isWord_89 rfl (lv_at hl 4 rfl) ?_
            refine lv_iload_n hx hb dL_isWord_90 rfl (lv_at hl 5 rfl) ?_
            refine lv_iconst (v := 4) hx hb dL_isWord_91 (by decide) ?_
            obtain ⟨r58, er58, hE⟩ := lt_el hE
            refine rg_callRV (As := [.int a1, .int ((4 : Int32))]) (rest := [.int j5]) F (mX6_word l X b V a1 ((4 : Int32)) r58 er58) (cwV 2 F.1.2.2.2.2 gL_isWord_X6_word rfl rfl rfl hvX6_word ⟨Nat.le_of_ble_eq_true rfl, Nat.le_of_ble_eq_true rfl⟩) (rp_recv F hH.1 0 rfl (C := RX6) (T := TX6) (N := 9) rfl rfl) hH.1 rfl hl.1 (Nat.le_of_ble_eq_true rfl) dL_isWord_92 ⟨Nat.zero_le _, Nat.zero_le _⟩ rfl ?_
            refine lv_sipush (v := (-1006)) hx hb dL_isWord_95 (by decide) ?_
            obtain ⟨j59, hJ9, hE⟩ := bd_el hE
            have K60 : ∀ (ls : Array Slot), lv_has ls 8 [(5, .int j5), (4, .int r3), (3, .int r2), (2, .int r1), (0, .ref b), (1, .int a1)] → W p l e rmL_isWord s m ([.ref b, .int a1] : List Value).toArray below meth c s.heap [] 0 0 (MQ below (cQw (some (.int out.1)) b (b + LA.length) (RP X LA b out.2)) ([.ref b, .int a1] : List Value).toArray s 0 0 (t_fr b (b + LA.length))) (F0 m 106 ls [.int j59, .int j5]) := by
              clear hJ9
              intro ls hl
              refine lv_icmp_ne (tgt := 151) hx hb dL_isWord_106 (by decide) (fun c61 => ?_) (fun c61 => ?_)
              · have hE := (if_neg c61).symm.trans hE
                refine lv_iconst (v := 0) hx hb dL_isWord_151 (by decide) ?_
                cases hE
                exact K8 ls (lv_sub hl [0, 1, 2, 3, 4, 5] rfl)
              · have hE := (if_pos c61).symm.trans hE
                refine lv_iload hx hb dL_isWord_109 (lv_at hl 0 rfl) ?_
                refine lv_aload_n hx hb dL_isWord_111 rfl (lv_at hl 4 rfl) ?_
                refine lv_iload_n hx hb dL_isWord_112 rfl (lv_at hl 5 rfl) ?_
                refine lv_iconst (v := 5) hx hb dL_isWord_113 (by decide) ?_
                obtain ⟨r62, er62, hE⟩ := lt_el hE
                refine rg_callRV (As := [.int a1, .int ((5 : Int32))]) (rest := [.int j5]) F (mX6_word l X b V a1 ((5 : Int32)) r62 er62) (cwV 2 F.1.2.2.2.2 gL_isWord_X6_word rfl rfl rfl hvX6_word ⟨Nat.le_of_ble_eq_true rfl, Nat.le_of_ble_eq_true rfl⟩) (rp_recv F hH.1 0 rfl (C := RX6) (T := TX6) (N := 9) rfl rfl) hH.1 rfl hl.1 (Nat.le_of_ble_eq_true rfl) dL_isWord_114 ⟨Nat.zero_le _, Nat.zero_le _⟩ rfl ?_
                refine lv_sipush (v := (-1006)) hx hb dL_isWord_117 (by decide) ?_
                obtain ⟨j63, hJ9, hE⟩ := bd_el hE
                have K64 : ∀ (ls : Array Slot), lv_has ls 8 [(5, .int j5), (4, .int r3), (3, .int r2), (2, .int r1), (0, .ref b), (1, .int a1)] → W p l e rmL_isWord s m ([.ref b, .int a1] : List Value).toArray below meth c s.heap [] 0 0 (MQ below (cQw (some (.int out.1)) b (b + LA.length) (RP X LA b out.2)) ([.ref b, .int a1] : List Value).toArray s 0 0 (t_fr b (b + LA.length))) (F0 m 128 ls [.int j63, .int j5]) := by
                  clear hJ9
                  intro ls hl
                  refine lv_icmp_ne (tgt := 151) hx hb dL_isWord_128 (by decide) (fun c65 => ?_) (fun c65 => ?_)
                  · have hE := (if_neg c65).symm.trans hE
                    refine lv_iconst (v := 0) hx hb dL_isWord_151 (by decide) ?_
                    cases hE
                    exact K8 ls (lv_sub hl [0, 1, 2, 3, 4, 5] rfl)
                  · have hE := (if_pos c65).symm.trans hE
                    refine lv_aload_n hx hb dL_isWord_131 rfl (lv_at hl 4 rfl) ?_
                    refine lv_iload_n hx hb dL_isWord_132 rfl (lv_at hl 5 rfl) ?_
                    refine lv_bipush (v := 7) hx hb dL_isWord_133 (by decide) ?_
                    refine lv_iload hx hb dL_isWord_135 (lv_at hl 1 rfl) ?_
                    refine lv_iadd hx hb dL_isWord_137 ?_
                    obtain ⟨r66, er66, hE⟩ := lt_el hE
                    refine rg_callRV (As := [.int a1, .int (((7 : Int32)) + r3)]) (rest := []) F (mX6_word l X b V a1 (((7 : Int32)) + r3) r66 er66) (cwV 2 F.1.2.2.2.2 gL_isWord_X6_word rfl rfl rfl hvX6_word ⟨Nat.le_of_ble_eq_true rfl, Nat.le_of_ble_eq_true rfl⟩) (rp_recv F hH.1 0 rfl (C := RX6) (T := TX6) (N := 9) rfl rfl) hH.1 rfl hl.1 (Nat.le_of_ble_eq_true rfl) dL_isWord_138 ⟨Nat.zero_le _, Nat.zero_le _⟩ rfl ?_
                    refine lv_sipush (v := (-1006)) hx hb dL_isWord_141 (by decide) ?_
                    refine lv_icmp_ne (tgt := 151) hx hb dL_isWord_144 (by decide) (fun c67 => ?_) (fun c67 => ?_)
                    · have hE := (if_neg c67).symm.trans hE
                      refine lv_iconst (v := 0) hx hb dL_isWord_151 (by decide) ?_
                      cases hE
                      exact K8 ls (lv_sub hl [0, 1, 2, 3, 4, 5] rfl)
                    · have hE := (if_pos c67).symm.trans hE
                      refine lv_iconst (v := 1) hx hb dL_isWord_147 (by decide) ?_
                      refine lv_goto (tgt := 152) hx hb dL_isWord_148 (by decide) ?_
                      cases hE
                      exact K8 ls (lv_sub hl [0, 1, 2, 3, 4, 5] rfl)
                replace hE := hJ9
                clear hJ9
                refine lv_icmp_eq (tgt := 127) hx hb dL_isWord_120 (by decide) (fun c68 => ?_) (fun c68 => ?_)
                · have hE := (if_pos c68).symm.trans hE
                  refine lv_iconst (v := 0) hx hb dL_isWord_127 (by decide) ?_
                  cases hE
                  exact K64 ls (lv_sub hl [0, 1, 2, 3, 4, 5] rfl)
                · have hE := (if_neg c68).symm.trans hE
                  refine lv_iconst (v := 1) hx hb dL_isWord_123 (by decide) ?_
                  refine lv_goto (tgt := 128) hx hb dL_isWord_124 (by decide) ?_
                  cases hE
                  exact K64 ls (lv_sub hl [0, 1, 2, 3, 4, 5] rfl)
            replace hE := hJ9
            clear hJ9
            refine lv_icmp_eq (tgt := 105) hx hb dL_isWord_98 (by decide) (fun c69 => ?_) (fun c69 => ?_)
            · have hE := (if_pos c69).symm.trans hE
              refine lv_iconst (v := 0) hx hb dL_isWord_105 (by decide) ?_
              cases hE
              exact K60 ls (lv_sub hl [0, 1, 2, 3, 4, 5] rfl)
            · have hE := (if_neg c69).symm.trans hE
              refine lv_iconst (v := 1) hx hb dL_isWord_101 (by decide) ?_
              refine lv_goto (tgt := 106) hx hb dL_isWord_102 (by decide) ?_
              cases hE
              exact K60 ls (lv_sub hl [0, 1, 2, 3, 4, 5] rfl)
  replace hE := hJ9
  clear hJ9
  refine lv_icmp_ne (tgt := 36) hx hb dL_isWord_29 (by decide) (fun c70 => ?_) (fun c70 => ?_)
  · have hE := (if_neg c70).symm.trans hE
    refine lv_iconst (v := 0) hx hb dL_isWord_36 (by decide) ?_
    cases hE
    exact K6 ls (lv_sub hl [0, 1, 2, 3, 4] rfl)
  · have hE := (if_pos c70).symm.trans hE
    refine lv_iconst (v := 1) hx hb dL_isWord_32 (by decide) ?_
    refine lv_goto (tgt := 37) hx hb dL_isWord_33 (by decide) ?_
    cases hE
    exact K6 ls (lv_sub hl [0, 1, 2, 3, 4] rfl)
