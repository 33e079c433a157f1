set_option maxRecDepth 1000000 in
theorem set88 (k x q : Kd) (B : List Kd) : (k :: (LW ++ (LW ++ (LPd ++ (q :: B))))).set 88 x = k :: (LW ++ (LW ++ (LPd ++ (x :: B)))) := rfl
set_option maxRecDepth 1000000 in
theorem set341 (k x q q1 : Kd) (B : List Kd) : (k :: (LW ++ (LW ++ (LPd ++ (q1 :: (LW ++ (LW ++ (LW ++ (LW ++ (LW ++ (LW ++ (q :: B))))))))))) ).set 341 x = k :: (LW ++ (LW ++ (LPd ++ (q1 :: (LW ++ (LW ++ (LW ++ (LW ++ (LW ++ (LW ++ (x :: B)))))))))) ) := rfl

set_option maxRecDepth 20000 in
theorem lkX6_init_0 : Cond.methodLink RX6 1 objectInit ∈ wsX6_init := by decide +kernel
set_option maxRecDepth 20000 in
theorem lkX6_init_1 : Cond.instanceMethod objectInit ∈ wsX6_init := by decide +kernel
set_option maxRecDepth 20000 in
theorem lkX6_init_2 : Cond.code objectInit ⟨#[0xb1]⟩ 1 none ∈ wsX6_init := by decide +kernel
set_option maxRecDepth 20000 in
theorem lkX6_init_3 : Cond.classLink RX6 7 RX5 ∈ wsX6_init := by decide +kernel
set_option maxRecDepth 20000 in
theorem lkX6_init_4 : Cond.instantiable RX5 6 ∈ wsX6_init := by decide +kernel
set_option maxRecDepth 20000 in
theorem lkX6_init_5 : Cond.initialized RX5 ∈ wsX6_init := by decide +kernel
set_option maxRecDepth 20000 in
theorem iwX6_init_X5 : ∀ w ∈ wsX50, w ∈ wsX6_init := by decide +kernel
set_option maxRecDepth 20000 in
theorem lkX6_init_6 : Cond.instanceMethod yX5_init ∈ wsX6_init := by decide +kernel
theorem hiX5_init : yX5_init.cls ≠ "java/lang/invoke/MethodHandle" ∧ yX5_init.cls ≠ "java/lang/invoke/VarHandle" ∧ (parseMethodDescriptor yX5_init.desc).map (fun d => d.parameters.length) = some 0 := by decide +kernel
set_option maxRecDepth 20000 in
theorem lkX6_init_7 : Cond.fieldLink RX6 10 "TideWords" "now" "LTideWords$World;" ∈ wsX6_init := by decide +kernel
set_option maxRecDepth 20000 in
theorem iwX6_init_X6 : ∀ w ∈ wsX60, w ∈ wsX6_init := by decide +kernel
set_option maxRecDepth 20000 in
theorem lkX6_init_8 : Cond.fieldLink RX6 16 "TideWords" "trial" "LTideWords$World;" ∈ wsX6_init := by decide +kernel
set_option maxRecDepth 20000 in
theorem lkX6_init_9 : Cond.classLink RX6 19 RX2 ∈ wsX6_init := by decide +kernel
set_option maxRecDepth 20000 in
theorem lkX6_init_10 : Cond.instantiable RX2 2 ∈ wsX6_init := by decide +kernel
set_option maxRecDepth 20000 in
theorem lkX6_init_11 : Cond.initialized RX2 ∈ wsX6_init := by decide +kernel
set_option maxRecDepth 20000 in
theorem iwX6_init_X2 : ∀ w ∈ wsX20, w ∈ wsX6_init := by decide +kernel
set_option maxRecDepth 20000 in
theorem lkX6_init_12 : Cond.instanceMethod yX2_init ∈ wsX6_init := by decide +kernel
theorem hiX2_init : yX2_init.cls ≠ "java/lang/invoke/MethodHandle" ∧ yX2_init.cls ≠ "java/lang/invoke/VarHandle" ∧ (parseMethodDescriptor yX2_init.desc).map (fun d => d.parameters.length) = some 0 := by decide +kernel
set_option maxRecDepth 20000 in
theorem lkX6_init_13 : Cond.fieldLink RX6 22 "TideWords" "pad" "LTideWords$Pad;" ∈ wsX6_init := by decide +kernel
set_option maxRecDepth 20000 in
theorem lkX6_init_14 : Cond.classLink RX6 7 "TideWords$World" ∈ wsX6_init := by decide +kernel
set_option maxRecDepth 20000 in
theorem lkX6_init_15 : Cond.fieldLink RX6 26 "TideWords" "history" "[LTideWords$World;" ∈ wsX6_init := by decide +kernel
set_option maxRecDepth 20000 in
theorem lkX6_init_16 : Cond.fieldLink RX6 30 "TideWords" "slots" "[LTideWords$World;" ∈ wsX6_init := by decide +kernel
set_option maxRecDepth 20000 in
theorem lkX6_init_17 : Cond.classLink RX6 33 RX0 ∈ wsX6_init := by decide +kernel
set_option maxRecDepth 20000 in
theorem lkX6_init_18 : Cond.instantiable RX0 1 ∈ wsX6_init := by decide +kernel
set_option maxRecDepth 20000 in
theorem lkX6_init_19 : Cond.initialized RX0 ∈ wsX6_init := by decide +kernel
set_option maxRecDepth 20000 in
theorem iwX6_init_X0 : ∀ w ∈ wsX00, w ∈ wsX6_init := by decide +kernel
set_option maxRecDepth 20000 in
theorem lkX6_init_20 : Cond.instanceMethod yX0_init ∈ wsX6_init := by decide +kernel
set_option maxRecDepth 20000 in
theorem lkX6_init_21 : Cond.methodLink RX6 35 yX0_init ∈ wsX6_init := by decide +kernel
set_option maxRecDepth 20000 in
theorem lkX6_init_22 : Cond.fieldLink RX6 38 "TideWords" "isSaved" "LTideWords$Cells;" ∈ wsX6_init := by decide +kernel
set_option maxRecDepth 20000 in
theorem lkX6_init_23 : Cond.fieldLink RX6 42 "TideWords" "gapsAhead" "LTideWords$Cells;" ∈ wsX6_init := by decide +kernel
def wX6_init : Mem := (pv (pv (pv (pv (pv (pv (pv (pv (pv (pv (pv (pv (pv (pv (pv zM 1 42 wX5_init) 43 42 wX5_init) 85 3 wX2_init) 88 1 zM) 89 42 wX5_init) 131 42 wX5_init) 173 42 wX5_init) 215 42 wX5_init) 257 42 wX5_init) 299 42 wX5_init) 341 1 zM) 342 42 wX5_init) 384 42 wX5_init) 426 2 zM) 428 2 zM)
abbrev rmX6_init : Room := { frames := 4, cells := 429, slots := 2585, locals := 87 }
set_option maxHeartbeats 8000000 in
set_option maxRecDepth 100000 in
theorem nX6_init (l : Launch) (X : kX) (lo : Nat) : MCK k6 l yX6_init wsX6_init rmX6_init X [.ref lo] lo (.inl (6, [none, none, none, none, none, none, none, some (.inr 0), some (.inr 1)])) LA wX6_init 429 2585 := by
  refine mt_headA (cc := cX6_init) (maxL := 2) (ret := none) (own := RX6) (by decide) rfl rfl (Nat.le_of_ble_eq_true rfl) ?_
  intro p e s m below meth c ls F hK hr hlocks hnm hP hl
  have hx := F.1.1
  have hb := F.1.2.1
  have hH : Hp (fun q => lo ≤ q) s.heap (lo + 1) X [.inl (6, [none, none, none, none, none, none, none, some (.inr 0), some (.inr 1)])] lo zM s.heap [] := ⟨hP.1, va_S.rf, hP.2⟩
  have hl : lv_has ls 2 [(0, .ref lo)] := hl
  refine lv_aload_n hx hb dX6_init_0 rfl (lv_at hl 0 rfl) ?_
  refine W.objInit hx hb F.1.2.2.2.1 (F.1.2.2.2.2 _ lkX6_init_0) (F.1.2.2.2.2 _ lkX6_init_1) (F.1.2.2.2.2 _ lkX6_init_2) rfl (hl.1.trans F.1.2.2.1.symm) rfl dX6_init_1 (Nat.le_of_ble_eq_true rfl) (Nat.le_of_ble_eq_true rfl) ?_
  refine W.eq (g2 := F0 m 4 ls []) rfl ?_
  refine lv_aload_n hx hb dX6_init_4 rfl (lv_at hl 0 rfl) ?_
  refine rg_new (ci := 5) (fl := [none, none, none, some (.inr 0), some (.inr 1), some (.inr 2)]) (C := RX5) (T := TX5) (N := 6) (n := 1) F hH iwX6_init_X5 tyX5 tyX5_ok lkX6_init_3 lkX6_init_4 lkX6_init_5 rfl (fun j hj => by rcases (show j = 0 ∨ j = 1 ∨ j = 2 ∨ j = 3 ∨ j = 4 ∨ j = 5 by omega) with rfl | rfl | rfl | rfl | rfl | rfl <;> rfl) (Nat.le_of_ble_eq_true rfl) (Nat.le_of_ble_eq_true rfl) dX6_init_5 (fun H hH hN => ?_)
  refine W.widen (k := 1) (n := 6) (by decide) (by decide) ?_
  refine lv_dup hx hb dX6_init_8 rfl ?_
  refine rg_callIN kw5 hK.2.2.2 (As := []) (rest := [.ref (lo + 1), .ref lo]) F hH (fun q h => h) rfl hN (nX5_init l X (lo + 1)) ⟨va_cnB 0 F.1.2.2.2.2 gX6_init_X5_init_n9 rfl rfl rfl hK.2.1 (F.1.2.2.2.2 _ lkX6_init_5) hiX5_init ⟨Nat.le_of_ble_eq_true rfl, Nat.le_of_ble_eq_true rfl⟩, rfl, (F.1.2.2.2.2 _ lkX6_init_6)⟩ rfl hl.1 (Nat.le_of_ble_eq_true rfl) dX6_init_9 ⟨Nat.le_of_ble_eq_true rfl, Nat.le_of_ble_eq_true rfl⟩ rfl (n' := 43) rfl (Nat.le_of_ble_eq_true rfl) (fun H locs hH => ?_)
  refine W.widen (k := 42) (n := 231) (by decide) (by decide) ?_
  replace hH := hp_cast (show _ = (pv zM 1 42 wX5_init) from rfl) hH
  replace hH := hp_L hH (show _ = (.inl (6, [none, none, none, none, none, none, none, some (.inr 0), some (.inr 1)]) :: LW) by simp only [List.cons_append, List.append_assoc, List.nil_append])
  refine rg_putF F hH (fun q h => h) (C := RX6) (T := TX6) (N := 9) rfl iwX6_init_X6 tyX6 tyX6_ok nmX6 0 (Nat.le_of_ble_eq_true rfl) (by decide) rfl rfl (hnm.trans rfl) rfl (ty := .object "TideWords$World") (d := 1) (by decide +kernel) rfl rfl lkX6_init_7 rfl dX6_init_12 (fun H locs hH => ?_)
  replace hH := hp_L hH (show _ = (.inl (6, [some (.inl 1), none, none, none, none, none, none, some (.inr 0), some (.inr 1)]) :: LW) from rfl)
  refine lv_aload_n hx hb dX6_init_15 rfl (lv_at hl 0 rfl) ?_
  refine rg_new (ci := 5) (fl := [none, none, none, some (.inr 0), some (.inr 1), some (.inr 2)]) (C := RX5) (T := TX5) (N := 6) (n := 43) F hH iwX6_init_X5 tyX5 tyX5_ok lkX6_init_3 lkX6_init_4 lkX6_init_5 rfl (fun j hj => by rcases (show j = 0 ∨ j = 1 ∨ j = 2 ∨ j = 3 ∨ j = 4 ∨ j = 5 by omega) with rfl | rfl | rfl | rfl | rfl | rfl <;> rfl) (Nat.le_of_ble_eq_true rfl) (Nat.le_of_ble_eq_true rfl) dX6_init_16 (fun H hH hN => ?_)
  refine W.widen (k := 43) (n := 237) (by decide) (by decide) ?_
  refine lv_dup hx hb dX6_init_19 rfl ?_
  refine rg_callIN kw5 hK.2.2.2 (As := []) (rest := [.ref (lo + 43), .ref lo]) F hH (fun q h => h) rfl hN (nX5_init l X (lo + 43)) ⟨va_cnB 0 F.1.2.2.2.2 gX6_init_X5_init_n9 rfl rfl rfl hK.2.1 (F.1.2.2.2.2 _ lkX6_init_5) hiX5_init ⟨Nat.le_of_ble_eq_true rfl, Nat.le_of_ble_eq_true rfl⟩, rfl, (F.1.2.2.2.2 _ lkX6_init_6)⟩ rfl hl.1 (Nat.le_of_ble_eq_true rfl) dX6_init_20 ⟨Nat.le_of_ble_eq_true rfl, Nat.le_of_ble_eq_true rfl⟩ rfl (n' := 85) rfl (Nat.le_of_ble_eq_true rfl) (fun H locs hH => ?_)
  refine W.widen (k := 84) (n := 462) (by decide) (by decide) ?_
  replace hH := hp_cast (show _ = (pv (pv zM 1 42 wX5_init) 43 42 wX5_init) from rfl) hH
  replace hH := hp_L hH (show _ = (.inl (6, [some (.inl 1), none, none, none, none, none, none, some (.inr 0), some (.inr 1)]) :: (LW ++ LW)) by simp only [List.cons_append, List.append_assoc, List.nil_append])
  refine rg_putF F hH (fun q h => h) (C := RX6) (T := TX6) (N := 9) rfl iwX6_init_X6 tyX6 tyX6_ok nmX6 1 (Nat.le_of_ble_eq_true rfl) (by decide) rfl rfl (hnm.trans rfl) rfl (ty := .object "TideWords$World") (d := 43) (by decide +kernel) rfl rfl lkX6_init_8 rfl dX6_init_23 (fun H locs hH => ?_)
  replace hH := hp_L hH (show _ = (.inl (6, [some (.inl 1), some (.inl 43), none, none, none, none, none, some (.inr 0), some (.inr 1)]) :: (LW ++ LW)) from rfl)
  refine lv_aload_n hx hb dX6_init_26 rfl (lv_at hl 0 rfl) ?_
  refine rg_new (ci := 2) (fl := [none, some (.inr 0)]) (C := RX2) (T := TX2) (N := 2) (n := 85) F hH iwX6_init_X2 tyX2 tyX2_ok lkX6_init_9 lkX6_init_10 lkX6_init_11 rfl (fun j hj => by rcases (show j = 0 ∨ j = 1 by omega) with rfl | rfl <;> rfl) (Nat.le_of_ble_eq_true rfl) (Nat.le_of_ble_eq_true rfl) dX6_init_27 (fun H hH hN => ?_)
  refine W.widen (k := 85) (n := 464) (by decide) (by decide) ?_
  refine lv_dup hx hb dX6_init_30 rfl ?_
  refine rg_callIN kwT trivial (As := []) (rest := [.ref (lo + 85), .ref lo]) F hH (fun q h => h) rfl hN (nX2_init l X (lo + 85)) ⟨va_cnB 0 F.1.2.2.2.2 gX6_init_X2_init_n21 rfl rfl rfl hK.2.2.1 (F.1.2.2.2.2 _ lkX6_init_11) hiX2_init ⟨Nat.le_of_ble_eq_true rfl, Nat.le_of_ble_eq_true rfl⟩, rfl, (F.1.2.2.2.2 _ lkX6_init_12)⟩ rfl hl.1 (Nat.le_of_ble_eq_true rfl) dX6_init_31 ⟨Nat.le_of_ble_eq_true rfl, Nat.le_of_ble_eq_true rfl⟩ rfl (n' := 88) rfl (Nat.le_of_ble_eq_true rfl) (fun H locs hH => ?_)
  refine W.widen (k := 87) (n := 525) (by decide) (by decide) ?_
  replace hH := hp_cast (show _ = (pv (pv (pv zM 1 42 wX5_init) 43 42 wX5_init) 85 3 wX2_init) from rfl) hH
  replace hH := hp_L hH (show _ = (.inl (6, [some (.inl 1), some (.inl 43), none, none, none, none, none, some (.inr 0), some (.inr 1)]) :: (LW ++ (LW ++ LPd))) by simp only [List.cons_append, List.append_assoc, List.nil_append])
  refine rg_putF F hH (fun q h => h) (C := RX6) (T := TX6) (N := 9) rfl iwX6_init_X6 tyX6 tyX6_ok nmX6 2 (Nat.le_of_ble_eq_true rfl) (by decide) rfl rfl (hnm.trans rfl) rfl (ty := .object "TideWords$Pad") (d := 85) (by decide +kernel) rfl rfl lkX6_init_13 rfl dX6_init_34 (fun H locs hH => ?_)
  replace hH := hp_L hH (show _ = (.inl (6, [some (.inl 1), some (.inl 43), some (.inl 85), none, none, none, none, some (.inr 0), some (.inr 1)]) :: (LW ++ (LW ++ LPd))) from rfl)
  refine lv_aload_n hx hb dX6_init_37 rfl (lv_at hl 0 rfl) ?_
  refine lv_bipush (v := 6) hx hb dX6_init_38 (by decide) ?_
  refine rg_newarrq (n := 88) F hH rfl lkX6_init_14 hK.1 (by decide) (N := 6) (by decide) (by decide) (Nat.le_of_ble_eq_true rfl) (Nat.le_of_ble_eq_true rfl) dX6_init_40 (fun H hH => ?_)
  refine W.widen (k := 88) (n := 531) (by decide) (by decide) ?_
  replace hH := hp_L hH (show _ = (.inl (6, [some (.inl 1), some (.inl 43), some (.inl 85), none, none, none, none, some (.inr 0), some (.inr 1)]) :: (LW ++ (LW ++ (LPd ++ [.inr (.inr [none, none, none, none, none, none])])))) by simp only [List.cons_append, List.append_assoc, List.nil_append, List.replicate])
  refine rg_putF F hH (fun q h => h) (C := RX6) (T := TX6) (N := 9) rfl iwX6_init_X6 tyX6 tyX6_ok nmX6 3 (Nat.le_of_ble_eq_true rfl) (by decide) rfl rfl (hnm.trans rfl) rfl (ty := .array (.object "TideWords$World")) (d := 88) (by decide +kernel) rfl rfl lkX6_init_15 rfl dX6_init_43 (fun H locs hH => ?_)
  replace hH := hp_L hH (show _ = (.inl (6, [some (.inl 1), some (.inl 43), some (.inl 85), some (.inl 88), none, none, none, some (.inr 0), some (.inr 1)]) :: (LW ++ (LW ++ (LPd ++ [.inr (.inr [none, none, none, none, none, none])])))) from rfl)
  refine lv_iconst (v := 0) hx hb dX6_init_46 (by decide) ?_
  refine lv_istore_n (lv' := [(1, .int 0), (0, .ref lo)]) hx hb dX6_init_47 rfl hl (by decide) rfl (fun ls hl => ?_)
  refine lv_iload_n hx hb dX6_init_48 rfl (lv_at hl 0 rfl) ?_
  refine lv_aload_n hx hb dX6_init_49 rfl (lv_at hl 1 rfl) ?_
  refine rg_getr F hH.1 0 (ci := 6) rfl (C := RX6) (T := TX6) (N := 9) rfl iwX6_init_X6 3 (d := 88) (n := 88) rfl rfl (by decide) rfl lkX6_init_15 rfl dX6_init_50 ?_
  refine rg_alenq F hH.1 88 rfl rfl dX6_init_53 ?_
  refine lv_nm (x' := 6) (by decide) ?_
  refine lv_icmp_ge (tgt := 76) hx hb dX6_init_54 (by decide) (fun c => absurd c (by decide)) (fun _ => ?_)
  refine lv_aload_n hx hb dX6_init_57 rfl (lv_at hl 1 rfl) ?_
  refine rg_getr F hH.1 0 (ci := 6) rfl (C := RX6) (T := TX6) (N := 9) rfl iwX6_init_X6 3 (d := 88) (n := 88) rfl rfl (by decide) rfl lkX6_init_15 rfl dX6_init_58 ?_
  refine lv_iload_n hx hb dX6_init_61 rfl (lv_at hl 0 rfl) ?_
  refine rg_new (ci := 5) (fl := [none, none, none, some (.inr 0), some (.inr 1), some (.inr 2)]) (C := RX5) (T := TX5) (N := 6) (n := 89) F hH iwX6_init_X5 tyX5 tyX5_ok lkX6_init_3 lkX6_init_4 lkX6_init_5 rfl (fun j hj => by rcases (show j = 0 ∨ j = 1 ∨ j = 2 ∨ j = 3 ∨ j = 4 ∨ j = 5 by omega) with rfl | rfl | rfl | rfl | rfl | rfl <;> rfl) (Nat.le_of_ble_eq_true rfl) (Nat.le_of_ble_eq_true rfl) dX6_init_62 (fun H hH hN => ?_)
  refine W.widen (k := 89) (n := 537) (by decide) (by decide) ?_
  refine lv_dup hx hb dX6_init_65 rfl ?_
  refine rg_callIN kw5 hK.2.2.2 (As := []) (rest := [.ref (lo + 89), .int 0, .ref (lo + 88)]) F hH (fun q h => h) rfl hN (nX5_init l X (lo + 89)) ⟨va_cnB 0 F.1.2.2.2.2 gX6_init_X5_init_n9 rfl rfl rfl hK.2.1 (F.1.2.2.2.2 _ lkX6_init_5) hiX5_init ⟨Nat.le_of_ble_eq_true rfl, Nat.le_of_ble_eq_true rfl⟩, rfl, (F.1.2.2.2.2 _ lkX6_init_6)⟩ rfl hl.1 (Nat.le_of_ble_eq_true rfl) dX6_init_66 ⟨Nat.le_of_ble_eq_true rfl, Nat.le_of_ble_eq_true rfl⟩ rfl (n' := 131) rfl (Nat.le_of_ble_eq_true rfl) (fun H locs hH => ?_)
  refine W.widen (k := 130) (n := 762) (by decide) (by decide) ?_
  replace hH := hp_cast (show _ = (pv (pv (pv (pv (pv zM 1 42 wX5_init) 43 42 wX5_init) 85 3 wX2_init) 88 1 zM) 89 42 wX5_init) from rfl) hH
  replace hH := hp_L hH (show _ = (.inl (6, [some (.inl 1), some (.inl 43), some (.inl 85), some (.inl 88), none, none, none, some (.inr 0), some (.inr 1)]) :: (LW ++ (LW ++ (LPd ++ (.inr (.inr [none, none, none, none, none, none]) :: LW))))) by simp only [List.cons_append, List.append_assoc, List.nil_append])
  refine rg_aast F hH (fun q h => h) 88 rfl 89 rfl (d := 1) rfl (i := 0) (k := 0) (by decide) (by decide) (by decide) rfl rfl dX6_init_69 (fun H locs hH => ?_)
  replace hH := hp_L hH (show _ = (.inl (6, [some (.inl 1), some (.inl 43), some (.inl 85), some (.inl 88), none, none, none, some (.inr 0), some (.inr 1)]) :: (LW ++ (LW ++ (LPd ++ (.inr (.inr [some 1, none, none, none, none, none]) :: LW))))) from set88 ..)
  refine lv_iinc (v := 1) (lv' := [(1, .int 1), (0, .ref lo)]) hx hb dX6_init_70 hl (k := 0) rfl (by decide) (by decide) rfl (fun ls hl => ?_)
  refine lv_goto (tgt := 48) hx hb dX6_init_73 (by decide) ?_
  refine lv_iload_n hx hb dX6_init_48 rfl (lv_at hl 0 rfl) ?_
  refine lv_aload_n hx hb dX6_init_49 rfl (lv_at hl 1 rfl) ?_
  refine rg_getr F hH.1 0 (ci := 6) rfl (C := RX6) (T := TX6) (N := 9) rfl iwX6_init_X6 3 (d := 88) (n := 88) rfl rfl (by decide) rfl lkX6_init_15 rfl dX6_init_50 ?_
  refine rg_alenq F hH.1 88 rfl rfl dX6_init_53 ?_
  refine lv_nm (x' := 6) (by decide) ?_
  refine lv_icmp_ge (tgt := 76) hx hb dX6_init_54 (by decide) (fun c => absurd c (by decide)) (fun _ => ?_)
  refine lv_aload_n hx hb dX6_init_57 rfl (lv_at hl 1 rfl) ?_
  refine rg_getr F hH.1 0 (ci := 6) rfl (C := RX6) (T := TX6) (N := 9) rfl iwX6_init_X6 3 (d := 88) (n := 88) rfl rfl (by decide) rfl lkX6_init_15 rfl dX6_init_58 ?_
  refine lv_iload_n hx hb dX6_init_61 rfl (lv_at hl 0 rfl) ?_
  refine rg_new (ci := 5) (fl := [none, none, none, some (.inr 0), some (.inr 1), some (.inr 2)]) (C := RX5) (T := TX5) (N := 6) (n := 131) F hH iwX6_init_X5 tyX5 tyX5_ok lkX6_init_3 lkX6_init_4 lkX6_init_5 rfl (fun j hj => by rcases (show j = 0 ∨ j = 1 ∨ j = 2 ∨ j = 3 ∨ j = 4 ∨ j = 5 by omega) with rfl | rfl | rfl | rfl | rfl | rfl <;> rfl) (Nat.le_of_ble_eq_true rfl) (Nat.le_of_ble_eq_true rfl) dX6_init_62 (fun H hH hN => ?_)
  refine W.widen (k := 131) (n := 768) (by decide) (by decide) ?_
  refine lv_dup hx hb dX6_init_65 rfl ?_
  refine rg_callIN kw5 hK.2.2.2 (As := []) (rest := [.ref (lo + 131), .int 1, .ref (lo + 88)]) F hH (fun q h => h) rfl hN (nX5_init l X (lo + 131)) ⟨va_cnB 0 F.1.2.2.2.2 gX6_init_X5_init_n9 rfl rfl rfl hK.2.1 (F.1.2.2.2.2 _ lkX6_init_5) hiX5_init ⟨Nat.le_of_ble_eq_true rfl, Nat.le_of_ble_eq_true rfl⟩, rfl, (F.1.2.2.2.2 _ lkX6_init_6)⟩ rfl hl.1 (Nat.le_of_ble_eq_true rfl) dX6_init_66 ⟨Nat.le_of_ble_eq_true rfl, Nat.le_of_ble_eq_true rfl⟩ rfl (n' := 173) rfl (Nat.le_of_ble_eq_true rfl) (fun H locs hH => ?_)
  refine W.widen (k := 172) (n := 993) (by decide) (by decide) ?_
  replace hH := hp_cast (show _ = (pv (pv (pv (pv (pv (pv zM 1 42 wX5_init) 43 42 wX5_init) 85 3 wX2_init) 88 1 zM) 89 42 wX5_init) 131 42 wX5_init) from rfl) hH
  replace hH := hp_L hH (show _ = (.inl (6, [some (.inl 1), some (.inl 43), some (.inl 85), some (.inl 88), none, none, none, some (.inr 0), some (.inr 1)]) :: (LW ++ (LW ++ (LPd ++ (.inr (.inr [some 1, none, none, none, none, none]) :: (LW ++ LW)))))) by simp only [List.cons_append, List.append_assoc, List.nil_append])
  refine rg_aast F hH (fun q h => h) 88 rfl 131 rfl (d := 43) rfl (i := 1) (k := 1) (by decide) (by decide) (by decide) rfl rfl dX6_init_69 (fun H locs hH => ?_)
  replace hH := hp_L hH (show _ = (.inl (6, [some (.inl 1), some (.inl 43), some (.inl 85), some (.inl 88), none, none, none, some (.inr 0), some (.inr 1)]) :: (LW ++ (LW ++ (LPd ++ (.inr (.inr [some 1, some 43, none, none, none, none]) :: (LW ++ LW)))))) from set88 ..)
  refine lv_iinc (v := 2) (lv' := [(1, .int 2), (0, .ref lo)]) hx hb dX6_init_70 hl (k := 0) rfl (by decide) (by decide) rfl (fun ls hl => ?_)
  refine lv_goto (tgt := 48) hx hb dX6_init_73 (by decide) ?_
  refine lv_iload_n hx hb dX6_init_48 rfl (lv_at hl 0 rfl) ?_
  refine lv_aload_n hx hb dX6_init_49 rfl (lv_at hl 1 rfl) ?_
  refine rg_getr F hH.1 0 (ci := 6) rfl (C := RX6) (T := TX6) (N := 9) rfl iwX6_init_X6 3 (d := 88) (n := 88) rfl rfl (by decide) rfl lkX6_init_15 rfl dX6_init_50 ?_
  refine rg_alenq F hH.1 88 rfl rfl dX6_init_53 ?_
  refine lv_nm (x' := 6) (by decide) ?_
  refine lv_icmp_ge (tgt := 76) hx hb dX6_init_54 (by decide) (fun c => absurd c (by decide)) (fun _ => ?_)
  refine lv_aload_n hx hb dX6_init_57 rfl (lv_at hl 1 rfl) ?_
  refine rg_getr F hH.1 0 (ci := 6) rfl (C := RX6) (T := TX6) (N := 9) rfl iwX6_init_X6 3 (d := 88) (n := 88) rfl rfl (by decide) rfl lkX6_init_15 rfl dX6_init_58 ?_
  refine lv_iload_n hx hb dX6_init_61 rfl (lv_at hl 0 rfl) ?_
  refine rg_new (ci := 5) (fl := [none, none, none, some (.inr 0), some (.inr 1), some (.inr 2)]) (C := RX5) (T := TX5) (N := 6) (n := 173) F hH iwX6_init_X5 tyX5 tyX5_ok lkX6_init_3 lkX6_init_4 lkX6_init_5 rfl (fun j hj => by rcases (show j = 0 ∨ j = 1 ∨ j = 2 ∨ j = 3 ∨ j = 4 ∨ j = 5 by omega) with rfl | rfl | rfl | rfl | rfl | rfl <;> rfl) (Nat.le_of_ble_eq_true rfl) (Nat.le_of_ble_eq_true rfl) dX6_init_62 (fun H hH hN => ?_)
  refine W.widen (k := 173) (n := 999) (by decide) (by decide) ?_
  refine lv_dup hx hb dX6_init_65 rfl ?_
  refine rg_callIN kw5 hK.2.2.2 (As := []) (rest := [.ref (lo + 173), .int 2, .ref (lo + 88)]) F hH (fun q h => h) rfl hN (nX5_init l X (lo + 173)) ⟨va_cnB 0 F.1.2.2.2.2 gX6_init_X5_init_n9 rfl rfl rfl hK.2.1 (F.1.2.2.2.2 _ lkX6_init_5) hiX5_init ⟨Nat.le_of_ble_eq_true rfl, Nat.le_of_ble_eq_true rfl⟩, rfl, (F.1.2.2.2.2 _ lkX6_init_6)⟩ rfl hl.1 (Nat.le_of_ble_eq_true rfl) dX6_init_66 ⟨Nat.le_of_ble_eq_true rfl, Nat.le_of_ble_eq_true rfl⟩ rfl (n' := 215) rfl (Nat.le_of_ble_eq_true rfl) (fun H locs hH => ?_)
  refine W.widen (k := 214) (n := 1224) (by decide) (by decide) ?_
  replace hH := hp_cast (show _ = (pv (pv (pv (pv (pv (pv (pv zM 1 42 wX5_init) 43 42 wX5_init) 85 3 wX2_init) 88 1 zM) 89 42 wX5_init) 131 42 wX5_init) 173 42 wX5_init) from rfl) hH
  replace hH := hp_L hH (show _ = (.inl (6, [some (.inl 1), some (.inl 43), some (.inl 85), some (.inl 88), none, none, none, some (.inr 0), some (.inr 1)]) :: (LW ++ (LW ++ (LPd ++ (.inr (.inr [some 1, some 43, none, none, none, none]) :: (LW ++ (LW ++ LW))))))) by simp only [List.cons_append, List.append_assoc, List.nil_append])
  refine rg_aast F hH (fun q h => h) 88 rfl 173 rfl (d := 85) rfl (i := 2) (k := 2) (by decide) (by decide) (by decide) rfl rfl dX6_init_69 (fun H locs hH => ?_)
  replace hH := hp_L hH (show _ = (.inl (6, [some (.inl 1), some (.inl 43), some (.inl 85), some (.inl 88), none, none, none, some (.inr 0), some (.inr 1)]) :: (LW ++ (LW ++ (LPd ++ (.inr (.inr [some 1, some 43, some 85, none, none, none]) :: (LW ++ (LW ++ LW))))))) from set88 ..)
  refine lv_iinc (v := 3) (lv' := [(1, .int 3), (0, .ref lo)]) hx hb dX6_init_70 hl (k := 0) rfl (by decide) (by decide) rfl (fun ls hl => ?_)
  refine lv_goto (tgt := 48) hx hb dX6_init_73 (by decide) ?_
  refine lv_iload_n hx hb dX6_init_48 rfl (lv_at hl 0 rfl) ?_
  refine lv_aload_n hx hb dX6_init_49 rfl (lv_at hl 1 rfl) ?_
  refine rg_getr F hH.1 0 (ci := 6) rfl (C := RX6) (T := TX6) (N := 9) rfl iwX6_init_X6 3 (d := 88) (n := 88) rfl rfl (by decide) rfl lkX6_init_15 rfl dX6_init_50 ?_
  refine rg_alenq F hH.1 88 rfl rfl dX6_init_53 ?_
  refine lv_nm (x' := 6) (by decide) ?_
  refine lv_icmp_ge (tgt := 76) hx hb dX6_init_54 (by decide) (fun c => absurd c (by decide)) (fun _ => ?_)
  refine lv_aload_n hx hb dX6_init_57 rfl (lv_at hl 1 rfl) ?_
  refine rg_getr F hH.1 0 (ci := 6) rfl (C := RX6) (T := TX6) (N := 9) rfl iwX6_init_X6 3 (d := 88) (n := 88) rfl rfl (by decide) rfl lkX6_init_15 rfl dX6_init_58 ?_
  refine lv_iload_n hx hb dX6_init_61 rfl (lv_at hl 0 rfl) ?_
  refine rg_new (ci := 5) (fl := [none, none, none, some (.inr 0), some (.inr 1), some (.inr 2)]) (C := RX5) (T := TX5) (N := 6) (n := 215) F hH iwX6_init_X5 tyX5 tyX5_ok lkX6_init_3 lkX6_init_4 lkX6_init_5 rfl (fun j hj => by rcases (show j = 0 ∨ j = 1 ∨ j = 2 ∨ j = 3 ∨ j = 4 ∨ j = 5 by omega) with rfl | rfl | rfl | rfl | rfl | rfl <;> rfl) (Nat.le_of_ble_eq_true rfl) (Nat.le_of_ble_eq_true rfl) dX6_init_62 (fun H hH hN => ?_)
  refine W.widen (k := 215) (n := 1230) (by decide) (by decide) ?_
  refine lv_dup hx hb dX6_init_65 rfl ?_
  refine rg_callIN kw5 hK.2.2.2 (As := []) (rest := [.ref (lo + 215), .int 3, .ref (lo + 88)]) F hH (fun q h => h) rfl hN (nX5_init l X (lo + 215)) ⟨va_cnB 0 F.1.2.2.2.2 gX6_init_X5_init_n9 rfl rfl rfl hK.2.1 (F.1.2.2.2.2 _ lkX6_init_5) hiX5_init ⟨Nat.le_of_ble_eq_true rfl, Nat.le_of_ble_eq_true rfl⟩, rfl, (F.1.2.2.2.2 _ lkX6_init_6)⟩ rfl hl.1 (Nat.le_of_ble_eq_true rfl) dX6_init_66 ⟨Nat.le_of_ble_eq_true rfl, Nat.le_of_ble_eq_true rfl⟩ rfl (n' := 257) rfl (Nat.le_of_ble_eq_true rfl) (fun H locs hH => ?_)
  refine W.widen (k := 256) (n := 1455) (by decide) (by decide) ?_
  replace hH := hp_cast (show _ = (pv (pv (pv (pv (pv (pv (pv (pv zM 1 42 wX5_init) 43 42 wX5_init) 85 3 wX2_init) 88 1 zM) 89 42 wX5_init) 131 42 wX5_init) 173 42 wX5_init) 215 42 wX5_init) from rfl) hH
  replace hH := hp_L hH (show _ = (.inl (6, [some (.inl 1), some (.inl 43), some (.inl 85), some (.inl 88), none, none, none, some (.inr 0), some (.inr 1)]) :: (LW ++ (LW ++ (LPd ++ (.inr (.inr [some 1, some 43, some 85, none, none, none]) :: (LW ++ (LW ++ (LW ++ LW)))))))) by simp only [List.cons_append, List.append_assoc, List.nil_append])
  refine rg_aast F hH (fun q h => h) 88 rfl 215 rfl (d := 127) rfl (i := 3) (k := 3) (by decide) (by decide) (by decide) rfl rfl dX6_init_69 (fun H locs hH => ?_)
  replace hH := hp_L hH (show _ = (.inl (6, [some (.inl 1), some (.inl 43), some (.inl 85), some (.inl 88), none, none, none, some (.inr 0), some (.inr 1)]) :: (LW ++ (LW ++ (LPd ++ (.inr (.inr [some 1, some 43, some 85, some 127, none, none]) :: (LW ++ (LW ++ (LW ++ LW)))))))) from set88 ..)
  refine lv_iinc (v := 4) (lv' := [(1, .int 4), (0, .ref lo)]) hx hb dX6_init_70 hl (k := 0) rfl (by decide) (by decide) rfl (fun ls hl => ?_)
  refine lv_goto (tgt := 48) hx hb dX6_init_73 (by decide) ?_
  refine lv_iload_n hx hb dX6_init_48 rfl (lv_at hl 0 rfl) ?_
  refine lv_aload_n hx hb dX6_init_49 rfl (lv_at hl 1 rfl) ?_
  refine rg_getr F hH.1 0 (ci := 6) rfl (C := RX6) (T := TX6) (N := 9) rfl iwX6_init_X6 3 (d := 88) (n := 88) rfl rfl (by decide) rfl lkX6_init_15 rfl dX6_init_50 ?_
  refine rg_alenq F hH.1 88 rfl rfl dX6_init_53 ?_
  refine lv_nm (x' := 6) (by decide) ?_
  refine lv_icmp_ge (tgt := 76) hx hb dX6_init_54 (by decide) (fun c => absurd c (by decide)) (fun _ => ?_)
  refine lv_aload_n hx hb dX6_init_57 rfl (lv_at hl 1 rfl) ?_
  refine rg_getr F hH.1 0 (ci := 6) rfl (C := RX6) (T := TX6) (N := 9) rfl iwX6_init_X6 3 (d := 88) (n := 88) rfl rfl (by decide) rfl lkX6_init_15 rfl dX6_init_58 ?_
  refine lv_iload_n hx hb dX6_init_61 rfl (lv_at hl 0 rfl) ?_
  refine rg_new (ci := 5) (fl := [none, none, none, some (.inr 0), some (.inr 1), some (.inr 2)]) (C := RX5) (T := TX5) (N := 6) (n := 257) F hH iwX6_init_X5 tyX5 tyX5_ok lkX6_init_3 lkX6_init_4 lkX6_init_5 rfl (fun j hj => by rcases (show j = 0 ∨ j = 1 ∨ j = 2 ∨ j = 3 ∨ j = 4 ∨ j = 5 by omega) with rfl | rfl | rfl | rfl | rfl | rfl <;> rfl) (Nat.le_of_ble_eq_true rfl) (Nat.le_of_ble_eq_true rfl) dX6_init_62 (fun H hH hN => ?_)
  refine W.widen (k := 257) (n := 1461) (by decide) (by decide) ?_
  refine lv_dup hx hb dX6_init_65 rfl ?_
  refine rg_callIN kw5 hK.2.2.2 (As := []) (rest := [.ref (lo + 257), .int 4, .ref (lo + 88)]) F hH (fun q h => h) rfl hN (nX5_init l X (lo + 257)) ⟨va_cnB 0 F.1.2.2.2.2 gX6_init_X5_init_n9 rfl rfl rfl hK.2.1 (F.1.2.2.2.2 _ lkX6_init_5) hiX5_init ⟨Nat.le_of_ble_eq_true rfl, Nat.le_of_ble_eq_true rfl⟩, rfl, (F.1.2.2.2.2 _ lkX6_init_6)⟩ rfl hl.1 (Nat.le_of_ble_eq_true rfl) dX6_init_66 ⟨Nat.le_of_ble_eq_true rfl, Nat.le_of_ble_eq_true rfl⟩ rfl (n' := 299) rfl (Nat.le_of_ble_eq_true rfl) (fun H locs hH => ?_)
  refine W.widen (k := 298) (n := 1686) (by decide) (by decide) ?_
  replace hH := hp_cast (show _ = (pv (pv (pv (pv (pv (pv (pv (pv (pv zM 1 42 wX5_init) 43 42 wX5_init) 85 3 wX2_init) 88 1 zM) 89 42 wX5_init) 131 42 wX5_init) 173 42 wX5_init) 215 42 wX5_init) 257 42 wX5_init) from rfl) hH
  replace hH := hp_L hH (show _ = (.inl (6, [some (.inl 1), some (.inl 43), some (.inl 85), some (.inl 88), none, none, none, some (.inr 0), some (.inr 1)]) :: (LW ++ (LW ++ (LPd ++ (.inr (.inr [some 1, some 43, some 85, some 127, none, none]) :: (LW ++ (LW ++ (LW ++ (LW ++ LW))))))))) by simp only [List.cons_append, List.append_assoc, List.nil_append])
  refine rg_aast F hH (fun q h => h) 88 rfl 257 rfl (d := 169) rfl (i := 4) (k := 4) (by decide) (by decide) (by decide) rfl rfl dX6_init_69 (fun H locs hH => ?_)
  replace hH := hp_L hH (show _ = (.inl (6, [some (.inl 1), some (.inl 43), some (.inl 85), some (.inl 88), none, none, none, some (.inr 0), some (.inr 1)]) :: (LW ++ (LW ++ (LPd ++ (.inr (.inr [some 1, some 43, some 85, some 127, some 169, none]) :: (LW ++ (LW ++ (LW ++ (LW ++ LW))))))))) from set88 ..)
  refine lv_iinc (v := 5) (lv' := [(1, .int 5), (0, .ref lo)]) hx hb dX6_init_70 hl (k := 0) rfl (by decide) (by decide) rfl (fun ls hl => ?_)
  refine lv_goto (tgt := 48) hx hb dX6_init_73 (by decide) ?_
  refine lv_iload_n hx hb dX6_init_48 rfl (lv_at hl 0 rfl) ?_
  refine lv_aload_n hx hb dX6_init_49 rfl (lv_at hl 1 rfl) ?_
  refine rg_getr F hH.1 0 (ci := 6) rfl (C := RX6) (T := TX6) (N := 9) rfl iwX6_init_X6 3 (d := 88) (n := 88) rfl rfl (by decide) rfl lkX6_init_15 rfl dX6_init_50 ?_
  refine rg_alenq F hH.1 88 rfl rfl dX6_init_53 ?_
  refine lv_nm (x' := 6) (by decide) ?_
  refine lv_icmp_ge (tgt := 76) hx hb dX6_init_54 (by decide) (fun c => absurd c (by decide)) (fun _ => ?_)
  refine lv_aload_n hx hb dX6_init_57 rfl (lv_at hl 1 rfl) ?_
  refine rg_getr F hH.1 0 (ci := 6) rfl (C := RX6) (T := TX6) (N := 9) rfl iwX6_init_X6 3 (d := 88) (n := 88) rfl rfl (by decide) rfl lkX6_init_15 rfl dX6_init_58 ?_
  refine lv_iload_n hx hb dX6_init_61 rfl (lv_at hl 0 rfl) ?_
  refine rg_new (ci := 5) (fl := [none, none, none, some (.inr 0), some (.inr 1), some (.inr 2)]) (C := RX5) (T := TX5) (N := 6) (n := 299) F hH iwX6_init_X5 tyX5 tyX5_ok lkX6_init_3 lkX6_init_4 lkX6_init_5 rfl (fun j hj => by rcases (show j = 0 ∨ j = 1 ∨ j = 2 ∨ j = 3 ∨ j = 4 ∨ j = 5 by omega) with rfl | rfl | rfl | rfl | rfl | rfl <;> rfl) (Nat.le_of_ble_eq_true rfl) (Nat.le_of_ble_eq_true rfl) dX6_init_62 (fun H hH hN => ?_)
  refine W.widen (k := 299) (n := 1692) (by decide) (by decide) ?_
  refine lv_dup hx hb dX6_init_65 rfl ?_
  refine rg_callIN kw5 hK.2.2.2 (As := []) (rest := [.ref (lo + 299), .int 5, .ref (lo + 88)]) F hH (fun q h => h) rfl hN (nX5_init l X (lo + 299)) ⟨va_cnB 0 F.1.2.2.2.2 gX6_init_X5_init_n9 rfl rfl rfl hK.2.1 (F.1.2.2.2.2 _ lkX6_init_5) hiX5_init ⟨Nat.le_of_ble_eq_true rfl, Nat.le_of_ble_eq_true rfl⟩, rfl, (F.1.2.2.2.2 _ lkX6_init_6)⟩ rfl hl.1 (Nat.le_of_ble_eq_true rfl) dX6_init_66 ⟨Nat.le_of_ble_eq_true rfl, Nat.le_of_ble_eq_true rfl⟩ rfl (n' := 341) rfl (Nat.le_of_ble_eq_true rfl) (fun H locs hH => ?_)
  refine W.widen (k := 340) (n := 1917) (by decide) (by decide) ?_
  replace hH := hp_cast (show _ = (pv (pv (pv (pv (pv (pv (pv (pv (pv (pv zM 1 42 wX5_init) 43 42 wX5_init) 85 3 wX2_init) 88 1 zM) 89 42 wX5_init) 131 42 wX5_init) 173 42 wX5_init) 215 42 wX5_init) 257 42 wX5_init) 299 42 wX5_init) from rfl) hH
  replace hH := hp_L hH (show _ = (.inl (6, [some (.inl 1), some (.inl 43), some (.inl 85), some (.inl 88), none, none, none, some (.inr 0), some (.inr 1)]) :: (LW ++ (LW ++ (LPd ++ (.inr (.inr [some 1, some 43, some 85, some 127, some 169, none]) :: (LW ++ (LW ++ (LW ++ (LW ++ (LW ++ LW)))))))))) by simp only [List.cons_append, List.append_assoc, List.nil_append])
  refine rg_aast F hH (fun q h => h) 88 rfl 299 rfl (d := 211) rfl (i := 5) (k := 5) (by decide) (by decide) (by decide) rfl rfl dX6_init_69 (fun H locs hH => ?_)
  replace hH := hp_L hH (show _ = (.inl (6, [some (.inl 1), some (.inl 43), some (.inl 85), some (.inl 88), none, none, none, some (.inr 0), some (.inr 1)]) :: (LW ++ (LW ++ (LPd ++ (.inr (.inr [some 1, some 43, some 85, some 127, some 169, some 211]) :: (LW ++ (LW ++ (LW ++ (LW ++ (LW ++ LW)))))))))) from set88 ..)
  refine lv_iinc (v := 6) (lv' := [(1, .int 6), (0, .ref lo)]) hx hb dX6_init_70 hl (k := 0) rfl (by decide) (by decide) rfl (fun ls hl => ?_)
  refine lv_goto (tgt := 48) hx hb dX6_init_73 (by decide) ?_
  refine lv_iload_n hx hb dX6_init_48 rfl (lv_at hl 0 rfl) ?_
  refine lv_aload_n hx hb dX6_init_49 rfl (lv_at hl 1 rfl) ?_
  refine rg_getr F hH.1 0 (ci := 6) rfl (C := RX6) (T := TX6) (N := 9) rfl iwX6_init_X6 3 (d := 88) (n := 88) rfl rfl (by decide) rfl lkX6_init_15 rfl dX6_init_50 ?_
  refine rg_alenq F hH.1 88 rfl rfl dX6_init_53 ?_
  refine lv_nm (x' := 6) (by decide) ?_
  refine lv_icmp_ge (tgt := 76) hx hb dX6_init_54 (by decide) (fun _ => ?_) (fun c => absurd c (by decide))
  refine lv_aload_n hx hb dX6_init_76 rfl (lv_at hl 1 rfl) ?_
  refine lv_iconst (v := 2) hx hb dX6_init_77 (by decide) ?_
  refine rg_newarrq (n := 341) F hH rfl lkX6_init_14 hK.1 (by decide) (N := 2) (by decide) (by decide) (Nat.le_of_ble_eq_true rfl) (Nat.le_of_ble_eq_true rfl) dX6_init_78 (fun H hH => ?_)
  refine W.widen (k := 341) (n := 1919) (by decide) (by decide) ?_
  replace hH := hp_L hH (show _ = (.inl (6, [some (.inl 1), some (.inl 43), some (.inl 85), some (.inl 88), none, none, none, some (.inr 0), some (.inr 1)]) :: (LW ++ (LW ++ (LPd ++ (.inr (.inr [some 1, some 43, some 85, some 127, some 169, some 211]) :: (LW ++ (LW ++ (LW ++ (LW ++ (LW ++ (LW ++ [.inr (.inr [none, none])]))))))))))) by simp only [List.cons_append, List.append_assoc, List.nil_append, List.replicate])
  refine rg_putF F hH (fun q h => h) (C := RX6) (T := TX6) (N := 9) rfl iwX6_init_X6 tyX6 tyX6_ok nmX6 4 (Nat.le_of_ble_eq_true rfl) (by decide) rfl rfl (hnm.trans rfl) rfl (ty := .array (.object "TideWords$World")) (d := 341) (by decide +kernel) rfl rfl lkX6_init_16 rfl dX6_init_81 (fun H locs hH => ?_)
  replace hH := hp_L hH (show _ = (.inl (6, [some (.inl 1), some (.inl 43), some (.inl 85), some (.inl 88), some (.inl 341), none, none, some (.inr 0), some (.inr 1)]) :: (LW ++ (LW ++ (LPd ++ (.inr (.inr [some 1, some 43, some 85, some 127, some 169, some 211]) :: (LW ++ (LW ++ (LW ++ (LW ++ (LW ++ (LW ++ [.inr (.inr [none, none])]))))))))))) from rfl)
  refine lv_iconst (v := 0) hx hb dX6_init_84 (by decide) ?_
  refine lv_istore_n (lv' := [(1, .int 0), (0, .ref lo)]) hx hb dX6_init_85 rfl hl (by decide) rfl (fun ls hl => ?_)
  refine lv_iload_n hx hb dX6_init_86 rfl (lv_at hl 0 rfl) ?_
  refine lv_aload_n hx hb dX6_init_87 rfl (lv_at hl 1 rfl) ?_
  refine rg_getr F hH.1 0 (ci := 6) rfl (C := RX6) (T := TX6) (N := 9) rfl iwX6_init_X6 4 (d := 341) (n := 341) rfl rfl (by decide) rfl lkX6_init_16 rfl dX6_init_88 ?_
  refine rg_alenq F hH.1 341 rfl rfl dX6_init_91 ?_
  refine lv_nm (x' := 2) (by decide) ?_
  refine lv_icmp_ge (tgt := 114) hx hb dX6_init_92 (by decide) (fun c => absurd c (by decide)) (fun _ => ?_)
  refine lv_aload_n hx hb dX6_init_95 rfl (lv_at hl 1 rfl) ?_
  refine rg_getr F hH.1 0 (ci := 6) rfl (C := RX6) (T := TX6) (N := 9) rfl iwX6_init_X6 4 (d := 341) (n := 341) rfl rfl (by decide) rfl lkX6_init_16 rfl dX6_init_96 ?_
  refine lv_iload_n hx hb dX6_init_99 rfl (lv_at hl 0 rfl) ?_
  refine rg_new (ci := 5) (fl := [none, none, none, some (.inr 0), some (.inr 1), some (.inr 2)]) (C := RX5) (T := TX5) (N := 6) (n := 342) F hH iwX6_init_X5 tyX5 tyX5_ok lkX6_init_3 lkX6_init_4 lkX6_init_5 rfl (fun j hj => by rcases (show j = 0 ∨ j = 1 ∨ j = 2 ∨ j = 3 ∨ j = 4 ∨ j = 5 by omega) with rfl | rfl | rfl | rfl | rfl | rfl <;> rfl) (Nat.le_of_ble_eq_true rfl) (Nat.le_of_ble_eq_true rfl) dX6_init_100 (fun H hH hN => ?_)
  refine W.widen (k := 342) (n := 1925) (by decide) (by decide) ?_
  refine lv_dup hx hb dX6_init_103 rfl ?_
  refine rg_callIN kw5 hK.2.2.2 (As := []) (rest := [.ref (lo + 342), .int 0, .ref (lo + 341)]) F hH (fun q h => h) rfl hN (nX5_init l X (lo + 342)) ⟨va_cnB 0 F.1.2.2.2.2 gX6_init_X5_init_n9 rfl rfl rfl hK.2.1 (F.1.2.2.2.2 _ lkX6_init_5) hiX5_init ⟨Nat.le_of_ble_eq_true rfl, Nat.le_of_ble_eq_true rfl⟩, rfl, (F.1.2.2.2.2 _ lkX6_init_6)⟩ rfl hl.1 (Nat.le_of_ble_eq_true rfl) dX6_init_104 ⟨Nat.le_of_ble_eq_true rfl, Nat.le_of_ble_eq_true rfl⟩ rfl (n' := 384) rfl (Nat.le_of_ble_eq_true rfl) (fun H locs hH => ?_)
  refine W.widen (k := 383) (n := 2150) (by decide) (by decide) ?_
  replace hH := hp_cast (show _ = (pv (pv (pv (pv (pv (pv (pv (pv (pv (pv (pv (pv zM 1 42 wX5_init) 43 42 wX5_init) 85 3 wX2_init) 88 1 zM) 89 42 wX5_init) 131 42 wX5_init) 173 42 wX5_init) 215 42 wX5_init) 257 42 wX5_init) 299 42 wX5_init) 341 1 zM) 342 42 wX5_init) from rfl) hH
  replace hH := hp_L hH (show _ = (.inl (6, [some (.inl 1), some (.inl 43), some (.inl 85), some (.inl 88), some (.inl 341), none, none, some (.inr 0), some (.inr 1)]) :: (LW ++ (LW ++ (LPd ++ (.inr (.inr [some 1, some 43, some 85, some 127, some 169, some 211]) :: (LW ++ (LW ++ (LW ++ (LW ++ (LW ++ (LW ++ (.inr (.inr [none, none]) :: LW)))))))))))) by simp only [List.cons_append, List.append_assoc, List.nil_append])
  refine rg_aast F hH (fun q h => h) 341 rfl 342 rfl (d := 1) rfl (i := 0) (k := 0) (by decide) (by decide) (by decide) rfl rfl dX6_init_107 (fun H locs hH => ?_)
  replace hH := hp_L hH (show _ = (.inl (6, [some (.inl 1), some (.inl 43), some (.inl 85), some (.inl 88), some (.inl 341), none, none, some (.inr 0), some (.inr 1)]) :: (LW ++ (LW ++ (LPd ++ (.inr (.inr [some 1, some 43, some 85, some 127, some 169, some 211]) :: (LW ++ (LW ++ (LW ++ (LW ++ (LW ++ (LW ++ (.inr (.inr [some 1, none]) :: LW)))))))))))) from set341 ..)
  refine lv_iinc (v := 1) (lv' := [(1, .int 1), (0, .ref lo)]) hx hb dX6_init_108 hl (k := 0) rfl (by decide) (by decide) rfl (fun ls hl => ?_)
  refine lv_goto (tgt := 86) hx hb dX6_init_111 (by decide) ?_
  refine lv_iload_n hx hb dX6_init_86 rfl (lv_at hl 0 rfl) ?_
  refine lv_aload_n hx hb dX6_init_87 rfl (lv_at hl 1 rfl) ?_
  refine rg_getr F hH.1 0 (ci := 6) rfl (C := RX6) (T := TX6) (N := 9) rfl iwX6_init_X6 4 (d := 341) (n := 341) rfl rfl (by decide) rfl lkX6_init_16 rfl dX6_init_88 ?_
  refine rg_alenq F hH.1 341 rfl rfl dX6_init_91 ?_
  refine lv_nm (x' := 2) (by decide) ?_
  refine lv_icmp_ge (tgt := 114) hx hb dX6_init_92 (by decide) (fun c => absurd c (by decide)) (fun _ => ?_)
  refine lv_aload_n hx hb dX6_init_95 rfl (lv_at hl 1 rfl) ?_
  refine rg_getr F hH.1 0 (ci := 6) rfl (C := RX6) (T := TX6) (N := 9) rfl iwX6_init_X6 4 (d := 341) (n := 341) rfl rfl (by decide) rfl lkX6_init_16 rfl dX6_init_96 ?_
  refine lv_iload_n hx hb dX6_init_99 rfl (lv_at hl 0 rfl) ?_
  refine rg_new (ci := 5) (fl := [none, none, none, some (.inr 0), some (.inr 1), some (.inr 2)]) (C := RX5) (T := TX5) (N := 6) (n := 384) F hH iwX6_init_X5 tyX5 tyX5_ok lkX6_init_3 lkX6_init_4 lkX6_init_5 rfl (fun j hj => by rcases (show j = 0 ∨ j = 1 ∨ j = 2 ∨ j = 3 ∨ j = 4 ∨ j = 5 by omega) with rfl | rfl | rfl | rfl | rfl | rfl <;> rfl) (Nat.le_of_ble_eq_true rfl) (Nat.le_of_ble_eq_true rfl) dX6_init_100 (fun H hH hN => ?_)
  refine W.widen (k := 384) (n := 2156) (by decide) (by decide) ?_
  refine lv_dup hx hb dX6_init_103 rfl ?_
  refine rg_callIN kw5 hK.2.2.2 (As := []) (rest := [.ref (lo + 384), .int 1, .ref (lo + 341)]) F hH (fun q h => h) rfl hN (nX5_init l X (lo + 384)) ⟨va_cnB 0 F.1.2.2.2.2 gX6_init_X5_init_n9 rfl rfl rfl hK.2.1 (F.1.2.2.2.2 _ lkX6_init_5) hiX5_init ⟨Nat.le_of_ble_eq_true rfl, Nat.le_of_ble_eq_true rfl⟩, rfl, (F.1.2.2.2.2 _ lkX6_init_6)⟩ rfl hl.1 (Nat.le_of_ble_eq_true rfl) dX6_init_104 ⟨Nat.le_of_ble_eq_true rfl, Nat.le_of_ble_eq_true rfl⟩ rfl (n' := 426) rfl (Nat.le_of_ble_eq_true rfl) (fun H locs hH => ?_)
  refine W.widen (k := 425) (n := 2381) (by decide) (by decide) ?_
  replace hH := hp_cast (show _ = (pv (pv (pv (pv (pv (pv (pv (pv (pv (pv (pv (pv (pv zM 1 42 wX5_init) 43 42 wX5_init) 85 3 wX2_init) 88 1 zM) 89 42 wX5_init) 131 42 wX5_init) 173 42 wX5_init) 215 42 wX5_init) 257 42 wX5_init) 299 42 wX5_init) 341 1 zM) 342 42 wX5_init) 384 42 wX5_init) from rfl) hH
  replace hH := hp_L hH (show _ = (.inl (6, [some (.inl 1), some (.inl 43), some (.inl 85), some (.inl 88), some (.inl 341), none, none, some (.inr 0), some (.inr 1)]) :: (LW ++ (LW ++ (LPd ++ (.inr (.inr [some 1, some 43, some 85, some 127, some 169, some 211]) :: (LW ++ (LW ++ (LW ++ (LW ++ (LW ++ (LW ++ (.inr (.inr [some 1, none]) :: (LW ++ LW))))))))))))) by simp only [List.cons_append, List.append_assoc, List.nil_append])
  refine rg_aast F hH (fun q h => h) 341 rfl 384 rfl (d := 43) rfl (i := 1) (k := 1) (by decide) (by decide) (by decide) rfl rfl dX6_init_107 (fun H locs hH => ?_)
  replace hH := hp_L hH (show _ = (.inl (6, [some (.inl 1), some (.inl 43), some (.inl 85), some (.inl 88), some (.inl 341), none, none, some (.inr 0), some (.inr 1)]) :: (LW ++ (LW ++ (LPd ++ (.inr (.inr [some 1, some 43, some 85, some 127, some 169, some 211]) :: (LW ++ (LW ++ (LW ++ (LW ++ (LW ++ (LW ++ (.inr (.inr [some 1, some 43]) :: (LW ++ LW))))))))))))) from set341 ..)
  refine lv_iinc (v := 2) (lv' := [(1, .int 2), (0, .ref lo)]) hx hb dX6_init_108 hl (k := 0) rfl (by decide) (by decide) rfl (fun ls hl => ?_)
  refine lv_goto (tgt := 86) hx hb dX6_init_111 (by decide) ?_
  refine lv_iload_n hx hb dX6_init_86 rfl (lv_at hl 0 rfl) ?_
  refine lv_aload_n hx hb dX6_init_87 rfl (lv_at hl 1 rfl) ?_
  refine rg_getr F hH.1 0 (ci := 6) rfl (C := RX6) (T := TX6) (N := 9) rfl iwX6_init_X6 4 (d := 341) (n := 341) rfl rfl (by decide) rfl lkX6_init_16 rfl dX6_init_88 ?_
  refine rg_alenq F hH.1 341 rfl rfl dX6_init_91 ?_
  refine lv_nm (x' := 2) (by decide) ?_
  refine lv_icmp_ge (tgt := 114) hx hb dX6_init_92 (by decide) (fun _ => ?_) (fun c => absurd c (by decide))
  refine lv_aload_n hx hb dX6_init_114 rfl (lv_at hl 1 rfl) ?_
  refine rg_new (ci := 0) (fl := [none]) (C := RX0) (T := TX0) (N := 1) (n := 426) F hH iwX6_init_X0 tyX0 tyX0_ok lkX6_init_17 lkX6_init_18 lkX6_init_19 rfl (fun j hj => by rcases (show j = 0 by omega) with rfl <;> rfl) (Nat.le_of_ble_eq_true rfl) (Nat.le_of_ble_eq_true rfl) dX6_init_115 (fun H hH hN => ?_)
  refine W.widen (k := 426) (n := 2382) (by decide) (by decide) ?_
  refine lv_dup hx hb dX6_init_118 rfl ?_
  refine lv_iconst (v := 2) hx hb dX6_init_119 (by decide) ?_
  refine rg_callI (As := [.int 2]) (rest := [.ref (lo + 426), .ref lo]) F hH (fun q h => h) rfl hN (nX0_init l X (lo + 426) 2 2 (by decide) (by decide) (by decide)) (cwI 1 F.1.2.2.2.2 gX6_init_X0_init rfl rfl rfl (F.1.2.2.2.2 _ lkX6_init_19) (F.1.2.2.2.2 _ lkX6_init_21) (F.1.2.2.2.2 _ lkX6_init_20) rfl hiX0_init ⟨Nat.le_of_ble_eq_true rfl, Nat.le_of_ble_eq_true rfl⟩) rfl hl.1 (Nat.le_of_ble_eq_true rfl) dX6_init_120 ⟨Nat.le_of_ble_eq_true rfl, Nat.le_of_ble_eq_true rfl⟩ rfl (n' := 428) rfl (Nat.le_of_ble_eq_true rfl) (fun H locs hH => ?_)
  refine W.widen (k := 427) (n := 2384) (by decide) (by decide) ?_
  replace hH := hp_cast (show _ = (pv (pv (pv (pv (pv (pv (pv (pv (pv (pv (pv (pv (pv (pv zM 1 42 wX5_init) 43 42 wX5_init) 85 3 wX2_init) 88 1 zM) 89 42 wX5_init) 131 42 wX5_init) 173 42 wX5_init) 215 42 wX5_init) 257 42 wX5_init) 299 42 wX5_init) 341 1 zM) 342 42 wX5_init) 384 42 wX5_init) 426 2 zM) from rfl) hH
  replace hH := hp_L hH (show _ = (.inl (6, [some (.inl 1), some (.inl 43), some (.inl 85), some (.inl 88), some (.inl 341), none, none, some (.inr 0), some (.inr 1)]) :: (LW ++ (LW ++ (LPd ++ (.inr (.inr [some 1, some 43, some 85, some 127, some 169, some 211]) :: (LW ++ (LW ++ (LW ++ (LW ++ (LW ++ (LW ++ (.inr (.inr [some 1, some 43]) :: (LW ++ (LW ++ (LC 2))))))))))))))) by simp only [List.cons_append, List.append_assoc, List.nil_append])
  refine rg_putF F hH (fun q h => h) (C := RX6) (T := TX6) (N := 9) rfl iwX6_init_X6 tyX6 tyX6_ok nmX6 5 (Nat.le_of_ble_eq_true rfl) (by decide) rfl rfl (hnm.trans rfl) rfl (ty := .object "TideWords$Cells") (d := 426) (by decide +kernel) rfl rfl lkX6_init_22 rfl dX6_init_123 (fun H locs hH => ?_)
  replace hH := hp_L hH (show _ = (.inl (6, [some (.inl 1), some (.inl 43), some (.inl 85), some (.inl 88), some (.inl 341), some (.inl 426), none, some (.inr 0), some (.inr 1)]) :: (LW ++ (LW ++ (LPd ++ (.inr (.inr [some 1, some 43, some 85, some 127, some 169, some 211]) :: (LW ++ (LW ++ (LW ++ (LW ++ (LW ++ (LW ++ (.inr (.inr [some 1, some 43]) :: (LW ++ (LW ++ (LC 2))))))))))))))) from rfl)
  refine lv_aload_n hx hb dX6_init_126 rfl (lv_at hl 1 rfl) ?_
  refine rg_new (ci := 0) (fl := [none]) (C := RX0) (T := TX0) (N := 1) (n := 428) F hH iwX6_init_X0 tyX0 tyX0_ok lkX6_init_17 lkX6_init_18 lkX6_init_19 rfl (fun j hj => by rcases (show j = 0 by omega) with rfl <;> rfl) (Nat.le_of_ble_eq_true rfl) (Nat.le_of_ble_eq_true rfl) dX6_init_127 (fun H hH hN => ?_)
  refine W.widen (k := 428) (n := 2385) (by decide) (by decide) ?_
  refine lv_dup hx hb dX6_init_130 rfl ?_
  refine lv_sipush (v := 200) hx hb dX6_init_131 (by decide) ?_
  refine rg_callI (As := [.int 200]) (rest := [.ref (lo + 428), .ref lo]) F hH (fun q h => h) rfl hN (nX0_init l X (lo + 428) 200 200 (by decide) (by decide) (by decide)) (cwI 1 F.1.2.2.2.2 gX6_init_X0_init rfl rfl rfl (F.1.2.2.2.2 _ lkX6_init_19) (F.1.2.2.2.2 _ lkX6_init_21) (F.1.2.2.2.2 _ lkX6_init_20) rfl hiX0_init ⟨Nat.le_of_ble_eq_true rfl, Nat.le_of_ble_eq_true rfl⟩) rfl hl.1 (Nat.le_of_ble_eq_true rfl) dX6_init_134 ⟨Nat.le_of_ble_eq_true rfl, Nat.le_of_ble_eq_true rfl⟩ rfl (n' := 430) rfl (Nat.le_of_ble_eq_true rfl) (fun H locs hH => ?_)
  refine W.widen (k := 429) (n := 2585) (by decide) (by decide) ?_
  replace hH := hp_cast (show _ = (pv (pv (pv (pv (pv (pv (pv (pv (pv (pv (pv (pv (pv (pv (pv zM 1 42 wX5_init) 43 42 wX5_init) 85 3 wX2_init) 88 1 zM) 89 42 wX5_init) 131 42 wX5_init) 173 42 wX5_init) 215 42 wX5_init) 257 42 wX5_init) 299 42 wX5_init) 341 1 zM) 342 42 wX5_init) 384 42 wX5_init) 426 2 zM) 428 2 zM) from rfl) hH
  replace hH := hp_L hH (show _ = (.inl (6, [some (.inl 1), some (.inl 43), some (.inl 85), some (.inl 88), some (.inl 341), some (.inl 426), none, some (.inr 0), some (.inr 1)]) :: (LW ++ (LW ++ (LPd ++ (.inr (.inr [some 1, some 43, some 85, some 127, some 169, some 211]) :: (LW ++ (LW ++ (LW ++ (LW ++ (LW ++ (LW ++ (.inr (.inr [some 1, some 43]) :: (LW ++ (LW ++ ((LC 2) ++ (LC 200)))))))))))))))) by simp only [List.cons_append, List.append_assoc, List.nil_append])
  refine rg_putF F hH (fun q h => h) (C := RX6) (T := TX6) (N := 9) rfl iwX6_init_X6 tyX6 tyX6_ok nmX6 6 (Nat.le_of_ble_eq_true rfl) (by decide) rfl rfl (hnm.trans rfl) rfl (ty := .object "TideWords$Cells") (d := 428) (by decide +kernel) rfl rfl lkX6_init_23 rfl dX6_init_137 (fun H locs hH => ?_)
  replace hH := hp_L hH (show _ = (.inl (6, [some (.inl 1), some (.inl 43), some (.inl 85), some (.inl 88), some (.inl 341), some (.inl 426), some (.inl 428), some (.inr 0), some (.inr 1)]) :: (LW ++ (LW ++ (LPd ++ (.inr (.inr [some 1, some 43, some 85, some 127, some 169, some 211]) :: (LW ++ (LW ++ (LW ++ (LW ++ (LW ++ (LW ++ (.inr (.inr [some 1, some 43]) :: (LW ++ (LW ++ ((LC 2) ++ (LC 200)))))))))))))))) from rfl)
  replace hH := hp_L hH (show _ = LA from rfl)
  exact W.vret hx hb hr (fun t ht _ => mn_post hH hP.2 ht) hH.2.1.2.2 dX6_init_140
