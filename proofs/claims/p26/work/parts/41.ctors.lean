theorem mn_post {s t : State} {X : kX} {lo : Nat} {LK : List Kd} {V : Mem} {H : Heap} {locs : List Loc} {z : Nat} {aa : Array Value} (hH : Hp (fun q => lo ≤ q) s.heap z X LK lo V H locs) (hs : s.heap.size = lo + 1) (ht : t.heap = H) (hz : z = lo + LK.length := by rfl) : cQn X lo LK V aa s (.returned none) t := by
  obtain ⟨hR, hS, hz2⟩ := hH
  refine ⟨rfl, by rw [ht]; exact hR, by rw [ht, hz2, hz], fun q hq => ?_⟩
  rw [ht]
  exact hS.2.1 q (by omega) (by omega)
theorem mt_headA {l : Launch} {y : MethodName} {ws ws' : List Cond} {rm : Room} {X : kX} {av : List Value} {P : Heap → Prop} {Qc : Array Value → State → Outcome → State → Prop} {mc ms : Nat} {free : Addr → Prop} {cc : ByteArray} {maxL : Nat} {ret : Option FieldType} {own : String} {K : State → Prop}
    (hy : plainName y.cls = true) (ho : y.cls = own) (hw : ws = Cond.code y cc maxL ret :: ws') (hn : (lg_sl av).length ≤ maxL)
    (body : ∀ (p : Program) (e : Env) (s : State) (m : MethodId) (below : List Frame) (meth : Method) (c : Code) (ls : Array Slot), Fx p c s m av.toArray ws own cc maxL X → K s → meth.sig.returnType = ret → meth.locks = false → meth.name = y.name → P s.heap → lv_has ls maxL (lv_args 0 av) →
      W p l e rm s m av.toArray below meth c s.heap [] 0 0 (MQ below Qc av.toArray s mc ms free) (F0 m 0 ls [])) : Met l y ws rm (fun a U => cPc X av P a U ∧ K U) Qc mc ms free := by
  refine Met.ofW (cc := cc) (maxL := maxL) (ret := ret) hy hw ?_
  intro p e s m args below meth c s₁ B hml hv
  obtain ⟨⟨rfl, hP, hK⟩, hK2⟩ := hv
  have hl := lv_entry av hn
  rw [lg_entry_eq]
  subst ho
  exact body p e s m below meth c _ ⟨⟨B.exec, B.bytes, hml, findClass_of_methodNamed B.named, atoms_spec (ws := ws) B.pre⟩, hK⟩ hK2 B.returns B.notSynchronized (name_of_methodNamed B.named B.method).1 hP hl
def kT : State → Prop := fun _ => True
def k5 : State → Prop := fun U => va_Nw (.methodLinkNest RX5 27 yX4_init RX6) U ∧ True
def k6 : State → Prop := fun U => va_AO "TideWords$World" U ∧ va_Nw (.methodLinkNest RX6 9 yX5_init RX6) U ∧ va_Nw (.methodLinkNest RX6 21 yX2_init RX6) U ∧ k5 U
theorem kwT : KW kT := ⟨fun _ _ _ _ _ => trivial, fun _ _ _ _ => trivial⟩
theorem kw5 : KW k5 := ⟨fun _ _ _ _ h => ⟨va_Nw.same rfl rfl h.1, trivial⟩, fun _ _ hW h => ⟨va_Nw.warmM hW h.1, trivial⟩⟩
theorem kw6 : KW k6 := ⟨fun _ U _ _ h => ⟨va_AO.moved (Vm.Alike.refl U.vm) h.1, va_Nw.same rfl rfl h.2.1, va_Nw.same rfl rfl h.2.2.1, kw5.1 _ _ _ _ h.2.2.2⟩, fun _ _ hW h => ⟨va_AO.moved hW.alike h.1, va_Nw.warmM hW h.2.1, va_Nw.warmM hW h.2.2.1, kw5.2 _ _ hW h.2.2.2⟩⟩
abbrev rmX0_init (n : Nat) : Room := { frames := 1, cells := 1, slots := n, locals := 24 }
set_option maxRecDepth 20000 in
theorem iwX0_init_X0 : ∀ w ∈ wsX00, w ∈ wsX0_init := by decide +kernel
set_option maxHeartbeats 4000000 in
set_option maxRecDepth 100000 in
theorem nX0_init (l : Launch) (X : kX) (lo : Nat) (i : Int32) (n : Nat) (hi : ¬ i < 0) (hn : i.toNatClampNeg = n) (hby : n * 4 ≤ 536870912) : MC l yX0_init wsX0_init (rmX0_init n) X [.ref lo, .int i] lo (.inl (0, [none])) (LC n) zM 1 n := by
  refine mt_head (cc := cX0_init) (maxL := 2) (ret := none) (own := RX0) (by decide) rfl rfl (Nat.le_of_ble_eq_true rfl) ?_
  intro p e s m below meth c ls F hr hlocks hnm hP hl
  have hx := F.1.1
  have hb := F.1.2.1
  have hts := F.1.2.2.2.2
  have hH : Hp (fun q => lo ≤ q) s.heap (lo + 1) X [.inl (0, [none])] lo zM s.heap [] := ⟨hP.1, va_S.rf, hP.2⟩
  have hl : lv_has ls 2 [(0, .ref lo), (1, .int i)] := hl
  refine lv_aload_n hx hb dX0_init_0 rfl (lv_at hl 0 rfl) ?_
  refine W.objInit hx hb F.1.2.2.2.1 (hts (Cond.methodLink RX0 1 objectInit) (by decide +kernel)) (hts (Cond.instanceMethod objectInit) (by decide +kernel)) (hts (Cond.code objectInit ⟨#[0xb1]⟩ 1 none) (by decide +kernel)) rfl (hl.1.trans F.1.2.2.1.symm) rfl dX0_init_1 (Nat.le_refl _) (Nat.le_of_ble_eq_true rfl) ?_
  refine W.eq (g2 := F0 m 4 ls []) rfl ?_
  refine lv_aload_n hx hb dX0_init_4 rfl (lv_at hl 0 rfl) ?_
  refine lv_iload_n hx hb dX0_init_5 rfl (lv_at hl 1 rfl) ?_
  refine lv_iconst (v := 0) hx hb dX0_init_6 (by decide) ?_
  refine va_mmax hx hb (F.1.2.2.1.trans hl.1.symm) F.1.2.2.2.1 (hts (.methodLink RX0 7 Lib.Math.max.name) (by decide +kernel)) (hts (.static Lib.Math.max.name) (by decide +kernel)) (hts (.initialized "java/lang/Math") (by decide +kernel)) (hts (.code Lib.Math.max.name Lib.Math.max.code 2 (some .int)) (by decide +kernel)) (Nat.le_refl _) (Nat.le_of_ble_eq_true rfl) (Nat.zero_le _) (Nat.zero_le _) dX0_init_7 ?_
  refine lv_nm (x' := i) (if_neg hi) ?_
  refine rg_newarr (n := 1) F hH rfl (by decide +kernel) hi hn hby (Nat.le_refl _) (Nat.le_of_eq (Nat.zero_add n)) dX0_init_10 (fun H hH => ?_)
  refine rg_putF F hH (fun q h => h) (C := RX0) (T := TX0) (N := 1) rfl iwX0_init_X0 tyX0 tyX0_ok nmX0 0 (by decide) (by decide) rfl rfl (hnm.trans rfl) rfl (ty := .array .int) (d := 1) (by decide +kernel) rfl rfl (show Cond.fieldLink RX0 13 "TideWords$Cells" "cells" "[I" ∈ wsX0_init by decide +kernel) rfl dX0_init_12 (fun H locs hH => ?_)
  refine W.widen (k := 1) (n := n) (by decide) (Nat.le_of_eq (Nat.zero_add n)) ?_
  have e9 : pv zM 1 1 zM = zM := by
    funext j q
    unfold pv zM
    split <;> rfl
  rw [e9] at hH
  exact W.vret hx hb hr (fun t ht _ => mn_post (LK := LC n) hH hP.2 ht) hH.2.1.2.2 dX0_init_15

set_option maxRecDepth 20000 in
theorem lkX3_init_0 : Cond.methodLink RX3 3 objectInit ∈ wsX3_init := by decide +kernel
set_option maxRecDepth 20000 in
theorem lkX3_init_1 : Cond.instanceMethod objectInit ∈ wsX3_init := by decide +kernel
set_option maxRecDepth 20000 in
theorem lkX3_init_2 : Cond.code objectInit ⟨#[0xb1]⟩ 1 none ∈ wsX3_init := by decide +kernel
set_option maxRecDepth 20000 in
theorem lkX3_init_3 : Cond.classLink RX3 9 RX0 ∈ wsX3_init := by decide +kernel
set_option maxRecDepth 20000 in
theorem lkX3_init_4 : Cond.instantiable RX0 1 ∈ wsX3_init := by decide +kernel
set_option maxRecDepth 20000 in
theorem lkX3_init_5 : Cond.initialized RX0 ∈ wsX3_init := by decide +kernel
set_option maxRecDepth 20000 in
theorem iwX3_init_X0 : ∀ w ∈ wsX00, w ∈ wsX3_init := by decide +kernel
set_option maxRecDepth 20000 in
theorem lkX3_init_6 : Cond.instanceMethod yX0_init ∈ wsX3_init := by decide +kernel
set_option maxRecDepth 20000 in
theorem lkX3_init_7 : Cond.methodLink RX3 11 yX0_init ∈ wsX3_init := by decide +kernel
theorem hiX0_init : yX0_init.cls ≠ "java/lang/invoke/MethodHandle" ∧ yX0_init.cls ≠ "java/lang/invoke/VarHandle" ∧ (parseMethodDescriptor yX0_init.desc).map (fun d => d.parameters.length) = some 1 := by decide +kernel
set_option maxRecDepth 20000 in
theorem lkX3_init_8 : Cond.fieldLink RX3 14 "TideWords$Tides" "means" "LTideWords$Cells;" ∈ wsX3_init := by decide +kernel
set_option maxRecDepth 20000 in
theorem iwX3_init_X3 : ∀ w ∈ wsX30, w ∈ wsX3_init := by decide +kernel
set_option maxRecDepth 20000 in
theorem lkX3_init_9 : Cond.fieldLink RX3 20 "TideWords$Tides" "swings" "LTideWords$Cells;" ∈ wsX3_init := by decide +kernel
set_option maxRecDepth 20000 in
theorem lkX3_init_10 : Cond.fieldLink RX3 23 "TideWords$Tides" "periods" "LTideWords$Cells;" ∈ wsX3_init := by decide +kernel
set_option maxRecDepth 20000 in
theorem lkX3_init_11 : Cond.fieldLink RX3 26 "TideWords$Tides" "lies" "LTideWords$Cells;" ∈ wsX3_init := by decide +kernel
def wX3_init : Mem := (fX3_change (fX3_change (pv (pv (pv (pv zM 1 2 zM) 3 2 zM) 5 2 zM) 7 2 zM) 0 100 30 24) 1 100 30 20)
abbrev rmX3_init : Room := { frames := 2, cells := 8, slots := 12, locals := 46 }
set_option maxHeartbeats 8000000 in
set_option maxRecDepth 100000 in
theorem nX3_init (l : Launch) (X : kX) (lo : Nat) : MC l yX3_init wsX3_init rmX3_init X [.ref lo] lo (.inl (3, [none, none, none, none])) LT wX3_init 8 12 := by
  refine mt_head (cc := cX3_init) (maxL := 1) (ret := none) (own := RX3) (by decide) rfl rfl (Nat.le_of_ble_eq_true rfl) ?_
  intro p e s m below meth c ls F hr hlocks hnm hP hl
  have hx := F.1.1
  have hb := F.1.2.1
  have hH : Hp (fun q => lo ≤ q) s.heap (lo + 1) X [.inl (3, [none, none, none, none])] lo zM s.heap [] := ⟨hP.1, va_S.rf, hP.2⟩
  have hl : lv_has ls 1 [(0, .ref lo)] := hl
  refine lv_aload_n hx hb dX3_init_0 rfl (lv_at hl 0 rfl) ?_
  refine W.objInit hx hb F.1.2.2.2.1 (F.1.2.2.2.2 _ lkX3_init_0) (F.1.2.2.2.2 _ lkX3_init_1) (F.1.2.2.2.2 _ lkX3_init_2) rfl (hl.1.trans F.1.2.2.1.symm) rfl dX3_init_1 (Nat.le_of_ble_eq_true rfl) (Nat.le_of_ble_eq_true rfl) ?_
  refine W.eq (g2 := F0 m 4 ls []) rfl ?_
  refine lv_aload_n hx hb dX3_init_4 rfl (lv_at hl 0 rfl) ?_
  refine rg_new (ci := 0) (fl := [none]) (C := RX0) (T := TX0) (N := 1) (n := 1) F hH iwX3_init_X0 tyX0 tyX0_ok lkX3_init_3 lkX3_init_4 lkX3_init_5 rfl (fun j hj => by rcases (show j = 0 by omega) with rfl <;> rfl) (Nat.le_of_ble_eq_true rfl) (Nat.le_of_ble_eq_true rfl) dX3_init_5 (fun H hH hN => ?_)
  refine W.widen (k := 1) (n := 1) (by decide) (by decide) ?_
  refine lv_dup hx hb dX3_init_8 rfl ?_
  refine lv_iconst (v := 2) hx hb dX3_init_9 (by decide) ?_
  refine rg_callI (As := [.int 2]) (rest := [.ref (lo + 1), .ref lo]) F hH (fun q h => h) rfl hN (nX0_init l X (lo + 1) 2 2 (by decide) (by decide) (by decide)) (cwI 1 F.1.2.2.2.2 gX3_init_X0_init rfl rfl rfl (F.1.2.2.2.2 _ lkX3_init_5) (F.1.2.2.2.2 _ lkX3_init_7) (F.1.2.2.2.2 _ lkX3_init_6) rfl hiX0_init ⟨Nat.le_of_ble_eq_true rfl, Nat.le_of_ble_eq_true rfl⟩) rfl hl.1 (Nat.le_of_ble_eq_true rfl) dX3_init_10 ⟨Nat.le_of_ble_eq_true rfl, Nat.le_of_ble_eq_true rfl⟩ rfl (n' := 3) rfl (Nat.le_of_ble_eq_true rfl) (fun H locs hH => ?_)
  refine W.widen (k := 2) (n := 3) (by decide) (by decide) ?_
  replace hH := hp_cast (show _ = (pv zM 1 2 zM) from rfl) hH
  refine rg_putF F hH (fun q h => h) (C := RX3) (T := TX3) (N := 4) rfl iwX3_init_X3 tyX3 tyX3_ok nmX3 0 (Nat.le_of_ble_eq_true rfl) (by decide) rfl rfl (hnm.trans rfl) rfl (ty := .object "TideWords$Cells") (d := 1) (by decide +kernel) rfl rfl lkX3_init_8 rfl dX3_init_13 (fun H locs hH => ?_)
  refine lv_aload_n hx hb dX3_init_16 rfl (lv_at hl 0 rfl) ?_
  refine rg_new (ci := 0) (fl := [none]) (C := RX0) (T := TX0) (N := 1) (n := 3) F hH iwX3_init_X0 tyX0 tyX0_ok lkX3_init_3 lkX3_init_4 lkX3_init_5 rfl (fun j hj => by rcases (show j = 0 by omega) with rfl <;> rfl) (Nat.le_of_ble_eq_true rfl) (Nat.le_of_ble_eq_true rfl) dX3_init_17 (fun H hH hN => ?_)
  refine W.widen (k := 3) (n := 4) (by decide) (by decide) ?_
  refine lv_dup hx hb dX3_init_20 rfl ?_
  refine lv_iconst (v := 2) hx hb dX3_init_21 (by decide) ?_
  refine rg_callI (As := [.int 2]) (rest := [.ref (lo + 3), .ref lo]) F hH (fun q h => h) rfl hN (nX0_init l X (lo + 3) 2 2 (by decide) (by decide) (by decide)) (cwI 1 F.1.2.2.2.2 gX3_init_X0_init rfl rfl rfl (F.1.2.2.2.2 _ lkX3_init_5) (F.1.2.2.2.2 _ lkX3_init_7) (F.1.2.2.2.2 _ lkX3_init_6) rfl hiX0_init ⟨Nat.le_of_ble_eq_true rfl, Nat.le_of_ble_eq_true rfl⟩) rfl hl.1 (Nat.le_of_ble_eq_true rfl) dX3_init_22 ⟨Nat.le_of_ble_eq_true rfl, Nat.le_of_ble_eq_true rfl⟩ rfl (n' := 5) rfl (Nat.le_of_ble_eq_true rfl) (fun H locs hH => ?_)
  refine W.widen (k := 4) (n := 6) (by decide) (by decide) ?_
  replace hH := hp_cast (show _ = (pv (pv zM 1 2 zM) 3 2 zM) from rfl) hH
  refine rg_putF F hH (fun q h => h) (C := RX3) (T := TX3) (N := 4) rfl iwX3_init_X3 tyX3 tyX3_ok nmX3 1 (Nat.le_of_ble_eq_true rfl) (by decide) rfl rfl (hnm.trans rfl) rfl (ty := .object "TideWords$Cells") (d := 3) (by decide +kernel) rfl rfl lkX3_init_9 rfl dX3_init_25 (fun H locs hH => ?_)
  refine lv_aload_n hx hb dX3_init_28 rfl (lv_at hl 0 rfl) ?_
  refine rg_new (ci := 0) (fl := [none]) (C := RX0) (T := TX0) (N := 1) (n := 5) F hH iwX3_init_X0 tyX0 tyX0_ok lkX3_init_3 lkX3_init_4 lkX3_init_5 rfl (fun j hj => by rcases (show j = 0 by omega) with rfl <;> rfl) (Nat.le_of_ble_eq_true rfl) (Nat.le_of_ble_eq_true rfl) dX3_init_29 (fun H hH hN => ?_)
  refine W.widen (k := 5) (n := 7) (by decide) (by decide) ?_
  refine lv_dup hx hb dX3_init_32 rfl ?_
  refine lv_iconst (v := 2) hx hb dX3_init_33 (by decide) ?_
  refine rg_callI (As := [.int 2]) (rest := [.ref (lo + 5), .ref lo]) F hH (fun q h => h) rfl hN (nX0_init l X (lo + 5) 2 2 (by decide) (by decide) (by decide)) (cwI 1 F.1.2.2.2.2 gX3_init_X0_init rfl rfl rfl (F.1.2.2.2.2 _ lkX3_init_5) (F.1.2.2.2.2 _ lkX3_init_7) (F.1.2.2.2.2 _ lkX3_init_6) rfl hiX0_init ⟨Nat.le_of_ble_eq_true rfl, Nat.le_of_ble_eq_true rfl⟩) rfl hl.1 (Nat.le_of_ble_eq_true rfl) dX3_init_34 ⟨Nat.le_of_ble_eq_true rfl, Nat.le_of_ble_eq_true rfl⟩ rfl (n' := 7) rfl (Nat.le_of_ble_eq_true rfl) (fun H locs hH => ?_)
  refine W.widen (k := 6) (n := 9) (by decide) (by decide) ?_
  replace hH := hp_cast (show _ = (pv (pv (pv zM 1 2 zM) 3 2 zM) 5 2 zM) from rfl) hH
  refine rg_putF F hH (fun q h => h) (C := RX3) (T := TX3) (N := 4) rfl iwX3_init_X3 tyX3 tyX3_ok nmX3 2 (Nat.le_of_ble_eq_true rfl) (by decide) rfl rfl (hnm.trans rfl) rfl (ty := .object "TideWords$Cells") (d := 5) (by decide +kernel) rfl rfl lkX3_init_10 rfl dX3_init_37 (fun H locs hH => ?_)
  refine lv_aload_n hx hb dX3_init_40 rfl (lv_at hl 0 rfl) ?_
  refine rg_new (ci := 0) (fl := [none]) (C := RX0) (T := TX0) (N := 1) (n := 7) F hH iwX3_init_X0 tyX0 tyX0_ok lkX3_init_3 lkX3_init_4 lkX3_init_5 rfl (fun j hj => by rcases (show j = 0 by omega) with rfl <;> rfl) (Nat.le_of_ble_eq_true rfl) (Nat.le_of_ble_eq_true rfl) dX3_init_41 (fun H hH hN => ?_)
  refine W.widen (k := 7) (n := 10) (by decide) (by decide) ?_
  refine lv_dup hx hb dX3_init_44 rfl ?_
  refine lv_iconst (v := 2) hx hb dX3_init_45 (by decide) ?_
  refine rg_callI (As := [.int 2]) (rest := [.ref (lo + 7), .ref lo]) F hH (fun q h => h) rfl hN (nX0_init l X (lo + 7) 2 2 (by decide) (by decide) (by decide)) (cwI 1 F.1.2.2.2.2 gX3_init_X0_init rfl rfl rfl (F.1.2.2.2.2 _ lkX3_init_5) (F.1.2.2.2.2 _ lkX3_init_7) (F.1.2.2.2.2 _ lkX3_init_6) rfl hiX0_init ⟨Nat.le_of_ble_eq_true rfl, Nat.le_of_ble_eq_true rfl⟩) rfl hl.1 (Nat.le_of_ble_eq_true rfl) dX3_init_46 ⟨Nat.le_of_ble_eq_true rfl, Nat.le_of_ble_eq_true rfl⟩ rfl (n' := 9) rfl (Nat.le_of_ble_eq_true rfl) (fun H locs hH => ?_)
  refine W.widen (k := 8) (n := 12) (by decide) (by decide) ?_
  replace hH := hp_cast (show _ = (pv (pv (pv (pv zM 1 2 zM) 3 2 zM) 5 2 zM) 7 2 zM) from rfl) hH
  refine rg_putF F hH (fun q h => h) (C := RX3) (T := TX3) (N := 4) rfl iwX3_init_X3 tyX3 tyX3_ok nmX3 3 (Nat.le_of_ble_eq_true rfl) (by decide) rfl rfl (hnm.trans rfl) rfl (ty := .object "TideWords$Cells") (d := 7) (by decide +kernel) rfl rfl lkX3_init_11 rfl dX3_init_49 (fun H locs hH => ?_)
  refine lv_aload_n hx hb dX3_init_52 rfl (lv_at hl 0 rfl) ?_
  refine lv_iconst (v := 0) hx hb dX3_init_53 (by decide) ?_
  refine lv_bipush (v := 100) hx hb dX3_init_54 (by decide) ?_
  refine lv_bipush (v := 30) hx hb dX3_init_56 (by decide) ?_
  refine lv_bipush (v := 24) hx hb dX3_init_58 (by decide) ?_
  replace hH := hp_L hH (show _ = LT from rfl)
  refine rg_callWS (As := [.int 0, .int 100, .int 30, .int 24]) (rest := []) F hH (fun q h _ => h) (mX3_change l X lo (pv (pv (pv (pv zM 1 2 zM) 3 2 zM) 5 2 zM) 7 2 zM) 0 100 30 24 _ rfl) (cwV 4 F.1.2.2.2.2 gX3_init_X3_change rfl rfl rfl hvX3_change ⟨Nat.le_of_ble_eq_true rfl, Nat.le_of_ble_eq_true rfl⟩) (rp_recv F hH.1 0 rfl (C := RX3) (T := TX3) (N := 4) rfl rfl) hH.1 rfl hl.1 (Nat.le_of_ble_eq_true rfl) dX3_init_60 ⟨Nat.le_of_ble_eq_true rfl, Nat.le_of_ble_eq_true rfl⟩ rfl (fun H locs hH => ?_)
  replace hH := hp_cast (show _ = (fX3_change (pv (pv (pv (pv zM 1 2 zM) 3 2 zM) 5 2 zM) 7 2 zM) 0 100 30 24) from rfl) hH
  refine lv_aload_n hx hb dX3_init_63 rfl (lv_at hl 0 rfl) ?_
  refine lv_iconst (v := 1) hx hb dX3_init_64 (by decide) ?_
  refine lv_bipush (v := 100) hx hb dX3_init_65 (by decide) ?_
  refine lv_bipush (v := 30) hx hb dX3_init_67 (by decide) ?_
  refine lv_bipush (v := 20) hx hb dX3_init_69 (by decide) ?_
  refine rg_callWS (As := [.int 1, .int 100, .int 30, .int 20]) (rest := []) F hH (fun q h _ => h) (mX3_change l X lo (fX3_change (pv (pv (pv (pv zM 1 2 zM) 3 2 zM) 5 2 zM) 7 2 zM) 0 100 30 24) 1 100 30 20 _ rfl) (cwV 4 F.1.2.2.2.2 gX3_init_X3_change rfl rfl rfl hvX3_change ⟨Nat.le_of_ble_eq_true rfl, Nat.le_of_ble_eq_true rfl⟩) (rp_recv F hH.1 0 rfl (C := RX3) (T := TX3) (N := 4) rfl rfl) hH.1 rfl hl.1 (Nat.le_of_ble_eq_true rfl) dX3_init_71 ⟨Nat.le_of_ble_eq_true rfl, Nat.le_of_ble_eq_true rfl⟩ rfl (fun H locs hH => ?_)
  replace hH := hp_cast (show _ = (fX3_change (fX3_change (pv (pv (pv (pv zM 1 2 zM) 3 2 zM) 5 2 zM) 7 2 zM) 0 100 30 24) 1 100 30 20) from rfl) hH
  exact W.vret hx hb hr (fun t ht _ => mn_post hH hP.2 ht) hH.2.1.2.2 dX3_init_74
set_option maxRecDepth 20000 in
theorem lkX1_init_0 : Cond.methodLink RX1 3 objectInit ∈ wsX1_init := by decide +kernel
set_option maxRecDepth 20000 in
theorem lkX1_init_1 : Cond.instanceMethod objectInit ∈ wsX1_init := by decide +kernel
set_option maxRecDepth 20000 in
theorem lkX1_init_2 : Cond.code objectInit ⟨#[0xb1]⟩ 1 none ∈ wsX1_init := by decide +kernel
set_option maxRecDepth 20000 in
theorem lkX1_init_3 : Cond.classLink RX1 9 RX0 ∈ wsX1_init := by decide +kernel
set_option maxRecDepth 20000 in
theorem lkX1_init_4 : Cond.instantiable RX0 1 ∈ wsX1_init := by decide +kernel
set_option maxRecDepth 20000 in
theorem lkX1_init_5 : Cond.initialized RX0 ∈ wsX1_init := by decide +kernel
set_option maxRecDepth 20000 in
theorem iwX1_init_X0 : ∀ w ∈ wsX00, w ∈ wsX1_init := by decide +kernel
set_option maxRecDepth 20000 in
theorem lkX1_init_6 : Cond.instanceMethod yX0_init ∈ wsX1_init := by decide +kernel
set_option maxRecDepth 20000 in
theorem lkX1_init_7 : Cond.methodLink RX1 11 yX0_init ∈ wsX1_init := by decide +kernel
set_option maxRecDepth 20000 in
theorem lkX1_init_8 : Cond.fieldLink RX1 14 "TideWords$Gates" "sides" "LTideWords$Cells;" ∈ wsX1_init := by decide +kernel
set_option maxRecDepth 20000 in
theorem iwX1_init_X1 : ∀ w ∈ wsX10, w ∈ wsX1_init := by decide +kernel
set_option maxRecDepth 20000 in
theorem lkX1_init_9 : Cond.fieldLink RX1 20 "TideWords$Gates" "slacks" "LTideWords$Cells;" ∈ wsX1_init := by decide +kernel
set_option maxRecDepth 20000 in
theorem lkX1_init_10 : Cond.fieldLink RX1 23 "TideWords$Gates" "ways" "LTideWords$Cells;" ∈ wsX1_init := by decide +kernel
set_option maxRecDepth 20000 in
theorem lkX1_init_11 : Cond.fieldLink RX1 26 "TideWords$Gates" "shuts" "LTideWords$Cells;" ∈ wsX1_init := by decide +kernel
set_option maxRecDepth 20000 in
theorem lkX1_init_12 : Cond.fieldLink RX1 29 "TideWords$Gates" "held" "LTideWords$Cells;" ∈ wsX1_init := by decide +kernel
set_option maxRecDepth 20000 in
theorem lkX1_init_13 : Cond.fieldLink RX1 32 "TideWords$Gates" "lettersDone" "LTideWords$Cells;" ∈ wsX1_init := by decide +kernel
set_option maxRecDepth 20000 in
theorem lkX1_init_14 : Cond.fieldLink RX1 35 "TideWords$Gates" "passedWords" "LTideWords$Cells;" ∈ wsX1_init := by decide +kernel
set_option maxRecDepth 20000 in
theorem lkX1_init_15 : Cond.fieldLink RX1 38 "TideWords$Gates" "vainLetters" "LTideWords$Cells;" ∈ wsX1_init := by decide +kernel
def wX1_init : Mem := (cset (fX1_change (cset (fX1_change (cset (fX1_change (cset (fX1_change (pv (pv (pv (pv (pv (pv (pv (pv zM 1 2 zM) 3 2 zM) 5 2 zM) 7 2 zM) 9 2 zM) 11 2 zM) 13 2 zM) 15 2 zM) 0 0 5 0) 10 4 0 (-1006)) 1 1 5 0) 10 4 1 (-1006)) 2 0 5 0) 10 4 2 (-1006)) 3 1 5 0) 10 4 3 (-1006))
abbrev rmX1_init : Room := { frames := 2, cells := 16, slots := 40, locals := 46 }
set_option maxHeartbeats 8000000 in
set_option maxRecDepth 100000 in
theorem nX1_init (l : Launch) (X : kX) (lo : Nat) : MC l yX1_init wsX1_init rmX1_init X [.ref lo] lo (.inl (1, [none, none, none, none, none, none, none, none])) LG wX1_init 16 40 := by
  refine mt_head (cc := cX1_init) (maxL := 2) (ret := none) (own := RX1) (by decide) rfl rfl (Nat.le_of_ble_eq_true rfl) ?_
  intro p e s m below meth c ls F hr hlocks hnm hP hl
  have hx := F.1.1
  have hb := F.1.2.1
  have hH : Hp (fun q => lo ≤ q) s.heap (lo + 1) X [.inl (1, [none, none, none, none, none, none, none, none])] lo zM s.heap [] := ⟨hP.1, va_S.rf, hP.2⟩
  have hl : lv_has ls 2 [(0, .ref lo)] := hl
  refine lv_aload_n hx hb dX1_init_0 rfl (lv_at hl 0 rfl) ?_
  refine W.objInit hx hb F.1.2.2.2.1 (F.1.2.2.2.2 _ lkX1_init_0) (F.1.2.2.2.2 _ lkX1_init_1) (F.1.2.2.2.2 _ lkX1_init_2) rfl (hl.1.trans F.1.2.2.1.symm) rfl dX1_init_1 (Nat.le_of_ble_eq_true rfl) (Nat.le_of_ble_eq_true rfl) ?_
  refine W.eq (g2 := F0 m 4 ls []) rfl ?_
  refine lv_aload_n hx hb dX1_init_4 rfl (lv_at hl 0 rfl) ?_
  refine rg_new (ci := 0) (fl := [none]) (C := RX0) (T := TX0) (N := 1) (n := 1) F hH iwX1_init_X0 tyX0 tyX0_ok lkX1_init_3 lkX1_init_4 lkX1_init_5 rfl (fun j hj => by rcases (show j = 0 by omega) with rfl <;> rfl) (Nat.le_of_ble_eq_true rfl) (Nat.le_of_ble_eq_true rfl) dX1_init_5 (fun H hH hN => ?_)
  refine W.widen (k := 1) (n := 1) (by decide) (by decide) ?_
  refine lv_dup hx hb dX1_init_8 rfl ?_
  refine lv_iconst (v := 4) hx hb dX1_init_9 (by decide) ?_
  refine rg_callI (As := [.int 4]) (rest := [.ref (lo + 1), .ref lo]) F hH (fun q h => h) rfl hN (nX0_init l X (lo + 1) 4 4 (by decide) (by decide) (by decide)) (cwI 1 F.1.2.2.2.2 gX1_init_X0_init rfl rfl rfl (F.1.2.2.2.2 _ lkX1_init_5) (F.1.2.2.2.2 _ lkX1_init_7) (F.1.2.2.2.2 _ lkX1_init_6) rfl hiX0_init ⟨Nat.le_of_ble_eq_true rfl, Nat.le_of_ble_eq_true rfl⟩) rfl hl.1 (Nat.le_of_ble_eq_true rfl) dX1_init_10 ⟨Nat.le_of_ble_eq_true rfl, Nat.le_of_ble_eq_true rfl⟩ rfl (n' := 3) rfl (Nat.le_of_ble_eq_true rfl) (fun H locs hH => ?_)
  refine W.widen (k := 2) (n := 5) (by decide) (by decide) ?_
  replace hH := hp_cast (show _ = (pv zM 1 2 zM) from rfl) hH
  refine rg_putF F hH (fun q h => h) (C := RX1) (T := TX1) (N := 8) rfl iwX1_init_X1 tyX1 tyX1_ok nmX1 0 (Nat.le_of_ble_eq_true rfl) (by decide) rfl rfl (hnm.trans rfl) rfl (ty := .object "TideWords$Cells") (d := 1) (by decide +kernel) rfl rfl lkX1_init_8 rfl dX1_init_13 (fun H locs hH => ?_)
  refine lv_aload_n hx hb dX1_init_16 rfl (lv_at hl 0 rfl) ?_
  refine rg_new (ci := 0) (fl := [none]) (C := RX0) (T := TX0) (N := 1) (n := 3) F hH iwX1_init_X0 tyX0 tyX0_ok lkX1_init_3 lkX1_init_4 lkX1_init_5 rfl (fun j hj => by rcases (show j = 0 by omega) with rfl <;> rfl) (Nat.le_of_ble_eq_true rfl) (Nat.le_of_ble_eq_true rfl) dX1_init_17 (fun H hH hN => ?_)
  refine W.widen (k := 3) (n := 6) (by decide) (by decide) ?_
  refine lv_dup hx hb dX1_init_20 rfl ?_
  refine lv_iconst (v := 4) hx hb dX1_init_21 (by decide) ?_
  refine rg_callI (As := [.int 4]) (rest := [.ref (lo + 3), .ref lo]) F hH (fun q h => h) rfl hN (nX0_init l X (lo + 3) 4 4 (by decide) (by decide) (by decide)) (cwI 1 F.1.2.2.2.2 gX1_init_X0_init rfl rfl rfl (F.1.2.2.2.2 _ lkX1_init_5) (F.1.2.2.2.2 _ lkX1_init_7) (F.1.2.2.2.2 _ lkX1_init_6) rfl hiX0_init ⟨Nat.le_of_ble_eq_true rfl, Nat.le_of_ble_eq_true rfl⟩) rfl hl.1 (Nat.le_of_ble_eq_true rfl) dX1_init_22 ⟨Nat.le_of_ble_eq_true rfl, Nat.le_of_ble_eq_true rfl⟩ rfl (n' := 5) rfl (Nat.le_of_ble_eq_true rfl) (fun H locs hH => ?_)
  refine W.widen (k := 4) (n := 10) (by decide) (by decide) ?_
  replace hH := hp_cast (show _ = (pv (pv zM 1 2 zM) 3 2 zM) from rfl) hH
  refine rg_putF F hH (fun q h => h) (C := RX1) (T := TX1) (N := 8) rfl iwX1_init_X1 tyX1 tyX1_ok nmX1 1 (Nat.le_of_ble_eq_true rfl) (by decide) rfl rfl (hnm.trans rfl) rfl (ty := .object "TideWords$Cells") (d := 3) (by decide +kernel) rfl rfl lkX1_init_9 rfl dX1_init_25 (fun H locs hH => ?_)
  refine lv_aload_n hx hb dX1_init_28 rfl (lv_at hl 0 rfl) ?_
  refine rg_new (ci := 0) (fl := [none]) (C := RX0) (T := TX0) (N := 1) (n := 5) F hH iwX1_init_X0 tyX0 tyX0_ok lkX1_init_3 lkX1_init_4 lkX1_init_5 rfl (fun j hj => by rcases (show j = 0 by omega) with rfl <;> rfl) (Nat.le_of_ble_eq_true rfl) (Nat.le_of_ble_eq_true rfl) dX1_init_29 (fun H hH hN => ?_)
  refine W.widen (k := 5) (n := 11) (by decide) (by decide) ?_
  refine lv_dup hx hb dX1_init_32 rfl ?_
  refine lv_iconst (v := 4) hx hb dX1_init_33 (by decide) ?_
  refine rg_callI (As := [.int 4]) (rest := [.ref (lo + 5), .ref lo]) F hH (fun q h => h) rfl hN (nX0_init l X (lo + 5) 4 4 (by decide) (by decide) (by decide)) (cwI 1 F.1.2.2.2.2 gX1_init_X0_init rfl rfl rfl (F.1.2.2.2.2 _ lkX1_init_5) (F.1.2.2.2.2 _ lkX1_init_7) (F.1.2.2.2.2 _ lkX1_init_6) rfl hiX0_init ⟨Nat.le_of_ble_eq_true rfl, Nat.le_of_ble_eq_true rfl⟩) rfl hl.1 (Nat.le_of_ble_eq_true rfl) dX1_init_34 ⟨Nat.le_of_ble_eq_true rfl, Nat.le_of_ble_eq_true rfl⟩ rfl (n' := 7) rfl (Nat.le_of_ble_eq_true rfl) (fun H locs hH => ?_)
  refine W.widen (k := 6) (n := 15) (by decide) (by decide) ?_
  replace hH := hp_cast (show _ = (pv (pv (pv zM 1 2 zM) 3 2 zM) 5 2 zM) from rfl) hH
  refine rg_putF F hH (fun q h => h) (C := RX1) (T := TX1) (N := 8) rfl iwX1_init_X1 tyX1 tyX1_ok nmX1 2 (Nat.le_of_ble_eq_true rfl) (by decide) rfl rfl (hnm.trans rfl) rfl (ty := .object "TideWords$Cells") (d := 5) (by decide +kernel) rfl rfl lkX1_init_10 rfl dX1_init_37 (fun H locs hH => ?_)
  refine lv_aload_n hx hb dX1_init_40 rfl (lv_at hl 0 rfl) ?_
  refine rg_new (ci := 0) (fl := [none]) (C := RX0) (T := TX0) (N := 1) (n := 7) F hH iwX1_init_X0 tyX0 tyX0_ok lkX1_init_3 lkX1_init_4 lkX1_init_5 rfl (fun j hj => by rcases (show j = 0 by omega) with rfl <;> rfl) (Nat.le_of_ble_eq_true rfl) (Nat.le_of_ble_eq_true rfl) dX1_init_41 (fun H hH hN => ?_)
  refine W.widen (k := 7) (n := 16) (by decide) (by decide) ?_
  refine lv_dup hx hb dX1_init_44 rfl ?_
  refine lv_iconst (v := 4) hx hb dX1_init_45 (by decide) ?_
  refine rg_callI (As := [.int 4]) (rest := [.ref (lo + 7), .ref lo]) F hH (fun q h => h) rfl hN (nX0_init l X (lo + 7) 4 4 (by decide) (by decide) (by decide)) (cwI 1 F.1.2.2.2.2 gX1_init_X0_init rfl rfl rfl (F.1.2.2.2.2 _ lkX1_init_5) (F.1.2.2.2.2 _ lkX1_init_7) (F.1.2.2.2.2 _ lkX1_init_6) rfl hiX0_init ⟨Nat.le_of_ble_eq_true rfl, Nat.le_of_ble_eq_true rfl⟩) rfl hl.1 (Nat.le_of_ble_eq_true rfl) dX1_init_46 ⟨Nat.le_of_ble_eq_true rfl, Nat.le_of_ble_eq_true rfl⟩ rfl (n' := 9) rfl (Nat.le_of_ble_eq_true rfl) (fun H locs hH => ?_)
  refine W.widen (k := 8) (n := 20) (by decide) (by decide) ?_
  replace hH := hp_cast (show _ = (pv (pv (pv (pv zM 1 2 zM) 3 2 zM) 5 2 zM) 7 2 zM) from rfl) hH
  refine rg_putF F hH (fun q h => h) (C := RX1) (T := TX1) (N := 8) rfl iwX1_init_X1 tyX1 tyX1_ok nmX1 3 (Nat.le_of_ble_eq_true rfl) (by decide) rfl rfl (hnm.trans rfl) rfl (ty := .object "TideWords$Cells") (d := 7) (by decide +kernel) rfl rfl lkX1_init_11 rfl dX1_init_49 (fun H locs hH => ?_)
  refine lv_aload_n hx hb dX1_init_52 rfl (lv_at hl 0 rfl) ?_
  refine rg_new (ci := 0) (fl := [none]) (C := RX0) (T := TX0) (N := 1) (n := 9) F hH iwX1_init_X0 tyX0 tyX0_ok lkX1_init_3 lkX1_init_4 lkX1_init_5 rfl (fun j hj => by rcases (show j = 0 by omega) with rfl <;> rfl) (Nat.le_of_ble_eq_true rfl) (Nat.le_of_ble_eq_true rfl) dX1_init_53 (fun H hH hN => ?_)
  refine W.widen (k := 9) (n := 21) (by decide) (by decide) ?_
  refine lv_dup hx hb dX1_init_56 rfl ?_
  refine lv_iconst (v := 4) hx hb dX1_init_57 (by decide) ?_
  refine rg_callI (As := [.int 4]) (rest := [.ref (lo + 9), .ref lo]) F hH (fun q h => h) rfl hN (nX0_init l X (lo + 9) 4 4 (by decide) (by decide) (by decide)) (cwI 1 F.1.2.2.2.2 gX1_init_X0_init rfl rfl rfl (F.1.2.2.2.2 _ lkX1_init_5) (F.1.2.2.2.2 _ lkX1_init_7) (F.1.2.2.2.2 _ lkX1_init_6) rfl hiX0_init ⟨Nat.le_of_ble_eq_true rfl, Nat.le_of_ble_eq_true rfl⟩) rfl hl.1 (Nat.le_of_ble_eq_true rfl) dX1_init_58 ⟨Nat.le_of_ble_eq_true rfl, Nat.le_of_ble_eq_true rfl⟩ rfl (n' := 11) rfl (Nat.le_of_ble_eq_true rfl) (fun H locs hH => ?_)
  refine W.widen (k := 10) (n := 25) (by decide) (by decide) ?_
  replace hH := hp_cast (show _ = (pv (pv (pv (pv (pv zM 1 2 zM) 3 2 zM) 5 2 zM) 7 2 zM) 9 2 zM) from rfl) hH
  refine rg_putF F hH (fun q h => h) (C := RX1) (T := TX1) (N := 8) rfl iwX1_init_X1 tyX1 tyX1_ok nmX1 4 (Nat.le_of_ble_eq_true rfl) (by decide) rfl rfl (hnm.trans rfl) rfl (ty := .object "TideWords$Cells") (d := 9) (by decide +kernel) rfl rfl lkX1_init_12 rfl dX1_init_61 (fun H locs hH => ?_)
  refine lv_aload_n hx hb dX1_init_64 rfl (lv_at hl 0 rfl) ?_
  refine rg_new (ci := 0) (fl := [none]) (C := RX0) (T := TX0) (N := 1) (n := 11) F hH iwX1_init_X0 tyX0 tyX0_ok lkX1_init_3 lkX1_init_4 lkX1_init_5 rfl (fun j hj => by rcases (show j = 0 by omega) with rfl <;> rfl) (Nat.le_of_ble_eq_true rfl) (Nat.le_of_ble_eq_true rfl) dX1_init_65 (fun H hH hN => ?_)
  refine W.widen (k := 11) (n := 26) (by decide) (by decide) ?_
  refine lv_dup hx hb dX1_init_68 rfl ?_
  refine lv_iconst (v := 4) hx hb dX1_init_69 (by decide) ?_
  refine rg_callI (As := [.int 4]) (rest := [.ref (lo + 11), .ref lo]) F hH (fun q h => h) rfl hN (nX0_init l X (lo + 11) 4 4 (by decide) (by decide) (by decide)) (cwI 1 F.1.2.2.2.2 gX1_init_X0_init rfl rfl rfl (F.1.2.2.2.2 _ lkX1_init_5) (F.1.2.2.2.2 _ lkX1_init_7) (F.1.2.2.2.2 _ lkX1_init_6) rfl hiX0_init ⟨Nat.le_of_ble_eq_true rfl, Nat.le_of_ble_eq_true rfl⟩) rfl hl.1 (Nat.le_of_ble_eq_true rfl) dX1_init_70 ⟨Nat.le_of_ble_eq_true rfl, Nat.le_of_ble_eq_true rfl⟩ rfl (n' := 13) rfl (Nat.le_of_ble_eq_true rfl) (fun H locs hH => ?_)
  refine W.widen (k := 12) (n := 30) (by decide) (by decide) ?_
  replace hH := hp_cast (show _ = (pv (pv (pv (pv (pv (pv zM 1 2 zM) 3 2 zM) 5 2 zM) 7 2 zM) 9 2 zM) 11 2 zM) from rfl) hH
  refine rg_putF F hH (fun q h => h) (C := RX1) (T := TX1) (N := 8) rfl iwX1_init_X1 tyX1 tyX1_ok nmX1 5 (Nat.le_of_ble_eq_true rfl) (by decide) rfl rfl (hnm.trans rfl) rfl (ty := .object "TideWords$Cells") (d := 11) (by decide +kernel) rfl rfl lkX1_init_13 rfl dX1_init_73 (fun H locs hH => ?_)
  refine lv_aload_n hx hb dX1_init_76 rfl (lv_at hl 0 rfl) ?_
  refine rg_new (ci := 0) (fl := [none]) (C := RX0) (T := TX0) (N := 1) (n := 13) F hH iwX1_init_X0 tyX0 tyX0_ok lkX1_init_3 lkX1_init_4 lkX1_init_5 rfl (fun j hj => by rcases (show j = 0 by omega) with rfl <;> rfl) (Nat.le_of_ble_eq_true rfl) (Nat.le_of_ble_eq_true rfl) dX1_init_77 (fun H hH hN => ?_)
  refine W.widen (k := 13) (n := 31) (by decide) (by decide) ?_
  refine lv_dup hx hb dX1_init_80 rfl ?_
  refine lv_iconst (v := 4) hx hb dX1_init_81 (by decide) ?_
  refine rg_callI (As := [.int 4]) (rest := [.ref (lo + 13), .ref lo]) F hH (fun q h => h) rfl hN (nX0_init l X (lo + 13) 4 4 (by decide) (by decide) (by decide)) (cwI 1 F.1.2.2.2.2 gX1_init_X0_init rfl rfl rfl (F.1.2.2.2.2 _ lkX1_init_5) (F.1.2.2.2.2 _ lkX1_init_7) (F.1.2.2.2.2 _ lkX1_init_6) rfl hiX0_init ⟨Nat.le_of_ble_eq_true rfl, Nat.le_of_ble_eq_true rfl⟩) rfl hl.1 (Nat.le_of_ble_eq_true rfl) dX1_init_82 ⟨Nat.le_of_ble_eq_true rfl, Nat.le_of_ble_eq_true rfl⟩ rfl (n' := 15) rfl (Nat.le_of_ble_eq_true rfl) (fun H locs hH => ?_)
  refine W.widen (k := 14) (n := 35) (by decide) (by decide) ?_
  replace hH := hp_cast (show _ = (pv (pv (pv (pv (pv (pv (pv zM 1 2 zM) 3 2 zM) 5 2 zM) 7 2 zM) 9 2 zM) 11 2 zM) 13 2 zM) from rfl) hH
  refine rg_putF F hH (fun q h => h) (C := RX1) (T := TX1) (N := 8) rfl iwX1_init_X1 tyX1 tyX1_ok nmX1 6 (Nat.le_of_ble_eq_true rfl) (by decide) rfl rfl (hnm.trans rfl) rfl (ty := .object "TideWords$Cells") (d := 13) (by decide +kernel) rfl rfl lkX1_init_14 rfl dX1_init_85 (fun H locs hH => ?_)
  refine lv_aload_n hx hb dX1_init_88 rfl (lv_at hl 0 rfl) ?_
  refine rg_new (ci := 0) (fl := [none]) (C := RX0) (T := TX0) (N := 1) (n := 15) F hH iwX1_init_X0 tyX0 tyX0_ok lkX1_init_3 lkX1_init_4 lkX1_init_5 rfl (fun j hj => by rcases (show j = 0 by omega) with rfl <;> rfl) (Nat.le_of_ble_eq_true rfl) (Nat.le_of_ble_eq_true rfl) dX1_init_89 (fun H hH hN => ?_)
  refine W.widen (k := 15) (n := 36) (by decide) (by decide) ?_
  refine lv_dup hx hb dX1_init_92 rfl ?_
  refine lv_iconst (v := 4) hx hb dX1_init_93 (by decide) ?_
  refine rg_callI (As := [.int 4]) (rest := [.ref (lo + 15), .ref lo]) F hH (fun q h => h) rfl hN (nX0_init l X (lo + 15) 4 4 (by decide) (by decide) (by decide)) (cwI 1 F.1.2.2.2.2 gX1_init_X0_init rfl rfl rfl (F.1.2.2.2.2 _ lkX1_init_5) (F.1.2.2.2.2 _ lkX1_init_7) (F.1.2.2.2.2 _ lkX1_init_6) rfl hiX0_init ⟨Nat.le_of_ble_eq_true rfl, Nat.le_of_ble_eq_true rfl⟩) rfl hl.1 (Nat.le_of_ble_eq_true rfl) dX1_init_94 ⟨Nat.le_of_ble_eq_true rfl, Nat.le_of_ble_eq_true rfl⟩ rfl (n' := 17) rfl (Nat.le_of_ble_eq_true rfl) (fun H locs hH => ?_)
  refine W.widen (k := 16) (n := 40) (by decide) (by decide) ?_
  replace hH := hp_cast (show _ = (pv (pv (pv (pv (pv (pv (pv (pv zM 1 2 zM) 3 2 zM) 5 2 zM) 7 2 zM) 9 2 zM) 11 2 zM) 13 2 zM) 15 2 zM) from rfl) hH
  refine rg_putF F hH (fun q h => h) (C := RX1) (T := TX1) (N := 8) rfl iwX1_init_X1 tyX1 tyX1_ok nmX1 7 (Nat.le_of_ble_eq_true rfl) (by decide) rfl rfl (hnm.trans rfl) rfl (ty := .object "TideWords$Cells") (d := 15) (by decide +kernel) rfl rfl lkX1_init_15 rfl dX1_init_97 (fun H locs hH => ?_)
  refine lv_iconst (v := 0) hx hb dX1_init_100 (by decide) ?_
  refine lv_istore_n (lv' := [(1, .int 0), (0, .ref lo)]) hx hb dX1_init_101 rfl hl (by decide) rfl (fun ls hl => ?_)
  refine lv_iload_n hx hb dX1_init_102 rfl (lv_at hl 0 rfl) ?_
  refine lv_iconst (v := 4) hx hb dX1_init_103 (by decide) ?_
  refine lv_icmp_ge (tgt := 134) hx hb dX1_init_104 (by decide) (fun c => absurd c (by decide)) (fun _ => ?_)
  refine lv_aload_n hx hb dX1_init_107 rfl (lv_at hl 1 rfl) ?_
  refine lv_iload_n hx hb dX1_init_108 rfl (lv_at hl 0 rfl) ?_
  refine lv_iload_n hx hb dX1_init_109 rfl (lv_at hl 0 rfl) ?_
  refine lv_iconst (v := 1) hx hb dX1_init_110 (by decide) ?_
  refine lv_iand hx hb dX1_init_111 ?_
  refine lv_nm (x' := 0) (by decide) ?_
  refine lv_iconst (v := 5) hx hb dX1_init_112 (by decide) ?_
  refine lv_iconst (v := 0) hx hb dX1_init_113 (by decide) ?_
  replace hH := hp_L hH (show _ = LG from rfl)
  refine rg_callWS (As := [.int 0, .int 0, .int 5, .int 0]) (rest := []) F hH (fun q h _ => h) (mX1_change l X lo (pv (pv (pv (pv (pv (pv (pv (pv zM 1 2 zM) 3 2 zM) 5 2 zM) 7 2 zM) 9 2 zM) 11 2 zM) 13 2 zM) 15 2 zM) 0 0 5 0 _ rfl) (cwV 4 F.1.2.2.2.2 gX1_init_X1_change rfl rfl rfl hvX1_change ⟨Nat.le_of_ble_eq_true rfl, Nat.le_of_ble_eq_true rfl⟩) (rp_recv F hH.1 0 rfl (C := RX1) (T := TX1) (N := 8) rfl rfl) hH.1 rfl hl.1 (Nat.le_of_ble_eq_true rfl) dX1_init_114 ⟨Nat.le_of_ble_eq_true rfl, Nat.le_of_ble_eq_true rfl⟩ rfl (fun H locs hH => ?_)
  replace hH := hp_cast (show _ = (fX1_change (pv (pv (pv (pv (pv (pv (pv (pv zM 1 2 zM) 3 2 zM) 5 2 zM) 7 2 zM) 9 2 zM) 11 2 zM) 13 2 zM) 15 2 zM) 0 0 5 0) from rfl) hH
  refine lv_aload_n hx hb dX1_init_117 rfl (lv_at hl 1 rfl) ?_
  refine rg_getr F hH.1 0 (ci := 1) rfl (C := RX1) (T := TX1) (N := 8) rfl iwX1_init_X1 4 (d := 9) (n := 9) rfl rfl (by decide) rfl lkX1_init_12 rfl dX1_init_118 ?_
  refine lv_iload_n hx hb dX1_init_121 rfl (lv_at hl 0 rfl) ?_
  refine lv_sipush (v := (-1006)) hx hb dX1_init_122 (by decide) ?_
  refine rg_callWV (As := [.int 0, .int (-1006)]) (rest := []) F hH (fun q h _ => h) 9 sb_LG_9_LC4 (kX0_set l X 4 (by decide) (lo + 9) (gv (fX1_change (pv (pv (pv (pv (pv (pv (pv (pv zM 1 2 zM) 3 2 zM) 5 2 zM) 7 2 zM) 9 2 zM) 11 2 zM) 13 2 zM) 15 2 zM) 0 0 5 0) 9) 0 (-1006) _ rfl) (cwV 2 F.1.2.2.2.2 gX1_init_X0_set rfl rfl rfl hvX0_set ⟨Nat.le_of_ble_eq_true rfl, Nat.le_of_ble_eq_true rfl⟩) (rp_recv F hH.1 9 rfl (C := RX0) (T := TX0) (N := 1) rfl rfl) (hH.1.sub 9 sb_LG_9_LC4) rfl hl.1 (Nat.le_of_ble_eq_true rfl) dX1_init_125 ⟨Nat.le_of_ble_eq_true rfl, Nat.le_of_ble_eq_true rfl⟩ rfl (pv_cset ..) (fun H locs hH hfr => ?_)
  replace hH := hp_cast (show _ = (cset (fX1_change (pv (pv (pv (pv (pv (pv (pv (pv zM 1 2 zM) 3 2 zM) 5 2 zM) 7 2 zM) 9 2 zM) 11 2 zM) 13 2 zM) 15 2 zM) 0 0 5 0) 10 4 0 (-1006)) from rfl) hH
  refine lv_iinc (v := 1) (lv' := [(1, .int 1), (0, .ref lo)]) hx hb dX1_init_128 hl (k := 0) rfl (by decide) (by decide) rfl (fun ls hl => ?_)
  refine lv_goto (tgt := 102) hx hb dX1_init_131 (by decide) ?_
  refine lv_iload_n hx hb dX1_init_102 rfl (lv_at hl 0 rfl) ?_
  refine lv_iconst (v := 4) hx hb dX1_init_103 (by decide) ?_
  refine lv_icmp_ge (tgt := 134) hx hb dX1_init_104 (by decide) (fun c => absurd c (by decide)) (fun _ => ?_)
  refine lv_aload_n hx hb dX1_init_107 rfl (lv_at hl 1 rfl) ?_
  refine lv_iload_n hx hb dX1_init_108 rfl (lv_at hl 0 rfl) ?_
  refine lv_iload_n hx hb dX1_init_109 rfl (lv_at hl 0 rfl) ?_
  refine lv_iconst (v := 1) hx hb dX1_init_110 (by decide) ?_
  refine lv_iand hx hb dX1_init_111 ?_
  refine lv_nm (x' := 1) (by decide) ?_
  refine lv_iconst (v := 5) hx hb dX1_init_112 (by decide) ?_
  refine lv_iconst (v := 0) hx hb dX1_init_113 (by decide) ?_
  refine rg_callWS (As := [.int 1, .int 1, .int 5, .int 0]) (rest := []) F hH (fun q h _ => h) (mX1_change l X lo (cset (fX1_change (pv (pv (pv (pv (pv (pv (pv (pv zM 1 2 zM) 3 2 zM) 5 2 zM) 7 2 zM) 9 2 zM) 11 2 zM) 13 2 zM) 15 2 zM) 0 0 5 0) 10 4 0 (-1006)) 1 1 5 0 _ rfl) (cwV 4 F.1.2.2.2.2 gX1_init_X1_change rfl rfl rfl hvX1_change ⟨Nat.le_of_ble_eq_true rfl, Nat.le_of_ble_eq_true rfl⟩) (rp_recv F hH.1 0 rfl (C := RX1) (T := TX1) (N := 8) rfl rfl) hH.1 rfl hl.1 (Nat.le_of_ble_eq_true rfl) dX1_init_114 ⟨Nat.le_of_ble_eq_true rfl, Nat.le_of_ble_eq_true rfl⟩ rfl (fun H locs hH => ?_)
  replace hH := hp_cast (show _ = (fX1_change (cset (fX1_change (pv (pv (pv (pv (pv (pv (pv (pv zM 1 2 zM) 3 2 zM) 5 2 zM) 7 2 zM) 9 2 zM) 11 2 zM) 13 2 zM) 15 2 zM) 0 0 5 0) 10 4 0 (-1006)) 1 1 5 0) from rfl) hH
  refine lv_aload_n hx hb dX1_init_117 rfl (lv_at hl 1 rfl) ?_
  refine rg_getr F hH.1 0 (ci := 1) rfl (C := RX1) (T := TX1) (N := 8) rfl iwX1_init_X1 4 (d := 9) (n := 9) rfl rfl (by decide) rfl lkX1_init_12 rfl dX1_init_118 ?_
  refine lv_iload_n hx hb dX1_init_121 rfl (lv_at hl 0 rfl) ?_
  refine lv_sipush (v := (-1006)) hx hb dX1_init_122 (by decide) ?_
  refine rg_callWV (As := [.int 1, .int (-1006)]) (rest := []) F hH (fun q h _ => h) 9 sb_LG_9_LC4 (kX0_set l X 4 (by decide) (lo + 9) (gv (fX1_change (cset (fX1_change (pv (pv (pv (pv (pv (pv (pv (pv zM 1 2 zM) 3 2 zM) 5 2 zM) 7 2 zM) 9 2 zM) 11 2 zM) 13 2 zM) 15 2 zM) 0 0 5 0) 10 4 0 (-1006)) 1 1 5 0) 9) 1 (-1006) _ rfl) (cwV 2 F.1.2.2.2.2 gX1_init_X0_set rfl rfl rfl hvX0_set ⟨Nat.le_of_ble_eq_true rfl, Nat.le_of_ble_eq_true rfl⟩) (rp_recv F hH.1 9 rfl (C := RX0) (T := TX0) (N := 1) rfl rfl) (hH.1.sub 9 sb_LG_9_LC4) rfl hl.1 (Nat.le_of_ble_eq_true rfl) dX1_init_125 ⟨Nat.le_of_ble_eq_true rfl, Nat.le_of_ble_eq_true rfl⟩ rfl (pv_cset ..) (fun H locs hH hfr => ?_)
  replace hH := hp_cast (show _ = (cset (fX1_change (cset (fX1_change (pv (pv (pv (pv (pv (pv (pv (pv zM 1 2 zM) 3 2 zM) 5 2 zM) 7 2 zM) 9 2 zM) 11 2 zM) 13 2 zM) 15 2 zM) 0 0 5 0) 10 4 0 (-1006)) 1 1 5 0) 10 4 1 (-1006)) from rfl) hH
  refine lv_iinc (v := 2) (lv' := [(1, .int 2), (0, .ref lo)]) hx hb dX1_init_128 hl (k := 0) rfl (by decide) (by decide) rfl (fun ls hl => ?_)
  refine lv_goto (tgt := 102) hx hb dX1_init_131 (by decide) ?_
  refine lv_iload_n hx hb dX1_init_102 rfl (lv_at hl 0 rfl) ?_
  refine lv_iconst (v := 4) hx hb dX1_init_103 (by decide) ?_
  refine lv_icmp_ge (tgt := 134) hx hb dX1_init_104 (by decide) (fun c => absurd c (by decide)) (fun _ => ?_)
  refine lv_aload_n hx hb dX1_init_107 rfl (lv_at hl 1 rfl) ?_
  refine lv_iload_n hx hb dX1_init_108 rfl (lv_at hl 0 rfl) ?_
  refine lv_iload_n hx hb dX1_init_109 rfl (lv_at hl 0 rfl) ?_
  refine lv_iconst (v := 1) hx hb dX1_init_110 (by decide) ?_
  refine lv_iand hx hb dX1_init_111 ?_
  refine lv_nm (x' := 0) (by decide) ?_
  refine lv_iconst (v := 5) hx hb dX1_init_112 (by decide) ?_
  refine lv_iconst (v := 0) hx hb dX1_init_113 (by decide) ?_
  refine rg_callWS (As := [.int 2, .int 0, .int 5, .int 0]) (rest := []) F hH (fun q h _ => h) (mX1_change l X lo (cset (fX1_change (cset (fX1_change (pv (pv (pv (pv (pv (pv (pv (pv zM 1 2 zM) 3 2 zM) 5 2 zM) 7 2 zM) 9 2 zM) 11 2 zM) 13 2 zM) 15 2 zM) 0 0 5 0) 10 4 0 (-1006)) 1 1 5 0) 10 4 1 (-1006)) 2 0 5 0 _ rfl) (cwV 4 F.1.2.2.2.2 gX1_init_X1_change rfl rfl rfl hvX1_change ⟨Nat.le_of_ble_eq_true rfl, Nat.le_of_ble_eq_true rfl⟩) (rp_recv F hH.1 0 rfl (C := RX1) (T := TX1) (N := 8) rfl rfl) hH.1 rfl hl.1 (Nat.le_of_ble_eq_true rfl) dX1_init_114 ⟨Nat.le_of_ble_eq_true rfl, Nat.le_of_ble_eq_true rfl⟩ rfl (fun H locs hH => ?_)
  replace hH := hp_cast (show _ = (fX1_change (cset (fX1_change (cset (fX1_change (pv (pv (pv (pv (pv (pv (pv (pv zM 1 2 zM) 3 2 zM) 5 2 zM) 7 2 zM) 9 2 zM) 11 2 zM) 13 2 zM) 15 2 zM) 0 0 5 0) 10 4 0 (-1006)) 1 1 5 0) 10 4 1 (-1006)) 2 0 5 0) from rfl) hH
  refine lv_aload_n hx hb dX1_init_117 rfl (lv_at hl 1 rfl) ?_
  refine rg_getr F hH.1 0 (ci := 1) rfl (C := RX1) (T := TX1) (N := 8) rfl iwX1_init_X1 4 (d := 9) (n := 9) rfl rfl (by decide) rfl lkX1_init_12 rfl dX1_init_118 ?_
  refine lv_iload_n hx hb dX1_init_121 rfl (lv_at hl 0 rfl) ?_
  refine lv_sipush (v := (-1006)) hx hb dX1_init_122 (by decide) ?_
  refine rg_callWV (As := [.int 2, .int (-1006)]) (rest := []) F hH (fun q h _ => h) 9 sb_LG_9_LC4 (kX0_set l X 4 (by decide) (lo + 9) (gv (fX1_change (cset (fX1_change (cset (fX1_change (pv (pv (pv (pv (pv (pv (pv (pv zM 1 2 zM) 3 2 zM) 5 2 zM) 7 2 zM) 9 2 zM) 11 2 zM) 13 2 zM) 15 2 zM) 0 0 5 0) 10 4 0 (-1006)) 1 1 5 0) 10 4 1 (-1006)) 2 0 5 0) 9) 2 (-1006) _ rfl) (cwV 2 F.1.2.2.2.2 gX1_init_X0_set rfl rfl rfl hvX0_set ⟨Nat.le_of_ble_eq_true rfl, Nat.le_of_ble_eq_true rfl⟩) (rp_recv F hH.1 9 rfl (C := RX0) (T := TX0) (N := 1) rfl rfl) (hH.1.sub 9 sb_LG_9_LC4) rfl hl.1 (Nat.le_of_ble_eq_true rfl) dX1_init_125 ⟨Nat.le_of_ble_eq_true rfl, Nat.le_of_ble_eq_true rfl⟩ rfl (pv_cset ..) (fun H locs hH hfr => ?_)
  replace hH := hp_cast (show _ = (cset (fX1_change (cset (fX1_change (cset (fX1_change (pv (pv (pv (pv (pv (pv (pv (pv zM 1 2 zM) 3 2 zM) 5 2 zM) 7 2 zM) 9 2 zM) 11 2 zM) 13 2 zM) 15 2 zM) 0 0 5 0) 10 4 0 (-1006)) 1 1 5 0) 10 4 1 (-1006)) 2 0 5 0) 10 4 2 (-1006)) from rfl) hH
  refine lv_iinc (v := 3) (lv' := [(1, .int 3), (0, .ref lo)]) hx hb dX1_init_128 hl (k := 0) rfl (by decide) (by decide) rfl (fun ls hl => ?_)
  refine lv_goto (tgt := 102) hx hb dX1_init_131 (by decide) ?_
  refine lv_iload_n hx hb dX1_init_102 rfl (lv_at hl 0 rfl) ?_
  refine lv_iconst (v := 4) hx hb dX1_init_103 (by decide) ?_
  refine lv_icmp_ge (tgt := 134) hx hb dX1_init_104 (by decide) (fun c => absurd c (by decide)) (fun _ => ?_)
  refine lv_aload_n hx hb dX1_init_107 rfl (lv_at hl 1 rfl) ?_
  refine lv_iload_n hx hb dX1_init_108 rfl (lv_at hl 0 rfl) ?_
  refine lv_iload_n hx hb dX1_init_109 rfl (lv_at hl 0 rfl) ?_
  refine lv_iconst (v := 1) hx hb dX1_init_110 (by decide) ?_
  refine lv_iand hx hb dX1_init_111 ?_
  refine lv_nm (x' := 1) (by decide) ?_
  refine lv_iconst (v := 5) hx hb dX1_init_112 (by decide) ?_
  refine lv_iconst (v := 0) hx hb dX1_init_113 (by decide) ?_
  refine rg_callWS (As := [.int 3, .int 1, .int 5, .int 0]) (rest := []) F hH (fun q h _ => h) (mX1_change l X lo (cset (fX1_change (cset (fX1_change (cset (fX1_change (pv (pv (pv (pv (pv (pv (pv (pv zM 1 2 zM) 3 2 zM) 5 2 zM) 7 2 zM) 9 2 zM) 11 2 zM) 13 2 zM) 15 2 zM) 0 0 5 0) 10 4 0 (-1006)) 1 1 5 0) 10 4 1 (-1006)) 2 0 5 0) 10 4 2 (-1006)) 3 1 5 0 _ rfl) (cwV 4 F.1.2.2.2.2 gX1_init_X1_change rfl rfl rfl hvX1_change ⟨Nat.le_of_ble_eq_true rfl, Nat.le_of_ble_eq_true rfl⟩) (rp_recv F hH.1 0 rfl (C := RX1) (T := TX1) (N := 8) rfl rfl) hH.1 rfl hl.1 (Nat.le_of_ble_eq_true rfl) dX1_init_114 ⟨Nat.le_of_ble_eq_true rfl, Nat.le_of_ble_eq_true rfl⟩ rfl (fun H locs hH => ?_)
  replace hH := hp_cast (show _ = (fX1_change (cset (fX1_change (cset (fX1_change (cset (fX1_change (pv (pv (pv (pv (pv (pv (pv (pv zM 1 2 zM) 3 2 zM) 5 2 zM) 7 2 zM) 9 2 zM) 11 2 zM) 13 2 zM) 15 2 zM) 0 0 5 0) 10 4 0 (-1006)) 1 1 5 0) 10 4 1 (-1006)) 2 0 5 0) 10 4 2 (-1006)) 3 1 5 0) from rfl) hH
  refine lv_aload_n hx hb dX1_init_117 rfl (lv_at hl 1 rfl) ?_
  refine rg_getr F hH.1 0 (ci := 1) rfl (C := RX1) (T := TX1) (N := 8) rfl iwX1_init_X1 4 (d := 9) (n := 9) rfl rfl (by decide) rfl lkX1_init_12 rfl dX1_init_118 ?_
  refine lv_iload_n hx hb dX1_init_121 rfl (lv_at hl 0 rfl) ?_
  refine lv_sipush (v := (-1006)) hx hb dX1_init_122 (by decide) ?_
  refine rg_callWV (As := [.int 3, .int (-1006)]) (rest := []) F hH (fun q h _ => h) 9 sb_LG_9_LC4 (kX0_set l X 4 (by decide) (lo + 9) (gv (fX1_change (cset (fX1_change (cset (fX1_change (cset (fX1_change (pv (pv (pv (pv (pv (pv (pv (pv zM 1 2 zM) 3 2 zM) 5 2 zM) 7 2 zM) 9 2 zM) 11 2 zM) 13 2 zM) 15 2 zM) 0 0 5 0) 10 4 0 (-1006)) 1 1 5 0) 10 4 1 (-1006)) 2 0 5 0) 10 4 2 (-1006)) 3 1 5 0) 9) 3 (-1006) _ rfl) (cwV 2 F.1.2.2.2.2 gX1_init_X0_set rfl rfl rfl hvX0_set ⟨Nat.le_of_ble_eq_true rfl, Nat.le_of_ble_eq_true rfl⟩) (rp_recv F hH.1 9 rfl (C := RX0) (T := TX0) (N := 1) rfl rfl) (hH.1.sub 9 sb_LG_9_LC4) rfl hl.1 (Nat.le_of_ble_eq_true rfl) dX1_init_125 ⟨Nat.le_of_ble_eq_true rfl, Nat.le_of_ble_eq_true rfl⟩ rfl (pv_cset ..) (fun H locs hH hfr => ?_)
  replace hH := hp_cast (show _ = (cset (fX1_change (cset (fX1_change (cset (fX1_change (cset (fX1_change (pv (pv (pv (pv (pv (pv (pv (pv zM 1 2 zM) 3 2 zM) 5 2 zM) 7 2 zM) 9 2 zM) 11 2 zM) 13 2 zM) 15 2 zM) 0 0 5 0) 10 4 0 (-1006)) 1 1 5 0) 10 4 1 (-1006)) 2 0 5 0) 10 4 2 (-1006)) 3 1 5 0) 10 4 3 (-1006)) from rfl) hH
  refine lv_iinc (v := 4) (lv' := [(1, .int 4), (0, .ref lo)]) hx hb dX1_init_128 hl (k := 0) rfl (by decide) (by decide) rfl (fun ls hl => ?_)
  refine lv_goto (tgt := 102) hx hb dX1_init_131 (by decide) ?_
  refine lv_iload_n hx hb dX1_init_102 rfl (lv_at hl 0 rfl) ?_
  refine lv_iconst (v := 4) hx hb dX1_init_103 (by decide) ?_
  refine lv_icmp_ge (tgt := 134) hx hb dX1_init_104 (by decide) (fun _ => ?_) (fun c => absurd c (by decide))
  exact W.vret hx hb hr (fun t ht _ => mn_post hH hP.2 ht) hH.2.1.2.2 dX1_init_134
set_option maxRecDepth 20000 in
theorem lkX4_init_0 : Cond.methodLink RX4 3 objectInit ∈ wsX4_init := by decide +kernel
set_option maxRecDepth 20000 in
theorem lkX4_init_1 : Cond.instanceMethod objectInit ∈ wsX4_init := by decide +kernel
set_option maxRecDepth 20000 in
theorem lkX4_init_2 : Cond.code objectInit ⟨#[0xb1]⟩ 1 none ∈ wsX4_init := by decide +kernel
set_option maxRecDepth 20000 in
theorem lkX4_init_3 : Cond.classLink RX4 9 RX0 ∈ wsX4_init := by decide +kernel
set_option maxRecDepth 20000 in
theorem lkX4_init_4 : Cond.instantiable RX0 1 ∈ wsX4_init := by decide +kernel
set_option maxRecDepth 20000 in
theorem lkX4_init_5 : Cond.initialized RX0 ∈ wsX4_init := by decide +kernel
set_option maxRecDepth 20000 in
theorem iwX4_init_X0 : ∀ w ∈ wsX00, w ∈ wsX4_init := by decide +kernel
set_option maxRecDepth 20000 in
theorem lkX4_init_6 : Cond.instanceMethod yX0_init ∈ wsX4_init := by decide +kernel
set_option maxRecDepth 20000 in
theorem lkX4_init_7 : Cond.methodLink RX4 11 yX0_init ∈ wsX4_init := by decide +kernel
set_option maxRecDepth 20000 in
theorem lkX4_init_8 : Cond.fieldLink RX4 14 "TideWords$Words" "lengths" "LTideWords$Cells;" ∈ wsX4_init := by decide +kernel
set_option maxRecDepth 20000 in
theorem iwX4_init_X4 : ∀ w ∈ wsX40, w ∈ wsX4_init := by decide +kernel
set_option maxRecDepth 20000 in
theorem lkX4_init_9 : Cond.fieldLink RX4 20 "TideWords$Words" "letters" "LTideWords$Cells;" ∈ wsX4_init := by decide +kernel
set_option maxRecDepth 20000 in
theorem lkX4_init_10 : Cond.fieldLink RX4 23 "TideWords$Words" "passedSteps" "LTideWords$Cells;" ∈ wsX4_init := by decide +kernel
set_option maxRecDepth 20000 in
theorem lkX4_init_11 : Cond.fieldLink RX4 26 "TideWords$Words" "passedGates" "LTideWords$Cells;" ∈ wsX4_init := by decide +kernel
set_option maxRecDepth 20000 in
theorem lkX4_init_12 : Cond.fieldLink RX4 29 "TideWords$Words" "timesBack" "LTideWords$Cells;" ∈ wsX4_init := by decide +kernel
set_option maxRecDepth 20000 in
theorem lkX4_init_13 : Cond.fieldLink RX4 32 "TideWords$Words" "rows" "LTideWords$Cells;" ∈ wsX4_init := by decide +kernel
set_option maxRecDepth 20000 in
theorem lkX4_init_14 : Cond.fieldLink RX4 35 "TideWords$Words" "rowLengths" "LTideWords$Cells;" ∈ wsX4_init := by decide +kernel
def wX4_init : Mem := (pv (pv (pv (pv (pv (pv (pv zM 1 2 zM) 3 2 zM) 5 2 zM) 7 2 zM) 9 2 zM) 11 2 zM) 13 2 zM)
abbrev rmX4_init : Room := { frames := 2, cells := 14, slots := 153, locals := 45 }
set_option maxHeartbeats 8000000 in
set_option maxRecDepth 100000 in
theorem nX4_init (l : Launch) (X : kX) (lo : Nat) : MCK kT l yX4_init wsX4_init rmX4_init X [.ref lo] lo (.inl (4, [none, none, none, none, none, none, none, some (.inr 0)])) LWd wX4_init 14 153 := by
  refine mt_headA (cc := cX4_init) (maxL := 1) (ret := none) (own := RX4) (by decide) rfl rfl (Nat.le_of_ble_eq_true rfl) ?_
  intro p e s m below meth c ls F hK hr hlocks hnm hP hl
  have hx := F.1.1
  have hb := F.1.2.1
  have hH : Hp (fun q => lo ≤ q) s.heap (lo + 1) X [.inl (4, [none, none, none, none, none, none, none, some (.inr 0)])] lo zM s.heap [] := ⟨hP.1, va_S.rf, hP.2⟩
  have hl : lv_has ls 1 [(0, .ref lo)] := hl
  refine lv_aload_n hx hb dX4_init_0 rfl (lv_at hl 0 rfl) ?_
  refine W.objInit hx hb F.1.2.2.2.1 (F.1.2.2.2.2 _ lkX4_init_0) (F.1.2.2.2.2 _ lkX4_init_1) (F.1.2.2.2.2 _ lkX4_init_2) rfl (hl.1.trans F.1.2.2.1.symm) rfl dX4_init_1 (Nat.le_of_ble_eq_true rfl) (Nat.le_of_ble_eq_true rfl) ?_
  refine W.eq (g2 := F0 m 4 ls []) rfl ?_
  refine lv_aload_n hx hb dX4_init_4 rfl (lv_at hl 0 rfl) ?_
  refine rg_new (ci := 0) (fl := [none]) (C := RX0) (T := TX0) (N := 1) (n := 1) F hH iwX4_init_X0 tyX0 tyX0_ok lkX4_init_3 lkX4_init_4 lkX4_init_5 rfl (fun j hj => by rcases (show j = 0 by omega) with rfl <;> rfl) (Nat.le_of_ble_eq_true rfl) (Nat.le_of_ble_eq_true rfl) dX4_init_5 (fun H hH hN => ?_)
  refine W.widen (k := 1) (n := 1) (by decide) (by decide) ?_
  refine lv_dup hx hb dX4_init_8 rfl ?_
  refine lv_bipush (v := 12) hx hb dX4_init_9 (by decide) ?_
  refine rg_callI (As := [.int 12]) (rest := [.ref (lo + 1), .ref lo]) F hH (fun q h => h) rfl hN (nX0_init l X (lo + 1) 12 12 (by decide) (by decide) (by decide)) (cwI 1 F.1.2.2.2.2 gX4_init_X0_init rfl rfl rfl (F.1.2.2.2.2 _ lkX4_init_5) (F.1.2.2.2.2 _ lkX4_init_7) (F.1.2.2.2.2 _ lkX4_init_6) rfl hiX0_init ⟨Nat.le_of_ble_eq_true rfl, Nat.le_of_ble_eq_true rfl⟩) rfl hl.1 (Nat.le_of_ble_eq_true rfl) dX4_init_11 ⟨Nat.le_of_ble_eq_true rfl, Nat.le_of_ble_eq_true rfl⟩ rfl (n' := 3) rfl (Nat.le_of_ble_eq_true rfl) (fun H locs hH => ?_)
  refine W.widen (k := 2) (n := 13) (by decide) (by decide) ?_
  replace hH := hp_cast (show _ = (pv zM 1 2 zM) from rfl) hH
  refine rg_putF F hH (fun q h => h) (C := RX4) (T := TX4) (N := 8) rfl iwX4_init_X4 tyX4 tyX4_ok nmX4 0 (Nat.le_of_ble_eq_true rfl) (by decide) rfl rfl (hnm.trans rfl) rfl (ty := .object "TideWords$Cells") (d := 1) (by decide +kernel) rfl rfl lkX4_init_8 rfl dX4_init_14 (fun H locs hH => ?_)
  refine lv_aload_n hx hb dX4_init_17 rfl (lv_at hl 0 rfl) ?_
  refine rg_new (ci := 0) (fl := [none]) (C := RX0) (T := TX0) (N := 1) (n := 3) F hH iwX4_init_X0 tyX0 tyX0_ok lkX4_init_3 lkX4_init_4 lkX4_init_5 rfl (fun j hj => by rcases (show j = 0 by omega) with rfl <;> rfl) (Nat.le_of_ble_eq_true rfl) (Nat.le_of_ble_eq_true rfl) dX4_init_18 (fun H hH hN => ?_)
  refine W.widen (k := 3) (n := 14) (by decide) (by decide) ?_
  refine lv_dup hx hb dX4_init_21 rfl ?_
  refine lv_bipush (v := 72) hx hb dX4_init_22 (by decide) ?_
  refine rg_callI (As := [.int 72]) (rest := [.ref (lo + 3), .ref lo]) F hH (fun q h => h) rfl hN (nX0_init l X (lo + 3) 72 72 (by decide) (by decide) (by decide)) (cwI 1 F.1.2.2.2.2 gX4_init_X0_init rfl rfl rfl (F.1.2.2.2.2 _ lkX4_init_5) (F.1.2.2.2.2 _ lkX4_init_7) (F.1.2.2.2.2 _ lkX4_init_6) rfl hiX0_init ⟨Nat.le_of_ble_eq_true rfl, Nat.le_of_ble_eq_true rfl⟩) rfl hl.1 (Nat.le_of_ble_eq_true rfl) dX4_init_24 ⟨Nat.le_of_ble_eq_true rfl, Nat.le_of_ble_eq_true rfl⟩ rfl (n' := 5) rfl (Nat.le_of_ble_eq_true rfl) (fun H locs hH => ?_)
  refine W.widen (k := 4) (n := 86) (by decide) (by decide) ?_
  replace hH := hp_cast (show _ = (pv (pv zM 1 2 zM) 3 2 zM) from rfl) hH
  refine rg_putF F hH (fun q h => h) (C := RX4) (T := TX4) (N := 8) rfl iwX4_init_X4 tyX4 tyX4_ok nmX4 1 (Nat.le_of_ble_eq_true rfl) (by decide) rfl rfl (hnm.trans rfl) rfl (ty := .object "TideWords$Cells") (d := 3) (by decide +kernel) rfl rfl lkX4_init_9 rfl dX4_init_27 (fun H locs hH => ?_)
  refine lv_aload_n hx hb dX4_init_30 rfl (lv_at hl 0 rfl) ?_
  refine rg_new (ci := 0) (fl := [none]) (C := RX0) (T := TX0) (N := 1) (n := 5) F hH iwX4_init_X0 tyX0 tyX0_ok lkX4_init_3 lkX4_init_4 lkX4_init_5 rfl (fun j hj => by rcases (show j = 0 by omega) with rfl <;> rfl) (Nat.le_of_ble_eq_true rfl) (Nat.le_of_ble_eq_true rfl) dX4_init_31 (fun H hH hN => ?_)
  refine W.widen (k := 5) (n := 87) (by decide) (by decide) ?_
  refine lv_dup hx hb dX4_init_34 rfl ?_
  refine lv_bipush (v := 12) hx hb dX4_init_35 (by decide) ?_
  refine rg_callI (As := [.int 12]) (rest := [.ref (lo + 5), .ref lo]) F hH (fun q h => h) rfl hN (nX0_init l X (lo + 5) 12 12 (by decide) (by decide) (by decide)) (cwI 1 F.1.2.2.2.2 gX4_init_X0_init rfl rfl rfl (F.1.2.2.2.2 _ lkX4_init_5) (F.1.2.2.2.2 _ lkX4_init_7) (F.1.2.2.2.2 _ lkX4_init_6) rfl hiX0_init ⟨Nat.le_of_ble_eq_true rfl, Nat.le_of_ble_eq_true rfl⟩) rfl hl.1 (Nat.le_of_ble_eq_true rfl) dX4_init_37 ⟨Nat.le_of_ble_eq_true rfl, Nat.le_of_ble_eq_true rfl⟩ rfl (n' := 7) rfl (Nat.le_of_ble_eq_true rfl) (fun H locs hH => ?_)
  refine W.widen (k := 6) (n := 99) (by decide) (by decide) ?_
  replace hH := hp_cast (show _ = (pv (pv (pv zM 1 2 zM) 3 2 zM) 5 2 zM) from rfl) hH
  refine rg_putF F hH (fun q h => h) (C := RX4) (T := TX4) (N := 8) rfl iwX4_init_X4 tyX4 tyX4_ok nmX4 2 (Nat.le_of_ble_eq_true rfl) (by decide) rfl rfl (hnm.trans rfl) rfl (ty := .object "TideWords$Cells") (d := 5) (by decide +kernel) rfl rfl lkX4_init_10 rfl dX4_init_40 (fun H locs hH => ?_)
  refine lv_aload_n hx hb dX4_init_43 rfl (lv_at hl 0 rfl) ?_
  refine rg_new (ci := 0) (fl := [none]) (C := RX0) (T := TX0) (N := 1) (n := 7) F hH iwX4_init_X0 tyX0 tyX0_ok lkX4_init_3 lkX4_init_4 lkX4_init_5 rfl (fun j hj => by rcases (show j = 0 by omega) with rfl <;> rfl) (Nat.le_of_ble_eq_true rfl) (Nat.le_of_ble_eq_true rfl) dX4_init_44 (fun H hH hN => ?_)
  refine W.widen (k := 7) (n := 100) (by decide) (by decide) ?_
  refine lv_dup hx hb dX4_init_47 rfl ?_
  refine lv_bipush (v := 12) hx hb dX4_init_48 (by decide) ?_
  refine rg_callI (As := [.int 12]) (rest := [.ref (lo + 7), .ref lo]) F hH (fun q h => h) rfl hN (nX0_init l X (lo + 7) 12 12 (by decide) (by decide) (by decide)) (cwI 1 F.1.2.2.2.2 gX4_init_X0_init rfl rfl rfl (F.1.2.2.2.2 _ lkX4_init_5) (F.1.2.2.2.2 _ lkX4_init_7) (F.1.2.2.2.2 _ lkX4_init_6) rfl hiX0_init ⟨Nat.le_of_ble_eq_true rfl, Nat.le_of_ble_eq_true rfl⟩) rfl hl.1 (Nat.le_of_ble_eq_true rfl) dX4_init_50 ⟨Nat.le_of_ble_eq_true rfl, Nat.le_of_ble_eq_true rfl⟩ rfl (n' := 9) rfl (Nat.le_of_ble_eq_true rfl) (fun H locs hH => ?_)
  refine W.widen (k := 8) (n := 112) (by decide) (by decide) ?_
  replace hH := hp_cast (show _ = (pv (pv (pv (pv zM 1 2 zM) 3 2 zM) 5 2 zM) 7 2 zM) from rfl) hH
  refine rg_putF F hH (fun q h => h) (C := RX4) (T := TX4) (N := 8) rfl iwX4_init_X4 tyX4 tyX4_ok nmX4 3 (Nat.le_of_ble_eq_true rfl) (by decide) rfl rfl (hnm.trans rfl) rfl (ty := .object "TideWords$Cells") (d := 7) (by decide +kernel) rfl rfl lkX4_init_11 rfl dX4_init_53 (fun H locs hH => ?_)
  refine lv_aload_n hx hb dX4_init_56 rfl (lv_at hl 0 rfl) ?_
  refine rg_new (ci := 0) (fl := [none]) (C := RX0) (T := TX0) (N := 1) (n := 9) F hH iwX4_init_X0 tyX0 tyX0_ok lkX4_init_3 lkX4_init_4 lkX4_init_5 rfl (fun j hj => by rcases (show j = 0 by omega) with rfl <;> rfl) (Nat.le_of_ble_eq_true rfl) (Nat.le_of_ble_eq_true rfl) dX4_init_57 (fun H hH hN => ?_)
  refine W.widen (k := 9) (n := 113) (by decide) (by decide) ?_
  refine lv_dup hx hb dX4_init_60 rfl ?_
  refine lv_bipush (v := 12) hx hb dX4_init_61 (by decide) ?_
  refine rg_callI (As := [.int 12]) (rest := [.ref (lo + 9), .ref lo]) F hH (fun q h => h) rfl hN (nX0_init l X (lo + 9) 12 12 (by decide) (by decide) (by decide)) (cwI 1 F.1.2.2.2.2 gX4_init_X0_init rfl rfl rfl (F.1.2.2.2.2 _ lkX4_init_5) (F.1.2.2.2.2 _ lkX4_init_7) (F.1.2.2.2.2 _ lkX4_init_6) rfl hiX0_init ⟨Nat.le_of_ble_eq_true rfl, Nat.le_of_ble_eq_true rfl⟩) rfl hl.1 (Nat.le_of_ble_eq_true rfl) dX4_init_63 ⟨Nat.le_of_ble_eq_true rfl, Nat.le_of_ble_eq_true rfl⟩ rfl (n' := 11) rfl (Nat.le_of_ble_eq_true rfl) (fun H locs hH => ?_)
  refine W.widen (k := 10) (n := 125) (by decide) (by decide) ?_
  replace hH := hp_cast (show _ = (pv (pv (pv (pv (pv zM 1 2 zM) 3 2 zM) 5 2 zM) 7 2 zM) 9 2 zM) from rfl) hH
  refine rg_putF F hH (fun q h => h) (C := RX4) (T := TX4) (N := 8) rfl iwX4_init_X4 tyX4 tyX4_ok nmX4 4 (Nat.le_of_ble_eq_true rfl) (by decide) rfl rfl (hnm.trans rfl) rfl (ty := .object "TideWords$Cells") (d := 9) (by decide +kernel) rfl rfl lkX4_init_12 rfl dX4_init_66 (fun H locs hH => ?_)
  refine lv_aload_n hx hb dX4_init_69 rfl (lv_at hl 0 rfl) ?_
  refine rg_new (ci := 0) (fl := [none]) (C := RX0) (T := TX0) (N := 1) (n := 11) F hH iwX4_init_X0 tyX0 tyX0_ok lkX4_init_3 lkX4_init_4 lkX4_init_5 rfl (fun j hj => by rcases (show j = 0 by omega) with rfl <;> rfl) (Nat.le_of_ble_eq_true rfl) (Nat.le_of_ble_eq_true rfl) dX4_init_70 (fun H hH hN => ?_)
  refine W.widen (k := 11) (n := 126) (by decide) (by decide) ?_
  refine lv_dup hx hb dX4_init_73 rfl ?_
  refine lv_bipush (v := 24) hx hb dX4_init_74 (by decide) ?_
  refine rg_callI (As := [.int 24]) (rest := [.ref (lo + 11), .ref lo]) F hH (fun q h => h) rfl hN (nX0_init l X (lo + 11) 24 24 (by decide) (by decide) (by decide)) (cwI 1 F.1.2.2.2.2 gX4_init_X0_init rfl rfl rfl (F.1.2.2.2.2 _ lkX4_init_5) (F.1.2.2.2.2 _ lkX4_init_7) (F.1.2.2.2.2 _ lkX4_init_6) rfl hiX0_init ⟨Nat.le_of_ble_eq_true rfl, Nat.le_of_ble_eq_true rfl⟩) rfl hl.1 (Nat.le_of_ble_eq_true rfl) dX4_init_76 ⟨Nat.le_of_ble_eq_true rfl, Nat.le_of_ble_eq_true rfl⟩ rfl (n' := 13) rfl (Nat.le_of_ble_eq_true rfl) (fun H locs hH => ?_)
  refine W.widen (k := 12) (n := 150) (by decide) (by decide) ?_
  replace hH := hp_cast (show _ = (pv (pv (pv (pv (pv (pv zM 1 2 zM) 3 2 zM) 5 2 zM) 7 2 zM) 9 2 zM) 11 2 zM) from rfl) hH
  refine rg_putF F hH (fun q h => h) (C := RX4) (T := TX4) (N := 8) rfl iwX4_init_X4 tyX4 tyX4_ok nmX4 5 (Nat.le_of_ble_eq_true rfl) (by decide) rfl rfl (hnm.trans rfl) rfl (ty := .object "TideWords$Cells") (d := 11) (by decide +kernel) rfl rfl lkX4_init_13 rfl dX4_init_79 (fun H locs hH => ?_)
  refine lv_aload_n hx hb dX4_init_82 rfl (lv_at hl 0 rfl) ?_
  refine rg_new (ci := 0) (fl := [none]) (C := RX0) (T := TX0) (N := 1) (n := 13) F hH iwX4_init_X0 tyX0 tyX0_ok lkX4_init_3 lkX4_init_4 lkX4_init_5 rfl (fun j hj => by rcases (show j = 0 by omega) with rfl <;> rfl) (Nat.le_of_ble_eq_true rfl) (Nat.le_of_ble_eq_true rfl) dX4_init_83 (fun H hH hN => ?_)
  refine W.widen (k := 13) (n := 151) (by decide) (by decide) ?_
  refine lv_dup hx hb dX4_init_86 rfl ?_
  refine lv_iconst (v := 2) hx hb dX4_init_87 (by decide) ?_
  refine rg_callI (As := [.int 2]) (rest := [.ref (lo + 13), .ref lo]) F hH (fun q h => h) rfl hN (nX0_init l X (lo + 13) 2 2 (by decide) (by decide) (by decide)) (cwI 1 F.1.2.2.2.2 gX4_init_X0_init rfl rfl rfl (F.1.2.2.2.2 _ lkX4_init_5) (F.1.2.2.2.2 _ lkX4_init_7) (F.1.2.2.2.2 _ lkX4_init_6) rfl hiX0_init ⟨Nat.le_of_ble_eq_true rfl, Nat.le_of_ble_eq_true rfl⟩) rfl hl.1 (Nat.le_of_ble_eq_true rfl) dX4_init_88 ⟨Nat.le_of_ble_eq_true rfl, Nat.le_of_ble_eq_true rfl⟩ rfl (n' := 15) rfl (Nat.le_of_ble_eq_true rfl) (fun H locs hH => ?_)
  refine W.widen (k := 14) (n := 153) (by decide) (by decide) ?_
  replace hH := hp_cast (show _ = (pv (pv (pv (pv (pv (pv (pv zM 1 2 zM) 3 2 zM) 5 2 zM) 7 2 zM) 9 2 zM) 11 2 zM) 13 2 zM) from rfl) hH
  refine rg_putF F hH (fun q h => h) (C := RX4) (T := TX4) (N := 8) rfl iwX4_init_X4 tyX4 tyX4_ok nmX4 6 (Nat.le_of_ble_eq_true rfl) (by decide) rfl rfl (hnm.trans rfl) rfl (ty := .object "TideWords$Cells") (d := 13) (by decide +kernel) rfl rfl lkX4_init_14 rfl dX4_init_91 (fun H locs hH => ?_)
  replace hH := hp_L hH (show _ = LWd from rfl)
  exact W.vret hx hb hr (fun t ht _ => mn_post hH hP.2 ht) hH.2.1.2.2 dX4_init_94
set_option maxRecDepth 20000 in
theorem lkX2_init_0 : Cond.methodLink RX2 3 objectInit ∈ wsX2_init := by decide +kernel
set_option maxRecDepth 20000 in
theorem lkX2_init_1 : Cond.instanceMethod objectInit ∈ wsX2_init := by decide +kernel
set_option maxRecDepth 20000 in
theorem lkX2_init_2 : Cond.code objectInit ⟨#[0xb1]⟩ 1 none ∈ wsX2_init := by decide +kernel
set_option maxRecDepth 20000 in
theorem lkX2_init_3 : Cond.classLink RX2 9 RX0 ∈ wsX2_init := by decide +kernel
set_option maxRecDepth 20000 in
theorem lkX2_init_4 : Cond.instantiable RX0 1 ∈ wsX2_init := by decide +kernel
set_option maxRecDepth 20000 in
theorem lkX2_init_5 : Cond.initialized RX0 ∈ wsX2_init := by decide +kernel
set_option maxRecDepth 20000 in
theorem iwX2_init_X0 : ∀ w ∈ wsX00, w ∈ wsX2_init := by decide +kernel
set_option maxRecDepth 20000 in
theorem lkX2_init_6 : Cond.instanceMethod yX0_init ∈ wsX2_init := by decide +kernel
set_option maxRecDepth 20000 in
theorem lkX2_init_7 : Cond.methodLink RX2 11 yX0_init ∈ wsX2_init := by decide +kernel
set_option maxRecDepth 20000 in
theorem lkX2_init_8 : Cond.fieldLink RX2 14 "TideWords$Pad" "codes" "LTideWords$Cells;" ∈ wsX2_init := by decide +kernel
set_option maxRecDepth 20000 in
theorem iwX2_init_X2 : ∀ w ∈ wsX20, w ∈ wsX2_init := by decide +kernel
def wX2_init : Mem := (pv zM 1 2 zM)
abbrev rmX2_init : Room := { frames := 2, cells := 2, slots := 61, locals := 45 }
set_option maxHeartbeats 8000000 in
set_option maxRecDepth 100000 in
theorem nX2_init (l : Launch) (X : kX) (lo : Nat) : MCK kT l yX2_init wsX2_init rmX2_init X [.ref lo] lo (.inl (2, [none, some (.inr 0)])) LPd wX2_init 2 61 := by
  refine mt_headA (cc := cX2_init) (maxL := 1) (ret := none) (own := RX2) (by decide) rfl rfl (Nat.le_of_ble_eq_true rfl) ?_
  intro p e s m below meth c ls F hK hr hlocks hnm hP hl
  have hx := F.1.1
  have hb := F.1.2.1
  have hH : Hp (fun q => lo ≤ q) s.heap (lo + 1) X [.inl (2, [none, some (.inr 0)])] lo zM s.heap [] := ⟨hP.1, va_S.rf, hP.2⟩
  have hl : lv_has ls 1 [(0, .ref lo)] := hl
  refine lv_aload_n hx hb dX2_init_0 rfl (lv_at hl 0 rfl) ?_
  refine W.objInit hx hb F.1.2.2.2.1 (F.1.2.2.2.2 _ lkX2_init_0) (F.1.2.2.2.2 _ lkX2_init_1) (F.1.2.2.2.2 _ lkX2_init_2) rfl (hl.1.trans F.1.2.2.1.symm) rfl dX2_init_1 (Nat.le_of_ble_eq_true rfl) (Nat.le_of_ble_eq_true rfl) ?_
  refine W.eq (g2 := F0 m 4 ls []) rfl ?_
  refine lv_aload_n hx hb dX2_init_4 rfl (lv_at hl 0 rfl) ?_
  refine rg_new (ci := 0) (fl := [none]) (C := RX0) (T := TX0) (N := 1) (n := 1) F hH iwX2_init_X0 tyX0 tyX0_ok lkX2_init_3 lkX2_init_4 lkX2_init_5 rfl (fun j hj => by rcases (show j = 0 by omega) with rfl <;> rfl) (Nat.le_of_ble_eq_true rfl) (Nat.le_of_ble_eq_true rfl) dX2_init_5 (fun H hH hN => ?_)
  refine W.widen (k := 1) (n := 1) (by decide) (by decide) ?_
  refine lv_dup hx hb dX2_init_8 rfl ?_
  refine lv_bipush (v := 60) hx hb dX2_init_9 (by decide) ?_
  refine rg_callI (As := [.int 60]) (rest := [.ref (lo + 1), .ref lo]) F hH (fun q h => h) rfl hN (nX0_init l X (lo + 1) 60 60 (by decide) (by decide) (by decide)) (cwI 1 F.1.2.2.2.2 gX2_init_X0_init rfl rfl rfl (F.1.2.2.2.2 _ lkX2_init_5) (F.1.2.2.2.2 _ lkX2_init_7) (F.1.2.2.2.2 _ lkX2_init_6) rfl hiX0_init ⟨Nat.le_of_ble_eq_true rfl, Nat.le_of_ble_eq_true rfl⟩) rfl hl.1 (Nat.le_of_ble_eq_true rfl) dX2_init_11 ⟨Nat.le_of_ble_eq_true rfl, Nat.le_of_ble_eq_true rfl⟩ rfl (n' := 3) rfl (Nat.le_of_ble_eq_true rfl) (fun H locs hH => ?_)
  refine W.widen (k := 2) (n := 61) (by decide) (by decide) ?_
  replace hH := hp_cast (show _ = (pv zM 1 2 zM) from rfl) hH
  refine rg_putF F hH (fun q h => h) (C := RX2) (T := TX2) (N := 2) rfl iwX2_init_X2 tyX2 tyX2_ok nmX2 0 (Nat.le_of_ble_eq_true rfl) (by decide) rfl rfl (hnm.trans rfl) rfl (ty := .object "TideWords$Cells") (d := 1) (by decide +kernel) rfl rfl lkX2_init_8 rfl dX2_init_14 (fun H locs hH => ?_)
  replace hH := hp_L hH (show _ = LPd from rfl)
  exact W.vret hx hb hr (fun t ht _ => mn_post hH hP.2 ht) hH.2.1.2.2 dX2_init_17
set_option maxRecDepth 20000 in
theorem lkX5_init_0 : Cond.methodLink RX5 3 objectInit ∈ wsX5_init := by decide +kernel
set_option maxRecDepth 20000 in
theorem lkX5_init_1 : Cond.instanceMethod objectInit ∈ wsX5_init := by decide +kernel
set_option maxRecDepth 20000 in
theorem lkX5_init_2 : Cond.code objectInit ⟨#[0xb1]⟩ 1 none ∈ wsX5_init := by decide +kernel
set_option maxRecDepth 20000 in
theorem lkX5_init_3 : Cond.classLink RX5 9 RX3 ∈ wsX5_init := by decide +kernel
set_option maxRecDepth 20000 in
theorem lkX5_init_4 : Cond.instantiable RX3 4 ∈ wsX5_init := by decide +kernel
set_option maxRecDepth 20000 in
theorem lkX5_init_5 : Cond.initialized RX3 ∈ wsX5_init := by decide +kernel
set_option maxRecDepth 20000 in
theorem iwX5_init_X3 : ∀ w ∈ wsX30, w ∈ wsX5_init := by decide +kernel
set_option maxRecDepth 20000 in
theorem lkX5_init_6 : Cond.instanceMethod yX3_init ∈ wsX5_init := by decide +kernel
set_option maxRecDepth 20000 in
theorem lkX5_init_7 : Cond.methodLink RX5 11 yX3_init ∈ wsX5_init := by decide +kernel
theorem hiX3_init : yX3_init.cls ≠ "java/lang/invoke/MethodHandle" ∧ yX3_init.cls ≠ "java/lang/invoke/VarHandle" ∧ (parseMethodDescriptor yX3_init.desc).map (fun d => d.parameters.length) = some 0 := by decide +kernel
set_option maxRecDepth 20000 in
theorem lkX5_init_8 : Cond.fieldLink RX5 12 "TideWords$World" "tides" "LTideWords$Tides;" ∈ wsX5_init := by decide +kernel
set_option maxRecDepth 20000 in
theorem iwX5_init_X5 : ∀ w ∈ wsX50, w ∈ wsX5_init := by decide +kernel
set_option maxRecDepth 20000 in
theorem lkX5_init_9 : Cond.classLink RX5 18 RX1 ∈ wsX5_init := by decide +kernel
set_option maxRecDepth 20000 in
theorem lkX5_init_10 : Cond.instantiable RX1 8 ∈ wsX5_init := by decide +kernel
set_option maxRecDepth 20000 in
theorem lkX5_init_11 : Cond.initialized RX1 ∈ wsX5_init := by decide +kernel
set_option maxRecDepth 20000 in
theorem iwX5_init_X1 : ∀ w ∈ wsX10, w ∈ wsX5_init := by decide +kernel
set_option maxRecDepth 20000 in
theorem lkX5_init_12 : Cond.instanceMethod yX1_init ∈ wsX5_init := by decide +kernel
set_option maxRecDepth 20000 in
theorem lkX5_init_13 : Cond.methodLink RX5 20 yX1_init ∈ wsX5_init := by decide +kernel
theorem hiX1_init : yX1_init.cls ≠ "java/lang/invoke/MethodHandle" ∧ yX1_init.cls ≠ "java/lang/invoke/VarHandle" ∧ (parseMethodDescriptor yX1_init.desc).map (fun d => d.parameters.length) = some 0 := by decide +kernel
set_option maxRecDepth 20000 in
theorem lkX5_init_14 : Cond.fieldLink RX5 21 "TideWords$World" "gates" "LTideWords$Gates;" ∈ wsX5_init := by decide +kernel
set_option maxRecDepth 20000 in
theorem lkX5_init_15 : Cond.classLink RX5 25 RX4 ∈ wsX5_init := by decide +kernel
set_option maxRecDepth 20000 in
theorem lkX5_init_16 : Cond.instantiable RX4 8 ∈ wsX5_init := by decide +kernel
set_option maxRecDepth 20000 in
theorem lkX5_init_17 : Cond.initialized RX4 ∈ wsX5_init := by decide +kernel
set_option maxRecDepth 20000 in
theorem iwX5_init_X4 : ∀ w ∈ wsX40, w ∈ wsX5_init := by decide +kernel
set_option maxRecDepth 20000 in
theorem lkX5_init_18 : Cond.instanceMethod yX4_init ∈ wsX5_init := by decide +kernel
theorem hiX4_init : yX4_init.cls ≠ "java/lang/invoke/MethodHandle" ∧ yX4_init.cls ≠ "java/lang/invoke/VarHandle" ∧ (parseMethodDescriptor yX4_init.desc).map (fun d => d.parameters.length) = some 0 := by decide +kernel
set_option maxRecDepth 20000 in
theorem lkX5_init_19 : Cond.fieldLink RX5 28 "TideWords$World" "words" "LTideWords$Words;" ∈ wsX5_init := by decide +kernel
def wX5_init : Mem := (pv (pv (pv zM 1 9 wX3_init) 10 17 wX1_init) 27 15 wX4_init)
abbrev rmX5_init : Room := { frames := 3, cells := 41, slots := 225, locals := 67 }
set_option maxHeartbeats 8000000 in
set_option maxRecDepth 100000 in
theorem nX5_init (l : Launch) (X : kX) (lo : Nat) : MCK k5 l yX5_init wsX5_init rmX5_init X [.ref lo] lo (.inl (5, [none, none, none, some (.inr 0), some (.inr 1), some (.inr 2)])) LW wX5_init 41 225 := by
  refine mt_headA (cc := cX5_init) (maxL := 1) (ret := none) (own := RX5) (by decide) rfl rfl (Nat.le_of_ble_eq_true rfl) ?_
  intro p e s m below meth c ls F hK hr hlocks hnm hP hl
  have hx := F.1.1
  have hb := F.1.2.1
  have hH : Hp (fun q => lo ≤ q) s.heap (lo + 1) X [.inl (5, [none, none, none, some (.inr 0), some (.inr 1), some (.inr 2)])] lo zM s.heap [] := ⟨hP.1, va_S.rf, hP.2⟩
  have hl : lv_has ls 1 [(0, .ref lo)] := hl
  refine lv_aload_n hx hb dX5_init_0 rfl (lv_at hl 0 rfl) ?_
  refine W.objInit hx hb F.1.2.2.2.1 (F.1.2.2.2.2 _ lkX5_init_0) (F.1.2.2.2.2 _ lkX5_init_1) (F.1.2.2.2.2 _ lkX5_init_2) rfl (hl.1.trans F.1.2.2.1.symm) rfl dX5_init_1 (Nat.le_of_ble_eq_true rfl) (Nat.le_of_ble_eq_true rfl) ?_
  refine W.eq (g2 := F0 m 4 ls []) rfl ?_
  refine lv_aload_n hx hb dX5_init_4 rfl (lv_at hl 0 rfl) ?_
  refine rg_new (ci := 3) (fl := [none, none, none, none]) (C := RX3) (T := TX3) (N := 4) (n := 1) F hH iwX5_init_X3 tyX3 tyX3_ok lkX5_init_3 lkX5_init_4 lkX5_init_5 rfl (fun j hj => by rcases (show j = 0 ∨ j = 1 ∨ j = 2 ∨ j = 3 by omega) with rfl | rfl | rfl | rfl <;> rfl) (Nat.le_of_ble_eq_true rfl) (Nat.le_of_ble_eq_true rfl) dX5_init_5 (fun H hH hN => ?_)
  refine W.widen (k := 1) (n := 4) (by decide) (by decide) ?_
  refine lv_dup hx hb dX5_init_8 rfl ?_
  refine rg_callI (As := []) (rest := [.ref (lo + 1), .ref lo]) F hH (fun q h => h) rfl hN (nX3_init l X (lo + 1)) (cwI 0 F.1.2.2.2.2 gX5_init_X3_init rfl rfl rfl (F.1.2.2.2.2 _ lkX5_init_5) (F.1.2.2.2.2 _ lkX5_init_7) (F.1.2.2.2.2 _ lkX5_init_6) rfl hiX3_init ⟨Nat.le_of_ble_eq_true rfl, Nat.le_of_ble_eq_true rfl⟩) rfl hl.1 (Nat.le_of_ble_eq_true rfl) dX5_init_9 ⟨Nat.le_of_ble_eq_true rfl, Nat.le_of_ble_eq_true rfl⟩ rfl (n' := 10) rfl (Nat.le_of_ble_eq_true rfl) (fun H locs hH => ?_)
  refine W.widen (k := 9) (n := 16) (by decide) (by decide) ?_
  replace hH := hp_cast (show _ = (pv zM 1 9 wX3_init) from rfl) hH
  refine rg_putF F hH (fun q h => h) (C := RX5) (T := TX5) (N := 6) rfl iwX5_init_X5 tyX5 tyX5_ok nmX5 0 (Nat.le_of_ble_eq_true rfl) (by decide) rfl rfl (hnm.trans rfl) rfl (ty := .object "TideWords$Tides") (d := 1) (by decide +kernel) rfl rfl lkX5_init_8 rfl dX5_init_12 (fun H locs hH => ?_)
  refine lv_aload_n hx hb dX5_init_15 rfl (lv_at hl 0 rfl) ?_
  refine rg_new (ci := 1) (fl := [none, none, none, none, none, none, none, none]) (C := RX1) (T := TX1) (N := 8) (n := 10) F hH iwX5_init_X1 tyX1 tyX1_ok lkX5_init_9 lkX5_init_10 lkX5_init_11 rfl (fun j hj => by rcases (show j = 0 ∨ j = 1 ∨ j = 2 ∨ j = 3 ∨ j = 4 ∨ j = 5 ∨ j = 6 ∨ j = 7 by omega) with rfl | rfl | rfl | rfl | rfl | rfl | rfl | rfl <;> rfl) (Nat.le_of_ble_eq_true rfl) (Nat.le_of_ble_eq_true rfl) dX5_init_16 (fun H hH hN => ?_)
  refine W.widen (k := 10) (n := 24) (by decide) (by decide) ?_
  refine lv_dup hx hb dX5_init_19 rfl ?_
  refine rg_callI (As := []) (rest := [.ref (lo + 10), .ref lo]) F hH (fun q h => h) rfl hN (nX1_init l X (lo + 10)) (cwI 0 F.1.2.2.2.2 gX5_init_X1_init rfl rfl rfl (F.1.2.2.2.2 _ lkX5_init_11) (F.1.2.2.2.2 _ lkX5_init_13) (F.1.2.2.2.2 _ lkX5_init_12) rfl hiX1_init ⟨Nat.le_of_ble_eq_true rfl, Nat.le_of_ble_eq_true rfl⟩) rfl hl.1 (Nat.le_of_ble_eq_true rfl) dX5_init_20 ⟨Nat.le_of_ble_eq_true rfl, Nat.le_of_ble_eq_true rfl⟩ rfl (n' := 27) rfl (Nat.le_of_ble_eq_true rfl) (fun H locs hH => ?_)
  refine W.widen (k := 26) (n := 64) (by decide) (by decide) ?_
  replace hH := hp_cast (show _ = (pv (pv zM 1 9 wX3_init) 10 17 wX1_init) from rfl) hH
  refine rg_putF F hH (fun q h => h) (C := RX5) (T := TX5) (N := 6) rfl iwX5_init_X5 tyX5 tyX5_ok nmX5 1 (Nat.le_of_ble_eq_true rfl) (by decide) rfl rfl (hnm.trans rfl) rfl (ty := .object "TideWords$Gates") (d := 10) (by decide +kernel) rfl rfl lkX5_init_14 rfl dX5_init_23 (fun H locs hH => ?_)
  refine lv_aload_n hx hb dX5_init_26 rfl (lv_at hl 0 rfl) ?_
  refine rg_new (ci := 4) (fl := [none, none, none, none, none, none, none, some (.inr 0)]) (C := RX4) (T := TX4) (N := 8) (n := 27) F hH iwX5_init_X4 tyX4 tyX4_ok lkX5_init_15 lkX5_init_16 lkX5_init_17 rfl (fun j hj => by rcases (show j = 0 ∨ j = 1 ∨ j = 2 ∨ j = 3 ∨ j = 4 ∨ j = 5 ∨ j = 6 ∨ j = 7 by omega) with rfl | rfl | rfl | rfl | rfl | rfl | rfl | rfl <;> rfl) (Nat.le_of_ble_eq_true rfl) (Nat.le_of_ble_eq_true rfl) dX5_init_27 (fun H hH hN => ?_)
  refine W.widen (k := 27) (n := 72) (by decide) (by decide) ?_
  refine lv_dup hx hb dX5_init_30 rfl ?_
  refine rg_callIN kwT trivial (As := []) (rest := [.ref (lo + 27), .ref lo]) F hH (fun q h => h) rfl hN (nX4_init l X (lo + 27)) ⟨va_cnB 0 F.1.2.2.2.2 gX5_init_X4_init_n27 rfl rfl rfl hK.1 (F.1.2.2.2.2 _ lkX5_init_17) hiX4_init ⟨Nat.le_of_ble_eq_true rfl, Nat.le_of_ble_eq_true rfl⟩, rfl, (F.1.2.2.2.2 _ lkX5_init_18)⟩ rfl hl.1 (Nat.le_of_ble_eq_true rfl) dX5_init_31 ⟨Nat.le_of_ble_eq_true rfl, Nat.le_of_ble_eq_true rfl⟩ rfl (n' := 42) rfl (Nat.le_of_ble_eq_true rfl) (fun H locs hH => ?_)
  refine W.widen (k := 41) (n := 225) (by decide) (by decide) ?_
  replace hH := hp_cast (show _ = (pv (pv (pv zM 1 9 wX3_init) 10 17 wX1_init) 27 15 wX4_init) from rfl) hH
  refine rg_putF F hH (fun q h => h) (C := RX5) (T := TX5) (N := 6) rfl iwX5_init_X5 tyX5 tyX5_ok nmX5 2 (Nat.le_of_ble_eq_true rfl) (by decide) rfl rfl (hnm.trans rfl) rfl (ty := .object "TideWords$Words") (d := 27) (by decide +kernel) rfl rfl lkX5_init_19 rfl dX5_init_34 (fun H locs hH => ?_)
  replace hH := hp_L hH (show _ = LW from rfl)
  exact W.vret hx hb hr (fun t ht _ => mn_post hH hP.2 ht) hH.2.1.2.2 dX5_init_37
