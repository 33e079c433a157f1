def fX7_in (a1 : Int32) (a2 : Int32) (a3 : Int32) : Int32 := if a1 < a2 then (0 : Int32) else if a3 < a1 then (0 : Int32) else (1 : Int32)
abbrev rmX7_in : Room := { frames := 0, cells := 0, slots := 0, locals := 0 }
set_option maxHeartbeats 4000000 in
set_option maxRecDepth 100000 in
theorem mX7_in (l : Launch) (X : kX) (a1 : Int32) (a2 : Int32) (a3 : Int32) (out : Int32) (hE : fX7_in a1 a2 a3 = out) : MR l yX7_in wsX7_in rmX7_in X [.int a1, .int a2, .int a3] (fun _ => True) (some (.int out)) := by
  refine mt_head (cc := cX7_in) (maxL := 3) (ret := (some .boolean)) (own := RX7) (by decide) rfl rfl (Nat.le_of_ble_eq_true rfl) ?_
  intro p e s m below meth c ls F hr hlocks hnm hR hl
  have hx := F.1.1
  have hb := F.1.2.1
  have hl : lv_has ls 3 [(0, .int a1), (1, .int a2), (2, .int a3)] := hl
  unfold fX7_in at hE
  refine lv_iload_n hx hb dX7_in_0 rfl (lv_at hl 0 rfl) ?_
  refine lv_iload_n hx hb dX7_in_1 rfl (lv_at hl 1 rfl) ?_
  refine lv_icmp_lt (tgt := 14) hx hb dX7_in_2 (by decide) (fun c1 => ?_) (fun c1 => ?_)
  · have hE := (if_pos c1).symm.trans hE
    refine lv_iconst (v := 0) hx hb dX7_in_14 (by decide) ?_
    subst hE
    exact W.zret (v := (0 : Int32)) hx hb hr rfl (fun t ht _ => ⟨rfl, ht⟩) (fun _ h => absurd h List.not_mem_nil) dX7_in_15
  · have hE := (if_neg c1).symm.trans hE
    refine lv_iload_n hx hb dX7_in_5 rfl (lv_at hl 0 rfl) ?_
    refine lv_iload_n hx hb dX7_in_6 rfl (lv_at hl 2 rfl) ?_
    refine lv_icmp_gt (tgt := 14) hx hb dX7_in_7 (by decide) (fun c2 => ?_) (fun c2 => ?_)
    · have hE := (if_pos c2).symm.trans hE
      refine lv_iconst (v := 0) hx hb dX7_in_14 (by decide) ?_
      subst hE
      exact W.zret (v := (0 : Int32)) hx hb hr rfl (fun t ht _ => ⟨rfl, ht⟩) (fun _ h => absurd h List.not_mem_nil) dX7_in_15
    · have hE := (if_neg c2).symm.trans hE
      refine lv_iconst (v := 1) hx hb dX7_in_10 (by decide) ?_
      refine lv_goto (tgt := 15) hx hb dX7_in_11 (by decide) ?_
      subst hE
      exact W.zret (v := (1 : Int32)) hx hb hr rfl (fun t ht _ => ⟨rfl, ht⟩) (fun _ h => absurd h List.not_mem_nil) dX7_in_15
theorem zX7_in {a1 : Int32} {a2 : Int32} {a3 : Int32} {out : Int32} (h : fX7_in a1 a2 a3 = out) : narrow .boolean (.int out) = .int out := by
  rw [← h]
  unfold fX7_in
  repeat (first | rfl | exact zX1_isOpenAcross rfl | exact zX5_isOpenAt rfl | exact zX6_isWithin rfl | exact zX6_isStore rfl | exact zX6_isGate rfl | exact zX6_isWord rfl | (simp only [lt]) | split)
theorem hsX7_in : yX7_in.cls ≠ "java/lang/invoke/MethodHandle" ∧ yX7_in.cls ≠ "java/lang/invoke/VarHandle" ∧ (parseMethodDescriptor yX7_in.desc).map (fun d => d.parameters.length) = some 3 := by decide +kernel
def fX7_isStore (a1 : Int32) : Int32 := lt (fX7_in a1 ((0 : Int32)) ((1 : Int32))) (fun r1 => r1)
abbrev rmX7_isStore : Room := { frames := 1, cells := 0, slots := 0, locals := 22 }
set_option maxHeartbeats 4000000 in
set_option maxRecDepth 100000 in
theorem mX7_isStore (l : Launch) (X : kX) (a1 : Int32) (out : Int32) (hE : fX7_isStore a1 = out) : MR l yX7_isStore wsX7_isStore rmX7_isStore X [.int a1] (fun _ => True) (some (.int out)) := by
  refine mt_head (cc := cX7_isStore) (maxL := 1) (ret := (some .boolean)) (own := RX7) (by decide) rfl rfl (Nat.le_of_ble_eq_true rfl) ?_
  intro p e s m below meth c ls F hr hlocks hnm hR hl
  have hx := F.1.1
  have hb := F.1.2.1
  have hl : lv_has ls 1 [(0, .int a1)] := hl
  unfold fX7_isStore at hE
  refine lv_iload_n hx hb dX7_isStore_0 rfl (lv_at hl 0 rfl) ?_
  refine lv_iconst (v := 0) hx hb dX7_isStore_1 (by decide) ?_
  refine lv_iconst (v := 1) hx hb dX7_isStore_2 (by decide) ?_
  obtain ⟨r1, er1, hE⟩ := lt_el hE
  refine rg_callRS (As := [.int a1, .int ((0 : Int32)), .int ((1 : Int32))]) (rest := []) F (mX7_in l X a1 ((0 : Int32)) ((1 : Int32)) r1 er1) (va_cwS 3 F.1.2.2.2.2 gX7_isStore_X7_in rfl rfl rfl hsX7_in ⟨Nat.le_of_ble_eq_true rfl, Nat.le_of_ble_eq_true rfl⟩)  trivial rfl hl.1 (Nat.le_of_ble_eq_true rfl) dX7_isStore_3 ⟨Nat.zero_le _, Nat.zero_le _⟩ rfl ?_
  subst hE
  exact W.zret (v := r1) hx hb hr (zX7_in er1) (fun t ht _ => ⟨rfl, ht⟩) (fun _ h => absurd h List.not_mem_nil) dX7_isStore_6
theorem zX7_isStore {a1 : Int32} {out : Int32} (h : fX7_isStore a1 = out) : narrow .boolean (.int out) = .int out := by
  rw [← h]
  unfold fX7_isStore
  repeat (first | rfl | exact zX1_isOpenAcross rfl | exact zX5_isOpenAt rfl | exact zX6_isWithin rfl | exact zX6_isStore rfl | exact zX6_isGate rfl | exact zX6_isWord rfl | exact zX7_in rfl | (simp only [lt]) | split)
def fX7_isGate (a1 : Int32) : Int32 := lt (fX7_in a1 ((0 : Int32)) ((3 : Int32))) (fun r1 => r1)
abbrev rmX7_isGate : Room := { frames := 1, cells := 0, slots := 0, locals := 22 }
set_option maxHeartbeats 4000000 in
set_option maxRecDepth 100000 in
theorem mX7_isGate (l : Launch) (X : kX) (a1 : Int32) (out : Int32) (hE : fX7_isGate a1 = out) : MR l yX7_isGate wsX7_isGate rmX7_isGate X [.int a1] (fun _ => True) (some (.int out)) := by
  refine mt_head (cc := cX7_isGate) (maxL := 1) (ret := (some .boolean)) (own := RX7) (by decide) rfl rfl (Nat.le_of_ble_eq_true rfl) ?_
  intro p e s m below meth c ls F hr hlocks hnm hR hl
  have hx := F.1.1
  have hb := F.1.2.1
  have hl : lv_has ls 1 [(0, .int a1)] := hl
  unfold fX7_isGate at hE
  refine lv_iload_n hx hb dX7_isGate_0 rfl (lv_at hl 0 rfl) ?_
  refine lv_iconst (v := 0) hx hb dX7_isGate_1 (by decide) ?_
  refine lv_iconst (v := 3) hx hb dX7_isGate_2 (by decide) ?_
  obtain ⟨r1, er1, hE⟩ := lt_el hE
  refine rg_callRS (As := [.int a1, .int ((0 : Int32)), .int ((3 : Int32))]) (rest := []) F (mX7_in l X a1 ((0 : Int32)) ((3 : Int32)) r1 er1) (va_cwS 3 F.1.2.2.2.2 gX7_isGate_X7_in rfl rfl rfl hsX7_in ⟨Nat.le_of_ble_eq_true rfl, Nat.le_of_ble_eq_true rfl⟩)  trivial rfl hl.1 (Nat.le_of_ble_eq_true rfl) dX7_isGate_3 ⟨Nat.zero_le _, Nat.zero_le _⟩ rfl ?_
  subst hE
  exact W.zret (v := r1) hx hb hr (zX7_in er1) (fun t ht _ => ⟨rfl, ht⟩) (fun _ h => absurd h List.not_mem_nil) dX7_isGate_6
theorem zX7_isGate {a1 : Int32} {out : Int32} (h : fX7_isGate a1 = out) : narrow .boolean (.int out) = .int out := by
  rw [← h]
  unfold fX7_isGate
  repeat (first | rfl | exact zX1_isOpenAcross rfl | exact zX5_isOpenAt rfl | exact zX6_isWithin rfl | exact zX6_isStore rfl | exact zX6_isGate rfl | exact zX6_isWord rfl | exact zX7_in rfl | exact zX7_isStore rfl | (simp only [lt]) | split)
set_option maxRecDepth 20000 in
theorem lkX7_isWord_0 : Cond.fieldLink RX7 7 "TideWordsModel" "s" "[I" ∈ wsX7_isWord := by decide +kernel
set_option maxRecDepth 20000 in
theorem iwX7_isWord_X7 : ∀ w ∈ wsX70, w ∈ wsX7_isWord := by decide +kernel
def fX7_isWord (V : Mem) (a1 : Int32) : Int32 := lt (fX7_in a1 ((0 : Int32)) ((V 1 4) - ((1 : Int32)))) (fun r1 => r1)
abbrev rmX7_isWord : Room := { frames := 1, cells := 0, slots := 0, locals := 22 }
set_option maxHeartbeats 4000000 in
set_option maxRecDepth 100000 in
theorem mX7_isWord (l : Launch) (X : kX) (b : Nat) (V : Mem) (a1 : Int32) (out : Int32) (hE : fX7_isWord V a1 = out) : MR l yX7_isWord wsX7_isWord rmX7_isWord X [.ref b, .int a1] (RP X LM b V) (some (.int out)) := by
  refine mt_head (cc := cX7_isWord) (maxL := 2) (ret := (some .boolean)) (own := RX7) (by decide) rfl rfl (Nat.le_of_ble_eq_true rfl) ?_
  intro p e s m below meth c ls F hr hlocks hnm hR hl
  have hx := F.1.1
  have hb := F.1.2.1
  have hl : lv_has ls 2 [(0, .ref b), (1, .int a1)] := hl
  unfold fX7_isWord at hE
  refine lv_iload_n hx hb dX7_isWord_0 rfl (lv_at hl 1 rfl) ?_
  refine lv_iconst (v := 0) hx hb dX7_isWord_1 (by decide) ?_
  refine lv_aload_n hx hb dX7_isWord_2 rfl (lv_at hl 0 rfl) ?_
  refine rg_getr F hR 0 (ci := 7) rfl (C := RX7) (T := TX7) (N := 8) rfl iwX7_isWord_X7 0 (d := 1) (n := 1) rfl rfl (by decide) rfl lkX7_isWord_0 rfl dX7_isWord_3 ?_
  refine lv_iconst (v := 4) hx hb dX7_isWord_6 (by decide) ?_
  refine rg_iald F hR 1 rfl (i := 4) (by decide) rfl dX7_isWord_7 ?_
  refine lv_iconst (v := 1) hx hb dX7_isWord_8 (by decide) ?_
  refine lv_isub hx hb dX7_isWord_9 ?_
  obtain ⟨r1, er1, hE⟩ := lt_el hE
  refine rg_callRS (As := [.int a1, .int ((0 : Int32)), .int ((V 1 4) - ((1 : Int32)))]) (rest := []) F (mX7_in l X a1 ((0 : Int32)) ((V 1 4) - ((1 : Int32))) r1 er1) (va_cwS 3 F.1.2.2.2.2 gX7_isWord_X7_in rfl rfl rfl hsX7_in ⟨Nat.le_of_ble_eq_true rfl, Nat.le_of_ble_eq_true rfl⟩)  trivial rfl hl.1 (Nat.le_of_ble_eq_true rfl) dX7_isWord_10 ⟨Nat.zero_le _, Nat.zero_le _⟩ rfl ?_
  subst hE
  exact W.zret (v := r1) hx hb hr (zX7_in er1) (fun t ht _ => ⟨rfl, ht⟩) (fun _ h => absurd h List.not_mem_nil) dX7_isWord_13
theorem zX7_isWord {V : Mem} {a1 : Int32} {out : Int32} (h : fX7_isWord V a1 = out) : narrow .boolean (.int out) = .int out := by
  rw [← h]
  unfold fX7_isWord
  repeat (first | rfl | exact zX1_isOpenAcross rfl | exact zX5_isOpenAt rfl | exact zX6_isWithin rfl | exact zX6_isStore rfl | exact zX6_isGate rfl | exact zX6_isWord rfl | exact zX7_in rfl | exact zX7_isStore rfl | exact zX7_isGate rfl | (simp only [lt]) | split)
def fX7_ofStore (a1 : Int32) (a2 : Int32) : Int32 := (((5 : Int32)) + (((4 : Int32)) * a1)) + a2
abbrev rmX7_ofStore : Room := { frames := 0, cells := 0, slots := 0, locals := 0 }
set_option maxHeartbeats 4000000 in
set_option maxRecDepth 100000 in
theorem mX7_ofStore (l : Launch) (X : kX) (a1 : Int32) (a2 : Int32) (out : Int32) (hE : fX7_ofStore a1 a2 = out) : MR l yX7_ofStore wsX7_ofStore rmX7_ofStore X [.int a1, .int a2] (fun _ => True) (some (.int out)) := by
  refine mt_head (cc := cX7_ofStore) (maxL := 2) (ret := (some .int)) (own := RX7) (by decide) rfl rfl (Nat.le_of_ble_eq_true rfl) ?_
  intro p e s m below meth c ls F hr hlocks hnm hR hl
  have hx := F.1.1
  have hb := F.1.2.1
  have hl : lv_has ls 2 [(0, .int a1), (1, .int a2)] := hl
  unfold fX7_ofStore at hE
  refine lv_iconst (v := 5) hx hb dX7_ofStore_0 (by decide) ?_
  refine lv_iconst (v := 4) hx hb dX7_ofStore_1 (by decide) ?_
  refine lv_iload_n hx hb dX7_ofStore_2 rfl (lv_at hl 0 rfl) ?_
  refine lv_imul hx hb dX7_ofStore_3 ?_
  refine lv_iadd hx hb dX7_ofStore_4 ?_
  refine lv_iload_n hx hb dX7_ofStore_5 rfl (lv_at hl 1 rfl) ?_
  refine lv_iadd hx hb dX7_ofStore_6 ?_
  subst hE
  exact W.iret (v := (((5 : Int32)) + (((4 : Int32)) * a1)) + a2) hx hb hr (fun t ht _ => ⟨rfl, ht⟩) (fun _ h => absurd h List.not_mem_nil) dX7_ofStore_7
def fX7_ofGate (a1 : Int32) (a2 : Int32) : Int32 := (((13 : Int32)) + (((8 : Int32)) * a1)) + a2
abbrev rmX7_ofGate : Room := { frames := 0, cells := 0, slots := 0, locals := 0 }
set_option maxHeartbeats 4000000 in
set_option maxRecDepth 100000 in
theorem mX7_ofGate (l : Launch) (X : kX) (a1 : Int32) (a2 : Int32) (out : Int32) (hE : fX7_ofGate a1 a2 = out) : MR l yX7_ofGate wsX7_ofGate rmX7_ofGate X [.int a1, .int a2] (fun _ => True) (some (.int out)) := by
  refine mt_head (cc := cX7_ofGate) (maxL := 2) (ret := (some .int)) (own := RX7) (by decide) rfl rfl (Nat.le_of_ble_eq_true rfl) ?_
  intro p e s m below meth c ls F hr hlocks hnm hR hl
  have hx := F.1.1
  have hb := F.1.2.1
  have hl : lv_has ls 2 [(0, .int a1), (1, .int a2)] := hl
  unfold fX7_ofGate at hE
  refine lv_bipush (v := 13) hx hb dX7_ofGate_0 (by decide) ?_
  refine lv_bipush (v := 8) hx hb dX7_ofGate_2 (by decide) ?_
  refine lv_iload_n hx hb dX7_ofGate_4 rfl (lv_at hl 0 rfl) ?_
  refine lv_imul hx hb dX7_ofGate_5 ?_
  refine lv_iadd hx hb dX7_ofGate_6 ?_
  refine lv_iload_n hx hb dX7_ofGate_7 rfl (lv_at hl 1 rfl) ?_
  refine lv_iadd hx hb dX7_ofGate_8 ?_
  subst hE
  exact W.iret (v := (((13 : Int32)) + (((8 : Int32)) * a1)) + a2) hx hb hr (fun t ht _ => ⟨rfl, ht⟩) (fun _ h => absurd h List.not_mem_nil) dX7_ofGate_9
def fX7_ofWord (a1 : Int32) (a2 : Int32) : Int32 := (((71 : Int32)) + (((5 : Int32)) * a1)) + a2
abbrev rmX7_ofWord : Room := { frames := 0, cells := 0, slots := 0, locals := 0 }
set_option maxHeartbeats 4000000 in
set_option maxRecDepth 100000 in
theorem mX7_ofWord (l : Launch) (X : kX) (a1 : Int32) (a2 : Int32) (out : Int32) (hE : fX7_ofWord a1 a2 = out) : MR l yX7_ofWord wsX7_ofWord rmX7_ofWord X [.int a1, .int a2] (fun _ => True) (some (.int out)) := by
  refine mt_head (cc := cX7_ofWord) (maxL := 2) (ret := (some .int)) (own := RX7) (by decide) rfl rfl (Nat.le_of_ble_eq_true rfl) ?_
  intro p e s m below meth c ls F hr hlocks hnm hR hl
  have hx := F.1.1
  have hb := F.1.2.1
  have hl : lv_has ls 2 [(0, .int a1), (1, .int a2)] := hl
  unfold fX7_ofWord at hE
  refine lv_bipush (v := 71) hx hb dX7_ofWord_0 (by decide) ?_
  refine lv_iconst (v := 5) hx hb dX7_ofWord_2 (by decide) ?_
  refine lv_iload_n hx hb dX7_ofWord_3 rfl (lv_at hl 0 rfl) ?_
  refine lv_imul hx hb dX7_ofWord_4 ?_
  refine lv_iadd hx hb dX7_ofWord_5 ?_
  refine lv_iload_n hx hb dX7_ofWord_6 rfl (lv_at hl 1 rfl) ?_
  refine lv_iadd hx hb dX7_ofWord_7 ?_
  subst hE
  exact W.iret (v := (((71 : Int32)) + (((5 : Int32)) * a1)) + a2) hx hb hr (fun t ht _ => ⟨rfl, ht⟩) (fun _ h => absurd h List.not_mem_nil) dX7_ofWord_8
def fX7_inRow (a1 : Int32) (a2 : Int32) : Int32 := (((47 : Int32)) + (((12 : Int32)) * a1)) + a2
abbrev rmX7_inRow : Room := { frames := 0, cells := 0, slots := 0, locals := 0 }
set_option maxHeartbeats 4000000 in
set_option maxRecDepth 100000 in
theorem mX7_inRow (l : Launch) (X : kX) (a1 : Int32) (a2 : Int32) (out : Int32) (hE : fX7_inRow a1 a2 = out) : MR l yX7_inRow wsX7_inRow rmX7_inRow X [.int a1, .int a2] (fun _ => True) (some (.int out)) := by
  refine mt_head (cc := cX7_inRow) (maxL := 2) (ret := (some .int)) (own := RX7) (by decide) rfl rfl (Nat.le_of_ble_eq_true rfl) ?_
  intro p e s m below meth c ls F hr hlocks hnm hR hl
  have hx := F.1.1
  have hb := F.1.2.1
  have hl : lv_has ls 2 [(0, .int a1), (1, .int a2)] := hl
  unfold fX7_inRow at hE
  refine lv_bipush (v := 47) hx hb dX7_inRow_0 (by decide) ?_
  refine lv_bipush (v := 12) hx hb dX7_inRow_2 (by decide) ?_
  refine lv_iload_n hx hb dX7_inRow_4 rfl (lv_at hl 0 rfl) ?_
  refine lv_imul hx hb dX7_inRow_5 ?_
  refine lv_iadd hx hb dX7_inRow_6 ?_
  refine lv_iload_n hx hb dX7_inRow_7 rfl (lv_at hl 1 rfl) ?_
  refine lv_iadd hx hb dX7_inRow_8 ?_
  subst hE
  exact W.iret (v := (((47 : Int32)) + (((12 : Int32)) * a1)) + a2) hx hb hr (fun t ht _ => ⟨rfl, ht⟩) (fun _ h => absurd h List.not_mem_nil) dX7_inRow_9
set_option maxRecDepth 20000 in
theorem lkX7_level_0 : Cond.fieldLink RX7 7 "TideWordsModel" "s" "[I" ∈ wsX7_level := by decide +kernel
set_option maxRecDepth 20000 in
theorem iwX7_level_X7 : ∀ w ∈ wsX70, w ∈ wsX7_level := by decide +kernel
theorem hsX7_ofStore : yX7_ofStore.cls ≠ "java/lang/invoke/MethodHandle" ∧ yX7_ofStore.cls ≠ "java/lang/invoke/VarHandle" ∧ (parseMethodDescriptor yX7_ofStore.desc).map (fun d => d.parameters.length) = some 2 := by decide +kernel
def qX7_level (V : Mem) (a1 : Int32) (a2 : Int32) : Option (Int32) := lt (fX7_ofStore a1 ((2 : Int32))) (fun r1 => if r1 < 0 ∨ 131 ≤ r1.toNatClampNeg then none else if V 1 r1.toNatClampNeg = 0 then none else if (V 1 r1.toNatClampNeg) - (a2 - a2 / (V 1 r1.toNatClampNeg) * (V 1 r1.toNatClampNeg)) ≤ a2 - a2 / (V 1 r1.toNatClampNeg) * (V 1 r1.toNatClampNeg) then lt (fX7_ofStore a1 ((0 : Int32))) (fun r5 => if r5 < 0 ∨ 131 ≤ r5.toNatClampNeg then none else lt (fX7_ofStore a1 ((1 : Int32))) (fun r7 => if r7 < 0 ∨ 131 ≤ r7.toNatClampNeg then none else lt (fX7_ofStore a1 ((1 : Int32))) (fun r9 => if r9 < 0 ∨ 131 ≤ r9.toNatClampNeg then none else some (((V 1 r5.toNatClampNeg) - (V 1 r7.toNatClampNeg)) + (((((4 : Int32)) * (V 1 r9.toNatClampNeg)) * ((V 1 r1.toNatClampNeg) - (a2 - a2 / (V 1 r1.toNatClampNeg) * (V 1 r1.toNatClampNeg)))) / (V 1 r1.toNatClampNeg)))))) else lt (fX7_ofStore a1 ((0 : Int32))) (fun r11 => if r11 < 0 ∨ 131 ≤ r11.toNatClampNeg then none else lt (fX7_ofStore a1 ((1 : Int32))) (fun r13 => if r13 < 0 ∨ 131 ≤ r13.toNatClampNeg then none else lt (fX7_ofStore a1 ((1 : Int32))) (fun r15 => if r15 < 0 ∨ 131 ≤ r15.toNatClampNeg then none else some (((V 1 r11.toNatClampNeg) - (V 1 r13.toNatClampNeg)) + (((((4 : Int32)) * (V 1 r15.toNatClampNeg)) * (a2 - a2 / (V 1 r1.toNatClampNeg) * (V 1 r1.toNatClampNeg))) / (V 1 r1.toNatClampNeg)))))))
abbrev rmX7_level : Room := { frames := 1, cells := 0, slots := 0, locals := 21 }
set_option maxHeartbeats 4000000 in
set_option maxRecDepth 100000 in
theorem mX7_level (l : Launch) (X : kX) (b : Nat) (V : Mem) (a1 : Int32) (a2 : Int32) (out : Int32) (hE : qX7_level V a1 a2 = some out) : MR l yX7_level wsX7_level rmX7_level X [.ref b, .int a1, .int a2] (RP X LM b V) (some (.int out)) := by
  refine mt_head (cc := cX7_level) (maxL := 6) (ret := (some .int)) (own := RX7) (by decide) rfl rfl (Nat.le_of_ble_eq_true rfl) ?_
  intro p e s m below meth c ls F hr hlocks hnm hR hl
  have hx := F.1.1
  have hb := F.1.2.1
  have hl : lv_has ls 6 [(0, .ref b), (1, .int a1), (2, .int a2)] := hl
  unfold qX7_level at hE
  refine lv_aload_n hx hb dX7_level_0 rfl (lv_at hl 0 rfl) ?_
  refine rg_getr F hR 0 (ci := 7) rfl (C := RX7) (T := TX7) (N := 8) rfl iwX7_level_X7 0 (d := 1) (n := 1) rfl rfl (by decide) rfl lkX7_level_0 rfl dX7_level_1 ?_
  refine lv_iload_n hx hb dX7_level_4 rfl (lv_at hl 1 rfl) ?_
  refine lv_iconst (v := 2) hx hb dX7_level_5 (by decide) ?_
  obtain ⟨r1, er1, hE⟩ := lt_el hE
  refine rg_callRS (As := [.int a1, .int ((2 : Int32))]) (rest := [.ref (b + 1)]) F (mX7_ofStore l X a1 ((2 : Int32)) r1 er1) (va_cwS 2 F.1.2.2.2.2 gX7_level_X7_ofStore rfl rfl rfl hsX7_ofStore ⟨Nat.le_of_ble_eq_true rfl, Nat.le_of_ble_eq_true rfl⟩)  trivial rfl hl.1 (Nat.le_of_ble_eq_true rfl) dX7_level_6 ⟨Nat.zero_le _, Nat.zero_le _⟩ rfl ?_
  obtain ⟨g2, hE⟩ := gd_el hE
  refine rg_iald F hR 1 (n := 131) rfl g2 rfl dX7_level_9 ?_
  refine lv_istore_n (lv' := [(3, .int (V 1 r1.toNatClampNeg)), (0, .ref b), (1, .int a1), (2, .int a2)]) hx hb dX7_level_10 rfl hl (by decide) rfl (fun ls hl => ?_)
  refine lv_iload_n hx hb dX7_level_11 rfl (lv_at hl 3 rfl) ?_
  refine lv_iload_n hx hb dX7_level_12 rfl (lv_at hl 0 rfl) ?_
  obtain ⟨g3, hE⟩ := gd_el hE
  refine lv_irem hx hb dX7_level_13 g3 ?_
  refine lv_istore (lv' := [(4, .int (a2 - a2 / (V 1 r1.toNatClampNeg) * (V 1 r1.toNatClampNeg))), (3, .int (V 1 r1.toNatClampNeg)), (0, .ref b), (1, .int a1), (2, .int a2)]) hx hb dX7_level_14 hl (by decide) rfl (fun ls hl => ?_)
  refine lv_iload hx hb dX7_level_16 (lv_at hl 0 rfl) ?_
  refine lv_iload_n hx hb dX7_level_18 rfl (lv_at hl 1 rfl) ?_
  refine lv_iload hx hb dX7_level_19 (lv_at hl 0 rfl) ?_
  refine lv_isub hx hb dX7_level_21 ?_
  refine lv_icmp_ge (tgt := 30) hx hb dX7_level_22 (by decide) (fun c4 => ?_) (fun c4 => ?_)
  · have hE := (if_pos c4).symm.trans hE
    refine lv_iload_n hx hb dX7_level_30 rfl (lv_at hl 1 rfl) ?_
    refine lv_iload hx hb dX7_level_31 (lv_at hl 0 rfl) ?_
    refine lv_isub hx hb dX7_level_33 ?_
    refine lv_istore (lv' := [(5, .int ((V 1 r1.toNatClampNeg) - (a2 - a2 / (V 1 r1.toNatClampNeg) * (V 1 r1.toNatClampNeg)))), (4, .int (a2 - a2 / (V 1 r1.toNatClampNeg) * (V 1 r1.toNatClampNeg))), (3, .int (V 1 r1.toNatClampNeg)), (0, .ref b), (1, .int a1), (2, .int a2)]) hx hb dX7_level_34 hl (by decide) rfl (fun ls hl => ?_)
    refine lv_aload_n hx hb dX7_level_36 rfl (lv_at hl 3 rfl) ?_
    refine rg_getr F hR 0 (ci := 7) rfl (C := RX7) (T := TX7) (N := 8) rfl iwX7_level_X7 0 (d := 1) (n := 1) rfl rfl (by decide) rfl lkX7_level_0 rfl dX7_level_37 ?_
    refine lv_iload_n hx hb dX7_level_40 rfl (lv_at hl 4 rfl) ?_
    refine lv_iconst (v := 0) hx hb dX7_level_41 (by decide) ?_
    obtain ⟨r5, er5, hE⟩ := lt_el hE
    refine rg_callRS (As := [.int a1, .int ((0 : Int32))]) (rest := [.ref (b + 1)]) F (mX7_ofStore l X a1 ((0 : Int32)) r5 er5) (va_cwS 2 F.1.2.2.2.2 gX7_level_X7_ofStore rfl rfl rfl hsX7_ofStore ⟨Nat.le_of_ble_eq_true rfl, Nat.le_of_ble_eq_true rfl⟩)  trivial rfl hl.1 (Nat.le_of_ble_eq_true rfl) dX7_level_42 ⟨Nat.zero_le _, Nat.zero_le _⟩ rfl ?_
    obtain ⟨g6, hE⟩ := gd_el hE
    refine rg_iald F hR 1 (n := 131) rfl g6 rfl dX7_level_45 ?_
    refine lv_aload_n hx hb dX7_level_46 rfl (lv_at hl 3 rfl) ?_
    refine rg_getr F hR 0 (ci := 7) rfl (C := RX7) (T := TX7) (N := 8) rfl iwX7_level_X7 0 (d := 1) (n := 1) rfl rfl (by decide) rfl lkX7_level_0 rfl dX7_level_47 ?_
    refine lv_iload_n hx hb dX7_level_50 rfl (lv_at hl 4 rfl) ?_
    refine lv_iconst (v := 1) hx hb dX7_level_51 (by decide) ?_
    obtain ⟨r7, er7, hE⟩ := lt_el hE
    refine rg_callRS (As := [.int a1, .int ((1 : Int32))]) (rest := [.ref (b + 1), .int (V 1 r5.toNatClampNeg)]) F (mX7_ofStore l X a1 ((1 : Int32)) r7 er7) (va_cwS 2 F.1.2.2.2.2 gX7_level_X7_ofStore rfl rfl rfl hsX7_ofStore ⟨Nat.le_of_ble_eq_true rfl, Nat.le_of_ble_eq_true rfl⟩)  trivial rfl hl.1 (Nat.le_of_ble_eq_true rfl) dX7_level_52 ⟨Nat.zero_le _, Nat.zero_le _⟩ rfl ?_
    obtain ⟨g8, hE⟩ := gd_el hE
    refine rg_iald F hR 1 (n := 131) rfl g8 rfl dX7_level_55 ?_
    refine lv_isub hx hb dX7_level_56 ?_
    refine lv_iconst (v := 4) hx hb dX7_level_57 (by decide) ?_
    refine lv_aload_n hx hb dX7_level_58 rfl (lv_at hl 3 rfl) ?_
    refine rg_getr F hR 0 (ci := 7) rfl (C := RX7) (T := TX7) (N := 8) rfl iwX7_level_X7 0 (d := 1) (n := 1) rfl rfl (by decide) rfl lkX7_level_0 rfl dX7_level_59 ?_
    refine lv_iload_n hx hb dX7_level_62 rfl (lv_at hl 4 rfl) ?_
    refine lv_iconst (v := 1) hx hb dX7_level_63 (by decide) ?_
    obtain ⟨r9, er9, hE⟩ := lt_el hE
    refine rg_callRS (As := [.int a1, .int ((1 : Int32))]) (rest := [.ref (b + 1), .int ((4 : Int32)), .int ((V 1 r5.toNatClampNeg) - (V 1 r7.toNatClampNeg))]) F (mX7_ofStore l X a1 ((1 : Int32)) r9 er9) (va_cwS 2 F.1.2.2.2.2 gX7_level_X7_ofStore rfl rfl rfl hsX7_ofStore ⟨Nat.le_of_ble_eq_true rfl, Nat.le_of_ble_eq_true rfl⟩)  trivial rfl hl.1 (Nat.le_of_ble_eq_true rfl) dX7_level_64 ⟨Nat.zero_le _, Nat.zero_le _⟩ rfl ?_
    obtain ⟨g10, hE⟩ := gd_el hE
    refine rg_iald F hR 1 (n := 131) rfl g10 rfl dX7_level_67 ?_
    refine lv_imul hx hb dX7_level_68 ?_
    refine lv_iload hx hb dX7_level_69 (lv_at hl 0 rfl) ?_
    refine lv_imul hx hb dX7_level_71 ?_
    refine lv_iload_n hx hb dX7_level_72 rfl (lv_at hl 2 rfl) ?_
    refine lv_idiv hx hb dX7_level_73 g3 ?_
    refine lv_iadd hx hb dX7_level_74 ?_
    have hE := Option.some.inj hE
    subst hE
    exact W.iret (v := ((V 1 r5.toNatClampNeg) - (V 1 r7.toNatClampNeg)) + (((((4 : Int32)) * (V 1 r9.toNatClampNeg)) * ((V 1 r1.toNatClampNeg) - (a2 - a2 / (V 1 r1.toNatClampNeg) * (V 1 r1.toNatClampNeg)))) / (V 1 r1.toNatClampNeg))) hx hb hr (fun t ht _ => ⟨rfl, ht⟩) (fun _ h => absurd h List.not_mem_nil) dX7_level_75
  · have hE := (if_neg c4).symm.trans hE
    refine lv_iload hx hb dX7_level_25 (lv_at hl 0 rfl) ?_
    refine lv_goto (tgt := 34) hx hb dX7_level_27 (by decide) ?_
    refine lv_istore (lv' := [(5, .int (a2 - a2 / (V 1 r1.toNatClampNeg) * (V 1 r1.toNatClampNeg))), (4, .int (a2 - a2 / (V 1 r1.toNatClampNeg) * (V 1 r1.toNatClampNeg))), (3, .int (V 1 r1.toNatClampNeg)), (0, .ref b), (1, .int a1), (2, .int a2)]) hx hb dX7_level_34 hl (by decide) rfl (fun ls hl => ?_)
    refine lv_aload_n hx hb dX7_level_36 rfl (lv_at hl 3 rfl) ?_
    refine rg_getr F hR 0 (ci := 7) rfl (C := RX7) (T := TX7) (N := 8) rfl iwX7_level_X7 0 (d := 1) (n := 1) rfl rfl (by decide) rfl lkX7_level_0 rfl dX7_level_37 ?_
    refine lv_iload_n hx hb dX7_level_40 rfl (lv_at hl 4 rfl) ?_
    refine lv_iconst (v := 0) hx hb dX7_level_41 (by decide) ?_
    obtain ⟨r11, er11, hE⟩ := lt_el hE
    refine rg_callRS (As := [.int a1, .int ((0 : Int32))]) (rest := [.ref (b + 1)]) F (mX7_ofStore l X a1 ((0 : Int32)) r11 er11) (va_cwS 2 F.1.2.2.2.2 gX7_level_X7_ofStore rfl rfl rfl hsX7_ofStore ⟨Nat.le_of_ble_eq_true rfl, Nat.le_of_ble_eq_true rfl⟩)  trivial rfl hl.1 (Nat.le_of_ble_eq_true rfl) dX7_level_42 ⟨Nat.zero_le _, Nat.zero_le _⟩ rfl ?_
    obtain ⟨g12, hE⟩ := gd_el hE
    refine rg_iald F hR 1 (n := 131) rfl g12 rfl dX7_level_45 ?_
    refine lv_aload_n hx hb dX7_level_46 rfl (lv_at hl 3 rfl) ?_
    refine rg_getr F hR 0 (ci := 7) rfl (C := RX7) (T := TX7) (N := 8) rfl iwX7_level_X7 0 (d := 1) (n := 1) rfl rfl (by decide) rfl lkX7_level_0 rfl dX7_level_47 ?_
    refine lv_iload_n hx hb dX7_level_50 rfl (lv_at hl 4 rfl) ?_
    refine lv_iconst (v := 1) hx hb dX7_level_51 (by decide) ?_
    obtain ⟨r13, er13, hE⟩ := lt_el hE
    refine rg_callRS (As := [.int a1, .int ((1 : Int32))]) (rest := [.ref (b + 1), .int (V 1 r11.toNatClampNeg)]) F (mX7_ofStore l X a1 ((1 : Int32)) r13 er13) (va_cwS 2 F.1.2.2.2.2 gX7_level_X7_ofStore rfl rfl rfl hsX7_ofStore ⟨Nat.le_of_ble_eq_true rfl, Nat.le_of_ble_eq_true rfl⟩)  trivial rfl hl.1 (Nat.le_of_ble_eq_true rfl) dX7_level_52 ⟨Nat.zero_le _, Nat.zero_le _⟩ rfl ?_
    obtain ⟨g14, hE⟩ := gd_el hE
    refine rg_iald F hR 1 (n := 131) rfl g14 rfl dX7_level_55 ?_
    refine lv_isub hx hb dX7_level_56 ?_
    refine lv_iconst (v := 4) hx hb dX7_level_57 (by decide) ?_
    refine lv_aload_n hx hb dX7_level_58 rfl (lv_at hl 3 rfl) ?_
    refine rg_getr F hR 0 (ci := 7) rfl (C := RX7) (T := TX7) (N := 8) rfl iwX7_level_X7 0 (d := 1) (n := 1) rfl rfl (by decide) rfl lkX7_level_0 rfl dX7_level_59 ?_
    refine lv_iload_n hx hb dX7_level_62 rfl (lv_at hl 4 rfl) ?_
    refine lv_iconst (v := 1) hx hb dX7_level_63 (by decide) ?_
    obtain ⟨r15, er15, hE⟩ := lt_el hE
    refine rg_callRS (As := [.int a1, .int ((1 : Int32))]) (rest := [.ref (b + 1), .int ((4 : Int32)), .int ((V 1 r11.toNatClampNeg) - (V 1 r13.toNatClampNeg))]) F (mX7_ofStore l X a1 ((1 : Int32)) r15 er15) (va_cwS 2 F.1.2.2.2.2 gX7_level_X7_ofStore rfl rfl rfl hsX7_ofStore ⟨Nat.le_of_ble_eq_true rfl, Nat.le_of_ble_eq_true rfl⟩)  trivial rfl hl.1 (Nat.le_of_ble_eq_true rfl) dX7_level_64 ⟨Nat.zero_le _, Nat.zero_le _⟩ rfl ?_
    obtain ⟨g16, hE⟩ := gd_el hE
    refine rg_iald F hR 1 (n := 131) rfl g16 rfl dX7_level_67 ?_
    refine lv_imul hx hb dX7_level_68 ?_
    refine lv_iload hx hb dX7_level_69 (lv_at hl 0 rfl) ?_
    refine lv_imul hx hb dX7_level_71 ?_
    refine lv_iload_n hx hb dX7_level_72 rfl (lv_at hl 2 rfl) ?_
    refine lv_idiv hx hb dX7_level_73 g3 ?_
    refine lv_iadd hx hb dX7_level_74 ?_
    have hE := Option.some.inj hE
    subst hE
    exact W.iret (v := ((V 1 r11.toNatClampNeg) - (V 1 r13.toNatClampNeg)) + (((((4 : Int32)) * (V 1 r15.toNatClampNeg)) * (a2 - a2 / (V 1 r1.toNatClampNeg) * (V 1 r1.toNatClampNeg))) / (V 1 r1.toNatClampNeg))) hx hb hr (fun t ht _ => ⟨rfl, ht⟩) (fun _ h => absurd h List.not_mem_nil) dX7_level_75
theorem hvX7_level : yX7_level.cls = RX7 ∧ yX7_level.cls ≠ "java/lang/invoke/MethodHandle" ∧ yX7_level.cls ≠ "java/lang/invoke/VarHandle" ∧ (parseMethodDescriptor yX7_level.desc).map (fun d => d.parameters.length) = some 2 := by decide +kernel
set_option maxRecDepth 20000 in
theorem lkX7_off_0 : Cond.fieldLink RX7 7 "TideWordsModel" "s" "[I" ∈ wsX7_off := by decide +kernel
set_option maxRecDepth 20000 in
theorem iwX7_off_X7 : ∀ w ∈ wsX70, w ∈ wsX7_off := by decide +kernel
def qX7_off (V : Mem) (a1 : Int32) : Option (Int32) := (qX7_level V ((0 : Int32)) a1).bind (fun r1 => lt (fX7_ofStore ((0 : Int32)) ((3 : Int32))) (fun r2 => if r2 < 0 ∨ 131 ≤ r2.toNatClampNeg then none else (qX7_level V ((1 : Int32)) a1).bind (fun r4 => lt (fX7_ofStore ((1 : Int32)) ((3 : Int32))) (fun r5 => if r5 < 0 ∨ 131 ≤ r5.toNatClampNeg then none else if r1 + (V 1 r2.toNatClampNeg) ≤ r4 + (V 1 r5.toNatClampNeg) then some ((r4 + (V 1 r5.toNatClampNeg)) - (r1 + (V 1 r2.toNatClampNeg))) else some ((r1 + (V 1 r2.toNatClampNeg)) - (r4 + (V 1 r5.toNatClampNeg)))))))
abbrev rmX7_off : Room := { frames := 2, cells := 0, slots := 0, locals := 46 }
set_option maxHeartbeats 4000000 in
set_option maxRecDepth 100000 in
theorem mX7_off (l : Launch) (X : kX) (b : Nat) (V : Mem) (a1 : Int32) (out : Int32) (hE : qX7_off V a1 = some out) : MR l yX7_off wsX7_off rmX7_off X [.ref b, .int a1] (RP X LM b V) (some (.int out)) := by
  refine mt_head (cc := cX7_off) (maxL := 4) (ret := (some .int)) (own := RX7) (by decide) rfl rfl (Nat.le_of_ble_eq_true rfl) ?_
  intro p e s m below meth c ls F hr hlocks hnm hR hl
  have hx := F.1.1
  have hb := F.1.2.1
  have hl : lv_has ls 4 [(0, .ref b), (1, .int a1)] := hl
  unfold qX7_off at hE
  refine lv_aload_n hx hb dX7_off_0 rfl (lv_at hl 0 rfl) ?_
  refine lv_iconst (v := 0) hx hb dX7_off_1 (by decide) ?_
  refine lv_iload_n hx hb dX7_off_2 rfl (lv_at hl 1 rfl) ?_
  obtain ⟨r1, er1, hE⟩ := bd_el hE
  refine rg_callRV (As := [.int ((0 : Int32)), .int a1]) (rest := []) F (mX7_level l X b V ((0 : Int32)) a1 r1 er1) (cwV 2 F.1.2.2.2.2 gX7_off_X7_level rfl rfl rfl hvX7_level ⟨Nat.le_of_ble_eq_true rfl, Nat.le_of_ble_eq_true rfl⟩) (rp_recv F hR 0 rfl (C := RX7) (T := TX7) (N := 8) rfl rfl) hR rfl hl.1 (Nat.le_of_ble_eq_true rfl) dX7_off_3 ⟨Nat.zero_le _, Nat.zero_le _⟩ rfl ?_
  refine lv_aload_n hx hb dX7_off_6 rfl (lv_at hl 0 rfl) ?_
  refine rg_getr F hR 0 (ci := 7) rfl (C := RX7) (T := TX7) (N := 8) rfl iwX7_off_X7 0 (d := 1) (n := 1) rfl rfl (by decide) rfl lkX7_off_0 rfl dX7_off_7 ?_
  refine lv_iconst (v := 0) hx hb dX7_off_10 (by decide) ?_
  refine lv_iconst (v := 3) hx hb dX7_off_11 (by decide) ?_
  obtain ⟨r2, er2, hE⟩ := lt_el hE
  refine rg_callRS (As := [.int ((0 : Int32)), .int ((3 : Int32))]) (rest := [.ref (b + 1), .int r1]) F (mX7_ofStore l X ((0 : Int32)) ((3 : Int32)) r2 er2) (va_cwS 2 F.1.2.2.2.2 gX7_off_X7_ofStore rfl rfl rfl hsX7_ofStore ⟨Nat.le_of_ble_eq_true rfl, Nat.le_of_ble_eq_true rfl⟩)  trivial rfl hl.1 (Nat.le_of_ble_eq_true rfl) dX7_off_12 ⟨Nat.zero_le _, Nat.zero_le _⟩ rfl ?_
  obtain ⟨g3, hE⟩ := gd_el hE
  refine rg_iald F hR 1 (n := 131) rfl g3 rfl dX7_off_15 ?_
  refine lv_iadd hx hb dX7_off_16 ?_
  refine lv_istore_n (lv' := [(2, .int (r1 + (V 1 r2.toNatClampNeg))), (0, .ref b), (1, .int a1)]) hx hb dX7_off_17 rfl hl (by decide) rfl (fun ls hl => ?_)
  refine lv_aload_n hx hb dX7_off_18 rfl (lv_at hl 1 rfl) ?_
  refine lv_iconst (v := 1) hx hb dX7_off_19 (by decide) ?_
  refine lv_iload_n hx hb dX7_off_20 rfl (lv_at hl 2 rfl) ?_
  obtain ⟨r4, er4, hE⟩ := bd_el hE
  refine rg_callRV (As := [.int ((1 : Int32)), .int a1]) (rest := []) F (mX7_level l X b V ((1 : Int32)) a1 r4 er4) (cwV 2 F.1.2.2.2.2 gX7_off_X7_level rfl rfl rfl hvX7_level ⟨Nat.le_of_ble_eq_true rfl, Nat.le_of_ble_eq_true rfl⟩) (rp_recv F hR 0 rfl (C := RX7) (T := TX7) (N := 8) rfl rfl) hR rfl hl.1 (Nat.le_of_ble_eq_true rfl) dX7_off_21 ⟨Nat.zero_le _, Nat.zero_le _⟩ rfl ?_
  refine lv_aload_n hx hb dX7_off_24 rfl (lv_at hl 1 rfl) ?_
  refine rg_getr F hR 0 (ci := 7) rfl (C := RX7) (T := TX7) (N := 8) rfl iwX7_off_X7 0 (d := 1) (n := 1) rfl rfl (by decide) rfl lkX7_off_0 rfl dX7_off_25 ?_
  refine lv_iconst (v := 1) hx hb dX7_off_28 (by decide) ?_
  refine lv_iconst (v := 3) hx hb dX7_off_29 (by decide) ?_
  obtain ⟨r5, er5, hE⟩ := lt_el hE
  refine rg_callRS (As := [.int ((1 : Int32)), .int ((3 : Int32))]) (rest := [.ref (b + 1), .int r4]) F (mX7_ofStore l X ((1 : Int32)) ((3 : Int32)) r5 er5) (va_cwS 2 F.1.2.2.2.2 gX7_off_X7_ofStore rfl rfl rfl hsX7_ofStore ⟨Nat.le_of_ble_eq_true rfl, Nat.le_of_ble_eq_true rfl⟩)  trivial rfl hl.1 (Nat.le_of_ble_eq_true rfl) dX7_off_30 ⟨Nat.zero_le _, Nat.zero_le _⟩ rfl ?_
  obtain ⟨g6, hE⟩ := gd_el hE
  refine rg_iald F hR 1 (n := 131) rfl g6 rfl dX7_off_33 ?_
  refine lv_iadd hx hb dX7_off_34 ?_
  refine lv_istore_n (lv' := [(3, .int (r4 + (V 1 r5.toNatClampNeg))), (2, .int (r1 + (V 1 r2.toNatClampNeg))), (0, .ref b), (1, .int a1)]) hx hb dX7_off_35 rfl hl (by decide) rfl (fun ls hl => ?_)
  refine lv_iload_n hx hb dX7_off_36 rfl (lv_at hl 1 rfl) ?_
  refine lv_iload_n hx hb dX7_off_37 rfl (lv_at hl 0 rfl) ?_
  refine lv_icmp_le (tgt := 47) hx hb dX7_off_38 (by decide) (fun c7 => ?_) (fun c7 => ?_)
  · have hE := (if_pos c7).symm.trans hE
    refine lv_iload_n hx hb dX7_off_47 rfl (lv_at hl 0 rfl) ?_
    refine lv_iload_n hx hb dX7_off_48 rfl (lv_at hl 1 rfl) ?_
    refine lv_isub hx hb dX7_off_49 ?_
    have hE := Option.some.inj hE
    subst hE
    exact W.iret (v := (r4 + (V 1 r5.toNatClampNeg)) - (r1 + (V 1 r2.toNatClampNeg))) hx hb hr (fun t ht _ => ⟨rfl, ht⟩) (fun _ h => absurd h List.not_mem_nil) dX7_off_50
  · have hE := (if_neg c7).symm.trans hE
    refine lv_iload_n hx hb dX7_off_41 rfl (lv_at hl 1 rfl) ?_
    refine lv_iload_n hx hb dX7_off_42 rfl (lv_at hl 0 rfl) ?_
    refine lv_isub hx hb dX7_off_43 ?_
    refine lv_goto (tgt := 50) hx hb dX7_off_44 (by decide) ?_
    have hE := Option.some.inj hE
    subst hE
    exact W.iret (v := (r1 + (V 1 r2.toNatClampNeg)) - (r4 + (V 1 r5.toNatClampNeg))) hx hb hr (fun t ht _ => ⟨rfl, ht⟩) (fun _ h => absurd h List.not_mem_nil) dX7_off_50
set_option maxRecDepth 20000 in
theorem lkX7_isOpen_0 : Cond.fieldLink RX7 7 "TideWordsModel" "s" "[I" ∈ wsX7_isOpen := by decide +kernel
set_option maxRecDepth 20000 in
theorem iwX7_isOpen_X7 : ∀ w ∈ wsX70, w ∈ wsX7_isOpen := by decide +kernel
theorem hsX7_ofGate : yX7_ofGate.cls ≠ "java/lang/invoke/MethodHandle" ∧ yX7_ofGate.cls ≠ "java/lang/invoke/VarHandle" ∧ (parseMethodDescriptor yX7_ofGate.desc).map (fun d => d.parameters.length) = some 2 := by decide +kernel
theorem hvX7_off : yX7_off.cls = RX7 ∧ yX7_off.cls ≠ "java/lang/invoke/MethodHandle" ∧ yX7_off.cls ≠ "java/lang/invoke/VarHandle" ∧ (parseMethodDescriptor yX7_off.desc).map (fun d => d.parameters.length) = some 1 := by decide +kernel
def qX7_isOpen (V : Mem) (a1 : Int32) (a2 : Int32) : Option (Int32) := lt (fX7_ofGate a1 ((3 : Int32))) (fun r1 => if r1 < 0 ∨ 131 ≤ r1.toNatClampNeg then none else if V 1 r1.toNatClampNeg = 0 then (qX7_off V a2).bind (fun r4 => lt (fX7_ofGate a1 ((1 : Int32))) (fun r5 => if r5 < 0 ∨ 131 ≤ r5.toNatClampNeg then none else if V 1 r5.toNatClampNeg < r4 then some ((0 : Int32)) else some ((1 : Int32)))) else some ((0 : Int32)))
abbrev rmX7_isOpen : Room := { frames := 3, cells := 0, slots := 0, locals := 69 }
set_option maxHeartbeats 4000000 in
set_option maxRecDepth 100000 in
theorem mX7_isOpen (l : Launch) (X : kX) (b : Nat) (V : Mem) (a1 : Int32) (a2 : Int32) (out : Int32) (hE : qX7_isOpen V a1 a2 = some out) : MR l yX7_isOpen wsX7_isOpen rmX7_isOpen X [.ref b, .int a1, .int a2] (RP X LM b V) (some (.int out)) := by
  refine mt_head (cc := cX7_isOpen) (maxL := 3) (ret := (some .boolean)) (own := RX7) (by decide) rfl rfl (Nat.le_of_ble_eq_true rfl) ?_
  intro p e s m below meth c ls F hr hlocks hnm hR hl
  have hx := F.1.1
  have hb := F.1.2.1
  have hl : lv_has ls 3 [(0, .ref b), (1, .int a1), (2, .int a2)] := hl
  unfold qX7_isOpen at hE
  refine lv_aload_n hx hb dX7_isOpen_0 rfl (lv_at hl 0 rfl) ?_
  refine rg_getr F hR 0 (ci := 7) rfl (C := RX7) (T := TX7) (N := 8) rfl iwX7_isOpen_X7 0 (d := 1) (n := 1) rfl rfl (by decide) rfl lkX7_isOpen_0 rfl dX7_isOpen_1 ?_
  refine lv_iload_n hx hb dX7_isOpen_4 rfl (lv_at hl 1 rfl) ?_
  refine lv_iconst (v := 3) hx hb dX7_isOpen_5 (by decide) ?_
  obtain ⟨r1, er1, hE⟩ := lt_el hE
  refine rg_callRS (As := [.int a1, .int ((3 : Int32))]) (rest := [.ref (b + 1)]) F (mX7_ofGate l X a1 ((3 : Int32)) r1 er1) (va_cwS 2 F.1.2.2.2.2 gX7_isOpen_X7_ofGate rfl rfl rfl hsX7_ofGate ⟨Nat.le_of_ble_eq_true rfl, Nat.le_of_ble_eq_true rfl⟩)  trivial rfl hl.1 (Nat.le_of_ble_eq_true rfl) dX7_isOpen_6 ⟨Nat.zero_le _, Nat.zero_le _⟩ rfl ?_
  obtain ⟨g2, hE⟩ := gd_el hE
  refine rg_iald F hR 1 (n := 131) rfl g2 rfl dX7_isOpen_9 ?_
  refine lv_if_ne (tgt := 35) hx hb dX7_isOpen_10 (by decide) (fun c3 => ?_) (fun c3 => ?_)
  · have hE := (if_neg c3).symm.trans hE
    refine lv_iconst (v := 0) hx hb dX7_isOpen_35 (by decide) ?_
    have hE := Option.some.inj hE
    subst hE
    exact W.zret (v := (0 : Int32)) hx hb hr rfl (fun t ht _ => ⟨rfl, ht⟩) (fun _ h => absurd h List.not_mem_nil) dX7_isOpen_36
  · have hE := (if_pos c3).symm.trans hE
    refine lv_aload_n hx hb dX7_isOpen_13 rfl (lv_at hl 0 rfl) ?_
    refine lv_iload_n hx hb dX7_isOpen_14 rfl (lv_at hl 2 rfl) ?_
    obtain ⟨r4, er4, hE⟩ := bd_el hE
    refine rg_callRV (As := [.int a2]) (rest := []) F (mX7_off l X b V a2 r4 er4) (cwV 1 F.1.2.2.2.2 gX7_isOpen_X7_off rfl rfl rfl hvX7_off ⟨Nat.le_of_ble_eq_true rfl, Nat.le_of_ble_eq_true rfl⟩) (rp_recv F hR 0 rfl (C := RX7) (T := TX7) (N := 8) rfl rfl) hR rfl hl.1 (Nat.le_of_ble_eq_true rfl) dX7_isOpen_15 ⟨Nat.zero_le _, Nat.zero_le _⟩ rfl ?_
    refine lv_aload_n hx hb dX7_isOpen_18 rfl (lv_at hl 0 rfl) ?_
    refine rg_getr F hR 0 (ci := 7) rfl (C := RX7) (T := TX7) (N := 8) rfl iwX7_isOpen_X7 0 (d := 1) (n := 1) rfl rfl (by decide) rfl lkX7_isOpen_0 rfl dX7_isOpen_19 ?_
    refine lv_iload_n hx hb dX7_isOpen_22 rfl (lv_at hl 1 rfl) ?_
    refine lv_iconst (v := 1) hx hb dX7_isOpen_23 (by decide) ?_
    obtain ⟨r5, er5, hE⟩ := lt_el hE
    refine rg_callRS (As := [.int a1, .int ((1 : Int32))]) (rest := [.ref (b + 1), .int r4]) F (mX7_ofGate l X a1 ((1 : Int32)) r5 er5) (va_cwS 2 F.1.2.2.2.2 gX7_isOpen_X7_ofGate rfl rfl rfl hsX7_ofGate ⟨Nat.le_of_ble_eq_true rfl, Nat.le_of_ble_eq_true rfl⟩)  trivial rfl hl.1 (Nat.le_of_ble_eq_true rfl) dX7_isOpen_24 ⟨Nat.zero_le _, Nat.zero_le _⟩ rfl ?_
    obtain ⟨g6, hE⟩ := gd_el hE
    refine rg_iald F hR 1 (n := 131) rfl g6 rfl dX7_isOpen_27 ?_
    refine lv_icmp_gt (tgt := 35) hx hb dX7_isOpen_28 (by decide) (fun c7 => ?_) (fun c7 => ?_)
    · have hE := (if_pos c7).symm.trans hE
      refine lv_iconst (v := 0) hx hb dX7_isOpen_35 (by decide) ?_
      have hE := Option.some.inj hE
      subst hE
      exact W.zret (v := (0 : Int32)) hx hb hr rfl (fun t ht _ => ⟨rfl, ht⟩) (fun _ h => absurd h List.not_mem_nil) dX7_isOpen_36
    · have hE := (if_neg c7).symm.trans hE
      refine lv_iconst (v := 1) hx hb dX7_isOpen_31 (by decide) ?_
      refine lv_goto (tgt := 36) hx hb dX7_isOpen_32 (by decide) ?_
      have hE := Option.some.inj hE
      subst hE
      exact W.zret (v := (1 : Int32)) hx hb hr rfl (fun t ht _ => ⟨rfl, ht⟩) (fun _ h => absurd h List.not_mem_nil) dX7_isOpen_36
set_option maxRecDepth 20000 in
theorem lkX7_openNow_0 : Cond.fieldLink RX7 7 "TideWordsModel" "s" "[I" ∈ wsX7_openNow := by decide +kernel
set_option maxRecDepth 20000 in
theorem iwX7_openNow_X7 : ∀ w ∈ wsX70, w ∈ wsX7_openNow := by decide +kernel
theorem hvX7_isOpen : yX7_isOpen.cls = RX7 ∧ yX7_isOpen.cls ≠ "java/lang/invoke/MethodHandle" ∧ yX7_isOpen.cls ≠ "java/lang/invoke/VarHandle" ∧ (parseMethodDescriptor yX7_isOpen.desc).map (fun d => d.parameters.length) = some 2 := by decide +kernel
def lbX7_openNow_4 (V : Mem) (s1 : Int32 × Int32) : Option ((Int32 × Int32) ⊕ (Int32 × Int32)) := if (4 : Int32) ≤ s1.2 then some (.inr (s1.1, s1.2)) else (qX7_isOpen V s1.2 (V 1 0)).bind (fun r3 => if r3 = 0 then some (.inl (s1.1 ||| ((0 : Int32)), s1.2 + 1)) else some (.inl (s1.1 ||| (((1 : Int32)) <<< (s1.2 &&& 31)), s1.2 + 1)))
def qX7_openNow (V : Mem) : Option (Int32) := (it (lbX7_openNow_4 V) fuel ((0 : Int32), (0 : Int32))).bind (fun s5 => some (s5.1))
abbrev rmX7_openNow : Room := { frames := 4, cells := 0, slots := 0, locals := 91 }
set_option maxHeartbeats 4000000 in
set_option maxRecDepth 100000 in
theorem mX7_openNow (l : Launch) (X : kX) (b : Nat) (V : Mem) (out : Int32) (hE : qX7_openNow V = some out) : MR l yX7_openNow wsX7_openNow rmX7_openNow X [.ref b] (RP X LM b V) (some (.int out)) := by
  refine mt_head (cc := cX7_openNow) (maxL := 3) (ret := (some .int)) (own := RX7) (by decide) rfl rfl (Nat.le_of_ble_eq_true rfl) ?_
  intro p e s m below meth c ls F hr hlocks hnm hR hl
  have hx := F.1.1
  have hb := F.1.2.1
  have hl : lv_has ls 3 [(0, .ref b)] := hl
  unfold qX7_openNow at hE
  refine lv_iconst (v := 0) hx hb dX7_openNow_0 (by decide) ?_
  refine lv_istore_n (lv' := [(1, .int ((0 : Int32))), (0, .ref b)]) hx hb dX7_openNow_1 rfl hl (by decide) rfl (fun ls hl => ?_)
  refine lv_iconst (v := 0) hx hb dX7_openNow_2 (by decide) ?_
  refine lv_istore_n (lv' := [(2, .int ((0 : Int32))), (1, .int ((0 : Int32))), (0, .ref b)]) hx hb dX7_openNow_3 rfl hl (by decide) rfl (fun ls hl => ?_)
  obtain ⟨x6, hx6, hE⟩ := bd_el hE
  refine it_walk2 (body := lbX7_openNow_4 V) (Wh := fun s1 => ∀ (ls : Array Slot), lv_has ls 3 [(2, .int s1.2), (1, .int s1.1), (0, .ref b)] → W p l e rmX7_openNow s m ([.ref b] : List Value).toArray below meth c s.heap [] 0 0 (MQ below (cQr (some (.int out))) ([.ref b] : List Value).toArray s 0 0 (fun _ => False)) (F0 m 4 ls [])) (We := fun s5 => ∀ (ls : Array Slot), lv_has ls 3 [(2, .int s5.2), (1, .int s5.1), (0, .ref b)] → W p l e rmX7_openNow s m ([.ref b] : List Value).toArray below meth c s.heap [] 0 0 (MQ below (cQr (some (.int out))) ([.ref b] : List Value).toArray s 0 0 (fun _ => False)) (F0 m 39 ls [])) ?_ _ _ _ hx6 ?_ ls (lv_sub hl [0, 1, 2] rfl)
  · intro s1 r9 hE hL9 hR9 ls hl
    unfold lbX7_openNow_4 at hE
    refine lv_iload_n hx hb dX7_openNow_4 rfl (lv_at hl 0 rfl) ?_
    refine lv_iconst (v := 4) hx hb dX7_openNow_5 (by decide) ?_
    refine lv_icmp_ge (tgt := 39) hx hb dX7_openNow_6 (by decide) (fun c2 => ?_) (fun c2 => ?_)
    · have hE := (if_pos c2).symm.trans hE
      cases hE
      exact hR9 _ rfl ls (lv_sub hl [0, 1, 2] rfl)
    · have hE := (if_neg c2).symm.trans hE
      refine lv_iload_n hx hb dX7_openNow_9 rfl (lv_at hl 1 rfl) ?_
      refine lv_aload_n hx hb dX7_openNow_10 rfl (lv_at hl 2 rfl) ?_
      refine lv_iload_n hx hb dX7_openNow_11 rfl (lv_at hl 0 rfl) ?_
      refine lv_aload_n hx hb dX7_openNow_12 rfl (lv_at hl 2 rfl) ?_
      refine rg_getr F hR 0 (ci := 7) rfl (C := RX7) (T := TX7) (N := 8) rfl iwX7_openNow_X7 0 (d := 1) (n := 1) rfl rfl (by decide) rfl lkX7_openNow_0 rfl dX7_openNow_13 ?_
      refine lv_iconst (v := 0) hx hb dX7_openNow_16 (by decide) ?_
      refine rg_iald F hR 1 rfl (i := 0) (by decide) rfl dX7_openNow_17 ?_
      obtain ⟨r3, er3, hE⟩ := bd_el hE
      refine rg_callRV (As := [.int s1.2, .int (V 1 0)]) (rest := [.int s1.1]) F (mX7_isOpen l X b V s1.2 (V 1 0) r3 er3) (cwV 2 F.1.2.2.2.2 gX7_openNow_X7_isOpen rfl rfl rfl hvX7_isOpen ⟨Nat.le_of_ble_eq_true rfl, Nat.le_of_ble_eq_true rfl⟩) (rp_recv F hR 0 rfl (C := RX7) (T := TX7) (N := 8) rfl rfl) hR rfl hl.1 (Nat.le_of_ble_eq_true rfl) dX7_openNow_18 ⟨Nat.zero_le _, Nat.zero_le _⟩ rfl ?_
      refine lv_if_eq (tgt := 30) hx hb dX7_openNow_21 (by decide) (fun c4 => ?_) (fun c4 => ?_)
      · have hE := (if_pos c4).symm.trans hE
        refine lv_iconst (v := 0) hx hb dX7_openNow_30 (by decide) ?_
        refine lv_ior hx hb dX7_openNow_31 ?_
        refine lv_istore_n (lv' := [(1, .int (s1.1 ||| ((0 : Int32)))), (2, .int s1.2), (0, .ref b)]) hx hb dX7_openNow_32 rfl hl (by decide) rfl (fun ls hl => ?_)
        refine lv_iinc (v := s1.2 + 1) (lv' := [(2, .int (s1.2 + 1)), (1, .int (s1.1 ||| ((0 : Int32)))), (0, .ref b)]) hx hb dX7_openNow_33 hl (k := 1) rfl (congrArg (fun q => s1.2 + q) (by decide)) (by decide) rfl (fun ls hl => ?_)
        refine lv_goto (tgt := 4) hx hb dX7_openNow_36 (by decide) ?_
        cases hE
        exact hL9 _ rfl ls (lv_sub hl [0, 1, 2] rfl)
      · have hE := (if_neg c4).symm.trans hE
        refine lv_iconst (v := 1) hx hb dX7_openNow_24 (by decide) ?_
        refine lv_iload_n hx hb dX7_openNow_25 rfl (lv_at hl 0 rfl) ?_
        refine lv_ishl hx hb dX7_openNow_26 ?_
        refine lv_goto (tgt := 31) hx hb dX7_openNow_27 (by decide) ?_
        refine lv_ior hx hb dX7_openNow_31 ?_
        refine lv_istore_n (lv' := [(1, .int (s1.1 ||| (((1 : Int32)) <<< (s1.2 &&& 31)))), (2, .int s1.2), (0, .ref b)]) hx hb dX7_openNow_32 rfl hl (by decide) rfl (fun ls hl => ?_)
        refine lv_iinc (v := s1.2 + 1) (lv' := [(2, .int (s1.2 + 1)), (1, .int (s1.1 ||| (((1 : Int32)) <<< (s1.2 &&& 31)))), (0, .ref b)]) hx hb dX7_openNow_33 hl (k := 1) rfl (congrArg (fun q => s1.2 + q) (by decide)) (by decide) rfl (fun ls hl => ?_)
        refine lv_goto (tgt := 4) hx hb dX7_openNow_36 (by decide) ?_
        cases hE
        exact hL9 _ rfl ls (lv_sub hl [0, 1, 2] rfl)
  · intro ls hl
    refine lv_iload_n hx hb dX7_openNow_39 rfl (lv_at hl 1 rfl) ?_
    have hE := Option.some.inj hE
    subst hE
    exact W.iret (v := x6.1) hx hb hr (fun t ht _ => ⟨rfl, ht⟩) (fun _ h => absurd h List.not_mem_nil) dX7_openNow_40
set_option maxRecDepth 20000 in
theorem lkX7_lettersOf_0 : Cond.fieldLink RX7 7 "TideWordsModel" "s" "[I" ∈ wsX7_lettersOf := by decide +kernel
set_option maxRecDepth 20000 in
theorem iwX7_lettersOf_X7 : ∀ w ∈ wsX70, w ∈ wsX7_lettersOf := by decide +kernel
theorem hsX7_ofWord : yX7_ofWord.cls ≠ "java/lang/invoke/MethodHandle" ∧ yX7_ofWord.cls ≠ "java/lang/invoke/VarHandle" ∧ (parseMethodDescriptor yX7_ofWord.desc).map (fun d => d.parameters.length) = some 2 := by decide +kernel
def lbX7_lettersOf_13 (s3 : Int32 × Int32) : Option ((Int32 × Int32) ⊕ (Int32 × Int32)) := if s3.2 ≤ 0 then some (.inr (s3.1, s3.2)) else some (.inl (s3.1 + 1, s3.2 / ((27 : Int32))))
def qX7_lettersOf (V : Mem) (a1 : Int32) : Option (Int32) := lt (fX7_ofWord a1 ((0 : Int32))) (fun r1 => if r1 < 0 ∨ 131 ≤ r1.toNatClampNeg then none else (it (lbX7_lettersOf_13) fuel ((0 : Int32), V 1 r1.toNatClampNeg)).bind (fun s5 => some (s5.1)))
abbrev rmX7_lettersOf : Room := { frames := 1, cells := 0, slots := 0, locals := 21 }
set_option maxHeartbeats 4000000 in
set_option maxRecDepth 100000 in
theorem mX7_lettersOf (l : Launch) (X : kX) (b : Nat) (V : Mem) (a1 : Int32) (out : Int32) (hE : qX7_lettersOf V a1 = some out) : MR l yX7_lettersOf wsX7_lettersOf rmX7_lettersOf X [.ref b, .int a1] (RP X LM b V) (some (.int out)) := by
  refine mt_head (cc := cX7_lettersOf) (maxL := 4) (ret := (some .int)) (own := RX7) (by decide) rfl rfl (Nat.le_of_ble_eq_true rfl) ?_
  intro p e s m below meth c ls F hr hlocks hnm hR hl
  have hx := F.1.1
  have hb := F.1.2.1
  have hl : lv_has ls 4 [(0, .ref b), (1, .int a1)] := hl
  unfold qX7_lettersOf at hE
  refine lv_iconst (v := 0) hx hb dX7_lettersOf_0 (by decide) ?_
  refine lv_istore_n (lv' := [(2, .int ((0 : Int32))), (0, .ref b), (1, .int a1)]) hx hb dX7_lettersOf_1 rfl hl (by decide) rfl (fun ls hl => ?_)
  refine lv_aload_n hx hb dX7_lettersOf_2 rfl (lv_at hl 1 rfl) ?_
  refine rg_getr F hR 0 (ci := 7) rfl (C := RX7) (T := TX7) (N := 8) rfl iwX7_lettersOf_X7 0 (d := 1) (n := 1) rfl rfl (by decide) rfl lkX7_lettersOf_0 rfl dX7_lettersOf_3 ?_
  refine lv_iload_n hx hb dX7_lettersOf_6 rfl (lv_at hl 2 rfl) ?_
  refine lv_iconst (v := 0) hx hb dX7_lettersOf_7 (by decide) ?_
  obtain ⟨r1, er1, hE⟩ := lt_el hE
  refine rg_callRS (As := [.int a1, .int ((0 : Int32))]) (rest := [.ref (b + 1)]) F (mX7_ofWord l X a1 ((0 : Int32)) r1 er1) (va_cwS 2 F.1.2.2.2.2 gX7_lettersOf_X7_ofWord rfl rfl rfl hsX7_ofWord ⟨Nat.le_of_ble_eq_true rfl, Nat.le_of_ble_eq_true rfl⟩)  trivial rfl hl.1 (Nat.le_of_ble_eq_true rfl) dX7_lettersOf_8 ⟨Nat.zero_le _, Nat.zero_le _⟩ rfl ?_
  obtain ⟨g2, hE⟩ := gd_el hE
  refine rg_iald F hR 1 (n := 131) rfl g2 rfl dX7_lettersOf_11 ?_
  refine lv_istore_n (lv' := [(3, .int (V 1 r1.toNatClampNeg)), (2, .int ((0 : Int32))), (0, .ref b), (1, .int a1)]) hx hb dX7_lettersOf_12 rfl hl (by decide) rfl (fun ls hl => ?_)
  obtain ⟨x6, hx6, hE⟩ := bd_el hE
  refine it_walk2 (body := lbX7_lettersOf_13) (Wh := fun s3 => ∀ (ls : Array Slot), lv_has ls 4 [(3, .int s3.2), (2, .int s3.1), (0, .ref b), (1, .int a1)] → W p l e rmX7_lettersOf s m ([.ref b, .int a1] : List Value).toArray below meth c s.heap [] 0 0 (MQ below (cQr (some (.int out))) ([.ref b, .int a1] : List Value).toArray s 0 0 (fun _ => False)) (F0 m 13 ls [])) (We := fun s5 => ∀ (ls : Array Slot), lv_has ls 4 [(3, .int s5.2), (2, .int s5.1), (0, .ref b), (1, .int a1)] → W p l e rmX7_lettersOf s m ([.ref b, .int a1] : List Value).toArray below meth c s.heap [] 0 0 (MQ below (cQr (some (.int out))) ([.ref b, .int a1] : List Value).toArray s 0 0 (fun _ => False)) (F0 m 28 ls [])) ?_ _ _ _ hx6 ?_ ls (lv_sub hl [0, 1, 2, 3] rfl)
  · intro s3 r9 hE hL9 hR9 ls hl
    unfold lbX7_lettersOf_13 at hE
    refine lv_iload_n hx hb dX7_lettersOf_13 rfl (lv_at hl 0 rfl) ?_
    refine lv_if_le (tgt := 28) hx hb dX7_lettersOf_14 (by decide) (fun c4 => ?_) (fun c4 => ?_)
    · have hE := (if_pos c4).symm.trans hE
      cases hE
      exact hR9 _ rfl ls (lv_sub hl [0, 1, 2, 3] rfl)
    · have hE := (if_neg c4).symm.trans hE
      refine lv_iinc (v := s3.1 + 1) (lv' := [(2, .int (s3.1 + 1)), (3, .int s3.2), (0, .ref b), (1, .int a1)]) hx hb dX7_lettersOf_17 hl (k := 1) rfl (congrArg (fun q => s3.1 + q) (by decide)) (by decide) rfl (fun ls hl => ?_)
      refine lv_iload_n hx hb dX7_lettersOf_20 rfl (lv_at hl 1 rfl) ?_
      refine lv_bipush (v := 27) hx hb dX7_lettersOf_21 (by decide) ?_
      refine lv_idiv hx hb dX7_lettersOf_23 (by decide) ?_
      refine lv_istore_n (lv' := [(3, .int (s3.2 / ((27 : Int32)))), (2, .int (s3.1 + 1)), (0, .ref b), (1, .int a1)]) hx hb dX7_lettersOf_24 rfl hl (by decide) rfl (fun ls hl => ?_)
      refine lv_goto (tgt := 13) hx hb dX7_lettersOf_25 (by decide) ?_
      cases hE
      exact hL9 _ rfl ls (lv_sub hl [0, 1, 2, 3] rfl)
  · intro ls hl
    refine lv_iload_n hx hb dX7_lettersOf_28 rfl (lv_at hl 1 rfl) ?_
    have hE := Option.some.inj hE
    subst hE
    exact W.iret (v := x6.1) hx hb hr (fun t ht _ => ⟨rfl, ht⟩) (fun _ h => absurd h List.not_mem_nil) dX7_lettersOf_29
set_option maxRecDepth 20000 in
theorem lkX7_letterOf_0 : Cond.fieldLink RX7 7 "TideWordsModel" "s" "[I" ∈ wsX7_letterOf := by decide +kernel
set_option maxRecDepth 20000 in
theorem iwX7_letterOf_X7 : ∀ w ∈ wsX70, w ∈ wsX7_letterOf := by decide +kernel
theorem hvX7_lettersOf : yX7_lettersOf.cls = RX7 ∧ yX7_lettersOf.cls ≠ "java/lang/invoke/MethodHandle" ∧ yX7_lettersOf.cls ≠ "java/lang/invoke/VarHandle" ∧ (parseMethodDescriptor yX7_lettersOf.desc).map (fun d => d.parameters.length) = some 1 := by decide +kernel
def lbX7_letterOf_20 (a2 : Int32) (s4 : Int32 × Int32) : Option ((Int32 × Int32) ⊕ (Int32 × Int32)) := if s4.2 ≤ a2 then some (.inr (s4.1, s4.2)) else some (.inl (s4.1 / ((27 : Int32)), s4.2 + (-1)))
def qX7_letterOf (V : Mem) (a1 : Int32) (a2 : Int32) : Option (Int32) := lt (fX7_ofWord a1 ((0 : Int32))) (fun r1 => if r1 < 0 ∨ 131 ≤ r1.toNatClampNeg then none else (qX7_lettersOf V a1).bind (fun r3 => (it (lbX7_letterOf_20 a2) fuel (V 1 r1.toNatClampNeg, r3 - ((1 : Int32)))).bind (fun s6 => (qX7_lettersOf V a1).bind (fun r8 => lt (fX7_in a2 ((0 : Int32)) (r8 - ((1 : Int32)))) (fun r9 => if r9 = 0 then some ((-1006 : Int32)) else some (((96 : Int32)) + (s6.1 - s6.1 / ((27 : Int32)) * ((27 : Int32)))))))))
abbrev rmX7_letterOf : Room := { frames := 2, cells := 0, slots := 0, locals := 44 }
set_option maxHeartbeats 4000000 in
set_option maxRecDepth 100000 in
theorem mX7_letterOf (l : Launch) (X : kX) (b : Nat) (V : Mem) (a1 : Int32) (a2 : Int32) (out : Int32) (hE : qX7_letterOf V a1 a2 = some out) : MR l yX7_letterOf wsX7_letterOf rmX7_letterOf X [.ref b, .int a1, .int a2] (RP X LM b V) (some (.int out)) := by
  refine mt_head (cc := cX7_letterOf) (maxL := 5) (ret := (some .int)) (own := RX7) (by decide) rfl rfl (Nat.le_of_ble_eq_true rfl) ?_
  intro p e s m below meth c ls F hr hlocks hnm hR hl
  have hx := F.1.1
  have hb := F.1.2.1
  have hl : lv_has ls 5 [(0, .ref b), (1, .int a1), (2, .int a2)] := hl
  unfold qX7_letterOf at hE
  refine lv_aload_n hx hb dX7_letterOf_0 rfl (lv_at hl 0 rfl) ?_
  refine rg_getr F hR 0 (ci := 7) rfl (C := RX7) (T := TX7) (N := 8) rfl iwX7_letterOf_X7 0 (d := 1) (n := 1) rfl rfl (by decide) rfl lkX7_letterOf_0 rfl dX7_letterOf_1 ?_
  refine lv_iload_n hx hb dX7_letterOf_4 rfl (lv_at hl 1 rfl) ?_
  refine lv_iconst (v := 0) hx hb dX7_letterOf_5 (by decide) ?_
  obtain ⟨r1, er1, hE⟩ := lt_el hE
  refine rg_callRS (As := [.int a1, .int ((0 : Int32))]) (rest := [.ref (b + 1)]) F (mX7_ofWord l X a1 ((0 : Int32)) r1 er1) (va_cwS 2 F.1.2.2.2.2 gX7_letterOf_X7_ofWord rfl rfl rfl hsX7_ofWord ⟨Nat.le_of_ble_eq_true rfl, Nat.le_of_ble_eq_true rfl⟩)  trivial rfl hl.1 (Nat.le_of_ble_eq_true rfl) dX7_letterOf_6 ⟨Nat.zero_le _, Nat.zero_le _⟩ rfl ?_
  obtain ⟨g2, hE⟩ := gd_el hE
  refine rg_iald F hR 1 (n := 131) rfl g2 rfl dX7_letterOf_9 ?_
  refine lv_istore_n (lv' := [(3, .int (V 1 r1.toNatClampNeg)), (0, .ref b), (1, .int a1), (2, .int a2)]) hx hb dX7_letterOf_10 rfl hl (by decide) rfl (fun ls hl => ?_)
  refine lv_aload_n hx hb dX7_letterOf_11 rfl (lv_at hl 1 rfl) ?_
  refine lv_iload_n hx hb dX7_letterOf_12 rfl (lv_at hl 2 rfl) ?_
  obtain ⟨r3, er3, hE⟩ := bd_el hE
  refine rg_callRV (As := [.int a1]) (rest := []) F (mX7_lettersOf l X b V a1 r3 er3) (cwV 1 F.1.2.2.2.2 gX7_letterOf_X7_lettersOf rfl rfl rfl hvX7_lettersOf ⟨Nat.le_of_ble_eq_true rfl, Nat.le_of_ble_eq_true rfl⟩) (rp_recv F hR 0 rfl (C := RX7) (T := TX7) (N := 8) rfl rfl) hR rfl hl.1 (Nat.le_of_ble_eq_true rfl) dX7_letterOf_13 ⟨Nat.zero_le _, Nat.zero_le _⟩ rfl ?_
  refine lv_iconst (v := 1) hx hb dX7_letterOf_16 (by decide) ?_
  refine lv_isub hx hb dX7_letterOf_17 ?_
  refine lv_istore (lv' := [(4, .int (r3 - ((1 : Int32)))), (3, .int (V 1 r1.toNatClampNeg)), (0, .ref b), (1, .int a1), (2, .int a2)]) hx hb dX7_letterOf_18 hl (by decide) rfl (fun ls hl => ?_)
  obtain ⟨x7, hx7, hE⟩ := bd_el hE
  refine it_walk2 (body := lbX7_letterOf_20 a2) (Wh := fun s4 => ∀ (ls : Array Slot), lv_has ls 5 [(4, .int s4.2), (3, .int s4.1), (0, .ref b), (1, .int a1), (2, .int a2)] → W p l e rmX7_letterOf s m ([.ref b, .int a1, .int a2] : List Value).toArray below meth c s.heap [] 0 0 (MQ below (cQr (some (.int out))) ([.ref b, .int a1, .int a2] : List Value).toArray s 0 0 (fun _ => False)) (F0 m 20 ls [])) (We := fun s6 => ∀ (ls : Array Slot), lv_has ls 5 [(4, .int s6.2), (3, .int s6.1), (0, .ref b), (1, .int a1), (2, .int a2)] → W p l e rmX7_letterOf s m ([.ref b, .int a1, .int a2] : List Value).toArray below meth c s.heap [] 0 0 (MQ below (cQr (some (.int out))) ([.ref b, .int a1, .int a2] : List Value).toArray s 0 0 (fun _ => False)) (F0 m 37 ls [])) ?_ _ _ _ hx7 ?_ ls (lv_sub hl [0, 1, 2, 3, 4] rfl)
  · intro s4 r9 hE hL9 hR9 ls hl
    unfold lbX7_letterOf_20 at hE
    refine lv_iload hx hb dX7_letterOf_20 (lv_at hl 0 rfl) ?_
    refine lv_iload_n hx hb dX7_letterOf_22 rfl (lv_at hl 4 rfl) ?_
    refine lv_icmp_le (tgt := 37) hx hb dX7_letterOf_23 (by decide) (fun c5 => ?_) (fun c5 => ?_)
    · have hE := (if_pos c5).symm.trans hE
      cases hE
      exact hR9 _ rfl ls (lv_sub hl [0, 1, 2, 3, 4] rfl)
    · have hE := (if_neg c5).symm.trans hE
      refine lv_iload_n hx hb dX7_letterOf_26 rfl (lv_at hl 1 rfl) ?_
      refine lv_bipush (v := 27) hx hb dX7_letterOf_27 (by decide) ?_
      refine lv_idiv hx hb dX7_letterOf_29 (by decide) ?_
      refine lv_istore_n (lv' := [(3, .int (s4.1 / ((27 : Int32)))), (4, .int s4.2), (0, .ref b), (1, .int a1), (2, .int a2)]) hx hb dX7_letterOf_30 rfl hl (by decide) rfl (fun ls hl => ?_)
      refine lv_iinc (v := s4.2 + (-1)) (lv' := [(4, .int (s4.2 + (-1))), (3, .int (s4.1 / ((27 : Int32)))), (0, .ref b), (1, .int a1), (2, .int a2)]) hx hb dX7_letterOf_31 hl (k := 1) rfl (congrArg (fun q => s4.2 + q) (by decide)) (by decide) rfl (fun ls hl => ?_)
      refine lv_goto (tgt := 20) hx hb dX7_letterOf_34 (by decide) ?_
      cases hE
      exact hL9 _ rfl ls (lv_sub hl [0, 1, 2, 3, 4] rfl)
  · intro ls hl
    refine lv_iload_n hx hb dX7_letterOf_37 rfl (lv_at hl 4 rfl) ?_
    refine lv_iconst (v := 0) hx hb dX7_letterOf_38 (by decide) ?_
    refine lv_aload_n hx hb dX7_letterOf_39 rfl (lv_at hl 2 rfl) ?_
    refine lv_iload_n hx hb dX7_letterOf_40 rfl (lv_at hl 3 rfl) ?_
    obtain ⟨r8, er8, hE⟩ := bd_el hE
    refine rg_callRV (As := [.int a1]) (rest := [.int ((0 : Int32)), .int a2]) F (mX7_lettersOf l X b V a1 r8 er8) (cwV 1 F.1.2.2.2.2 gX7_letterOf_X7_lettersOf rfl rfl rfl hvX7_lettersOf ⟨Nat.le_of_ble_eq_true rfl, Nat.le_of_ble_eq_true rfl⟩) (rp_recv F hR 0 rfl (C := RX7) (T := TX7) (N := 8) rfl rfl) hR rfl hl.1 (Nat.le_of_ble_eq_true rfl) dX7_letterOf_41 ⟨Nat.zero_le _, Nat.zero_le _⟩ rfl ?_
    refine lv_iconst (v := 1) hx hb dX7_letterOf_44 (by decide) ?_
    refine lv_isub hx hb dX7_letterOf_45 ?_
    obtain ⟨r9, er9, hE⟩ := lt_el hE
    refine rg_callRS (As := [.int a2, .int ((0 : Int32)), .int (r8 - ((1 : Int32)))]) (rest := []) F (mX7_in l X a2 ((0 : Int32)) (r8 - ((1 : Int32))) r9 er9) (va_cwS 3 F.1.2.2.2.2 gX7_letterOf_X7_in rfl rfl rfl hsX7_in ⟨Nat.le_of_ble_eq_true rfl, Nat.le_of_ble_eq_true rfl⟩)  trivial rfl hl.1 (Nat.le_of_ble_eq_true rfl) dX7_letterOf_46 ⟨Nat.zero_le _, Nat.zero_le _⟩ rfl ?_
    refine lv_if_eq (tgt := 62) hx hb dX7_letterOf_49 (by decide) (fun c10 => ?_) (fun c10 => ?_)
    · have hE := (if_pos c10).symm.trans hE
      refine lv_sipush (v := (-1006)) hx hb dX7_letterOf_62 (by decide) ?_
      have hE := Option.some.inj hE
      subst hE
      exact W.iret (v := (-1006 : Int32)) hx hb hr (fun t ht _ => ⟨rfl, ht⟩) (fun _ h => absurd h List.not_mem_nil) dX7_letterOf_65
    · have hE := (if_neg c10).symm.trans hE
      refine lv_bipush (v := 96) hx hb dX7_letterOf_52 (by decide) ?_
      refine lv_iload_n hx hb dX7_letterOf_54 rfl (lv_at hl 1 rfl) ?_
      refine lv_bipush (v := 27) hx hb dX7_letterOf_55 (by decide) ?_
      refine lv_irem hx hb dX7_letterOf_57 (by decide) ?_
      refine lv_iadd hx hb dX7_letterOf_58 ?_
      refine lv_goto (tgt := 65) hx hb dX7_letterOf_59 (by decide) ?_
      have hE := Option.some.inj hE
      subst hE
      exact W.iret (v := ((96 : Int32)) + (x7.1 - x7.1 / ((27 : Int32)) * ((27 : Int32)))) hx hb hr (fun t ht _ => ⟨rfl, ht⟩) (fun _ h => absurd h List.not_mem_nil) dX7_letterOf_65
set_option maxRecDepth 20000 in
theorem lkX7_hasPassed_0 : Cond.fieldLink RX7 7 "TideWordsModel" "s" "[I" ∈ wsX7_hasPassed := by decide +kernel
set_option maxRecDepth 20000 in
theorem iwX7_hasPassed_X7 : ∀ w ∈ wsX70, w ∈ wsX7_hasPassed := by decide +kernel
def qX7_hasPassed (V : Mem) (a1 : Int32) : Option (Int32) := lt (fX7_ofWord a1 ((1 : Int32))) (fun r1 => if r1 < 0 ∨ 131 ≤ r1.toNatClampNeg then none else if V 1 r1.toNatClampNeg = (1 : Int32) then some ((1 : Int32)) else some ((0 : Int32)))
abbrev rmX7_hasPassed : Room := { frames := 1, cells := 0, slots := 0, locals := 21 }
set_option maxHeartbeats 4000000 in
set_option maxRecDepth 100000 in
theorem mX7_hasPassed (l : Launch) (X : kX) (b : Nat) (V : Mem) (a1 : Int32) (out : Int32) (hE : qX7_hasPassed V a1 = some out) : MR l yX7_hasPassed wsX7_hasPassed rmX7_hasPassed X [.ref b, .int a1] (RP X LM b V) (some (.int out)) := by
  refine mt_head (cc := cX7_hasPassed) (maxL := 2) (ret := (some .boolean)) (own := RX7) (by decide) rfl rfl (Nat.le_of_ble_eq_true rfl) ?_
  intro p e s m below meth c ls F hr hlocks hnm hR hl
  have hx := F.1.1
  have hb := F.1.2.1
  have hl : lv_has ls 2 [(0, .ref b), (1, .int a1)] := hl
  unfold qX7_hasPassed at hE
  refine lv_aload_n hx hb dX7_hasPassed_0 rfl (lv_at hl 0 rfl) ?_
  refine rg_getr F hR 0 (ci := 7) rfl (C := RX7) (T := TX7) (N := 8) rfl iwX7_hasPassed_X7 0 (d := 1) (n := 1) rfl rfl (by decide) rfl lkX7_hasPassed_0 rfl dX7_hasPassed_1 ?_
  refine lv_iload_n hx hb dX7_hasPassed_4 rfl (lv_at hl 1 rfl) ?_
  refine lv_iconst (v := 1) hx hb dX7_hasPassed_5 (by decide) ?_
  obtain ⟨r1, er1, hE⟩ := lt_el hE
  refine rg_callRS (As := [.int a1, .int ((1 : Int32))]) (rest := [.ref (b + 1)]) F (mX7_ofWord l X a1 ((1 : Int32)) r1 er1) (va_cwS 2 F.1.2.2.2.2 gX7_hasPassed_X7_ofWord rfl rfl rfl hsX7_ofWord ⟨Nat.le_of_ble_eq_true rfl, Nat.le_of_ble_eq_true rfl⟩)  trivial rfl hl.1 (Nat.le_of_ble_eq_true rfl) dX7_hasPassed_6 ⟨Nat.zero_le _, Nat.zero_le _⟩ rfl ?_
  obtain ⟨g2, hE⟩ := gd_el hE
  refine rg_iald F hR 1 (n := 131) rfl g2 rfl dX7_hasPassed_9 ?_
  refine lv_iconst (v := 1) hx hb dX7_hasPassed_10 (by decide) ?_
  refine lv_icmp_ne (tgt := 18) hx hb dX7_hasPassed_11 (by decide) (fun c3 => ?_) (fun c3 => ?_)
  · have hE := (if_neg c3).symm.trans hE
    refine lv_iconst (v := 0) hx hb dX7_hasPassed_18 (by decide) ?_
    have hE := Option.some.inj hE
    subst hE
    exact W.zret (v := (0 : Int32)) hx hb hr rfl (fun t ht _ => ⟨rfl, ht⟩) (fun _ h => absurd h List.not_mem_nil) dX7_hasPassed_19
  · have hE := (if_pos c3).symm.trans hE
    refine lv_iconst (v := 1) hx hb dX7_hasPassed_14 (by decide) ?_
    refine lv_goto (tgt := 19) hx hb dX7_hasPassed_15 (by decide) ?_
    have hE := Option.some.inj hE
    subst hE
    exact W.zret (v := (1 : Int32)) hx hb hr rfl (fun t ht _ => ⟨rfl, ht⟩) (fun _ h => absurd h List.not_mem_nil) dX7_hasPassed_19
