def D6 : List (Option Nat) := [some 1, some 43, some 85, some 127, some 169, some 211]
def D2 : List (Option Nat) := [some 1, some 43]
theorem sbq88 : sbL LA 88 [.inr (.inr D6)] := sbl_of rfl
theorem sbq341 : sbL LA 341 [.inr (.inr D2)] := sbl_of rfl
def wAns (ds : List (Option Nat)) (b : Nat) (i : Int32) : Value := if i < 0 ∨ ds.length ≤ i.toNatClampNeg then .null else va_rf ((ds.getD i.toNatClampNeg none).map (fun d => b + d))
abbrev rmX6_worldIn : Room := { frames := 0, cells := 0, slots := 0, locals := 0 }
set_option maxHeartbeats 4000000 in
set_option maxRecDepth 100000 in
theorem mX6_worldIn (l : Launch) (X : kX) (ds : List (Option Nat)) (hd : ds.length < 2 ^ 31) (b : Nat) (V : Mem) (a1 : Int32) : MR l yX6_worldIn wsX6_worldIn rmX6_worldIn X [.ref b, .int a1] (RP X [.inr (.inr ds)] b V) (some (wAns ds b a1)) := by
  refine mt_head (cc := cX6_worldIn) (maxL := 2) (ret := (some (.object "TideWords$World"))) (own := RX6) (by decide) rfl rfl (Nat.le_of_ble_eq_true rfl) ?_
  intro p e s m below meth c ls F hr hlocks hnm hR hl
  have hx := F.1.1
  have hb := F.1.2.1
  have hl : lv_has ls 2 [(0, .ref b), (1, .int a1)] := hl
  have nul : (a1 < 0 ∨ ds.length ≤ a1.toNatClampNeg) → W p l e rmX6_worldIn s m ([.ref b, .int a1] : List Value).toArray below meth c s.heap [] 0 0 (MQ below (cQr (some (wAns ds b a1))) ([.ref b, .int a1] : List Value).toArray s 0 0 (fun _ => False)) (F0 m 16 ls []) := by
    intro h
    refine lv_null hx hb dX6_worldIn_16 ?_
    have e9 : wAns ds b a1 = .null := if_pos h
    exact W.aret (v := .null) hx hb hr (Or.inl ⟨_, rfl⟩) (Or.inl rfl) (fun t ht _ => ⟨by rw [e9], ht⟩) (fun _ h => absurd h List.not_mem_nil) dX6_worldIn_17
  refine lv_iload_n hx hb dX6_worldIn_0 rfl (lv_at hl 1 rfl) ?_
  refine lv_if_lt (tgt := 16) hx hb dX6_worldIn_1 (by decide) (fun c1 => nul (Or.inl c1)) (fun c1 => ?_)
  refine lv_iload_n hx hb dX6_worldIn_4 rfl (lv_at hl 1 rfl) ?_
  refine lv_aload_n hx hb dX6_worldIn_5 rfl (lv_at hl 0 rfl) ?_
  refine rg_alenq F hR 0 rfl rfl dX6_worldIn_6 ?_
  refine lv_icmp_ge (tgt := 16) hx hb dX6_worldIn_7 (by decide) (fun c2 => nul (Or.inr ((nI_le_iff hd c1).mp c2))) (fun c2 => ?_)
  have hin : ¬ (a1 < 0 ∨ ds.length ≤ a1.toNatClampNeg) := fun h => h.elim c1 (fun q => c2 ((nI_le_iff hd c1).mpr q))
  refine lv_aload_n hx hb dX6_worldIn_10 rfl (lv_at hl 0 rfl) ?_
  refine lv_iload_n hx hb dX6_worldIn_11 rfl (lv_at hl 1 rfl) ?_
  refine va_aldq (cA := X.2.2.2) (n := ds.length) (f := fun q => (ds.getD q none).map (fun d => b + d)) hx hb F.2 (rg_at hR 0 rfl) 0 2 rfl rfl hin dX6_worldIn_12 ?_
  refine lv_goto (tgt := 17) hx hb dX6_worldIn_13 (by decide) ?_
  have e9 : wAns ds b a1 = va_rf ((ds.getD a1.toNatClampNeg none).map (fun d => b + d)) := if_neg hin
  refine W.aret hx hb hr (Or.inl ⟨_, rfl⟩) ?_ (fun t ht _ => ⟨by rw [e9], ht⟩) (fun _ h => absurd h List.not_mem_nil) dX6_worldIn_17
  cases (ds.getD a1.toNatClampNeg none).map (fun d => b + d) with
  | none => exact Or.inl rfl
  | some a => exact Or.inr ⟨a, rfl⟩
def fX6_copyInto (V : Mem) (base n : Nat) (a2 : Int32) : Mem := if a2 < 0 ∨ n ≤ a2.toNatClampNeg then V else pv V (base + (1 + 42 * a2.toNatClampNeg)) 42 (gv V 1)
set_option maxRecDepth 20000 in
theorem lkX6_copyInto_0 : Cond.fieldLink RX6 10 "TideWords" "now" "LTideWords$World;" ∈ wsX6_copyInto := by decide +kernel
set_option maxRecDepth 20000 in
theorem iwX6_copyInto_X6 : ∀ w ∈ wsX60, w ∈ wsX6_copyInto := by decide +kernel
theorem hsX6_worldIn : yX6_worldIn.cls ≠ "java/lang/invoke/MethodHandle" ∧ yX6_worldIn.cls ≠ "java/lang/invoke/VarHandle" ∧ (parseMethodDescriptor yX6_worldIn.desc).map (fun d => d.parameters.length) = some 2 := by decide +kernel
theorem hvX5_copyFrom : yX5_copyFrom.cls = RX5 ∧ yX5_copyFrom.cls ≠ "java/lang/invoke/MethodHandle" ∧ yX5_copyFrom.cls ≠ "java/lang/invoke/VarHandle" ∧ (parseMethodDescriptor yX5_copyFrom.desc).map (fun d => d.parameters.length) = some 1 := by decide +kernel
theorem sb_LA_1_LW : sbL LA 1 LW := sbl_of rfl
abbrev rmX6_copyInto : Room := { frames := 4, cells := 0, slots := 0, locals := 123 }
theorem D6_get : ∀ k, k < 6 → D6.getD k none = some (1 + 42 * k) := by decide
theorem wr88 {i : Int32} (h : ¬ (i < 0 ∨ 6 ≤ i.toNatClampNeg)) : i.toNatClampNeg < 6 := Nat.not_le.mp (fun q => h (Or.inr q))
theorem wAns_in88 {i : Int32} {b : Nat} (h : ¬ (i < 0 ∨ 6 ≤ i.toNatClampNeg)) : wAns D6 (b + 88) i = .ref (b + (88 + (1 + 42 * i.toNatClampNeg))) := by
  unfold wAns
  rw [if_neg (show ¬ (i < 0 ∨ D6.length ≤ i.toNatClampNeg) from h), D6_get _ (wr88 h)]
  show Value.ref (b + 88 + (1 + 42 * i.toNatClampNeg)) = _
  rw [Nat.add_assoc]
theorem sbw880 : ∀ k, k < 6 → sbL LA (88 + (1 + 42 * k)) LW := by
  intro k hk
  rcases (show k = 0 ∨ k = 1 ∨ k = 2 ∨ k = 3 ∨ k = 4 ∨ k = 5 by omega) with rfl | rfl | rfl | rfl | rfl | rfl
  · exact sbl_of rfl
  · exact sbl_of rfl
  · exact sbl_of rfl
  · exact sbl_of rfl
  · exact sbl_of rfl
  · exact sbl_of rfl
theorem sbw88 {i : Int32} (h : ¬ (i < 0 ∨ 6 ≤ i.toNatClampNeg)) : sbL LA (88 + (1 + 42 * i.toNatClampNeg)) LW := sbw880 _ (wr88 h)
set_option maxHeartbeats 4000000 in
set_option maxRecDepth 100000 in
theorem mX6_copyInto88 (l : Launch) (X : kX) (b : Nat) (V : Mem) (a2 : Int32) (out : Mem) (hE : fX6_copyInto V 88 6 a2 = out) : MW l yX6_copyInto wsX6_copyInto rmX6_copyInto X [.ref b, .ref (b + 88), .int a2] (RP X LA b V) none b (b + LA.length) (RP X LA b out) := by
  refine mt_head (cc := cX6_copyInto) (maxL := 4) (ret := none) (own := RX6) (by decide) rfl rfl (Nat.le_of_ble_eq_true rfl) ?_
  intro p e s m below meth c ls F hr hlocks hnm hR hl
  have hx := F.1.1
  have hb := F.1.2.1
  have hH : Hp (t_fr b (b + LA.length)) s.heap s.heap.size X LA b V s.heap [] := ⟨hR, va_S.rf, rfl⟩
  have hl : lv_has ls 4 [(0, .ref b), (1, .ref (b + 88)), (2, .int a2)] := hl
  unfold fX6_copyInto at hE
  refine lv_aload_n hx hb dX6_copyInto_0 rfl (lv_at hl 1 rfl) ?_
  refine lv_iload_n hx hb dX6_copyInto_1 rfl (lv_at hl 2 rfl) ?_
  have hM9 := mX6_worldIn l X D6 (by decide) (b + 88) (gv V 88) a2
  have cw9 := va_cwS (R := rmX6_copyInto) (s := s) (args := ([.ref b, .ref (b + 88), .int a2] : List Value).toArray) (rm := rmX6_worldIn) 2 F.1.2.2.2.2 gX6_copyInto_X6_worldIn rfl rfl rfl hsX6_worldIn ⟨Nat.le_of_ble_eq_true rfl, Nat.le_of_ble_eq_true rfl⟩
  by_cases c1 : a2 < 0 ∨ 6 ≤ a2.toNatClampNeg
  · rw [if_pos c1] at hE
    subst hE
    rw [show wAns D6 (b + 88) a2 = .null from if_pos c1] at hM9
    refine rg_callRS (As := [.ref (b + 88), .int a2]) (rest := []) F hM9 cw9 (hH.1.sub 88 sbq88) rfl hl.1 (Nat.le_of_ble_eq_true rfl) dX6_copyInto_2 ⟨Nat.zero_le _, Nat.zero_le _⟩ rfl ?_
    refine lv_astore_nN (lv' := [(3, .null), (0, .ref b), (1, .ref (b + 88)), (2, .int a2)]) hx hb dX6_copyInto_5 rfl hl (by decide) rfl (fun ls hl => ?_)
    refine lv_aload_nN hx hb dX6_copyInto_6 rfl (lv_at hl 0 rfl) ?_
    refine lv_ifnullN (tgt := 18) hx hb dX6_copyInto_7 (by decide) ?_
    exact W.vret hx hb hr (fun t ht _ => mw_post hH ht) hH.2.1.2.2 dX6_copyInto_18
  · rw [if_neg c1] at hE
    rw [wAns_in88 c1] at hM9
    have hw9 := wr88 c1
    refine rg_callRS (As := [.ref (b + 88), .int a2]) (rest := []) F hM9 cw9 (hH.1.sub 88 sbq88) rfl hl.1 (Nat.le_of_ble_eq_true rfl) dX6_copyInto_2 ⟨Nat.zero_le _, Nat.zero_le _⟩ rfl ?_
    refine lv_astore_n (lv' := [(3, .ref (b + (88 + (1 + 42 * a2.toNatClampNeg)))), (0, .ref b), (1, .ref (b + 88)), (2, .int a2)]) hx hb dX6_copyInto_5 rfl hl (by decide) rfl (fun ls hl => ?_)
    refine lv_aload_n hx hb dX6_copyInto_6 rfl (lv_at hl 0 rfl) ?_
    refine lv_ifnull hx hb dX6_copyInto_7 ?_
    refine lv_aload_n hx hb dX6_copyInto_10 rfl (lv_at hl 0 rfl) ?_
    refine lv_aload_n hx hb dX6_copyInto_11 rfl (lv_at hl 1 rfl) ?_
    refine rg_getr F hH.1 0 (ci := 6) rfl (C := RX6) (T := TX6) (N := 9) rfl iwX6_copyInto_X6 0 (d := 1) (n := 1) rfl rfl (by decide) rfl lkX6_copyInto_0 rfl dX6_copyInto_12 ?_
    refine rg_callWV (As := [.ref (b + 1)]) (rest := []) (P := fun H => RP X LW (b + (88 + (1 + 42 * a2.toNatClampNeg))) (gv V (88 + (1 + 42 * a2.toNatClampNeg))) H ∧ RP X LW (b + 1) (gv V 1) H) F hH (fun q h1 h2 => ⟨h1, h2⟩) (88 + (1 + 42 * a2.toNatClampNeg)) (sbw88 c1) (mX5_copyFrom l X (b + (88 + (1 + 42 * a2.toNatClampNeg))) (b + 1) _ _ (by omega)) (cwV 1 F.1.2.2.2.2 gX6_copyInto_X5_copyFrom rfl rfl rfl hvX5_copyFrom ⟨Nat.le_of_ble_eq_true rfl, Nat.le_of_ble_eq_true rfl⟩) (rp_recv F (hH.1.sub _ (sbw88 c1)) 0 (ci := 5) rfl (C := RX5) (T := TX5) (N := 6) rfl rfl) ⟨hH.1.sub _ (sbw88 c1), hH.1.sub 1 sb_LA_1_LW⟩ rfl hl.1 (Nat.le_of_ble_eq_true rfl) dX6_copyInto_15 ⟨Nat.zero_le _, Nat.zero_le _⟩ rfl hE (fun H locs hH hfr => ?_)
    exact W.vret hx hb hr (fun t ht _ => mw_post hH ht) hH.2.1.2.2 dX6_copyInto_18
theorem D2_get : ∀ k, k < 2 → D2.getD k none = some (1 + 42 * k) := by decide
theorem wr341 {i : Int32} (h : ¬ (i < 0 ∨ 2 ≤ i.toNatClampNeg)) : i.toNatClampNeg < 2 := Nat.not_le.mp (fun q => h (Or.inr q))
theorem wAns_in341 {i : Int32} {b : Nat} (h : ¬ (i < 0 ∨ 2 ≤ i.toNatClampNeg)) : wAns D2 (b + 341) i = .ref (b + (341 + (1 + 42 * i.toNatClampNeg))) := by
  unfold wAns
  rw [if_neg (show ¬ (i < 0 ∨ D2.length ≤ i.toNatClampNeg) from h), D2_get _ (wr341 h)]
  show Value.ref (b + 341 + (1 + 42 * i.toNatClampNeg)) = _
  rw [Nat.add_assoc]
theorem sbw3410 : ∀ k, k < 2 → sbL LA (341 + (1 + 42 * k)) LW := by
  intro k hk
  rcases (show k = 0 ∨ k = 1 by omega) with rfl | rfl
  · exact sbl_of rfl
  · exact sbl_of rfl
theorem sbw341 {i : Int32} (h : ¬ (i < 0 ∨ 2 ≤ i.toNatClampNeg)) : sbL LA (341 + (1 + 42 * i.toNatClampNeg)) LW := sbw3410 _ (wr341 h)
set_option maxHeartbeats 4000000 in
set_option maxRecDepth 100000 in
theorem mX6_copyInto341 (l : Launch) (X : kX) (b : Nat) (V : Mem) (a2 : Int32) (out : Mem) (hE : fX6_copyInto V 341 2 a2 = out) : MW l yX6_copyInto wsX6_copyInto rmX6_copyInto X [.ref b, .ref (b + 341), .int a2] (RP X LA b V) none b (b + LA.length) (RP X LA b out) := by
  refine mt_head (cc := cX6_copyInto) (maxL := 4) (ret := none) (own := RX6) (by decide) rfl rfl (Nat.le_of_ble_eq_true rfl) ?_
  intro p e s m below meth c ls F hr hlocks hnm hR hl
  have hx := F.1.1
  have hb := F.1.2.1
  have hH : Hp (t_fr b (b + LA.length)) s.heap s.heap.size X LA b V s.heap [] := ⟨hR, va_S.rf, rfl⟩
  have hl : lv_has ls 4 [(0, .ref b), (1, .ref (b + 341)), (2, .int a2)] := hl
  unfold fX6_copyInto at hE
  refine lv_aload_n hx hb dX6_copyInto_0 rfl (lv_at hl 1 rfl) ?_
  refine lv_iload_n hx hb dX6_copyInto_1 rfl (lv_at hl 2 rfl) ?_
  have hM9 := mX6_worldIn l X D2 (by decide) (b + 341) (gv V 341) a2
  have cw9 := va_cwS (R := rmX6_copyInto) (s := s) (args := ([.ref b, .ref (b + 341), .int a2] : List Value).toArray) (rm := rmX6_worldIn) 2 F.1.2.2.2.2 gX6_copyInto_X6_worldIn rfl rfl rfl hsX6_worldIn ⟨Nat.le_of_ble_eq_true rfl, Nat.le_of_ble_eq_true rfl⟩
  by_cases c1 : a2 < 0 ∨ 2 ≤ a2.toNatClampNeg
  · rw [if_pos c1] at hE
    subst hE
    rw [show wAns D2 (b + 341) a2 = .null from if_pos c1] at hM9
    refine rg_callRS (As := [.ref (b + 341), .int a2]) (rest := []) F hM9 cw9 (hH.1.sub 341 sbq341) rfl hl.1 (Nat.le_of_ble_eq_true rfl) dX6_copyInto_2 ⟨Nat.zero_le _, Nat.zero_le _⟩ rfl ?_
    refine lv_astore_nN (lv' := [(3, .null), (0, .ref b), (1, .ref (b + 341)), (2, .int a2)]) hx hb dX6_copyInto_5 rfl hl (by decide) rfl (fun ls hl => ?_)
    refine lv_aload_nN hx hb dX6_copyInto_6 rfl (lv_at hl 0 rfl) ?_
    refine lv_ifnullN (tgt := 18) hx hb dX6_copyInto_7 (by decide) ?_
    exact W.vret hx hb hr (fun t ht _ => mw_post hH ht) hH.2.1.2.2 dX6_copyInto_18
  · rw [if_neg c1] at hE
    rw [wAns_in341 c1] at hM9
    have hw9 := wr341 c1
    refine rg_callRS (As := [.ref (b + 341), .int a2]) (rest := []) F hM9 cw9 (hH.1.sub 341 sbq341) rfl hl.1 (Nat.le_of_ble_eq_true rfl) dX6_copyInto_2 ⟨Nat.zero_le _, Nat.zero_le _⟩ rfl ?_
    refine lv_astore_n (lv' := [(3, .ref (b + (341 + (1 + 42 * a2.toNatClampNeg)))), (0, .ref b), (1, .ref (b + 341)), (2, .int a2)]) hx hb dX6_copyInto_5 rfl hl (by decide) rfl (fun ls hl => ?_)
    refine lv_aload_n hx hb dX6_copyInto_6 rfl (lv_at hl 0 rfl) ?_
    refine lv_ifnull hx hb dX6_copyInto_7 ?_
    refine lv_aload_n hx hb dX6_copyInto_10 rfl (lv_at hl 0 rfl) ?_
    refine lv_aload_n hx hb dX6_copyInto_11 rfl (lv_at hl 1 rfl) ?_
    refine rg_getr F hH.1 0 (ci := 6) rfl (C := RX6) (T := TX6) (N := 9) rfl iwX6_copyInto_X6 0 (d := 1) (n := 1) rfl rfl (by decide) rfl lkX6_copyInto_0 rfl dX6_copyInto_12 ?_
    refine rg_callWV (As := [.ref (b + 1)]) (rest := []) (P := fun H => RP X LW (b + (341 + (1 + 42 * a2.toNatClampNeg))) (gv V (341 + (1 + 42 * a2.toNatClampNeg))) H ∧ RP X LW (b + 1) (gv V 1) H) F hH (fun q h1 h2 => ⟨h1, h2⟩) (341 + (1 + 42 * a2.toNatClampNeg)) (sbw341 c1) (mX5_copyFrom l X (b + (341 + (1 + 42 * a2.toNatClampNeg))) (b + 1) _ _ (by omega)) (cwV 1 F.1.2.2.2.2 gX6_copyInto_X5_copyFrom rfl rfl rfl hvX5_copyFrom ⟨Nat.le_of_ble_eq_true rfl, Nat.le_of_ble_eq_true rfl⟩) (rp_recv F (hH.1.sub _ (sbw341 c1)) 0 (ci := 5) rfl (C := RX5) (T := TX5) (N := 6) rfl rfl) ⟨hH.1.sub _ (sbw341 c1), hH.1.sub 1 sb_LA_1_LW⟩ rfl hl.1 (Nat.le_of_ble_eq_true rfl) dX6_copyInto_15 ⟨Nat.zero_le _, Nat.zero_le _⟩ rfl hE (fun H locs hH hfr => ?_)
    exact W.vret hx hb hr (fun t ht _ => mw_post hH ht) hH.2.1.2.2 dX6_copyInto_18

set_option maxRecDepth 20000 in
theorem lkX6_record_0 : Cond.fieldLink RX6 26 "TideWords" "history" "[LTideWords$World;" ∈ wsX6_record := by decide +kernel
set_option maxRecDepth 20000 in
theorem iwX6_record_X6 : ∀ w ∈ wsX60, w ∈ wsX6_record := by decide +kernel
set_option maxRecDepth 20000 in
theorem lkX6_record_1 : Cond.fieldLink RX6 259 "TideWords" "nextRecord" "I" ∈ wsX6_record := by decide +kernel
theorem hvX6_copyInto : yX6_copyInto.cls = RX6 ∧ yX6_copyInto.cls ≠ "java/lang/invoke/MethodHandle" ∧ yX6_copyInto.cls ≠ "java/lang/invoke/VarHandle" ∧ (parseMethodDescriptor yX6_copyInto.desc).map (fun d => d.parameters.length) = some 2 := by decide +kernel
set_option maxRecDepth 20000 in
theorem lkX6_record_2 : Cond.fieldLink RX6 219 "TideWords" "records" "I" ∈ wsX6_record := by decide +kernel
set_option maxRecDepth 20000 in
theorem lkX6_record_3 : Cond.methodLink RX6 270 Lib.Math.min.name ∈ wsX6_record := by decide +kernel
set_option maxRecDepth 20000 in
theorem lkX6_record_4 : Cond.static Lib.Math.min.name ∈ wsX6_record := by decide +kernel
set_option maxRecDepth 20000 in
theorem lkX6_record_5 : Cond.initialized "java/lang/Math" ∈ wsX6_record := by decide +kernel
set_option maxRecDepth 20000 in
theorem lkX6_record_6 : Cond.code Lib.Math.min.name Lib.Math.min.code 2 (some .int) ∈ wsX6_record := by decide +kernel
def fX6_record (V : Mem) : Mem := lt (fX6_copyInto V 88 6 (V 0 0)) (fun U1 => if U1 0 0 = (5 : Int32) then lt (sv U1 0 0 ((0 : Int32))) (fun V6 => lt (if ((6 : Int32)) < ((V6 0 1) + ((1 : Int32))) then ((6 : Int32)) else ((V6 0 1) + ((1 : Int32)))) (fun r7 => lt (sv V6 0 1 r7) (fun V8 => V8))) else lt (sv U1 0 0 ((U1 0 0) + ((1 : Int32)))) (fun V3 => lt (if ((6 : Int32)) < ((V3 0 1) + ((1 : Int32))) then ((6 : Int32)) else ((V3 0 1) + ((1 : Int32)))) (fun r4 => lt (sv V3 0 1 r4) (fun V5 => V5))))
abbrev rmX6_record : Room := { frames := 5, cells := 0, slots := 0, locals := 146 }
set_option maxHeartbeats 4000000 in
set_option maxRecDepth 100000 in
theorem mX6_record (l : Launch) (X : kX) (b : Nat) (V : Mem) (out : Mem) (hE : fX6_record V = out) : MW l yX6_record wsX6_record rmX6_record X [.ref b] (RP X LA b V) (none) b (b + LA.length) (RP X LA b out) := by
  refine mt_head (cc := cX6_record) (maxL := 1) (ret := none) (own := RX6) (by decide) rfl rfl (Nat.le_of_ble_eq_true rfl) ?_
  intro p e s m below meth c ls F hr hlocks hnm hR hl
  have hx := F.1.1
  have hb := F.1.2.1
  have hH : Hp (t_fr b (b + LA.length)) s.heap s.heap.size X LA b V s.heap [] := ⟨hR, va_S.rf, rfl⟩
  have hl : lv_has ls 1 [(0, .ref b)] := hl
  unfold fX6_record at hE
  refine lv_aload_n hx hb dX6_record_0 rfl (lv_at hl 0 rfl) ?_
  refine lv_aload_n hx hb dX6_record_1 rfl (lv_at hl 0 rfl) ?_
  refine rg_getr F hH.1 0 (ci := 6) rfl (C := RX6) (T := TX6) (N := 9) rfl iwX6_record_X6 3 (d := 88) (n := 88) rfl rfl (by decide) rfl lkX6_record_0 rfl dX6_record_2 ?_
  refine lv_aload_n hx hb dX6_record_5 rfl (lv_at hl 0 rfl) ?_
  refine rg_geti F hH.1 0 (ci := 6) rfl (C := RX6) (T := TX6) (N := 9) rfl iwX6_record_X6 7 (i := 0) rfl (by decide) rfl lkX6_record_1 rfl dX6_record_6 ?_
  obtain ⟨U1, eU1, hE⟩ := lt_el hE
  refine rg_callWS (As := [.ref (b + 88), .int (V 0 0)]) (rest := []) F hH (fun q h1 h2 => ⟨h1, h2⟩) (mX6_copyInto88 l X b V (V 0 0) U1 eU1) (cwV 2 F.1.2.2.2.2 gX6_record_X6_copyInto rfl rfl rfl hvX6_copyInto ⟨Nat.le_of_ble_eq_true rfl, Nat.le_of_ble_eq_true rfl⟩) (rp_recv F hH.1 0 rfl (C := RX6) (T := TX6) (N := 9) rfl rfl) hH.1 rfl hl.1 (Nat.le_of_ble_eq_true rfl) dX6_record_9 ⟨Nat.zero_le _, Nat.zero_le _⟩ rfl (fun H locs hH => ?_)
  refine lv_aload_n hx hb dX6_record_12 rfl (lv_at hl 0 rfl) ?_
  refine lv_aload_n hx hb dX6_record_13 rfl (lv_at hl 0 rfl) ?_
  refine rg_geti F hH.1 0 (ci := 6) rfl (C := RX6) (T := TX6) (N := 9) rfl iwX6_record_X6 7 (i := 0) rfl (by decide) rfl lkX6_record_1 rfl dX6_record_14 ?_
  refine lv_iconst (v := 5) hx hb dX6_record_17 (by decide) ?_
  refine lv_icmp_ne (tgt := 25) hx hb dX6_record_18 (by decide) (fun c2 => ?_) (fun c2 => ?_)
  · have hE := (if_neg c2).symm.trans hE
    refine lv_aload_n hx hb dX6_record_25 rfl (lv_at hl 0 rfl) ?_
    refine rg_geti F hH.1 0 (ci := 6) rfl (C := RX6) (T := TX6) (N := 9) rfl iwX6_record_X6 7 (i := 0) rfl (by decide) rfl lkX6_record_1 rfl dX6_record_26 ?_
    refine lv_iconst (v := 1) hx hb dX6_record_29 (by decide) ?_
    refine lv_iadd hx hb dX6_record_30 ?_
    obtain ⟨V3, eV3, hE⟩ := lt_el hE
    refine rg_put F hH (fun q h1 h2 => ⟨h1, h2⟩) 0 (ci := 6) rfl (C := RX6) (T := TX6) (N := 9) rfl iwX6_record_X6 tyX6 tyX6_ok nmX6 7 (i := 0) rfl (by decide) (by decide) rfl rfl (by decide +kernel) lkX6_record_1 rfl dX6_record_31 (fun H locs hH hfr => ?_)
    replace hH := hp_cast eV3 hH
    refine lv_aload_n hx hb dX6_record_34 rfl (lv_at hl 0 rfl) ?_
    refine lv_aload_n hx hb dX6_record_35 rfl (lv_at hl 0 rfl) ?_
    refine rg_geti F hH.1 0 (ci := 6) rfl (C := RX6) (T := TX6) (N := 9) rfl iwX6_record_X6 8 (i := 1) rfl (by decide) rfl lkX6_record_2 rfl dX6_record_36 ?_
    refine lv_iconst (v := 1) hx hb dX6_record_39 (by decide) ?_
    refine lv_iadd hx hb dX6_record_40 ?_
    refine lv_bipush (v := 6) hx hb dX6_record_41 (by decide) ?_
    obtain ⟨r4, er4, hE⟩ := lt_el hE
    refine va_mmin hx hb (F.1.2.2.1.trans hl.1.symm) F.1.2.2.2.1 (F.1.2.2.2.2 _ lkX6_record_3) (F.1.2.2.2.2 _ lkX6_record_4) (F.1.2.2.2.2 _ lkX6_record_5) (F.1.2.2.2.2 _ lkX6_record_6) (Nat.le_of_ble_eq_true rfl) (Nat.le_of_ble_eq_true rfl) (Nat.zero_le _) (Nat.zero_le _) dX6_record_43 ?_
    refine lv_nm er4 ?_
    obtain ⟨V5, eV5, hE⟩ := lt_el hE
    refine rg_put F hH (fun q h1 h2 => ⟨h1, h2⟩) 0 (ci := 6) rfl (C := RX6) (T := TX6) (N := 9) rfl iwX6_record_X6 tyX6 tyX6_ok nmX6 8 (i := 1) rfl (by decide) (by decide) rfl rfl (by decide +kernel) lkX6_record_2 rfl dX6_record_46 (fun H locs hH hfr => ?_)
    replace hH := hp_cast eV5 hH
    subst hE
    exact W.vret hx hb hr (fun t ht _ => mw_post hH ht) hH.2.1.2.2 dX6_record_49
  · have hE := (if_pos c2).symm.trans hE
    refine lv_iconst (v := 0) hx hb dX6_record_21 (by decide) ?_
    refine lv_goto (tgt := 31) hx hb dX6_record_22 (by decide) ?_
    obtain ⟨V6, eV6, hE⟩ := lt_el hE
    refine rg_put F hH (fun q h1 h2 => ⟨h1, h2⟩) 0 (ci := 6) rfl (C := RX6) (T := TX6) (N := 9) rfl iwX6_record_X6 tyX6 tyX6_ok nmX6 7 (i := 0) rfl (by decide) (by decide) rfl rfl (by decide +kernel) lkX6_record_1 rfl dX6_record_31 (fun H locs hH hfr => ?_)
    replace hH := hp_cast eV6 hH
    refine lv_aload_n hx hb dX6_record_34 rfl (lv_at hl 0 rfl) ?_
    refine lv_aload_n hx hb dX6_record_35 rfl (lv_at hl 0 rfl) ?_
    refine rg_geti F hH.1 0 (ci := 6) rfl (C := RX6) (T := TX6) (N := 9) rfl iwX6_record_X6 8 (i := 1) rfl (by decide) rfl lkX6_record_2 rfl dX6_record_36 ?_
    refine lv_iconst (v := 1) hx hb dX6_record_39 (by decide) ?_
    refine lv_iadd hx hb dX6_record_40 ?_
    refine lv_bipush (v := 6) hx hb dX6_record_41 (by decide) ?_
    obtain ⟨r7, er7, hE⟩ := lt_el hE
    refine va_mmin hx hb (F.1.2.2.1.trans hl.1.symm) F.1.2.2.2.1 (F.1.2.2.2.2 _ lkX6_record_3) (F.1.2.2.2.2 _ lkX6_record_4) (F.1.2.2.2.2 _ lkX6_record_5) (F.1.2.2.2.2 _ lkX6_record_6) (Nat.le_of_ble_eq_true rfl) (Nat.le_of_ble_eq_true rfl) (Nat.zero_le _) (Nat.zero_le _) dX6_record_43 ?_
    refine lv_nm er7 ?_
    obtain ⟨V8, eV8, hE⟩ := lt_el hE
    refine rg_put F hH (fun q h1 h2 => ⟨h1, h2⟩) 0 (ci := 6) rfl (C := RX6) (T := TX6) (N := 9) rfl iwX6_record_X6 tyX6 tyX6_ok nmX6 8 (i := 1) rfl (by decide) (by decide) rfl rfl (by decide +kernel) lkX6_record_2 rfl dX6_record_46 (fun H locs hH hfr => ?_)
    replace hH := hp_cast eV8 hH
    subst hE
    exact W.vret hx hb hr (fun t ht _ => mw_post hH ht) hH.2.1.2.2 dX6_record_49
def fX6_isWithin (a1 : Int32) (a2 : Int32) (a3 : Int32) : Int32 := if a1 < a2 then (0 : Int32) else if a3 < a1 then (0 : Int32) else (1 : Int32)
abbrev rmX6_isWithin : Room := { frames := 0, cells := 0, slots := 0, locals := 0 }
set_option maxHeartbeats 4000000 in
set_option maxRecDepth 100000 in
theorem mX6_isWithin (l : Launch) (X : kX) (a1 : Int32) (a2 : Int32) (a3 : Int32) (out : Int32) (hE : fX6_isWithin a1 a2 a3 = out) : MR l yX6_isWithin wsX6_isWithin rmX6_isWithin X [.int a1, .int a2, .int a3] (fun _ => True) (some (.int out)) := by
  refine mt_head (cc := cX6_isWithin) (maxL := 3) (ret := (some .boolean)) (own := RX6) (by decide) rfl rfl (Nat.le_of_ble_eq_true rfl) ?_
  intro p e s m below meth c ls F hr hlocks hnm hR hl
  have hx := F.1.1
  have hb := F.1.2.1
  have hl : lv_has ls 3 [(0, .int a1), (1, .int a2), (2, .int a3)] := hl
  unfold fX6_isWithin at hE
  refine lv_iload_n hx hb dX6_isWithin_0 rfl (lv_at hl 0 rfl) ?_
  refine lv_iload_n hx hb dX6_isWithin_1 rfl (lv_at hl 1 rfl) ?_
  refine lv_icmp_lt (tgt := 14) hx hb dX6_isWithin_2 (by decide) (fun c1 => ?_) (fun c1 => ?_)
  · have hE := (if_pos c1).symm.trans hE
    refine lv_iconst (v := 0) hx hb dX6_isWithin_14 (by decide) ?_
    subst hE
    exact W.zret (v := (0 : Int32)) hx hb hr rfl (fun t ht _ => ⟨rfl, ht⟩) (fun _ h => absurd h List.not_mem_nil) dX6_isWithin_15
  · have hE := (if_neg c1).symm.trans hE
    refine lv_iload_n hx hb dX6_isWithin_5 rfl (lv_at hl 0 rfl) ?_
    refine lv_iload_n hx hb dX6_isWithin_6 rfl (lv_at hl 2 rfl) ?_
    refine lv_icmp_gt (tgt := 14) hx hb dX6_isWithin_7 (by decide) (fun c2 => ?_) (fun c2 => ?_)
    · have hE := (if_pos c2).symm.trans hE
      refine lv_iconst (v := 0) hx hb dX6_isWithin_14 (by decide) ?_
      subst hE
      exact W.zret (v := (0 : Int32)) hx hb hr rfl (fun t ht _ => ⟨rfl, ht⟩) (fun _ h => absurd h List.not_mem_nil) dX6_isWithin_15
    · have hE := (if_neg c2).symm.trans hE
      refine lv_iconst (v := 1) hx hb dX6_isWithin_10 (by decide) ?_
      refine lv_goto (tgt := 15) hx hb dX6_isWithin_11 (by decide) ?_
      subst hE
      exact W.zret (v := (1 : Int32)) hx hb hr rfl (fun t ht _ => ⟨rfl, ht⟩) (fun _ h => absurd h List.not_mem_nil) dX6_isWithin_15
theorem zX6_isWithin {a1 : Int32} {a2 : Int32} {a3 : Int32} {out : Int32} (h : fX6_isWithin a1 a2 a3 = out) : narrow .boolean (.int out) = .int out := by
  rw [← h]
  unfold fX6_isWithin
  repeat (first | rfl | exact zX1_isOpenAcross rfl | exact zX5_isOpenAt rfl | (simp only [lt]) | split)
theorem hsX6_isWithin : yX6_isWithin.cls ≠ "java/lang/invoke/MethodHandle" ∧ yX6_isWithin.cls ≠ "java/lang/invoke/VarHandle" ∧ (parseMethodDescriptor yX6_isWithin.desc).map (fun d => d.parameters.length) = some 3 := by decide +kernel
def fX6_isStore (a1 : Int32) : Int32 := lt (fX6_isWithin a1 ((0 : Int32)) ((1 : Int32))) (fun r1 => r1)
abbrev rmX6_isStore : Room := { frames := 1, cells := 0, slots := 0, locals := 22 }
set_option maxHeartbeats 4000000 in
set_option maxRecDepth 100000 in
theorem mX6_isStore (l : Launch) (X : kX) (a1 : Int32) (out : Int32) (hE : fX6_isStore a1 = out) : MR l yX6_isStore wsX6_isStore rmX6_isStore X [.int a1] (fun _ => True) (some (.int out)) := by
  refine mt_head (cc := cX6_isStore) (maxL := 1) (ret := (some .boolean)) (own := RX6) (by decide) rfl rfl (Nat.le_of_ble_eq_true rfl) ?_
  intro p e s m below meth c ls F hr hlocks hnm hR hl
  have hx := F.1.1
  have hb := F.1.2.1
  have hl : lv_has ls 1 [(0, .int a1)] := hl
  unfold fX6_isStore at hE
  refine lv_iload_n hx hb dX6_isStore_0 rfl (lv_at hl 0 rfl) ?_
  refine lv_iconst (v := 0) hx hb dX6_isStore_1 (by decide) ?_
  refine lv_iconst (v := 1) hx hb dX6_isStore_2 (by decide) ?_
  obtain ⟨r1, er1, hE⟩ := lt_el hE
  refine rg_callRS (As := [.int a1, .int ((0 : Int32)), .int ((1 : Int32))]) (rest := []) F (mX6_isWithin l X a1 ((0 : Int32)) ((1 : Int32)) r1 er1) (va_cwS 3 F.1.2.2.2.2 gX6_isStore_X6_isWithin rfl rfl rfl hsX6_isWithin ⟨Nat.le_of_ble_eq_true rfl, Nat.le_of_ble_eq_true rfl⟩)  trivial rfl hl.1 (Nat.le_of_ble_eq_true rfl) dX6_isStore_3 ⟨Nat.zero_le _, Nat.zero_le _⟩ rfl ?_
  subst hE
  exact W.zret (v := r1) hx hb hr (zX6_isWithin er1) (fun t ht _ => ⟨rfl, ht⟩) (fun _ h => absurd h List.not_mem_nil) dX6_isStore_6
theorem zX6_isStore {a1 : Int32} {out : Int32} (h : fX6_isStore a1 = out) : narrow .boolean (.int out) = .int out := by
  rw [← h]
  unfold fX6_isStore
  repeat (first | rfl | exact zX1_isOpenAcross rfl | exact zX5_isOpenAt rfl | exact zX6_isWithin rfl | (simp only [lt]) | split)
def fX6_isGate (a1 : Int32) : Int32 := lt (fX6_isWithin a1 ((0 : Int32)) ((3 : Int32))) (fun r1 => r1)
abbrev rmX6_isGate : Room := { frames := 1, cells := 0, slots := 0, locals := 22 }
set_option maxHeartbeats 4000000 in
set_option maxRecDepth 100000 in
theorem mX6_isGate (l : Launch) (X : kX) (a1 : Int32) (out : Int32) (hE : fX6_isGate a1 = out) : MR l yX6_isGate wsX6_isGate rmX6_isGate X [.int a1] (fun _ => True) (some (.int out)) := by
  refine mt_head (cc := cX6_isGate) (maxL := 1) (ret := (some .boolean)) (own := RX6) (by decide) rfl rfl (Nat.le_of_ble_eq_true rfl) ?_
  intro p e s m below meth c ls F hr hlocks hnm hR hl
  have hx := F.1.1
  have hb := F.1.2.1
  have hl : lv_has ls 1 [(0, .int a1)] := hl
  unfold fX6_isGate at hE
  refine lv_iload_n hx hb dX6_isGate_0 rfl (lv_at hl 0 rfl) ?_
  refine lv_iconst (v := 0) hx hb dX6_isGate_1 (by decide) ?_
  refine lv_iconst (v := 3) hx hb dX6_isGate_2 (by decide) ?_
  obtain ⟨r1, er1, hE⟩ := lt_el hE
  refine rg_callRS (As := [.int a1, .int ((0 : Int32)), .int ((3 : Int32))]) (rest := []) F (mX6_isWithin l X a1 ((0 : Int32)) ((3 : Int32)) r1 er1) (va_cwS 3 F.1.2.2.2.2 gX6_isGate_X6_isWithin rfl rfl rfl hsX6_isWithin ⟨Nat.le_of_ble_eq_true rfl, Nat.le_of_ble_eq_true rfl⟩)  trivial rfl hl.1 (Nat.le_of_ble_eq_true rfl) dX6_isGate_3 ⟨Nat.zero_le _, Nat.zero_le _⟩ rfl ?_
  subst hE
  exact W.zret (v := r1) hx hb hr (zX6_isWithin er1) (fun t ht _ => ⟨rfl, ht⟩) (fun _ h => absurd h List.not_mem_nil) dX6_isGate_6
theorem zX6_isGate {a1 : Int32} {out : Int32} (h : fX6_isGate a1 = out) : narrow .boolean (.int out) = .int out := by
  rw [← h]
  unfold fX6_isGate
  repeat (first | rfl | exact zX1_isOpenAcross rfl | exact zX5_isOpenAt rfl | exact zX6_isWithin rfl | exact zX6_isStore rfl | (simp only [lt]) | split)
set_option maxRecDepth 20000 in
theorem lkX6_isWord_0 : Cond.fieldLink RX6 10 "TideWords" "now" "LTideWords$World;" ∈ wsX6_isWord := by decide +kernel
set_option maxRecDepth 20000 in
theorem iwX6_isWord_X6 : ∀ w ∈ wsX60, w ∈ wsX6_isWord := by decide +kernel
set_option maxRecDepth 20000 in
theorem lkX6_isWord_1 : Cond.fieldLink RX6 117 "TideWords$World" "words" "LTideWords$Words;" ∈ wsX6_isWord := by decide +kernel
set_option maxRecDepth 20000 in
theorem iwX6_isWord_X5 : ∀ w ∈ wsX50, w ∈ wsX6_isWord := by decide +kernel
set_option maxRecDepth 20000 in
theorem lkX6_isWord_2 : Cond.fieldLink RX6 121 "TideWords$Words" "total" "I" ∈ wsX6_isWord := by decide +kernel
set_option maxRecDepth 20000 in
theorem iwX6_isWord_X4 : ∀ w ∈ wsX40, w ∈ wsX6_isWord := by decide +kernel
def fX6_isWord (V : Mem) (a1 : Int32) : Int32 := lt (fX6_isWithin a1 ((0 : Int32)) ((V 28 0) - ((1 : Int32)))) (fun r1 => r1)
abbrev rmX6_isWord : Room := { frames := 1, cells := 0, slots := 0, locals := 22 }
set_option maxHeartbeats 4000000 in
set_option maxRecDepth 100000 in
theorem mX6_isWord (l : Launch) (X : kX) (b : Nat) (V : Mem) (a1 : Int32) (out : Int32) (hE : fX6_isWord V a1 = out) : MR l yX6_isWord wsX6_isWord rmX6_isWord X [.ref b, .int a1] (RP X LA b V) (some (.int out)) := by
  refine mt_head (cc := cX6_isWord) (maxL := 2) (ret := (some .boolean)) (own := RX6) (by decide) rfl rfl (Nat.le_of_ble_eq_true rfl) ?_
  intro p e s m below meth c ls F hr hlocks hnm hR hl
  have hx := F.1.1
  have hb := F.1.2.1
  have hl : lv_has ls 2 [(0, .ref b), (1, .int a1)] := hl
  unfold fX6_isWord at hE
  refine lv_iload_n hx hb dX6_isWord_0 rfl (lv_at hl 1 rfl) ?_
  refine lv_iconst (v := 0) hx hb dX6_isWord_1 (by decide) ?_
  refine lv_aload_n hx hb dX6_isWord_2 rfl (lv_at hl 0 rfl) ?_
  refine rg_getr F hR 0 (ci := 6) rfl (C := RX6) (T := TX6) (N := 9) rfl iwX6_isWord_X6 0 (d := 1) (n := 1) rfl rfl (by decide) rfl lkX6_isWord_0 rfl dX6_isWord_3 ?_
  refine rg_getr F hR 1 (ci := 5) rfl (C := RX5) (T := TX5) (N := 6) rfl iwX6_isWord_X5 2 (d := 27) (n := 28) rfl rfl (by decide) rfl lkX6_isWord_1 rfl dX6_isWord_6 ?_
  refine rg_geti F hR 28 (ci := 4) rfl (C := RX4) (T := TX4) (N := 8) rfl iwX6_isWord_X4 7 (i := 0) rfl (by decide) rfl lkX6_isWord_2 rfl dX6_isWord_9 ?_
  refine lv_iconst (v := 1) hx hb dX6_isWord_12 (by decide) ?_
  refine lv_isub hx hb dX6_isWord_13 ?_
  obtain ⟨r1, er1, hE⟩ := lt_el hE
  refine rg_callRS (As := [.int a1, .int ((0 : Int32)), .int ((V 28 0) - ((1 : Int32)))]) (rest := []) F (mX6_isWithin l X a1 ((0 : Int32)) ((V 28 0) - ((1 : Int32))) r1 er1) (va_cwS 3 F.1.2.2.2.2 gX6_isWord_X6_isWithin rfl rfl rfl hsX6_isWithin ⟨Nat.le_of_ble_eq_true rfl, Nat.le_of_ble_eq_true rfl⟩)  trivial rfl hl.1 (Nat.le_of_ble_eq_true rfl) dX6_isWord_14 ⟨Nat.zero_le _, Nat.zero_le _⟩ rfl ?_
  subst hE
  exact W.zret (v := r1) hx hb hr (zX6_isWithin er1) (fun t ht _ => ⟨rfl, ht⟩) (fun _ h => absurd h List.not_mem_nil) dX6_isWord_17
theorem zX6_isWord {V : Mem} {a1 : Int32} {out : Int32} (h : fX6_isWord V a1 = out) : narrow .boolean (.int out) = .int out := by
  rw [← h]
  unfold fX6_isWord
  repeat (first | rfl | exact zX1_isOpenAcross rfl | exact zX5_isOpenAt rfl | exact zX6_isWithin rfl | exact zX6_isStore rfl | exact zX6_isGate rfl | (simp only [lt]) | split)
def fX6_codeAt (a1 : Int64) (a2 : Int32) : Int32 := (((a1.toUInt64 >>> ((((8 : Int32)) * a2).toInt64.toUInt64 &&& Int64.toUInt64 63)).toInt64).toInt32) &&& ((255 : Int32))
abbrev rmX6_codeAt : Room := { frames := 0, cells := 0, slots := 0, locals := 0 }
set_option maxHeartbeats 4000000 in
set_option maxRecDepth 100000 in
theorem mX6_codeAt (l : Launch) (X : kX) (a1 : Int64) (a2 : Int32) (out : Int32) (hE : fX6_codeAt a1 a2 = out) : MR l yX6_codeAt wsX6_codeAt rmX6_codeAt X [.long a1, .int a2] (fun _ => True) (some (.int out)) := by
  refine mt_head (cc := cX6_codeAt) (maxL := 3) (ret := (some .int)) (own := RX6) (by decide) rfl rfl (Nat.le_of_ble_eq_true rfl) ?_
  intro p e s m below meth c ls F hr hlocks hnm hR hl
  have hx := F.1.1
  have hb := F.1.2.1
  have hl : lv_has ls 3 [(0, .long a1), (2, .int a2)] := hl
  unfold fX6_codeAt at hE
  refine lv_lload_n hx hb dX6_codeAt_0 rfl (lv_at hl 0 rfl) ?_
  refine lv_bipush (v := 8) hx hb dX6_codeAt_1 (by decide) ?_
  refine lv_iload_n hx hb dX6_codeAt_3 rfl (lv_at hl 1 rfl) ?_
  refine lv_imul hx hb dX6_codeAt_4 ?_
  refine lv_lushr (v := (a1.toUInt64 >>> ((((8 : Int32)) * a2).toInt64.toUInt64 &&& Int64.toUInt64 63)).toInt64) hx hb dX6_codeAt_5 rfl ?_
  refine lv_l2i (v := ((a1.toUInt64 >>> ((((8 : Int32)) * a2).toInt64.toUInt64 &&& Int64.toUInt64 63)).toInt64).toInt32) hx hb dX6_codeAt_6 rfl ?_
  refine lv_sipush (v := 255) hx hb dX6_codeAt_7 (by decide) ?_
  refine lv_iand hx hb dX6_codeAt_10 ?_
  subst hE
  exact W.iret (v := (((a1.toUInt64 >>> ((((8 : Int32)) * a2).toInt64.toUInt64 &&& Int64.toUInt64 63)).toInt64).toInt32) &&& ((255 : Int32))) hx hb hr (fun t ht _ => ⟨rfl, ht⟩) (fun _ h => absurd h List.not_mem_nil) dX6_codeAt_11
set_option maxRecDepth 20000 in
theorem lkX6_codesIn_0 : Cond.constantLong RX6 284 (255) ∈ wsX6_codesIn := by decide +kernel
def lbX6_codesIn_8 (s1 : Int64 × Int32 × Int32) : Option ((Int64 × Int32 × Int32) ⊕ ((Int32) ⊕ (Int64 × Int32 × Int32))) := if (8 : Int32) ≤ s1.2.2 then some (.inr (.inr (s1.1, s1.2.1, s1.2.2))) else if lg_cmp s1.1 ((0 : Int64)) = 0 then some (.inr (.inr (s1.1, s1.2.1, s1.2.2))) else lt (fX6_isWithin ((s1.1 &&& ((255 : Int64))).toInt32) ((33 : Int32)) ((126 : Int32))) (fun r4 => if r4 = 0 then some (.inr (.inl ((-1002 : Int32)))) else some (.inl ((s1.1.toUInt64 >>> (((8 : Int32)).toInt64.toUInt64 &&& Int64.toUInt64 63)).toInt64, s1.2.1 + 1, s1.2.2 + 1)))
def qX6_codesIn (a1 : Int64) : Option (Int32) := (it (lbX6_codesIn_8) fuel (a1, (0 : Int32), (0 : Int32))).bind (fun x7 => Sum.elim (fun r0 => some r0) (fun s6 => if s6.2.1 = 0 then some ((-1002 : Int32)) else some (s6.2.1)) x7)
abbrev rmX6_codesIn : Room := { frames := 1, cells := 0, slots := 0, locals := 22 }
set_option maxHeartbeats 4000000 in
set_option maxRecDepth 100000 in
theorem mX6_codesIn (l : Launch) (X : kX) (a1 : Int64) (out : Int32) (hE : qX6_codesIn a1 = some out) : MR l yX6_codesIn wsX6_codesIn rmX6_codesIn X [.long a1] (fun _ => True) (some (.int out)) := by
  refine mt_head (cc := cX6_codesIn) (maxL := 6) (ret := (some .int)) (own := RX6) (by decide) rfl rfl (Nat.le_of_ble_eq_true rfl) ?_
  intro p e s m below meth c ls F hr hlocks hnm hR hl
  have hx := F.1.1
  have hb := F.1.2.1
  have hl : lv_has ls 6 [(0, .long a1)] := hl
  unfold qX6_codesIn at hE
  refine lv_lload_n hx hb dX6_codesIn_0 rfl (lv_at hl 0 rfl) ?_
  refine lv_lstore_n (lv' := [(2, .long a1), (0, .long a1)]) hx hb dX6_codesIn_1 rfl hl (by decide) rfl (fun ls hl => ?_)
  refine lv_iconst (v := 0) hx hb dX6_codesIn_2 (by decide) ?_
  refine lv_istore (lv' := [(4, .int ((0 : Int32))), (2, .long a1), (0, .long a1)]) hx hb dX6_codesIn_3 hl (by decide) rfl (fun ls hl => ?_)
  refine lv_iconst (v := 0) hx hb dX6_codesIn_5 (by decide) ?_
  refine lv_istore (lv' := [(5, .int ((0 : Int32))), (4, .int ((0 : Int32))), (2, .long a1), (0, .long a1)]) hx hb dX6_codesIn_6 hl (by decide) rfl (fun ls hl => ?_)
  obtain ⟨x7, hx7, hE⟩ := bd_el hE
  refine it_walk2 (body := lbX6_codesIn_8) (Wh := fun s1 => ∀ (ls : Array Slot), lv_has ls 6 [(5, .int s1.2.2), (4, .int s1.2.1), (2, .long s1.1), (0, .long a1)] → W p l e rmX6_codesIn s m ([.long a1] : List Value).toArray below meth c s.heap [] 0 0 (MQ below (cQr (some (.int out))) ([.long a1] : List Value).toArray s 0 0 (fun _ => False)) (F0 m 8 ls [])) (We := fun x7 => (∀ r0, x7 = .inl r0 → r0 = out) ∧ (∀ s6, x7 = .inr s6 → ∀ (ls : Array Slot), lv_has ls 6 [(5, .int s6.2.2), (4, .int s6.2.1), (2, .long s6.1), (0, .long a1)] → W p l e rmX6_codesIn s m ([.long a1] : List Value).toArray below meth c s.heap [] 0 0 (MQ below (cQr (some (.int out))) ([.long a1] : List Value).toArray s 0 0 (fun _ => False)) (F0 m 55 ls []))) ?_ _ _ _ hx7 ?_ ls (lv_sub hl [0, 1, 2, 3] rfl)
  · intro s1 r9 hE hL9 hR9 ls hl
    unfold lbX6_codesIn_8 at hE
    refine lv_iload hx hb dX6_codesIn_8 (lv_at hl 0 rfl) ?_
    refine lv_bipush (v := 8) hx hb dX6_codesIn_10 (by decide) ?_
    refine lv_icmp_ge (tgt := 55) hx hb dX6_codesIn_12 (by decide) (fun c2 => ?_) (fun c2 => ?_)
    · have hE := (if_pos c2).symm.trans hE
      cases hE
      exact (hR9 _ rfl).2 _ rfl ls (lv_sub hl [0, 1, 2, 3] rfl)
    · have hE := (if_neg c2).symm.trans hE
      refine lv_lload_n hx hb dX6_codesIn_15 rfl (lv_at hl 2 rfl) ?_
      refine lv_lconst (v := 0) hx hb dX6_codesIn_16 (by decide) ?_
      refine W.lcmp hx hb dX6_codesIn_17 ?_
      refine lv_if_eq (tgt := 55) hx hb dX6_codesIn_18 (by decide) (fun c3 => ?_) (fun c3 => ?_)
      · have hE := (if_pos c3).symm.trans hE
        cases hE
        exact (hR9 _ rfl).2 _ rfl ls (lv_sub hl [0, 1, 2, 3] rfl)
      · have hE := (if_neg c3).symm.trans hE
        refine lv_lload_n hx hb dX6_codesIn_21 rfl (lv_at hl 2 rfl) ?_
        refine lv_ldc2 (v := 255) hx hb F.1.2.2.2.1 (F.1.2.2.2.2 _ lkX6_codesIn_0) dX6_codesIn_22 ?_
        refine lv_land hx hb dX6_codesIn_25 ?_
        refine lv_l2i (v := (s1.1 &&& ((255 : Int64))).toInt32) hx hb dX6_codesIn_26 rfl ?_
        refine lv_bipush (v := 33) hx hb dX6_codesIn_27 (by decide) ?_
        refine lv_bipush (v := 126) hx hb dX6_codesIn_29 (by decide) ?_
        obtain ⟨r4, er4, hE⟩ := lt_el hE
        refine rg_callRS (As := [.int ((s1.1 &&& ((255 : Int64))).toInt32), .int ((33 : Int32)), .int ((126 : Int32))]) (rest := []) F (mX6_isWithin l X ((s1.1 &&& ((255 : Int64))).toInt32) ((33 : Int32)) ((126 : Int32)) r4 er4) (va_cwS 3 F.1.2.2.2.2 gX6_codesIn_X6_isWithin rfl rfl rfl hsX6_isWithin ⟨Nat.le_of_ble_eq_true rfl, Nat.le_of_ble_eq_true rfl⟩)  trivial rfl hl.1 (Nat.le_of_ble_eq_true rfl) dX6_codesIn_31 ⟨Nat.zero_le _, Nat.zero_le _⟩ rfl ?_
        refine lv_if_ne (tgt := 41) hx hb dX6_codesIn_34 (by decide) (fun c5 => ?_) (fun c5 => ?_)
        · have hE := (if_neg c5).symm.trans hE
          refine lv_iinc (v := s1.2.1 + 1) (lv' := [(4, .int (s1.2.1 + 1)), (5, .int s1.2.2), (2, .long s1.1), (0, .long a1)]) hx hb dX6_codesIn_41 hl (k := 1) rfl (congrArg (fun q => s1.2.1 + q) (by decide)) (by decide) rfl (fun ls hl => ?_)
          refine lv_lload_n hx hb dX6_codesIn_44 rfl (lv_at hl 2 rfl) ?_
          refine lv_bipush (v := 8) hx hb dX6_codesIn_45 (by decide) ?_
          refine lv_lushr (v := (s1.1.toUInt64 >>> (((8 : Int32)).toInt64.toUInt64 &&& Int64.toUInt64 63)).toInt64) hx hb dX6_codesIn_47 rfl ?_
          refine lv_lstore_n (lv' := [(2, .long ((s1.1.toUInt64 >>> (((8 : Int32)).toInt64.toUInt64 &&& Int64.toUInt64 63)).toInt64)), (4, .int (s1.2.1 + 1)), (5, .int s1.2.2), (0, .long a1)]) hx hb dX6_codesIn_48 rfl hl (by decide) rfl (fun ls hl => ?_)
          refine lv_iinc (v := s1.2.2 + 1) (lv' := [(5, .int (s1.2.2 + 1)), (2, .long ((s1.1.toUInt64 >>> (((8 : Int32)).toInt64.toUInt64 &&& Int64.toUInt64 63)).toInt64)), (4, .int (s1.2.1 + 1)), (0, .long a1)]) hx hb dX6_codesIn_49 hl (k := 2) rfl (congrArg (fun q => s1.2.2 + q) (by decide)) (by decide) rfl (fun ls hl => ?_)
          refine lv_goto (tgt := 8) hx hb dX6_codesIn_52 (by decide) ?_
          cases hE
          exact hL9 _ rfl ls (lv_sub hl [0, 2, 1, 3] rfl)
        · have hE := (if_pos c5).symm.trans hE
          refine lv_sipush (v := (-1002)) hx hb dX6_codesIn_37 (by decide) ?_
          cases hE
          have hE := (hR9 _ rfl).1 _ rfl
          subst hE
          exact W.iret (v := (-1002 : Int32)) hx hb hr (fun t ht _ => ⟨rfl, ht⟩) (fun _ h => absurd h List.not_mem_nil) dX6_codesIn_40
  · refine ⟨fun r0 h9 => ?_, fun s6 h9 => ?_⟩
    · subst h9
      exact Option.some.inj hE
    · subst h9
      have hE := sel_r hE
      intro ls hl
      refine lv_iload hx hb dX6_codesIn_55 (lv_at hl 1 rfl) ?_
      refine lv_if_ne (tgt := 66) hx hb dX6_codesIn_57 (by decide) (fun c8 => ?_) (fun c8 => ?_)
      · have hE := (if_neg c8).symm.trans hE
        refine lv_iload hx hb dX6_codesIn_66 (lv_at hl 1 rfl) ?_
        have hE := Option.some.inj hE
        subst hE
        exact W.iret (v := s6.2.1) hx hb hr (fun t ht _ => ⟨rfl, ht⟩) (fun _ h => absurd h List.not_mem_nil) dX6_codesIn_68
      · have hE := (if_pos c8).symm.trans hE
        refine lv_sipush (v := (-1002)) hx hb dX6_codesIn_60 (by decide) ?_
        refine lv_goto (tgt := 68) hx hb dX6_codesIn_63 (by decide) ?_
        have hE := Option.some.inj hE
        subst hE
        exact W.iret (v := (-1002 : Int32)) hx hb hr (fun t ht _ => ⟨rfl, ht⟩) (fun _ h => absurd h List.not_mem_nil) dX6_codesIn_68
/-- how many codes: k rounds left, the rest of the number, how many so far -/
def cds : Nat → Int64 → Int32 → Int32
  | 0, _, c => if c = 0 then -1002 else c
  | k + 1, r, c => if lg_cmp r ((0 : Int64)) = 0 then (if c = 0 then -1002 else c) else if fX6_isWithin ((r &&& ((255 : Int64))).toInt32) ((33 : Int32)) ((126 : Int32)) = 0 then -1002 else cds k ((r.toUInt64 >>> (((8 : Int32)).toInt64.toUInt64 &&& Int64.toUInt64 63)).toInt64) (c + 1)
def fX6_codesIn (a1 : Int64) : Int32 := cds 8 a1 0
theorem it_cds : ∀ (k : Nat) (r : Int64) (c : Int32) (i f : Nat), i + k = 8 → k < f → (it (lbX6_codesIn_8) f (r, c, nI i)).bind (fun x7 => Sum.elim (fun r0 => some r0) (fun s6 => if s6.2.1 = 0 then some ((-1002 : Int32)) else some (s6.2.1)) x7) = some (cds k r c)
  | 0, r, c, i, f, hi, hf => by
    obtain ⟨f, rfl⟩ : ∃ g, f = g + 1 := ⟨f - 1, by omega⟩
    have e : lbX6_codesIn_8 (r, c, nI i) = some (.inr (.inr (r, c, nI i))) := by
      unfold lbX6_codesIn_8
      dsimp only
      have : i = 8 := by omega
      subst this
      rw [if_pos (show (8 : Int32) ≤ nI 8 by decide +kernel)]
    show ((lbX6_codesIn_8 (r, c, nI i)).bind _).bind _ = _
    rw [e]
    show (if c = 0 then some ((-1002 : Int32)) else some c) = some (if c = 0 then -1002 else c)
    by_cases h : c = 0
    · rw [if_pos h, if_pos h]
    · rw [if_neg h, if_neg h]
  | k + 1, r, c, i, f, hi, hf => by
    obtain ⟨f, rfl⟩ : ∃ g, f = g + 1 := ⟨f - 1, by omega⟩
    have ih := it_cds k ((r.toUInt64 >>> (((8 : Int32)).toInt64.toUInt64 &&& Int64.toUInt64 63)).toInt64) (c + 1) (i + 1) f (by omega) (by omega)
    show ((lbX6_codesIn_8 (r, c, nI i)).bind _).bind _ = _
    unfold lbX6_codesIn_8 cds lt
    dsimp only
    rw [if_neg (show ¬ (8 : Int32) ≤ nI i from nI_ge (b := 8) (by omega) (by decide)), nI_1]
    by_cases h1 : lg_cmp r ((0 : Int64)) = 0
    · rw [if_pos h1, if_pos h1]
      show (if c = 0 then some ((-1002 : Int32)) else some c) = some (if c = 0 then -1002 else c)
      by_cases h : c = 0
      · rw [if_pos h, if_pos h]
      · rw [if_neg h, if_neg h]
    · rw [if_neg h1, if_neg h1]
      by_cases h2 : fX6_isWithin ((r &&& ((255 : Int64))).toInt32) ((33 : Int32)) ((126 : Int32)) = 0
      · rw [if_pos h2, if_pos h2]
        rfl
      · rw [if_neg h2, if_neg h2]
        exact ih
theorem tX6_codesIn (a1 : Int64) : qX6_codesIn a1 = some (fX6_codesIn a1) := it_cds 8 a1 0 0 fuel (by omega) (fuel_lt (by omega))

theorem kX6_codesIn (l : Launch) (X : kX) (a1 : Int64) (out : Int32) (hE : fX6_codesIn a1 = out) : MR l yX6_codesIn wsX6_codesIn rmX6_codesIn X [.long a1] (fun _ => True) (some (.int out)) := mX6_codesIn l X a1 out ((tX6_codesIn a1).trans (congrArg some hE))
