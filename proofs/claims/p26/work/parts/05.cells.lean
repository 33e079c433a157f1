set_option maxRecDepth 20000 in
theorem lkX0_get_0 : Cond.fieldLink RX0 13 "TideWords$Cells" "cells" "[I" ∈ wsX0_get := by decide +kernel
set_option maxRecDepth 20000 in
theorem iwX0_get_X0 : ∀ w ∈ wsX00, w ∈ wsX0_get := by decide +kernel
def qX0_get (n : Nat) (V : Mem) (a1 : Int32) : Option (Int32) := if a1 < 0 then some ((0 : Int32)) else if nI n ≤ a1 then some ((0 : Int32)) else if a1 < 0 ∨ n ≤ a1.toNatClampNeg then none else some (V 1 a1.toNatClampNeg)
abbrev rmX0_get : Room := { frames := 0, cells := 0, slots := 0, locals := 0 }
set_option maxHeartbeats 4000000 in
set_option maxRecDepth 100000 in
theorem mX0_get (l : Launch) (X : kX) (n : Nat) (hn0 : n < 2 ^ 31) (b : Nat) (V : Mem) (a1 : Int32) (out : Int32) (hE : qX0_get n V a1 = some out) : MR l yX0_get wsX0_get rmX0_get X [.ref b, .int a1] (RP X (LC n) b V) (some (.int out)) := by
  refine mt_head (cc := cX0_get) (maxL := 2) (ret := (some .int)) (own := RX0) (by decide) rfl rfl (Nat.le_of_ble_eq_true rfl) ?_
  intro p e s m below meth c ls F hr hlocks hnm hR hl
  have hx := F.1.1
  have hb := F.1.2.1
  have hl : lv_has ls 2 [(0, .ref b), (1, .int a1)] := hl
  unfold qX0_get at hE
  refine lv_iload_n hx hb dX0_get_0 rfl (lv_at hl 1 rfl) ?_
  refine lv_if_lt (tgt := 22) hx hb dX0_get_1 (by decide) (fun c1 => ?_) (fun c1 => ?_)
  · have hE := (if_pos c1).symm.trans hE
    refine lv_iconst (v := 0) hx hb dX0_get_22 (by decide) ?_
    have hE := Option.some.inj hE
    subst hE
    exact W.iret (v := (0 : Int32)) hx hb hr (fun t ht _ => ⟨rfl, ht⟩) (fun _ h => absurd h List.not_mem_nil) dX0_get_23
  · have hE := (if_neg c1).symm.trans hE
    refine lv_iload_n hx hb dX0_get_4 rfl (lv_at hl 1 rfl) ?_
    refine lv_aload_n hx hb dX0_get_5 rfl (lv_at hl 0 rfl) ?_
    refine rg_getr F hR 0 (ci := 0) rfl (C := RX0) (T := TX0) (N := 1) rfl iwX0_get_X0 0 (d := 1) (n := 1) rfl rfl (by decide) rfl lkX0_get_0 rfl dX0_get_6 ?_
    refine rg_alen F hR 1 rfl rfl dX0_get_9 ?_
    refine lv_icmp_ge (tgt := 22) hx hb dX0_get_10 (by decide) (fun c2 => ?_) (fun c2 => ?_)
    · have hE := (if_pos c2).symm.trans hE
      refine lv_iconst (v := 0) hx hb dX0_get_22 (by decide) ?_
      have hE := Option.some.inj hE
      subst hE
      exact W.iret (v := (0 : Int32)) hx hb hr (fun t ht _ => ⟨rfl, ht⟩) (fun _ h => absurd h List.not_mem_nil) dX0_get_23
    · have hE := (if_neg c2).symm.trans hE
      refine lv_aload_n hx hb dX0_get_13 rfl (lv_at hl 0 rfl) ?_
      refine rg_getr F hR 0 (ci := 0) rfl (C := RX0) (T := TX0) (N := 1) rfl iwX0_get_X0 0 (d := 1) (n := 1) rfl rfl (by decide) rfl lkX0_get_0 rfl dX0_get_14 ?_
      refine lv_iload_n hx hb dX0_get_17 rfl (lv_at hl 1 rfl) ?_
      obtain ⟨g3, hE⟩ := gd_el hE
      refine rg_iald F hR 1 (n := n) rfl g3 rfl dX0_get_18 ?_
      refine lv_goto (tgt := 23) hx hb dX0_get_19 (by decide) ?_
      have hE := Option.some.inj hE
      subst hE
      exact W.iret (v := V 1 a1.toNatClampNeg) hx hb hr (fun t ht _ => ⟨rfl, ht⟩) (fun _ h => absurd h List.not_mem_nil) dX0_get_23
set_option maxRecDepth 20000 in
theorem lkX0_set_0 : Cond.fieldLink RX0 13 "TideWords$Cells" "cells" "[I" ∈ wsX0_set := by decide +kernel
set_option maxRecDepth 20000 in
theorem iwX0_set_X0 : ∀ w ∈ wsX00, w ∈ wsX0_set := by decide +kernel
def qX0_set (n : Nat) (V : Mem) (a1 : Int32) (a2 : Int32) : Option (Mem) := if a1 < 0 then some (V) else if nI n ≤ a1 then some (V) else if a1 < 0 ∨ n ≤ a1.toNatClampNeg then none else lt (sv V 1 a1.toNatClampNeg a2) (fun V4 => some (V4))
abbrev rmX0_set : Room := { frames := 0, cells := 0, slots := 0, locals := 0 }
set_option maxHeartbeats 4000000 in
set_option maxRecDepth 100000 in
theorem mX0_set (l : Launch) (X : kX) (n : Nat) (hn0 : n < 2 ^ 31) (b : Nat) (V : Mem) (a1 : Int32) (a2 : Int32) (out : Mem) (hE : qX0_set n V a1 a2 = some out) : MW l yX0_set wsX0_set rmX0_set X [.ref b, .int a1, .int a2] (RP X (LC n) b V) (none) b (b + (LC n).length) (RP X (LC n) b out) := by
  refine mt_head (cc := cX0_set) (maxL := 3) (ret := none) (own := RX0) (by decide) rfl rfl (Nat.le_of_ble_eq_true rfl) ?_
  intro p e s m below meth c ls F hr hlocks hnm hR hl
  have hx := F.1.1
  have hb := F.1.2.1
  have hH : Hp (t_fr b (b + (LC n).length)) s.heap s.heap.size X (LC n) b V s.heap [] := ⟨hR, va_S.rf, rfl⟩
  have hl : lv_has ls 3 [(0, .ref b), (1, .int a1), (2, .int a2)] := hl
  unfold qX0_set at hE
  refine lv_iload_n hx hb dX0_set_0 rfl (lv_at hl 1 rfl) ?_
  refine lv_if_lt (tgt := 20) hx hb dX0_set_1 (by decide) (fun c1 => ?_) (fun c1 => ?_)
  · have hE := (if_pos c1).symm.trans hE
    have hE := Option.some.inj hE
    subst hE
    exact W.vret hx hb hr (fun t ht _ => mw_post hH ht) hH.2.1.2.2 dX0_set_20
  · have hE := (if_neg c1).symm.trans hE
    refine lv_iload_n hx hb dX0_set_4 rfl (lv_at hl 1 rfl) ?_
    refine lv_aload_n hx hb dX0_set_5 rfl (lv_at hl 0 rfl) ?_
    refine rg_getr F hH.1 0 (ci := 0) rfl (C := RX0) (T := TX0) (N := 1) rfl iwX0_set_X0 0 (d := 1) (n := 1) rfl rfl (by decide) rfl lkX0_set_0 rfl dX0_set_6 ?_
    refine rg_alen F hH.1 1 rfl rfl dX0_set_9 ?_
    refine lv_icmp_ge (tgt := 20) hx hb dX0_set_10 (by decide) (fun c2 => ?_) (fun c2 => ?_)
    · have hE := (if_pos c2).symm.trans hE
      have hE := Option.some.inj hE
      subst hE
      exact W.vret hx hb hr (fun t ht _ => mw_post hH ht) hH.2.1.2.2 dX0_set_20
    · have hE := (if_neg c2).symm.trans hE
      refine lv_aload_n hx hb dX0_set_13 rfl (lv_at hl 0 rfl) ?_
      refine rg_getr F hH.1 0 (ci := 0) rfl (C := RX0) (T := TX0) (N := 1) rfl iwX0_set_X0 0 (d := 1) (n := 1) rfl rfl (by decide) rfl lkX0_set_0 rfl dX0_set_14 ?_
      refine lv_iload_n hx hb dX0_set_17 rfl (lv_at hl 1 rfl) ?_
      refine lv_iload_n hx hb dX0_set_18 rfl (lv_at hl 2 rfl) ?_
      obtain ⟨g3, hE⟩ := gd_el hE
      obtain ⟨V4, eV4, hE⟩ := lt_el hE
      refine rg_iast F hH (fun q h1 h2 => ⟨h1, h2⟩) 1 (n := n) rfl g3 rfl dX0_set_19 (fun H locs hH => ?_)
      replace hH := hp_cast eV4 hH
      have hE := Option.some.inj hE
      subst hE
      exact W.vret hx hb hr (fun t ht _ => mw_post hH ht) hH.2.1.2.2 dX0_set_20
set_option maxRecDepth 20000 in
theorem lkX0_add_0 : Cond.fieldLink RX0 13 "TideWords$Cells" "cells" "[I" ∈ wsX0_add := by decide +kernel
set_option maxRecDepth 20000 in
theorem iwX0_add_X0 : ∀ w ∈ wsX00, w ∈ wsX0_add := by decide +kernel
def qX0_add (n : Nat) (V : Mem) (a1 : Int32) (a2 : Int32) : Option (Mem) := if a1 < 0 then some (V) else if nI n ≤ a1 then some (V) else if a1 < 0 ∨ n ≤ a1.toNatClampNeg then none else lt (sv V 1 a1.toNatClampNeg ((V 1 a1.toNatClampNeg) + a2)) (fun V4 => some (V4))
abbrev rmX0_add : Room := { frames := 0, cells := 0, slots := 0, locals := 0 }
set_option maxHeartbeats 4000000 in
set_option maxRecDepth 100000 in
theorem mX0_add (l : Launch) (X : kX) (n : Nat) (hn0 : n < 2 ^ 31) (b : Nat) (V : Mem) (a1 : Int32) (a2 : Int32) (out : Mem) (hE : qX0_add n V a1 a2 = some out) : MW l yX0_add wsX0_add rmX0_add X [.ref b, .int a1, .int a2] (RP X (LC n) b V) (none) b (b + (LC n).length) (RP X (LC n) b out) := by
  refine mt_head (cc := cX0_add) (maxL := 3) (ret := none) (own := RX0) (by decide) rfl rfl (Nat.le_of_ble_eq_true rfl) ?_
  intro p e s m below meth c ls F hr hlocks hnm hR hl
  have hx := F.1.1
  have hb := F.1.2.1
  have hH : Hp (t_fr b (b + (LC n).length)) s.heap s.heap.size X (LC n) b V s.heap [] := ⟨hR, va_S.rf, rfl⟩
  have hl : lv_has ls 3 [(0, .ref b), (1, .int a1), (2, .int a2)] := hl
  unfold qX0_add at hE
  refine lv_iload_n hx hb dX0_add_0 rfl (lv_at hl 1 rfl) ?_
  refine lv_if_lt (tgt := 23) hx hb dX0_add_1 (by decide) (fun c1 => ?_) (fun c1 => ?_)
  · have hE := (if_pos c1).symm.trans hE
    have hE := Option.some.inj hE
    subst hE
    exact W.vret hx hb hr (fun t ht _ => mw_post hH ht) hH.2.1.2.2 dX0_add_23
  · have hE := (if_neg c1).symm.trans hE
    refine lv_iload_n hx hb dX0_add_4 rfl (lv_at hl 1 rfl) ?_
    refine lv_aload_n hx hb dX0_add_5 rfl (lv_at hl 0 rfl) ?_
    refine rg_getr F hH.1 0 (ci := 0) rfl (C := RX0) (T := TX0) (N := 1) rfl iwX0_add_X0 0 (d := 1) (n := 1) rfl rfl (by decide) rfl lkX0_add_0 rfl dX0_add_6 ?_
    refine rg_alen F hH.1 1 rfl rfl dX0_add_9 ?_
    refine lv_icmp_ge (tgt := 23) hx hb dX0_add_10 (by decide) (fun c2 => ?_) (fun c2 => ?_)
    · have hE := (if_pos c2).symm.trans hE
      have hE := Option.some.inj hE
      subst hE
      exact W.vret hx hb hr (fun t ht _ => mw_post hH ht) hH.2.1.2.2 dX0_add_23
    · have hE := (if_neg c2).symm.trans hE
      refine lv_aload_n hx hb dX0_add_13 rfl (lv_at hl 0 rfl) ?_
      refine rg_getr F hH.1 0 (ci := 0) rfl (C := RX0) (T := TX0) (N := 1) rfl iwX0_add_X0 0 (d := 1) (n := 1) rfl rfl (by decide) rfl lkX0_add_0 rfl dX0_add_14 ?_
      refine lv_iload_n hx hb dX0_add_17 rfl (lv_at hl 1 rfl) ?_
      refine lv_dup2_11 hx hb dX0_add_18 rfl rfl ?_
      obtain ⟨g3, hE⟩ := gd_el hE
      refine rg_iald F hH.1 1 (n := n) rfl g3 rfl dX0_add_19 ?_
      refine lv_iload_n hx hb dX0_add_20 rfl (lv_at hl 2 rfl) ?_
      refine lv_iadd hx hb dX0_add_21 ?_
      obtain ⟨V4, eV4, hE⟩ := lt_el hE
      refine rg_iast F hH (fun q h1 h2 => ⟨h1, h2⟩) 1 (n := n) rfl g3 rfl dX0_add_22 (fun H locs hH => ?_)
      replace hH := hp_cast eV4 hH
      have hE := Option.some.inj hE
      subst hE
      exact W.vret hx hb hr (fun t ht _ => mw_post hH ht) hH.2.1.2.2 dX0_add_23
set_option maxRecDepth 20000 in
theorem lkX0_sum_0 : Cond.fieldLink RX0 13 "TideWords$Cells" "cells" "[I" ∈ wsX0_sum := by decide +kernel
set_option maxRecDepth 20000 in
theorem iwX0_sum_X0 : ∀ w ∈ wsX00, w ∈ wsX0_sum := by decide +kernel
def lbX0_sum_4 (n : Nat) (V : Mem) (s1 : Int32 × Int32) : Option ((Int32 × Int32) ⊕ (Int32 × Int32)) := if nI n ≤ s1.2 then some (.inr (s1.1, s1.2)) else if s1.2 < 0 ∨ n ≤ s1.2.toNatClampNeg then none else some (.inl (s1.1 + (V 1 s1.2.toNatClampNeg), s1.2 + 1))
def qX0_sum (n : Nat) (V : Mem) : Option (Int32) := (it (lbX0_sum_4 n V) fuel ((0 : Int32), (0 : Int32))).bind (fun s4 => some (s4.1))
abbrev rmX0_sum : Room := { frames := 0, cells := 0, slots := 0, locals := 0 }
set_option maxHeartbeats 4000000 in
set_option maxRecDepth 100000 in
theorem mX0_sum (l : Launch) (X : kX) (n : Nat) (hn0 : n < 2 ^ 31) (b : Nat) (V : Mem) (out : Int32) (hE : qX0_sum n V = some out) : MR l yX0_sum wsX0_sum rmX0_sum X [.ref b] (RP X (LC n) b V) (some (.int out)) := by
  refine mt_head (cc := cX0_sum) (maxL := 3) (ret := (some .int)) (own := RX0) (by decide) rfl rfl (Nat.le_of_ble_eq_true rfl) ?_
  intro p e s m below meth c ls F hr hlocks hnm hR hl
  have hx := F.1.1
  have hb := F.1.2.1
  have hl : lv_has ls 3 [(0, .ref b)] := hl
  unfold qX0_sum at hE
  refine lv_iconst (v := 0) hx hb dX0_sum_0 (by decide) ?_
  refine lv_istore_n (lv' := [(1, .int ((0 : Int32))), (0, .ref b)]) hx hb dX0_sum_1 rfl hl (by decide) rfl (fun ls hl => ?_)
  refine lv_iconst (v := 0) hx hb dX0_sum_2 (by decide) ?_
  refine lv_istore_n (lv' := [(2, .int ((0 : Int32))), (1, .int ((0 : Int32))), (0, .ref b)]) hx hb dX0_sum_3 rfl hl (by decide) rfl (fun ls hl => ?_)
  obtain ⟨x5, hx5, hE⟩ := bd_el hE
  refine it_walk2 (body := lbX0_sum_4 n V) (Wh := fun s1 => ∀ (ls : Array Slot), lv_has ls 3 [(2, .int s1.2), (1, .int s1.1), (0, .ref b)] → W p l e rmX0_sum s m ([.ref b] : List Value).toArray below meth c s.heap [] 0 0 (MQ below (cQr (some (.int out))) ([.ref b] : List Value).toArray s 0 0 (fun _ => False)) (F0 m 4 ls [])) (We := fun s4 => ∀ (ls : Array Slot), lv_has ls 3 [(2, .int s4.2), (1, .int s4.1), (0, .ref b)] → W p l e rmX0_sum s m ([.ref b] : List Value).toArray below meth c s.heap [] 0 0 (MQ below (cQr (some (.int out))) ([.ref b] : List Value).toArray s 0 0 (fun _ => False)) (F0 m 28 ls [])) ?_ _ _ _ hx5 ?_ ls (lv_sub hl [0, 1, 2] rfl)
  · intro s1 r9 hE hL9 hR9 ls hl
    unfold lbX0_sum_4 at hE
    refine lv_iload_n hx hb dX0_sum_4 rfl (lv_at hl 0 rfl) ?_
    refine lv_aload_n hx hb dX0_sum_5 rfl (lv_at hl 2 rfl) ?_
    refine rg_getr F hR 0 (ci := 0) rfl (C := RX0) (T := TX0) (N := 1) rfl iwX0_sum_X0 0 (d := 1) (n := 1) rfl rfl (by decide) rfl lkX0_sum_0 rfl dX0_sum_6 ?_
    refine rg_alen F hR 1 rfl rfl dX0_sum_9 ?_
    refine lv_icmp_ge (tgt := 28) hx hb dX0_sum_10 (by decide) (fun c2 => ?_) (fun c2 => ?_)
    · have hE := (if_pos c2).symm.trans hE
      cases hE
      exact hR9 _ rfl ls (lv_sub hl [0, 1, 2] rfl)
    · have hE := (if_neg c2).symm.trans hE
      refine lv_iload_n hx hb dX0_sum_13 rfl (lv_at hl 1 rfl) ?_
      refine lv_aload_n hx hb dX0_sum_14 rfl (lv_at hl 2 rfl) ?_
      refine rg_getr F hR 0 (ci := 0) rfl (C := RX0) (T := TX0) (N := 1) rfl iwX0_sum_X0 0 (d := 1) (n := 1) rfl rfl (by decide) rfl lkX0_sum_0 rfl dX0_sum_15 ?_
      refine lv_iload_n hx hb dX0_sum_18 rfl (lv_at hl 0 rfl) ?_
      obtain ⟨g3, hE⟩ := gd_el hE
      refine rg_iald F hR 1 (n := n) rfl g3 rfl dX0_sum_19 ?_
      refine lv_iadd hx hb dX0_sum_20 ?_
      refine lv_istore_n (lv' := [(1, .int (s1.1 + (V 1 s1.2.toNatClampNeg))), (2, .int s1.2), (0, .ref b)]) hx hb dX0_sum_21 rfl hl (by decide) rfl (fun ls hl => ?_)
      refine lv_iinc (v := s1.2 + 1) (lv' := [(2, .int (s1.2 + 1)), (1, .int (s1.1 + (V 1 s1.2.toNatClampNeg))), (0, .ref b)]) hx hb dX0_sum_22 hl (k := 1) rfl (congrArg (fun q => s1.2 + q) (by decide)) (by decide) rfl (fun ls hl => ?_)
      refine lv_goto (tgt := 4) hx hb dX0_sum_25 (by decide) ?_
      cases hE
      exact hL9 _ rfl ls (lv_sub hl [0, 1, 2] rfl)
  · intro ls hl
    refine lv_iload_n hx hb dX0_sum_28 rfl (lv_at hl 1 rfl) ?_
    have hE := Option.some.inj hE
    subst hE
    exact W.iret (v := x5.1) hx hb hr (fun t ht _ => ⟨rfl, ht⟩) (fun _ h => absurd h List.not_mem_nil) dX0_sum_29
