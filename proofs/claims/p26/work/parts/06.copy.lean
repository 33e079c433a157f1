section KC
variable {p : Program} {l : Launch} {e : Env} {R : Room} {s : State} {m : MethodId} {args : Array Value} {below : List Frame} {meth : Method} {c : Code} {H : Heap} {locs : List Loc} {cells slots : Nat} {Q : State → Prop}
variable {cc : ByteArray} {pc nL : Nat} {ls : Array Slot} {rest : List Value} {Ts : List Cond} {own : String} {X : kX} {L : List Kd} {b : Nat} {V : Mem} {A : Nat → Prop} {H0 : Heap} {z : Nat}
def cpv (V : Mem) (j : Nat) (f : Nat → Int32) : Mem := fun k => if k = j then f else V k
theorem rg_copyi (F : Fx p c s m args Ts own cc nL X) (hsz : ls.size = nL) (hH : Hp A H0 z X L b V H locs) (hA : ∀ q : Nat, b ≤ q → q < b + L.length → A q) {index : Nat} (hlink : Cond.methodLink own index arraycopyName ∈ Ts) (hnat : Cond.native arraycopyName ∈ Ts) (hstat : Cond.static arraycopyName ∈ Ts) (hini : Cond.initialized "java/lang/System" ∈ Ts)
    (j : Nat) {n1 : Nat} (hj : L[j]? = some (.inr (.inl (0, n1)))) {f : Nat → Int32} {n0 a0 a : Nat} (hc0 : H[a0]? = some (vp_cell X.2.1 (n0, .inl f))) (ha : a = b + j)
    {sp dp n : Int32} (h1 : ¬ sp < 0) (h2 : ¬ dp < 0) (h3 : ¬ n < 0) (h4 : sp.toNatClampNeg + n.toNatClampNeg ≤ n0) (h5 : dp.toNatClampNeg + n.toNatClampNeg ≤ n1)
    (hframes : 1 ≤ R.frames) (hlocals : (rest.map fun v => v.category).sum + (nativeFrameWords "java/lang/System" "arraycopy" 5 + 11) ≤ R.locals) (hdg : decode cc pc = .ok (.invokestatic index, 3))
    (kk : ∀ (H1 : Heap) (locs1 : List Loc), Hp A H0 z X L b (cpv V j (va_cpy f (V j) sp.toNatClampNeg dp.toNatClampNeg n.toNatClampNeg)) H1 locs1 → W p l e R s m args below meth c H1 locs1 cells slots Q (F0 m (pc + 3) ls rest)) : W p l e R s m args below meth c H locs cells slots Q (F0 m pc ls (.int n :: .int dp :: .ref a :: .int sp :: .ref a0 :: rest)) := by
  subst ha
  obtain ⟨hR, hS, hz⟩ := hH
  have hts := F.1.2.2.2.2
  have nn : ∀ z : Int32, ¬ z < 0 → z.toInt = (z.toNatClampNeg : Int) := by
    intro z hz
    have hz0 : (0 : Int) ≤ z.toInt := by
      have := Int32.not_lt.mp hz
      simpa using Int32.le_iff_toInt_le.mp this
    show z.toInt = ((z.toInt.toNat : Nat) : Int)
    omega
  intro T hT XX
  have hc1 : H[b + j]? = some (vp_cell X.2.1 (n1, .inl (V j))) := hR j _ hj
  have hAr := (F.2.2 0 _ rfl).1
  obtain ⟨-, k0, hk0, cm0, hkk0⟩ := hAr n0 (fun j => .int (f j))
  obtain ⟨-, k1, hk1, cm1, hkk1⟩ := hAr n1 (fun q => .int (V j q))
  obtain ⟨vm', X', step⟩ := XX.arraycopy F.1.1 F.1.2.2.2.1 (hts _ hlink) (hts _ hnat) (hts _ hstat) (hts _ hini) (src := a0) (dst := b + j) (cs := vp_cell X.2.1 (n0, .inl f)) (cd := vp_cell X.2.1 (n1, .inl (V j))) (srcPos := sp) (destPos := dp) (n := n) (by rw [hT]; exact hc0) (by rw [hT]; exact hc1)
    (fun _ h => by cases h) (fun _ h => by cases h) (fun h => by cases h) (fun h => by cases h) hk0 hk1 hkk0 hkk1 (by simp [refKind]) h1 h2 h3
    (by rw [nn sp h1, nn n h3]; show ¬ _ > ((arrV X.2.1 n0 (fun j => .int (f j))).slots.size : Int); rw [arrV_size]; omega)
    (by rw [nn dp h2, nn n h3]; show ¬ _ > ((arrV X.2.1 n1 (fun q => .int (V j q))).slots.size : Int); rw [arrV_size]; omega)
    (fun vm₁ _ i hi => by
      have e : (vp_cell X.2.1 (n0, .inl f)).slots.getD (sp.toNatClampNeg + i) .null = .int (f (sp.toNatClampNeg + i)) := by
        show (arrV X.2.1 n0 (fun j => .int (f j))).slots.getD _ _ = _
        rw [Array.getD_eq_getD_getElem?, arrV_read _ _ (by omega)]
        rfl
      refine ⟨?_, ?_⟩
      · rw [e]
        rfl
      · rw [e]
        exact trivial)
    (g := F0 m pc ls (.int n :: .int dp :: .ref (b + j) :: .int sp :: .ref a0 :: rest)) rfl (by rw [F.1.2.2.1]; exact hsz) (rest := rest) rfl (by rw [F.1.2.1]; exact hdg) hframes (by show 2 * 0 + _ + _ ≤ _; omega)
  have e1 : copied (vp_cell X.2.1 (n0, .inl f)) (vp_cell X.2.1 (n1, .inl (V j))) sp dp n = vp_cell X.2.1 (n1, .inl (va_cpy f (V j) sp.toNatClampNeg dp.toNatClampNeg n.toNatClampNeg)) := va_copied (fun z => .int z) X.2.1 X.2.1 f (V j) h4
  rw [e1] at X' step
  have hl : b + j < H.size := (Array.getElem?_eq_some_iff.mp hc1).1
  have hjl := (List.getElem?_eq_some_iff.mp hj).1
  have hheap : ((T.setVm vm').setCell (b + j) (vp_cell X.2.1 (n1, .inl (va_cpy f (V j) sp.toNatClampNeg dp.toNatClampNeg n.toNatClampNeg)))).heap = H.setIfInBounds (b + j) (vp_cell X.2.1 (n1, .inl (va_cpy f (V j) sp.toNatClampNeg dp.toNatClampNeg n.toNatClampNeg))) := by rw [← hT]; rfl
  have oq : ∀ q : Nat, q ≠ b + j → (H.setIfInBounds (b + j) (vp_cell X.2.1 (n1, .inl (va_cpy f (V j) sp.toNatClampNeg dp.toNatClampNeg n.toNatClampNeg))))[q]? = H[q]? := fun q hq => by simp [Array.getElem?_setIfInBounds, Ne.symm hq]
  have hAj : A (b + j) := hA _ (Nat.le_add_right _ _) (Nat.add_lt_add_left hjl _)
  obtain ⟨t, a1, b1⟩ := kk _ _ ⟨hR.set (V' := cpv V j (va_cpy f (V j) sp.toNatClampNeg dp.toNatClampNeg n.toNatClampNeg)) hj (by
      show (H.setIfInBounds (b + j) _)[b + j]? = some (vp_cell X.2.1 (n1, .inl (cpv V j _ j)))
      have : cpv V j (va_cpy f (V j) sp.toNatClampNeg dp.toNatClampNeg n.toNatClampNeg) j = va_cpy f (V j) sp.toNatClampNeg dp.toNatClampNeg n.toNatClampNeg := by simp [cpv]
      rw [this]
      simp [Array.getElem?_setIfInBounds, hl]) oq (fun i hi => by simp [cpv, hi]), ⟨by simp; exact hS.1, fun q g1 g2 => by
      rw [oq q (fun e => g2 (by rw [e]; exact hAj))]
      exact hS.2.1 q g1 g2, fun q hq => by
      rcases List.mem_append.mp hq with h | h
      · exact hS.2.2 q h
      · obtain ⟨z, -, hz⟩ := List.mem_map.mp h
        rw [← hz]
        exact hAj⟩, by simp; exact hz⟩ _ hheap X'
  exact ⟨t, step t a1, b1⟩
end KC
abbrev rmX0_copyFrom : Room := { frames := 1, cells := 0, slots := 0, locals := 60 }
set_option maxRecDepth 20000 in
theorem lkX0_copyFrom_0 : Cond.fieldLink RX0 13 "TideWords$Cells" "cells" "[I" ∈ wsX0_copyFrom := by decide +kernel
theorem iwX0_copyFrom_X0 : ∀ w ∈ wsX00, w ∈ wsX0_copyFrom := by decide +kernel
/-- a Cells takes over another's row of the same length -/
theorem mX0_copyFrom (l : Launch) (X : kX) (n : Nat) (hn0 : n < 2 ^ 31) (b b2 : Nat) (V V2 : Mem) (hdj : b + 2 ≤ b2 ∨ b2 + 2 ≤ b) : MW l yX0_copyFrom wsX0_copyFrom rmX0_copyFrom X [.ref b, .ref b2] (fun H => RP X (LC n) b V H ∧ RP X (LC n) b2 V2 H) none b (b + (LC n).length) (RP X (LC n) b V2) := by
  refine mt_head (cc := cX0_copyFrom) (maxL := 2) (ret := none) (own := RX0) (by decide) rfl rfl (Nat.le_of_ble_eq_true rfl) ?_
  intro p e s m below meth c ls F hr hlocks hnm hR hl
  have hx := F.1.1
  have hb := F.1.2.1
  obtain ⟨hR, hR2⟩ := hR
  have hH : Hp (t_fr b (b + (LC n).length)) s.heap s.heap.size X (LC n) b V s.heap [] := ⟨hR, va_S.rf, rfl⟩
  have hl : lv_has ls 2 [(0, .ref b), (1, .ref b2)] := hl
  have hnn : ¬ nI n < 0 := nI_pos hn0
  refine lv_aload_n hx hb dX0_copyFrom_0 rfl (lv_at hl 1 rfl) ?_
  refine lv_ifnull hx hb dX0_copyFrom_1 ?_
  refine lv_aload_n hx hb dX0_copyFrom_4 rfl (lv_at hl 1 rfl) ?_
  refine rg_getr F hR2 0 (ci := 0) rfl (C := RX0) (T := TX0) (N := 1) rfl iwX0_copyFrom_X0 0 (d := 1) (n := 1) rfl rfl (by decide) rfl lkX0_copyFrom_0 rfl dX0_copyFrom_5 ?_
  refine lv_iconst (v := 0) hx hb dX0_copyFrom_8 (by decide) ?_
  refine lv_aload_n hx hb dX0_copyFrom_9 rfl (lv_at hl 0 rfl) ?_
  refine rg_getr F hR 0 (ci := 0) rfl (C := RX0) (T := TX0) (N := 1) rfl iwX0_copyFrom_X0 0 (d := 1) (n := 1) rfl rfl (by decide) rfl lkX0_copyFrom_0 rfl dX0_copyFrom_10 ?_
  refine lv_iconst (v := 0) hx hb dX0_copyFrom_13 (by decide) ?_
  refine lv_aload_n hx hb dX0_copyFrom_14 rfl (lv_at hl 1 rfl) ?_
  refine rg_getr F hR2 0 (ci := 0) rfl (C := RX0) (T := TX0) (N := 1) rfl iwX0_copyFrom_X0 0 (d := 1) (n := 1) rfl rfl (by decide) rfl lkX0_copyFrom_0 rfl dX0_copyFrom_15 ?_
  refine rg_alen F hR2 1 rfl rfl dX0_copyFrom_18 ?_
  refine lv_aload_n hx hb dX0_copyFrom_19 rfl (lv_at hl 0 rfl) ?_
  refine rg_getr F hR 0 (ci := 0) rfl (C := RX0) (T := TX0) (N := 1) rfl iwX0_copyFrom_X0 0 (d := 1) (n := 1) rfl rfl (by decide) rfl lkX0_copyFrom_0 rfl dX0_copyFrom_20 ?_
  refine rg_alen F hR 1 rfl rfl dX0_copyFrom_23 ?_
  refine va_mmin hx hb (F.1.2.2.1.trans hl.1.symm) F.1.2.2.2.1 (F.1.2.2.2.2 (.methodLink RX0 19 Lib.Math.min.name) (by decide +kernel)) (F.1.2.2.2.2 (.static Lib.Math.min.name) (by decide +kernel)) (F.1.2.2.2.2 (.initialized "java/lang/Math") (by decide +kernel)) (F.1.2.2.2.2 (.code Lib.Math.min.name Lib.Math.min.code 2 (some .int)) (by decide +kernel)) (Nat.le_of_ble_eq_true rfl) (Nat.le_of_ble_eq_true rfl) (Nat.zero_le _) (Nat.zero_le _) dX0_copyFrom_24 ?_
  refine lv_nm (x' := nI n) (by split <;> rfl) ?_
  refine rg_copyi F hl.1 hH (fun q h1 h2 => ⟨h1, h2⟩) (by decide +kernel) (by decide +kernel) (by decide +kernel) (by decide +kernel) 1 (n1 := n) rfl (f := V2 1) (n0 := n) (hR2 1 _ rfl) rfl (by decide) (by decide) hnn (by rw [nI_clamp hn0]; simp) (by rw [nI_clamp hn0]; simp) (Nat.le_of_ble_eq_true rfl) (Nat.le_of_ble_eq_true rfl) dX0_copyFrom_27 (fun H locs hH => ?_)
  refine W.vret hx hb hr (fun t ht _ => ?_) hH.2.1.2.2 dX0_copyFrom_30
  refine mw_post ⟨fun j k hj => ?_, hH.2⟩ ht
  have h9 := hH.1 j k hj
  match j, hj with
  | 0, hj =>
    cases hj
    exact h9
  | 1, hj =>
    cases hj
    have e9 : va_at X.1 vwCl (b + 1, kE X (.inr (.inl (0, n))) (b + 1) (cpv V 1 (va_cpy (V2 1) (V 1) (0 : Int32).toNatClampNeg (0 : Int32).toNatClampNeg (nI n).toNatClampNeg) 1)) H := h9
    show H[b + 1]? = some (arrV X.2.1 n (fun q => .int (V2 1 q)))
    have e8 : H[b + 1]? = some (arrV X.2.1 n (fun q => .int (cpv V 1 (va_cpy (V2 1) (V 1) (0 : Int32).toNatClampNeg (0 : Int32).toNatClampNeg (nI n).toNatClampNeg) 1 q))) := e9
    rw [e8]
    unfold arrV
    congr 2
    apply Array.ext
    · simp
    · intro i h1 h2
      simp at h1
      simp [cpv, va_cpy, nI_clamp hn0, h1]
  | j + 2, hj => cases hj
