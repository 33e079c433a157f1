/-! what constructors do: a region that grows at its end -/
def zM : Mem := fun _ _ => 0
def cQn (X : kX) (lo : Nat) (LK : List Kd) (V1 : Mem) : Array Value → State → Outcome → State → Prop := fun _ st o t => o = .returned none ∧ RP X LK lo V1 t.heap ∧ t.heap.size = lo + LK.length ∧ ∀ q : Nat, q < lo → t.heap[q]? = st.heap[q]?
abbrev cPn (X : kX) (av : List Value) (lo : Nat) (k0 : Kd) : Array Value → State → Prop := cPc X av (fun H => RP X [k0] lo zM H ∧ H.size = lo + 1)
abbrev MC (l : Launch) (y : MethodName) (ws : List Cond) (rm : Room) (X : kX) (av : List Value) (lo : Nat) (k0 : Kd) (LK : List Kd) (V1 : Mem) (mc ms : Nat) : Prop := Met l y ws rm (cPn X av lo k0) (cQn X lo LK V1) mc ms (fun q => lo ≤ q)
theorem RP.one {X : kX} {k : Kd} {b : Nat} {V : Mem} {H : Heap} (h : va_at X.1 vwCl (b, kE X k b (V 0)) H) : RP X [k] b V H := by
  intro j k' hj
  cases j with
  | zero =>
    rw [List.getElem?_cons_zero] at hj
    cases hj
    exact h
  | succ j =>
    rw [List.getElem?_cons_succ] at hj
    cases hj
theorem RP.push {X : kX} {L LK : List Kd} {b n : Nat} {V U : Mem} {H H1 : Heap} (h : RP X L b V H) (hL : L.length = n) (h1 : RP X LK (b + n) U H1) (ho : ∀ q : Nat, q < b + n → H1[q]? = H[q]?) : RP X (L ++ LK) b (pv V n LK.length U) H1 := by
  intro j k hj
  rcases Nat.lt_or_ge j n with hl | hl
  · rw [List.getElem?_append_left (by omega)] at hj
    have e : pv V n LK.length U j = V j := by unfold pv; rw [if_neg (fun c => by omega)]
    rw [e]
    exact (h j k hj).kept (ho _ (by show b + j < b + n; omega))
  · rw [List.getElem?_append_right (by omega), hL] at hj
    have hl2 := (List.getElem?_eq_some_iff.mp hj).1
    have e : pv V n LK.length U j = U (j - n) := by unfold pv; rw [if_pos (by omega)]
    have h2 := h1 (j - n) k hj
    rw [show b + n + (j - n) = b + j by omega] at h2
    rw [e]
    exact h2
theorem hp_L {A : Nat → Prop} {H0 H : Heap} {z b : Nat} {X : kX} {L L' : List Kd} {V : Mem} {locs : List Loc} (h : Hp A H0 z X L b V H locs) (e : L = L') : Hp A H0 z X L' b V H locs := e ▸ h
section KN
variable {p : Program} {l : Launch} {e : Env} {R : Room} {s : State} {m : MethodId} {args : Array Value} {below : List Frame} {meth : Method} {c : Code} {H : Heap} {locs : List Loc} {cells slots : Nat} {Q : State → Prop}
variable {cc : ByteArray} {pc nL : Nat} {ls : Array Slot} {rest : List Value} {Ts : List Cond} {own : String} {X : kX} {L Lr : List Kd} {b n : Nat} {V : Mem} {A : Nat → Prop} {H0 : Heap} {z : Nat}
theorem rg_new (F : Fx p c s m args Ts own cc nL X) (hH : Hp A H0 (b + n) X L b V H locs) {C : String} {T : u_T} {N ci index : Nat} (hin : ∀ w ∈ u_ws C T N, w ∈ Ts) (ty : Nat → FieldType) (hty : ∀ k, k < N → parseFieldDescriptor (T k).2.2.1 = some (ty k)) (hcl : Cond.classLink own index C ∈ Ts) (hinst : Cond.instantiable C N ∈ Ts) (hini : Cond.initialized C ∈ Ts) (hc : vwCl[ci]? = some (C, T, N)) {fl : List Kf} (hfs : ∀ j, j < N → defaultValue (ty j) = vp_V (fl.map (kFv (b + n) (fun _ => 0))) j) (hcells : cells + 1 ≤ R.cells) (hslots : slots + N ≤ R.slots) (hdg : decode cc pc = .ok (.new index, 3))
    (kk : ∀ H1 : Heap, Hp A H0 (b + n + 1) X L b V H1 locs → RP X [.inl (ci, fl)] (b + n) zM H1 → W p l e R s m args below meth c H1 locs (cells + 1) (slots + N) Q (F0 m (pc + 3) ls (.ref (b + n) :: rest))) : W p l e R s m args below meth c H locs cells slots Q (F0 m pc ls rest) := by
  obtain ⟨hR, hS, hz⟩ := hH
  have hts := F.1.2.2.2.2
  have hKn := F.2.1 ci _ hc
  refine W.newcK F.1.1 F.1.2.1 F.1.2.2.2.1 (hts _ hcl) (hts _ hinst) (hts _ hini) rfl hdg hcells hslots hKn.2.1 hz fun H1 kC hkC e1 z1 o1 => ?_
  have hlt : ∀ (j : Nat) (k : Kd), L[j]? = some k → b + j < b + n := fun j k hj => by
    have := (hR j k hj).lt
    rw [hz] at this
    exact this
  refine kk H1 ⟨fun j k hj => (hR j k hj).kept (o1 _ (hlt j k hj)), ⟨by rw [z1]; have := hS.1; omega, fun q h1 h2 => (o1 q (by have := hS.1; omega)).trans (hS.2.1 q h1 h2), hS.2.2⟩, z1⟩ (RP.one ?_)
  exact ⟨_, hc, (u_born ty hts hin hKn hkC e1 hty).to hfs⟩
theorem rg_newarr (F : Fx p c s m args Ts own cc nL X) (hH : Hp A H0 (b + n) X L b V H locs) (hL : L.length = n) (harr : Cond.arrayClass .int ∈ Ts) {i : Int32} {N : Nat} (hi : ¬ i < 0) (hN : i.toNatClampNeg = N) (hbytes : N * componentBytes .int ≤ 536870912) (hcells : cells + 1 ≤ R.cells) (hslots : slots + N ≤ R.slots) (hdg : decode cc pc = .ok (.newarray .int, 2))
    (kk : ∀ H1 : Heap, Hp A H0 (b + n + 1) X (L ++ [.inr (.inl (0, N))]) b (pv V n 1 zM) H1 locs → W p l e R s m args below meth c H1 locs (cells + 1) (slots + N) Q (F0 m (pc + 2) ls (.ref (b + n) :: rest))) : W p l e R s m args below meth c H locs cells slots Q (F0 m pc ls (.int i :: rest)) := by
  obtain ⟨hR, hS, hz⟩ := hH
  have hts := F.1.2.2.2.2
  refine va_newaK (atype := .int) F.1.1 F.1.2.1 (hts _ harr) rfl hdg rfl hi hN hbytes hcells hslots hz fun H1 cA e1 z1 o1 _ hNm => ?_
  have hcA : cA = X.2.1 := Option.some.inj (hNm.symm.trans (F.2.2 0 _ rfl).2)
  subst hcA
  refine kk H1 ⟨hR.push hL (RP.one ?_) o1, ⟨by rw [z1]; have := hS.1; omega, fun q h1 h2 => (o1 q (by have := hS.1; omega)).trans (hS.2.1 q h1 h2), hS.2.2⟩, z1⟩
  exact e1
theorem rg_newarrq (F : Fx p c s m args Ts own cc nL X) (hH : Hp A H0 (b + n) X L b V H locs) (hL : L.length = n) {index : Nat} (hcl : Cond.classLink own index "TideWords$World" ∈ Ts) (hover : va_AO "TideWords$World" s) {i : Int32} {N : Nat} (hi : ¬ i < 0) (hN : i.toNatClampNeg = N) (hbytes : N * 4 ≤ 536870912) (hcells : cells + 1 ≤ R.cells) (hslots : slots + N ≤ R.slots) (hdg : decode cc pc = .ok (.anewarray index, 3))
    (kk : ∀ H1 : Heap, Hp A H0 (b + n + 1) X (L ++ [.inr (.inr (List.replicate N none))]) b (pv V n 1 zM) H1 locs → W p l e R s m args below meth c H1 locs (cells + 1) (slots + N) Q (F0 m (pc + 3) ls (.ref (b + n) :: rest))) : W p l e R s m args below meth c H locs cells slots Q (F0 m pc ls (.int i :: rest)) := by
  obtain ⟨hR, hS, hz⟩ := hH
  have hts := F.1.2.2.2.2
  subst hN
  refine W.anew F.1.1 F.1.2.1 F.1.2.2.2.1 (hts _ hcl) (va_AO.use hover) rfl hdg rfl hi hbytes hcells hslots fun cA kA comp f1 f2 f3 f4 => ?_
  obtain ⟨kA', comp', g1, g2, g3, g4⟩ := (F.2.2 2 _ rfl).2
  have hcA : cA = X.2.2.2 := Option.some.inj (f1.symm.trans g4)
  subst hcA
  generalize hH1 : H.push ({ cls := X.2.2.2, slots := Array.replicate i.toNatClampNeg .null, vm := .none } : Cell) = H1
  have z1 : H1.size = b + n + 1 := by rw [← hH1, Array.size_push, hz]
  have e1 : H1[b + n]? = some (arrV X.2.2.2 i.toNatClampNeg (fun _ => .null)) := by rw [← hH1, ← hz, Array.getElem?_push_size, ← arrV_new]
  have o1 : ∀ q : Nat, q < b + n → H1[q]? = H[q]? := fun q hq => by rw [← hH1, Array.getElem?_push, if_neg (by omega)]
  rw [hz]
  refine kk H1 ⟨hR.push hL (RP.one ?_) o1, ⟨by rw [z1]; have := hS.1; omega, fun q h1 h2 => (o1 q (by have := hS.1; omega)).trans (hS.2.1 q h1 h2), hS.2.2⟩, z1⟩
  show H1[b + n]? = some (vp_cell X.2.2.2 ((List.replicate i.toNatClampNeg none).length, .inr (.inr (.inr (.inr (fun j => ((List.replicate i.toNatClampNeg none).getD j none).map (fun d => b + n + d)))))))
  have e2 : (fun j => (((List.replicate i.toNatClampNeg (none : Option Nat)).getD j none).map (fun d => b + n + d))) = fun _ => none := by
    funext j
    rw [List.getD_eq_getElem?_getD, List.getElem?_replicate]
    by_cases h : j < i.toNatClampNeg
    · rw [if_pos h]
      rfl
    · rw [if_neg h]
      rfl
  rw [e2, List.length_replicate]
  exact e1
theorem rg_putF {ci : Nat} {fl : List Kf} (F : Fx p c s m args Ts own cc nL X) (hH : Hp A H0 z X (.inl (ci, fl) :: Lr) b V H locs) (hA : ∀ q : Nat, b ≤ q → A q) {C : String} {T : u_T} {N : Nat} (hc : vwCl[ci]? = some (C, T, N)) (hin : ∀ w ∈ u_ws C T N, w ∈ Ts) (ty0 : Nat → FieldType) (hty : ∀ k, k < N → parseFieldDescriptor (T k).2.2.1 = some (ty0 k)) (hnm : ∀ a, a < N → ∀ b, b < N → a ≠ b → (T a).2.1 ≠ (T b).2.1)
    (k : Nat) (hkl : k < fl.length) {index : Nat} (hk : k < N) (hown : (T k).1 = C) (hfin : (T k).2.2.2 = true) (hin2 : meth.name = "<init>") (hdecl : C = own) {ty : FieldType} {a d : Nat} (hd : parseFieldDescriptor (T k).2.2.1 = some ty) (hn : narrow ty (.ref a) = .ref a) (hfit : fits ty (.ref a) = true) (hlink : Cond.fieldLink own index C (T k).2.1 (T k).2.2.1 ∈ Ts) (ha : a = b + d) (hdg : decode cc pc = .ok (.putfield index, 3))
    (kk : ∀ (H1 : Heap) (locs1 : List Loc), Hp A H0 z X (.inl (ci, fl.set k (some (.inl d))) :: Lr) b V H1 locs1 → W p l e R s m args below meth c H1 locs1 cells slots Q (F0 m (pc + 3) ls rest)) : W p l e R s m args below meth c H locs cells slots Q (F0 m pc ls (.ref a :: .ref b :: rest)) := by
  subst ha
  obtain ⟨hR, hS0, hz⟩ := hH
  have hts := F.1.2.2.2.2
  have hK := F.2
  have hown' := F.1.2.2.2.1
  have hap := va_apart (own := own) hts hin ty0 hty hnm hK hc
  have h00 := hR 0 _ rfl
  obtain ⟨r, h1, cell, q1, q2, q3, q4⟩ := h00
  have hr : r = (C, T, N) := Option.some.inj (h1.symm.trans hc)
  subst hr
  obtain ⟨hSl, hfc, kC, hkC, hkind⟩ := hK.1 ci _ hc
  obtain ⟨cf, kf, fi, f, hi, hsl⟩ := hSl k hk
  have hlay := hts _ (hin _ (u_in_lay hk))
  unfold u_lay at hlay
  rw [if_pos hfin] at hlay
  have hst := (u_facts hfc hkC (u_lays hts hin hk) hi).1
  have hcf : m.cls = cf := by
    obtain ⟨_, _, c', _, _, _, -, -, hf', -, -, -, hown2, -⟩ := Cond.laysFinal_spec hlay
    have e1 : c' = cf := by have := hi.symm.trans hf'; simp at this; exact this.1.symm
    rw [hown, hdecl] at hown2
    rw [← e1]; exact Option.some.inj (hown'.symm.trans hown2)
  have h6 := u_fits (v := .ref (b + d)) hfc hkC hkind (Or.inr hlay) hi hd hn hfit
  refine W.putFinK F.1.1 F.1.2.1 (f := f) (v := .ref (b + d)) (a := b) hown' (hts _ hlink) (by rw [hown] at hi; exact hi) hst hcf hin2 (by rw [q2]; exact h6) q1 q3 (by rw [hsl]; exact k2_hasslot (q4 k hk)) rfl rfl hdg fun H' e1 e2 e3 => ?_
  rw [hsl] at e1 ⊢
  refine kk H' _ ⟨fun j kd hj => ?_, hS0.put e2 e3 (hA _ (Nat.le_refl _)), e2.trans hz⟩
  cases j with
  | zero =>
    rw [List.getElem?_cons_zero] at hj
    cases hj
    refine ⟨_, hc, t_OB.to (V := updV (vp_V (fl.map (kFv (b + 0) (V 0)))) k (.ref (b + d))) ⟨_, e1, q2, q3, t_set q4 hap hk (.ref (b + d))⟩ fun j' hj' => ?_⟩
    show updV (vp_V (fl.map (kFv b (V 0)))) k (.ref (b + d)) j' = vp_V ((fl.set k (some (.inl d))).map (kFv b (V 0))) j'
    rw [List.map_set]
    exact vp_updV_set (by rw [List.length_map]; exact hkl) (.ref (b + d)) j'
  | succ j =>
    rw [List.getElem?_cons_succ] at hj
    exact (hR (j + 1) kd hj).kept (e3 _ (by show b + (j + 1) ≠ b; omega))
theorem rg_aast (F : Fx p c s m args Ts own cc nL X) (hH : Hp A H0 z X L b V H locs) (hA : ∀ q : Nat, b ≤ q → A q) (j : Nat) {ds : List (Option Nat)} (hj : L[j]? = some (.inr (.inr ds))) (qd : Nat) {fl : List Kf} (hq : L[qd]? = some (.inl (5, fl))) {d : Nat} (hd : j + d = qd) {i : Int32} {k : Nat} (hi : ¬ i < 0) (hik : i.toNatClampNeg = k) (hkl : k < ds.length) {a v : Nat} (ha : a = b + j) (hv : v = b + qd) (hdg : decode cc pc = .ok (.aastore, 1))
    (kk : ∀ (H1 : Heap) (locs1 : List Loc), Hp A H0 z X (L.set j (.inr (.inr (ds.set k (some d))))) b V H1 locs1 → W p l e R s m args below meth c H1 locs1 cells slots Q (F0 m (pc + 1) ls rest)) : W p l e R s m args below meth c H locs cells slots Q (F0 m pc ls (.ref v :: .int i :: .ref a :: rest)) := by
  subst ha
  subst hv
  subst hik
  obtain ⟨hR, hS, hz⟩ := hH
  have hK := F.2
  obtain ⟨r', hr', cellV, g1, g2, g3, -⟩ := hR qd _ hq
  have hc : vwCl[5]? = some (RX5, TX5, 6) := rfl
  have hcls := (hK.1 5 _ hc).2
  obtain ⟨kA, comp, k1, k2, k3, -⟩ := (hK.2 2 _ rfl).2
  have hcomp : comp = X.1.1 5 := Option.some.inj (k3.symm.trans hcls.1)
  subst hcomp
  obtain ⟨kC, hkC, -⟩ := hcls.2
  have hcj : H[b + j]? = some (vp_cell X.2.2.2 (ds.length, .inr (.inr (.inr (.inr (fun q => (ds.getD q none).map (fun d => b + j + d))))))) := hR j _ hj
  have hjl := (List.getElem?_eq_some_iff.mp hj).1
  refine W.aast F.1.1 F.1.2.1 hcj (fun q h => by cases h) (fun h => by cases h) k1 k2 rfl hkC ⟨hi, by show _ < (arrV _ _ _).slots.size; rw [arrV_size]; exact hkl⟩ g1 (fun q h => by rw [g3] at h; cases h) (by rw [g2]; exact hkC) (by rw [g2]; exact va_assign hcls) rfl rfl hdg fun H1 e z1 oq => ?_
  refine kk H1 _ ⟨fun q kd hqd => ?_, hS.put z1 oq (hA _ (Nat.le_add_right _ _)), z1.trans hz⟩
  by_cases hqj : q = j
  · subst hqj
    rw [List.getElem?_set_self hjl] at hqd
    cases hqd
    show H1[b + q]? = some (vp_cell X.2.2.2 ((ds.set i.toNatClampNeg (some d)).length, .inr (.inr (.inr (.inr (fun w => ((ds.set i.toNatClampNeg (some d)).getD w none).map (fun d => b + q + d)))))))
    rw [e]
    rw [vp_cell_q, vp_cell_q, arrV_store, List.length_set]
    congr 2
    funext w
    by_cases hw : w = i.toNatClampNeg
    · subst hw
      simp only [updV, if_true, List.getD_eq_getElem?_getD, List.getElem?_set_self hkl, Option.getD_some, Option.map_some, va_rf]
      rw [Nat.add_assoc, hd]
    · simp only [updV, if_neg hw, List.getD_eq_getElem?_getD, List.getElem?_set_ne (Ne.symm hw)]
  · rw [List.getElem?_set_ne (Ne.symm hqj)] at hqd
    exact (hR q kd hqd).kept (oq _ (by show b + q ≠ b + j; omega))
variable {y : MethodName} {bytes : ByteArray} {maxL na index mc ms n' : Nat} {ws : List Cond} {rm : Room} {k0 : Kd} {LK : List Kd} {V1 : Mem} {As st : List Value}
theorem rg_ran (hH : Hp A H0 (b + n + 1) X L b V H locs) (hA : ∀ q : Nat, b ≤ q → A q) (hL : L.length = n) (hn' : n + LK.length = n') (hpos : 1 ≤ LK.length) {g : JFrame} {aa : Array Value} (hg : { g with pc := g.pc + 3, stack := (none : Option Value).toList ++ rest } = F0 m (pc + 3) ls rest)
    (hr : va_Run p l e R s m args below meth c H locs cells slots mc ms g rest (cQn X (b + n) LK V1 aa) (fun q => b + n ≤ q))
    (kk : ∀ (H1 : Heap) (locs1 : List Loc), Hp A H0 (b + n') X (L ++ LK) b (pv V n LK.length V1) H1 locs1 → W p l e R s m args below meth c H1 locs1 (cells + mc) (slots + ms) Q (F0 m (pc + 3) ls rest)) : W p l e R s m args below meth c H locs cells slots Q g := by
  subst hn'
  obtain ⟨hR, hS, hz⟩ := hH
  intro T hT XX
  obtain ⟨v, st₀, t, T', L', h0, X', hLL, e1, e2, ⟨hv, hP', hz', hk⟩, stp⟩ := hr T hT XX
  cases hv
  rw [h0] at hk
  rw [hg] at stp
  obtain ⟨t2, a1, b1⟩ := kk T'.heap (locs ++ L') ⟨by rw [e1]; exact hR.push hL hP' hk, ⟨by rw [e1, hz']; have h9 := hS.1; rw [hz] at h9; omega, fun q h1 h2 => by
      rw [e1, hk q (Nat.lt_of_not_le fun h9 => h2 (hA q (by omega)))]
      exact hS.2.1 q h1 h2, fun q hq => by
      rcases List.mem_append.mp hq with h | h
      · exact hS.2.2 q h
      · exact hA _ (by have := hLL q h; omega)⟩, by rw [e1, hz', Nat.add_assoc]⟩ T' rfl X'
  exact ⟨t2, stp t2 a1, b1⟩
theorem rg_callI (F : Fx p c s m args Ts own cc nL X) (hH : Hp A H0 (b + n + 1) X L b V H locs) (hA : ∀ q : Nat, b ≤ q → A q) (hL : L.length = n) (hN : RP X [k0] (b + n) zM H) (hM : MC l y ws rm X (.ref (b + n) :: As) (b + n) k0 LK V1 mc ms) (cw : CallB R s args own index y bytes maxL none ws rm mc ms na ∧ y.name = "<init>" ∧ (Cond.instanceMethod y).before args s = true) (hn : As.length = na) (hsz : ls.size = nL) (hw : (rest.map fun v => v.category).sum ≤ 8) (hdg : decode cc pc = .ok (.invokespecial index, 3)) (hf : cells + mc ≤ R.cells ∧ slots + ms ≤ R.slots) (hst : st = As.reverse ++ .ref (b + n) :: rest) (hn' : n + LK.length = n') (hpos : 1 ≤ LK.length)
    (kk : ∀ (H1 : Heap) (locs1 : List Loc), Hp A H0 (b + n') X (L ++ LK) b (pv V n LK.length V1) H1 locs1 → W p l e R s m args below meth c H1 locs1 (cells + mc) (slots + ms) Q (F0 m (pc + 3) ls rest)) : W p l e R s m args below meth c H locs cells slots Q (F0 m pc ls st) := by
  subst hst
  exact rg_ran hH hA hL hn' hpos rfl (va_runI (e := e) (below := below) (meth := meth) (g := F0 m pc ls (As.reverse ++ .ref (b + n) :: rest)) (locs := locs) (cells := cells) (slots := slots) (rest := rest) F.1 hM cw ⟨cPc_blind, fun U hU hW => ⟨rfl, by rw [hU]; exact ⟨hN, hH.2.2⟩, va_K.moved hW.alike F.2⟩⟩ rfl hn hsz rfl (lv_room hw) hdg hf) kk
/-- what the machine's tables say besides, and go on saying -/
def KW (K : State → Prop) : Prop := (∀ (a : Array Value) (U : State) (g : JFrame) (mk : MethodId), K U → K (U.calling g mk a)) ∧ ∀ s U : State, s.WarmedH U.vm → K s → K U
abbrev MCK (K : State → Prop) (l : Launch) (y : MethodName) (ws : List Cond) (rm : Room) (X : kX) (av : List Value) (lo : Nat) (k0 : Kd) (LK : List Kd) (V1 : Mem) (mc ms : Nat) : Prop := Met l y ws rm (fun a U => cPn X av lo k0 a U ∧ K U) (cQn X lo LK V1) mc ms (fun q => lo ≤ q)
theorem rg_callIK {K : State → Prop} (hKW : KW K) (hKs : K s) (F : Fx p c s m args Ts own cc nL X) (hH : Hp A H0 (b + n + 1) X L b V H locs) (hA : ∀ q : Nat, b ≤ q → A q) (hL : L.length = n) (hN : RP X [k0] (b + n) zM H) (hM : MCK K l y ws rm X (.ref (b + n) :: As) (b + n) k0 LK V1 mc ms) (cw : CallB R s args own index y bytes maxL none ws rm mc ms na ∧ y.name = "<init>" ∧ (Cond.instanceMethod y).before args s = true) (hn : As.length = na) (hsz : ls.size = nL) (hw : (rest.map fun v => v.category).sum ≤ 8) (hdg : decode cc pc = .ok (.invokespecial index, 3)) (hf : cells + mc ≤ R.cells ∧ slots + ms ≤ R.slots) (hst : st = As.reverse ++ .ref (b + n) :: rest) (hn' : n + LK.length = n') (hpos : 1 ≤ LK.length)
    (kk : ∀ (H1 : Heap) (locs1 : List Loc), Hp A H0 (b + n') X (L ++ LK) b (pv V n LK.length V1) H1 locs1 → W p l e R s m args below meth c H1 locs1 (cells + mc) (slots + ms) Q (F0 m (pc + 3) ls rest)) : W p l e R s m args below meth c H locs cells slots Q (F0 m pc ls st) := by
  subst hst
  exact rg_ran hH hA hL hn' hpos rfl (va_runI (e := e) (below := below) (meth := meth) (g := F0 m pc ls (As.reverse ++ .ref (b + n) :: rest)) (locs := locs) (cells := cells) (slots := slots) (rest := rest) F.1 hM cw ⟨fun a U g mk h => ⟨cPc_blind a U g mk h.1, hKW.1 a U g mk h.2⟩, fun U hU hW => ⟨⟨rfl, by rw [hU]; exact ⟨hN, hH.2.2⟩, va_K.moved hW.alike F.2⟩, hKW.2 s U hW hKs⟩⟩ rfl hn hsz rfl (lv_room hw) hdg hf) kk
theorem rg_callIN {K : State → Prop} {host : String} (hKW : KW K) (hKs : K s) (F : Fx p c s m args Ts own cc nL X) (hH : Hp A H0 (b + n + 1) X L b V H locs) (hA : ∀ q : Nat, b ≤ q → A q) (hL : L.length = n) (hN : RP X [k0] (b + n) zM H) (hM : MCK K l y ws rm X (.ref (b + n) :: As) (b + n) k0 LK V1 mc ms) (cw : va_CN R s args own index y host bytes maxL none ws rm mc ms na ∧ y.name = "<init>" ∧ (Cond.instanceMethod y).before args s = true) (hn : As.length = na) (hsz : ls.size = nL) (hw : (rest.map fun v => v.category).sum ≤ 8) (hdg : decode cc pc = .ok (.invokespecial index, 3)) (hf : cells + mc ≤ R.cells ∧ slots + ms ≤ R.slots) (hst : st = As.reverse ++ .ref (b + n) :: rest) (hn' : n + LK.length = n') (hpos : 1 ≤ LK.length)
    (kk : ∀ (H1 : Heap) (locs1 : List Loc), Hp A H0 (b + n') X (L ++ LK) b (pv V n LK.length V1) H1 locs1 → W p l e R s m args below meth c H1 locs1 (cells + mc) (slots + ms) Q (F0 m (pc + 3) ls rest)) : W p l e R s m args below meth c H locs cells slots Q (F0 m pc ls st) := by
  subst hst
  exact rg_ran hH hA hL hn' hpos rfl (va_runIN (e := e) (below := below) (meth := meth) (g := F0 m pc ls (As.reverse ++ .ref (b + n) :: rest)) (locs := locs) (cells := cells) (slots := slots) (rest := rest) F.1 hM cw ⟨fun a U g mk h => ⟨cPc_blind a U g mk h.1, hKW.1 a U g mk h.2⟩, fun U hU hW => ⟨⟨rfl, by rw [hU]; exact ⟨hN, hH.2.2⟩, va_K.moved hW.alike F.2⟩, hKW.2 s U hW hKs⟩⟩ rfl hn hsz rfl (lv_room hw) hdg hf) kk
end KN
