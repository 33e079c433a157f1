section KB
variable {p : Program} {l : Launch} {e : Env} {R : Room} {s : State} {m : MethodId} {args : Array Value} {below : List Frame} {meth : Method} {c : Code} {H : Heap} {locs : List Loc} {cells slots : Nat} {Q : State → Prop}
variable {cc : ByteArray} {pc nL : Nat} {ls : Array Slot} {rest : List Value} {Ts : List Cond} {own : String} {X : kX} {L : List Kd} {b : Nat} {V : Mem} {A : Nat → Prop} {H0 : Heap} {z : Nat}
theorem rg_at (hR : RP X L b V H) (j : Nat) {k : Kd} (hj : L[j]? = some k) : va_P X.1 vwCl [(b + j, kE X k (b + j) (V j))] H := by
  intro i q hi
  cases i with
  | zero =>
    rw [List.getElem?_cons_zero] at hi
    cases hi
    exact hR j k hj
  | succ i =>
    rw [List.getElem?_cons_succ] at hi
    cases hi
theorem rg_getr (F : Fx p c s m args Ts own cc nL X) (hR : RP X L b V H) (j : Nat) {ci : Nat} {fl : List Kf} (hj : L[j]? = some (.inl (ci, fl))) {C : String} {T : u_T} {N : Nat} (hc : vwCl[ci]? = some (C, T, N)) (hin : ∀ w ∈ u_ws C T N, w ∈ Ts) (k : Nat) {d n : Nat} (hv : fl[k]? = some (some (.inl d))) (hd : j + d = n) {index : Nat} (hk : k < N) (hown : (T k).1 = C) (hlink : Cond.fieldLink own index C (T k).2.1 (T k).2.2.1 ∈ Ts) {a : Nat} (ha : a = b + j) (hdg : decode cc pc = .ok (.getfield index, 3))
    (kk : W p l e R s m args below meth c H locs cells slots Q (F0 m (pc + 3) ls (.ref (b + n) :: rest))) : W p l e R s m args below meth c H locs cells slots Q (F0 m pc ls (.ref a :: rest)) := by
  subst ha
  refine va_get (tys := kTys X) (ref := C) (a := b + j) (fs := fl.map (kFv (b + j) (V j))) (v := .ref (b + n)) F.1.1 F.1.2.1 F.1.2.2.2.2 hin F.1.2.2.2.1 F.2 (rg_at hR j hj) 0 rfl hc k hk (F.1.2.2.2.2 _ hlink) (fun x h => by rw [hown] at h; exact h) ?_ hdg kk
  rw [List.getElem?_map, hv]
  show some (Value.ref (b + j + d)) = _
  rw [Nat.add_assoc, hd]
theorem rg_geti (F : Fx p c s m args Ts own cc nL X) (hR : RP X L b V H) (j : Nat) {ci : Nat} {fl : List Kf} (hj : L[j]? = some (.inl (ci, fl))) {C : String} {T : u_T} {N : Nat} (hc : vwCl[ci]? = some (C, T, N)) (hin : ∀ w ∈ u_ws C T N, w ∈ Ts) (k : Nat) {i : Nat} (hv : fl[k]? = some (some (.inr i))) {index : Nat} (hk : k < N) (hown : (T k).1 = C) (hlink : Cond.fieldLink own index C (T k).2.1 (T k).2.2.1 ∈ Ts) {a : Nat} (ha : a = b + j) (hdg : decode cc pc = .ok (.getfield index, 3))
    (kk : W p l e R s m args below meth c H locs cells slots Q (F0 m (pc + 3) ls (.int (V j i) :: rest))) : W p l e R s m args below meth c H locs cells slots Q (F0 m pc ls (.ref a :: rest)) := by
  subst ha
  refine va_get (tys := kTys X) (ref := C) (a := b + j) (fs := fl.map (kFv (b + j) (V j))) (v := .int (V j i)) F.1.1 F.1.2.1 F.1.2.2.2.2 hin F.1.2.2.2.1 F.2 (rg_at hR j hj) 0 rfl hc k hk (F.1.2.2.2.2 _ hlink) (fun x h => by rw [hown] at h; exact h) ?_ hdg kk
  rw [List.getElem?_map, hv]
  rfl
theorem rg_put (F : Fx p c s m args Ts own cc nL X) (hH : Hp A H0 z X L b V H locs) (hA : ∀ q : Nat, b ≤ q → q < b + L.length → A q) (j : Nat) {ci : Nat} {fl : List Kf} (hj : L[j]? = some (.inl (ci, fl))) {C : String} {T : u_T} {N : Nat} (hc : vwCl[ci]? = some (C, T, N)) (hin : ∀ w ∈ u_ws C T N, w ∈ Ts) (ty0 : Nat → FieldType) (hty : ∀ k, k < N → parseFieldDescriptor (T k).2.2.1 = some (ty0 k)) (hnm : ∀ a, a < N → ∀ b, b < N → a ≠ b → (T a).2.1 ≠ (T b).2.1)
    (k : Nat) {i : Nat} (hv : fl[k]? = some (some (.inr i))) (hu : ∀ k2, k2 < N → k2 ≠ k → fl[k2]? ≠ some (some (.inr i))) {index : Nat} (hk : k < N) (hown : (T k).1 = C) (hfin : (T k).2.2.2 = false) (hd : parseFieldDescriptor (T k).2.2.1 = some .int) (hlink : Cond.fieldLink own index C (T k).2.1 (T k).2.2.1 ∈ Ts) {a : Nat} (ha : a = b + j) {x : Int32} (hdg : decode cc pc = .ok (.putfield index, 3))
    (kk : ∀ (H1 : Heap) (locs1 : List Loc), Hp A H0 z X L b (sv V j i x) H1 locs1 → (∀ q : Nat, q ≠ b + j → H1[q]? = H[q]?) → W p l e R s m args below meth c H1 locs1 cells slots Q (F0 m (pc + 3) ls rest)) : W p l e R s m args below meth c H locs cells slots Q (F0 m pc ls (.int x :: .ref a :: rest)) := by
  subst ha
  obtain ⟨hR, hS0, hz⟩ := hH
  have hts := F.1.2.2.2.2
  have hK := F.2
  have hap := va_apart (own := own) hts hin ty0 hty hnm hK hc
  obtain ⟨r, h1, cell, q1, q2, q3, q4⟩ := hR j _ hj
  have hr : r = (C, T, N) := Option.some.inj (h1.symm.trans hc)
  subst hr
  obtain ⟨hSl, hfc, kC, hkC, hkind⟩ := hK.1 ci _ hc
  obtain ⟨cf, kf, fi, f, hi, hsl⟩ := hSl k hk
  have hlay := hts _ (hin _ (u_in_lay hk))
  unfold u_lay at hlay
  rw [if_neg (by rw [hfin]; decide)] at hlay
  have hst := (u_facts hfc hkC (u_lays hts hin hk) hi).1
  have h6 := u_store (v := .int x) hfc hkC hkind hlay hi hd rfl rfl
  have hjl := (List.getElem?_eq_some_iff.mp hj).1
  refine W.putK F.1.1 F.1.2.1 (f := f) (v := .int x) ⟨F.1.2.2.2.1, hts _ hlink, ⟨_, _, _, by rw [hown] at hi; exact hi⟩, hst⟩ (by rw [q2]; exact h6) q1 q3 (by rw [hsl]; exact k2_hasslot (q4 k hk)) rfl rfl hdg fun H' e1 e2 e3 => ?_
  rw [hsl] at e1 ⊢
  refine kk H' _ ⟨hR.set (V' := sv V j i x) hj ⟨_, hc, t_OB.to (V := updV (vp_V (fl.map (kFv (b + j) (V j)))) k (.int x)) ⟨_, e1, q2, q3, t_set q4 hap hk (.int x)⟩ ?_⟩ e3 ?_, hS0.put e2 e3 (hA _ (Nat.le_add_right _ _) (Nat.add_lt_add_left hjl _)), e2.trans hz⟩ e3
  · intro j' hj'
    by_cases hjk : j' = k
    · subst hjk
      simp [updV, vp_V, List.getElem?_map, hv, kFv, sv]
    · have hne := hu j' hj' hjk
      simp only [updV, if_neg hjk, vp_V, List.getD_eq_getElem?_getD, List.getElem?_map]
      cases hf : fl[j']? with
      | none => rfl
      | some x9 =>
        match x9, hf with
        | none, _ => rfl
        | some (.inl d), _ => rfl
        | some (.inr i2), hf =>
          have : i2 ≠ i := fun h => hne (by rw [hf, h])
          simp [kFv, sv, this]
  · intro i' hi'
    funext q
    simp [sv, hi']
theorem rg_iald (F : Fx p c s m args Ts own cc nL X) (hR : RP X L b V H) (j : Nat) {n : Nat} (hj : L[j]? = some (.inr (.inl (0, n)))) {i : Int32} (hin : ¬ (i < 0 ∨ n ≤ i.toNatClampNeg)) {a : Nat} (ha : a = b + j) (hdg : decode cc pc = .ok (.iaload, 1))
    (kk : W p l e R s m args below meth c H locs cells slots Q (F0 m (pc + 1) ls (.int (V j i.toNatClampNeg) :: rest))) : W p l e R s m args below meth c H locs cells slots Q (F0 m pc ls (.int i :: .ref a :: rest)) := by
  subst ha
  exact va_iald (cA := X.2.1) (n := n) (f := V j) F.1.1 F.1.2.1 F.2 (rg_at hR j hj) 0 0 rfl rfl hin hdg kk
theorem rg_alen (F : Fx p c s m args Ts own cc nL X) (hR : RP X L b V H) (j : Nat) {n : Nat} (hj : L[j]? = some (.inr (.inl (0, n)))) {a : Nat} (ha : a = b + j) (hdg : decode cc pc = .ok (.arraylength, 1))
    (kk : W p l e R s m args below meth c H locs cells slots Q (F0 m (pc + 1) ls (.int (nI n) :: rest))) : W p l e R s m args below meth c H locs cells slots Q (F0 m pc ls (.ref a :: rest)) := by
  subst ha
  exact va_alen (cA := X.2.1) (x := (n, .inl (V j))) (ty := .int) (v := nI n) F.1.1 F.1.2.1 F.2 (rg_at hR j hj) 0 0 rfl rfl rfl hdg kk
theorem rg_alenq (F : Fx p c s m args Ts own cc nL X) (hR : RP X L b V H) (j : Nat) {ds : List (Option Nat)} (hj : L[j]? = some (.inr (.inr ds))) {a : Nat} (ha : a = b + j) (hdg : decode cc pc = .ok (.arraylength, 1))
    (kk : W p l e R s m args below meth c H locs cells slots Q (F0 m (pc + 1) ls (.int (nI ds.length) :: rest))) : W p l e R s m args below meth c H locs cells slots Q (F0 m pc ls (.ref a :: rest)) := by
  subst ha
  exact va_alen (cA := X.2.2.2) (x := (ds.length, .inr (.inr (.inr (.inr (fun q => (ds.getD q none).map (fun d => b + j + d))))))) (ty := .object "TideWords$World") (v := nI ds.length) F.1.1 F.1.2.1 F.2 (rg_at hR j hj) 0 2 rfl rfl rfl hdg kk
theorem rg_aald (F : Fx p c s m args Ts own cc nL X) (hR : RP X L b V H) (j : Nat) {ds : List (Option Nat)} (hj : L[j]? = some (.inr (.inr ds))) {i : Int32} (hin : ¬ (i < 0 ∨ ds.length ≤ i.toNatClampNeg)) {a : Nat} (ha : a = b + j) {w : Nat} (hw : (ds.getD i.toNatClampNeg none).map (fun d => b + j + d) = some w) (hdg : decode cc pc = .ok (.aaload, 1))
    (kk : W p l e R s m args below meth c H locs cells slots Q (F0 m (pc + 1) ls (.ref w :: rest))) : W p l e R s m args below meth c H locs cells slots Q (F0 m pc ls (.int i :: .ref a :: rest)) := by
  subst ha
  refine va_aldq (cA := X.2.2.2) (n := ds.length) (f := fun q => (ds.getD q none).map (fun d => b + j + d)) F.1.1 F.1.2.1 F.2 (rg_at hR j hj) 0 2 rfl rfl hin hdg ?_
  rw [hw]
  exact kk
theorem rg_iast (F : Fx p c s m args Ts own cc nL X) (hH : Hp A H0 z X L b V H locs) (hA : ∀ q : Nat, b ≤ q → q < b + L.length → A q) (j : Nat) {n : Nat} (hj : L[j]? = some (.inr (.inl (0, n)))) {i x : Int32} (hin : ¬ (i < 0 ∨ n ≤ i.toNatClampNeg)) {a : Nat} (ha : a = b + j) (hdg : decode cc pc = .ok (.iastore, 1))
    (kk : ∀ (H1 : Heap) (locs1 : List Loc), Hp A H0 z X L b (sv V j i.toNatClampNeg x) H1 locs1 → W p l e R s m args below meth c H1 locs1 cells slots Q (F0 m (pc + 1) ls rest)) : W p l e R s m args below meth c H locs cells slots Q (F0 m pc ls (.int x :: .int i :: .ref a :: rest)) := by
  subst ha
  obtain ⟨hR, hS, hz⟩ := hH
  have hjl := (List.getElem?_eq_some_iff.mp hj).1
  have hc : H[b + j]? = some (arrV X.2.1 n (fun q => .int (V j q))) := hR j _ hj
  refine W.iast F.1.1 F.1.2.1 hc ((F.2.2 0 _ rfl).1 n (fun q => .int (V j q))) (fun q => by cases q) (by rw [arrV_size]; exact hin) rfl rfl hdg fun H1 e1 z1 oq => ?_
  refine kk H1 _ ⟨hR.set (V' := sv V j i.toNatClampNeg x) hj ?_ oq ?_, hS.put z1 oq (hA _ (Nat.le_add_right _ _) (Nat.add_lt_add_left hjl _)), z1.trans hz⟩
  · show H1[b + j]? = some (arrV X.2.1 n (fun q => .int (sv V j i.toNatClampNeg x j q)))
    rw [e1, arrV_store]
    congr 2
    funext q
    by_cases hq : q = i.toNatClampNeg
    · subst hq
      simp [updV, sv]
    · simp [updV, sv, hq]
  · intro i' hi'
    funext q
    simp [sv, hi']
theorem rp_recv (F : Fx p c s m args Ts own cc nL X) (hR : RP X L b V H) (j : Nat) {ci : Nat} {fl : List Kf} (hj : L[j]? = some (.inl (ci, fl))) {C : String} {T : u_T} {N : Nat} (hc : vwCl[ci]? = some (C, T, N)) {a : Nat} (ha : a = b + j) : ∃ cell : Cell, H[a]? = some cell ∧ cell.vm.isStatics = false ∧ s.vm.findClass C = some cell.cls := by
  subst ha
  exact va_recv (fs := fl.map (kFv (b + j) (V j))) F.2 (rg_at hR j hj) (q0 := 0) hc rfl
/-! calls -/
variable {y : MethodName} {bytes : ByteArray} {maxL n index : Nat} {ret : Option FieldType} {ws : List Cond} {rm : Room} {P : Heap → Prop} {C : String} {a : Nat} {As st : List Value}
theorem rg_callRV {r : Value} (F : Fx p c s m args Ts own cc nL X) (hM : MR l y ws rm X (.ref a :: As) P (some r)) (cw : CallW R s args own C index y bytes maxL ret ws rm 0 0 n) (hrec : ∃ cell : Cell, H[a]? = some cell ∧ cell.vm.isStatics = false ∧ s.vm.findClass C = some cell.cls) (hP : P H) (hn : As.length = n) (hsz : ls.size = nL) (hw : (rest.map fun v => v.category).sum ≤ 8) (hdg : decode cc pc = .ok (.invokevirtual index, 3)) (hf : cells ≤ R.cells ∧ slots ≤ R.slots) (hst : st = As.reverse ++ .ref a :: rest)
    (kk : W p l e R s m args below meth c H locs cells slots Q (F0 m (pc + 3) ls (r :: rest))) : W p l e R s m args below meth c H locs cells slots Q (F0 m pc ls st) := by
  subst hst
  have hr := va_runV (e := e) (below := below) (meth := meth) (g := F0 m pc ls (As.reverse ++ .ref a :: rest)) (locs := locs) (cells := cells) (slots := slots) (rest := rest) F.1 hM cw ⟨cPc_blind, hrec, fun U hU hW => ⟨rfl, by rw [hU]; exact hP, va_K.moved hW.alike F.2⟩⟩ rfl hn hsz rfl (lv_room hw) hdg hf
  intro T hT XX
  obtain ⟨v, st₀, t, T', L', h0, X', hL, e1, e2, ⟨hv, hh⟩, stp⟩ := hr T hT XX
  have hL' : L' = [] := by
    cases L' with
    | nil => rfl
    | cons q _ => exact (hL q List.mem_cons_self).elim
  subst hL'
  cases hv
  rw [List.append_nil] at X'
  obtain ⟨t2, a1, b1⟩ := kk T' (e1.trans (hh.trans h0)) X'
  exact ⟨t2, stp t2 a1, b1⟩
theorem rg_callRS {r : Value} (F : Fx p c s m args Ts own cc nL X) (hM : MR l y ws rm X As P (some r)) (cw : CallB R s args own index y bytes maxL ret ws rm 0 0 n ∧ (Cond.static y).before args s = true) (hP : P H) (hn : As.length = n) (hsz : ls.size = nL) (hw : (rest.map fun v => v.category).sum ≤ 8) (hdg : decode cc pc = .ok (.invokestatic index, 3)) (hf : cells ≤ R.cells ∧ slots ≤ R.slots) (hst : st = As.reverse ++ rest)
    (kk : W p l e R s m args below meth c H locs cells slots Q (F0 m (pc + 3) ls (r :: rest))) : W p l e R s m args below meth c H locs cells slots Q (F0 m pc ls st) := by
  subst hst
  have hr := va_runS (e := e) (below := below) (meth := meth) (g := F0 m pc ls (As.reverse ++ rest)) (locs := locs) (cells := cells) (slots := slots) (rest := rest) F.1 hM cw ⟨cPc_blind, fun U hU hW => ⟨rfl, by rw [hU]; exact hP, va_K.moved hW.alike F.2⟩⟩ rfl hn hsz rfl (lv_room hw) hdg hf
  intro T hT XX
  obtain ⟨v, st₀, t, T', L', h0, X', hL, e1, e2, ⟨hv, hh⟩, stp⟩ := hr T hT XX
  have hL' : L' = [] := by
    cases L' with
    | nil => rfl
    | cons q _ => exact (hL q List.mem_cons_self).elim
  subst hL'
  cases hv
  rw [List.append_nil] at X'
  obtain ⟨t2, a1, b1⟩ := kk T' (e1.trans (hh.trans h0)) X'
  exact ⟨t2, stp t2 a1, b1⟩
theorem rg_callWV {r : Option Value} {Lc : List Kd} {U V2 : Mem} (F : Fx p c s m args Ts own cc nL X) (hH : Hp A H0 z X L b V H locs) (hA : ∀ q : Nat, b ≤ q → q < b + L.length → A q) (k : Nat) (hsub : sbL L k Lc) (hM : MW l y ws rm X (.ref a :: As) P r (b + k) (b + k + Lc.length) (RP X Lc (b + k) U)) (cw : CallW R s args own C index y bytes maxL ret ws rm 0 0 n) (hrec : ∃ cell : Cell, H[a]? = some cell ∧ cell.vm.isStatics = false ∧ s.vm.findClass C = some cell.cls) (hP : P H) (hn : As.length = n) (hsz : ls.size = nL) (hw : (rest.map fun v => v.category).sum ≤ 8) (hdg : decode cc pc = .ok (.invokevirtual index, 3)) (hf : cells ≤ R.cells ∧ slots ≤ R.slots) (hst : st = As.reverse ++ .ref a :: rest) (hV2 : pv V k Lc.length U = V2)
    (kk : ∀ (H1 : Heap) (locs1 : List Loc), Hp A H0 z X L b V2 H1 locs1 → (∀ q : Nat, (q < b + k ∨ b + k + Lc.length ≤ q) → H1[q]? = H[q]?) → W p l e R s m args below meth c H1 locs1 cells slots Q (F0 m (pc + 3) ls (r.toList ++ rest))) : W p l e R s m args below meth c H locs cells slots Q (F0 m pc ls st) := by
  subst hst
  subst hV2
  obtain ⟨hR, hS, hz⟩ := hH
  have hr := va_runV (e := e) (below := below) (meth := meth) (g := F0 m pc ls (As.reverse ++ .ref a :: rest)) (locs := locs) (cells := cells) (slots := slots) (rest := rest) F.1 hM cw ⟨cPc_blind, hrec, fun U hU hW => ⟨rfl, by rw [hU]; exact hP, va_K.moved hW.alike F.2⟩⟩ rfl hn hsz rfl (lv_room hw) hdg hf
  have hA' : ∀ q : Nat, t_fr (b + k) (b + k + Lc.length) q → A q := by
    intro q hq
    obtain ⟨h1, h2⟩ := hq
    have hj : q - (b + k) < Lc.length := by omega
    have h3 := hsub _ hj
    rw [List.getElem?_eq_getElem hj] at h3
    have h4 := (List.getElem?_eq_some_iff.mp h3).1
    exact hA q (by omega) (by omega)
  intro T hT XX
  obtain ⟨v, st₀, t, T', L', h0, X', hL, e1, e2, ⟨hv, hP', hz', hk⟩, stp⟩ := hr T hT XX
  cases hv
  rw [h0] at hz' hk
  obtain ⟨t2, a1, b1⟩ := kk T'.heap (locs ++ L') ⟨by rw [e1]; exact hR.paste k hsub hP' hk, ⟨by rw [e1, hz']; exact hS.1, fun q h1 h2 => by
      rw [e1, hk q (by
        rcases Nat.lt_or_ge q (b + k) with h | h
        · exact Or.inl h
        · exact Or.inr (Nat.le_of_not_lt fun h9 => h2 (hA' q ⟨h, h9⟩)))]
      exact hS.2.1 q h1 h2, fun q hq => by
      rcases List.mem_append.mp hq with h | h
      · exact hS.2.2 q h
      · exact hA' _ (hL q h)⟩, by rw [e1, hz', hz]⟩ (fun q hq => by rw [e1]; exact hk q hq) T' rfl X'
  exact ⟨t2, stp t2 a1, b1⟩
theorem mw_post {t : State} {r : Option Value} {n : Nat} {aa : Array Value} (hH : Hp (t_fr b (b + n)) s.heap s.heap.size X L b V H locs) (ht : t.heap = H) : cQw r b (b + n) (RP X L b V) aa s (.returned r) t := by
  obtain ⟨hR, hS, hz⟩ := hH
  refine ⟨rfl, by rw [ht]; exact hR, by rw [ht]; exact hz, fun q hq => ?_⟩
  rw [ht]
  rcases Nat.lt_or_ge q s.heap.size with h | h
  · exact hS.2.1 q h (fun h9 => by
      obtain ⟨h1, h2⟩ := h9
      omega)
  · rw [Array.getElem?_eq_none (by rw [hz]; exact h), Array.getElem?_eq_none h]
theorem rg_callWS {r : Option Value} {U : Mem} (F : Fx p c s m args Ts own cc nL X) (hH : Hp A H0 z X L b V H locs) (hA : ∀ q : Nat, b ≤ q → q < b + L.length → A q) (hM : MW l y ws rm X (.ref a :: As) P r b (b + L.length) (RP X L b U)) (cw : CallW R s args own C index y bytes maxL ret ws rm 0 0 n) (hrec : ∃ cell : Cell, H[a]? = some cell ∧ cell.vm.isStatics = false ∧ s.vm.findClass C = some cell.cls) (hP : P H) (hn : As.length = n) (hsz : ls.size = nL) (hw : (rest.map fun v => v.category).sum ≤ 8) (hdg : decode cc pc = .ok (.invokevirtual index, 3)) (hf : cells ≤ R.cells ∧ slots ≤ R.slots) (hst : st = As.reverse ++ .ref a :: rest)
    (kk : ∀ (H1 : Heap) (locs1 : List Loc), Hp A H0 z X L b U H1 locs1 → W p l e R s m args below meth c H1 locs1 cells slots Q (F0 m (pc + 3) ls (r.toList ++ rest))) : W p l e R s m args below meth c H locs cells slots Q (F0 m pc ls st) := by
  subst hst
  obtain ⟨hR, hS, hz⟩ := hH
  have hr := va_runV (e := e) (below := below) (meth := meth) (g := F0 m pc ls (As.reverse ++ .ref a :: rest)) (locs := locs) (cells := cells) (slots := slots) (rest := rest) F.1 hM cw ⟨cPc_blind, hrec, fun U hU hW => ⟨rfl, by rw [hU]; exact hP, va_K.moved hW.alike F.2⟩⟩ rfl hn hsz rfl (lv_room hw) hdg hf
  have hA' : ∀ q : Nat, t_fr b (b + L.length) q → A q := fun q hq => hA q hq.1 hq.2
  intro T hT XX
  obtain ⟨v, st₀, t, T', L', h0, X', hL, e1, e2, ⟨hv, hP', hz', hk⟩, stp⟩ := hr T hT XX
  cases hv
  rw [h0] at hz' hk
  obtain ⟨t2, a1, b1⟩ := kk T'.heap (locs ++ L') ⟨by rw [e1]; exact hP', ⟨by rw [e1, hz']; exact hS.1, fun q h1 h2 => by
      rw [e1, hk q (by
        rcases Nat.lt_or_ge q b with h | h
        · exact Or.inl h
        · exact Or.inr (Nat.le_of_not_lt fun h9 => h2 (hA' q ⟨h, h9⟩)))]
      exact hS.2.1 q h1 h2, fun q hq => by
      rcases List.mem_append.mp hq with h | h
      · exact hS.2.2 q h
      · exact hA' _ (hL q h)⟩, by rw [e1, hz', hz]⟩ T' rfl X'
  exact ⟨t2, stp t2 a1, b1⟩
theorem lv_nm {x x' : Int32} (ex : x = x') (kk : W p l e R s m args below meth c H locs cells slots Q (F0 m pc ls (.int x' :: rest))) : W p l e R s m args below meth c H locs cells slots Q (F0 m pc ls (.int x :: rest)) := by
  subst ex
  exact kk
end KB
