/-! the law's own calls: static methods over the region; the one that reads the script -/
theorem ts_out8 {x : Int32} (h0 : ¬ x = 0) (h1 : ¬ x = 1) (h2 : ¬ x = 2) (h3 : ¬ x = 3) (h4 : ¬ x = 4) (h5 : ¬ x = 5) (h6 : ¬ x = 6) (h7 : ¬ x = 7) : x.toInt < 0 ∨ 7 < x.toInt := by
  have := ts_lo (x := x) (n := 8) (by decide) (fun k hk => by
    rcases (show k = 0 ∨ k = 1 ∨ k = 2 ∨ k = 3 ∨ k = 4 ∨ k = 5 ∨ k = 6 ∨ k = 7 by omega) with rfl | rfl | rfl | rfl | rfl | rfl | rfl | rfl <;> assumption)
  omega
section
variable {p : Program} {l : Launch} {e : Env} {R : Room} {s : State} {m : MethodId} {args : Array Value} {below : List Frame} {meth : Method} {c : Code} {H : Heap} {locs : List Loc} {cells slots : Nat} {Q : State → Prop}
variable {cc : ByteArray} {pc nL : Nat} {ls : Array Slot} {rest : List Value} {Ts : List Cond} {own : String} {X : kX} {L : List Kd} {b : Nat} {V : Mem} {A : Nat → Prop} {H0 : Heap} {z : Nat}
variable {y : MethodName} {bytes : ByteArray} {maxL n index : Nat} {ret : Option FieldType} {ws : List Cond} {rm : Room} {P : Heap → Prop} {C : String} {a : Nat} {As st : List Value}
theorem rg_callWT {r : Option Value} {U : Mem} (F : Fx p c s m args Ts own cc nL X) (hH : Hp A H0 z X L b V H locs) (hA : ∀ q : Nat, b ≤ q → q < b + L.length → A q) (hM : MW l y ws rm X As P r b (b + L.length) (RP X L b U)) (cw : CallB R s args own index y bytes maxL ret ws rm 0 0 n ∧ (Cond.static y).before args s = true) (hP : P H) (hn : As.length = n) (hsz : ls.size = nL) (hw : (rest.map fun v => v.category).sum ≤ 8) (hdg : decode cc pc = .ok (.invokestatic index, 3)) (hf : cells ≤ R.cells ∧ slots ≤ R.slots) (hst : st = As.reverse ++ rest)
    (kk : ∀ (H1 : Heap) (locs1 : List Loc), Hp A H0 z X L b U H1 locs1 → W p l e R s m args below meth c H1 locs1 cells slots Q (F0 m (pc + 3) ls (r.toList ++ rest))) : W p l e R s m args below meth c H locs cells slots Q (F0 m pc ls st) := by
  subst hst
  obtain ⟨hR, hS, hz⟩ := hH
  have hr := va_runS (e := e) (below := below) (meth := meth) (g := F0 m pc ls (As.reverse ++ rest)) (locs := locs) (cells := cells) (slots := slots) (rest := rest) F.1 hM cw ⟨cPc_blind, fun U hU hW => ⟨rfl, by rw [hU]; exact hP, va_K.moved hW.alike F.2⟩⟩ rfl hn hsz rfl (lv_room hw) hdg hf
  have hA' : ∀ q : Nat, t_fr b (b + L.length) q → A q := fun q hq => hA q hq.1 hq.2
  intro T hT XX
  obtain ⟨v, st₀, t, T', L', h0, X', hL, e1, e2, ⟨hv, hP', hz', hk⟩, stp⟩ := hr T hT XX
  cases hv
  rw [h0] at hz' hk
  obtain ⟨t2, a1, b1⟩ := kk T'.heap (locs ++ L') ⟨by rw [e1]; exact hP', ⟨by rw [e1, hz']; exact hS.1, fun q h1 h2 => by
      rw [e1, hk q (by
        rcases Nat.lt_or_ge q b with h | h
        · exact Or.inl h
        · exact Or.inr (Nat.le_of_not_lt fun h9 => h2 (hA' q ⟨h, h9⟩)))]
      exact hS.2.1 q h1 h2, fun q hq => by
      rcases List.mem_append.mp hq with h | h
      · exact hS.2.2 q h
      · exact hA' _ (hL q h)⟩, by rw [e1, hz', hz]⟩ T' rfl X'
  exact ⟨t2, stp t2 a1, b1⟩
/-- a method over the script -/
def cPx (X : kX) (av : List Value) (sb Ls : Nat) (xs : Nat → Int32) : Array Value → State → Prop := fun v U => v = av.toArray ∧ va_X sb Ls xs U U.heap ∧ kOK X U
abbrev MRx (l : Launch) (y : MethodName) (ws : List Cond) (rm : Room) (X : kX) (av : List Value) (sb Ls : Nat) (xs : Nat → Int32) (r : Option Value) : Prop := Met l y ws rm (cPx X av sb Ls xs) (cQr r) 0 0 (fun _ => False)
theorem cPx_blind {X : kX} {av : List Value} {sb Ls : Nat} {xs : Nat → Int32} : FrameBlind (cPx X av sb Ls xs) := fun a U g mk h => ⟨h.1, va_X.moved (u := U) (U := U.calling g mk a) (Vm.Alike.refl U.vm) h.2.1, va_K.moved (u := U) (U := U.calling g mk a) (Vm.Alike.refl U.vm) h.2.2⟩
theorem mt_headX {l : Launch} {y : MethodName} {ws ws' : List Cond} {rm : Room} {X : kX} {av : List Value} {sb Ls : Nat} {xs : Nat → Int32} {Qc : Array Value → State → Outcome → State → Prop} {mc ms : Nat} {free : Addr → Prop} {cc : ByteArray} {maxL : Nat} {ret : Option FieldType} {own : String}
    (hy : plainName y.cls = true) (ho : y.cls = own) (hw : ws = Cond.code y cc maxL ret :: ws') (hn : (lg_sl av).length ≤ maxL)
    (body : ∀ (p : Program) (e : Env) (s : State) (m : MethodId) (below : List Frame) (meth : Method) (c : Code) (ls : Array Slot), Fx p c s m av.toArray ws own cc maxL X → meth.sig.returnType = ret → meth.locks = false → va_X sb Ls xs s s.heap → lv_has ls maxL (lv_args 0 av) →
      W p l e rm s m av.toArray below meth c s.heap [] 0 0 (MQ below Qc av.toArray s mc ms free) (F0 m 0 ls [])) : Met l y ws rm (cPx X av sb Ls xs) Qc mc ms free := by
  refine Met.ofW (cc := cc) (maxL := maxL) (ret := ret) hy hw ?_
  intro p e s m args below meth c s₁ B hml hv
  obtain ⟨rfl, hP, hK⟩ := hv
  have hl := lv_entry av hn
  rw [lg_entry_eq]
  subst ho
  exact body p e s m below meth c _ ⟨⟨B.exec, B.bytes, hml, findClass_of_methodNamed B.named, atoms_spec (ws := ws) B.pre⟩, hK⟩ B.returns B.notSynchronized hP hl
theorem rg_callX {r : Value} {sb Ls : Nat} {xs : Nat → Int32} (F : Fx p c s m args Ts own cc nL X) (hX : va_X sb Ls xs s H0) (hbl : sb < H0.size) (hbA : ¬ A sb) (hS : va_S A H0 H locs) (hM : MRx l y ws rm X As sb Ls xs (some r)) (cw : CallB R s args own index y bytes maxL ret ws rm 0 0 n ∧ (Cond.static y).before args s = true) (hn : As.length = n) (hsz : ls.size = nL) (hw : (rest.map fun v => v.category).sum ≤ 8) (hdg : decode cc pc = .ok (.invokestatic index, 3)) (hf : cells ≤ R.cells ∧ slots ≤ R.slots) (hst : st = As.reverse ++ rest)
    (kk : W p l e R s m args below meth c H locs cells slots Q (F0 m (pc + 3) ls (r :: rest))) : W p l e R s m args below meth c H locs cells slots Q (F0 m pc ls st) := by
  subst hst
  have hX2 : va_X sb Ls xs s H := hX.kept (hS.2.1 sb hbl hbA)
  have hr := va_runS (e := e) (below := below) (meth := meth) (g := F0 m pc ls (As.reverse ++ rest)) (locs := locs) (cells := cells) (slots := slots) (rest := rest) F.1 hM cw ⟨cPx_blind, fun U hU hW => ⟨rfl, by rw [hU]; exact va_X.moved hW.alike hX2, va_K.moved hW.alike F.2⟩⟩ rfl hn hsz rfl (lv_room hw) hdg hf
  intro T hT XX
  obtain ⟨v, st₀, t, T', L', h0, X', hL, e1, e2, ⟨hv, hh⟩, stp⟩ := hr T hT XX
  have hL' : L' = [] := by
    cases L' with
    | nil => rfl
    | cons q _ => exact (hL q List.mem_cons_self).elim
  subst hL'
  cases hv
  rw [List.append_nil] at X'
  obtain ⟨t2, a1, b1⟩ := kk T' (e1.trans (hh.trans h0)) X'
  exact ⟨t2, stp t2 a1, b1⟩
end
/-! the script's cells -/
def qL_cell (Ls : Nat) (xs : Nat → Int32) (k : Int32) : Option Int32 := if Int32.ofNat Ls ≤ k then some ((40503 : Int32) * k + (977 : Int32)) else if k < 0 ∨ Ls ≤ k.toNatClampNeg then none else some (xs k.toNatClampNeg)
abbrev rmL_cell : Room := { frames := 0, cells := 0, slots := 0, locals := 0 }
theorem lkL_cell_0 : Cond.constant RL 7 (40503) ∈ wsL_cell := by decide +kernel
theorem mL_cell (l : Launch) (X : kX) (sb Ls : Nat) (xs : Nat → Int32) (k out : Int32) (hE : qL_cell Ls xs k = some out) : MRx l yL_cell wsL_cell rmL_cell X [.ref sb, .int k] sb Ls xs (some (.int out)) := by
  refine mt_headX (cc := cL_cell) (maxL := 2) (ret := (some .int)) (own := RL) (by decide) rfl rfl (Nat.le_of_ble_eq_true rfl) ?_
  intro p e s m below meth c ls F hr hlocks hX hl
  have hx := F.1.1
  have hb := F.1.2.1
  have hbl : sb < s.heap.size := by
    obtain ⟨scr, h1, -⟩ := hX
    exact (Array.getElem?_eq_some_iff.mp h1).1
  have hl : lv_has ls 2 [(0, .ref sb), (1, .int k)] := hl
  have hS : va_S (fun _ => False) s.heap s.heap [] := va_S.rf
  have hbA : ¬ (fun _ : Nat => False) sb := fun h => h
  unfold qL_cell at hE
  refine lv_iload_n hx hb dL_cell_0 rfl (lv_at hl 1 rfl) ?_
  refine lv_aload_n hx hb dL_cell_1 rfl (lv_at hl 0 rfl) ?_
  refine va_slen hx hb hX hbl hbA hS dL_cell_2 ?_
  refine lv_icmp_ge (tgt := 12) hx hb dL_cell_3 (by decide) (fun c1 => ?_) (fun c1 => ?_)
  · have hE := (if_pos c1).symm.trans hE
    have hE := Option.some.inj hE
    subst hE
    refine lv_ldc (v := 40503) hx hb F.1.2.2.2.1 (F.1.2.2.2.2 _ lkL_cell_0) dL_cell_12 ?_
    refine lv_iload_n hx hb dL_cell_14 rfl (lv_at hl 1 rfl) ?_
    refine lv_imul hx hb dL_cell_15 ?_
    refine lv_sipush (v := 977) hx hb dL_cell_16 (by decide) ?_
    refine lv_iadd hx hb dL_cell_19 ?_
    exact W.iret (v := (40503 : Int32) * k + (977 : Int32)) hx hb hr (fun t ht _ => ⟨rfl, ht⟩) (fun _ h => absurd h List.not_mem_nil) dL_cell_20
  · have hE := (if_neg c1).symm.trans hE
    obtain ⟨g1, hE⟩ := gd_el hE
    have hE := Option.some.inj hE
    subst hE
    refine lv_aload_n hx hb dL_cell_6 rfl (lv_at hl 0 rfl) ?_
    refine lv_iload_n hx hb dL_cell_7 rfl (lv_at hl 1 rfl) ?_
    refine va_sld hx hb hX hbl hbA hS g1 dL_cell_8 ?_
    refine lv_goto (tgt := 20) hx hb dL_cell_9 (by decide) ?_
    exact W.iret (v := xs k.toNatClampNeg) hx hb hr (fun t ht _ => ⟨rfl, ht⟩) (fun _ h => absurd h List.not_mem_nil) dL_cell_20
