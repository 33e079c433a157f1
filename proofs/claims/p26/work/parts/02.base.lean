/-! regions: a row of cells at consecutive addresses, each of a fixed kind; what varies is numbers: Mem -/
abbrev Mem : Type := Nat → Nat → Int32
def sv (V : Mem) (k j : Nat) (v : Int32) : Mem := fun k' j' => if k' = k ∧ j' = j then v else V k' j'
def gv (V : Mem) (k : Nat) : Mem := fun j => V (k + j)
def pv (V : Mem) (k n : Nat) (U : Mem) : Mem := fun j => if k ≤ j ∧ j < k + n then U (j - k) else V j
abbrev kX : Type := va_G × ClassId × ClassId × ClassId
abbrev kTys (X : kX) : List (ClassId × FieldType) := [(X.2.1, .int), (X.2.1, .int), (X.2.2.2, .object "TideWords$World")]
abbrev kOK (X : kX) (U : State) : Prop := va_K X.1 vwCl (kTys X) U
/-- a field: null, the cell so many behind its own, the number of that place -/
abbrev Kf : Type := Option (Nat ⊕ Nat)
/-- a cell: an object of a class with fields; a row of numbers (0 int, 1 boolean) of a length; a row of references -/
abbrev Kd : Type := (Nat × List Kf) ⊕ ((Nat × Nat) ⊕ List (Option Nat))
def kFv (a : Nat) (f : Nat → Int32) (x : Kf) : Value := match x with
  | none => .null
  | some (.inl d) => .ref (a + d)
  | some (.inr j) => .int (f j)
def kE (X : kX) (k : Kd) (a : Nat) (f : Nat → Int32) : va_E := match k with
  | .inl o => .inr (o.1, o.2.map (kFv a f))
  | .inr (.inl r) => .inl (if r.1 = 0 then X.2.1 else X.2.2.1, r.2, .inl f)
  | .inr (.inr ds) => .inl (X.2.2.2, ds.length, .inr (.inr (.inr (.inr (fun j => (ds.getD j none).map (fun d => a + d))))))
def RP (X : kX) (L : List Kd) (b : Nat) (V : Mem) (H : Heap) : Prop := ∀ (j : Nat) (k : Kd), L[j]? = some k → va_at X.1 vwCl (b + j, kE X k (b + j) (V j)) H
theorem RP.kept {X : kX} {L : List Kd} {b : Nat} {V : Mem} {H H1 : Heap} (h : RP X L b V H) (hk : ∀ q : Nat, b ≤ q → q < b + L.length → H1[q]? = H[q]?) : RP X L b V H1 := fun j k hj => (h j k hj).kept (hk (b + j) (Nat.le_add_right _ _) (Nat.add_lt_add_left (List.getElem?_eq_some_iff.mp hj).1 _))
theorem RP.set {X : kX} {L : List Kd} {b : Nat} {V V' : Mem} {H H1 : Heap} (h : RP X L b V H) {j : Nat} {k : Kd} (hj : L[j]? = some k) (hn : va_at X.1 vwCl (b + j, kE X k (b + j) (V' j)) H1) (ho : ∀ q : Nat, q ≠ b + j → H1[q]? = H[q]?) (h2 : ∀ i, i ≠ j → V' i = V i) : RP X L b V' H1 := by
  intro i k' hi
  by_cases e : i = j
  · subst e
    rw [hj] at hi
    cases hi
    exact hn
  · rw [h2 i e]
    exact (h i k' hi).kept (ho _ (by omega))
def sbL (L : List Kd) (k : Nat) (Lc : List Kd) : Prop := ∀ j, j < Lc.length → L[k + j]? = Lc[j]?
theorem RP.sub {X : kX} {L Lc : List Kd} {b : Nat} {V : Mem} {H : Heap} (h : RP X L b V H) (k : Nat) (hs : sbL L k Lc) : RP X Lc (b + k) (gv V k) H := by
  intro j kd hj
  have hl := (List.getElem?_eq_some_iff.mp hj).1
  have h1 := h (k + j) kd ((hs j hl).trans hj)
  rw [← Nat.add_assoc] at h1
  exact h1
theorem RP.paste {X : kX} {L Lc : List Kd} {b : Nat} {V U : Mem} {H H1 : Heap} (h : RP X L b V H) (k : Nat) (hs : sbL L k Lc) (h1 : RP X Lc (b + k) U H1) (ho : ∀ q : Nat, (q < b + k ∨ b + k + Lc.length ≤ q) → H1[q]? = H[q]?) : RP X L b (pv V k Lc.length U) H1 := by
  intro j kd hj
  by_cases c : k ≤ j ∧ j < k + Lc.length
  · have e : pv V k Lc.length U j = U (j - k) := by unfold pv; rw [if_pos c]
    have hj2 : Lc[j - k]? = some kd := by
      rw [← hs (j - k) (by omega), show k + (j - k) = j by omega]
      exact hj
    have h2 := h1 (j - k) kd hj2
    rw [show b + k + (j - k) = b + j by omega] at h2
    rw [e]
    exact h2
  · have e : pv V k Lc.length U j = V j := by unfold pv; rw [if_neg c]
    rw [e]
    exact (h j kd hj).kept (ho _ (by omega))
/-! contracts -/
def cPc (X : kX) (av : List Value) (P : Heap → Prop) : Array Value → State → Prop := fun v U => v = av.toArray ∧ P U.heap ∧ kOK X U
def cQr (r : Option Value) : Array Value → State → Outcome → State → Prop := fun _ st o t => o = .returned r ∧ t.heap = st.heap
def cQw (r : Option Value) (lo hi : Nat) (P : Heap → Prop) : Array Value → State → Outcome → State → Prop := fun _ st o t => o = .returned r ∧ P t.heap ∧ t.heap.size = st.heap.size ∧ ∀ q : Nat, (q < lo ∨ hi ≤ q) → t.heap[q]? = st.heap[q]?
abbrev MR (l : Launch) (y : MethodName) (ws : List Cond) (rm : Room) (X : kX) (av : List Value) (P : Heap → Prop) (r : Option Value) : Prop := Met l y ws rm (cPc X av P) (cQr r) 0 0 (fun _ => False)
abbrev MW (l : Launch) (y : MethodName) (ws : List Cond) (rm : Room) (X : kX) (av : List Value) (P : Heap → Prop) (r : Option Value) (lo hi : Nat) (P' : Heap → Prop) : Prop := Met l y ws rm (cPc X av P) (cQw r lo hi P') 0 0 (t_fr lo hi)
theorem cPc_blind {X : kX} {av : List Value} {P : Heap → Prop} : FrameBlind (cPc X av P) := fun a U g mk h => ⟨h.1, h.2.1, va_K.moved (u := U) (U := U.calling g mk a) (Vm.Alike.refl U.vm) h.2.2⟩
abbrev Fx (p : Program) (c : Code) (s : State) (m : MethodId) (args : Array Value) (Ts : List Cond) (own : String) (cc : ByteArray) (nL : Nat) (X : kX) : Prop := CallFix p m c cc nL s args Ts own ∧ kOK X s
abbrev Hp (A : Nat → Prop) (H0 : Heap) (z : Nat) (X : kX) (L : List Kd) (b : Nat) (V : Mem) (H : Heap) (locs : List Loc) : Prop := RP X L b V H ∧ va_S A H0 H locs ∧ H.size = z
theorem mt_head {l : Launch} {y : MethodName} {ws ws' : List Cond} {rm : Room} {X : kX} {av : List Value} {P : Heap → Prop} {Qc : Array Value → State → Outcome → State → Prop} {mc ms : Nat} {free : Addr → Prop} {cc : ByteArray} {maxL : Nat} {ret : Option FieldType} {own : String}
    (hy : plainName y.cls = true) (ho : y.cls = own) (hw : ws = Cond.code y cc maxL ret :: ws') (hn : (lg_sl av).length ≤ maxL)
    (body : ∀ (p : Program) (e : Env) (s : State) (m : MethodId) (below : List Frame) (meth : Method) (c : Code) (ls : Array Slot), Fx p c s m av.toArray ws own cc maxL X → meth.sig.returnType = ret → meth.locks = false → meth.name = y.name → P s.heap → lv_has ls maxL (lv_args 0 av) →
      W p l e rm s m av.toArray below meth c s.heap [] 0 0 (MQ below Qc av.toArray s mc ms free) (F0 m 0 ls [])) : Met l y ws rm (cPc X av P) Qc mc ms free := by
  refine Met.ofW (cc := cc) (maxL := maxL) (ret := ret) hy hw ?_
  intro p e s m args below meth c s₁ B hml hv
  obtain ⟨rfl, hP, hK⟩ := hv
  have hl := lv_entry av hn
  rw [lg_entry_eq]
  subst ho
  exact body p e s m below meth c _ ⟨⟨B.exec, B.bytes, hml, findClass_of_methodNamed B.named, atoms_spec (ws := ws) B.pre⟩, hK⟩ B.returns B.notSynchronized (name_of_methodNamed B.named B.method).1 hP hl
/-! the decompiled functions' words -/
def lt {α β : Type} (a : α) (f : α → β) : β := f a
theorem lt_el {α β : Type} {a : α} {f : α → β} {y : β} (h : lt a f = y) : ∃ x, a = x ∧ f x = y := ⟨a, rfl, h⟩
theorem bd_el {α β : Type} {o : Option α} {f : α → Option β} {y : β} (h : o.bind f = some y) : ∃ x, o = some x ∧ f x = some y := Option.bind_eq_some_iff.mp h
theorem gd_el {c : Prop} [Decidable c] {α : Type} {x : Option α} {y : α} (h : (if c then none else x) = some y) : ¬ c ∧ x = some y := by
  by_cases hc : c
  · rw [if_pos hc] at h
    cases h
  · rw [if_neg hc] at h
    exact ⟨hc, h⟩
def fuel : Nat := 8589934592
def it {σ ε : Type} (body : σ → Option (σ ⊕ ε)) : Nat → σ → Option ε
  | 0, _ => none
  | n + 1, s => (body s).bind (fun r => match r with
    | .inl s' => it body n s'
    | .inr e => some e)
theorem it_walk {σ ε : Type} {body : σ → Option (σ ⊕ ε)} (Wh : σ → Prop) (We : ε → Prop) (hl : ∀ s s', body s = some (.inl s') → Wh s' → Wh s) (hr : ∀ s e, body s = some (.inr e) → We e → Wh s) : ∀ (n : Nat) (s : σ) (e : ε), it body n s = some e → We e → Wh s
  | 0, s, e, h, _ => by cases h
  | n + 1, s, e, h, he => by
    obtain ⟨r, h1, h2⟩ := bd_el h
    cases r with
    | inl s' => exact hl s s' h1 (it_walk Wh We hl hr n s' e h2 he)
    | inr e' =>
      cases h2
      exact hr s e h1 he
theorem it_mono {σ ε : Type} {body : σ → Option (σ ⊕ ε)} : ∀ (n m : Nat) (s : σ) (e : ε), n ≤ m → it body n s = some e → it body m s = some e
  | 0, _, _, _, _, h => by cases h
  | n + 1, 0, _, _, hm, _ => by omega
  | n + 1, m + 1, s, e, hm, h => by
    obtain ⟨r, h1, h2⟩ := bd_el h
    show (body s).bind _ = _
    rw [h1]
    cases r with
    | inl s' => exact it_mono n m s' e (by omega) h2
    | inr e' => exact h2
theorem it_walk2 {σ ε : Type} {body : σ → Option (σ ⊕ ε)} (Wh : σ → Prop) (We : ε → Prop) (hb : ∀ s r, body s = some r → (∀ s', r = .inl s' → Wh s') → (∀ e, r = .inr e → We e) → Wh s) : ∀ (n : Nat) (s : σ) (e : ε), it body n s = some e → We e → Wh s
  | 0, s, e, h, _ => by cases h
  | n + 1, s, e, h, he => by
    obtain ⟨r, h1, h2⟩ := bd_el h
    refine hb s r h1 (fun s' hs => ?_) (fun e' hs => ?_)
    · subst hs
      exact it_walk2 Wh We hb n s' e h2 he
    · subst hs
      cases h2
      exact he
theorem sel_r {α β γ : Type} {f : α → γ} {g : β → γ} {s : β} {y : γ} (h : Sum.elim f g (.inr s) = y) : g s = y := h
theorem hp_cast {A : Nat → Prop} {H0 H : Heap} {z b : Nat} {X : kX} {L : List Kd} {V1 V2 : Mem} {locs : List Loc} (e : V1 = V2) (h : Hp A H0 z X L b V1 H locs) : Hp A H0 z X L b V2 H locs := e ▸ h
theorem ts_lo {x : Int32} {n : Nat} (hn : n < 2 ^ 31) (h : ∀ k, k < n → ¬ x = nI k) : x.toInt < 0 ∨ (n : Int) ≤ x.toInt := by
  rcases Int.lt_or_le x.toInt 0 with h1 | h1
  · exact Or.inl h1
  · refine Or.inr (Int.not_lt.mp fun h2 => ?_)
    refine h x.toInt.toNat (by omega) ?_
    apply Int32.toInt_inj.mp
    rw [nI_toInt (by omega)]
    omega
theorem ts_out3 {x : Int32} (h0 : ¬ x = 0) (h1 : ¬ x = 1) (h2 : ¬ x = 2) : x.toInt < 0 ∨ 2 < x.toInt := by
  have := ts_lo (x := x) (n := 3) (by decide) (fun k hk => by
    rcases (show k = 0 ∨ k = 1 ∨ k = 2 by omega) with rfl | rfl | rfl <;> assumption)
  omega
theorem ts_out7 {x : Int32} (h0 : ¬ x = 0) (h1 : ¬ x = 1) (h2 : ¬ x = 2) (h3 : ¬ x = 3) (h4 : ¬ x = 4) (h5 : ¬ x = 5) (h6 : ¬ x = 6) : x.toInt < 0 ∨ 6 < x.toInt := by
  have := ts_lo (x := x) (n := 7) (by decide) (fun k hk => by
    rcases (show k = 0 ∨ k = 1 ∨ k = 2 ∨ k = 3 ∨ k = 4 ∨ k = 5 ∨ k = 6 by omega) with rfl | rfl | rfl | rfl | rfl | rfl | rfl <;> assumption)
  omega
theorem ts_out9 {x : Int32} (h0 : ¬ x = 0) (h1 : ¬ x = 1) (h2 : ¬ x = 2) (h3 : ¬ x = 3) (h4 : ¬ x = 4) (h5 : ¬ x = 5) (h6 : ¬ x = 6) (h7 : ¬ x = 7) (h8 : ¬ x = 8) : x.toInt < 0 ∨ 8 < x.toInt := by
  have := ts_lo (x := x) (n := 9) (by decide) (fun k hk => by
    rcases (show k = 0 ∨ k = 1 ∨ k = 2 ∨ k = 3 ∨ k = 4 ∨ k = 5 ∨ k = 6 ∨ k = 7 ∨ k = 8 by omega) with rfl | rfl | rfl | rfl | rfl | rfl | rfl | rfl | rfl <;> assumption)
  omega
theorem ts_out11 {x : Int32} (h0 : ¬ x = 0) (h1 : ¬ x = 1) (h2 : ¬ x = 2) (h3 : ¬ x = 3) (h4 : ¬ x = 4) (h5 : ¬ x = 5) (h6 : ¬ x = 6) (h7 : ¬ x = 7) (h8 : ¬ x = 8) (h9 : ¬ x = 9) (h10 : ¬ x = 10) : x.toInt < 0 ∨ 10 < x.toInt := by
  have := ts_lo (x := x) (n := 11) (by decide) (fun k hk => by
    rcases (show k = 0 ∨ k = 1 ∨ k = 2 ∨ k = 3 ∨ k = 4 ∨ k = 5 ∨ k = 6 ∨ k = 7 ∨ k = 8 ∨ k = 9 ∨ k = 10 by omega) with rfl | rfl | rfl | rfl | rfl | rfl | rfl | rfl | rfl | rfl | rfl <;> assumption)
  omega
