theorem it_for {σ ε : Type} {body : σ → Option (σ ⊕ ε)} (I : Nat → σ) (n : Nat) {e : ε} (hs : ∀ i, i < n → body (I i) = some (.inl (I (i + 1)))) (he : body (I n) = some (.inr e)) (f : Nat) (hf : n < f) : it body f (I 0) = some e := by
  have key : ∀ k i f, i + k = n → k < f → it body f (I i) = some e := by
    intro k
    induction k with
    | zero =>
      intro i f h1 h2
      obtain ⟨f, rfl⟩ : ∃ g, f = g + 1 := ⟨f - 1, by omega⟩
      have : i = n := by omega
      subst this
      show (body (I i)).bind _ = _
      rw [he]
      rfl
    | succ k ih =>
      intro i f h1 h2
      obtain ⟨f, rfl⟩ : ∃ g, f = g + 1 := ⟨f - 1, by omega⟩
      show (body (I i)).bind _ = _
      rw [hs i (by omega)]
      exact ih (i + 1) f (by omega) (by omega)
  exact key n 0 f (by omega) hf
theorem fuel_lt {n : Nat} (h : n ≤ 2 ^ 32) : n < fuel := by
  unfold fuel
  omega
theorem r32 (r : Int32) : r.toNatClampNeg < 2 ^ 31 := by
  have h := Int32.toInt_lt r
  show r.toInt.toNat < 2 ^ 31
  omega
theorem r_lt {r : Int32} {i : Nat} (h : i < r.toNatClampNeg) : ¬ r ≤ nI i := by
  have hi : i < 2 ^ 31 := by have := r32 r; omega
  rw [Int32.le_iff_toInt_le, nI_toInt hi]
  have : i < r.toInt.toNat := h
  omega
theorem r_ge (r : Int32) : r ≤ nI r.toNatClampNeg := by
  rw [Int32.le_iff_toInt_le, nI_toInt (r32 r)]
  show r.toInt ≤ ((r.toInt.toNat : Nat) : Int)
  omega
theorem r_pos {r : Int32} (h : 0 ≤ r) : r = nI r.toNatClampNeg := by
  apply Int32.toInt_inj.mp
  rw [nI_toInt (r32 r)]
  have : (0 : Int) ≤ r.toInt := by simpa using Int32.le_iff_toInt_le.mp h
  show r.toInt = ((r.toInt.toNat : Nat) : Int)
  omega
theorem r_neg {r : Int32} (h : ¬ 0 ≤ r) : r.toNatClampNeg = 0 := by
  have : r.toInt < 0 := by
    have := Int32.not_le.mp h
    simpa using Int32.lt_iff_toInt_lt.mp this
  show r.toInt.toNat = 0
  omega
/-- the first of the k numbers from i on with p -/
def fndO (p : Nat → Bool) : Nat → Nat → Option Nat
  | 0, _ => none
  | k + 1, i => if p i then some i else fndO p k (i + 1)
def fnd (p : Nat → Bool) (n : Nat) : Int32 := (fndO p n 0).elim (-1006) nI
/-- a search: at the first place with p it leaves by g, else by e -/
theorem it_fnd {σ ε : Type} {body : σ → Option (σ ⊕ ε)} (I : Nat → σ) (p : Nat → Bool) (g : Nat → ε) (e : ε) (n : Nat) (hs : ∀ i, i < n → body (I i) = if p i then some (.inr (g i)) else some (.inl (I (i + 1)))) (he : body (I n) = some (.inr e)) (f : Nat) (hf : n < f) : it body f (I 0) = some ((fndO p n 0).elim e g) := by
  have key : ∀ k i f, i + k = n → k < f → it body f (I i) = some ((fndO p k i).elim e g) := by
    intro k
    induction k with
    | zero =>
      intro i f h1 h2
      obtain ⟨f, rfl⟩ : ∃ g, f = g + 1 := ⟨f - 1, by omega⟩
      have : i = n := by omega
      subst this
      show (body (I i)).bind _ = _
      rw [he]
      rfl
    | succ k ih =>
      intro i f h1 h2
      obtain ⟨f, rfl⟩ : ∃ g, f = g + 1 := ⟨f - 1, by omega⟩
      show (body (I i)).bind _ = _
      rw [hs i (by omega)]
      by_cases hp : p i
      · rw [if_pos hp]
        show some (g i) = some ((if p i then some i else fndO p k (i + 1)).elim e g)
        rw [if_pos hp]
        rfl
      · rw [if_neg hp]
        show it body f (I (i + 1)) = some ((if p i then some i else fndO p k (i + 1)).elim e g)
        rw [if_neg hp]
        exact ih (i + 1) f (by omega) (by omega)
  exact key n 0 f (by omega) hf
def fld {α : Type} (f : Nat → α → α) : Nat → α → α
  | 0, a => a
  | n + 1, a => f n (fld f n a)
/-! Cells, in closed form -/
theorem tX0_get {n : Nat} (hn : n < 2 ^ 31) (V : Mem) (a1 : Int32) : qX0_get n V a1 = some (cget n (V 1) a1) := by
  unfold qX0_get cget
  by_cases h : a1 < 0
  · rw [if_pos h, if_pos (Or.inl h)]
  · rw [if_neg h]
    by_cases h2 : nI n ≤ a1
    · rw [if_pos h2, if_pos (Or.inr ((nI_le_iff hn h).mp h2))]
    · have h3 : ¬ (a1 < 0 ∨ n ≤ a1.toNatClampNeg) := fun h9 => h9.elim h (fun q => h2 ((nI_le_iff hn h).mpr q))
      rw [if_neg h2, if_neg h3, if_neg h3]
theorem tX0_set {n : Nat} (hn : n < 2 ^ 31) (V : Mem) (a1 a2 : Int32) : qX0_set n V a1 a2 = some (cset V 1 n a1 a2) := by
  unfold qX0_set cset lt
  by_cases h : a1 < 0
  · rw [if_pos h, if_pos (Or.inl h)]
  · rw [if_neg h]
    by_cases h2 : nI n ≤ a1
    · rw [if_pos h2, if_pos (Or.inr ((nI_le_iff hn h).mp h2))]
    · have h3 : ¬ (a1 < 0 ∨ n ≤ a1.toNatClampNeg) := fun h9 => h9.elim h (fun q => h2 ((nI_le_iff hn h).mpr q))
      rw [if_neg h2, if_neg h3, if_neg h3]
theorem tX0_add {n : Nat} (hn : n < 2 ^ 31) (V : Mem) (a1 a2 : Int32) : qX0_add n V a1 a2 = some (cadd V 1 n a1 a2) := by
  unfold qX0_add cadd lt
  by_cases h : a1 < 0
  · rw [if_pos h, if_pos (Or.inl h)]
  · rw [if_neg h]
    by_cases h2 : nI n ≤ a1
    · rw [if_pos h2, if_pos (Or.inr ((nI_le_iff hn h).mp h2))]
    · have h3 : ¬ (a1 < 0 ∨ n ≤ a1.toNatClampNeg) := fun h9 => h9.elim h (fun q => h2 ((nI_le_iff hn h).mpr q))
      rw [if_neg h2, if_neg h3, if_neg h3]
theorem tX0_sum {n : Nat} (hn : n < 2 ^ 31) (V : Mem) : qX0_sum n V = some (csum n (V 1)) := by
  have h : it (lbX0_sum_4 n V) fuel ((0 : Int32), (0 : Int32)) = some (csum n (V 1), nI n) := by
    refine it_for (fun i => (csum i (V 1), nI i)) n (fun i hi => ?_) ?_ fuel (fuel_lt (by omega))
    · have h1 : i < 2 ^ 31 := by omega
      unfold lbX0_sum_4
      dsimp only
      rw [if_neg (fun h => Nat.not_le.mpr hi ((nI_leI hn h1).mp h)), if_neg (by rw [nI_clamp h1]; exact fun h => h.elim (nI_pos h1) (fun q => by omega)), nI_clamp h1, nI_1]
      rfl
    · unfold lbX0_sum_4
      dsimp only
      rw [if_pos (nI_le (Nat.le_refl _) hn)]
  unfold qX0_sum
  rw [h]
  rfl
theorem kX0_get (l : Launch) (X : kX) (n : Nat) (hn : n < 2 ^ 31) (b : Nat) (V : Mem) (a1 out : Int32) (hE : cget n (V 1) a1 = out) : MR l yX0_get wsX0_get rmX0_get X [.ref b, .int a1] (RP X (LC n) b V) (some (.int out)) := mX0_get l X n hn b V a1 out ((tX0_get hn V a1).trans (congrArg some hE))
theorem kX0_set (l : Launch) (X : kX) (n : Nat) (hn : n < 2 ^ 31) (b : Nat) (V : Mem) (a1 a2 : Int32) (out : Mem) (hE : cset V 1 n a1 a2 = out) : MW l yX0_set wsX0_set rmX0_set X [.ref b, .int a1, .int a2] (RP X (LC n) b V) none b (b + (LC n).length) (RP X (LC n) b out) := mX0_set l X n hn b V a1 a2 out ((tX0_set hn V a1 a2).trans (congrArg some hE))
theorem kX0_add (l : Launch) (X : kX) (n : Nat) (hn : n < 2 ^ 31) (b : Nat) (V : Mem) (a1 a2 : Int32) (out : Mem) (hE : cadd V 1 n a1 a2 = out) : MW l yX0_add wsX0_add rmX0_add X [.ref b, .int a1, .int a2] (RP X (LC n) b V) none b (b + (LC n).length) (RP X (LC n) b out) := mX0_add l X n hn b V a1 a2 out ((tX0_add hn V a1 a2).trans (congrArg some hE))
theorem kX0_sum (l : Launch) (X : kX) (n : Nat) (hn : n < 2 ^ 31) (b : Nat) (V : Mem) (out : Int32) (hE : csum n (V 1) = out) : MR l yX0_sum wsX0_sum rmX0_sum X [.ref b] (RP X (LC n) b V) (some (.int out)) := mX0_sum l X n hn b V out ((tX0_sum hn V).trans (congrArg some hE))
