/-! the relation of a World's memory w and the model's row s -/
def hI : Option Nat → Int32
  | none => -1006
  | some v => nI v
/-- a word's code: its letters as digits, the first the highest -/
def enc : List Nat → Nat → Nat
  | [], a => a
  | x :: r, a => enc r (27 * a + x)
def pT (w3 w5 w7 w9 s : Nat → Int32) : Prop := ∀ k, k < 2 → s (5 + 4 * k) = w3 k ∧ s (6 + 4 * k) = w5 k ∧ s (7 + 4 * k) = w7 k ∧ s (8 + 4 * k) = w9 k ∧ TB (w3 k) (w5 k) (w7 k) (w9 k)
def pG (w12 w14 w16 w18 s : Nat → Int32) : Prop := ∀ g, g < 4 → s (13 + 8 * g) = w12 g ∧ s (14 + 8 * g) = w14 g ∧ s (15 + 8 * g) = w16 g ∧ s (16 + 8 * g) = w18 g ∧ (∃ k : Nat, k < 2 ∧ w12 g = nI k) ∧ (∃ a : Nat, a ≤ 99 ∧ w14 g = nI a) ∧ (w16 g = 0 ∨ w16 g = 1) ∧ (w18 g = 0 ∨ w18 g = 1)
def pH (h : Nat → Option Nat) (w20 s : Nat → Int32) : Prop := ∀ g, g < 4 → w20 g = hI (h g) ∧ s (17 + 8 * g) = hI (h g)
def pD (d : Nat → Nat) (w22 w24 w26 s : Nat → Int32) : Prop := ∀ g, g < 4 → w22 g = nI (d g) ∧ s (18 + 8 * g) = nI (d g) ∧ s (19 + 8 * g) = w24 g ∧ s (20 + 8 * g) = w26 g
def pC (b : Int32) (n t : Nat) (w0 w26 w27 s : Nat → Int32) : Prop := w0 0 = nI t ∧ s 0 = nI t ∧ s 1 = w0 2 + b ∧ s 2 = w0 1 ∧ s 3 = csum 4 w26 ∧ w27 0 = nI n ∧ s 4 = nI n
def pRc (r : Nat → List Nat) (w39 w41 : Nat → Int32) : Prop := ∀ k, k < 2 → (r k).length ≤ 12 ∧ w41 k = nI (r k).length ∧ rowAt w39 (12 * k) (r k)
def pRs (r : Nat → List Nat) (s : Nat → Int32) : Prop := ∀ k, k < 2 → rowS s k (r k)
def pL (n : Nat) (L : Nat → List Nat) (w29 w31 s : Nat → Int32) : Prop := ∀ v, v < n → 1 ≤ (L v).length ∧ (L v).length ≤ 6 ∧ (∀ x ∈ L v, 1 ≤ x ∧ x ≤ 26) ∧ w29 v = nI (L v).length ∧ rowAt w31 (6 * v) ((L v).map (fun x => 96 + x)) ∧ s (71 + 5 * v) = nI (enc (L v) 0)
/-- has word v passed -/
def psd (w33 : Nat → Int32) (v : Nat) : Prop := ∃ a : Nat, a < 2147483648 ∧ w33 v = nI a
def pP (n : Nat) (w33 w35 w37 s : Nat → Int32) : Prop := ∀ v, v < n → s (73 + 5 * v) = w33 v ∧ s (74 + 5 * v) = w35 v ∧ s (75 + 5 * v) = w37 v ∧ ((w33 v = -1006 ∧ s (72 + 5 * v) = 0) ∨ (psd w33 v ∧ s (72 + 5 * v) = 1))
def hL (h : Nat → Option Nat) : List Nat := (h 0).toList ++ ((h 1).toList ++ ((h 2).toList ++ (h 3).toList))
def pX (n : Nat) (r : Nat → List Nat) (h : Nat → Option Nat) : Prop := n ≤ 12 ∧ (r 0 ++ (r 1 ++ hL h)).Perm (List.range n)
def pK (h : Nat → Option Nat) (d : Nat → Nat) (L : Nat → List Nat) (w33 : Nat → Int32) : Prop := ∀ g, g < 4 → (h g = none → d g = 0) ∧ ∀ v, h g = some v → w33 v = -1006 ∧ d g < (L v).length
/-- how many of the first n have passed, told from the model's row -/
def pN (n : Nat) (w24 s : Nat → Int32) : Prop := csum 4 w24 = csum n (fun v => s (72 + 5 * v))
def pZ (n : Nat) (w37 : Nat → Int32) : Prop := ∀ v, n ≤ v → v < 12 → w37 v = 0
/-- one world against the model's row -/
def RwE (b : Int32) (n t : Nat) (r : Nat → List Nat) (h : Nat → Option Nat) (d : Nat → Nat) (L : Nat → List Nat) (w : Mem) (s : Nat → Int32) : Prop :=
  pT (w 3) (w 5) (w 7) (w 9) s ∧ pG (w 12) (w 14) (w 16) (w 18) s ∧ pH h (w 20) s ∧ pD d (w 22) (w 24) (w 26) s ∧ pC b n t (w 0) (w 26) (w 27) s ∧ pRc r (w 39) (w 41) ∧ pRs r s ∧ pL n L (w 29) (w 31) s ∧ pP n (w 33) (w 35) (w 37) s ∧ pX n r h ∧ pK h d L (w 33) ∧ pN n (w 24) s ∧ pZ n (w 37)
def Rw (T : Nat) (w : Mem) (s : Nat → Int32) : Prop := ∃ n t r h d L, t ≤ T ∧ RwE 0 n t r h d L w s
/-! what a change of the model's row leaves -/
theorem pT.s {w3 w5 w7 w9 s s' : Nat → Int32} (h : pT w3 w5 w7 w9 s) (e : ∀ j, 5 ≤ j → j < 13 → s' j = s j) : pT w3 w5 w7 w9 s' := fun k hk => by
  rw [e _ (by omega) (by omega), e _ (by omega) (by omega), e _ (by omega) (by omega), e _ (by omega) (by omega)]
  exact h k hk
theorem pG.s {w12 w14 w16 w18 s s' : Nat → Int32} (h : pG w12 w14 w16 w18 s) (e : ∀ g q, g < 4 → q < 4 → s' (13 + q + 8 * g) = s (13 + q + 8 * g)) : pG w12 w14 w16 w18 s' := fun g hg => by
  have e0 := e g 0 hg (by decide)
  have e1 := e g 1 hg (by decide)
  have e2 := e g 2 hg (by decide)
  have e3 := e g 3 hg (by decide)
  rw [show s' (13 + 8 * g) = s (13 + 8 * g) from e0, show s' (14 + 8 * g) = s (14 + 8 * g) from e1, show s' (15 + 8 * g) = s (15 + 8 * g) from e2, show s' (16 + 8 * g) = s (16 + 8 * g) from e3]
  exact h g hg
theorem pC.s {b : Int32} {n t : Nat} {w0 w26 w27 s s' : Nat → Int32} (h : pC b n t w0 w26 w27 s) (e : ∀ j, j < 5 → s' j = s j) : pC b n t w0 w26 w27 s' := by
  unfold pC
  rw [e 0 (by decide), e 1 (by decide), e 2 (by decide), e 3 (by decide), e 4 (by decide)]
  exact h
theorem pRs.s {r : Nat → List Nat} {s s' : Nat → Int32} (h : pRs r s) (e : ∀ j, 45 ≤ j → j < 71 → s' j = s j) : pRs r s' := fun k hk => by
  obtain ⟨h1, h2, h3⟩ := h k hk
  exact ⟨h1, (e _ (by omega) (by omega)).trans h2, h3.congr (fun i hi => e _ (by omega) (by omega))⟩
theorem pL.s {n : Nat} {L : Nat → List Nat} {w29 w31 s s' : Nat → Int32} (h : pL n L w29 w31 s) (e : ∀ v, v < n → s' (71 + 5 * v) = s (71 + 5 * v)) : pL n L w29 w31 s' := fun v hv => by
  rw [e v hv]
  exact h v hv
theorem pP.s {n : Nat} {w33 w35 w37 s s' : Nat → Int32} (h : pP n w33 w35 w37 s) (e : ∀ v q, v < n → q < 4 → s' (72 + q + 5 * v) = s (72 + q + 5 * v)) : pP n w33 w35 w37 s' := fun v hv => by
  have e0 := e v 0 hv (by decide)
  have e1 := e v 1 hv (by decide)
  have e2 := e v 2 hv (by decide)
  have e3 := e v 3 hv (by decide)
  rw [show s' (72 + 5 * v) = s (72 + 5 * v) from e0, show s' (73 + 5 * v) = s (73 + 5 * v) from e1, show s' (74 + 5 * v) = s (74 + 5 * v) from e2, show s' (75 + 5 * v) = s (75 + 5 * v) from e3]
  exact h v hv
theorem pH.s {h : Nat → Option Nat} {w20 s s' : Nat → Int32} (p : pH h w20 s) (e : ∀ g, g < 4 → s' (17 + 8 * g) = s (17 + 8 * g)) : pH h w20 s' := fun g hg => by
  rw [e g hg]
  exact p g hg
theorem pD.s {d : Nat → Nat} {w22 w24 w26 s s' : Nat → Int32} (p : pD d w22 w24 w26 s) (e : ∀ g q, g < 4 → q < 3 → s' (18 + q + 8 * g) = s (18 + q + 8 * g)) : pD d w22 w24 w26 s' := fun g hg => by
  have e0 := e g 0 hg (by decide)
  have e1 := e g 1 hg (by decide)
  have e2 := e g 2 hg (by decide)
  rw [show s' (18 + 8 * g) = s (18 + 8 * g) from e0, show s' (19 + 8 * g) = s (19 + 8 * g) from e1, show s' (20 + 8 * g) = s (20 + 8 * g) from e2]
  exact p g hg
theorem csum_congr {f g : Nat → Int32} : ∀ n : Nat, (∀ i, i < n → f i = g i) → csum n f = csum n g
  | 0, _ => rfl
  | n + 1, h => by
    show csum n f + f n = csum n g + g n
    rw [csum_congr n (fun i hi => h i (by omega)), h n (by omega)]
theorem pN.s {n : Nat} {w24 s s' : Nat → Int32} (p : pN n w24 s) (e : ∀ v, v < n → s' (72 + 5 * v) = s (72 + 5 * v)) : pN n w24 s' := p.trans (csum_congr n (fun v hv => (e v hv).symm))
theorem i_swap (a b c x : Int32) : a - b + x + c = a + c - b + x := by
  rw [Int32.sub_eq_add_neg, Int32.sub_eq_add_neg]
  ac_rfl
theorem csum_upd {f : Nat → Int32} {j : Nat} (x : Int32) : ∀ n : Nat, j < n → csum n (upd f j x) = csum n f - f j + x
  | 0, h => by omega
  | n + 1, h => by
    show csum n (upd f j x) + upd f j x n = csum n f + f n - f j + x
    by_cases c : j = n
    · subst c
      rw [upd_at, csum_congr j (fun i hi => upd_ne (by omega)), Int32.add_sub_cancel]
    · rw [csum_upd x n (by omega), upd_ne (fun q => c q.symm), i_swap]
