/-! rows of words: what shifting does, the same on both sides -/
/-- the places a - 1 to a - 2 + m take over what stands one behind -/
def shd (a m : Nat) (f : Nat → Int32) : Nat → Int32 := fun j => if a ≤ j + 1 ∧ j + 1 < a + m then f (j + 1) else f j
/-- the places a + 1 to a + n take over what stands one ahead -/
def shu (a n : Nat) (f : Nat → Int32) : Nat → Int32 := fun j => if a < j ∧ j ≤ a + n then f (j - 1) else f j
def rowAt (f : Nat → Int32) (a : Nat) (r : List Nat) : Prop := ∀ i v : Nat, r[i]? = some v → f (a + i) = nI v
theorem rowAt.congr {f g : Nat → Int32} {a : Nat} {r : List Nat} (h : rowAt f a r) (hg : ∀ i, i < r.length → g (a + i) = f (a + i)) : rowAt g a r := fun i v hi => by
  rw [hg i (List.getElem?_eq_some_iff.mp hi).1]
  exact h i v hi
theorem rowAt.erase {f : Nat → Int32} {a : Nat} {r : List Nat} (h : rowAt f a r) {j : Nat} (hj : j < r.length) : rowAt (shd (a + j + 1) (r.length - (j + 1)) f) a (r.eraseIdx j) := by
  intro i v hi
  rw [List.getElem?_eraseIdx] at hi
  unfold shd
  by_cases c : i < j
  · rw [if_pos c] at hi
    rw [if_neg (by omega)]
    exact h i v hi
  · rw [if_neg c] at hi
    have := (List.getElem?_eq_some_iff.mp hi).1
    rw [if_pos (by omega)]
    exact h (i + 1) v hi
theorem rowAt.cons {f : Nat → Int32} {a : Nat} {r : List Nat} (h : rowAt f a r) (x : Nat) : rowAt (upd (shu a r.length f) a (nI x)) a (x :: r) := by
  intro i v hi
  cases i with
  | zero =>
    rw [List.getElem?_cons_zero] at hi
    cases hi
    rw [Nat.add_zero, upd_at]
  | succ i =>
    rw [List.getElem?_cons_succ] at hi
    have := (List.getElem?_eq_some_iff.mp hi).1
    rw [upd_ne (by omega)]
    unfold shu
    rw [if_pos (by omega), show a + (i + 1) - 1 = a + i by omega]
    exact h i v hi
theorem rowAt.snoc {f : Nat → Int32} {a : Nat} {r : List Nat} (h : rowAt f a r) (x : Nat) : rowAt (upd f (a + r.length) (nI x)) a (r ++ [x]) := by
  intro i v hi
  rcases Nat.lt_or_ge i r.length with hl | hl
  · rw [List.getElem?_append_left hl] at hi
    rw [upd_ne (by omega)]
    exact h i v hi
  · rw [List.getElem?_append_right hl] at hi
    have h1 : i - r.length < 1 := (List.getElem?_eq_some_iff.mp hi).1
    have h2 : i = r.length := by omega
    subst h2
    rw [Nat.sub_self, List.getElem?_cons_zero] at hi
    cases hi
    exact upd_at
/-! the class's rows: array 39 (12 places a store), lengths in 41 -/
theorem pl_nI (k i : Nat) : nI k * (12 : Int32) + nI i = nI (12 * k + i) := by
  show nI k * nI 12 + nI i = _
  rw [pk_mul, nI_add, Nat.mul_comm]
theorem pl_nI1 (k i : Nat) : nI k * (12 : Int32) + nI (i + 1) - 1 = nI (12 * k + i) := by
  rw [pl_nI]
  show nI (12 * k + (i + 1)) - nI 1 = _
  rw [pk_sub (by omega), show 12 * k + (i + 1) - 1 = 12 * k + i by omega]
theorem pl_nI0 (k : Nat) : nI k * (12 : Int32) = nI (12 * k) := by
  show nI k * nI 12 = _
  rw [pk_mul, Nat.mul_comm]
theorem cpv_k {V : Mem} {j : Nat} {f : Nat → Int32} {q : Nat} (h : q ≠ j) : cpv V j f q = V q := by unfold cpv; rw [if_neg h]
theorem cpv_at {V : Mem} {j : Nat} {f : Nat → Int32} : cpv V j f j = f := by unfold cpv; rw [if_pos rfl]
theorem sv_cpv (V : Mem) (k i : Nat) (v : Int32) : sv V k i v = cpv V k (upd (V k) i v) := by
  funext q j
  unfold sv cpv upd
  by_cases h : q = k
  · subst h
    rw [if_pos rfl]
    by_cases h2 : j = i
    · rw [if_pos ⟨rfl, h2⟩, if_pos h2]
    · rw [if_neg (fun z => h2 z.2), if_neg h2]
  · rw [if_neg (fun z => h z.1), if_neg h]
theorem cpv_cpv (V : Mem) (k : Nat) (f g : Nat → Int32) : cpv (cpv V k f) k g = cpv V k g := by
  funext q
  unfold cpv
  by_cases h : q = k
  · rw [if_pos h, if_pos h]
  · rw [if_neg h, if_neg h, if_neg h]
theorem cpv_id (V : Mem) (k : Nat) : cpv V k (V k) = V := by
  funext q
  unfold cpv
  by_cases h : q = k
  · rw [if_pos h, h]
  · rw [if_neg h]
theorem shDn_cl {k : Nat} (hk : k < 2) : ∀ (m p : Nat) (w : Mem), 1 ≤ p → p + m ≤ 12 → shDn (nI k) m p w = cpv w 39 (shd (12 * k + p) m (w 39))
  | 0, p, w, _, _ => by
    have e : shd (12 * k + p) 0 (w 39) = w 39 := by
      funext j
      unfold shd
      rw [if_neg (by omega)]
    rw [e, cpv_id]
    rfl
  | m + 1, p, w, h1, h2 => by
    obtain ⟨p0, rfl⟩ : ∃ q, p = q + 1 := ⟨p - 1, by omega⟩
    show shDn (nI k) m (p0 + 1 + 1) (cset w 39 24 (nI k * 12 + nI (p0 + 1) - 1) (cget 24 (w 39) (nI k * 12 + nI (p0 + 1)))) = _
    rw [pl_nI1, pl_nI, cget_nI (by omega), cset_nI (by omega), shDn_cl hk m (p0 + 1 + 1) _ (by omega) (by omega), sv_cpv, cpv_cpv, cpv_at]
    congr 1
    funext j
    unfold shd upd
    by_cases c1 : 12 * k + (p0 + 1 + 1) ≤ j + 1 ∧ j + 1 < 12 * k + (p0 + 1 + 1) + m
    · rw [if_pos c1, if_neg (by omega), if_pos (by omega)]
    · rw [if_neg c1]
      by_cases c2 : j = 12 * k + p0
      · rw [if_pos c2, if_pos (by omega), c2]
        congr 1
      · rw [if_neg c2, if_neg (by omega)]
theorem shUp_cl {k : Nat} (hk : k < 2) : ∀ (n : Nat) (w : Mem), n ≤ 11 → shUp (nI k) n w = cpv w 39 (shu (12 * k) n (w 39))
  | 0, w, _ => by
    have e : shu (12 * k) 0 (w 39) = w 39 := by
      funext j
      unfold shu
      rw [if_neg (by omega)]
    rw [e, cpv_id]
    rfl
  | n + 1, w, h => by
    show shUp (nI k) n (cset w 39 24 (nI k * 12 + nI (n + 1)) (cget 24 (w 39) (nI k * 12 + nI (n + 1) - 1))) = _
    rw [pl_nI1, pl_nI, cget_nI (by omega), cset_nI (by omega), shUp_cl hk n _ (by omega), sv_cpv, cpv_cpv, cpv_at]
    congr 1
    funext j
    unfold shu upd
    by_cases c1 : 12 * k < j ∧ j ≤ 12 * k + n
    · rw [if_pos c1, if_neg (by omega), if_pos (by omega)]
    · rw [if_neg c1]
      by_cases c2 : j = 12 * k + (n + 1)
      · rw [if_pos c2, if_pos (by omega), c2]
        congr 1
      · rw [if_neg c2, if_neg (by omega)]
def rowC (w : Mem) (k : Nat) (r : List Nat) : Prop := r.length ≤ 12 ∧ w 41 k = nI r.length ∧ rowAt (w 39) (12 * k) r
theorem c_addLast {w : Mem} {k : Nat} (hk : k < 2) {r : List Nat} (h : rowC w k r) (hl : r.length < 12) (x : Nat) : fX4_addLast w (nI k) (nI x) = sv (sv w 39 (12 * k + r.length) (nI x)) 41 k (nI (r.length + 1)) := by
  unfold fX4_addLast lt
  rw [cget_nI hk, h.2.1]
  dsimp only
  rw [if_neg (show ¬ (12 : Int32) ≤ nI r.length from nI_ge (b := 12) hl (by decide)), pl_nI, cset_nI hk, cset_nI (by omega), nI_1]
theorem c_addFirst {w : Mem} {k : Nat} (hk : k < 2) {r : List Nat} (h : rowC w k r) (hl : r.length < 12) (x : Nat) : fX4_addFirst w (nI k) (nI x) = sv (cpv w 39 (upd (shu (12 * k) r.length (w 39)) (12 * k) (nI x))) 41 k (nI (r.length + 1)) := by
  unfold fX4_addFirst
  rw [cget_nI hk, h.2.1, if_neg (show ¬ (12 : Int32) ≤ nI r.length from nI_ge (b := 12) hl (by decide)), nI_clamp (by omega), shUp_cl hk _ _ (by omega), pl_nI0, cset_nI hk, cset_nI (by omega), sv_cpv _ 39, cpv_cpv, cpv_at, nI_1]
theorem c_removeFrom {w : Mem} {k : Nat} (hk : k < 2) {r : List Nat} (h : rowC w k r) {j : Nat} (hj : j < r.length) : fX4_removeFrom w (nI k) j = sv (cpv w 39 (shd (12 * k + j + 1) (r.length - (j + 1)) (w 39))) 41 k (nI (r.length - 1)) := by
  have hl := h.1
  unfold fX4_removeFrom
  rw [cget_nI hk, h.2.1, nI_clamp (by omega), shDn_cl hk _ _ _ (by omega) (by omega), cset_nI hk]
  rw [show nI r.length - (1 : Int32) = nI (r.length - 1) from pk_sub (a := r.length) (b := 1) (by omega), show 12 * k + (j + 1) = 12 * k + j + 1 by omega]
