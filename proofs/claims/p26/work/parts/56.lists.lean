/-! rows, holders and their words: what a change makes of the lists -/
def ur {α : Type} (f : Nat → α) (k : Nat) (x : α) : Nat → α := fun q => if q = k then x else f q
theorem ur_at {α : Type} {f : Nat → α} {k : Nat} {x : α} : ur f k x k = x := if_pos rfl
theorem ur_ne {α : Type} {f : Nat → α} {k q : Nat} {x : α} (h : q ≠ k) : ur f k x q = f q := if_neg h
theorem ur_ur {α : Type} {f : Nat → α} {k : Nat} {x y : α} (h : f k = y) : ur (ur f k x) k y = f := by
  funext q
  by_cases c : q = k
  · rw [c, ur_at, h]
  · rw [ur_ne c, ur_ne c]
theorem hL_some {h : Nat → Option Nat} {g v : Nat} (hg : g < 4) (e : h g = some v) : (hL h).Perm (v :: hL (ur h g none)) := by
  obtain rfl | rfl | rfl | rfl : g = 0 ∨ g = 1 ∨ g = 2 ∨ g = 3 := by omega
  · unfold hL
    rw [e]
    exact List.Perm.refl _
  · unfold hL
    rw [e]
    exact List.perm_middle
  · unfold hL
    rw [e]
    exact (List.Perm.append_left _ List.perm_middle).trans List.perm_middle
  · unfold hL
    rw [e]
    exact (List.Perm.append_left _ ((List.Perm.append_left _ List.perm_middle).trans List.perm_middle)).trans List.perm_middle
theorem hL_none {h : Nat → Option Nat} {g v : Nat} (hg : g < 4) (e : h g = none) : (hL (ur h g (some v))).Perm (v :: hL h) := by
  have h1 := hL_some (h := ur h g (some v)) (v := v) hg ur_at
  rw [ur_ur e] at h1
  exact h1
theorem rows_more {r : Nat → List Nat} {k v : Nat} (hk : k < 2) {l : List Nat} (hl : l.Perm (v :: r k)) (X : List Nat) : (ur r k l 0 ++ (ur r k l 1 ++ X)).Perm (v :: (r 0 ++ (r 1 ++ X))) := by
  obtain rfl | rfl : k = 0 ∨ k = 1 := by omega
  · exact List.Perm.append_right _ hl
  · exact (List.Perm.append_left _ (List.Perm.append_right X hl)).trans List.perm_middle
theorem perm_erase : ∀ {l : List Nat} {j v : Nat}, l[j]? = some v → l.Perm (v :: l.eraseIdx j)
  | [], _, _, h => by cases h
  | x :: l, 0, v, h => by
    cases h
    exact List.Perm.refl _
  | x :: l, j + 1, v, h => ((perm_erase (l := l) (j := j) h).cons x).trans (List.perm_middle (l₁ := [x]))
/-- a word held goes to a row -/
theorem pX.toRow {n g v k : Nat} {r : Nat → List Nat} {h : Nat → Option Nat} (p : pX n r h) (hg : g < 4) (e : h g = some v) (hk : k < 2) {l : List Nat} (hl : l.Perm (v :: r k)) : pX n (ur r k l) (ur h g none) := by
  refine ⟨p.1, (rows_more hk hl _).trans (List.Perm.trans ?_ p.2)⟩
  exact (List.perm_middle.symm.trans (List.Perm.append_left _ List.perm_middle.symm)).trans (List.Perm.append_left _ (List.Perm.append_left _ (hL_some hg e).symm))
/-- a word of a row is taken -/
theorem pX.toGate {n g v k j : Nat} {r : Nat → List Nat} {h : Nat → Option Nat} (p : pX n r h) (hg : g < 4) (e : h g = none) (hk : k < 2) (hj : (r k)[j]? = some v) : pX n (ur r k ((r k).eraseIdx j)) (ur h g (some v)) := by
  refine ⟨p.1, List.Perm.trans ?_ p.2⟩
  have h1 := rows_more (r := ur r k ((r k).eraseIdx j)) (k := k) (v := v) hk (l := r k) (by rw [ur_at]; exact perm_erase hj) (hL h)
  rw [ur_ur rfl] at h1
  exact ((List.Perm.append_left _ ((List.Perm.append_left _ (hL_none hg e)).trans List.perm_middle)).trans List.perm_middle).trans h1.symm
theorem pX.lt {n v : Nat} {r : Nat → List Nat} {h : Nat → Option Nat} (p : pX n r h) (hv : v ∈ r 0 ++ (r 1 ++ hL h)) : v < n := List.mem_range.mp (p.2.mem_iff.mp hv)
theorem pX.row_lt {n v k : Nat} {r : Nat → List Nat} {h : Nat → Option Nat} (p : pX n r h) (hk : k < 2) (hv : v ∈ r k) : v < n := by
  obtain rfl | rfl : k = 0 ∨ k = 1 := by omega
  · exact p.lt (List.mem_append_left _ hv)
  · exact p.lt (List.mem_append_right _ (List.mem_append_left _ hv))
theorem pX.held_lt {n v g : Nat} {r : Nat → List Nat} {h : Nat → Option Nat} (p : pX n r h) (hg : g < 4) (e : h g = some v) : v < n :=
  p.lt (List.mem_append_right _ (List.mem_append_right _ ((hL_some hg e).mem_iff.mpr List.mem_cons_self)))
theorem pX.room {n v k g : Nat} {r : Nat → List Nat} {h : Nat → Option Nat} (p : pX n r h) (hk : k < 2) (hg : g < 4) (e : h g = some v) : (r k).length < 12 := by
  have h1 := p.2.length_eq
  have h2 := (hL_some hg e).length_eq
  have h3 := p.1
  rw [List.length_append, List.length_append, List.length_range] at h1
  rw [List.length_cons] at h2
  obtain rfl | rfl : k = 0 ∨ k = 1 := by omega
  · omega
  · omega
theorem pRc.cons {r : Nat → List Nat} {w39 w41 : Nat → Int32} (p : pRc r w39 w41) {k : Nat} (hk : k < 2) (hl : (r k).length < 12) (x : Nat) : pRc (ur r k (x :: r k)) (upd (shu (12 * k) (r k).length w39) (12 * k) (nI x)) (upd w41 k (nI ((r k).length + 1))) := fun q hq => by
  obtain ⟨a1, a2, a3⟩ := p q hq
  by_cases c : q = k
  · subst c
    rw [ur_at]
    exact ⟨hl, upd_at, a3.cons x⟩
  · rw [ur_ne c, upd_ne c]
    refine ⟨a1, a2, a3.congr (fun i hi => ?_)⟩
    rw [upd_ne (by omega)]
    unfold shu
    rw [if_neg (by omega)]
theorem pRc.snoc {r : Nat → List Nat} {w39 w41 : Nat → Int32} (p : pRc r w39 w41) {k : Nat} (hk : k < 2) (hl : (r k).length < 12) (x : Nat) : pRc (ur r k (r k ++ [x])) (upd w39 (12 * k + (r k).length) (nI x)) (upd w41 k (nI ((r k).length + 1))) := fun q hq => by
  obtain ⟨a1, a2, a3⟩ := p q hq
  by_cases c : q = k
  · subst c
    rw [ur_at]
    refine ⟨?_, ?_, a3.snoc x⟩
    · rw [List.length_append]
      exact hl
    · rw [upd_at, List.length_append]
      rfl
  · rw [ur_ne c, upd_ne c]
    exact ⟨a1, a2, a3.congr (fun i hi => upd_ne (by omega))⟩
theorem pRc.erase {r : Nat → List Nat} {w39 w41 : Nat → Int32} (p : pRc r w39 w41) {k j : Nat} (hk : k < 2) (hj : j < (r k).length) : pRc (ur r k ((r k).eraseIdx j)) (shd (12 * k + j + 1) ((r k).length - (j + 1)) w39) (upd w41 k (nI ((r k).length - 1))) := fun q hq => by
  obtain ⟨a1, a2, a3⟩ := p q hq
  have a0 := (p k hk).1
  by_cases c : q = k
  · subst c
    rw [ur_at]
    have e := List.length_eraseIdx_of_lt hj
    refine ⟨by omega, ?_, a3.erase hj⟩
    rw [upd_at, e]
  · rw [ur_ne c, upd_ne c]
    refine ⟨a1, a2, a3.congr (fun i hi => ?_)⟩
    unfold shd
    rw [if_neg (by omega)]
theorem pRs.cons {r : Nat → List Nat} {s : Nat → Int32} (p : pRs r s) {k : Nat} (hk : k < 2) (hl : (r k).length < 12) (x : Nat) : pRs (ur r k (x :: r k)) (upd (upd (shu (47 + 12 * k) (r k).length s) (47 + 12 * k) (nI x)) (45 + k) (nI ((r k).length + 1))) := fun q hq => by
  obtain ⟨a1, a2, a3⟩ := p q hq
  by_cases c : q = k
  · subst c
    rw [ur_at]
    exact ⟨hl, upd_at, (a3.cons x).congr (fun i hi => upd_ne (by omega))⟩
  · rw [ur_ne c]
    refine ⟨a1, ?_, a3.congr (fun i hi => ?_)⟩
    · rw [upd_ne (by omega), upd_ne (by omega)]
      unfold shu
      rw [if_neg (by omega)]
      exact a2
    · rw [upd_ne (by omega), upd_ne (by omega)]
      unfold shu
      rw [if_neg (by omega)]
theorem pRs.snoc {r : Nat → List Nat} {s : Nat → Int32} (p : pRs r s) {k : Nat} (hk : k < 2) (hl : (r k).length < 12) (x : Nat) : pRs (ur r k (r k ++ [x])) (upd (upd s (47 + 12 * k + (r k).length) (nI x)) (45 + k) (nI ((r k).length + 1))) := fun q hq => by
  obtain ⟨a1, a2, a3⟩ := p q hq
  by_cases c : q = k
  · subst c
    rw [ur_at]
    refine ⟨?_, ?_, (a3.snoc x).congr (fun i hi => upd_ne (by omega))⟩
    · rw [List.length_append]
      exact hl
    · rw [upd_at, List.length_append]
      rfl
  · rw [ur_ne c]
    refine ⟨a1, ?_, a3.congr (fun i hi => ?_)⟩
    · rw [upd_ne (by omega), upd_ne (by omega)]
      exact a2
    · rw [upd_ne (by omega), upd_ne (by omega)]
theorem shd_upd {a m b j : Nat} {s : Nat → Int32} {x : Int32} (h1 : j ≠ b) (h2 : j + 1 ≠ b) : shd a m (upd s b x) j = shd a m s j := by
  unfold shd
  rw [upd_ne h1, upd_ne h2]
theorem pRs.erase {r : Nat → List Nat} {s : Nat → Int32} (p : pRs r s) {k j : Nat} (hk : k < 2) (hj : j < (r k).length) : pRs (ur r k ((r k).eraseIdx j)) (tkS s k (r k).length j) := fun q hq => by
  obtain ⟨a1, a2, a3⟩ := p q hq
  have a0 := (p k hk).1
  by_cases c : q = k
  · subst c
    rw [ur_at]
    have e := List.length_eraseIdx_of_lt hj
    refine ⟨by omega, ?_, (a3.erase hj).congr (fun i hi => ?_)⟩
    · unfold tkS
      rw [upd_ne (by omega)]
      unfold shd
      rw [if_neg (by omega), upd_at, e]
    · unfold tkS
      rw [upd_ne (by omega), shd_upd (by omega) (by omega)]
  · rw [ur_ne c]
    refine ⟨a1, ?_, a3.congr (fun i hi => ?_)⟩
    · unfold tkS
      rw [upd_ne (by omega)]
      unfold shd
      rw [if_neg (by omega), upd_ne (by omega)]
      exact a2
    · unfold tkS
      rw [upd_ne (by omega), shd_upd (by omega) (by omega)]
      unfold shd
      rw [if_neg (by omega)]
