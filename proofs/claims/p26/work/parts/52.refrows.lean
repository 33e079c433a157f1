/-! the model's rows: lengths in 45, 46, places from 47 on, 12 a store -/
def rowS (s : Nat → Int32) (k : Nat) (r : List Nat) : Prop := r.length ≤ 12 ∧ s (45 + k) = nI r.length ∧ rowAt s (47 + 12 * k) r
theorem n45 (k : Nat) : (45 : Int32) + nI k = nI (45 + k) := nI_add 45 k
theorem fndO_ge0 {p : Nat → Bool} : ∀ (k i j : Nat), fndO p k i = some j → i ≤ j ∧ j < i + k ∧ p j = true ∧ ∀ q, i ≤ q → q < j → p q = false
  | 0, i, j, h => by cases h
  | k + 1, i, j, h => by
    unfold fndO at h
    by_cases hp : p i = true
    · rw [if_pos hp] at h
      cases h
      exact ⟨Nat.le_refl _, by omega, hp, fun q h1 h2 => by omega⟩
    · rw [if_neg hp] at h
      obtain ⟨h1, h2, h3, h4⟩ := fndO_ge0 k (i + 1) j h
      refine ⟨by omega, by omega, h3, fun q h5 h6 => ?_⟩
      by_cases e : q = i
      · subst e
        exact Bool.eq_false_iff.mpr hp
      · exact h4 q (by omega) h6
theorem fndO_ge {p : Nat → Bool} {k i j : Nat} (h : fndO p k i = some j) : i ≤ j ∧ j < i + k ∧ p j = true ∧ ∀ q, i ≤ q → q < j → p q = false := fndO_ge0 k i j h
theorem fndO_lt {p : Nat → Bool} {n j : Nat} (h : fndO p n 0 = some j) : j < n := by
  have := (fndO_ge h).2.1
  omega
theorem fndO_none {p : Nat → Bool} : ∀ (k i : Nat), fndO p k i = none → ∀ q, i ≤ q → q < i + k → p q = false
  | 0, i, _, q, h1, h2 => by omega
  | k + 1, i, h, q, h1, h2 => by
    unfold fndO at h
    by_cases hp : p i = true
    · rw [if_pos hp] at h
      cases h
    · rw [if_neg hp] at h
      by_cases e : q = i
      · subst e
        exact Bool.eq_false_iff.mpr hp
      · exact fndO_none k (i + 1) h q (by omega) (by omega)
theorem fndO_congr {p q : Nat → Bool} : ∀ (k i : Nat), (∀ j, i ≤ j → j < i + k → p j = q j) → fndO p k i = fndO q k i
  | 0, _, _ => rfl
  | k + 1, i, h => by
    unfold fndO
    rw [h i (Nat.le_refl _) (by omega), fndO_congr k (i + 1) (fun j h1 h2 => h j (by omega) (by omega))]
theorem r_comes {S : Mem} {k : Nat} (hk : k < 2) {r : List Nat} (h : rowS (S 1) k r) (hl : r.length < 12) (x : Int32) : qX7_comes S (nI k) x = some (sv (sv S 1 (47 + 12 * k + r.length) x) 1 (45 + k) (nI (r.length + 1))) := by
  unfold qX7_comes lt
  dsimp only
  rw [n45, nI_clamp (n := 45 + k) (by omega), h.2.1, inRow_nI, nI_clamp (n := 47 + 12 * k + r.length) (by omega), sv_j (by omega), h.2.1, nI_1]
  rw [if_neg (fun h9 => h9.elim (nI_pos (by omega)) (fun q => by omega)), if_neg (fun h9 => h9.elim (nI_pos (by omega)) (fun q => by omega))]
theorem it_gb {k : Nat} (hk : k < 2) : ∀ (n : Nat) (S : Mem) (f : Nat), n ≤ 11 → n < f → it (lbX7_goesBack_10 (nI k)) f (nI n, S) = some (nI 0, cpv S 1 (shu (47 + 12 * k) n (S 1)))
  | 0, S, f, _, hf => by
    obtain ⟨f, rfl⟩ : ∃ g, f = g + 1 := ⟨f - 1, by omega⟩
    have e : lbX7_goesBack_10 (nI k) (nI 0, S) = some (.inr (nI 0, S)) := by
      unfold lbX7_goesBack_10
      dsimp only
      rw [if_pos (show nI 0 ≤ 0 from nI_le (a := 0) (b := 0) (Nat.le_refl _) (by decide))]
    have e2 : shu (47 + 12 * k) 0 (S 1) = S 1 := by
      funext j
      unfold shu
      rw [if_neg (by omega)]
    show (lbX7_goesBack_10 (nI k) (nI 0, S)).bind _ = _
    rw [e, e2, cpv_id]
    rfl
  | n + 1, S, f, hn, hf => by
    obtain ⟨f, rfl⟩ : ∃ g, f = g + 1 := ⟨f - 1, by omega⟩
    have e : lbX7_goesBack_10 (nI k) (nI (n + 1), S) = some (.inl (nI n, sv S 1 (47 + 12 * k + (n + 1)) (S 1 (47 + 12 * k + n)))) := by
      unfold lbX7_goesBack_10 lt
      dsimp only
      rw [if_neg (le0_nI (by omega) (by omega)), show nI (n + 1) - (1 : Int32) = nI n from pk_sub (a := n + 1) (b := 1) (by omega), inRow_nI, inRow_nI, gd_nI (by omega), gd_nI (by omega), nI_clamp (by omega), nI_clamp (by omega), nI_m1]
    show (lbX7_goesBack_10 (nI k) (nI (n + 1), S)).bind _ = _
    rw [e]
    show it (lbX7_goesBack_10 (nI k)) f _ = _
    rw [it_gb hk n _ f (by omega) (by omega), sv_cpv, cpv_cpv, cpv_at]
    congr 3
    funext j
    unfold shu upd
    by_cases c1 : 47 + 12 * k < j ∧ j ≤ 47 + 12 * k + n
    · rw [if_pos c1, if_neg (by omega), if_pos (by omega)]
    · rw [if_neg c1]
      by_cases c2 : j = 47 + 12 * k + (n + 1)
      · rw [if_pos c2, if_pos (by omega), c2]
        congr 1
      · rw [if_neg c2, if_neg (by omega)]
theorem r_goesBack {S : Mem} {k : Nat} (hk : k < 2) {r : List Nat} (h : rowS (S 1) k r) (hl : r.length < 12) (x : Int32) : qX7_goesBack S (nI k) x = some (sv (cpv S 1 (upd (shu (47 + 12 * k) r.length (S 1)) (47 + 12 * k) x)) 1 (45 + k) (nI (r.length + 1))) := by
  unfold qX7_goesBack lt
  rw [n45, nI_clamp (n := 45 + k) (by omega), h.2.1, it_gb hk r.length S fuel (by omega) (fuel_lt (by omega)), Option.bind_some]
  dsimp only
  rw [show fX7_inRow (nI k) (0 : Int32) = nI (47 + 12 * k) from inRow_nI k 0, nI_clamp (n := 47 + 12 * k) (by omega), sv_j (by omega), sv_cpv _ 1 (47 + 12 * k), cpv_cpv, cpv_at]
  rw [if_neg (fun h9 => h9.elim (nI_pos (by omega)) (fun q => by omega)), if_neg (fun h9 => h9.elim (nI_pos (by omega)) (fun q => by omega))]
  have e : shu (47 + 12 * k) r.length (S 1) (45 + k) = nI r.length := by
    unfold shu
    rw [if_neg (by omega)]
    exact h.2.1
  rw [e, nI_1]
theorem r_hasPassed {S : Mem} {v : Nat} (hv : v < 12) : qX7_hasPassed S (nI v) = some (if S 1 (72 + 5 * v) = 1 then 1 else 0) := by
  unfold qX7_hasPassed lt
  rw [show fX7_ofWord (nI v) ((1 : Int32)) = nI (72 + 5 * v) from (ofWord_nI v 1).trans (congrArg nI (by omega))]
  dsimp only
  rw [gd_nI (by omega), nI_clamp (by omega)]
  split <;> rfl
theorem it_tk {k : Nat} (hk : k < 2) : ∀ (m p : Nat) (S : Mem) (f : Nat), S 1 (45 + k) = nI (p + m) → p + m ≤ 11 → m < f → it (lbX7_takes_82 (nI k)) f (nI p, S) = some (nI (p + m), cpv S 1 (shd (47 + 12 * k + p + 1) m (S 1)))
  | 0, p, S, f, h0, _, hf => by
    obtain ⟨f, rfl⟩ : ∃ g, f = g + 1 := ⟨f - 1, by omega⟩
    have e : lbX7_takes_82 (nI k) (nI p, S) = some (.inr (nI p, S)) := by
      unfold lbX7_takes_82
      dsimp only
      rw [n45, nI_clamp (by omega), if_pos (show S 1 (45 + k) ≤ nI p by rw [h0]; exact nI_le (by omega) (by omega))]
    have e2 : shd (47 + 12 * k + p + 1) 0 (S 1) = S 1 := by
      funext j
      unfold shd
      rw [if_neg (by omega)]
    show (lbX7_takes_82 (nI k) (nI p, S)).bind _ = _
    rw [e, e2, cpv_id]
    rfl
  | m + 1, p, S, f, h0, hm, hf => by
    obtain ⟨f, rfl⟩ : ∃ g, f = g + 1 := ⟨f - 1, by omega⟩
    have e : lbX7_takes_82 (nI k) (nI p, S) = some (.inl (nI (p + 1), sv S 1 (47 + 12 * k + p) (S 1 (47 + 12 * k + (p + 1))))) := by
      unfold lbX7_takes_82 lt
      dsimp only
      rw [n45, nI_clamp (n := 45 + k) (by omega), if_neg (show ¬ S 1 (45 + k) ≤ nI p by rw [h0]; exact nI_ge (by omega) (by omega)), nI_1, inRow_nI, inRow_nI, gd_nI (by omega), gd_nI (by omega), nI_clamp (by omega), nI_clamp (by omega)]
    show (lbX7_takes_82 (nI k) (nI p, S)).bind _ = _
    rw [e]
    show it (lbX7_takes_82 (nI k)) f _ = _
    rw [it_tk hk m (p + 1) _ f (by rw [sv_j (by omega), h0]; congr 1; omega) (by omega) (by omega), sv_cpv, cpv_cpv, cpv_at, show p + 1 + m = p + (m + 1) by omega]
    congr 3
    funext j
    unfold shd upd
    by_cases c1 : 47 + 12 * k + (p + 1) + 1 ≤ j + 1 ∧ j + 1 < 47 + 12 * k + (p + 1) + 1 + m
    · rw [if_pos c1, if_neg (by omega), if_pos (by omega)]
    · rw [if_neg c1]
      by_cases c2 : j = 47 + 12 * k + p
      · rw [if_pos c2, if_pos (by omega), c2]
        congr 1
      · rw [if_neg c2, if_neg (by omega)]
/-- the model's s behind taking the j-th word out of row k of length n -/
def tkS (s : Nat → Int32) (k n j : Nat) : Nat → Int32 := upd (shd (47 + 12 * k + j + 1) (n - (j + 1)) (upd s (45 + k) (nI (n - 1)))) (47 + 12 * k + (n - 1)) 0
theorem r_takes {S : Mem} {k : Nat} (hk : k < 2) {r : List Nat} (h : rowS (S 1) k r) (hv : ∀ v ∈ r, v < 12) : qX7_takes S (nI k) = some ((fndO (fun i => decide (¬ S 1 (72 + 5 * r.getD i 0) = 1)) r.length 0).elim ((-1006 : Int32), S) (fun j => (nI (r.getD j 0), cpv S 1 (tkS (S 1) k r.length j)))) := by
  have hl := h.1
  have hrow : ∀ i, i < r.length → S 1 (47 + 12 * k + i) = nI (r.getD i 0) ∧ r.getD i 0 < 12 := fun i hi => by
    have e : r[i]? = some (r.getD i 0) := by
      rw [List.getD_eq_getElem?_getD, List.getElem?_eq_getElem hi]
      rfl
    exact ⟨h.2.2 i _ e, hv _ (List.mem_of_getElem? e)⟩
  have h1 : it (lbX7_takes_2 S (nI k)) fuel (0 : Int32) = some ((fndO (fun i => decide (¬ S 1 (72 + 5 * r.getD i 0) = 1)) r.length 0).elim (nI r.length) nI) := by
    refine it_fnd (fun i => nI i) _ nI _ r.length (fun i hi => ?_) ?_ fuel (fuel_lt (by omega))
    · unfold lbX7_takes_2 lt
      rw [n45, gd_nI (by omega), nI_clamp (n := 45 + k) (by omega), h.2.1, if_neg (nI_ge hi (by omega)), inRow_nI]
      dsimp only
      rw [gd_nI (by omega), nI_clamp (n := 47 + 12 * k + i) (by omega), (hrow i hi).1, r_hasPassed (hrow i hi).2, Option.bind_some, nI_1]
      by_cases c : S 1 (72 + 5 * r.getD i 0) = 1
      · simp only [c, if_true, not_true, decide_false, Bool.false_eq_true, if_false, one_ne0]
      · simp only [c, if_false, not_false_eq_true, decide_true, if_true]
    · unfold lbX7_takes_2 lt
      rw [n45, gd_nI (by omega), nI_clamp (n := 45 + k) (by omega), h.2.1, if_pos (nI_le (Nat.le_refl _) (by omega))]
  cases hf : fndO (fun i => decide (¬ S 1 (72 + 5 * r.getD i 0) = 1)) r.length 0 with
  | none =>
    rw [hf] at h1
    replace h1 : it (lbX7_takes_2 S (nI k)) fuel (0 : Int32) = some (nI r.length) := h1
    unfold qX7_takes lt
    rw [h1, Option.bind_some]
    dsimp only
    rw [n45, gd_nI (by omega), nI_clamp (n := 45 + k) (by omega), h.2.1]
    exact if_pos rfl
  | some j =>
    have hj := fndO_lt hf
    rw [hf] at h1
    replace h1 : it (lbX7_takes_2 S (nI k)) fuel (0 : Int32) = some (nI j) := h1
    unfold qX7_takes lt
    rw [h1, Option.bind_some]
    dsimp only
    rw [n45, gd_nI (by omega), nI_clamp (n := 45 + k) (by omega), h.2.1, if_neg (show ¬ nI j = nI r.length from fun q => by rw [nI_eq (by omega) (by omega)] at q; omega), inRow_nI, gd_nI (by omega), nI_clamp (n := 47 + 12 * k + j) (by omega), (hrow j (by omega)).1, show nI r.length - (1 : Int32) = nI (r.length - 1) from pk_sub (a := r.length) (b := 1) (by omega)]
    have e45 : shd (47 + 12 * k + j + 1) (r.length - (j + 1)) (upd (S 1) (45 + k) (nI (r.length - 1))) (45 + k) = nI (r.length - 1) := by
      unfold shd
      rw [if_neg (by omega), upd_at]
    have eL : it (lbX7_takes_82 (nI k)) fuel (nI j, sv S 1 (45 + k) (nI (r.length - 1))) = some (nI (j + (r.length - (j + 1))), cpv S 1 (shd (47 + 12 * k + j + 1) (r.length - (j + 1)) (upd (S 1) (45 + k) (nI (r.length - 1))))) := by
      rw [it_tk hk (r.length - (j + 1)) j _ fuel (by rw [sv_at]; congr 1; omega) (by omega) (fuel_lt (by omega)), sv_cpv, cpv_cpv, cpv_at]
    rw [eL, Option.bind_some]
    have e9 : fX7_inRow (nI k) (cpv S 1 (shd (47 + 12 * k + j + 1) (r.length - (j + 1)) (upd (S 1) (45 + k) (nI (r.length - 1)))) 1 (45 + k)) = nI (47 + 12 * k + (r.length - 1)) := by
      rw [cpv_at, e45, inRow_nI]
    refine (if_neg ?_).trans ?_
    · dsimp only
      rw [e9, nI_clamp (by omega)]
      exact fun h9 => h9.elim (nI_pos (by omega)) (fun q => by omega)
    · dsimp only
      rw [e9, nI_clamp (by omega), sv_cpv, cpv_cpv, cpv_at]
      rfl
