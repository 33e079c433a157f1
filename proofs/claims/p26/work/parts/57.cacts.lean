/-! the class's three acts at a gate -/
theorem c_back {w : Mem} {g v k : Nat} {r : List Nat} (hg : g < 4) (hv : v < 12) (hk : k < 2) (e20 : w 20 g = nI v) (e16 : w 16 g = 0) (e12 : w 12 g = nI k) (hr : rowC w k r) (hl : r.length < 12) : fX5_sendBack w (nI g) = sv (cpv (sv (sv (sv (sv w 26 g (w 26 g + w 22 g)) 20 g (-1006)) 22 g 0) 37 v (w 37 v + 1)) 39 (upd (shu (12 * k) r.length (w 39)) (12 * k) (nI v))) 41 k (nI (r.length + 1)) := by
  unfold fX5_sendBack fX1_release lt
  dsimp only
  rw [cget_nI hg, e20, if_neg (nI_no hv), cget_nI hg, e16, if_neg (show ¬ (0 : Int32) = 1 by decide), cget_nI hg, cadd_nI hg, cset_nI hg, cset_nI hg, cadd_nI hv, cget_nI hg]
  refine (congrArg (fun z => fX4_addFirst _ z (nI v)) e12).trans ?_
  refine Eq.trans (c_addFirst hk (r := r) ?_ hl v) ?_
  · exact hr
  · rfl
theorem c_back_none {w : Mem} {g : Nat} (hg : g < 4) (e20 : w 20 g = -1006) : fX5_sendBack w (nI g) = w := by
  unfold fX5_sendBack lt
  dsimp only
  rw [cget_nI hg, if_pos e20]
theorem c_back_way {w : Mem} {g v : Nat} (hg : g < 4) (hv : v < 12) (e20 : w 20 g = nI v) (e16 : w 16 g = 1) : fX5_sendBack w (nI g) = w := by
  unfold fX5_sendBack lt
  dsimp only
  rw [cget_nI hg, e20, if_neg (nI_no hv), cget_nI hg, if_pos e16]
theorem c_take_held {w : Mem} {g v : Nat} (hg : g < 4) (hv : v < 12) (e20 : w 20 g = nI v) : fX5_takeWord w (nI g) = w := by
  unfold fX5_takeWord fX1_hasWord lt
  dsimp only
  rw [cget_nI hg, e20, if_neg (nI_no hv), if_neg one_ne0]
theorem c_take {w : Mem} {g k : Nat} {r : List Nat} (hg : g < 4) (hk : k < 2) (e20 : w 20 g = -1006) (e12 : w 12 g = nI k) (hr : rowC w k r) (hv : ∀ v ∈ r, v < 12) : fX5_takeWord w (nI g) = (fndO (fun i => decide (w 33 (r.getD i 0) = -1006)) r.length 0).elim (sv w 20 g (-1006)) (fun j => sv (sv (cpv w 39 (shd (12 * k + j + 1) (r.length - (j + 1)) (w 39))) 41 k (nI (r.length - 1))) 20 g (nI (r.getD j 0))) := by
  have hl := hr.1
  have hrow : ∀ i, i < r.length → fX4_wordAt w (nI k) (nI i) = nI (r.getD i 0) ∧ r.getD i 0 < 12 := fun i hi => by
    have e : r[i]? = some (r.getD i 0) := by
      rw [List.getD_eq_getElem?_getD, List.getElem?_eq_getElem hi]
      rfl
    refine ⟨?_, hv _ (List.mem_of_getElem? e)⟩
    unfold fX4_wordAt lt
    rw [pl_nI, cget_nI (by omega)]
    exact hr.2.2 i _ e
  have hf : fndO (fun i => decide (fX4_hasPassed w (fX4_wordAt w (nI k) (nI i)) = 0)) r.length 0 = fndO (fun i => decide (w 33 (r.getD i 0) = -1006)) r.length 0 := by
    refine fndO_congr _ _ (fun i _ hi => ?_)
    have hi' : i < r.length := by omega
    rw [(hrow i hi').1]
    unfold fX4_hasPassed lt
    rw [cget_nI (hrow i hi').2]
    by_cases c : w 33 (r.getD i 0) = -1006
    · simp only [c, if_true, decide_true]
    · simp only [c, if_false, one_ne0, decide_false]
  unfold fX5_takeWord fX1_hasWord fX4_takeWaiting lt
  dsimp only
  rw [cget_nI hg, e20, if_pos rfl, if_pos rfl, cget_nI hg, e12, cget_nI hk, hr.2.1, nI_clamp (by omega), hf]
  cases hj : fndO (fun i => decide (w 33 (r.getD i 0) = -1006)) r.length 0 with
  | none =>
    show cset w 20 4 (nI g) (-1006) = sv w 20 g (-1006)
    rw [cset_nI hg]
  | some j =>
    have hj' := fndO_lt hj
    show cset (fX4_removeFrom w (nI k) j) 20 4 (nI g) (fX4_wordAt w (nI k) (nI j)) = _
    rw [(hrow j hj').1, c_removeFrom hk hr hj', cset_nI hg]
    rfl
theorem c_pass_none {w : Mem} {g : Nat} (hg : g < 4) (e20 : w 20 g = -1006) : fX5_passLetter w (nI g) = w := by
  unfold fX5_passLetter lt
  dsimp only
  rw [cget_nI hg, if_pos e20]
theorem c_pass_on {w : Mem} {g v : Nat} (hg : g < 4) (hv : v < 12) (e20 : w 20 g = nI v) (hl : ¬ w 29 v ≤ w 22 g + 1) : fX5_passLetter w (nI g) = sv (sv w 0 1 (w 0 1 + 1)) 22 g (w 22 g + 1) := by
  unfold fX5_passLetter lt
  dsimp only
  rw [cget_nI hg, e20, if_neg (nI_no hv), cadd_nI hg, cget_nI hg, cget_nI hv, sv_at]
  exact if_neg hl
theorem c_pass_done {w : Mem} {g v k : Nat} {r : List Nat} (hg : g < 4) (hv : v < 12) (hk : k < 2) (e20 : w 20 g = nI v) (hl : w 29 v ≤ w 22 g + 1) (e12 : (1 : Int32) - w 12 g = nI k) (hr : rowC w k r) (hr2 : r.length < 12) : fX5_passLetter w (nI g) = sv (sv (sv (sv (sv (sv (sv (sv w 0 1 (w 0 1 + 1)) 20 g (-1006)) 22 g 0) 24 g (w 24 g + 1)) 33 v (w 0 0)) 35 v (nI g)) 39 (12 * k + r.length) (nI v)) 41 k (nI (r.length + 1)) := by
  unfold fX5_passLetter fX1_release fX4_markPassed lt
  dsimp only
  rw [cget_nI hg, e20, if_neg (nI_no hv), cadd_nI hg, cget_nI hg, cget_nI hv, sv_at]
  refine (if_pos hl).trans ?_
  rw [cset_nI hg, cset_nI hg, cadd_nI hg, cset_nI hv, cset_nI hv, cget_nI hg]
  refine (congrArg (fun z => fX4_addLast _ z (nI v)) e12).trans ?_
  refine Eq.trans (c_addLast hk (r := r) ?_ hr2 v) ?_
  · exact hr
  · have e : ∀ W : Mem, sv (sv (sv W 22 g (W 22 g + 1)) 20 g (-1006)) 22 g 0 = sv (sv W 20 g (-1006)) 22 g 0 := fun W => by
      funext q j
      simp only [sv]
      split
      · rfl
      · split
        · rfl
        · rfl
    rw [← e (sv w 0 1 (w 0 1 + 1))]
    rfl
