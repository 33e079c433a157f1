/-! a record is kept on both sides -/
theorem n131 (k i : Nat) : (131 : Int32) * nI k + nI i = nI (131 * k + i) := by
  show nI 131 * nI k + nI i = _
  rw [pk_mul, nI_add]
theorem it_rec52 {S : Mem} {k : Nat} (h : S 0 0 = nI k) (hk : k < 6) : it lbX7_record_52 fuel ((0 : Int32), S) = some (nI 131, cpv S 3 (cpS (131 * k) 0 131 (S 3) (S 1))) := by
  refine it_cpy (by decide) (by decide) (Or.inl (by decide)) (fun i U hi hU => ?_) (fun U => ?_)
  · have e : (131 : Int32) * U 0 0 + nI i = nI (131 * k + i) := by rw [hU, h, n131]
    unfold lbX7_record_52 lt
    dsimp only
    rw [if_neg (show ¬ (131 : Int32) ≤ nI i from nI_ge hi (by decide)), gd_nI (by omega), e, gd_nI (by omega), nI_clamp (n := 131 * k + i) (by omega), nI_clamp (n := i) (by omega), nI_1, Nat.zero_add]
  · unfold lbX7_record_52
    dsimp only
    rw [if_pos (show (131 : Int32) ≤ nI 131 by decide)]
theorem it_rec52b {S : Mem} {k : Nat} (h : S 0 0 = nI k) (hk : k < 6) : it lbX7_record_52_2 fuel ((0 : Int32), S) = some (nI 131, cpv S 3 (cpS (131 * k) 0 131 (S 3) (S 1))) := by
  have e : lbX7_record_52_2 = lbX7_record_52 := rfl
  rw [e]
  exact it_rec52 h hk
theorem it_rec11 {S : Mem} : it lbX7_record_11 fuel ((0 : Int32), S) = some (nI 655, cpv S 3 (cpS 0 131 655 (S 3) (S 3))) := by
  refine it_cpy (by decide) (by decide) (Or.inr ⟨rfl, by decide⟩) (fun i U hi hU => ?_) (fun U => ?_)
  · have e : nI i + (131 : Int32) = nI (131 + i) := by
      show nI i + nI 131 = _
      rw [nI_add, Nat.add_comm]
    unfold lbX7_record_11 lt
    dsimp only
    rw [if_neg (show ¬ (655 : Int32) ≤ nI i from nI_ge hi (by decide)), e, gd_nI (by omega), gd_nI (by omega), nI_clamp (n := 131 + i) (by omega), nI_clamp (n := i) (by omega), nI_1, Nat.zero_add]
  · unfold lbX7_record_11
    dsimp only
    rw [if_pos (show (655 : Int32) ≤ nI 655 by decide)]
theorem r_record_lt {S : Mem} {k : Nat} (h : S 0 0 = nI k) (hk : k < 6) : qX7_record S = some (sv (cpv S 3 (cpS (131 * k) 0 131 (S 3) (S 1))) 0 0 (nI (k + 1))) := by
  unfold qX7_record lt
  rw [if_neg (show ¬ S 0 0 = (6 : Int32) by rw [h]; exact fun e => by have := (nI_eq (a := k) (b := 6) (by omega) (by decide)).mp e; omega), it_rec52 h hk, Option.bind_some]
  dsimp only
  rw [cpv_k (show (0 : Nat) ≠ 3 by decide), h, nI_1]
theorem r_record_6 {S : Mem} (h : S 0 0 = nI 6) : ∃ f, qX7_record S = some (sv (cpv (sv (cpv S 3 f) 0 0 (nI 5)) 3 (cpS 655 0 131 f (S 1))) 0 0 (nI 6)) ∧ f = cpS 0 131 655 (S 3) (S 3) := by
  refine ⟨_, ?_, rfl⟩
  unfold qX7_record lt
  rw [if_pos (show S 0 0 = (6 : Int32) from h), it_rec11, Option.bind_some]
  dsimp only
  have e : cpv S 3 (cpS 0 131 655 (S 3) (S 3)) 0 0 - (1 : Int32) = nI 5 := by
    rw [cpv_k (show (0 : Nat) ≠ 3 by decide), h]
    decide
  rw [e]
  generalize cpS 0 131 655 (S 3) (S 3) = f
  rw [it_rec52b (S := sv (cpv S 3 f) 0 0 (nI 5)) (k := 5) sv_at (by decide), Option.bind_some]
  dsimp only
  have e2 : (sv (cpv S 3 f) 0 0 (nI 5)) 3 = f := by
    rw [sv_k (by decide), cpv_at]
  have e3 : (sv (cpv S 3 f) 0 0 (nI 5)) 1 = S 1 := by
    rw [sv_k (by decide), cpv_k (by decide)]
  rw [e2, e3, cpv_k (show (0 : Nat) ≠ 3 by decide), sv_at]
  rfl
theorem c_record {V : Mem} {k p : Nat} (h0 : V 0 0 = nI p) (h1 : V 0 1 = nI k) (hp : p < 6) (hk : k ≤ 6) : fX6_record V = sv (sv (pv V (89 + 42 * p) 42 (gv V 1)) 0 0 (nI ((p + 1) % 6))) 0 1 (nI (if k = 6 then 6 else k + 1)) := by
  have e : fX6_copyInto V 88 6 (nI p) = pv V (89 + 42 * p) 42 (gv V 1) := by
    unfold fX6_copyInto
    rw [if_neg (nI_in (by omega) (by decide)), nI_clamp (by omega), show 88 + (1 + 42 * p) = 89 + 42 * p by omega]
  have z : pv V (89 + 42 * p) 42 (gv V 1) 0 = V 0 := by
    unfold pv
    rw [if_neg (by omega)]
  have r7 : (if (6 : Int32) < nI k + (1 : Int32) then (6 : Int32) else nI k + (1 : Int32)) = nI (if k = 6 then 6 else k + 1) := by
    rw [nI_1]
    by_cases c : k = 6
    · rw [if_pos c, if_pos (show (6 : Int32) < nI (k + 1) from nI_lt (a := 6) (by omega) (by omega))]
      rfl
    · rw [if_neg c, if_neg (show ¬ (6 : Int32) < nI (k + 1) from nI_nlt (a := 6) (by omega) (by decide))]
  unfold fX6_record lt
  rw [h0, e]
  generalize hW : pv V (89 + 42 * p) 42 (gv V 1) = W at z ⊢
  dsimp only
  by_cases c : p = 5
  · subst c
    rw [if_pos (show W 0 0 = (5 : Int32) by rw [z]; exact h0)]
    rw [sv_j (by decide), z, h1, r7]
    rfl
  · rw [if_neg (show ¬ W 0 0 = (5 : Int32) by rw [z, h0]; exact fun e => c ((nI_eq (a := p) (b := 5) (by omega) (by decide)).mp e))]
    rw [sv_j (by decide), z, h1, r7, h0, nI_1, Nat.mod_eq_of_lt (by omega)]
theorem RR.rec {V S : Mem} (h : RR V S) : ∃ S', qX7_record S = some S' ∧ (∀ j, j ≠ 0 → j ≠ 3 → S' j = S j) ∧ (∀ j, 1 ≤ j → j < 89 ∨ 341 ≤ j → fX6_record V j = V j) ∧ RR (fX6_record V) S' := by
  obtain ⟨hw, hp, ⟨k, p, k6, p6, v1, v0, s0, hh⟩, hv⟩ := h
  have ce := c_record v0 v1 p6 k6
  have vr : ∀ j, 1 ≤ j → fX6_record V j = pv V (89 + 42 * p) 42 (gv V 1) j := fun j hj => by
    rw [ce, sv_k (by omega), sv_k (by omega)]
  have vin : ∀ j, j < 42 → fX6_record V (89 + 42 * p + j) = V (1 + j) := fun j hj => by
    rw [vr _ (by omega)]
    unfold pv
    rw [if_pos (by omega), Nat.add_sub_cancel_left]
    rfl
  have vout : ∀ j, 1 ≤ j → j < 89 + 42 * p ∨ 131 + 42 * p ≤ j → fX6_record V j = V j := fun j hj hj2 => by
    rw [vr _ (by omega)]
    unfold pv
    rw [if_neg (by omega)]
  have w0 : fX6_record V 0 0 = nI ((p + 1) % 6) := by
    rw [ce, sv_j (by decide), sv_at]
  have w1 : fX6_record V 0 1 = nI (if k = 6 then 6 else k + 1) := by
    rw [ce, sv_at]
  have key : ∃ S', qX7_record S = some S' ∧ (∀ j, j ≠ 0 → j ≠ 3 → S' j = S j) ∧ S' 0 1 = S 0 1 ∧ S' 0 0 = nI (if k = 6 then 6 else k + 1) ∧ (k = 6 → ∀ i j, j < 131 → i < 6 → S' 3 (131 * i + j) = if i = 5 then S 1 j else S 3 (131 * (i + 1) + j)) ∧ (k < 6 → ∀ i j, j < 131 → i < k + 1 → S' 3 (131 * i + j) = if i = k then S 1 j else S 3 (131 * i + j)) := by
    by_cases c : k = 6
    · subst c
      obtain ⟨f, e, ef⟩ := r_record_6 s0
      refine ⟨_, e, fun j j0 j3 => ?_, ?_, ?_, fun _ i j hj hi => ?_, fun q => absurd q (by decide)⟩
      · rw [sv_k j0, cpv_k j3, sv_k j0, cpv_k j3]
      · rw [sv_j (by decide), cpv_k (by decide), sv_j (by decide), cpv_k (by decide)]
      · rw [sv_at, if_pos rfl]
      · rw [sv_k (by decide), cpv_at]
        by_cases c5 : i = 5
        · subst c5
          rw [if_pos rfl, show 131 * 5 = 655 from rfl, cpS_at hj, Nat.zero_add]
        · rw [if_neg c5, cpS_lo (by omega), ef]
          have := cpS_at (a := 0) (b := 131) (n := 655) (j := 131 * i + j) (f := S 3) (g := S 3) (by omega)
          rw [Nat.zero_add] at this
          rw [this]
          exact congrArg (S 3) (by omega)
    · refine ⟨_, r_record_lt s0 (by omega), fun j j0 j3 => ?_, ?_, ?_, fun q => absurd q c, fun _ i j hj hi => ?_⟩
      · rw [sv_k j0, cpv_k j3]
      · rw [sv_j (by decide), cpv_k (by decide)]
      · rw [sv_at, if_neg c]
      · rw [sv_k (by decide), cpv_at]
        by_cases ck : i = k
        · subst ck
          rw [if_pos rfl, cpS_at hj, Nat.zero_add]
        · rw [if_neg ck, cpS_lo (by omega)]
  obtain ⟨S', e1, e2, e3, e4, e5, e6⟩ := key
  refine ⟨S', e1, e2, fun j h1 h2 => vout j h1 (by omega), ?_, ?_, ⟨_, _, ?_, Nat.mod_lt (p + 1) (show 0 < 6 by decide), w1, w0, e4, ?_⟩, ?_⟩
  · rw [e2 1 (by decide) (by decide)]
    exact hw.w (fun j hj => vout _ (by omega) (by omega))
  · exact hp.of (vout _ (by omega) (by omega)) (vout _ (by omega) (by omega)) e3 (e2 6 (by decide) (by decide))
  · split <;> omega
  · intro i hi
    by_cases c : k = 6
    · subst c
      rw [if_pos rfl] at hi ⊢
      by_cases c5 : i = 5
      · subst c5
        rw [show ((p + 1) % 6 + 6 - 6 + 5) % 6 = p by omega]
        refine (hw.w (fun j hj => vin j hj)).s (fun j hj => ?_)
        rw [e5 rfl 5 j hj (by decide), if_pos rfl]
      · have hx := hh (i + 1) (by omega)
        have hm : ((p + 1) % 6 + 6 - 6 + i) % 6 = (p + 6 - 6 + (i + 1)) % 6 := by omega
        rw [hm]
        have hn : (p + 6 - 6 + (i + 1)) % 6 ≠ p := by omega
        have hl : (p + 6 - 6 + (i + 1)) % 6 < 6 := Nat.mod_lt _ (by decide)
        generalize (p + 6 - 6 + (i + 1)) % 6 = q at hx hn hl ⊢
        refine (hx.w (fun j hj => vout _ (by omega) (by omega))).s (fun j hj => ?_)
        rw [e5 rfl i j hj hi, if_neg c5]
    · rw [if_neg c] at hi ⊢
      by_cases ck : i = k
      · subst ck
        rw [show ((p + 1) % 6 + 6 - (i + 1) + i) % 6 = p by omega]
        refine (hw.w (fun j hj => vin j hj)).s (fun j hj => ?_)
        rw [e6 (by omega) i j hj (by omega), if_pos rfl]
      · have hx := hh i (by omega)
        have hm : ((p + 1) % 6 + 6 - (k + 1) + i) % 6 = (p + 6 - k + i) % 6 := by omega
        rw [hm]
        have hn : (p + 6 - k + i) % 6 ≠ p := by omega
        have hl : (p + 6 - k + i) % 6 < 6 := Nat.mod_lt _ (by decide)
        generalize (p + 6 - k + i) % 6 = q at hx hn hl ⊢
        refine (hx.w (fun j hj => vout _ (by omega) (by omega))).s (fun j hj => ?_)
        rw [e6 (by omega) i j hj hi, if_neg ck]
  · exact hv.of (fun j h1 h2 => vout j (by omega) (by omega)) (vout _ (by decide) (by omega)) (e2 4 (by decide) (by decide)) (e2 5 (by decide) (by decide))
