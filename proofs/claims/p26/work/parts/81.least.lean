/-! leastSlack -/
theorem RwE.pn {b : Int32} {n t : Nat} {r : Nat → List Nat} {h : Nat → Option Nat} {d : Nat → Nat} {L : Nat → List Nat} {w : Mem} {s : Nat → Int32} (p : RwE b n t r h d L w s) : ∃ P : Nat, P ≤ n ∧ pwd w = nI P ∧ csum n (fun v => s (72 + 5 * v)) = nI P := by
  obtain ⟨pT, pG, pH, pD, pC, pRc, pRs, pL, pP, pX, pK, pN, pZ⟩ := p
  have hr := csum_rng (P := fun v => decide (w 33 v = -1006)) (f := fun v => s (72 + 5 * v)) n (fun v hv => by
    rcases (pP v hv).2.2.2 with ⟨z1, z2⟩ | ⟨z1, z2⟩
    · rw [z2, if_pos (decide_eq_true z1)]
    · rw [z2, if_neg (fun q => psd_no z1 (of_decide_eq_true q))])
  exact ⟨_, by omega, (show pwd w = _ from pN).trans hr.1, hr.1⟩
/-- the trial with a slack: its start, its end, its answer -/
def tr0 (U : Mem) (g : Nat) (x : Nat) : Mem := sv (pv U 43 42 (gv U 1)) 57 g (nI x)
def trE (U : Mem) (g x : Nat) : Mem := fld trialC 200 (tr0 U g x)
def trN (U : Mem) (g x : Nat) : Int32 := csum 4 (trE U g x 67) - csum 4 (trE U g x 25)
theorem tr0_r {U : Mem} {g x j : Nat} (h : j < 43 ∨ 85 ≤ j) : tr0 U g x j = U j := by
  unfold tr0
  rw [sv_k (by omega), pvo (by omega)]
theorem trE_r {U : Mem} {g x j : Nat} (h : j < 43 ∨ 85 ≤ j) : trE U g x j = U j := by
  unfold trE
  rw [trial_r 200 j h, tr0_r h]
theorem wpw {U W : Mem} {g x : Nat} (hg : g < 4) (hW : ∀ j, j < 43 ∨ 85 ≤ j → W j = U j) : fX6_wordsPassingWith W (nI g) (nI x) = (trN U g x, trE U g x) := by
  have e : pv W 43 42 (gv W 1) = pv U 43 42 (gv U 1) := by
    funext j
    unfold pv
    by_cases c : 43 ≤ j ∧ j < 43 + 42
    · rw [if_pos c, if_pos c]
      exact hW _ (by omega)
    · rw [if_neg c, if_neg c]
      exact hW _ (by omega)
  unfold fX6_wordsPassingWith
  rw [e, cset_nI hg]
  rfl
theorem trial_run {n t g x : Nat} {r : Nat → List Nat} {q : Nat → Option Nat} {d : Nat → Nat} {L : Nat → List Nat} {U M : Mem} {s : Nat → Int32} (p : RwE 0 n t r q d L (gv U 1) s) (ht : t ≤ 99999) (hgap : ∀ j, j < 200 → U 429 j = fX3_gapAt (gv U 1) (nI (t + j))) (hg : g < 4) (hx : x ≤ 99) (hM : ∀ j, j < 131 → M 1 j = s j) : ∃ s2 : Nat → Int32, qX7_runs (sv M 1 (14 + 8 * g) (nI x)) (nI 200) = some (cpv M 1 s2) ∧ qX7_passedWords (cpv M 1 s2) = some (csum n (fun v => s2 (72 + 5 * v))) ∧ csum n (fun v => s2 (72 + 5 * v)) - csum n (fun v => s (72 + 5 * v)) = trN U g x ∧ ∃ P K : Nat, csum 4 (U 25) = nI P ∧ P ≤ n ∧ P + K ≤ n ∧ trN U g x = nI K := by
  have e14 : gv (tr0 U g x) 43 14 = upd (U 15) g (nI x) := by
    show sv (pv U 43 42 (gv U 1)) 57 g (nI x) 57 = _
    rw [sv_row]
    rfl
  have eo : ∀ j, j < 42 → j ≠ 14 → gv (tr0 U g x) 43 j = gv U 1 j := fun j h1 h2 => by
    show sv (pv U 43 42 (gv U 1)) 57 g (nI x) (43 + j) = _
    rw [sv_k (by omega), pv_at h1]
  have p0 : RwE 0 n t r q d L (gv (tr0 U g x) 43) (sv M 1 (14 + 8 * g) (nI x) 1) := by
    rw [sv_row]
    refine p.setG (fun j h1 h2 h3 h4 h5 => eo j h1 h3) (fun j h1 h2 => ?_) (fun g' hg' => ?_)
    · have := h2 g 1 hg (by decide)
      rw [upd_ne (by omega)]
      exact hM j h1
    · obtain ⟨f1, f2, f3, f4, f5, f6, f7, f8⟩ := p.2.1 g' hg'
      rw [e14, eo 12 (by decide) (by decide), eo 16 (by decide) (by decide), eo 18 (by decide) (by decide)]
      refine ⟨?_, ?_, ?_, ?_, f5, ?_, f7, f8⟩
      · rw [upd_ne (by omega), hM _ (by omega)]
        exact f1
      · by_cases c : g' = g
        · subst c
          rw [upd_at, upd_at]
        · rw [upd_ne (by omega), upd_ne c, hM _ (by omega)]
          exact f2
      · rw [upd_ne (by omega), hM _ (by omega)]
        exact f3
      · rw [upd_ne (by omega), hM _ (by omega)]
        exact f4
      · by_cases c : g' = g
        · subst c
          rw [upd_at]
          exact ⟨x, hx, rfl⟩
        · rw [upd_ne c]
          exact f6
  have hgap0 : ∀ j, j < 200 → tr0 U g x 429 j = fX3_gapAt (gv (tr0 U g x) 43) (nI (t + j)) := fun j hj => by
    rw [tr0_r (by omega), hgap j hj]
    exact (gap_eq (eo 3 (by decide) (by decide)) (eo 5 (by decide) (by decide)) (eo 7 (by decide) (by decide)) (eo 9 (by decide) (by decide)) _).symm
  obtain ⟨s2, b1, r', q', d', b2⟩ := it_trial (n := n) (t := t) (L := L) (T := tr0 U g x) (by omega) hgap0 200 0 fuel (sv M 1 (14 + 8 * g) (nI x)) (by omega) (fuel_lt (by decide)) ⟨r, q, d, p0⟩ ⟨rfl, rfl, rfl, rfl, rfl, rfl⟩
  have n12 := p.2.2.2.2.2.2.2.2.2.1.1
  obtain ⟨P, hP, P1, P2⟩ := p.pn
  obtain ⟨Q, hQ, Q1, Q2⟩ := b2.pn
  obtain ⟨k, hk, e⟩ := trial_24 (T := tr0 U g x) 200
  have ep : pwd (gv (tr0 U g x) 43) = nI P := by
    rw [← P1]
    unfold pwd
    rw [eo 24 (by decide) (by decide)]
  rw [ep, Q1, nI_add] at e
  have eQ : Q = P + k := (nI_eq (by omega) (by omega)).mp e
  have eN : trN U g x = nI k := by
    have q1 : csum 4 (trE U g x 67) = nI Q := Q1
    have q2 : csum 4 (trE U g x 25) = nI P := by
      rw [trE_r (by omega)]
      exact P1
    unfold trN
    rw [q1, q2, pk_sub (by omega), eQ, Nat.add_sub_cancel_left]
  rw [sv_cpv, cpv_cpv] at b1
  refine ⟨s2, ?_, ?_, ?_, P, k, P1, hP, by omega, eN⟩
  · rw [sv_cpv]
    unfold qX7_runs
    rw [show it (lbX7_runs_2 (nI 200)) fuel ((0 : Int32), cpv M 1 (upd (M 1) (14 + 8 * g) (nI x))) = some (nI 200, cpv M 1 s2) from b1, Option.bind_some]
  · have c2 := b2.2.2.2.2.1.2.2.2.2.2.2
    have := r_passedWords (S := cpv M 1 s2) (n := n) (by rw [cpv_at]; exact c2) n12
    rw [cpv_at] at this
    exact this
  · rw [Q2, P2, eN, pk_sub (by omega), eQ, Nat.add_sub_cancel_left]
theorem slack_no {a : Int32} {x : Nat} (hx : x < 2 ^ 31) (h : ¬ a = nI (x + 1)) (hx2 : x + 1 < 2 ^ 31) : nI (x + 1) < a ↔ nI x < a := by
  rw [Int32.lt_iff_toInt_lt, Int32.lt_iff_toInt_lt, nI_toInt hx, nI_toInt hx2]
  have : a.toInt ≠ ((x + 1 : Nat) : Int) := fun e => h (Int32.toInt_inj.mp (by rw [e, nI_toInt hx2]))
  omega
/-- a slack that no gap equals gives what the slack before it gives -/
theorem trN_no {U : Mem} {g x : Nat} (hx : x < 99) (h : ∀ i, i < 200 → ¬ ab (U 429 i) = nI (x + 1)) : trN U g (x + 1) = trN U g x := by
  have e : tr0 U g (x + 1) = cpv (tr0 U g x) 57 (upd (pv U 43 42 (gv U 1) 57) g (nI (x + 1))) := by
    unfold tr0
    rw [sv_cpv, sv_cpv, cpv_cpv]
  have e57 : tr0 U g x 57 = upd (pv U 43 42 (gv U 1) 57) g (nI x) := sv_row
  have hz := z_trial (T := tr0 U g x) (φ := upd (pv U 43 42 (gv U 1) 57) g (nI (x + 1))) (fun i hi g' hg' => by
    rw [e57, tr0_r (by omega)]
    by_cases c : g' = g
    · subst c
      rw [upd_at, upd_at]
      exact slack_no (by omega) (h i hi) (by omega)
    · rw [upd_ne c, upd_ne c]) 200 (Nat.le_refl _)
  unfold trN trE
  rw [e, hz.1, cpv_k (by decide), cpv_k (by decide)]
theorem bst_stay {val N : Nat → Int32} {x : Nat} : ∀ m : Nat, (∀ i, x ≤ i → i < x + m → N i ≤ (bst val N x).2) → bst val N (x + m) = bst val N x
  | 0, _ => rfl
  | m + 1, h => by
    have ih := bst_stay m (fun i h1 h2 => h i h1 (by omega))
    show bst val N ((x + m) + 1) = _
    rw [bst_no (by rw [ih]; exact h (x + m) (by omega) (by omega)), ih]
theorem bst_ge {val N : Nat → Int32} : ∀ x i : Nat, i < x → N i ≤ (bst val N x).2
  | 0, i, h => by omega
  | x + 1, i, h => by
    by_cases c : N x ≤ (bst val N x).2
    · rw [bst_no c]
      by_cases e : i = x
      · subst e
        exact c
      · exact bst_ge x i (by omega)
    · rw [bst_up c]
      by_cases e : i = x
      · subst e
        exact Int32.le_refl _
      · exact Int32.le_trans (bst_ge x i (by omega)) (Int32.le_of_lt (Int32.not_le.mp c))
theorem gap_0 {W : Mem} {a : Int32} (h : fX6_hasGapAhead W a = 0) : ∀ i, i < 200 → ¬ ab (W 429 i) = a := fun i hi e => by
  unfold fX6_hasGapAhead at h
  cases hF : fndO (fun i => decide (ab (cget 200 (W 429) (nI i)) = a)) 200 0 with
  | none =>
    have := fndO_none 200 0 hF i (by omega) (by omega)
    rw [cget_nI hi] at this
    exact of_decide_eq_false this e
  | some j =>
    rw [hF] at h
    exact absurd h one_no
