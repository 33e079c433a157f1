/-! the law's run answers 1 -/
theorem l_cell {Ls j : Nat} {xs : Nat → Int32} (hL : Ls < 2 ^ 31) (hj : j < 2 ^ 31) : ∃ x, qL_cell Ls xs (nI j) = some x := by
  unfold qL_cell
  by_cases c : Int32.ofNat Ls ≤ nI j
  · exact ⟨_, if_pos c⟩
  · have c' : j < Ls := by
      rcases Nat.lt_or_ge j Ls with z | z
      · exact z
      · exact absurd (show Int32.ofNat Ls ≤ nI j from nI_le z hj) c
    refine ⟨xs (nI j).toNatClampNeg, ?_⟩
    rw [if_neg c, if_neg (nI_in c' hL)]
theorem law_step {Ls T i : Nat} {xs : Nat → Int32} {V S : Mem} {t : Nat} (hL : Ls < 2 ^ 31) (hT : T ≤ 26) (hi : i < T) (h : Ok V S t) (ht : t ≤ 30 * i) : ∃ V' S' t', lbL_law_53 Ls xs (nI T) ((1 : Int32), nI i, V) = some (.inl ((1 : Int32), nI (i + 1), V')) ∧ Ok V' S' t' ∧ t' ≤ 30 * (i + 1) := by
  obtain ⟨k, p, k6, p6, v1, v0⟩ := h.hist
  have e3 : (3 : Int32) * nI i = nI (3 * i) := pk_mul 3 i
  have e31 : (3 : Int32) * nI i + (1 : Int32) = nI (3 * i + 1) := by rw [e3]; exact nI_1 _
  have e32 : (3 : Int32) * nI i + (2 : Int32) = nI (3 * i + 2) := by rw [e3]; exact nI_add (3 * i) 2
  obtain ⟨x0, c0⟩ := l_cell (xs := xs) hL (show 3 * i < 2 ^ 31 by omega)
  obtain ⟨x1, c1⟩ := l_cell (xs := xs) hL (show 3 * i + 1 < 2 ^ 31 by omega)
  obtain ⟨x2, c2⟩ := l_cell (xs := xs) hL (show 3 * i + 2 < 2 ^ 31 by omega)
  rw [← e3] at c0
  rw [← e31] at c1
  rw [← e32] at c2
  obtain ⟨y, hy, ey⟩ := l_low x0 (m := 14) (by decide) (by decide)
  obtain ⟨x, V1, S1, t1, f1, f2, f3, f4⟩ := l_change h (by omega) v0 v1 p6 k6 (nI y) x1 x2
  obtain ⟨g1, -, ⟨n, r, q, d, L, G⟩, -⟩ := id f2
  obtain ⟨V2, h1, h2⟩ := p26_holds G (by omega)
  have o2 := f2.jq (Jq.of h2)
  obtain ⟨V3, S3, u1, u2⟩ := p26_tries o2 (by omega) x2
  have q10 : fX6_count V 10 = nI k := (qc10 V).trans v1
  have q10' : fX6_count V1 10 = V1 0 1 := qc10 V1
  -- the number of records goes with what was told
  have hj : ∃ j15 j18 : Int32, (if (-1001 : Int32) < x then some ((0 : Int32)) else some ((1 : Int32)) : Option Int32) = some j15 ∧ (if j15 = 0 then if nI k = (6 : Int32) then some ((6 : Int32)) else some (nI k + ((1 : Int32))) else some (nI k) : Option Int32) = some j18 ∧ V1 0 1 = j18 := by
    rcases f4 with ⟨a1, a2⟩ | ⟨a1, a2⟩
    · exact ⟨1, nI k, if_neg (Int32.not_lt.mpr a1), if_neg one_no, a2⟩
    · by_cases c : k = 6
      · subst c
        exact ⟨0, 6, if_pos a1, (if_pos rfl).trans (if_pos rfl), a2⟩
      · rw [if_neg c] at a2
        refine ⟨0, nI k + 1, if_pos a1, (if_pos rfl).trans (if_neg (fun z => c ((nI_eq (a := k) (b := 6) (by omega) (by decide)).mp z))), ?_⟩
        rw [a2, nI_1]
  obtain ⟨j15, j18, m1, m2, m3⟩ := hj
  have key : ∃ V' S' t', (if V1 0 1 = j18 then (qL_holds V1).bind (fun U23 => if U23.1 = 0 then some ((0 : Int32), U23.2) else if nI i - nI i / ((5 : Int32)) * ((5 : Int32)) = (4 : Int32) then (qL_cell Ls xs ((((3 : Int32)) * nI i) + ((2 : Int32)))).bind (fun r26 => (qL_tries U23.2 r26).bind (fun U27 => if U27.1 = 0 then some ((0 : Int32), U27.2) else some ((1 : Int32), U27.2))) else some ((1 : Int32), U23.2)) else some ((0 : Int32), V1) : Option (Int32 × Mem)) = some (1, V') ∧ Ok V' S' t' ∧ t' ≤ 30 * (i + 1) := by
    by_cases z : nI i - nI i / ((5 : Int32)) * ((5 : Int32)) = (4 : Int32)
    · refine ⟨V3, S3, t1, ?_, u2, by omega⟩
      refine (if_pos m3).trans ((bd_to h1).trans ((if_neg one_no).trans ((if_pos z).trans ?_)))
      exact (bd_to c2).trans ((bd_to u1).trans (if_neg one_no))
    · refine ⟨V2, S1, t1, ?_, o2, by omega⟩
      exact (if_pos m3).trans ((bd_to h1).trans ((if_neg one_no).trans (if_neg z)))
  obtain ⟨V', S', t', k1, k2, k3⟩ := key
  refine ⟨V', S', t', ?_, k2, k3⟩
  unfold lbL_law_53
  refine (if_neg (show ¬ nI T ≤ nI i from nI_ge hi (by omega))).trans ((if_neg one_no).trans ?_)
  refine (lt_to q10).trans ?_
  refine (bd_to c0).trans ?_
  refine (bd_to ey).trans ?_
  refine (bd_to c1).trans ?_
  refine (bd_to c2).trans ?_
  refine (bd_to f1).trans ?_
  refine (bd_to m1).trans ?_
  refine (lt_to q10').trans ?_
  refine (bd_to m2).trans ?_
  refine (bd_to k1).trans ?_
  show some (Sum.inl ((1 : Int32), nI i + 1, V')) = _
  rw [nI_1]
theorem law_run {Ls T : Nat} {xs : Nat → Int32} (hL : Ls < 2 ^ 31) (hT : T ≤ 26) : ∀ (m i f : Nat) (V S : Mem) (t : Nat), i + m = T → m < f → Ok V S t → t ≤ 30 * i → ∃ s, it (lbL_law_53 Ls xs (nI T)) f ((1 : Int32), nI i, V) = some ((1 : Int32), s) := by
  intro m
  induction m with
  | zero =>
    intro i f V S t hi hf h ht
    obtain ⟨f, rfl⟩ : ∃ g, f = g + 1 := ⟨f - 1, by omega⟩
    obtain rfl : i = T := by omega
    refine ⟨(nI i, V), it_o ?_⟩
    unfold lbL_law_53
    exact if_pos (nI_le (Nat.le_refl _) (by omega))
  | succ m ih =>
    intro i f V S t hi hf h ht
    obtain ⟨f, rfl⟩ : ∃ g, f = g + 1 := ⟨f - 1, by omega⟩
    obtain ⟨V', S', t', e, h', ht'⟩ := law_step (xs := xs) hL hT (show i < T by omega) h ht
    rw [it_s e]
    exact ih (i + 1) f V' S' t' (by omega) (by omega) h' ht'
/-! the start -/
def memI : Mem := pv zM 0 430 wX6_init
theorem init_E : wX5_init 0 1 = 0 ∧ csum 4 (wX5_init 22) = 0 ∧ csum 4 (wX5_init 26) = 0 ∧ wX5_init 0 2 = 0 ∧ (∀ g, g < 4 → wX5_init 20 g = -1006) ∧ wX5_init 0 0 = 0 ∧ wX5_init 27 0 = 0 := by decide +kernel
theorem ex_init : EX 0 0 wX5_init := by
  obtain ⟨a1, a2, a3, a4, a5, -⟩ := init_E
  refine ⟨⟨⟨?_, fun v hv => absurd hv (by omega)⟩, fun g hg => Or.inl (a5 g hg)⟩, 0, Nat.le_refl _, a4⟩
  rw [a1, a2, a3]
  rfl
theorem memI_j {j : Nat} (h : j < 430) : memI j = wX6_init j := by
  have := pv_at (U := zM) (W := wX6_init) (k := 0) (n := 430) (j := j) h
  rw [Nat.zero_add] at this
  exact this
theorem ok_init : Ok memI wX7_init 0 := by
  obtain ⟨a1, a2, a3, a4, a5, -⟩ := init_P
  obtain ⟨-, -, -, -, -, b1, b2⟩ := init_E
  have hw : ∀ j, j < 42 → gv memI 1 j = wX5_init j := fun j hj => (memI_j (j := 1 + j) (by omega)).trans (init_6 j hj)
  refine Ok.mk' (n := 0) (RR.init.congr (fun j hj => memI_j (by omega)) (fun j hj => rfl)) ?_ (by omega) ?_ (by omega) (ex_init.w hw) ?_
  · show gv memI 1 0 0 = nI 0
    rw [hw 0 (by decide), b1]
    rfl
  · show gv memI 1 27 0 = nI 0
    rw [hw 27 (by decide), b2]
    rfl
  · rw [memI_j (by decide), a1]
    rfl
theorem law_true (Ls : Nat) (xs : Nat → Int32) (hL : Ls ≤ 260) : qL_law Ls xs memI = some 1 := by
  obtain ⟨-, -, ⟨n, r, q, d, L, G⟩, -⟩ := ok_init
  obtain ⟨V1, h1, h2⟩ := p26_holds G (by omega)
  have o1 := ok_init.jq (Jq.of h2)
  have v01 : V1 0 1 = 0 := by
    rw [h2 0 (by decide), memI_j (by decide)]
    exact init_P.2.2.1
  have hu : qX6_undo V1 = some (-1005, V1) := by
    unfold qX6_undo
    exact if_pos v01
  obtain ⟨T, hT, eT⟩ : ∃ T : Nat, T ≤ 26 ∧ (if (Int32.ofNat Ls) / ((3 : Int32)) ≤ (26 : Int32) then some ((Int32.ofNat Ls) / ((3 : Int32))) else some ((26 : Int32)) : Option Int32) = some (nI T) := by
    have e : Int32.ofNat Ls / (3 : Int32) = nI (Ls / 3) := pk_div (show Ls < 2 ^ 31 by omega) (by decide) (by decide)
    rw [e]
    by_cases c : Ls / 3 ≤ 26
    · exact ⟨Ls / 3, c, if_pos (nI_le (b := 26) c (by decide))⟩
    · exact ⟨26, by decide, if_neg (nI_ge (a := 26) (by omega) (by omega))⟩
  obtain ⟨s, es⟩ := law_run (Ls := Ls) (xs := xs) (by omega) hT T 0 fuel V1 wX7_init 0 (by omega) (fuel_lt (by omega)) o1 (by omega)
  unfold qL_law
  refine (bd_to h1).trans ?_
  refine (bd_to (b := ((1 : Int32), V1)) ?_).trans ?_
  · exact (if_neg one_no).trans ((bd_to hu).trans (if_pos rfl))
  refine (bd_to eT).trans ?_
  exact bd_to es
