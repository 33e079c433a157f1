/-! what would be: ifRun, untilPassed -/
theorem r_putAside (S : Mem) : qX7_putAside S = some (cpv S 2 (cpS 0 0 131 (S 2) (S 1))) := by
  have e : it lbX7_putAside_2 fuel ((0 : Int32), S) = some (nI 131, cpv S 2 (cpS 0 0 131 (S 2) (S 1))) := by
    refine it_cpy (by decide) (by decide) (Or.inl (by decide)) (fun i U hi hU => ?_) (fun U => ?_)
    · unfold lbX7_putAside_2 lt
      dsimp only
      rw [if_neg (show ¬ (131 : Int32) ≤ nI i from nI_ge hi (by decide)), gd_nI (by omega), nI_clamp (n := i) (by omega), nI_1, Nat.zero_add]
    · unfold lbX7_putAside_2
      dsimp only
      rw [if_pos (show (131 : Int32) ≤ nI 131 by decide)]
  unfold qX7_putAside
  rw [e, Option.bind_some]
theorem r_putBack (S : Mem) : qX7_putBack S = some (cpv S 1 (cpS 0 0 131 (S 1) (S 2))) := by
  have e : it lbX7_putBack_2 fuel ((0 : Int32), S) = some (nI 131, cpv S 1 (cpS 0 0 131 (S 1) (S 2))) := by
    refine it_cpy (by decide) (by decide) (Or.inl (by decide)) (fun i U hi hU => ?_) (fun U => ?_)
    · unfold lbX7_putBack_2 lt
      dsimp only
      rw [if_neg (show ¬ (131 : Int32) ≤ nI i from nI_ge hi (by decide)), gd_nI (by omega), nI_clamp (n := i) (by omega), nI_1, Nat.zero_add]
    · unfold lbX7_putBack_2
      dsimp only
      rw [if_pos (show (131 : Int32) ≤ nI 131 by decide)]
  unfold qX7_putBack
  rw [e, Option.bind_some]
/-- the world put aside, something done in row 1, and put back: nothing has changed -/
theorem RR.back {V V' S S' : Mem} (h : RR V S) (hV : ∀ j, j < 43 ∨ (85 ≤ j ∧ j < 429) → V' j = V j) {U : Mem} (hU : ∀ j, j ≠ 1 → U j = cpv S 2 (cpS 0 0 131 (S 2) (S 1)) j) (hS : S' = cpv U 1 (cpS 0 0 131 (U 1) (U 2))) : RR V' S' := by
  refine h.now (fun j hj => hV j (by omega)) (fun j h1 h2 => ?_) ?_
  · rw [hS, cpv_k h1, hU j h1, cpv_k h2]
  · refine (h.1.w (fun j hj => hV _ (by omega))).s (fun j hj => ?_)
    rw [hS, cpv_at, cpS0 hj, hU 2 (by decide), cpv_at, Nat.zero_add, cpS0 hj, Nat.zero_add]
theorem csum_ext {f : Nat → Int32} {n : Nat} : ∀ k : Nat, (∀ i, n ≤ i → i < n + k → f i = 0) → csum (n + k) f = csum n f
  | 0, _ => rfl
  | k + 1, h => by
    show csum (n + k) f + f (n + k) = _
    rw [csum_ext k (fun i h1 h2 => h i h1 (by omega)), h (n + k) (by omega) (by omega), Int32.add_zero]
theorem RwE.backs {b : Int32} {n t : Nat} {r : Nat → List Nat} {h : Nat → Option Nat} {d : Nat → Nat} {L : Nat → List Nat} {w : Mem} {s : Nat → Int32} (p : RwE b n t r h d L w s) : csum n (fun v => s (75 + 5 * v)) = csum 12 (w 37) := by
  obtain ⟨pT, pG, pH, pD, pC, pRc, pRs, pL, pP, pX, pK, pN, pZ⟩ := p
  have n12 := pX.1
  have e := csum_ext (f := w 37) (n := n) (12 - n) (fun i h1 h2 => pZ i h1 (by omega))
  rw [show n + (12 - n) = 12 by omega] at e
  rw [e]
  exact csum_congr n (fun v hv => (pP v hv).2.2.1)
theorem tally_w {w w' : Mem} (e : ∀ j, j < 42 → w' j = w j) (a : Int32) : fX5_tally w' a = fX5_tally w a := by
  unfold fX5_tally lt
  rw [e 24 (by decide), e 26 (by decide), e 37 (by decide), e 0 (by decide)]
theorem sim_ifRun {V S : Mem} (h : RR V S) (a1 a2 : Int32) : ∃ S', qX7_ifRun S a1 a2 = some ((fX6_ifRun V a1 a2).1, S') ∧ RR (fX6_ifRun V a1 a2).2 S' := by
  unfold qX7_ifRun fX6_ifRun lt
  dsimp only
  rw [in_same, in_same]
  rcases within_lo (a := a1) (lo := 1) (hi := 1000) (m := 1) (n := 1000) rfl rfl with z | ⟨z, m, hm1, hm, rfl⟩
  · rw [z, if_pos rfl, if_pos rfl]
    exact ⟨S, rfl, h⟩
  rw [z, if_neg one_no, if_neg one_no]
  clear z
  rcases within_nat (a := a2) (hi := 3) (n := 3) rfl with z | ⟨z, x, hx, ex⟩
  · rw [z, if_pos rfl, if_pos rfl]
    exact ⟨S, rfl, h⟩
  rw [z, if_neg one_no, if_neg one_no]
  clear z
  obtain ⟨⟨n, t, r, q, d, L, ht, p⟩, -⟩ := id h
  rw [r_putAside, Option.bind_some]
  have hU : ∀ j, j ≠ 2 → cpv S 2 (cpS 0 0 131 (S 2) (S 1)) j = S j := fun j hj => cpv_k hj
  generalize hS5 : cpv S 2 (cpS 0 0 131 (S 2) (S 1)) = S5 at hU ⊢
  have a1' : ∀ j, j < 42 → gv (pv V 43 42 (gv V 1)) 43 j = gv V 1 j := fun j hj => pv_at hj
  have a2' : ∀ j, j < 43 ∨ 85 ≤ j → pv V 43 42 (gv V 1) j = V j := fun j hj => pvo (by omega)
  generalize pv V 43 42 (gv V 1) = V5 at a1' a2' ⊢
  have p5 : RwE 0 n t r q d L (gv V5 43) (S5 1) := by
    rw [hU 1 (by decide)]
    exact p.w a1'
  obtain ⟨s2, b1, r', q', d', b2⟩ := sim_runs p5 (k := m) (by omega) (by omega)
  have e43 : ∀ j, j < 42 → gv (pv V5 43 42 (fX5_makeSteps (gv V5 43) (nI m))) 43 j = fX5_makeSteps (gv V5 43) (nI m) j := fun j hj => pv_at hj
  have e1 : ∀ j, j < 42 → gv (pv V5 43 42 (fX5_makeSteps (gv V5 43) (nI m))) 1 j = gv V 1 j := fun j hj => (pvo (by omega)).trans (a2' _ (by omega))
  rw [tally_w e43, tally_w e1, b1]
  have n12 := p.2.2.2.2.2.2.2.2.2.1.1
  have c1 := p.2.2.2.2.1
  have c2 := b2.2.2.2.2.1
  have fin : RR (pv V5 43 42 (fX5_makeSteps (gv V5 43) (nI m))) (cpv (cpv S5 1 s2) 1 (cpS 0 0 131 (cpv S5 1 s2 1) (cpv S5 1 s2 2))) :=
    h.back (fun j hj => (pvo (by omega)).trans (a2' _ (by omega))) (U := cpv S5 1 s2) (fun j hj => by rw [cpv_k hj, hS5]) rfl
  have pb := r_putBack (cpv S5 1 s2)
  by_cases e0 : a2 = 0
  · rw [if_pos e0, r_passedWords (S := S5) (n := n) (by rw [hU 1 (by decide)]; exact c1.2.2.2.2.2.2) n12, Option.bind_some, Option.bind_some, r_passedWords (S := cpv S5 1 s2) (n := n) (by rw [cpv_at]; exact c2.2.2.2.2.2.2) n12, Option.bind_some, pb, Option.bind_some]
    refine ⟨_, congrArg (fun y => some (y, _)) ?_, fin⟩
    rw [hU 1 (by decide), cpv_at, ← show csum 4 (gv V 1 24) = csum n (fun v => S 1 (72 + 5 * v)) from p.2.2.2.2.2.2.2.2.2.2.2.1, ← show csum 4 (fX5_makeSteps (gv V5 43) (nI m) 24) = csum n (fun v => s2 (72 + 5 * v)) from b2.2.2.2.2.2.2.2.2.2.2.2.1]
    unfold fX5_tally lt
    rw [if_pos e0, if_pos e0]
  rw [if_neg e0]
  by_cases e1' : a2 = 1
  · rw [if_pos e1', Option.bind_some, pb, Option.bind_some]
    refine ⟨_, congrArg (fun y => some (y, _)) ?_, fin⟩
    rw [hU 1 (by decide), cpv_at, show s2 3 = csum 4 (fX5_makeSteps (gv V5 43) (nI m) 26) from c2.2.2.2.2.1, show S 1 3 = csum 4 (gv V 1 26) from c1.2.2.2.2.1]
    unfold fX5_tally lt
    rw [if_neg e0, if_neg e0, if_pos e1', if_pos e1']
  rw [if_neg e1']
  by_cases e2' : a2 = 2
  · rw [if_pos e2', r_backs (S := S5) (n := n) (by rw [hU 1 (by decide)]; exact c1.2.2.2.2.2.2) n12, Option.bind_some, Option.bind_some, r_backs (S := cpv S5 1 s2) (n := n) (by rw [cpv_at]; exact c2.2.2.2.2.2.2) n12, Option.bind_some, pb, Option.bind_some]
    refine ⟨_, congrArg (fun y => some (y, _)) ?_, fin⟩
    rw [hU 1 (by decide), cpv_at, p.backs, b2.backs]
    unfold fX5_tally lt
    rw [if_neg e0, if_neg e0, if_neg e1', if_neg e1', if_pos e2', if_pos e2']
  rw [if_neg e2', Option.bind_some, pb, Option.bind_some]
  refine ⟨_, congrArg (fun y => some (y, _)) ?_, fin⟩
  rw [hU 1 (by decide), cpv_at, show s2 1 = fX5_makeSteps (gv V5 43) (nI m) 0 2 + 0 from c2.2.2.1, show S 1 1 = gv V 1 0 2 + 0 from c1.2.2.1, Int32.add_zero, Int32.add_zero]
  unfold fX5_tally lt
  rw [if_neg e0, if_neg e0, if_neg e1', if_neg e1', if_neg e2', if_neg e2']
theorem steps_1 (w : Mem) : fX5_makeSteps w 1 = fX5_stepAcross w (fX3_gapAt w (w 0 0)) := rfl
theorem it_until {n v : Nat} {L : Nat → List Nat} (hv : v < n) : ∀ (m i t f f2 : Nat) (W U : Mem), i + m = 1000 → m + 1 < f → m < f2 → t + m < 2147480000 → (∃ r q d, RwE 0 n t r q d L (gv W 43) (U 1)) → ∃ W' U', (∀ j, j < 43 ∨ 85 ≤ j → W' j = W j) ∧ (∀ j, j ≠ 1 → U' j = U j) ∧ ((∃ k : Nat, it (lbX6_untilPassed_25 (nI v)) f (nI i, W) = some (.inl (nI k, W')) ∧ it (lbX7_untilPassed_18 (nI v)) f2 (nI i, U) = some (nI k, U') ∧ qX7_hasPassed U' (nI v) = some 1) ∨ (it (lbX6_untilPassed_25 (nI v)) f (nI i, W) = some (.inr (nI 1001, W')) ∧ it (lbX7_untilPassed_18 (nI v)) f2 (nI i, U) = some (nI 1000, U') ∧ qX7_hasPassed U' (nI v) = some 0)) := by
  intro m
  induction m with
  | zero =>
    intro i t f f2 W U hi hf hf2 ht hp
    obtain ⟨f, rfl⟩ : ∃ g, f = g + 2 := ⟨f - 2, by omega⟩
    obtain ⟨f2, rfl⟩ : ∃ g, f2 = g + 1 := ⟨f2 - 1, by omega⟩
    obtain ⟨r, q, d, p⟩ := hp
    obtain rfl : i = 1000 := by omega
    have n12 := p.2.2.2.2.2.2.2.2.2.1.1
    rcases (p.2.2.2.2.2.2.2.2.1 v hv).2.2.2 with ⟨z1, z2⟩ | ⟨z1, z2⟩
    · have h6 : fX4_hasPassed (gv W 43) (nI v) = 0 := (c_hasPassed (by omega)).trans (if_pos z1)
      have h7 : qX7_hasPassed U (nI v) = some 0 := by
        rw [r_hasPassed (by omega), z2]
        rfl
      have e : lbX6_untilPassed_25 (nI v) (nI 1000, W) = some (.inl (nI 1001, pv W 43 42 (fX5_makeSteps (gv W 43) 1))) := by
        unfold lbX6_untilPassed_25 lt
        dsimp only
        rw [if_neg (show ¬ (1000 : Int32) < nI 1000 by decide), h6, if_pos rfl]
        rfl
      have e' : lbX6_untilPassed_25 (nI v) (nI 1001, pv W 43 42 (fX5_makeSteps (gv W 43) 1)) = some (.inr (.inr (nI 1001, pv W 43 42 (fX5_makeSteps (gv W 43) 1)))) := by
        unfold lbX6_untilPassed_25
        dsimp only
        rw [if_pos (show (1000 : Int32) < nI 1001 by decide)]
      have e7 : lbX7_untilPassed_18 (nI v) (nI 1000, U) = some (.inr (nI 1000, U)) := by
        unfold lbX7_untilPassed_18
        dsimp only
        rw [h7, Option.bind_some, if_pos rfl, if_pos (show (1000 : Int32) ≤ nI 1000 by decide)]
      refine ⟨pv W 43 42 (fX5_makeSteps (gv W 43) 1), U, fun j hj => pvo (by omega), fun j hj => rfl, Or.inr ⟨?_, ?_, h7⟩⟩
      · show (lbX6_untilPassed_25 (nI v) (nI 1000, W)).bind _ = _
        rw [e]
        show it (lbX6_untilPassed_25 (nI v)) (f + 1) (nI 1001, pv W 43 42 (fX5_makeSteps (gv W 43) 1)) = _
        show (lbX6_untilPassed_25 (nI v) (nI 1001, pv W 43 42 (fX5_makeSteps (gv W 43) 1))).bind _ = _
        rw [e']
        rfl
      · show (lbX7_untilPassed_18 (nI v) (nI 1000, U)).bind _ = _
        rw [e7]
        rfl
    · have h6 : fX4_hasPassed (gv W 43) (nI v) = 1 := (c_hasPassed (by omega)).trans (if_neg (psd_no z1))
      have h7 : qX7_hasPassed U (nI v) = some 1 := by
        rw [r_hasPassed (by omega), z2]
        rfl
      have e : lbX6_untilPassed_25 (nI v) (nI 1000, W) = some (.inr (.inl (nI 1000, W))) := by
        unfold lbX6_untilPassed_25 lt
        dsimp only
        rw [if_neg (show ¬ (1000 : Int32) < nI 1000 by decide), h6, if_neg one_no]
      have e7 : lbX7_untilPassed_18 (nI v) (nI 1000, U) = some (.inr (nI 1000, U)) := by
        unfold lbX7_untilPassed_18
        dsimp only
        rw [h7, Option.bind_some, if_neg one_no]
      refine ⟨W, U, fun j hj => rfl, fun j hj => rfl, Or.inl ⟨1000, ?_, ?_, h7⟩⟩
      · show (lbX6_untilPassed_25 (nI v) (nI 1000, W)).bind _ = _
        rw [e]
        rfl
      · show (lbX7_untilPassed_18 (nI v) (nI 1000, U)).bind _ = _
        rw [e7]
        rfl
  | succ m ih =>
    intro i t f f2 W U hi hf hf2 ht hp
    obtain ⟨f, rfl⟩ : ∃ g, f = g + 1 := ⟨f - 1, by omega⟩
    obtain ⟨f2, rfl⟩ : ∃ g, f2 = g + 1 := ⟨f2 - 1, by omega⟩
    obtain ⟨r, q, d, p⟩ := hp
    have n12 := p.2.2.2.2.2.2.2.2.2.1.1
    rcases (p.2.2.2.2.2.2.2.2.1 v hv).2.2.2 with ⟨z1, z2⟩ | ⟨z1, z2⟩
    · have h6 : fX4_hasPassed (gv W 43) (nI v) = 0 := (c_hasPassed (by omega)).trans (if_pos z1)
      have h7 : qX7_hasPassed U (nI v) = some 0 := by
        rw [r_hasPassed (by omega), z2]
        rfl
      obtain ⟨s', b1, r', q', d', b2⟩ := sim_step p (by omega)
      have e : lbX6_untilPassed_25 (nI v) (nI i, W) = some (.inl (nI (i + 1), pv W 43 42 (fX5_makeSteps (gv W 43) 1))) := by
        unfold lbX6_untilPassed_25 lt
        dsimp only
        rw [if_neg (show ¬ (1000 : Int32) < nI i from nI_nlt (b := i) (a := 1000) (by omega) (by decide)), h6, if_pos rfl, nI_1]
      have e7 : lbX7_untilPassed_18 (nI v) (nI i, U) = some (.inl (nI (i + 1), cpv U 1 s')) := by
        unfold lbX7_untilPassed_18
        dsimp only
        rw [h7, Option.bind_some, if_pos rfl, if_neg (show ¬ (1000 : Int32) ≤ nI i from nI_ge (b := 1000) (by omega) (by decide)), b1, Option.bind_some, nI_1]
      obtain ⟨W', U', k1, k2, k3⟩ := ih (i + 1) (t + 1) f f2 (pv W 43 42 (fX5_makeSteps (gv W 43) 1)) (cpv U 1 s') (by omega) (by omega) (by omega) (by omega) ⟨r', q', d', by
        rw [cpv_at, steps_1]
        exact b2.w (fun j hj => pv_at hj)⟩
      refine ⟨W', U', fun j hj => (k1 j hj).trans (pvo (by omega)), fun j hj => (k2 j hj).trans (cpv_k hj), ?_⟩
      have g6 : it (lbX6_untilPassed_25 (nI v)) (f + 1) (nI i, W) = it (lbX6_untilPassed_25 (nI v)) f (nI (i + 1), pv W 43 42 (fX5_makeSteps (gv W 43) 1)) := by
        show (lbX6_untilPassed_25 (nI v) (nI i, W)).bind _ = _
        rw [e]
        rfl
      have g7 : it (lbX7_untilPassed_18 (nI v)) (f2 + 1) (nI i, U) = it (lbX7_untilPassed_18 (nI v)) f2 (nI (i + 1), cpv U 1 s') := by
        show (lbX7_untilPassed_18 (nI v) (nI i, U)).bind _ = _
        rw [e7]
        rfl
      rw [g6, g7]
      exact k3
    · have h6 : fX4_hasPassed (gv W 43) (nI v) = 1 := (c_hasPassed (by omega)).trans (if_neg (psd_no z1))
      have h7 : qX7_hasPassed U (nI v) = some 1 := by
        rw [r_hasPassed (by omega), z2]
        rfl
      have e : lbX6_untilPassed_25 (nI v) (nI i, W) = some (.inr (.inl (nI i, W))) := by
        unfold lbX6_untilPassed_25 lt
        dsimp only
        rw [if_neg (show ¬ (1000 : Int32) < nI i from nI_nlt (b := i) (a := 1000) (by omega) (by decide)), h6, if_neg one_no]
      have e7 : lbX7_untilPassed_18 (nI v) (nI i, U) = some (.inr (nI i, U)) := by
        unfold lbX7_untilPassed_18
        dsimp only
        rw [h7, Option.bind_some, if_neg one_no]
      refine ⟨W, U, fun j hj => rfl, fun j hj => rfl, Or.inl ⟨i, ?_, ?_, h7⟩⟩
      · show (lbX6_untilPassed_25 (nI v) (nI i, W)).bind _ = _
        rw [e]
        rfl
      · show (lbX7_untilPassed_18 (nI v) (nI i, U)).bind _ = _
        rw [e7]
        rfl
theorem sim_untilPassed {V S : Mem} (h : RR V S) (a1 : Int32) : ∃ a V' S', qX6_untilPassed V a1 = some (a, V') ∧ qX7_untilPassed S a1 = some (a, S') ∧ RR V' S' := by
  obtain ⟨⟨n, t, r, q, d, L, ht, p⟩, -⟩ := id h
  have n12 := p.2.2.2.2.2.2.2.2.2.1.1
  have c1 := p.2.2.2.2.1
  unfold qX6_untilPassed qX7_untilPassed lt
  dsimp only
  rcases word_cases (V := V) (S := S) c1.2.2.2.2.2.1 c1.2.2.2.2.2.2 n12 a1 with ⟨y1, y2⟩ | ⟨v, hv, rfl, y1, y2⟩
  · rw [y1, y2, if_pos rfl, if_pos rfl]
    exact ⟨_, V, S, rfl, rfl, h⟩
  · rw [y1, y2, if_neg one_no, if_neg one_no, r_putAside, Option.bind_some]
    obtain ⟨W', U', k1, k2, k3⟩ := it_until hv 1000 0 t fuel fuel (pv V 43 42 (gv V 1)) (cpv S 2 (cpS 0 0 131 (S 2) (S 1))) (by omega) (fuel_lt (n := 1000 + 1) (by decide)) (fuel_lt (by decide)) (by omega) ⟨r, q, d, by
      rw [cpv_k (by decide)]
      exact p.w (fun j hj => pv_at hj)⟩
    have fin : RR W' (cpv U' 1 (cpS 0 0 131 (U' 1) (U' 2))) := h.back (fun j hj => (k1 j (by omega)).trans (pvo (by omega))) (U := U') k2 rfl
    rcases k3 with ⟨k, g1, g2, g3⟩ | ⟨g1, g2, g3⟩
    · rw [show it (lbX6_untilPassed_25 (nI v)) fuel ((0 : Int32), pv V 43 42 (gv V 1)) = _ from g1, show it (lbX7_untilPassed_18 (nI v)) fuel ((0 : Int32), cpv S 2 (cpS 0 0 131 (S 2) (S 1))) = _ from g2, Option.bind_some, Option.bind_some]
      dsimp only
      rw [g3, Option.bind_some, r_putBack, Option.bind_some, if_neg one_no]
      exact ⟨_, _, _, rfl, rfl, fin⟩
    · rw [show it (lbX6_untilPassed_25 (nI v)) fuel ((0 : Int32), pv V 43 42 (gv V 1)) = _ from g1, show it (lbX7_untilPassed_18 (nI v)) fuel ((0 : Int32), cpv S 2 (cpS 0 0 131 (S 2) (S 1))) = _ from g2, Option.bind_some, Option.bind_some]
      dsimp only
      rw [g3, Option.bind_some, r_putBack, Option.bind_some, if_pos rfl]
      exact ⟨_, _, _, rfl, rfl, fin⟩
