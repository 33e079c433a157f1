/-! untilPassed; a word, as the law sees it -/
theorem it_unt {V w : Mem} {v : Nat} (hv : v < 12) : ∀ (m i f : Nat) (W : Mem), i + m = 1001 → m < f → (∀ j, j < 43 ∨ 85 ≤ j → W j = V j) → (∀ j, j < 42 → gv W 43 j = stps i w j) → (∀ q, q < i → stps q w 33 v = -1006) → ∃ x W', it (lbX6_untilPassed_25 (nI v)) f (nI i, W) = some x ∧ (∀ j, j < 43 ∨ 85 ≤ j → W' j = V j) ∧ ((∃ k : Nat, k ≤ 1000 ∧ x = .inl (nI k, W') ∧ ¬ stps k w 33 v = -1006 ∧ ∀ q, q < k → stps q w 33 v = -1006) ∨ (∃ y, x = .inr (y, W') ∧ ∀ q, q ≤ 1000 → stps q w 33 v = -1006)) := by
  intro m
  induction m with
  | zero =>
    intro i f W hi hf hW hw hq
    obtain ⟨f, rfl⟩ : ∃ g, f = g + 1 := ⟨f - 1, by omega⟩
    obtain rfl : i = 1001 := by omega
    refine ⟨.inr (nI 1001, W), W, it_o ?_, hW, Or.inr ⟨_, rfl, fun q h => hq q (by omega)⟩⟩
    unfold lbX6_untilPassed_25
    dsimp only
    rw [if_pos (show (1000 : Int32) < nI 1001 by decide)]
  | succ m ih =>
    intro i f W hi hf hW hw hq
    obtain ⟨f, rfl⟩ : ∃ g, f = g + 1 := ⟨f - 1, by omega⟩
    have c1 : ¬ (1000 : Int32) < nI i := nI_nlt (b := i) (a := 1000) (by omega) (by decide)
    have hp : fX4_hasPassed (gv W 43) (nI v) = if stps i w 33 v = -1006 then 0 else 1 := by
      rw [c_hasPassed hv, hw 33 (by decide)]
    by_cases c : stps i w 33 v = -1006
    · rw [if_pos c] at hp
      have e : lbX6_untilPassed_25 (nI v) (nI i, W) = some (.inl (nI (i + 1), pv W 43 42 (fX5_makeSteps (gv W 43) 1))) := by
        unfold lbX6_untilPassed_25
        simp only [lt_e]
        rw [if_neg c1, hp, if_pos rfl, nI_1]
      rw [it_s e]
      refine ih (i + 1) f _ (by omega) (by omega) (fun j hj => (pvo (by omega)).trans (hW j hj)) (fun j hj => ?_) (fun q h => ?_)
      · rw [gv_pv hj, steps_1, stps_s]
        exact st1_ag hw hj
      · by_cases z : q = i
        · rw [z]
          exact c
        · exact hq q (by omega)
    · rw [if_neg c] at hp
      refine ⟨.inl (nI i, W), W, it_o ?_, hW, Or.inl ⟨i, by omega, rfl, c, hq⟩⟩
      unfold lbX6_untilPassed_25
      simp only [lt_e]
      rw [if_neg c1, hp, if_neg one_no]
/-- untilPassed: the steps until a word has passed -/
theorem l_until {V : Mem} {n v : Nat} (hV : V 28 0 = nI n) (hv : v < n) (hn : n ≤ 12) : ∃ a V', qX6_untilPassed V (nI v) = some (a, V') ∧ (∀ j, j < 43 ∨ 85 ≤ j → V' j = V j) ∧ ((∃ k : Nat, k ≤ 1000 ∧ a = nI k ∧ ¬ stps k (gv V 1) 33 v = -1006 ∧ ∀ q, q < k → stps q (gv V 1) 33 v = -1006) ∨ (a = -1006 ∧ ∀ q, q ≤ 1000 → stps q (gv V 1) 33 v = -1006)) := by
  unfold qX6_untilPassed
  simp only [lt_e]
  rw [isW hV hv hn, if_neg one_no]
  obtain ⟨x, W', h1, h2, h3⟩ := it_unt (V := V) (w := gv V 1) (v := v) (by omega) 1001 0 fuel (pv V 43 42 (gv V 1)) rfl (fuel_lt (by decide)) (fun j hj => pvo (by omega)) (fun j hj => gv_pv hj) (fun q h => by omega)
  rw [show it (lbX6_untilPassed_25 (nI v)) fuel ((0 : Int32), pv V 43 42 (gv V 1)) = some x from h1, Option.bind_some]
  rcases h3 with ⟨k, k1, k2, k3, k4⟩ | ⟨y, k1, k2⟩
  · subst k2
    exact ⟨_, _, rfl, h2, Or.inl ⟨k, k1, rfl, k3, k4⟩⟩
  · subst k1
    exact ⟨_, _, rfl, h2, Or.inr ⟨rfl, k2⟩⟩
theorem l_isWord {V : Mem} {n t v : Nat} {r : Nat → List Nat} {h : Nat → Option Nat} {d : Nat → Nat} {L : Nat → List Nat} {s : Nat → Int32} (G : GW n t r h d L (gv V 1) s) (ht : t ≤ 200000) (hv : v < n) : ∃ V', qL_isWord V (nI v) = some (1, V') ∧ ∀ j, j < 43 ∨ 85 ≤ j → V' j = V j := by
  obtain ⟨p, hEX⟩ := G
  obtain ⟨pT, pG, pH, pD, pC, pRc, pRs, pL, pP, pX, pK, pN, pZ⟩ := id p
  have n12 := pX.1
  have v10 : V 1 0 = nI t := pC.1
  have v28 : V 28 0 = nI n := pC.2.2.2.2.2.1
  obtain ⟨m1, m2, m3, m4, -⟩ := pL v hv
  have m4' : V 30 v = nI (L v).length := m4
  obtain ⟨a, V', u1, u2, u3⟩ := l_until v28 hv n12
  have z0 : stps 0 (gv V 1) 33 v = V 34 v := rfl
  -- passed or not, at one
  have hP : (V 34 v = -1006 ∧ V 36 v = -1006 ∧ ¬ a = 0) ∨ (∃ a0 g0 : Nat, a0 < t ∧ g0 < 4 ∧ V 34 v = nI a0 ∧ V 36 v = nI g0 ∧ ¬ V 34 v = -1006 ∧ ¬ V 36 v = -1006 ∧ a = 0) := by
    rcases hEX.1.1.2 v hv with ⟨y1, y2⟩ | ⟨a0, g0, y1, y2, y3, y4⟩
    · refine Or.inl ⟨y1, y2, ?_⟩
      rcases u3 with ⟨k, k1, k2, k3, k4⟩ | ⟨k1, -⟩
      · intro e
        rw [k2] at e
        obtain rfl : k = 0 := (nI_eq (a := k) (b := 0) (by omega) (by decide)).mp e
        exact k3 (z0.trans y1)
      · rw [k1]
        decide
    · have y3' : V 34 v = nI a0 := y3
      have y4' : V 36 v = nI g0 := y4
      have ny : ¬ V 34 v = -1006 := by
        rw [y3']
        exact fun e => nI_pos (n := a0) (by omega) (by rw [e]; decide)
      refine Or.inr ⟨a0, g0, y1, y2, y3', y4', ny, by rw [y4']; exact nI_no (by omega), ?_⟩
      rcases u3 with ⟨k, k1, k2, k3, k4⟩ | ⟨-, k1⟩
      · rw [k2]
        cases k with
        | zero => rfl
        | succ k => exact absurd (z0.symm.trans (k4 0 (by omega))) ny
      · exact absurd (z0.symm.trans (k1 0 (by omega))) ny
  -- a value that is 0 or 1
  obtain ⟨P, hPe, hP34, hP36, hP01⟩ : ∃ P : Int32, P = (if V 34 v = -1006 then 0 else 1) ∧ (if V 34 v = (-1006 : Int32) then some (0 : Int32) else some (1 : Int32) : Option Int32) = some P ∧ (if V 36 v = (-1006 : Int32) then some (0 : Int32) else some (1 : Int32) : Option Int32) = some P ∧ (if P = (1 : Int32) then some (1 : Int32) else some (0 : Int32) : Option Int32) = some P := by
    rcases hP with ⟨y1, y2, -⟩ | ⟨a0, g0, -, -, -, -, y1, y2, -⟩
    · exact ⟨0, by rw [if_pos y1], by rw [if_pos y1], by rw [if_pos y2], rfl⟩
    · exact ⟨1, by rw [if_neg y1], by rw [if_neg y1], by rw [if_neg y2], rfl⟩
  have w1 := qw0 v28 hv n12
  have w2 := qw1 v28 hv n12
  have w3 := qw2 v28 hv n12
  have w4 := qw3 v28 hv n12
  have w5 := qw4 v28 hv n12
  have w6 := qw5 v28 hv n12
  rw [← hPe] at w4
  rw [m4'] at w3
  have w7 : fX6_word V (nI v) ((7 : Int32) + nI (L v).length) = -1006 := by
    rw [qwl v28 hv n12 (by omega), c_letterOf p hv (by omega), if_neg (by omega)]
  have hlet : ∀ j, j < (L v).length → ∃ x : Nat, 97 ≤ x ∧ x ≤ 122 ∧ fX6_word V (nI v) ((7 : Int32) + nI j) = nI x := fun j hj => by
    have hx := m3 _ (getD_mem hj)
    exact ⟨96 + (L v).getD j 0, by omega, by omega, by rw [qwl v28 hv n12 (by omega), c_letterOf p hv (by omega), if_pos hj]⟩
  have hloop : it (lbL_isWord_157 V (nI v) (nI (L v).length)) fuel ((1 : Int32), (0 : Int32)) = some ((1 : Int32), nI (L v).length) := by
    refine it_for (fun i => ((1 : Int32), nI i)) (L v).length (fun i hi => ?_) ?_ fuel (fuel_lt (by omega))
    · obtain ⟨x, x1, x2, x3⟩ := hlet i hi
      unfold lbL_isWord_157
      simp only [lt_e]
      rw [if_neg (nI_ge hi (by omega)), if_neg one_no, x3, if_neg (show ¬ nI x < (97 : Int32) from nI_nlt (a := x) (b := 97) (by omega) (by omega)), if_neg (show ¬ (122 : Int32) < nI x from nI_nlt (a := 122) (b := x) (by omega) (by omega)), Option.bind_some, nI_1]
    · unfold lbL_isWord_157
      simp only [lt_e]
      rw [if_pos (nI_le (Nat.le_refl _) (by omega))]
  have l1 : ¬ nI (L v).length < (1 : Int32) := nI_nlt (a := (L v).length) (b := 1) (by omega) (by omega)
  have l6 : ¬ (6 : Int32) < nI (L v).length := nI_nlt (a := 6) (b := (L v).length) (by omega) (by omega)
  rcases c_where p hv with ⟨k, j, hk, hj, ej, x1, x2⟩ | ⟨g, hg, eg, x1, x2⟩
  · rw [x1] at w1
    rw [x2] at w2
    have k2 : ¬ (2 : Int32) ≤ nI k := nI_ge (b := 2) hk (by decide)
    have ha : fX6_at V (nI k) (nI j) = nI v := by rw [qat hk (pRc k hk) hj, ej]
    unfold qL_isWord
    simp only [lt_e]
    rw [w1, w2, w3, w4, hP01, Option.bind_some, if_neg l1, if_neg l6, if_neg k2, ha, if_pos rfl, w5, hP34, Option.bind_some, if_pos rfl, w6, hP36, Option.bind_some, if_pos rfl, w7, if_pos rfl, Option.bind_some, hloop, Option.bind_some, if_neg one_no]
    rcases hP with ⟨y1, y2, y3⟩ | ⟨a0, g0, y1, y2, y3, y4, y5, y6, y7⟩
    · rw [if_pos (show P = 0 by rw [hPe, if_pos y1]), u1, Option.bind_some, if_neg y3]
      exact ⟨V', rfl, u2⟩
    · rw [if_neg (show ¬ P = 0 by rw [hPe, if_neg y5]; decide), qc0, v10, y3, if_neg (show ¬ nI t ≤ nI a0 from nI_ge y1 (by omega)), u1, Option.bind_some, if_pos y7]
      refine ⟨V', ?_, u2⟩
      by_cases q : nI k = (1 : Int32) - fX6_gateOf V (V 36 v) 0
      · rw [if_pos q]
      · rw [if_neg q, if_neg k2]
  · rw [x1] at w1
    rw [x2] at w2
    have k1 := ((pK g hg).2 v eg).1
    have y1 : V 34 v = -1006 := k1
    have P0 : P = 0 := by rw [hPe, if_pos y1]
    have k2 : (2 : Int32) ≤ nI (2 + g) := nI_le (a := 2) (by omega) (by omega)
    have h21 : V 21 g = nI v := by
      have : V 21 g = hI (h g) := (pH g hg).1
      rw [this, eg]
      rfl
    have e2 : nI (2 + g) - (2 : Int32) = nI g := (pk_sub (a := 2 + g) (b := 2) (by omega)).trans (congrArg nI (by omega))
    unfold qL_isWord
    simp only [lt_e]
    rw [w1, w2, w3, w4, hP01, Option.bind_some, if_neg l1, if_neg l6, if_pos k2, e2, qg5 V hg, h21, if_pos rfl, if_pos P0, w5, hP34, Option.bind_some, if_pos rfl, w6, hP36, Option.bind_some, if_pos rfl, w7, if_pos rfl, Option.bind_some, hloop, Option.bind_some, if_neg one_no, if_pos P0, u1, Option.bind_some]
    rcases hP with ⟨-, -, y3⟩ | ⟨a0, g0, -, -, -, -, y5, -⟩
    · rw [if_neg y3]
      exact ⟨V', rfl, u2⟩
    · exact absurd y1 y5
