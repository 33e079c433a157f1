/-! run, wipe, save, undo, restore -/
theorem sim_run {V S : Mem} (h : RR V S) (a1 : Int32) : ∃ S', qX7_run S a1 = some ((fX6_run V a1).1, S') ∧ RR (fX6_run V a1).2 S' := by
  unfold qX7_run fX6_run lt
  try dsimp only
  rw [in_same]
  rcases within_lo (a := a1) (lo := 1) (hi := 500) (m := 1) (n := 500) rfl rfl with z | ⟨z, m, hm1, hm, rfl⟩
  · rw [z, if_pos rfl, if_pos rfl]
    exact ⟨S, rfl, h⟩
  rw [z, if_neg one_no, if_neg one_no]
  clear z
  obtain ⟨S', e, es, ev, h'⟩ := h.rec
  rw [← ev 1 (by decide) (by decide), ← es 1 (by decide) (by decide), e, Option.bind_some]
  generalize fX6_record V = U at ev h' ⊢
  obtain ⟨⟨n, t, r, q, d, L, ht, p⟩, -⟩ := id h'
  have n12 := p.2.2.2.2.2.2.2.2.2.1.1
  obtain ⟨q1, q2, q3, q4, q5, q6, q7⟩ := p.2.2.2.2.1
  rw [show S' 1 0 = nI t from q2, show U 1 0 = nI t from q1, nI_add]
  by_cases c : t + m ≤ 99999
  · have c' : nI (t + m) ≤ (99999 : Int32) := nI_le (b := 99999) c (by decide)
    rw [if_pos c', if_pos c', r_passedWords q7 n12, Option.bind_some]
    obtain ⟨s2, b1, r', q', d', b2⟩ := sim_runs p (k := m) (by omega) (by omega)
    have pn := p.2.2.2.2.2.2.2.2.2.2.2.1
    have pn2 := b2.2.2.2.2.2.2.2.2.2.2.2.1
    have q72 := b2.2.2.2.2.1.2.2.2.2.2.2
    rw [b1, Option.bind_some, r_passedWords (S := cpv S' 1 s2) (by rw [cpv_at]; exact q72) n12, Option.bind_some, cpv_at]
    have e25 : pv U 1 42 (fX5_makeSteps (gv U 1) (nI m)) 25 = fX5_makeSteps (gv U 1) (nI m) 24 := pv_at (k := 1) (j := 24) (by decide)
    try dsimp only
    rw [e25, ← show csum 4 (U 25) = csum n (fun v => S' 1 (72 + 5 * v)) from pn, ← show csum 4 (fX5_makeSteps (gv U 1) (nI m) 24) = csum n (fun v => s2 (72 + 5 * v)) from pn2]
    refine ⟨_, rfl, h'.now (fun j hj => pvo (by omega)) (fun j h1 h2 => cpv_k h1) ⟨n, t + m, r', q', d', L, c, ?_⟩⟩
    rw [cpv_at]
    exact b2.w (fun j hj => pv_at hj)
  · have c' : ¬ nI (t + m) ≤ (99999 : Int32) := nI_ge (a := 99999) (by omega) (by omega)
    rw [if_neg c', if_neg c']
    exact ⟨S, rfl, h⟩
theorem sim_wipe {V S : Mem} (h : RR V S) : (fX6_wipe V).1 = (fX7_wipe S).1 ∧ RR (fX6_wipe V).2 (fX7_wipe S).2 := by
  obtain ⟨hw, ⟨m, hm, b1, b2, b3⟩, ⟨k, p, h3⟩, h4⟩ := h
  refine ⟨b1.trans b2.symm, ?_⟩
  show RR (sv V 85 0 0) (sv S 0 1 0)
  refine ⟨?_, ⟨0, by decide, sv_at, sv_at, fun i hi => absurd hi (by omega)⟩, ⟨k, p, h3.of (fun j h1 h2 => sv_k (by omega)) (sv_k (by decide)) (sv_j (by decide)) (sv_k (by decide))⟩, h4.of (fun j h1 h2 => sv_k (by omega)) (sv_k (by decide)) (sv_k (by decide)) (sv_k (by decide))⟩
  rw [sv_k (show (1 : Nat) ≠ 0 by decide)]
  exact hw.w (fun j hj => sv_k (by omega))
theorem it_save {S : Mem} {i : Nat} (hi2 : i < 2) : it (lbX7_save_15 (nI i)) fuel ((0 : Int32), S) = some (nI 131, cpv S 4 (cpS (131 * i) 0 131 (S 4) (S 1))) := by
  refine it_cpy (by decide) (by decide) (Or.inl (by decide)) (fun j U hj hU => ?_) (fun U => ?_)
  · unfold lbX7_save_15 lt
    try dsimp only
    rw [if_neg (show ¬ (131 : Int32) ≤ nI j from nI_ge hj (by decide)), gd_nI (by omega), n131, gd_nI (by omega), nI_clamp (n := 131 * i + j) (by omega), nI_clamp (n := j) (by omega), nI_1, Nat.zero_add]
  · unfold lbX7_save_15
    try dsimp only
    rw [if_pos (show (131 : Int32) ≤ nI 131 by decide)]
theorem sim_save {V S : Mem} (h : RR V S) (a1 : Int32) : ∃ S', qX7_save S a1 = some ((fX6_save V a1).1, S') ∧ RR (fX6_save V a1).2 S' := by
  unfold qX7_save fX6_save lt
  try dsimp only
  rw [in_same]
  rcases within_nat (a := a1) (hi := 1) (n := 1) rfl with z | ⟨z, i, hi, rfl⟩
  · rw [z, if_pos rfl, if_pos rfl]
    exact ⟨S, rfl, h⟩
  rw [z, if_neg one_no, if_neg one_no, it_save (by omega), Option.bind_some]
  try dsimp only
  rw [gd_nI (by omega), nI_clamp (n := i) (by omega), cset_nI (by omega)]
  have ce : fX6_copyInto V 341 2 (nI i) = pv V (342 + 42 * i) 42 (gv V 1) := by
    unfold fX6_copyInto
    rw [if_neg (nI_in (by omega) (by decide)), nI_clamp (by omega), show 341 + (1 + 42 * i) = 342 + 42 * i by omega]
  rw [ce]
  obtain ⟨hw, hp, ⟨k, p, h3⟩, h4⟩ := h
  have e0 : S 1 0 = V 1 0 := by
    obtain ⟨n, t, r, q, d, L, ht, pp⟩ := hw
    exact pp.2.2.2.2.1.2.1.trans pp.2.2.2.2.1.1.symm
  have v10 : sv (pv V (342 + 42 * i) 42 (gv V 1)) 427 i 1 1 0 = V 1 0 := by
    rw [sv_k (by decide), pvo (by omega)]
  have s10 : sv (cpv S 4 (cpS (131 * i) 0 131 (S 4) (S 1))) 5 i 1 1 0 = S 1 0 := by
    rw [sv_k (by decide), cpv_k (by decide)]
  rw [v10, s10, e0]
  have vo : ∀ j, j ≠ 427 → j < 342 + 42 * i ∨ 384 + 42 * i ≤ j → sv (pv V (342 + 42 * i) 42 (gv V 1)) 427 i 1 j = V j := fun j h1 h2 => by
    rw [sv_k h1, pvo (by omega)]
  have vi : ∀ j, j < 42 → sv (pv V (342 + 42 * i) 42 (gv V 1)) 427 i 1 (342 + 42 * i + j) = V (1 + j) := fun j hj => by
    rw [sv_k (by omega), pv_at hj]
    rfl
  have so : ∀ j, j ≠ 4 → j ≠ 5 → sv (cpv S 4 (cpS (131 * i) 0 131 (S 4) (S 1))) 5 i 1 j = S j := fun j h1 h2 => by
    rw [sv_k h2, cpv_k h1]
  have s4 : sv (cpv S 4 (cpS (131 * i) 0 131 (S 4) (S 1))) 5 i 1 4 = cpS (131 * i) 0 131 (S 4) (S 1) := by
    rw [sv_k (by decide), cpv_at]
  have v427 : sv (pv V (342 + 42 * i) 42 (gv V 1)) 427 i 1 427 = upd (V 427) i 1 := by
    rw [sv_row, pvo (by omega)]
  have s5 : sv (cpv S 4 (cpS (131 * i) 0 131 (S 4) (S 1))) 5 i 1 5 = upd (S 5) i 1 := by
    rw [sv_row, cpv_k (by decide)]
  generalize sv (pv V (342 + 42 * i) 42 (gv V 1)) 427 i 1 = V' at v10 vo vi v427 ⊢
  generalize sv (cpv S 4 (cpS (131 * i) 0 131 (S 4) (S 1))) 5 i 1 = S2 at s10 so s4 s5 ⊢
  refine ⟨S2, rfl, ?_, hp.of (vo _ (by decide) (by omega)) (vo _ (by decide) (by omega)) (congrFun (so 0 (by decide) (by decide)) 1) (so 6 (by decide) (by decide)), ⟨k, p, h3.of (fun j h1 h2 => vo j (by omega) (by omega)) (vo 0 (by decide) (by omega)) (congrFun (so 0 (by decide) (by decide)) 0) (so 3 (by decide) (by decide))⟩, fun i' hi' => ?_⟩
  · rw [so 1 (by decide) (by decide)]
    exact hw.w (fun j hj => vo _ (by omega) (by omega))
  · rw [v427, s5, s4]
    by_cases c : i' = i
    · subst c
      rw [upd_at, upd_at]
      refine Or.inr ⟨rfl, rfl, (hw.w (fun j hj => vi j hj)).s (fun j hj => ?_)⟩
      rw [cpS_at hj, Nat.zero_add]
    · rw [upd_ne c, upd_ne c]
      rcases h4 i' hi' with g | ⟨g1, g2, g3⟩
      · exact Or.inl g
      · refine Or.inr ⟨g1, g2, (g3.w (fun j hj => vo _ (by omega) (by omega))).s (fun j hj => ?_)⟩
        unfold cpS
        rw [if_neg (by omega)]
theorem it_undo {S : Mem} {k : Nat} (h : S 0 0 = nI k) (hk : k < 6) : it lbX7_undo_23 fuel ((0 : Int32), S) = some (nI 131, cpv S 1 (cpS 0 (131 * k) 131 (S 1) (S 3))) := by
  refine it_cpy (by decide) (by decide) (Or.inl (by decide)) (fun i U hi hU => ?_) (fun U => ?_)
  · have e : (131 : Int32) * U 0 0 + nI i = nI (131 * k + i) := by rw [hU, h, n131]
    unfold lbX7_undo_23 lt
    try dsimp only
    rw [if_neg (show ¬ (131 : Int32) ≤ nI i from nI_ge hi (by decide)), e, gd_nI (by omega), gd_nI (by omega), nI_clamp (n := 131 * k + i) (by omega), nI_clamp (n := i) (by omega), nI_1, Nat.zero_add]
  · unfold lbX7_undo_23
    try dsimp only
    rw [if_pos (show (131 : Int32) ≤ nI 131 by decide)]
theorem cpS0 {b n j : Nat} {f g : Nat → Int32} (h : j < n) : cpS 0 b n f g j = g (b + j) := by
  have := cpS_at (a := 0) (b := b) (n := n) (f := f) (g := g) h
  rw [Nat.zero_add] at this
  exact this
theorem sim_undo {V S : Mem} (h : RR V S) : ∃ a V' S', qX6_undo V = some (a, V') ∧ qX7_undo S = some (a, S') ∧ RR V' S' := by
  obtain ⟨hw, hp, ⟨k, p, k6, p6, v1, v0, s0, hh⟩, h4⟩ := id h
  unfold qX6_undo qX7_undo lt
  try dsimp only
  rw [v1, s0]
  rcases Nat.eq_zero_or_pos k with z | z
  · subst z
    rw [if_pos nI_0, if_pos nI_0]
    exact ⟨_, V, S, rfl, rfl, h⟩
  · obtain ⟨m, rfl⟩ : ∃ m, k = m + 1 := ⟨k - 1, by omega⟩
    rw [if_neg (nI_ne0 (by omega) (by omega)), if_neg (nI_ne0 (by omega) (by omega)), nI_pred, it_undo (S := sv S 0 0 (nI m)) sv_at (by omega), Option.bind_some, v0]
    have wi : (p + 6 - (m + 1) + m) % 6 = (p + 5) % 6 := by omega
    have hm := hh m (by omega)
    rw [wi] at hm
    have key : ∀ o : Nat, o = (p + 5) % 6 → RR (pv (sv (sv V 0 0 (nI o)) 0 1 (nI m)) 1 42 (gv (sv (sv V 0 0 (nI o)) 0 1 (nI m)) (88 + (1 + 42 * o)))) (cpv (sv S 0 0 (nI m)) 1 (cpS 0 (131 * m) 131 (sv S 0 0 (nI m) 1) (sv S 0 0 (nI m) 3))) := fun o ho => by
      have o6 : o < 6 := by omega
      rw [← ho] at hm
      have vo : ∀ j, 43 ≤ j → pv (sv (sv V 0 0 (nI o)) 0 1 (nI m)) 1 42 (gv (sv (sv V 0 0 (nI o)) 0 1 (nI m)) (88 + (1 + 42 * o))) j = V j := fun j hj => by
        rw [pvo (by omega), sv_k (by omega), sv_k (by omega)]
      have vi : ∀ j, j < 42 → pv (sv (sv V 0 0 (nI o)) 0 1 (nI m)) 1 42 (gv (sv (sv V 0 0 (nI o)) 0 1 (nI m)) (88 + (1 + 42 * o))) (1 + j) = V (89 + 42 * o + j) := fun j hj => by
        rw [pv_at hj]
        show sv (sv V 0 0 (nI o)) 0 1 (nI m) (88 + (1 + 42 * o) + j) = _
        rw [sv_k (by omega), sv_k (by omega)]
        exact congrArg V (by omega)
      have w0 : pv (sv (sv V 0 0 (nI o)) 0 1 (nI m)) 1 42 (gv (sv (sv V 0 0 (nI o)) 0 1 (nI m)) (88 + (1 + 42 * o))) 0 0 = nI o := by
        rw [pvo (by omega), sv_j (by decide), sv_at]
      have w1 : pv (sv (sv V 0 0 (nI o)) 0 1 (nI m)) 1 42 (gv (sv (sv V 0 0 (nI o)) 0 1 (nI m)) (88 + (1 + 42 * o))) 0 1 = nI m := by
        rw [pvo (by omega), sv_at]
      generalize pv (sv (sv V 0 0 (nI o)) 0 1 (nI m)) 1 42 (gv (sv (sv V 0 0 (nI o)) 0 1 (nI m)) (88 + (1 + 42 * o))) = V' at vo vi w0 w1 ⊢
      have so : ∀ j, j ≠ 0 → j ≠ 1 → cpv (sv S 0 0 (nI m)) 1 (cpS 0 (131 * m) 131 (sv S 0 0 (nI m) 1) (sv S 0 0 (nI m) 3)) j = S j := fun j h1 h2 => by
        rw [cpv_k h2, sv_k h1]
      have s00 : cpv (sv S 0 0 (nI m)) 1 (cpS 0 (131 * m) 131 (sv S 0 0 (nI m) 1) (sv S 0 0 (nI m) 3)) 0 0 = nI m := by
        rw [cpv_k (by decide), sv_at]
      have s01 : cpv (sv S 0 0 (nI m)) 1 (cpS 0 (131 * m) 131 (sv S 0 0 (nI m) 1) (sv S 0 0 (nI m) 3)) 0 1 = S 0 1 := by
        rw [cpv_k (by decide), sv_j (by decide)]
      have s1 : ∀ j, j < 131 → cpv (sv S 0 0 (nI m)) 1 (cpS 0 (131 * m) 131 (sv S 0 0 (nI m) 1) (sv S 0 0 (nI m) 3)) 1 j = S 3 (131 * m + j) := fun j hj => by
        rw [cpv_at, cpS0 hj, sv_k (by decide)]
      generalize cpv (sv S 0 0 (nI m)) 1 (cpS 0 (131 * m) 131 (sv S 0 0 (nI m) 1) (sv S 0 0 (nI m) 3)) = S2 at so s00 s01 s1 ⊢
      refine ⟨(hm.w (fun j hj => vi j hj)).s s1, hp.of (vo _ (by decide)) (vo _ (by decide)) s01 (so 6 (by decide) (by decide)), ⟨m, o, by omega, o6, w1, w0, s00, fun i hi => ?_⟩, h4.of (fun j h1 h2 => vo j (by omega)) (vo _ (by decide)) (so 4 (by decide) (by decide)) (so 5 (by decide) (by decide))⟩
      have hx := hh i (by omega)
      have hmm : (p + 6 - (m + 1) + i) % 6 = (o + 6 - m + i) % 6 := by omega
      rw [hmm] at hx
      generalize (o + 6 - m + i) % 6 = y at hx ⊢
      rw [so 3 (by decide) (by decide)]
      exact hx.w (fun j hj => vo _ (by omega))
    by_cases c : p = 0
    · subst c
      rw [if_pos nI_0]
      have q1 : sv V 0 0 (5 : Int32) 0 1 = nI (m + 1) := by rw [sv_j (by decide)]; exact v1
      rw [q1, nI_pred]
      have q0 : sv (sv V 0 0 (5 : Int32)) 0 1 (nI m) 0 0 = nI 5 := by rw [sv_j (by decide), sv_at]; rfl
      rw [q0, gd_nI (by decide), nI_clamp (n := 5) (by decide)]
      refine ⟨_, _, _, rfl, ?_, key 5 (by omega)⟩
      refine congrArg (fun q => some (q, _)) ?_
      dsimp only
      rw [cpv_k (by decide), sv_at, pvo (by omega), sv_at]
    · rw [if_neg (nI_ne0 (by omega) (by omega))]
      obtain ⟨y, rfl⟩ : ∃ y, p = y + 1 := ⟨p - 1, by omega⟩
      have q1 : sv V 0 0 (nI y) 0 1 = nI (m + 1) := by rw [sv_j (by decide)]; exact v1
      rw [nI_pred, q1, nI_pred]
      have q0 : sv (sv V 0 0 (nI y)) 0 1 (nI m) 0 0 = nI y := by rw [sv_j (by decide), sv_at]
      rw [q0, gd_nI (by omega), nI_clamp (n := y) (by omega)]
      refine ⟨_, _, _, rfl, ?_, key y (by omega)⟩
      refine congrArg (fun q => some (q, _)) ?_
      dsimp only
      rw [cpv_k (by decide), sv_at, pvo (by omega), sv_at]
theorem it_restore {S : Mem} {i : Nat} (hi2 : i < 2) : it (lbX7_restore_32 (nI i)) fuel ((0 : Int32), S) = some (nI 131, cpv S 1 (cpS 0 (131 * i) 131 (S 1) (S 4))) := by
  refine it_cpy (by decide) (by decide) (Or.inl (by decide)) (fun j U hj hU => ?_) (fun U => ?_)
  · unfold lbX7_restore_32 lt
    try dsimp only
    rw [if_neg (show ¬ (131 : Int32) ≤ nI j from nI_ge hj (by decide)), n131, gd_nI (by omega), gd_nI (by omega), nI_clamp (n := 131 * i + j) (by omega), nI_clamp (n := j) (by omega), nI_1, Nat.zero_add]
  · unfold lbX7_restore_32
    try dsimp only
    rw [if_pos (show (131 : Int32) ≤ nI 131 by decide)]
theorem sim_restore {V S : Mem} (h : RR V S) (a1 : Int32) : ∃ a V' S', qX6_restore V a1 = some (a, V') ∧ qX7_restore S a1 = some (a, S') ∧ RR V' S' := by
  unfold qX6_restore qX7_restore lt
  try dsimp only
  rw [in_same]
  rcases within_nat (a := a1) (hi := 1) (n := 1) rfl with z | ⟨z, i, hi, rfl⟩
  · rw [z, if_pos rfl, if_pos rfl]
    exact ⟨_, V, S, rfl, rfl, h⟩
  rw [z, if_neg one_no, if_neg one_no, cget_nI (by omega), gd_nI (by omega), gd_nI (by omega), nI_clamp (n := i) (by omega)]
  rcases h.2.2.2 i (by omega) with ⟨g1, g2⟩ | ⟨g1, g2, -⟩
  · rw [g1, g2, if_pos rfl, if_pos rfl]
    exact ⟨_, V, S, rfl, rfl, h⟩
  rw [g1, g2, if_neg one_no, if_neg one_no]
  obtain ⟨S', e, es, ev, h'⟩ := h.rec
  rw [e, Option.bind_some, it_restore (by omega), Option.bind_some]
  have e427 := ev 427 (by decide) (by decide)
  generalize fX6_record V = U at ev h' e427 ⊢
  try dsimp only
  have h4 : Rw 99999 (gv U (342 + 42 * i)) (fun j => S' 4 (131 * i + j)) := by
    rcases h'.2.2.2 i (by omega) with ⟨g3, -⟩ | ⟨-, -, g3⟩
    · rw [e427, g1] at g3
      exact absurd g3 one_no
    · exact g3
  have hi4 : Rw 99999 (gv (pv U 1 42 (gv U (341 + (1 + 42 * i)))) 1) (cpv S' 1 (cpS 0 (131 * i) 131 (S' 1) (S' 4)) 1) := by
    refine (h4.w (fun j hj => ?_)).s (fun j hj => ?_)
    · show pv U 1 42 (gv U (341 + (1 + 42 * i))) (1 + j) = U (342 + 42 * i + j)
      rw [pv_at hj]
      exact congrArg U (by omega)
    · rw [cpv_at, cpS0 hj]
  have e0 : cpv S' 1 (cpS 0 (131 * i) 131 (S' 1) (S' 4)) 1 0 = pv U 1 42 (gv U (341 + (1 + 42 * i))) 1 0 := by
    obtain ⟨n, t, r, q, d, L, ht, pp⟩ := hi4
    exact pp.2.2.2.2.1.2.1.trans pp.2.2.2.2.1.1.symm
  refine ⟨_, _, _, rfl, ?_, h'.now (fun j hj => pvo (by omega)) (fun j h1 h2 => cpv_k h1) hi4⟩
  rw [e0]
