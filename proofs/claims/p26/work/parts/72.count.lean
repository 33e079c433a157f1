/-! count -/
theorem it_sum {n : Nat} {bd : Int32 × Int32 → Option ((Int32 × Int32) ⊕ (Int32 × Int32))} {f : Nat → Int32} (hn : n ≤ 2 ^ 31) (hs : ∀ i q, i < n → bd (q, nI i) = some (.inl (q + f i, nI (i + 1)))) (he : ∀ q, bd (q, nI n) = some (.inr (q, nI n))) : it bd fuel ((0 : Int32), (0 : Int32)) = some (csum n f, nI n) := by
  refine it_for (fun i => (csum i f, nI i)) n (fun i hi => ?_) (he _) fuel (fuel_lt (by omega))
  exact hs i _ hi
theorem r_passedWords {S : Mem} {n : Nat} (h : S 1 4 = nI n) (hn : n ≤ 12) : qX7_passedWords S = some (csum n (fun v => S 1 (72 + 5 * v))) := by
  have e : it (lbX7_passedWords_4 S) fuel ((0 : Int32), (0 : Int32)) = some (csum n (fun v => S 1 (72 + 5 * v)), nI n) := by
    refine it_sum (by omega) (fun i q hi => ?_) (fun q => ?_)
    · unfold lbX7_passedWords_4 lt
      try dsimp only
      rw [h, if_neg (nI_ge hi (by omega)), ow1]
      try dsimp only
      rw [gd_nI (by omega), nI_clamp (n := 72 + 5 * i) (by omega), nI_1]
    · unfold lbX7_passedWords_4
      try dsimp only
      rw [h, if_pos (nI_le (Nat.le_refl _) (by omega))]
  unfold qX7_passedWords
  rw [e, Option.bind_some]
theorem r_backs {S : Mem} {n : Nat} (h : S 1 4 = nI n) (hn : n ≤ 12) : qX7_backs S = some (csum n (fun v => S 1 (75 + 5 * v))) := by
  have e : it (lbX7_backs_4 S) fuel ((0 : Int32), (0 : Int32)) = some (csum n (fun v => S 1 (75 + 5 * v)), nI n) := by
    refine it_sum (by omega) (fun i q hi => ?_) (fun q => ?_)
    · unfold lbX7_backs_4 lt
      try dsimp only
      rw [h, if_neg (nI_ge hi (by omega)), ow4]
      try dsimp only
      rw [gd_nI (by omega), nI_clamp (n := 75 + 5 * i) (by omega), nI_1]
    · unfold lbX7_backs_4
      try dsimp only
      rw [h, if_pos (nI_le (Nat.le_refl _) (by omega))]
  unfold qX7_backs
  rw [e, Option.bind_some]
theorem r_inGates {S : Mem} {f : Nat → Int32} (hf : ∀ i, i < 4 → f i = if S 1 (17 + 8 * i) = -1006 then 0 else 1) : qX7_inGates S = some (csum 4 f) := by
  have e : it (lbX7_inGates_4 S) fuel ((0 : Int32), (0 : Int32)) = some (csum 4 f, nI 4) := by
    refine it_sum (by decide) (fun i q hi => ?_) (fun q => rfl)
    unfold lbX7_inGates_4 lt
    try dsimp only
    rw [if_neg (show ¬ (4 : Int32) ≤ nI i from nI_ge (b := 4) hi (by decide)), og4]
    try dsimp only
    rw [gd_nI (by omega), nI_clamp (n := 17 + 8 * i) (by omega), nI_1, hf i hi]
    by_cases c : S 1 (17 + 8 * i) = -1006
    · rw [if_pos c, if_pos c]
    · rw [if_neg c, if_neg c]
  unfold qX7_inGates
  rw [e, Option.bind_some]
theorem csum_0 (f : Nat → Int32) : ∀ n : Nat, csum (n + 1) f = f 0 + csum n (fun i => f (i + 1))
  | 0 => by
    show (0 : Int32) + f 0 = f 0 + 0
    rw [Int32.zero_add, Int32.add_zero]
  | n + 1 => by
    show csum (n + 1) f + f (n + 1) = f 0 + (csum n (fun i => f (i + 1)) + f (n + 1))
    rw [csum_0 f n, Int32.add_assoc]
theorem csum_cnt (P : Nat → Bool) : ∀ l : List Nat, csum l.length (fun i => if P (l.getD i 0) then 1 else 0) = nI (l.countP P)
  | [] => rfl
  | x :: l => by
    show csum (l.length + 1) _ = _
    rw [csum_0]
    show (if P x then (1 : Int32) else 0) + csum l.length (fun i => if P (l.getD i 0) then 1 else 0) = _
    rw [csum_cnt P l, List.countP_cons]
    by_cases c : P x = true
    · rw [if_pos c, if_pos c, Nat.add_comm]
      exact nI_add 1 _
    · rw [if_neg c, if_neg c]
      exact Int32.zero_add _
theorem csum_rng {P : Nat → Bool} {f : Nat → Int32} : ∀ n : Nat, (∀ i, i < n → f i = if P i then 0 else 1) → csum n f = nI (n - (List.range n).countP P) ∧ (List.range n).countP P ≤ n
  | 0, _ => ⟨rfl, Nat.le_refl _⟩
  | n + 1, h => by
    obtain ⟨i1, i2⟩ := csum_rng (P := P) n (fun i hi => h i (by omega))
    have e : (List.range (n + 1)).countP P = (List.range n).countP P + if P n then 1 else 0 := by
      rw [List.range_succ, List.countP_append, List.countP_cons, List.countP_nil, Nat.zero_add]
    rw [e]
    show csum n f + f n = _ ∧ _
    rw [i1, h n (by omega)]
    by_cases c : P n = true
    · rw [if_pos c, if_pos c, Int32.add_zero]
      exact ⟨congrArg nI (by omega), by omega⟩
    · rw [if_neg c, if_neg c, nI_1]
      exact ⟨congrArg nI (by omega), by omega⟩
theorem held_cnt {h : Nat → Option Nat} (hh : ∀ g a, g < 4 → h g = some a → a < 12) : csum 4 (fun g => if hI (h g) = -1006 then 0 else 1) = nI (hL h).length := by
  have e : ∀ g, g < 4 → (if hI (h g) = -1006 then (0 : Int32) else 1) = nI (h g).toList.length := fun g hg => by
    cases hx : h g with
    | none => rfl
    | some a =>
      have := hh g a hg hx
      rw [if_neg (show ¬ hI (some a) = -1006 from nI_no this)]
      rfl
  show ((((0 : Int32) + (if hI (h 0) = -1006 then 0 else 1)) + (if hI (h 1) = -1006 then 0 else 1)) + (if hI (h 2) = -1006 then 0 else 1)) + (if hI (h 3) = -1006 then 0 else 1) = _
  rw [e 0 (by decide), e 1 (by decide), e 2 (by decide), e 3 (by decide), Int32.zero_add, nI_add, nI_add, nI_add]
  unfold hL
  rw [List.length_append, List.length_append, List.length_append]
  exact congrArg nI (by omega)
theorem c_waiting {b : Int32} {n t k : Nat} {r : Nat → List Nat} {h : Nat → Option Nat} {d : Nat → Nat} {L : Nat → List Nat} {w : Mem} {s : Nat → Int32} (p : RwE b n t r h d L w s) (hk : k < 2) : fX4_waitingInRow w (nI k) = nI ((r k).countP (fun v => decide (w 33 v = -1006))) := by
  obtain ⟨pT, pG, pH, pD, pC, pRc, pRs, pL, pP, pX, pK, pN, pZ⟩ := p
  have n12 := pX.1
  obtain ⟨l1, l2, l3⟩ := pRc k hk
  unfold fX4_waitingInRow
  rw [cget_nI hk, l2, nI_clamp (by omega), ← csum_cnt]
  refine csum_congr _ (fun i hi => ?_)
  rw [c_wordAt hk l3 l1 hi]
  have := pX.row_lt hk (getD_mem hi)
  rw [c_hasPassed (by omega)]
  by_cases c : w 33 ((r k).getD i 0) = -1006
  · rw [if_pos c, if_pos rfl, if_pos (decide_eq_true c)]
  · rw [if_neg c, if_neg one_no, if_neg (fun q => c (of_decide_eq_true q))]
theorem mask_same {w : Mem} : ∀ i : Nat, mskS (fun i => fX5_isOpenAt w (nI i) (w 0 0)) i = orm i (omf w)
  | 0 => rfl
  | i + 1 => by
    show (if fX5_isOpenAt w (nI i) (w 0 0) = 0 then mskS _ i ||| (0 : Int32) else mskS _ i ||| ((1 : Int32) <<< (nI i &&& 31))) = orm i (omf w) ||| omf w i
    rw [mask_same i]
    unfold omf
    by_cases c : fX5_isOpenAt w (nI i) (w 0 0) = 0
    · rw [if_pos c, if_pos c]
    · rw [if_neg c, if_neg c]
theorem count_3 {b : Int32} {n t : Nat} {r : Nat → List Nat} {h : Nat → Option Nat} {d : Nat → Nat} {L : Nat → List Nat} {w : Mem} {s : Nat → Int32} (p : RwE b n t r h d L w s) : nI n - csum n (fun v => s (72 + 5 * v)) - csum 4 (fun g => if hI (h g) = -1006 then 0 else 1) = fX4_waitingInRow w (nI 0) + fX4_waitingInRow w (nI 1) := by
  have w0 := c_waiting p (k := 0) (by decide)
  have w1 := c_waiting p (k := 1) (by decide)
  obtain ⟨pT, pG, pH, pD, pC, pRc, pRs, pL, pP, pX, pK, pN, pZ⟩ := p
  have n12 := pX.1
  have hc := held_cnt (h := h) (fun g a hg e => by have := pX.held_lt hg e; omega)
  have hr := csum_rng (P := fun v => decide (w 33 v = -1006)) (f := fun v => s (72 + 5 * v)) n (fun v hv => by
    rcases (pP v hv).2.2.2 with ⟨z1, z2⟩ | ⟨z1, z2⟩
    · rw [z2, if_pos (decide_eq_true z1)]
    · rw [z2, if_neg (fun q => psd_no z1 (of_decide_eq_true q))])
  have hp := pX.2.countP_eq (fun v => decide (w 33 v = -1006))
  rw [List.countP_append, List.countP_append] at hp
  have ha : (hL h).countP (fun v => decide (w 33 v = -1006)) = (hL h).length := by
    refine List.countP_eq_length.mpr (fun v hv => ?_)
    obtain ⟨g, hg, e⟩ := mem_hL hv
    exact decide_eq_true ((pK g hg).2 v e).1
  rw [w0, w1, hc, hr.1, pk_sub (by omega), nI_add]
  have h2 := hr.2
  rw [pk_sub (by omega)]
  exact congrArg nI (by omega)
theorem sim_count {V S : Mem} (h : RR V S) (a1 : Int32) : qX7_count S a1 = some (fX6_count V a1) := by
  have hop := fun g (hg : g < 4) => h.opens hg (i := 0) (by decide)
  obtain ⟨⟨n, t, r, q, d, L, ht, p⟩, ⟨m, hm, b1, b2, -⟩, ⟨k, o, -, -, g1, -, g2, -⟩, -⟩ := h
  have p3 := count_3 p
  obtain ⟨pT, pG, pH, pD, pC, pRc, pRs, pL, pP, pX, pK, pN, pZ⟩ := p
  have n12 := pX.1
  obtain ⟨q1, q2, q3, q4, q5, q6, q7⟩ := pC
  have ins : csum 4 (fun g => if hI (q g) = -1006 then 0 else 1) = fX1_wordsInside (gv V 1) := by
    unfold fX1_wordsInside
    refine csum_congr _ (fun g hg => ?_)
    unfold fX1_hasWord lt
    try dsimp only
    rw [cget_nI hg, (pH g hg).1]
  have hig := r_inGates (S := S) (f := fun g => if hI (q g) = -1006 then 0 else 1) (fun g hg => by rw [(pH g hg).2])
  unfold qX7_count fX6_count lt
  try dsimp only
  by_cases e0 : a1 = 0
  · rw [if_pos e0, if_pos e0]
    exact congrArg some (q2.trans q1.symm)
  rw [if_neg e0, if_neg e0]
  by_cases e1 : a1 = 1
  · rw [if_pos e1, if_pos e1]
    exact congrArg some (q7.trans q6.symm)
  rw [if_neg e1, if_neg e1]
  by_cases e2 : a1 = 2
  · rw [if_pos e2, if_pos e2, r_passedWords q7 n12, Option.bind_some]
    exact congrArg some pN.symm
  rw [if_neg e2, if_neg e2]
  by_cases e3 : a1 = 3
  · rw [if_pos e3, if_pos e3, r_passedWords q7 n12, Option.bind_some, hig, Option.bind_some, q7]
    exact congrArg some p3
  rw [if_neg e3, if_neg e3]
  by_cases e4 : a1 = 4
  · rw [if_pos e4, if_pos e4, hig, Option.bind_some, ins]
  rw [if_neg e4, if_neg e4]
  by_cases e5 : a1 = 5
  · subst e5
    rw [if_pos rfl, if_pos rfl, show (2 : Int32) + 5 - 5 = nI 2 by decide, gd_nI (by decide), nI_clamp (by decide)]
    exact congrArg some q4
  rw [if_neg e5, if_neg e5]
  by_cases e6 : a1 = 6
  · subst e6
    rw [if_pos rfl, if_pos rfl, show (2 : Int32) + 6 - 5 = nI 3 by decide, gd_nI (by decide), nI_clamp (by decide)]
    exact congrArg some q5
  rw [if_neg e6, if_neg e6]
  by_cases e7 : a1 = 7
  · rw [if_pos e7, if_pos e7, r_openNow (o := fun i => fX5_isOpenAt (gv V 1) (nI i) (V 1 0)) (fun g hg => ?_), Option.bind_some]
    · exact congrArg some (mask_same (w := gv V 1) 4)
    · have := hop g hg
      rw [nI_0, Int32.add_zero, Int32.add_zero] at this
      exact this
  rw [if_neg e7, if_neg e7]
  by_cases e8 : a1 = 8
  · rw [if_pos e8, if_pos e8]
    exact congrArg some (q3.trans (Int32.add_zero _))
  rw [if_neg e8, if_neg e8]
  by_cases e9 : a1 = 9
  · rw [if_pos e9, if_pos e9]
    exact congrArg some (b2.trans b1.symm)
  rw [if_neg e9, if_neg e9]
  by_cases e10 : a1 = 10
  · rw [if_pos e10, if_pos e10]
    exact congrArg some (g2.trans g1.symm)
  rw [if_neg e10, if_neg e10]
