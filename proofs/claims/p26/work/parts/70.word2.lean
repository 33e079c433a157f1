/-! word -/
theorem word_cases {V S : Mem} {n : Nat} (h1 : V 28 0 = nI n) (h2 : S 1 4 = nI n) (hn : n ≤ 12) (a : Int32) : (fX6_isWord V a = 0 ∧ fX7_isWord S a = 0) ∨ ∃ v : Nat, v < n ∧ a = nI v ∧ fX6_isWord V a = 1 ∧ fX7_isWord S a = 1 := by
  unfold fX6_isWord fX7_isWord lt
  try dsimp only
  rw [h1, h2, in_same]
  rcases within_cases a 0 (nI n - 1) with c | ⟨c, c3, c4⟩
  · exact Or.inl ⟨c, c⟩
  · refine Or.inr ?_
    obtain ⟨j, hj, rfl⟩ := nI_of c3
    refine ⟨j, ?_, rfl, c, c⟩
    rcases Nat.eq_zero_or_pos n with z | z
    · subst z
      exact absurd c4 (by
        show ¬ nI j ≤ (-1 : Int32)
        rw [Int32.le_iff_toInt_le, nI_toInt hj]
        have : (-1 : Int32).toInt = -1 := by decide
        omega)
    · obtain ⟨m, hm⟩ : ∃ m, n = m + 1 := ⟨n - 1, by omega⟩
      rw [hm, nI_pred] at c4
      have := (nI_leI hj (by omega)).mp c4
      omega
/-- the model's number of a word's place, and the class's place -/
theorem sim_where {b : Int32} {n t v : Nat} {r : Nat → List Nat} {h : Nat → Option Nat} {d : Nat → Nat} {L : Nat → List Nat} {w S : Mem} (p : RwE b n t r h d L w (S 1)) (hv : v < n) : ∃ x : Nat, x < 700 ∧ qX7_whereIs S (nI v) = some (nI x) ∧ fX5_whereIs w (nI v) = nI (x / 100) ∧ fX4_placeOf w (nI v) = if x % 100 = 99 then -1006 else nI (x % 100) := by
  obtain ⟨pT, pG, pH, pD, pC, pRc, pRs, pL, pP, pX, pK, pN, pZ⟩ := p
  have n12 := pX.1
  have e := r_whereIs hv pX pRs (fun g hg => (pH g hg).2)
  have r12 : ∀ k, k < 2 → ∀ a ∈ r k, a < 12 := fun k hk a ha => by have := pX.row_lt hk ha; omega
  have g0 := c_placeIn (w := w) (k := 0) (v := v) (by decide) pRc (by omega) (r12 0 (by decide))
  have g1 := c_placeIn (w := w) (k := 1) (v := v) (by decide) pRc (by omega) (r12 1 (by decide))
  have gg := c_gateWith (w := w) pX (fun g hg => (pH g hg).1) (show v < 12 by omega)
  have hn := (pX.2.nodup_iff).mpr List.nodup_range
  obtain ⟨n1, n2, n3⟩ := List.nodup_append.mp hn
  obtain ⟨n4, n5, n6⟩ := List.nodup_append.mp n2
  have k0 := (pRc 0 (by decide)).1
  have k1 := (pRc 1 (by decide)).1
  have wh : fX5_whereIs w (nI v) = if fnd (inG h v) 4 = -1006 then (if fnd (inR (r 0) v) (r 0).length = -1006 then 1 else 0) else 2 + fnd (inG h v) 4 := by
    unfold fX5_whereIs lt
    try dsimp only
    rw [gg, show fX4_placeIn w (0 : Int32) (nI v) = _ from g0]
  have pl : fX4_placeOf w (nI v) = if fnd (inR (r 0) v) (r 0).length = -1006 then fnd (inR (r 1) v) (r 1).length else fnd (inR (r 0) v) (r 0).length := by
    unfold fX4_placeOf lt
    try dsimp only
    rw [show fX4_placeIn w (0 : Int32) (nI v) = _ from g0, show fX4_placeIn w (1 : Int32) (nI v) = _ from g1]
  rw [wh, pl, e]
  rcases pX.where hv with ⟨a0, a1, a2⟩ | ⟨a0, a1, a2⟩ | ⟨a0, a1, g, hg, hp, hu⟩
  · obtain ⟨j, hj, hp, hu⟩ := inR_one n1 a0
    rw [lst_no 4 (inG_no a2), lst_no _ (inR_no a1), lst_one hp _ hj hu, fnd_no (inG_no a2), fnd_one hj hp hu]
    refine ⟨j, by omega, rfl, ?_, ?_⟩
    · rw [if_pos rfl, if_neg (nI_no (by omega)), Nat.div_eq_of_lt (by omega)]
      rfl
    · rw [if_neg (nI_no (by omega)), Nat.mod_eq_of_lt (by omega), if_neg (by omega)]
  · obtain ⟨j, hj, hp, hu⟩ := inR_one n4 a1
    rw [lst_no 4 (inG_no a2), lst_one hp _ hj hu, fnd_no (inG_no a2), fnd_no (inR_no a0), fnd_one hj hp hu]
    refine ⟨100 + j, by omega, rfl, ?_, ?_⟩
    · rw [if_pos rfl, if_pos rfl, show (100 + j) / 100 = 1 by omega]
      rfl
    · rw [if_pos rfl, show (100 + j) % 100 = j by omega, if_neg (by omega)]
  · rw [lst_one hp _ hg hu, fnd_one hg hp hu, fnd_no (inR_no a0), fnd_no (inR_no a1)]
    refine ⟨299 + 100 * g, by omega, rfl, ?_, ?_⟩
    · rw [if_neg (nI_no (by omega)), show (299 + 100 * g) / 100 = 2 + g by omega]
      exact nI_add 2 g
    · rw [if_pos rfl, show (299 + 100 * g) % 100 = 99 by omega, if_pos rfl]
theorem encR_div : ∀ (r : List Nat) (i : Nat), (∀ x ∈ r, 1 ≤ x ∧ x ≤ 26) → encR r / 27 ^ i = encR (r.drop i)
  | r, 0, _ => by rw [Nat.pow_zero, Nat.div_one]; rfl
  | [], i + 1, _ => by
    show 0 / _ = 0
    exact Nat.zero_div _
  | x :: r, i + 1, h => by
    have hx := h x List.mem_cons_self
    have ih := encR_div r i (fun y hy => h y (List.mem_cons_of_mem _ hy))
    rw [List.drop_succ_cons, ← ih, Nat.pow_succ, Nat.mul_comm, ← Nat.div_div_eq_div_mul]
    refine congrArg (fun q => q / 27 ^ i) ?_
    show (27 * encR r + x) / 27 = encR r
    omega
theorem it_lo {l : Nat} {a : Nat} (ha : a < l) : ∀ (k c f : Nat), a + k < 2 ^ 31 → c < 2 ^ 31 → k < f → it (lbX7_letterOf_20 (nI a)) f (nI c, nI (a + k)) = some (nI (c / 27 ^ k), nI a)
  | 0, c, f, hk, hc, hf => by
    obtain ⟨f, rfl⟩ : ∃ g, f = g + 1 := ⟨f - 1, by omega⟩
    have e : lbX7_letterOf_20 (nI a) (nI c, nI (a + 0)) = some (.inr (nI c, nI a)) := by
      unfold lbX7_letterOf_20
      try dsimp only
      rw [if_pos (show nI (a + 0) ≤ nI a from nI_le (Nat.le_refl _) (by omega))]
      rfl
    show (lbX7_letterOf_20 (nI a) (nI c, nI (a + 0))).bind _ = _
    rw [e, Nat.pow_zero, Nat.div_one]
    rfl
  | k + 1, c, f, hk, hc, hf => by
    obtain ⟨f, rfl⟩ : ∃ g, f = g + 1 := ⟨f - 1, by omega⟩
    have e : lbX7_letterOf_20 (nI a) (nI c, nI (a + (k + 1))) = some (.inl (nI (c / 27), nI (a + k))) := by
      unfold lbX7_letterOf_20
      try dsimp only
      rw [if_neg (nI_ge (by omega) (by omega)), show (27 : Int32) = nI 27 from rfl, pk_div hc (by decide) (by decide)]
      exact congrArg (fun q => some (Sum.inl (nI (c / 27), q))) (pk_m1 (a + k))
    show (lbX7_letterOf_20 (nI a) (nI c, nI (a + (k + 1)))).bind _ = _
    rw [e]
    have hc2 : c / 27 < 2 ^ 31 := by omega
    have ih := it_lo ha k (c / 27) f (by omega) hc2 (by omega)
    rw [Nat.div_div_eq_div_mul, Nat.mul_comm, ← Nat.pow_succ] at ih
    exact ih
theorem it_lo0 {a c : Int32} {b : Int32} (h : b ≤ a) : it (lbX7_letterOf_20 a) fuel (c, b) = some (c, b) := by
  have e : lbX7_letterOf_20 a (c, b) = some (.inr (c, b)) := by
    unfold lbX7_letterOf_20
    try dsimp only
    rw [if_pos h]
  exact it_for (fun _ => (c, b)) 0 (fun i hi => absurd hi (by omega)) e fuel (fuel_lt (by omega))
theorem r_letterOf {S : Mem} {v a : Nat} (hv : v < 12) {l : List Nat} (h : ∀ x ∈ l, 1 ≤ x ∧ x ≤ 26) (h0 : 1 ≤ l.length) (hl : l.length ≤ 6) (he : S 1 (71 + 5 * v) = nI (enc l 0)) (ha : a < 2 ^ 31) : qX7_letterOf S (nI v) (nI a) = some (if a < l.length then nI (96 + l.getD a 0) else -1006) := by
  have hr : enc l 0 = encR l.reverse := (enc_R l []).trans (congrArg encR (List.append_nil _))
  have hm : ∀ x ∈ l.reverse, 1 ≤ x ∧ x ≤ 26 := fun x hx => h x (List.mem_reverse.mp hx)
  have hc : encR l.reverse < 2 ^ 31 := by
    have := encR_lt6 hm (by rw [List.length_reverse]; exact hl)
    omega
  obtain ⟨m, hm1⟩ : ∃ m, l.length = m + 1 := ⟨l.length - 1, by omega⟩
  have hlen := r_lettersOf hv h hl he
  unfold qX7_letterOf lt
  try dsimp only
  rw [ow0]
  try dsimp only
  rw [gd_nI (by omega), nI_clamp (n := 71 + 5 * v) (by omega), hlen, hm1, he, hr]
  simp only [Option.bind_some, nI_pred, in_same]
  by_cases c : a < m + 1
  · obtain ⟨k, rfl⟩ : ∃ k, m = a + k := ⟨m - a, by omega⟩
    rw [it_lo (l := l.length) (by omega) k _ fuel (by omega) hc (fuel_lt (by omega)), Option.bind_some]
    have w1 : fX6_isWithin (nI a) (0 : Int32) (nI (a + k)) = 1 := by
      unfold fX6_isWithin
      rw [if_neg (nI_pos (by omega)), if_neg (nI_nlt (by omega) (by omega))]
    rw [w1, if_neg one_no, if_pos c, encR_div _ _ hm]
    try dsimp only
    have hd : l.reverse.drop k = l.getD a 0 :: (l.take a).reverse := by
      have : l.reverse.drop k = (l.take (a + 1)).reverse := by
        rw [List.drop_reverse, hm1]
        exact congrArg (fun q => (l.take q).reverse) (by omega)
      rw [this, List.take_add_one, getD_some (by omega), Option.toList_some, List.reverse_append]
      rfl
    rw [hd]
    have hb := h _ (getD_mem (r := l) (i := a) (by omega)) 
    generalize l.getD a 0 = x at hd hb ⊢
    have hb2 : encR (x :: (l.take a).reverse) < 2 ^ 31 := by
      rw [← hd, ← encR_div _ _ hm]
      exact Nat.lt_of_le_of_lt (Nat.div_le_self _ _) hc
    have e1 : encR (x :: (l.take a).reverse) = 27 * encR (l.take a).reverse + x := rfl
    rw [e1] at hb2 ⊢
    generalize encR (l.take a).reverse = y at hb2 ⊢
    rw [show (27 : Int32) = nI 27 from rfl, pk_div hb2 (by decide) (by decide), pk_mul, pk_sub (by omega), show (96 : Int32) = nI 96 from rfl, nI_add, show (27 * y + x) - (27 * y + x) / 27 * 27 = x by omega]
  · rw [if_neg c, it_lo0 (nI_le (by omega) (by omega)), Option.bind_some]
    have w1 : fX6_isWithin (nI a) (0 : Int32) (nI m) = 0 := by
      unfold fX6_isWithin
      rw [if_neg (nI_pos (by omega)), if_pos (nI_lt (by omega) (by omega))]
    rw [w1, if_pos rfl]
