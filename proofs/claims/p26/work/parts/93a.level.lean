/-! the law's level and off; a gate -/
theorem i_off (a b c d : Int32) : a + b - c - d = a + b - (c + d) := by grind
theorem l_level {V : Mem} {k t : Nat} (hk : k < 2) (tb : TB (V 4 k) (V 6 k) (V 8 k) (V 10 k)) (ht : t < 2 ^ 31) : qL_level V (nI k) (nI t) = some (fX3_levelAt (gv V 1) (nI k) (nI t)) := by
  have tp := tb.per
  have tn := tb.ne
  unfold qL_level
  simp only [lt_e]
  rw [qs2 V hk, qs0 V hk, qs1 V hk, if_neg tn, c_level (w := gv V 1) hk tp]
  show _ = some (lvl (V 4 k) (V 6 k) (V 8 k) (nI t))
  obtain ⟨a, b, c, h1, h2, h3, h4, e1, e2, e3, -⟩ := tb
  have hm : t % c < c := Nat.mod_lt _ (by omega)
  unfold lvl
  rw [e3, pk_rem ht (by omega) (by omega), nI_add, pk_sub (a := c) (b := t % c) (by omega)]
  unfold mn
  by_cases c1 : t % c + t % c ≤ c
  · rw [if_pos (nI_le c1 (by omega)), if_neg (nI_nlt (by omega) (by omega)), Option.bind_some]
  · rw [if_neg (nI_ge (by omega) (by omega)), if_pos (nI_lt (by omega) (by omega)), Option.bind_some]
theorem l_off {V : Mem} {t : Nat} {s : Nat → Int32} (pT : pT (gv V 1 3) (gv V 1 5) (gv V 1 7) (gv V 1 9) s) (ht : t < 2 ^ 31) : qL_off V (nI t) = some (ab (fX3_gapAt (gv V 1) (nI t))) := by
  have t0 : TB (V 4 0) (V 6 0) (V 8 0) (V 10 0) := (pT 0 (by decide)).2.2.2.2
  have t1 : TB (V 4 1) (V 6 1) (V 8 1) (V 10 1) := (pT 1 (by decide)).2.2.2.2
  have e0 := l_level (V := V) (k := 0) (t := t) (by decide) t0 ht
  have e1 := l_level (V := V) (k := 1) (t := t) (by decide) t1 ht
  have g3 : fX6_store V (0 : Int32) 3 = V 10 0 := qs3 V (k := 0) (by decide)
  have g4 : fX6_store V (1 : Int32) 3 = V 10 1 := qs3 V (k := 1) (by decide)
  have c0 : cget 2 (gv V 1 9) (0 : Int32) = V 10 0 := cget_nI (i := 0) (by decide)
  have c1 : cget 2 (gv V 1 9) (1 : Int32) = V 10 1 := cget_nI (i := 1) (by decide)
  unfold qL_off
  simp only [lt_e]
  rw [show qL_level V (0 : Int32) (nI t) = _ from e0, Option.bind_some, g3, show qL_level V (1 : Int32) (nI t) = _ from e1, Option.bind_some, g4]
  unfold fX3_gapAt fX3_toldAt
  simp only [lt_e]
  rw [c0, c1]
  show _ = some (ab (fX3_levelAt (gv V 1) (nI 0) (nI t) + V 10 0 - (fX3_levelAt (gv V 1) (nI 1) (nI t) + V 10 1)))
  rw [i_off]
  unfold ab
  split
  · rfl
  · rw [Int32.zero_sub]
/-- whether a gate is open at a step -/
theorem c_openAt {w : Mem} {g : Nat} (hg : g < 4) (x : Int32) : fX5_isOpenAt w (nI g) x = opn (w 18 g) (w 14 g) (ab (fX3_gapAt w x)) := by
  unfold fX5_isOpenAt
  simp only [lt_e]
  exact c_open hg _
theorem lvl_per {me sw pe li : Int32} (h : TB me sw pe li) : ∃ c : Nat, 2 ≤ c ∧ c ≤ 60 ∧ ∀ t t' : Nat, t < 2 ^ 31 → t' < 2 ^ 31 → t % c = t' % c → lvl me sw pe (nI t) = lvl me sw pe (nI t') := by
  obtain ⟨a, b, c, h1, h2, h3, h4, rfl, rfl, rfl, -⟩ := h
  refine ⟨c, h3, h4, fun t t' ht ht' e => ?_⟩
  unfold lvl
  rw [pk_rem ht (by omega) (by omega), pk_rem ht' (by omega) (by omega), e]
/-- the gap comes again -/
theorem gap_per {w : Mem} {s : Nat → Int32} (pT : pT (w 3) (w 5) (w 7) (w 9) s) : ∃ c : Nat, 0 < c ∧ c ≤ 3600 ∧ ∀ t : Nat, t + c < 2 ^ 31 → fX3_gapAt w (nI (t + c)) = fX3_gapAt w (nI t) := by
  have t0 := (pT 0 (by decide)).2.2.2.2
  have t1 := (pT 1 (by decide)).2.2.2.2
  obtain ⟨c0, a1, a2, a3⟩ := lvl_per t0
  obtain ⟨c1, b1, b2, b3⟩ := lvl_per t1
  have hc : c0 * c1 ≤ 60 * 60 := Nat.mul_le_mul a2 b2
  refine ⟨c0 * c1, Nat.mul_pos (by omega) (by omega), hc, fun t ht => ?_⟩
  rw [c_gap t0.per t1.per, c_gap t0.per t1.per]
  unfold tld
  rw [a3 (t + c0 * c1) t ht (by omega) (Nat.add_mul_mod_self_left t c0 c1), b3 (t + c0 * c1) t ht (by omega) (Nat.add_mul_mod_self_right t c0 c1)]
theorem fnd_cut {p : Nat → Bool} {c : Nat} (hc : 0 < c) (hc2 : c ≤ 3600) (hp : ∀ i, i + c < 4000 → p (i + c) = p i) : fndO p 4000 0 = fndO p 3600 0 := by
  cases hF : fndO p 3600 0 with
  | none =>
    have h1 := fndO_none 3600 0 hF
    have all : ∀ N i, i < N → i < 4000 → p i = false := by
      intro N
      induction N with
      | zero => intro i h; omega
      | succ N ih =>
        intro i h h4
        rcases Nat.lt_or_ge i 3600 with a | a
        · exact h1 i (by omega) (by omega)
        · have := hp (i - c) (by omega)
          rw [show i - c + c = i by omega] at this
          rw [this]
          exact ih (i - c) (by omega) (by omega)
    cases hG : fndO p 4000 0 with
    | none => rfl
    | some j =>
      have h2 := fndO_ge hG
      rw [all 4000 j (by omega) (by omega)] at h2
      exact absurd h2.2.2.1 (by decide)
  | some j =>
    obtain ⟨-, a1, a2, a3⟩ := fndO_ge hF
    cases hG : fndO p 4000 0 with
    | none =>
      rw [fndO_none 4000 0 hG j (by omega) (by omega)] at a2
      exact absurd a2 (by decide)
    | some i =>
      obtain ⟨-, b1, b2, b3⟩ := fndO_ge hG
      rcases Nat.lt_trichotomy i j with z | z | z
      · rw [a3 i (by omega) z] at b2
        exact absurd b2 (by decide)
      · rw [z]
      · rw [b3 j (by omega) z] at a2
        exact absurd a2 (by decide)
theorem opn_b (sh sl a : Int32) : (if opn sh sl a = 1 then (1 : Int32) else 0) = opn sh sl a := by
  rcases opn01 sh sl a with h | h <;> rw [h] <;> rfl
theorem opn_c (sh sl a : Int32) : (if opn sh sl a = 0 then (0 : Int32) else 1) = opn sh sl a := by
  rcases opn01 sh sl a with h | h <;> rw [h] <;> rfl
/-- a gate's bit in the mask -/
theorem mask_bit {w : Mem} (ho : ∀ g, g < 4 → fX5_isOpenAt w (nI g) (w 0 0) = 0 ∨ fX5_isOpenAt w (nI g) (w 0 0) = 1) {g : Nat} (hg : g < 4) : (fX5_openMask w >>> (nI g &&& 31)) &&& (1 : Int32) = fX5_isOpenAt w (nI g) (w 0 0) := by
  have e : fX5_openMask w = ((((0 : Int32) ||| omf w 0) ||| omf w 1) ||| omf w 2) ||| omf w 3 := rfl
  rw [e]
  unfold omf
  have h0 := ho 0 (by decide)
  have h1 := ho 1 (by decide)
  have h2 := ho 2 (by decide)
  have h3 := ho 3 (by decide)
  have hh : fX5_isOpenAt w (nI g) (w 0 0) = if g = 0 then fX5_isOpenAt w (nI 0) (w 0 0) else if g = 1 then fX5_isOpenAt w (nI 1) (w 0 0) else if g = 2 then fX5_isOpenAt w (nI 2) (w 0 0) else fX5_isOpenAt w (nI 3) (w 0 0) := by
    obtain rfl | rfl | rfl | rfl : g = 0 ∨ g = 1 ∨ g = 2 ∨ g = 3 := by omega
    · rfl
    · rfl
    · rfl
    · rfl
  rw [hh]
  generalize fX5_isOpenAt w (nI 0) (w 0 0) = a at h0 ⊢
  generalize fX5_isOpenAt w (nI 1) (w 0 0) = b at h1 ⊢
  generalize fX5_isOpenAt w (nI 2) (w 0 0) = c at h2 ⊢
  generalize fX5_isOpenAt w (nI 3) (w 0 0) = d at h3 ⊢
  rcases h0 with rfl | rfl <;> rcases h1 with rfl | rfl <;> rcases h2 with rfl | rfl <;> rcases h3 with rfl | rfl <;> (obtain rfl | rfl | rfl | rfl : g = 0 ∨ g = 1 ∨ g = 2 ∨ g = 3 := by omega) <;> decide
/-- the law's search backwards: the first one -/
theorem it_down {bd : Int32 × Int32 → Option ((Int32 × Int32) ⊕ (Int32 × Int32))} {p : Nat → Bool} {N : Nat} (hN : N < 2 ^ 31) (hs : ∀ m x, m < N → bd (x, nI m) = some (.inl (if p m then nI m else x, nI m + (-1)))) (he : ∀ x, bd (x, (0 : Int32) + (-1)) = some (.inr (x, (0 : Int32) + (-1)))) : ∀ (m f : Nat), m ≤ N → m < f → it bd f ((fndO p (N - m) m).elim (-1006) nI, nI m + (-1)) = some ((fndO p N 0).elim (-1006) nI, (0 : Int32) + (-1))
  | 0, f, hm, hf => by
    obtain ⟨f, rfl⟩ : ∃ g, f = g + 1 := ⟨f - 1, by omega⟩
    exact it_o (he _)
  | m + 1, f, hm, hf => by
    obtain ⟨f, rfl⟩ : ∃ g, f = g + 1 := ⟨f - 1, by omega⟩
    rw [nI_m1, it_s (hs m _ (by omega))]
    have e : (if p m then nI m else (fndO p (N - (m + 1)) (m + 1)).elim (-1006) nI) = (fndO p (N - m) m).elim (-1006) nI := by
      rw [show N - m = (N - (m + 1)) + 1 by omega]
      show _ = (if p m then some m else fndO p (N - (m + 1)) (m + 1)).elim (-1006) nI
      by_cases c : p m = true
      · rw [if_pos c, if_pos c]
        rfl
      · rw [if_neg c, if_neg c]
    rw [e]
    exact it_down hN hs he m f (by omega) (by omega)
