/-! the fault of a text -/
def isL (c : Nat) : Prop := 97 ≤ c ∧ c ≤ 122
/-- the fault's place told from the codes: k left, from i on, behind l letters -/
def gF (c : Nat → Nat) (m : Nat) : Nat → Nat → Nat → Int32
  | 0, _, l => if l = 0 then nI m else -1006
  | k + 1, i, l => if 97 ≤ c i ∧ c i ≤ 122 then (if 6 ≤ l then nI i else gF c m k (i + 1) (l + 1)) else if c i = 44 ∧ 0 < l then gF c m k (i + 1) 0 else nI i
theorem fpl_g {W : Mem} {c : Nat → Nat} {m : Nat} (hm : m ≤ 60) (h0 : W 0 0 = nI m) (hc : ∀ i, i < m → W 2 i = nI (c i) ∧ c i ≤ 126) : ∀ (k i l : Nat), i + k = m → l ≤ 6 → fpl W k i (nI l) = gF c m k i l
  | 0, i, l, hi, hl => by
    show (if nI l = 0 then W 0 0 else -1006) = (if l = 0 then nI m else -1006)
    by_cases z : l = 0
    · rw [if_pos z, if_pos (by rw [z]; rfl), h0]
    · rw [if_neg z, if_neg (nI_ne0 (by omega) (by omega))]
  | k + 1, i, l, hi, hl => by
    obtain ⟨e, h126⟩ := hc i (by omega)
    have e1 : cget 60 (W 2) (nI i) = nI (c i) := by rw [cget_nI (by omega), e]
    have ih1 := fpl_g hm h0 hc k (i + 1) (l + 1) (by omega)
    have ih2 := fpl_g hm h0 hc k (i + 1) 0 (by omega) (by omega)
    show (if cget 60 (W 2) (nI i) < (97 : Int32) then (if cget 60 (W 2) (nI i) = (44 : Int32) then (if nI l ≤ 0 then nI i else fpl W k (i + 1) 0) else nI i) else if (122 : Int32) < cget 60 (W 2) (nI i) then (if cget 60 (W 2) (nI i) = (44 : Int32) then (if nI l ≤ 0 then nI i else fpl W k (i + 1) 0) else nI i) else if (6 : Int32) ≤ nI l then nI i else fpl W k (i + 1) (nI l + 1)) = (if 97 ≤ c i ∧ c i ≤ 122 then (if 6 ≤ l then nI i else gF c m k (i + 1) (l + 1)) else if c i = 44 ∧ 0 < l then gF c m k (i + 1) 0 else nI i)
    rw [e1]
    have i44 : nI (c i) = (44 : Int32) ↔ c i = 44 := nI_eq (b := 44) (by omega) (by decide)
    have i97 : nI (c i) < (97 : Int32) ↔ c i < 97 := nI_ltI (b := 97) (by omega) (by decide)
    have i122 : (122 : Int32) < nI (c i) ↔ 122 < c i := nI_ltI (a := 122) (by decide) (by omega)
    have tail : ¬ (97 ≤ c i ∧ c i ≤ 122) → (if nI (c i) = (44 : Int32) then (if nI l ≤ 0 then nI i else fpl W k (i + 1) 0) else nI i) = (if 97 ≤ c i ∧ c i ≤ 122 then (if 6 ≤ l then nI i else gF c m k (i + 1) (l + 1)) else if c i = 44 ∧ 0 < l then gF c m k (i + 1) 0 else nI i) := fun hn => by
      rw [if_neg hn]
      by_cases z : c i = 44
      · rw [if_pos (i44.mpr z)]
        by_cases z2 : l = 0
        · rw [if_pos (by rw [z2]; decide), if_neg (by omega)]
        · rw [if_neg (nI_nle (by omega) (by omega)), if_pos ⟨z, by omega⟩]
          exact ih2
      · rw [if_neg (fun q => z (i44.mp q)), if_neg (fun q => z q.1)]
    by_cases c1 : c i < 97
    · rw [if_pos (i97.mpr c1)]
      exact tail (by omega)
    · rw [if_neg (fun q => c1 (i97.mp q))]
      by_cases c2 : 122 < c i
      · rw [if_pos (i122.mpr c2)]
        exact tail (by omega)
      · rw [if_neg (fun q => c2 (i122.mp q)), if_pos (show 97 ≤ c i ∧ c i ≤ 122 by omega)]
        by_cases c3 : 6 ≤ l
        · rw [if_pos (show (6 : Int32) ≤ nI l from nI_le (a := 6) c3 (by omega)), if_pos c3]
        · rw [if_neg (show ¬ (6 : Int32) ≤ nI l from nI_ge (b := 6) (by omega) (by decide)), if_neg c3, nI_1]
          exact ih1 (by omega)
/-- letters are passed over -/
theorem gF_run {c : Nat → Nat} {m p : Nat} : ∀ (l : Nat), l ≤ 6 → p + l ≤ m → (∀ j, j < l → 97 ≤ c (p + j) ∧ c (p + j) ≤ 122) → gF c m (m - p) p 0 = gF c m (m - (p + l)) (p + l) l
  | 0, _, _, _ => rfl
  | l + 1, hl, hp, h => by
    rw [gF_run l (by omega) (by omega) (fun j hj => h j (by omega))]
    obtain ⟨k, hk⟩ : ∃ k, m - (p + l) = k + 1 := ⟨m - (p + l) - 1, by omega⟩
    rw [hk]
    show (if 97 ≤ c (p + l) ∧ c (p + l) ≤ 122 then (if 6 ≤ l then nI (p + l) else gF c m k (p + l + 1) (l + 1)) else if c (p + l) = 44 ∧ 0 < l then gF c m k (p + l + 1) 0 else nI (p + l)) = _
    rw [if_pos (h l (by omega)), if_neg (by omega), show m - (p + (l + 1)) = k by omega]
    rfl
theorem it_behind {S : Mem} {c : Nat → Nat} {m p : Nat} (hm : m ≤ 60) (h0 : S 0 1 = nI m) (hc : ∀ i, i < m → S 6 i = nI (c i) ∧ c i ≤ 126) : ∀ (k j f : Nat), j + k = 6 → k < f → p + j ≤ m → (∀ i, i < j → 97 ≤ c (p + i) ∧ c (p + i) ≤ 122) → ∃ l, l ≤ 6 ∧ p + l ≤ m ∧ (∀ i, i < l → 97 ≤ c (p + i) ∧ c (p + i) ≤ 122) ∧ (p + l = m ∨ l = 6 ∨ ¬ (97 ≤ c (p + l) ∧ c (p + l) ≤ 122)) ∧ it (lbX7_behind_2 S (nI p)) f (nI (p + j)) = some (nI (p + l)) := by
  intro k
  induction k with
  | zero =>
    intro j f hj hf hp h
    obtain ⟨f, rfl⟩ : ∃ g, f = g + 1 := ⟨f - 1, by omega⟩
    obtain rfl : j = 6 := by omega
    refine ⟨6, by decide, hp, h, Or.inr (Or.inl rfl), ?_⟩
    have e : lbX7_behind_2 S (nI p) (nI (p + 6)) = some (.inr (nI (p + 6))) := by
      unfold lbX7_behind_2
      rw [show nI p + (6 : Int32) = nI (p + 6) from nI_add p 6]
      by_cases z : S 0 1 ≤ nI (p + 6)
      · rw [if_pos z]
      · rw [if_neg z, if_pos (Int32.le_refl _)]
    show (lbX7_behind_2 S (nI p) (nI (p + 6))).bind _ = _
    rw [e]
    rfl
  | succ k ih =>
    intro j f hj hf hp h
    obtain ⟨f, rfl⟩ : ∃ g, f = g + 1 := ⟨f - 1, by omega⟩
    by_cases z : p + j = m
    · refine ⟨j, by omega, hp, h, Or.inl z, ?_⟩
      have e : lbX7_behind_2 S (nI p) (nI (p + j)) = some (.inr (nI (p + j))) := by
        unfold lbX7_behind_2
        rw [h0, z, if_pos (Int32.le_refl _)]
      show (lbX7_behind_2 S (nI p) (nI (p + j))).bind _ = _
      rw [e]
      rfl
    · have n1 : ¬ nI m ≤ nI (p + j) := nI_ge (by omega) (by omega)
      have n2 : ¬ nI (p + 6) ≤ nI (p + j) := nI_ge (by omega) (by omega)
      obtain ⟨e6, h126⟩ := hc (p + j) (by omega)
      by_cases z2 : 97 ≤ c (p + j) ∧ c (p + j) ≤ 122
      · obtain ⟨l, k1, k2, k3, k4, k5⟩ := ih (j + 1) f (by omega) (by omega) (by omega) (fun i hi => by
          by_cases z3 : i = j
          · rw [z3]
            exact z2
          · exact h i (by omega))
        refine ⟨l, k1, k2, k3, k4, ?_⟩
        have w1 : fX7_in (nI (c (p + j))) 97 122 = 1 := by
          unfold fX7_in
          rw [if_neg (show ¬ nI (c (p + j)) < (97 : Int32) from nI_nlt (b := 97) z2.1 (by omega)), if_neg (show ¬ (122 : Int32) < nI (c (p + j)) from nI_nlt (a := 122) z2.2 (by decide))]
        have e : lbX7_behind_2 S (nI p) (nI (p + j)) = some (.inl (nI (p + (j + 1)))) := by
          unfold lbX7_behind_2
          simp only [lt_e]
          rw [show nI p + (6 : Int32) = nI (p + 6) from nI_add p 6, h0, if_neg n1, if_neg n2, gd_nI (by omega), nI_clamp (n := p + j) (by omega), e6, w1, if_neg one_no, nI_1]
          rfl
        show (lbX7_behind_2 S (nI p) (nI (p + j))).bind _ = _
        rw [e]
        exact k5
      · refine ⟨j, by omega, hp, h, Or.inr (Or.inr z2), ?_⟩
        have w1 : fX7_in (nI (c (p + j))) 97 122 = 0 := by
          unfold fX7_in
          by_cases c1 : c (p + j) < 97
          · rw [if_pos (show nI (c (p + j)) < (97 : Int32) from nI_lt (b := 97) c1 (by decide))]
          · rw [if_neg (show ¬ nI (c (p + j)) < (97 : Int32) from nI_nlt (b := 97) (by omega) (by omega)), if_pos (show (122 : Int32) < nI (c (p + j)) from nI_lt (a := 122) (by omega) (by omega))]
        have e : lbX7_behind_2 S (nI p) (nI (p + j)) = some (.inr (nI (p + j))) := by
          unfold lbX7_behind_2
          simp only [lt_e]
          rw [show nI p + (6 : Int32) = nI (p + 6) from nI_add p 6, h0, if_neg n1, if_neg n2, gd_nI (by omega), nI_clamp (n := p + j) (by omega), e6, w1, if_pos rfl]
        show (lbX7_behind_2 S (nI p) (nI (p + j))).bind _ = _
        rw [e]
        rfl
theorem r_behind {S : Mem} {c : Nat → Nat} {m p : Nat} (hm : m ≤ 60) (h0 : S 0 1 = nI m) (hc : ∀ i, i < m → S 6 i = nI (c i) ∧ c i ≤ 126) (hp : p ≤ m) : ∃ l, l ≤ 6 ∧ p + l ≤ m ∧ (∀ i, i < l → 97 ≤ c (p + i) ∧ c (p + i) ≤ 122) ∧ (p + l = m ∨ l = 6 ∨ ¬ (97 ≤ c (p + l) ∧ c (p + l) ≤ 122)) ∧ qX7_behind S (nI p) = some (nI (p + l)) := by
  obtain ⟨l, k1, k2, k3, k4, k5⟩ := it_behind (p := p) hm h0 hc 6 0 fuel (by omega) (fuel_lt (by decide)) hp (fun i hi => absurd hi (by omega))
  refine ⟨l, k1, k2, k3, k4, ?_⟩
  unfold qX7_behind
  rw [show it (lbX7_behind_2 S (nI p)) fuel (nI p) = some (nI (p + l)) from k5, Option.bind_some]
theorem it_wrong {S : Mem} {c : Nat → Nat} {m : Nat} (hm : m ≤ 60) (h0 : S 0 1 = nI m) (hc : ∀ i, i < m → S 6 i = nI (c i) ∧ c i ≤ 126) : ∀ (k p f : Nat), m - p ≤ k → p ≤ m → k < f → it (lbX7_wrong_2 S) f (nI p) = some (gF c m (m - p) p 0) := by
  intro k
  induction k with
  | zero =>
    intro p f hk hp hf
    obtain ⟨f, rfl⟩ : ∃ g, f = g + 1 := ⟨f - 1, by omega⟩
    obtain rfl : p = m := by omega
    obtain ⟨l, k1, k2, k3, k4, k5⟩ := r_behind hm h0 hc (Nat.le_refl p)
    obtain rfl : l = 0 := by omega
    have e : lbX7_wrong_2 S (nI p) = some (.inr (nI p)) := by
      unfold lbX7_wrong_2
      rw [k5, Option.bind_some]
      rw [show nI (p + 0) = nI p from rfl, if_pos rfl]
    show (lbX7_wrong_2 S (nI p)).bind _ = _
    rw [e, Nat.sub_self]
    rfl
  | succ k ih =>
    intro p f hk hp hf
    obtain ⟨f, rfl⟩ : ∃ g, f = g + 1 := ⟨f - 1, by omega⟩
    obtain ⟨l, k1, k2, k3, k4, k5⟩ := r_behind hm h0 hc hp
    have er := gF_run l k1 k2 k3
    rw [er]
    have go : ∀ r, lbX7_wrong_2 S (nI p) = some (.inr r) → it (lbX7_wrong_2 S) (f + 1) (nI p) = some r := fun r e => by
      show (lbX7_wrong_2 S (nI p)).bind _ = _
      rw [e]
      rfl
    by_cases z : l = 0
    · subst z
      have e : lbX7_wrong_2 S (nI p) = some (.inr (nI p)) := by
        unfold lbX7_wrong_2
        rw [k5, Option.bind_some]
        rw [show nI (p + 0) = nI p from rfl, if_pos rfl]
      rw [go _ e]
      refine congrArg some ?_
      rw [Nat.add_zero] at k4 ⊢
      rcases Nat.eq_zero_or_pos (m - p) with y | y
      · rw [y]
        show nI p = if (0 : Nat) = 0 then nI m else -1006
        rw [if_pos rfl]
        exact congrArg nI (by omega)
      · obtain ⟨x, hx⟩ : ∃ x, m - p = x + 1 := ⟨m - p - 1, by omega⟩
        rw [hx]
        show nI p = (if 97 ≤ c p ∧ c p ≤ 122 then (if 6 ≤ 0 then nI p else gF c m x (p + 1) (0 + 1)) else if c p = 44 ∧ 0 < 0 then gF c m x (p + 1) 0 else nI p)
        rw [if_neg (by omega), if_neg (by omega)]
    · have np : ¬ nI (p + l) = nI p := fun q => z (by have := (nI_eq (a := p + l) (b := p) (by omega) (by omega)).mp q; omega)
      rcases Nat.lt_or_ge (p + l) m with y | y
      · obtain ⟨x, hx⟩ : ∃ x, m - (p + l) = x + 1 := ⟨m - (p + l) - 1, by omega⟩
        obtain ⟨e6, h126⟩ := hc (p + l) y
        have nm : ¬ nI m ≤ nI (p + l) := nI_ge y (by omega)
        have nm2 : ¬ nI (p + l) = nI m := fun q => by have := (nI_eq (a := p + l) (b := m) (by omega) (by omega)).mp q; omega
        have i44 : nI (c (p + l)) = (44 : Int32) ↔ c (p + l) = 44 := nI_eq (b := 44) (by omega) (by decide)
        rw [hx]
        show _ = some (if 97 ≤ c (p + l) ∧ c (p + l) ≤ 122 then (if 6 ≤ l then nI (p + l) else gF c m x (p + l + 1) (l + 1)) else if c (p + l) = 44 ∧ 0 < l then gF c m x (p + l + 1) 0 else nI (p + l))
        by_cases w : c (p + l) = 44
        · have e : lbX7_wrong_2 S (nI p) = some (.inl (nI (p + l + 1))) := by
            unfold lbX7_wrong_2
            rw [k5, Option.bind_some]
            rw [if_neg np, h0, if_neg nm, gd_nI (by omega), nI_clamp (n := p + l) (by omega), e6, if_pos (i44.mpr w), if_neg nm2, nI_1]
          rw [if_neg (by omega), if_pos ⟨w, by omega⟩]
          have := ih (p + l + 1) f (by omega) (by omega) (by omega)
          rw [show m - (p + l + 1) = x by omega] at this
          show (lbX7_wrong_2 S (nI p)).bind _ = _
          rw [e]
          exact this
        · have e : lbX7_wrong_2 S (nI p) = some (.inr (nI (p + l))) := by
            unfold lbX7_wrong_2
            rw [k5, Option.bind_some]
            rw [if_neg np, h0, if_neg nm, gd_nI (by omega), nI_clamp (n := p + l) (by omega), e6, if_neg (fun q => w (i44.mp q))]
          rw [go _ e]
          by_cases v : 97 ≤ c (p + l) ∧ c (p + l) ≤ 122
          · rw [if_pos v, if_pos (by omega)]
          · rw [if_neg v, if_neg (fun q => w q.1)]
      · have e0 : p + l = m := by omega
        have e : lbX7_wrong_2 S (nI p) = some (.inr (-1006)) := by
          unfold lbX7_wrong_2
          rw [k5, Option.bind_some]
          rw [if_neg np, h0, e0, if_pos (Int32.le_refl _), if_pos rfl]
        rw [go _ e, e0, Nat.sub_self]
        show some (-1006) = some (if l = 0 then nI m else -1006)
        rw [if_neg z]
theorem r_wrong {S : Mem} {c : Nat → Nat} {m : Nat} (hm : m ≤ 60) (h0 : S 0 1 = nI m) (hc : ∀ i, i < m → S 6 i = nI (c i) ∧ c i ≤ 126) : qX7_wrong S = some (gF c m m 0 0) := by
  unfold qX7_wrong
  have := it_wrong hm h0 hc m 0 fuel (by omega) (by omega) (fuel_lt (by omega))
  rw [show it (lbX7_wrong_2 S) fuel (0 : Int32) = some (gF c m m 0 0) from this, Option.bind_some]
theorem c_fault {V : Mem} {c : Nat → Nat} {m : Nat} (hm : m ≤ 60) (h0 : V 85 0 = nI m) (hc : ∀ i, i < m → V 87 i = nI (c i) ∧ c i ≤ 126) : fX2_faultPlace (gv V 85) = gF c m m 0 0 := by
  unfold fX2_faultPlace
  rw [show gv V 85 0 0 = nI m from h0, nI_clamp (by omega)]
  exact fpl_g (W := gv V 85) hm h0 hc m 0 0 (by omega) (by omega)
/-- the codes of the pad -/
theorem Rp.codes {V S : Mem} (h : Rp V S) : ∃ (m : Nat) (c : Nat → Nat), m ≤ 60 ∧ V 85 0 = nI m ∧ S 0 1 = nI m ∧ (∀ i, i < m → V 87 i = nI (c i) ∧ c i ≤ 126) ∧ (∀ i, i < m → S 6 i = nI (c i) ∧ c i ≤ 126) := by
  obtain ⟨m, hm, e1, e2, h⟩ := h
  have h' : ∀ i, ∃ c : Nat, i < m → V 87 i = nI c ∧ S 6 i = nI c ∧ c ≤ 126 := fun i => by
    by_cases z : i < m
    · obtain ⟨a, c, -, c2, c3⟩ := h i z
      exact ⟨c, fun _ => ⟨a.trans c3, c3, c2⟩⟩
    · exact ⟨0, fun q => absurd q z⟩
  refine ⟨m, fun i => (h' i).choose, hm, e1, e2, fun i hi => ?_, fun i hi => ?_⟩
  · have := (h' i).choose_spec hi
    exact ⟨this.1, this.2.2⟩
  · have := (h' i).choose_spec hi
    exact ⟨this.2.1, this.2.2⟩
theorem sim_fault {V S : Mem} (h : RR V S) : qX7_fault S = some (fX6_fault V) := by
  obtain ⟨m, c, hm, e1, e2, h1, h2⟩ := h.2.1.codes
  unfold qX7_fault fX6_fault
  simp only [lt_e]
  rw [r_wrong hm e2 h2, c_fault hm e1 h1, Option.bind_some]
