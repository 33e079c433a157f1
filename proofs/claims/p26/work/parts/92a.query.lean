/-! what the class answers, by its rows -/
theorem isG {g : Nat} (h : g < 4) : fX6_isGate (nI g) = 1 := by
  obtain rfl | rfl | rfl | rfl : g = 0 ∨ g = 1 ∨ g = 2 ∨ g = 3 := by omega
  · rfl
  · rfl
  · rfl
  · rfl
theorem isS {k : Nat} (h : k < 2) : fX6_isStore (nI k) = 1 := by
  obtain rfl | rfl : k = 0 ∨ k = 1 := by omega
  · rfl
  · rfl
theorem within_1 {a lo hi : Int32} (h1 : ¬ a < lo) (h2 : ¬ hi < a) : fX6_isWithin a lo hi = 1 := by
  unfold fX6_isWithin
  rw [if_neg h1, if_neg h2]
theorem isW {V : Mem} {n v : Nat} (hV : V 28 0 = nI n) (hv : v < n) (hn : n ≤ 12) : fX6_isWord V (nI v) = 1 := by
  unfold fX6_isWord
  simp only [lt_e]
  obtain ⟨m, rfl⟩ : ∃ m, n = m + 1 := ⟨n - 1, by omega⟩
  rw [hV, nI_pred]
  exact within_1 (nI_pos (by omega)) (nI_nlt (b := v) (a := m) (by omega) (by omega))
theorem isW_no {V : Mem} {n : Nat} (hV : V 28 0 = nI n) (hn : n ≤ 12) : fX6_isWord V (nI n) = 0 := by
  unfold fX6_isWord fX6_isWithin
  simp only [lt_e]
  rw [if_neg (nI_pos (by omega)), hV]
  cases n with
  | zero => rfl
  | succ m =>
    rw [nI_pred, if_pos (nI_lt (by omega) (by omega))]
theorem qg0 (V : Mem) {g : Nat} (hg : g < 4) : fX6_gateOf V (nI g) 0 = V 13 g := by
  unfold fX6_gateOf
  simp only [lt_e]
  rw [isG hg, if_neg one_no, if_pos (by decide), cget_nI hg]
theorem qg1 (V : Mem) {g : Nat} (hg : g < 4) : fX6_gateOf V (nI g) 1 = V 15 g := by
  unfold fX6_gateOf
  simp only [lt_e]
  rw [isG hg, if_neg one_no, if_neg (by decide), if_pos (by decide), cget_nI hg]
theorem qg2 (V : Mem) {g : Nat} (hg : g < 4) : fX6_gateOf V (nI g) 2 = V 17 g := by
  unfold fX6_gateOf
  simp only [lt_e]
  rw [isG hg, if_neg one_no, if_neg (by decide), if_neg (by decide), if_pos (by decide), cget_nI hg]
theorem qg3 (V : Mem) {g : Nat} (hg : g < 4) : fX6_gateOf V (nI g) 3 = V 19 g := by
  unfold fX6_gateOf
  simp only [lt_e]
  rw [isG hg, if_neg one_no, if_neg (by decide), if_neg (by decide), if_neg (by decide), if_pos (by decide), cget_nI hg]
theorem qg4 (V : Mem) {g : Nat} (hg : g < 4) : fX6_gateOf V (nI g) 4 = if fX5_isOpenAt (gv V 1) (nI g) (V 1 0) = 0 then 0 else 1 := by
  unfold fX6_gateOf
  simp only [lt_e]
  rw [isG hg, if_neg one_no, if_neg (by decide), if_neg (by decide), if_neg (by decide), if_neg (by decide), if_pos (by decide)]
theorem qg5 (V : Mem) {g : Nat} (hg : g < 4) : fX6_gateOf V (nI g) 5 = V 21 g := by
  unfold fX6_gateOf
  simp only [lt_e]
  rw [isG hg, if_neg one_no, if_neg (by decide), if_neg (by decide), if_neg (by decide), if_neg (by decide), if_neg (by decide), if_pos (by decide), cget_nI hg]
theorem qg6 (V : Mem) {g : Nat} (hg : g < 4) : fX6_gateOf V (nI g) 6 = V 23 g := by
  unfold fX6_gateOf
  simp only [lt_e]
  rw [isG hg, if_neg one_no, if_neg (by decide), if_neg (by decide), if_neg (by decide), if_neg (by decide), if_neg (by decide), if_neg (by decide), if_pos (by decide), cget_nI hg]
theorem qg7 (V : Mem) {g : Nat} (hg : g < 4) : fX6_gateOf V (nI g) 7 = V 25 g := by
  unfold fX6_gateOf
  simp only [lt_e]
  rw [isG hg, if_neg one_no, if_neg (by decide), if_neg (by decide), if_neg (by decide), if_neg (by decide), if_neg (by decide), if_neg (by decide), if_neg (by decide), if_pos (by decide), cget_nI hg]
theorem qg8 (V : Mem) {g : Nat} (hg : g < 4) : fX6_gateOf V (nI g) 8 = V 27 g := by
  unfold fX6_gateOf
  simp only [lt_e]
  rw [isG hg, if_neg one_no, if_neg (by decide), if_neg (by decide), if_neg (by decide), if_neg (by decide), if_neg (by decide), if_neg (by decide), if_neg (by decide), if_neg (by decide), if_pos (by decide), cget_nI hg]
theorem qs0 (V : Mem) {k : Nat} (hk : k < 2) : fX6_store V (nI k) 0 = V 4 k := by
  unfold fX6_store
  simp only [lt_e]
  rw [isS hk, if_neg one_no, if_pos (by decide), cget_nI hk]
theorem qs1 (V : Mem) {k : Nat} (hk : k < 2) : fX6_store V (nI k) 1 = V 6 k := by
  unfold fX6_store
  simp only [lt_e]
  rw [isS hk, if_neg one_no, if_neg (by decide), if_pos (by decide), cget_nI hk]
theorem qs2 (V : Mem) {k : Nat} (hk : k < 2) : fX6_store V (nI k) 2 = V 8 k := by
  unfold fX6_store
  simp only [lt_e]
  rw [isS hk, if_neg one_no, if_neg (by decide), if_neg (by decide), if_pos (by decide), cget_nI hk]
theorem qs3 (V : Mem) {k : Nat} (hk : k < 2) : fX6_store V (nI k) 3 = V 10 k := by
  unfold fX6_store
  simp only [lt_e]
  rw [isS hk, if_neg one_no, if_neg (by decide), if_neg (by decide), if_neg (by decide), if_pos (by decide), cget_nI hk]
theorem qs4 (V : Mem) {k : Nat} (hk : k < 2) : fX6_store V (nI k) 4 = fX3_levelAt (gv V 1) (nI k) (V 1 0) := by
  unfold fX6_store
  simp only [lt_e]
  rw [isS hk, if_neg one_no, if_neg (by decide), if_neg (by decide), if_neg (by decide), if_neg (by decide), if_pos (by decide)]
theorem qs5 (V : Mem) {k : Nat} (hk : k < 2) : fX6_store V (nI k) 5 = fX3_toldAt (gv V 1) (nI k) (V 1 0) := by
  unfold fX6_store
  simp only [lt_e]
  rw [isS hk, if_neg one_no, if_neg (by decide), if_neg (by decide), if_neg (by decide), if_neg (by decide), if_neg (by decide), if_pos (by decide)]
theorem qs6 (V : Mem) {k : Nat} (hk : k < 2) : fX6_store V (nI k) 6 = V 42 k := by
  unfold fX6_store
  simp only [lt_e]
  rw [isS hk, if_neg one_no, if_neg (by decide), if_neg (by decide), if_neg (by decide), if_neg (by decide), if_neg (by decide), if_neg (by decide), if_pos (by decide), cget_nI hk]
theorem qs7 (V : Mem) {k : Nat} (hk : k < 2) : fX6_store V (nI k) 7 = fX4_lettersInRow (gv V 1) (nI k) := by
  unfold fX6_store
  simp only [lt_e]
  rw [isS hk, if_neg one_no, if_neg (by decide), if_neg (by decide), if_neg (by decide), if_neg (by decide), if_neg (by decide), if_neg (by decide), if_neg (by decide), if_pos (by decide)]
theorem qs8 (V : Mem) {k : Nat} (hk : k < 2) : fX6_store V (nI k) 8 = fX4_waitingInRow (gv V 1) (nI k) := by
  unfold fX6_store
  simp only [lt_e]
  rw [isS hk, if_neg one_no, if_neg (by decide), if_neg (by decide), if_neg (by decide), if_neg (by decide), if_neg (by decide), if_neg (by decide), if_neg (by decide), if_neg (by decide), if_pos (by decide)]
theorem qw0 {V : Mem} {n v : Nat} (hV : V 28 0 = nI n) (hv : v < n) (hn : n ≤ 12) : fX6_word V (nI v) 0 = fX5_whereIs (gv V 1) (nI v) := by
  unfold fX6_word
  simp only [lt_e]
  rw [isW hV hv hn, if_neg one_no, if_pos (by decide), if_pos (by decide)]
theorem qw1 {V : Mem} {n v : Nat} (hV : V 28 0 = nI n) (hv : v < n) (hn : n ≤ 12) : fX6_word V (nI v) 1 = fX4_placeOf (gv V 1) (nI v) := by
  unfold fX6_word
  simp only [lt_e]
  rw [isW hV hv hn, if_neg one_no, if_pos (by decide), if_neg (by decide), if_pos (by decide)]
theorem qw2 {V : Mem} {n v : Nat} (hV : V 28 0 = nI n) (hv : v < n) (hn : n ≤ 12) : fX6_word V (nI v) 2 = V 30 v := by
  unfold fX6_word
  simp only [lt_e]
  rw [isW hV hv hn, if_neg one_no, if_pos (by decide), if_neg (by decide), if_neg (by decide), if_pos (by decide), cget_nI (show v < 12 by omega)]
theorem qw3 {V : Mem} {n v : Nat} (hV : V 28 0 = nI n) (hv : v < n) (hn : n ≤ 12) : fX6_word V (nI v) 3 = if V 34 v = -1006 then 0 else 1 := by
  unfold fX6_word
  simp only [lt_e]
  rw [isW hV hv hn, if_neg one_no, if_pos (by decide), if_neg (by decide), if_neg (by decide), if_neg (by decide), if_pos (by decide), c_hasPassed (show v < 12 by omega)]
  by_cases c : V 34 v = -1006
  · rw [if_pos (show gv V 1 33 v = -1006 from c), if_pos c, if_pos rfl]
  · rw [if_neg (show ¬ gv V 1 33 v = -1006 from c), if_neg c, if_neg one_no]
theorem qw4 {V : Mem} {n v : Nat} (hV : V 28 0 = nI n) (hv : v < n) (hn : n ≤ 12) : fX6_word V (nI v) 4 = V 34 v := by
  unfold fX6_word
  simp only [lt_e]
  rw [isW hV hv hn, if_neg one_no, if_pos (by decide), if_neg (by decide), if_neg (by decide), if_neg (by decide), if_neg (by decide), if_pos (by decide), cget_nI (show v < 12 by omega)]
theorem qw5 {V : Mem} {n v : Nat} (hV : V 28 0 = nI n) (hv : v < n) (hn : n ≤ 12) : fX6_word V (nI v) 5 = V 36 v := by
  unfold fX6_word
  simp only [lt_e]
  rw [isW hV hv hn, if_neg one_no, if_pos (by decide), if_neg (by decide), if_neg (by decide), if_neg (by decide), if_neg (by decide), if_neg (by decide), if_pos (by decide), cget_nI (show v < 12 by omega)]
theorem qw6 {V : Mem} {n v : Nat} (hV : V 28 0 = nI n) (hv : v < n) (hn : n ≤ 12) : fX6_word V (nI v) 6 = V 38 v := by
  unfold fX6_word
  simp only [lt_e]
  rw [isW hV hv hn, if_neg one_no, if_pos (by decide), if_neg (by decide), if_neg (by decide), if_neg (by decide), if_neg (by decide), if_neg (by decide), if_neg (by decide), if_pos (by decide), cget_nI (show v < 12 by omega)]
theorem qw_no {V : Mem} {n : Nat} (hV : V 28 0 = nI n) (hn : n ≤ 12) (a : Int32) : fX6_word V (nI n) a = -1001 := by
  unfold fX6_word
  simp only [lt_e]
  rw [isW_no hV hn, if_pos rfl]
theorem qwl {V : Mem} {n v j : Nat} (hV : V 28 0 = nI n) (hv : v < n) (hn : n ≤ 12) (hj : j < 100) : fX6_word V (nI v) ((7 : Int32) + nI j) = fX4_letterOf (gv V 1) (nI v) (nI j) := by
  have e7 : (7 : Int32) + nI j = nI (7 + j) := nI_add 7 j
  have ne : ∀ k, k < 7 → ¬ nI (7 + j) = nI k := fun k hk e => by have := (nI_eq (by omega) (by omega)).mp e; omega
  unfold fX6_word
  simp only [lt_e]
  rw [e7, isW hV hv hn, if_neg one_no, if_pos (show (0 : Int32) ≤ nI (7 + j) from nI_le (a := 0) (by omega) (by omega)), if_neg (show ¬ nI (7 + j) = (0 : Int32) from ne 0 (by decide)), if_neg (show ¬ nI (7 + j) = (1 : Int32) from ne 1 (by decide)), if_neg (show ¬ nI (7 + j) = (2 : Int32) from ne 2 (by decide)), if_neg (show ¬ nI (7 + j) = (3 : Int32) from ne 3 (by decide)), if_neg (show ¬ nI (7 + j) = (4 : Int32) from ne 4 (by decide)), if_neg (show ¬ nI (7 + j) = (5 : Int32) from ne 5 (by decide)), if_neg (show ¬ nI (7 + j) = (6 : Int32) from ne 6 (by decide)), show nI (7 + j) - (7 : Int32) = nI j from (pk_sub (a := 7 + j) (b := 7) (by omega)).trans (congrArg nI (by omega))]
theorem qc0 (V : Mem) : fX6_count V 0 = V 1 0 := by
  unfold fX6_count
  simp only [lt_e]
  rw [if_pos (by decide)]
theorem qc1 (V : Mem) : fX6_count V 1 = V 28 0 := by
  unfold fX6_count
  simp only [lt_e]
  rw [if_neg (by decide), if_pos (by decide)]
theorem qc2 (V : Mem) : fX6_count V 2 = csum 4 (V 25) := by
  unfold fX6_count
  simp only [lt_e]
  rw [if_neg (by decide), if_neg (by decide), if_pos (by decide)]
theorem qc3 (V : Mem) : fX6_count V 3 = fX4_waitingInRow (gv V 1) (0 : Int32) + fX4_waitingInRow (gv V 1) (1 : Int32) := by
  unfold fX6_count
  simp only [lt_e]
  rw [if_neg (by decide), if_neg (by decide), if_neg (by decide), if_pos (by decide)]
theorem qc4 (V : Mem) : fX6_count V 4 = fX1_wordsInside (gv V 1) := by
  unfold fX6_count
  simp only [lt_e]
  rw [if_neg (by decide), if_neg (by decide), if_neg (by decide), if_neg (by decide), if_pos (by decide)]
theorem qc5 (V : Mem) : fX6_count V 5 = V 1 1 := by
  unfold fX6_count
  simp only [lt_e]
  rw [if_neg (by decide), if_neg (by decide), if_neg (by decide), if_neg (by decide), if_neg (by decide), if_pos (by decide)]
theorem qc6 (V : Mem) : fX6_count V 6 = csum 4 (V 27) := by
  unfold fX6_count
  simp only [lt_e]
  rw [if_neg (by decide), if_neg (by decide), if_neg (by decide), if_neg (by decide), if_neg (by decide), if_neg (by decide), if_pos (by decide)]
theorem qc7 (V : Mem) : fX6_count V 7 = fX5_openMask (gv V 1) := by
  unfold fX6_count
  simp only [lt_e]
  rw [if_neg (by decide), if_neg (by decide), if_neg (by decide), if_neg (by decide), if_neg (by decide), if_neg (by decide), if_neg (by decide), if_pos (by decide)]
theorem qc8 (V : Mem) : fX6_count V 8 = V 1 2 := by
  unfold fX6_count
  simp only [lt_e]
  rw [if_neg (by decide), if_neg (by decide), if_neg (by decide), if_neg (by decide), if_neg (by decide), if_neg (by decide), if_neg (by decide), if_neg (by decide), if_pos (by decide)]
theorem qc9 (V : Mem) : fX6_count V 9 = V 85 0 := by
  unfold fX6_count
  simp only [lt_e]
  rw [if_neg (by decide), if_neg (by decide), if_neg (by decide), if_neg (by decide), if_neg (by decide), if_neg (by decide), if_neg (by decide), if_neg (by decide), if_neg (by decide), if_pos (by decide)]
theorem qc10 (V : Mem) : fX6_count V 10 = V 0 1 := by
  unfold fX6_count
  simp only [lt_e]
  rw [if_neg (by decide), if_neg (by decide), if_neg (by decide), if_neg (by decide), if_neg (by decide), if_neg (by decide), if_neg (by decide), if_neg (by decide), if_neg (by decide), if_neg (by decide), if_pos (by decide)]
theorem qat {V : Mem} {k j : Nat} {l : List Nat} (hk : k < 2) (h : rowC (gv V 1) k l) (hj : j < l.length) : fX6_at V (nI k) (nI j) = nI (l.getD j 0) := by
  obtain ⟨l1, l2, l3⟩ := h
  unfold fX6_at
  simp only [lt_e]
  obtain ⟨m, hm⟩ : ∃ m, l.length = m + 1 := ⟨l.length - 1, by omega⟩
  rw [isS hk, if_neg one_no, show cget 2 (V 42) (nI k) = nI l.length from (cget_nI hk).trans l2, hm, nI_pred, within_1 (nI_pos (by omega)) (nI_nlt (b := j) (a := m) (by omega) (by omega)), if_neg one_no, c_wordAt (w := gv V 1) hk l3 l1 hj]
theorem qat_no {V : Mem} {k : Nat} {l : List Nat} (hk : k < 2) (h : rowC (gv V 1) k l) : fX6_at V (nI k) (nI l.length) = -1001 := by
  obtain ⟨l1, l2, l3⟩ := h
  unfold fX6_at
  simp only [lt_e]
  have e : fX6_isWithin (nI l.length) 0 (nI l.length - 1) = 0 := by
    unfold fX6_isWithin
    rw [if_neg (nI_pos (by omega))]
    generalize l.length = q at l1
    cases q with
    | zero => rfl
    | succ m => rw [nI_pred, if_pos (nI_lt (by omega) (by omega))]
  rw [isS hk, if_neg one_no, show cget 2 (V 42) (nI k) = nI l.length from (cget_nI hk).trans l2, e, if_pos (by decide)]
/-- where a word is, and its place -/
theorem c_where {b : Int32} {n t v : Nat} {r : Nat → List Nat} {h : Nat → Option Nat} {d : Nat → Nat} {L : Nat → List Nat} {w : Mem} {s : Nat → Int32} (p : RwE b n t r h d L w s) (hv : v < n) : (∃ k j : Nat, k < 2 ∧ j < (r k).length ∧ (r k).getD j 0 = v ∧ fX5_whereIs w (nI v) = nI k ∧ fX4_placeOf w (nI v) = nI j) ∨ (∃ g, g < 4 ∧ h g = some v ∧ fX5_whereIs w (nI v) = nI (2 + g) ∧ fX4_placeOf w (nI v) = -1006) := by
  obtain ⟨pT, pG, pH, pD, pC, pRc, pRs, pL, pP, pX, pK, pN, pZ⟩ := p
  have n12 := pX.1
  have r12 : ∀ k, k < 2 → ∀ a ∈ r k, a < 12 := fun k hk a ha => by have := pX.row_lt hk ha; omega
  have g0 := c_placeIn (w := w) (k := 0) (v := v) (by decide) pRc (by omega) (r12 0 (by decide))
  have g1 := c_placeIn (w := w) (k := 1) (v := v) (by decide) pRc (by omega) (r12 1 (by decide))
  have gg := c_gateWith (w := w) pX (fun g hg => (pH g hg).1) (show v < 12 by omega)
  have hn := (pX.2.nodup_iff).mpr List.nodup_range
  obtain ⟨n1, n2, n3⟩ := List.nodup_append.mp hn
  obtain ⟨n4, n5, n6⟩ := List.nodup_append.mp n2
  have k0 := (pRc 0 (by decide)).1
  have k1 := (pRc 1 (by decide)).1
  have wh : fX5_whereIs w (nI v) = if fnd (inG h v) 4 = -1006 then (if fnd (inR (r 0) v) (r 0).length = -1006 then 1 else 0) else 2 + fnd (inG h v) 4 := by
    unfold fX5_whereIs
    simp only [lt_e]
    rw [gg, show fX4_placeIn w (0 : Int32) (nI v) = _ from g0]
  have pl : fX4_placeOf w (nI v) = if fnd (inR (r 0) v) (r 0).length = -1006 then fnd (inR (r 1) v) (r 1).length else fnd (inR (r 0) v) (r 0).length := by
    unfold fX4_placeOf
    simp only [lt_e]
    rw [show fX4_placeIn w (0 : Int32) (nI v) = _ from g0, show fX4_placeIn w (1 : Int32) (nI v) = _ from g1]
  rw [wh, pl]
  rcases pX.where hv with ⟨a0, a1, a2⟩ | ⟨a0, a1, a2⟩ | ⟨a0, a1, g, hg, hp, hu⟩
  · obtain ⟨j, hj, hp, hu⟩ := inR_one n1 a0
    rw [fnd_no (inG_no a2), fnd_one hj hp hu]
    refine Or.inl ⟨0, j, by decide, hj, of_decide_eq_true hp, ?_, ?_⟩
    · rw [if_pos rfl, if_neg (nI_no (by omega))]
      rfl
    · rw [if_neg (nI_no (by omega))]
  · obtain ⟨j, hj, hp, hu⟩ := inR_one n4 a1
    rw [fnd_no (inG_no a2), fnd_no (inR_no a0), fnd_one hj hp hu]
    refine Or.inl ⟨1, j, by decide, hj, of_decide_eq_true hp, ?_, ?_⟩
    · rw [if_pos rfl, if_pos rfl]
      rfl
    · rw [if_pos rfl]
  · rw [fnd_one hg hp hu, fnd_no (inR_no a0), fnd_no (inR_no a1)]
    refine Or.inr ⟨g, hg, of_decide_eq_true hp, ?_, ?_⟩
    · rw [if_neg (nI_no (by omega))]
      exact nI_add 2 g
    · rw [if_pos rfl]
theorem c_letterOf {b : Int32} {n t v a : Nat} {r : Nat → List Nat} {h : Nat → Option Nat} {d : Nat → Nat} {L : Nat → List Nat} {w : Mem} {s : Nat → Int32} (p : RwE b n t r h d L w s) (hv : v < n) (ha : a < 100) : fX4_letterOf w (nI v) (nI a) = if a < (L v).length then nI (96 + (L v).getD a 0) else -1006 := by
  obtain ⟨pT, pG, pH, pD, pC, pRc, pRs, pL, pP, pX, pK, pN, pZ⟩ := p
  have n12 := pX.1
  obtain ⟨m1, m2, m3, m4, m5, m6⟩ := pL v hv
  unfold fX4_letterOf
  simp only [lt_e]
  rw [if_neg (nI_pos (by omega)), cget_nI (by omega), m4]
  by_cases c2 : a < (L v).length
  · rw [if_pos c2, if_neg (nI_ge c2 (by omega)), show nI v * (6 : Int32) + nI a = nI (6 * v + a) by
      show nI v * nI 6 + nI a = _
      rw [pk_mul, nI_add, Nat.mul_comm], cget_nI (by omega)]
    refine m5 a (96 + (L v).getD a 0) ?_
    rw [List.getElem?_map, getD_some c2]
    rfl
  · rw [if_neg c2, if_pos (nI_le (by omega) (by omega))]
