/-! numbers: what the two programs compute over small naturals -/
theorem gd_nI {α : Type} {j N : Nat} {x : Option α} (h : j < N) (hN : N < 2 ^ 31 := by decide) : (if nI j < 0 ∨ N ≤ (nI j).toNatClampNeg then none else x) = x := by
  rw [if_neg (by rw [nI_clamp (by omega)]; exact fun h9 => h9.elim (nI_pos (by omega)) (fun q => by omega))]
theorem cget_nI {n i : Nat} {f : Nat → Int32} (h : i < n) (hn : n < 2 ^ 31 := by decide) : cget n f (nI i) = f i := by
  unfold cget
  rw [if_neg (by rw [nI_clamp (by omega)]; exact fun h9 => h9.elim (nI_pos (by omega)) (fun q => by omega)), nI_clamp (by omega)]
theorem cset_nI {n i k : Nat} {V : Mem} {v : Int32} (h : i < n) (hn : n < 2 ^ 31 := by decide) : cset V k n (nI i) v = sv V k i v := by
  unfold cset
  rw [if_neg (by rw [nI_clamp (by omega)]; exact fun h9 => h9.elim (nI_pos (by omega)) (fun q => by omega)), nI_clamp (by omega)]
theorem cadd_nI {n i k : Nat} {V : Mem} {v : Int32} (h : i < n) (hn : n < 2 ^ 31 := by decide) : cadd V k n (nI i) v = sv V k i (V k i + v) := by
  unfold cadd
  rw [if_neg (by rw [nI_clamp (by omega)]; exact fun h9 => h9.elim (nI_pos (by omega)) (fun q => by omega)), nI_clamp (by omega)]
theorem sv_at {V : Mem} {k j : Nat} {v : Int32} : sv V k j v k j = v := by simp [sv]
theorem sv_k {V : Mem} {k j k' : Nat} {v : Int32} (h : k' ≠ k) : sv V k j v k' = V k' := by
  funext q
  simp [sv, h]
theorem sv_j {V : Mem} {k j j' : Nat} {v : Int32} (h : j' ≠ j) : sv V k j v k j' = V k j' := by simp [sv, h]
theorem sv_row {V : Mem} {k j : Nat} {v : Int32} : sv V k j v k = upd (V k) j v := by
  funext q
  simp [sv, upd]
theorem upd_at {f : Nat → Int32} {j : Nat} {v : Int32} : upd f j v j = v := by simp [upd]
theorem upd_ne {f : Nat → Int32} {j q : Nat} {v : Int32} (h : q ≠ j) : upd f j v q = f q := by simp [upd, h]
theorem ofStore_nI (k q : Nat) : fX7_ofStore (nI k) (nI q) = nI (5 + 4 * k + q) := by
  show nI 5 + nI 4 * nI k + nI q = _
  rw [pk_mul, nI_add, nI_add]
theorem ofGate_nI (k q : Nat) : fX7_ofGate (nI k) (nI q) = nI (13 + 8 * k + q) := by
  show nI 13 + nI 8 * nI k + nI q = _
  rw [pk_mul, nI_add, nI_add]
theorem ofWord_nI (k q : Nat) : fX7_ofWord (nI k) (nI q) = nI (71 + 5 * k + q) := by
  show nI 71 + nI 5 * nI k + nI q = _
  rw [pk_mul, nI_add, nI_add]
theorem inRow_nI (k q : Nat) : fX7_inRow (nI k) (nI q) = nI (47 + 12 * k + q) := by
  show nI 47 + nI 12 * nI k + nI q = _
  rw [pk_mul, nI_add, nI_add]
/-- the level of a tide -/
def lvl (me sw pe t : Int32) : Int32 := (me - sw) + 4 * sw * mn (t - t / pe * pe) (pe - (t - t / pe * pe)) / pe
theorem mn_le (x y : Int32) : mn x y = if y ≤ x then y else x := by
  unfold mn
  by_cases h : y < x
  · rw [if_pos h, if_pos (Int32.le_of_lt h)]
  · rw [if_neg h]
    by_cases h2 : y ≤ x
    · rw [if_pos h2]
      exact Int32.le_antisymm (Int32.not_lt.mp h) h2
    · rw [if_neg h2]
theorem c_level {w : Mem} {k : Nat} (hk : k < 2) (hp : (2 : Int32) ≤ w 7 k) (t : Int32) : fX3_levelAt w (nI k) t = lvl (w 3 k) (w 5 k) (w 7 k) t := by
  unfold fX3_levelAt lvl
  rw [cget_nI hk, cget_nI hk, cget_nI hk, if_pos hp]
theorem r_level {S : Mem} {k : Nat} (hk : k < 2) (hp : ¬ S 1 (7 + 4 * k) = 0) (t : Int32) : qX7_level S (nI k) t = some (lvl (S 1 (5 + 4 * k)) (S 1 (6 + 4 * k)) (S 1 (7 + 4 * k)) t) := by
  unfold qX7_level lt
  rw [show fX7_ofStore (nI k) ((2 : Int32)) = nI (7 + 4 * k) from (ofStore_nI k 2).trans (congrArg nI (by omega)), show fX7_ofStore (nI k) ((0 : Int32)) = nI (5 + 4 * k) from (ofStore_nI k 0).trans (congrArg nI (by omega)), show fX7_ofStore (nI k) ((1 : Int32)) = nI (6 + 4 * k) from (ofStore_nI k 1).trans (congrArg nI (by omega))]
  dsimp only
  rw [gd_nI (by omega), nI_clamp (n := 7 + 4 * k) (by omega), if_neg hp]
  unfold lvl
  rw [mn_le]
  generalize t - t / S 1 (7 + 4 * k) * S 1 (7 + 4 * k) = p
  by_cases h : S 1 (7 + 4 * k) - p ≤ p
  · rw [if_pos h, if_pos h, gd_nI (by omega), gd_nI (by omega), gd_nI (by omega), nI_clamp (by omega), nI_clamp (by omega)]
  · rw [if_neg h, if_neg h, gd_nI (by omega), gd_nI (by omega), gd_nI (by omega), nI_clamp (by omega), nI_clamp (by omega)]
/-- a tide within its bounds -/
def TB (me sw pe li : Int32) : Prop := ∃ a b c : Nat, a ≤ 300 ∧ b ≤ 100 ∧ 2 ≤ c ∧ c ≤ 60 ∧ me = nI a ∧ sw = nI b ∧ pe = nI c ∧ -50 ≤ li.toInt ∧ li.toInt ≤ 50
theorem TB.per {me sw pe li : Int32} (h : TB me sw pe li) : (2 : Int32) ≤ pe := by
  obtain ⟨a, b, c, -, -, h3, h4, -, -, rfl, -⟩ := h
  exact nI_le (a := 2) h3 (by omega)
theorem TB.ne {me sw pe li : Int32} (h : TB me sw pe li) : ¬ pe = 0 := two_ne h.per
theorem TB.lvl {me sw pe li : Int32} (h : TB me sw pe li) {t : Nat} (ht : t < 2 ^ 31) : ∃ q : Nat, q ≤ 24000 ∧ ∃ a b : Nat, a ≤ 300 ∧ b ≤ 100 ∧ lvl me sw pe (nI t) = nI a - nI b + nI q := by
  obtain ⟨a, b, c, h1, h2, h3, h4, rfl, rfl, rfl, -⟩ := h
  have hc0 : 0 < c := by omega
  have hm : t % c < c := Nat.mod_lt _ hc0
  have e1 : mn (nI (t % c)) (nI (c - t % c)) = nI (min (t % c) (c - t % c)) := by
    unfold mn
    by_cases h : c - t % c < t % c
    · rw [if_pos (nI_lt h (by omega)), Nat.min_eq_right (by omega)]
    · rw [if_neg (nI_nlt (by omega) (by omega)), Nat.min_eq_left (by omega)]
  have hmin : min (t % c) (c - t % c) ≤ 60 := by omega
  have hprod : 4 * b * min (t % c) (c - t % c) ≤ 4 * 100 * 60 := Nat.mul_le_mul (by omega) hmin
  refine ⟨4 * b * min (t % c) (c - t % c) / c, Nat.le_trans (Nat.div_le_self _ _) hprod, a, b, h1, h2, ?_⟩
  show (nI a - nI b) + nI 4 * nI b * mn (nI t - nI t / nI c * nI c) (nI c - (nI t - nI t / nI c * nI c)) / nI c = _
  rw [pk_rem ht hc0 (by omega), pk_sub (a := c) (b := t % c) (by omega), e1, pk_mul, pk_mul, pk_div (by omega) hc0 (by omega)]
theorem i_add {x y : Int32} (h1 : -2147483648 ≤ x.toInt + y.toInt) (h2 : x.toInt + y.toInt < 2147483648) : (x + y).toInt = x.toInt + y.toInt := by
  rw [Int32.toInt_add]
  exact Int.bmod_eq_of_le (by omega) (by omega)
theorem i_sub {x y : Int32} (h1 : -2147483648 ≤ x.toInt - y.toInt) (h2 : x.toInt - y.toInt < 2147483648) : (x - y).toInt = x.toInt - y.toInt := by
  rw [Int32.toInt_sub]
  exact Int.bmod_eq_of_le (by omega) (by omega)
/-- a told level: never far from nought -/
def tld (me sw pe li t : Int32) : Int32 := lvl me sw pe t + li
theorem TB.told {me sw pe li : Int32} (h : TB me sw pe li) {t : Nat} (ht : t < 2 ^ 31) : -1000 ≤ (tld me sw pe li (nI t)).toInt ∧ (tld me sw pe li (nI t)).toInt ≤ 30000 := by
  obtain ⟨q, hq, a, b, ha, hb, e⟩ := h.lvl ht
  obtain ⟨-, -, -, -, -, -, -, -, -, -, l1, l2⟩ := h
  unfold tld
  rw [e]
  have ea : (nI a).toInt = a := nI_toInt (by omega)
  have eb : (nI b).toInt = b := nI_toInt (by omega)
  have eq : (nI q).toInt = q := nI_toInt (by omega)
  have e1 : (nI a - nI b).toInt = a - b := by rw [i_sub (by omega) (by omega), ea, eb]
  have e2 : (nI a - nI b + nI q).toInt = a - b + q := by rw [i_add (by omega) (by omega), e1, eq]
  rw [i_add (by omega) (by omega), e2]
  omega
theorem ab_off {x y : Int32} (hx : -100000 ≤ x.toInt ∧ x.toInt ≤ 100000) (hy : -100000 ≤ y.toInt ∧ y.toInt ≤ 100000) : (if x ≤ y then y - x else x - y) = ab (x - y) := by
  obtain ⟨x1, x2⟩ := hx
  obtain ⟨y1, y2⟩ := hy
  have exy : (x - y).toInt = x.toInt - y.toInt := i_sub (by omega) (by omega)
  have eyx : (y - x).toInt = y.toInt - x.toInt := i_sub (by omega) (by omega)
  have e0 : (0 : Int32).toInt = 0 := rfl
  unfold ab
  by_cases h : x ≤ y
  · have h' := Int32.le_iff_toInt_le.mp h
    rw [if_pos h]
    by_cases h2 : 0 ≤ x - y
    · rw [if_pos h2]
      have h2' := Int32.le_iff_toInt_le.mp h2
      apply Int32.toInt_inj.mp
      omega
    · rw [if_neg h2]
      apply Int32.toInt_inj.mp
      have e3 : (0 - (x - y)).toInt = (0 : Int32).toInt - (x - y).toInt := i_sub (by omega) (by omega)
      rw [e3, eyx, exy, e0]
      omega
  · have h' : ¬ x.toInt ≤ y.toInt := fun q => h (Int32.le_iff_toInt_le.mpr q)
    rw [if_neg h, if_pos (Int32.le_iff_toInt_le.mpr (by omega))]
theorem c_gap {w : Mem} (h0 : (2 : Int32) ≤ w 7 0) (h1 : (2 : Int32) ≤ w 7 1) (t : Int32) : fX3_gapAt w t = tld (w 3 0) (w 5 0) (w 7 0) (w 9 0) t - tld (w 3 1) (w 5 1) (w 7 1) (w 9 1) t := by
  unfold fX3_gapAt fX3_toldAt lt tld
  rw [show (0 : Int32) = nI 0 from rfl, show (1 : Int32) = nI 1 from rfl, c_level (by omega) h0, c_level (by omega) h1, cget_nI (by omega), cget_nI (by omega)]
theorem r_off {S : Mem} (h0 : ¬ S 1 7 = 0) (h1 : ¬ S 1 11 = 0) (t : Int32) : qX7_off S t = some (if tld (S 1 5) (S 1 6) (S 1 7) (S 1 8) t ≤ tld (S 1 9) (S 1 10) (S 1 11) (S 1 12) t then tld (S 1 9) (S 1 10) (S 1 11) (S 1 12) t - tld (S 1 5) (S 1 6) (S 1 7) (S 1 8) t else tld (S 1 5) (S 1 6) (S 1 7) (S 1 8) t - tld (S 1 9) (S 1 10) (S 1 11) (S 1 12) t) := by
  unfold qX7_off lt
  have l0 : qX7_level S (0 : Int32) t = some (lvl (S 1 5) (S 1 6) (S 1 7) t) := r_level (k := 0) (by omega) h0 t
  have l1 : qX7_level S (1 : Int32) t = some (lvl (S 1 9) (S 1 10) (S 1 11) t) := r_level (k := 1) (by omega) h1 t
  rw [l0, l1, show fX7_ofStore (0 : Int32) (3 : Int32) = nI 8 from ofStore_nI 0 3, show fX7_ofStore (1 : Int32) (3 : Int32) = nI 12 from ofStore_nI 1 3]
  simp only [Option.bind_some]
  rw [gd_nI (by omega), gd_nI (by omega), nI_clamp (by omega), nI_clamp (by omega)]
  unfold tld
  split <;> rfl
def opn (sh sl a : Int32) : Int32 := if sh = 0 then (if sl < a then 0 else 1) else 0
theorem opn01 (sh sl a : Int32) : opn sh sl a = 0 ∨ opn sh sl a = 1 := by
  unfold opn
  split
  · split
    · exact Or.inl rfl
    · exact Or.inr rfl
  · exact Or.inl rfl
theorem c_open {w : Mem} {g : Nat} (hg : g < 4) (gap : Int32) : fX1_isOpenAcross w (nI g) gap = opn (w 18 g) (w 14 g) (ab gap) := by
  unfold fX1_isOpenAcross fX1_isShut lt opn ab
  rw [cget_nI hg, cget_nI hg]
  dsimp only
  by_cases h : w 18 g = 0
  · rw [if_pos h, if_pos h, if_pos rfl]
  · rw [if_neg h, if_neg h, if_neg one_ne0]
theorem r_open {S : Mem} {g : Nat} (hg : g < 4) {t o : Int32} (ho : qX7_off S t = some o) : qX7_isOpen S (nI g) t = some (opn (S 1 (16 + 8 * g)) (S 1 (14 + 8 * g)) o) := by
  unfold qX7_isOpen lt opn
  rw [show fX7_ofGate (nI g) ((3 : Int32)) = nI (16 + 8 * g) from (ofGate_nI g 3).trans (congrArg nI (by omega)), show fX7_ofGate (nI g) ((1 : Int32)) = nI (14 + 8 * g) from (ofGate_nI g 1).trans (congrArg nI (by omega)), ho]
  dsimp only
  rw [gd_nI (by omega), nI_clamp (by omega)]
  by_cases h : S 1 (16 + 8 * g) = 0
  · rw [if_pos h, if_pos h, Option.bind_some, gd_nI (by omega), nI_clamp (by omega)]
    split <;> rfl
  · rw [if_neg h, if_neg h]
