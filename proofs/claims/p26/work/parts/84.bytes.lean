/-! the characters of a number -/
/-- the number behind k characters -/
def wk (u : UInt64) (k : Nat) : UInt64 := u >>> (((8 : Int32) * nI k).toInt64.toUInt64 &&& Int64.toUInt64 63)
def byt (u : UInt64) (k : Nat) : Nat := u.toNat / 2 ^ (8 * k) % 256
theorem sh_k : ∀ k, k < 8 → (((8 : Int32) * nI k).toInt64.toUInt64 &&& Int64.toUInt64 63).toNat = 8 * k := by decide +kernel
theorem wk_nat {u : UInt64} {k : Nat} (hk : k < 8) : (wk u k).toNat = u.toNat / 2 ^ (8 * k) := by
  unfold wk
  rw [UInt64.toNat_shiftRight, sh_k k hk, Nat.mod_eq_of_lt (by omega), Nat.shiftRight_eq_div_pow]
theorem and255 (x : Nat) : x &&& 255 = x % 256 := Nat.and_two_pow_sub_one_eq_mod x 8
theorem byte_1 (w : UInt64) : ((w.toInt64 &&& (255 : Int64)).toInt32) = nI (w.toNat % 256) := by
  refine Int32.toBitVec_inj.mp ?_
  rw [Int64.toBitVec_toInt32, BitVec.signExtend_eq_setWidth_of_le _ (by decide), Int64.toBitVec_and, UInt64.toBitVec_toInt64]
  show _ = BitVec.ofNat 32 (w.toNat % 256)
  refine BitVec.eq_of_toNat_eq ?_
  rw [BitVec.toNat_setWidth, BitVec.toNat_and, BitVec.toNat_ofNat]
  show (w.toNat &&& 255) % 2 ^ 32 = _
  rw [and255]
theorem byte_2 (w : UInt64) : (w.toInt64.toInt32 &&& (255 : Int32)) = nI (w.toNat % 256) := by
  refine Int32.toBitVec_inj.mp ?_
  rw [Int32.toBitVec_and, Int64.toBitVec_toInt32, BitVec.signExtend_eq_setWidth_of_le _ (by decide), UInt64.toBitVec_toInt64]
  show _ = BitVec.ofNat 32 (w.toNat % 256)
  refine BitVec.eq_of_toNat_eq ?_
  rw [BitVec.toNat_and, BitVec.toNat_setWidth, BitVec.toNat_ofNat]
  show (w.toNat % 2 ^ 32 &&& 255) = _
  rw [and255]
  omega
theorem lg_0 (w : UInt64) : (lg_cmp w.toInt64 (0 : Int64) = 0) ↔ w.toNat = 0 := by
  rw [lg_cmp_eq]
  constructor
  · intro h
    have : w = 0 := by
      have h2 := congrArg Int64.toUInt64 h
      rw [UInt64.toUInt64_toInt64] at h2
      exact h2
    rw [this]
    rfl
  · intro h
    have : w = 0 := UInt64.toNat_inj.mp h
    rw [this]
    rfl
theorem wk_0 (u : UInt64) : wk u 0 = u := UInt64.toNat_inj.mp (by rw [wk_nat (by decide)]; simp)
theorem sh_8 : (((8 : Int32)).toInt64.toUInt64 &&& Int64.toUInt64 63).toNat = 8 := by decide +kernel
/-- shifted once more -/
theorem wk_s {u r : UInt64} {k : Nat} (hr : r.toNat = u.toNat / 2 ^ (8 * k)) : ((r >>> (((8 : Int32)).toInt64.toUInt64 &&& Int64.toUInt64 63)).toNat) = u.toNat / 2 ^ (8 * (k + 1)) := by
  rw [UInt64.toNat_shiftRight, sh_8, Nat.shiftRight_eq_div_pow, hr, Nat.div_div_eq_div_mul, ← Nat.pow_add]
  exact congrArg (fun q => u.toNat / 2 ^ q) (by omega)
theorem end_s {u : UInt64} {k : Nat} (h : u.toNat / 2 ^ (8 * k) = 0) : u.toNat / 2 ^ (8 * (k + 1)) = 0 := by
  rw [show 8 * (k + 1) = 8 * k + 8 by omega, Nat.pow_add, ← Nat.div_div_eq_div_mul, h, Nat.zero_div]
theorem in_code {c : Nat} (hc : c < 256) : fX6_isWithin (nI c) 33 126 = if 33 ≤ c ∧ c ≤ 126 then 1 else 0 := by
  unfold fX6_isWithin
  by_cases c1 : c < 33
  · rw [if_pos (show nI c < (33 : Int32) from nI_lt (b := 33) c1 (by decide)), if_neg (by omega)]
  · rw [if_neg (show ¬ nI c < (33 : Int32) from nI_nlt (b := 33) (by omega) (by omega))]
    by_cases c2 : 126 < c
    · rw [if_pos (show (126 : Int32) < nI c from nI_lt (a := 126) c2 (by omega)), if_neg (by omega)]
    · rw [if_neg (show ¬ (126 : Int32) < nI c from nI_nlt (a := 126) (by omega) (by decide)), if_pos (by omega)]
/-- one round of the model's first loop -/
theorem w8_end {a : Int64} {u : UInt64} (hu : a.toUInt64 = u) {k : Nat} (hk : k < 8) (h0 : 0 < k) (h : u.toNat / 2 ^ (8 * k) = 0) {x bad : Int32} (hb : bad = 0 ∨ bad = 1) : lbX7_write_8 a (x, bad, nI k) = some (.inl (x, bad, nI (k + 1))) := by
  unfold lbX7_write_8
  simp only [lt_e]
  rw [hu]
  have e : lg_cmp (wk u k).toInt64 (0 : Int64) = 0 := (lg_0 _).mpr ((wk_nat hk).trans h)
  unfold wk at e
  rw [if_neg (show ¬ (8 : Int32) ≤ nI k from nI_ge (b := 8) hk (by decide)), if_neg (nI_nle h0 (by omega)), if_pos e, nI_1, Int32.add_zero]
  rcases hb with rfl | rfl
  · rw [if_pos rfl]
  · rw [if_neg one_no]
theorem w8_on {a : Int64} {u : UInt64} (hu : a.toUInt64 = u) {k : Nat} (hk : k < 8) (h : k = 0 ∨ ¬ u.toNat / 2 ^ (8 * k) = 0) {x : Int32} : lbX7_write_8 a (x, 0, nI k) = some (.inl (x + 1, if 33 ≤ byt u k ∧ byt u k ≤ 126 then 0 else 1, nI (k + 1))) := by
  have ew : (((wk u k).toInt64 &&& (255 : Int64)).toInt32) = nI (byt u k) := by
    rw [byte_1, wk_nat hk]
    rfl
  have ein : fX7_in (nI (byt u k)) 33 126 = if 33 ≤ byt u k ∧ byt u k ≤ 126 then 1 else 0 := in_code (Nat.mod_lt _ (by decide))
  have nz : (if (if 33 ≤ byt u k ∧ byt u k ≤ 126 then (1 : Int32) else 0) = 0 then some (Sum.inl (x + 1, (1 : Int32), nI (k + 1))) else some (Sum.inl (x + 1, (0 : Int32), nI (k + 1)))) = (some (Sum.inl (x + 1, if 33 ≤ byt u k ∧ byt u k ≤ 126 then (0 : Int32) else 1, nI (k + 1))) : Option ((Int32 × Int32 × Int32) ⊕ (Int32 × Int32 × Int32))) := by
    by_cases z : 33 ≤ byt u k ∧ byt u k ≤ 126
    · rw [if_pos z, if_neg one_no, if_pos z]
    · rw [if_neg z, if_pos rfl, if_neg z]
  unfold lbX7_write_8
  simp only [lt_e]
  rw [hu]
  unfold wk at ew
  rw [if_neg (show ¬ (8 : Int32) ≤ nI k from nI_ge (b := 8) hk (by decide)), ew, ein, nI_1]
  by_cases z : k = 0
  · rw [if_pos (by rw [z]; decide), if_pos trivial]
    exact nz
  · have e : ¬ lg_cmp (wk u k).toInt64 (0 : Int64) = 0 := fun q => (h.resolve_left z) ((wk_nat hk).symm.trans ((lg_0 _).mp q))
    unfold wk at e
    rw [if_neg (nI_nle (by omega) (by omega)), if_neg e, if_pos trivial]
    exact nz
theorem w8_bad {a : Int64} {k : Nat} (hk : k < 8) {x : Int32} : ∃ y, lbX7_write_8 a (x, 1, nI k) = some (.inl (y, 1, nI (k + 1))) := by
  unfold lbX7_write_8
  simp only [lt_e]
  rw [if_neg (show ¬ (8 : Int32) ≤ nI k from nI_ge (b := 8) hk (by decide)), nI_1]
  by_cases z : nI k ≤ 0
  · rw [if_pos z, if_neg one_no]
    exact ⟨_, rfl⟩
  · rw [if_neg z]
    refine ite_P (P := fun o : Option ((Int32 × Int32 × Int32) ⊕ (Int32 × Int32 × Int32)) => ∃ y, o = some (.inl (y, 1, nI (k + 1)))) (fun _ => ?_) (fun _ => ?_)
    · rw [if_neg one_no]
      exact ⟨_, rfl⟩
    · rw [if_neg one_no]
      exact ⟨_, rfl⟩
theorem w8_out {a : Int64} {x b : Int32} : lbX7_write_8 a (x, b, nI 8) = some (.inr (x, b, nI 8)) := by
  unfold lbX7_write_8
  dsimp only
  rw [if_pos (show (8 : Int32) ≤ nI 8 by decide)]
theorem it_s {σ ε : Type} {body : σ → Option (σ ⊕ ε)} {f : Nat} {s s' : σ} (h : body s = some (.inl s')) : it body (f + 1) s = it body f s' := by
  show (body s).bind _ = _
  rw [h]
  rfl
theorem it_o {σ ε : Type} {body : σ → Option (σ ⊕ ε)} {f : Nat} {s : σ} {e : ε} (h : body s = some (.inr e)) : it body (f + 1) s = some e := by
  show (body s).bind _ = _
  rw [h]
  rfl
theorem it_w8bad {a : Int64} : ∀ (m k f : Nat) (x : Int32), k + m = 8 → m < f → ∃ y, it (lbX7_write_8 a) f (x, 1, nI k) = some (y, 1, nI 8) := by
  intro m
  induction m with
  | zero =>
    intro k f x hk hf
    obtain ⟨f, rfl⟩ : ∃ g, f = g + 1 := ⟨f - 1, by omega⟩
    obtain rfl : k = 8 := by omega
    exact ⟨x, it_o w8_out⟩
  | succ m ih =>
    intro k f x hk hf
    obtain ⟨f, rfl⟩ : ∃ g, f = g + 1 := ⟨f - 1, by omega⟩
    obtain ⟨y, e⟩ := w8_bad (a := a) (k := k) (by omega) (x := x)
    rw [it_s e]
    exact ih (k + 1) f y (by omega) (by omega)
theorem it_w8end {a : Int64} {u : UInt64} (hu : a.toUInt64 = u) : ∀ (m k f : Nat) (x : Int32), k + m = 8 → 0 < k → m < f → u.toNat / 2 ^ (8 * k) = 0 → it (lbX7_write_8 a) f (x, 0, nI k) = some (x, 0, nI 8) := by
  intro m
  induction m with
  | zero =>
    intro k f x hk h0 hf h
    obtain ⟨f, rfl⟩ : ∃ g, f = g + 1 := ⟨f - 1, by omega⟩
    obtain rfl : k = 8 := by omega
    exact it_o w8_out
  | succ m ih =>
    intro k f x hk h0 hf h
    obtain ⟨f, rfl⟩ : ∃ g, f = g + 1 := ⟨f - 1, by omega⟩
    rw [it_s (w8_end hu (by omega) h0 h (Or.inl rfl))]
    exact ih (k + 1) f x (by omega) (by omega) (by omega) (end_s h)
/-- the class's count of characters and the model's -/
theorem codes_same {a : Int64} {u : UInt64} (hu : a.toUInt64 = u) : ∀ (m k f : Nat) (r : Int64), k + m = 8 → m < f → r.toUInt64.toNat = u.toNat / 2 ^ (8 * k) → (∀ j, j < k → 33 ≤ byt u j ∧ byt u j ≤ 126) → (cds m r (nI k) = -1002 ∧ ∃ x, it (lbX7_write_8 a) f (nI k, 0, nI k) = some (x, 1, nI 8)) ∨ ∃ e : Nat, 1 ≤ e ∧ e ≤ 8 ∧ cds m r (nI k) = nI e ∧ it (lbX7_write_8 a) f (nI k, 0, nI k) = some (nI e, 0, nI 8) ∧ ∀ j, j < e → 33 ≤ byt u j ∧ byt u j ≤ 126 := by
  intro m
  induction m with
  | zero =>
    intro k f r hk hf hr hg
    obtain ⟨f, rfl⟩ : ∃ g, f = g + 1 := ⟨f - 1, by omega⟩
    obtain rfl : k = 8 := by omega
    exact Or.inr ⟨8, by decide, by decide, rfl, it_o w8_out, hg⟩
  | succ m ih =>
    intro k f r hk hf hr hg
    obtain ⟨f, rfl⟩ : ∃ g, f = g + 1 := ⟨f - 1, by omega⟩
    have er : r = r.toUInt64.toInt64 := rfl
    show ((if lg_cmp r ((0 : Int64)) = 0 then (if nI k = 0 then -1002 else nI k) else if fX6_isWithin ((r &&& ((255 : Int64))).toInt32) ((33 : Int32)) ((126 : Int32)) = 0 then -1002 else cds m ((r.toUInt64 >>> (((8 : Int32)).toInt64.toUInt64 &&& Int64.toUInt64 63)).toInt64) (nI k + 1)) = -1002 ∧ _) ∨ ∃ e : Nat, 1 ≤ e ∧ e ≤ 8 ∧ (if lg_cmp r ((0 : Int64)) = 0 then (if nI k = 0 then -1002 else nI k) else if fX6_isWithin ((r &&& ((255 : Int64))).toInt32) ((33 : Int32)) ((126 : Int32)) = 0 then -1002 else cds m ((r.toUInt64 >>> (((8 : Int32)).toInt64.toUInt64 &&& Int64.toUInt64 63)).toInt64) (nI k + 1)) = nI e ∧ _
    by_cases z : u.toNat / 2 ^ (8 * k) = 0
    · have e0 : lg_cmp r (0 : Int64) = 0 := by
        rw [er]
        exact (lg_0 _).mpr (hr.trans z)
      rw [if_pos e0]
      rcases Nat.eq_zero_or_pos k with y | y
      · subst y
        rw [if_pos nI_0]
        have b0 : byt u 0 = 0 := by
          unfold byt
          rw [z]
        have e := w8_on hu (k := 0) (by decide) (Or.inl rfl) (x := nI 0)
        rw [if_neg (by rw [b0]; decide)] at e
        rw [it_s e]
        obtain ⟨x, e2⟩ := it_w8bad (a := a) m (0 + 1) f (nI 0 + 1) (by omega) (by omega)
        exact Or.inl ⟨rfl, x, e2⟩
      · rw [if_neg (nI_ne0 y (by omega))]
        exact Or.inr ⟨k, y, by omega, rfl, it_w8end hu (m + 1) k (f + 1) (nI k) (by omega) y (by omega) z, hg⟩
    · have e0 : ¬ lg_cmp r (0 : Int64) = 0 := by
        rw [er]
        exact fun q => z (hr.symm.trans ((lg_0 _).mp q))
      rw [if_neg e0]
      have eb : (r &&& (255 : Int64)).toInt32 = nI (byt u k) := by
        rw [er, byte_1, hr]
        rfl
      rw [eb, in_code (show byt u k < 256 from Nat.mod_lt _ (by decide))]
      have e := w8_on hu (k := k) (by omega) (Or.inr z) (x := nI k)
      rw [nI_1] at e
      rw [it_s e, nI_1]
      by_cases y : 33 ≤ byt u k ∧ byt u k ≤ 126
      · rw [if_pos y, if_neg one_no, if_pos y]
        exact ih (k + 1) f _ (by omega) (by omega) (wk_s hr) (fun j hj => by
          by_cases q : j = k
          · rw [q]
            exact y
          · exact hg j (by omega))
      · rw [if_neg y, if_pos rfl, if_neg y]
        obtain ⟨x, e2⟩ := it_w8bad (a := a) m (k + 1) f (nI (k + 1)) (by omega) (by omega)
        exact Or.inl ⟨rfl, x, e2⟩
