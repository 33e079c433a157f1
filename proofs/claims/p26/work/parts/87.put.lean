/-! put -/
theorem nI_no60 {m : Nat} (h : m ≤ 60) : ¬ nI m = (-1006 : Int32) := fun q => nI_pos (n := m) (by omega) (by rw [q]; decide)
theorem gF_ok {c : Nat → Nat} {m p : Nat} (hm : m ≤ 60) : ∀ (k l : Nat), p + l + k = m → l ≤ 6 → (∀ j, j < l → 97 ≤ c (p + j) ∧ c (p + j) ≤ 122) → gF c m k (p + l) l = -1006 → ∃ l, 1 ≤ l ∧ l ≤ 6 ∧ p + l ≤ m ∧ (∀ j, j < l → 97 ≤ c (p + j) ∧ c (p + j) ≤ 122) ∧ (p + l = m ∨ (p + l < m ∧ c (p + l) = 44 ∧ gF c m (m - (p + l + 1)) (p + l + 1) 0 = -1006))
  | 0, l, hk, hl, h, hg => by
    have hg' : (if l = 0 then nI m else -1006) = -1006 := hg
    by_cases z : l = 0
    · rw [if_pos z] at hg'
      exact absurd hg' (nI_no60 hm)
    · exact ⟨l, by omega, hl, by omega, h, Or.inl (by omega)⟩
  | k + 1, l, hk, hl, h, hg => by
    have hg' : (if 97 ≤ c (p + l) ∧ c (p + l) ≤ 122 then (if 6 ≤ l then nI (p + l) else gF c m k (p + l + 1) (l + 1)) else if c (p + l) = 44 ∧ 0 < l then gF c m k (p + l + 1) 0 else nI (p + l)) = -1006 := hg
    by_cases z : 97 ≤ c (p + l) ∧ c (p + l) ≤ 122
    · rw [if_pos z] at hg'
      by_cases z2 : 6 ≤ l
      · rw [if_pos z2] at hg'
        exact absurd hg' (nI_no60 (by omega))
      · rw [if_neg z2] at hg'
        exact gF_ok hm k (l + 1) (by omega) (by omega) (fun j hj => by
          by_cases y : j = l
          · rw [y]
            exact z
          · exact h j (by omega)) hg'
    · rw [if_neg z] at hg'
      by_cases z2 : c (p + l) = 44 ∧ 0 < l
      · rw [if_pos z2] at hg'
        refine ⟨l, by omega, hl, by omega, h, Or.inr ⟨by omega, z2.1, ?_⟩⟩
        rw [show m - (p + l + 1) = k by omega]
        exact hg'
      · rw [if_neg z2] at hg'
        exact absurd hg' (nI_no60 (by omega))
/-- the commas of the k codes from i on -/
def ncom (c : Nat → Nat) : Nat → Nat → Nat
  | 0, _ => 0
  | k + 1, i => (if c i = 44 then 1 else 0) + ncom c k (i + 1)
theorem csum_ncom {c : Nat → Nat} : ∀ (k i : Nat) (f : Nat → Int32), (∀ j, j < k → f j = if c (i + j) = 44 then 1 else 0) → csum k f = nI (ncom c k i)
  | 0, _, _, _ => rfl
  | k + 1, i, f, h => by
    rw [csum_0, csum_ncom k (i + 1) (fun j => f (j + 1)) (fun j hj => by
      rw [h (j + 1) (by omega), show i + (j + 1) = i + 1 + j by omega]), h 0 (by omega)]
    show (if c (i + 0) = 44 then (1 : Int32) else 0) + nI (ncom c k (i + 1)) = nI ((if c i = 44 then 1 else 0) + ncom c k (i + 1))
    rw [← nI_add]
    by_cases z : c i = 44
    · rw [if_pos (show c (i + 0) = 44 from z), if_pos z]
      rfl
    · rw [if_neg (show ¬ c (i + 0) = 44 from z), if_neg z]
      rfl
theorem ncom_run {c : Nat → Nat} {m p : Nat} : ∀ (l : Nat), p + l ≤ m → (∀ j, j < l → 97 ≤ c (p + j) ∧ c (p + j) ≤ 122) → ncom c (m - p) p = ncom c (m - (p + l)) (p + l)
  | 0, _, _ => rfl
  | l + 1, hp, h => by
    rw [ncom_run l (by omega) (fun j hj => h j (by omega))]
    obtain ⟨k, hk⟩ : ∃ k, m - (p + l) = k + 1 := ⟨m - (p + l) - 1, by omega⟩
    rw [hk]
    show (if c (p + l) = 44 then 1 else 0) + ncom c k (p + l + 1) = _
    have := h l (by omega)
    rw [if_neg (by omega), Nat.zero_add, show m - (p + (l + 1)) = k by omega]
    rfl
theorem ncom_le {c : Nat → Nat} : ∀ (k i : Nat), ncom c k i ≤ k
  | 0, _ => Nat.le_refl _
  | k + 1, i => by
    have := ncom_le (c := c) k (i + 1)
    show (if c i = 44 then 1 else 0) + ncom c k (i + 1) ≤ k + 1
    split <;> omega
theorem r_told {S : Mem} {c : Nat → Nat} {m : Nat} (hm : m ≤ 60) (h0 : S 0 1 = nI m) (hc : ∀ i, i < m → S 6 i = nI (c i) ∧ c i ≤ 126) : qX7_told S = some (nI (1 + ncom c m 0)) := by
  obtain ⟨f, hf⟩ : ∃ f : Nat → Int32, ∀ i, f i = if c i = 44 then 1 else 0 := ⟨_, fun i => rfl⟩
  have hl : it (lbX7_told_4 S) fuel ((1 : Int32), (0 : Int32)) = some (1 + csum m f, nI m) := by
    refine (congrArg (it (lbX7_told_4 S) fuel) (show ((1 : Int32), (0 : Int32)) = (1 + csum 0 f, nI 0) from rfl)).trans ?_
    refine it_for (fun i => (1 + csum i f, nI i)) m (fun i hi => ?_) ?_ fuel (fuel_lt (by omega))
    · obtain ⟨e6, h126⟩ := hc i hi
      have i44 : nI (c i) = (44 : Int32) ↔ c i = 44 := nI_eq (b := 44) (by omega) (by decide)
      unfold lbX7_told_4
      dsimp only
      rw [h0, if_neg (nI_ge hi (by omega)), gd_nI (by omega), nI_clamp (n := i) (by omega), e6, nI_1]
      show _ = some (Sum.inl (1 + (csum i f + f i), nI (i + 1)))
      rw [← Int32.add_assoc, hf i]
      by_cases z : c i = 44
      · rw [if_pos (i44.mpr z), if_pos z]
      · rw [if_neg (fun q => z (i44.mp q)), if_neg z]
    · unfold lbX7_told_4
      dsimp only
      rw [h0, if_pos (nI_le (Nat.le_refl _) (by omega))]
  unfold qX7_told
  rw [hl, Option.bind_some, csum_ncom (c := c) m 0 f (fun j hj => by rw [hf, Nat.zero_add])]
  exact congrArg some (nI_add 1 _)
theorem c_told {V : Mem} {c : Nat → Nat} {m : Nat} (hm : m ≤ 60) (h0 : V 85 0 = nI m) (hc : ∀ i, i < m → V 87 i = nI (c i) ∧ c i ≤ 126) : fX2_wordsInside (gv V 85) = nI (1 + ncom c m 0) := by
  unfold fX2_wordsInside
  rw [show gv V 85 0 0 = nI m from h0, nI_clamp (by omega), csum_ncom (c := c) m 0 _ (fun j hj => ?_)]
  · exact nI_add 1 _
  · obtain ⟨e6, h126⟩ := hc j hj
    rw [cget_nI (by omega), show gv V 85 2 j = nI (c j) from e6, Nat.zero_add]
    by_cases z : c j = 44
    · rw [if_pos z, if_pos (show nI (c j) = (44 : Int32) by rw [z]; rfl)]
    · rw [if_neg z, if_neg (show ¬ nI (c j) = (44 : Int32) from fun q => z ((nI_eq (b := 44) (by omega) (by decide)).mp q))]
/-! the class's loop -/
theorem br_r {U : Mem} {a : Int32} : ∀ (i j : Nat), j < 1 ∨ 43 ≤ j → fld (brC a) i U j = U j
  | 0, _, _ => rfl
  | i + 1, j, hj => by
    have e : fld (brC a) (i + 1) U = brC a i (fld (brC a) i U) := rfl
    rw [e]
    unfold brC
    refine ite_P (P := fun M : Mem => M j = U j) (fun _ => ?_) (fun _ => ?_)
    · rw [pvo (by omega)]
      exact br_r i j hj
    · rw [pvo (by omega)]
      exact br_r i j hj
/-- the letters from p on, as digits -/
def dig (c : Nat → Nat) (p l : Nat) : List Nat := (List.range l).map (fun j => c (p + j) - 96)
theorem dig_s (c : Nat → Nat) (p l : Nat) : dig c p (l + 1) = dig c p l ++ [c (p + l) - 96] := by
  unfold dig
  rw [List.range_succ, List.map_append]
  rfl
theorem dig_len (c : Nat → Nat) (p l : Nat) : (dig c p l).length = l := by
  unfold dig
  rw [List.length_map, List.length_range]
theorem gv1_pv {A B : Mem} {j : Nat} (h : j < 42) : gv (pv A 1 42 B) 1 j = B j := pv_at h
theorem c_letters {n t k m p : Nat} {r : Nat → List Nat} {q : Nat → Option Nat} {d : Nat → Nat} {L : Nat → List Nat} {U : Mem} {s : Nat → Int32} {c : Nat → Nat} (hm : m ≤ 60) (hc : ∀ i, i < m → U 87 i = nI (c i) ∧ c i ≤ 126) (h : Mid n t r q d L k [] (gv (fld (brC (nI k)) p U) 1) s) : ∀ l, l ≤ 6 → p + l ≤ m → (∀ j, j < l → 97 ≤ c (p + j) ∧ c (p + j) ≤ 122) → Mid n t r q d L k (dig c p l) (gv (fld (brC (nI k)) (p + l) U) 1) s
  | 0, _, _, _ => h
  | l + 1, hl, hp, hj => by
    have ih := c_letters hm hc h l (by omega) (by omega) (fun j a => hj j (by omega))
    have hx := hj l (by omega)
    rw [dig_s]
    have e : fld (brC (nI k)) (p + (l + 1)) U = pv (fld (brC (nI k)) (p + l) U) 1 42 (fX4_addLetter (gv (fld (brC (nI k)) (p + l) U) 1) (nI (c (p + l)))) := by
      have e0 : fld (brC (nI k)) (p + (l + 1)) U = brC (nI k) (p + l) (fld (brC (nI k)) (p + l) U) := rfl
      rw [e0]
      have ec : cget 60 (fld (brC (nI k)) (p + l) U 87) (nI (p + l)) = nI (c (p + l)) := by
        rw [cget_nI (by omega), br_r _ 87 (by decide)]
        exact (hc _ (by omega)).1
      generalize fld (brC (nI k)) (p + l) U = X at ec ⊢
      unfold brC
      rw [ec, if_neg (fun z => by have := (nI_eq (a := c (p + l)) (b := 44) (by omega) (by decide)).mp z; omega)]
    rw [e]
    have := mid_letter ih (x := c (p + l) - 96) (by omega) (by rw [dig_len]; omega)
    rw [show 96 + (c (p + l) - 96) = c (p + l) by omega] at this
    exact this.w (fun j a => gv1_pv a)
/-! the model's loop -/
theorem enc_snoc : ∀ (l : List Nat) (x a : Nat), enc (l ++ [x]) a = 27 * enc l a + x
  | [], x, a => rfl
  | y :: l, x, a => enc_snoc l x (27 * a + y)
theorem m_letters {k m p : Nat} {M : Mem} {c : Nat → Nat} {f : Nat} (hm : m ≤ 60) (h0 : M 0 1 = nI m) (hc : ∀ i, i < m → M 6 i = nI (c i) ∧ c i ≤ 126) : ∀ l, l ≤ 6 → p + l ≤ m → (∀ j, j < l → 97 ≤ c (p + j) ∧ c (p + j) ≤ 122) → it (lbX7_put_53 (nI k)) (f + l) ((0 : Int32), nI p, M) = it (lbX7_put_53 (nI k)) f (nI (enc (dig c p l) 0), nI (p + l), M) := by
  intro l
  induction l generalizing f with
  | zero => intro _ _ _; rfl
  | succ l ih =>
    intro hl hp hj
    have hx := hj l (by omega)
    obtain ⟨e6, h126⟩ := hc (p + l) (by omega)
    rw [show f + (l + 1) = (f + 1) + l by omega, ih (f := f + 1) (by omega) (by omega) (fun j a => hj j (by omega)), dig_s, enc_snoc]
    generalize enc (dig c p l) 0 = E
    refine it_s ?_
    unfold lbX7_put_53
    simp only [lt_e]
    have n1 : ¬ nI m < nI (p + l) := nI_nlt (by omega) (by omega)
    have n2 : ¬ nI m ≤ nI (p + l) := nI_ge (by omega) (by omega)
    have ea : (27 : Int32) * nI E + nI (c (p + l)) - (97 : Int32) + 1 = nI (27 * E + (c (p + l) - 96)) := by
      show nI 27 * nI E + nI (c (p + l)) - nI 97 + nI 1 = _
      rw [pk_mul, nI_add, pk_sub (by omega), nI_add]
      exact congrArg nI (by omega)
    rw [h0, if_neg n1, if_neg n2, gd_nI (by omega), nI_clamp (n := p + l) (by omega), e6, if_neg (fun z => by have := (nI_eq (a := c (p + l)) (b := 44) (by omega) (by decide)).mp z; omega), ea, nI_1]
    rfl
theorem r_create {M : Mem} {n k : Nat} {r : List Nat} {code : Int32} (hn : n < 12) (hk : k < 2) (h : rowS (M 1) k r) (hl : r.length < 12) : qX7_comes (sv (sv (sv (sv (sv (sv M 1 4 (nI (n + 1))) 1 (71 + 5 * n) code) 1 (72 + 5 * n) 0) 1 (73 + 5 * n) (-1006)) 1 (74 + 5 * n) (-1006)) 1 (75 + 5 * n) 0) (nI k) (nI n) = some (cpv M 1 (crS (M 1) n code k r.length)) := by
  have e : sv (sv (sv (sv (sv (sv M 1 4 (nI (n + 1))) 1 (71 + 5 * n) code) 1 (72 + 5 * n) 0) 1 (73 + 5 * n) (-1006)) 1 (74 + 5 * n) (-1006)) 1 (75 + 5 * n) 0 = cpv M 1 (upd (upd (upd (upd (upd (upd (M 1) 4 (nI (n + 1))) (71 + 5 * n) code) (72 + 5 * n) 0) (73 + 5 * n) (-1006)) (74 + 5 * n) (-1006)) (75 + 5 * n) 0) := by
    rw [sv_cpv M, cpv_sv1, cpv_sv1, cpv_sv1, cpv_sv1, cpv_sv1]
  rw [e]
  have hr : rowS (cpv M 1 (upd (upd (upd (upd (upd (upd (M 1) 4 (nI (n + 1))) (71 + 5 * n) code) (72 + 5 * n) 0) (73 + 5 * n) (-1006)) (74 + 5 * n) (-1006)) (75 + 5 * n) 0) 1) k r := by
    rw [cpv_at]
    obtain ⟨a1, a2, a3⟩ := h
    refine ⟨a1, ?_, a3.congr (fun i hi => ?_)⟩
    · rw [upd_ne (by omega), upd_ne (by omega), upd_ne (by omega), upd_ne (by omega), upd_ne (by omega), upd_ne (by omega)]
      exact a2
    · rw [upd_ne (by omega), upd_ne (by omega), upd_ne (by omega), upd_ne (by omega), upd_ne (by omega), upd_ne (by omega)]
  rw [r_comes hk hr hl, cpv_sv1, cpv_sv1]
  rfl
theorem m_create {k m n i : Nat} {M : Mem} {c : Nat → Nat} {r : List Nat} {code : Int32} (hm : m ≤ 60) (hn : n < 12) (hk : k < 2) (h0 : M 0 1 = nI m) (h4 : M 1 4 = nI n) (hc : ∀ i, i < m → M 6 i = nI (c i) ∧ c i ≤ 126) (h : rowS (M 1) k r) (hl : r.length < 12) (hi : i = m ∨ (i < m ∧ c i = 44)) : lbX7_put_53 (nI k) (code, nI i, M) = some (.inl (0, nI (i + 1), cpv M 1 (crS (M 1) n code k r.length))) := by
  have hcr := r_create (code := code) hn hk h hl
  have n1 : ¬ nI m < nI i := nI_nlt (by omega) (by omega)
  unfold lbX7_put_53
  simp only [lt_e]
  rw [h0, if_neg n1, h4, ow0, ow1, ow2, ow3, ow4, nI_1, nI_clamp (n := 71 + 5 * n) (by omega), nI_clamp (n := 72 + 5 * n) (by omega), nI_clamp (n := 73 + 5 * n) (by omega), nI_clamp (n := 74 + 5 * n) (by omega), nI_clamp (n := 75 + 5 * n) (by omega), hcr, gd_cl (by omega), gd_cl (by omega), gd_cl (by omega), gd_cl (by omega), gd_cl (by omega), Option.bind_some, nI_1]
  rcases hi with z | ⟨z, z2⟩
  · rw [z, if_pos (Int32.le_refl _)]
  · obtain ⟨e6, h126⟩ := hc i z
    rw [if_neg (nI_ge z (by omega)), gd_nI (by omega), nI_clamp (n := i) (by omega), e6, if_pos (show nI (c i) = (44 : Int32) by rw [z2]; rfl)]
