/-! write -/
theorem codeAt_n {a : Int64} {u : UInt64} (hu : a.toUInt64 = u) {k : Nat} (hk : k < 8) : fX6_codeAt a (nI k) = nI (byt u k) := by
  unfold fX6_codeAt
  rw [hu]
  have e := byte_2 (wk u k)
  rw [wk_nat hk] at e
  exact e
theorem app_r {T : Mem} {m : Nat} {x : Int32} (h : T 85 0 = nI m) (hm : m < 60) : pv T 85 3 (fX2_append (gv T 85) x) 85 0 = nI (m + 1) ∧ pv T 85 3 (fX2_append (gv T 85) x) 87 = upd (T 87) m x ∧ ∀ j, j ≠ 85 → j ≠ 87 → pv T 85 3 (fX2_append (gv T 85) x) j = T j := by
  have e : fX2_append (gv T 85) x = sv (sv (gv T 85) 2 m x) 0 0 (nI (m + 1)) := by
    unfold fX2_append
    simp only [lt_e]
    rw [show gv T 85 0 0 = nI m from h, if_neg (show ¬ (60 : Int32) ≤ nI m from nI_ge (b := 60) hm (by decide)), cset_nI hm, sv_k (show (0 : Nat) ≠ 2 by decide), show gv T 85 0 0 = nI m from h, nI_1]
  rw [e]
  refine ⟨?_, ?_, fun j h1 h2 => ?_⟩
  · show pv T 85 3 _ (85 + 0) 0 = _
    rw [pv_at (by decide), sv_at]
  · show pv T 85 3 _ (85 + 2) = _
    rw [pv_at (by decide), sv_k (by decide), sv_row]
    rfl
  · by_cases c : j = 86
    · subst c
      show pv T 85 3 _ (85 + 1) = _
      rw [pv_at (by decide), sv_k (by decide), sv_k (by decide)]
      rfl
    · exact pvo (by omega)
def ix : Nat → Int32
  | 0 => -1
  | j + 1 => nI j
theorem it_app {a : Int64} {u : UInt64} (hu : a.toUInt64 = u) : ∀ (j m f : Nat) (T : Mem), j ≤ 8 → m + j ≤ 60 → j < f → T 85 0 = nI m → ∃ T' x', it (lbX6_write_39 a) f (ix j, T) = some (x', T') ∧ T' 85 0 = nI (m + j) ∧ (∀ q, q < m → T' 87 q = T 87 q) ∧ (∀ q, q < j → T' 87 (m + q) = nI (byt u (j - 1 - q))) ∧ (∀ r, r ≠ 85 → r ≠ 87 → T' r = T r) := by
  intro j
  induction j with
  | zero =>
    intro m f T h8 hm hf h
    obtain ⟨f, rfl⟩ : ∃ g, f = g + 1 := ⟨f - 1, by omega⟩
    have e : lbX6_write_39 a ((-1 : Int32), T) = some (.inr ((-1 : Int32), T)) := by
      unfold lbX6_write_39
      dsimp only
      rw [if_pos (show (-1 : Int32) < 0 by decide)]
    exact ⟨T, -1, it_o e, h, fun q hq => rfl, fun q hq => absurd hq (by omega), fun r h1 h2 => rfl⟩
  | succ j ih =>
    intro m f T h8 hm hf h
    obtain ⟨f, rfl⟩ : ∃ g, f = g + 1 := ⟨f - 1, by omega⟩
    obtain ⟨r1, r2, r3⟩ := app_r (x := nI (byt u j)) h (by omega)
    have e : lbX6_write_39 a (ix (j + 1), T) = some (.inl (ix j, pv T 85 3 (fX2_append (gv T 85) (nI (byt u j))))) := by
      unfold lbX6_write_39
      simp only [lt_e]
      rw [show ix (j + 1) = nI j from rfl, if_neg (nI_pos (by omega)), codeAt_n hu (by omega)]
      have ei : nI j + (-1) = ix j := by
        cases j with
        | zero => rfl
        | succ y => exact pk_m1 y
      rw [ei]
    rw [it_s e]
    generalize pv T 85 3 (fX2_append (gv T 85) (nI (byt u j))) = T1 at r1 r2 r3 ⊢
    obtain ⟨T', x', k1, k2, k3, k4, k5⟩ := ih (m + 1) f T1 (by omega) (by omega) (by omega) r1
    refine ⟨T', x', k1, by rw [k2]; exact congrArg nI (by omega), fun q hq => ?_, fun q hq => ?_, fun r h1 h2 => (k5 r h1 h2).trans (r3 r h1 h2)⟩
    · rw [k3 q (by omega), r2, upd_ne (by omega)]
    · rcases Nat.eq_zero_or_pos q with z | z
      · subst z
        rw [Nat.add_zero, k3 m (by omega), r2, upd_at]
        exact congrArg (fun y => nI (byt u y)) (by omega)
      · have := k4 (q - 1) (by omega)
        rw [show m + 1 + (q - 1) = m + q by omega] at this
        rw [this]
        exact congrArg (fun y => nI (byt u y)) (by omega)
/-- the pad's row behind k rounds -/
def gRow (u : UInt64) (m e : Nat) (f : Nat → Int32) (k : Nat) : Nat → Int32 := fun q => if m + e - k ≤ q ∧ q < m + e then nI (byt u (m + e - 1 - q)) else f q
theorem gRow_s {u : UInt64} {m e k : Nat} {f : Nat → Int32} (hk : k < e) : upd (gRow u m e f k) (m + e - 1 - k) (nI (byt u k)) = gRow u m e f (k + 1) := by
  funext q
  unfold gRow
  by_cases c : q = m + e - 1 - k
  · rw [c, upd_at, if_pos (by omega)]
    exact congrArg (fun y => nI (byt u y)) (by omega)
  · rw [upd_ne c]
    by_cases c2 : m + e - k ≤ q ∧ q < m + e
    · rw [if_pos c2, if_pos (by omega)]
    · rw [if_neg c2, if_neg (by omega)]
theorem gRow_0 {u : UInt64} {m e : Nat} {f : Nat → Int32} : gRow u m e f 0 = f := by
  funext q
  unfold gRow
  rw [if_neg (by omega)]
theorem it_wr {a : Int64} {u : UInt64} (hu : a.toUInt64 = u) {S : Mem} {m e : Nat} (h : S 0 1 = nI m) (he : e ≤ 8) (hm : m + e ≤ 60) (b c : Int32) : it (lbX7_write_128 a (nI e, b, c)) fuel ((0 : Int32), S) = some (nI e, cpv S 6 (gRow u m e (S 6) e)) := by
  refine (congrArg (it (lbX7_write_128 a (nI e, b, c)) fuel) (show ((0 : Int32), S) = (nI 0, cpv S 6 (gRow u m e (S 6) 0)) by rw [gRow_0, cpv_id]; rfl)).trans ?_
  refine it_for (fun k => (nI k, cpv S 6 (gRow u m e (S 6) k))) e (fun k hk => ?_) ?_ fuel (fuel_lt (by omega))
  · have eb : (((wk u k).toInt64 &&& (255 : Int64)).toInt32) = nI (byt u k) := by
      rw [byte_1, wk_nat (by omega)]
      rfl
    unfold wk at eb
    unfold lbX7_write_128
    simp only [lt_e]
    have ei : nI m + nI e - (1 : Int32) - nI k = nI (m + e - 1 - k) := by
      show nI m + nI e - nI 1 - nI k = _
      rw [nI_add, pk_sub (by omega), pk_sub (by omega)]
    rw [if_neg (nI_ge hk (by omega)), cpv_k (show (0 : Nat) ≠ 6 by decide), h, ei, gd_nI (by omega), nI_clamp (n := m + e - 1 - k) (by omega), hu, eb, nI_1, sv_cpv, cpv_cpv, cpv_at, gRow_s hk]
  · unfold lbX7_write_128
    dsimp only
    rw [if_pos (Int32.le_refl _)]
theorem sim_write {V S : Mem} (h : RR V S) (a : Int64) : ∃ x V' S', qX6_write V a = some (x, V') ∧ qX7_write S a = some (x, S') ∧ RR V' S' := by
  obtain ⟨hw, ⟨m, hm, v85, s01, hc⟩, ⟨k, p, h3⟩, h4⟩ := id h
  obtain ⟨u, hu⟩ : ∃ u, a.toUInt64 = u := ⟨_, rfl⟩
  unfold qX6_write qX7_write fX6_codesIn
  simp only [lt_e]
  rcases codes_same hu 8 0 fuel a (by decide) (fuel_lt (by decide)) (by rw [hu]; simp) (fun j hj => absurd hj (by omega)) with ⟨e1, x, e2⟩ | ⟨e, he1, he8, e1, e2, hg⟩
  · rw [show cds 8 a 0 = -1002 from e1, show it (lbX7_write_8 a) fuel ((0 : Int32), (0 : Int32), (0 : Int32)) = some (x, 1, nI 8) from e2, Option.bind_some, if_pos rfl]
    dsimp only
    rw [if_neg one_no]
    exact ⟨_, V, S, rfl, rfl, h⟩
  · have hx : ¬ nI e = (-1002 : Int32) := fun q => nI_pos (n := e) (by omega) (by rw [q]; decide)
    rw [show cds 8 a 0 = nI e from e1, show it (lbX7_write_8 a) fuel ((0 : Int32), (0 : Int32), (0 : Int32)) = some (nI e, 0, nI 8) from e2, Option.bind_some, if_neg hx]
    dsimp only
    rw [if_pos rfl, v85, s01, nI_add]
    by_cases c : m + e ≤ 60
    · have c' : nI (m + e) ≤ (60 : Int32) := nI_le (b := 60) c (by decide)
      obtain ⟨T', x', k1, k2, k3, k4, k5⟩ := it_app hu e m fuel V he8 c (fuel_lt (by omega)) v85
      have ei : nI e - (1 : Int32) = ix e := by
        obtain ⟨y, rfl⟩ : ∃ y, e = y + 1 := ⟨e - 1, by omega⟩
        exact nI_pred y
      rw [if_pos c', if_pos c', ei, k1, Option.bind_some, it_wr hu s01 he8 c, Option.bind_some]
      dsimp only
      rw [cpv_k (show (0 : Nat) ≠ 6 by decide), s01, nI_add, sv_at, k2]
      have s6 : sv (cpv S 6 (gRow u m e (S 6) e)) 0 1 (nI (m + e)) 6 = gRow u m e (S 6) e := by rw [sv_k (by decide), cpv_at]
      have so : ∀ j, j ≠ 0 → j ≠ 6 → sv (cpv S 6 (gRow u m e (S 6) e)) 0 1 (nI (m + e)) j = S j := fun j h1 h2 => by rw [sv_k h1, cpv_k h2]
      have s00 : sv (cpv S 6 (gRow u m e (S 6) e)) 0 1 (nI (m + e)) 0 0 = S 0 0 := by rw [sv_j (by decide), cpv_k (by decide)]
      have s01' : sv (cpv S 6 (gRow u m e (S 6) e)) 0 1 (nI (m + e)) 0 1 = nI (m + e) := sv_at
      generalize sv (cpv S 6 (gRow u m e (S 6) e)) 0 1 (nI (m + e)) = S2 at s6 so s00 s01' ⊢
      refine ⟨_, T', S2, rfl, rfl, ?_, ⟨m + e, c, k2, s01', fun i hi => ?_⟩, ⟨k, p, h3.of (fun j h1 h2 => k5 j (by omega) (by omega)) (k5 0 (by decide) (by decide)) s00 (so 3 (by decide) (by decide))⟩, h4.of (fun j h1 h2 => k5 j (by omega) (by omega)) (k5 427 (by decide) (by decide)) (so 4 (by decide) (by decide)) (so 5 (by decide) (by decide))⟩
      · rw [so 1 (by decide) (by decide)]
        exact hw.w (fun j hj => k5 _ (by omega) (by omega))
      · rw [s6]
        rcases Nat.lt_or_ge i m with z | z
        · have eg : gRow u m e (S 6) e i = S 6 i := by
            unfold gRow
            rw [if_neg (by omega)]
          rw [eg, k3 i z]
          exact hc i z
        · have eg : gRow u m e (S 6) e i = nI (byt u (m + e - 1 - i)) := by
            unfold gRow
            rw [if_pos (by omega)]
          have := k4 (i - m) (by omega)
          rw [show m + (i - m) = i by omega, show e - 1 - (i - m) = m + e - 1 - i by omega] at this
          rw [eg, this]
          have hb := hg (m + e - 1 - i) (by omega)
          exact ⟨rfl, _, hb.1, hb.2, rfl⟩
    · have c' : ¬ nI (m + e) ≤ (60 : Int32) := nI_ge (a := 60) (by omega) (by omega)
      rw [if_neg c', if_neg c']
      exact ⟨_, V, S, rfl, rfl, h⟩
