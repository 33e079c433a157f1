/-! put and wipe; one change of the law -/
theorem op_put {V S : Mem} {t m k : Nat} (h : OkP V S t m) (h1 : 1 ≤ m) (h6 : m ≤ 6) (hk : k < 2) : ∃ x V' S', (fX6_put V (nI k)).1 = x ∧ (fX6_wipe (fX6_put V (nI k)).2).2 = V' ∧ Ok V' S' t ∧ ((x ≤ -1001 ∧ V' 0 = V 0) ∨ (-1001 < x ∧ V' 0 = fX6_record V 0)) := by
  obtain ⟨ht, hR, ⟨n, r, q, d, L, G⟩, h85, c, hc⟩ := h
  obtain ⟨S1, -, hR1⟩ := sim_put hR (nI k)
  obtain ⟨-, hR2⟩ := sim_wipe hR1
  have n12 := G.1.2.2.2.2.2.2.2.2.2.1.1
  have c1 := G.1.2.2.2.2.1
  have v10 : V 1 0 = nI t := c1.1
  have v28 : V 28 0 = nI n := c1.2.2.2.2.2.1
  obtain ⟨S'', -, -, ev, -⟩ := hR.rec
  have hf : fX2_faultPlace (gv V 85) = -1006 := by
    rw [c_fault (show m ≤ 60 by omega) h85 (fun i hi => ⟨(hc i hi).1, by have := hc i hi; omega⟩)]
    exact gF_let (fun i hi => (hc i hi).2) m 0 0 (by omega) (by omega) (by omega)
  have hw : fX2_wordsInside (gv V 85) = 1 := by
    rw [c_told (show m ≤ 60 by omega) h85 (fun i hi => ⟨(hc i hi).1, by have := hc i hi; omega⟩), ncom_let m 0 (fun j hj => by
      have := hc j hj
      rw [Nat.zero_add]
      omega)]
    rfl
  have key : (fX6_put V (nI k) = (-1004, V)) ∨ (n < 12 ∧ fX6_put V (nI k) = (sv (fX6_bringWords (fX6_record V) (nI k)) 85 0 0 28 0, sv (fX6_bringWords (fX6_record V) (nI k)) 85 0 0)) := by
    unfold fX6_put
    simp only [lt_e]
    rw [isS hk, if_neg one_no, hf, if_pos rfl, hw, v28, nI_1]
    by_cases z : n < 12
    · rw [if_pos (show nI (n + 1) ≤ (12 : Int32) from nI_le (b := 12) z (by decide))]
      exact Or.inr ⟨z, rfl⟩
    · rw [if_neg (show ¬ nI (n + 1) ≤ (12 : Int32) from nI_ge (a := 12) (by omega) (by omega))]
      exact Or.inl rfl
  rcases key with e | ⟨z, e⟩
  · rw [e] at hR2 ⊢
    refine ⟨_, _, (fX7_wipe S1).2, rfl, rfl, ?_, Or.inl ⟨(show (-1004 : Int32) ≤ -1001 by decide), ?_⟩⟩
    · have g : ∀ j, j ≠ 85 → (fX6_wipe V).2 j = V j := fun j hj => by
        show sv V 85 0 0 j = V j
        exact sv_k hj
      refine Ok.mk' (n := n) hR2 ?_ ht ?_ n12 (G.2.w (fun j hj => g (1 + j) (by omega))) ?_
      · show (fX6_wipe V).2 1 0 = nI t
        rw [g 1 (by decide)]
        exact v10
      · show (fX6_wipe V).2 28 0 = nI n
        rw [g 28 (by decide)]
        exact v28
      · show sv V 85 0 0 85 0 = 0
        exact sv_at
    · show sv V 85 0 0 0 = V 0
      exact sv_k (by decide)
  · rw [e] at hR2 ⊢
    have u27 : gv (fX6_record V) 1 27 0 = nI n := by
      show fX6_record V 28 0 = nI n
      rw [ev 28 (by decide) (by decide)]
      exact v28
    have u87 : ∀ i, i < m → fX6_record V 87 i = nI (c i) ∧ 97 ≤ c i ∧ c i ≤ 122 := fun i hi => by
      rw [ev 87 (by decide) (by decide)]
      exact hc i hi
    have eb : fX6_bringWords (fX6_record V) (nI k) = fld (brC (nI k)) m (pv (fX6_record V) 1 42 (fX4_startWord (gv (fX6_record V) 1) (nI k))) := by
      unfold fX6_bringWords
      rw [ev 85 (by decide) (by decide), h85, nI_clamp (by omega)]
    have hb := br_bring (a := nI k) z (show m ≤ 60 by omega) u27 u87 m (Nat.le_refl _)
    have b0 : fld (brC (nI k)) m (pv (fX6_record V) 1 42 (fX4_startWord (gv (fX6_record V) 1) (nI k))) 0 = fX6_record V 0 := (br_r m 0 (by decide)).trans (pvo (by decide))
    rw [eb] at hR2 ⊢
    generalize fld (brC (nI k)) m (pv (fX6_record V) 1 42 (fX4_startWord (gv (fX6_record V) 1) (nI k))) = C at hR2 hb b0 ⊢
    have g1 : ∀ j, j ≠ 85 → sv (sv C 85 0 0) 85 0 0 j = C j := fun j hj => by rw [sv_k hj, sv_k hj]
    have g28 : sv C 85 0 0 28 = C 28 := sv_k (by decide)
    have hbr : Br n (gv V 1) (gv C 1) := by
      have hu : ∀ j, j < 42 → gv (fX6_record V) 1 j = gv V 1 j := fun j hj => ev (1 + j) (by omega) (by omega)
      obtain ⟨x1, x2, x3, x4, x5⟩ := hb
      refine ⟨fun j hj => (x1 j hj).trans (hu j (by omega)), fun v hv => ?_, x3, x4, x5⟩
      have := x2 v hv
      rw [hu 29 (by decide), hu 33 (by decide), hu 35 (by decide)] at this
      exact this
    have ex := ex_bring G.2 hbr
    refine ⟨_, _, (fX7_wipe S1).2, rfl, rfl, ?_, Or.inr ⟨?_, ?_⟩⟩
    · show Ok (sv (sv C 85 0 0) 85 0 0) _ t
      refine Ok.mk' (n := n + 1) hR2 ?_ ht ?_ z (ex.w (fun j hj => g1 (1 + j) (by omega))) sv_at
      · show sv (sv C 85 0 0) 85 0 0 1 0 = nI t
        rw [g1 1 (by decide)]
        have := hbr.1 0 (Or.inl rfl)
        show gv C 1 0 0 = nI t
        rw [this]
        exact v10
      · show sv (sv C 85 0 0) 85 0 0 28 0 = nI (n + 1)
        rw [g1 28 (by decide)]
        exact hbr.2.2.2.2
    · show (-1001 : Int32) < sv C 85 0 0 28 0
      rw [g28, show C 28 0 = nI (n + 1) from hbr.2.2.2.2]
      exact m1001 (by omega)
    · show sv (sv C 85 0 0) 85 0 0 0 = fX6_record V 0
      rw [g1 0 (by decide), b0]
/-- how many records there are behind a change -/
def Rc (k : Nat) (x : Int32) (V' : Mem) : Prop := (x ≤ -1001 ∧ V' 0 1 = nI k) ∨ (-1001 < x ∧ V' 0 1 = nI (if k = 6 then 6 else k + 1))
theorem Dn.rc {V V' : Mem} {x : Int32} {k p : Nat} (h : Dn V x V') (h0 : V 0 0 = nI p) (h1 : V 0 1 = nI k) (hp : p < 6) (hk : k ≤ 6) : Rc k x V' := by
  rcases h with ⟨a, b⟩ | ⟨a, b, -⟩
  · exact Or.inl ⟨a, by rw [b]; exact h1⟩
  · exact Or.inr ⟨a, by rw [b]; exact (rec_at h0 h1 hp hk).2.1⟩
theorem low_3 (a : Int32) (k : Nat) (hk : 0 < k) (hk2 : k < 2 ^ 31) : ∃ x, qL_low a (nI k) = some x := by
  obtain ⟨x, -, e⟩ := l_low a hk hk2
  exact ⟨_, e⟩
theorem l_change {V S : Mem} {t k p : Nat} (h : Ok V S t) (ht : t + 30 ≤ 99999) (h0 : V 0 0 = nI p) (h1 : V 0 1 = nI k) (hp : p < 6) (hk : k ≤ 6) (a1 a2 a3 : Int32) : ∃ x V' S' t', qL_change V a1 a2 a3 = some (x, V') ∧ Ok V' S' t' ∧ t' ≤ t + 30 ∧ Rc k x V' := by
  have hput : ∀ lb : Int32 → Int32 → Int32 × Mem → Option ((Int32 × Mem) ⊕ (Int32 × Mem)), lb = lbL_change_157 → ∃ x V' S' t', (it (lb a2 a3) fuel ((0 : Int32), V)).bind (fun s31 => (qL_low (a2 >>> (((4 : Int32)) &&& 31)) ((2 : Int32))).bind (fun r33 => lt (fX6_put s31.2 r33) (fun U34 => lt (fX6_wipe U34.2 ) (fun U35 => some (U34.1, U35.2))))) = some (x, V') ∧ Ok V' S' t' ∧ t' ≤ t + 30 ∧ Rc k x V' := by
    intro lb elb
    subst elb
    obtain ⟨q, hq, eq⟩ := l_low a2 (m := 6) (by decide) (by decide)
    obtain ⟨b, hb, eb⟩ := l_low (a2 >>> (((4 : Int32)) &&& 31)) (m := 2) (by decide) (by decide)
    obtain ⟨e1, e2, e3, e4⟩ := h
    obtain ⟨Vw, Sw, f1, f2, f3⟩ := l_writes (a3 := a3) hq eq (V0 := V) (1 + q) 0 fuel V S (by omega) (fuel_lt (by omega)) ⟨e1, e2, e3, e4, fun _ => 0, fun i hi => absurd hi (by omega)⟩ rfl
    obtain ⟨x, V', S', g1, g2, g3, g4⟩ := op_put f2 (by omega) (by omega) hb
    rw [show it (lbL_change_157 a2 a3) fuel ((0 : Int32), V) = some (nI (1 + q), Vw) from f1, Option.bind_some]
    rw [show qL_low (a2 >>> (((4 : Int32)) &&& 31)) (2 : Int32) = some (nI b) from eb, Option.bind_some]
    simp only [lt_e]
    refine ⟨x, V', S', t, ?_, g3, by omega, ?_⟩
    · rw [g1, g2]
    · have w0 : Vw 0 0 = nI p := by rw [f3]; exact h0
      have w1 : Vw 0 1 = nI k := by rw [f3]; exact h1
      rcases g4 with ⟨y1, y2⟩ | ⟨y1, y2⟩
      · exact Or.inl ⟨y1, by rw [y2]; exact w1⟩
      · exact Or.inr ⟨y1, by rw [y2]; exact (rec_at w0 w1 hp hk).2.1⟩
  have hgate : ∃ x V' S' t', (qL_low a2 ((5 : Int32))).bind (fun r12 => (qL_low (a3 >>> (((1 : Int32)) &&& 31)) ((40 : Int32))).bind (fun r13 => lt (fX6_gate V r12 (a3 &&& ((1 : Int32))) r13 ((a3 >>> (((7 : Int32)) &&& 31)) &&& ((1 : Int32)))) (fun U14 => some (U14.1, U14.2)))) = some (x, V') ∧ Ok V' S' t' ∧ t' ≤ t + 30 ∧ Rc k x V' := by
    obtain ⟨x2, e2⟩ := low_3 a2 5 (by decide) (by decide)
    obtain ⟨x3, e3⟩ := low_3 (a3 >>> (((1 : Int32)) &&& 31)) 40 (by decide) (by decide)
    rw [show qL_low a2 (5 : Int32) = some x2 from e2, Option.bind_some, show qL_low (a3 >>> (((1 : Int32)) &&& 31)) (40 : Int32) = some x3 from e3, Option.bind_some]
    obtain ⟨S', b1, b2⟩ := op_gate h x2 (a3 &&& ((1 : Int32))) x3 ((a3 >>> (((7 : Int32)) &&& 31)) &&& ((1 : Int32)))
    simp only [lt_e]
    exact ⟨_, _, S', t, rfl, b1, by omega, b2.rc h0 h1 hp hk⟩
  unfold qL_change
  by_cases z0 : a1 = 0
  · rw [if_pos z0]
    obtain ⟨x2, e2⟩ := low_3 a2 3 (by decide) (by decide)
    obtain ⟨x3, e3⟩ := low_3 a3 40 (by decide) (by decide)
    obtain ⟨x4, e4⟩ := low_3 (a3 >>> (((6 : Int32)) &&& 31)) 60 (by decide) (by decide)
    obtain ⟨x5, e5⟩ := low_3 (a3 >>> (((12 : Int32)) &&& 31)) 30 (by decide) (by decide)
    rw [show qL_low a2 (3 : Int32) = some x2 from e2, Option.bind_some, show qL_low a3 (40 : Int32) = some x3 from e3, Option.bind_some, show qL_low (a3 >>> (((6 : Int32)) &&& 31)) (60 : Int32) = some x4 from e4, Option.bind_some, show qL_low (a3 >>> (((12 : Int32)) &&& 31)) (30 : Int32) = some x5 from e5, Option.bind_some]
    obtain ⟨S', b1, b2⟩ := op_tide h x2 ((80 : Int32) + x3) x4 ((1 : Int32) + x5)
    simp only [lt_e]
    exact ⟨_, _, S', t, rfl, b1, by omega, b2.rc h0 h1 hp hk⟩
  rw [if_neg z0]
  by_cases z1 : a1 = 1
  · rw [if_pos z1]
    obtain ⟨x2, e2⟩ := low_3 a2 2 (by decide) (by decide)
    obtain ⟨x3, e3⟩ := low_3 a3 104 (by decide) (by decide)
    rw [show qL_low a2 (2 : Int32) = some x2 from e2, Option.bind_some, show qL_low a3 (104 : Int32) = some x3 from e3, Option.bind_some]
    obtain ⟨S', b1, b2⟩ := op_gauge h x2 (x3 - (52 : Int32))
    simp only [lt_e]
    exact ⟨_, _, S', t, rfl, b1, by omega, b2.rc h0 h1 hp hk⟩
  rw [if_neg z1]
  by_cases z2 : a1 = 2
  · rw [if_pos z2]
    exact hgate
  rw [if_neg z2]
  by_cases z3 : a1 = 3
  · rw [if_pos z3]
    exact hgate
  rw [if_neg z3]
  by_cases z4 : a1 = 4
  · rw [if_pos z4]
    obtain ⟨x2, e2⟩ := low_3 a2 4 (by decide) (by decide)
    rw [show qL_low a2 (4 : Int32) = some x2 from e2, Option.bind_some]
    by_cases zz : a3 &&& (3 : Int32) = 0
    · rw [if_pos zz, Option.bind_some]
      obtain ⟨S', b1, b2⟩ := op_shut h x2 1 (Or.inr rfl)
      simp only [lt_e]
      exact ⟨_, _, S', t, rfl, b1, by omega, b2.rc h0 h1 hp hk⟩
    · rw [if_neg zz, Option.bind_some]
      obtain ⟨S', b1, b2⟩ := op_shut h x2 0 (Or.inl rfl)
      simp only [lt_e]
      exact ⟨_, _, S', t, rfl, b1, by omega, b2.rc h0 h1 hp hk⟩
  rw [if_neg z4]
  by_cases z5 : a1 = 5
  · rw [if_pos z5]
    exact hput _ rfl
  rw [if_neg z5]
  by_cases z6 : a1 = 6
  · rw [if_pos z6]
    exact hput _ rfl
  rw [if_neg z6]
  by_cases z7 : a1 = 7
  · rw [if_pos z7]
    exact hput _ rfl
  rw [if_neg z7]
  obtain ⟨x, hx, ex⟩ := l_low a2 (m := 30) (by decide) (by decide)
  rw [show qL_low a2 (30 : Int32) = some (nI x) from ex, Option.bind_some]
  obtain ⟨V', S', b1, b2, b3, b4, kk, b5, b6⟩ := op_run h (m := 1 + x) (by omega) (by omega) (by omega)
  simp only [lt_e]
  rw [show (1 : Int32) + nI x = nI (1 + x) from nI_add 1 x, b1]
  refine ⟨_, V', S', t + (1 + x), rfl, b2, by omega, ?_⟩
  have : Dn V (csum 4 (stps (1 + x) (gv V 1) 24) - csum 4 (gv V 1 24)) V' := Or.inr ⟨by rw [b6]; exact m1001 (by omega), b3⟩
  exact this.rc h0 h1 hp hk
