/-! the changes: what they answer and what they keep -/
theorem er1 : (-1001 : Int32) ≤ -1001 := by decide
theorem er2 : (-1002 : Int32) ≤ -1001 := by decide
theorem er5 : (-1005 : Int32) ≤ -1001 := by decide
theorem lvl_big {me sw pe li : Int32} (h : TB me sw pe li) {t : Nat} (ht : t < 2 ^ 31) : (-1001 : Int32) < lvl me sw pe (nI t) := by
  obtain ⟨a, b, c, h1, h2, h3, h4, e1, e2, e3, -⟩ := h
  have h0 : TB me sw pe 0 := ⟨a, b, c, h1, h2, h3, h4, e1, e2, e3, by decide, by decide⟩
  have := (h0.told ht).1
  unfold tld at this
  rw [Int32.add_zero] at this
  rw [Int32.lt_iff_toInt_lt]
  have e : (-1001 : Int32).toInt = -1001 := by decide
  omega
theorem pv_r {U W : Mem} {k n j : Nat} (h : ∀ i, i < n → k + i = j → W i = U j) : pv U k n W j = U j := by
  unfold pv
  by_cases c : k ≤ j ∧ j < k + n
  · rw [if_pos c]
    exact h (j - k) (by omega) (by omega)
  · rw [if_neg c]
theorem chT_r {U : Mem} {a x y z : Int32} {j : Nat} (h1 : j ≠ 4) (h2 : j ≠ 6) (h3 : j ≠ 8) : pv U 2 9 (fX3_change (gv U 2) a x y z) j = U j := by
  refine pv_r (fun i hi e => ?_)
  unfold fX3_change
  simp only [lt_e]
  rw [cset_r (by omega), cset_r (by omega), cset_r (by omega)]
  exact congrArg U e
theorem chG_r {U : Mem} {a x y z : Int32} {j : Nat} (h1 : j ≠ 13) (h2 : j ≠ 15) (h3 : j ≠ 17) : pv U 11 17 (fX1_change (gv U 11) a x y z) j = U j := by
  refine pv_r (fun i hi e => ?_)
  unfold fX1_change
  simp only [lt_e]
  rw [cset_r (by omega), cset_r (by omega), cset_r (by omega)]
  exact congrArg U e
theorem exR_lt {j : Nat} (h : exR j) : 1 ≤ j ∧ j < 89 := by
  unfold exR at h
  omega
theorem op_tide {V S : Mem} {t : Nat} (h : Ok V S t) (a1 a2 a3 a4 : Int32) : ∃ S', Ok (fX6_tide V a1 a2 a3 a4).2 S' t ∧ Dn V (fX6_tide V a1 a2 a3 a4).1 (fX6_tide V a1 a2 a3 a4).2 := by
  obtain ⟨S', -, hR⟩ := sim_tide h.2.1 a1 a2 a3 a4
  have key : (fX6_tide V a1 a2 a3 a4 = (-1001, V) ∨ fX6_tide V a1 a2 a3 a4 = (-1002, V)) ∨ ∃ k : Nat, k < 2 ∧ a1 = nI k ∧ fX6_tide V a1 a2 a3 a4 = (fX3_levelAt (gv (pv (fX6_record V) 2 9 (fX3_change (gv (fX6_record V) 2) a1 a2 a3 a4)) 1) a1 (pv (fX6_record V) 2 9 (fX3_change (gv (fX6_record V) 2) a1 a2 a3 a4) 1 0), pv (fX6_record V) 2 9 (fX3_change (gv (fX6_record V) 2) a1 a2 a3 a4)) := by
    unfold fX6_tide
    simp only [lt_e]
    rcases store_cases a1 with ⟨c1, -⟩ | ⟨k, hk, rfl, c1, -⟩
    · rw [c1, if_pos rfl]
      exact Or.inl (Or.inl rfl)
    rw [c1, if_neg one_no]
    rcases within_cases a2 0 300 with z | ⟨z, -⟩
    · rw [z, if_pos rfl]
      exact Or.inl (Or.inr rfl)
    rw [z, if_neg one_no]
    rcases within_cases a3 0 100 with z | ⟨z, -⟩
    · rw [z, if_pos rfl]
      exact Or.inl (Or.inr rfl)
    rw [z, if_neg one_no]
    rcases within_cases a4 2 60 with z | ⟨z, -⟩
    · rw [z, if_pos rfl]
      exact Or.inl (Or.inr rfl)
    rw [z, if_neg one_no]
    exact Or.inr ⟨k, hk, rfl, rfl⟩
  rcases key with (e | e) | ⟨k, hk, ek, e⟩
  · rw [e] at hR ⊢
    exact ⟨S, h, Or.inl ⟨er1, rfl⟩⟩
  · rw [e] at hR ⊢
    exact ⟨S, h, Or.inl ⟨er2, rfl⟩⟩
  · rw [e] at hR ⊢
    have r : ∀ j, j ≠ 4 → j ≠ 6 → j ≠ 8 → pv (fX6_record V) 2 9 (fX3_change (gv (fX6_record V) 2) a1 a2 a3 a4) j = fX6_record V j := fun j h1 h2 h3 => chT_r h1 h2 h3
    generalize pv (fX6_record V) 2 9 (fX3_change (gv (fX6_record V) 2) a1 a2 a3 a4) = V' at hR r ⊢
    have hO : Ok V' S' t := h.ch hR (fun j hj => by
      have := exR_lt hj
      rw [r j (by unfold exR at hj; omega) (by unfold exR at hj; omega) (by unfold exR at hj; omega)]
      exact h.rec_r this.1 (Or.inl this.2))
    refine ⟨S', hO, Or.inr ⟨?_, r 0 (by decide) (by decide) (by decide), fun j h1 h2 => r j (by omega) (by omega) (by omega)⟩⟩
    obtain ⟨ht, -, ⟨n, rr, q, d, L, G⟩, -⟩ := hO
    obtain ⟨pT, -, -, -, pC, -⟩ := G.1
    have tb : TB (gv V' 1 3 k) (gv V' 1 5 k) (gv V' 1 7 k) (gv V' 1 9 k) := (pT k hk).2.2.2.2
    have v10 : V' 1 0 = nI t := pC.1
    show (-1001 : Int32) < fX3_levelAt (gv V' 1) a1 (V' 1 0)
    rw [ek, v10, c_level (w := gv V' 1) hk tb.per]
    exact lvl_big tb (by omega)
theorem op_gauge {V S : Mem} {t : Nat} (h : Ok V S t) (a1 a2 : Int32) : ∃ S', Ok (fX6_gauge V a1 a2).2 S' t ∧ Dn V (fX6_gauge V a1 a2).1 (fX6_gauge V a1 a2).2 := by
  obtain ⟨S', -, hR⟩ := sim_gauge h.2.1 a1 a2
  have key : (fX6_gauge V a1 a2 = (-1001, V) ∨ fX6_gauge V a1 a2 = (-1002, V)) ∨ ∃ k : Nat, k < 2 ∧ a1 = nI k ∧ fX6_gauge V a1 a2 = (fX6_record V 10 k, sv (fX6_record V) 10 k a2) := by
    unfold fX6_gauge
    simp only [lt_e]
    rcases store_cases a1 with ⟨c1, -⟩ | ⟨k, hk, rfl, c1, -⟩
    · rw [c1, if_pos rfl]
      exact Or.inl (Or.inl rfl)
    rw [c1, if_neg one_no]
    rcases within_cases a2 (-50) 50 with z | ⟨z, -⟩
    · rw [z, if_pos rfl]
      exact Or.inl (Or.inr rfl)
    rw [z, if_neg one_no, cget_nI hk, cset_nI hk]
    exact Or.inr ⟨k, hk, rfl, rfl⟩
  rcases key with (e | e) | ⟨k, hk, ek, e⟩
  · rw [e] at hR ⊢
    exact ⟨S, h, Or.inl ⟨er1, rfl⟩⟩
  · rw [e] at hR ⊢
    exact ⟨S, h, Or.inl ⟨er2, rfl⟩⟩
  · rw [e] at hR ⊢
    have r : ∀ j, j ≠ 10 → sv (fX6_record V) 10 k a2 j = fX6_record V j := fun j h1 => sv_k h1
    refine ⟨S', h.ch hR (fun j hj => ?_), Or.inr ⟨?_, r 0 (by decide), fun j h1 h2 => r j (by omega)⟩⟩
    · have := exR_lt hj
      show sv (fX6_record V) 10 k a2 j = V j
      rw [sv_k (by unfold exR at hj; omega)]
      exact h.rec_r this.1 (Or.inl this.2)
    · obtain ⟨ht, -, ⟨n, rr, q, d, L, G⟩, -⟩ := id h
      obtain ⟨a, b, c, -, -, -, -, -, -, -, l1, l2⟩ := (G.1.1 k hk).2.2.2.2
      have l1' : -50 ≤ (V 10 k).toInt := l1
      show (-1001 : Int32) < fX6_record V 10 k
      rw [h.rec_r (by decide) (by decide), Int32.lt_iff_toInt_lt]
      have e : (-1001 : Int32).toInt = -1001 := by decide
      omega
theorem op_gate {V S : Mem} {t : Nat} (h : Ok V S t) (a1 a2 a3 a4 : Int32) : ∃ S', Ok (fX6_gate V a1 a2 a3 a4).2 S' t ∧ Dn V (fX6_gate V a1 a2 a3 a4).1 (fX6_gate V a1 a2 a3 a4).2 := by
  obtain ⟨S', -, hR⟩ := sim_gate h.2.1 a1 a2 a3 a4
  have key : (fX6_gate V a1 a2 a3 a4 = (-1001, V) ∨ fX6_gate V a1 a2 a3 a4 = (-1002, V) ∨ fX6_gate V a1 a2 a3 a4 = (-1005, V)) ∨ ∃ g : Nat, g < 4 ∧ a1 = nI g ∧ fX6_gate V a1 a2 a3 a4 = (fX6_record V 15 g, pv (fX6_record V) 11 17 (fX1_change (gv (fX6_record V) 11) a1 a2 a3 a4)) := by
    unfold fX6_gate
    simp only [lt_e]
    rcases gate_cases a1 with ⟨c1, -⟩ | ⟨g, hg, rfl, c1, -⟩
    · rw [c1, if_pos rfl]
      exact Or.inl (Or.inl rfl)
    rw [c1, if_neg one_no]
    rcases within_cases a2 0 1 with z | ⟨z, -⟩
    · rw [z, if_pos rfl]
      exact Or.inl (Or.inr (Or.inl rfl))
    rw [z, if_neg one_no]
    clear z
    rcases within_cases a3 0 99 with z | ⟨z, -⟩
    · rw [z, if_pos rfl]
      exact Or.inl (Or.inr (Or.inl rfl))
    rw [z, if_neg one_no]
    clear z
    rcases within_cases a4 0 1 with z | ⟨z, -⟩
    · rw [z, if_pos rfl]
      exact Or.inl (Or.inr (Or.inl rfl))
    rw [z, if_neg one_no, cget_nI hg, cget_nI hg]
    by_cases c : fX1_hasWord (gv V 1) (nI g) = 0
    · rw [if_pos c]
      exact Or.inr ⟨g, hg, rfl, rfl⟩
    · rw [if_neg c]
      by_cases c2 : a2 = V 13 g
      · rw [if_pos c2]
        exact Or.inr ⟨g, hg, rfl, rfl⟩
      · rw [if_neg c2]
        exact Or.inl (Or.inr (Or.inr rfl))
  rcases key with (e | e | e) | ⟨g, hg, eg, e⟩
  · rw [e] at hR ⊢
    exact ⟨S, h, Or.inl ⟨er1, rfl⟩⟩
  · rw [e] at hR ⊢
    exact ⟨S, h, Or.inl ⟨er2, rfl⟩⟩
  · rw [e] at hR ⊢
    exact ⟨S, h, Or.inl ⟨er5, rfl⟩⟩
  · rw [e] at hR ⊢
    have r : ∀ j, j ≠ 13 → j ≠ 15 → j ≠ 17 → pv (fX6_record V) 11 17 (fX1_change (gv (fX6_record V) 11) a1 a2 a3 a4) j = fX6_record V j := fun j h1 h2 h3 => chG_r h1 h2 h3
    generalize pv (fX6_record V) 11 17 (fX1_change (gv (fX6_record V) 11) a1 a2 a3 a4) = V' at hR r ⊢
    refine ⟨S', h.ch hR (fun j hj => ?_), Or.inr ⟨?_, r 0 (by decide) (by decide) (by decide), fun j h1 h2 => r j (by omega) (by omega) (by omega)⟩⟩
    · have := exR_lt hj
      show V' j = V j
      rw [r j (by unfold exR at hj; omega) (by unfold exR at hj; omega) (by unfold exR at hj; omega)]
      exact h.rec_r this.1 (Or.inl this.2)
    · obtain ⟨ht, -, ⟨n, rr, q, d, L, G⟩, -⟩ := id h
      obtain ⟨-, -, -, -, -, ⟨a, ha, ea⟩, -⟩ := G.1.2.1 g hg
      have ea' : V 15 g = nI a := ea
      show (-1001 : Int32) < fX6_record V 15 g
      rw [h.rec_r (by decide) (by decide), ea']
      exact m1001 (by omega)
theorem op_shut {V S : Mem} {t : Nat} (h : Ok V S t) (a1 a2 : Int32) (ha : a2 = 0 ∨ a2 = 1) : ∃ S', Ok (fX6_shut V a1 a2).2 S' t ∧ Dn V (fX6_shut V a1 a2).1 (fX6_shut V a1 a2).2 := by
  obtain ⟨S', -, hR⟩ := sim_shut h.2.1 a1 a2 ha
  have key : (fX6_shut V a1 a2 = (-1001, V) ∨ fX6_shut V a1 a2 = (-1005, V)) ∨ ∃ g : Nat, g < 4 ∧ fX6_shut V a1 a2 = (csum 4 (sv (fX6_record V) 19 g a2 19), sv (fX6_record V) 19 g a2) := by
    unfold fX6_shut
    simp only [lt_e]
    rcases gate_cases a1 with ⟨c1, -⟩ | ⟨g, hg, rfl, c1, -⟩
    · rw [c1, if_pos rfl]
      exact Or.inl (Or.inl rfl)
    rw [c1, if_neg one_no, cset_nI hg, cset_nI hg]
    by_cases c : fX1_isShut (gv V 1) (nI g) = a2
    · rw [if_pos c]
      exact Or.inl (Or.inr rfl)
    · rw [if_neg c]
      rcases ha with rfl | rfl
      · rw [if_pos rfl]
        exact Or.inr ⟨g, hg, rfl⟩
      · rw [if_neg one_no]
        exact Or.inr ⟨g, hg, rfl⟩
  rcases key with (e | e) | ⟨g, hg, e⟩
  · rw [e] at hR ⊢
    exact ⟨S, h, Or.inl ⟨er1, rfl⟩⟩
  · rw [e] at hR ⊢
    exact ⟨S, h, Or.inl ⟨er5, rfl⟩⟩
  · rw [e] at hR ⊢
    have r : ∀ j, j ≠ 19 → sv (fX6_record V) 19 g a2 j = fX6_record V j := fun j h1 => sv_k h1
    generalize sv (fX6_record V) 19 g a2 = V' at hR r ⊢
    have hO : Ok V' S' t := h.ch hR (fun j hj => by
      have := exR_lt hj
      rw [r j (by unfold exR at hj; omega)]
      exact h.rec_r this.1 (Or.inl this.2))
    refine ⟨S', hO, Or.inr ⟨?_, r 0 (by decide), fun j h1 h2 => r j (by omega)⟩⟩
    obtain ⟨ht, -, ⟨n, rr, q, d, L, G⟩, -⟩ := hO
    obtain ⟨c, hc, ec⟩ := csum_01 (f := V' 19) 4 (fun i hi => (G.1.2.1 i hi).2.2.2.2.2.2.2)
    show (-1001 : Int32) < csum 4 (V' 19)
    rw [ec]
    exact m1001 (by omega)
theorem op_run {V S : Mem} {t m : Nat} (h : Ok V S t) (hm : 1 ≤ m) (hm2 : m ≤ 500) (ht : t + m ≤ 99999) : ∃ V' S', fX6_run V (nI m) = (csum 4 (stps m (gv V 1) 24) - csum 4 (gv V 1 24), V') ∧ Ok V' S' (t + m) ∧ Done V V' ∧ (∀ j, j < 42 → gv V' 1 j = stps m (gv V 1) j) ∧ ∃ k : Nat, k ≤ 4 * m ∧ csum 4 (stps m (gv V 1) 24) - csum 4 (gv V 1 24) = nI k := by
  obtain ⟨S', -, hR⟩ := sim_run h.2.1 (nI m)
  obtain ⟨-, -, ⟨n, rr, q, d, L, G⟩, h85⟩ := id h
  have v10 : V 1 0 = nI t := G.1.2.2.2.2.1.1
  have v28 : V 28 0 = nI n := G.1.2.2.2.2.1.2.2.2.2.2.1
  have hu : ∀ j, j < 42 → gv (fX6_record V) 1 j = gv V 1 j := fun j hj => h.rec_r (by omega) (by omega)
  have e : fX6_run V (nI m) = (csum 4 (pv (fX6_record V) 1 42 (stps m (gv (fX6_record V) 1)) 25) - csum 4 (fX6_record V 25), pv (fX6_record V) 1 42 (stps m (gv (fX6_record V) 1))) := by
    unfold fX6_run fX5_makeSteps
    simp only [lt_e]
    rw [within_1 (show ¬ nI m < (1 : Int32) from nI_nlt (b := 1) hm (by omega)) (show ¬ (500 : Int32) < nI m from nI_nlt (a := 500) hm2 (by decide)), if_neg one_no, v10, nI_add, if_pos (show nI (t + m) ≤ (99999 : Int32) from nI_le (b := 99999) ht (by decide)), nI_clamp (by omega)]
  have hw : ∀ j, j < 42 → stps m (gv (fX6_record V) 1) j = stps m (gv V 1) j := fun j hj => stps_ag hu m hj
  have e25 : pv (fX6_record V) 1 42 (stps m (gv (fX6_record V) 1)) 25 = stps m (gv V 1) 24 := (pv_at (k := 1) (j := 24) (by decide)).trans (hw 24 (by decide))
  have r25 : fX6_record V 25 = gv V 1 24 := hu 24 (by decide)
  rw [e25, r25] at e
  rw [e] at hR ⊢
  have r1 : ∀ j, j < 42 → gv (pv (fX6_record V) 1 42 (stps m (gv (fX6_record V) 1))) 1 j = stps m (gv V 1) j := fun j hj => (pv_at hj).trans (hw j hj)
  have r2 : ∀ j, j < 1 ∨ 43 ≤ j → pv (fX6_record V) 1 42 (stps m (gv (fX6_record V) 1)) j = fX6_record V j := fun j hj => pvo (by omega)
  generalize pv (fX6_record V) 1 42 (stps m (gv (fX6_record V) 1)) = V' at hR r1 r2 ⊢
  obtain ⟨s', r', q', d', p'⟩ := rw_stps G.1 (k := m) (by omega)
  have ex := ex_stps G.1 G.2 m (by omega)
  have n12 := p'.2.2.2.2.2.2.2.2.2.1.1
  obtain ⟨k, hk, ek, -⟩ := psk_stps (gv V 1) m
  refine ⟨V', S', rfl, Ok.mk' (n := n) hR ?_ ht ?_ n12 (ex.w r1) ?_, ⟨r2 0 (by decide), fun j h1 h2 => r2 j (by omega)⟩, r1, k, hk, ?_⟩
  · show gv V' 1 0 0 = nI (t + m)
    rw [r1 0 (by decide)]
    exact p'.2.2.2.2.1.1
  · show gv V' 1 27 0 = nI n
    rw [r1 27 (by decide)]
    exact p'.2.2.2.2.1.2.2.2.2.2.1
  · rw [r2 85 (by decide), h.rec_r (by decide) (by decide)]
    exact h85
  · have ek' : csum 4 (stps m (gv V 1) 24) = csum 4 (gv V 1 24) + nI k := ek
    rw [ek']
    generalize csum 4 (gv V 1 24) = x
    grind
