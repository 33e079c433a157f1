/-! a gate's word is sent back: the same on both sides -/
theorem consS_out {s : Nat → Int32} {k len j : Nat} {x y : Int32} (hk : k < 2) (hl : len < 12) (hj : j < 45 ∨ 71 ≤ j) : upd (upd (shu (47 + 12 * k) len s) (47 + 12 * k) x) (45 + k) y j = s j := by
  rw [upd_ne (by omega), upd_ne (by omega)]
  unfold shu
  rw [if_neg (by omega)]
theorem snocS_out {s : Nat → Int32} {k len j : Nat} {x y : Int32} (hk : k < 2) (hl : len < 12) (hj : j < 45 ∨ 71 ≤ j) : upd (upd s (47 + 12 * k + len) x) (45 + k) y j = s j := by
  rw [upd_ne (by omega), upd_ne (by omega)]
theorem bk_out {s : Nat → Int32} {g v j : Nat} (h : j ≠ 3) (h1 : j ≠ 20 + 8 * g) (h2 : j ≠ 75 + 5 * v) (h3 : j ≠ 17 + 8 * g) (h4 : j ≠ 18 + 8 * g) : bkS s g v j = s j := by
  unfold bkS
  rw [upd_ne h4, upd_ne h3, upd_ne h2, upd_ne h1, upd_ne h]
theorem sim_back {b : Int32} {n t g v : Nat} {r : Nat → List Nat} {h : Nat → Option Nat} {d : Nat → Nat} {L : Nat → List Nat} {w V : Mem} (p : RwE b n t r h d L w (V 1)) (hg : g < 4) (e : h g = some v) (hw : w 16 g = 0) : ∃ s', qX7_goesBack (cpv V 1 (bkS (V 1) g v)) (V 1 (13 + 8 * g)) (nI v) = some (cpv V 1 s') ∧ ∃ r' h' d', RwE b n t r' h' d' L (fX5_sendBack w (nI g)) s' := by
  obtain ⟨qT, qG, qH, qD, qC, qRc, qRs, qL, qP, qX, qK, qN, qZ⟩ := p
  have hvn : v < n := qX.held_lt hg e
  have hv : v < 12 := Nat.lt_of_lt_of_le hvn qX.1
  obtain ⟨g1, -, -, -, ⟨k, hk, g5⟩, -⟩ := qG g hg
  have hl : (r k).length < 12 := qX.room hk hg e
  have e20 : w 20 g = nI v := by
    rw [(qH g hg).1, e]
    rfl
  have eC := c_back hg hv hk e20 hw g5 (qRc k hk) hl
  have ho : ∀ j, 45 ≤ j → j < 71 → bkS (V 1) g v j = V 1 j := fun j h1 h2 => bk_out (by omega) (by omega) (by omega) (by omega) (by omega)
  have qRs' := qRs.s ho
  have eR := r_goesBack (S := cpv V 1 (bkS (V 1) g v)) hk (r := r k) (by rw [cpv_at]; exact qRs' k hk) hl (nI v)
  rw [cpv_cpv, cpv_sv1, cpv_at] at eR
  refine ⟨_, (congrArg (fun z => qX7_goesBack (cpv V 1 (bkS (V 1) g v)) z (nI v)) (g1.trans g5)).trans eR, ur r k (v :: r k), ur h g none, ur d g 0, ?_⟩
  rw [eC]
  generalize hs : upd (upd (shu (47 + 12 * k) (r k).length (bkS (V 1) g v)) (47 + 12 * k) (nI v)) (45 + k) (nI ((r k).length + 1)) = s'
  have so : ∀ j, j < 45 ∨ 71 ≤ j → s' j = bkS (V 1) g v j := fun j hj => by rw [← hs, consS_out hk hl hj]
  have so2 : ∀ j, j < 45 ∨ 71 ≤ j → j ≠ 3 → j ≠ 20 + 8 * g → j ≠ 75 + 5 * v → j ≠ 17 + 8 * g → j ≠ 18 + 8 * g → s' j = V 1 j := fun j hj h1 h2 h3 h4 h5 => by rw [so j hj, bk_out h1 h2 h3 h4 h5]
  refine ⟨?_, ?_, ?_, ?_, ?_, ?_, ?_, ?_, ?_, ?_, ?_, ?_, ?_⟩
  · exact qT.s (fun j h1 h2 => so2 j (by omega) (by omega) (by omega) (by omega) (by omega) (by omega))
  · exact qG.s (fun g' q h1 h2 => so2 _ (by omega) (by omega) (by omega) (by omega) (by omega) (by omega))
  · intro g' hg'
    have w20 : (sv (sv w 26 g (w 26 g + w 22 g)) 20 g (-1006)) 20 = upd (w 20) g (-1006) := sv_row
    show (sv (sv w 26 g (w 26 g + w 22 g)) 20 g (-1006)) 20 g' = _ ∧ _
    rw [w20, so _ (by omega)]
    by_cases c : g' = g
    · subst c
      rw [upd_at, ur_at]
      refine ⟨rfl, ?_⟩
      unfold bkS
      rw [upd_ne (by omega), upd_at]
      rfl
    · rw [upd_ne c, ur_ne c, bk_out (by omega) (by omega) (by omega) (by omega) (by omega)]
      exact qH g' hg'
  · intro g' hg'
    have w22 : (sv (sv (sv w 26 g (w 26 g + w 22 g)) 20 g (-1006)) 22 g 0) 22 = upd (w 22) g 0 := sv_row
    have w26 : (sv w 26 g (w 26 g + w 22 g)) 26 = upd (w 26) g (w 26 g + w 22 g) := sv_row
    show (sv (sv (sv w 26 g (w 26 g + w 22 g)) 20 g (-1006)) 22 g 0) 22 g' = _ ∧ s' (18 + 8 * g') = _ ∧ s' (19 + 8 * g') = w 24 g' ∧ s' (20 + 8 * g') = (sv w 26 g (w 26 g + w 22 g)) 26 g'
    rw [w22, w26, so _ (by omega), so _ (by omega), so _ (by omega)]
    obtain ⟨d1, d2, d3, d4⟩ := qD g' hg'
    by_cases c : g' = g
    · subst c
      rw [upd_at, upd_at, ur_at, bk_out (j := 19 + 8 * g') (by omega) (by omega) (by omega) (by omega) (by omega)]
      refine ⟨rfl, ?_, d3, ?_⟩
      · unfold bkS
        rw [upd_at]
        rfl
      · unfold bkS
        rw [upd_ne (by omega), upd_ne (by omega), upd_ne (by omega), upd_at, d4, d2, d1]
    · rw [upd_ne c, upd_ne c, ur_ne c, bk_out (j := 18 + 8 * g') (by omega) (by omega) (by omega) (by omega) (by omega), bk_out (j := 19 + 8 * g') (by omega) (by omega) (by omega) (by omega) (by omega), bk_out (j := 20 + 8 * g') (by omega) (by omega) (by omega) (by omega) (by omega)]
      exact ⟨d1, d2, d3, d4⟩
  · obtain ⟨c1, c2, c3, c4, c5, c6, c7⟩ := qC
    have w26 : (sv w 26 g (w 26 g + w 22 g)) 26 = upd (w 26) g (w 26 g + w 22 g) := sv_row
    refine ⟨c1, (so2 0 (by omega) (by omega) (by omega) (by omega) (by omega) (by omega)).trans c2, (so2 1 (by omega) (by omega) (by omega) (by omega) (by omega) (by omega)).trans c3, (so2 2 (by omega) (by omega) (by omega) (by omega) (by omega) (by omega)).trans c4, ?_, c6, (so2 4 (by omega) (by omega) (by omega) (by omega) (by omega) (by omega)).trans c7⟩
    show s' 3 = csum 4 ((sv w 26 g (w 26 g + w 22 g)) 26)
    rw [w26, csum_upd _ 4 hg, so 3 (by omega)]
    obtain ⟨d1, d2, -, -⟩ := qD g hg
    unfold bkS
    rw [upd_ne (by omega), upd_ne (by omega), upd_ne (by omega), upd_ne (by omega), upd_at, c5, d2, ← d1, ← Int32.add_assoc, Int32.sub_add_cancel]
  · have w39 : cpv (sv (sv (sv (sv w 26 g (w 26 g + w 22 g)) 20 g (-1006)) 22 g 0) 37 v (w 37 v + 1)) 39 (upd (shu (12 * k) (r k).length (w 39)) (12 * k) (nI v)) 39 = upd (shu (12 * k) (r k).length (w 39)) (12 * k) (nI v) := cpv_at
    have w41 : (sv (cpv (sv (sv (sv (sv w 26 g (w 26 g + w 22 g)) 20 g (-1006)) 22 g 0) 37 v (w 37 v + 1)) 39 (upd (shu (12 * k) (r k).length (w 39)) (12 * k) (nI v))) 41 k (nI ((r k).length + 1))) 41 = upd (w 41) k (nI ((r k).length + 1)) := sv_row
    rw [w41]
    exact qRc.cons hk hl v
  · rw [← hs]
    exact qRs'.cons hk hl v
  · exact qL.s (fun v' hv' => so2 _ (by omega) (by omega) (by omega) (by omega) (by omega) (by omega))
  · intro v' hv'
    have w37 : (sv (sv (sv (sv w 26 g (w 26 g + w 22 g)) 20 g (-1006)) 22 g 0) 37 v (w 37 v + 1)) 37 = upd (w 37) v (w 37 v + 1) := sv_row
    show s' (73 + 5 * v') = w 33 v' ∧ s' (74 + 5 * v') = w 35 v' ∧ s' (75 + 5 * v') = (sv (sv (sv (sv w 26 g (w 26 g + w 22 g)) 20 g (-1006)) 22 g 0) 37 v (w 37 v + 1)) 37 v' ∧ ((w 33 v' = -1006 ∧ s' (72 + 5 * v') = 0) ∨ (psd (w 33) v' ∧ s' (72 + 5 * v') = 1))
    obtain ⟨b1, b2, b3, b4⟩ := qP v' hv'
    rw [w37, so2 (72 + 5 * v') (by omega) (by omega) (by omega) (by omega) (by omega) (by omega), so2 (73 + 5 * v') (by omega) (by omega) (by omega) (by omega) (by omega) (by omega), so2 (74 + 5 * v') (by omega) (by omega) (by omega) (by omega) (by omega) (by omega), so (75 + 5 * v') (by omega)]
    refine ⟨b1, b2, ?_, b4⟩
    by_cases c : v' = v
    · subst c
      unfold bkS
      rw [upd_at, upd_ne (by omega), upd_ne (by omega), upd_at, b3]
    · rw [upd_ne c, bk_out (by omega) (by omega) (by omega) (by omega) (by omega)]
      exact b3
  · exact qX.toRow hg e hk (List.Perm.refl _)
  · intro g' hg'
    by_cases c : g' = g
    · subst c
      rw [ur_at, ur_at]
      exact ⟨fun _ => rfl, fun v' h9 => by cases h9⟩
    · rw [ur_ne c, ur_ne c]
      exact qK g' hg'
  · exact qN.s (fun v' hv' => so2 _ (by omega) (by omega) (by omega) (by omega) (by omega) (by omega))
  · intro v' h1 h2
    have w37 : (sv (sv (sv (sv w 26 g (w 26 g + w 22 g)) 20 g (-1006)) 22 g 0) 37 v (w 37 v + 1)) 37 = upd (w 37) v (w 37 v + 1) := sv_row
    show (sv (sv (sv (sv w 26 g (w 26 g + w 22 g)) 20 g (-1006)) 22 g 0) 37 v (w 37 v + 1)) 37 v' = 0
    rw [w37, upd_ne (by omega)]
    exact qZ v' h1 h2
