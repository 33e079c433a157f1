/-! a gate's word passes a letter: the same on both sides -/
theorem lt_out {s : Nat → Int32} {g j : Nat} (h : j ≠ 2) (h1 : j ≠ 18 + 8 * g) : ltS s g j = s j := by
  unfold ltS
  rw [upd_ne h, upd_ne h1]
theorem dn_out {s : Nat → Int32} {g v j : Nat} (h : j ≠ 72 + 5 * v) (h1 : j ≠ 73 + 5 * v) (h2 : j ≠ 74 + 5 * v) (h3 : j ≠ 19 + 8 * g) (h4 : j ≠ 17 + 8 * g) (h5 : j ≠ 18 + 8 * g) : dnS s g v j = s j := by
  unfold dnS
  rw [upd_ne h5, upd_ne h4, upd_ne h3, upd_ne h2, upd_ne h1, upd_ne h]
theorem sim_pass_on {b : Int32} {n t g v : Nat} {r : Nat → List Nat} {h : Nat → Option Nat} {d : Nat → Nat} {L : Nat → List Nat} {w : Mem} {s : Nat → Int32} (p : RwE b n t r h d L w s) (hg : g < 4) (e : h g = some v) (hl : d g + 1 < (L v).length) : RwE b n t r h (ur d g (d g + 1)) L (sv (sv w 0 1 (w 0 1 + 1)) 22 g (w 22 g + 1)) (ltS s g) := by
  obtain ⟨qT, qG, qH, qD, qC, qRc, qRs, qL, qP, qX, qK, qN, qZ⟩ := p
  have hvn : v < n := qX.held_lt hg e
  have hv : v < 12 := Nat.lt_of_lt_of_le hvn qX.1
  refine ⟨?_, ?_, ?_, ?_, ?_, ?_, ?_, ?_, ?_, ?_, ?_, ?_, ?_⟩
  · exact qT.s (fun j h1 h2 => lt_out (by omega) (by omega))
  · exact qG.s (fun g' q h1 h2 => lt_out (by omega) (by omega))
  · exact pH.s (w20 := w 20) qH (fun g' h1 => lt_out (by omega) (by omega))
  · intro g' hg'
    have w22 : (sv (sv w 0 1 (w 0 1 + 1)) 22 g (w 22 g + 1)) 22 = upd (w 22) g (w 22 g + 1) := sv_row
    show (sv (sv w 0 1 (w 0 1 + 1)) 22 g (w 22 g + 1)) 22 g' = _ ∧ ltS s g (18 + 8 * g') = _ ∧ ltS s g (19 + 8 * g') = w 24 g' ∧ ltS s g (20 + 8 * g') = w 26 g'
    rw [w22, lt_out (j := 19 + 8 * g') (by omega) (by omega), lt_out (j := 20 + 8 * g') (by omega) (by omega)]
    obtain ⟨d1, d2, d3, d4⟩ := qD g' hg'
    refine ⟨?_, ?_, d3, d4⟩
    · by_cases c : g' = g
      · subst c
        rw [upd_at, ur_at, d1, nI_1]
      · rw [upd_ne c, ur_ne c, d1]
    · by_cases c : g' = g
      · subst c
        rw [ltS_2, ur_at, d2, nI_1]
      · rw [ur_ne c, lt_out (by omega) (by omega), d2]
  · obtain ⟨c1, c2, c3, c4, c5, c6, c7⟩ := qC
    have w0 : (sv w 0 1 (w 0 1 + 1)) 0 = upd (w 0) 1 (w 0 1 + 1) := sv_row
    refine ⟨?_, (lt_out (by omega) (by omega)).trans c2, ?_, ?_, (lt_out (by omega) (by omega)).trans c5, c6, (lt_out (by omega) (by omega)).trans c7⟩
    · show (sv w 0 1 (w 0 1 + 1)) 0 0 = _
      rw [w0, upd_ne (by omega), c1]
    · show ltS s g 1 = (sv w 0 1 (w 0 1 + 1)) 0 2 + b
      rw [w0, upd_ne (by omega), lt_out (by omega) (by omega), c3]
    · show ltS s g 2 = (sv w 0 1 (w 0 1 + 1)) 0 1
      rw [w0, upd_at, ← c4]
      exact upd_at
  · exact qRc
  · exact qRs.s (fun j h1 h2 => lt_out (by omega) (by omega))
  · exact qL.s (fun v' hv' => lt_out (by omega) (by omega))
  · exact qP.s (fun v' q h1 h2 => lt_out (by omega) (by omega))
  · exact qX
  · intro g' hg'
    obtain ⟨k1, k2⟩ := qK g' hg'
    by_cases c : g' = g
    · subst c
      rw [ur_at]
      refine ⟨fun h9 => (by rw [e] at h9; cases h9), fun v' h9 => ⟨(k2 v' h9).1, ?_⟩⟩
      rw [e] at h9
      cases h9
      exact hl
    · rw [ur_ne c]
      exact ⟨k1, k2⟩
  · exact qN.s (fun v' hv' => lt_out (by omega) (by omega))
  · exact qZ
theorem pX.ne {n g g' v v' : Nat} {r : Nat → List Nat} {h : Nat → Option Nat} (p : pX n r h) (hg : g < 4) (hg' : g' < 4) (e : h g = some v) (e' : h g' = some v') (c : g' ≠ g) : v' ≠ v := by
  have h1 := (p.2.nodup_iff).mpr List.nodup_range
  have h2 := (List.nodup_append.mp (List.nodup_append.mp h1).2.1).2.1
  have h3 := (List.nodup_cons.mp ((hL_some hg e).nodup_iff.mp h2)).1
  intro q
  subst q
  exact h3 ((hL_some (h := ur h g none) hg' ((ur_ne c).trans e')).mem_iff.mpr List.mem_cons_self)
theorem psd_no {w33 : Nat → Int32} {v : Nat} (h : psd w33 v) : ¬ w33 v = -1006 := by
  obtain ⟨a, ha, e⟩ := h
  rw [e]
  exact fun q => nI_pos (n := a) ha (by rw [q]; decide)
theorem sim_pass_done {b : Int32} {n t g v : Nat} {r : Nat → List Nat} {h : Nat → Option Nat} {d : Nat → Nat} {L : Nat → List Nat} {w V : Mem} (p : RwE b n t r h d L w (V 1)) (ht : t < 2147483648) (hg : g < 4) (e : h g = some v) (hl : w 29 v ≤ w 22 g + 1) : ∃ s', qX7_comes (cpv V 1 (dnS (ltS (V 1) g) g v)) (1 - V 1 (13 + 8 * g)) (nI v) = some (cpv V 1 s') ∧ ∃ r' h' d', RwE b n t r' h' d' L (fX5_passLetter w (nI g)) s' := by
  obtain ⟨qT, qG, qH, qD, qC, qRc, qRs, qL, qP, qX, qK, qN, qZ⟩ := p
  have hvn : v < n := qX.held_lt hg e
  have hv : v < 12 := Nat.lt_of_lt_of_le hvn qX.1
  obtain ⟨g1, -, -, -, ⟨k0, hk0, g5⟩, -⟩ := qG g hg
  obtain ⟨k, hk, gk⟩ : ∃ k, k < 2 ∧ (1 : Int32) - w 12 g = nI k := by
    obtain rfl | rfl : k0 = 0 ∨ k0 = 1 := by omega
    · exact ⟨1, by decide, by rw [g5]; rfl⟩
    · exact ⟨0, by decide, by rw [g5]; rfl⟩
  have hr : (r k).length < 12 := qX.room hk hg e
  have e20 : w 20 g = nI v := by
    rw [(qH g hg).1, e]
    rfl
  have eC := c_pass_done hg hv hk e20 hl gk (qRc k hk) hr
  generalize hD : dnS (ltS (V 1) g) g v = D
  have Dl : ∀ j, j ≠ 72 + 5 * v → j ≠ 73 + 5 * v → j ≠ 74 + 5 * v → j ≠ 19 + 8 * g → j ≠ 17 + 8 * g → j ≠ 18 + 8 * g → j ≠ 2 → D j = V 1 j := fun j h1 h2 h3 h4 h5 h6 h7 => by rw [← hD, dn_out h1 h2 h3 h4 h5 h6, lt_out h7 h6]
  have D72 : D (72 + 5 * v) = 1 := by
    rw [← hD]
    unfold dnS
    rw [upd_ne (by omega), upd_ne (by omega), upd_ne (by omega), upd_ne (by omega), upd_ne (by omega), upd_at]
  have D73 : D (73 + 5 * v) = V 1 0 := by
    rw [← hD]
    unfold dnS
    rw [upd_ne (by omega), upd_ne (by omega), upd_ne (by omega), upd_ne (by omega), upd_at, lt_out (by omega) (by omega)]
  have D74 : D (74 + 5 * v) = nI g := by
    rw [← hD]
    unfold dnS
    rw [upd_ne (by omega), upd_ne (by omega), upd_ne (by omega), upd_at]
  have D19 : D (19 + 8 * g) = V 1 (19 + 8 * g) + 1 := by
    rw [← hD]
    unfold dnS
    rw [upd_ne (by omega), upd_ne (by omega), upd_at, lt_out (by omega) (by omega)]
  have D17 : D (17 + 8 * g) = -1006 := by
    rw [← hD]
    unfold dnS
    rw [upd_ne (by omega), upd_at]
  have D18 : D (18 + 8 * g) = 0 := by
    rw [← hD]
    unfold dnS
    rw [upd_at]
  have D2 : D 2 = V 1 2 + 1 := by
    rw [← hD, dn_out (by omega) (by omega) (by omega) (by omega) (by omega) (by omega)]
    exact upd_at
  have qRs' : pRs r D := qRs.s (fun j h1 h2 => Dl j (by omega) (by omega) (by omega) (by omega) (by omega) (by omega) (by omega))
  have eR := r_comes (S := cpv V 1 D) hk (r := r k) (by rw [cpv_at]; exact qRs' k hk) hr (nI v)
  rw [cpv_sv1, cpv_sv1] at eR
  refine ⟨_, (congrArg (fun z => qX7_comes (cpv V 1 D) z (nI v)) ((congrArg (fun z => (1 : Int32) - z) g1).trans gk)).trans eR, ur r k (r k ++ [v]), ur h g none, ur d g 0, ?_⟩
  rw [eC]
  generalize hs : upd (upd D (47 + 12 * k + (r k).length) (nI v)) (45 + k) (nI ((r k).length + 1)) = s'
  have so : ∀ j, j < 45 ∨ 71 ≤ j → s' j = D j := fun j hj => by rw [← hs, snocS_out hk hr hj]
  have so2 : ∀ j, j < 45 ∨ 71 ≤ j → j ≠ 72 + 5 * v → j ≠ 73 + 5 * v → j ≠ 74 + 5 * v → j ≠ 19 + 8 * g → j ≠ 17 + 8 * g → j ≠ 18 + 8 * g → j ≠ 2 → s' j = V 1 j := fun j hj h1 h2 h3 h4 h5 h6 h7 => by rw [so j hj, Dl j h1 h2 h3 h4 h5 h6 h7]
  have w0 : (sv w 0 1 (w 0 1 + 1)) 0 = upd (w 0) 1 (w 0 1 + 1) := sv_row
  have w20 : (sv (sv w 0 1 (w 0 1 + 1)) 20 g (-1006)) 20 = upd (w 20) g (-1006) := sv_row
  have w22 : (sv (sv (sv w 0 1 (w 0 1 + 1)) 20 g (-1006)) 22 g 0) 22 = upd (w 22) g 0 := sv_row
  have w24 : (sv (sv (sv (sv w 0 1 (w 0 1 + 1)) 20 g (-1006)) 22 g 0) 24 g (w 24 g + 1)) 24 = upd (w 24) g (w 24 g + 1) := sv_row
  generalize hW4 : sv (sv (sv (sv w 0 1 (w 0 1 + 1)) 20 g (-1006)) 22 g 0) 24 g (w 24 g + 1) = W4 at w24
  have w33 : (sv W4 33 v (w 0 0)) 33 = upd (w 33) v (w 0 0) := by
    rw [sv_row, ← hW4]
    rfl
  have w35 : (sv (sv W4 33 v (w 0 0)) 35 v (nI g)) 35 = upd (w 35) v (nI g) := by
    rw [sv_row, ← hW4]
    rfl
  have w39 : (sv (sv (sv W4 33 v (w 0 0)) 35 v (nI g)) 39 (12 * k + (r k).length) (nI v)) 39 = upd (w 39) (12 * k + (r k).length) (nI v) := by
    rw [sv_row, ← hW4]
    rfl
  have w41 : (sv (sv (sv (sv W4 33 v (w 0 0)) 35 v (nI g)) 39 (12 * k + (r k).length) (nI v)) 41 k (nI ((r k).length + 1))) 41 = upd (w 41) k (nI ((r k).length + 1)) := by
    rw [sv_row, ← hW4]
    rfl
  have hk33 : w 33 v = -1006 := ((qK g hg).2 v e).1
  have h72 : V 1 (72 + 5 * v) = 0 := by
    obtain ⟨-, -, -, b4⟩ := qP v hvn
    rcases b4 with b4 | b4
    · exact b4.2
    · exact absurd hk33 (psd_no b4.1)
  refine ⟨?_, ?_, ?_, ?_, ?_, ?_, ?_, ?_, ?_, ?_, ?_, ?_, ?_⟩
  · rw [← hW4]
    exact qT.s (fun j h1 h2 => so2 j (by omega) (by omega) (by omega) (by omega) (by omega) (by omega) (by omega) (by omega))
  · rw [← hW4]
    exact qG.s (fun g' q h1 h2 => so2 _ (by omega) (by omega) (by omega) (by omega) (by omega) (by omega) (by omega) (by omega))
  · intro g' hg'
    rw [← hW4]
    show (sv (sv w 0 1 (w 0 1 + 1)) 20 g (-1006)) 20 g' = _ ∧ _
    rw [w20, so _ (by omega)]
    by_cases c : g' = g
    · subst c
      rw [upd_at, ur_at, D17]
      exact ⟨rfl, rfl⟩
    · rw [upd_ne c, ur_ne c, Dl _ (by omega) (by omega) (by omega) (by omega) (by omega) (by omega) (by omega)]
      exact qH g' hg'
  · intro g' hg'
    obtain ⟨d1, d2, d3, d4⟩ := qD g' hg'
    have a1 : (sv (sv (sv (sv W4 33 v (w 0 0)) 35 v (nI g)) 39 (12 * k + (r k).length) (nI v)) 41 k (nI ((r k).length + 1))) 22 g' = upd (w 22) g 0 g' := by
      rw [← w22, ← hW4]
      rfl
    have a2 : (sv (sv (sv (sv W4 33 v (w 0 0)) 35 v (nI g)) 39 (12 * k + (r k).length) (nI v)) 41 k (nI ((r k).length + 1))) 24 g' = upd (w 24) g (w 24 g + 1) g' := by
      rw [← w24]
      rfl
    have a3 : (sv (sv (sv (sv W4 33 v (w 0 0)) 35 v (nI g)) 39 (12 * k + (r k).length) (nI v)) 41 k (nI ((r k).length + 1))) 26 g' = w 26 g' := by
      rw [← hW4]
      rfl
    rw [a1, a2, a3, so _ (by omega), so _ (by omega), so _ (by omega), Dl (20 + 8 * g') (by omega) (by omega) (by omega) (by omega) (by omega) (by omega) (by omega)]
    by_cases c : g' = g
    · subst c
      rw [upd_at, upd_at, ur_at, D18, D19, d3]
      exact ⟨rfl, rfl, rfl, d4⟩
    · rw [upd_ne c, upd_ne c, ur_ne c, Dl (18 + 8 * g') (by omega) (by omega) (by omega) (by omega) (by omega) (by omega) (by omega), Dl (19 + 8 * g') (by omega) (by omega) (by omega) (by omega) (by omega) (by omega) (by omega)]
      exact ⟨d1, d2, d3, d4⟩
  · obtain ⟨c1, c2, c3, c4, c5, c6, c7⟩ := qC
    have a1 : (sv (sv (sv (sv W4 33 v (w 0 0)) 35 v (nI g)) 39 (12 * k + (r k).length) (nI v)) 41 k (nI ((r k).length + 1))) 0 = upd (w 0) 1 (w 0 1 + 1) := by
      rw [← w0, ← hW4]
      rfl
    have a2 : (sv (sv (sv (sv W4 33 v (w 0 0)) 35 v (nI g)) 39 (12 * k + (r k).length) (nI v)) 41 k (nI ((r k).length + 1))) 26 = w 26 := by
      rw [← hW4]
      rfl
    have a3 : (sv (sv (sv (sv W4 33 v (w 0 0)) 35 v (nI g)) 39 (12 * k + (r k).length) (nI v)) 41 k (nI ((r k).length + 1))) 27 = w 27 := by
      rw [← hW4]
      rfl
    rw [a1, a2, a3]
    unfold pC
    rw [upd_ne (j := 1) (q := 0) (by omega), upd_ne (j := 1) (q := 2) (by omega), upd_at, so 2 (by omega), D2, so2 0 (by omega) (by omega) (by omega) (by omega) (by omega) (by omega) (by omega) (by omega), so2 1 (by omega) (by omega) (by omega) (by omega) (by omega) (by omega) (by omega) (by omega), so2 3 (by omega) (by omega) (by omega) (by omega) (by omega) (by omega) (by omega) (by omega), so2 4 (by omega) (by omega) (by omega) (by omega) (by omega) (by omega) (by omega) (by omega)]
    exact ⟨c1, c2, c3, by rw [c4], c5, c6, c7⟩
  · rw [w41, show (sv (sv (sv (sv W4 33 v (w 0 0)) 35 v (nI g)) 39 (12 * k + (r k).length) (nI v)) 41 k (nI ((r k).length + 1))) 39 = upd (w 39) (12 * k + (r k).length) (nI v) from w39]
    exact qRc.snoc hk hr v
  · rw [← hs]
    exact qRs'.snoc hk hr v
  · rw [← hW4]
    exact qL.s (fun v' hv' => so2 _ (by omega) (by omega) (by omega) (by omega) (by omega) (by omega) (by omega) (by omega))
  · intro v' hv'
    have a1 : (sv (sv (sv (sv W4 33 v (w 0 0)) 35 v (nI g)) 39 (12 * k + (r k).length) (nI v)) 41 k (nI ((r k).length + 1))) 33 = upd (w 33) v (w 0 0) := by
      rw [← w33]
      rfl
    have a2 : (sv (sv (sv (sv W4 33 v (w 0 0)) 35 v (nI g)) 39 (12 * k + (r k).length) (nI v)) 41 k (nI ((r k).length + 1))) 35 = upd (w 35) v (nI g) := by
      rw [← w35]
      rfl
    have a3 : (sv (sv (sv (sv W4 33 v (w 0 0)) 35 v (nI g)) 39 (12 * k + (r k).length) (nI v)) 41 k (nI ((r k).length + 1))) 37 = w 37 := by
      rw [← hW4]
      rfl
    rw [a1, a2, a3, so _ (by omega), so _ (by omega), so _ (by omega), so _ (by omega), Dl (75 + 5 * v') (by omega) (by omega) (by omega) (by omega) (by omega) (by omega) (by omega)]
    obtain ⟨b1, b2, b3, b4⟩ := qP v' hv'
    by_cases c : v' = v
    · subst c
      rw [upd_at, upd_at, D72, D73, D74]
      refine ⟨by rw [qC.1, qC.2.1], rfl, b3, Or.inr ⟨⟨t, ht, by rw [upd_at, qC.1]⟩, rfl⟩⟩
    · have a4 : psd (upd (w 33) v (w 0 0)) v' ↔ psd (w 33) v' := by
        unfold psd
        rw [upd_ne c]
      rw [a4, upd_ne c, upd_ne c, Dl (72 + 5 * v') (by omega) (by omega) (by omega) (by omega) (by omega) (by omega) (by omega), Dl (73 + 5 * v') (by omega) (by omega) (by omega) (by omega) (by omega) (by omega) (by omega), Dl (74 + 5 * v') (by omega) (by omega) (by omega) (by omega) (by omega) (by omega) (by omega)]
      exact ⟨b1, b2, b3, b4⟩
  · exact qX.toRow hg e hk (List.perm_append_singleton v (r k))
  · intro g' hg'
    have a1 : (sv (sv (sv (sv W4 33 v (w 0 0)) 35 v (nI g)) 39 (12 * k + (r k).length) (nI v)) 41 k (nI ((r k).length + 1))) 33 = upd (w 33) v (w 0 0) := by
      rw [← w33]
      rfl
    rw [a1]
    by_cases c : g' = g
    · subst c
      rw [ur_at, ur_at]
      exact ⟨fun _ => rfl, fun v' h9 => by cases h9⟩
    · rw [ur_ne c, ur_ne c]
      refine ⟨(qK g' hg').1, fun v' h9 => ?_⟩
      rw [upd_ne (qX.ne hg hg' e h9 c)]
      exact (qK g' hg').2 v' h9
  · have a2 : (sv (sv (sv (sv W4 33 v (w 0 0)) 35 v (nI g)) 39 (12 * k + (r k).length) (nI v)) 41 k (nI ((r k).length + 1))) 24 = upd (w 24) g (w 24 g + 1) := by
      rw [← w24]
      rfl
    rw [a2]
    unfold pN
    have a3 : csum n (fun v' => s' (72 + 5 * v')) = csum n (upd (fun v' => V 1 (72 + 5 * v')) v 1) := csum_congr n (fun v' hv' => by
      show s' (72 + 5 * v') = _
      rw [so _ (by omega)]
      by_cases c : v' = v
      · subst c
        rw [upd_at, D72]
      · rw [upd_ne c, Dl _ (by omega) (by omega) (by omega) (by omega) (by omega) (by omega) (by omega)])
    rw [a3, csum_upd _ n hvn, csum_upd _ 4 hg, qN, h72, Int32.sub_zero, ← Int32.add_assoc, Int32.sub_add_cancel]
  · rw [← hW4]
    exact qZ
