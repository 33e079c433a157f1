/-! one step, whole: the same on both sides -/
theorem sim_step {n t : Nat} {r : Nat → List Nat} {h : Nat → Option Nat} {d : Nat → Nat} {L : Nat → List Nat} {w V : Mem} (p : RwE 0 n t r h d L w (V 1)) (ht : t < 2147483648) : ∃ s', qX7_step V = some (cpv V 1 s') ∧ ∃ r' h' d', RwE 0 n (t + 1) r' h' d' L (fX5_stepAcross w (fX3_gapAt w (w 0 0))) s' := by
  obtain ⟨qT, qG, qH, qD, qC, qRc, qRs, qL, qP, qX, qK, qN, qZ⟩ := id p
  obtain ⟨c1, c2, c3, c4, c5, c6, c7⟩ := qC
  have ho : ∀ i, i < 4 → qX7_isOpen V (nI i) (V 1 0) = some ((fun i => fX1_isOpenAcross w (nI i) (fX3_gapAt w (nI t))) i) := fun i hi => by
    rw [c2]
    exact rw_open qT qG rfl ht hi
  generalize hoe : (fun i => fX1_isOpenAcross w (nI i) (fX3_gapAt w (nI t))) = o at ho
  have hM := r_openNow ho
  have key : ∀ b : Int32, ∃ s', it lbX7_step_23 fuel ((0 : Int32), sv V 1 1 (V 1 1 + b)) = some (nI 4, cpv V 1 s') ∧ (∃ r h d, RwE b n t r h d L (fld (actC (fX3_gapAt w (nI t))) 4 (1, w)).2 s') := fun b => by
    have p1 : RwE b n t r h d L w ((cpv V 1 (upd (V 1) 1 (V 1 1 + b))) 1) := by
      rw [cpv_at]
      refine ⟨qT.s (fun j h1 h2 => upd_ne (by omega)), qG.s (fun g q h1 h2 => upd_ne (by omega)), qH.s (fun g h1 => upd_ne (by omega)), qD.s (fun g q h1 h2 => upd_ne (by omega)), ⟨c1, (upd_ne (by omega)).trans c2, ?_, (upd_ne (by omega)).trans c4, (upd_ne (by omega)).trans c5, c6, (upd_ne (by omega)).trans c7⟩, qRc, qRs.s (fun j h1 h2 => upd_ne (by omega)), qL.s (fun v h1 => upd_ne (by omega)), qP.s (fun v q h1 h2 => upd_ne (by omega)), qX, qK, qN.s (fun v h1 => upd_ne (by omega)), qZ⟩
      rw [upd_at, c3, Int32.add_zero]
    obtain ⟨s', a1, a2, -⟩ := it_acts (q := 1) ht 4 0 fuel (cpv V 1 (upd (V 1) 1 (V 1 1 + b))) (by omega) (fuel_lt (by omega)) ⟨r, h, d, p1⟩ ⟨rfl, rfl, rfl, rfl, rfl, rfl⟩
    rw [cpv_cpv] at a1
    exact ⟨s', by rw [sv_cpv]; exact a1, a2⟩
  sorry
