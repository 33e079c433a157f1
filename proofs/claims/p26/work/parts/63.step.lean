/-! one step, whole: the same on both sides -/
theorem keeps {b : Int32} {n t : Nat} {L : Nat → List Nat} {w : Mem} {q : Int32} (ht : t < 2147483648) {S : Mem} (hp : ∃ r h d, RwE b n t r h d L w (S 1)) : ∀ i, i ≤ 4 → (∃ S' : Mem, ∃ r h d, RwE b n t r h d L (fld (actC (fX3_gapAt w (nI t))) i (q, w)).2 (S' 1)) ∧ keep (fld (actC (fX3_gapAt w (nI t))) i (q, w)).2 w
  | 0, _ => ⟨⟨S, hp⟩, rfl, rfl, rfl, rfl, rfl, rfl⟩
  | i + 1, hi => by
    obtain ⟨⟨S', r, h, d, p⟩, hq⟩ := keeps (q := q) ht hp i (by omega)
    obtain ⟨s1, -, a2, a3⟩ := sim_act p ht (g := i) (by omega) (fld (actC (fX3_gapAt w (nI t))) i (q, w)).1
    rw [hq.gap] at a2 a3
    exact ⟨⟨cpv S' 1 s1, by rw [cpv_at]; exact a2⟩, a3.trans hq⟩
theorem sim_step {n t : Nat} {r : Nat → List Nat} {h : Nat → Option Nat} {d : Nat → Nat} {L : Nat → List Nat} {w V : Mem} (p : RwE 0 n t r h d L w (V 1)) (ht : t < 2147483648) : ∃ s', qX7_step V = some (cpv V 1 s') ∧ ∃ r' h' d', RwE 0 n (t + 1) r' h' d' L (fX5_stepAcross w (fX3_gapAt w (w 0 0))) s' := by
  obtain ⟨qT, qG, qH, qD, qC, qRc, qRs, qL, qP, qX, qK, qN, qZ⟩ := id p
  obtain ⟨c1, c2, c3, c4, c5, c6, c7⟩ := qC
  have ho : ∀ i, i < 4 → qX7_isOpen V (nI i) (V 1 0) = some ((fun i => fX1_isOpenAcross w (nI i) (fX3_gapAt w (nI t))) i) := fun i hi => by
    rw [c2]
    exact rw_open qT qG rfl ht hi
  generalize hoe : (fun i => fX1_isOpenAcross w (nI i) (fX3_gapAt w (nI t))) = o at ho
  have hM := r_openNow ho
  have key : ∀ b : Int32, ∃ s', it lbX7_step_23 fuel ((0 : Int32), sv V 1 1 (V 1 1 + b)) = some (nI 4, cpv V 1 s') ∧ (∃ r h d, RwE b n t r h d L (fld (actC (fX3_gapAt w (nI t))) 4 (1, w)).2 s') := fun b => by
    have p1 : RwE b n t r h d L w ((cpv V 1 (upd (V 1) 1 (V 1 1 + b))) 1) := by
      rw [cpv_at]
      refine ⟨qT.s (fun j h1 h2 => upd_ne (by omega)), qG.s (fun g q h1 h2 => upd_ne (by omega)), qH.s (fun g h1 => upd_ne (by omega)), qD.s (fun g q h1 h2 => upd_ne (by omega)), ⟨c1, (upd_ne (by omega)).trans c2, ?_, (upd_ne (by omega)).trans c4, (upd_ne (by omega)).trans c5, c6, (upd_ne (by omega)).trans c7⟩, qRc, qRs.s (fun j h1 h2 => upd_ne (by omega)), qL.s (fun v h1 => upd_ne (by omega)), qP.s (fun v q h1 h2 => upd_ne (by omega)), qX, qK, qN.s (fun v h1 => upd_ne (by omega)), qZ⟩
      rw [upd_at, c3, Int32.add_zero]
    obtain ⟨s', a1, a2, -⟩ := it_acts (q := 1) ht 4 0 fuel (cpv V 1 (upd (V 1) 1 (V 1 1 + b))) (by omega) (fuel_lt (by omega)) ⟨r, h, d, p1⟩ ⟨rfl, rfl, rfl, rfl, rfl, rfl⟩
    rw [cpv_cpv] at a1
    exact ⟨s', by rw [sv_cpv]; exact a1, a2⟩
  have hF := flag (gap := fX3_gapAt w (nI t)) (w := w) o (fun i hi => by
    rw [((keeps (q := 1) ht ⟨r, h, d, p⟩ i (by omega)).2).opn hi, ← hoe]) 4 (by omega)
  obtain ⟨b, hb1, hb2⟩ : ∃ b : Int32, b = (if (fld (actC (fX3_gapAt w (nI t))) 4 (1, w)).1 = 0 then 0 else 1) ∧ qX7_step V = ((it lbX7_step_23 fuel ((0 : Int32), sv V 1 1 (V 1 1 + b))).bind (fun s7 => some (sv s7.2 1 0 ((s7.2 1 0) + ((1 : Int32)))))) := by
    rcases hF with hF | hF
    · refine ⟨1, by rw [hF.1, if_neg one_ne0], ?_⟩
      unfold qX7_step lt
      rw [hM, Option.bind_some, if_pos (msk_0.mpr hF.2)]
      rfl
    · refine ⟨0, by rw [hF.1, if_pos rfl], ?_⟩
      unfold qX7_step lt
      rw [hM, Option.bind_some, if_neg (fun z => by obtain ⟨-, j, hj, h9⟩ := hF; exact h9 (msk_0.mp z j hj))]
  obtain ⟨s', k1, r', h', d', k2⟩ := key b
  rw [k1, Option.bind_some] at hb2
  dsimp only at hb2
  rw [cpv_sv1, cpv_at] at hb2
  refine ⟨_, hb2, r', h', d', ?_⟩
  rw [c1]
  unfold fX5_stepAcross
  rw [← hb1]
  generalize (fld (actC (fX3_gapAt w (nI t))) 4 (1, w)).2 = Q at k2
  obtain ⟨qT, qG, qH, qD, ⟨e1, e2, e3, e4, e5, e6, e7⟩, qRc, qRs, qL, qP, qX, qK, qN, qZ⟩ := k2
  have w0 : (sv (sv Q 0 2 (Q 0 2 + b)) 0 0 (Q 0 0 + 1)) 0 = upd (upd (Q 0) 2 (Q 0 2 + b)) 0 (Q 0 0 + 1) := by
    rw [sv_row, sv_row]
  refine ⟨qT.s (fun j h1 h2 => upd_ne (by omega)), qG.s (fun g q h1 h2 => upd_ne (by omega)), pH.s (w20 := Q 20) qH (fun g h1 => upd_ne (by omega)), pD.s (w22 := Q 22) (w24 := Q 24) (w26 := Q 26) qD (fun g q h1 h2 => upd_ne (by omega)), ?_, qRc, qRs.s (fun j h1 h2 => upd_ne (by omega)), pL.s (w29 := Q 29) (w31 := Q 31) qL (fun v h1 => upd_ne (by omega)), pP.s (w33 := Q 33) (w35 := Q 35) (w37 := Q 37) qP (fun v q h1 h2 => upd_ne (by omega)), qX, qK, pN.s (w24 := Q 24) qN (fun v h1 => upd_ne (by omega)), qZ⟩
  rw [w0]
  refine ⟨?_, ?_, ?_, ?_, (upd_ne (by omega)).trans e5, e6, (upd_ne (by omega)).trans e7⟩
  · rw [upd_at, e1, nI_1]
  · rw [upd_at, e2, nI_1]
  · rw [upd_ne (by omega), upd_ne (j := 0) (q := 2) (by omega), upd_at, e3, Int32.add_zero]
  · rw [upd_ne (by omega), upd_ne (j := 0) (q := 1) (by omega), upd_ne (by omega), e4]
