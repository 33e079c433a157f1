/-! one gate's turn in a step: the same on both sides -/
theorem gap_eq {w w' : Mem} (h3 : w' 3 = w 3) (h5 : w' 5 = w 5) (h7 : w' 7 = w 7) (h9 : w' 9 = w 9) (x : Int32) : fX3_gapAt w' x = fX3_gapAt w x := by
  unfold fX3_gapAt fX3_toldAt fX3_levelAt lt
  rw [h3, h5, h7, h9]
/-- the tides, the slacks and the shut gates are kept -/
def keep (w' w : Mem) : Prop := w' 3 = w 3 ∧ w' 5 = w 5 ∧ w' 7 = w 7 ∧ w' 9 = w 9 ∧ w' 14 = w 14 ∧ w' 18 = w 18
theorem keep.trans {a b c : Mem} (h : keep a b) (h' : keep b c) : keep a c := ⟨h.1.trans h'.1, h.2.1.trans h'.2.1, h.2.2.1.trans h'.2.2.1, h.2.2.2.1.trans h'.2.2.2.1, h.2.2.2.2.1.trans h'.2.2.2.2.1, h.2.2.2.2.2.trans h'.2.2.2.2.2⟩
theorem keep.gap {w' w : Mem} (h : keep w' w) (x : Int32) : fX3_gapAt w' x = fX3_gapAt w x := gap_eq h.1 h.2.1 h.2.2.1 h.2.2.2.1 x
theorem keep.opn {w' w : Mem} (h : keep w' w) {g : Nat} (hg : g < 4) (x : Int32) : fX1_isOpenAcross w' (nI g) x = fX1_isOpenAcross w (nI g) x := by
  rw [c_open hg, c_open hg, h.2.2.2.2.1, h.2.2.2.2.2]
theorem side_in {w12 w14 w16 w18 s : Nat → Int32} (q : pG w12 w14 w16 w18 s) {g : Nat} (hg : g < 4) : ∃ k, k < 2 ∧ w12 g = nI k ∧ s (13 + 8 * g) = nI k := by
  obtain ⟨g1, -, -, -, ⟨k, hk, g5⟩, -⟩ := q g hg
  exact ⟨k, hk, g5, g1.trans g5⟩
theorem sim_pass {b : Int32} {n t g v : Nat} {r : Nat → List Nat} {h : Nat → Option Nat} {d : Nat → Nat} {L : Nat → List Nat} {w V : Mem} (p : RwE b n t r h d L w (V 1)) (ht : t < 2147483648) (hg : g < 4) (e : h g = some v) : ∃ s', (if V 1 (18 + 8 * g) + 1 = nI (L v).length then qX7_comes (cpv V 1 (dnS (ltS (V 1) g) g v)) (1 - V 1 (13 + 8 * g)) (nI v) else some (cpv V 1 (ltS (V 1) g))) = some (cpv V 1 s') ∧ (∃ r' h' d', RwE b n t r' h' d' L (fX5_passLetter w (nI g)) s') ∧ keep (fX5_passLetter w (nI g)) w := by
  obtain ⟨qT, qG, qH, qD, qC, qRc, qRs, qL, qP, qX, qK, qN, qZ⟩ := id p
  have hvn : v < n := qX.held_lt hg e
  have hv : v < 12 := Nat.lt_of_lt_of_le hvn qX.1
  have e20 : w 20 g = nI v := by
    rw [(qH g hg).1, e]
    rfl
  obtain ⟨l1, l2, -, l4, -⟩ := qL v hvn
  have hd := ((qK g hg).2 v e).2
  obtain ⟨d1, d2, -⟩ := qD g hg
  have e22 : w 22 g + 1 = nI (d g + 1) := by rw [d1, nI_1]
  have e18 : V 1 (18 + 8 * g) + 1 = nI (d g + 1) := by rw [d2, nI_1]
  by_cases c : d g + 1 = (L v).length
  · have hl : w 29 v ≤ w 22 g + 1 := by
      rw [e22, l4]
      exact nI_le (by omega) (by omega)
    rw [if_pos (by rw [e18, c])]
    obtain ⟨s', a1, a2⟩ := sim_pass_done p ht hg e hl
    refine ⟨s', a1, a2, ?_⟩
    obtain ⟨k0, hk0, g5, -⟩ := side_in qG hg
    obtain ⟨k, hk, gk⟩ : ∃ k, k < 2 ∧ (1 : Int32) - w 12 g = nI k := by
      obtain rfl | rfl : k0 = 0 ∨ k0 = 1 := by omega
      · exact ⟨1, by decide, by rw [g5]; rfl⟩
      · exact ⟨0, by decide, by rw [g5]; rfl⟩
    rw [c_pass_done hg hv hk e20 hl gk (qRc k hk) (qX.room hk hg e)]
    exact ⟨rfl, rfl, rfl, rfl, rfl, rfl⟩
  · have hl : ¬ w 29 v ≤ w 22 g + 1 := by
      rw [e22, l4]
      exact nI_ge (by omega) (by omega)
    rw [if_neg (by rw [e18, nI_eq (by omega) (by omega)]; exact c), c_pass_on hg hv e20 hl]
    exact ⟨_, rfl, ⟨_, _, _, sim_pass_on p hg e (by omega)⟩, ⟨rfl, rfl, rfl, rfl, rfl, rfl⟩⟩
theorem sim_act {b : Int32} {n t g : Nat} {r : Nat → List Nat} {h : Nat → Option Nat} {d : Nat → Nat} {L : Nat → List Nat} {w V : Mem} (p : RwE b n t r h d L w (V 1)) (ht : t < 2147483648) (hg : g < 4) (q : Int32) : ∃ s', qX7_acts V (nI g) = some (cpv V 1 s') ∧ (∃ r' h' d', RwE b n t r' h' d' L (actC (fX3_gapAt w (nI t)) g (q, w)).2 s') ∧ keep (actC (fX3_gapAt w (nI t)) g (q, w)).2 w := by
  obtain ⟨qT, qG, qH, qD, qC, qRc, qRs, qL, qP, qX, qK, qN, qZ⟩ := id p
  have ho : qX7_isOpen V (nI g) (V 1 0) = some (fX1_isOpenAcross w (nI g) (fX3_gapAt w (nI t))) := by
    rw [qC.2.1]
    exact rw_open qT qG rfl ht hg
  obtain ⟨g1, -, g3, -, -, -, g7, -⟩ := qG g hg
  obtain ⟨h20, h17⟩ := qH g hg
  obtain ⟨k, hk, k12, k13⟩ := side_in qG hg
  unfold actC
  dsimp only
  by_cases h0 : fX1_isOpenAcross w (nI g) (fX3_gapAt w (nI t)) = 0
  · rw [if_pos h0]
    dsimp only
    cases e : h g with
    | none =>
      rw [e] at h20 h17
      rw [c_back_none hg h20]
      exact ⟨V 1, by rw [acts_none hg ho h0 h17, cpv_id], ⟨_, _, _, p⟩, ⟨rfl, rfl, rfl, rfl, rfl, rfl⟩⟩
    | some v =>
      have hv : v < 12 := Nat.lt_of_lt_of_le (qX.held_lt hg e) qX.1
      rw [e] at h20 h17
      rcases g7 with g7 | g7
      · obtain ⟨s', a1, a2⟩ := sim_back p hg e g7
        refine ⟨s', ?_, a2, ?_⟩
        · rw [acts_back hg hv ho h0 h17 (g3.trans g7)]
          exact a1
        · rw [c_back hg hv hk h20 g7 k12 (qRc k hk) (qX.room hk hg e)]
          exact ⟨rfl, rfl, rfl, rfl, rfl, rfl⟩
      · rw [c_back_way hg hv h20 g7]
        exact ⟨V 1, by rw [acts_way hg hv ho h0 h17 (by rw [g3, g7]; decide), cpv_id], ⟨_, _, _, p⟩, ⟨rfl, rfl, rfl, rfl, rfl, rfl⟩⟩
  · rw [if_neg h0]
    dsimp only
    cases e : h g with
    | none =>
      rw [e] at h20 h17
      have hr12 : ∀ v ∈ r k, v < 12 := fun v hv => Nat.lt_of_lt_of_le (qX.row_lt hk hv) qX.1
      have eC := c_take hg hk h20 k12 (qRc k hk) hr12
      have eR := r_takes (S := V) hk (qRs k hk) hr12
      rw [fnd_same qP qX hk] at eR
      cases hf : fndO (fun i => decide (w 33 ((r k).getD i 0) = -1006)) (r k).length 0 with
      | none =>
        rw [hf] at eC eR
        have e1 : sv w 20 g (-1006) = w := by
          have e2 : upd (w 20) g (-1006) = w 20 := by
            funext j
            by_cases c : j = g
            · rw [c, upd_at]
              exact h20.symm
            · rw [upd_ne c]
          rw [sv_cpv, e2, cpv_id]
        have eC2 : fX5_takeWord w (nI g) = w := eC.trans e1
        rw [eC2, c_pass_none hg h20]
        exact ⟨V 1, by rw [acts_noone hg ho h0 h17 k13 eR, cpv_id], ⟨_, _, _, p⟩, ⟨rfl, rfl, rfl, rfl, rfl, rfl⟩⟩
      | some j =>
        rw [hf] at eC eR
        have hj := fndO_lt hf
        have hvn : (r k).getD j 0 < n := qX.row_lt hk (List.mem_of_getElem? (getD_some hj))
        have hv : (r k).getD j 0 < 12 := Nat.lt_of_lt_of_le hvn qX.1
        have p1 := sim_take p hg e hk hf
        obtain ⟨l1, l2, l3, l4, l5, l6⟩ := qL _ hvn
        have eC2 : fX5_takeWord w (nI g) = _ := eC
        have eR2 : qX7_takes V (nI k) = some (nI ((r k).getD j 0), cpv V 1 (tkS (V 1) k (r k).length j)) := eR
        have hs : (cpv V 1 (upd (tkS (V 1) k (r k).length j) (17 + 8 * g) (nI ((r k).getD j 0)))) 1 = upd (tkS (V 1) k (r k).length j) (17 + 8 * g) (nI ((r k).getD j 0)) := cpv_at
        have hl : qX7_lettersOf (cpv V 1 (ltS (upd (tkS (V 1) k (r k).length j) (17 + 8 * g) (nI ((r k).getD j 0))) g)) (nI ((r k).getD j 0)) = some (nI (L ((r k).getD j 0)).length) := by
          refine r_lettersOf hv l3 l2 ?_
          rw [cpv_at, lt_out (by omega) (by omega), upd_ne (by omega), tk_out hk (qRc k hk).1 hj (by omega)]
          exact l6
        obtain ⟨s', a1, a2, a3⟩ := sim_pass (V := cpv V 1 (upd (tkS (V 1) k (r k).length j) (17 + 8 * g) (nI ((r k).getD j 0)))) (by rw [hs]; exact p1) ht hg ur_at
        rw [cpv_cpv, cpv_cpv, cpv_cpv, hs, upd_ne (by omega), upd_ne (by omega), tk_out (q := 13 + 8 * g) hk (qRc k hk).1 hj (by omega), k13] at a1
        refine ⟨s', ?_, ?_, ?_⟩
        · rw [acts_take hg hv ho h0 h17 k13 eR2 hl]
          exact a1
        · rw [eC2]
          exact a2
        · rw [eC2]
          exact ⟨a3.1, a3.2.1, a3.2.2.1, a3.2.2.2.1, a3.2.2.2.2.1, a3.2.2.2.2.2⟩
    | some v =>
      have hvn := qX.held_lt hg e
      have hv : v < 12 := Nat.lt_of_lt_of_le hvn qX.1
      rw [e] at h20 h17
      obtain ⟨l1, l2, l3, l4, l5, l6⟩ := qL v hvn
      have hl : qX7_lettersOf (cpv V 1 (ltS (V 1) g)) (nI v) = some (nI (L v).length) := by
        refine r_lettersOf hv l3 l2 ?_
        rw [cpv_at, lt_out (by omega) (by omega)]
        exact l6
      rw [c_take_held hg hv h20, acts_pass hg hv ho h0 h17 hl]
      exact sim_pass p ht hg e
