/-! what the letters, the held words and the passed words keep, beside RwE -/
/-- the letters of the words that have passed -/
def lP (w : Mem) (v : Nat) : Int32 := if w 33 v = -1006 then 0 else w 29 v
def EL (n T : Nat) (w : Mem) : Prop := w 0 1 = csum n (lP w) + csum 4 (w 22) + csum 4 (w 26) ∧ ∀ v, v < n → (w 33 v = -1006 ∧ w 35 v = -1006) ∨ ∃ a g : Nat, a < T ∧ g < 4 ∧ w 33 v = nI a ∧ w 35 v = nI g
def hO (w : Mem) (g : Nat) : Prop := w 20 g = -1006 ∨ ∃ k : Nat, 0 < k ∧ k < 7 ∧ w 22 g = nI k
def EA (n T : Nat) (w : Mem) : Prop := EL n T w ∧ ∀ g, g < 4 → hO w g
def EX (n t : Nat) (w : Mem) : Prop := EA n t w ∧ ∃ i : Nat, i ≤ t ∧ w 0 2 = nI i
theorem EL.of {n T : Nat} {w w' : Mem} (e : EL n T w) (h0 : w' 0 1 = w 0 1) (h22 : w' 22 = w 22) (h26 : w' 26 = w 26) (h29 : w' 29 = w 29) (h33 : w' 33 = w 33) (h35 : w' 35 = w 35) : EL n T w' := by
  unfold EL
  have hp : lP w' = lP w := by
    funext v
    unfold lP
    rw [h29, h33]
  rw [hp, h0, h22, h26, h33, h35]
  exact e
theorem EA.of {n T : Nat} {w w' : Mem} (e : EA n T w) (h0 : w' 0 1 = w 0 1) (h20 : w' 20 = w 20) (h22 : w' 22 = w 22) (h26 : w' 26 = w 26) (h29 : w' 29 = w 29) (h33 : w' 33 = w 33) (h35 : w' 35 = w 35) : EA n T w' := by
  refine ⟨e.1.of h0 h22 h26 h29 h33 h35, fun g hg => ?_⟩
  unfold hO
  rw [h20, h22]
  exact e.2 g hg
theorem EL.mono {n T T' : Nat} {w : Mem} (e : EL n T w) (h : T ≤ T') : EL n T' w := by
  refine ⟨e.1, fun v hv => ?_⟩
  rcases e.2 v hv with z | ⟨a, g, h1, h2, h3, h4⟩
  · exact Or.inl z
  · exact Or.inr ⟨a, g, by omega, h2, h3, h4⟩
theorem EX.of {n t : Nat} {w w' : Mem} (e : EX n t w) (h0 : w' 0 = w 0) (h20 : w' 20 = w 20) (h22 : w' 22 = w 22) (h26 : w' 26 = w 26) (h29 : w' 29 = w 29) (h33 : w' 33 = w 33) (h35 : w' 35 = w 35) : EX n t w' := by
  refine ⟨e.1.of (by rw [h0]) h20 h22 h26 h29 h33 h35, ?_⟩
  rw [h0]
  exact e.2
theorem i_sum1 (A B C b c : Int32) : A + (B - b + 0) + (C - c + (c + b)) = A + B + C := by grind
theorem i_sum2 (A B C b : Int32) : A + (B - b + (b + 1)) + C = A + B + C + 1 := by grind
theorem i_sum3 (A B C b d : Int32) (h : b + 1 = d) : A - 0 + d + (B - b + 0) + C = A + B + C + 1 := by
  subst h
  grind
theorem ea_back {b : Int32} {n t T g v : Nat} {r : Nat → List Nat} {h : Nat → Option Nat} {d : Nat → Nat} {L : Nat → List Nat} {w : Mem} {s : Nat → Int32} (p : RwE b n t r h d L w s) (e : EA n T w) (hg : g < 4) (eh : h g = some v) (hw : w 16 g = 0) : EA n T (fX5_sendBack w (nI g)) := by
  obtain ⟨qT, qG, qH, qD, qC, qRc, qRs, qL, qP, qX, qK, qN, qZ⟩ := id p
  have hv : v < 12 := Nat.lt_of_lt_of_le (qX.held_lt hg eh) qX.1
  obtain ⟨k, hk, k12, k13⟩ := side_in qG hg
  have h20 : w 20 g = nI v := by
    rw [(qH g hg).1, eh]
    rfl
  rw [c_back hg hv hk h20 hw k12 (qRc k hk) (qX.room hk hg eh)]
  obtain ⟨⟨e1, e2⟩, e3⟩ := e
  refine ⟨⟨?_, fun v' hv' => e2 v' hv'⟩, fun g' hg' => ?_⟩
  · show w 0 1 = csum n (lP w) + csum 4 (sv (sv (sv w 26 g (w 26 g + w 22 g)) 20 g (-1006)) 22 g 0 22) + csum 4 (sv w 26 g (w 26 g + w 22 g) 26)
    rw [sv_row, sv_row, sv_k (by decide), sv_k (by decide), csum_upd _ 4 hg, csum_upd _ 4 hg, i_sum1]
    exact e1
  · by_cases c : g' = g
    · subst c
      refine Or.inl ?_
      show sv (sv w 26 g' (w 26 g' + w 22 g')) 20 g' (-1006) 20 g' = -1006
      exact sv_at
    · rcases e3 g' hg' with z | ⟨k, z1, z2, z3⟩
      · refine Or.inl ?_
        show sv (sv w 26 g (w 26 g + w 22 g)) 20 g (-1006) 20 g' = -1006
        rw [sv_j c, sv_k (by decide)]
        exact z
      · refine Or.inr ⟨k, z1, z2, ?_⟩
        show sv (sv (sv w 26 g (w 26 g + w 22 g)) 20 g (-1006)) 22 g 0 22 g' = nI k
        rw [sv_j c, sv_k (by decide), sv_k (by decide)]
        exact z3
theorem done_rows (w : Mem) (g v a c : Nat) (x y : Int32) : ∀ M, M = sv (sv (sv (sv (sv (sv (sv (sv w 0 1 (w 0 1 + 1)) 20 g (-1006)) 22 g 0) 24 g (w 24 g + 1)) 33 v (w 0 0)) 35 v (nI g)) 39 a x) 41 c y → M 0 1 = w 0 1 + 1 ∧ M 20 = upd (w 20) g (-1006) ∧ M 22 = upd (w 22) g 0 ∧ M 26 = w 26 ∧ M 29 = w 29 ∧ M 33 = upd (w 33) v (w 0 0) ∧ M 35 = upd (w 35) v (nI g) := by
  intro M e
  subst e
  refine ⟨?_, ?_, ?_, ?_, ?_, ?_, ?_⟩
  · rw [sv_k (by decide), sv_k (by decide), sv_k (by decide), sv_k (by decide), sv_k (by decide), sv_k (by decide), sv_k (by decide), sv_at]
  · rw [sv_k (by decide), sv_k (by decide), sv_k (by decide), sv_k (by decide), sv_k (by decide), sv_k (by decide), sv_row, sv_k (by decide)]
  · rw [sv_k (by decide), sv_k (by decide), sv_k (by decide), sv_k (by decide), sv_k (by decide), sv_row, sv_k (by decide), sv_k (by decide)]
  · rw [sv_k (by decide), sv_k (by decide), sv_k (by decide), sv_k (by decide), sv_k (by decide), sv_k (by decide), sv_k (by decide), sv_k (by decide)]
  · rw [sv_k (by decide), sv_k (by decide), sv_k (by decide), sv_k (by decide), sv_k (by decide), sv_k (by decide), sv_k (by decide), sv_k (by decide)]
  · rw [sv_k (by decide), sv_k (by decide), sv_k (by decide), sv_row, sv_k (by decide), sv_k (by decide), sv_k (by decide), sv_k (by decide)]
  · rw [sv_k (by decide), sv_k (by decide), sv_row, sv_k (by decide), sv_k (by decide), sv_k (by decide), sv_k (by decide), sv_k (by decide)]
theorem on_rows (w : Mem) (g : Nat) : ∀ M, M = sv (sv w 0 1 (w 0 1 + 1)) 22 g (w 22 g + 1) → M 0 1 = w 0 1 + 1 ∧ M 20 = w 20 ∧ M 22 = upd (w 22) g (w 22 g + 1) ∧ M 26 = w 26 ∧ M 29 = w 29 ∧ M 33 = w 33 ∧ M 35 = w 35 := by
  intro M e
  subst e
  refine ⟨?_, ?_, ?_, ?_, ?_, ?_, ?_⟩
  · rw [sv_k (by decide), sv_at]
  · rw [sv_k (by decide), sv_k (by decide)]
  · rw [sv_row, sv_k (by decide)]
  · rw [sv_k (by decide), sv_k (by decide)]
  · rw [sv_k (by decide), sv_k (by decide)]
  · rw [sv_k (by decide), sv_k (by decide)]
  · rw [sv_k (by decide), sv_k (by decide)]
theorem ea_pass {b : Int32} {n t T g v : Nat} {r : Nat → List Nat} {h : Nat → Option Nat} {d : Nat → Nat} {L : Nat → List Nat} {w : Mem} {s : Nat → Int32} (p : RwE b n t r h d L w s) (ht : t < 2147483648) (hT : t < T) (e : EL n T w) (e3 : ∀ g', g' < 4 → g' ≠ g → hO w g') (hg : g < 4) (eh : h g = some v) : EA n T (fX5_passLetter w (nI g)) := by
  obtain ⟨qT, qG, qH, qD, qC, qRc, qRs, qL, qP, qX, qK, qN, qZ⟩ := id p
  have hvn : v < n := qX.held_lt hg eh
  have hv : v < 12 := Nat.lt_of_lt_of_le hvn qX.1
  have e20 : w 20 g = nI v := by
    rw [(qH g hg).1, eh]
    rfl
  obtain ⟨l1, l2, -, l4, -⟩ := qL v hvn
  obtain ⟨k1, hd⟩ := (qK g hg).2 v eh
  obtain ⟨d1, d2, -⟩ := qD g hg
  have e22 : w 22 g + 1 = nI (d g + 1) := by rw [d1, nI_1]
  obtain ⟨e1, e2⟩ := e
  by_cases c : d g + 1 = (L v).length
  · have hl : w 29 v ≤ w 22 g + 1 := by
      rw [e22, l4]
      exact nI_le (by omega) (by omega)
    obtain ⟨k0, hk0, g5, -⟩ := side_in qG hg
    obtain ⟨k, hk, gk⟩ : ∃ k, k < 2 ∧ (1 : Int32) - w 12 g = nI k := by
      obtain rfl | rfl : k0 = 0 ∨ k0 = 1 := by omega
      · exact ⟨1, by decide, by rw [g5]; rfl⟩
      · exact ⟨0, by decide, by rw [g5]; rfl⟩
    obtain ⟨M, hM⟩ : ∃ M, M = fX5_passLetter w (nI g) := ⟨_, rfl⟩
    rw [← hM]
    rw [c_pass_done hg hv hk e20 hl gk (qRc k hk) (qX.room hk hg eh)] at hM
    obtain ⟨M0, M20, M22, M26, M29, M33, M35⟩ := done_rows w g v _ _ _ _ M hM
    clear hM
    have w0 : w 0 0 = nI t := qC.1
    unfold EA EL lP hO
    rw [M0, M20, M22, M26, M29, M33, M35]
    refine ⟨⟨?_, fun v' hv' => ?_⟩, fun g' hg' => ?_⟩
    · show w 0 1 + 1 = csum n (fun u => if upd (w 33) v (w 0 0) u = -1006 then 0 else w 29 u) + csum 4 (upd (w 22) g 0) + csum 4 (w 26)
      have ef : (fun u => if upd (w 33) v (w 0 0) u = -1006 then 0 else w 29 u) = upd (lP w) v (w 29 v) := by
        funext u
        by_cases cu : u = v
        · subst cu
          rw [upd_at, upd_at, w0, if_neg (psd_no (w33 := fun _ => nI t) (v := 0) ⟨t, ht, rfl⟩)]
        · rw [upd_ne cu, upd_ne cu]
          rfl
      have ev : lP w v = 0 := if_pos k1
      rw [ef, csum_upd _ n hvn, csum_upd _ 4 hg, ev, i_sum3 _ _ _ (w 22 g) (w 29 v) (by rw [e22, l4, c]), ← e1]
    · show (upd (w 33) v (w 0 0) v' = -1006 ∧ upd (w 35) v (nI g) v' = -1006) ∨ ∃ a g0 : Nat, a < T ∧ g0 < 4 ∧ upd (w 33) v (w 0 0) v' = nI a ∧ upd (w 35) v (nI g) v' = nI g0
      by_cases cu : v' = v
      · subst cu
        exact Or.inr ⟨t, g, hT, hg, by rw [upd_at, w0], by rw [upd_at]⟩
      · rw [upd_ne cu, upd_ne cu]
        exact e2 v' hv'
    · by_cases cg : g' = g
      · subst cg
        refine Or.inl ?_
        show upd (w 20) g' (-1006) g' = -1006
        exact upd_at
      · rcases e3 g' hg' cg with z | ⟨k, z1, z2, z3⟩
        · refine Or.inl ?_
          show upd (w 20) g (-1006) g' = -1006
          rw [upd_ne cg]
          exact z
        · refine Or.inr ⟨k, z1, z2, ?_⟩
          show upd (w 22) g 0 g' = nI k
          rw [upd_ne cg]
          exact z3
  · have hl : ¬ w 29 v ≤ w 22 g + 1 := by
      rw [e22, l4]
      exact nI_ge (by omega) (by omega)
    obtain ⟨M, hM⟩ : ∃ M, M = fX5_passLetter w (nI g) := ⟨_, rfl⟩
    rw [← hM]
    rw [c_pass_on hg hv e20 hl] at hM
    obtain ⟨M0, M20, M22, M26, M29, M33, M35⟩ := on_rows w g M hM
    clear hM
    unfold EA EL lP hO
    rw [M0, M20, M22, M26, M29, M33, M35]
    refine ⟨⟨?_, fun v' hv' => e2 v' hv'⟩, fun g' hg' => ?_⟩
    · show w 0 1 + 1 = csum n (lP w) + csum 4 (upd (w 22) g (w 22 g + 1)) + csum 4 (w 26)
      rw [csum_upd _ 4 hg, i_sum2, ← e1]
    · by_cases cg : g' = g
      · subst cg
        refine Or.inr ⟨d g' + 1, by omega, by omega, ?_⟩
        show upd (w 22) g' (w 22 g' + 1) g' = nI (d g' + 1)
        rw [upd_at, e22]
      · rcases e3 g' hg' cg with z | ⟨k, z1, z2, z3⟩
        · exact Or.inl z
        · refine Or.inr ⟨k, z1, z2, ?_⟩
          show upd (w 22) g (w 22 g + 1) g' = nI k
          rw [upd_ne cg]
          exact z3
theorem ea_act {b : Int32} {n t T g : Nat} {r : Nat → List Nat} {h : Nat → Option Nat} {d : Nat → Nat} {L : Nat → List Nat} {w : Mem} {s : Nat → Int32} (p : RwE b n t r h d L w s) (ht : t < 2147483648) (hT : t < T) (e : EA n T w) (hg : g < 4) (gap q : Int32) : EA n T (actC gap g (q, w)).2 := by
  obtain ⟨qT, qG, qH, qD, qC, qRc, qRs, qL, qP, qX, qK, qN, qZ⟩ := id p
  obtain ⟨g1, -, g3, -, -, -, g7, -⟩ := qG g hg
  obtain ⟨h20, h17⟩ := qH g hg
  obtain ⟨k, hk, k12, k13⟩ := side_in qG hg
  unfold actC
  dsimp only
  by_cases h0 : fX1_isOpenAcross w (nI g) gap = 0
  · rw [if_pos h0]
    dsimp only
    cases eh : h g with
    | none =>
      rw [eh] at h20
      rw [c_back_none hg h20]
      exact e
    | some v =>
      have hv : v < 12 := Nat.lt_of_lt_of_le (qX.held_lt hg eh) qX.1
      rw [eh] at h20
      rcases g7 with g7 | g7
      · exact ea_back p e hg eh g7
      · rw [c_back_way hg hv h20 g7]
        exact e
  · rw [if_neg h0]
    dsimp only
    cases eh : h g with
    | none =>
      rw [eh] at h20
      have hr12 : ∀ v ∈ r k, v < 12 := fun v hv => Nat.lt_of_lt_of_le (qX.row_lt hk hv) qX.1
      have eC := c_take hg hk h20 k12 (qRc k hk) hr12
      cases hf : fndO (fun i => decide (w 33 ((r k).getD i 0) = -1006)) (r k).length 0 with
      | none =>
        rw [hf] at eC
        have e1 : sv w 20 g (-1006) = w := by
          have e2 : upd (w 20) g (-1006) = w 20 := by
            funext j
            by_cases c : j = g
            · rw [c, upd_at]
              exact h20.symm
            · rw [upd_ne c]
          rw [sv_cpv, e2, cpv_id]
        have eC2 : fX5_takeWord w (nI g) = w := eC.trans e1
        rw [eC2, c_pass_none hg h20]
        exact e
      | some j =>
        rw [hf] at eC
        have p1 := sim_take p hg eh hk hf
        have eC2 : fX5_takeWord w (nI g) = _ := eC
        rw [eC2]
        refine ea_pass p1 ht hT (e.1.of rfl rfl rfl rfl rfl rfl) (fun g' hg' c => ?_) hg ur_at
        rcases e.2 g' hg' with z | ⟨k, z1, z2, z3⟩
        · refine Or.inl ?_
          rw [Option.elim_some, sv_j c]
          exact z
        · exact Or.inr ⟨k, z1, z2, z3⟩
    | some v =>
      have hvn := qX.held_lt hg eh
      have hv : v < 12 := Nat.lt_of_lt_of_le hvn qX.1
      rw [eh] at h20
      rw [c_take_held hg hv h20]
      exact ea_pass p ht hT e.1 (fun g' hg' _ => e.2 g' hg') hg eh
theorem ea_fld {b : Int32} {n t T : Nat} {L : Nat → List Nat} {w : Mem} {q : Int32} (ht : t < 2147483648) (hT : t < T) {S : Mem} (hp : ∃ r h d, RwE b n t r h d L w (S 1)) (e : EA n T w) : ∀ i, i ≤ 4 → EA n T (fld (actC (fX3_gapAt w (nI t))) i (q, w)).2
  | 0, _ => e
  | i + 1, hi => by
    have ih := ea_fld (q := q) ht hT hp e i (by omega)
    obtain ⟨⟨S', r, h, d, p⟩, -⟩ := keeps (q := q) ht hp i (by omega)
    have e' : fld (actC (fX3_gapAt w (nI t))) (i + 1) (q, w) = actC (fX3_gapAt w (nI t)) i (fld (actC (fX3_gapAt w (nI t))) i (q, w)) := rfl
    rw [e']
    generalize fld (actC (fX3_gapAt w (nI t))) i (q, w) = R at ih p ⊢
    obtain ⟨R1, R2⟩ := R
    exact ea_act p ht hT ih (by omega) _ R1
theorem ex_step {n t : Nat} {r : Nat → List Nat} {h : Nat → Option Nat} {d : Nat → Nat} {L : Nat → List Nat} {w : Mem} {s : Nat → Int32} (p : RwE 0 n t r h d L w s) (ht : t < 2147483648) (e : EX n t w) : EX n (t + 1) (st1 w) := by
  have w0 : w 0 0 = nI t := p.2.2.2.2.1.1
  have hp : ∃ r h d, RwE 0 n t r h d L w ((cpv zM 1 s) 1) := ⟨r, h, d, by rw [cpv_at]; exact p⟩
  have e1 : EA n (t + 1) w := ⟨e.1.1.mono (by omega), e.1.2⟩
  have e4 := ea_fld (q := 1) ht (Nat.lt_succ_self t) hp e1 4 (Nat.le_refl _)
  obtain ⟨k, -, -, -, -, -, k6⟩ := psk_step w (fX3_gapAt w (nI t))
  obtain ⟨i, hi, ei⟩ := e.2
  unfold st1
  rw [w0]
  refine ⟨?_, ?_⟩
  · unfold fX5_stepAcross
    generalize fld (actC (fX3_gapAt w (nI t))) 4 (1, w) = R at e4 ⊢
    refine e4.of ?_ ?_ ?_ ?_ ?_ ?_ ?_
    · rw [sv_j (by decide), sv_j (by decide)]
    · rw [sv_k (by decide), sv_k (by decide)]
    · rw [sv_k (by decide), sv_k (by decide)]
    · rw [sv_k (by decide), sv_k (by decide)]
    · rw [sv_k (by decide), sv_k (by decide)]
    · rw [sv_k (by decide), sv_k (by decide)]
    · rw [sv_k (by decide), sv_k (by decide)]
  · rcases k6 with z | z
    · exact ⟨i, by omega, z.trans ei⟩
    · exact ⟨i + 1, by omega, by rw [z, ei, nI_1]⟩
theorem rw_stps {n t k : Nat} {r : Nat → List Nat} {h : Nat → Option Nat} {d : Nat → Nat} {L : Nat → List Nat} {w : Mem} {s : Nat → Int32} (p : RwE 0 n t r h d L w s) (hk : t + k < 2147483648) : ∃ s' r' h' d', RwE 0 n (t + k) r' h' d' L (stps k w) s' := by
  obtain ⟨s', -, r', h', d', q⟩ := sim_runs (V := cpv zM 1 s) (w := w) (L := L) (by rw [cpv_at]; exact p) hk (by omega)
  refine ⟨s', r', h', d', ?_⟩
  unfold fX5_makeSteps at q
  rw [nI_clamp (by omega)] at q
  exact q
theorem ex_stps {n t : Nat} {r : Nat → List Nat} {h : Nat → Option Nat} {d : Nat → Nat} {L : Nat → List Nat} {w : Mem} {s : Nat → Int32} (p : RwE 0 n t r h d L w s) (e : EX n t w) : ∀ k, t + k < 2147483648 → EX n (t + k) (stps k w)
  | 0, _ => e
  | k + 1, hk => by
    have ih := ex_stps p e k (by omega)
    obtain ⟨s', r', h', d', q⟩ := rw_stps p (k := k) (by omega)
    exact ex_step q (show t + k < 2147483648 by omega) ih
