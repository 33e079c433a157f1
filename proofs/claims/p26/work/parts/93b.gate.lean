/-! a gate, as the law sees it -/
/-- what a world holds, with its lists -/
def GW (n t : Nat) (r : Nat → List Nat) (h : Nat → Option Nat) (d : Nat → Nat) (L : Nat → List Nat) (w : Mem) (s : Nat → Int32) : Prop := RwE 0 n t r h d L w s ∧ EX n t w
theorem b_ite {α : Type} {c : Prop} [Decidable c] {x y z : α} (h : (if c then x else y) = z) (hc : c) : x = z := (if_pos hc).symm.trans h
theorem l_isGate {V : Mem} {n t g : Nat} {r : Nat → List Nat} {h : Nat → Option Nat} {d : Nat → Nat} {L : Nat → List Nat} {s : Nat → Int32} (G : GW n t r h d L (gv V 1) s) (ht : t ≤ 200000) (hg : g < 4) : qL_isGate V (nI g) = some 1 := by
  obtain ⟨p, hEX⟩ := G
  obtain ⟨pT, pG, pH, pD, pC, pRc, pRs, pL, pP, pX, pK, pN, pZ⟩ := id p
  have n12 := pX.1
  have v10 : V 1 0 = nI t := pC.1
  have v28 : V 28 0 = nI n := pC.2.2.2.2.2.1
  obtain ⟨-, -, -, -, -, ⟨sl, hsl, e14⟩, -, e18⟩ := pG g hg
  have hop : ∀ i, i ≤ 9000 → fX5_isOpenAt (gv V 1) (nI g) (nI (t + i)) = opn (V 19 g) (V 15 g) (ab (fX3_gapAt (gv V 1) (nI (t + i)))) := fun i hi => c_openAt hg _
  have hoff : ∀ i, i ≤ 9000 → qL_off V (nI (t + i)) = some (ab (fX3_gapAt (gv V 1) (nI (t + i)))) := fun i hi => l_off pT (by omega)
  obtain ⟨c, hc0, hc1, hper⟩ := gap_per pT
  generalize hA : (fun i => ab (fX3_gapAt (gv V 1) (nI (t + i)))) = A
  have eA : ∀ i, ab (fX3_gapAt (gv V 1) (nI (t + i))) = A i := fun i => congrFun hA i
  have perA : ∀ i, i ≤ 9000 → A (i + c) = A i := fun i hi => by
    rw [← eA, ← eA, show t + (i + c) = t + i + c by omega, hper (t + i) (by omega)]
  have e0 : fX5_isOpenAt (gv V 1) (nI g) (V 1 0) = opn (V 19 g) (V 15 g) (A 0) := by
    rw [v10, ← eA]
    exact hop 0 (by decide)
  have off0 : qL_off V (V 1 0) = some (A 0) := by
    rw [v10, ← eA]
    exact hoff 0 (by decide)
  have offA : ∀ i, i ≤ 9000 → qL_off V (V 1 0 + nI i) = some (A i) := fun i hi => by
    rw [v10, nI_add, hoff i hi, eA]
  have opA : ∀ i, i ≤ 9000 → fX5_isOpenAt (gv V 1) (nI g) (V 1 0 + nI i) = opn (V 19 g) (V 15 g) (A i) := fun i hi => by
    rw [v10, nI_add, hop i hi, eA]
  have e18' : V 19 g = 0 ∨ V 19 g = 1 := e18
  -- the searches of the class
  have hU : fX5_stepsUntilOpen (gv V 1) (nI g) = fnd (fun i => decide (¬ opn (V 19 g) (V 15 g) (A i) = 0)) 3600 := by
    unfold fX5_stepsUntilOpen fnd
    rw [fndO_congr (q := fun i => decide (¬ opn (V 19 g) (V 15 g) (A i) = 0)) 4000 0 (fun i _ hi => by
      have := opA i (by omega)
      show decide (¬ fX5_isOpenAt (gv V 1) (nI g) (V 1 0 + nI i) = 0) = _
      rw [this]), fnd_cut hc0 hc1 (fun i hi => by
      show decide (¬ opn (V 19 g) (V 15 g) (A (i + c)) = 0) = decide (¬ opn (V 19 g) (V 15 g) (A i) = 0)
      rw [perA i (by omega)])]
  -- the law's search backwards
  have j3 : (if V 19 g = (1 : Int32) then some (1 : Int32) else some (0 : Int32) : Option Int32) = some (V 19 g) := by
    rcases e18' with z | z <;> rw [z] <;> rfl
  have hD : ∃ y, it (lbL_isGate_196 V (nI g) (V 1 0) (V 19 g)) fuel ((-1006 : Int32), (3599 : Int32)) = some (fX5_stepsUntilOpen (gv V 1) (nI g), y) := by
    rw [hU]
    rcases e18' with z | z
    · rw [z]
      refine ⟨(0 : Int32) + (-1), ?_⟩
      have := it_down (bd := lbL_isGate_196 V (nI g) (V 1 0) 0) (p := fun i => decide (¬ opn 0 (V 15 g) (A i) = 0)) (N := 3600) (by decide) (fun m x hm => ?_) (fun x => ?_) 3600 fuel (Nat.le_refl _) (fuel_lt (by decide))
      · exact this
      · unfold lbL_isGate_196
        simp only [lt_e]
        rw [if_neg (nI_pos (by omega)), if_pos trivial, offA m (by omega), Option.bind_some, qg1 V hg]
        unfold opn
        rw [if_pos rfl]
        by_cases c2 : V 15 g < A m
        · rw [if_pos c2, if_pos c2, Option.bind_some, if_neg (by decide)]
        · rw [if_neg c2, if_neg c2, Option.bind_some, if_pos (by decide)]
      · unfold lbL_isGate_196
        simp only [lt_e]
        rw [if_pos (by decide)]
    · rw [z]
      refine ⟨3599, ?_⟩
      have hn : fnd (fun i => decide (¬ opn 1 (V 15 g) (A i) = 0)) 3600 = -1006 := fnd_no (fun i hi => decide_eq_false (fun q => q rfl))
      rw [hn]
      obtain ⟨f, hf⟩ : ∃ f, fuel = f + 1 := ⟨fuel - 1, rfl⟩
      rw [hf]
      refine it_o ?_
      unfold lbL_isGate_196
      simp only [lt_e]
      rw [if_neg (by decide), if_neg (by decide)]
  obtain ⟨y, hD⟩ := hD
  -- how long it is open
  have hF : ∃ x, it (lbL_isGate_240 V (nI g) (V 1 0) (fX5_stepsUntilOpen (gv V 1) (nI g), y)) fuel (0 : Int32) = some x ∧ fX6_openFor V (nI g) = if fX5_stepsUntilOpen (gv V 1) (nI g) = -1006 then -1006 else x := by
    unfold fX6_openFor
    simp only [lt_e]
    rw [isG hg, if_neg one_no]
    by_cases cU : fX5_stepsUntilOpen (gv V 1) (nI g) = -1006
    · refine ⟨0, ?_, by rw [if_pos cU, if_pos cU]⟩
      obtain ⟨f, hf⟩ : ∃ f, fuel = f + 1 := ⟨fuel - 1, rfl⟩
      rw [hf]
      refine it_o ?_
      unfold lbL_isGate_240
      simp only [lt_e]
      rw [if_pos cU]
    · rw [if_neg cU]
      have hs : ∃ u : Nat, u < 3600 ∧ fX5_stepsUntilOpen (gv V 1) (nI g) = nI u ∧ ¬ opn (V 19 g) (V 15 g) (A u) = 0 := by
        rw [hU] at cU ⊢
        unfold fnd at cU ⊢
        cases hG : fndO (fun i => decide (¬ opn (V 19 g) (V 15 g) (A i) = 0)) 3600 0 with
        | none =>
          rw [hG] at cU
          exact absurd rfl cU
        | some u => exact ⟨u, fndO_lt hG, rfl, of_decide_eq_true (fndO_ge hG).2.2.1⟩
      obtain ⟨u, hu, eu, ou⟩ := hs
      have z18 : V 19 g = 0 := by
        unfold opn at ou
        by_cases q : V 19 g = 0
        · exact q
        · rw [if_neg q] at ou
          exact absurd rfl ou
      refine ⟨fX5_openStepsFrom (gv V 1) (nI g) (V 1 0 + fX5_stepsUntilOpen (gv V 1) (nI g)), ?_, (if_neg cU).symm⟩
      unfold fX5_openStepsFrom
      rw [eu] at cU ⊢
      refine it_fnd (fun i => nI i) (fun i => decide (fX5_isOpenAt (gv V 1) (nI g) (V 1 0 + nI u + nI i) = 0)) nI (nI 4000) 4000 (fun i hi => ?_) ?_ fuel (fuel_lt (by decide))
      · have ea : V 1 0 + nI u + nI i = V 1 0 + nI (u + i) := by rw [Int32.add_assoc, nI_add]
        unfold lbL_isGate_240
        simp only [lt_e]
        rw [if_neg cU, if_neg (show ¬ (4000 : Int32) ≤ nI i from nI_ge hi (by decide)), ea, offA (u + i) (by omega), Option.bind_some, qg1 V hg, opA (u + i) (by omega), nI_1, z18]
        unfold opn
        rw [if_pos rfl]
        by_cases c2 : V 15 g < A (u + i)
        · rw [if_pos c2, if_pos c2, if_pos (by decide)]
        · rw [if_neg c2, if_neg c2, if_neg (by decide)]
      · unfold lbL_isGate_240
        simp only [lt_e]
        rw [if_neg cU, if_pos (show (4000 : Int32) ≤ nI 4000 by decide)]
  obtain ⟨x, hF1, hF2⟩ := hF
  have hm := mask_bit (w := gv V 1) (fun g' hg' => by
    rw [c_openAt hg']
    exact opn01 _ _ _) hg
  have hm' : (fX5_openMask (gv V 1) >>> (nI g &&& 31)) &&& (1 : Int32) = opn (V 19 g) (V 15 g) (A 0) := hm.trans e0
  -- the word in it
  have hW : (if V 21 g = (-1006 : Int32) then (if V 23 g = 0 then some (1 : Int32) else some 0) else (if fX6_word V (V 21 g) 0 = (2 : Int32) + nI g then (if fX6_word V (V 21 g) 1 = (-1006 : Int32) then (if fX6_word V (V 21 g) 2 ≤ V 23 g then some (0 : Int32) else if V 23 g ≤ 0 then some (0 : Int32) else some 1) else some 0) else some 0) : Option Int32) = some 1 := by
    have h21 : V 21 g = hI (h g) := (pH g hg).1
    have h23 : V 23 g = nI (d g) := (pD g hg).1
    cases eh : h g with
    | none =>
      have d0 := (pK g hg).1 eh
      rw [h21, eh, if_pos (show hI none = -1006 from rfl), h23, d0, if_pos nI_0]
    | some v =>
      have hv := pX.held_lt hg eh
      rw [eh] at h21
      have h21' : V 21 g = nI v := h21
      obtain ⟨k1, k2⟩ := (pK g hg).2 v eh
      obtain ⟨m1, m2, m3, m4, -⟩ := pL v hv
      have hd : ¬ V 23 g ≤ 0 := by
        rcases hEX.1.2 g hg with z | ⟨k, z1, z2, z3⟩
        · have z' : V 21 g = -1006 := z
          rw [h21'] at z'
          exact absurd z' (nI_no (by omega))
        · have z3' : V 23 g = nI k := z3
          rw [z3']
          exact nI_ge (a := 0) (b := k) (by omega) (by omega)
      rw [h21', if_neg (nI_no (by omega)), qw0 v28 hv n12, qw1 v28 hv n12, qw2 v28 hv n12]
      rcases c_where p hv with ⟨k, j, hk, hj, ej, -, -⟩ | ⟨g', hg', eg', x1, x2⟩
      · have hin : v ∈ r k := by
          rw [← ej]
          exact getD_mem hj
        have hl := held_mem hg eh
        rcases pX.where hv with ⟨a0, a1, a2⟩ | ⟨a0, a1, a2⟩ | ⟨a0, a1, -⟩
        · exact absurd hl a2
        · exact absurd hl a2
        · obtain rfl | rfl : k = 0 ∨ k = 1 := by omega
          · exact absurd hin a0
          · exact absurd hin a1
      · have hgg : g' = g := by
          by_cases q : g' = g
          · exact q
          · exact absurd rfl (pX.ne hg hg' eh eg' q)
        subst hgg
        rw [x1, x2, if_pos (show nI (2 + g') = (2 : Int32) + nI g' from (nI_add 2 g').symm), if_pos rfl, show V 30 v = nI (L v).length from m4, h23, if_neg (nI_ge k2 (by omega)), if_neg (by rw [← h23]; exact hd)]
  unfold qL_isGate
  simp only [lt_e]
  rw [qc0, qg3 V hg, j3, Option.bind_some]
  have j5 : (if V 19 g = 0 then (qL_off V (V 1 0)).bind (fun r59 => if fX6_gateOf V (nI g) 1 < r59 then some (0 : Int32) else some 1) else some (0 : Int32) : Option Int32) = some (opn (V 19 g) (V 15 g) (A 0)) := by
    rw [off0, Option.bind_some, qg1 V hg]
    unfold opn
    by_cases q : V 19 g = 0
    · rw [if_pos q, if_pos q]
      by_cases q2 : V 15 g < A 0
      · rw [if_pos q2, if_pos q2]
      · rw [if_neg q2, if_neg q2]
    · rw [if_neg q, if_neg q]
  rw [j5, Option.bind_some, qg5 V hg, qg4 V hg, e0, opn_c]
  have j9 : (if opn (V 19 g) (V 15 g) (A 0) = (1 : Int32) then some (1 : Int32) else some (0 : Int32) : Option Int32) = some (opn (V 19 g) (V 15 g) (A 0)) := by
    rcases opn01 (V 19 g) (V 15 g) (A 0) with z | z <;> rw [z] <;> rfl
  have j41 : (if opn (V 19 g) (V 15 g) (A 0) = 0 then some (0 : Int32) else some (1 : Int32) : Option Int32) = some (opn (V 19 g) (V 15 g) (A 0)) := by
    rcases opn01 (V 19 g) (V 15 g) (A 0) with z | z <;> rw [z] <;> rfl
  rw [j9, Option.bind_some, if_pos rfl, j41, Option.bind_some, qc7, if_pos hm', qg6 V hg, hW, Option.bind_some]
  have eun : fX6_untilOpen V (nI g) = fX5_stepsUntilOpen (gv V 1) (nI g) := by
    unfold fX6_untilOpen
    simp only [lt_e]
    rw [isG hg, if_neg one_no]
  rw [eun, hD, Option.bind_some]
  have hF1' : it (lbL_isGate_240 V (nI g) (V 1 0) (fX5_stepsUntilOpen (gv V 1) (nI g), y)) fuel (0 : Int32) = some x := hF1
  rw [hF1', Option.bind_some, if_neg one_no, if_pos rfl, hF2]
  by_cases q : fX5_stepsUntilOpen (gv V 1) (nI g) = -1006
  · rw [if_pos q, if_pos q, Option.bind_some, if_pos rfl]
  · rw [if_neg q, if_neg q, Option.bind_some, if_pos rfl]
