/-! leastSlack: both loops -/
theorem it_leastC {U : Mem} {g n P : Nat} {B : Int32 × Int32} (hB : bst nI (trN U g) 100 = B) (hg : g < 4) (hP : P ≤ n) (hn : n ≤ 12) (u28 : U 28 0 = nI n) (hN : ∀ x, x < 100 → ∃ K : Nat, P + K ≤ n ∧ trN U g x = nI K) : ∀ (m x f : Nat) (W : Mem), x + m = 100 → 1 ≤ x → m < f → (∀ j, j < 43 ∨ 85 ≤ j → W j = U j) → ∃ W' y, (∀ j, j < 43 ∨ 85 ≤ j → W' j = U j) ∧ it (lbX6_leastSlack_67 (nI g) U (nI P)) f ((bst nI (trN U g) x).1, (bst nI (trN U g) x).2, nI x, W) = some (B.1, B.2, y, W') := by
  intro m
  induction m with
  | zero =>
    intro x f W hx h1 hf hW
    obtain ⟨f, rfl⟩ : ∃ g, f = g + 1 := ⟨f - 1, by omega⟩
    have hx' : x = 100 := by omega
    rw [hx', hB]
    refine ⟨W, nI 100, hW, ?_⟩
    have e : lbX6_leastSlack_67 (nI g) U (nI P) (B.1, B.2, nI 100, W) = some (.inr (B.1, B.2, nI 100, W)) := by
      unfold lbX6_leastSlack_67
      dsimp only
      rw [if_pos (show (99 : Int32) < nI 100 by decide)]
    show (lbX6_leastSlack_67 (nI g) U (nI P) _).bind _ = _
    rw [e]
    rfl
  | succ m ih =>
    intro x f W hx h1 hf hW
    obtain ⟨f, rfl⟩ : ∃ g, f = g + 1 := ⟨f - 1, by omega⟩
    have c99 : ¬ (99 : Int32) < nI x := nI_nlt (b := x) (a := 99) (by omega) (by decide)
    have enp : U 28 0 - nI P = nI (n - P) := by rw [u28, pk_sub hP]
    by_cases c : nI (n - P) ≤ (bst nI (trN U g) x).2
    · refine ⟨W, nI x, hW, ?_⟩
      have e : lbX6_leastSlack_67 (nI g) U (nI P) ((bst nI (trN U g) x).1, (bst nI (trN U g) x).2, nI x, W) = some (.inr ((bst nI (trN U g) x).1, (bst nI (trN U g) x).2, nI x, W)) := by
        unfold lbX6_leastSlack_67
        dsimp only
        rw [if_neg c99, enp, if_pos c]
      have es : B = bst nI (trN U g) x := by
        have := bst_stay (val := nI) (N := trN U g) (x := x) (100 - x) (fun i i1 i2 => by
          obtain ⟨K, hK, eK⟩ := hN i (by omega)
          rw [eK]
          exact Int32.le_trans (nI_le (by omega) (by omega)) c)
        rw [show x + (100 - x) = 100 by omega, hB] at this
        exact this
      show (lbX6_leastSlack_67 (nI g) U (nI P) _).bind _ = _
      rw [e, es]
      rfl
    · by_cases c2 : fX6_hasGapAhead W (nI x) = 0
      · have e : lbX6_leastSlack_67 (nI g) U (nI P) ((bst nI (trN U g) x).1, (bst nI (trN U g) x).2, nI x, W) = some (.inl ((bst nI (trN U g) x).1, (bst nI (trN U g) x).2, nI (x + 1), W)) := by
          unfold lbX6_leastSlack_67 lt
          dsimp only
          rw [if_neg c99, enp, if_neg c, if_pos c2, if_pos (Int32.le_refl _), nI_1]
        obtain ⟨y, rfl⟩ : ∃ y, x = y + 1 := ⟨x - 1, by omega⟩
        have hno := gap_0 c2
        rw [hW 429 (by omega)] at hno
        have es : bst nI (trN U g) (y + 1 + 1) = bst nI (trN U g) (y + 1) := by
          refine bst_no ?_
          rw [trN_no (by omega) hno]
          exact bst_ge (y + 1) y (by omega)
        obtain ⟨W', z, k1, k2⟩ := ih (y + 1 + 1) f W (by omega) (by omega) (by omega) hW
        rw [es] at k2
        refine ⟨W', z, k1, ?_⟩
        show (lbX6_leastSlack_67 (nI g) U (nI P) _).bind _ = _
        rw [e]
        exact k2
      · have e : lbX6_leastSlack_67 (nI g) U (nI P) ((bst nI (trN U g) x).1, (bst nI (trN U g) x).2, nI x, W) = some (.inl ((bst nI (trN U g) (x + 1)).1, (bst nI (trN U g) (x + 1)).2, nI (x + 1), trE U g x)) := by
          unfold lbX6_leastSlack_67 lt
          dsimp only
          rw [if_neg c99, enp, if_neg c, if_neg c2, wpw hg hW, nI_1]
          by_cases c3 : trN U g x ≤ (bst nI (trN U g) x).2
          · rw [if_pos c3, bst_no c3]
          · rw [if_neg c3, bst_up c3]
        obtain ⟨W', z, k1, k2⟩ := ih (x + 1) f (trE U g x) (by omega) (by omega) (by omega) (fun j hj => trE_r hj)
        refine ⟨W', z, k1, ?_⟩
        show (lbX6_leastSlack_67 (nI g) U (nI P) _).bind _ = _
        rw [e]
        exact k2
theorem it_leastM {U S5 : Mem} {g n : Nat} {s : Nat → Int32} {r5 : Int32} {B : Int32 × Int32} (hB : bst nI (trN U g) 100 = B) (hg : g < 4) (h2 : ∀ j, j < 131 → S5 2 j = s j) (hrun : ∀ x M, x < 100 → (∀ j, j < 131 → M 1 j = s j) → ∃ s2 : Nat → Int32, qX7_runs (sv M 1 (14 + 8 * g) (nI x)) (nI 200) = some (cpv M 1 s2) ∧ qX7_passedWords (cpv M 1 s2) = some (csum n (fun v => s2 (72 + 5 * v))) ∧ csum n (fun v => s2 (72 + 5 * v)) - r5 = trN U g x) : ∀ (m x f : Nat) (M : Mem), x + m = 100 → m < f → (∀ j, j ≠ 1 → M j = S5 j) → (∀ j, j < 131 → M 1 j = s j) → ∃ M', (∀ j, j ≠ 1 → M' j = S5 j) ∧ (∀ j, j < 131 → M' 1 j = s j) ∧ it (lbX7_leastSlack_42 (nI g) r5) f ((bst nI (trN U g) x).1, (bst nI (trN U g) x).2, nI x, M) = some (B.1, B.2, nI 100, M') := by
  intro m
  induction m with
  | zero =>
    intro x f M hx hf hM hM1
    obtain ⟨f, rfl⟩ : ∃ g, f = g + 1 := ⟨f - 1, by omega⟩
    have hx' : x = 100 := by omega
    rw [hx', hB]
    refine ⟨M, hM, hM1, ?_⟩
    have e : lbX7_leastSlack_42 (nI g) r5 (B.1, B.2, nI 100, M) = some (.inr (B.1, B.2, nI 100, M)) := by
      unfold lbX7_leastSlack_42
      dsimp only
      rw [if_pos (show (100 : Int32) ≤ nI 100 by decide)]
    show (lbX7_leastSlack_42 (nI g) r5 _).bind _ = _
    rw [e]
    rfl
  | succ m ih =>
    intro x f M hx hf hM hM1
    obtain ⟨f, rfl⟩ : ∃ g, f = g + 1 := ⟨f - 1, by omega⟩
    obtain ⟨s2, b1, b2, b3⟩ := hrun x M (by omega) hM1
    have e : lbX7_leastSlack_42 (nI g) r5 ((bst nI (trN U g) x).1, (bst nI (trN U g) x).2, nI x, M) = some (.inl ((bst nI (trN U g) (x + 1)).1, (bst nI (trN U g) (x + 1)).2, nI (x + 1), cpv (cpv M 1 s2) 1 (cpS 0 0 131 (cpv M 1 s2 1) (cpv M 1 s2 2)))) := by
      unfold lbX7_leastSlack_42 lt
      dsimp only
      rw [if_neg (show ¬ (100 : Int32) ≤ nI x from nI_ge (b := 100) (by omega) (by decide)), og1, gd_nI (by omega), nI_clamp (n := 14 + 8 * g) (by omega), show (200 : Int32) = nI 200 from rfl, b1, Option.bind_some, b2, Option.bind_some, b3, r_putBack, Option.bind_some, Option.bind_some, nI_1]
      by_cases c3 : trN U g x ≤ (bst nI (trN U g) x).2
      · rw [if_pos c3, bst_no c3]
      · rw [if_neg c3, bst_up c3]
    obtain ⟨M', k1, k2, k3⟩ := ih (x + 1) f (cpv (cpv M 1 s2) 1 (cpS 0 0 131 (cpv M 1 s2 1) (cpv M 1 s2 2))) (by omega) (by omega) (fun j hj => by rw [cpv_k hj, cpv_k hj, hM j hj]) (fun j hj => by
      rw [cpv_at, cpS0 hj, cpv_k (by decide), Nat.zero_add, hM 2 (by decide), h2 j hj])
    refine ⟨M', k1, k2, ?_⟩
    show (lbX7_leastSlack_42 (nI g) r5 _).bind _ = _
    rw [e]
    exact k3
theorem lt_e {α β : Type} (a : α) (f : α → β) : lt a f = f a := (Eq.trans (b := f a) rfl rfl : lt a f = f a)
theorem sim_leastSlack {V S : Mem} (h : RR V S) (a1 a2 : Int32) : ∃ a V' S', qX6_leastSlack V a1 a2 = some (a, V') ∧ qX7_leastSlack S a1 a2 = some (a, S') ∧ RR V' S' := by
  unfold qX6_leastSlack qX7_leastSlack
  simp only [lt_e]
  rw [in_same]
  rcases gate_cases a1 with ⟨y1, y2⟩ | ⟨g, hg, rfl, y1, y2⟩
  · rw [y1, y2, if_pos rfl, if_pos rfl]
    exact ⟨_, V, S, rfl, rfl, h⟩
  rw [y1, y2, if_neg one_no, if_neg one_no]
  rcases within_cases a2 0 1 with z | ⟨z, -, -⟩
  · rw [z, if_pos rfl, if_pos rfl]
    exact ⟨_, V, S, rfl, rfl, h⟩
  rw [z, if_neg one_no, if_neg one_no]
  clear z
  have hU := h.gaps
  obtain ⟨f1, f2⟩ := c_gaps V
  generalize fX6_findGapsAhead V = U at hU f1 f2 ⊢
  have f2' : ∀ q, q < 200 → U 429 q = fX3_gapAt (gv U 1) (U 1 0 + nI q) := fun q hq => by
    rw [f2 q hq, f1 1 (by decide)]
    exact (gap_eq (w := gv V 1) (w' := gv U 1) (f1 4 (by decide)) (f1 6 (by decide)) (f1 8 (by decide)) (f1 10 (by decide)) _).symm
  obtain ⟨⟨n, t, r, q, d, L, ht, p⟩, -⟩ := id hU
  have c1 := p.2.2.2.2.1
  have n12 := p.2.2.2.2.2.2.2.2.2.1.1
  have u10 : U 1 0 = nI t := c1.1
  have hgap : ∀ j, j < 200 → U 429 j = fX3_gapAt (gv U 1) (nI (t + j)) := fun j hj => by
    rw [f2' j hj, u10, nI_add]
  obtain ⟨P, hP, P1, P2⟩ := p.pn
  have u25 : csum 4 (U 25) = nI P := P1
  have hN : ∀ x, x < 100 → ∃ K : Nat, P + K ≤ n ∧ trN U g x = nI K := fun x hx => by
    obtain ⟨s2, -, -, -, P', K, e1, e2, e3, e4⟩ := trial_run p ht hgap hg (show x ≤ 99 by omega) (M := S) (fun j hj => rfl)
    rw [u25] at e1
    have : P = P' := (nI_eq (by omega) (by omega)).mp e1
    exact ⟨K, by omega, e4⟩
  obtain ⟨B, hB⟩ : ∃ B, bst nI (trN U g) 100 = B := ⟨_, rfl⟩
  have one : bst nI (trN U g) 1 = (nI 0, trN U g 0) := by
    obtain ⟨K, hK, eK⟩ := hN 0 (by decide)
    exact bst_up (val := nI) (N := trN U g) (i := 0) (show ¬ trN U g 0 ≤ (-1 : Int32) by rw [eK]; exact nI_m1no (by omega))
  obtain ⟨W', y, k1, k2⟩ := it_leastC hB hg hP n12 (show U 28 0 = nI n from c1.2.2.2.2.2.1) hN 99 1 fuel (trE U g 0) (by omega) (by omega) (fuel_lt (by decide)) (fun j hj => trE_r hj)
  rw [one] at k2
  rw [u25, show fX6_wordsPassingWith U (nI g) (0 : Int32) = (trN U g 0, trE U g 0) from wpw hg (fun j hj => rfl)]
  dsimp only
  rw [show it (lbX6_leastSlack_67 (nI g) U (nI P)) fuel ((0 : Int32), trN U g 0, (1 : Int32), trE U g 0) = _ from k2, Option.bind_some, r_passedWords (S := S) c1.2.2.2.2.2.2 n12, Option.bind_some, r_putAside, Option.bind_some]
  have hS5 : ∀ j, j ≠ 2 → cpv S 2 (cpS 0 0 131 (S 2) (S 1)) j = S j := fun j hj => cpv_k hj
  have hS52 : ∀ j, j < 131 → cpv S 2 (cpS 0 0 131 (S 2) (S 1)) 2 j = S 1 j := fun j hj => by
    rw [cpv_at, cpS0 hj, Nat.zero_add]
  generalize cpv S 2 (cpS 0 0 131 (S 2) (S 1)) = S5 at hS5 hS52 ⊢
  obtain ⟨M', m1, m2, m3⟩ := it_leastM (U := U) (S5 := S5) (n := n) (s := S 1) (r5 := csum n (fun v => S 1 (72 + 5 * v))) hB hg hS52 (fun x M hx hM => by
    obtain ⟨s2, e1, e2, e3, -⟩ := trial_run p ht hgap hg (show x ≤ 99 by omega) (M := M) hM
    exact ⟨s2, e1, e2, e3⟩) 100 0 fuel S5 (by omega) (fuel_lt (by decide)) (fun j hj => rfl) (fun j hj => by rw [hS5 1 (by decide)])
  rw [show it (lbX7_leastSlack_42 (nI g) (csum n (fun v => S 1 (72 + 5 * v)))) fuel ((0 : Int32), (-1 : Int32), (0 : Int32), S5) = _ from m3, Option.bind_some]
  have fin : RR W' M' := hU.now (fun j hj => k1 j (by omega)) (fun j h1 h2 => (m1 j h1).trans (hS5 j h2)) ((hU.1.w (fun j hj => k1 _ (by omega))).s m2)
  by_cases c : a2 = 0
  · rw [if_pos c, if_pos c]
    exact ⟨_, _, _, rfl, rfl, fin⟩
  · rw [if_neg c, if_neg c]
    exact ⟨_, _, _, rfl, rfl, fin⟩
