/-! the gaps of the steps ahead, bestLie -/
theorem sh_0 (l a T x : Int32) : l + x - T = (l + a - T) + (x - a) := by grind
theorem sh_1 (l a T x : Int32) : T - (l + x) = (T - (l + a)) + -(x - a) := by grind
theorem fld_gap (V : Mem) : ∀ i : Nat, i ≤ 200 → (∀ j, j ≠ 429 → fld gapC i V j = V j) ∧ ∀ q, q < i → fld gapC i V 429 q = fX3_gapAt (gv V 1) (V 1 0 + nI q)
  | 0, _ => ⟨fun j hj => rfl, fun q hq => absurd hq (by omega)⟩
  | i + 1, hi => by
    obtain ⟨h1, h2⟩ := fld_gap V i (by omega)
    have e : fld gapC (i + 1) V = sv (fld gapC i V) 429 i (fX3_gapAt (gv V 1) (V 1 0 + nI i)) := by
      show cset (fld gapC i V) 429 200 (nI i) (fX3_gapAt (gv (fld gapC i V) 1) (fld gapC i V 1 0 + nI i)) = _
      rw [cset_nI (by omega), gap_eq (w := gv V 1) (w' := gv (fld gapC i V) 1) (h1 4 (by decide)) (h1 6 (by decide)) (h1 8 (by decide)) (h1 10 (by decide)), h1 1 (by decide)]
    rw [e]
    refine ⟨fun j hj => (sv_k hj).trans (h1 j hj), fun q hq => ?_⟩
    by_cases c : q = i
    · subst c
      exact sv_at
    · rw [sv_j c]
      exact h2 q (by omega)
theorem c_gaps (V : Mem) : (∀ j, j ≠ 429 → fX6_findGapsAhead V j = V j) ∧ ∀ q, q < 200 → fX6_findGapsAhead V 429 q = fX3_gapAt (gv V 1) (V 1 0 + nI q) := fld_gap V 200 (Nat.le_refl _)
theorem RR.gaps {V S : Mem} (h : RR V S) : RR (fX6_findGapsAhead V) S := h.same (fun j hj => (c_gaps V).1 j (by omega)) (fun j hj => rfl)
theorem sv_back (S : Mem) (j : Nat) (x : Int32) : sv (sv S 1 j x) 1 j (S 1 j) = S := by
  funext k q
  by_cases c : k = 1
  · subst c
    by_cases c2 : q = j
    · subst c2
      exact sv_at
    · rw [sv_j c2, sv_j c2]
  · rw [sv_k c, sv_k c]
theorem opens_lie {V S : Mem} (h : RR V S) {k g : Nat} (hk : k < 2) (hg : g < 4) {x : Int32} (x1 : -50 ≤ x.toInt) (x2 : x.toInt ≤ 50) : qX7_opensWith S (nI k) (nI g) x = some (fX6_openStepsWith (fX6_findGapsAhead V) (nI k) (nI g) x, S) := by
  obtain ⟨⟨n, t, r, q, d, L, ht, p⟩, -⟩ := id h
  obtain ⟨f1, f2⟩ := c_gaps V
  have hG := p.2.1 g hg
  have q1 : S 1 0 = nI t := p.2.2.2.2.1.2.1
  have q2 : V 1 0 = nI t := p.2.2.2.2.1.1
  have hT := p.1
  have pT' : pT (sv (gv V 1) 9 k x 3) (sv (gv V 1) 9 k x 5) (sv (gv V 1) 9 k x 7) (sv (gv V 1) 9 k x 9) (upd (S 1) (8 + 4 * k) x) := fun k' hk' => by
    obtain ⟨g1, g2, g3, g4, a, b, c, g5, g6, g7, g8, g9, g10, g11, g12, g13⟩ := hT k' hk'
    have so : ∀ m, m < 3 → upd (S 1) (8 + 4 * k) x (5 + m + 4 * k') = S 1 (5 + m + 4 * k') := fun m hm => upd_ne (by omega)
    have w9 : sv (gv V 1) 9 k x 9 = upd (gv V 1 9) k x := sv_row
    rw [so 0 (by decide), show upd (S 1) (8 + 4 * k) x (6 + 4 * k') = S 1 (6 + 4 * k') from so 1 (by decide), show upd (S 1) (8 + 4 * k) x (7 + 4 * k') = S 1 (7 + 4 * k') from so 2 (by decide), w9]
    refine ⟨g1, g2, g3, ?_, a, b, c, g5, g6, g7, g8, g9, g10, g11, ?_, ?_⟩
    · by_cases c : k' = k
      · subst c
        rw [upd_at, upd_at]
      · rw [upd_ne (by omega), upd_ne c]
        exact g4
    · by_cases c : k' = k
      · subst c
        rw [upd_at]
        exact x1
      · rw [upd_ne c]
        exact g12
    · by_cases c : k' = k
      · subst c
        rw [upd_at]
        exact x2
      · rw [upd_ne c]
        exact g13
  have gp : ∀ i, i < 200 → fX3_gapAt (sv (gv V 1) 9 k x) (nI t + nI i) = fX6_findGapsAhead V 429 i + (if nI k = 0 then x - V 10 k else -(x - V 10 k)) := fun i hi => by
    rw [f2 i hi, q2, c_gap (w := sv (gv V 1) 9 k x) (pT' 0 (by decide)).2.2.2.2.per (pT' 1 (by decide)).2.2.2.2.per, c_gap (w := gv V 1) (hT 0 (by decide)).2.2.2.2.per (hT 1 (by decide)).2.2.2.2.per]
    have w9 : sv (gv V 1) 9 k x 9 = upd (gv V 1 9) k x := sv_row
    rw [w9]
    show tld (gv V 1 3 0) (gv V 1 5 0) (gv V 1 7 0) (upd (gv V 1 9) k x 0) (nI t + nI i) - tld (gv V 1 3 1) (gv V 1 5 1) (gv V 1 7 1) (upd (gv V 1 9) k x 1) (nI t + nI i) = _
    unfold tld
    obtain rfl | rfl : k = 0 ∨ k = 1 := by omega
    · rw [if_pos nI_0, upd_at, upd_ne (by decide)]
      exact sh_0 _ _ _ _
    · rw [if_neg (show ¬ nI 1 = 0 by decide), upd_at, upd_ne (by decide)]
      exact sh_1 _ _ _ _
  have hl : it (lbX7_opensWith_29 (nI g) (sv S 1 (8 + 4 * k) x)) fuel ((0 : Int32), (0 : Int32)) = some (fX6_openStepsWith (fX6_findGapsAhead V) (nI k) (nI g) x, nI 200) := by
    unfold fX6_openStepsWith
    refine it_sum (by decide) (fun i q hi => ?_) (fun q => rfl)
    have ho : qX7_off (sv S 1 (8 + 4 * k) x) (nI t + nI i) = some (ab (fX3_gapAt (sv (gv V 1) 9 k x) (nI t + nI i))) := by
      rw [nI_add]
      exact pT.off (w := sv (gv V 1) 9 k x) pT' sv_row (by omega)
    have q0 : sv S 1 (8 + 4 * k) x 1 0 = nI t := by rw [sv_j (by omega)]; exact q1
    have qs : sv S 1 (8 + 4 * k) x 1 (14 + 8 * g) = V 15 g := by rw [sv_j (by omega)]; exact hG.2.1
    unfold lbX7_opensWith_29 lt
    dsimp only
    rw [if_neg (show ¬ (200 : Int32) ≤ nI i from nI_ge (b := 200) hi (by decide)), q0, ho, Option.bind_some, og1, gd_nI (by omega), nI_clamp (n := 14 + 8 * g) (by omega), qs, nI_1, cget_nI hg, cget_nI hi, cget_nI hk, gp i hi, f1 15 (by decide), f1 10 (by decide)]
    by_cases c : V 15 g < ab (fX6_findGapsAhead V 429 i + (if nI k = 0 then x - V 10 k else -(x - V 10 k)))
    · rw [if_pos c, if_pos c]
    · rw [if_neg c, if_neg c]
  unfold qX7_opensWith lt
  dsimp only
  rw [os3, gd_nI (by omega), gd_nI (by omega), nI_clamp (n := 8 + 4 * k) (by omega), hl, Option.bind_some, gd_cl (by omega), sv_back]
