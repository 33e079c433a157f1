/-! the trial runs of leastSlack -/
theorem z_open {W : Mem} {φ : Nat → Int32} {g : Nat} {gap : Int32} (hg : g < 4) (h : φ g < ab gap ↔ W 14 g < ab gap) : fX1_isOpenAcross (cpv W 14 φ) (nI g) gap = fX1_isOpenAcross W (nI g) gap := by
  rw [c_open hg, c_open hg, cpv_at, cpv_k (by decide)]
  unfold opn
  by_cases c : W 18 g = 0
  · rw [if_pos c, if_pos c]
    by_cases c2 : W 14 g < ab gap
    · rw [if_pos c2, if_pos (h.mpr c2)]
    · rw [if_neg c2, if_neg (fun q => c2 (h.mp q))]
  · rw [if_neg c, if_neg c]
theorem act_14 (gap q : Int32) (w : Mem) (a : Int32) (W : Mem) (hW : W = fX5_sendBack w a ∨ W = fX5_passLetter (fX5_takeWord w a) a) : W 14 = w 14 := by
  rcases hW with e | e
  · have h := z_back (W := w) (φ := w 14) (a := a)
    rw [cpv_id] at h
    rw [e, h, cpv_at]
  · have h := z_take (W := w) (φ := w 14) (a := a)
    rw [cpv_id] at h
    have h2 := z_pass (W := fX5_takeWord w a) (φ := w 14) (a := a)
    rw [← h] at h2
    rw [e, h2, cpv_at]
theorem z_act {W : Mem} {φ : Nat → Int32} {g : Nat} {gap q : Int32} (hg : g < 4) (h : φ g < ab gap ↔ W 14 g < ab gap) : actC gap g (q, cpv W 14 φ) = ((actC gap g (q, W)).1, cpv (actC gap g (q, W)).2 14 φ) ∧ (actC gap g (q, W)).2 14 = W 14 := by
  unfold actC
  dsimp only
  rw [z_open hg h]
  by_cases c : fX1_isOpenAcross W (nI g) gap = 0
  · rw [if_pos c, if_pos c]
    dsimp only
    exact ⟨by rw [z_back], act_14 gap q W (nI g) _ (Or.inl rfl)⟩
  · rw [if_neg c, if_neg c]
    dsimp only
    exact ⟨by rw [z_take, z_pass], act_14 gap q W (nI g) _ (Or.inr rfl)⟩
theorem z_fld {W : Mem} {φ : Nat → Int32} {gap q : Int32} (h : ∀ g, g < 4 → (φ g < ab gap ↔ W 14 g < ab gap)) : ∀ i : Nat, i ≤ 4 → fld (actC gap) i (q, cpv W 14 φ) = ((fld (actC gap) i (q, W)).1, cpv (fld (actC gap) i (q, W)).2 14 φ) ∧ (fld (actC gap) i (q, W)).2 14 = W 14
  | 0, _ => ⟨rfl, rfl⟩
  | i + 1, hi => by
    obtain ⟨h1, h2⟩ := z_fld (q := q) h i (by omega)
    have h3 := z_act (W := (fld (actC gap) i (q, W)).2) (φ := φ) (g := i) (gap := gap) (q := (fld (actC gap) i (q, W)).1) (by omega) (by rw [h2]; exact h i (by omega))
    refine ⟨?_, h3.2.trans h2⟩
    show actC gap i (fld (actC gap) i (q, cpv W 14 φ)) = _
    rw [h1, h3.1]
    rfl
theorem z_step {W : Mem} {φ : Nat → Int32} {gap : Int32} (h : ∀ g, g < 4 → (φ g < ab gap ↔ W 14 g < ab gap)) : fX5_stepAcross (cpv W 14 φ) gap = cpv (fX5_stepAcross W gap) 14 φ ∧ fX5_stepAcross W gap 14 = W 14 := by
  obtain ⟨h1, h2⟩ := z_fld (q := 1) h 4 (Nat.le_refl _)
  unfold fX5_stepAcross
  rw [h1]
  dsimp only
  generalize fld (actC gap) 4 (1, W) = R at h2 ⊢
  refine ⟨?_, ?_⟩
  · rw [z_sv (by decide), z_sv (by decide), cpv_k (by decide)]
  · rw [sv_k (by decide), sv_k (by decide)]
    exact h2
theorem z_gv {T : Mem} {φ : Nat → Int32} : gv (cpv T 57 φ) 43 = cpv (gv T 43) 14 φ := by
  funext j
  unfold gv cpv
  by_cases c : j = 14
  · rw [if_pos c, if_pos (by omega)]
  · rw [if_neg c, if_neg (by omega)]
theorem z_pv {T X : Mem} {φ : Nat → Int32} : pv (cpv T 57 φ) 43 42 (cpv X 14 φ) = cpv (pv T 43 42 X) 57 φ := by
  funext j
  by_cases c : j = 57
  · subst c
    rfl
  · unfold pv cpv
    dsimp only
    by_cases c2 : 43 ≤ j ∧ j < 43 + 42
    · rw [if_pos c2, if_neg (show ¬ j - 43 = 14 by omega), if_neg c, if_pos c2]
    · rw [if_neg c2, if_neg c, if_neg c, if_neg c2]
theorem trial_e (T : Mem) (i : Nat) : fld trialC (i + 1) T = pv (fld trialC i T) 43 42 (fX5_stepAcross (gv (fld trialC i T) 43) (cget 200 (fld trialC i T 429) (nI i))) := rfl
theorem gv_pv {A B : Mem} {j : Nat} (h : j < 42) : gv (pv A 43 42 B) 43 j = B j := pv_at h
/-- what a trial's steps leave -/
theorem trial_r {T : Mem} : ∀ i : Nat, (∀ j, j < 43 ∨ 85 ≤ j → fld trialC i T j = T j)
  | 0, _, _ => rfl
  | i + 1, j, hj => by
    rw [trial_e, pvo (by omega), trial_r i j hj]
theorem trial_24 {T : Mem} : ∀ i : Nat, ∃ k : Nat, k ≤ 4 * i ∧ pwd (gv (fld trialC i T) 43) = pwd (gv T 43) + nI k
  | 0 => ⟨0, by decide, by rw [nI_0, Int32.add_zero]; rfl⟩
  | i + 1 => by
    obtain ⟨k, hk, e⟩ := trial_24 (T := T) i
    obtain ⟨m, hm, e2⟩ := step_24 (gv (fld trialC i T) 43) (cget 200 (fld trialC i T 429) (nI i))
    refine ⟨k + m, by omega, ?_⟩
    rw [← nI_add, ← Int32.add_assoc, ← e, ← e2]
    rw [trial_e]
    generalize fX5_stepAcross (gv (fld trialC i T) 43) (cget 200 (fld trialC i T 429) (nI i)) = B
    unfold pwd
    rw [gv_pv (by decide)]
theorem z_trial {T : Mem} {φ : Nat → Int32} (h : ∀ i, i < 200 → ∀ g, g < 4 → (φ g < ab (T 429 i) ↔ T 57 g < ab (T 429 i))) : ∀ i : Nat, i ≤ 200 → fld trialC i (cpv T 57 φ) = cpv (fld trialC i T) 57 φ ∧ fld trialC i T 57 = T 57
  | 0, _ => ⟨rfl, rfl⟩
  | i + 1, hi => by
    obtain ⟨h1, h2⟩ := z_trial h i (by omega)
    have e429 : fld trialC i T 429 = T 429 := trial_r i 429 (by decide)
    have hh : ∀ g, g < 4 → (φ g < ab (cget 200 (fld trialC i T 429) (nI i)) ↔ gv (fld trialC i T) 43 14 g < ab (cget 200 (fld trialC i T 429) (nI i))) := fun g hg => by
      rw [cget_nI (by omega), e429, show gv (fld trialC i T) 43 14 = T 57 from h2]
      exact h i (by omega) g hg
    obtain ⟨h3, h4⟩ := z_step (W := gv (fld trialC i T) 43) hh
    refine ⟨?_, ?_⟩
    · rw [trial_e, trial_e, h1, z_gv, cpv_k (show (429 : Nat) ≠ 57 by decide), h3, z_pv]
    · rw [trial_e]
      generalize fX5_stepAcross (gv (fld trialC i T) 43) (cget 200 (fld trialC i T 429) (nI i)) = B at h4 ⊢
      have h5 : pv (fld trialC i T) 43 42 B 57 = B 14 := pv_at (k := 43) (j := 14) (by decide)
      rw [h5, h4]
      exact h2
theorem step_keep {n t : Nat} {L : Nat → List Nat} {w S : Mem} (ht : t < 2147483648) (hp : ∃ r h d, RwE 0 n t r h d L w (S 1)) : keep (fX5_stepAcross w (fX3_gapAt w (nI t))) w := by
  obtain ⟨-, k⟩ := keeps (q := 1) ht hp 4 (Nat.le_refl _)
  unfold fX5_stepAcross keep
  rw [sv_k (by decide), sv_k (by decide), sv_k (by decide), sv_k (by decide), sv_k (by decide), sv_k (by decide), sv_k (by decide), sv_k (by decide), sv_k (by decide), sv_k (by decide), sv_k (by decide), sv_k (by decide)]
  exact k
theorem it_trial {n t : Nat} {L : Nat → List Nat} {T : Mem} (ht : t + 200 < 2147483648) (hgap : ∀ q, q < 200 → T 429 q = fX3_gapAt (gv T 43) (nI (t + q))) : ∀ (m i f : Nat) (U : Mem), i + m = 200 → m < f → (∃ r h d, RwE 0 n (t + i) r h d L (gv (fld trialC i T) 43) (U 1)) → keep (gv (fld trialC i T) 43) (gv T 43) → ∃ s', it (lbX7_runs_2 (nI 200)) f (nI i, U) = some (nI 200, cpv U 1 s') ∧ ∃ r h d, RwE 0 n (t + 200) r h d L (gv (fld trialC 200 T) 43) s'
  | 0, i, f, U, hi, hf, hp, hk => by
    obtain ⟨f, rfl⟩ : ∃ g, f = g + 1 := ⟨f - 1, by omega⟩
    obtain rfl : i = 200 := by omega
    refine ⟨U 1, ?_, hp⟩
    have e : lbX7_runs_2 (nI 200) (nI 200, U) = some (.inr (nI 200, U)) := by
      unfold lbX7_runs_2
      dsimp only
      rw [if_pos (nI_le (Nat.le_refl _) (by omega))]
    show (lbX7_runs_2 (nI 200) (nI 200, U)).bind _ = _
    rw [e, cpv_id]
    rfl
  | m + 1, i, f, U, hi, hf, hp, hk => by
    obtain ⟨f, rfl⟩ : ∃ g, f = g + 1 := ⟨f - 1, by omega⟩
    obtain ⟨r, h, d, p⟩ := hp
    obtain ⟨s1, a1, r', h', d', a2⟩ := sim_step p (by omega)
    have w0 : gv (fld trialC i T) 43 0 0 = nI (t + i) := p.2.2.2.2.1.1
    have sk := step_keep (t := t + i) (by omega) ⟨r, h, d, p⟩
    rw [w0] at a2
    have hg : cget 200 (fld trialC i T 429) (nI i) = fX3_gapAt (gv (fld trialC i T) 43) (nI (t + i)) := by
      rw [cget_nI (by omega), show fld trialC i T 429 = T 429 from trial_r i 429 (by decide), hgap i (by omega), hk.gap]
    have eT : ∀ j, j < 42 → gv (fld trialC (i + 1) T) 43 j = fX5_stepAcross (gv (fld trialC i T) 43) (fX3_gapAt (gv (fld trialC i T) 43) (nI (t + i))) j := fun j hj => by
      rw [trial_e, gv_pv hj, hg]
    have hk2 : keep (gv (fld trialC (i + 1) T) 43) (gv T 43) := by
      refine keep.trans ?_ hk
      unfold keep at sk ⊢
      rw [eT 3 (by decide), eT 5 (by decide), eT 7 (by decide), eT 9 (by decide), eT 14 (by decide), eT 18 (by decide)]
      exact sk
    obtain ⟨s2, b1, b2⟩ := it_trial ht hgap m (i + 1) f (cpv U 1 s1) (by omega) (by omega) ⟨r', h', d', by rw [cpv_at]; exact a2.w eT⟩ hk2
    rw [cpv_cpv] at b1
    refine ⟨s2, ?_, b2⟩
    have e : lbX7_runs_2 (nI 200) (nI i, U) = some (.inl (nI (i + 1), cpv U 1 s1)) := by
      unfold lbX7_runs_2
      dsimp only
      rw [if_neg (nI_ge (by omega) (by omega)), a1, Option.bind_some, nI_1]
    show (lbX7_runs_2 (nI 200) (nI i, U)).bind _ = _
    rw [e]
    exact b1
