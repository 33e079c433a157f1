/-! a run of steps: the same on both sides -/
theorem it_runs {n t k : Nat} {L : Nat → List Nat} {w : Mem} (hk : t + k < 2147483648) : ∀ (m i f : Nat) (S : Mem), i + m = k → m < f → (∃ r h d, RwE 0 n (t + i) r h d L (stps i w) (S 1)) → ∃ s', it (lbX7_runs_2 (nI k)) f (nI i, S) = some (nI k, cpv S 1 s') ∧ ∃ r h d, RwE 0 n (t + k) r h d L (stps k w) s'
  | 0, i, f, S, hi, hf, hp => by
    obtain ⟨f, rfl⟩ : ∃ g, f = g + 1 := ⟨f - 1, by omega⟩
    obtain rfl : i = k := by omega
    refine ⟨S 1, ?_, hp⟩
    have e : lbX7_runs_2 (nI i) (nI i, S) = some (.inr (nI i, S)) := by
      unfold lbX7_runs_2
      dsimp only
      rw [if_pos (nI_le (Nat.le_refl _) (by omega))]
    show (lbX7_runs_2 (nI i) (nI i, S)).bind _ = _
    rw [e, cpv_id]
    rfl
  | m + 1, i, f, S, hi, hf, hp => by
    obtain ⟨f, rfl⟩ : ∃ g, f = g + 1 := ⟨f - 1, by omega⟩
    obtain ⟨r, h, d, p⟩ := hp
    obtain ⟨s1, a1, r', h', d', a2⟩ := sim_step p (by omega)
    obtain ⟨s2, b1, b2⟩ := it_runs hk m (i + 1) f (cpv S 1 s1) (by omega) (by omega) ⟨r', h', d', by rw [cpv_at]; exact a2⟩
    rw [cpv_cpv] at b1
    refine ⟨s2, ?_, b2⟩
    have e : lbX7_runs_2 (nI k) (nI i, S) = some (.inl (nI (i + 1), cpv S 1 s1)) := by
      unfold lbX7_runs_2
      dsimp only
      rw [if_neg (nI_ge (by omega) (by omega)), a1, Option.bind_some, nI_1]
    show (lbX7_runs_2 (nI k) (nI i, S)).bind _ = _
    rw [e]
    exact b1
theorem sim_runs {n t k : Nat} {r : Nat → List Nat} {h : Nat → Option Nat} {d : Nat → Nat} {L : Nat → List Nat} {w V : Mem} (p : RwE 0 n t r h d L w (V 1)) (hk : t + k < 2147483648) (hk2 : k ≤ 2 ^ 31) : ∃ s', qX7_runs V (nI k) = some (cpv V 1 s') ∧ ∃ r' h' d', RwE 0 n (t + k) r' h' d' L (fX5_makeSteps w (nI k)) s' := by
  obtain ⟨s', a1, a2⟩ := it_runs (w := w) hk k 0 fuel V (by omega) (fuel_lt (by omega)) ⟨r, h, d, p⟩
  refine ⟨s', ?_, ?_⟩
  · unfold qX7_runs
    rw [show it (lbX7_runs_2 (nI k)) fuel ((0 : Int32), V) = some (nI k, cpv V 1 s') from a1, Option.bind_some]
  · unfold fX5_makeSteps
    rw [nI_clamp (by omega)]
    exact a2
