/-! the start -/
theorem RR.congr {V V' S S' : Mem} (h : RR V S) (hV : ∀ j, j < 429 → V' j = V j) (hS : ∀ j, j < 7 → S' j = S j) : RR V' S' := by
  obtain ⟨h1, h2, ⟨k, p, h3⟩, h4⟩ := h
  refine ⟨?_, h2.of (hV _ (by decide)) (hV _ (by decide)) (congrFun (hS 0 (by decide)) 1) (hS 6 (by decide)), ⟨k, p, h3.of (fun j a b => hV _ (by omega)) (hV _ (by decide)) (congrFun (hS 0 (by decide)) 0) (hS 3 (by decide))⟩, h4.of (fun j a b => hV _ (by omega)) (hV _ (by decide)) (hS 4 (by decide)) (hS 5 (by decide))⟩
  rw [hS 1 (by decide)]
  exact h1.w (fun j hj => hV _ (by omega))
theorem init_T : ∀ k, k < 2 → wX7_init 1 (5 + 4 * k) = wX5_init 3 k ∧ wX7_init 1 (6 + 4 * k) = wX5_init 5 k ∧ wX7_init 1 (7 + 4 * k) = wX5_init 7 k ∧ wX7_init 1 (8 + 4 * k) = wX5_init 9 k ∧ wX5_init 3 k = nI 100 ∧ wX5_init 5 k = nI 30 ∧ wX5_init 7 k = nI (24 - 4 * k) ∧ wX5_init 9 k = 0 := by decide +kernel
theorem init_G : ∀ g, g < 4 → wX7_init 1 (13 + 8 * g) = wX5_init 12 g ∧ wX7_init 1 (14 + 8 * g) = wX5_init 14 g ∧ wX7_init 1 (15 + 8 * g) = wX5_init 16 g ∧ wX7_init 1 (16 + 8 * g) = wX5_init 18 g ∧ wX5_init 12 g = nI (g % 2) ∧ wX5_init 14 g = nI 5 ∧ wX5_init 16 g = 0 ∧ wX5_init 18 g = 0 ∧ wX5_init 20 g = -1006 ∧ wX7_init 1 (17 + 8 * g) = -1006 ∧ wX5_init 22 g = nI 0 ∧ wX7_init 1 (18 + 8 * g) = nI 0 ∧ wX7_init 1 (19 + 8 * g) = wX5_init 24 g ∧ wX7_init 1 (20 + 8 * g) = wX5_init 26 g := by decide +kernel
theorem init_C : wX5_init 0 0 = nI 0 ∧ wX7_init 1 0 = nI 0 ∧ wX7_init 1 1 = wX5_init 0 2 + 0 ∧ wX7_init 1 2 = wX5_init 0 1 ∧ wX7_init 1 3 = csum 4 (wX5_init 26) ∧ wX5_init 27 0 = nI 0 ∧ wX7_init 1 4 = nI 0 := by decide +kernel
theorem init_R : ∀ k, k < 2 → wX5_init 41 k = nI 0 ∧ wX7_init 1 (45 + k) = nI 0 := by decide +kernel
theorem init_N : csum 4 (wX5_init 24) = 0 := by decide +kernel
theorem init_Z : ∀ v, v < 12 → wX5_init 37 v = 0 := by decide +kernel
theorem init_w : RwE 0 0 0 (fun _ => []) (fun _ => none) (fun _ => 0) (fun _ => []) wX5_init (wX7_init 1) := by
  refine ⟨fun k hk => ?_, fun g hg => ?_, fun g hg => ?_, fun g hg => ?_, init_C, fun k hk => ?_, fun k hk => ?_, fun v hv => absurd hv (by omega), fun v hv => absurd hv (by omega), ⟨by decide, List.Perm.refl _⟩, fun g hg => ⟨fun _ => rfl, fun v hv => by cases hv⟩, init_N, fun v _ hv => init_Z v hv⟩
  · obtain ⟨a1, a2, a3, a4, a5, a6, a7, a8⟩ := init_T k hk
    refine ⟨a1, a2, a3, a4, 100, 30, 24 - 4 * k, by decide, by decide, by omega, by omega, a5, a6, a7, ?_, ?_⟩
    · rw [a8]
      decide
    · rw [a8]
      decide
  · obtain ⟨a1, a2, a3, a4, a5, a6, a7, a8, -⟩ := init_G g hg
    exact ⟨a1, a2, a3, a4, ⟨g % 2, Nat.mod_lt _ (by decide), a5⟩, ⟨5, by decide, a6⟩, Or.inl a7, Or.inl a8⟩
  · obtain ⟨-, -, -, -, -, -, -, -, a9, a10, -⟩ := init_G g hg
    exact ⟨a9, a10⟩
  · obtain ⟨-, -, -, -, -, -, -, -, -, -, a11, a12, a13, a14⟩ := init_G g hg
    exact ⟨a11, a12, a13, a14⟩
  · exact ⟨Nat.zero_le 12, (init_R k hk).1, fun i v hi => by cases hi⟩
  · exact ⟨Nat.zero_le 12, (init_R k hk).2, fun i v hi => by cases hi⟩
theorem init_6 : ∀ j, j < 42 → wX6_init (1 + j) = wX5_init j := fun j hj => by
  unfold wX6_init
  rw [pvo (by omega), pvo (by omega), pvo (by omega), pvo (by omega), pvo (by omega), pvo (by omega), pvo (by omega), pvo (by omega), pvo (by omega), pvo (by omega), pvo (by omega), pvo (by omega), pvo (by omega), pvo (by omega), pv_at hj]
theorem init_P : wX6_init 85 0 = nI 0 ∧ wX7_init 0 1 = nI 0 ∧ wX6_init 0 1 = nI 0 ∧ wX6_init 0 0 = nI 0 ∧ wX7_init 0 0 = nI 0 ∧ wX6_init 427 0 = 0 ∧ wX6_init 427 1 = 0 ∧ wX7_init 5 0 = 0 ∧ wX7_init 5 1 = 0 := by decide +kernel
theorem RR.init : RR wX6_init wX7_init := by
  obtain ⟨a1, a2, a3, a4, a5, a6, a7, a8, a9⟩ := init_P
  refine ⟨⟨0, 0, _, _, _, _, by decide, init_w.w (fun j hj => init_6 j hj)⟩, ⟨0, by decide, a1, a2, fun i hi => absurd hi (by omega)⟩, ⟨0, 0, by decide, by decide, a3, a4, a5, fun i hi => absurd hi (by omega)⟩, fun i hi => Or.inl ?_⟩
  obtain rfl | rfl : i = 0 ∨ i = 1 := by omega
  · exact ⟨a6, a8⟩
  · exact ⟨a7, a9⟩
