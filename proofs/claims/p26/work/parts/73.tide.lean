/-! tide, gauge -/
theorem RwE.setT {b : Int32} {n t : Nat} {r : Nat → List Nat} {h : Nat → Option Nat} {d : Nat → Nat} {L : Nat → List Nat} {w w' : Mem} {s s' : Nat → Int32} (p : RwE b n t r h d L w s) (hw : ∀ j, j < 42 → j ≠ 3 → j ≠ 5 → j ≠ 7 → j ≠ 9 → w' j = w j) (hs : ∀ j, j < 131 → j < 5 ∨ 13 ≤ j → s' j = s j) (hT : pT (w' 3) (w' 5) (w' 7) (w' 9) s') : RwE b n t r h d L w' s' := by
  obtain ⟨_, p2, p3, p4, p5, p6, p7, p8, p9, p10, p11, p12, p13⟩ := p
  have hn := p10.1
  have q2 := p2.s (s' := s') (fun g q h1 h2 => hs _ (by omega) (by omega))
  have q3 := p3.s (s' := s') (fun g h1 => hs _ (by omega) (by omega))
  have q4 := p4.s (s' := s') (fun g q h1 h2 => hs _ (by omega) (by omega))
  have q5 := p5.s (s' := s') (fun j h1 => hs j (by omega) (by omega))
  have q7 := p7.s (s' := s') (fun j h1 h2 => hs j (by omega) (by omega))
  have q8 := p8.s (s' := s') (fun v h1 => hs _ (by omega) (by omega))
  have q9 := p9.s (s' := s') (fun v q h1 h2 => hs _ (by omega) (by omega))
  have q12 := p12.s (s' := s') (fun v h1 => hs _ (by omega) (by omega))
  have e : ∀ j, j < 42 ∧ j ≠ 3 ∧ j ≠ 5 ∧ j ≠ 7 ∧ j ≠ 9 → w' j = w j := fun j hj => hw j hj.1 hj.2.1 hj.2.2.1 hj.2.2.2.1 hj.2.2.2.2
  unfold RwE
  rw [e 12 (by decide), e 14 (by decide), e 16 (by decide), e 18 (by decide), e 20 (by decide), e 22 (by decide), e 24 (by decide), e 26 (by decide), e 0 (by decide), e 27 (by decide), e 39 (by decide), e 41 (by decide), e 29 (by decide), e 31 (by decide), e 33 (by decide), e 35 (by decide), e 37 (by decide)]
  exact ⟨hT, q2, q3, q4, q5, p6, q7, q8, q9, p10, p11, q12, p13⟩
theorem pv3_out {U : Mem} {k n a b c j : Nat} {i1 i2 i3 : Nat} {x y z : Int32} (h1 : j ≠ k + a) (h2 : j ≠ k + b) (h3 : j ≠ k + c) : pv U k n (sv (sv (sv (gv U k) a i1 x) b i2 y) c i3 z) j = U j := by
  unfold pv
  by_cases q : k ≤ j ∧ j < k + n
  · rw [if_pos q, sv_k (by omega), sv_k (by omega), sv_k (by omega)]
    show U (k + (j - k)) = U j
    rw [show k + (j - k) = j by omega]
  · rw [if_neg q]
theorem pv_at {U W : Mem} {k n j : Nat} (h : j < n) : pv U k n W (k + j) = W j := by
  unfold pv
  rw [if_pos (by omega), Nat.add_sub_cancel_left]
theorem pvo {U W : Mem} {k n j : Nat} (h : j < k ∨ k + n ≤ j) : pv U k n W j = U j := by
  unfold pv
  rw [if_neg (by omega)]
theorem c_chT {U : Mem} {k : Nat} (hk : k < 2) (x y z : Int32) : fX3_change (gv U 2) (nI k) x y z = sv (sv (sv (gv U 2) 2 k x) 4 k y) 6 k z := by
  unfold fX3_change lt
  try dsimp only
  rw [cset_nI hk, cset_nI hk, cset_nI hk]
theorem within_lo {a lo hi : Int32} {m n : Nat} (hL : lo.toInt = m) (hM : hi.toInt = n) : fX6_isWithin a lo hi = 0 ∨ (fX6_isWithin a lo hi = 1 ∧ ∃ k : Nat, m ≤ k ∧ k ≤ n ∧ a = nI k) := by
  rcases within_cases a lo hi with c | ⟨c, c1, c2⟩
  · exact Or.inl c
  · have h1 : ¬ a < 0 := fun q => c1 (by
      rw [Int32.lt_iff_toInt_lt] at q ⊢
      have x0 : (0 : Int32).toInt = 0 := rfl
      omega)
    obtain ⟨k, hk, e⟩ := nI_of2 hM h1 c2
    refine Or.inr ⟨c, k, ?_, hk, e⟩
    have hh : hi.toInt < 2147483648 := Int32.toInt_lt hi
    rcases Nat.lt_or_ge k m with z | z
    · refine absurd ?_ c1
      rw [Int32.lt_iff_toInt_lt, e, nI_toInt (by omega), hL]
      omega
    · exact z
theorem sim_tide {V S : Mem} (h : RR V S) (a1 a2 a3 a4 : Int32) : ∃ S', qX7_tide S a1 a2 a3 a4 = some ((fX6_tide V a1 a2 a3 a4).1, S') ∧ RR (fX6_tide V a1 a2 a3 a4).2 S' := by
  unfold qX7_tide fX6_tide lt
  try dsimp only
  rw [in_same, in_same, in_same]
  rcases store_cases a1 with ⟨c1, c2⟩ | ⟨k, hk, rfl, c1, c2⟩
  · rw [c1, c2, if_pos rfl, if_pos rfl]
    exact ⟨S, rfl, h⟩
  rw [c1, c2, if_neg one_no, if_neg one_no]
  rcases within_nat (a := a2) (hi := 300) (n := 300) rfl with z | ⟨z, x, hx, rfl⟩
  · rw [z, if_pos rfl, if_pos rfl]
    exact ⟨S, rfl, h⟩
  rw [z, if_neg one_no, if_neg one_no]
  clear z
  rcases within_nat (a := a3) (hi := 100) (n := 100) rfl with z | ⟨z, y, hy, rfl⟩
  · rw [z, if_pos rfl, if_pos rfl]
    exact ⟨S, rfl, h⟩
  rw [z, if_neg one_no, if_neg one_no]
  clear z
  rcases within_lo (a := a4) (lo := 2) (hi := 60) (m := 2) (n := 60) rfl rfl with z | ⟨z, u, hu1, hu, rfl⟩
  · rw [z, if_pos rfl, if_pos rfl]
    exact ⟨S, rfl, h⟩
  rw [z, if_neg one_no, if_neg one_no]
  clear z
  obtain ⟨S', e, es, ev, h'⟩ := h.rec
  rw [e, Option.bind_some]
  generalize fX6_record V = U at ev h' ⊢
  rw [c_chT hk, os0, os1, os2]
  try dsimp only
  rw [gd_nI (by omega), gd_nI (by omega), gd_nI (by omega), nI_clamp (n := 5 + 4 * k) (by omega), nI_clamp (n := 6 + 4 * k) (by omega), nI_clamp (n := 7 + 4 * k) (by omega)]
  obtain ⟨⟨n, t, r, q, d, L, ht, p⟩, -⟩ := id h'
  have hT := p.1
  have ek := hT k hk
  obtain ⟨-, -, -, -, a0, b0, c0, -, -, -, -, -, -, -, l1, l2⟩ := hT k hk
  have tb : TB (nI x) (nI y) (nI u) (U 10 k) := ⟨x, y, u, hx, hy, hu1, hu, rfl, rfl, rfl, l1, l2⟩
  have s1 : sv (sv (sv S' 1 (5 + 4 * k) (nI x)) 1 (6 + 4 * k) (nI y)) 1 (7 + 4 * k) (nI u) 1 = upd (upd (upd (S' 1) (5 + 4 * k) (nI x)) (6 + 4 * k) (nI y)) (7 + 4 * k) (nI u) := by
    rw [sv_row, sv_row, sv_row]
  have sout : ∀ j, j ≠ 1 → sv (sv (sv S' 1 (5 + 4 * k) (nI x)) 1 (6 + 4 * k) (nI y)) 1 (7 + 4 * k) (nI u) j = S' j := fun j hj => by
    rw [sv_k hj, sv_k hj, sv_k hj]
  generalize sv (sv (sv S' 1 (5 + 4 * k) (nI x)) 1 (6 + 4 * k) (nI y)) 1 (7 + 4 * k) (nI u) = S2 at s1 sout ⊢
  have u4 : pv U 2 9 (sv (sv (sv (gv U 2) 2 k (nI x)) 4 k (nI y)) 6 k (nI u)) 4 = upd (U 4) k (nI x) := sv_row
  have u6 : pv U 2 9 (sv (sv (sv (gv U 2) 2 k (nI x)) 4 k (nI y)) 6 k (nI u)) 6 = upd (U 6) k (nI y) := sv_row
  have u8 : pv U 2 9 (sv (sv (sv (gv U 2) 2 k (nI x)) 4 k (nI y)) 6 k (nI u)) 8 = upd (U 8) k (nI u) := sv_row
  have uout : ∀ j, j ≠ 4 → j ≠ 6 → j ≠ 8 → pv U 2 9 (sv (sv (sv (gv U 2) 2 k (nI x)) 4 k (nI y)) 6 k (nI u)) j = U j := fun j h1 h2 h3 => pv3_out (by omega) (by omega) (by omega)
  generalize pv U 2 9 (sv (sv (sv (gv U 2) 2 k (nI x)) 4 k (nI y)) 6 k (nI u)) = U2 at u4 u6 u8 uout ⊢
  have v5 : S2 1 (5 + 4 * k) = nI x := by rw [s1, upd_ne (by omega), upd_ne (by omega), upd_at]
  have v6 : S2 1 (6 + 4 * k) = nI y := by rw [s1, upd_ne (by omega), upd_at]
  have v7 : S2 1 (7 + 4 * k) = nI u := by rw [s1, upd_at]
  have v0 : S2 1 0 = S' 1 0 := by rw [s1, upd_ne (by omega), upd_ne (by omega), upd_ne (by omega)]
  have g3 : gv U2 1 3 k = nI x := (congrFun u4 k).trans upd_at
  have g5 : gv U2 1 5 k = nI y := (congrFun u6 k).trans upd_at
  have g7 : gv U2 1 7 k = nI u := (congrFun u8 k).trans upd_at
  have w0 : S' 1 0 = U2 1 0 := by
    rw [uout 1 (by decide) (by decide) (by decide)]
    exact p.2.2.2.2.1.2.1.trans p.2.2.2.2.1.1.symm
  rw [r_level hk (by rw [v7]; exact tb.ne), Option.bind_some, v5, v6, v7, v0, c_level (w := gv U2 1) hk (by rw [g7]; exact tb.per), g3, g5, g7, w0]
  refine ⟨S2, rfl, h'.now (fun j hj => uout j (by omega) (by omega) (by omega)) (fun j h1 h2 => sout j h1) ⟨n, t, r, q, d, L, ht, p.setT (fun j h1 h2 h3 h4 h5 => uout (1 + j) (by omega) (by omega) (by omega)) (fun j h1 h2 => ?_) (fun k' hk' => ?_)⟩⟩
  · rw [s1, upd_ne (by omega), upd_ne (by omega), upd_ne (by omega)]
  · obtain ⟨f1, f2, f3, f4, f5⟩ := hT k' hk'
    have o9 : gv U2 1 9 k' = U 10 k' := congrFun (uout 10 (by decide) (by decide) (by decide)) k'
    by_cases c : k' = k
    · subst c
      rw [g3, g5, g7, o9, v5, v6, v7]
      refine ⟨rfl, rfl, rfl, ?_, tb⟩
      rw [s1, upd_ne (by omega), upd_ne (by omega), upd_ne (by omega)]
      exact f4
    · have o3 : gv U2 1 3 k' = U 4 k' := (congrFun u4 k').trans (upd_ne c)
      have o5 : gv U2 1 5 k' = U 6 k' := (congrFun u6 k').trans (upd_ne c)
      have o7 : gv U2 1 7 k' = U 8 k' := (congrFun u8 k').trans (upd_ne c)
      have so : ∀ m, m < 4 → S2 1 (5 + m + 4 * k') = S' 1 (5 + m + 4 * k') := fun m hm => by
        rw [s1, upd_ne (by omega), upd_ne (by omega), upd_ne (by omega)]
      rw [o3, o5, o7, o9, so 0 (by decide), show S2 1 (6 + 4 * k') = S' 1 (6 + 4 * k') from so 1 (by decide), show S2 1 (7 + 4 * k') = S' 1 (7 + 4 * k') from so 2 (by decide), show S2 1 (8 + 4 * k') = S' 1 (8 + 4 * k') from so 3 (by decide)]
      exact ⟨f1, f2, f3, f4, f5⟩
theorem r_lays {S S' : Mem} {j : Nat} (hj : j < 131) (x : Int32) (e : qX7_record S = some S') : qX7_lays S (nI j) x = some (S' 1 j, sv S' 1 j x) := by
  unfold qX7_lays lt
  try dsimp only
  rw [e, Option.bind_some, gd_nI hj, nI_clamp (by omega)]
theorem sim_gauge {V S : Mem} (h : RR V S) (a1 a2 : Int32) : ∃ S', qX7_gauge S a1 a2 = some ((fX6_gauge V a1 a2).1, S') ∧ RR (fX6_gauge V a1 a2).2 S' := by
  unfold qX7_gauge fX6_gauge lt
  try dsimp only
  rw [in_same]
  rcases store_cases a1 with ⟨c1, c2⟩ | ⟨k, hk, rfl, c1, c2⟩
  · rw [c1, c2, if_pos rfl, if_pos rfl]
    exact ⟨S, rfl, h⟩
  rw [c1, c2, if_neg one_no, if_neg one_no]
  rcases within_cases a2 (-50) 50 with z | ⟨z, z1, z2⟩
  · rw [z, if_pos rfl, if_pos rfl]
    exact ⟨S, rfl, h⟩
  rw [z, if_neg one_no, if_neg one_no]
  clear z
  have z3 : -50 ≤ a2.toInt := by
    have := Int32.not_lt.mp z1
    rw [Int32.le_iff_toInt_le] at this
    have e : (-50 : Int32).toInt = -50 := by decide
    omega
  have z4 : a2.toInt ≤ 50 := by
    rw [Int32.le_iff_toInt_le] at z2
    have e : (50 : Int32).toInt = 50 := by decide
    omega
  obtain ⟨S', e, es, ev, h'⟩ := h.rec
  rw [os3]
  try dsimp only
  rw [r_lays (by omega) a2 e, Option.bind_some]
  generalize fX6_record V = U at ev h' ⊢
  rw [cset_nI hk, cget_nI hk]
  obtain ⟨⟨n, t, r, q, d, L, ht, p⟩, -⟩ := id h'
  have hT := p.1
  have e4 : S' 1 (8 + 4 * k) = U 10 k := (hT k hk).2.2.2.1
  rw [e4]
  refine ⟨_, rfl, h'.now (fun j hj => sv_k (by omega)) (fun j h1 h2 => sv_k h1) ⟨n, t, r, q, d, L, ht, p.setT (fun j h1 h2 h3 h4 h5 => sv_k (by omega)) (fun j h1 h2 => sv_j (by omega)) (fun k' hk' => ?_)⟩⟩
  obtain ⟨f1, f2, f3, f4, a, b, c, f5, f6, f7, f8, f9, f10, f11, f12, f13⟩ := hT k' hk'
  have g9 : gv (sv U 10 k a2) 1 9 = upd (U 10) k a2 := sv_row
  dsimp only
  rw [sv_row]
  have so : ∀ m, m < 3 → upd (S' 1) (8 + 4 * k) a2 (5 + m + 4 * k') = S' 1 (5 + m + 4 * k') := fun m hm => upd_ne (by omega)
  rw [so 0 (by decide), show upd (S' 1) (8 + 4 * k) a2 (6 + 4 * k') = S' 1 (6 + 4 * k') from so 1 (by decide), show upd (S' 1) (8 + 4 * k) a2 (7 + 4 * k') = S' 1 (7 + 4 * k') from so 2 (by decide), g9]
  refine ⟨f1, f2, f3, ?_, a, b, c, f5, f6, f7, f8, f9, f10, f11, ?_, ?_⟩
  · by_cases c : k' = k
    · subst c
      rw [upd_at, upd_at]
    · rw [upd_ne (by omega), upd_ne c]
      exact f4
  · by_cases c : k' = k
    · subst c
      rw [upd_at]
      exact z3
    · rw [upd_ne c]
      exact f12
  · by_cases c : k' = k
    · subst c
      rw [upd_at]
      exact z4
    · rw [upd_ne c]
      exact f13
