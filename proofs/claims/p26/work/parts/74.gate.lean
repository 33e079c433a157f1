/-! gate, shut -/
theorem RwE.setG {b : Int32} {n t : Nat} {r : Nat → List Nat} {h : Nat → Option Nat} {d : Nat → Nat} {L : Nat → List Nat} {w w' : Mem} {s s' : Nat → Int32} (p : RwE b n t r h d L w s) (hw : ∀ j, j < 42 → j ≠ 12 → j ≠ 14 → j ≠ 16 → j ≠ 18 → w' j = w j) (hs : ∀ j, j < 131 → (∀ g q, g < 4 → q < 4 → j ≠ 13 + q + 8 * g) → s' j = s j) (hG : pG (w' 12) (w' 14) (w' 16) (w' 18) s') : RwE b n t r h d L w' s' := by
  obtain ⟨p1, _, p3, p4, p5, p6, p7, p8, p9, p10, p11, p12, p13⟩ := p
  have hn := p10.1
  have q1 := p1.s (s' := s') (fun j h1 h2 => hs _ (by omega) (fun g q h1 h2 => by omega))
  have q3 := p3.s (s' := s') (fun g h1 => hs _ (by omega) (fun g q h1 h2 => by omega))
  have q4 := p4.s (s' := s') (fun g q h1 h2 => hs _ (by omega) (fun g q h1 h2 => by omega))
  have q5 := p5.s (s' := s') (fun j h1 => hs j (by omega) (fun g q h1 h2 => by omega))
  have q7 := p7.s (s' := s') (fun j h1 h2 => hs j (by omega) (fun g q h1 h2 => by omega))
  have q8 := p8.s (s' := s') (fun v h1 => hs _ (by omega) (fun g q h1 h2 => by omega))
  have q9 := p9.s (s' := s') (fun v q h1 h2 => hs _ (by omega) (fun g q h1 h2 => by omega))
  have q12 := p12.s (s' := s') (fun v h1 => hs _ (by omega) (fun g q h1 h2 => by omega))
  have e : ∀ j, j < 42 ∧ j ≠ 12 ∧ j ≠ 14 ∧ j ≠ 16 ∧ j ≠ 18 → w' j = w j := fun j hj => hw j hj.1 hj.2.1 hj.2.2.1 hj.2.2.2.1 hj.2.2.2.2
  unfold RwE
  rw [e 3 (by decide), e 5 (by decide), e 7 (by decide), e 9 (by decide), e 20 (by decide), e 22 (by decide), e 24 (by decide), e 26 (by decide), e 0 (by decide), e 27 (by decide), e 39 (by decide), e 41 (by decide), e 29 (by decide), e 31 (by decide), e 33 (by decide), e 35 (by decide), e 37 (by decide)]
  exact ⟨q1, hG, q3, q4, q5, p6, q7, q8, q9, p10, p11, q12, p13⟩
theorem c_hasWord {w : Mem} {g : Nat} (hg : g < 4) : fX1_hasWord w (nI g) = if w 20 g = -1006 then 0 else 1 := by
  unfold fX1_hasWord lt
  rw [cget_nI hg]
theorem c_isShut {w : Mem} {g : Nat} (hg : g < 4) : fX1_isShut w (nI g) = if w 18 g = 0 then 0 else 1 := by
  unfold fX1_isShut lt
  rw [cget_nI hg]
theorem c_chG {U : Mem} {g : Nat} (hg : g < 4) (x y z : Int32) : fX1_change (gv U 11) (nI g) x y z = sv (sv (sv (gv U 11) 2 g x) 4 g y) 6 g z := by
  unfold fX1_change lt
  try dsimp only
  rw [cset_nI hg, cset_nI hg, cset_nI hg]
/-- the change of a gate: both sides, after the record -/
theorem gate_go {V S : Mem} (h : RR V S) {g x y z : Nat} (hg : g < 4) (hx : x < 2) (hy : y ≤ 99) (hz : z < 2) : ∃ S', (qX7_lays S (nI (14 + 8 * g)) (nI y)).bind (fun U13 => if nI (13 + 8 * g) < 0 ∨ 131 ≤ (nI (13 + 8 * g)).toNatClampNeg then none else if nI (15 + 8 * g) < 0 ∨ 131 ≤ (nI (15 + 8 * g)).toNatClampNeg then none else some (U13.1, sv (sv U13.2 1 (nI (13 + 8 * g)).toNatClampNeg (nI x)) 1 (nI (15 + 8 * g)).toNatClampNeg (nI z))) = some (cget 4 (fX6_record V 15) (nI g), S') ∧ RR (pv (fX6_record V) 11 17 (fX1_change (gv (fX6_record V) 11) (nI g) (nI x) (nI y) (nI z))) S' := by
  obtain ⟨S', e, es, ev, h'⟩ := h.rec
  rw [r_lays (by omega) _ e, Option.bind_some]
  generalize fX6_record V = U at ev h' ⊢
  try dsimp only
  rw [gd_nI (by omega), gd_nI (by omega), nI_clamp (n := 13 + 8 * g) (by omega), nI_clamp (n := 15 + 8 * g) (by omega), c_chG hg, cget_nI hg]
  obtain ⟨⟨n, t, r, q, d, L, ht, p⟩, -⟩ := id h'
  have hG := p.2.1
  have e1 : S' 1 (14 + 8 * g) = U 15 g := (hG g hg).2.1
  rw [e1]
  have s1 : sv (sv (sv S' 1 (14 + 8 * g) (nI y)) 1 (13 + 8 * g) (nI x)) 1 (15 + 8 * g) (nI z) 1 = upd (upd (upd (S' 1) (14 + 8 * g) (nI y)) (13 + 8 * g) (nI x)) (15 + 8 * g) (nI z) := by
    rw [sv_row, sv_row, sv_row]
  have sout : ∀ j, j ≠ 1 → sv (sv (sv S' 1 (14 + 8 * g) (nI y)) 1 (13 + 8 * g) (nI x)) 1 (15 + 8 * g) (nI z) j = S' j := fun j hj => by
    rw [sv_k hj, sv_k hj, sv_k hj]
  generalize sv (sv (sv S' 1 (14 + 8 * g) (nI y)) 1 (13 + 8 * g) (nI x)) 1 (15 + 8 * g) (nI z) = S2 at s1 sout ⊢
  have u13 : pv U 11 17 (sv (sv (sv (gv U 11) 2 g (nI x)) 4 g (nI y)) 6 g (nI z)) 13 = upd (U 13) g (nI x) := sv_row
  have u15 : pv U 11 17 (sv (sv (sv (gv U 11) 2 g (nI x)) 4 g (nI y)) 6 g (nI z)) 15 = upd (U 15) g (nI y) := sv_row
  have u17 : pv U 11 17 (sv (sv (sv (gv U 11) 2 g (nI x)) 4 g (nI y)) 6 g (nI z)) 17 = upd (U 17) g (nI z) := sv_row
  have uout : ∀ j, j ≠ 13 → j ≠ 15 → j ≠ 17 → pv U 11 17 (sv (sv (sv (gv U 11) 2 g (nI x)) 4 g (nI y)) 6 g (nI z)) j = U j := fun j h1 h2 h3 => pv3_out (by omega) (by omega) (by omega)
  generalize pv U 11 17 (sv (sv (sv (gv U 11) 2 g (nI x)) 4 g (nI y)) 6 g (nI z)) = U2 at u13 u15 u17 uout ⊢
  refine ⟨S2, rfl, h'.now (fun j hj => uout j (by omega) (by omega) (by omega)) (fun j h1 h2 => sout j h1) ⟨n, t, r, q, d, L, ht, p.setG (fun j h1 h2 h3 h4 h5 => uout (1 + j) (by omega) (by omega) (by omega)) (fun j h1 h2 => ?_) (fun g' hg' => ?_)⟩⟩
  · have a0 := h2 g 0 hg (by decide)
    have a1 := h2 g 1 hg (by decide)
    have a2 := h2 g 2 hg (by decide)
    rw [s1, upd_ne (by omega), upd_ne (by omega), upd_ne (by omega)]
  · obtain ⟨f1, f2, f3, f4, f5, f6, f7, f8⟩ := hG g' hg'
    have o18 : gv U2 1 18 = U 19 := uout 19 (by decide) (by decide) (by decide)
    by_cases c : g' = g
    · subst c
      have g12 : gv U2 1 12 g' = nI x := (congrFun u13 g').trans upd_at
      have g14 : gv U2 1 14 g' = nI y := (congrFun u15 g').trans upd_at
      have g16 : gv U2 1 16 g' = nI z := (congrFun u17 g').trans upd_at
      rw [g12, g14, g16, o18, s1]
      refine ⟨?_, ?_, ?_, ?_, ⟨x, hx, rfl⟩, ⟨y, hy, rfl⟩, ?_, f8⟩
      · rw [upd_ne (by omega), upd_at]
      · rw [upd_ne (by omega), upd_ne (by omega), upd_at]
      · rw [upd_at]
      · rw [upd_ne (by omega), upd_ne (by omega), upd_ne (by omega)]
        exact f4
      · obtain rfl | rfl : z = 0 ∨ z = 1 := by omega
        · exact Or.inl rfl
        · exact Or.inr rfl
    · have g12 : gv U2 1 12 g' = U 13 g' := (congrFun u13 g').trans (upd_ne c)
      have g14 : gv U2 1 14 g' = U 15 g' := (congrFun u15 g').trans (upd_ne c)
      have g16 : gv U2 1 16 g' = U 17 g' := (congrFun u17 g').trans (upd_ne c)
      have so : ∀ m, m < 4 → S2 1 (13 + m + 8 * g') = S' 1 (13 + m + 8 * g') := fun m hm => by
        rw [s1, upd_ne (by omega), upd_ne (by omega), upd_ne (by omega)]
      rw [g12, g14, g16, o18, so 0 (by decide), show S2 1 (14 + 8 * g') = S' 1 (14 + 8 * g') from so 1 (by decide), show S2 1 (15 + 8 * g') = S' 1 (15 + 8 * g') from so 2 (by decide), show S2 1 (16 + 8 * g') = S' 1 (16 + 8 * g') from so 3 (by decide)]
      exact ⟨f1, f2, f3, f4, f5, f6, f7, f8⟩
theorem sim_gate {V S : Mem} (h : RR V S) (a1 a2 a3 a4 : Int32) : ∃ S', qX7_gate S a1 a2 a3 a4 = some ((fX6_gate V a1 a2 a3 a4).1, S') ∧ RR (fX6_gate V a1 a2 a3 a4).2 S' := by
  unfold qX7_gate fX6_gate lt
  try dsimp only
  rw [in_same, in_same, in_same]
  rcases gate_cases a1 with ⟨c1, c2⟩ | ⟨g, hg, rfl, c1, c2⟩
  · rw [c1, c2, if_pos rfl, if_pos rfl]
    exact ⟨S, rfl, h⟩
  rw [c1, c2, if_neg one_no, if_neg one_no]
  rcases within_nat (a := a2) (hi := 1) (n := 1) rfl with z | ⟨z, x, hx, rfl⟩
  · rw [z, if_pos rfl, if_pos rfl]
    exact ⟨S, rfl, h⟩
  rw [z, if_neg one_no, if_neg one_no]
  clear z
  rcases within_nat (a := a3) (hi := 99) (n := 99) rfl with z | ⟨z, y, hy, rfl⟩
  · rw [z, if_pos rfl, if_pos rfl]
    exact ⟨S, rfl, h⟩
  rw [z, if_neg one_no, if_neg one_no]
  clear z
  rcases within_nat (a := a4) (hi := 1) (n := 1) rfl with z | ⟨z, u, hu, rfl⟩
  · rw [z, if_pos rfl, if_pos rfl]
    exact ⟨S, rfl, h⟩
  rw [z, if_neg one_no, if_neg one_no]
  clear z
  obtain ⟨S', e, h'⟩ := gate_go h hg (show x < 2 by omega) hy (show u < 2 by omega)
  obtain ⟨⟨n, t, r, q, d, L, ht, p⟩, -⟩ := id h
  have hG := p.2.1
  have hH := p.2.2.1 g hg
  rw [og0, og1, og2, og4]
  try dsimp only
  rw [gd_nI (by omega), nI_clamp (n := 17 + 8 * g) (by omega), gd_nI (by omega), nI_clamp (n := 13 + 8 * g) (by omega)]
  rw [nI_clamp (n := 13 + 8 * g) (by omega)] at e
  rw [c_hasWord hg, show gv V 1 20 g = hI (q g) from hH.1, hH.2]
  by_cases c : hI (q g) = -1006
  · rw [if_pos c, if_pos c, if_pos rfl]
    exact ⟨S', e, h'⟩
  · rw [if_neg c, if_neg c, if_neg one_no, cget_nI hg, (hG g hg).1]
    by_cases c2 : V 13 g = nI x
    · rw [if_pos (show gv V 1 12 g = nI x from c2), if_pos c2.symm]
      exact ⟨S', e, h'⟩
    · rw [if_neg (show ¬ gv V 1 12 g = nI x from c2), if_neg (fun e => c2 e.symm)]
      exact ⟨S, rfl, h⟩
theorem shut_go {V S : Mem} (h : RR V S) {g : Nat} (hg : g < 4) {x : Int32} (hx : x = 0 ∨ x = 1) : ∃ S', qX7_lays S (nI (16 + 8 * g)) x = some (V 19 g, S') ∧ RR (sv (fX6_record V) 19 g x) S' ∧ S' 1 16 + S' 1 24 + S' 1 32 + S' 1 40 = csum 4 (sv (fX6_record V) 19 g x 19) := by
  obtain ⟨S', e, es, ev, h'⟩ := h.rec
  rw [r_lays (by omega) _ e, ← ev 19 (by decide) (by decide)]
  generalize fX6_record V = U at ev h' ⊢
  obtain ⟨⟨n, t, r, q, d, L, ht, p⟩, -⟩ := id h'
  have hG := p.2.1
  have e1 : S' 1 (16 + 8 * g) = U 19 g := (hG g hg).2.2.2.1
  rw [e1]
  have hG2 : pG (gv (sv U 19 g x) 1 12) (gv (sv U 19 g x) 1 14) (gv (sv U 19 g x) 1 16) (gv (sv U 19 g x) 1 18) (sv S' 1 (16 + 8 * g) x 1) := fun g' hg' => by
    obtain ⟨f1, f2, f3, f4, f5, f6, f7, f8⟩ := hG g' hg'
    have o18 : gv (sv U 19 g x) 1 18 = upd (U 19) g x := sv_row
    rw [sv_row, o18]
    refine ⟨(upd_ne (by omega)).trans f1, (upd_ne (by omega)).trans f2, (upd_ne (by omega)).trans f3, ?_, f5, f6, f7, ?_⟩
    · by_cases c : g' = g
      · subst c
        rw [upd_at, upd_at]
      · rw [upd_ne (by omega), upd_ne c]
        exact f4
    · by_cases c : g' = g
      · subst c
        rw [upd_at]
        exact hx
      · rw [upd_ne c]
        exact f8
  refine ⟨_, rfl, h'.now (fun j hj => sv_k (by omega)) (fun j h1 h2 => sv_k h1) ⟨n, t, r, q, d, L, ht, p.setG (fun j h1 h2 h3 h4 h5 => sv_k (by omega)) (fun j h1 h2 => sv_j ?_) hG2⟩, ?_⟩
  · have := h2 g 3 hg (by decide)
    omega
  · have s0 : sv S' 1 (16 + 8 * g) x 1 16 = sv U 19 g x 19 0 := (hG2 0 (by decide)).2.2.2.1
    have s1 : sv S' 1 (16 + 8 * g) x 1 24 = sv U 19 g x 19 1 := (hG2 1 (by decide)).2.2.2.1
    have s2 : sv S' 1 (16 + 8 * g) x 1 32 = sv U 19 g x 19 2 := (hG2 2 (by decide)).2.2.2.1
    have s3 : sv S' 1 (16 + 8 * g) x 1 40 = sv U 19 g x 19 3 := (hG2 3 (by decide)).2.2.2.1
    rw [s0, s1, s2, s3]
    generalize sv U 19 g x 19 = f
    show _ = (((0 : Int32) + f 0) + f 1) + f 2 + f 3
    rw [Int32.zero_add]
theorem sim_shut {V S : Mem} (h : RR V S) (a1 a2 : Int32) (ha : a2 = 0 ∨ a2 = 1) : ∃ S', qX7_shut S a1 a2 = some ((fX6_shut V a1 a2).1, S') ∧ RR (fX6_shut V a1 a2).2 S' := by
  unfold qX7_shut fX6_shut lt
  try dsimp only
  rcases gate_cases a1 with ⟨c1, c2⟩ | ⟨g, hg, rfl, c1, c2⟩
  · rw [c1, c2, if_pos rfl, if_pos rfl]
    exact ⟨S, rfl, h⟩
  rw [c1, c2, if_neg one_no, if_neg one_no]
  obtain ⟨⟨n, t, r, q, d, L, ht, p⟩, -⟩ := id h
  obtain ⟨f1, f2, f3, f4, f5, f6, f7, f8⟩ := p.2.1 g hg
  have k3 : fX7_ofGate (nI g) (3 : Int32) = nI (16 + 8 * g) := og3 g
  have e0 : fX7_ofGate (0 : Int32) (3 : Int32) = nI 16 := og3 0
  have e1 : fX7_ofGate (1 : Int32) (3 : Int32) = nI 24 := og3 1
  have e2 : fX7_ofGate (2 : Int32) (3 : Int32) = nI 32 := og3 2
  have e3 : fX7_ofGate (3 : Int32) (3 : Int32) = nI 40 := og3 3
  rw [k3, e0, e1, e2, e3]
  try dsimp only
  have fs : fX1_isShut (gv V 1) (nI g) = gv V 1 18 g := by
    rw [c_isShut hg]
    rcases f8 with z | z
    · rw [z, if_pos rfl]
    · rw [z, if_neg one_no]
  rw [gd_nI (by omega), nI_clamp (n := 16 + 8 * g) (by omega), f4, fs]
  obtain ⟨S', b1, b2, b3⟩ := shut_go h hg ha
  have tail : (qX7_lays S (nI (16 + 8 * g)) a2).bind (fun U8 => if nI 16 < 0 ∨ 131 ≤ (nI 16).toNatClampNeg then none else if nI 24 < 0 ∨ 131 ≤ (nI 24).toNatClampNeg then none else if nI 32 < 0 ∨ 131 ≤ (nI 32).toNatClampNeg then none else if nI 40 < 0 ∨ 131 ≤ (nI 40).toNatClampNeg then none else some (((((U8.2 1 (nI 16).toNatClampNeg) + (U8.2 1 (nI 24).toNatClampNeg)) + (U8.2 1 (nI 32).toNatClampNeg)) + (U8.2 1 (nI 40).toNatClampNeg)), U8.2)) = some (csum 4 (sv (fX6_record V) 19 g a2 19), S') := by
    rw [b1, Option.bind_some, gd_nI (by decide), gd_nI (by decide), gd_nI (by decide), gd_nI (by decide), nI_clamp (n := 16) (by decide), nI_clamp (n := 24) (by decide), nI_clamp (n := 32) (by decide), nI_clamp (n := 40) (by decide), ← b3]
  rcases ha with rfl | rfl
  · rw [if_pos rfl]
    by_cases c : gv V 1 18 g = 0
    · rw [if_pos c, if_pos c]
      exact ⟨S, rfl, h⟩
    · rw [if_neg c, if_neg c, if_pos rfl, cset_nI hg]
      exact ⟨S', tail, b2⟩
  · rw [if_neg one_no]
    by_cases c : gv V 1 18 g = 1
    · rw [if_pos c, if_pos c]
      exact ⟨S, rfl, h⟩
    · rw [if_neg c, if_neg c, if_neg one_no, cset_nI hg]
      exact ⟨S', tail, b2⟩
