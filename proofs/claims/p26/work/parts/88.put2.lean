/-! put, both sides -/
theorem put_words {t k m : Nat} {q : Nat → Option Nat} {d : Nat → Nat} {B0 : Mem} {c : Nat → Nat} (hm : m ≤ 60) (hk : k < 2) (hB : ∀ i, i < m → B0 87 i = nI (c i) ∧ c i ≤ 126) : ∀ (N p n f : Nat) (r L : Nat → List Nat) (M : Mem), m - p ≤ N → p ≤ m → (m - p) + 2 ≤ f → gF c m (m - p) p 0 = -1006 → n + 1 + ncom c (m - p) p ≤ 12 → M 0 1 = nI m → (∀ i, i < m → M 6 i = nI (c i) ∧ c i ≤ 126) → Mid n t r q d L k [] (gv (fld (brC (nI k)) p B0) 1) (M 1) → ∃ (n' : Nat) (r' L' : Nat → List Nat) (s' : Nat → Int32) (x : Int32), RwE 0 n' t r' q d L' (gv (fld (brC (nI k)) m B0) 1) s' ∧ it (lbX7_put_53 (nI k)) f (0, nI p, M) = some (x, nI (m + 1), cpv M 1 s') := by
  intro N
  induction N with
  | zero =>
    intro p n f r L M hN hp hf hg hn h0 hc hM
    have hz : m - p = 0 := by omega
    rw [hz] at hg
    have hg' : (if (0 : Nat) = 0 then nI m else -1006) = -1006 := hg
    rw [if_pos rfl] at hg'
    exact absurd hg' (nI_no60 hm)
  | succ N ih =>
    intro p n f r L M hN hp hf hg hn h0 hc hM
    obtain ⟨l, l1, l6, lm, lj, le⟩ := gF_ok hm (m - p) 0 (by omega) (by omega) (fun j hj => absurd hj (by omega)) hg
    obtain ⟨f', rfl⟩ : ∃ f', f = (f' + 1) + l := ⟨f - l - 1, by omega⟩
    rw [m_letters hm h0 hc l l6 lm lj]
    have hMid := c_letters hm hB hM l l6 lm lj
    have hE := mid_end hMid (by rw [dig_len]; exact l1)
    obtain ⟨w0, p0, n12, -⟩ := hM
    have m4 : M 1 4 = nI n := p0.2.2.2.2.1.2.2.2.2.2.2
    have hrs : rowS (M 1) k (r k) := p0.2.2.2.2.2.2.1 k hk
    have hlen : (r k).length < 12 := Nat.lt_of_le_of_lt (p0.2.2.2.2.2.2.2.2.2.1.len hk) n12
    have hcr := m_create (i := p + l) (code := nI (enc (dig c p l) 0)) hm n12 hk h0 m4 hc hrs hlen (by
      rcases le with z | ⟨z, z2, -⟩
      · exact Or.inl z
      · exact Or.inr ⟨z, z2⟩)
    rw [it_s hcr]
    rcases le with z | ⟨z, z2, z3⟩
    · obtain ⟨f'', rfl⟩ : ∃ g, f' = g + 1 := ⟨f' - 1, by omega⟩
      refine ⟨n + 1, ur r k (r k ++ [n]), ur L n (dig c p l), crS (M 1) n (nI (enc (dig c p l) 0)) k (r k).length, 0, ?_, ?_⟩
      · rw [z] at hE
        exact hE
      · rw [z]
        have hx : cpv M 1 (crS (M 1) n (nI (enc (dig c p l) 0)) k (r k).length) 0 1 < nI (m + 1) := by
          rw [cpv_k (show (0 : Nat) ≠ 1 by decide), h0]
          exact nI_lt (by omega) (by omega)
        refine it_o ?_
        unfold lbX7_put_53
        dsimp only
        exact if_pos hx
    · have hcom : ncom c (m - p) p = 1 + ncom c (m - (p + l + 1)) (p + l + 1) := by
        rw [ncom_run l lm lj]
        obtain ⟨y, hy⟩ : ∃ y, m - (p + l) = y + 1 := ⟨m - (p + l) - 1, by omega⟩
        rw [hy, show m - (p + l + 1) = y by omega]
        show (if c (p + l) = 44 then 1 else 0) + ncom c y (p + l + 1) = _
        rw [if_pos z2]
      have hs : Mid (n + 1) t (ur r k (r k ++ [n])) q d (ur L n (dig c p l)) k [] (gv (fld (brC (nI k)) (p + l + 1) B0) 1) (cpv M 1 (crS (M 1) n (nI (enc (dig c p l) 0)) k (r k).length) 1) := by
        rw [cpv_at]
        have e : fld (brC (nI k)) (p + l + 1) B0 = pv (fld (brC (nI k)) (p + l) B0) 1 42 (fX4_startWord (gv (fld (brC (nI k)) (p + l) B0) 1) (nI k)) := by
          have e0 : fld (brC (nI k)) (p + l + 1) B0 = brC (nI k) (p + l) (fld (brC (nI k)) (p + l) B0) := rfl
          rw [e0]
          have ec : cget 60 (fld (brC (nI k)) (p + l) B0 87) (nI (p + l)) = (44 : Int32) := by
            rw [cget_nI (by omega), br_r _ 87 (by decide), (hB _ z).1, z2]
            rfl
          generalize fld (brC (nI k)) (p + l) B0 = X at ec ⊢
          unfold brC
          rw [if_pos ec]
        rw [e]
        exact (mid_start hE (by omega) hk).w (fun j a => gv1_pv a)
      obtain ⟨n', r', L', s', x, k1, k2⟩ := ih (p + l + 1) (n + 1) f' _ _ (cpv M 1 (crS (M 1) n (nI (enc (dig c p l) 0)) k (r k).length)) (by omega) (by omega) (by omega) z3 (by omega) (by rw [cpv_k (by decide)]; exact h0) (fun i hi => by rw [cpv_k (by decide)]; exact hc i hi) hs
      rw [cpv_cpv] at k2
      exact ⟨n', r', L', s', x, k1, k2⟩
theorem sim_put {V S : Mem} (h : RR V S) (a1 : Int32) : ∃ S', qX7_put S a1 = some ((fX6_put V a1).1, S') ∧ RR (fX6_put V a1).2 S' := by
  obtain ⟨m, c, hm, e1, e2, h1, h2⟩ := h.2.1.codes
  unfold qX7_put fX6_put
  simp only [lt_e]
  rcases store_cases a1 with ⟨c1, c2⟩ | ⟨k, hk, rfl, c1, c2⟩
  · rw [c1, c2, if_pos rfl, if_pos rfl]
    exact ⟨S, rfl, h⟩
  rw [c1, c2, if_neg one_no, if_neg one_no, r_wrong hm e2 h2, c_fault hm e1 h1, Option.bind_some]
  by_cases hg : gF c m m 0 0 = -1006
  · rw [if_pos hg, if_pos hg, r_told hm e2 h2, c_told hm e1 h1, Option.bind_some]
    obtain ⟨S', e, es, ev, h'⟩ := h.rec
    have ep := h'.2.1
    rw [e, Option.bind_some]
    rw [← ev 28 (by decide) (by decide), ← es 1 (by decide) (by decide)]
    rw [← ev 85 (by decide) (by decide)] at e1
    rw [← ev 87 (by decide) (by decide)] at h1
    rw [← es 6 (by decide) (by decide)] at h2
    have e2' : S' 0 1 = nI m := by
      obtain ⟨m', hm', x1, x2, -⟩ := ep
      rw [x2, ← x1, e1]
    generalize fX6_record V = U at ev h' e1 h1 ep ⊢
    obtain ⟨⟨n, t, r, q, d, L, ht, p⟩, -⟩ := id h'
    have n12 := p.2.2.2.2.2.2.2.2.2.1.1
    have q6 : U 28 0 = nI n := p.2.2.2.2.1.2.2.2.2.2.1
    have q7 : S' 1 4 = nI n := p.2.2.2.2.1.2.2.2.2.2.2
    have hn60 : ncom c m 0 ≤ m := ncom_le m 0
    rw [q6, q7, nI_add]
    by_cases cc : n + (1 + ncom c m 0) ≤ 12
    · have cc' : nI (n + (1 + ncom c m 0)) ≤ (12 : Int32) := nI_le (b := 12) cc (by decide)
      rw [if_pos cc', if_pos cc']
      have hB : ∀ i, i < m → pv U 1 42 (fX4_startWord (gv U 1) (nI k)) 87 i = nI (c i) ∧ c i ≤ 126 := fun i hi => by
        rw [pvo (by decide)]
        exact h1 i hi
      have hMid : Mid n t r q d L k [] (gv (fld (brC (nI k)) 0 (pv U 1 42 (fX4_startWord (gv U 1) (nI k)))) 1) (S' 1) := (mid_start p (by omega) hk).w (fun j a => gv1_pv a)
      obtain ⟨n', r', L', s', x, k1, k2⟩ := put_words hm hk hB m 0 n fuel r L S' (by omega) (by omega) (by rw [Nat.sub_zero]; exact fuel_lt (n := m + 1) (by omega)) hg (by rw [Nat.sub_zero]; omega) e2' h2 hMid
      rw [show it (lbX7_put_53 (nI k)) fuel ((0 : Int32), (0 : Int32), S') = some (x, nI (m + 1), cpv S' 1 s') from k2, Option.bind_some]
      have eb : fX6_bringWords U (nI k) = fld (brC (nI k)) m (pv U 1 42 (fX4_startWord (gv U 1) (nI k))) := by
        unfold fX6_bringWords
        rw [e1, nI_clamp (by omega)]
      have bo : ∀ j, j < 1 ∨ 43 ≤ j → fld (brC (nI k)) m (pv U 1 42 (fX4_startWord (gv U 1) (nI k))) j = U j := fun j hj => (br_r m j hj).trans (pvo (by omega))
      rw [eb]
      generalize fld (brC (nI k)) m (pv U 1 42 (fX4_startWord (gv U 1) (nI k))) = C at k1 bo ⊢
      dsimp only
      have hR : RR C (cpv S' 1 s') := h'.now (fun j hj => bo j (by omega)) (fun j a b => cpv_k a) ⟨n', t, r', q, d, L', ht, by rw [cpv_at]; exact k1⟩
      have hw := (sim_wipe hR).2
      have ea : sv (cpv S' 1 s') 0 1 0 1 4 = sv C 85 0 0 28 0 := by
        rw [sv_k (by decide), sv_k (by decide), cpv_at]
        exact k1.2.2.2.2.1.2.2.2.2.2.2.trans k1.2.2.2.2.1.2.2.2.2.2.1.symm
      rw [ea]
      exact ⟨_, rfl, hw⟩
    · have cc' : ¬ nI (n + (1 + ncom c m 0)) ≤ (12 : Int32) := nI_ge (a := 12) (by omega) (by omega)
      rw [if_neg cc', if_neg cc']
      exact ⟨S, rfl, h⟩
  · rw [if_neg hg, if_neg hg]
    exact ⟨S, rfl, h⟩
