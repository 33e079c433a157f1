/-! what would be is tried, and undone: all of it -/
theorem far_j {b i : Nat} (hb : b < 101) (hi : i < 101) : ∃ jf : Int32, (if lieN b * lieN b < lieN i * lieN i then some ((1 : Int32)) else if lieN i * lieN i = lieN b * lieN b then if lieN i < lieN b then some ((0 : Int32)) else some ((1 : Int32)) else some ((0 : Int32)) : Option Int32) = some jf ∧ (b ≤ i → ¬ jf = 0) := by
  by_cases c1 : lieN b * lieN b < lieN i * lieN i
  · exact ⟨1, if_pos c1, fun _ => one_no⟩
  · by_cases c2 : lieN i * lieN i = lieN b * lieN b
    · by_cases c3 : lieN i < lieN b
      · refine ⟨0, (if_neg c1).trans ((if_pos c2).trans (if_pos c3)), fun h => ?_⟩
        rcases lie_far b hb i hi h with z | ⟨-, z⟩
        · exact absurd z c1
        · exact absurd c3 z
      · exact ⟨1, (if_neg c1).trans ((if_pos c2).trans (if_neg c3)), fun _ => one_no⟩
    · refine ⟨0, (if_neg c1).trans (if_neg c2), fun h => ?_⟩
      rcases lie_far b hb i hi h with z | ⟨z, -⟩
      · exact absurd z c1
      · exact absurd z c2
set_option maxHeartbeats 4000000 in
set_option maxRecDepth 20000 in
theorem p26_tries {V S : Mem} {t : Nat} (h : Ok V S t) (ht : t + 500 ≤ 99999) (a1 : Int32) : ∃ V' S', qL_tries V a1 = some (1, V') ∧ Ok V' S' t := by
  obtain ⟨w, hwd⟩ : ∃ w, w = gv V 1 := ⟨_, rfl⟩
  have hw : sg V w := fun j hj => by rw [hwd]
  obtain ⟨-, -, ⟨n, r, q, d, L, G⟩, -⟩ := id h
  rw [← hwd] at G
  have n12 := G.1.2.2.2.2.2.2.2.2.2.1.1
  have w27 : w 27 0 = nI n := G.1.2.2.2.2.1.2.2.2.2.2.1
  have w00 : w 0 0 = nI t := G.1.2.2.2.2.1.1
  -- a run, forecast and made
  obtain ⟨x1, hx1, e1⟩ := l_low a1 (m := 120) (by decide) (by decide)
  have em : (1 : Int32) + nI x1 = nI (1 + x1) := nI_add 1 x1
  obtain ⟨Va, ea, ja⟩ := l_ifRun (m := 1 + x1) hw (by omega) (by omega) (x := 0) rfl
  obtain ⟨Vb, eb, jb⟩ := l_ifRun (m := 1 + x1) (hw.jq ja) (by omega) (by omega) (x := 1) rfl
  obtain ⟨Vc, ec, jc⟩ := l_ifRun (m := 1 + x1) ((hw.jq ja).jq jb) (by omega) (by omega) (x := 3) rfl
  have hc := h.jq ((ja.trans jb).trans jc)
  have wc := ((hw.jq ja).jq jb).jq jc
  obtain ⟨Vr, Sr, er, hr, dr, wr⟩ := run_w hc wc (m := 1 + x1) (by omega) (by omega) (by omega)
  obtain ⟨ua, V9, S9, eu, na, h9, w9'⟩ := trip1 hc hr dr
  have w9 : sg V9 w := fun j hj => (w9' j hj).trans (wc j hj)
  have q6c : fX6_count Vc 6 = csum 4 (w 26) := by rw [qc6, show Vc 27 = w 26 from wc 26 (by decide)]
  have q8c : fX6_count Vc 8 = w 0 2 := by rw [qc8, show Vc 1 = w 0 from wc 0 (by decide)]
  have q0c : fX6_count Vc 0 = nI t := by rw [qc0, show Vc 1 = w 0 from wc 0 (by decide), w00]
  have q6r : fX6_count Vr 6 = csum 4 (stps (1 + x1) w 26) := by rw [qc6, show Vr 27 = stps (1 + x1) w 26 from wr 26 (by decide)]
  have q8r : fX6_count Vr 8 = stps (1 + x1) w 0 2 := by rw [qc8, show Vr 1 = stps (1 + x1) w 0 from wr 0 (by decide)]
  have q0n : fX6_count V9 0 = nI t := by rw [qc0, show V9 1 = w 0 from w9 0 (by decide), w00]
  have q1n : fX6_count V9 1 = nI n := by rw [qc1, show V9 28 = w 27 from w9 27 (by decide), w27]
  -- a word
  obtain ⟨x12, hx12, e12⟩ := l_low (a1 >>> (((7 : Int32)) &&& 31)) (m := n + 1) (by omega) (by omega)
  rw [← nI_1] at e12
  obtain ⟨a, V13, V14, S14, u1, h14, w14, b2⟩ := tr2 (s := S) h9 w9 G ht hx12
  -- a slack
  obtain ⟨g, hg, e16⟩ := l_low (a1 >>> (((11 : Int32)) &&& 31)) (m := 4) (by decide) (by decide)
  have g0 : fX6_gateOf V14 (nI g) 0 = w 12 g := (qg0 V14 hg).trans (congrFun (w14 12 (by decide)) g)
  have g1 : fX6_gateOf V14 (nI g) 1 = w 14 g := (qg1 V14 hg).trans (congrFun (w14 14 (by decide)) g)
  have g2 : fX6_gateOf V14 (nI g) 2 = w 16 g := (qg2 V14 hg).trans (congrFun (w14 16 (by decide)) g)
  obtain ⟨b, V20, hb, el0, -, j20, lm, ll⟩ := l_least h14 w14 hg
  obtain ⟨b', V21, hb', -, el1, j21, lm', ll'⟩ := l_least (h14.jq j20) (w14.jq j20) hg
  have ebb : b = b' := by
    rcases Nat.lt_trichotomy b b' with z | z | z
    · exact (Int32.lt_irrefl (Int32.lt_of_lt_of_le (ll' b z) (lm b' hb'))).elim
    · exact z
    · exact (Int32.lt_irrefl (Int32.lt_of_lt_of_le (ll b' z) (lm' b hb))).elim
  subst ebb
  obtain ⟨y, hy, e22⟩ := l_low (a1 >>> (((13 : Int32)) &&& 31)) (m := 100) (by decide) (by decide)
  obtain ⟨V23, S23, h23, w23, b3⟩ := tr3 ((h14.jq j20).jq j21) ((w14.jq j20).jq j21) hg hb hy (lm y hy) (ll y)
  -- a lie
  obtain ⟨k, hk, es⟩ := pk_andE (a1 >>> (((20 : Int32)) &&& 31)) (m := (1 : Int32)) 1 (by decide)
  have s3 : fX6_store V23 (nI k) 3 = w 9 k := (qs3 V23 hk).trans (congrFun (w23 9 (by decide)) k)
  obtain ⟨c, V26, hcb, e26, j26, bm, bl⟩ := l_best h23 w23 hk hg
  have h26 := h23.jq j26
  have w26 := w23.jq j26
  obtain ⟨y2, hy2, e27⟩ := l_low (a1 >>> (((13 : Int32)) &&& 31)) (m := 101) (by decide) (by decide)
  obtain ⟨i, hi, ei⟩ := lie_all y2 hy2
  obtain ⟨V59, S59, e59, h59, d59, w59⟩ := gauge_w h26 w26 hk (lieN_in c hcb).1 (lieN_in c hcb).2
  have eo1 := l_opens h59 w59 (w 14 g)
  obtain ⟨V56, S56, e56, h56, d56, w56⟩ := gauge_w h59 w59 hk (lieN_in i hi).1 (lieN_in i hi).2
  rw [sv_at] at e56
  have w56' : sg V56 (sv w 9 k (lieN i)) := fun j hj => by
    rw [w56 j hj]
    by_cases z : j = 9
    · subst z
      rw [sv_row, sv_row, sv_row]
      funext q
      by_cases z2 : q = k
      · rw [z2, upd_at, upd_at]
      · rw [upd_ne z2, upd_ne z2, upd_ne z2]
    · rw [sv_k z, sv_k z, sv_k z]
  have eo2 := l_opens h56 w56' (w 14 g)
  obtain ⟨jf, ej, hjf⟩ := far_j hcb hi
  obtain ⟨y3, y4, Vy, Vz, Sz, f1, f2, f3, f4, f5, f6⟩ := trip2 h26 h59 d59 (Jq.rf V59) h56 d56
  have wz : sg Vz w := fun j hj => (f6 j hj).trans (w26 j hj)
  have s48 : fX6_store Vz (nI k) 3 = w 9 k := (qs3 Vz hk).trans (congrFun (wz 9 (by decide)) k)
  refine ⟨Vz, Sz, ?_, f5⟩
  unfold qL_tries
  rw [es]
  refine (bd_to e1).trans ?_
  rw [em]
  refine (lt_to ea).trans ?_
  refine (lt_to eb).trans ?_
  refine (lt_to ec).trans ?_
  refine (lt_to q6c).trans ?_
  refine (lt_to q8c).trans ?_
  refine (lt_to q0c).trans ?_
  refine (lt_to er).trans ?_
  refine (bd_to (b := ((1 : Int32), V9)) ?_).trans ?_
  · refine (if_pos rfl).trans ((lt_to q6r).trans ((if_pos (i_ab _ _)).trans ((lt_to q8r).trans ((if_pos (i_ab _ _)).trans ?_))))
    exact (bd_to eu).trans ((if_neg na).trans ((lt_to q0n).trans (if_pos rfl)))
  refine (lt_to q1n).trans ?_
  refine (bd_to e12).trans ?_
  refine (bd_to u1).trans ?_
  refine (bd_to b2).trans ?_
  refine (bd_to e16).trans ?_
  refine (lt_to g0).trans ?_
  refine (lt_to g1).trans ?_
  refine (lt_to g2).trans ?_
  refine (bd_to el0).trans ?_
  refine (bd_to el1).trans ?_
  refine (bd_to e22).trans ?_
  refine (bd_to b3).trans ?_
  refine (lt_to s3).trans ?_
  refine (bd_to e26).trans ?_
  refine (bd_to e27).trans ?_
  rw [ei]
  refine (bd_to (b := ((1 : Int32), V59)) ?_).trans ?_
  · exact (if_neg one_no).trans ((lt_to e59).trans (if_pos rfl))
  refine (bd_to eo1).trans ?_
  refine (bd_to (b := ((1 : Int32), V56)) ?_).trans ?_
  · exact (if_neg one_no).trans ((lt_to e56).trans (if_pos rfl))
  refine (bd_to eo2).trans ?_
  refine (bd_to ej).trans ?_
  refine (if_neg one_no).trans ?_
  by_cases z : nO (w 14 g) t (sv w 9 k (lieN i)) < nO (w 14 g) t (sv w 9 k (lieN c))
  · refine (if_pos z).trans ?_
    exact (bd_to f1).trans ((if_neg f2).trans ((bd_to f3).trans ((if_neg f4).trans ((lt_to s48).trans (if_pos rfl)))))
  · have ze : nO (w 14 g) t (sv w 9 k (lieN i)) = nO (w 14 g) t (sv w 9 k (lieN c)) := Int32.le_antisymm (bm i hi) (Int32.not_lt.mp z)
    have hci : c ≤ i := by
      rcases Nat.lt_or_ge i c with z2 | z2
      · exact absurd (bl i z2) z
      · exact z2
    refine (if_neg z).trans ((if_pos ze).trans ((if_neg (hjf hci)).trans ?_))
    exact (bd_to f1).trans ((if_neg f2).trans ((bd_to f3).trans ((if_neg f4).trans ((lt_to s48).trans (if_pos rfl)))))
