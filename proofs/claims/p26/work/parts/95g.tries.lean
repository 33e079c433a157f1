/-! what would be is tried, and undone -/
theorem lt_to {α β : Type} {a b : α} {f : α → β} (h : a = b) : lt a f = f b := by
  rw [h]
  exact lt_e b f
theorem bd_to {α β : Type} {o : Option α} {b : α} {f : α → Option β} (h : o = some b) : o.bind f = f b := by
  rw [h]
  rfl
theorem i_ab (a b : Int32) : b = a + (b - a) := by grind
theorem tl0 (w : Mem) : fX5_tally w 0 = csum 4 (w 24) := rfl
theorem tl1 (w : Mem) : fX5_tally w 1 = csum 4 (w 26) := rfl
theorem tl3 (w : Mem) : fX5_tally w 3 = w 0 2 := rfl
theorem Ok.c0 {V S w : Mem} {t : Nat} (h : Ok V S t) (hw : sg V w) : w 0 0 = nI t := by
  obtain ⟨-, -, ⟨n, r, q, d, L, G⟩, -⟩ := h
  rw [← hw 0 (by decide)]
  exact G.1.2.2.2.2.1.1
theorem untilX {V : Mem} {n : Nat} (hV : V 28 0 = nI n) (hn : n ≤ 12) : qX6_untilPassed V (nI n) = some (-1001, V) := by
  unfold qX6_untilPassed
  simp only [lt_e]
  rw [isW_no hV hn, if_pos rfl]
theorem tr2 {V S w s : Mem} {t n x12 : Nat} {r : Nat → List Nat} {q : Nat → Option Nat} {d : Nat → Nat} {L : Nat → List Nat} (h : Ok V S t) (hw : sg V w) (G : GW n t r q d L w (s 1)) (ht : t + 500 ≤ 99999) (hx : x12 < n + 1) : ∃ a V13 V14 S14, qX6_untilPassed V (nI x12) = some (a, V13) ∧ Ok V14 S14 t ∧ sg V14 w ∧ (if (1 : Int32) = 0 then some ((1 : Int32), V13) else if a ≤ 0 then some ((1 : Int32), V13) else if (500 : Int32) < a then some ((1 : Int32), V13) else lt (fX6_run V13 a) (fun U84 => (if U84.1 < (1 : Int32) then some ((0 : Int32), U84.2) else lt (fX6_word U84.2 (nI x12) ((3 : Int32))) (fun r88 => if r88 = (1 : Int32) then lt (fX6_word U84.2 (nI x12) ((4 : Int32))) (fun r90 => if r90 = (nI t + a) - ((1 : Int32)) then (qX6_undo U84.2 ).bind (fun U92 => if U92.1 < 0 then some ((0 : Int32), U92.2) else if a = (1 : Int32) then some ((1 : Int32), U92.2) else lt (fX6_run U92.2 (a - ((1 : Int32)))) (fun U95 => if U95.1 < 0 then some ((0 : Int32), U95.2) else lt (fX6_word U95.2 (nI x12) ((3 : Int32))) (fun r97 => if r97 = 0 then (qX6_undo U95.2 ).bind (fun U99 => if U99.1 < 0 then some ((0 : Int32), U99.2) else some ((1 : Int32), U99.2)) else some ((0 : Int32), U95.2)))) else some ((0 : Int32), U84.2)) else some ((0 : Int32), U84.2)) : Option (Int32 × Mem)).bind (fun j85 => some (j85.1, j85.2))) : Option (Int32 × Mem)) = some (1, V14) := by
  have n12 := G.1.2.2.2.2.2.2.2.2.2.1.1
  have w27 : w 27 0 = nI n := G.1.2.2.2.2.1.2.2.2.2.2.1
  have v28 : V 28 0 = nI n := (congrFun (hw 27 (by decide)) 0).trans w27
  by_cases cn : x12 = n
  · subst cn
    refine ⟨-1001, V, V, S, untilX v28 n12, h, hw, ?_⟩
    rw [if_neg one_no, if_pos (by decide)]
  · have hv : x12 < n := by omega
    obtain ⟨a, V13, u1, u2, u3⟩ := l_until v28 hv n12
    have j13 : Jq V V13 := Jq.of u2
    have h13 := h.jq j13
    have w13 := hw.jq j13
    have z : ∀ i, stps i (gv V 1) 33 x12 = stps i w 33 x12 := fun i => congrFun (stps_ag hw i (show 33 < 42 by decide)) x12
    by_cases c0 : a ≤ 0
    · refine ⟨a, V13, V13, S, u1, h13, w13, ?_⟩
      rw [if_neg one_no, if_pos c0]
    by_cases c5 : (500 : Int32) < a
    · refine ⟨a, V13, V13, S, u1, h13, w13, ?_⟩
      rw [if_neg one_no, if_neg c0, if_pos c5]
    rcases u3 with ⟨k, k1, k2, k3, k4⟩ | ⟨k1, -⟩
    · subst k2
      have k0 : 0 < k := by
        rcases Nat.eq_zero_or_pos k with q | q
        · subst q
          exact absurd (Int32.le_refl _) c0
        · exact q
      have k5 : k ≤ 500 := by
        rcases Nat.lt_or_ge 500 k with q | q
        · exact absurd (nI_lt (a := 500) q (by omega)) c5
        · exact q
      have k3' : ¬ stps k w 33 x12 = -1006 := by rw [← z k]; exact k3
      obtain ⟨k', rfl⟩ : ∃ k', k = k' + 1 := ⟨k - 1, by omega⟩
      have k4' : stps k' w 33 x12 = -1006 := by rw [← z k']; exact k4 k' (by omega)
      have k4z : w 33 x12 = -1006 := by
        have := k4 0 (by omega)
        rw [z 0] at this
        exact this
      obtain ⟨V84, S84, e84, h84, d84, w84⟩ := run_w h13 w13 (m := k' + 1) (by omega) k5 (by omega)
      obtain ⟨b, V92, S92, e92, n92, h92, w92'⟩ := trip1 h13 h84 d84
      have w92 : sg V92 w := fun j hj => (w92' j hj).trans (w13 j hj)
      obtain ⟨s1, r1, q1, d1, p1⟩ := rw_stps G.1 (k := k') (by omega)
      obtain ⟨s2, r2, q2, d2, p2⟩ := rw_stps G.1 (k := k' + 1) (by omega)
      have v84 : V84 28 0 = nI n := (congrFun (w84 27 (by decide)) 0).trans p2.2.2.2.2.1.2.2.2.2.2.1
      -- the number of words that pass
      obtain ⟨K, hK, eK, zK⟩ := psk_stps w (k' + 1)
      have eK' : csum 4 (stps (k' + 1) w 24) - csum 4 (w 24) = nI K := by
        have e' : csum 4 (stps (k' + 1) w 24) = csum 4 (w 24) + nI K := eK
        rw [e']
        generalize csum 4 (w 24) = x
        grind
      have K0 : 1 ≤ K := by
        rcases Nat.eq_zero_or_pos K with q | q
        · rw [zK q] at k3'
          exact absurd k4z k3'
        · exact q
      -- the step in which it has passed
      have est : stps (k' + 1) w 33 x12 = nI (t + k') := by
        obtain ⟨-, -, -, -, f3, -⟩ := psk_step (stps k' w) (fX3_gapAt (stps k' w) (stps k' w 0 0))
        rcases f3 x12 with y | y
        · exact absurd (y.trans k4') k3'
        · exact y.trans p1.2.2.2.2.1.1
      have q3 : fX6_word V84 (nI x12) 3 = 1 := by
        rw [qw3 v84 hv n12, show V84 34 x12 = stps (k' + 1) w 33 x12 from congrFun (w84 33 (by decide)) x12, if_neg k3']
      have q4 : fX6_word V84 (nI x12) 4 = nI (t + k') := by
        rw [qw4 v84 hv n12, ← est]
        exact congrFun (w84 33 (by decide)) x12
      have q4' : nI (t + k') = (nI t + nI (k' + 1)) - (1 : Int32) := by
        rw [nI_add, show t + (k' + 1) = t + k' + 1 by omega, nI_pred]
      by_cases c1 : k' = 0
      · subst c1
        refine ⟨_, V13, V92, S92, u1, h92, w92, ?_⟩
        refine (if_neg one_no).trans ((if_neg c0).trans ((if_neg c5).trans ((lt_to e84).trans ?_)))
        refine (bd_to (b := ((1 : Int32), V92)) ?_).trans rfl
        refine (if_neg (show ¬ csum 4 (stps (0 + 1) w 24) - csum 4 (w 24) < 1 by rw [eK']; exact nI_nlt (b := 1) K0 (by omega))).trans ?_
        refine (lt_to q3).trans ((if_pos rfl).trans ((lt_to q4).trans ((if_pos q4').trans ((bd_to e92).trans ((if_neg n92).trans (if_pos rfl))))))
      · have na : ¬ nI (k' + 1) = (1 : Int32) := fun q => by have := (nI_eq (a := k' + 1) (b := 1) (by omega) (by decide)).mp q; omega
        obtain ⟨V95, S95, e95, h95, d95, w95⟩ := run_w h92 w92 (m := k') (by omega) (by omega) (by omega)
        obtain ⟨c, V99, S99, e99, n99, h99, w99'⟩ := trip1 h92 h95 d95
        have w99 : sg V99 w := fun j hj => (w99' j hj).trans (w92 j hj)
        have v95 : V95 28 0 = nI n := (congrFun (w95 27 (by decide)) 0).trans p1.2.2.2.2.1.2.2.2.2.2.1
        have ep : nI (k' + 1) - (1 : Int32) = nI k' := nI_pred k'
        rw [← ep] at e95
        obtain ⟨K2, hK2, eK2, -⟩ := psk_stps w k'
        have eK2' : csum 4 (stps k' w 24) - csum 4 (w 24) = nI K2 := by
          have e' : csum 4 (stps k' w 24) = csum 4 (w 24) + nI K2 := eK2
          rw [e']
          generalize csum 4 (w 24) = x
          grind
        have q5 : fX6_word V95 (nI x12) 3 = 0 := by
          rw [qw3 v95 hv n12, show V95 34 x12 = stps k' w 33 x12 from congrFun (w95 33 (by decide)) x12, if_pos k4']
        refine ⟨_, V13, V99, S99, u1, h99, w99, ?_⟩
        refine (if_neg one_no).trans ((if_neg c0).trans ((if_neg c5).trans ((lt_to e84).trans ?_)))
        refine (bd_to (b := ((1 : Int32), V99)) ?_).trans rfl
        refine (if_neg (show ¬ csum 4 (stps (k' + 1) w 24) - csum 4 (w 24) < 1 by rw [eK']; exact nI_nlt (b := 1) K0 (by omega))).trans ?_
        refine (lt_to q3).trans ((if_pos rfl).trans ((lt_to q4).trans ((if_pos q4').trans ((bd_to e92).trans ((if_neg n92).trans ((if_neg na).trans ((lt_to e95).trans ?_)))))))
        refine (if_neg (show ¬ csum 4 (stps k' w 24) - csum 4 (w 24) < 0 by rw [eK2']; exact nI_pos (by omega))).trans ?_
        exact (lt_to q5).trans ((if_pos rfl).trans ((bd_to e99).trans (if_neg n99)))
    · rw [k1] at c0
      exact absurd (by decide) c0
theorem tr3 {V S w : Mem} {t g b y : Nat} (h : Ok V S t) (hw : sg V w) (hg : g < 4) (hb : b < 100) (hy : y < 100) (m1 : np (sv w 14 g (nI y)) ≤ np (sv w 14 g (nI b))) (m2 : y < b → np (sv w 14 g (nI y)) < np (sv w 14 g (nI b))) : ∃ V' S', Ok V' S' t ∧ sg V' w ∧ (if (1 : Int32) = 0 then some ((0 : Int32), V) else lt (fX6_gate V (nI g) (w 12 g) (nI b) (w 16 g)) (fun U62 => if U62.1 = w 14 g then lt (fX6_ifRun U62.2 ((200 : Int32)) ((0 : Int32))) (fun U64 => if U64.1 = np (sv w 14 g (nI b)) then lt (fX6_gate U64.2 (nI g) (w 12 g) (nI y) (w 16 g)) (fun U66 => if U66.1 = nI b then lt (fX6_ifRun U66.2 ((200 : Int32)) ((0 : Int32))) (fun U68 => if U68.1 < np (sv w 14 g (nI b)) then (qX6_undo U68.2 ).bind (fun U70 => if U70.1 < 0 then some ((0 : Int32), U70.2) else (qX6_undo U70.2 ).bind (fun U72 => if U72.1 < 0 then some ((0 : Int32), U72.2) else some ((1 : Int32), U72.2))) else lt (fX6_ifRun U68.2 ((200 : Int32)) ((0 : Int32))) (fun U74 => if U74.1 = np (sv w 14 g (nI b)) then if nI y < nI b then some ((0 : Int32), U74.2) else (qX6_undo U74.2 ).bind (fun U77 => if U77.1 < 0 then some ((0 : Int32), U77.2) else (qX6_undo U77.2 ).bind (fun U79 => if U79.1 < 0 then some ((0 : Int32), U79.2) else some ((1 : Int32), U79.2))) else some ((0 : Int32), U74.2))) else some ((0 : Int32), U66.2)) else some ((0 : Int32), U64.2)) else some ((0 : Int32), U62.2)) : Option (Int32 × Mem)) = some (1, V') := by
  obtain ⟨V62, S62, e62, h62, d62, w62⟩ := gate_w h hw hg (show b ≤ 99 by omega)
  obtain ⟨V64, e64, j64⟩ := l_ifRun (m := 200) w62 (by decide) (by decide) (x := 0) rfl
  have h64 := h62.jq j64
  have w64 := w62.jq j64
  obtain ⟨V66, S66, e66, h66, d66, w66⟩ := gate_w h64 w64 hg (show y ≤ 99 by omega)
  rw [sv_k (show (12 : Nat) ≠ 14 by decide), sv_k (show (16 : Nat) ≠ 14 by decide), sv_at] at e66
  have w66' : sg V66 (sv w 14 g (nI y)) := fun j hj => by
    rw [w66 j hj]
    by_cases c : j = 14
    · subst c
      rw [sv_row, sv_row, sv_row]
      funext q
      by_cases c2 : q = g
      · rw [c2, upd_at, upd_at]
      · rw [upd_ne c2, upd_ne c2, upd_ne c2]
    · rw [sv_k c, sv_k c, sv_k c]
  obtain ⟨V68, e68, j68⟩ := l_ifRun (m := 200) w66' (by decide) (by decide) (x := 0) rfl
  have w68 := w66'.jq j68
  obtain ⟨V74, e74, j74⟩ := l_ifRun (m := 200) w68 (by decide) (by decide) (x := 0) rfl
  have e64' : fX6_ifRun V62 (200 : Int32) 0 = (np (sv w 14 g (nI b)), V64) := e64
  have e68' : fX6_ifRun V66 (200 : Int32) 0 = (np (sv w 14 g (nI y)), V68) := e68
  have e74' : fX6_ifRun V68 (200 : Int32) 0 = (np (sv w 14 g (nI y)), V74) := e74
  have dj : ∀ {X : Mem}, Jq V66 X → Done V64 X := fun {X} jx => ⟨(jx 0 (by decide)).trans d66.1, fun j a1 a2 => (jx j (by omega)).trans (d66.2 j a1 a2)⟩
  by_cases c : np (sv w 14 g (nI y)) < np (sv w 14 g (nI b))
  · obtain ⟨x1, x2, V70, V72, S72, u1, u2, u3, u4, u5, u6⟩ := trip2 h h62 d62 j64 (h66.jq j68) (dj j68)
    refine ⟨V72, S72, u5, fun j hj => (u6 j hj).trans (hw j hj), ?_⟩
    refine (if_neg one_no).trans ((lt_to e62).trans ((if_pos rfl).trans ((lt_to e64').trans ((if_pos rfl).trans ((lt_to e66).trans ((if_pos rfl).trans ((lt_to e68').trans ((if_pos c).trans ?_))))))))
    exact (bd_to u1).trans ((if_neg u2).trans ((bd_to u3).trans (if_neg u4)))
  · have ce : np (sv w 14 g (nI y)) = np (sv w 14 g (nI b)) := Int32.le_antisymm m1 (Int32.not_lt.mp c)
    have cy : ¬ nI y < nI b := fun q => c (m2 (by
      rcases Nat.lt_or_ge y b with z | z
      · exact z
      · exact absurd q (nI_nlt z (by omega))))
    obtain ⟨x1, x2, V70, V72, S72, u1, u2, u3, u4, u5, u6⟩ := trip2 h h62 d62 j64 (h66.jq (j68.trans j74)) (dj (j68.trans j74))
    refine ⟨V72, S72, u5, fun j hj => (u6 j hj).trans (hw j hj), ?_⟩
    refine (if_neg one_no).trans ((lt_to e62).trans ((if_pos rfl).trans ((lt_to e64').trans ((if_pos rfl).trans ((lt_to e66).trans ((if_pos rfl).trans ((lt_to e68').trans ((if_neg c).trans ((lt_to e74').trans ((if_pos ce).trans ((if_neg cy).trans ?_)))))))))))
    exact (bd_to u1).trans ((if_neg u2).trans ((bd_to u3).trans (if_neg u4)))
