/-! what would be: the answers by the world's own steps -/
def sg (V w : Mem) : Prop := ∀ j, j < 42 → gv V 1 j = w j
theorem sg.jq {V V' w : Mem} (h : sg V w) (e : Jq V V') : sg V' w := fun j hj => (e (1 + j) (by omega)).trans (h j hj)
theorem l_ifRun {V w : Mem} {m : Nat} (hw : sg V w) (h1 : 1 ≤ m) (h2 : m ≤ 1000) {x : Int32} (hx : fX6_isWithin x 0 3 = 1) : ∃ V', fX6_ifRun V (nI m) x = (fX5_tally (stps m w) x - fX5_tally w x, V') ∧ Jq V V' := by
  unfold fX6_ifRun fX5_makeSteps
  simp only [lt_e]
  rw [within_1 (show ¬ nI m < (1 : Int32) from nI_nlt (b := 1) h1 (by omega)) (show ¬ (1000 : Int32) < nI m from nI_nlt (a := 1000) h2 (by decide)), if_neg one_no, hx, if_neg one_no, nI_clamp (by omega)]
  have a1 : ∀ j, j < 42 → gv (pv V 43 42 (gv V 1)) 43 j = w j := fun j hj => (gv_pv hj).trans (hw j hj)
  have a2 : ∀ j, j < 43 ∨ 85 ≤ j → pv V 43 42 (gv V 1) j = V j := fun j hj => pvo (by omega)
  generalize pv V 43 42 (gv V 1) = A at a1 a2 ⊢
  have b1 : ∀ j, j < 42 → gv (pv A 43 42 (stps m (gv A 43))) 43 j = stps m w j := fun j hj => (gv_pv hj).trans (stps_ag a1 m hj)
  have b2 : ∀ j, j < 43 ∨ 85 ≤ j → pv A 43 42 (stps m (gv A 43)) j = V j := fun j hj => (pvo (by omega)).trans (a2 j hj)
  generalize pv A 43 42 (stps m (gv A 43)) = B at b1 b2 ⊢
  refine ⟨B, ?_, Jq.of b2⟩
  have b3 : ∀ j, j < 42 → gv B 1 j = w j := fun j hj => (b2 (1 + j) (by omega)).trans (hw j hj)
  rw [tally_w b1, tally_w b3]
theorem run_w {V S w : Mem} {t m : Nat} (h : Ok V S t) (hw : sg V w) (hm : 1 ≤ m) (hm2 : m ≤ 500) (ht : t + m ≤ 99999) : ∃ V' S', fX6_run V (nI m) = (csum 4 (stps m w 24) - csum 4 (w 24), V') ∧ Ok V' S' (t + m) ∧ Done V V' ∧ sg V' (stps m w) := by
  obtain ⟨V', S', e1, e2, e3, e4, -⟩ := op_run h hm hm2 ht
  have hs : ∀ j, j < 42 → stps m (gv V 1) j = stps m w j := fun j hj => stps_ag hw m hj
  rw [hs 24 (by decide), hw 24 (by decide)] at e1
  exact ⟨V', S', e1, e2, e3, fun j hj => (e4 j hj).trans (hs j hj)⟩
theorem gate_w {V S w : Mem} {t g y : Nat} (h : Ok V S t) (hw : sg V w) (hg : g < 4) (hy : y ≤ 99) : ∃ V' S', fX6_gate V (nI g) (w 12 g) (nI y) (w 16 g) = (w 14 g, V') ∧ Ok V' S' t ∧ Done V V' ∧ sg V' (sv w 14 g (nI y)) := by
  obtain ⟨S', b1, b2⟩ := op_gate h (nI g) (w 12 g) (nI y) (w 16 g)
  obtain ⟨-, -, ⟨n, r, q, d, L, G⟩, -⟩ := id h
  obtain ⟨-, -, -, -, ⟨x, hx, ex⟩, -, ez, -⟩ := G.1.2.1 g hg
  rw [hw 12 (by decide)] at ex
  rw [hw 16 (by decide)] at ez
  have s13 : V 13 g = w 12 g := congrFun (hw 12 (by decide)) g
  have hz : fX6_isWithin (w 16 g) 0 1 = 1 := by rcases ez with z | z <;> rw [z] <;> rfl
  have e : fX6_gate V (nI g) (w 12 g) (nI y) (w 16 g) = (fX6_record V 15 g, pv (fX6_record V) 11 17 (fX1_change (gv (fX6_record V) 11) (nI g) (w 12 g) (nI y) (w 16 g))) := by
    unfold fX6_gate
    simp only [lt_e]
    rw [isG hg, if_neg one_no, ex, within_1 (show ¬ nI x < (0 : Int32) from nI_pos (by omega)) (show ¬ (1 : Int32) < nI x from nI_nlt (a := 1) (b := x) (by omega) (by omega)), if_neg one_no, within_1 (show ¬ nI y < (0 : Int32) from nI_pos (by omega)) (show ¬ (99 : Int32) < nI y from nI_nlt (a := 99) hy (by decide)), if_neg one_no, hz, if_neg one_no, cget_nI hg, cget_nI hg, s13, ex]
    by_cases c : fX1_hasWord (gv V 1) (nI g) = 0
    · rw [if_pos c]
    · rw [if_neg c, if_pos rfl]
  have rr : ∀ j, 1 ≤ j → j < 89 → fX6_record V j = V j := fun j h1 h2 => h.rec_r h1 (Or.inl h2)
  rw [e] at b1 b2 ⊢
  rw [c_chG hg] at b1 b2 ⊢
  have u13 : pv (fX6_record V) 11 17 (sv (sv (sv (gv (fX6_record V) 11) 2 g (w 12 g)) 4 g (nI y)) 6 g (w 16 g)) 13 = upd (fX6_record V 13) g (w 12 g) := sv_row
  have u15 : pv (fX6_record V) 11 17 (sv (sv (sv (gv (fX6_record V) 11) 2 g (w 12 g)) 4 g (nI y)) 6 g (w 16 g)) 15 = upd (fX6_record V 15) g (nI y) := sv_row
  have u17 : pv (fX6_record V) 11 17 (sv (sv (sv (gv (fX6_record V) 11) 2 g (w 12 g)) 4 g (nI y)) 6 g (w 16 g)) 17 = upd (fX6_record V 17) g (w 16 g) := sv_row
  have uo : ∀ j, j ≠ 13 → j ≠ 15 → j ≠ 17 → pv (fX6_record V) 11 17 (sv (sv (sv (gv (fX6_record V) 11) 2 g (w 12 g)) 4 g (nI y)) 6 g (w 16 g)) j = fX6_record V j := fun j h1 h2 h3 => pv3_out (by omega) (by omega) (by omega)
  generalize pv (fX6_record V) 11 17 (sv (sv (sv (gv (fX6_record V) 11) 2 g (w 12 g)) 4 g (nI y)) 6 g (w 16 g)) = U at b1 b2 u13 u15 u17 uo ⊢
  have up : ∀ (f : Nat → Int32) (i : Nat), upd f i (f i) = f := fun f i => by
    funext q
    by_cases c : q = i
    · rw [c, upd_at]
    · rw [upd_ne c]
  refine ⟨U, S', ?_, b1, ?_, fun j hj => ?_⟩
  · rw [rr 15 (by decide) (by decide), show V 15 g = w 14 g from congrFun (hw 14 (by decide)) g]
  · rcases b2 with ⟨z, -⟩ | ⟨-, z⟩
    · exfalso
      obtain ⟨-, -, -, -, -, ⟨a, ha, ea⟩, -⟩ := G.1.2.1 g hg
      have z' : fX6_record V 15 g ≤ -1001 := z
      rw [rr 15 (by decide) (by decide), show V 15 g = nI a from ea] at z'
      exact absurd (m1001 (c := a) (by omega)) (Int32.not_lt.mpr z')
    · exact z
  · show U (1 + j) = sv w 14 g (nI y) j
    by_cases c14 : j = 14
    · subst c14
      rw [show (1 : Nat) + 14 = 15 from rfl, u15, sv_row, rr 15 (by decide) (by decide), show V 15 = w 14 from hw 14 (by decide)]
    · rw [sv_k c14, ← hw j hj]
      show U (1 + j) = V (1 + j)
      by_cases c12 : j = 12
      · subst c12
        rw [show (1 : Nat) + 12 = 13 from rfl, u13, rr 13 (by decide) (by decide), ← s13, up]
      · by_cases c16 : j = 16
        · subst c16
          rw [show (1 : Nat) + 16 = 17 from rfl, u17, rr 17 (by decide) (by decide), ← show V 17 g = w 16 g from congrFun (hw 16 (by decide)) g, up]
        · rw [uo _ (by omega) (by omega) (by omega), rr _ (by omega) (by omega)]
theorem gauge_w {V S w : Mem} {t k : Nat} {x : Int32} (h : Ok V S t) (hw : sg V w) (hk : k < 2) (h1 : -50 ≤ x.toInt) (h2 : x.toInt ≤ 50) : ∃ V' S', fX6_gauge V (nI k) x = (w 9 k, V') ∧ Ok V' S' t ∧ Done V V' ∧ sg V' (sv w 9 k x) := by
  obtain ⟨S', b1, b2⟩ := op_gauge h (nI k) x
  have rr : ∀ j, 1 ≤ j → j < 89 → fX6_record V j = V j := fun j h1 h2 => h.rec_r h1 (Or.inl h2)
  have s10 : V 10 = w 9 := hw 9 (by decide)
  have e : fX6_gauge V (nI k) x = (w 9 k, sv (fX6_record V) 10 k x) := by
    unfold fX6_gauge
    simp only [lt_e]
    rw [isS hk, if_neg one_no, within_1 (show ¬ x < (-50 : Int32) by
      rw [Int32.lt_iff_toInt_lt]
      have : (-50 : Int32).toInt = -50 := by decide
      omega) (show ¬ (50 : Int32) < x by
      rw [Int32.lt_iff_toInt_lt]
      have : (50 : Int32).toInt = 50 := by decide
      omega), if_neg one_no, cget_nI hk, cset_nI hk, rr 10 (by decide) (by decide), s10]
  rw [e] at b1 b2 ⊢
  refine ⟨_, S', rfl, b1, ?_, fun j hj => ?_⟩
  · rcases b2 with ⟨z, -⟩ | ⟨-, z⟩
    · exfalso
      obtain ⟨-, -, ⟨n, r, q, d, L, G⟩, -⟩ := id h
      obtain ⟨a, b, c, -, -, -, -, -, -, -, l1, l2⟩ := (G.1.1 k hk).2.2.2.2
      have l1' : -50 ≤ (w 9 k).toInt := by
        rw [← s10]
        exact l1
      have z' : w 9 k ≤ -1001 := z
      rw [Int32.le_iff_toInt_le] at z'
      have : (-1001 : Int32).toInt = -1001 := by decide
      omega
    · exact z
  · show sv (fX6_record V) 10 k x (1 + j) = sv w 9 k x j
    by_cases c : j = 9
    · subst c
      rw [show (1 : Nat) + 9 = 10 from rfl, sv_row, sv_row, rr 10 (by decide) (by decide), s10]
    · rw [sv_k (by omega), sv_k c, rr _ (by omega) (by omega), ← hw j hj]
      rfl
/-- the first of the greatest of some naturals -/
theorem bst_spec {val N : Nat → Int32} (hN : ∀ i, ∃ K : Nat, K < 2 ^ 31 ∧ N i = nI K) : ∀ x : Nat, 0 < x → ∃ b, b < x ∧ bst val N x = (val b, N b) ∧ (∀ i, i < x → N i ≤ N b) ∧ ∀ i, i < b → N i < N b
  | 0, h => by omega
  | 1, _ => by
    obtain ⟨K, hK, e⟩ := hN 0
    refine ⟨0, by decide, bst_up (val := val) (N := N) (i := 0) (show ¬ N 0 ≤ (-1 : Int32) by rw [e]; exact nI_m1no hK), fun i hi => ?_, fun i hi => absurd hi (by omega)⟩
    obtain rfl : i = 0 := by omega
    exact Int32.le_refl _
  | x + 2, _ => by
    obtain ⟨b, hb, e1, e2, e3⟩ := bst_spec (val := val) hN (x + 1) (by omega)
    by_cases c : N (x + 1) ≤ N b
    · refine ⟨b, by omega, ?_, fun i hi => ?_, e3⟩
      · rw [bst_no (by rw [e1]; exact c), e1]
      · by_cases z : i = x + 1
        · rw [z]
          exact c
        · exact e2 i (by omega)
    · have c' := Int32.not_le.mp c
      refine ⟨x + 1, by omega, bst_up (by rw [e1]; exact c), fun i hi => ?_, fun i hi => ?_⟩
      · by_cases z : i = x + 1
        · rw [z]
          exact Int32.le_refl _
        · exact Int32.le_trans (e2 i (by omega)) (Int32.le_of_lt c')
      · exact Int32.lt_of_le_of_lt (e2 i hi) c'
/-- how many words pass in 200 steps from a world -/
def np (w : Mem) : Int32 := csum 4 (stps 200 w 24) - csum 4 (w 24)
theorem np_nat (w : Mem) : ∃ K : Nat, K < 2 ^ 31 ∧ np w = nI K := by
  obtain ⟨k, hk, e, -⟩ := psk_stps w 200
  refine ⟨k, by omega, ?_⟩
  have e' : csum 4 (stps 200 w 24) = csum 4 (w 24) + nI k := e
  unfold np
  rw [e']
  generalize csum 4 (w 24) = x
  grind
theorem np_ag {w w' : Mem} (h : ∀ j, j < 42 → w j = w' j) : np w = np w' := by
  unfold np
  rw [stps_ag h 200 (show 24 < 42 by decide), h 24 (by decide)]
theorem trN_np {U : Mem} {n t g x : Nat} {r : Nat → List Nat} {q : Nat → Option Nat} {d : Nat → Nat} {L : Nat → List Nat} {s : Nat → Int32} (p : RwE 0 n t r q d L (gv U 1) s) (ht : t ≤ 99999) (hgap : ∀ j, j < 200 → U 429 j = fX3_gapAt (gv U 1) (nI (t + j))) (hg : g < 4) (hx : x ≤ 99) : trN U g x = np (sv (gv U 1) 14 g (nI x)) := by
  have T0 : ∀ j, j < 42 → gv (tr0 U g x) 43 j = sv (gv U 1) 14 g (nI x) j := fun j hj => by
    show sv (pv U 43 42 (gv U 1)) 57 g (nI x) (43 + j) = _
    by_cases c : j = 14
    · subst c
      rw [show (43 : Nat) + 14 = 57 from rfl, sv_row, sv_row]
      exact congrArg (fun f => upd f g (nI x)) (pv_at (k := 43) (j := 14) (by decide))
    · rw [sv_k (by omega), sv_k c]
      exact pv_at hj
  have p1 : RwE 0 n t r q d L (sv (gv U 1) 14 g (nI x)) (upd s (14 + 8 * g) (nI x)) := by
    refine p.setG (fun j h1 h2 h3 h4 h5 => sv_k h3) (fun j h1 h2 => ?_) (fun g' hg' => ?_)
    · have := h2 g 1 hg (by decide)
      rw [upd_ne (by omega)]
    · obtain ⟨f1, f2, f3, f4, f5, f6, f7, f8⟩ := p.2.1 g' hg'
      rw [sv_k (show (12 : Nat) ≠ 14 by decide), sv_k (show (16 : Nat) ≠ 14 by decide), sv_k (show (18 : Nat) ≠ 14 by decide), sv_row]
      refine ⟨(upd_ne (by omega)).trans f1, ?_, (upd_ne (by omega)).trans f3, (upd_ne (by omega)).trans f4, f5, ?_, f7, f8⟩
      · by_cases c : g' = g
        · subst c
          rw [upd_at, upd_at]
        · rw [upd_ne (by omega), upd_ne c]
          exact f2
      · by_cases c : g' = g
        · subst c
          rw [upd_at]
          exact ⟨x, hx, rfl⟩
        · rw [upd_ne c]
          exact f6
  generalize hW : sv (gv U 1) 14 g (nI x) = W at T0 p1
  have wgap : ∀ y, fX3_gapAt W y = fX3_gapAt (gv U 1) y := fun y => by
    rw [← hW]
    exact gap_eq (sv_k (by decide)) (sv_k (by decide)) (sv_k (by decide)) (sv_k (by decide)) y
  have key : ∀ i, i ≤ 200 → (∀ j, j < 42 → gv (fld trialC i (tr0 U g x)) 43 j = stps i W j) ∧ keep (stps i W) W := by
    intro i
    induction i with
    | zero => exact fun _ => ⟨T0, rfl, rfl, rfl, rfl, rfl, rfl⟩
    | succ i ih =>
      intro hi
      obtain ⟨h1, h2⟩ := ih (by omega)
      obtain ⟨s', r', h', d', p'⟩ := rw_stps p1 (k := i) (by omega)
      have w0 : stps i W 0 0 = nI (t + i) := p'.2.2.2.2.1.1
      have hk := step_keep (t := t + i) (S := cpv zM 1 s') (by omega) ⟨r', h', d', by rw [cpv_at]; exact p'⟩
      have es : stps (i + 1) W = fX5_stepAcross (stps i W) (fX3_gapAt (stps i W) (nI (t + i))) := by
        rw [stps_s]
        unfold st1
        rw [w0]
      refine ⟨fun j hj => ?_, ?_⟩
      · rw [trial_e, gv_pv hj, es]
        have eg : cget 200 (fld trialC i (tr0 U g x) 429) (nI i) = fX3_gapAt (stps i W) (nI (t + i)) := by
          rw [cget_nI (by omega), show fld trialC i (tr0 U g x) 429 = tr0 U g x 429 from trial_r i 429 (by decide), tr0_r (by decide), hgap i (by omega), h2.gap, wgap]
        rw [eg]
        have e1 := y_step (W := gv (fld trialC i (tr0 U g x)) 43) (gap := fX3_gapAt (stps i W) (nI (t + i)))
        rw [c42_eq h1, y_step] at e1
        exact (c42_of e1 hj).symm
      · rw [es]
        exact hk.trans h2
  have k200 := (key 200 (Nat.le_refl _)).1
  have e67 : trE U g x 67 = stps 200 W 24 := k200 24 (by decide)
  have e25 : trE U g x 25 = W 24 := by
    rw [trE_r (by decide), ← hW, sv_k (by decide)]
    rfl
  show csum 4 (trE U g x 67) - csum 4 (trE U g x 25) = csum 4 (stps 200 W 24) - csum 4 (W 24)
  rw [e67, e25]
theorem l_least {V S w : Mem} {t g : Nat} (h : Ok V S t) (hw : sg V w) (hg : g < 4) : ∃ b V', b < 100 ∧ qX6_leastSlack V (nI g) 0 = some (nI b, V') ∧ qX6_leastSlack V (nI g) 1 = some (np (sv w 14 g (nI b)), V') ∧ Jq V V' ∧ (∀ x, x < 100 → np (sv w 14 g (nI x)) ≤ np (sv w 14 g (nI b))) ∧ ∀ x, x < b → np (sv w 14 g (nI x)) < np (sv w 14 g (nI b)) := by
  obtain ⟨ht, hR, ⟨n, r, q, d, L, G⟩, -⟩ := h
  obtain ⟨f1, f2⟩ := c_gaps V
  unfold qX6_leastSlack
  simp only [lt_e]
  rw [isG hg, if_neg one_no, show fX6_isWithin (0 : Int32) 0 1 = 1 from rfl, show fX6_isWithin (1 : Int32) 0 1 = 1 from rfl, if_neg one_no]
  have jU : Jq V (fX6_findGapsAhead V) := fun j hj => f1 j (by omega)
  have G' : RwE 0 n t r q d L (gv (fX6_findGapsAhead V) 1) (S 1) := G.1.w (fun j hj => f1 (1 + j) (by omega))
  have gU : ∀ q, q < 200 → fX6_findGapsAhead V 429 q = fX3_gapAt (gv (fX6_findGapsAhead V) 1) (nI (t + q)) := fun q hq => by
    have v10 : V 1 0 = nI t := G.1.2.2.2.2.1.1
    rw [f2 q hq, v10, nI_add]
    exact (gap_eq (w := gv V 1) (w' := gv (fX6_findGapsAhead V) 1) (f1 4 (by decide)) (f1 6 (by decide)) (f1 8 (by decide)) (f1 10 (by decide)) _).symm
  have sU : sg (fX6_findGapsAhead V) w := hw.jq jU
  generalize fX6_findGapsAhead V = U at jU G' gU sU ⊢
  have c1 := G'.2.2.2.2.1
  have n12 := G'.2.2.2.2.2.2.2.2.2.1.1
  obtain ⟨P, hP, P1, P2⟩ := G'.pn
  have u25 : csum 4 (U 25) = nI P := P1
  have eN : ∀ x, x < 100 → trN U g x = np (sv w 14 g (nI x)) := fun x hx => by
    rw [trN_np G' ht gU hg (by omega)]
    refine np_ag (fun j hj => ?_)
    by_cases c : j = 14
    · subst c
      rw [sv_row, sv_row, sU 14 (by decide)]
    · rw [sv_k c, sv_k c, sU j hj]
  have hN : ∀ x, x < 100 → ∃ K : Nat, P + K ≤ n ∧ trN U g x = nI K := fun x hx => by
    obtain ⟨s2, -, -, -, P', K, e1, e2, e3, e4⟩ := trial_run G' ht gU hg (show x ≤ 99 by omega) (M := S) (fun j hj => rfl)
    rw [u25] at e1
    have : P = P' := (nI_eq (by omega) (by omega)).mp e1
    exact ⟨K, by omega, e4⟩
  obtain ⟨B, hB⟩ : ∃ B, bst nI (trN U g) 100 = B := ⟨_, rfl⟩
  have one : bst nI (trN U g) 1 = (nI 0, trN U g 0) := by
    obtain ⟨K, hK, eK⟩ := hN 0 (by decide)
    exact bst_up (val := nI) (N := trN U g) (i := 0) (show ¬ trN U g 0 ≤ (-1 : Int32) by rw [eK]; exact nI_m1no (by omega))
  obtain ⟨W', y, k1, k2⟩ := it_leastC hB hg hP n12 (show U 28 0 = nI n from c1.2.2.2.2.2.1) hN 99 1 fuel (trE U g 0) (by omega) (by omega) (fuel_lt (by decide)) (fun j hj => trE_r hj)
  rw [one] at k2
  rw [u25, show fX6_wordsPassingWith U (nI g) (0 : Int32) = (trN U g 0, trE U g 0) from wpw hg (fun j hj => rfl)]
  dsimp only
  rw [show it (lbX6_leastSlack_67 (nI g) U (nI P)) fuel ((0 : Int32), trN U g 0, (1 : Int32), trE U g 0) = _ from k2, Option.bind_some, Option.bind_some]
  have hbst : ∀ m, m ≤ 100 → bst nI (trN U g) m = bst nI (fun x => np (sv w 14 g (nI x))) m := by
    intro m
    induction m with
    | zero => exact fun _ => (rfl : ((0 : Int32), (-1 : Int32)) = ((0 : Int32), (-1 : Int32)))
    | succ m ih =>
      intro hm
      show (if trN U g m ≤ (bst nI (trN U g) m).2 then bst nI (trN U g) m else (nI m, trN U g m)) = (if np (sv w 14 g (nI m)) ≤ (bst nI (fun x => np (sv w 14 g (nI x))) m).2 then bst nI (fun x => np (sv w 14 g (nI x))) m else (nI m, np (sv w 14 g (nI m))))
      rw [ih (by omega), eN m (by omega)]
  obtain ⟨b, hb, e1, e2, e3⟩ := bst_spec (val := nI) (N := fun x => np (sv w 14 g (nI x))) (fun i => np_nat _) 100 (by decide)
  rw [hbst 100 (Nat.le_refl _), e1] at hB
  subst hB
  refine ⟨b, W', hb, ?_, ?_, jU.trans (Jq.of k1), e2, e3⟩
  · rw [if_pos (by decide)]
  · simp only [one_no, if_false]
/-! bestLie, opens -/
/-- in how many of the next 200 steps a gate of this slack is open -/
def nO (sl : Int32) (t : Nat) (w : Mem) : Int32 := csum 200 (fun q => if sl < ab (fX3_gapAt w (nI (t + q))) then 0 else 1)
theorem nO_ag {sl : Int32} {t : Nat} {w w' : Mem} (h : ∀ j, j < 42 → w j = w' j) : nO sl t w = nO sl t w' := by
  unfold nO
  refine csum_congr 200 (fun q hq => ?_)
  rw [gap_eq (h 3 (by decide)) (h 5 (by decide)) (h 7 (by decide)) (h 9 (by decide))]
theorem l_opens {V S w : Mem} {t : Nat} (h : Ok V S t) (hw : sg V w) (sl : Int32) : qL_opens V sl = some (nO sl t w) := by
  obtain ⟨ht, -, ⟨n, r, q, d, L, G⟩, -⟩ := h
  have v10 : V 1 0 = nI t := G.1.2.2.2.2.1.1
  rw [← nO_ag hw]
  unfold qL_opens
  have e := it_sum (n := 200) (bd := lbL_opens_4 V sl) (f := fun q => if sl < ab (fX3_gapAt (gv V 1) (nI (t + q))) then (0 : Int32) else 1) (by decide) (fun i q hi => ?_) (fun q => ?_)
  · rw [e, Option.bind_some]
    rfl
  · unfold lbL_opens_4
    simp only [lt_e]
    rw [if_neg (show ¬ (200 : Int32) ≤ nI i from nI_ge (b := 200) hi (by decide)), qc0, v10, nI_add, l_off G.1.1 (by omega), Option.bind_some, nI_1]
    by_cases c : sl < ab (fX3_gapAt (gv V 1) (nI (t + i)))
    · rw [if_pos c, if_pos c, Option.bind_some]
    · rw [if_neg c, if_neg c, Option.bind_some]
  · unfold lbL_opens_4
    simp only [lt_e]
    rw [if_pos (show (200 : Int32) ≤ nI 200 by decide)]
theorem nO_nat (sl : Int32) (t : Nat) (w : Mem) : ∃ K : Nat, K < 2 ^ 31 ∧ nO sl t w = nI K := by
  obtain ⟨c, hc, e⟩ := csum_01 (f := fun q => if sl < ab (fX3_gapAt w (nI (t + q))) then (0 : Int32) else 1) 200 (fun i hi => ite_01)
  exact ⟨c, by omega, e⟩
theorem lie_gap {w : Mem} {s : Nat → Int32} {k t i : Nat} {x : Int32} (hT : pT (w 3) (w 5) (w 7) (w 9) s) (hk : k < 2) : fX3_gapAt (sv w 9 k x) (nI (t + i)) = fX3_gapAt w (nI (t + i)) + (if nI k = 0 then x - w 9 k else -(x - w 9 k)) := by
  have h0 := (hT 0 (by decide)).2.2.2.2
  have h1 := (hT 1 (by decide)).2.2.2.2
  have r7 : sv w 9 k x 7 = w 7 := sv_k (by decide)
  have r3 : sv w 9 k x 3 = w 3 := sv_k (by decide)
  have r5 : sv w 9 k x 5 = w 5 := sv_k (by decide)
  have r9 : sv w 9 k x 9 = upd (w 9) k x := sv_row
  rw [c_gap (w := w) h0.per h1.per, c_gap (w := sv w 9 k x) (by rw [r7]; exact h0.per) (by rw [r7]; exact h1.per), r7, r3, r5, r9]
  unfold tld
  obtain rfl | rfl : k = 0 ∨ k = 1 := by omega
  · rw [if_pos nI_0, upd_at, upd_ne (by decide)]
    exact sh_0 _ _ _ _
  · rw [if_neg (show ¬ nI 1 = 0 by decide), upd_at, upd_ne (by decide)]
    exact sh_1 _ _ _ _
theorem l_best {V S w : Mem} {t k g : Nat} (h : Ok V S t) (hw : sg V w) (hk : k < 2) (hg : g < 4) : ∃ b V', b < 101 ∧ qX6_bestLie V (nI k) (nI g) = some (lieN b, V') ∧ Jq V V' ∧ (∀ i, i < 101 → nO (w 14 g) t (sv w 9 k (lieN i)) ≤ nO (w 14 g) t (sv w 9 k (lieN b))) ∧ ∀ i, i < b → nO (w 14 g) t (sv w 9 k (lieN i)) < nO (w 14 g) t (sv w 9 k (lieN b)) := by
  obtain ⟨ht, hR, ⟨n, r, q, d, L, G⟩, -⟩ := h
  obtain ⟨f1, f2⟩ := c_gaps V
  have v10 : V 1 0 = nI t := G.1.2.2.2.2.1.1
  have hT := G.1.1
  rw [hw 3 (by decide), hw 5 (by decide), hw 7 (by decide), hw 9 (by decide)] at hT
  have jU : Jq V (fX6_findGapsAhead V) := fun j hj => f1 j (by omega)
  have gU : ∀ q, q < 200 → fX6_findGapsAhead V 429 q = fX3_gapAt w (nI (t + q)) := fun q hq => by
    rw [f2 q hq, v10, nI_add]
    exact gap_eq (hw 3 (by decide)).symm (hw 5 (by decide)).symm (hw 7 (by decide)).symm (hw 9 (by decide)).symm _ |>.symm
  have u15 : fX6_findGapsAhead V 15 = w 14 := (f1 15 (by decide)).trans (hw 14 (by decide))
  have u10 : fX6_findGapsAhead V 10 = w 9 := (f1 10 (by decide)).trans (hw 9 (by decide))
  unfold qX6_bestLie
  simp only [lt_e]
  rw [isS hk, if_neg one_no, isG hg, if_neg one_no]
  generalize fX6_findGapsAhead V = U at jU gU u15 u10 ⊢
  have eN : ∀ x, fX6_openStepsWith U (nI k) (nI g) x = nO (w 14 g) t (sv w 9 k x) := fun x => by
    unfold fX6_openStepsWith nO
    refine csum_congr 200 (fun i hi => ?_)
    rw [cget_nI hg, cget_nI hi, cget_nI hk, u15, u10, gU i hi, lie_gap hT hk]
  obtain ⟨N, hNd⟩ : ∃ N : Nat → Int32, N = fun i => nO (w 14 g) t (sv w 9 k (lieN i)) := ⟨_, rfl⟩
  have eN2 : ∀ i, fX6_openStepsWith U (nI k) (nI g) (lieN i) = N i := fun i => by rw [eN, hNd]
  obtain ⟨b, hb, e1, e2, e3⟩ := bst_spec (val := lieN) (N := N) (fun i => by rw [hNd]; exact nO_nat _ _ _) 101 (by decide)
  have one : bst lieN N 1 = (0, fX6_openStepsWith U (nI k) (nI g) 0) := by
    obtain ⟨c, hc, e⟩ : ∃ K : Nat, K < 2 ^ 31 ∧ N 0 = nI K := by rw [hNd]; exact nO_nat _ _ _
    rw [bst_up (show ¬ N 0 ≤ (-1 : Int32) by rw [e]; exact nI_m1no hc), ← eN2 0]
    rfl
  have hc : it (lbX6_bestLie_36 (nI k) (nI g) U) fuel ((0 : Int32), fX6_openStepsWith U (nI k) (nI g) 0, (1 : Int32)) = some ((bst lieN N 101).1, (bst lieN N 101).2, nI 101) := by
    refine (congrArg (it (lbX6_bestLie_36 (nI k) (nI g) U) fuel) (show ((0 : Int32), fX6_openStepsWith U (nI k) (nI g) 0, (1 : Int32)) = ((bst lieN N 1).1, (bst lieN N 1).2, nI 1) by rw [one]; rfl)).trans ?_
    refine it_for (fun i => ((bst lieN N (i + 1)).1, (bst lieN N (i + 1)).2, nI (i + 1))) 100 (fun i hi => ?_) ?_ fuel (fuel_lt (by omega))
    · have e0 := eN2 (i + 1)
      unfold lbX6_bestLie_36
      simp only [lt_e]
      rw [if_neg (show ¬ (100 : Int32) < nI (i + 1) from nI_nlt (b := i + 1) (a := 100) (by omega) (by decide)), nI_1]
      by_cases c : nI (i + 1) &&& (1 : Int32) = 1
      · have e1 : (-(nI (i + 1) + 1)) / 2 = lieN (i + 1) := (if_pos c).symm
        rw [nI_1] at e1
        rw [if_pos c, e1, e0]
        by_cases c2 : N (i + 1) ≤ (bst lieN N (i + 1)).2
        · rw [if_pos c2, bst_no c2]
        · rw [if_neg c2, bst_up c2]
      · have e1 : nI (i + 1) / 2 = lieN (i + 1) := (if_neg c).symm
        rw [if_neg c, e1, e0]
        by_cases c2 : N (i + 1) ≤ (bst lieN N (i + 1)).2
        · rw [if_pos c2, bst_no c2]
        · rw [if_neg c2, bst_up c2]
    · unfold lbX6_bestLie_36
      dsimp only
      rw [if_pos (show (100 : Int32) < nI (100 + 1) by decide)]
  rw [hc, Option.bind_some, e1]
  subst hNd
  exact ⟨b, U, hb, rfl, jU, e2, e3⟩
/-- the order in which lies are tried -/
theorem lie_far : ∀ i, i < 101 → ∀ j, j < 101 → i ≤ j → (lieN i * lieN i < lieN j * lieN j) ∨ (lieN j * lieN j = lieN i * lieN i ∧ ¬ lieN j < lieN i) := by decide +kernel
theorem lie_all : ∀ y, y < 101 → ∃ i, i < 101 ∧ nI y - (50 : Int32) = lieN i := by decide +kernel
theorem lie_in2 : ∀ y, y < 101 → -50 ≤ (nI y - (50 : Int32)).toInt ∧ (nI y - (50 : Int32)).toInt ≤ 50 := by decide +kernel
