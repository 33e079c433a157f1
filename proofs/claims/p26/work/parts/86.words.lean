/-! a word comes -/
theorem pX.len {n k : Nat} {r : Nat → List Nat} {h : Nat → Option Nat} (p : pX n r h) (hk : k < 2) : (r k).length ≤ n := by
  have h1 := p.2.length_eq
  rw [List.length_append, List.length_append, List.length_range] at h1
  obtain rfl | rfl : k = 0 ∨ k = 1 := by omega
  · omega
  · omega
/-- a word of some letters has begun to come on the class's side -/
def Mid (n t : Nat) (r : Nat → List Nat) (q : Nat → Option Nat) (d : Nat → Nat) (L : Nat → List Nat) (k : Nat) (xs : List Nat) (w : Mem) (s : Nat → Int32) : Prop :=
  ∃ w0 : Mem, RwE 0 n t r q d L w0 s ∧ n < 12 ∧ k < 2 ∧ xs.length ≤ 6 ∧ (∀ x ∈ xs, 1 ≤ x ∧ x ≤ 26) ∧ (∀ j, j < 42 → j ≠ 27 → j ≠ 29 → j ≠ 31 → j ≠ 33 → j ≠ 35 → j ≠ 39 → j ≠ 41 → w j = w0 j) ∧ w 27 = upd (w0 27) 0 (nI (n + 1)) ∧ w 29 = upd (w0 29) n (nI xs.length) ∧ w 33 = upd (w0 33) n (-1006) ∧ w 35 = upd (w0 35) n (-1006) ∧ w 39 = upd (w0 39) (12 * k + (r k).length) (nI n) ∧ w 41 = upd (w0 41) k (nI ((r k).length + 1)) ∧ (∀ i, i < 6 * n → w 31 i = w0 31 i) ∧ rowAt (w 31) (6 * n) (xs.map (fun x => 96 + x))
theorem Mid.w {n t k : Nat} {r : Nat → List Nat} {q : Nat → Option Nat} {d : Nat → Nat} {L : Nat → List Nat} {xs : List Nat} {w w' : Mem} {s : Nat → Int32} (h : Mid n t r q d L k xs w s) (e : ∀ j, j < 42 → w' j = w j) : Mid n t r q d L k xs w' s := by
  obtain ⟨w0, p, h1, h2, h3, h4, h5, h6, h7, h8, h9, h10, h11, h12, h13⟩ := h
  refine ⟨w0, p, h1, h2, h3, h4, fun j a1 a2 a3 a4 a5 a6 a7 a8 => (e j a1).trans (h5 j a1 a2 a3 a4 a5 a6 a7 a8), (e _ (by decide)).trans h6, (e _ (by decide)).trans h7, (e _ (by decide)).trans h8, (e _ (by decide)).trans h9, (e _ (by decide)).trans h10, (e _ (by decide)).trans h11, fun i hi => ?_, ?_⟩
  · rw [e 31 (by decide)]
    exact h12 i hi
  · rw [e 31 (by decide)]
    exact h13
theorem mid_start {n t k : Nat} {r : Nat → List Nat} {q : Nat → Option Nat} {d : Nat → Nat} {L : Nat → List Nat} {w : Mem} {s : Nat → Int32} (p : RwE 0 n t r q d L w s) (hn : n < 12) (hk : k < 2) : Mid n t r q d L k [] (fX4_startWord w (nI k)) s := by
  have w27 : w 27 0 = nI n := p.2.2.2.2.1.2.2.2.2.2.1
  have hr : (r k).length < 12 := Nat.lt_of_le_of_lt (p.2.2.2.2.2.2.2.2.2.1.len hk) hn
  have hc : rowC (sv (sv (sv w 29 n 0) 33 n (-1006)) 35 n (-1006)) k (r k) := p.2.2.2.2.2.1 k hk
  have e : fX4_startWord w (nI k) = sv (sv (sv (sv (sv (sv w 29 n 0) 33 n (-1006)) 35 n (-1006)) 39 (12 * k + (r k).length) (nI n)) 41 k (nI ((r k).length + 1))) 27 0 (nI (n + 1)) := by
    unfold fX4_startWord
    simp only [lt_e]
    rw [w27, if_pos (show nI n < (12 : Int32) from nI_lt (b := 12) hn (by decide)), cset_nI hn, cset_nI hn, cset_nI hn, c_addLast hk hc hr]
    have e27 : sv (sv (sv (sv (sv w 29 n 0) 33 n (-1006)) 35 n (-1006)) 39 (12 * k + (r k).length) (nI n)) 41 k (nI ((r k).length + 1)) 27 0 = nI n := by
      rw [sv_k (by decide), sv_k (by decide), sv_k (by decide), sv_k (by decide), sv_k (by decide)]
      exact w27
    rw [e27, nI_1]
  rw [e]
  refine ⟨w, p, hn, hk, by decide, fun x hx => absurd hx (by simp), fun j a1 a2 a3 a4 a5 a6 a7 a8 => ?_, ?_, ?_, ?_, ?_, ?_, ?_, fun i hi => ?_, fun i v hi => ?_⟩
  · rw [sv_k a2, sv_k a8, sv_k a7, sv_k a6, sv_k a5, sv_k a3]
  · rw [sv_row, sv_k (by decide), sv_k (by decide), sv_k (by decide), sv_k (by decide), sv_k (by decide)]
  · rw [sv_k (by decide), sv_k (by decide), sv_k (by decide), sv_k (by decide), sv_k (by decide), sv_row]
    rfl
  · rw [sv_k (by decide), sv_k (by decide), sv_k (by decide), sv_k (by decide), sv_row, sv_k (by decide)]
  · rw [sv_k (by decide), sv_k (by decide), sv_k (by decide), sv_row, sv_k (by decide), sv_k (by decide)]
  · rw [sv_k (by decide), sv_k (by decide), sv_row, sv_k (by decide), sv_k (by decide), sv_k (by decide)]
  · rw [sv_k (by decide), sv_row, sv_k (by decide), sv_k (by decide), sv_k (by decide), sv_k (by decide)]
  · rw [sv_k (by decide), sv_k (by decide), sv_k (by decide), sv_k (by decide), sv_k (by decide), sv_k (by decide)]
  · rw [List.map_nil] at hi
    cases hi
theorem mid_letter {n t k x : Nat} {r : Nat → List Nat} {q : Nat → Option Nat} {d : Nat → Nat} {L : Nat → List Nat} {xs : List Nat} {w : Mem} {s : Nat → Int32} (h : Mid n t r q d L k xs w s) (hx : 1 ≤ x ∧ x ≤ 26) (hl : xs.length < 6) : Mid n t r q d L k (xs ++ [x]) (fX4_addLetter w (nI (96 + x))) s := by
  obtain ⟨w0, p, h1, h2, h3, h4, h5, h6, h7, h8, h9, h10, h11, h12, h13⟩ := h
  have w27 : w 27 0 = nI (n + 1) := by rw [h6, upd_at]
  have w29 : w 29 n = nI xs.length := by rw [h7, upd_at]
  have e : fX4_addLetter w (nI (96 + x)) = sv (sv w 31 (6 * n + xs.length) (nI (96 + x))) 29 n (nI (xs.length + 1)) := by
    unfold fX4_addLetter
    simp only [lt_e]
    rw [w27, nI_pred, cget_nI h1, w29, if_neg (show ¬ (6 : Int32) ≤ nI xs.length from nI_ge (b := 6) hl (by decide)), show nI n * (6 : Int32) + nI xs.length = nI (6 * n + xs.length) by
      show nI n * nI 6 + nI xs.length = _
      rw [pk_mul, nI_add, Nat.mul_comm], cset_nI (by omega), cadd_nI h1, sv_k (show (29 : Nat) ≠ 31 by decide), w29, nI_1]
  rw [e]
  refine ⟨w0, p, h1, h2, by rw [List.length_append]; exact hl, fun y hy => ?_, fun j a1 a2 a3 a4 a5 a6 a7 a8 => ?_, ?_, ?_, ?_, ?_, ?_, ?_, fun i hi => ?_, ?_⟩
  · rcases List.mem_append.mp hy with z | z
    · exact h4 y z
    · rw [List.mem_singleton.mp z]
      exact hx
  · rw [sv_k a3, sv_k a4]
    exact h5 j a1 a2 a3 a4 a5 a6 a7 a8
  · rw [sv_k (by decide), sv_k (by decide)]
    exact h6
  · rw [sv_row, sv_k (by decide), h7, List.length_append]
    funext y
    by_cases c : y = n
    · rw [c, upd_at, upd_at]
      rfl
    · rw [upd_ne c, upd_ne c, upd_ne c]
  · rw [sv_k (by decide), sv_k (by decide)]
    exact h8
  · rw [sv_k (by decide), sv_k (by decide)]
    exact h9
  · rw [sv_k (by decide), sv_k (by decide)]
    exact h10
  · rw [sv_k (by decide), sv_k (by decide)]
    exact h11
  · rw [sv_k (by decide), sv_j (by omega)]
    exact h12 i hi
  · rw [sv_k (by decide), sv_row, List.map_append]
    have := rowAt.snoc h13 (96 + x)
    rw [List.length_map] at this
    exact this
/-- the model's row when a word of some code has come -/
def crS (s : Nat → Int32) (n : Nat) (code : Int32) (k len : Nat) : Nat → Int32 := upd (upd (upd (upd (upd (upd (upd (upd s 4 (nI (n + 1))) (71 + 5 * n) code) (72 + 5 * n) 0) (73 + 5 * n) (-1006)) (74 + 5 * n) (-1006)) (75 + 5 * n) 0) (47 + 12 * k + len) (nI n)) (45 + k) (nI (len + 1))
theorem cr_out {s : Nat → Int32} {n k len j : Nat} {code : Int32} (h1 : j ≠ 4) (h2 : j ≠ 71 + 5 * n) (h3 : j ≠ 72 + 5 * n) (h4 : j ≠ 73 + 5 * n) (h5 : j ≠ 74 + 5 * n) (h6 : j ≠ 75 + 5 * n) (h7 : j ≠ 47 + 12 * k + len) (h8 : j ≠ 45 + k) : crS s n code k len j = s j := by
  unfold crS
  rw [upd_ne h8, upd_ne h7, upd_ne h6, upd_ne h5, upd_ne h4, upd_ne h3, upd_ne h2, upd_ne h1]
theorem pX.more {n k : Nat} {r : Nat → List Nat} {h : Nat → Option Nat} (p : pX n r h) (hn : n < 12) (hk : k < 2) : pX (n + 1) (ur r k (r k ++ [n])) h := by
  refine ⟨hn, ?_⟩
  have h1 := rows_more (r := r) (k := k) (v := n) hk (l := r k ++ [n]) List.perm_append_comm (hL h)
  rw [List.range_succ]
  exact (h1.trans (List.Perm.cons n p.2)).trans (List.perm_append_comm (l₁ := [n]) (l₂ := List.range n))
theorem mid_end {n t k : Nat} {r : Nat → List Nat} {q : Nat → Option Nat} {d : Nat → Nat} {L : Nat → List Nat} {xs : List Nat} {w : Mem} {s : Nat → Int32} (h : Mid n t r q d L k xs w s) (hl : 1 ≤ xs.length) : RwE 0 (n + 1) t (ur r k (r k ++ [n])) q d (ur L n xs) w (crS s n (nI (enc xs 0)) k (r k).length) := by
  obtain ⟨w0, p, h1, h2, h3, h4, h5, h6, h7, h8, h9, h10, h11, h12, h13⟩ := h
  obtain ⟨pT, pG, pH, pD, pC, pRc, pRs, pL, pP, pX, pK, pN, pZ⟩ := p
  have hlen : (r k).length ≤ n := pX.len h2
  have e : ∀ j, j < 42 ∧ j ≠ 27 ∧ j ≠ 29 ∧ j ≠ 31 ∧ j ≠ 33 ∧ j ≠ 35 ∧ j ≠ 39 ∧ j ≠ 41 → w j = w0 j := fun j a => h5 j a.1 a.2.1 a.2.2.1 a.2.2.2.1 a.2.2.2.2.1 a.2.2.2.2.2.1 a.2.2.2.2.2.2.1 a.2.2.2.2.2.2.2
  have co : ∀ j, j ≠ 4 → j < 45 ∨ (71 ≤ j ∧ j < 71 + 5 * n) ∨ 76 + 5 * n ≤ j → crS s n (nI (enc xs 0)) k (r k).length j = s j := fun j a b => cr_out a (by omega) (by omega) (by omega) (by omega) (by omega) (by omega) (by omega)
  have c4 : crS s n (nI (enc xs 0)) k (r k).length 4 = nI (n + 1) := by
    unfold crS
    rw [upd_ne (by omega), upd_ne (by omega), upd_ne (by omega), upd_ne (by omega), upd_ne (by omega), upd_ne (by omega), upd_ne (by omega), upd_at]
  have c71 : crS s n (nI (enc xs 0)) k (r k).length (71 + 5 * n) = nI (enc xs 0) := by
    unfold crS
    rw [upd_ne (by omega), upd_ne (by omega), upd_ne (by omega), upd_ne (by omega), upd_ne (by omega), upd_ne (by omega), upd_at]
  have c72 : crS s n (nI (enc xs 0)) k (r k).length (72 + 5 * n) = 0 := by
    unfold crS
    rw [upd_ne (by omega), upd_ne (by omega), upd_ne (by omega), upd_ne (by omega), upd_ne (by omega), upd_at]
  have c73 : crS s n (nI (enc xs 0)) k (r k).length (73 + 5 * n) = -1006 := by
    unfold crS
    rw [upd_ne (by omega), upd_ne (by omega), upd_ne (by omega), upd_ne (by omega), upd_at]
  have c74 : crS s n (nI (enc xs 0)) k (r k).length (74 + 5 * n) = -1006 := by
    unfold crS
    rw [upd_ne (by omega), upd_ne (by omega), upd_ne (by omega), upd_at]
  have c75 : crS s n (nI (enc xs 0)) k (r k).length (75 + 5 * n) = 0 := by
    unfold crS
    rw [upd_ne (by omega), upd_ne (by omega), upd_at]
  obtain ⟨q1, q2, q3, q4, q5, q6, q7⟩ := pC
  unfold RwE
  rw [e 3 (by decide), e 5 (by decide), e 7 (by decide), e 9 (by decide), e 12 (by decide), e 14 (by decide), e 16 (by decide), e 18 (by decide), e 20 (by decide), e 22 (by decide), e 24 (by decide), e 26 (by decide), e 0 (by decide), e 37 (by decide)]
  refine ⟨pT.s (fun j a b => co j (by omega) (by omega)), pG.s (fun g y a b => co _ (by omega) (by omega)), pH.s (fun g a => co _ (by omega) (by omega)), pD.s (fun g y a b => co _ (by omega) (by omega)), ⟨q1, (co 0 (by decide) (by omega)).trans q2, (co 1 (by decide) (by omega)).trans q3, (co 2 (by decide) (by omega)).trans q4, (co 3 (by decide) (by omega)).trans q5, ?_, c4⟩, ?_, ?_, ?_, ?_, pX.more h1 h2, ?_, ?_, fun v a b => pZ v (by omega) b⟩
  · rw [h6, upd_at]
  · rw [h10, h11]
    exact pRc.snoc h2 (by omega) n
  · have := (pRs.s (s' := upd (upd (upd (upd (upd (upd s 4 (nI (n + 1))) (71 + 5 * n) (nI (enc xs 0))) (72 + 5 * n) 0) (73 + 5 * n) (-1006)) (74 + 5 * n) (-1006)) (75 + 5 * n) 0) (fun j a b => by
      rw [upd_ne (by omega), upd_ne (by omega), upd_ne (by omega), upd_ne (by omega), upd_ne (by omega), upd_ne (by omega)])).snoc h2 (show (r k).length < 12 by omega) n
    exact this
  · intro v hv
    rw [h7]
    by_cases c : v = n
    · subst c
      rw [ur_at, upd_at, c71]
      exact ⟨hl, h3, h4, rfl, h13, rfl⟩
    · obtain ⟨m1, m2, m3, m4, m5, m6⟩ := pL v (by omega)
      rw [ur_ne c, upd_ne c, co _ (by omega) (by omega)]
      refine ⟨m1, m2, m3, m4, m5.congr (fun i hi => h12 _ ?_), m6⟩
      rw [List.length_map] at hi
      omega
  · intro v hv
    rw [h8, h9]
    by_cases c : v = n
    · subst c
      rw [upd_at, upd_at, c72, c73, c74, c75]
      exact ⟨rfl, rfl, (pZ v (by omega) h1).symm, Or.inl ⟨rfl, rfl⟩⟩
    · obtain ⟨m1, m2, m3, m4⟩ := pP v (by omega)
      rw [upd_ne c, upd_ne c, co (72 + 5 * v) (by omega) (by omega), co (73 + 5 * v) (by omega) (by omega), co (74 + 5 * v) (by omega) (by omega), co (75 + 5 * v) (by omega) (by omega)]
      refine ⟨m1, m2, m3, ?_⟩
      rcases m4 with z | ⟨⟨a, ha, z⟩, z2⟩
      · exact Or.inl z
      · exact Or.inr ⟨⟨a, ha, (upd_ne c).trans z⟩, z2⟩
  · intro g hg
    refine ⟨(pK g hg).1, fun v hv => ?_⟩
    have hvn := pX.held_lt hg hv
    rw [h8, upd_ne (by omega), ur_ne (by omega)]
    exact (pK g hg).2 v hv
  · have : csum (n + 1) (fun v => crS s n (nI (enc xs 0)) k (r k).length (72 + 5 * v)) = csum n (fun v => s (72 + 5 * v)) + 0 := by
      show csum n _ + crS s n (nI (enc xs 0)) k (r k).length (72 + 5 * n) = _
      rw [c72]
      exact congrArg (fun y => y + 0) (csum_congr n (fun v hv => co _ (by omega) (by omega)))
    exact pN.trans (this.trans (Int32.add_zero _)).symm
