/-! a world's rows: the first 42; what stands behind them doesn't matter -/
def c42 (W : Mem) : Mem := fun j => if j < 42 then W j else fun _ => 0
theorem c42_at {W : Mem} {j : Nat} (h : j < 42) : c42 W j = W j := if_pos h
theorem c42_eq {W W' : Mem} (h : ∀ j, j < 42 → W j = W' j) : c42 W = c42 W' := by
  funext j
  unfold c42
  by_cases c : j < 42
  · rw [if_pos c, if_pos c, h j c]
  · rw [if_neg c, if_neg c]
theorem c42_of {W W' : Mem} (h : c42 W = c42 W') {j : Nat} (c : j < 42) : W j = W' j := by
  rw [← c42_at (W := W) c, h, c42_at c]
theorem y_sv {W : Mem} {k j : Nat} {v : Int32} (h : k < 42) : sv (c42 W) k j v = c42 (sv W k j v) := by
  funext k' j'
  unfold sv c42
  by_cases c : k' < 42
  · rw [if_pos c, if_pos c]
  · rw [if_neg c, if_neg c, if_neg (fun q => c (by rw [q.1]; exact h))]
theorem y_cset {W : Mem} {k n : Nat} {i v : Int32} (h : k < 42) : cset (c42 W) k n i v = c42 (cset W k n i v) := by
  unfold cset
  by_cases c : i < 0 ∨ n ≤ i.toNatClampNeg
  · rw [if_pos c, if_pos c]
  · rw [if_neg c, if_neg c, y_sv h]
theorem y_cadd {W : Mem} {k n : Nat} {i v : Int32} (h : k < 42) : cadd (c42 W) k n i v = c42 (cadd W k n i v) := by
  unfold cadd
  by_cases c : i < 0 ∨ n ≤ i.toNatClampNeg
  · rw [if_pos c, if_pos c]
  · rw [if_neg c, if_neg c, y_sv h, c42_at h]
theorem y_ite {c : Prop} [Decidable c] {A B A' B' : Mem} (h1 : c → A' = c42 A) (h2 : ¬ c → B' = c42 B) : (if c then A' else B') = c42 (if c then A else B) := by
  by_cases h : c
  · rw [if_pos h, if_pos h, h1 h]
  · rw [if_neg h, if_neg h, h2 h]
theorem y_shUp {a : Int32} : ∀ (n : Nat) (W : Mem), shUp a n (c42 W) = c42 (shUp a n W)
  | 0, _ => rfl
  | n + 1, W => by
    show shUp a n (cset (c42 W) 39 24 (a * 12 + nI (n + 1)) (cget 24 (c42 W 39) (a * 12 + nI (n + 1) - 1))) = _
    rw [y_cset (by decide), y_shUp n, c42_at (j := 39) (by decide)]
    rfl
theorem y_shDn {a : Int32} : ∀ (n p : Nat) (W : Mem), shDn a n p (c42 W) = c42 (shDn a n p W)
  | 0, _, _ => rfl
  | n + 1, p, W => by
    show shDn a n (p + 1) (cset (c42 W) 39 24 (a * 12 + nI p - 1) (cget 24 (c42 W 39) (a * 12 + nI p))) = _
    rw [y_cset (by decide), y_shDn n, c42_at (j := 39) (by decide)]
    rfl
theorem y_addFirst {W : Mem} {a b : Int32} : fX4_addFirst (c42 W) a b = c42 (fX4_addFirst W a b) := by
  unfold fX4_addFirst
  rw [c42_at (j := 41) (by decide)]
  refine y_ite (fun _ => rfl) (fun _ => ?_)
  rw [y_shUp, y_cset (by decide), y_cset (by decide)]
theorem y_addLast {W : Mem} {a b : Int32} : fX4_addLast (c42 W) a b = c42 (fX4_addLast W a b) := by
  unfold fX4_addLast
  simp only [lt_e]
  rw [c42_at (j := 41) (by decide)]
  refine y_ite (fun _ => rfl) (fun _ => ?_)
  rw [y_cset (by decide), y_cset (by decide)]
theorem y_release {W : Mem} {a : Int32} : fX1_release (c42 W) a = c42 (fX1_release W a) := by
  unfold fX1_release
  simp only [lt_e]
  rw [y_cset (by decide), y_cset (by decide)]
theorem y_mark {W : Mem} {a b c : Int32} : fX4_markPassed (c42 W) a b c = c42 (fX4_markPassed W a b c) := by
  unfold fX4_markPassed
  simp only [lt_e]
  rw [y_cset (by decide), y_cset (by decide)]
theorem y_back {W : Mem} {a : Int32} : fX5_sendBack (c42 W) a = c42 (fX5_sendBack W a) := by
  unfold fX5_sendBack
  simp only [lt_e]
  rw [c42_at (j := 20) (by decide), c42_at (j := 16) (by decide), c42_at (j := 22) (by decide), y_cadd (by decide), y_release, y_cadd (by decide), c42_at (j := 12) (by decide), y_addFirst]
  refine y_ite (fun _ => rfl) (fun _ => ?_)
  exact y_ite (fun _ => rfl) (fun _ => rfl)
theorem y_remove {W : Mem} {a : Int32} {j : Nat} : fX4_removeFrom (c42 W) a j = c42 (fX4_removeFrom W a j) := by
  unfold fX4_removeFrom
  rw [c42_at (j := 41) (by decide), y_shDn, y_cset (by decide)]
theorem y_wordAt {W : Mem} {a b : Int32} : fX4_wordAt (c42 W) a b = fX4_wordAt W a b := by
  unfold fX4_wordAt
  rw [c42_at (j := 39) (by decide)]
theorem y_hasPassed {W : Mem} {a : Int32} : fX4_hasPassed (c42 W) a = fX4_hasPassed W a := by
  unfold fX4_hasPassed
  rw [c42_at (j := 33) (by decide)]
theorem y_takeWaiting {W : Mem} {a : Int32} : fX4_takeWaiting (c42 W) a = ((fX4_takeWaiting W a).1, c42 (fX4_takeWaiting W a).2) := by
  unfold fX4_takeWaiting
  simp only [y_wordAt, y_hasPassed]
  rw [c42_at (j := 41) (by decide)]
  generalize fndO _ _ 0 = F
  cases F with
  | none => rfl
  | some j =>
    show (fX4_wordAt W a (nI j), fX4_removeFrom (c42 W) a j) = (fX4_wordAt W a (nI j), c42 (fX4_removeFrom W a j))
    rw [y_remove]
theorem y_take {W : Mem} {a : Int32} : fX5_takeWord (c42 W) a = c42 (fX5_takeWord W a) := by
  unfold fX5_takeWord fX1_hasWord
  simp only [lt_e]
  rw [c42_at (j := 20) (by decide), c42_at (j := 12) (by decide)]
  refine y_ite (fun _ => ?_) (fun _ => rfl)
  rw [y_takeWaiting]
  dsimp only
  rw [y_cset (by decide)]
theorem y_pass {W : Mem} {a : Int32} : fX5_passLetter (c42 W) a = c42 (fX5_passLetter W a) := by
  unfold fX5_passLetter
  simp only [lt_e]
  rw [c42_at (j := 20) (by decide), c42_at (j := 0) (by decide)]
  refine y_ite (fun _ => rfl) (fun _ => ?_)
  rw [y_sv (by decide), y_cadd (by decide), c42_at (j := 22) (by decide), c42_at (j := 29) (by decide)]
  refine y_ite (fun _ => ?_) (fun _ => rfl)
  rw [y_release, y_cadd (by decide), c42_at (j := 0) (by decide), y_mark, c42_at (j := 12) (by decide), y_addLast]
theorem y_gap (W : Mem) (x : Int32) : fX3_gapAt (c42 W) x = fX3_gapAt W x := gap_eq (c42_at (by decide)) (c42_at (by decide)) (c42_at (by decide)) (c42_at (by decide)) x
theorem y_across {W : Mem} {a gap : Int32} : fX1_isOpenAcross (c42 W) a gap = fX1_isOpenAcross W a gap := by
  unfold fX1_isOpenAcross fX1_isShut
  rw [c42_at (j := 18) (by decide), c42_at (j := 14) (by decide)]
theorem y_act {W : Mem} {g : Nat} {gap q : Int32} : actC gap g (q, c42 W) = ((actC gap g (q, W)).1, c42 (actC gap g (q, W)).2) := by
  unfold actC
  dsimp only
  rw [y_across]
  by_cases c : fX1_isOpenAcross W (nI g) gap = 0
  · rw [if_pos c, if_pos c, y_back]
  · rw [if_neg c, if_neg c, y_take, y_pass]
theorem y_fld {W : Mem} {gap q : Int32} : ∀ i : Nat, fld (actC gap) i (q, c42 W) = ((fld (actC gap) i (q, W)).1, c42 (fld (actC gap) i (q, W)).2)
  | 0 => rfl
  | i + 1 => by
    show actC gap i (fld (actC gap) i (q, c42 W)) = _
    rw [y_fld i, y_act]
    rfl
theorem y_step {W : Mem} {gap : Int32} : fX5_stepAcross (c42 W) gap = c42 (fX5_stepAcross W gap) := by
  unfold fX5_stepAcross
  rw [y_fld 4]
  dsimp only
  generalize fld (actC gap) 4 (1, W) = R
  rw [c42_at (j := 0) (by decide), y_sv (by decide), y_sv (by decide)]
/-- one step, by the world's own clock -/
def st1 (w : Mem) : Mem := fX5_stepAcross w (fX3_gapAt w (w 0 0))
theorem y_st1 {W : Mem} : st1 (c42 W) = c42 (st1 W) := by
  unfold st1
  rw [y_gap, c42_at (j := 0) (by decide), y_step]
theorem stps_0 (w : Mem) : stps 0 w = w := rfl
theorem stps_s (n : Nat) (w : Mem) : stps (n + 1) w = st1 (stps n w) := rfl
theorem y_stps {W : Mem} : ∀ n : Nat, stps n (c42 W) = c42 (stps n W)
  | 0 => rfl
  | n + 1 => by rw [stps_s, stps_s, y_stps n, y_st1]
theorem stps_ag {W W' : Mem} (h : ∀ j, j < 42 → W j = W' j) (n : Nat) {j : Nat} (hj : j < 42) : stps n W j = stps n W' j := by
  have e := y_stps (W := W) n
  rw [c42_eq h, y_stps] at e
  exact c42_of e.symm hj
theorem st1_ag {W W' : Mem} (h : ∀ j, j < 42 → W j = W' j) {j : Nat} (hj : j < 42) : st1 W j = st1 W' j := stps_ag h 1 hj
