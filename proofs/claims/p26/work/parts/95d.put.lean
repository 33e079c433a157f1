/-! the law's numbers; letters are written, words are put -/
theorem l_low (a : Int32) {m : Nat} (h0 : 0 < m) (hm : m < 2 ^ 31) : ∃ x : Nat, x < m ∧ qL_low a (nI m) = some (nI x) := by
  obtain ⟨j, hj, e⟩ := pk_andE a (m := (2147483647 : Int32)) 31 (by decide)
  unfold qL_low
  rw [if_neg (nI_ne0 (by omega) (by omega)), e, pk_rem hj h0 hm]
  exact ⟨j % m, Nat.mod_lt _ h0, rfl⟩
theorem wr_code : ∀ x, x < 26 → cds 8 (nI (97 + x)).toInt64 0 = 1 := by decide +kernel
theorem wr_byte : ∀ x, x < 26 → byt ((nI (97 + x)).toInt64.toUInt64) 0 = 97 + x := by decide +kernel
/-- the state while m letters stand on the pad -/
def OkP (V S : Mem) (t m : Nat) : Prop := t ≤ 99999 ∧ RR V S ∧ (∃ n r h d L, GW n t r h d L (gv V 1) (S 1)) ∧ V 85 0 = nI m ∧ ∃ c : Nat → Nat, ∀ i, i < m → V 87 i = nI (c i) ∧ 97 ≤ c i ∧ c i ≤ 122
theorem RR.gw {V S : Mem} {n t : Nat} (h : RR V S) (h1 : V 1 0 = nI t) (ht : t ≤ 99999) (hn : V 28 0 = nI n) (hn2 : n ≤ 12) (e : EX n t (gv V 1)) : ∃ n r h d L, GW n t r h d L (gv V 1) (S 1) := by
  obtain ⟨⟨n', t', r, q, d, L, ht', p⟩, -⟩ := id h
  have e1 : V 1 0 = nI t' := p.2.2.2.2.1.1
  have e2 : V 28 0 = nI n' := p.2.2.2.2.1.2.2.2.2.2.1
  have n12 := p.2.2.2.2.2.2.2.2.2.1.1
  obtain rfl : t' = t := (nI_eq (by omega) (by omega)).mp (e1.symm.trans h1)
  obtain rfl : n' = n := (nI_eq (by omega) (by omega)).mp (e2.symm.trans hn)
  exact ⟨_, r, q, d, L, p, e⟩
theorem l_write {V S : Mem} {t m x : Nat} (h : OkP V S t m) (hm : m < 60) (hx : x < 26) : ∃ a V' S', qX6_write V ((97 : Int32) + nI x).toInt64 = some (a, V') ∧ OkP V' S' t (m + 1) ∧ V' 0 = V 0 := by
  obtain ⟨ht, hR, ⟨n, r, q, d, L, G⟩, h85, c, hc⟩ := h
  obtain ⟨a, V', S', e1, -, hR'⟩ := sim_write hR ((97 : Int32) + nI x).toInt64
  have e97 : (97 : Int32) + nI x = nI (97 + x) := nI_add 97 x
  obtain ⟨T', x', k1, k2, k3, k4, k5⟩ := it_app (a := (nI (97 + x)).toInt64) rfl 1 m fuel V (by decide) (by omega) (fuel_lt (by decide)) h85
  have hw : qX6_write V ((97 : Int32) + nI x).toInt64 = some (T' 85 0, T') := by
    unfold qX6_write fX6_codesIn
    simp only [lt_e]
    rw [e97, wr_code x hx, if_neg (by decide), h85, show nI m + (1 : Int32) = nI (m + 1) from nI_1 m, if_pos (show nI (m + 1) ≤ (60 : Int32) from nI_le (b := 60) (by omega) (by decide))]
    rw [show it (lbX6_write_39 (nI (97 + x)).toInt64) fuel ((1 : Int32) - 1, V) = some (x', T') from k1, Option.bind_some]
  have eq := Option.some.inj (hw.symm.trans e1)
  obtain rfl : T' = V' := congrArg Prod.snd eq
  have hg : ∀ j, j < 42 → gv T' 1 j = gv V 1 j := fun j hj => k5 (1 + j) (by omega) (by omega)
  have c1 := G.1.2.2.2.2.1
  refine ⟨_, T', S', hw, ⟨ht, hR', RR.gw (n := n) hR' ?_ ht ?_ G.1.2.2.2.2.2.2.2.2.2.1.1 (G.2.w hg), k2, fun i => if i = m then 97 + x else c i, fun i hi => ?_⟩, k5 0 (by decide) (by decide)⟩
  · rw [k5 1 (by decide) (by decide)]
    exact c1.1
  · rw [k5 28 (by decide) (by decide)]
    exact c1.2.2.2.2.2.1
  · dsimp only
    by_cases z : i = m
    · rw [if_pos z, z]
      have := k4 0 (by decide)
      rw [wr_byte x hx] at this
      exact ⟨this, by omega, by omega⟩
    · rw [if_neg z, k3 i (by omega)]
      exact hc i (by omega)
theorem l_writes {a2 a3 : Int32} {t q : Nat} (hq : q < 6) (hl : qL_low a2 (6 : Int32) = some (nI q)) {V0 : Mem} : ∀ (m i f : Nat) (V S : Mem), i + m = 1 + q → m < f → OkP V S t i → V 0 = V0 0 → ∃ V' S', it (lbL_change_157 a2 a3) f (nI i, V) = some (nI (1 + q), V') ∧ OkP V' S' t (1 + q) ∧ V' 0 = V0 0 := by
  intro m
  induction m with
  | zero =>
    intro i f V S hi hf h h0
    obtain ⟨f, rfl⟩ : ∃ g, f = g + 1 := ⟨f - 1, by omega⟩
    obtain rfl : i = 1 + q := by omega
    refine ⟨V, S, it_o ?_, h, h0⟩
    unfold lbL_change_157
    rw [hl, Option.bind_some, if_pos (show (1 : Int32) + nI q ≤ nI (1 + q) by
      rw [show (1 : Int32) + nI q = nI (1 + q) from nI_add 1 q]
      exact Int32.le_refl _)]
  | succ m ih =>
    intro i f V S hi hf h h0
    obtain ⟨f, rfl⟩ : ∃ g, f = g + 1 := ⟨f - 1, by omega⟩
    obtain ⟨x, hx, ex⟩ := l_low (a3 >>> (((2 : Int32) * nI i) &&& 31)) (m := 26) (by decide) (by decide)
    obtain ⟨a, V', S', e1, e2, e3⟩ := l_write h (by omega) hx
    have e : lbL_change_157 a2 a3 (nI i, V) = some (.inl (nI (i + 1), V')) := by
      unfold lbL_change_157
      rw [hl, Option.bind_some, if_neg (show ¬ (1 : Int32) + nI q ≤ nI i by
        rw [show (1 : Int32) + nI q = nI (1 + q) from nI_add 1 q]
        exact nI_ge (by omega) (by omega))]
      rw [show qL_low (a3 >>> (((2 : Int32) * (nI i, V).1) &&& 31)) (26 : Int32) = some (nI x) from ex, Option.bind_some]
      rw [show qX6_write (nI i, V).2 ((97 : Int32) + nI x).toInt64 = some (a, V') from e1, Option.bind_some, nI_1]
    rw [it_s e]
    exact ih (i + 1) f V' S' (by omega) (by omega) e2 (e3.trans h0)
theorem gF_let {c : Nat → Nat} {m : Nat} (hc : ∀ i, i < m → 97 ≤ c i ∧ c i ≤ 122) : ∀ k p l, p + k = m → l + k ≤ 6 → 0 < l + k → gF c m k p l = -1006
  | 0, p, l, h1, h2, h3 => by
    show (if l = 0 then nI m else -1006) = -1006
    rw [if_neg (by omega)]
  | k + 1, p, l, h1, h2, h3 => by
    show (if 97 ≤ c p ∧ c p ≤ 122 then (if 6 ≤ l then nI p else gF c m k (p + 1) (l + 1)) else if c p = 44 ∧ 0 < l then gF c m k (p + 1) 0 else nI p) = -1006
    rw [if_pos (hc p (by omega)), if_neg (by omega)]
    exact gF_let hc k (p + 1) (l + 1) (by omega) (by omega) (by omega)
theorem ncom_let {c : Nat → Nat} : ∀ k i, (∀ j, j < k → ¬ c (i + j) = 44) → ncom c k i = 0
  | 0, _, _ => rfl
  | k + 1, i, h => by
    show (if c i = 44 then 1 else 0) + ncom c k (i + 1) = 0
    rw [if_neg (show ¬ c i = 44 from h 0 (by omega)), ncom_let k (i + 1) (fun j hj => by
      have := h (j + 1) (by omega)
      rw [show i + (j + 1) = i + 1 + j by omega] at this
      exact this)]
/-- what a word's coming does to the rows that EX speaks of -/
def Br (n : Nat) (w w' : Mem) : Prop := (∀ j, j = 0 ∨ j = 20 ∨ j = 22 ∨ j = 26 → w' j = w j) ∧ (∀ v, v < n → w' 29 v = w 29 v ∧ w' 33 v = w 33 v ∧ w' 35 v = w 35 v) ∧ w' 33 n = -1006 ∧ w' 35 n = -1006 ∧ w' 27 0 = nI (n + 1)
theorem Br.w {n : Nat} {w a b : Mem} (h : Br n w a) (e : ∀ j, j < 42 → b j = a j) : Br n w b := by
  obtain ⟨h1, h2, h3, h4, h5⟩ := h
  refine ⟨fun j hj => (e j (by omega)).trans (h1 j hj), fun v hv => ?_, ?_, ?_, ?_⟩
  · rw [e 29 (by decide), e 33 (by decide), e 35 (by decide)]
    exact h2 v hv
  · rw [e 33 (by decide)]
    exact h3
  · rw [e 35 (by decide)]
    exact h4
  · rw [e 27 (by decide)]
    exact h5
theorem br_start {n : Nat} {w : Mem} (hn : n < 12) (w27 : w 27 0 = nI n) (a : Int32) : Br n w (fX4_startWord w a) := by
  unfold fX4_startWord
  simp only [lt_e]
  rw [w27, if_pos (show nI n < (12 : Int32) from nI_lt (b := 12) hn (by decide)), cset_nI hn, cset_nI hn, cset_nI hn]
  have A : ∀ j, j ≠ 29 → j ≠ 33 → j ≠ 35 → j ≠ 39 → j ≠ 41 → fX4_addLast (sv (sv (sv w 29 n 0) 33 n (-1006)) 35 n (-1006)) a (nI n) j = w j := fun j h1 h2 h3 h4 h5 => by
    rw [addLast_r h4 h5, sv_k h3, sv_k h2, sv_k h1]
  have A29 : fX4_addLast (sv (sv (sv w 29 n 0) 33 n (-1006)) 35 n (-1006)) a (nI n) 29 = upd (w 29) n 0 := by
    rw [addLast_r (by decide) (by decide), sv_k (by decide), sv_k (by decide), sv_row]
  have A33 : fX4_addLast (sv (sv (sv w 29 n 0) 33 n (-1006)) 35 n (-1006)) a (nI n) 33 = upd (w 33) n (-1006) := by
    rw [addLast_r (by decide) (by decide), sv_k (by decide), sv_row, sv_k (by decide)]
  have A35 : fX4_addLast (sv (sv (sv w 29 n 0) 33 n (-1006)) 35 n (-1006)) a (nI n) 35 = upd (w 35) n (-1006) := by
    rw [addLast_r (by decide) (by decide), sv_row, sv_k (by decide), sv_k (by decide)]
  generalize fX4_addLast (sv (sv (sv w 29 n 0) 33 n (-1006)) 35 n (-1006)) a (nI n) = M at A A29 A33 A35 ⊢
  refine ⟨fun j hj => ?_, fun v hv => ?_, ?_, ?_, ?_⟩
  · rw [sv_k (by omega)]
    exact A j (by omega) (by omega) (by omega) (by omega) (by omega)
  · rw [sv_k (by decide), sv_k (by decide), sv_k (by decide), A29, A33, A35, upd_ne (by omega), upd_ne (by omega), upd_ne (by omega)]
    exact ⟨rfl, rfl, rfl⟩
  · rw [sv_k (by decide), A33, upd_at]
  · rw [sv_k (by decide), A35, upd_at]
  · rw [sv_at, A 27 (by decide) (by decide) (by decide) (by decide) (by decide), w27, nI_1]
theorem br_letter {n : Nat} {w w' : Mem} (h : Br n w w') (hn : n < 12) (c : Int32) : Br n w (fX4_addLetter w' c) := by
  obtain ⟨h1, h2, h3, h4, h5⟩ := id h
  unfold fX4_addLetter
  simp only [lt_e]
  rw [h5, nI_pred]
  refine ite_P (P := fun M : Mem => Br n w M) (fun _ => h) (fun _ => ?_)
  generalize (nI n * (6 : Int32) + cget 12 (w' 29) (nI n)) = i
  refine ⟨fun j hj => ?_, fun v hv => ?_, ?_, ?_, ?_⟩
  · rw [cadd_r (by omega), cset_r (by omega)]
    exact h1 j hj
  · rw [cadd_nI hn, sv_row, upd_ne (by omega), cset_r (by decide), sv_k (by decide), cset_r (by decide), sv_k (by decide), cset_r (by decide)]
    exact h2 v hv
  · rw [cadd_r (by decide), cset_r (by decide)]
    exact h3
  · rw [cadd_r (by decide), cset_r (by decide)]
    exact h4
  · rw [cadd_r (by decide), cset_r (by decide)]
    exact h5
theorem br_bring {n m : Nat} {U : Mem} {a : Int32} {c : Nat → Nat} (hn : n < 12) (hm : m ≤ 60) (u27 : gv U 1 27 0 = nI n) (hc : ∀ i, i < m → U 87 i = nI (c i) ∧ 97 ≤ c i ∧ c i ≤ 122) : ∀ l, l ≤ m → Br n (gv U 1) (gv (fld (brC a) l (pv U 1 42 (fX4_startWord (gv U 1) a))) 1)
  | 0, _ => (br_start hn u27 a).w (fun j hj => gv1_pv hj)
  | l + 1, hl => by
    have ih := br_bring (a := a) hn hm u27 hc l (by omega)
    have hx := hc l (by omega)
    have e : fld (brC a) (l + 1) (pv U 1 42 (fX4_startWord (gv U 1) a)) = pv (fld (brC a) l (pv U 1 42 (fX4_startWord (gv U 1) a))) 1 42 (fX4_addLetter (gv (fld (brC a) l (pv U 1 42 (fX4_startWord (gv U 1) a))) 1) (nI (c l))) := by
      have e0 : fld (brC a) (l + 1) (pv U 1 42 (fX4_startWord (gv U 1) a)) = brC a l (fld (brC a) l (pv U 1 42 (fX4_startWord (gv U 1) a))) := rfl
      rw [e0]
      have ec : cget 60 (fld (brC a) l (pv U 1 42 (fX4_startWord (gv U 1) a)) 87) (nI l) = nI (c l) := by
        rw [cget_nI (by omega), br_r _ 87 (by decide), pvo (by decide)]
        exact hx.1
      generalize fld (brC a) l (pv U 1 42 (fX4_startWord (gv U 1) a)) = X at ec ⊢
      unfold brC
      rw [ec, if_neg (fun z => by have := (nI_eq (a := c l) (b := 44) (by omega) (by decide)).mp z; omega)]
    rw [e]
    exact (br_letter ih hn _).w (fun j hj => gv1_pv hj)
theorem ex_bring {n t : Nat} {w w' : Mem} (h : EX n t w) (b : Br n w w') : EX (n + 1) t w' := by
  obtain ⟨⟨⟨e1, e2⟩, e3⟩, e4⟩ := h
  obtain ⟨h1, h2, h3, h4, h5⟩ := b
  have r0 := h1 0 (by omega)
  have r20 := h1 20 (by omega)
  have r22 := h1 22 (by omega)
  have r26 := h1 26 (by omega)
  refine ⟨⟨⟨?_, fun v hv => ?_⟩, fun g hg => ?_⟩, ?_⟩
  · have a1 : csum (n + 1) (lP w') = csum n (lP w) := by
      show csum n (lP w') + lP w' n = _
      rw [show lP w' n = 0 from if_pos h3, Int32.add_zero]
      refine csum_congr n (fun v hv => ?_)
      unfold lP
      rw [(h2 v hv).1, (h2 v hv).2.1]
    rw [a1, r0, r22, r26]
    exact e1
  · by_cases c : v = n
    · subst c
      exact Or.inl ⟨h3, h4⟩
    · rw [(h2 v (by omega)).2.1, (h2 v (by omega)).2.2]
      exact e2 v (by omega)
  · unfold hO
    rw [r20, r22]
    exact e3 g hg
  · rw [r0]
    exact e4
