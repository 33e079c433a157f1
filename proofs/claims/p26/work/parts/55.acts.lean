/-! the letters of a code -/
def encR : List Nat → Nat
  | [] => 0
  | x :: r => 27 * encR r + x
theorem enc_R : ∀ l r : List Nat, enc l (encR r) = encR (l.reverse ++ r)
  | [], r => rfl
  | x :: l, r => by
    show enc l (encR (x :: r)) = _
    rw [enc_R l (x :: r), List.reverse_cons, List.append_assoc]
    rfl
theorem encR_lt : ∀ r : List Nat, (∀ x ∈ r, 1 ≤ x ∧ x ≤ 26) → encR r < 27 ^ r.length
  | [], _ => by decide
  | x :: r, h => by
    have h1 := encR_lt r (fun y hy => h y (List.mem_cons_of_mem _ hy))
    have h2 := (h x List.mem_cons_self).2
    show 27 * encR r + x < 27 ^ (r.length + 1)
    rw [Nat.pow_succ]
    omega
theorem encR_lt6 {r : List Nat} (h : ∀ x ∈ r, 1 ≤ x ∧ x ≤ 26) (hl : r.length ≤ 6) : encR r < 387420489 :=
  Nat.lt_of_lt_of_le (encR_lt r h) (Nat.pow_le_pow_right (n := 27) (j := 6) (by decide) hl)
theorem it_lets : ∀ (r : List Nat) (c f : Nat), (∀ x ∈ r, 1 ≤ x ∧ x ≤ 26) → r.length ≤ 6 → r.length < f → it lbX7_lettersOf_13 f (nI c, nI (encR r)) = some (nI (c + r.length), nI 0)
  | [], c, f, _, _, hf => by
    obtain ⟨f, rfl⟩ : ∃ g, f = g + 1 := ⟨f - 1, by omega⟩
    rfl
  | x :: r, c, f, h, hl, hf => by
    obtain ⟨f, rfl⟩ : ∃ g, f = g + 1 := ⟨f - 1, by omega⟩
    have hl' : r.length + 1 ≤ 6 := hl
    have hf' : r.length + 1 < f + 1 := hf
    have hx := h x List.mem_cons_self
    have hb := encR_lt6 (r := r) (fun y hy => h y (List.mem_cons_of_mem _ hy)) (by omega)
    have hb2 : encR (x :: r) < 387420489 := encR_lt6 h hl
    have hd : encR (x :: r) / 27 = encR r := by
      show (27 * encR r + x) / 27 = encR r
      omega
    have hp : 0 < encR (x :: r) := by
      show 0 < 27 * encR r + x
      omega
    have e : lbX7_lettersOf_13 (nI c, nI (encR (x :: r))) = some (.inl (nI (c + 1), nI (encR r))) := by
      unfold lbX7_lettersOf_13
      dsimp only
      rw [if_neg (le0_nI hp (by omega)), nI_1, show (27 : Int32) = nI 27 from rfl, pk_div (by omega) (by decide) (by decide), hd]
    show (lbX7_lettersOf_13 (nI c, nI (encR (x :: r)))).bind _ = _
    rw [e]
    show it lbX7_lettersOf_13 f _ = _
    rw [it_lets r (c + 1) f (fun y hy => h y (List.mem_cons_of_mem _ hy)) (by omega) (by omega)]
    congr 3
    show c + 1 + r.length = c + (r.length + 1)
    omega
theorem ow0 (v : Nat) : fX7_ofWord (nI v) (0 : Int32) = nI (71 + 5 * v) := ofWord_nI v 0
theorem r_lettersOf {S : Mem} {v : Nat} (hv : v < 12) {l : List Nat} (h : ∀ x ∈ l, 1 ≤ x ∧ x ≤ 26) (hl : l.length ≤ 6) (he : S 1 (71 + 5 * v) = nI (enc l 0)) : qX7_lettersOf S (nI v) = some (nI l.length) := by
  unfold qX7_lettersOf lt
  have e0 : enc l 0 = encR l.reverse := by
    rw [show enc l 0 = enc l (encR []) from rfl, enc_R, List.append_nil]
  rw [ow0]
  dsimp only
  rw [gd_nI (by omega), cl_word (q := 71) hv (by decide), he, e0, show (0 : Int32) = nI 0 from rfl, it_lets l.reverse 0 fuel (fun x hx => h x (List.mem_reverse.mp hx)) (by rw [List.length_reverse]; exact hl) (by rw [List.length_reverse]; exact fuel_lt (by omega)), Option.bind_some, List.length_reverse, Nat.zero_add]
/-! whether a gate is open, on both sides -/
theorem pT.off {w : Mem} {s : Nat → Int32} (p : pT (w 3) (w 5) (w 7) (w 9) s) {S : Mem} (hS : S 1 = s) {t : Nat} (ht : t < 2 ^ 31) : qX7_off S (nI t) = some (ab (fX3_gapAt w (nI t))) := by
  obtain ⟨a1, a2, a3, a4, a5⟩ := p 0 (by decide)
  obtain ⟨b1, b2, b3, b4, b5⟩ := p 1 (by decide)
  have ka := a5.told ht
  have kb := b5.told ht
  rw [r_off (by rw [hS]; exact fun q => a5.ne (a3.symm.trans q)) (by rw [hS]; exact fun q => b5.ne (b3.symm.trans q)), hS, c_gap a5.per b5.per]
  rw [show s 5 = w 3 0 from a1, show s 6 = w 5 0 from a2, show s 7 = w 7 0 from a3, show s 8 = w 9 0 from a4, show s 9 = w 3 1 from b1, show s 10 = w 5 1 from b2, show s 11 = w 7 1 from b3, show s 12 = w 9 1 from b4]
  rw [ab_off ⟨by omega, by omega⟩ ⟨by omega, by omega⟩]
theorem rw_open {w : Mem} {s : Nat → Int32} (p : pT (w 3) (w 5) (w 7) (w 9) s) (q : pG (w 12) (w 14) (w 16) (w 18) s) {S : Mem} (hS : S 1 = s) {t : Nat} (ht : t < 2 ^ 31) {g : Nat} (hg : g < 4) : qX7_isOpen S (nI g) (nI t) = some (fX1_isOpenAcross w (nI g) (fX3_gapAt w (nI t))) := by
  obtain ⟨-, e2, -, e4, -⟩ := q g hg
  rw [r_open hg (p.off hS ht), c_open hg, hS, e2, e4]
