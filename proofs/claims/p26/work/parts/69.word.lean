/-! where a word is -/
/-- the last of the first n that p names, told by val; x if there is none -/
def lst (p : Nat → Bool) (val : Nat → Int32) (x : Int32) : Nat → Int32
  | 0 => x
  | i + 1 => if p i then val i else lst p val x i
theorem lst_no {p : Nat → Bool} {val : Nat → Int32} {x : Int32} : ∀ n : Nat, (∀ i, i < n → p i = false) → lst p val x n = x
  | 0, _ => rfl
  | n + 1, h => by
    show (if p n then val n else lst p val x n) = x
    rw [h n (by omega), if_neg (by decide)]
    exact lst_no n (fun i hi => h i (by omega))
theorem lst_one {p : Nat → Bool} {val : Nat → Int32} {x : Int32} {j : Nat} (hp : p j = true) : ∀ n : Nat, j < n → (∀ i, i < n → p i = true → i = j) → lst p val x n = val j
  | 0, h, _ => by omega
  | n + 1, hj, h => by
    show (if p n then val n else lst p val x n) = val j
    by_cases c : p n = true
    · rw [if_pos c, h n (by omega) c]
    · rw [if_neg c]
      have hn : j ≠ n := fun e => c (e ▸ hp)
      exact lst_one hp n (by omega) (fun i hi => h i (by omega))
theorem fnd_no {p : Nat → Bool} {n : Nat} (h : ∀ i, i < n → p i = false) : fnd p n = -1006 := by
  unfold fnd
  cases hF : fndO p n 0 with
  | none => rfl
  | some j =>
    have h1 := fndO_ge hF
    rw [h j (fndO_lt hF)] at h1
    exact absurd h1.2.2.1 (by decide)
theorem fnd_one {p : Nat → Bool} {n j : Nat} (hj : j < n) (hp : p j = true) (h : ∀ i, i < n → p i = true → i = j) : fnd p n = nI j := by
  unfold fnd
  cases hF : fndO p n 0 with
  | none =>
    have h1 := fndO_none n 0 hF j (by omega) (by omega)
    rw [hp] at h1
    exact absurd h1 (by decide)
  | some i =>
    have h1 := fndO_ge hF
    rw [h i (fndO_lt hF) h1.2.2.1]
    rfl
theorem mem_hL {h : Nat → Option Nat} {v : Nat} (hv : v ∈ hL h) : ∃ g, g < 4 ∧ h g = some v := by
  unfold hL at hv
  rcases List.mem_append.mp hv with a | a
  · exact ⟨0, by decide, Option.mem_toList.mp a⟩
  · rcases List.mem_append.mp a with a | a
    · exact ⟨1, by decide, Option.mem_toList.mp a⟩
    · rcases List.mem_append.mp a with a | a
      · exact ⟨2, by decide, Option.mem_toList.mp a⟩
      · exact ⟨3, by decide, Option.mem_toList.mp a⟩
theorem held_mem {h : Nat → Option Nat} {g v : Nat} (hg : g < 4) (e : h g = some v) : v ∈ hL h := (hL_some hg e).mem_iff.mpr List.mem_cons_self
/-- the place of a word in a row -/
def inR (l : List Nat) (v i : Nat) : Bool := decide (l.getD i 0 = v)
theorem inR_no {l : List Nat} {v : Nat} (h : ¬ v ∈ l) : ∀ i, i < l.length → inR l v i = false := fun i hi => by
  refine decide_eq_false (fun e => h ?_)
  rw [← e]
  exact getD_mem hi
theorem inR_one {l : List Nat} {v : Nat} (hn : l.Nodup) (h : v ∈ l) : ∃ j, j < l.length ∧ inR l v j = true ∧ ∀ i, i < l.length → inR l v i = true → i = j := by
  obtain ⟨j, hj⟩ := List.mem_iff_getElem?.mp h
  have hl : j < l.length := by
    rcases Nat.lt_or_ge j l.length with c | c
    · exact c
    · rw [List.getElem?_eq_none_iff.mpr c] at hj
      cases hj
  have hd : l.getD j 0 = v := by
    have := getD_some hl
    rw [hj] at this
    exact (Option.some.inj this).symm
  refine ⟨j, hl, decide_eq_true hd, fun i hi hp => ?_⟩
  have hi2 : l.getD i 0 = v := of_decide_eq_true hp
  refine (List.getElem?_inj hi hn).mp ?_
  rw [getD_some hi, getD_some hl, hi2, hd]
def inG (h : Nat → Option Nat) (v i : Nat) : Bool := decide (h i = some v)
theorem inG_no {h : Nat → Option Nat} {v : Nat} (c : ¬ v ∈ hL h) : ∀ i, i < 4 → inG h v i = false := fun i hi => decide_eq_false (fun e => c (held_mem hi e))
theorem pX.where {n v : Nat} {r : Nat → List Nat} {h : Nat → Option Nat} (p : pX n r h) (hv : v < n) : (v ∈ r 0 ∧ ¬ v ∈ r 1 ∧ ¬ v ∈ hL h) ∨ (¬ v ∈ r 0 ∧ v ∈ r 1 ∧ ¬ v ∈ hL h) ∨ (¬ v ∈ r 0 ∧ ¬ v ∈ r 1 ∧ ∃ g, g < 4 ∧ inG h v g = true ∧ ∀ i, i < 4 → inG h v i = true → i = g) := by
  have hn := (p.2.nodup_iff).mpr List.nodup_range
  obtain ⟨n1, n2, n3⟩ := List.nodup_append.mp hn
  obtain ⟨n4, n5, n6⟩ := List.nodup_append.mp n2
  have hm := p.2.mem_iff.mpr (List.mem_range.mpr hv)
  rcases List.mem_append.mp hm with a | a
  · exact Or.inl ⟨a, fun c => n3 v a v (List.mem_append_left _ c) rfl, fun c => n3 v a v (List.mem_append_right _ c) rfl⟩
  · have z : ¬ v ∈ r 0 := fun c => n3 v c v a rfl
    rcases List.mem_append.mp a with a | a
    · exact Or.inr (Or.inl ⟨z, a, fun c => n6 v a v c rfl⟩)
    · refine Or.inr (Or.inr ⟨z, fun c => n6 v c v a rfl, ?_⟩)
      obtain ⟨g, hg, e⟩ := mem_hL a
      refine ⟨g, hg, decide_eq_true e, fun i hi hp => ?_⟩
      have e2 : h i = some v := of_decide_eq_true hp
      by_cases c : i = g
      · exact c
      · exact absurd rfl (p.ne hg hi e e2 c)
theorem hI_eq {x : Option Nat} {v : Nat} (hv : v < 12) (hx : ∀ a, x = some a → a < 12) : (hI x = nI v) ↔ x = some v := by
  cases x with
  | none => exact ⟨fun e => absurd e.symm (nI_no hv), fun e => by cases e⟩
  | some a =>
    have ha := hx a rfl
    refine ⟨fun e => ?_, fun e => by cases e; rfl⟩
    rw [(nI_eq (a := a) (b := v) (by omega) (by omega)).mp e]
theorem it_wh {n : Nat} {bd : Int32 × Int32 → Option ((Int32 × Int32) ⊕ (Int32 × Int32))} {p : Nat → Bool} {val : Nat → Int32} {x : Int32} (hn : n ≤ 2 ^ 31) (hs : ∀ i q, i < n → bd (q, nI i) = some (.inl (if p i then val i else q, nI (i + 1)))) (he : ∀ q, bd (q, nI n) = some (.inr (q, nI n))) : it bd fuel (x, (0 : Int32)) = some (lst p val x n, nI n) := by
  refine it_for (fun i => (lst p val x i, nI i)) n (fun i hi => ?_) (he _) fuel (fuel_lt (by omega))
  exact hs i _ hi
theorem r_whereIs {S : Mem} {n v : Nat} {r : Nat → List Nat} {h : Nat → Option Nat} (hv : v < n) (pX : pX n r h) (pRs : pRs r (S 1)) (pH : ∀ g, g < 4 → S 1 (17 + 8 * g) = hI (h g)) : qX7_whereIs S (nI v) = some (lst (inG h v) (fun i => nI (299 + 100 * i)) (lst (inR (r 1) v) (fun i => nI (100 + i)) (lst (inR (r 0) v) nI 0 (r 0).length) (r 1).length) 4) := by
  have n12 := pX.1
  obtain ⟨a1, a2, a3⟩ := pRs 0 (by decide)
  obtain ⟨b1, b2, b3⟩ := pRs 1 (by decide)
  have e1 : ∀ x, it (lbX7_whereIs_4 S (nI v)) fuel (x, (0 : Int32)) = some (lst (inR (r 0) v) nI x (r 0).length, nI (r 0).length) := fun x => by
    refine it_wh (by omega) (fun i q hi => ?_) (fun q => ?_)
    · have hl := pX.row_lt (k := 0) (by decide) (getD_mem hi)
      unfold lbX7_whereIs_4 lt
      try dsimp only
      rw [show S 1 45 = nI (r 0).length from a2, if_neg (nI_ge hi (by omega)), show fX7_inRow (0 : Int32) (nI i) = nI (47 + 12 * 0 + i) from inRow_nI 0 i]
      try dsimp only
      rw [gd_nI (by omega), nI_clamp (n := 47 + 12 * 0 + i) (by omega), a3 i _ (getD_some hi), nI_1]
      unfold inR
      by_cases c : (r 0).getD i 0 = v
      · rw [if_pos (by rw [c]), if_pos (decide_eq_true c)]
      · rw [if_neg (fun e => c ((nI_eq (by omega) (by omega)).mp e)), if_neg (fun q => c (of_decide_eq_true q))]
    · unfold lbX7_whereIs_4
      try dsimp only
      rw [show S 1 45 = nI (r 0).length from a2, if_pos (nI_le (Nat.le_refl _) (by omega))]
  have e2 : ∀ x, it (lbX7_whereIs_43 S (nI v)) fuel (x, (0 : Int32)) = some (lst (inR (r 1) v) (fun i => nI (100 + i)) x (r 1).length, nI (r 1).length) := fun x => by
    refine it_wh (by omega) (fun i q hi => ?_) (fun q => ?_)
    · have hl := pX.row_lt (k := 1) (by decide) (getD_mem hi)
      unfold lbX7_whereIs_43 lt
      try dsimp only
      rw [show S 1 46 = nI (r 1).length from b2, if_neg (nI_ge hi (by omega)), show fX7_inRow (1 : Int32) (nI i) = nI (47 + 12 * 1 + i) from inRow_nI 1 i]
      try dsimp only
      rw [gd_nI (by omega), nI_clamp (n := 47 + 12 * 1 + i) (by omega), b3 i _ (getD_some hi), nI_1, show (100 : Int32) + nI i = nI (100 + i) from nI_add 100 i]
      unfold inR
      by_cases c : (r 1).getD i 0 = v
      · rw [if_pos (by rw [c]), if_pos (decide_eq_true c)]
      · rw [if_neg (fun e => c ((nI_eq (by omega) (by omega)).mp e)), if_neg (fun q => c (of_decide_eq_true q))]
    · unfold lbX7_whereIs_43
      try dsimp only
      rw [show S 1 46 = nI (r 1).length from b2, if_pos (nI_le (Nat.le_refl _) (by omega))]
  have e3 : ∀ x, it (lbX7_whereIs_85 S (nI v)) fuel (x, (0 : Int32)) = some (lst (inG h v) (fun i => nI (299 + 100 * i)) x 4, nI 4) := fun x => by
    refine it_wh (by decide) (fun i q hi => ?_) (fun q => rfl)
    unfold lbX7_whereIs_85 lt
    try dsimp only
    rw [if_neg (show ¬ (4 : Int32) ≤ nI i from nI_ge (b := 4) hi (by decide)), og4]
    try dsimp only
    rw [gd_nI (by omega), nI_clamp (n := 17 + 8 * i) (by omega), pH i hi, nI_1, show (299 : Int32) + (100 : Int32) * nI i = nI (299 + 100 * i) by
      show nI 299 + nI 100 * nI i = _
      rw [pk_mul, nI_add]]
    unfold inG
    have q12 : ∀ a, h i = some a → a < 12 := fun a e => by have := pX.held_lt hi e; omega
    by_cases c : h i = some v
    · rw [if_pos ((hI_eq (by omega) q12).mpr c), if_pos (decide_eq_true c)]
    · rw [if_neg (fun e => c ((hI_eq (by omega) q12).mp e)), if_neg (fun q => c (of_decide_eq_true q))]
  unfold qX7_whereIs
  rw [e1, Option.bind_some, e2, Option.bind_some, e3, Option.bind_some]
theorem c_placeIn {w : Mem} {k v : Nat} {r : Nat → List Nat} (hk : k < 2) (h : pRc r (w 39) (w 41)) (hv : v < 12) (hr : ∀ a ∈ r k, a < 12) : fX4_placeIn w (nI k) (nI v) = fnd (inR (r k) v) (r k).length := by
  obtain ⟨l1, l2, l3⟩ := h k hk
  unfold fX4_placeIn fnd
  rw [cget_nI hk, l2, nI_clamp (by omega)]
  refine congrArg (fun x => Option.elim x (-1006) nI) (fndO_congr _ _ (fun j h1 h2 => ?_))
  rw [c_wordAt hk l3 l1 (by omega)]
  have := hr _ (getD_mem (r := r k) (i := j) (by omega))
  unfold inR
  by_cases c : (r k).getD j 0 = v
  · rw [c, decide_eq_true rfl, decide_eq_true rfl]
  · rw [decide_eq_false (fun e => c ((nI_eq (by omega) (by omega)).mp e)), decide_eq_false c]
theorem c_gateWith {w : Mem} {n v : Nat} {r : Nat → List Nat} {h : Nat → Option Nat} (pX : pX n r h) (hw : ∀ g, g < 4 → w 20 g = hI (h g)) (hv : v < 12) : fX1_gateWith w (nI v) = fnd (inG h v) 4 := by
  have n12 := pX.1
  unfold fX1_gateWith fnd
  refine congrArg (fun x => Option.elim x (-1006) nI) (fndO_congr _ _ (fun j h1 h2 => ?_))
  have q12 : ∀ a, h j = some a → a < 12 := fun a e => by have := pX.held_lt (show j < 4 by omega) e; omega
  rw [cget_nI (show j < 4 by omega), hw j (by omega)]
  unfold inG
  by_cases c : h j = some v
  · rw [decide_eq_true ((hI_eq hv q12).mpr c), decide_eq_true c]
  · rw [decide_eq_false (fun e => c ((hI_eq hv q12).mp e)), decide_eq_false c]
