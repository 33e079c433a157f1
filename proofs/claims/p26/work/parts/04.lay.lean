/-! the layouts; a Cells: one row of numbers -/
def LC (n : Nat) : List Kd := [.inl (0, [some (.inl 1)]), .inr (.inl (0, n))]
def LT : List Kd := .inl (3, [some (.inl 1), some (.inl 3), some (.inl 5), some (.inl 7)]) :: (LC 2 ++ (LC 2 ++ (LC 2 ++ LC 2)))
def LG : List Kd := .inl (1, [some (.inl 1), some (.inl 3), some (.inl 5), some (.inl 7), some (.inl 9), some (.inl 11), some (.inl 13), some (.inl 15)]) :: (LC 4 ++ (LC 4 ++ (LC 4 ++ (LC 4 ++ (LC 4 ++ (LC 4 ++ (LC 4 ++ LC 4)))))))
def LWd : List Kd := .inl (4, [some (.inl 1), some (.inl 3), some (.inl 5), some (.inl 7), some (.inl 9), some (.inl 11), some (.inl 13), some (.inr 0)]) :: (LC 12 ++ (LC 72 ++ (LC 12 ++ (LC 12 ++ (LC 12 ++ (LC 24 ++ LC 2))))))
def LW : List Kd := .inl (5, [some (.inl 1), some (.inl 10), some (.inl 27), some (.inr 0), some (.inr 1), some (.inr 2)]) :: (LT ++ (LG ++ LWd))
def LPd : List Kd := .inl (2, [some (.inl 1), some (.inr 0)]) :: LC 60
def LA : List Kd := .inl (6, [some (.inl 1), some (.inl 43), some (.inl 85), some (.inl 88), some (.inl 341), some (.inl 426), some (.inl 428), some (.inr 0), some (.inr 1)]) :: (LW ++ (LW ++ (LPd ++ (.inr (.inr [some 1, some 43, some 85, some 127, some 169, some 211]) :: (LW ++ (LW ++ (LW ++ (LW ++ (LW ++ (LW ++ (.inr (.inr [some 1, some 43]) :: (LW ++ (LW ++ (LC 2 ++ LC 200))))))))))))))
def LM : List Kd := [.inl (7, [some (.inl 1), some (.inl 2), some (.inl 3), some (.inr 0), some (.inl 4), some (.inl 5), some (.inl 6), some (.inr 1)]), .inr (.inl (0, 131)), .inr (.inl (0, 131)), .inr (.inl (0, 786)), .inr (.inl (0, 262)), .inr (.inl (1, 2)), .inr (.inl (0, 60))]
def cget (n : Nat) (f : Nat → Int32) (i : Int32) : Int32 := if i < 0 ∨ n ≤ i.toNatClampNeg then 0 else f i.toNatClampNeg
def cset (V : Mem) (k n : Nat) (i v : Int32) : Mem := if i < 0 ∨ n ≤ i.toNatClampNeg then V else sv V k i.toNatClampNeg v
def cadd (V : Mem) (k n : Nat) (i v : Int32) : Mem := if i < 0 ∨ n ≤ i.toNatClampNeg then V else sv V k i.toNatClampNeg (V k i.toNatClampNeg + v)
/-- the sum of the first n -/
def csum : Nat → (Nat → Int32) → Int32
  | 0, _ => 0
  | n + 1, f => csum n f + f n
theorem nI_le_iff {n : Nat} (hn : n < 2 ^ 31) {i : Int32} (hi : ¬ i < 0) : nI n ≤ i ↔ n ≤ i.toNatClampNeg := by
  obtain ⟨j, hj, rfl⟩ := nI_of hi
  rw [nI_leI hn hj, nI_clamp hj]
theorem pv_sv {V : Mem} {k n j i : Nat} {v : Int32} (hj : j < n) : pv V k n (sv (gv V k) j i v) = sv V (k + j) i v := by
  funext q w
  by_cases c : k ≤ q ∧ q < k + n
  · have h1 : pv V k n (sv (gv V k) j i v) q = sv (gv V k) j i v (q - k) := by unfold pv; rw [if_pos c]
    rw [h1]
    unfold sv gv
    rw [show k + (q - k) = q by omega]
    by_cases c2 : q = k + j
    · subst c2
      simp
    · rw [if_neg (fun h => c2 (by omega)), if_neg (fun h => c2 h.1)]
  · have h1 : pv V k n (sv (gv V k) j i v) q = V q := by unfold pv; rw [if_neg c]
    rw [h1]
    unfold sv
    rw [if_neg (fun h => c (by omega))]
theorem pv_id {V : Mem} {k n : Nat} : pv V k n (gv V k) = V := by
  funext q
  unfold pv gv
  by_cases c : k ≤ q ∧ q < k + n
  · rw [if_pos c, show k + (q - k) = q by omega]
  · rw [if_neg c]
theorem pv_cset {V : Mem} {k n : Nat} {i v : Int32} : pv V k (LC n).length (cset (gv V k) 1 n i v) = cset V (k + 1) n i v := by
  unfold cset
  by_cases c : i < 0 ∨ n ≤ i.toNatClampNeg
  · rw [if_pos c, if_pos c]
    exact pv_id
  · rw [if_neg c, if_neg c]
    exact pv_sv (by show 1 < 2; decide)
theorem pv_cadd {V : Mem} {k n : Nat} {i v : Int32} : pv V k (LC n).length (cadd (gv V k) 1 n i v) = cadd V (k + 1) n i v := by
  unfold cadd
  by_cases c : i < 0 ∨ n ≤ i.toNatClampNeg
  · rw [if_pos c, if_pos c]
    exact pv_id
  · rw [if_neg c, if_neg c]
    exact pv_sv (by show 1 < 2; decide)
theorem sbl_of {L Lc : List Kd} {k : Nat} (h : (L.drop k).take Lc.length = Lc) : sbL L k Lc := by
  intro j hj
  have h1 : ((L.drop k).take Lc.length)[j]? = Lc[j]? := by rw [h]
  rw [List.getElem?_take, if_pos hj, List.getElem?_drop] at h1
  exact h1
