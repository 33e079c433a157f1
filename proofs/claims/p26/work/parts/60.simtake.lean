/-! a gate takes a word: the same on both sides -/
theorem tk_out {s : Nat → Int32} {k len j q : Nat} (hk : k < 2) (hl : len ≤ 12) (hj : j < len) (hq : q < 45 ∨ 71 ≤ q) : tkS s k len j q = s q := by
  unfold tkS
  rw [upd_ne (by omega)]
  unfold shd
  rw [if_neg (by omega), upd_ne (by omega)]
theorem getD_some {r : List Nat} {j : Nat} (hj : j < r.length) : r[j]? = some (r.getD j 0) := by
  rw [List.getD_eq_getElem?_getD, List.getElem?_eq_getElem hj]
  rfl
theorem fnd_same {n k : Nat} {r : Nat → List Nat} {h : Nat → Option Nat} {w33 w35 w37 s : Nat → Int32} (qP : pP n w33 w35 w37 s) (qX : pX n r h) (hk : k < 2) : fndO (fun i => decide (¬ s (72 + 5 * (r k).getD i 0) = 1)) (r k).length 0 = fndO (fun i => decide (w33 ((r k).getD i 0) = -1006)) (r k).length 0 := by
  refine fndO_congr _ _ (fun i _ hi => ?_)
  have hv : (r k).getD i 0 < n := qX.row_lt hk (List.mem_of_getElem? (getD_some (by omega)))
  obtain ⟨-, -, -, b4⟩ := qP _ hv
  rcases b4 with b4 | b4
  · rw [b4.2, b4.1]
    decide
  · rw [b4.2, decide_eq_false (psd_no b4.1)]
    decide
theorem sim_take {b : Int32} {n t g k j : Nat} {r : Nat → List Nat} {h : Nat → Option Nat} {d : Nat → Nat} {L : Nat → List Nat} {w : Mem} {s : Nat → Int32} (p : RwE b n t r h d L w s) (hg : g < 4) (e : h g = none) (hk : k < 2) (hf : fndO (fun i => decide (w 33 ((r k).getD i 0) = -1006)) (r k).length 0 = some j) : RwE b n t (ur r k ((r k).eraseIdx j)) (ur h g (some ((r k).getD j 0))) d L (sv (sv (cpv w 39 (shd (12 * k + j + 1) ((r k).length - (j + 1)) (w 39))) 41 k (nI ((r k).length - 1))) 20 g (nI ((r k).getD j 0))) (upd (tkS s k (r k).length j) (17 + 8 * g) (nI ((r k).getD j 0))) := by
  obtain ⟨qT, qG, qH, qD, qC, qRc, qRs, qL, qP, qX, qK, qN, qZ⟩ := p
  have hj := fndO_lt hf
  have h33 : w 33 ((r k).getD j 0) = -1006 := of_decide_eq_true (fndO_ge hf).2.2.1
  have hl := (qRc k hk).1
  have hvn : (r k).getD j 0 < n := qX.row_lt hk (List.mem_of_getElem? (getD_some hj))
  generalize hv : (r k).getD j 0 = v at h33 hvn ⊢
  have hjv : (r k)[j]? = some v := by rw [← hv]; exact getD_some hj
  have so : ∀ q, q < 45 ∨ 71 ≤ q → q ≠ 17 + 8 * g → upd (tkS s k (r k).length j) (17 + 8 * g) (nI v) q = s q := fun q h1 h2 => by rw [upd_ne h2, tk_out hk hl hj h1]
  have w20 : ∀ W : Mem, (sv W 20 g (nI v)) 20 = upd (W 20) g (nI v) := fun W => sv_row
  refine ⟨?_, ?_, ?_, ?_, ?_, ?_, ?_, ?_, ?_, ?_, ?_, ?_, ?_⟩
  · exact qT.s (fun j h1 h2 => so j (by omega) (by omega))
  · exact qG.s (fun g' q h1 h2 => so _ (by omega) (by omega))
  · intro g' hg'
    rw [w20]
    show upd (w 20) g (nI v) g' = _ ∧ _
    by_cases c : g' = g
    · subst c
      rw [upd_at, upd_at, ur_at]
      exact ⟨rfl, rfl⟩
    · rw [upd_ne c, ur_ne c, so _ (by omega) (by omega)]
      exact qH g' hg'
  · exact pD.s (w22 := w 22) (w24 := w 24) (w26 := w 26) qD (fun g' q h1 h2 => so _ (by omega) (by omega))
  · exact pC.s (w0 := w 0) (w26 := w 26) (w27 := w 27) qC (fun j h1 => so _ (by omega) (by omega))
  · have w41 : (sv (cpv w 39 (shd (12 * k + j + 1) ((r k).length - (j + 1)) (w 39))) 41 k (nI ((r k).length - 1))) 41 = upd (w 41) k (nI ((r k).length - 1)) := sv_row
    show pRc _ (shd (12 * k + j + 1) ((r k).length - (j + 1)) (w 39)) ((sv (cpv w 39 (shd (12 * k + j + 1) ((r k).length - (j + 1)) (w 39))) 41 k (nI ((r k).length - 1))) 41)
    rw [w41]
    exact qRc.erase hk hj
  · exact (qRs.erase hk hj).s (fun q h1 h2 => upd_ne (by omega))
  · exact pL.s (w29 := w 29) (w31 := w 31) qL (fun v' hv' => so _ (by omega) (by omega))
  · exact pP.s (w33 := w 33) (w35 := w 35) (w37 := w 37) qP (fun v' q h1 h2 => so _ (by omega) (by omega))
  · exact qX.toGate hg e hk hjv
  · intro g' hg'
    by_cases c : g' = g
    · subst c
      rw [ur_at]
      refine ⟨fun h9 => (by cases h9), fun v' h9 => ?_⟩
      cases h9
      refine ⟨h33, ?_⟩
      rw [(qK g' hg').1 e]
      exact (qL v hvn).1
    · rw [ur_ne c]
      exact qK g' hg'
  · exact pN.s (w24 := w 24) qN (fun v' hv' => so _ (by omega) (by omega))
  · exact qZ
