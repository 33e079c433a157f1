/-! the model's acts at a gate, case by case -/
theorem og0 (g : Nat) : fX7_ofGate (nI g) (0 : Int32) = nI (13 + 8 * g) := ofGate_nI g 0
theorem og2 (g : Nat) : fX7_ofGate (nI g) (2 : Int32) = nI (15 + 8 * g) := (ofGate_nI g 2).trans (congrArg nI (by omega))
theorem og4 (g : Nat) : fX7_ofGate (nI g) (4 : Int32) = nI (17 + 8 * g) := (ofGate_nI g 4).trans (congrArg nI (by omega))
theorem og5 (g : Nat) : fX7_ofGate (nI g) (5 : Int32) = nI (18 + 8 * g) := (ofGate_nI g 5).trans (congrArg nI (by omega))
theorem og6 (g : Nat) : fX7_ofGate (nI g) (6 : Int32) = nI (19 + 8 * g) := (ofGate_nI g 6).trans (congrArg nI (by omega))
theorem og7 (g : Nat) : fX7_ofGate (nI g) (7 : Int32) = nI (20 + 8 * g) := (ofGate_nI g 7).trans (congrArg nI (by omega))
theorem ow1 (v : Nat) : fX7_ofWord (nI v) (1 : Int32) = nI (72 + 5 * v) := (ofWord_nI v 1).trans (congrArg nI (by omega))
theorem ow2 (v : Nat) : fX7_ofWord (nI v) (2 : Int32) = nI (73 + 5 * v) := (ofWord_nI v 2).trans (congrArg nI (by omega))
theorem ow3 (v : Nat) : fX7_ofWord (nI v) (3 : Int32) = nI (74 + 5 * v) := (ofWord_nI v 3).trans (congrArg nI (by omega))
theorem ow4 (v : Nat) : fX7_ofWord (nI v) (4 : Int32) = nI (75 + 5 * v) := (ofWord_nI v 4).trans (congrArg nI (by omega))
theorem cl_gate {g q : Nat} (hg : g < 4) (hq : q < 21) : (nI (q + 8 * g)).toNatClampNeg = q + 8 * g := nI_clamp (by omega)
theorem cl_word {v q : Nat} (hv : v < 12) (hq : q < 76) : (nI (q + 5 * v)).toNatClampNeg = q + 5 * v := nI_clamp (by omega)
theorem nI_no {v : Nat} (h : v < 12) : ¬ nI v = -1006 := fun e => nI_pos (n := v) (by omega) (by rw [e]; decide)
theorem gd_cl {α : Type} {j N : Nat} {x : Option α} (h : j < N) (hN : N < 2 ^ 31 := by decide) : (if nI j < 0 ∨ N ≤ j then none else x) = x := if_neg (fun h9 => h9.elim (nI_pos (by omega)) (fun q => by omega))
/-- the model's row behind one letter passed -/
def ltS (s : Nat → Int32) (g : Nat) : Nat → Int32 := upd (upd s (18 + 8 * g) (s (18 + 8 * g) + 1)) 2 (s 2 + 1)
/-- the model's row behind the last letter, but for the row it comes to -/
def dnS (s : Nat → Int32) (g v : Nat) : Nat → Int32 := upd (upd (upd (upd (upd (upd s (72 + 5 * v) 1) (73 + 5 * v) (s 0)) (74 + 5 * v) (nI g)) (19 + 8 * g) (s (19 + 8 * g) + 1)) (17 + 8 * g) (-1006)) (18 + 8 * g) 0
/-- the model's row behind a way back, but for the row it goes to -/
def bkS (s : Nat → Int32) (g v : Nat) : Nat → Int32 := upd (upd (upd (upd (upd s 3 (s 3 + s (18 + 8 * g))) (20 + 8 * g) (s (20 + 8 * g) + s (18 + 8 * g))) (75 + 5 * v) (s (75 + 5 * v) + 1)) (17 + 8 * g) (-1006)) (18 + 8 * g) 0
theorem acts_none {V : Mem} {g : Nat} (hg : g < 4) {o : Int32} (ho : qX7_isOpen V (nI g) (V 1 0) = some o) (h0 : o = 0) (hh : V 1 (17 + 8 * g) = -1006) : qX7_acts V (nI g) = some V := by
  unfold qX7_acts lt
  rw [ho, Option.bind_some]
  dsimp only
  rw [og0, og4, gd_nI (by omega), if_pos h0, gd_nI (by omega), cl_gate hg (by decide), if_pos hh]
theorem acts_way {V : Mem} {g v : Nat} (hg : g < 4) (hv : v < 12) {o : Int32} (ho : qX7_isOpen V (nI g) (V 1 0) = some o) (h0 : o = 0) (hh : V 1 (17 + 8 * g) = nI v) (hw : ¬ V 1 (15 + 8 * g) = 0) : qX7_acts V (nI g) = some V := by
  unfold qX7_acts lt
  rw [ho, Option.bind_some]
  dsimp only
  rw [og0, og4, og2, gd_nI (by omega), if_pos h0, gd_nI (by omega), cl_gate (q := 17) hg (by decide), if_neg (by rw [hh]; exact nI_no hv), gd_nI (by omega), cl_gate (q := 15) hg (by decide), if_neg hw]
theorem acts_back {V : Mem} {g v : Nat} (hg : g < 4) (hv : v < 12) {o : Int32} (ho : qX7_isOpen V (nI g) (V 1 0) = some o) (h0 : o = 0) (hh : V 1 (17 + 8 * g) = nI v) (hw : V 1 (15 + 8 * g) = 0) : qX7_acts V (nI g) = qX7_goesBack (cpv V 1 (bkS (V 1) g v)) (V 1 (13 + 8 * g)) (nI v) := by
  unfold qX7_acts lt
  rw [ho, Option.bind_some]
  dsimp only
  rw [og0, og4, og2, og5, og7, gd_nI (by omega), if_pos h0, gd_nI (by omega), cl_gate (q := 17) hg (by decide), if_neg (by rw [hh]; exact nI_no hv), gd_nI (by omega), cl_gate (q := 15) hg (by decide), if_pos hw, hh, ow4, gd_nI (by omega), gd_nI (by omega), gd_nI (by omega), gd_cl (by omega)]
  rw [cl_gate (q := 18) hg (by decide), cl_gate (q := 20) hg (by decide), cl_gate (q := 13) hg (by decide), cl_word (q := 75) hv (by decide), gd_cl (by omega), gd_cl (by omega)]
  have e : sv (sv (sv (sv (sv V 1 3 (V 1 3 + V 1 (18 + 8 * g))) 1 (20 + 8 * g) (sv V 1 3 (V 1 3 + V 1 (18 + 8 * g)) 1 (20 + 8 * g) + sv V 1 3 (V 1 3 + V 1 (18 + 8 * g)) 1 (18 + 8 * g))) 1 (75 + 5 * v) (sv (sv V 1 3 (V 1 3 + V 1 (18 + 8 * g))) 1 (20 + 8 * g) (sv V 1 3 (V 1 3 + V 1 (18 + 8 * g)) 1 (20 + 8 * g) + sv V 1 3 (V 1 3 + V 1 (18 + 8 * g)) 1 (18 + 8 * g)) 1 (75 + 5 * v) + 1)) 1 (17 + 8 * g) (-1006)) 1 (18 + 8 * g) 0 = cpv V 1 (bkS (V 1) g v) := by
    rw [sv_j (j' := 75 + 5 * v) (by omega), sv_j (j' := 75 + 5 * v) (by omega), sv_j (j' := 20 + 8 * g) (by omega), sv_j (j' := 18 + 8 * g) (by omega)]
    simp only [sv_cpv, cpv_cpv, cpv_at]
    rfl
  rw [e]
  cases qX7_goesBack (cpv V 1 (bkS (V 1) g v)) (V 1 (13 + 8 * g)) (nI v) <;> rfl
theorem cpv_sv1 (V : Mem) (f : Nat → Int32) (j : Nat) (x : Int32) : sv (cpv V 1 f) 1 j x = cpv V 1 (upd f j x) := by
  rw [sv_cpv, cpv_cpv, cpv_at]
theorem lt_cpv (V : Mem) (g : Nat) : sv (sv V 1 (18 + 8 * g) (V 1 (18 + 8 * g) + 1)) 1 2 (sv V 1 (18 + 8 * g) (V 1 (18 + 8 * g) + 1) 1 2 + 1) = cpv V 1 (ltS (V 1) g) := by
  rw [sv_j (j' := 2) (by omega), sv_cpv V, cpv_sv1]
  rfl
theorem ltS_2 (s : Nat → Int32) (g : Nat) : ltS s g (18 + 8 * g) = s (18 + 8 * g) + 1 := by
  unfold ltS
  rw [upd_ne (by omega), upd_at]
theorem dn_cpv (V : Mem) (s : Nat → Int32) (g v : Nat) (hg : g < 4) : sv (sv (sv (sv (sv (sv (cpv V 1 s) 1 (72 + 5 * v) 1) 1 (73 + 5 * v) (sv (cpv V 1 s) 1 (72 + 5 * v) 1 1 0)) 1 (74 + 5 * v) (nI g)) 1 (19 + 8 * g) (sv (sv (sv (cpv V 1 s) 1 (72 + 5 * v) 1) 1 (73 + 5 * v) (sv (cpv V 1 s) 1 (72 + 5 * v) 1 1 0)) 1 (74 + 5 * v) (nI g) 1 (19 + 8 * g) + 1)) 1 (17 + 8 * g) (-1006)) 1 (18 + 8 * g) 0 = cpv V 1 (dnS s g v) := by
  rw [sv_j (j' := 0) (by omega), sv_j (j' := 19 + 8 * g) (by omega), sv_j (j' := 19 + 8 * g) (by omega), sv_j (j' := 19 + 8 * g) (by omega), cpv_at]
  simp only [cpv_sv1]
  rfl
theorem acts_pass {V : Mem} {g v : Nat} (hg : g < 4) (hv : v < 12) {o : Int32} (ho : qX7_isOpen V (nI g) (V 1 0) = some o) (h0 : ¬ o = 0) (hh : V 1 (17 + 8 * g) = nI v) {l : Int32} (hl : qX7_lettersOf (cpv V 1 (ltS (V 1) g)) (nI v) = some l) : qX7_acts V (nI g) = if V 1 (18 + 8 * g) + 1 = l then qX7_comes (cpv V 1 (dnS (ltS (V 1) g) g v)) (1 - V 1 (13 + 8 * g)) (nI v) else some (cpv V 1 (ltS (V 1) g)) := by
  unfold qX7_acts lt
  rw [ho, Option.bind_some]
  dsimp only
  rw [og0, og4, og5, og6, gd_nI (by omega), if_neg h0, gd_nI (by omega), cl_gate (q := 17) hg (by decide), if_neg (show ¬ V 1 (17 + 8 * g) = -1006 by rw [hh]; exact nI_no hv), gd_cl (by omega), if_neg (show ¬ V 1 (17 + 8 * g) = -1006 by rw [hh]; exact nI_no hv), gd_nI (by omega), cl_gate (q := 18) hg (by decide), lt_cpv, hh, hl, Option.bind_some, cpv_at, ltS_2, gd_cl (by omega)]
  by_cases c : V 1 (18 + 8 * g) + 1 = l
  · rw [if_pos c, if_pos c, ow1, ow2, ow3, cl_word (q := 72) hv (by decide), cl_word (q := 73) hv (by decide), cl_word (q := 74) hv (by decide), cl_gate (q := 19) hg (by decide), cl_gate (q := 13) hg (by decide), dn_cpv V _ g v hg]
    rw [gd_cl (by omega), gd_cl (by omega), gd_cl (by omega), gd_cl (by omega), gd_cl (by omega), gd_cl (by omega)]
    cases qX7_comes (cpv V 1 (dnS (ltS (V 1) g) g v)) (1 - V 1 (13 + 8 * g)) (nI v) <;> rfl
  · rw [if_neg c, if_neg c]
theorem acts_noone {V : Mem} {g k : Nat} (hg : g < 4) {o : Int32} (ho : qX7_isOpen V (nI g) (V 1 0) = some o) (h0 : ¬ o = 0) (hh : V 1 (17 + 8 * g) = -1006) (hk : V 1 (13 + 8 * g) = nI k) (ht : qX7_takes V (nI k) = some (-1006, V)) : qX7_acts V (nI g) = some V := by
  have e : cpv V 1 (upd (V 1) (17 + 8 * g) (-1006)) = V := by
    have e1 : upd (V 1) (17 + 8 * g) (-1006) = V 1 := by
      funext j
      by_cases c : j = 17 + 8 * g
      · rw [c, upd_at, hh]
      · rw [upd_ne c]
    rw [e1, cpv_id]
  unfold qX7_acts lt
  rw [ho, Option.bind_some]
  dsimp only
  rw [og0, og4, gd_nI (by omega), if_neg h0, gd_nI (by omega), cl_gate (q := 17) hg (by decide), if_pos hh, cl_gate (q := 13) hg (by decide), hk, ht, Option.bind_some, gd_cl (by omega)]
  dsimp only
  rw [sv_cpv, e, gd_cl (by omega), if_pos hh]
theorem acts_take {V : Mem} {g v k : Nat} {s' : Nat → Int32} (hg : g < 4) (hv : v < 12) {o : Int32} (ho : qX7_isOpen V (nI g) (V 1 0) = some o) (h0 : ¬ o = 0) (hh : V 1 (17 + 8 * g) = -1006) (hk : V 1 (13 + 8 * g) = nI k) (ht : qX7_takes V (nI k) = some (nI v, cpv V 1 s')) {l : Int32} (hl : qX7_lettersOf (cpv V 1 (ltS (upd s' (17 + 8 * g) (nI v)) g)) (nI v) = some l) : qX7_acts V (nI g) = if s' (18 + 8 * g) + 1 = l then qX7_comes (cpv V 1 (dnS (ltS (upd s' (17 + 8 * g) (nI v)) g) g v)) (1 - nI k) (nI v) else some (cpv V 1 (ltS (upd s' (17 + 8 * g) (nI v)) g)) := by
  have e8 : upd s' (17 + 8 * g) (nI v) (18 + 8 * g) = s' (18 + 8 * g) := upd_ne (by omega)
  have e7 : upd s' (17 + 8 * g) (nI v) (17 + 8 * g) = nI v := upd_at
  unfold qX7_acts lt
  rw [ho, Option.bind_some]
  dsimp only
  rw [og0, og4, og5, og6, gd_nI (by omega), if_neg h0, gd_nI (by omega), cl_gate (q := 17) hg (by decide), if_pos hh, cl_gate (q := 13) hg (by decide), hk, ht, Option.bind_some, gd_cl (by omega)]
  dsimp only
  rw [cpv_sv1]
  generalize hW : cpv V 1 (upd s' (17 + 8 * g) (nI v)) = W
  have hW1 : W 1 = upd s' (17 + 8 * g) (nI v) := by rw [← hW, cpv_at]
  have hW2 : ∀ f, cpv W 1 f = cpv V 1 f := fun f => by rw [← hW, cpv_cpv]
  have hW7 : W 1 (17 + 8 * g) = nI v := by rw [hW1, e7]
  rw [gd_cl (by omega), if_neg (show ¬ W 1 (17 + 8 * g) = -1006 by rw [hW7]; exact nI_no hv), gd_nI (by omega), cl_gate (q := 18) hg (by decide), lt_cpv, hW2, hW7, hW1, hl, Option.bind_some, cpv_at, ltS_2, e8, gd_cl (by omega)]
  by_cases c : s' (18 + 8 * g) + 1 = l
  · rw [if_pos c, if_pos c, ow1, ow2, ow3, cl_word (q := 72) hv (by decide), cl_word (q := 73) hv (by decide), cl_word (q := 74) hv (by decide), cl_gate (q := 19) hg (by decide), dn_cpv V _ g v hg]
    rw [gd_cl (by omega), gd_cl (by omega), gd_cl (by omega), gd_cl (by omega), gd_cl (by omega), gd_cl (by omega)]
    cases qX7_comes (cpv V 1 (dnS (ltS (upd s' (17 + 8 * g) (nI v)) g) g v)) (1 - nI k) (nI v) <;> rfl
  · rw [if_neg c, if_neg c]
