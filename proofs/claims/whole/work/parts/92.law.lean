def LL : List Kd := LA ++ LM
theorem ts_out23 {x : Int32} (h0 : ¬ x = 0) (h1 : ¬ x = 1) (h2 : ¬ x = 2) (h3 : ¬ x = 3) (h4 : ¬ x = 4) (h5 : ¬ x = 5) (h6 : ¬ x = 6) (h7 : ¬ x = 7) (h8 : ¬ x = 8) (h9 : ¬ x = 9) (h10 : ¬ x = 10) (h11 : ¬ x = 11) (h12 : ¬ x = 12) (h13 : ¬ x = 13) (h14 : ¬ x = 14) (h15 : ¬ x = 15) (h16 : ¬ x = 16) (h17 : ¬ x = 17) (h18 : ¬ x = 18) (h19 : ¬ x = 19) (h20 : ¬ x = 20) (h21 : ¬ x = 21) (h22 : ¬ x = 22) : x.toInt < 0 ∨ 22 < x.toInt := by
  have := ts_lo (x := x) (n := 23) (by decide) (fun k hk => by
    rcases (show k = 0 ∨ k = 1 ∨ k = 2 ∨ k = 3 ∨ k = 4 ∨ k = 5 ∨ k = 6 ∨ k = 7 ∨ k = 8 ∨ k = 9 ∨ k = 10 ∨ k = 11 ∨ k = 12 ∨ k = 13 ∨ k = 14 ∨ k = 15 ∨ k = 16 ∨ k = 17 ∨ k = 18 ∨ k = 19 ∨ k = 20 ∨ k = 21 ∨ k = 22 by omega) with rfl | rfl | rfl | rfl | rfl | rfl | rfl | rfl | rfl | rfl | rfl | rfl | rfl | rfl | rfl | rfl | rfl | rfl | rfl | rfl | rfl | rfl | rfl <;> assumption)
  omega

theorem hvX6_tide : yX6_tide.cls = RX6 ∧ yX6_tide.cls ≠ "java/lang/invoke/MethodHandle" ∧ yX6_tide.cls ≠ "java/lang/invoke/VarHandle" ∧ (parseMethodDescriptor yX6_tide.desc).map (fun d => d.parameters.length) = some 4 := by decide +kernel
set_option maxRecDepth 20000 in
theorem sb_LL_0_LA : sbL LL 0 LA := sbl_of rfl
theorem hvX7_tide : yX7_tide.cls = RX7 ∧ yX7_tide.cls ≠ "java/lang/invoke/MethodHandle" ∧ yX7_tide.cls ≠ "java/lang/invoke/VarHandle" ∧ (parseMethodDescriptor yX7_tide.desc).map (fun d => d.parameters.length) = some 4 := by decide +kernel
set_option maxRecDepth 20000 in
theorem sb_LL_430_LM : sbL LL 430 LM := sbl_of rfl
theorem hvX6_gauge : yX6_gauge.cls = RX6 ∧ yX6_gauge.cls ≠ "java/lang/invoke/MethodHandle" ∧ yX6_gauge.cls ≠ "java/lang/invoke/VarHandle" ∧ (parseMethodDescriptor yX6_gauge.desc).map (fun d => d.parameters.length) = some 2 := by decide +kernel
theorem hvX7_gauge : yX7_gauge.cls = RX7 ∧ yX7_gauge.cls ≠ "java/lang/invoke/MethodHandle" ∧ yX7_gauge.cls ≠ "java/lang/invoke/VarHandle" ∧ (parseMethodDescriptor yX7_gauge.desc).map (fun d => d.parameters.length) = some 2 := by decide +kernel
theorem hvX6_gate : yX6_gate.cls = RX6 ∧ yX6_gate.cls ≠ "java/lang/invoke/MethodHandle" ∧ yX6_gate.cls ≠ "java/lang/invoke/VarHandle" ∧ (parseMethodDescriptor yX6_gate.desc).map (fun d => d.parameters.length) = some 4 := by decide +kernel
theorem hvX7_gate : yX7_gate.cls = RX7 ∧ yX7_gate.cls ≠ "java/lang/invoke/MethodHandle" ∧ yX7_gate.cls ≠ "java/lang/invoke/VarHandle" ∧ (parseMethodDescriptor yX7_gate.desc).map (fun d => d.parameters.length) = some 4 := by decide +kernel
theorem hvX6_shut : yX6_shut.cls = RX6 ∧ yX6_shut.cls ≠ "java/lang/invoke/MethodHandle" ∧ yX6_shut.cls ≠ "java/lang/invoke/VarHandle" ∧ (parseMethodDescriptor yX6_shut.desc).map (fun d => d.parameters.length) = some 2 := by decide +kernel
theorem hvX7_shut : yX7_shut.cls = RX7 ∧ yX7_shut.cls ≠ "java/lang/invoke/MethodHandle" ∧ yX7_shut.cls ≠ "java/lang/invoke/VarHandle" ∧ (parseMethodDescriptor yX7_shut.desc).map (fun d => d.parameters.length) = some 2 := by decide +kernel
theorem hvX6_put : yX6_put.cls = RX6 ∧ yX6_put.cls ≠ "java/lang/invoke/MethodHandle" ∧ yX6_put.cls ≠ "java/lang/invoke/VarHandle" ∧ (parseMethodDescriptor yX6_put.desc).map (fun d => d.parameters.length) = some 1 := by decide +kernel
theorem hvX7_put : yX7_put.cls = RX7 ∧ yX7_put.cls ≠ "java/lang/invoke/MethodHandle" ∧ yX7_put.cls ≠ "java/lang/invoke/VarHandle" ∧ (parseMethodDescriptor yX7_put.desc).map (fun d => d.parameters.length) = some 1 := by decide +kernel
theorem hvX6_run : yX6_run.cls = RX6 ∧ yX6_run.cls ≠ "java/lang/invoke/MethodHandle" ∧ yX6_run.cls ≠ "java/lang/invoke/VarHandle" ∧ (parseMethodDescriptor yX6_run.desc).map (fun d => d.parameters.length) = some 1 := by decide +kernel
theorem hvX7_run : yX7_run.cls = RX7 ∧ yX7_run.cls ≠ "java/lang/invoke/MethodHandle" ∧ yX7_run.cls ≠ "java/lang/invoke/VarHandle" ∧ (parseMethodDescriptor yX7_run.desc).map (fun d => d.parameters.length) = some 1 := by decide +kernel
theorem hvX6_store : yX6_store.cls = RX6 ∧ yX6_store.cls ≠ "java/lang/invoke/MethodHandle" ∧ yX6_store.cls ≠ "java/lang/invoke/VarHandle" ∧ (parseMethodDescriptor yX6_store.desc).map (fun d => d.parameters.length) = some 2 := by decide +kernel
theorem hvX7_store : yX7_store.cls = RX7 ∧ yX7_store.cls ≠ "java/lang/invoke/MethodHandle" ∧ yX7_store.cls ≠ "java/lang/invoke/VarHandle" ∧ (parseMethodDescriptor yX7_store.desc).map (fun d => d.parameters.length) = some 2 := by decide +kernel
theorem hvX6_gateOf : yX6_gateOf.cls = RX6 ∧ yX6_gateOf.cls ≠ "java/lang/invoke/MethodHandle" ∧ yX6_gateOf.cls ≠ "java/lang/invoke/VarHandle" ∧ (parseMethodDescriptor yX6_gateOf.desc).map (fun d => d.parameters.length) = some 2 := by decide +kernel
theorem hvX7_gateOf : yX7_gateOf.cls = RX7 ∧ yX7_gateOf.cls ≠ "java/lang/invoke/MethodHandle" ∧ yX7_gateOf.cls ≠ "java/lang/invoke/VarHandle" ∧ (parseMethodDescriptor yX7_gateOf.desc).map (fun d => d.parameters.length) = some 2 := by decide +kernel
theorem hvX6_word : yX6_word.cls = RX6 ∧ yX6_word.cls ≠ "java/lang/invoke/MethodHandle" ∧ yX6_word.cls ≠ "java/lang/invoke/VarHandle" ∧ (parseMethodDescriptor yX6_word.desc).map (fun d => d.parameters.length) = some 2 := by decide +kernel
theorem hvX7_word : yX7_word.cls = RX7 ∧ yX7_word.cls ≠ "java/lang/invoke/MethodHandle" ∧ yX7_word.cls ≠ "java/lang/invoke/VarHandle" ∧ (parseMethodDescriptor yX7_word.desc).map (fun d => d.parameters.length) = some 2 := by decide +kernel
theorem hvX6_at : yX6_at.cls = RX6 ∧ yX6_at.cls ≠ "java/lang/invoke/MethodHandle" ∧ yX6_at.cls ≠ "java/lang/invoke/VarHandle" ∧ (parseMethodDescriptor yX6_at.desc).map (fun d => d.parameters.length) = some 2 := by decide +kernel
theorem hvX7_at : yX7_at.cls = RX7 ∧ yX7_at.cls ≠ "java/lang/invoke/MethodHandle" ∧ yX7_at.cls ≠ "java/lang/invoke/VarHandle" ∧ (parseMethodDescriptor yX7_at.desc).map (fun d => d.parameters.length) = some 2 := by decide +kernel
theorem hvX6_count : yX6_count.cls = RX6 ∧ yX6_count.cls ≠ "java/lang/invoke/MethodHandle" ∧ yX6_count.cls ≠ "java/lang/invoke/VarHandle" ∧ (parseMethodDescriptor yX6_count.desc).map (fun d => d.parameters.length) = some 1 := by decide +kernel
theorem hvX7_count : yX7_count.cls = RX7 ∧ yX7_count.cls ≠ "java/lang/invoke/MethodHandle" ∧ yX7_count.cls ≠ "java/lang/invoke/VarHandle" ∧ (parseMethodDescriptor yX7_count.desc).map (fun d => d.parameters.length) = some 1 := by decide +kernel
theorem hvX6_untilOpen : yX6_untilOpen.cls = RX6 ∧ yX6_untilOpen.cls ≠ "java/lang/invoke/MethodHandle" ∧ yX6_untilOpen.cls ≠ "java/lang/invoke/VarHandle" ∧ (parseMethodDescriptor yX6_untilOpen.desc).map (fun d => d.parameters.length) = some 1 := by decide +kernel
theorem hvX7_untilOpen : yX7_untilOpen.cls = RX7 ∧ yX7_untilOpen.cls ≠ "java/lang/invoke/MethodHandle" ∧ yX7_untilOpen.cls ≠ "java/lang/invoke/VarHandle" ∧ (parseMethodDescriptor yX7_untilOpen.desc).map (fun d => d.parameters.length) = some 1 := by decide +kernel
theorem hvX6_openFor : yX6_openFor.cls = RX6 ∧ yX6_openFor.cls ≠ "java/lang/invoke/MethodHandle" ∧ yX6_openFor.cls ≠ "java/lang/invoke/VarHandle" ∧ (parseMethodDescriptor yX6_openFor.desc).map (fun d => d.parameters.length) = some 1 := by decide +kernel
theorem hvX7_openFor : yX7_openFor.cls = RX7 ∧ yX7_openFor.cls ≠ "java/lang/invoke/MethodHandle" ∧ yX7_openFor.cls ≠ "java/lang/invoke/VarHandle" ∧ (parseMethodDescriptor yX7_openFor.desc).map (fun d => d.parameters.length) = some 1 := by decide +kernel
theorem hvX6_untilPassed : yX6_untilPassed.cls = RX6 ∧ yX6_untilPassed.cls ≠ "java/lang/invoke/MethodHandle" ∧ yX6_untilPassed.cls ≠ "java/lang/invoke/VarHandle" ∧ (parseMethodDescriptor yX6_untilPassed.desc).map (fun d => d.parameters.length) = some 1 := by decide +kernel
theorem hvX7_untilPassed : yX7_untilPassed.cls = RX7 ∧ yX7_untilPassed.cls ≠ "java/lang/invoke/MethodHandle" ∧ yX7_untilPassed.cls ≠ "java/lang/invoke/VarHandle" ∧ (parseMethodDescriptor yX7_untilPassed.desc).map (fun d => d.parameters.length) = some 1 := by decide +kernel
theorem hvX6_ifRun : yX6_ifRun.cls = RX6 ∧ yX6_ifRun.cls ≠ "java/lang/invoke/MethodHandle" ∧ yX6_ifRun.cls ≠ "java/lang/invoke/VarHandle" ∧ (parseMethodDescriptor yX6_ifRun.desc).map (fun d => d.parameters.length) = some 2 := by decide +kernel
theorem hvX7_ifRun : yX7_ifRun.cls = RX7 ∧ yX7_ifRun.cls ≠ "java/lang/invoke/MethodHandle" ∧ yX7_ifRun.cls ≠ "java/lang/invoke/VarHandle" ∧ (parseMethodDescriptor yX7_ifRun.desc).map (fun d => d.parameters.length) = some 2 := by decide +kernel
theorem hvX6_leastSlack : yX6_leastSlack.cls = RX6 ∧ yX6_leastSlack.cls ≠ "java/lang/invoke/MethodHandle" ∧ yX6_leastSlack.cls ≠ "java/lang/invoke/VarHandle" ∧ (parseMethodDescriptor yX6_leastSlack.desc).map (fun d => d.parameters.length) = some 2 := by decide +kernel
theorem hvX7_leastSlack : yX7_leastSlack.cls = RX7 ∧ yX7_leastSlack.cls ≠ "java/lang/invoke/MethodHandle" ∧ yX7_leastSlack.cls ≠ "java/lang/invoke/VarHandle" ∧ (parseMethodDescriptor yX7_leastSlack.desc).map (fun d => d.parameters.length) = some 2 := by decide +kernel
theorem hvX6_bestLie : yX6_bestLie.cls = RX6 ∧ yX6_bestLie.cls ≠ "java/lang/invoke/MethodHandle" ∧ yX6_bestLie.cls ≠ "java/lang/invoke/VarHandle" ∧ (parseMethodDescriptor yX6_bestLie.desc).map (fun d => d.parameters.length) = some 2 := by decide +kernel
theorem hvX7_bestLie : yX7_bestLie.cls = RX7 ∧ yX7_bestLie.cls ≠ "java/lang/invoke/MethodHandle" ∧ yX7_bestLie.cls ≠ "java/lang/invoke/VarHandle" ∧ (parseMethodDescriptor yX7_bestLie.desc).map (fun d => d.parameters.length) = some 2 := by decide +kernel
set_option maxRecDepth 20000 in
theorem lkL_law_0 : Cond.constantLong RL 85 (4294967295) ∈ wsL_law := by decide +kernel
theorem hvX6_write : yX6_write.cls = RX6 ∧ yX6_write.cls ≠ "java/lang/invoke/MethodHandle" ∧ yX6_write.cls ≠ "java/lang/invoke/VarHandle" ∧ (parseMethodDescriptor yX6_write.desc).map (fun d => d.parameters.length) = some 1 := by decide +kernel
theorem hvX7_write : yX7_write.cls = RX7 ∧ yX7_write.cls ≠ "java/lang/invoke/MethodHandle" ∧ yX7_write.cls ≠ "java/lang/invoke/VarHandle" ∧ (parseMethodDescriptor yX7_write.desc).map (fun d => d.parameters.length) = some 1 := by decide +kernel
theorem hvX6_wipe : yX6_wipe.cls = RX6 ∧ yX6_wipe.cls ≠ "java/lang/invoke/MethodHandle" ∧ yX6_wipe.cls ≠ "java/lang/invoke/VarHandle" ∧ (parseMethodDescriptor yX6_wipe.desc).map (fun d => d.parameters.length) = some 0 := by decide +kernel
theorem hvX7_wipe : yX7_wipe.cls = RX7 ∧ yX7_wipe.cls ≠ "java/lang/invoke/MethodHandle" ∧ yX7_wipe.cls ≠ "java/lang/invoke/VarHandle" ∧ (parseMethodDescriptor yX7_wipe.desc).map (fun d => d.parameters.length) = some 0 := by decide +kernel
theorem hvX6_fault : yX6_fault.cls = RX6 ∧ yX6_fault.cls ≠ "java/lang/invoke/MethodHandle" ∧ yX6_fault.cls ≠ "java/lang/invoke/VarHandle" ∧ (parseMethodDescriptor yX6_fault.desc).map (fun d => d.parameters.length) = some 0 := by decide +kernel
theorem hvX7_fault : yX7_fault.cls = RX7 ∧ yX7_fault.cls ≠ "java/lang/invoke/MethodHandle" ∧ yX7_fault.cls ≠ "java/lang/invoke/VarHandle" ∧ (parseMethodDescriptor yX7_fault.desc).map (fun d => d.parameters.length) = some 0 := by decide +kernel
theorem hvX6_undo : yX6_undo.cls = RX6 ∧ yX6_undo.cls ≠ "java/lang/invoke/MethodHandle" ∧ yX6_undo.cls ≠ "java/lang/invoke/VarHandle" ∧ (parseMethodDescriptor yX6_undo.desc).map (fun d => d.parameters.length) = some 0 := by decide +kernel
theorem hvX7_undo : yX7_undo.cls = RX7 ∧ yX7_undo.cls ≠ "java/lang/invoke/MethodHandle" ∧ yX7_undo.cls ≠ "java/lang/invoke/VarHandle" ∧ (parseMethodDescriptor yX7_undo.desc).map (fun d => d.parameters.length) = some 0 := by decide +kernel
theorem hvX6_save : yX6_save.cls = RX6 ∧ yX6_save.cls ≠ "java/lang/invoke/MethodHandle" ∧ yX6_save.cls ≠ "java/lang/invoke/VarHandle" ∧ (parseMethodDescriptor yX6_save.desc).map (fun d => d.parameters.length) = some 1 := by decide +kernel
theorem hvX7_save : yX7_save.cls = RX7 ∧ yX7_save.cls ≠ "java/lang/invoke/MethodHandle" ∧ yX7_save.cls ≠ "java/lang/invoke/VarHandle" ∧ (parseMethodDescriptor yX7_save.desc).map (fun d => d.parameters.length) = some 1 := by decide +kernel
theorem hvX6_restore : yX6_restore.cls = RX6 ∧ yX6_restore.cls ≠ "java/lang/invoke/MethodHandle" ∧ yX6_restore.cls ≠ "java/lang/invoke/VarHandle" ∧ (parseMethodDescriptor yX6_restore.desc).map (fun d => d.parameters.length) = some 1 := by decide +kernel
theorem hvX7_restore : yX7_restore.cls = RX7 ∧ yX7_restore.cls ≠ "java/lang/invoke/MethodHandle" ∧ yX7_restore.cls ≠ "java/lang/invoke/VarHandle" ∧ (parseMethodDescriptor yX7_restore.desc).map (fun d => d.parameters.length) = some 1 := by decide +kernel
def lbL_law_18 (Ls : Nat) (xs : Nat → Int32) (s1 : Int32 × Mem) : Option ((Int32 × Mem) ⊕ ((Int32) ⊕ (Int32 × Mem))) := if (Int32.ofNat Ls) - ((5 : Int32)) < s1.1 then some (.inr (.inr (s1.1, s1.2))) else if s1.1 < 0 ∨ Ls ≤ s1.1.toNatClampNeg then none else if (xs s1.1.toNatClampNeg) &&& ((31 : Int32)) = 0 then if s1.1 + ((1 : Int32)) < 0 ∨ Ls ≤ (s1.1 + ((1 : Int32))).toNatClampNeg then none else if s1.1 + ((2 : Int32)) < 0 ∨ Ls ≤ (s1.1 + ((2 : Int32))).toNatClampNeg then none else if s1.1 + ((3 : Int32)) < 0 ∨ Ls ≤ (s1.1 + ((3 : Int32))).toNatClampNeg then none else if s1.1 + ((4 : Int32)) < 0 ∨ Ls ≤ (s1.1 + ((4 : Int32))).toNatClampNeg then none else lt (fX6_tide (gv s1.2 0) (xs (s1.1 + ((1 : Int32))).toNatClampNeg) (xs (s1.1 + ((2 : Int32))).toNatClampNeg) (xs (s1.1 + ((3 : Int32))).toNatClampNeg) (xs (s1.1 + ((4 : Int32))).toNatClampNeg)) (fun U9 => lt (pv s1.2 0 430 U9.2) (fun V10 => (qX7_tide (gv V10 430) (xs (s1.1 + ((1 : Int32))).toNatClampNeg) (xs (s1.1 + ((2 : Int32))).toNatClampNeg) (xs (s1.1 + ((3 : Int32))).toNatClampNeg) (xs (s1.1 + ((4 : Int32))).toNatClampNeg)).bind (fun U11 => lt (pv V10 430 7 U11.2) (fun V12 => if U9.1 = U11.1 then some (.inl (s1.1 + 5, V12)) else some (.inr (.inl (0 : Int32))))))) else if (xs s1.1.toNatClampNeg) &&& ((31 : Int32)) = 1 then if s1.1 + ((1 : Int32)) < 0 ∨ Ls ≤ (s1.1 + ((1 : Int32))).toNatClampNeg then none else if s1.1 + ((2 : Int32)) < 0 ∨ Ls ≤ (s1.1 + ((2 : Int32))).toNatClampNeg then none else lt (fX6_gauge (gv s1.2 0) (xs (s1.1 + ((1 : Int32))).toNatClampNeg) (xs (s1.1 + ((2 : Int32))).toNatClampNeg)) (fun U17 => lt (pv s1.2 0 430 U17.2) (fun V18 => (qX7_gauge (gv V18 430) (xs (s1.1 + ((1 : Int32))).toNatClampNeg) (xs (s1.1 + ((2 : Int32))).toNatClampNeg)).bind (fun U19 => lt (pv V18 430 7 U19.2) (fun V20 => if U17.1 = U19.1 then some (.inl (s1.1 + 5, V20)) else some (.inr (.inl (0 : Int32))))))) else if (xs s1.1.toNatClampNeg) &&& ((31 : Int32)) = 2 then if s1.1 + ((1 : Int32)) < 0 ∨ Ls ≤ (s1.1 + ((1 : Int32))).toNatClampNeg then none else if s1.1 + ((2 : Int32)) < 0 ∨ Ls ≤ (s1.1 + ((2 : Int32))).toNatClampNeg then none else if s1.1 + ((3 : Int32)) < 0 ∨ Ls ≤ (s1.1 + ((3 : Int32))).toNatClampNeg then none else if s1.1 + ((4 : Int32)) < 0 ∨ Ls ≤ (s1.1 + ((4 : Int32))).toNatClampNeg then none else lt (fX6_gate (gv s1.2 0) (xs (s1.1 + ((1 : Int32))).toNatClampNeg) (xs (s1.1 + ((2 : Int32))).toNatClampNeg) (xs (s1.1 + ((3 : Int32))).toNatClampNeg) (xs (s1.1 + ((4 : Int32))).toNatClampNeg)) (fun U27 => lt (pv s1.2 0 430 U27.2) (fun V28 => (qX7_gate (gv V28 430) (xs (s1.1 + ((1 : Int32))).toNatClampNeg) (xs (s1.1 + ((2 : Int32))).toNatClampNeg) (xs (s1.1 + ((3 : Int32))).toNatClampNeg) (xs (s1.1 + ((4 : Int32))).toNatClampNeg)).bind (fun U29 => lt (pv V28 430 7 U29.2) (fun V30 => if U27.1 = U29.1 then some (.inl (s1.1 + 5, V30)) else some (.inr (.inl (0 : Int32))))))) else if (xs s1.1.toNatClampNeg) &&& ((31 : Int32)) = 3 then if s1.1 + ((1 : Int32)) < 0 ∨ Ls ≤ (s1.1 + ((1 : Int32))).toNatClampNeg then none else if s1.1 + ((2 : Int32)) < 0 ∨ Ls ≤ (s1.1 + ((2 : Int32))).toNatClampNeg then none else if xs (s1.1 + ((2 : Int32))).toNatClampNeg = 0 then lt (fX6_shut (gv s1.2 0) (xs (s1.1 + ((1 : Int32))).toNatClampNeg) ((0 : Int32))) (fun U36 => lt (pv s1.2 0 430 U36.2) (fun V37 => (qX7_shut (gv V37 430) (xs (s1.1 + ((1 : Int32))).toNatClampNeg) ((0 : Int32))).bind (fun U38 => lt (pv V37 430 7 U38.2) (fun V39 => if U36.1 = U38.1 then some (.inl (s1.1 + 5, V39)) else some (.inr (.inl (0 : Int32))))))) else lt (fX6_shut (gv s1.2 0) (xs (s1.1 + ((1 : Int32))).toNatClampNeg) ((1 : Int32))) (fun U41 => lt (pv s1.2 0 430 U41.2) (fun V42 => (qX7_shut (gv V42 430) (xs (s1.1 + ((1 : Int32))).toNatClampNeg) ((1 : Int32))).bind (fun U43 => lt (pv V42 430 7 U43.2) (fun V44 => if U41.1 = U43.1 then some (.inl (s1.1 + 5, V44)) else some (.inr (.inl (0 : Int32))))))) else if (xs s1.1.toNatClampNeg) &&& ((31 : Int32)) = 4 then if s1.1 + ((1 : Int32)) < 0 ∨ Ls ≤ (s1.1 + ((1 : Int32))).toNatClampNeg then none else lt (fX6_put (gv s1.2 0) (xs (s1.1 + ((1 : Int32))).toNatClampNeg)) (fun U48 => lt (pv s1.2 0 430 U48.2) (fun V49 => (qX7_put (gv V49 430) (xs (s1.1 + ((1 : Int32))).toNatClampNeg)).bind (fun U50 => lt (pv V49 430 7 U50.2) (fun V51 => if U48.1 = U50.1 then some (.inl (s1.1 + 5, V51)) else some (.inr (.inl (0 : Int32))))))) else if (xs s1.1.toNatClampNeg) &&& ((31 : Int32)) = 5 then if s1.1 + ((1 : Int32)) < 0 ∨ Ls ≤ (s1.1 + ((1 : Int32))).toNatClampNeg then none else lt (fX6_run (gv s1.2 0) (xs (s1.1 + ((1 : Int32))).toNatClampNeg)) (fun U55 => lt (pv s1.2 0 430 U55.2) (fun V56 => (qX7_run (gv V56 430) (xs (s1.1 + ((1 : Int32))).toNatClampNeg)).bind (fun U57 => lt (pv V56 430 7 U57.2) (fun V58 => if U55.1 = U57.1 then some (.inl (s1.1 + 5, V58)) else some (.inr (.inl (0 : Int32))))))) else if (xs s1.1.toNatClampNeg) &&& ((31 : Int32)) = 6 then if s1.1 + ((1 : Int32)) < 0 ∨ Ls ≤ (s1.1 + ((1 : Int32))).toNatClampNeg then none else if s1.1 + ((2 : Int32)) < 0 ∨ Ls ≤ (s1.1 + ((2 : Int32))).toNatClampNeg then none else lt (fX6_store (gv s1.2 0) (xs (s1.1 + ((1 : Int32))).toNatClampNeg) (xs (s1.1 + ((2 : Int32))).toNatClampNeg)) (fun r63 => (qX7_store (gv s1.2 430) (xs (s1.1 + ((1 : Int32))).toNatClampNeg) (xs (s1.1 + ((2 : Int32))).toNatClampNeg)).bind (fun r64 => if r63 = r64 then some (.inl (s1.1 + 5, s1.2)) else some (.inr (.inl (0 : Int32))))) else if (xs s1.1.toNatClampNeg) &&& ((31 : Int32)) = 7 then if s1.1 + ((1 : Int32)) < 0 ∨ Ls ≤ (s1.1 + ((1 : Int32))).toNatClampNeg then none else if s1.1 + ((2 : Int32)) < 0 ∨ Ls ≤ (s1.1 + ((2 : Int32))).toNatClampNeg then none else lt (fX6_gateOf (gv s1.2 0) (xs (s1.1 + ((1 : Int32))).toNatClampNeg) (xs (s1.1 + ((2 : Int32))).toNatClampNeg)) (fun r69 => (qX7_gateOf (gv s1.2 430) (xs (s1.1 + ((1 : Int32))).toNatClampNeg) (xs (s1.1 + ((2 : Int32))).toNatClampNeg)).bind (fun r70 => if r69 = r70 then some (.inl (s1.1 + 5, s1.2)) else some (.inr (.inl (0 : Int32))))) else if (xs s1.1.toNatClampNeg) &&& ((31 : Int32)) = 8 then if s1.1 + ((1 : Int32)) < 0 ∨ Ls ≤ (s1.1 + ((1 : Int32))).toNatClampNeg then none else if s1.1 + ((2 : Int32)) < 0 ∨ Ls ≤ (s1.1 + ((2 : Int32))).toNatClampNeg then none else lt (fX6_word (gv s1.2 0) (xs (s1.1 + ((1 : Int32))).toNatClampNeg) (xs (s1.1 + ((2 : Int32))).toNatClampNeg)) (fun r75 => (qX7_word (gv s1.2 430) (xs (s1.1 + ((1 : Int32))).toNatClampNeg) (xs (s1.1 + ((2 : Int32))).toNatClampNeg)).bind (fun r76 => if r75 = r76 then some (.inl (s1.1 + 5, s1.2)) else some (.inr (.inl (0 : Int32))))) else if (xs s1.1.toNatClampNeg) &&& ((31 : Int32)) = 9 then if s1.1 + ((1 : Int32)) < 0 ∨ Ls ≤ (s1.1 + ((1 : Int32))).toNatClampNeg then none else if s1.1 + ((2 : Int32)) < 0 ∨ Ls ≤ (s1.1 + ((2 : Int32))).toNatClampNeg then none else lt (fX6_at (gv s1.2 0) (xs (s1.1 + ((1 : Int32))).toNatClampNeg) (xs (s1.1 + ((2 : Int32))).toNatClampNeg)) (fun r81 => (qX7_at (gv s1.2 430) (xs (s1.1 + ((1 : Int32))).toNatClampNeg) (xs (s1.1 + ((2 : Int32))).toNatClampNeg)).bind (fun r82 => if r81 = r82 then some (.inl (s1.1 + 5, s1.2)) else some (.inr (.inl (0 : Int32))))) else if (xs s1.1.toNatClampNeg) &&& ((31 : Int32)) = 10 then if s1.1 + ((1 : Int32)) < 0 ∨ Ls ≤ (s1.1 + ((1 : Int32))).toNatClampNeg then none else lt (fX6_count (gv s1.2 0) (xs (s1.1 + ((1 : Int32))).toNatClampNeg)) (fun r86 => (qX7_count (gv s1.2 430) (xs (s1.1 + ((1 : Int32))).toNatClampNeg)).bind (fun r87 => if r86 = r87 then some (.inl (s1.1 + 5, s1.2)) else some (.inr (.inl (0 : Int32))))) else if (xs s1.1.toNatClampNeg) &&& ((31 : Int32)) = 11 then if s1.1 + ((1 : Int32)) < 0 ∨ Ls ≤ (s1.1 + ((1 : Int32))).toNatClampNeg then none else lt (fX6_untilOpen (gv s1.2 0) (xs (s1.1 + ((1 : Int32))).toNatClampNeg)) (fun r91 => (qX7_untilOpen (gv s1.2 430) (xs (s1.1 + ((1 : Int32))).toNatClampNeg)).bind (fun r92 => if r91 = r92 then some (.inl (s1.1 + 5, s1.2)) else some (.inr (.inl (0 : Int32))))) else if (xs s1.1.toNatClampNeg) &&& ((31 : Int32)) = 12 then if s1.1 + ((1 : Int32)) < 0 ∨ Ls ≤ (s1.1 + ((1 : Int32))).toNatClampNeg then none else lt (fX6_openFor (gv s1.2 0) (xs (s1.1 + ((1 : Int32))).toNatClampNeg)) (fun r96 => (qX7_openFor (gv s1.2 430) (xs (s1.1 + ((1 : Int32))).toNatClampNeg)).bind (fun r97 => if r96 = r97 then some (.inl (s1.1 + 5, s1.2)) else some (.inr (.inl (0 : Int32))))) else if (xs s1.1.toNatClampNeg) &&& ((31 : Int32)) = 13 then if s1.1 + ((1 : Int32)) < 0 ∨ Ls ≤ (s1.1 + ((1 : Int32))).toNatClampNeg then none else (qX6_untilPassed (gv s1.2 0) (xs (s1.1 + ((1 : Int32))).toNatClampNeg)).bind (fun U101 => lt (pv s1.2 0 430 U101.2) (fun V102 => (qX7_untilPassed (gv V102 430) (xs (s1.1 + ((1 : Int32))).toNatClampNeg)).bind (fun U103 => lt (pv V102 430 7 U103.2) (fun V104 => if U101.1 = U103.1 then some (.inl (s1.1 + 5, V104)) else some (.inr (.inl (0 : Int32))))))) else if (xs s1.1.toNatClampNeg) &&& ((31 : Int32)) = 14 then if s1.1 + ((1 : Int32)) < 0 ∨ Ls ≤ (s1.1 + ((1 : Int32))).toNatClampNeg then none else if s1.1 + ((2 : Int32)) < 0 ∨ Ls ≤ (s1.1 + ((2 : Int32))).toNatClampNeg then none else lt (fX6_ifRun (gv s1.2 0) (xs (s1.1 + ((1 : Int32))).toNatClampNeg) (xs (s1.1 + ((2 : Int32))).toNatClampNeg)) (fun U109 => lt (pv s1.2 0 430 U109.2) (fun V110 => (qX7_ifRun (gv V110 430) (xs (s1.1 + ((1 : Int32))).toNatClampNeg) (xs (s1.1 + ((2 : Int32))).toNatClampNeg)).bind (fun U111 => lt (pv V110 430 7 U111.2) (fun V112 => if U109.1 = U111.1 then some (.inl (s1.1 + 5, V112)) else some (.inr (.inl (0 : Int32))))))) else if (xs s1.1.toNatClampNeg) &&& ((31 : Int32)) = 15 then if s1.1 + ((1 : Int32)) < 0 ∨ Ls ≤ (s1.1 + ((1 : Int32))).toNatClampNeg then none else if s1.1 + ((2 : Int32)) < 0 ∨ Ls ≤ (s1.1 + ((2 : Int32))).toNatClampNeg then none else (qX6_leastSlack (gv s1.2 0) (xs (s1.1 + ((1 : Int32))).toNatClampNeg) (xs (s1.1 + ((2 : Int32))).toNatClampNeg)).bind (fun U117 => lt (pv s1.2 0 430 U117.2) (fun V118 => (qX7_leastSlack (gv V118 430) (xs (s1.1 + ((1 : Int32))).toNatClampNeg) (xs (s1.1 + ((2 : Int32))).toNatClampNeg)).bind (fun U119 => lt (pv V118 430 7 U119.2) (fun V120 => if U117.1 = U119.1 then some (.inl (s1.1 + 5, V120)) else some (.inr (.inl (0 : Int32))))))) else if (xs s1.1.toNatClampNeg) &&& ((31 : Int32)) = 16 then if s1.1 + ((1 : Int32)) < 0 ∨ Ls ≤ (s1.1 + ((1 : Int32))).toNatClampNeg then none else if s1.1 + ((2 : Int32)) < 0 ∨ Ls ≤ (s1.1 + ((2 : Int32))).toNatClampNeg then none else (qX6_bestLie (gv s1.2 0) (xs (s1.1 + ((1 : Int32))).toNatClampNeg) (xs (s1.1 + ((2 : Int32))).toNatClampNeg)).bind (fun U125 => lt (pv s1.2 0 430 U125.2) (fun V126 => (qX7_bestLie (gv V126 430) (xs (s1.1 + ((1 : Int32))).toNatClampNeg) (xs (s1.1 + ((2 : Int32))).toNatClampNeg)).bind (fun U127 => lt (pv V126 430 7 U127.2) (fun V128 => if U125.1 = U127.1 then some (.inl (s1.1 + 5, V128)) else some (.inr (.inl (0 : Int32))))))) else if (xs s1.1.toNatClampNeg) &&& ((31 : Int32)) = 17 then if s1.1 + ((1 : Int32)) < 0 ∨ Ls ≤ (s1.1 + ((1 : Int32))).toNatClampNeg then none else if s1.1 + ((2 : Int32)) < 0 ∨ Ls ≤ (s1.1 + ((2 : Int32))).toNatClampNeg then none else (qX6_write (gv s1.2 0) ((((xs (s1.1 + ((1 : Int32))).toNatClampNeg).toInt64) <<< (((32 : Int32)).toInt64 &&& 63)) ||| (((xs (s1.1 + ((2 : Int32))).toNatClampNeg).toInt64) &&& ((4294967295 : Int64))))).bind (fun U133 => lt (pv s1.2 0 430 U133.2) (fun V134 => (qX7_write (gv V134 430) ((((xs (s1.1 + ((1 : Int32))).toNatClampNeg).toInt64) <<< (((32 : Int32)).toInt64 &&& 63)) ||| (((xs (s1.1 + ((2 : Int32))).toNatClampNeg).toInt64) &&& ((4294967295 : Int64))))).bind (fun U135 => lt (pv V134 430 7 U135.2) (fun V136 => if U133.1 = U135.1 then some (.inl (s1.1 + 5, V136)) else some (.inr (.inl (0 : Int32))))))) else if (xs s1.1.toNatClampNeg) &&& ((31 : Int32)) = 18 then lt (fX6_wipe (gv s1.2 0) ) (fun U139 => lt (pv s1.2 0 430 U139.2) (fun V140 => lt (fX7_wipe (gv V140 430) ) (fun U141 => lt (pv V140 430 7 U141.2) (fun V142 => if U139.1 = U141.1 then some (.inl (s1.1 + 5, V142)) else some (.inr (.inl (0 : Int32))))))) else if (xs s1.1.toNatClampNeg) &&& ((31 : Int32)) = 19 then lt (fX6_fault (gv s1.2 0) ) (fun r145 => (qX7_fault (gv s1.2 430) ).bind (fun r146 => if r145 = r146 then some (.inl (s1.1 + 5, s1.2)) else some (.inr (.inl (0 : Int32))))) else if (xs s1.1.toNatClampNeg) &&& ((31 : Int32)) = 20 then (qX6_undo (gv s1.2 0) ).bind (fun U149 => lt (pv s1.2 0 430 U149.2) (fun V150 => (qX7_undo (gv V150 430) ).bind (fun U151 => lt (pv V150 430 7 U151.2) (fun V152 => if U149.1 = U151.1 then some (.inl (s1.1 + 5, V152)) else some (.inr (.inl (0 : Int32))))))) else if (xs s1.1.toNatClampNeg) &&& ((31 : Int32)) = 21 then if s1.1 + ((1 : Int32)) < 0 ∨ Ls ≤ (s1.1 + ((1 : Int32))).toNatClampNeg then none else lt (fX6_save (gv s1.2 0) (xs (s1.1 + ((1 : Int32))).toNatClampNeg)) (fun U156 => lt (pv s1.2 0 430 U156.2) (fun V157 => (qX7_save (gv V157 430) (xs (s1.1 + ((1 : Int32))).toNatClampNeg)).bind (fun U158 => lt (pv V157 430 7 U158.2) (fun V159 => if U156.1 = U158.1 then some (.inl (s1.1 + 5, V159)) else some (.inr (.inl (0 : Int32))))))) else if (xs s1.1.toNatClampNeg) &&& ((31 : Int32)) = 22 then if s1.1 + ((1 : Int32)) < 0 ∨ Ls ≤ (s1.1 + ((1 : Int32))).toNatClampNeg then none else (qX6_restore (gv s1.2 0) (xs (s1.1 + ((1 : Int32))).toNatClampNeg)).bind (fun U163 => lt (pv s1.2 0 430 U163.2) (fun V164 => (qX7_restore (gv V164 430) (xs (s1.1 + ((1 : Int32))).toNatClampNeg)).bind (fun U165 => lt (pv V164 430 7 U165.2) (fun V166 => if U163.1 = U165.1 then some (.inl (s1.1 + 5, V166)) else some (.inr (.inl (0 : Int32))))))) else some (.inl (s1.1 + 5, s1.2))
def qL_law (Ls : Nat) (xs : Nat → Int32) (V : Mem) : Option Int32 := (it (lbL_law_18 Ls xs) fuel ((0 : Int32), V)).bind (fun x169 => Sum.elim (fun r0 => some r0) (fun s168 => some (1 : Int32)) x169)
set_option maxHeartbeats 40000000 in
set_option maxRecDepth 1000000 in
theorem law_walk {p : Program} {l : Launch} {e : Env} {s : State} {m : MethodId} {below : List Frame} {meth : Method} {c : Code} {sb Ls : Nat} {xs : Nat → Int32} (X : kX) (b : Nat) (F : Fx p c s m #[Value.ref sb] wsL_law RL cL_law 4 X) (hX : va_X sb Ls xs s s.heap) (hbl : sb < s.heap.size) (hbs : s.heap.size = b) (hr : meth.sig.returnType = ret) (hlocks : meth.locks = false) (V : Mem) (H : Heap) (locs : List Loc) (ls : Array Slot) (hH : Hp (fun q => b ≤ q) s.heap (b + 437) X LL b V H locs) (hl : lv_has ls 4 [(2, .ref (b + 430)), (1, .ref b), (0, .ref sb)]) (out : Int32) (ho : out = 1) (hE : qL_law Ls xs V = some out) : W p l e room_1 s m #[Value.ref sb] below meth c H locs 600000 7302250 (lw_Z below #[Value.ref sb] s) (F0 m 16 ls []) := by
  have hx := F.1.1
  have hb := F.1.2.1
  have hbA : ¬ b ≤ sb := by omega
  unfold qL_law at hE
  refine lv_iconst (v := 0) hx hb dL_law_16 (by decide) ?_
  refine lv_istore_n (lv' := [(3, .int ((0 : Int32))), (2, .ref (b + 430)), (1, .ref b), (0, .ref sb)]) hx hb dL_law_17 rfl hl (by decide) rfl (fun ls hl => ?_)
  obtain ⟨x169, hx169, hE⟩ := bd_el hE
  refine it_walk2 (body := lbL_law_18 Ls xs) (Wh := fun s1 => ∀ (H : Heap) (locs : List Loc) (ls : Array Slot), Hp (fun q => b ≤ q) s.heap (b + 437) X LL b s1.2 H locs → lv_has ls 4 [(3, .int s1.1), (2, .ref (b + 430)), (1, .ref b), (0, .ref sb)] → W p l e room_1 s m #[Value.ref sb] below meth c H locs 600000 7302250 (lw_Z below #[Value.ref sb] s) (F0 m 18 ls [])) (We := fun x169 => (∀ r0, x169 = .inl r0 → r0 = out) ∧ (∀ s168, x169 = .inr s168 → ∀ (H : Heap) (locs : List Loc) (ls : Array Slot), Hp (fun q => b ≤ q) s.heap (b + 437) X LL b s168.2 H locs → lv_has ls 4 [(3, .int s168.1), (2, .ref (b + 430)), (1, .ref b), (0, .ref sb)] → W p l e room_1 s m #[Value.ref sb] below meth c H locs 600000 7302250 (lw_Z below #[Value.ref sb] s) (F0 m 841 ls []))) ?_ _ _ _ hx169 ?_ H locs ls hH (lv_sub hl [0, 1, 2, 3] rfl)
  · intro s1 r9 hE hL9 hR9 H locs ls hH hl
    unfold lbL_law_18 at hE
    refine lv_iload_n hx hb dL_law_18 rfl (lv_at hl 0 rfl) ?_
    refine lv_aload_n hx hb dL_law_19 rfl (lv_at hl 3 rfl) ?_
    refine va_slen hx hb hX hbl hbA hH.2.1 dL_law_20 ?_
    refine lv_iconst (v := 5) hx hb dL_law_21 (by decide) ?_
    refine lv_isub hx hb dL_law_22 ?_
    refine lv_icmp_gt (tgt := 841) hx hb dL_law_23 (by decide) (fun c2 => ?_) (fun c2 => ?_)
    · have hE := (if_pos c2).symm.trans hE
      cases hE
      exact (hR9 _ rfl).2 _ rfl H locs ls hH (lv_sub hl [0, 1, 2, 3] rfl)
    · have hE := (if_neg c2).symm.trans hE
      refine lv_aload_n hx hb dL_law_26 rfl (lv_at hl 3 rfl) ?_
      refine lv_iload_n hx hb dL_law_27 rfl (lv_at hl 0 rfl) ?_
      obtain ⟨g3, hE⟩ := gd_el hE
      refine va_sld hx hb hX hbl hbA hH.2.1 g3 dL_law_28 ?_
      refine lv_bipush (v := 31) hx hb dL_law_29 (by decide) ?_
      refine lv_iand hx hb dL_law_31 ?_
      by_cases c4 : (xs s1.1.toNatClampNeg) &&& ((31 : Int32)) = 0
      · have hE := (if_pos c4).symm.trans hE
        refine lv_tableIn (off := 108) (tgt := 140) hx hb dL_law_32 (by rw [c4]; decide) (by rw [c4]; decide) (by rw [c4]; rfl) (by decide) ?_
        refine lv_aload_n hx hb dL_law_140 rfl (lv_at hl 2 rfl) ?_
        refine lv_aload_n hx hb dL_law_141 rfl (lv_at hl 3 rfl) ?_
        refine lv_iload_n hx hb dL_law_142 rfl (lv_at hl 0 rfl) ?_
        refine lv_iconst (v := 1) hx hb dL_law_143 (by decide) ?_
        refine lv_iadd hx hb dL_law_144 ?_
        obtain ⟨g5, hE⟩ := gd_el hE
        refine va_sld hx hb hX hbl hbA hH.2.1 g5 dL_law_145 ?_
        refine lv_aload_n hx hb dL_law_146 rfl (lv_at hl 3 rfl) ?_
        refine lv_iload_n hx hb dL_law_147 rfl (lv_at hl 0 rfl) ?_
        refine lv_iconst (v := 2) hx hb dL_law_148 (by decide) ?_
        refine lv_iadd hx hb dL_law_149 ?_
        obtain ⟨g6, hE⟩ := gd_el hE
        refine va_sld hx hb hX hbl hbA hH.2.1 g6 dL_law_150 ?_
        refine lv_aload_n hx hb dL_law_151 rfl (lv_at hl 3 rfl) ?_
        refine lv_iload_n hx hb dL_law_152 rfl (lv_at hl 0 rfl) ?_
        refine lv_iconst (v := 3) hx hb dL_law_153 (by decide) ?_
        refine lv_iadd hx hb dL_law_154 ?_
        obtain ⟨g7, hE⟩ := gd_el hE
        refine va_sld hx hb hX hbl hbA hH.2.1 g7 dL_law_155 ?_
        refine lv_aload_n hx hb dL_law_156 rfl (lv_at hl 3 rfl) ?_
        refine lv_iload_n hx hb dL_law_157 rfl (lv_at hl 0 rfl) ?_
        refine lv_iconst (v := 4) hx hb dL_law_158 (by decide) ?_
        refine lv_iadd hx hb dL_law_159 ?_
        obtain ⟨g8, hE⟩ := gd_el hE
        refine va_sld hx hb hX hbl hbA hH.2.1 g8 dL_law_160 ?_
        obtain ⟨U9, eU9, hE⟩ := lt_el hE
        obtain ⟨V10, eV10, hE⟩ := lt_el hE
        refine rg_callWV (As := [.int (xs (s1.1 + ((1 : Int32))).toNatClampNeg), .int (xs (s1.1 + ((2 : Int32))).toNatClampNeg), .int (xs (s1.1 + ((3 : Int32))).toNatClampNeg), .int (xs (s1.1 + ((4 : Int32))).toNatClampNeg)]) (rest := []) F hH (fun q h1 _ => h1) 0 sb_LL_0_LA (mX6_tide l X (b + 0) (gv s1.2 0) (xs (s1.1 + ((1 : Int32))).toNatClampNeg) (xs (s1.1 + ((2 : Int32))).toNatClampNeg) (xs (s1.1 + ((3 : Int32))).toNatClampNeg) (xs (s1.1 + ((4 : Int32))).toNatClampNeg) U9 eU9) (cwV 4 F.1.2.2.2.2 gL_law_X6_tide rfl rfl rfl hvX6_tide ⟨Nat.le_of_ble_eq_true rfl, Nat.le_of_ble_eq_true rfl⟩) (rp_recv F hH.1 0 rfl (C := RX6) (T := TX6) (N := 9) rfl rfl) (hH.1.sub 0 sb_LL_0_LA) rfl hl.1 (Nat.le_of_ble_eq_true rfl) dL_law_161 ⟨Nat.le_refl _, Nat.le_refl _⟩ rfl eV10 (fun H locs hH hfr => ?_)
        refine lv_aload_n hx hb dL_law_164 rfl (lv_at hl 1 rfl) ?_
        refine lv_aload_n hx hb dL_law_165 rfl (lv_at hl 3 rfl) ?_
        refine lv_iload_n hx hb dL_law_166 rfl (lv_at hl 0 rfl) ?_
        refine lv_iconst (v := 1) hx hb dL_law_167 (by decide) ?_
        refine lv_iadd hx hb dL_law_168 ?_
        refine va_sld hx hb hX hbl hbA hH.2.1 g5 dL_law_169 ?_
        refine lv_aload_n hx hb dL_law_170 rfl (lv_at hl 3 rfl) ?_
        refine lv_iload_n hx hb dL_law_171 rfl (lv_at hl 0 rfl) ?_
        refine lv_iconst (v := 2) hx hb dL_law_172 (by decide) ?_
        refine lv_iadd hx hb dL_law_173 ?_
        refine va_sld hx hb hX hbl hbA hH.2.1 g6 dL_law_174 ?_
        refine lv_aload_n hx hb dL_law_175 rfl (lv_at hl 3 rfl) ?_
        refine lv_iload_n hx hb dL_law_176 rfl (lv_at hl 0 rfl) ?_
        refine lv_iconst (v := 3) hx hb dL_law_177 (by decide) ?_
        refine lv_iadd hx hb dL_law_178 ?_
        refine va_sld hx hb hX hbl hbA hH.2.1 g7 dL_law_179 ?_
        refine lv_aload_n hx hb dL_law_180 rfl (lv_at hl 3 rfl) ?_
        refine lv_iload_n hx hb dL_law_181 rfl (lv_at hl 0 rfl) ?_
        refine lv_iconst (v := 4) hx hb dL_law_182 (by decide) ?_
        refine lv_iadd hx hb dL_law_183 ?_
        refine va_sld hx hb hX hbl hbA hH.2.1 g8 dL_law_184 ?_
        obtain ⟨U11, eU11, hE⟩ := bd_el hE
        obtain ⟨V12, eV12, hE⟩ := lt_el hE
        refine rg_callWV (As := [.int (xs (s1.1 + ((1 : Int32))).toNatClampNeg), .int (xs (s1.1 + ((2 : Int32))).toNatClampNeg), .int (xs (s1.1 + ((3 : Int32))).toNatClampNeg), .int (xs (s1.1 + ((4 : Int32))).toNatClampNeg)]) (rest := [.int U9.1]) F hH (fun q h1 _ => h1) 430 sb_LL_430_LM (mX7_tide l X (b + 430) (gv V10 430) (xs (s1.1 + ((1 : Int32))).toNatClampNeg) (xs (s1.1 + ((2 : Int32))).toNatClampNeg) (xs (s1.1 + ((3 : Int32))).toNatClampNeg) (xs (s1.1 + ((4 : Int32))).toNatClampNeg) U11 eU11) (cwV 4 F.1.2.2.2.2 gL_law_X7_tide rfl rfl rfl hvX7_tide ⟨Nat.le_of_ble_eq_true rfl, Nat.le_of_ble_eq_true rfl⟩) (rp_recv F hH.1 430 rfl (C := RX7) (T := TX7) (N := 8) rfl rfl) (hH.1.sub 430 sb_LL_430_LM) rfl hl.1 (Nat.le_of_ble_eq_true rfl) dL_law_185 ⟨Nat.le_refl _, Nat.le_refl _⟩ rfl eV12 (fun H locs hH hfr => ?_)
        refine lv_icmp_eq (tgt := 835) hx hb dL_law_188 (by decide) (fun c13 => ?_) (fun c13 => ?_)
        · have hE := (if_pos c13).symm.trans hE
          refine lv_iinc (v := s1.1 + 5) (lv' := [(3, .int (s1.1 + 5)), (2, .ref (b + 430)), (1, .ref b), (0, .ref sb)]) hx hb dL_law_835 hl (k := 0) rfl (congrArg (fun q => s1.1 + q) (by decide)) (by decide) rfl (fun ls hl => ?_)
          refine lv_goto (tgt := 18) hx hb dL_law_838 (by decide) ?_
          cases hE
          exact hL9 _ rfl H locs ls hH (lv_sub hl [0, 1, 2, 3] rfl)
        · have hE := (if_neg c13).symm.trans hE
          refine lv_iconst (v := 0) hx hb dL_law_191 (by decide) ?_
          cases hE
          have hE := (hR9 _ rfl).1 _ rfl
          subst hE
          exact absurd ho (by decide)
      · have hE := (if_neg c4).symm.trans hE
        by_cases c14 : (xs s1.1.toNatClampNeg) &&& ((31 : Int32)) = 1
        · have hE := (if_pos c14).symm.trans hE
          refine lv_tableIn (off := 161) (tgt := 193) hx hb dL_law_32 (by rw [c14]; decide) (by rw [c14]; decide) (by rw [c14]; rfl) (by decide) ?_
          refine lv_aload_n hx hb dL_law_193 rfl (lv_at hl 2 rfl) ?_
          refine lv_aload_n hx hb dL_law_194 rfl (lv_at hl 3 rfl) ?_
          refine lv_iload_n hx hb dL_law_195 rfl (lv_at hl 0 rfl) ?_
          refine lv_iconst (v := 1) hx hb dL_law_196 (by decide) ?_
          refine lv_iadd hx hb dL_law_197 ?_
          obtain ⟨g15, hE⟩ := gd_el hE
          refine va_sld hx hb hX hbl hbA hH.2.1 g15 dL_law_198 ?_
          refine lv_aload_n hx hb dL_law_199 rfl (lv_at hl 3 rfl) ?_
          refine lv_iload_n hx hb dL_law_200 rfl (lv_at hl 0 rfl) ?_
          refine lv_iconst (v := 2) hx hb dL_law_201 (by decide) ?_
          refine lv_iadd hx hb dL_law_202 ?_
          obtain ⟨g16, hE⟩ := gd_el hE
          refine va_sld hx hb hX hbl hbA hH.2.1 g16 dL_law_203 ?_
          obtain ⟨U17, eU17, hE⟩ := lt_el hE
          obtain ⟨V18, eV18, hE⟩ := lt_el hE
          refine rg_callWV (As := [.int (xs (s1.1 + ((1 : Int32))).toNatClampNeg), .int (xs (s1.1 + ((2 : Int32))).toNatClampNeg)]) (rest := []) F hH (fun q h1 _ => h1) 0 sb_LL_0_LA (mX6_gauge l X (b + 0) (gv s1.2 0) (xs (s1.1 + ((1 : Int32))).toNatClampNeg) (xs (s1.1 + ((2 : Int32))).toNatClampNeg) U17 eU17) (cwV 2 F.1.2.2.2.2 gL_law_X6_gauge rfl rfl rfl hvX6_gauge ⟨Nat.le_of_ble_eq_true rfl, Nat.le_of_ble_eq_true rfl⟩) (rp_recv F hH.1 0 rfl (C := RX6) (T := TX6) (N := 9) rfl rfl) (hH.1.sub 0 sb_LL_0_LA) rfl hl.1 (Nat.le_of_ble_eq_true rfl) dL_law_204 ⟨Nat.le_refl _, Nat.le_refl _⟩ rfl eV18 (fun H locs hH hfr => ?_)
          refine lv_aload_n hx hb dL_law_207 rfl (lv_at hl 1 rfl) ?_
          refine lv_aload_n hx hb dL_law_208 rfl (lv_at hl 3 rfl) ?_
          refine lv_iload_n hx hb dL_law_209 rfl (lv_at hl 0 rfl) ?_
          refine lv_iconst (v := 1) hx hb dL_law_210 (by decide) ?_
          refine lv_iadd hx hb dL_law_211 ?_
          refine va_sld hx hb hX hbl hbA hH.2.1 g15 dL_law_212 ?_
          refine lv_aload_n hx hb dL_law_213 rfl (lv_at hl 3 rfl) ?_
          refine lv_iload_n hx hb dL_law_214 rfl (lv_at hl 0 rfl) ?_
          refine lv_iconst (v := 2) hx hb dL_law_215 (by decide) ?_
          refine lv_iadd hx hb dL_law_216 ?_
          refine va_sld hx hb hX hbl hbA hH.2.1 g16 dL_law_217 ?_
          obtain ⟨U19, eU19, hE⟩ := bd_el hE
          obtain ⟨V20, eV20, hE⟩ := lt_el hE
          refine rg_callWV (As := [.int (xs (s1.1 + ((1 : Int32))).toNatClampNeg), .int (xs (s1.1 + ((2 : Int32))).toNatClampNeg)]) (rest := [.int U17.1]) F hH (fun q h1 _ => h1) 430 sb_LL_430_LM (mX7_gauge l X (b + 430) (gv V18 430) (xs (s1.1 + ((1 : Int32))).toNatClampNeg) (xs (s1.1 + ((2 : Int32))).toNatClampNeg) U19 eU19) (cwV 2 F.1.2.2.2.2 gL_law_X7_gauge rfl rfl rfl hvX7_gauge ⟨Nat.le_of_ble_eq_true rfl, Nat.le_of_ble_eq_true rfl⟩) (rp_recv F hH.1 430 rfl (C := RX7) (T := TX7) (N := 8) rfl rfl) (hH.1.sub 430 sb_LL_430_LM) rfl hl.1 (Nat.le_of_ble_eq_true rfl) dL_law_218 ⟨Nat.le_refl _, Nat.le_refl _⟩ rfl eV20 (fun H locs hH hfr => ?_)
          refine lv_icmp_eq (tgt := 835) hx hb dL_law_221 (by decide) (fun c21 => ?_) (fun c21 => ?_)
          · have hE := (if_pos c21).symm.trans hE
            refine lv_iinc (v := s1.1 + 5) (lv' := [(3, .int (s1.1 + 5)), (2, .ref (b + 430)), (1, .ref b), (0, .ref sb)]) hx hb dL_law_835 hl (k := 0) rfl (congrArg (fun q => s1.1 + q) (by decide)) (by decide) rfl (fun ls hl => ?_)
            refine lv_goto (tgt := 18) hx hb dL_law_838 (by decide) ?_
            cases hE
            exact hL9 _ rfl H locs ls hH (lv_sub hl [0, 1, 2, 3] rfl)
          · have hE := (if_neg c21).symm.trans hE
            refine lv_iconst (v := 0) hx hb dL_law_224 (by decide) ?_
            cases hE
            have hE := (hR9 _ rfl).1 _ rfl
            subst hE
            exact absurd ho (by decide)
        · have hE := (if_neg c14).symm.trans hE
          by_cases c22 : (xs s1.1.toNatClampNeg) &&& ((31 : Int32)) = 2
          · have hE := (if_pos c22).symm.trans hE
            refine lv_tableIn (off := 194) (tgt := 226) hx hb dL_law_32 (by rw [c22]; decide) (by rw [c22]; decide) (by rw [c22]; rfl) (by decide) ?_
            refine lv_aload_n hx hb dL_law_226 rfl (lv_at hl 2 rfl) ?_
            refine lv_aload_n hx hb dL_law_227 rfl (lv_at hl 3 rfl) ?_
            refine lv_iload_n hx hb dL_law_228 rfl (lv_at hl 0 rfl) ?_
            refine lv_iconst (v := 1) hx hb dL_law_229 (by decide) ?_
            refine lv_iadd hx hb dL_law_230 ?_
            obtain ⟨g23, hE⟩ := gd_el hE
            refine va_sld hx hb hX hbl hbA hH.2.1 g23 dL_law_231 ?_
            refine lv_aload_n hx hb dL_law_232 rfl (lv_at hl 3 rfl) ?_
            refine lv_iload_n hx hb dL_law_233 rfl (lv_at hl 0 rfl) ?_
            refine lv_iconst (v := 2) hx hb dL_law_234 (by decide) ?_
            refine lv_iadd hx hb dL_law_235 ?_
            obtain ⟨g24, hE⟩ := gd_el hE
            refine va_sld hx hb hX hbl hbA hH.2.1 g24 dL_law_236 ?_
            refine lv_aload_n hx hb dL_law_237 rfl (lv_at hl 3 rfl) ?_
            refine lv_iload_n hx hb dL_law_238 rfl (lv_at hl 0 rfl) ?_
            refine lv_iconst (v := 3) hx hb dL_law_239 (by decide) ?_
            refine lv_iadd hx hb dL_law_240 ?_
            obtain ⟨g25, hE⟩ := gd_el hE
            refine va_sld hx hb hX hbl hbA hH.2.1 g25 dL_law_241 ?_
            refine lv_aload_n hx hb dL_law_242 rfl (lv_at hl 3 rfl) ?_
            refine lv_iload_n hx hb dL_law_243 rfl (lv_at hl 0 rfl) ?_
            refine lv_iconst (v := 4) hx hb dL_law_244 (by decide) ?_
            refine lv_iadd hx hb dL_law_245 ?_
            obtain ⟨g26, hE⟩ := gd_el hE
            refine va_sld hx hb hX hbl hbA hH.2.1 g26 dL_law_246 ?_
            obtain ⟨U27, eU27, hE⟩ := lt_el hE
            obtain ⟨V28, eV28, hE⟩ := lt_el hE
            refine rg_callWV (As := [.int (xs (s1.1 + ((1 : Int32))).toNatClampNeg), .int (xs (s1.1 + ((2 : Int32))).toNatClampNeg), .int (xs (s1.1 + ((3 : Int32))).toNatClampNeg), .int (xs (s1.1 + ((4 : Int32))).toNatClampNeg)]) (rest := []) F hH (fun q h1 _ => h1) 0 sb_LL_0_LA (mX6_gate l X (b + 0) (gv s1.2 0) (xs (s1.1 + ((1 : Int32))).toNatClampNeg) (xs (s1.1 + ((2 : Int32))).toNatClampNeg) (xs (s1.1 + ((3 : Int32))).toNatClampNeg) (xs (s1.1 + ((4 : Int32))).toNatClampNeg) U27 eU27) (cwV 4 F.1.2.2.2.2 gL_law_X6_gate rfl rfl rfl hvX6_gate ⟨Nat.le_of_ble_eq_true rfl, Nat.le_of_ble_eq_true rfl⟩) (rp_recv F hH.1 0 rfl (C := RX6) (T := TX6) (N := 9) rfl rfl) (hH.1.sub 0 sb_LL_0_LA) rfl hl.1 (Nat.le_of_ble_eq_true rfl) dL_law_247 ⟨Nat.le_refl _, Nat.le_refl _⟩ rfl eV28 (fun H locs hH hfr => ?_)
            refine lv_aload_n hx hb dL_law_250 rfl (lv_at hl 1 rfl) ?_
            refine lv_aload_n hx hb dL_law_251 rfl (lv_at hl 3 rfl) ?_
            refine lv_iload_n hx hb dL_law_252 rfl (lv_at hl 0 rfl) ?_
            refine lv_iconst (v := 1) hx hb dL_law_253 (by decide) ?_
            refine lv_iadd hx hb dL_law_254 ?_
            refine va_sld hx hb hX hbl hbA hH.2.1 g23 dL_law_255 ?_
            refine lv_aload_n hx hb dL_law_256 rfl (lv_at hl 3 rfl) ?_
            refine lv_iload_n hx hb dL_law_257 rfl (lv_at hl 0 rfl) ?_
            refine lv_iconst (v := 2) hx hb dL_law_258 (by decide) ?_
            refine lv_iadd hx hb dL_law_259 ?_
            refine va_sld hx hb hX hbl hbA hH.2.1 g24 dL_law_260 ?_
            refine lv_aload_n hx hb dL_law_261 rfl (lv_at hl 3 rfl) ?_
            refine lv_iload_n hx hb dL_law_262 rfl (lv_at hl 0 rfl) ?_
            refine lv_iconst (v := 3) hx hb dL_law_263 (by decide) ?_
            refine lv_iadd hx hb dL_law_264 ?_
            refine va_sld hx hb hX hbl hbA hH.2.1 g25 dL_law_265 ?_
            refine lv_aload_n hx hb dL_law_266 rfl (lv_at hl 3 rfl) ?_
            refine lv_iload_n hx hb dL_law_267 rfl (lv_at hl 0 rfl) ?_
            refine lv_iconst (v := 4) hx hb dL_law_268 (by decide) ?_
            refine lv_iadd hx hb dL_law_269 ?_
            refine va_sld hx hb hX hbl hbA hH.2.1 g26 dL_law_270 ?_
            obtain ⟨U29, eU29, hE⟩ := bd_el hE
            obtain ⟨V30, eV30, hE⟩ := lt_el hE
            refine rg_callWV (As := [.int (xs (s1.1 + ((1 : Int32))).toNatClampNeg), .int (xs (s1.1 + ((2 : Int32))).toNatClampNeg), .int (xs (s1.1 + ((3 : Int32))).toNatClampNeg), .int (xs (s1.1 + ((4 : Int32))).toNatClampNeg)]) (rest := [.int U27.1]) F hH (fun q h1 _ => h1) 430 sb_LL_430_LM (mX7_gate l X (b + 430) (gv V28 430) (xs (s1.1 + ((1 : Int32))).toNatClampNeg) (xs (s1.1 + ((2 : Int32))).toNatClampNeg) (xs (s1.1 + ((3 : Int32))).toNatClampNeg) (xs (s1.1 + ((4 : Int32))).toNatClampNeg) U29 eU29) (cwV 4 F.1.2.2.2.2 gL_law_X7_gate rfl rfl rfl hvX7_gate ⟨Nat.le_of_ble_eq_true rfl, Nat.le_of_ble_eq_true rfl⟩) (rp_recv F hH.1 430 rfl (C := RX7) (T := TX7) (N := 8) rfl rfl) (hH.1.sub 430 sb_LL_430_LM) rfl hl.1 (Nat.le_of_ble_eq_true rfl) dL_law_271 ⟨Nat.le_refl _, Nat.le_refl _⟩ rfl eV30 (fun H locs hH hfr => ?_)
            refine lv_icmp_eq (tgt := 835) hx hb dL_law_274 (by decide) (fun c31 => ?_) (fun c31 => ?_)
            · have hE := (if_pos c31).symm.trans hE
              refine lv_iinc (v := s1.1 + 5) (lv' := [(3, .int (s1.1 + 5)), (2, .ref (b + 430)), (1, .ref b), (0, .ref sb)]) hx hb dL_law_835 hl (k := 0) rfl (congrArg (fun q => s1.1 + q) (by decide)) (by decide) rfl (fun ls hl => ?_)
              refine lv_goto (tgt := 18) hx hb dL_law_838 (by decide) ?_
              cases hE
              exact hL9 _ rfl H locs ls hH (lv_sub hl [0, 1, 2, 3] rfl)
            · have hE := (if_neg c31).symm.trans hE
              refine lv_iconst (v := 0) hx hb dL_law_277 (by decide) ?_
              cases hE
              have hE := (hR9 _ rfl).1 _ rfl
              subst hE
              exact absurd ho (by decide)
          · have hE := (if_neg c22).symm.trans hE
            by_cases c32 : (xs s1.1.toNatClampNeg) &&& ((31 : Int32)) = 3
            · have hE := (if_pos c32).symm.trans hE
              refine lv_tableIn (off := 247) (tgt := 279) hx hb dL_law_32 (by rw [c32]; decide) (by rw [c32]; decide) (by rw [c32]; rfl) (by decide) ?_
              refine lv_aload_n hx hb dL_law_279 rfl (lv_at hl 2 rfl) ?_
              refine lv_aload_n hx hb dL_law_280 rfl (lv_at hl 3 rfl) ?_
              refine lv_iload_n hx hb dL_law_281 rfl (lv_at hl 0 rfl) ?_
              refine lv_iconst (v := 1) hx hb dL_law_282 (by decide) ?_
              refine lv_iadd hx hb dL_law_283 ?_
              obtain ⟨g33, hE⟩ := gd_el hE
              refine va_sld hx hb hX hbl hbA hH.2.1 g33 dL_law_284 ?_
              refine lv_aload_n hx hb dL_law_285 rfl (lv_at hl 3 rfl) ?_
              refine lv_iload_n hx hb dL_law_286 rfl (lv_at hl 0 rfl) ?_
              refine lv_iconst (v := 2) hx hb dL_law_287 (by decide) ?_
              refine lv_iadd hx hb dL_law_288 ?_
              obtain ⟨g34, hE⟩ := gd_el hE
              refine va_sld hx hb hX hbl hbA hH.2.1 g34 dL_law_289 ?_
              refine lv_if_eq (tgt := 297) hx hb dL_law_290 (by decide) (fun c35 => ?_) (fun c35 => ?_)
              · have hE := (if_pos c35).symm.trans hE
                refine lv_iconst (v := 0) hx hb dL_law_297 (by decide) ?_
                obtain ⟨U36, eU36, hE⟩ := lt_el hE
                obtain ⟨V37, eV37, hE⟩ := lt_el hE
                refine rg_callWV (As := [.int (xs (s1.1 + ((1 : Int32))).toNatClampNeg), .int ((0 : Int32))]) (rest := []) F hH (fun q h1 _ => h1) 0 sb_LL_0_LA (mX6_shut l X (b + 0) (gv s1.2 0) (xs (s1.1 + ((1 : Int32))).toNatClampNeg) ((0 : Int32)) U36 eU36) (cwV 2 F.1.2.2.2.2 gL_law_X6_shut rfl rfl rfl hvX6_shut ⟨Nat.le_of_ble_eq_true rfl, Nat.le_of_ble_eq_true rfl⟩) (rp_recv F hH.1 0 rfl (C := RX6) (T := TX6) (N := 9) rfl rfl) (hH.1.sub 0 sb_LL_0_LA) rfl hl.1 (Nat.le_of_ble_eq_true rfl) dL_law_298 ⟨Nat.le_refl _, Nat.le_refl _⟩ rfl eV37 (fun H locs hH hfr => ?_)
                refine lv_aload_n hx hb dL_law_301 rfl (lv_at hl 1 rfl) ?_
                refine lv_aload_n hx hb dL_law_302 rfl (lv_at hl 3 rfl) ?_
                refine lv_iload_n hx hb dL_law_303 rfl (lv_at hl 0 rfl) ?_
                refine lv_iconst (v := 1) hx hb dL_law_304 (by decide) ?_
                refine lv_iadd hx hb dL_law_305 ?_
                refine va_sld hx hb hX hbl hbA hH.2.1 g33 dL_law_306 ?_
                refine lv_aload_n hx hb dL_law_307 rfl (lv_at hl 3 rfl) ?_
                refine lv_iload_n hx hb dL_law_308 rfl (lv_at hl 0 rfl) ?_
                refine lv_iconst (v := 2) hx hb dL_law_309 (by decide) ?_
                refine lv_iadd hx hb dL_law_310 ?_
                refine va_sld hx hb hX hbl hbA hH.2.1 g34 dL_law_311 ?_
                refine lv_if_eq (tgt := 319) hx hb dL_law_312 (by decide) (fun _ => ?_) (fun c => absurd c35 c)
                refine lv_iconst (v := 0) hx hb dL_law_319 (by decide) ?_
                obtain ⟨U38, eU38, hE⟩ := bd_el hE
                obtain ⟨V39, eV39, hE⟩ := lt_el hE
                refine rg_callWV (As := [.int (xs (s1.1 + ((1 : Int32))).toNatClampNeg), .int ((0 : Int32))]) (rest := [.int U36.1]) F hH (fun q h1 _ => h1) 430 sb_LL_430_LM (mX7_shut l X (b + 430) (gv V37 430) (xs (s1.1 + ((1 : Int32))).toNatClampNeg) ((0 : Int32)) U38 eU38) (cwV 2 F.1.2.2.2.2 gL_law_X7_shut rfl rfl rfl hvX7_shut ⟨Nat.le_of_ble_eq_true rfl, Nat.le_of_ble_eq_true rfl⟩) (rp_recv F hH.1 430 rfl (C := RX7) (T := TX7) (N := 8) rfl rfl) (hH.1.sub 430 sb_LL_430_LM) rfl hl.1 (Nat.le_of_ble_eq_true rfl) dL_law_320 ⟨Nat.le_refl _, Nat.le_refl _⟩ rfl eV39 (fun H locs hH hfr => ?_)
                refine lv_icmp_eq (tgt := 835) hx hb dL_law_323 (by decide) (fun c40 => ?_) (fun c40 => ?_)
                · have hE := (if_pos c40).symm.trans hE
                  refine lv_iinc (v := s1.1 + 5) (lv' := [(3, .int (s1.1 + 5)), (2, .ref (b + 430)), (1, .ref b), (0, .ref sb)]) hx hb dL_law_835 hl (k := 0) rfl (congrArg (fun q => s1.1 + q) (by decide)) (by decide) rfl (fun ls hl => ?_)
                  refine lv_goto (tgt := 18) hx hb dL_law_838 (by decide) ?_
                  cases hE
                  exact hL9 _ rfl H locs ls hH (lv_sub hl [0, 1, 2, 3] rfl)
                · have hE := (if_neg c40).symm.trans hE
                  refine lv_iconst (v := 0) hx hb dL_law_326 (by decide) ?_
                  cases hE
                  have hE := (hR9 _ rfl).1 _ rfl
                  subst hE
                  exact absurd ho (by decide)
              · have hE := (if_neg c35).symm.trans hE
                refine lv_iconst (v := 1) hx hb dL_law_293 (by decide) ?_
                refine lv_goto (tgt := 298) hx hb dL_law_294 (by decide) ?_
                obtain ⟨U41, eU41, hE⟩ := lt_el hE
                obtain ⟨V42, eV42, hE⟩ := lt_el hE
                refine rg_callWV (As := [.int (xs (s1.1 + ((1 : Int32))).toNatClampNeg), .int ((1 : Int32))]) (rest := []) F hH (fun q h1 _ => h1) 0 sb_LL_0_LA (mX6_shut l X (b + 0) (gv s1.2 0) (xs (s1.1 + ((1 : Int32))).toNatClampNeg) ((1 : Int32)) U41 eU41) (cwV 2 F.1.2.2.2.2 gL_law_X6_shut rfl rfl rfl hvX6_shut ⟨Nat.le_of_ble_eq_true rfl, Nat.le_of_ble_eq_true rfl⟩) (rp_recv F hH.1 0 rfl (C := RX6) (T := TX6) (N := 9) rfl rfl) (hH.1.sub 0 sb_LL_0_LA) rfl hl.1 (Nat.le_of_ble_eq_true rfl) dL_law_298 ⟨Nat.le_refl _, Nat.le_refl _⟩ rfl eV42 (fun H locs hH hfr => ?_)
                refine lv_aload_n hx hb dL_law_301 rfl (lv_at hl 1 rfl) ?_
                refine lv_aload_n hx hb dL_law_302 rfl (lv_at hl 3 rfl) ?_
                refine lv_iload_n hx hb dL_law_303 rfl (lv_at hl 0 rfl) ?_
                refine lv_iconst (v := 1) hx hb dL_law_304 (by decide) ?_
                refine lv_iadd hx hb dL_law_305 ?_
                refine va_sld hx hb hX hbl hbA hH.2.1 g33 dL_law_306 ?_
                refine lv_aload_n hx hb dL_law_307 rfl (lv_at hl 3 rfl) ?_
                refine lv_iload_n hx hb dL_law_308 rfl (lv_at hl 0 rfl) ?_
                refine lv_iconst (v := 2) hx hb dL_law_309 (by decide) ?_
                refine lv_iadd hx hb dL_law_310 ?_
                refine va_sld hx hb hX hbl hbA hH.2.1 g34 dL_law_311 ?_
                refine lv_if_eq (tgt := 319) hx hb dL_law_312 (by decide) (fun c => absurd c c35) (fun _ => ?_)
                refine lv_iconst (v := 1) hx hb dL_law_315 (by decide) ?_
                refine lv_goto (tgt := 320) hx hb dL_law_316 (by decide) ?_
                obtain ⟨U43, eU43, hE⟩ := bd_el hE
                obtain ⟨V44, eV44, hE⟩ := lt_el hE
                refine rg_callWV (As := [.int (xs (s1.1 + ((1 : Int32))).toNatClampNeg), .int ((1 : Int32))]) (rest := [.int U41.1]) F hH (fun q h1 _ => h1) 430 sb_LL_430_LM (mX7_shut l X (b + 430) (gv V42 430) (xs (s1.1 + ((1 : Int32))).toNatClampNeg) ((1 : Int32)) U43 eU43) (cwV 2 F.1.2.2.2.2 gL_law_X7_shut rfl rfl rfl hvX7_shut ⟨Nat.le_of_ble_eq_true rfl, Nat.le_of_ble_eq_true rfl⟩) (rp_recv F hH.1 430 rfl (C := RX7) (T := TX7) (N := 8) rfl rfl) (hH.1.sub 430 sb_LL_430_LM) rfl hl.1 (Nat.le_of_ble_eq_true rfl) dL_law_320 ⟨Nat.le_refl _, Nat.le_refl _⟩ rfl eV44 (fun H locs hH hfr => ?_)
                refine lv_icmp_eq (tgt := 835) hx hb dL_law_323 (by decide) (fun c45 => ?_) (fun c45 => ?_)
                · have hE := (if_pos c45).symm.trans hE
                  refine lv_iinc (v := s1.1 + 5) (lv' := [(3, .int (s1.1 + 5)), (2, .ref (b + 430)), (1, .ref b), (0, .ref sb)]) hx hb dL_law_835 hl (k := 0) rfl (congrArg (fun q => s1.1 + q) (by decide)) (by decide) rfl (fun ls hl => ?_)
                  refine lv_goto (tgt := 18) hx hb dL_law_838 (by decide) ?_
                  cases hE
                  exact hL9 _ rfl H locs ls hH (lv_sub hl [0, 1, 2, 3] rfl)
                · have hE := (if_neg c45).symm.trans hE
                  refine lv_iconst (v := 0) hx hb dL_law_326 (by decide) ?_
                  cases hE
                  have hE := (hR9 _ rfl).1 _ rfl
                  subst hE
                  exact absurd ho (by decide)
            · have hE := (if_neg c32).symm.trans hE
              by_cases c46 : (xs s1.1.toNatClampNeg) &&& ((31 : Int32)) = 4
              · have hE := (if_pos c46).symm.trans hE
                refine lv_tableIn (off := 296) (tgt := 328) hx hb dL_law_32 (by rw [c46]; decide) (by rw [c46]; decide) (by rw [c46]; rfl) (by decide) ?_
                refine lv_aload_n hx hb dL_law_328 rfl (lv_at hl 2 rfl) ?_
                refine lv_aload_n hx hb dL_law_329 rfl (lv_at hl 3 rfl) ?_
                refine lv_iload_n hx hb dL_law_330 rfl (lv_at hl 0 rfl) ?_
                refine lv_iconst (v := 1) hx hb dL_law_331 (by decide) ?_
                refine lv_iadd hx hb dL_law_332 ?_
                obtain ⟨g47, hE⟩ := gd_el hE
                refine va_sld hx hb hX hbl hbA hH.2.1 g47 dL_law_333 ?_
                obtain ⟨U48, eU48, hE⟩ := lt_el hE
                obtain ⟨V49, eV49, hE⟩ := lt_el hE
                refine rg_callWV (As := [.int (xs (s1.1 + ((1 : Int32))).toNatClampNeg)]) (rest := []) F hH (fun q h1 _ => h1) 0 sb_LL_0_LA (mX6_put l X (b + 0) (gv s1.2 0) (xs (s1.1 + ((1 : Int32))).toNatClampNeg) U48 eU48) (cwV 1 F.1.2.2.2.2 gL_law_X6_put rfl rfl rfl hvX6_put ⟨Nat.le_of_ble_eq_true rfl, Nat.le_of_ble_eq_true rfl⟩) (rp_recv F hH.1 0 rfl (C := RX6) (T := TX6) (N := 9) rfl rfl) (hH.1.sub 0 sb_LL_0_LA) rfl hl.1 (Nat.le_of_ble_eq_true rfl) dL_law_334 ⟨Nat.le_refl _, Nat.le_refl _⟩ rfl eV49 (fun H locs hH hfr => ?_)
                refine lv_aload_n hx hb dL_law_337 rfl (lv_at hl 1 rfl) ?_
                refine lv_aload_n hx hb dL_law_338 rfl (lv_at hl 3 rfl) ?_
                refine lv_iload_n hx hb dL_law_339 rfl (lv_at hl 0 rfl) ?_
                refine lv_iconst (v := 1) hx hb dL_law_340 (by decide) ?_
                refine lv_iadd hx hb dL_law_341 ?_
                refine va_sld hx hb hX hbl hbA hH.2.1 g47 dL_law_342 ?_
                obtain ⟨U50, eU50, hE⟩ := bd_el hE
                obtain ⟨V51, eV51, hE⟩ := lt_el hE
                refine rg_callWV (As := [.int (xs (s1.1 + ((1 : Int32))).toNatClampNeg)]) (rest := [.int U48.1]) F hH (fun q h1 _ => h1) 430 sb_LL_430_LM (mX7_put l X (b + 430) (gv V49 430) (xs (s1.1 + ((1 : Int32))).toNatClampNeg) U50 eU50) (cwV 1 F.1.2.2.2.2 gL_law_X7_put rfl rfl rfl hvX7_put ⟨Nat.le_of_ble_eq_true rfl, Nat.le_of_ble_eq_true rfl⟩) (rp_recv F hH.1 430 rfl (C := RX7) (T := TX7) (N := 8) rfl rfl) (hH.1.sub 430 sb_LL_430_LM) rfl hl.1 (Nat.le_of_ble_eq_true rfl) dL_law_343 ⟨Nat.le_refl _, Nat.le_refl _⟩ rfl eV51 (fun H locs hH hfr => ?_)
                refine lv_icmp_eq (tgt := 835) hx hb dL_law_346 (by decide) (fun c52 => ?_) (fun c52 => ?_)
                · have hE := (if_pos c52).symm.trans hE
                  refine lv_iinc (v := s1.1 + 5) (lv' := [(3, .int (s1.1 + 5)), (2, .ref (b + 430)), (1, .ref b), (0, .ref sb)]) hx hb dL_law_835 hl (k := 0) rfl (congrArg (fun q => s1.1 + q) (by decide)) (by decide) rfl (fun ls hl => ?_)
                  refine lv_goto (tgt := 18) hx hb dL_law_838 (by decide) ?_
                  cases hE
                  exact hL9 _ rfl H locs ls hH (lv_sub hl [0, 1, 2, 3] rfl)
                · have hE := (if_neg c52).symm.trans hE
                  refine lv_iconst (v := 0) hx hb dL_law_349 (by decide) ?_
                  cases hE
                  have hE := (hR9 _ rfl).1 _ rfl
                  subst hE
                  exact absurd ho (by decide)
              · have hE := (if_neg c46).symm.trans hE
                by_cases c53 : (xs s1.1.toNatClampNeg) &&& ((31 : Int32)) = 5
                · have hE := (if_pos c53).symm.trans hE
                  refine lv_tableIn (off := 319) (tgt := 351) hx hb dL_law_32 (by rw [c53]; decide) (by rw [c53]; decide) (by rw [c53]; rfl) (by decide) ?_
                  refine lv_aload_n hx hb dL_law_351 rfl (lv_at hl 2 rfl) ?_
                  refine lv_aload_n hx hb dL_law_352 rfl (lv_at hl 3 rfl) ?_
                  refine lv_iload_n hx hb dL_law_353 rfl (lv_at hl 0 rfl) ?_
                  refine lv_iconst (v := 1) hx hb dL_law_354 (by decide) ?_
                  refine lv_iadd hx hb dL_law_355 ?_
                  obtain ⟨g54, hE⟩ := gd_el hE
                  refine va_sld hx hb hX hbl hbA hH.2.1 g54 dL_law_356 ?_
                  obtain ⟨U55, eU55, hE⟩ := lt_el hE
                  obtain ⟨V56, eV56, hE⟩ := lt_el hE
                  refine rg_callWV (As := [.int (xs (s1.1 + ((1 : Int32))).toNatClampNeg)]) (rest := []) F hH (fun q h1 _ => h1) 0 sb_LL_0_LA (mX6_run l X (b + 0) (gv s1.2 0) (xs (s1.1 + ((1 : Int32))).toNatClampNeg) U55 eU55) (cwV 1 F.1.2.2.2.2 gL_law_X6_run rfl rfl rfl hvX6_run ⟨Nat.le_of_ble_eq_true rfl, Nat.le_of_ble_eq_true rfl⟩) (rp_recv F hH.1 0 rfl (C := RX6) (T := TX6) (N := 9) rfl rfl) (hH.1.sub 0 sb_LL_0_LA) rfl hl.1 (Nat.le_of_ble_eq_true rfl) dL_law_357 ⟨Nat.le_refl _, Nat.le_refl _⟩ rfl eV56 (fun H locs hH hfr => ?_)
                  refine lv_aload_n hx hb dL_law_360 rfl (lv_at hl 1 rfl) ?_
                  refine lv_aload_n hx hb dL_law_361 rfl (lv_at hl 3 rfl) ?_
                  refine lv_iload_n hx hb dL_law_362 rfl (lv_at hl 0 rfl) ?_
                  refine lv_iconst (v := 1) hx hb dL_law_363 (by decide) ?_
                  refine lv_iadd hx hb dL_law_364 ?_
                  refine va_sld hx hb hX hbl hbA hH.2.1 g54 dL_law_365 ?_
                  obtain ⟨U57, eU57, hE⟩ := bd_el hE
                  obtain ⟨V58, eV58, hE⟩ := lt_el hE
                  refine rg_callWV (As := [.int (xs (s1.1 + ((1 : Int32))).toNatClampNeg)]) (rest := [.int U55.1]) F hH (fun q h1 _ => h1) 430 sb_LL_430_LM (mX7_run l X (b + 430) (gv V56 430) (xs (s1.1 + ((1 : Int32))).toNatClampNeg) U57 eU57) (cwV 1 F.1.2.2.2.2 gL_law_X7_run rfl rfl rfl hvX7_run ⟨Nat.le_of_ble_eq_true rfl, Nat.le_of_ble_eq_true rfl⟩) (rp_recv F hH.1 430 rfl (C := RX7) (T := TX7) (N := 8) rfl rfl) (hH.1.sub 430 sb_LL_430_LM) rfl hl.1 (Nat.le_of_ble_eq_true rfl) dL_law_366 ⟨Nat.le_refl _, Nat.le_refl _⟩ rfl eV58 (fun H locs hH hfr => ?_)
                  refine lv_icmp_eq (tgt := 835) hx hb dL_law_369 (by decide) (fun c59 => ?_) (fun c59 => ?_)
                  · have hE := (if_pos c59).symm.trans hE
                    refine lv_iinc (v := s1.1 + 5) (lv' := [(3, .int (s1.1 + 5)), (2, .ref (b + 430)), (1, .ref b), (0, .ref sb)]) hx hb dL_law_835 hl (k := 0) rfl (congrArg (fun q => s1.1 + q) (by decide)) (by decide) rfl (fun ls hl => ?_)
                    refine lv_goto (tgt := 18) hx hb dL_law_838 (by decide) ?_
                    cases hE
                    exact hL9 _ rfl H locs ls hH (lv_sub hl [0, 1, 2, 3] rfl)
                  · have hE := (if_neg c59).symm.trans hE
                    refine lv_iconst (v := 0) hx hb dL_law_372 (by decide) ?_
                    cases hE
                    have hE := (hR9 _ rfl).1 _ rfl
                    subst hE
                    exact absurd ho (by decide)
                · have hE := (if_neg c53).symm.trans hE
                  by_cases c60 : (xs s1.1.toNatClampNeg) &&& ((31 : Int32)) = 6
                  · have hE := (if_pos c60).symm.trans hE
                    refine lv_tableIn (off := 342) (tgt := 374) hx hb dL_law_32 (by rw [c60]; decide) (by rw [c60]; decide) (by rw [c60]; rfl) (by decide) ?_
                    refine lv_aload_n hx hb dL_law_374 rfl (lv_at hl 2 rfl) ?_
                    refine lv_aload_n hx hb dL_law_375 rfl (lv_at hl 3 rfl) ?_
                    refine lv_iload_n hx hb dL_law_376 rfl (lv_at hl 0 rfl) ?_
                    refine lv_iconst (v := 1) hx hb dL_law_377 (by decide) ?_
                    refine lv_iadd hx hb dL_law_378 ?_
                    obtain ⟨g61, hE⟩ := gd_el hE
                    refine va_sld hx hb hX hbl hbA hH.2.1 g61 dL_law_379 ?_
                    refine lv_aload_n hx hb dL_law_380 rfl (lv_at hl 3 rfl) ?_
                    refine lv_iload_n hx hb dL_law_381 rfl (lv_at hl 0 rfl) ?_
                    refine lv_iconst (v := 2) hx hb dL_law_382 (by decide) ?_
                    refine lv_iadd hx hb dL_law_383 ?_
                    obtain ⟨g62, hE⟩ := gd_el hE
                    refine va_sld hx hb hX hbl hbA hH.2.1 g62 dL_law_384 ?_
                    obtain ⟨r63, er63, hE⟩ := lt_el hE
                    refine rg_callRV (As := [.int (xs (s1.1 + ((1 : Int32))).toNatClampNeg), .int (xs (s1.1 + ((2 : Int32))).toNatClampNeg)]) (rest := []) F (mX6_store l X (b + 0) (gv s1.2 0) (xs (s1.1 + ((1 : Int32))).toNatClampNeg) (xs (s1.1 + ((2 : Int32))).toNatClampNeg) r63 er63) (cwV 2 F.1.2.2.2.2 gL_law_X6_store rfl rfl rfl hvX6_store ⟨Nat.le_of_ble_eq_true rfl, Nat.le_of_ble_eq_true rfl⟩) (rp_recv F hH.1 0 rfl (C := RX6) (T := TX6) (N := 9) rfl rfl) (hH.1.sub 0 sb_LL_0_LA) rfl hl.1 (Nat.le_of_ble_eq_true rfl) dL_law_385 ⟨Nat.le_refl _, Nat.le_refl _⟩ rfl ?_
                    refine lv_aload_n hx hb dL_law_388 rfl (lv_at hl 1 rfl) ?_
                    refine lv_aload_n hx hb dL_law_389 rfl (lv_at hl 3 rfl) ?_
                    refine lv_iload_n hx hb dL_law_390 rfl (lv_at hl 0 rfl) ?_
                    refine lv_iconst (v := 1) hx hb dL_law_391 (by decide) ?_
                    refine lv_iadd hx hb dL_law_392 ?_
                    refine va_sld hx hb hX hbl hbA hH.2.1 g61 dL_law_393 ?_
                    refine lv_aload_n hx hb dL_law_394 rfl (lv_at hl 3 rfl) ?_
                    refine lv_iload_n hx hb dL_law_395 rfl (lv_at hl 0 rfl) ?_
                    refine lv_iconst (v := 2) hx hb dL_law_396 (by decide) ?_
                    refine lv_iadd hx hb dL_law_397 ?_
                    refine va_sld hx hb hX hbl hbA hH.2.1 g62 dL_law_398 ?_
                    obtain ⟨r64, er64, hE⟩ := bd_el hE
                    refine rg_callRV (As := [.int (xs (s1.1 + ((1 : Int32))).toNatClampNeg), .int (xs (s1.1 + ((2 : Int32))).toNatClampNeg)]) (rest := [.int r63]) F (mX7_store l X (b + 430) (gv s1.2 430) (xs (s1.1 + ((1 : Int32))).toNatClampNeg) (xs (s1.1 + ((2 : Int32))).toNatClampNeg) r64 er64) (cwV 2 F.1.2.2.2.2 gL_law_X7_store rfl rfl rfl hvX7_store ⟨Nat.le_of_ble_eq_true rfl, Nat.le_of_ble_eq_true rfl⟩) (rp_recv F hH.1 430 rfl (C := RX7) (T := TX7) (N := 8) rfl rfl) (hH.1.sub 430 sb_LL_430_LM) rfl hl.1 (Nat.le_of_ble_eq_true rfl) dL_law_399 ⟨Nat.le_refl _, Nat.le_refl _⟩ rfl ?_
                    refine lv_icmp_eq (tgt := 835) hx hb dL_law_402 (by decide) (fun c65 => ?_) (fun c65 => ?_)
                    · have hE := (if_pos c65).symm.trans hE
                      refine lv_iinc (v := s1.1 + 5) (lv' := [(3, .int (s1.1 + 5)), (2, .ref (b + 430)), (1, .ref b), (0, .ref sb)]) hx hb dL_law_835 hl (k := 0) rfl (congrArg (fun q => s1.1 + q) (by decide)) (by decide) rfl (fun ls hl => ?_)
                      refine lv_goto (tgt := 18) hx hb dL_law_838 (by decide) ?_
                      cases hE
                      exact hL9 _ rfl H locs ls hH (lv_sub hl [0, 1, 2, 3] rfl)
                    · have hE := (if_neg c65).symm.trans hE
                      refine lv_iconst (v := 0) hx hb dL_law_405 (by decide) ?_
                      cases hE
                      have hE := (hR9 _ rfl).1 _ rfl
                      subst hE
                      exact absurd ho (by decide)
                  · have hE := (if_neg c60).symm.trans hE
                    by_cases c66 : (xs s1.1.toNatClampNeg) &&& ((31 : Int32)) = 7
                    · have hE := (if_pos c66).symm.trans hE
                      refine lv_tableIn (off := 375) (tgt := 407) hx hb dL_law_32 (by rw [c66]; decide) (by rw [c66]; decide) (by rw [c66]; rfl) (by decide) ?_
                      refine lv_aload_n hx hb dL_law_407 rfl (lv_at hl 2 rfl) ?_
                      refine lv_aload_n hx hb dL_law_408 rfl (lv_at hl 3 rfl) ?_
                      refine lv_iload_n hx hb dL_law_409 rfl (lv_at hl 0 rfl) ?_
                      refine lv_iconst (v := 1) hx hb dL_law_410 (by decide) ?_
                      refine lv_iadd hx hb dL_law_411 ?_
                      obtain ⟨g67, hE⟩ := gd_el hE
                      refine va_sld hx hb hX hbl hbA hH.2.1 g67 dL_law_412 ?_
                      refine lv_aload_n hx hb dL_law_413 rfl (lv_at hl 3 rfl) ?_
                      refine lv_iload_n hx hb dL_law_414 rfl (lv_at hl 0 rfl) ?_
                      refine lv_iconst (v := 2) hx hb dL_law_415 (by decide) ?_
                      refine lv_iadd hx hb dL_law_416 ?_
                      obtain ⟨g68, hE⟩ := gd_el hE
                      refine va_sld hx hb hX hbl hbA hH.2.1 g68 dL_law_417 ?_
                      obtain ⟨r69, er69, hE⟩ := lt_el hE
                      refine rg_callRV (As := [.int (xs (s1.1 + ((1 : Int32))).toNatClampNeg), .int (xs (s1.1 + ((2 : Int32))).toNatClampNeg)]) (rest := []) F (mX6_gateOf l X (b + 0) (gv s1.2 0) (xs (s1.1 + ((1 : Int32))).toNatClampNeg) (xs (s1.1 + ((2 : Int32))).toNatClampNeg) r69 er69) (cwV 2 F.1.2.2.2.2 gL_law_X6_gateOf rfl rfl rfl hvX6_gateOf ⟨Nat.le_of_ble_eq_true rfl, Nat.le_of_ble_eq_true rfl⟩) (rp_recv F hH.1 0 rfl (C := RX6) (T := TX6) (N := 9) rfl rfl) (hH.1.sub 0 sb_LL_0_LA) rfl hl.1 (Nat.le_of_ble_eq_true rfl) dL_law_418 ⟨Nat.le_refl _, Nat.le_refl _⟩ rfl ?_
                      refine lv_aload_n hx hb dL_law_421 rfl (lv_at hl 1 rfl) ?_
                      refine lv_aload_n hx hb dL_law_422 rfl (lv_at hl 3 rfl) ?_
                      refine lv_iload_n hx hb dL_law_423 rfl (lv_at hl 0 rfl) ?_
                      refine lv_iconst (v := 1) hx hb dL_law_424 (by decide) ?_
                      refine lv_iadd hx hb dL_law_425 ?_
                      refine va_sld hx hb hX hbl hbA hH.2.1 g67 dL_law_426 ?_
                      refine lv_aload_n hx hb dL_law_427 rfl (lv_at hl 3 rfl) ?_
                      refine lv_iload_n hx hb dL_law_428 rfl (lv_at hl 0 rfl) ?_
                      refine lv_iconst (v := 2) hx hb dL_law_429 (by decide) ?_
                      refine lv_iadd hx hb dL_law_430 ?_
                      refine va_sld hx hb hX hbl hbA hH.2.1 g68 dL_law_431 ?_
                      obtain ⟨r70, er70, hE⟩ := bd_el hE
                      refine rg_callRV (As := [.int (xs (s1.1 + ((1 : Int32))).toNatClampNeg), .int (xs (s1.1 + ((2 : Int32))).toNatClampNeg)]) (rest := [.int r69]) F (mX7_gateOf l X (b + 430) (gv s1.2 430) (xs (s1.1 + ((1 : Int32))).toNatClampNeg) (xs (s1.1 + ((2 : Int32))).toNatClampNeg) r70 er70) (cwV 2 F.1.2.2.2.2 gL_law_X7_gateOf rfl rfl rfl hvX7_gateOf ⟨Nat.le_of_ble_eq_true rfl, Nat.le_of_ble_eq_true rfl⟩) (rp_recv F hH.1 430 rfl (C := RX7) (T := TX7) (N := 8) rfl rfl) (hH.1.sub 430 sb_LL_430_LM) rfl hl.1 (Nat.le_of_ble_eq_true rfl) dL_law_432 ⟨Nat.le_refl _, Nat.le_refl _⟩ rfl ?_
                      refine lv_icmp_eq (tgt := 835) hx hb dL_law_435 (by decide) (fun c71 => ?_) (fun c71 => ?_)
                      · have hE := (if_pos c71).symm.trans hE
                        refine lv_iinc (v := s1.1 + 5) (lv' := [(3, .int (s1.1 + 5)), (2, .ref (b + 430)), (1, .ref b), (0, .ref sb)]) hx hb dL_law_835 hl (k := 0) rfl (congrArg (fun q => s1.1 + q) (by decide)) (by decide) rfl (fun ls hl => ?_)
                        refine lv_goto (tgt := 18) hx hb dL_law_838 (by decide) ?_
                        cases hE
                        exact hL9 _ rfl H locs ls hH (lv_sub hl [0, 1, 2, 3] rfl)
                      · have hE := (if_neg c71).symm.trans hE
                        refine lv_iconst (v := 0) hx hb dL_law_438 (by decide) ?_
                        cases hE
                        have hE := (hR9 _ rfl).1 _ rfl
                        subst hE
                        exact absurd ho (by decide)
                    · have hE := (if_neg c66).symm.trans hE
                      by_cases c72 : (xs s1.1.toNatClampNeg) &&& ((31 : Int32)) = 8
                      · have hE := (if_pos c72).symm.trans hE
                        refine lv_tableIn (off := 408) (tgt := 440) hx hb dL_law_32 (by rw [c72]; decide) (by rw [c72]; decide) (by rw [c72]; rfl) (by decide) ?_
                        refine lv_aload_n hx hb dL_law_440 rfl (lv_at hl 2 rfl) ?_
                        refine lv_aload_n hx hb dL_law_441 rfl (lv_at hl 3 rfl) ?_
                        refine lv_iload_n hx hb dL_law_442 rfl (lv_at hl 0 rfl) ?_
                        refine lv_iconst (v := 1) hx hb dL_law_443 (by decide) ?_
                        refine lv_iadd hx hb dL_law_444 ?_
                        obtain ⟨g73, hE⟩ := gd_el hE
                        refine va_sld hx hb hX hbl hbA hH.2.1 g73 dL_law_445 ?_
                        refine lv_aload_n hx hb dL_law_446 rfl (lv_at hl 3 rfl) ?_
                        refine lv_iload_n hx hb dL_law_447 rfl (lv_at hl 0 rfl) ?_
                        refine lv_iconst (v := 2) hx hb dL_law_448 (by decide) ?_
                        refine lv_iadd hx hb dL_law_449 ?_
                        obtain ⟨g74, hE⟩ := gd_el hE
                        refine va_sld hx hb hX hbl hbA hH.2.1 g74 dL_law_450 ?_
                        obtain ⟨r75, er75, hE⟩ := lt_el hE
                        refine rg_callRV (As := [.int (xs (s1.1 + ((1 : Int32))).toNatClampNeg), .int (xs (s1.1 + ((2 : Int32))).toNatClampNeg)]) (rest := []) F (mX6_word l X (b + 0) (gv s1.2 0) (xs (s1.1 + ((1 : Int32))).toNatClampNeg) (xs (s1.1 + ((2 : Int32))).toNatClampNeg) r75 er75) (cwV 2 F.1.2.2.2.2 gL_law_X6_word rfl rfl rfl hvX6_word ⟨Nat.le_of_ble_eq_true rfl, Nat.le_of_ble_eq_true rfl⟩) (rp_recv F hH.1 0 rfl (C := RX6) (T := TX6) (N := 9) rfl rfl) (hH.1.sub 0 sb_LL_0_LA) rfl hl.1 (Nat.le_of_ble_eq_true rfl) dL_law_451 ⟨Nat.le_refl _, Nat.le_refl _⟩ rfl ?_
                        refine lv_aload_n hx hb dL_law_454 rfl (lv_at hl 1 rfl) ?_
                        refine lv_aload_n hx hb dL_law_455 rfl (lv_at hl 3 rfl) ?_
                        refine lv_iload_n hx hb dL_law_456 rfl (lv_at hl 0 rfl) ?_
                        refine lv_iconst (v := 1) hx hb dL_law_457 (by decide) ?_
                        refine lv_iadd hx hb dL_law_458 ?_
                        refine va_sld hx hb hX hbl hbA hH.2.1 g73 dL_law_459 ?_
                        refine lv_aload_n hx hb dL_law_460 rfl (lv_at hl 3 rfl) ?_
                        refine lv_iload_n hx hb dL_law_461 rfl (lv_at hl 0 rfl) ?_
                        refine lv_iconst (v := 2) hx hb dL_law_462 (by decide) ?_
                        refine lv_iadd hx hb dL_law_463 ?_
                        refine va_sld hx hb hX hbl hbA hH.2.1 g74 dL_law_464 ?_
                        obtain ⟨r76, er76, hE⟩ := bd_el hE
                        refine rg_callRV (As := [.int (xs (s1.1 + ((1 : Int32))).toNatClampNeg), .int (xs (s1.1 + ((2 : Int32))).toNatClampNeg)]) (rest := [.int r75]) F (mX7_word l X (b + 430) (gv s1.2 430) (xs (s1.1 + ((1 : Int32))).toNatClampNeg) (xs (s1.1 + ((2 : Int32))).toNatClampNeg) r76 er76) (cwV 2 F.1.2.2.2.2 gL_law_X7_word rfl rfl rfl hvX7_word ⟨Nat.le_of_ble_eq_true rfl, Nat.le_of_ble_eq_true rfl⟩) (rp_recv F hH.1 430 rfl (C := RX7) (T := TX7) (N := 8) rfl rfl) (hH.1.sub 430 sb_LL_430_LM) rfl hl.1 (Nat.le_of_ble_eq_true rfl) dL_law_465 ⟨Nat.le_refl _, Nat.le_refl _⟩ rfl ?_
                        refine lv_icmp_eq (tgt := 835) hx hb dL_law_468 (by decide) (fun c77 => ?_) (fun c77 => ?_)
                        · have hE := (if_pos c77).symm.trans hE
                          refine lv_iinc (v := s1.1 + 5) (lv' := [(3, .int (s1.1 + 5)), (2, .ref (b + 430)), (1, .ref b), (0, .ref sb)]) hx hb dL_law_835 hl (k := 0) rfl (congrArg (fun q => s1.1 + q) (by decide)) (by decide) rfl (fun ls hl => ?_)
                          refine lv_goto (tgt := 18) hx hb dL_law_838 (by decide) ?_
                          cases hE
                          exact hL9 _ rfl H locs ls hH (lv_sub hl [0, 1, 2, 3] rfl)
                        · have hE := (if_neg c77).symm.trans hE
                          refine lv_iconst (v := 0) hx hb dL_law_471 (by decide) ?_
                          cases hE
                          have hE := (hR9 _ rfl).1 _ rfl
                          subst hE
                          exact absurd ho (by decide)
                      · have hE := (if_neg c72).symm.trans hE
                        by_cases c78 : (xs s1.1.toNatClampNeg) &&& ((31 : Int32)) = 9
                        · have hE := (if_pos c78).symm.trans hE
                          refine lv_tableIn (off := 441) (tgt := 473) hx hb dL_law_32 (by rw [c78]; decide) (by rw [c78]; decide) (by rw [c78]; rfl) (by decide) ?_
                          refine lv_aload_n hx hb dL_law_473 rfl (lv_at hl 2 rfl) ?_
                          refine lv_aload_n hx hb dL_law_474 rfl (lv_at hl 3 rfl) ?_
                          refine lv_iload_n hx hb dL_law_475 rfl (lv_at hl 0 rfl) ?_
                          refine lv_iconst (v := 1) hx hb dL_law_476 (by decide) ?_
                          refine lv_iadd hx hb dL_law_477 ?_
                          obtain ⟨g79, hE⟩ := gd_el hE
                          refine va_sld hx hb hX hbl hbA hH.2.1 g79 dL_law_478 ?_
                          refine lv_aload_n hx hb dL_law_479 rfl (lv_at hl 3 rfl) ?_
                          refine lv_iload_n hx hb dL_law_480 rfl (lv_at hl 0 rfl) ?_
                          refine lv_iconst (v := 2) hx hb dL_law_481 (by decide) ?_
                          refine lv_iadd hx hb dL_law_482 ?_
                          obtain ⟨g80, hE⟩ := gd_el hE
                          refine va_sld hx hb hX hbl hbA hH.2.1 g80 dL_law_483 ?_
                          obtain ⟨r81, er81, hE⟩ := lt_el hE
                          refine rg_callRV (As := [.int (xs (s1.1 + ((1 : Int32))).toNatClampNeg), .int (xs (s1.1 + ((2 : Int32))).toNatClampNeg)]) (rest := []) F (mX6_at l X (b + 0) (gv s1.2 0) (xs (s1.1 + ((1 : Int32))).toNatClampNeg) (xs (s1.1 + ((2 : Int32))).toNatClampNeg) r81 er81) (cwV 2 F.1.2.2.2.2 gL_law_X6_at rfl rfl rfl hvX6_at ⟨Nat.le_of_ble_eq_true rfl, Nat.le_of_ble_eq_true rfl⟩) (rp_recv F hH.1 0 rfl (C := RX6) (T := TX6) (N := 9) rfl rfl) (hH.1.sub 0 sb_LL_0_LA) rfl hl.1 (Nat.le_of_ble_eq_true rfl) dL_law_484 ⟨Nat.le_refl _, Nat.le_refl _⟩ rfl ?_
                          refine lv_aload_n hx hb dL_law_487 rfl (lv_at hl 1 rfl) ?_
                          refine lv_aload_n hx hb dL_law_488 rfl (lv_at hl 3 rfl) ?_
                          refine lv_iload_n hx hb dL_law_489 rfl (lv_at hl 0 rfl) ?_
                          refine lv_iconst (v := 1) hx hb dL_law_490 (by decide) ?_
                          refine lv_iadd hx hb dL_law_491 ?_
                          refine va_sld hx hb hX hbl hbA hH.2.1 g79 dL_law_492 ?_
                          refine lv_aload_n hx hb dL_law_493 rfl (lv_at hl 3 rfl) ?_
                          refine lv_iload_n hx hb dL_law_494 rfl (lv_at hl 0 rfl) ?_
                          refine lv_iconst (v := 2) hx hb dL_law_495 (by decide) ?_
                          refine lv_iadd hx hb dL_law_496 ?_
                          refine va_sld hx hb hX hbl hbA hH.2.1 g80 dL_law_497 ?_
                          obtain ⟨r82, er82, hE⟩ := bd_el hE
                          refine rg_callRV (As := [.int (xs (s1.1 + ((1 : Int32))).toNatClampNeg), .int (xs (s1.1 + ((2 : Int32))).toNatClampNeg)]) (rest := [.int r81]) F (mX7_at l X (b + 430) (gv s1.2 430) (xs (s1.1 + ((1 : Int32))).toNatClampNeg) (xs (s1.1 + ((2 : Int32))).toNatClampNeg) r82 er82) (cwV 2 F.1.2.2.2.2 gL_law_X7_at rfl rfl rfl hvX7_at ⟨Nat.le_of_ble_eq_true rfl, Nat.le_of_ble_eq_true rfl⟩) (rp_recv F hH.1 430 rfl (C := RX7) (T := TX7) (N := 8) rfl rfl) (hH.1.sub 430 sb_LL_430_LM) rfl hl.1 (Nat.le_of_ble_eq_true rfl) dL_law_498 ⟨Nat.le_refl _, Nat.le_refl _⟩ rfl ?_
                          refine lv_icmp_eq (tgt := 835) hx hb dL_law_501 (by decide) (fun c83 => ?_) (fun c83 => ?_)
                          · have hE := (if_pos c83).symm.trans hE
                            refine lv_iinc (v := s1.1 + 5) (lv' := [(3, .int (s1.1 + 5)), (2, .ref (b + 430)), (1, .ref b), (0, .ref sb)]) hx hb dL_law_835 hl (k := 0) rfl (congrArg (fun q => s1.1 + q) (by decide)) (by decide) rfl (fun ls hl => ?_)
                            refine lv_goto (tgt := 18) hx hb dL_law_838 (by decide) ?_
                            cases hE
                            exact hL9 _ rfl H locs ls hH (lv_sub hl [0, 1, 2, 3] rfl)
                          · have hE := (if_neg c83).symm.trans hE
                            refine lv_iconst (v := 0) hx hb dL_law_504 (by decide) ?_
                            cases hE
                            have hE := (hR9 _ rfl).1 _ rfl
                            subst hE
                            exact absurd ho (by decide)
                        · have hE := (if_neg c78).symm.trans hE
                          by_cases c84 : (xs s1.1.toNatClampNeg) &&& ((31 : Int32)) = 10
                          · have hE := (if_pos c84).symm.trans hE
                            refine lv_tableIn (off := 474) (tgt := 506) hx hb dL_law_32 (by rw [c84]; decide) (by rw [c84]; decide) (by rw [c84]; rfl) (by decide) ?_
                            refine lv_aload_n hx hb dL_law_506 rfl (lv_at hl 2 rfl) ?_
                            refine lv_aload_n hx hb dL_law_507 rfl (lv_at hl 3 rfl) ?_
                            refine lv_iload_n hx hb dL_law_508 rfl (lv_at hl 0 rfl) ?_
                            refine lv_iconst (v := 1) hx hb dL_law_509 (by decide) ?_
                            refine lv_iadd hx hb dL_law_510 ?_
                            obtain ⟨g85, hE⟩ := gd_el hE
                            refine va_sld hx hb hX hbl hbA hH.2.1 g85 dL_law_511 ?_
                            obtain ⟨r86, er86, hE⟩ := lt_el hE
                            refine rg_callRV (As := [.int (xs (s1.1 + ((1 : Int32))).toNatClampNeg)]) (rest := []) F (mX6_count l X (b + 0) (gv s1.2 0) (xs (s1.1 + ((1 : Int32))).toNatClampNeg) r86 er86) (cwV 1 F.1.2.2.2.2 gL_law_X6_count rfl rfl rfl hvX6_count ⟨Nat.le_of_ble_eq_true rfl, Nat.le_of_ble_eq_true rfl⟩) (rp_recv F hH.1 0 rfl (C := RX6) (T := TX6) (N := 9) rfl rfl) (hH.1.sub 0 sb_LL_0_LA) rfl hl.1 (Nat.le_of_ble_eq_true rfl) dL_law_512 ⟨Nat.le_refl _, Nat.le_refl _⟩ rfl ?_
                            refine lv_aload_n hx hb dL_law_515 rfl (lv_at hl 1 rfl) ?_
                            refine lv_aload_n hx hb dL_law_516 rfl (lv_at hl 3 rfl) ?_
                            refine lv_iload_n hx hb dL_law_517 rfl (lv_at hl 0 rfl) ?_
                            refine lv_iconst (v := 1) hx hb dL_law_518 (by decide) ?_
                            refine lv_iadd hx hb dL_law_519 ?_
                            refine va_sld hx hb hX hbl hbA hH.2.1 g85 dL_law_520 ?_
                            obtain ⟨r87, er87, hE⟩ := bd_el hE
                            refine rg_callRV (As := [.int (xs (s1.1 + ((1 : Int32))).toNatClampNeg)]) (rest := [.int r86]) F (mX7_count l X (b + 430) (gv s1.2 430) (xs (s1.1 + ((1 : Int32))).toNatClampNeg) r87 er87) (cwV 1 F.1.2.2.2.2 gL_law_X7_count rfl rfl rfl hvX7_count ⟨Nat.le_of_ble_eq_true rfl, Nat.le_of_ble_eq_true rfl⟩) (rp_recv F hH.1 430 rfl (C := RX7) (T := TX7) (N := 8) rfl rfl) (hH.1.sub 430 sb_LL_430_LM) rfl hl.1 (Nat.le_of_ble_eq_true rfl) dL_law_521 ⟨Nat.le_refl _, Nat.le_refl _⟩ rfl ?_
                            refine lv_icmp_eq (tgt := 835) hx hb dL_law_524 (by decide) (fun c88 => ?_) (fun c88 => ?_)
                            · have hE := (if_pos c88).symm.trans hE
                              refine lv_iinc (v := s1.1 + 5) (lv' := [(3, .int (s1.1 + 5)), (2, .ref (b + 430)), (1, .ref b), (0, .ref sb)]) hx hb dL_law_835 hl (k := 0) rfl (congrArg (fun q => s1.1 + q) (by decide)) (by decide) rfl (fun ls hl => ?_)
                              refine lv_goto (tgt := 18) hx hb dL_law_838 (by decide) ?_
                              cases hE
                              exact hL9 _ rfl H locs ls hH (lv_sub hl [0, 1, 2, 3] rfl)
                            · have hE := (if_neg c88).symm.trans hE
                              refine lv_iconst (v := 0) hx hb dL_law_527 (by decide) ?_
                              cases hE
                              have hE := (hR9 _ rfl).1 _ rfl
                              subst hE
                              exact absurd ho (by decide)
                          · have hE := (if_neg c84).symm.trans hE
                            by_cases c89 : (xs s1.1.toNatClampNeg) &&& ((31 : Int32)) = 11
                            · have hE := (if_pos c89).symm.trans hE
                              refine lv_tableIn (off := 497) (tgt := 529) hx hb dL_law_32 (by rw [c89]; decide) (by rw [c89]; decide) (by rw [c89]; rfl) (by decide) ?_
                              refine lv_aload_n hx hb dL_law_529 rfl (lv_at hl 2 rfl) ?_
                              refine lv_aload_n hx hb dL_law_530 rfl (lv_at hl 3 rfl) ?_
                              refine lv_iload_n hx hb dL_law_531 rfl (lv_at hl 0 rfl) ?_
                              refine lv_iconst (v := 1) hx hb dL_law_532 (by decide) ?_
                              refine lv_iadd hx hb dL_law_533 ?_
                              obtain ⟨g90, hE⟩ := gd_el hE
                              refine va_sld hx hb hX hbl hbA hH.2.1 g90 dL_law_534 ?_
                              obtain ⟨r91, er91, hE⟩ := lt_el hE
                              refine rg_callRV (As := [.int (xs (s1.1 + ((1 : Int32))).toNatClampNeg)]) (rest := []) F (mX6_untilOpen l X (b + 0) (gv s1.2 0) (xs (s1.1 + ((1 : Int32))).toNatClampNeg) r91 er91) (cwV 1 F.1.2.2.2.2 gL_law_X6_untilOpen rfl rfl rfl hvX6_untilOpen ⟨Nat.le_of_ble_eq_true rfl, Nat.le_of_ble_eq_true rfl⟩) (rp_recv F hH.1 0 rfl (C := RX6) (T := TX6) (N := 9) rfl rfl) (hH.1.sub 0 sb_LL_0_LA) rfl hl.1 (Nat.le_of_ble_eq_true rfl) dL_law_535 ⟨Nat.le_refl _, Nat.le_refl _⟩ rfl ?_
                              refine lv_aload_n hx hb dL_law_538 rfl (lv_at hl 1 rfl) ?_
                              refine lv_aload_n hx hb dL_law_539 rfl (lv_at hl 3 rfl) ?_
                              refine lv_iload_n hx hb dL_law_540 rfl (lv_at hl 0 rfl) ?_
                              refine lv_iconst (v := 1) hx hb dL_law_541 (by decide) ?_
                              refine lv_iadd hx hb dL_law_542 ?_
                              refine va_sld hx hb hX hbl hbA hH.2.1 g90 dL_law_543 ?_
                              obtain ⟨r92, er92, hE⟩ := bd_el hE
                              refine rg_callRV (As := [.int (xs (s1.1 + ((1 : Int32))).toNatClampNeg)]) (rest := [.int r91]) F (mX7_untilOpen l X (b + 430) (gv s1.2 430) (xs (s1.1 + ((1 : Int32))).toNatClampNeg) r92 er92) (cwV 1 F.1.2.2.2.2 gL_law_X7_untilOpen rfl rfl rfl hvX7_untilOpen ⟨Nat.le_of_ble_eq_true rfl, Nat.le_of_ble_eq_true rfl⟩) (rp_recv F hH.1 430 rfl (C := RX7) (T := TX7) (N := 8) rfl rfl) (hH.1.sub 430 sb_LL_430_LM) rfl hl.1 (Nat.le_of_ble_eq_true rfl) dL_law_544 ⟨Nat.le_refl _, Nat.le_refl _⟩ rfl ?_
                              refine lv_icmp_eq (tgt := 835) hx hb dL_law_547 (by decide) (fun c93 => ?_) (fun c93 => ?_)
                              · have hE := (if_pos c93).symm.trans hE
                                refine lv_iinc (v := s1.1 + 5) (lv' := [(3, .int (s1.1 + 5)), (2, .ref (b + 430)), (1, .ref b), (0, .ref sb)]) hx hb dL_law_835 hl (k := 0) rfl (congrArg (fun q => s1.1 + q) (by decide)) (by decide) rfl (fun ls hl => ?_)
                                refine lv_goto (tgt := 18) hx hb dL_law_838 (by decide) ?_
                                cases hE
                                exact hL9 _ rfl H locs ls hH (lv_sub hl [0, 1, 2, 3] rfl)
                              · have hE := (if_neg c93).symm.trans hE
                                refine lv_iconst (v := 0) hx hb dL_law_550 (by decide) ?_
                                cases hE
                                have hE := (hR9 _ rfl).1 _ rfl
                                subst hE
                                exact absurd ho (by decide)
                            · have hE := (if_neg c89).symm.trans hE
                              by_cases c94 : (xs s1.1.toNatClampNeg) &&& ((31 : Int32)) = 12
                              · have hE := (if_pos c94).symm.trans hE
                                refine lv_tableIn (off := 520) (tgt := 552) hx hb dL_law_32 (by rw [c94]; decide) (by rw [c94]; decide) (by rw [c94]; rfl) (by decide) ?_
                                refine lv_aload_n hx hb dL_law_552 rfl (lv_at hl 2 rfl) ?_
                                refine lv_aload_n hx hb dL_law_553 rfl (lv_at hl 3 rfl) ?_
                                refine lv_iload_n hx hb dL_law_554 rfl (lv_at hl 0 rfl) ?_
                                refine lv_iconst (v := 1) hx hb dL_law_555 (by decide) ?_
                                refine lv_iadd hx hb dL_law_556 ?_
                                obtain ⟨g95, hE⟩ := gd_el hE
                                refine va_sld hx hb hX hbl hbA hH.2.1 g95 dL_law_557 ?_
                                obtain ⟨r96, er96, hE⟩ := lt_el hE
                                refine rg_callRV (As := [.int (xs (s1.1 + ((1 : Int32))).toNatClampNeg)]) (rest := []) F (mX6_openFor l X (b + 0) (gv s1.2 0) (xs (s1.1 + ((1 : Int32))).toNatClampNeg) r96 er96) (cwV 1 F.1.2.2.2.2 gL_law_X6_openFor rfl rfl rfl hvX6_openFor ⟨Nat.le_of_ble_eq_true rfl, Nat.le_of_ble_eq_true rfl⟩) (rp_recv F hH.1 0 rfl (C := RX6) (T := TX6) (N := 9) rfl rfl) (hH.1.sub 0 sb_LL_0_LA) rfl hl.1 (Nat.le_of_ble_eq_true rfl) dL_law_558 ⟨Nat.le_refl _, Nat.le_refl _⟩ rfl ?_
                                refine lv_aload_n hx hb dL_law_561 rfl (lv_at hl 1 rfl) ?_
                                refine lv_aload_n hx hb dL_law_562 rfl (lv_at hl 3 rfl) ?_
                                refine lv_iload_n hx hb dL_law_563 rfl (lv_at hl 0 rfl) ?_
                                refine lv_iconst (v := 1) hx hb dL_law_564 (by decide) ?_
                                refine lv_iadd hx hb dL_law_565 ?_
                                refine va_sld hx hb hX hbl hbA hH.2.1 g95 dL_law_566 ?_
                                obtain ⟨r97, er97, hE⟩ := bd_el hE
                                refine rg_callRV (As := [.int (xs (s1.1 + ((1 : Int32))).toNatClampNeg)]) (rest := [.int r96]) F (mX7_openFor l X (b + 430) (gv s1.2 430) (xs (s1.1 + ((1 : Int32))).toNatClampNeg) r97 er97) (cwV 1 F.1.2.2.2.2 gL_law_X7_openFor rfl rfl rfl hvX7_openFor ⟨Nat.le_of_ble_eq_true rfl, Nat.le_of_ble_eq_true rfl⟩) (rp_recv F hH.1 430 rfl (C := RX7) (T := TX7) (N := 8) rfl rfl) (hH.1.sub 430 sb_LL_430_LM) rfl hl.1 (Nat.le_of_ble_eq_true rfl) dL_law_567 ⟨Nat.le_refl _, Nat.le_refl _⟩ rfl ?_
                                refine lv_icmp_eq (tgt := 835) hx hb dL_law_570 (by decide) (fun c98 => ?_) (fun c98 => ?_)
                                · have hE := (if_pos c98).symm.trans hE
                                  refine lv_iinc (v := s1.1 + 5) (lv' := [(3, .int (s1.1 + 5)), (2, .ref (b + 430)), (1, .ref b), (0, .ref sb)]) hx hb dL_law_835 hl (k := 0) rfl (congrArg (fun q => s1.1 + q) (by decide)) (by decide) rfl (fun ls hl => ?_)
                                  refine lv_goto (tgt := 18) hx hb dL_law_838 (by decide) ?_
                                  cases hE
                                  exact hL9 _ rfl H locs ls hH (lv_sub hl [0, 1, 2, 3] rfl)
                                · have hE := (if_neg c98).symm.trans hE
                                  refine lv_iconst (v := 0) hx hb dL_law_573 (by decide) ?_
                                  cases hE
                                  have hE := (hR9 _ rfl).1 _ rfl
                                  subst hE
                                  exact absurd ho (by decide)
                              · have hE := (if_neg c94).symm.trans hE
                                by_cases c99 : (xs s1.1.toNatClampNeg) &&& ((31 : Int32)) = 13
                                · have hE := (if_pos c99).symm.trans hE
                                  refine lv_tableIn (off := 543) (tgt := 575) hx hb dL_law_32 (by rw [c99]; decide) (by rw [c99]; decide) (by rw [c99]; rfl) (by decide) ?_
                                  refine lv_aload_n hx hb dL_law_575 rfl (lv_at hl 2 rfl) ?_
                                  refine lv_aload_n hx hb dL_law_576 rfl (lv_at hl 3 rfl) ?_
                                  refine lv_iload_n hx hb dL_law_577 rfl (lv_at hl 0 rfl) ?_
                                  refine lv_iconst (v := 1) hx hb dL_law_578 (by decide) ?_
                                  refine lv_iadd hx hb dL_law_579 ?_
                                  obtain ⟨g100, hE⟩ := gd_el hE
                                  refine va_sld hx hb hX hbl hbA hH.2.1 g100 dL_law_580 ?_
                                  obtain ⟨U101, eU101, hE⟩ := bd_el hE
                                  obtain ⟨V102, eV102, hE⟩ := lt_el hE
                                  refine rg_callWV (As := [.int (xs (s1.1 + ((1 : Int32))).toNatClampNeg)]) (rest := []) F hH (fun q h1 _ => h1) 0 sb_LL_0_LA (mX6_untilPassed l X (b + 0) (gv s1.2 0) (xs (s1.1 + ((1 : Int32))).toNatClampNeg) U101 eU101) (cwV 1 F.1.2.2.2.2 gL_law_X6_untilPassed rfl rfl rfl hvX6_untilPassed ⟨Nat.le_of_ble_eq_true rfl, Nat.le_of_ble_eq_true rfl⟩) (rp_recv F hH.1 0 rfl (C := RX6) (T := TX6) (N := 9) rfl rfl) (hH.1.sub 0 sb_LL_0_LA) rfl hl.1 (Nat.le_of_ble_eq_true rfl) dL_law_581 ⟨Nat.le_refl _, Nat.le_refl _⟩ rfl eV102 (fun H locs hH hfr => ?_)
                                  refine lv_aload_n hx hb dL_law_584 rfl (lv_at hl 1 rfl) ?_
                                  refine lv_aload_n hx hb dL_law_585 rfl (lv_at hl 3 rfl) ?_
                                  refine lv_iload_n hx hb dL_law_586 rfl (lv_at hl 0 rfl) ?_
                                  refine lv_iconst (v := 1) hx hb dL_law_587 (by decide) ?_
                                  refine lv_iadd hx hb dL_law_588 ?_
                                  refine va_sld hx hb hX hbl hbA hH.2.1 g100 dL_law_589 ?_
                                  obtain ⟨U103, eU103, hE⟩ := bd_el hE
                                  obtain ⟨V104, eV104, hE⟩ := lt_el hE
                                  refine rg_callWV (As := [.int (xs (s1.1 + ((1 : Int32))).toNatClampNeg)]) (rest := [.int U101.1]) F hH (fun q h1 _ => h1) 430 sb_LL_430_LM (mX7_untilPassed l X (b + 430) (gv V102 430) (xs (s1.1 + ((1 : Int32))).toNatClampNeg) U103 eU103) (cwV 1 F.1.2.2.2.2 gL_law_X7_untilPassed rfl rfl rfl hvX7_untilPassed ⟨Nat.le_of_ble_eq_true rfl, Nat.le_of_ble_eq_true rfl⟩) (rp_recv F hH.1 430 rfl (C := RX7) (T := TX7) (N := 8) rfl rfl) (hH.1.sub 430 sb_LL_430_LM) rfl hl.1 (Nat.le_of_ble_eq_true rfl) dL_law_590 ⟨Nat.le_refl _, Nat.le_refl _⟩ rfl eV104 (fun H locs hH hfr => ?_)
                                  refine lv_icmp_eq (tgt := 835) hx hb dL_law_593 (by decide) (fun c105 => ?_) (fun c105 => ?_)
                                  · have hE := (if_pos c105).symm.trans hE
                                    refine lv_iinc (v := s1.1 + 5) (lv' := [(3, .int (s1.1 + 5)), (2, .ref (b + 430)), (1, .ref b), (0, .ref sb)]) hx hb dL_law_835 hl (k := 0) rfl (congrArg (fun q => s1.1 + q) (by decide)) (by decide) rfl (fun ls hl => ?_)
                                    refine lv_goto (tgt := 18) hx hb dL_law_838 (by decide) ?_
                                    cases hE
                                    exact hL9 _ rfl H locs ls hH (lv_sub hl [0, 1, 2, 3] rfl)
                                  · have hE := (if_neg c105).symm.trans hE
                                    refine lv_iconst (v := 0) hx hb dL_law_596 (by decide) ?_
                                    cases hE
                                    have hE := (hR9 _ rfl).1 _ rfl
                                    subst hE
                                    exact absurd ho (by decide)
                                · have hE := (if_neg c99).symm.trans hE
                                  by_cases c106 : (xs s1.1.toNatClampNeg) &&& ((31 : Int32)) = 14
                                  · have hE := (if_pos c106).symm.trans hE
                                    refine lv_tableIn (off := 566) (tgt := 598) hx hb dL_law_32 (by rw [c106]; decide) (by rw [c106]; decide) (by rw [c106]; rfl) (by decide) ?_
                                    refine lv_aload_n hx hb dL_law_598 rfl (lv_at hl 2 rfl) ?_
                                    refine lv_aload_n hx hb dL_law_599 rfl (lv_at hl 3 rfl) ?_
                                    refine lv_iload_n hx hb dL_law_600 rfl (lv_at hl 0 rfl) ?_
                                    refine lv_iconst (v := 1) hx hb dL_law_601 (by decide) ?_
                                    refine lv_iadd hx hb dL_law_602 ?_
                                    obtain ⟨g107, hE⟩ := gd_el hE
                                    refine va_sld hx hb hX hbl hbA hH.2.1 g107 dL_law_603 ?_
                                    refine lv_aload_n hx hb dL_law_604 rfl (lv_at hl 3 rfl) ?_
                                    refine lv_iload_n hx hb dL_law_605 rfl (lv_at hl 0 rfl) ?_
                                    refine lv_iconst (v := 2) hx hb dL_law_606 (by decide) ?_
                                    refine lv_iadd hx hb dL_law_607 ?_
                                    obtain ⟨g108, hE⟩ := gd_el hE
                                    refine va_sld hx hb hX hbl hbA hH.2.1 g108 dL_law_608 ?_
                                    obtain ⟨U109, eU109, hE⟩ := lt_el hE
                                    obtain ⟨V110, eV110, hE⟩ := lt_el hE
                                    refine rg_callWV (As := [.int (xs (s1.1 + ((1 : Int32))).toNatClampNeg), .int (xs (s1.1 + ((2 : Int32))).toNatClampNeg)]) (rest := []) F hH (fun q h1 _ => h1) 0 sb_LL_0_LA (mX6_ifRun l X (b + 0) (gv s1.2 0) (xs (s1.1 + ((1 : Int32))).toNatClampNeg) (xs (s1.1 + ((2 : Int32))).toNatClampNeg) U109 eU109) (cwV 2 F.1.2.2.2.2 gL_law_X6_ifRun rfl rfl rfl hvX6_ifRun ⟨Nat.le_of_ble_eq_true rfl, Nat.le_of_ble_eq_true rfl⟩) (rp_recv F hH.1 0 rfl (C := RX6) (T := TX6) (N := 9) rfl rfl) (hH.1.sub 0 sb_LL_0_LA) rfl hl.1 (Nat.le_of_ble_eq_true rfl) dL_law_609 ⟨Nat.le_refl _, Nat.le_refl _⟩ rfl eV110 (fun H locs hH hfr => ?_)
                                    refine lv_aload_n hx hb dL_law_612 rfl (lv_at hl 1 rfl) ?_
                                    refine lv_aload_n hx hb dL_law_613 rfl (lv_at hl 3 rfl) ?_
                                    refine lv_iload_n hx hb dL_law_614 rfl (lv_at hl 0 rfl) ?_
                                    refine lv_iconst (v := 1) hx hb dL_law_615 (by decide) ?_
                                    refine lv_iadd hx hb dL_law_616 ?_
                                    refine va_sld hx hb hX hbl hbA hH.2.1 g107 dL_law_617 ?_
                                    refine lv_aload_n hx hb dL_law_618 rfl (lv_at hl 3 rfl) ?_
                                    refine lv_iload_n hx hb dL_law_619 rfl (lv_at hl 0 rfl) ?_
                                    refine lv_iconst (v := 2) hx hb dL_law_620 (by decide) ?_
                                    refine lv_iadd hx hb dL_law_621 ?_
                                    refine va_sld hx hb hX hbl hbA hH.2.1 g108 dL_law_622 ?_
                                    obtain ⟨U111, eU111, hE⟩ := bd_el hE
                                    obtain ⟨V112, eV112, hE⟩ := lt_el hE
                                    refine rg_callWV (As := [.int (xs (s1.1 + ((1 : Int32))).toNatClampNeg), .int (xs (s1.1 + ((2 : Int32))).toNatClampNeg)]) (rest := [.int U109.1]) F hH (fun q h1 _ => h1) 430 sb_LL_430_LM (mX7_ifRun l X (b + 430) (gv V110 430) (xs (s1.1 + ((1 : Int32))).toNatClampNeg) (xs (s1.1 + ((2 : Int32))).toNatClampNeg) U111 eU111) (cwV 2 F.1.2.2.2.2 gL_law_X7_ifRun rfl rfl rfl hvX7_ifRun ⟨Nat.le_of_ble_eq_true rfl, Nat.le_of_ble_eq_true rfl⟩) (rp_recv F hH.1 430 rfl (C := RX7) (T := TX7) (N := 8) rfl rfl) (hH.1.sub 430 sb_LL_430_LM) rfl hl.1 (Nat.le_of_ble_eq_true rfl) dL_law_623 ⟨Nat.le_refl _, Nat.le_refl _⟩ rfl eV112 (fun H locs hH hfr => ?_)
                                    refine lv_icmp_eq (tgt := 835) hx hb dL_law_626 (by decide) (fun c113 => ?_) (fun c113 => ?_)
                                    · have hE := (if_pos c113).symm.trans hE
                                      refine lv_iinc (v := s1.1 + 5) (lv' := [(3, .int (s1.1 + 5)), (2, .ref (b + 430)), (1, .ref b), (0, .ref sb)]) hx hb dL_law_835 hl (k := 0) rfl (congrArg (fun q => s1.1 + q) (by decide)) (by decide) rfl (fun ls hl => ?_)
                                      refine lv_goto (tgt := 18) hx hb dL_law_838 (by decide) ?_
                                      cases hE
                                      exact hL9 _ rfl H locs ls hH (lv_sub hl [0, 1, 2, 3] rfl)
                                    · have hE := (if_neg c113).symm.trans hE
                                      refine lv_iconst (v := 0) hx hb dL_law_629 (by decide) ?_
                                      cases hE
                                      have hE := (hR9 _ rfl).1 _ rfl
                                      subst hE
                                      exact absurd ho (by decide)
                                  · have hE := (if_neg c106).symm.trans hE
                                    by_cases c114 : (xs s1.1.toNatClampNeg) &&& ((31 : Int32)) = 15
                                    · have hE := (if_pos c114).symm.trans hE
                                      refine lv_tableIn (off := 599) (tgt := 631) hx hb dL_law_32 (by rw [c114]; decide) (by rw [c114]; decide) (by rw [c114]; rfl) (by decide) ?_
                                      refine lv_aload_n hx hb dL_law_631 rfl (lv_at hl 2 rfl) ?_
                                      refine lv_aload_n hx hb dL_law_632 rfl (lv_at hl 3 rfl) ?_
                                      refine lv_iload_n hx hb dL_law_633 rfl (lv_at hl 0 rfl) ?_
                                      refine lv_iconst (v := 1) hx hb dL_law_634 (by decide) ?_
                                      refine lv_iadd hx hb dL_law_635 ?_
                                      obtain ⟨g115, hE⟩ := gd_el hE
                                      refine va_sld hx hb hX hbl hbA hH.2.1 g115 dL_law_636 ?_
                                      refine lv_aload_n hx hb dL_law_637 rfl (lv_at hl 3 rfl) ?_
                                      refine lv_iload_n hx hb dL_law_638 rfl (lv_at hl 0 rfl) ?_
                                      refine lv_iconst (v := 2) hx hb dL_law_639 (by decide) ?_
                                      refine lv_iadd hx hb dL_law_640 ?_
                                      obtain ⟨g116, hE⟩ := gd_el hE
                                      refine va_sld hx hb hX hbl hbA hH.2.1 g116 dL_law_641 ?_
                                      obtain ⟨U117, eU117, hE⟩ := bd_el hE
                                      obtain ⟨V118, eV118, hE⟩ := lt_el hE
                                      refine rg_callWV (As := [.int (xs (s1.1 + ((1 : Int32))).toNatClampNeg), .int (xs (s1.1 + ((2 : Int32))).toNatClampNeg)]) (rest := []) F hH (fun q h1 _ => h1) 0 sb_LL_0_LA (mX6_leastSlack l X (b + 0) (gv s1.2 0) (xs (s1.1 + ((1 : Int32))).toNatClampNeg) (xs (s1.1 + ((2 : Int32))).toNatClampNeg) U117 eU117) (cwV 2 F.1.2.2.2.2 gL_law_X6_leastSlack rfl rfl rfl hvX6_leastSlack ⟨Nat.le_of_ble_eq_true rfl, Nat.le_of_ble_eq_true rfl⟩) (rp_recv F hH.1 0 rfl (C := RX6) (T := TX6) (N := 9) rfl rfl) (hH.1.sub 0 sb_LL_0_LA) rfl hl.1 (Nat.le_of_ble_eq_true rfl) dL_law_642 ⟨Nat.le_refl _, Nat.le_refl _⟩ rfl eV118 (fun H locs hH hfr => ?_)
                                      refine lv_aload_n hx hb dL_law_645 rfl (lv_at hl 1 rfl) ?_
                                      refine lv_aload_n hx hb dL_law_646 rfl (lv_at hl 3 rfl) ?_
                                      refine lv_iload_n hx hb dL_law_647 rfl (lv_at hl 0 rfl) ?_
                                      refine lv_iconst (v := 1) hx hb dL_law_648 (by decide) ?_
                                      refine lv_iadd hx hb dL_law_649 ?_
                                      refine va_sld hx hb hX hbl hbA hH.2.1 g115 dL_law_650 ?_
                                      refine lv_aload_n hx hb dL_law_651 rfl (lv_at hl 3 rfl) ?_
                                      refine lv_iload_n hx hb dL_law_652 rfl (lv_at hl 0 rfl) ?_
                                      refine lv_iconst (v := 2) hx hb dL_law_653 (by decide) ?_
                                      refine lv_iadd hx hb dL_law_654 ?_
                                      refine va_sld hx hb hX hbl hbA hH.2.1 g116 dL_law_655 ?_
                                      obtain ⟨U119, eU119, hE⟩ := bd_el hE
                                      obtain ⟨V120, eV120, hE⟩ := lt_el hE
                                      refine rg_callWV (As := [.int (xs (s1.1 + ((1 : Int32))).toNatClampNeg), .int (xs (s1.1 + ((2 : Int32))).toNatClampNeg)]) (rest := [.int U117.1]) F hH (fun q h1 _ => h1) 430 sb_LL_430_LM (mX7_leastSlack l X (b + 430) (gv V118 430) (xs (s1.1 + ((1 : Int32))).toNatClampNeg) (xs (s1.1 + ((2 : Int32))).toNatClampNeg) U119 eU119) (cwV 2 F.1.2.2.2.2 gL_law_X7_leastSlack rfl rfl rfl hvX7_leastSlack ⟨Nat.le_of_ble_eq_true rfl, Nat.le_of_ble_eq_true rfl⟩) (rp_recv F hH.1 430 rfl (C := RX7) (T := TX7) (N := 8) rfl rfl) (hH.1.sub 430 sb_LL_430_LM) rfl hl.1 (Nat.le_of_ble_eq_true rfl) dL_law_656 ⟨Nat.le_refl _, Nat.le_refl _⟩ rfl eV120 (fun H locs hH hfr => ?_)
                                      refine lv_icmp_eq (tgt := 835) hx hb dL_law_659 (by decide) (fun c121 => ?_) (fun c121 => ?_)
                                      · have hE := (if_pos c121).symm.trans hE
                                        refine lv_iinc (v := s1.1 + 5) (lv' := [(3, .int (s1.1 + 5)), (2, .ref (b + 430)), (1, .ref b), (0, .ref sb)]) hx hb dL_law_835 hl (k := 0) rfl (congrArg (fun q => s1.1 + q) (by decide)) (by decide) rfl (fun ls hl => ?_)
                                        refine lv_goto (tgt := 18) hx hb dL_law_838 (by decide) ?_
                                        cases hE
                                        exact hL9 _ rfl H locs ls hH (lv_sub hl [0, 1, 2, 3] rfl)
                                      · have hE := (if_neg c121).symm.trans hE
                                        refine lv_iconst (v := 0) hx hb dL_law_662 (by decide) ?_
                                        cases hE
                                        have hE := (hR9 _ rfl).1 _ rfl
                                        subst hE
                                        exact absurd ho (by decide)
                                    · have hE := (if_neg c114).symm.trans hE
                                      by_cases c122 : (xs s1.1.toNatClampNeg) &&& ((31 : Int32)) = 16
                                      · have hE := (if_pos c122).symm.trans hE
                                        refine lv_tableIn (off := 632) (tgt := 664) hx hb dL_law_32 (by rw [c122]; decide) (by rw [c122]; decide) (by rw [c122]; rfl) (by decide) ?_
                                        refine lv_aload_n hx hb dL_law_664 rfl (lv_at hl 2 rfl) ?_
                                        refine lv_aload_n hx hb dL_law_665 rfl (lv_at hl 3 rfl) ?_
                                        refine lv_iload_n hx hb dL_law_666 rfl (lv_at hl 0 rfl) ?_
                                        refine lv_iconst (v := 1) hx hb dL_law_667 (by decide) ?_
                                        refine lv_iadd hx hb dL_law_668 ?_
                                        obtain ⟨g123, hE⟩ := gd_el hE
                                        refine va_sld hx hb hX hbl hbA hH.2.1 g123 dL_law_669 ?_
                                        refine lv_aload_n hx hb dL_law_670 rfl (lv_at hl 3 rfl) ?_
                                        refine lv_iload_n hx hb dL_law_671 rfl (lv_at hl 0 rfl) ?_
                                        refine lv_iconst (v := 2) hx hb dL_law_672 (by decide) ?_
                                        refine lv_iadd hx hb dL_law_673 ?_
                                        obtain ⟨g124, hE⟩ := gd_el hE
                                        refine va_sld hx hb hX hbl hbA hH.2.1 g124 dL_law_674 ?_
                                        obtain ⟨U125, eU125, hE⟩ := bd_el hE
                                        obtain ⟨V126, eV126, hE⟩ := lt_el hE
                                        refine rg_callWV (As := [.int (xs (s1.1 + ((1 : Int32))).toNatClampNeg), .int (xs (s1.1 + ((2 : Int32))).toNatClampNeg)]) (rest := []) F hH (fun q h1 _ => h1) 0 sb_LL_0_LA (mX6_bestLie l X (b + 0) (gv s1.2 0) (xs (s1.1 + ((1 : Int32))).toNatClampNeg) (xs (s1.1 + ((2 : Int32))).toNatClampNeg) U125 eU125) (cwV 2 F.1.2.2.2.2 gL_law_X6_bestLie rfl rfl rfl hvX6_bestLie ⟨Nat.le_of_ble_eq_true rfl, Nat.le_of_ble_eq_true rfl⟩) (rp_recv F hH.1 0 rfl (C := RX6) (T := TX6) (N := 9) rfl rfl) (hH.1.sub 0 sb_LL_0_LA) rfl hl.1 (Nat.le_of_ble_eq_true rfl) dL_law_675 ⟨Nat.le_refl _, Nat.le_refl _⟩ rfl eV126 (fun H locs hH hfr => ?_)
                                        refine lv_aload_n hx hb dL_law_678 rfl (lv_at hl 1 rfl) ?_
                                        refine lv_aload_n hx hb dL_law_679 rfl (lv_at hl 3 rfl) ?_
                                        refine lv_iload_n hx hb dL_law_680 rfl (lv_at hl 0 rfl) ?_
                                        refine lv_iconst (v := 1) hx hb dL_law_681 (by decide) ?_
                                        refine lv_iadd hx hb dL_law_682 ?_
                                        refine va_sld hx hb hX hbl hbA hH.2.1 g123 dL_law_683 ?_
                                        refine lv_aload_n hx hb dL_law_684 rfl (lv_at hl 3 rfl) ?_
                                        refine lv_iload_n hx hb dL_law_685 rfl (lv_at hl 0 rfl) ?_
                                        refine lv_iconst (v := 2) hx hb dL_law_686 (by decide) ?_
                                        refine lv_iadd hx hb dL_law_687 ?_
                                        refine va_sld hx hb hX hbl hbA hH.2.1 g124 dL_law_688 ?_
                                        obtain ⟨U127, eU127, hE⟩ := bd_el hE
                                        obtain ⟨V128, eV128, hE⟩ := lt_el hE
                                        refine rg_callWV (As := [.int (xs (s1.1 + ((1 : Int32))).toNatClampNeg), .int (xs (s1.1 + ((2 : Int32))).toNatClampNeg)]) (rest := [.int U125.1]) F hH (fun q h1 _ => h1) 430 sb_LL_430_LM (mX7_bestLie l X (b + 430) (gv V126 430) (xs (s1.1 + ((1 : Int32))).toNatClampNeg) (xs (s1.1 + ((2 : Int32))).toNatClampNeg) U127 eU127) (cwV 2 F.1.2.2.2.2 gL_law_X7_bestLie rfl rfl rfl hvX7_bestLie ⟨Nat.le_of_ble_eq_true rfl, Nat.le_of_ble_eq_true rfl⟩) (rp_recv F hH.1 430 rfl (C := RX7) (T := TX7) (N := 8) rfl rfl) (hH.1.sub 430 sb_LL_430_LM) rfl hl.1 (Nat.le_of_ble_eq_true rfl) dL_law_689 ⟨Nat.le_refl _, Nat.le_refl _⟩ rfl eV128 (fun H locs hH hfr => ?_)
                                        refine lv_icmp_eq (tgt := 835) hx hb dL_law_692 (by decide) (fun c129 => ?_) (fun c129 => ?_)
                                        · have hE := (if_pos c129).symm.trans hE
                                          refine lv_iinc (v := s1.1 + 5) (lv' := [(3, .int (s1.1 + 5)), (2, .ref (b + 430)), (1, .ref b), (0, .ref sb)]) hx hb dL_law_835 hl (k := 0) rfl (congrArg (fun q => s1.1 + q) (by decide)) (by decide) rfl (fun ls hl => ?_)
                                          refine lv_goto (tgt := 18) hx hb dL_law_838 (by decide) ?_
                                          cases hE
                                          exact hL9 _ rfl H locs ls hH (lv_sub hl [0, 1, 2, 3] rfl)
                                        · have hE := (if_neg c129).symm.trans hE
                                          refine lv_iconst (v := 0) hx hb dL_law_695 (by decide) ?_
                                          cases hE
                                          have hE := (hR9 _ rfl).1 _ rfl
                                          subst hE
                                          exact absurd ho (by decide)
                                      · have hE := (if_neg c122).symm.trans hE
                                        by_cases c130 : (xs s1.1.toNatClampNeg) &&& ((31 : Int32)) = 17
                                        · have hE := (if_pos c130).symm.trans hE
                                          refine lv_tableIn (off := 665) (tgt := 697) hx hb dL_law_32 (by rw [c130]; decide) (by rw [c130]; decide) (by rw [c130]; rfl) (by decide) ?_
                                          refine lv_aload_n hx hb dL_law_697 rfl (lv_at hl 2 rfl) ?_
                                          refine lv_aload_n hx hb dL_law_698 rfl (lv_at hl 3 rfl) ?_
                                          refine lv_iload_n hx hb dL_law_699 rfl (lv_at hl 0 rfl) ?_
                                          refine lv_iconst (v := 1) hx hb dL_law_700 (by decide) ?_
                                          refine lv_iadd hx hb dL_law_701 ?_
                                          obtain ⟨g131, hE⟩ := gd_el hE
                                          refine va_sld hx hb hX hbl hbA hH.2.1 g131 dL_law_702 ?_
                                          refine lv_i2l (v := (xs (s1.1 + ((1 : Int32))).toNatClampNeg).toInt64) hx hb dL_law_703 rfl ?_
                                          refine lv_bipush (v := 32) hx hb dL_law_704 (by decide) ?_
                                          refine lv_lshl (v := ((xs (s1.1 + ((1 : Int32))).toNatClampNeg).toInt64) <<< (((32 : Int32)).toInt64 &&& 63)) hx hb dL_law_706 rfl ?_
                                          refine lv_aload_n hx hb dL_law_707 rfl (lv_at hl 3 rfl) ?_
                                          refine lv_iload_n hx hb dL_law_708 rfl (lv_at hl 0 rfl) ?_
                                          refine lv_iconst (v := 2) hx hb dL_law_709 (by decide) ?_
                                          refine lv_iadd hx hb dL_law_710 ?_
                                          obtain ⟨g132, hE⟩ := gd_el hE
                                          refine va_sld hx hb hX hbl hbA hH.2.1 g132 dL_law_711 ?_
                                          refine lv_i2l (v := (xs (s1.1 + ((2 : Int32))).toNatClampNeg).toInt64) hx hb dL_law_712 rfl ?_
                                          refine lv_ldc2 (v := 4294967295) hx hb F.1.2.2.2.1 (F.1.2.2.2.2 _ lkL_law_0) dL_law_713 ?_
                                          refine lv_land hx hb dL_law_716 ?_
                                          refine lv_lor hx hb dL_law_717 ?_
                                          obtain ⟨U133, eU133, hE⟩ := bd_el hE
                                          obtain ⟨V134, eV134, hE⟩ := lt_el hE
                                          refine rg_callWV (As := [.long ((((xs (s1.1 + ((1 : Int32))).toNatClampNeg).toInt64) <<< (((32 : Int32)).toInt64 &&& 63)) ||| (((xs (s1.1 + ((2 : Int32))).toNatClampNeg).toInt64) &&& ((4294967295 : Int64))))]) (rest := []) F hH (fun q h1 _ => h1) 0 sb_LL_0_LA (mX6_write l X (b + 0) (gv s1.2 0) ((((xs (s1.1 + ((1 : Int32))).toNatClampNeg).toInt64) <<< (((32 : Int32)).toInt64 &&& 63)) ||| (((xs (s1.1 + ((2 : Int32))).toNatClampNeg).toInt64) &&& ((4294967295 : Int64)))) U133 eU133) (cwV 1 F.1.2.2.2.2 gL_law_X6_write rfl rfl rfl hvX6_write ⟨Nat.le_of_ble_eq_true rfl, Nat.le_of_ble_eq_true rfl⟩) (rp_recv F hH.1 0 rfl (C := RX6) (T := TX6) (N := 9) rfl rfl) (hH.1.sub 0 sb_LL_0_LA) rfl hl.1 (Nat.le_of_ble_eq_true rfl) dL_law_718 ⟨Nat.le_refl _, Nat.le_refl _⟩ rfl eV134 (fun H locs hH hfr => ?_)
                                          refine lv_aload_n hx hb dL_law_721 rfl (lv_at hl 1 rfl) ?_
                                          refine lv_aload_n hx hb dL_law_722 rfl (lv_at hl 3 rfl) ?_
                                          refine lv_iload_n hx hb dL_law_723 rfl (lv_at hl 0 rfl) ?_
                                          refine lv_iconst (v := 1) hx hb dL_law_724 (by decide) ?_
                                          refine lv_iadd hx hb dL_law_725 ?_
                                          refine va_sld hx hb hX hbl hbA hH.2.1 g131 dL_law_726 ?_
                                          refine lv_i2l (v := (xs (s1.1 + ((1 : Int32))).toNatClampNeg).toInt64) hx hb dL_law_727 rfl ?_
                                          refine lv_bipush (v := 32) hx hb dL_law_728 (by decide) ?_
                                          refine lv_lshl (v := ((xs (s1.1 + ((1 : Int32))).toNatClampNeg).toInt64) <<< (((32 : Int32)).toInt64 &&& 63)) hx hb dL_law_730 rfl ?_
                                          refine lv_aload_n hx hb dL_law_731 rfl (lv_at hl 3 rfl) ?_
                                          refine lv_iload_n hx hb dL_law_732 rfl (lv_at hl 0 rfl) ?_
                                          refine lv_iconst (v := 2) hx hb dL_law_733 (by decide) ?_
                                          refine lv_iadd hx hb dL_law_734 ?_
                                          refine va_sld hx hb hX hbl hbA hH.2.1 g132 dL_law_735 ?_
                                          refine lv_i2l (v := (xs (s1.1 + ((2 : Int32))).toNatClampNeg).toInt64) hx hb dL_law_736 rfl ?_
                                          refine lv_ldc2 (v := 4294967295) hx hb F.1.2.2.2.1 (F.1.2.2.2.2 _ lkL_law_0) dL_law_737 ?_
                                          refine lv_land hx hb dL_law_740 ?_
                                          refine lv_lor hx hb dL_law_741 ?_
                                          obtain ⟨U135, eU135, hE⟩ := bd_el hE
                                          obtain ⟨V136, eV136, hE⟩ := lt_el hE
                                          refine rg_callWV (As := [.long ((((xs (s1.1 + ((1 : Int32))).toNatClampNeg).toInt64) <<< (((32 : Int32)).toInt64 &&& 63)) ||| (((xs (s1.1 + ((2 : Int32))).toNatClampNeg).toInt64) &&& ((4294967295 : Int64))))]) (rest := [.int U133.1]) F hH (fun q h1 _ => h1) 430 sb_LL_430_LM (mX7_write l X (b + 430) (gv V134 430) ((((xs (s1.1 + ((1 : Int32))).toNatClampNeg).toInt64) <<< (((32 : Int32)).toInt64 &&& 63)) ||| (((xs (s1.1 + ((2 : Int32))).toNatClampNeg).toInt64) &&& ((4294967295 : Int64)))) U135 eU135) (cwV 1 F.1.2.2.2.2 gL_law_X7_write rfl rfl rfl hvX7_write ⟨Nat.le_of_ble_eq_true rfl, Nat.le_of_ble_eq_true rfl⟩) (rp_recv F hH.1 430 rfl (C := RX7) (T := TX7) (N := 8) rfl rfl) (hH.1.sub 430 sb_LL_430_LM) rfl hl.1 (Nat.le_of_ble_eq_true rfl) dL_law_742 ⟨Nat.le_refl _, Nat.le_refl _⟩ rfl eV136 (fun H locs hH hfr => ?_)
                                          refine lv_icmp_eq (tgt := 835) hx hb dL_law_745 (by decide) (fun c137 => ?_) (fun c137 => ?_)
                                          · have hE := (if_pos c137).symm.trans hE
                                            refine lv_iinc (v := s1.1 + 5) (lv' := [(3, .int (s1.1 + 5)), (2, .ref (b + 430)), (1, .ref b), (0, .ref sb)]) hx hb dL_law_835 hl (k := 0) rfl (congrArg (fun q => s1.1 + q) (by decide)) (by decide) rfl (fun ls hl => ?_)
                                            refine lv_goto (tgt := 18) hx hb dL_law_838 (by decide) ?_
                                            cases hE
                                            exact hL9 _ rfl H locs ls hH (lv_sub hl [0, 1, 2, 3] rfl)
                                          · have hE := (if_neg c137).symm.trans hE
                                            refine lv_iconst (v := 0) hx hb dL_law_748 (by decide) ?_
                                            cases hE
                                            have hE := (hR9 _ rfl).1 _ rfl
                                            subst hE
                                            exact absurd ho (by decide)
                                        · have hE := (if_neg c130).symm.trans hE
                                          by_cases c138 : (xs s1.1.toNatClampNeg) &&& ((31 : Int32)) = 18
                                          · have hE := (if_pos c138).symm.trans hE
                                            refine lv_tableIn (off := 718) (tgt := 750) hx hb dL_law_32 (by rw [c138]; decide) (by rw [c138]; decide) (by rw [c138]; rfl) (by decide) ?_
                                            refine lv_aload_n hx hb dL_law_750 rfl (lv_at hl 2 rfl) ?_
                                            obtain ⟨U139, eU139, hE⟩ := lt_el hE
                                            obtain ⟨V140, eV140, hE⟩ := lt_el hE
                                            refine rg_callWV (As := []) (rest := []) F hH (fun q h1 _ => h1) 0 sb_LL_0_LA (mX6_wipe l X (b + 0) (gv s1.2 0)  U139 eU139) (cwV 0 F.1.2.2.2.2 gL_law_X6_wipe rfl rfl rfl hvX6_wipe ⟨Nat.le_of_ble_eq_true rfl, Nat.le_of_ble_eq_true rfl⟩) (rp_recv F hH.1 0 rfl (C := RX6) (T := TX6) (N := 9) rfl rfl) (hH.1.sub 0 sb_LL_0_LA) rfl hl.1 (Nat.le_of_ble_eq_true rfl) dL_law_751 ⟨Nat.le_refl _, Nat.le_refl _⟩ rfl eV140 (fun H locs hH hfr => ?_)
                                            refine lv_aload_n hx hb dL_law_754 rfl (lv_at hl 1 rfl) ?_
                                            obtain ⟨U141, eU141, hE⟩ := lt_el hE
                                            obtain ⟨V142, eV142, hE⟩ := lt_el hE
                                            refine rg_callWV (As := []) (rest := [.int U139.1]) F hH (fun q h1 _ => h1) 430 sb_LL_430_LM (mX7_wipe l X (b + 430) (gv V140 430)  U141 eU141) (cwV 0 F.1.2.2.2.2 gL_law_X7_wipe rfl rfl rfl hvX7_wipe ⟨Nat.le_of_ble_eq_true rfl, Nat.le_of_ble_eq_true rfl⟩) (rp_recv F hH.1 430 rfl (C := RX7) (T := TX7) (N := 8) rfl rfl) (hH.1.sub 430 sb_LL_430_LM) rfl hl.1 (Nat.le_of_ble_eq_true rfl) dL_law_755 ⟨Nat.le_refl _, Nat.le_refl _⟩ rfl eV142 (fun H locs hH hfr => ?_)
                                            refine lv_icmp_eq (tgt := 835) hx hb dL_law_758 (by decide) (fun c143 => ?_) (fun c143 => ?_)
                                            · have hE := (if_pos c143).symm.trans hE
                                              refine lv_iinc (v := s1.1 + 5) (lv' := [(3, .int (s1.1 + 5)), (2, .ref (b + 430)), (1, .ref b), (0, .ref sb)]) hx hb dL_law_835 hl (k := 0) rfl (congrArg (fun q => s1.1 + q) (by decide)) (by decide) rfl (fun ls hl => ?_)
                                              refine lv_goto (tgt := 18) hx hb dL_law_838 (by decide) ?_
                                              cases hE
                                              exact hL9 _ rfl H locs ls hH (lv_sub hl [0, 1, 2, 3] rfl)
                                            · have hE := (if_neg c143).symm.trans hE
                                              refine lv_iconst (v := 0) hx hb dL_law_761 (by decide) ?_
                                              cases hE
                                              have hE := (hR9 _ rfl).1 _ rfl
                                              subst hE
                                              exact absurd ho (by decide)
                                          · have hE := (if_neg c138).symm.trans hE
                                            by_cases c144 : (xs s1.1.toNatClampNeg) &&& ((31 : Int32)) = 19
                                            · have hE := (if_pos c144).symm.trans hE
                                              refine lv_tableIn (off := 731) (tgt := 763) hx hb dL_law_32 (by rw [c144]; decide) (by rw [c144]; decide) (by rw [c144]; rfl) (by decide) ?_
                                              refine lv_aload_n hx hb dL_law_763 rfl (lv_at hl 2 rfl) ?_
                                              obtain ⟨r145, er145, hE⟩ := lt_el hE
                                              refine rg_callRV (As := []) (rest := []) F (mX6_fault l X (b + 0) (gv s1.2 0)  r145 er145) (cwV 0 F.1.2.2.2.2 gL_law_X6_fault rfl rfl rfl hvX6_fault ⟨Nat.le_of_ble_eq_true rfl, Nat.le_of_ble_eq_true rfl⟩) (rp_recv F hH.1 0 rfl (C := RX6) (T := TX6) (N := 9) rfl rfl) (hH.1.sub 0 sb_LL_0_LA) rfl hl.1 (Nat.le_of_ble_eq_true rfl) dL_law_764 ⟨Nat.le_refl _, Nat.le_refl _⟩ rfl ?_
                                              refine lv_aload_n hx hb dL_law_767 rfl (lv_at hl 1 rfl) ?_
                                              obtain ⟨r146, er146, hE⟩ := bd_el hE
                                              refine rg_callRV (As := []) (rest := [.int r145]) F (mX7_fault l X (b + 430) (gv s1.2 430)  r146 er146) (cwV 0 F.1.2.2.2.2 gL_law_X7_fault rfl rfl rfl hvX7_fault ⟨Nat.le_of_ble_eq_true rfl, Nat.le_of_ble_eq_true rfl⟩) (rp_recv F hH.1 430 rfl (C := RX7) (T := TX7) (N := 8) rfl rfl) (hH.1.sub 430 sb_LL_430_LM) rfl hl.1 (Nat.le_of_ble_eq_true rfl) dL_law_768 ⟨Nat.le_refl _, Nat.le_refl _⟩ rfl ?_
                                              refine lv_icmp_eq (tgt := 835) hx hb dL_law_771 (by decide) (fun c147 => ?_) (fun c147 => ?_)
                                              · have hE := (if_pos c147).symm.trans hE
                                                refine lv_iinc (v := s1.1 + 5) (lv' := [(3, .int (s1.1 + 5)), (2, .ref (b + 430)), (1, .ref b), (0, .ref sb)]) hx hb dL_law_835 hl (k := 0) rfl (congrArg (fun q => s1.1 + q) (by decide)) (by decide) rfl (fun ls hl => ?_)
                                                refine lv_goto (tgt := 18) hx hb dL_law_838 (by decide) ?_
                                                cases hE
                                                exact hL9 _ rfl H locs ls hH (lv_sub hl [0, 1, 2, 3] rfl)
                                              · have hE := (if_neg c147).symm.trans hE
                                                refine lv_iconst (v := 0) hx hb dL_law_774 (by decide) ?_
                                                cases hE
                                                have hE := (hR9 _ rfl).1 _ rfl
                                                subst hE
                                                exact absurd ho (by decide)
                                            · have hE := (if_neg c144).symm.trans hE
                                              by_cases c148 : (xs s1.1.toNatClampNeg) &&& ((31 : Int32)) = 20
                                              · have hE := (if_pos c148).symm.trans hE
                                                refine lv_tableIn (off := 744) (tgt := 776) hx hb dL_law_32 (by rw [c148]; decide) (by rw [c148]; decide) (by rw [c148]; rfl) (by decide) ?_
                                                refine lv_aload_n hx hb dL_law_776 rfl (lv_at hl 2 rfl) ?_
                                                obtain ⟨U149, eU149, hE⟩ := bd_el hE
                                                obtain ⟨V150, eV150, hE⟩ := lt_el hE
                                                refine rg_callWV (As := []) (rest := []) F hH (fun q h1 _ => h1) 0 sb_LL_0_LA (mX6_undo l X (b + 0) (gv s1.2 0)  U149 eU149) (cwV 0 F.1.2.2.2.2 gL_law_X6_undo rfl rfl rfl hvX6_undo ⟨Nat.le_of_ble_eq_true rfl, Nat.le_of_ble_eq_true rfl⟩) (rp_recv F hH.1 0 rfl (C := RX6) (T := TX6) (N := 9) rfl rfl) (hH.1.sub 0 sb_LL_0_LA) rfl hl.1 (Nat.le_of_ble_eq_true rfl) dL_law_777 ⟨Nat.le_refl _, Nat.le_refl _⟩ rfl eV150 (fun H locs hH hfr => ?_)
                                                refine lv_aload_n hx hb dL_law_780 rfl (lv_at hl 1 rfl) ?_
                                                obtain ⟨U151, eU151, hE⟩ := bd_el hE
                                                obtain ⟨V152, eV152, hE⟩ := lt_el hE
                                                refine rg_callWV (As := []) (rest := [.int U149.1]) F hH (fun q h1 _ => h1) 430 sb_LL_430_LM (mX7_undo l X (b + 430) (gv V150 430)  U151 eU151) (cwV 0 F.1.2.2.2.2 gL_law_X7_undo rfl rfl rfl hvX7_undo ⟨Nat.le_of_ble_eq_true rfl, Nat.le_of_ble_eq_true rfl⟩) (rp_recv F hH.1 430 rfl (C := RX7) (T := TX7) (N := 8) rfl rfl) (hH.1.sub 430 sb_LL_430_LM) rfl hl.1 (Nat.le_of_ble_eq_true rfl) dL_law_781 ⟨Nat.le_refl _, Nat.le_refl _⟩ rfl eV152 (fun H locs hH hfr => ?_)
                                                refine lv_icmp_eq (tgt := 835) hx hb dL_law_784 (by decide) (fun c153 => ?_) (fun c153 => ?_)
                                                · have hE := (if_pos c153).symm.trans hE
                                                  refine lv_iinc (v := s1.1 + 5) (lv' := [(3, .int (s1.1 + 5)), (2, .ref (b + 430)), (1, .ref b), (0, .ref sb)]) hx hb dL_law_835 hl (k := 0) rfl (congrArg (fun q => s1.1 + q) (by decide)) (by decide) rfl (fun ls hl => ?_)
                                                  refine lv_goto (tgt := 18) hx hb dL_law_838 (by decide) ?_
                                                  cases hE
                                                  exact hL9 _ rfl H locs ls hH (lv_sub hl [0, 1, 2, 3] rfl)
                                                · have hE := (if_neg c153).symm.trans hE
                                                  refine lv_iconst (v := 0) hx hb dL_law_787 (by decide) ?_
                                                  cases hE
                                                  have hE := (hR9 _ rfl).1 _ rfl
                                                  subst hE
                                                  exact absurd ho (by decide)
                                              · have hE := (if_neg c148).symm.trans hE
                                                by_cases c154 : (xs s1.1.toNatClampNeg) &&& ((31 : Int32)) = 21
                                                · have hE := (if_pos c154).symm.trans hE
                                                  refine lv_tableIn (off := 757) (tgt := 789) hx hb dL_law_32 (by rw [c154]; decide) (by rw [c154]; decide) (by rw [c154]; rfl) (by decide) ?_
                                                  refine lv_aload_n hx hb dL_law_789 rfl (lv_at hl 2 rfl) ?_
                                                  refine lv_aload_n hx hb dL_law_790 rfl (lv_at hl 3 rfl) ?_
                                                  refine lv_iload_n hx hb dL_law_791 rfl (lv_at hl 0 rfl) ?_
                                                  refine lv_iconst (v := 1) hx hb dL_law_792 (by decide) ?_
                                                  refine lv_iadd hx hb dL_law_793 ?_
                                                  obtain ⟨g155, hE⟩ := gd_el hE
                                                  refine va_sld hx hb hX hbl hbA hH.2.1 g155 dL_law_794 ?_
                                                  obtain ⟨U156, eU156, hE⟩ := lt_el hE
                                                  obtain ⟨V157, eV157, hE⟩ := lt_el hE
                                                  refine rg_callWV (As := [.int (xs (s1.1 + ((1 : Int32))).toNatClampNeg)]) (rest := []) F hH (fun q h1 _ => h1) 0 sb_LL_0_LA (mX6_save l X (b + 0) (gv s1.2 0) (xs (s1.1 + ((1 : Int32))).toNatClampNeg) U156 eU156) (cwV 1 F.1.2.2.2.2 gL_law_X6_save rfl rfl rfl hvX6_save ⟨Nat.le_of_ble_eq_true rfl, Nat.le_of_ble_eq_true rfl⟩) (rp_recv F hH.1 0 rfl (C := RX6) (T := TX6) (N := 9) rfl rfl) (hH.1.sub 0 sb_LL_0_LA) rfl hl.1 (Nat.le_of_ble_eq_true rfl) dL_law_795 ⟨Nat.le_refl _, Nat.le_refl _⟩ rfl eV157 (fun H locs hH hfr => ?_)
                                                  refine lv_aload_n hx hb dL_law_798 rfl (lv_at hl 1 rfl) ?_
                                                  refine lv_aload_n hx hb dL_law_799 rfl (lv_at hl 3 rfl) ?_
                                                  refine lv_iload_n hx hb dL_law_800 rfl (lv_at hl 0 rfl) ?_
                                                  refine lv_iconst (v := 1) hx hb dL_law_801 (by decide) ?_
                                                  refine lv_iadd hx hb dL_law_802 ?_
                                                  refine va_sld hx hb hX hbl hbA hH.2.1 g155 dL_law_803 ?_
                                                  obtain ⟨U158, eU158, hE⟩ := bd_el hE
                                                  obtain ⟨V159, eV159, hE⟩ := lt_el hE
                                                  refine rg_callWV (As := [.int (xs (s1.1 + ((1 : Int32))).toNatClampNeg)]) (rest := [.int U156.1]) F hH (fun q h1 _ => h1) 430 sb_LL_430_LM (mX7_save l X (b + 430) (gv V157 430) (xs (s1.1 + ((1 : Int32))).toNatClampNeg) U158 eU158) (cwV 1 F.1.2.2.2.2 gL_law_X7_save rfl rfl rfl hvX7_save ⟨Nat.le_of_ble_eq_true rfl, Nat.le_of_ble_eq_true rfl⟩) (rp_recv F hH.1 430 rfl (C := RX7) (T := TX7) (N := 8) rfl rfl) (hH.1.sub 430 sb_LL_430_LM) rfl hl.1 (Nat.le_of_ble_eq_true rfl) dL_law_804 ⟨Nat.le_refl _, Nat.le_refl _⟩ rfl eV159 (fun H locs hH hfr => ?_)
                                                  refine lv_icmp_eq (tgt := 835) hx hb dL_law_807 (by decide) (fun c160 => ?_) (fun c160 => ?_)
                                                  · have hE := (if_pos c160).symm.trans hE
                                                    refine lv_iinc (v := s1.1 + 5) (lv' := [(3, .int (s1.1 + 5)), (2, .ref (b + 430)), (1, .ref b), (0, .ref sb)]) hx hb dL_law_835 hl (k := 0) rfl (congrArg (fun q => s1.1 + q) (by decide)) (by decide) rfl (fun ls hl => ?_)
                                                    refine lv_goto (tgt := 18) hx hb dL_law_838 (by decide) ?_
                                                    cases hE
                                                    exact hL9 _ rfl H locs ls hH (lv_sub hl [0, 1, 2, 3] rfl)
                                                  · have hE := (if_neg c160).symm.trans hE
                                                    refine lv_iconst (v := 0) hx hb dL_law_810 (by decide) ?_
                                                    cases hE
                                                    have hE := (hR9 _ rfl).1 _ rfl
                                                    subst hE
                                                    exact absurd ho (by decide)
                                                · have hE := (if_neg c154).symm.trans hE
                                                  by_cases c161 : (xs s1.1.toNatClampNeg) &&& ((31 : Int32)) = 22
                                                  · have hE := (if_pos c161).symm.trans hE
                                                    refine lv_tableIn (off := 780) (tgt := 812) hx hb dL_law_32 (by rw [c161]; decide) (by rw [c161]; decide) (by rw [c161]; rfl) (by decide) ?_
                                                    refine lv_aload_n hx hb dL_law_812 rfl (lv_at hl 2 rfl) ?_
                                                    refine lv_aload_n hx hb dL_law_813 rfl (lv_at hl 3 rfl) ?_
                                                    refine lv_iload_n hx hb dL_law_814 rfl (lv_at hl 0 rfl) ?_
                                                    refine lv_iconst (v := 1) hx hb dL_law_815 (by decide) ?_
                                                    refine lv_iadd hx hb dL_law_816 ?_
                                                    obtain ⟨g162, hE⟩ := gd_el hE
                                                    refine va_sld hx hb hX hbl hbA hH.2.1 g162 dL_law_817 ?_
                                                    obtain ⟨U163, eU163, hE⟩ := bd_el hE
                                                    obtain ⟨V164, eV164, hE⟩ := lt_el hE
                                                    refine rg_callWV (As := [.int (xs (s1.1 + ((1 : Int32))).toNatClampNeg)]) (rest := []) F hH (fun q h1 _ => h1) 0 sb_LL_0_LA (mX6_restore l X (b + 0) (gv s1.2 0) (xs (s1.1 + ((1 : Int32))).toNatClampNeg) U163 eU163) (cwV 1 F.1.2.2.2.2 gL_law_X6_restore rfl rfl rfl hvX6_restore ⟨Nat.le_of_ble_eq_true rfl, Nat.le_of_ble_eq_true rfl⟩) (rp_recv F hH.1 0 rfl (C := RX6) (T := TX6) (N := 9) rfl rfl) (hH.1.sub 0 sb_LL_0_LA) rfl hl.1 (Nat.le_of_ble_eq_true rfl) dL_law_818 ⟨Nat.le_refl _, Nat.le_refl _⟩ rfl eV164 (fun H locs hH hfr => ?_)
                                                    refine lv_aload_n hx hb dL_law_821 rfl (lv_at hl 1 rfl) ?_
                                                    refine lv_aload_n hx hb dL_law_822 rfl (lv_at hl 3 rfl) ?_
                                                    refine lv_iload_n hx hb dL_law_823 rfl (lv_at hl 0 rfl) ?_
                                                    refine lv_iconst (v := 1) hx hb dL_law_824 (by decide) ?_
                                                    refine lv_iadd hx hb dL_law_825 ?_
                                                    refine va_sld hx hb hX hbl hbA hH.2.1 g162 dL_law_826 ?_
                                                    obtain ⟨U165, eU165, hE⟩ := bd_el hE
                                                    obtain ⟨V166, eV166, hE⟩ := lt_el hE
                                                    refine rg_callWV (As := [.int (xs (s1.1 + ((1 : Int32))).toNatClampNeg)]) (rest := [.int U163.1]) F hH (fun q h1 _ => h1) 430 sb_LL_430_LM (mX7_restore l X (b + 430) (gv V164 430) (xs (s1.1 + ((1 : Int32))).toNatClampNeg) U165 eU165) (cwV 1 F.1.2.2.2.2 gL_law_X7_restore rfl rfl rfl hvX7_restore ⟨Nat.le_of_ble_eq_true rfl, Nat.le_of_ble_eq_true rfl⟩) (rp_recv F hH.1 430 rfl (C := RX7) (T := TX7) (N := 8) rfl rfl) (hH.1.sub 430 sb_LL_430_LM) rfl hl.1 (Nat.le_of_ble_eq_true rfl) dL_law_827 ⟨Nat.le_refl _, Nat.le_refl _⟩ rfl eV166 (fun H locs hH hfr => ?_)
                                                    refine lv_icmp_eq (tgt := 835) hx hb dL_law_830 (by decide) (fun c167 => ?_) (fun c167 => ?_)
                                                    · have hE := (if_pos c167).symm.trans hE
                                                      refine lv_iinc (v := s1.1 + 5) (lv' := [(3, .int (s1.1 + 5)), (2, .ref (b + 430)), (1, .ref b), (0, .ref sb)]) hx hb dL_law_835 hl (k := 0) rfl (congrArg (fun q => s1.1 + q) (by decide)) (by decide) rfl (fun ls hl => ?_)
                                                      refine lv_goto (tgt := 18) hx hb dL_law_838 (by decide) ?_
                                                      cases hE
                                                      exact hL9 _ rfl H locs ls hH (lv_sub hl [0, 1, 2, 3] rfl)
                                                    · have hE := (if_neg c167).symm.trans hE
                                                      refine lv_iconst (v := 0) hx hb dL_law_833 (by decide) ?_
                                                      cases hE
                                                      have hE := (hR9 _ rfl).1 _ rfl
                                                      subst hE
                                                      exact absurd ho (by decide)
                                                  · have hE := (if_neg c161).symm.trans hE
                                                    refine lv_tableOut (tgt := 835) hx hb dL_law_32 (ts_out23 c4 c14 c22 c32 c46 c53 c60 c66 c72 c78 c84 c89 c94 c99 c106 c114 c122 c130 c138 c144 c148 c154 c161) (by decide) ?_
                                                    refine lv_iinc (v := s1.1 + 5) (lv' := [(3, .int (s1.1 + 5)), (2, .ref (b + 430)), (1, .ref b), (0, .ref sb)]) hx hb dL_law_835 hl (k := 0) rfl (congrArg (fun q => s1.1 + q) (by decide)) (by decide) rfl (fun ls hl => ?_)
                                                    refine lv_goto (tgt := 18) hx hb dL_law_838 (by decide) ?_
                                                    cases hE
                                                    exact hL9 _ rfl H locs ls hH (lv_sub hl [0, 1, 2, 3] rfl)
  · refine ⟨fun r0 h9 => ?_, fun s168 h9 => ?_⟩
    · subst h9
      exact Option.some.inj hE
    · subst h9
      have hE := sel_r hE
      intro H locs ls hH hl
      refine lv_iconst (v := 1) hx hb dL_law_841 (by decide) ?_
      have hE := Option.some.inj hE
      subst hE
      refine va_forget (fun q hq => by rw [hbs]; exact hH.2.1.2.2 q hq) ?_
      exact lw_ret hx hb hr hlocks dL_law_842
