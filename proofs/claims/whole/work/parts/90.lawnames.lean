-- ===== PART A: goes FIRST, ahead of the names: the tables' words, and 'selects' of the private methods out of them =====
/-- a private method of a class that the tables say can be made, by its rows of tables_1 -/
def lw_okq (q : MethodName × Nat) : Prop := (q.1.cls ≠ "java/lang/invoke/MethodHandle" ∧ q.1.cls ≠ "java/lang/invoke/VarHandle") ∧ Cond.instantiable q.1.cls q.2 ∈ tables_1 ∧ Cond.privateMethod q.1 ∈ tables_1 ∧ Cond.instanceMethod q.1 ∈ tables_1
theorem lw_p0 : lw_okq (⟨"TideWords", "record", "()V"⟩, 9) := ⟨⟨by decide +kernel, by decide +kernel⟩, List.mem_of_getElem? (i := 12) (by decide +kernel), List.mem_of_getElem? (i := 247) (by decide +kernel), List.mem_of_getElem? (i := 248) (by decide +kernel)⟩
theorem lw_p1 : lw_okq (⟨"TideWords", "copyInto", "([LTideWords$World;I)V"⟩, 9) := ⟨⟨by decide +kernel, by decide +kernel⟩, List.mem_of_getElem? (i := 12) (by decide +kernel), List.mem_of_getElem? (i := 251) (by decide +kernel), List.mem_of_getElem? (i := 252) (by decide +kernel)⟩
theorem lw_p2 : lw_okq (⟨"TideWords", "bringWords", "(I)V"⟩, 9) := ⟨⟨by decide +kernel, by decide +kernel⟩, List.mem_of_getElem? (i := 12) (by decide +kernel), List.mem_of_getElem? (i := 341) (by decide +kernel), List.mem_of_getElem? (i := 342) (by decide +kernel)⟩
theorem lw_p3 : lw_okq (⟨"TideWords$World", "takeWord", "(I)V"⟩, 6) := ⟨⟨by decide +kernel, by decide +kernel⟩, List.mem_of_getElem? (i := 20) (by decide +kernel), List.mem_of_getElem? (i := 393) (by decide +kernel), List.mem_of_getElem? (i := 394) (by decide +kernel)⟩
theorem lw_p4 : lw_okq (⟨"TideWords$World", "passLetter", "(I)V"⟩, 6) := ⟨⟨by decide +kernel, by decide +kernel⟩, List.mem_of_getElem? (i := 20) (by decide +kernel), List.mem_of_getElem? (i := 416) (by decide +kernel), List.mem_of_getElem? (i := 417) (by decide +kernel)⟩
theorem lw_p5 : lw_okq (⟨"TideWords$World", "sendBack", "(I)V"⟩, 6) := ⟨⟨by decide +kernel, by decide +kernel⟩, List.mem_of_getElem? (i := 20) (by decide +kernel), List.mem_of_getElem? (i := 430) (by decide +kernel), List.mem_of_getElem? (i := 431) (by decide +kernel)⟩
theorem lw_p6 : lw_okq (⟨"TideWords", "isWord", "(I)Z"⟩, 9) := ⟨⟨by decide +kernel, by decide +kernel⟩, List.mem_of_getElem? (i := 12) (by decide +kernel), List.mem_of_getElem? (i := 463) (by decide +kernel), List.mem_of_getElem? (i := 464) (by decide +kernel)⟩
theorem lw_p7 : lw_okq (⟨"TideWords", "findGapsAhead", "()V"⟩, 9) := ⟨⟨by decide +kernel, by decide +kernel⟩, List.mem_of_getElem? (i := 12) (by decide +kernel), List.mem_of_getElem? (i := 541) (by decide +kernel), List.mem_of_getElem? (i := 542) (by decide +kernel)⟩
theorem lw_p8 : lw_okq (⟨"TideWords", "wordsPassingWith", "(II)I"⟩, 9) := ⟨⟨by decide +kernel, by decide +kernel⟩, List.mem_of_getElem? (i := 12) (by decide +kernel), List.mem_of_getElem? (i := 546) (by decide +kernel), List.mem_of_getElem? (i := 547) (by decide +kernel)⟩
theorem lw_p9 : lw_okq (⟨"TideWords", "hasGapAhead", "(I)Z"⟩, 9) := ⟨⟨by decide +kernel, by decide +kernel⟩, List.mem_of_getElem? (i := 12) (by decide +kernel), List.mem_of_getElem? (i := 551) (by decide +kernel), List.mem_of_getElem? (i := 552) (by decide +kernel)⟩
theorem lw_p10 : lw_okq (⟨"TideWords", "openStepsWith", "(III)I"⟩, 9) := ⟨⟨by decide +kernel, by decide +kernel⟩, List.mem_of_getElem? (i := 12) (by decide +kernel), List.mem_of_getElem? (i := 560) (by decide +kernel), List.mem_of_getElem? (i := 561) (by decide +kernel)⟩
theorem lw_p11 : lw_okq (⟨"TideWordsModel", "record", "()V"⟩, 8) := ⟨⟨by decide +kernel, by decide +kernel⟩, List.mem_of_getElem? (i := 600) (by decide +kernel), List.mem_of_getElem? (i := 648) (by decide +kernel), List.mem_of_getElem? (i := 649) (by decide +kernel)⟩
theorem lw_p12 : lw_okq (⟨"TideWordsModel", "level", "(II)I"⟩, 8) := ⟨⟨by decide +kernel, by decide +kernel⟩, List.mem_of_getElem? (i := 600) (by decide +kernel), List.mem_of_getElem? (i := 652) (by decide +kernel), List.mem_of_getElem? (i := 653) (by decide +kernel)⟩
theorem lw_p13 : lw_okq (⟨"TideWordsModel", "lays", "(II)I"⟩, 8) := ⟨⟨by decide +kernel, by decide +kernel⟩, List.mem_of_getElem? (i := 600) (by decide +kernel), List.mem_of_getElem? (i := 660) (by decide +kernel), List.mem_of_getElem? (i := 661) (by decide +kernel)⟩
theorem lw_p14 : lw_okq (⟨"TideWordsModel", "passedWords", "()I"⟩, 8) := ⟨⟨by decide +kernel, by decide +kernel⟩, List.mem_of_getElem? (i := 600) (by decide +kernel), List.mem_of_getElem? (i := 680) (by decide +kernel), List.mem_of_getElem? (i := 681) (by decide +kernel)⟩
theorem lw_p15 : lw_okq (⟨"TideWordsModel", "runs", "(I)V"⟩, 8) := ⟨⟨by decide +kernel, by decide +kernel⟩, List.mem_of_getElem? (i := 600) (by decide +kernel), List.mem_of_getElem? (i := 687) (by decide +kernel), List.mem_of_getElem? (i := 688) (by decide +kernel)⟩
def lw_privs_1 : List (MethodName × Nat) := [(⟨"TideWords", "record", "()V"⟩, 9), (⟨"TideWords", "copyInto", "([LTideWords$World;I)V"⟩, 9), (⟨"TideWords", "bringWords", "(I)V"⟩, 9), (⟨"TideWords$World", "takeWord", "(I)V"⟩, 6), (⟨"TideWords$World", "passLetter", "(I)V"⟩, 6), (⟨"TideWords$World", "sendBack", "(I)V"⟩, 6), (⟨"TideWords", "isWord", "(I)Z"⟩, 9), (⟨"TideWords", "findGapsAhead", "()V"⟩, 9), (⟨"TideWords", "wordsPassingWith", "(II)I"⟩, 9), (⟨"TideWords", "hasGapAhead", "(I)Z"⟩, 9), (⟨"TideWords", "openStepsWith", "(III)I"⟩, 9), (⟨"TideWordsModel", "record", "()V"⟩, 8), (⟨"TideWordsModel", "level", "(II)I"⟩, 8), (⟨"TideWordsModel", "lays", "(II)I"⟩, 8), (⟨"TideWordsModel", "passedWords", "()I"⟩, 8), (⟨"TideWordsModel", "runs", "(I)V"⟩, 8)]
theorem lw_r1 : ∀ q ∈ lw_privs_1, lw_okq q := List.forall_mem_cons.mpr ⟨lw_p0, List.forall_mem_cons.mpr ⟨lw_p1, List.forall_mem_cons.mpr ⟨lw_p2, List.forall_mem_cons.mpr ⟨lw_p3, List.forall_mem_cons.mpr ⟨lw_p4, List.forall_mem_cons.mpr ⟨lw_p5, List.forall_mem_cons.mpr ⟨lw_p6, List.forall_mem_cons.mpr ⟨lw_p7, List.forall_mem_cons.mpr ⟨lw_p8, List.forall_mem_cons.mpr ⟨lw_p9, List.forall_mem_cons.mpr ⟨lw_p10, List.forall_mem_cons.mpr ⟨lw_p11, List.forall_mem_cons.mpr ⟨lw_p12, List.forall_mem_cons.mpr ⟨lw_p13, List.forall_mem_cons.mpr ⟨lw_p14, List.forall_mem_cons.mpr ⟨lw_p15, fun _ h => absurd h List.not_mem_nil⟩⟩⟩⟩⟩⟩⟩⟩⟩⟩⟩⟩⟩⟩⟩⟩
theorem lw_p16 : lw_okq (⟨"TideWordsModel", "step", "()V"⟩, 8) := ⟨⟨by decide +kernel, by decide +kernel⟩, List.mem_of_getElem? (i := 600) (by decide +kernel), List.mem_of_getElem? (i := 691) (by decide +kernel), List.mem_of_getElem? (i := 692) (by decide +kernel)⟩
theorem lw_p17 : lw_okq (⟨"TideWordsModel", "openNow", "()I"⟩, 8) := ⟨⟨by decide +kernel, by decide +kernel⟩, List.mem_of_getElem? (i := 600) (by decide +kernel), List.mem_of_getElem? (i := 695) (by decide +kernel), List.mem_of_getElem? (i := 696) (by decide +kernel)⟩
theorem lw_p18 : lw_okq (⟨"TideWordsModel", "isOpen", "(II)Z"⟩, 8) := ⟨⟨by decide +kernel, by decide +kernel⟩, List.mem_of_getElem? (i := 600) (by decide +kernel), List.mem_of_getElem? (i := 699) (by decide +kernel), List.mem_of_getElem? (i := 700) (by decide +kernel)⟩
theorem lw_p19 : lw_okq (⟨"TideWordsModel", "off", "(I)I"⟩, 8) := ⟨⟨by decide +kernel, by decide +kernel⟩, List.mem_of_getElem? (i := 600) (by decide +kernel), List.mem_of_getElem? (i := 703) (by decide +kernel), List.mem_of_getElem? (i := 704) (by decide +kernel)⟩
theorem lw_p20 : lw_okq (⟨"TideWordsModel", "acts", "(I)V"⟩, 8) := ⟨⟨by decide +kernel, by decide +kernel⟩, List.mem_of_getElem? (i := 600) (by decide +kernel), List.mem_of_getElem? (i := 707) (by decide +kernel), List.mem_of_getElem? (i := 708) (by decide +kernel)⟩
theorem lw_p21 : lw_okq (⟨"TideWordsModel", "takes", "(I)I"⟩, 8) := ⟨⟨by decide +kernel, by decide +kernel⟩, List.mem_of_getElem? (i := 600) (by decide +kernel), List.mem_of_getElem? (i := 711) (by decide +kernel), List.mem_of_getElem? (i := 712) (by decide +kernel)⟩
theorem lw_p22 : lw_okq (⟨"TideWordsModel", "hasPassed", "(I)Z"⟩, 8) := ⟨⟨by decide +kernel, by decide +kernel⟩, List.mem_of_getElem? (i := 600) (by decide +kernel), List.mem_of_getElem? (i := 718) (by decide +kernel), List.mem_of_getElem? (i := 719) (by decide +kernel)⟩
theorem lw_p23 : lw_okq (⟨"TideWordsModel", "lettersOf", "(I)I"⟩, 8) := ⟨⟨by decide +kernel, by decide +kernel⟩, List.mem_of_getElem? (i := 600) (by decide +kernel), List.mem_of_getElem? (i := 722) (by decide +kernel), List.mem_of_getElem? (i := 723) (by decide +kernel)⟩
theorem lw_p24 : lw_okq (⟨"TideWordsModel", "comes", "(II)V"⟩, 8) := ⟨⟨by decide +kernel, by decide +kernel⟩, List.mem_of_getElem? (i := 600) (by decide +kernel), List.mem_of_getElem? (i := 726) (by decide +kernel), List.mem_of_getElem? (i := 727) (by decide +kernel)⟩
theorem lw_p25 : lw_okq (⟨"TideWordsModel", "goesBack", "(II)V"⟩, 8) := ⟨⟨by decide +kernel, by decide +kernel⟩, List.mem_of_getElem? (i := 600) (by decide +kernel), List.mem_of_getElem? (i := 730) (by decide +kernel), List.mem_of_getElem? (i := 731) (by decide +kernel)⟩
theorem lw_p26 : lw_okq (⟨"TideWordsModel", "sumOf", "(II)I"⟩, 8) := ⟨⟨by decide +kernel, by decide +kernel⟩, List.mem_of_getElem? (i := 600) (by decide +kernel), List.mem_of_getElem? (i := 738) (by decide +kernel), List.mem_of_getElem? (i := 739) (by decide +kernel)⟩
theorem lw_p27 : lw_okq (⟨"TideWordsModel", "isWord", "(I)Z"⟩, 8) := ⟨⟨by decide +kernel, by decide +kernel⟩, List.mem_of_getElem? (i := 600) (by decide +kernel), List.mem_of_getElem? (i := 750) (by decide +kernel), List.mem_of_getElem? (i := 751) (by decide +kernel)⟩
theorem lw_p28 : lw_okq (⟨"TideWordsModel", "whereIs", "(I)I"⟩, 8) := ⟨⟨by decide +kernel, by decide +kernel⟩, List.mem_of_getElem? (i := 600) (by decide +kernel), List.mem_of_getElem? (i := 754) (by decide +kernel), List.mem_of_getElem? (i := 755) (by decide +kernel)⟩
theorem lw_p29 : lw_okq (⟨"TideWordsModel", "letterOf", "(II)I"⟩, 8) := ⟨⟨by decide +kernel, by decide +kernel⟩, List.mem_of_getElem? (i := 600) (by decide +kernel), List.mem_of_getElem? (i := 758) (by decide +kernel), List.mem_of_getElem? (i := 759) (by decide +kernel)⟩
theorem lw_p30 : lw_okq (⟨"TideWordsModel", "inGates", "()I"⟩, 8) := ⟨⟨by decide +kernel, by decide +kernel⟩, List.mem_of_getElem? (i := 600) (by decide +kernel), List.mem_of_getElem? (i := 770) (by decide +kernel), List.mem_of_getElem? (i := 771) (by decide +kernel)⟩
theorem lw_p31 : lw_okq (⟨"TideWordsModel", "opensIn", "(I)I"⟩, 8) := ⟨⟨by decide +kernel, by decide +kernel⟩, List.mem_of_getElem? (i := 600) (by decide +kernel), List.mem_of_getElem? (i := 778) (by decide +kernel), List.mem_of_getElem? (i := 779) (by decide +kernel)⟩
def lw_privs_2 : List (MethodName × Nat) := [(⟨"TideWordsModel", "step", "()V"⟩, 8), (⟨"TideWordsModel", "openNow", "()I"⟩, 8), (⟨"TideWordsModel", "isOpen", "(II)Z"⟩, 8), (⟨"TideWordsModel", "off", "(I)I"⟩, 8), (⟨"TideWordsModel", "acts", "(I)V"⟩, 8), (⟨"TideWordsModel", "takes", "(I)I"⟩, 8), (⟨"TideWordsModel", "hasPassed", "(I)Z"⟩, 8), (⟨"TideWordsModel", "lettersOf", "(I)I"⟩, 8), (⟨"TideWordsModel", "comes", "(II)V"⟩, 8), (⟨"TideWordsModel", "goesBack", "(II)V"⟩, 8), (⟨"TideWordsModel", "sumOf", "(II)I"⟩, 8), (⟨"TideWordsModel", "isWord", "(I)Z"⟩, 8), (⟨"TideWordsModel", "whereIs", "(I)I"⟩, 8), (⟨"TideWordsModel", "letterOf", "(II)I"⟩, 8), (⟨"TideWordsModel", "inGates", "()I"⟩, 8), (⟨"TideWordsModel", "opensIn", "(I)I"⟩, 8)]
theorem lw_r2 : ∀ q ∈ lw_privs_2, lw_okq q := List.forall_mem_cons.mpr ⟨lw_p16, List.forall_mem_cons.mpr ⟨lw_p17, List.forall_mem_cons.mpr ⟨lw_p18, List.forall_mem_cons.mpr ⟨lw_p19, List.forall_mem_cons.mpr ⟨lw_p20, List.forall_mem_cons.mpr ⟨lw_p21, List.forall_mem_cons.mpr ⟨lw_p22, List.forall_mem_cons.mpr ⟨lw_p23, List.forall_mem_cons.mpr ⟨lw_p24, List.forall_mem_cons.mpr ⟨lw_p25, List.forall_mem_cons.mpr ⟨lw_p26, List.forall_mem_cons.mpr ⟨lw_p27, List.forall_mem_cons.mpr ⟨lw_p28, List.forall_mem_cons.mpr ⟨lw_p29, List.forall_mem_cons.mpr ⟨lw_p30, List.forall_mem_cons.mpr ⟨lw_p31, fun _ h => absurd h List.not_mem_nil⟩⟩⟩⟩⟩⟩⟩⟩⟩⟩⟩⟩⟩⟩⟩⟩
theorem lw_p32 : lw_okq (⟨"TideWordsModel", "putAside", "()V"⟩, 8) := ⟨⟨by decide +kernel, by decide +kernel⟩, List.mem_of_getElem? (i := 600) (by decide +kernel), List.mem_of_getElem? (i := 790) (by decide +kernel), List.mem_of_getElem? (i := 791) (by decide +kernel)⟩
theorem lw_p33 : lw_okq (⟨"TideWordsModel", "putBack", "()V"⟩, 8) := ⟨⟨by decide +kernel, by decide +kernel⟩, List.mem_of_getElem? (i := 600) (by decide +kernel), List.mem_of_getElem? (i := 794) (by decide +kernel), List.mem_of_getElem? (i := 795) (by decide +kernel)⟩
theorem lw_p34 : lw_okq (⟨"TideWordsModel", "backs", "()I"⟩, 8) := ⟨⟨by decide +kernel, by decide +kernel⟩, List.mem_of_getElem? (i := 600) (by decide +kernel), List.mem_of_getElem? (i := 802) (by decide +kernel), List.mem_of_getElem? (i := 803) (by decide +kernel)⟩
theorem lw_p35 : lw_okq (⟨"TideWordsModel", "opensWith", "(III)I"⟩, 8) := ⟨⟨by decide +kernel, by decide +kernel⟩, List.mem_of_getElem? (i := 600) (by decide +kernel), List.mem_of_getElem? (i := 814) (by decide +kernel), List.mem_of_getElem? (i := 815) (by decide +kernel)⟩
theorem lw_p36 : lw_okq (⟨"TideWordsModel", "wrong", "()I"⟩, 8) := ⟨⟨by decide +kernel, by decide +kernel⟩, List.mem_of_getElem? (i := 600) (by decide +kernel), List.mem_of_getElem? (i := 831) (by decide +kernel), List.mem_of_getElem? (i := 832) (by decide +kernel)⟩
theorem lw_p37 : lw_okq (⟨"TideWordsModel", "behind", "(I)I"⟩, 8) := ⟨⟨by decide +kernel, by decide +kernel⟩, List.mem_of_getElem? (i := 600) (by decide +kernel), List.mem_of_getElem? (i := 835) (by decide +kernel), List.mem_of_getElem? (i := 836) (by decide +kernel)⟩
theorem lw_p38 : lw_okq (⟨"TideWordsModel", "told", "()I"⟩, 8) := ⟨⟨by decide +kernel, by decide +kernel⟩, List.mem_of_getElem? (i := 600) (by decide +kernel), List.mem_of_getElem? (i := 843) (by decide +kernel), List.mem_of_getElem? (i := 844) (by decide +kernel)⟩
def lw_privs_3 : List (MethodName × Nat) := [(⟨"TideWordsModel", "putAside", "()V"⟩, 8), (⟨"TideWordsModel", "putBack", "()V"⟩, 8), (⟨"TideWordsModel", "backs", "()I"⟩, 8), (⟨"TideWordsModel", "opensWith", "(III)I"⟩, 8), (⟨"TideWordsModel", "wrong", "()I"⟩, 8), (⟨"TideWordsModel", "behind", "(I)I"⟩, 8), (⟨"TideWordsModel", "told", "()I"⟩, 8)]
theorem lw_r3 : ∀ q ∈ lw_privs_3, lw_okq q := List.forall_mem_cons.mpr ⟨lw_p32, List.forall_mem_cons.mpr ⟨lw_p33, List.forall_mem_cons.mpr ⟨lw_p34, List.forall_mem_cons.mpr ⟨lw_p35, List.forall_mem_cons.mpr ⟨lw_p36, List.forall_mem_cons.mpr ⟨lw_p37, List.forall_mem_cons.mpr ⟨lw_p38, fun _ h => absurd h List.not_mem_nil⟩⟩⟩⟩⟩⟩⟩
def lw_privs : List (MethodName × Nat) := lw_privs_1 ++ (lw_privs_2 ++ (lw_privs_3))
def lw_tbl : List Cond := k2_sels lw_privs ++ tables_1
theorem lw_privs_ok : ∀ q ∈ lw_privs, lw_okq q := by
  show ∀ q ∈ lw_privs_1 ++ (lw_privs_2 ++ (lw_privs_3)), lw_okq q
  exact List.forall_mem_append.mpr ⟨lw_r1, List.forall_mem_append.mpr ⟨lw_r2, lw_r3⟩⟩
def RL : String := "TideWordsLaw"
abbrev cL_law : ByteArray := code
def yL_law : MethodName := ⟨RL, "law", "([I)Z"⟩
def wsL_law_r1 : List Cond := [Cond.classLink RL 7 RX6, Cond.instantiable RX6 9, Cond.initialized RX6, Cond.classLink RL 10 RX7, Cond.instantiable RX7 8, Cond.initialized RX7, Cond.constantLong RL 85 (4294967295), Cond.methodLink RL 9 yX6_init, Cond.instanceMethod yX6_init, Cond.code yX6_init cX6_init 2 none, Cond.methodLink RX6 1 objectInit, Cond.instanceMethod objectInit, Cond.code objectInit ⟨#[0xb1]⟩ 1 none, Cond.classLink RX6 7 RX5, Cond.instantiable RX5 6, Cond.initialized RX5, Cond.fieldLink RX6 10 "TideWords" "now" "LTideWords$World;", Cond.fieldLink RX6 16 "TideWords" "trial" "LTideWords$World;", Cond.classLink RX6 19 RX2, Cond.instantiable RX2 2, Cond.initialized RX2, Cond.fieldLink RX6 22 "TideWords" "pad" "LTideWords$Pad;", Cond.fieldLink RX6 26 "TideWords" "history" "[LTideWords$World;", Cond.fieldLink RX6 30 "TideWords" "slots" "[LTideWords$World;"]
def wsL_law_r2 : List Cond := [Cond.classLink RX6 33 RX0, Cond.instantiable RX0 1, Cond.initialized RX0, Cond.fieldLink RX6 38 "TideWords" "isSaved" "LTideWords$Cells;", Cond.fieldLink RX6 42 "TideWords" "gapsAhead" "LTideWords$Cells;", Cond.instanceMethod yX5_init, Cond.code yX5_init cX5_init 1 none, Cond.methodLink RX5 3 objectInit, Cond.classLink RX5 9 RX3, Cond.instantiable RX3 4, Cond.initialized RX3, Cond.fieldLink RX5 12 "TideWords$World" "tides" "LTideWords$Tides;", Cond.classLink RX5 18 RX1, Cond.instantiable RX1 8, Cond.initialized RX1, Cond.fieldLink RX5 21 "TideWords$World" "gates" "LTideWords$Gates;", Cond.classLink RX5 25 RX4, Cond.instantiable RX4 8, Cond.initialized RX4, Cond.fieldLink RX5 28 "TideWords$World" "words" "LTideWords$Words;", Cond.methodLink RX5 11 yX3_init, Cond.instanceMethod yX3_init, Cond.code yX3_init cX3_init 1 none, Cond.methodLink RX3 3 objectInit]
def wsL_law_r3 : List Cond := [Cond.classLink RX3 9 RX0, Cond.fieldLink RX3 14 "TideWords$Tides" "means" "LTideWords$Cells;", Cond.fieldLink RX3 20 "TideWords$Tides" "swings" "LTideWords$Cells;", Cond.fieldLink RX3 23 "TideWords$Tides" "periods" "LTideWords$Cells;", Cond.fieldLink RX3 26 "TideWords$Tides" "lies" "LTideWords$Cells;", Cond.methodLink RX3 11 yX0_init, Cond.instanceMethod yX0_init, Cond.code yX0_init cX0_init 2 none, Cond.methodLink RX0 1 objectInit, Cond.methodLink RX0 7 Lib.Math.max.name, Cond.static Lib.Math.max.name, Cond.initialized "java/lang/Math", Cond.code Lib.Math.max.name Lib.Math.max.code 2 (some .int), Cond.arrayClass .int, Cond.fieldLink RX0 13 "TideWords$Cells" "cells" "[I", Cond.methodLink RX3 29 yX3_change, Cond.instanceMethod yX3_change, Cond.selects RX3 yX3_change yX3_change, Cond.code yX3_change cX3_change 5 none, Cond.methodLink RX3 33 yX0_set, Cond.instanceMethod yX0_set, Cond.selects RX0 yX0_set yX0_set, Cond.code yX0_set cX0_set 3 none, Cond.methodLink RX5 20 yX1_init]
def wsL_law_r4 : List Cond := [Cond.instanceMethod yX1_init, Cond.code yX1_init cX1_init 2 none, Cond.methodLink RX1 3 objectInit, Cond.classLink RX1 9 RX0, Cond.fieldLink RX1 14 "TideWords$Gates" "sides" "LTideWords$Cells;", Cond.fieldLink RX1 20 "TideWords$Gates" "slacks" "LTideWords$Cells;", Cond.fieldLink RX1 23 "TideWords$Gates" "ways" "LTideWords$Cells;", Cond.fieldLink RX1 26 "TideWords$Gates" "shuts" "LTideWords$Cells;", Cond.fieldLink RX1 29 "TideWords$Gates" "held" "LTideWords$Cells;", Cond.fieldLink RX1 32 "TideWords$Gates" "lettersDone" "LTideWords$Cells;", Cond.fieldLink RX1 35 "TideWords$Gates" "passedWords" "LTideWords$Cells;", Cond.fieldLink RX1 38 "TideWords$Gates" "vainLetters" "LTideWords$Cells;", Cond.methodLink RX1 11 yX0_init, Cond.methodLink RX1 41 yX1_change, Cond.instanceMethod yX1_change, Cond.selects RX1 yX1_change yX1_change, Cond.code yX1_change cX1_change 5 none, Cond.methodLink RX1 45 yX0_set, Cond.instanceMethod yX4_init, Cond.code yX4_init cX4_init 1 none, Cond.methodLink RX4 3 objectInit, Cond.classLink RX4 9 RX0, Cond.fieldLink RX4 14 "TideWords$Words" "lengths" "LTideWords$Cells;", Cond.fieldLink RX4 20 "TideWords$Words" "letters" "LTideWords$Cells;"]
def wsL_law_r5 : List Cond := [Cond.fieldLink RX4 23 "TideWords$Words" "passedSteps" "LTideWords$Cells;", Cond.fieldLink RX4 26 "TideWords$Words" "passedGates" "LTideWords$Cells;", Cond.fieldLink RX4 29 "TideWords$Words" "timesBack" "LTideWords$Cells;", Cond.fieldLink RX4 32 "TideWords$Words" "rows" "LTideWords$Cells;", Cond.fieldLink RX4 35 "TideWords$Words" "rowLengths" "LTideWords$Cells;", Cond.methodLink RX4 11 yX0_init, Cond.instanceMethod yX2_init, Cond.code yX2_init cX2_init 1 none, Cond.methodLink RX2 3 objectInit, Cond.classLink RX2 9 RX0, Cond.fieldLink RX2 14 "TideWords$Pad" "codes" "LTideWords$Cells;", Cond.methodLink RX2 11 yX0_init, Cond.methodLink RX6 35 yX0_init, Cond.methodLink RL 12 yX7_init, Cond.instanceMethod yX7_init, Cond.code yX7_init cX7_init 2 none, Cond.methodLink RX7 1 objectInit, Cond.fieldLink RX7 7 "TideWordsModel" "s" "[I", Cond.fieldLink RX7 13 "TideWordsModel" "aside" "[I", Cond.fieldLink RX7 16 "TideWordsModel" "history" "[I", Cond.fieldLink RX7 19 "TideWordsModel" "slots" "[I", Cond.arrayClass .boolean, Cond.fieldLink RX7 22 "TideWordsModel" "isSaved" "[Z", Cond.fieldLink RX7 26 "TideWordsModel" "pad" "[I"]
def wsL_law_r6 : List Cond := [Cond.methodLink RX7 29 yX7_ofStore, Cond.static yX7_ofStore, Cond.code yX7_ofStore cX7_ofStore 2 (some .int), Cond.methodLink RX7 33 yX7_ofGate, Cond.static yX7_ofGate, Cond.code yX7_ofGate cX7_ofGate 2 (some .int), Cond.methodLink RL 13 yX6_tide, Cond.instanceMethod yX6_tide, Cond.selects RX6 yX6_tide yX6_tide, Cond.code yX6_tide cX6_tide 5 (some .int), Cond.fieldLink RX6 56 "TideWords$World" "tides" "LTideWords$Tides;", Cond.fieldLink RX6 66 "TideWords$World" "steps" "I", Cond.methodLink RX6 45 yX6_isStore, Cond.static yX6_isStore, Cond.code yX6_isStore cX6_isStore 1 (some .boolean), Cond.methodLink RX6 49 yX6_isWithin, Cond.static yX6_isWithin, Cond.code yX6_isWithin cX6_isWithin 3 (some .boolean), Cond.methodLink RX6 53 yX6_record, Cond.instanceMethod yX6_record, Cond.selects RX6 yX6_record yX6_record, Cond.code yX6_record cX6_record 1 none, Cond.fieldLink RX6 259 "TideWords" "nextRecord" "I", Cond.fieldLink RX6 219 "TideWords" "records" "I"]
def wsL_law_r7 : List Cond := [Cond.methodLink RX6 270 Lib.Math.min.name, Cond.static Lib.Math.min.name, Cond.code Lib.Math.min.name Lib.Math.min.code 2 (some .int), Cond.methodLink RX6 266 yX6_copyInto, Cond.instanceMethod yX6_copyInto, Cond.selects RX6 yX6_copyInto yX6_copyInto, Cond.code yX6_copyInto cX6_copyInto 4 none, Cond.methodLink RX6 262 yX6_worldIn, Cond.static yX6_worldIn, Cond.code yX6_worldIn cX6_worldIn 2 (some (.object "TideWords$World")), Cond.methodLink RX6 228 yX5_copyFrom, Cond.instanceMethod yX5_copyFrom, Cond.selects RX5 yX5_copyFrom yX5_copyFrom, Cond.code yX5_copyFrom cX5_copyFrom 2 none, Cond.fieldLink RX5 40 "TideWords$World" "steps" "I", Cond.fieldLink RX5 93 "TideWords$World" "letters" "I", Cond.fieldLink RX5 67 "TideWords$World" "idleSteps" "I", Cond.methodLink RX5 134 yX3_copyFrom, Cond.instanceMethod yX3_copyFrom, Cond.selects RX3 yX3_copyFrom yX3_copyFrom, Cond.code yX3_copyFrom cX3_copyFrom 2 none, Cond.methodLink RX3 53 yX0_copyFrom, Cond.instanceMethod yX0_copyFrom, Cond.selects RX0 yX0_copyFrom yX0_copyFrom]
def wsL_law_r8 : List Cond := [Cond.code yX0_copyFrom cX0_copyFrom 2 none, Cond.methodLink RX0 19 Lib.Math.min.name, Cond.methodLink RX0 22 arraycopyName, Cond.native arraycopyName, Cond.static arraycopyName, Cond.initialized "java/lang/System", Cond.methodLink RX5 138 yX1_copyFrom, Cond.instanceMethod yX1_copyFrom, Cond.selects RX1 yX1_copyFrom yX1_copyFrom, Cond.code yX1_copyFrom cX1_copyFrom 2 none, Cond.methodLink RX1 65 yX0_copyFrom, Cond.methodLink RX5 141 yX4_copyFrom, Cond.instanceMethod yX4_copyFrom, Cond.selects RX4 yX4_copyFrom yX4_copyFrom, Cond.code yX4_copyFrom cX4_copyFrom 2 none, Cond.fieldLink RX4 38 "TideWords$Words" "total" "I", Cond.methodLink RX4 70 yX0_copyFrom, Cond.methodLink RX6 60 yX3_change, Cond.methodLink RX6 70 yX3_levelAt, Cond.instanceMethod yX3_levelAt, Cond.selects RX3 yX3_levelAt yX3_levelAt, Cond.code yX3_levelAt cX3_levelAt 6 (some .int), Cond.methodLink RX3 41 Lib.Math.min.name, Cond.methodLink RX3 37 yX0_get]
def wsL_law_r9 : List Cond := [Cond.instanceMethod yX0_get, Cond.selects RX0 yX0_get yX0_get, Cond.code yX0_get cX0_get 2 (some .int), Cond.methodLink RL 17 yX7_tide, Cond.instanceMethod yX7_tide, Cond.selects RX7 yX7_tide yX7_tide, Cond.code yX7_tide cX7_tide 5 (some .int), Cond.methodLink RX7 89 yX7_isStore, Cond.static yX7_isStore, Cond.code yX7_isStore cX7_isStore 1 (some .boolean), Cond.methodLink RX7 36 yX7_in, Cond.static yX7_in, Cond.code yX7_in cX7_in 3 (some .boolean), Cond.methodLink RX7 92 yX7_record, Cond.instanceMethod yX7_record, Cond.selects RX7 yX7_record yX7_record, Cond.code yX7_record cX7_record 2 none, Cond.fieldLink RX7 40 "TideWordsModel" "kept" "I", Cond.methodLink RX7 44 yX7_level, Cond.instanceMethod yX7_level, Cond.selects RX7 yX7_level yX7_level, Cond.code yX7_level cX7_level 6 (some .int), Cond.methodLink RL 18 yX6_gauge, Cond.instanceMethod yX6_gauge]
def wsL_law_r10 : List Cond := [Cond.selects RX6 yX6_gauge yX6_gauge, Cond.code yX6_gauge cX6_gauge 4 (some .int), Cond.fieldLink RX6 74 "TideWords$Tides" "lies" "LTideWords$Cells;", Cond.methodLink RX6 77 yX0_get, Cond.methodLink RX6 81 yX0_set, Cond.methodLink RL 22 yX7_gauge, Cond.instanceMethod yX7_gauge, Cond.selects RX7 yX7_gauge yX7_gauge, Cond.code yX7_gauge cX7_gauge 3 (some .int), Cond.methodLink RX7 95 yX7_lays, Cond.instanceMethod yX7_lays, Cond.selects RX7 yX7_lays yX7_lays, Cond.code yX7_lays cX7_lays 4 (some .int), Cond.methodLink RL 23 yX6_gate, Cond.instanceMethod yX6_gate, Cond.selects RX6 yX6_gate yX6_gate, Cond.code yX6_gate cX6_gate 6 (some .int), Cond.fieldLink RX6 88 "TideWords$World" "gates" "LTideWords$Gates;", Cond.fieldLink RX6 97 "TideWords$Gates" "sides" "LTideWords$Cells;", Cond.fieldLink RX6 100 "TideWords$Gates" "slacks" "LTideWords$Cells;", Cond.methodLink RX6 85 yX6_isGate, Cond.static yX6_isGate, Cond.code yX6_isGate cX6_isGate 1 (some .boolean), Cond.methodLink RX6 92 yX1_hasWord]
def wsL_law_r11 : List Cond := [Cond.instanceMethod yX1_hasWord, Cond.selects RX1 yX1_hasWord yX1_hasWord, Cond.code yX1_hasWord cX1_hasWord 2 (some .boolean), Cond.methodLink RX1 49 yX0_get, Cond.methodLink RX6 103 yX1_change, Cond.methodLink RL 26 yX7_gate, Cond.instanceMethod yX7_gate, Cond.selects RX7 yX7_gate yX7_gate, Cond.code yX7_gate cX7_gate 6 (some .int), Cond.methodLink RX7 98 yX7_isGate, Cond.static yX7_isGate, Cond.code yX7_isGate cX7_isGate 1 (some .boolean), Cond.methodLink RL 27 yX6_shut, Cond.instanceMethod yX6_shut, Cond.selects RX6 yX6_shut yX6_shut, Cond.code yX6_shut cX6_shut 3 (some .int), Cond.fieldLink RX6 107 "TideWords$Gates" "shuts" "LTideWords$Cells;", Cond.methodLink RX6 104 yX1_isShut, Cond.instanceMethod yX1_isShut, Cond.selects RX1 yX1_isShut yX1_isShut, Cond.code yX1_isShut cX1_isShut 2 (some .boolean), Cond.methodLink RX6 110 yX0_sum, Cond.instanceMethod yX0_sum, Cond.selects RX0 yX0_sum yX0_sum]
def wsL_law_r12 : List Cond := [Cond.code yX0_sum cX0_sum 3 (some .int), Cond.methodLink RL 31 yX7_shut, Cond.instanceMethod yX7_shut, Cond.selects RX7 yX7_shut yX7_shut, Cond.code yX7_shut cX7_shut 4 (some .int), Cond.methodLink RL 32 yX6_put, Cond.instanceMethod yX6_put, Cond.selects RX6 yX6_put yX6_put, Cond.code yX6_put cX6_put 2 (some .int), Cond.fieldLink RX6 117 "TideWords$World" "words" "LTideWords$Words;", Cond.fieldLink RX6 121 "TideWords$Words" "total" "I", Cond.fieldLink RX6 132 "TideWords$Pad" "length" "I", Cond.methodLink RX6 114 yX2_faultPlace, Cond.instanceMethod yX2_faultPlace, Cond.selects RX2 yX2_faultPlace yX2_faultPlace, Cond.code yX2_faultPlace cX2_faultPlace 6 (some .int), Cond.fieldLink RX2 20 "TideWords$Pad" "length" "I", Cond.methodLink RX2 28 yX0_get, Cond.methodLink RX6 126 yX2_wordsInside, Cond.instanceMethod yX2_wordsInside, Cond.selects RX2 yX2_wordsInside yX2_wordsInside, Cond.code yX2_wordsInside cX2_wordsInside 3 (some .int), Cond.methodLink RX6 129 yX6_bringWords, Cond.instanceMethod yX6_bringWords]
def wsL_law_r13 : List Cond := [Cond.selects RX6 yX6_bringWords yX6_bringWords, Cond.code yX6_bringWords cX6_bringWords 4 none, Cond.fieldLink RX6 278 "TideWords$Pad" "codes" "LTideWords$Cells;", Cond.methodLink RX6 275 yX4_startWord, Cond.instanceMethod yX4_startWord, Cond.selects RX4 yX4_startWord yX4_startWord, Cond.code yX4_startWord cX4_startWord 3 none, Cond.methodLink RX4 42 yX0_set, Cond.methodLink RX4 46 yX4_addLast, Cond.instanceMethod yX4_addLast, Cond.selects RX4 yX4_addLast yX4_addLast, Cond.code yX4_addLast cX4_addLast 4 none, Cond.methodLink RX4 49 yX0_get, Cond.methodLink RX6 281 yX4_addLetter, Cond.instanceMethod yX4_addLetter, Cond.selects RX4 yX4_addLetter yX4_addLetter, Cond.code yX4_addLetter cX4_addLetter 4 none, Cond.methodLink RX4 53 yX0_add, Cond.instanceMethod yX0_add, Cond.selects RX0 yX0_add yX0_add, Cond.code yX0_add cX0_add 3 none, Cond.methodLink RL 36 yX7_put, Cond.instanceMethod yX7_put, Cond.selects RX7 yX7_put yX7_put]
def wsL_law_r14 : List Cond := [Cond.code yX7_put cX7_put 5 (some .int), Cond.fieldLink RX7 123 "TideWordsModel" "length" "I", Cond.methodLink RX7 147 yX7_wrong, Cond.instanceMethod yX7_wrong, Cond.selects RX7 yX7_wrong yX7_wrong, Cond.code yX7_wrong cX7_wrong 3 (some .int), Cond.methodLink RX7 144 yX7_behind, Cond.instanceMethod yX7_behind, Cond.selects RX7 yX7_behind yX7_behind, Cond.code yX7_behind cX7_behind 3 (some .int), Cond.methodLink RX7 150 yX7_told, Cond.instanceMethod yX7_told, Cond.selects RX7 yX7_told yX7_told, Cond.code yX7_told cX7_told 3 (some .int), Cond.methodLink RX7 55 yX7_ofWord, Cond.static yX7_ofWord, Cond.code yX7_ofWord cX7_ofWord 2 (some .int), Cond.methodLink RX7 71 yX7_comes, Cond.instanceMethod yX7_comes, Cond.selects RX7 yX7_comes yX7_comes, Cond.code yX7_comes cX7_comes 3 none, Cond.methodLink RX7 61 yX7_inRow, Cond.static yX7_inRow, Cond.code yX7_inRow cX7_inRow 2 (some .int)]
def wsL_law_r15 : List Cond := [Cond.methodLink RL 37 yX6_run, Cond.instanceMethod yX6_run, Cond.selects RX6 yX6_run yX6_run, Cond.code yX6_run cX6_run 3 (some .int), Cond.constant RX6 135 (99999), Cond.fieldLink RX6 136 "TideWords$Gates" "passedWords" "LTideWords$Cells;", Cond.methodLink RX6 139 yX5_makeSteps, Cond.instanceMethod yX5_makeSteps, Cond.selects RX5 yX5_makeSteps yX5_makeSteps, Cond.code yX5_makeSteps cX5_makeSteps 3 none, Cond.methodLink RX5 32 yX3_gapAt, Cond.instanceMethod yX3_gapAt, Cond.selects RX3 yX3_gapAt yX3_gapAt, Cond.code yX3_gapAt cX3_gapAt 2 (some .int), Cond.methodLink RX3 50 yX3_toldAt, Cond.instanceMethod yX3_toldAt, Cond.selects RX3 yX3_toldAt yX3_toldAt, Cond.code yX3_toldAt cX3_toldAt 3 (some .int), Cond.methodLink RX3 47 yX3_levelAt, Cond.methodLink RX5 54 yX5_stepAcross, Cond.instanceMethod yX5_stepAcross, Cond.selects RX5 yX5_stepAcross yX5_stepAcross, Cond.code yX5_stepAcross cX5_stepAcross 4 none, Cond.methodLink RX5 36 yX1_isOpenAcross]
def wsL_law_r16 : List Cond := [Cond.instanceMethod yX1_isOpenAcross, Cond.selects RX1 yX1_isOpenAcross yX1_isOpenAcross, Cond.code yX1_isOpenAcross cX1_isOpenAcross 3 (some .boolean), Cond.methodLink RX1 57 Lib.Math.abs.name, Cond.static Lib.Math.abs.name, Cond.code Lib.Math.abs.name Lib.Math.abs.code 1 (some .int), Cond.methodLink RX1 53 yX1_isShut, Cond.methodLink RX5 58 yX5_takeWord, Cond.instanceMethod yX5_takeWord, Cond.selects RX5 yX5_takeWord yX5_takeWord, Cond.code yX5_takeWord cX5_takeWord 2 none, Cond.fieldLink RX5 74 "TideWords$Gates" "held" "LTideWords$Cells;", Cond.fieldLink RX5 78 "TideWords$Gates" "sides" "LTideWords$Cells;", Cond.methodLink RX5 70 yX1_hasWord, Cond.methodLink RX5 81 yX0_get, Cond.methodLink RX5 86 yX4_takeWaiting, Cond.instanceMethod yX4_takeWaiting, Cond.selects RX4 yX4_takeWaiting yX4_takeWaiting, Cond.code yX4_takeWaiting cX4_takeWaiting 5 (some .int), Cond.methodLink RX4 56 yX4_wordAt, Cond.instanceMethod yX4_wordAt, Cond.selects RX4 yX4_wordAt yX4_wordAt, Cond.code yX4_wordAt cX4_wordAt 3 (some .int), Cond.methodLink RX4 63 yX4_hasPassed]
def wsL_law_r17 : List Cond := [Cond.instanceMethod yX4_hasPassed, Cond.selects RX4 yX4_hasPassed yX4_hasPassed, Cond.code yX4_hasPassed cX4_hasPassed 2 (some .boolean), Cond.methodLink RX4 67 yX4_removeFrom, Cond.instanceMethod yX4_removeFrom, Cond.selects RX4 yX4_removeFrom yX4_removeFrom, Cond.code yX4_removeFrom cX4_removeFrom 6 none, Cond.methodLink RX5 89 yX0_set, Cond.methodLink RX5 61 yX5_passLetter, Cond.instanceMethod yX5_passLetter, Cond.selects RX5 yX5_passLetter yX5_passLetter, Cond.code yX5_passLetter cX5_passLetter 3 none, Cond.fieldLink RX5 96 "TideWords$Gates" "lettersDone" "LTideWords$Cells;", Cond.fieldLink RX5 102 "TideWords$Words" "lengths" "LTideWords$Cells;", Cond.fieldLink RX5 108 "TideWords$Gates" "passedWords" "LTideWords$Cells;", Cond.methodLink RX5 99 yX0_add, Cond.methodLink RX5 105 yX1_release, Cond.instanceMethod yX1_release, Cond.selects RX1 yX1_release yX1_release, Cond.code yX1_release cX1_release 2 none, Cond.methodLink RX5 111 yX4_markPassed, Cond.instanceMethod yX4_markPassed, Cond.selects RX4 yX4_markPassed yX4_markPassed, Cond.code yX4_markPassed cX4_markPassed 4 none]
def wsL_law_r18 : List Cond := [Cond.methodLink RX5 115 yX4_addLast, Cond.methodLink RX5 64 yX5_sendBack, Cond.instanceMethod yX5_sendBack, Cond.selects RX5 yX5_sendBack yX5_sendBack, Cond.code yX5_sendBack cX5_sendBack 3 none, Cond.fieldLink RX5 118 "TideWords$Gates" "ways" "LTideWords$Cells;", Cond.fieldLink RX5 121 "TideWords$Gates" "vainLetters" "LTideWords$Cells;", Cond.fieldLink RX5 124 "TideWords$Words" "timesBack" "LTideWords$Cells;", Cond.methodLink RX5 127 yX4_addFirst, Cond.instanceMethod yX4_addFirst, Cond.selects RX4 yX4_addFirst yX4_addFirst, Cond.code yX4_addFirst cX4_addFirst 6 none, Cond.methodLink RL 40 yX7_run, Cond.instanceMethod yX7_run, Cond.selects RX7 yX7_run yX7_run, Cond.code yX7_run cX7_run 3 (some .int), Cond.constant RX7 101 (99999), Cond.methodLink RX7 102 yX7_passedWords, Cond.instanceMethod yX7_passedWords, Cond.selects RX7 yX7_passedWords yX7_passedWords, Cond.code yX7_passedWords cX7_passedWords 3 (some .int), Cond.methodLink RX7 105 yX7_runs, Cond.instanceMethod yX7_runs, Cond.selects RX7 yX7_runs yX7_runs]
def wsL_law_r19 : List Cond := [Cond.code yX7_runs cX7_runs 3 none, Cond.methodLink RX7 86 yX7_step, Cond.instanceMethod yX7_step, Cond.selects RX7 yX7_step yX7_step, Cond.code yX7_step cX7_step 2 none, Cond.methodLink RX7 78 yX7_openNow, Cond.instanceMethod yX7_openNow, Cond.selects RX7 yX7_openNow yX7_openNow, Cond.code yX7_openNow cX7_openNow 3 (some .int), Cond.methodLink RX7 51 yX7_isOpen, Cond.instanceMethod yX7_isOpen, Cond.selects RX7 yX7_isOpen yX7_isOpen, Cond.code yX7_isOpen cX7_isOpen 3 (some .boolean), Cond.methodLink RX7 47 yX7_off, Cond.instanceMethod yX7_off, Cond.selects RX7 yX7_off yX7_off, Cond.code yX7_off cX7_off 4 (some .int), Cond.methodLink RX7 82 yX7_acts, Cond.instanceMethod yX7_acts, Cond.selects RX7 yX7_acts yX7_acts, Cond.code yX7_acts cX7_acts 5 none, Cond.methodLink RX7 68 yX7_takes, Cond.instanceMethod yX7_takes, Cond.selects RX7 yX7_takes yX7_takes]
def wsL_law_r20 : List Cond := [Cond.code yX7_takes cX7_takes 5 (some .int), Cond.methodLink RX7 64 yX7_hasPassed, Cond.instanceMethod yX7_hasPassed, Cond.selects RX7 yX7_hasPassed yX7_hasPassed, Cond.code yX7_hasPassed cX7_hasPassed 2 (some .boolean), Cond.methodLink RX7 58 yX7_lettersOf, Cond.instanceMethod yX7_lettersOf, Cond.selects RX7 yX7_lettersOf yX7_lettersOf, Cond.code yX7_lettersOf cX7_lettersOf 4 (some .int), Cond.methodLink RX7 75 yX7_goesBack, Cond.instanceMethod yX7_goesBack, Cond.selects RX7 yX7_goesBack yX7_goesBack, Cond.code yX7_goesBack cX7_goesBack 4 none, Cond.methodLink RL 41 yX6_store, Cond.instanceMethod yX6_store, Cond.selects RX6 yX6_store yX6_store, Cond.code yX6_store cX6_store 3 (some .int), Cond.fieldLink RX6 142 "TideWords$Tides" "means" "LTideWords$Cells;", Cond.fieldLink RX6 145 "TideWords$Tides" "swings" "LTideWords$Cells;", Cond.fieldLink RX6 148 "TideWords$Tides" "periods" "LTideWords$Cells;", Cond.fieldLink RX6 154 "TideWords$Words" "rowLengths" "LTideWords$Cells;", Cond.methodLink RX6 151 yX3_toldAt, Cond.methodLink RX6 157 yX4_lettersInRow, Cond.instanceMethod yX4_lettersInRow]
def wsL_law_r21 : List Cond := [Cond.selects RX4 yX4_lettersInRow yX4_lettersInRow, Cond.code yX4_lettersInRow cX4_lettersInRow 5 (some .int), Cond.methodLink RX6 160 yX4_waitingInRow, Cond.instanceMethod yX4_waitingInRow, Cond.selects RX4 yX4_waitingInRow yX4_waitingInRow, Cond.code yX4_waitingInRow cX4_waitingInRow 5 (some .int), Cond.methodLink RL 44 yX7_store, Cond.instanceMethod yX7_store, Cond.selects RX7 yX7_store yX7_store, Cond.code yX7_store cX7_store 3 (some .int), Cond.methodLink RX7 108 yX7_sumOf, Cond.instanceMethod yX7_sumOf, Cond.selects RX7 yX7_sumOf yX7_sumOf, Cond.code yX7_sumOf cX7_sumOf 6 (some .int), Cond.methodLink RL 45 yX6_gateOf, Cond.instanceMethod yX6_gateOf, Cond.selects RX6 yX6_gateOf yX6_gateOf, Cond.code yX6_gateOf cX6_gateOf 3 (some .int), Cond.fieldLink RX6 163 "TideWords$Gates" "ways" "LTideWords$Cells;", Cond.fieldLink RX6 170 "TideWords$Gates" "held" "LTideWords$Cells;", Cond.fieldLink RX6 173 "TideWords$Gates" "lettersDone" "LTideWords$Cells;", Cond.fieldLink RX6 176 "TideWords$Gates" "vainLetters" "LTideWords$Cells;", Cond.methodLink RX6 166 yX5_isOpenAt, Cond.instanceMethod yX5_isOpenAt]
def wsL_law_r22 : List Cond := [Cond.selects RX5 yX5_isOpenAt yX5_isOpenAt, Cond.code yX5_isOpenAt cX5_isOpenAt 3 (some .boolean), Cond.methodLink RL 48 yX7_gateOf, Cond.instanceMethod yX7_gateOf, Cond.selects RX7 yX7_gateOf yX7_gateOf, Cond.code yX7_gateOf cX7_gateOf 3 (some .int), Cond.methodLink RL 49 yX6_word, Cond.instanceMethod yX6_word, Cond.selects RX6 yX6_word yX6_word, Cond.code yX6_word cX6_word 3 (some .int), Cond.fieldLink RX6 188 "TideWords$Words" "lengths" "LTideWords$Cells;", Cond.fieldLink RX6 194 "TideWords$Words" "passedSteps" "LTideWords$Cells;", Cond.fieldLink RX6 197 "TideWords$Words" "passedGates" "LTideWords$Cells;", Cond.fieldLink RX6 200 "TideWords$Words" "timesBack" "LTideWords$Cells;", Cond.methodLink RX6 179 yX6_isWord, Cond.instanceMethod yX6_isWord, Cond.selects RX6 yX6_isWord yX6_isWord, Cond.code yX6_isWord cX6_isWord 2 (some .boolean), Cond.methodLink RX6 182 yX5_whereIs, Cond.instanceMethod yX5_whereIs, Cond.selects RX5 yX5_whereIs yX5_whereIs, Cond.code yX5_whereIs cX5_whereIs 3 (some .int), Cond.methodLink RX5 47 yX1_gateWith, Cond.instanceMethod yX1_gateWith]
def wsL_law_r23 : List Cond := [Cond.selects RX1 yX1_gateWith yX1_gateWith, Cond.code yX1_gateWith cX1_gateWith 3 (some .int), Cond.methodLink RX5 50 yX4_placeIn, Cond.instanceMethod yX4_placeIn, Cond.selects RX4 yX4_placeIn yX4_placeIn, Cond.code yX4_placeIn cX4_placeIn 5 (some .int), Cond.methodLink RX6 185 yX4_placeOf, Cond.instanceMethod yX4_placeOf, Cond.selects RX4 yX4_placeOf yX4_placeOf, Cond.code yX4_placeOf cX4_placeOf 3 (some .int), Cond.methodLink RX4 60 yX4_placeIn, Cond.methodLink RX6 191 yX4_hasPassed, Cond.methodLink RX6 203 yX4_letterOf, Cond.instanceMethod yX4_letterOf, Cond.selects RX4 yX4_letterOf yX4_letterOf, Cond.code yX4_letterOf cX4_letterOf 4 (some .int), Cond.methodLink RL 52 yX7_word, Cond.instanceMethod yX7_word, Cond.selects RX7 yX7_word yX7_word, Cond.code yX7_word cX7_word 3 (some .int), Cond.methodLink RX7 111 yX7_isWord, Cond.instanceMethod yX7_isWord, Cond.selects RX7 yX7_isWord yX7_isWord, Cond.code yX7_isWord cX7_isWord 2 (some .boolean)]
def wsL_law_r24 : List Cond := [Cond.methodLink RX7 114 yX7_whereIs, Cond.instanceMethod yX7_whereIs, Cond.selects RX7 yX7_whereIs yX7_whereIs, Cond.code yX7_whereIs cX7_whereIs 4 (some .int), Cond.methodLink RX7 117 yX7_letterOf, Cond.instanceMethod yX7_letterOf, Cond.selects RX7 yX7_letterOf yX7_letterOf, Cond.code yX7_letterOf cX7_letterOf 5 (some .int), Cond.methodLink RL 53 yX6_at, Cond.instanceMethod yX6_at, Cond.selects RX6 yX6_at yX6_at, Cond.code yX6_at cX6_at 3 (some .int), Cond.methodLink RX6 206 yX4_wordAt, Cond.methodLink RL 56 yX7_at, Cond.instanceMethod yX7_at, Cond.selects RX7 yX7_at yX7_at, Cond.code yX7_at cX7_at 3 (some .int), Cond.methodLink RL 57 yX6_count, Cond.instanceMethod yX6_count, Cond.selects RX6 yX6_count yX6_count, Cond.code yX6_count cX6_count 2 (some .int), Cond.fieldLink RX6 210 "TideWords$World" "letters" "I", Cond.fieldLink RX6 216 "TideWords$World" "idleSteps" "I", Cond.methodLink RX6 209 yX1_wordsInside]
def wsL_law_r25 : List Cond := [Cond.instanceMethod yX1_wordsInside, Cond.selects RX1 yX1_wordsInside yX1_wordsInside, Cond.code yX1_wordsInside cX1_wordsInside 3 (some .int), Cond.methodLink RX1 62 yX1_hasWord, Cond.methodLink RX6 213 yX5_openMask, Cond.instanceMethod yX5_openMask, Cond.selects RX5 yX5_openMask yX5_openMask, Cond.code yX5_openMask cX5_openMask 3 (some .int), Cond.methodLink RX5 44 yX5_isOpenAt, Cond.methodLink RL 60 yX7_count, Cond.instanceMethod yX7_count, Cond.selects RX7 yX7_count yX7_count, Cond.code yX7_count cX7_count 2 (some .int), Cond.methodLink RX7 120 yX7_inGates, Cond.instanceMethod yX7_inGates, Cond.selects RX7 yX7_inGates yX7_inGates, Cond.code yX7_inGates cX7_inGates 3 (some .int), Cond.methodLink RL 61 yX6_untilOpen, Cond.instanceMethod yX6_untilOpen, Cond.selects RX6 yX6_untilOpen yX6_untilOpen, Cond.code yX6_untilOpen cX6_untilOpen 2 (some .int), Cond.methodLink RX6 222 yX5_stepsUntilOpen, Cond.instanceMethod yX5_stepsUntilOpen, Cond.selects RX5 yX5_stepsUntilOpen yX5_stepsUntilOpen]
def wsL_law_r26 : List Cond := [Cond.code yX5_stepsUntilOpen cX5_stepsUntilOpen 3 (some .int), Cond.methodLink RL 64 yX7_untilOpen, Cond.instanceMethod yX7_untilOpen, Cond.selects RX7 yX7_untilOpen yX7_untilOpen, Cond.code yX7_untilOpen cX7_untilOpen 2 (some .int), Cond.methodLink RX7 126 yX7_opensIn, Cond.instanceMethod yX7_opensIn, Cond.selects RX7 yX7_opensIn yX7_opensIn, Cond.code yX7_opensIn cX7_opensIn 3 (some .int), Cond.methodLink RL 65 yX6_openFor, Cond.instanceMethod yX6_openFor, Cond.selects RX6 yX6_openFor yX6_openFor, Cond.code yX6_openFor cX6_openFor 3 (some .int), Cond.methodLink RX6 225 yX5_openStepsFrom, Cond.instanceMethod yX5_openStepsFrom, Cond.selects RX5 yX5_openStepsFrom yX5_openStepsFrom, Cond.code yX5_openStepsFrom cX5_openStepsFrom 4 (some .int), Cond.methodLink RL 68 yX7_openFor, Cond.instanceMethod yX7_openFor, Cond.selects RX7 yX7_openFor yX7_openFor, Cond.code yX7_openFor cX7_openFor 4 (some .int), Cond.methodLink RL 69 yX6_untilPassed, Cond.instanceMethod yX6_untilPassed, Cond.selects RX6 yX6_untilPassed yX6_untilPassed]
def wsL_law_r27 : List Cond := [Cond.code yX6_untilPassed cX6_untilPassed 3 (some .int), Cond.methodLink RL 72 yX7_untilPassed, Cond.instanceMethod yX7_untilPassed, Cond.selects RX7 yX7_untilPassed yX7_untilPassed, Cond.code yX7_untilPassed cX7_untilPassed 4 (some .int), Cond.methodLink RX7 129 yX7_putAside, Cond.instanceMethod yX7_putAside, Cond.selects RX7 yX7_putAside yX7_putAside, Cond.code yX7_putAside cX7_putAside 2 none, Cond.methodLink RX7 132 yX7_putBack, Cond.instanceMethod yX7_putBack, Cond.selects RX7 yX7_putBack yX7_putBack, Cond.code yX7_putBack cX7_putBack 2 none, Cond.methodLink RL 73 yX6_ifRun, Cond.instanceMethod yX6_ifRun, Cond.selects RX6 yX6_ifRun yX6_ifRun, Cond.code yX6_ifRun cX6_ifRun 3 (some .int), Cond.methodLink RX6 232 yX5_tally, Cond.instanceMethod yX5_tally, Cond.selects RX5 yX5_tally yX5_tally, Cond.code yX5_tally cX5_tally 2 (some .int), Cond.methodLink RX5 130 yX0_sum, Cond.methodLink RL 76 yX7_ifRun, Cond.instanceMethod yX7_ifRun]
def wsL_law_r28 : List Cond := [Cond.selects RX7 yX7_ifRun yX7_ifRun, Cond.code yX7_ifRun cX7_ifRun 5 (some .int), Cond.methodLink RX7 135 yX7_backs, Cond.instanceMethod yX7_backs, Cond.selects RX7 yX7_backs yX7_backs, Cond.code yX7_backs cX7_backs 3 (some .int), Cond.methodLink RL 77 yX6_leastSlack, Cond.instanceMethod yX6_leastSlack, Cond.selects RX6 yX6_leastSlack yX6_leastSlack, Cond.code yX6_leastSlack cX6_leastSlack 8 (some .int), Cond.methodLink RX6 235 yX6_findGapsAhead, Cond.instanceMethod yX6_findGapsAhead, Cond.selects RX6 yX6_findGapsAhead yX6_findGapsAhead, Cond.code yX6_findGapsAhead cX6_findGapsAhead 2 none, Cond.methodLink RX6 286 yX3_gapAt, Cond.methodLink RX6 238 yX6_wordsPassingWith, Cond.instanceMethod yX6_wordsPassingWith, Cond.selects RX6 yX6_wordsPassingWith yX6_wordsPassingWith, Cond.code yX6_wordsPassingWith cX6_wordsPassingWith 4 (some .int), Cond.methodLink RX6 292 yX5_stepAcross, Cond.methodLink RX6 241 yX6_hasGapAhead, Cond.instanceMethod yX6_hasGapAhead, Cond.selects RX6 yX6_hasGapAhead yX6_hasGapAhead, Cond.code yX6_hasGapAhead cX6_hasGapAhead 3 (some .boolean)]
def wsL_law_r29 : List Cond := [Cond.methodLink RX6 289 Lib.Math.abs.name, Cond.methodLink RL 80 yX7_leastSlack, Cond.instanceMethod yX7_leastSlack, Cond.selects RX7 yX7_leastSlack yX7_leastSlack, Cond.code yX7_leastSlack cX7_leastSlack 8 (some .int), Cond.methodLink RL 81 yX6_bestLie, Cond.instanceMethod yX6_bestLie, Cond.selects RX6 yX6_bestLie yX6_bestLie, Cond.code yX6_bestLie cX6_bestLie 8 (some .int), Cond.methodLink RX6 244 yX6_openStepsWith, Cond.instanceMethod yX6_openStepsWith, Cond.selects RX6 yX6_openStepsWith yX6_openStepsWith, Cond.code yX6_openStepsWith cX6_openStepsWith 9 (some .int), Cond.methodLink RL 84 yX7_bestLie, Cond.instanceMethod yX7_bestLie, Cond.selects RX7 yX7_bestLie yX7_bestLie, Cond.code yX7_bestLie cX7_bestLie 8 (some .int), Cond.methodLink RX7 138 yX7_opensWith, Cond.instanceMethod yX7_opensWith, Cond.selects RX7 yX7_opensWith yX7_opensWith, Cond.code yX7_opensWith cX7_opensWith 7 (some .int), Cond.methodLink RL 87 yX6_write, Cond.instanceMethod yX6_write, Cond.selects RX6 yX6_write yX6_write]
def wsL_law_r30 : List Cond := [Cond.code yX6_write cX6_write 5 (some .int), Cond.methodLink RX6 248 yX6_codesIn, Cond.static yX6_codesIn, Cond.code yX6_codesIn cX6_codesIn 6 (some .int), Cond.constantLong RX6 284 (255), Cond.methodLink RX6 252 yX6_codeAt, Cond.static yX6_codeAt, Cond.code yX6_codeAt cX6_codeAt 3 (some .int), Cond.methodLink RX6 256 yX2_append, Cond.instanceMethod yX2_append, Cond.selects RX2 yX2_append yX2_append, Cond.code yX2_append cX2_append 2 none, Cond.methodLink RX2 24 yX0_set, Cond.methodLink RL 91 yX7_write, Cond.instanceMethod yX7_write, Cond.selects RX7 yX7_write yX7_write, Cond.code yX7_write cX7_write 8 (some .int), Cond.constantLong RX7 142 (255), Cond.methodLink RL 92 yX6_wipe, Cond.instanceMethod yX6_wipe, Cond.selects RX6 yX6_wipe yX6_wipe, Cond.code yX6_wipe cX6_wipe 2 (some .int), Cond.methodLink RL 96 yX7_wipe, Cond.instanceMethod yX7_wipe]
def wsL_law_r31 : List Cond := [Cond.selects RX7 yX7_wipe yX7_wipe, Cond.code yX7_wipe cX7_wipe 2 (some .int), Cond.methodLink RL 97 yX6_fault, Cond.instanceMethod yX6_fault, Cond.selects RX6 yX6_fault yX6_fault, Cond.code yX6_fault cX6_fault 1 (some .int), Cond.methodLink RL 100 yX7_fault, Cond.instanceMethod yX7_fault, Cond.selects RX7 yX7_fault yX7_fault, Cond.code yX7_fault cX7_fault 1 (some .int), Cond.methodLink RL 101 yX6_undo, Cond.instanceMethod yX6_undo, Cond.selects RX6 yX6_undo yX6_undo, Cond.code yX6_undo cX6_undo 1 (some .int), Cond.methodLink RL 104 yX7_undo, Cond.instanceMethod yX7_undo, Cond.selects RX7 yX7_undo yX7_undo, Cond.code yX7_undo cX7_undo 2 (some .int), Cond.methodLink RL 105 yX6_save, Cond.instanceMethod yX6_save, Cond.selects RX6 yX6_save yX6_save, Cond.code yX6_save cX6_save 2 (some .int), Cond.methodLink RL 108 yX7_save, Cond.instanceMethod yX7_save]
def wsL_law_r32 : List Cond := [Cond.selects RX7 yX7_save yX7_save, Cond.code yX7_save cX7_save 3 (some .int), Cond.methodLink RL 109 yX6_restore, Cond.instanceMethod yX6_restore, Cond.selects RX6 yX6_restore yX6_restore, Cond.code yX6_restore cX6_restore 2 (some .int), Cond.methodLink RL 112 yX7_restore, Cond.instanceMethod yX7_restore, Cond.selects RX7 yX7_restore yX7_restore, Cond.code yX7_restore cX7_restore 3 (some .int)]
def wsL_law : List Cond := (wsL_law_r1 ++ (wsL_law_r2 ++ (wsL_law_r3 ++ (wsL_law_r4 ++ (wsL_law_r5 ++ (wsL_law_r6 ++ (wsL_law_r7 ++ (wsL_law_r8 ++ (wsL_law_r9 ++ (wsL_law_r10 ++ (wsL_law_r11 ++ (wsL_law_r12 ++ (wsL_law_r13 ++ (wsL_law_r14 ++ (wsL_law_r15 ++ (wsL_law_r16 ++ (wsL_law_r17 ++ (wsL_law_r18 ++ (wsL_law_r19 ++ (wsL_law_r20 ++ (wsL_law_r21 ++ (wsL_law_r22 ++ (wsL_law_r23 ++ (wsL_law_r24 ++ (wsL_law_r25 ++ (wsL_law_r26 ++ (wsL_law_r27 ++ (wsL_law_r28 ++ (wsL_law_r29 ++ (wsL_law_r30 ++ (wsL_law_r31 ++ wsL_law_r32))))))))))))))))))))))))))))))) ++ wsX60 ++ wsX70 ++ wsX50 ++ wsX20 ++ wsX00 ++ wsX30 ++ wsX10 ++ wsX40 ++ ([] : List Cond)
set_option maxRecDepth 20000 in
theorem wsL_in_r1 : ∀ w ∈ wsL_law_r1, w ∈ lw_tbl := fun w h => (goodIn_p wsL_law_r1 [54, 57] (by decide +kernel) (by decide +kernel) w h).1
set_option maxRecDepth 20000 in
theorem wsL_in_r2 : ∀ w ∈ wsL_law_r2, w ∈ lw_tbl := fun w h => (goodIn_p wsL_law_r2 [62, 68] (by decide +kernel) (by decide +kernel) w h).1
set_option maxRecDepth 20000 in
theorem wsL_in_r3 : ∀ w ∈ wsL_law_r3, w ∈ lw_tbl := fun w h => (goodIn_p wsL_law_r3 [74, 78, 87, 91] (by decide +kernel) (by decide +kernel) w h).1
set_option maxRecDepth 20000 in
theorem wsL_in_r4 : ∀ w ∈ wsL_law_r4, w ∈ lw_tbl := fun w h => (goodIn_p wsL_law_r4 [113, 120, 165] (by decide +kernel) (by decide +kernel) w h).1
set_option maxRecDepth 20000 in
theorem wsL_in_r5 : ∀ w ∈ wsL_law_r5, w ∈ lw_tbl := fun w h => (goodIn_p wsL_law_r5 [231, 642] (by decide +kernel) (by decide +kernel) w h).1
set_option maxRecDepth 20000 in
theorem wsL_in_r6 : ∀ w ∈ wsL_law_r6, w ∈ lw_tbl := fun w h => (goodIn_p wsL_law_r6 [646, 649, 278, 281, 284, 288] (by decide +kernel) (by decide +kernel) w h).1
set_option maxRecDepth 20000 in
theorem wsL_in_r7 : ∀ w ∈ wsL_law_r7, w ∈ lw_tbl := fun w h => (goodIn_p wsL_law_r7 [310, 292, 295, 299, 303] (by decide +kernel) (by decide +kernel) w h).1
set_option maxRecDepth 20000 in
theorem wsL_in_r8 : ∀ w ∈ wsL_law_r8, w ∈ lw_tbl := fun w h => (goodIn_p wsL_law_r8 [307, 317, 322, 329] (by decide +kernel) (by decide +kernel) w h).1
set_option maxRecDepth 20000 in
theorem wsL_in_r9 : ∀ w ∈ wsL_law_r9, w ∈ lw_tbl := fun w h => (goodIn_p wsL_law_r9 [333, 679, 682, 685, 689, 693] (by decide +kernel) (by decide +kernel) w h).1
set_option maxRecDepth 20000 in
theorem wsL_in_r10 : ∀ w ∈ wsL_law_r10, w ∈ lw_tbl := fun w h => (goodIn_p wsL_law_r10 [338, 697, 701, 344, 347] (by decide +kernel) (by decide +kernel) w h).1
set_option maxRecDepth 20000 in
theorem wsL_in_r11 : ∀ w ∈ wsL_law_r11, w ∈ lw_tbl := fun w h => (goodIn_p wsL_law_r11 [351, 705, 708, 357, 361] (by decide +kernel) (by decide +kernel) w h).1
set_option maxRecDepth 20000 in
theorem wsL_in_r12 : ∀ w ∈ wsL_law_r12, w ∈ lw_tbl := fun w h => (goodIn_p wsL_law_r12 [365, 712, 369, 373, 378] (by decide +kernel) (by decide +kernel) w h).1
set_option maxRecDepth 20000 in
theorem wsL_in_r13 : ∀ w ∈ wsL_law_r13, w ∈ lw_tbl := fun w h => (goodIn_p wsL_law_r13 [382, 386, 391, 396, 400] (by decide +kernel) (by decide +kernel) w h).1
set_option maxRecDepth 20000 in
theorem wsL_in_r14 : ∀ w ∈ wsL_law_r14, w ∈ lw_tbl := fun w h => (goodIn_p wsL_law_r14 [880, 872, 876, 884, 724, 767, 755] (by decide +kernel) (by decide +kernel) w h).1
set_option maxRecDepth 20000 in
theorem wsL_in_r15 : ∀ w ∈ wsL_law_r15, w ∈ lw_tbl := fun w h => (goodIn_p wsL_law_r15 [404, 409, 413, 417, 422] (by decide +kernel) (by decide +kernel) w h).1
set_option maxRecDepth 20000 in
theorem wsL_in_r16 : ∀ w ∈ wsL_law_r16, w ∈ lw_tbl := fun w h => (goodIn_p wsL_law_r16 [426, 430, 434, 440, 444] (by decide +kernel) (by decide +kernel) w h).1
set_option maxRecDepth 20000 in
theorem wsL_in_r17 : ∀ w ∈ wsL_law_r17, w ∈ lw_tbl := fun w h => (goodIn_p wsL_law_r17 [448, 452, 457, 462, 466] (by decide +kernel) (by decide +kernel) w h).1
set_option maxRecDepth 20000 in
theorem wsL_in_r18 : ∀ w ∈ wsL_law_r18, w ∈ lw_tbl := fun w h => (goodIn_p wsL_law_r18 [471, 475, 716, 721] (by decide +kernel) (by decide +kernel) w h).1
set_option maxRecDepth 20000 in
theorem wsL_in_r19 : ∀ w ∈ wsL_law_r19, w ∈ lw_tbl := fun w h => (goodIn_p wsL_law_r19 [728, 732, 736, 740, 744, 748] (by decide +kernel) (by decide +kernel) w h).1
set_option maxRecDepth 20000 in
theorem wsL_in_r20 : ∀ w ∈ wsL_law_r20, w ∈ lw_tbl := fun w h => (goodIn_p wsL_law_r20 [752, 759, 763, 771, 479] (by decide +kernel) (by decide +kernel) w h).1
set_option maxRecDepth 20000 in
theorem wsL_in_r21 : ∀ w ∈ wsL_law_r21, w ∈ lw_tbl := fun w h => (goodIn_p wsL_law_r21 [484, 488, 775, 779, 492] (by decide +kernel) (by decide +kernel) w h).1
set_option maxRecDepth 20000 in
theorem wsL_in_r22 : ∀ w ∈ wsL_law_r22, w ∈ lw_tbl := fun w h => (goodIn_p wsL_law_r22 [496, 783, 500, 504, 508] (by decide +kernel) (by decide +kernel) w h).1
set_option maxRecDepth 20000 in
theorem wsL_in_r23 : ∀ w ∈ wsL_law_r23, w ∈ lw_tbl := fun w h => (goodIn_p wsL_law_r23 [512, 516, 520, 526, 787, 791] (by decide +kernel) (by decide +kernel) w h).1
set_option maxRecDepth 20000 in
theorem wsL_in_r24 : ∀ w ∈ wsL_law_r24, w ∈ lw_tbl := fun w h => (goodIn_p wsL_law_r24 [795, 799, 530, 803, 535] (by decide +kernel) (by decide +kernel) w h).1
set_option maxRecDepth 20000 in
theorem wsL_in_r25 : ∀ w ∈ wsL_law_r25, w ∈ lw_tbl := fun w h => (goodIn_p wsL_law_r25 [539, 544, 807, 811, 549] (by decide +kernel) (by decide +kernel) w h).1
set_option maxRecDepth 20000 in
theorem wsL_in_r26 : ∀ w ∈ wsL_law_r26, w ∈ lw_tbl := fun w h => (goodIn_p wsL_law_r26 [553, 815, 819, 557, 561, 823] (by decide +kernel) (by decide +kernel) w h).1
set_option maxRecDepth 20000 in
theorem wsL_in_r27 : ∀ w ∈ wsL_law_r27, w ∈ lw_tbl := fun w h => (goodIn_p wsL_law_r27 [565, 827, 831, 835, 569, 573] (by decide +kernel) (by decide +kernel) w h).1
set_option maxRecDepth 20000 in
theorem wsL_in_r28 : ∀ w ∈ wsL_law_r28, w ∈ lw_tbl := fun w h => (goodIn_p wsL_law_r28 [839, 843, 578, 582, 587, 592] (by decide +kernel) (by decide +kernel) w h).1
set_option maxRecDepth 20000 in
theorem wsL_in_r29 : ∀ w ∈ wsL_law_r29, w ∈ lw_tbl := fun w h => (goodIn_p wsL_law_r29 [847, 597, 601, 851, 855] (by decide +kernel) (by decide +kernel) w h).1
set_option maxRecDepth 20000 in
theorem wsL_in_r30 : ∀ w ∈ wsL_law_r30, w ∈ lw_tbl := fun w h => (goodIn_p wsL_law_r30 [605, 608, 612, 616, 859, 621] (by decide +kernel) (by decide +kernel) w h).1
set_option maxRecDepth 20000 in
theorem wsL_in_r31 : ∀ w ∈ wsL_law_r31, w ∈ lw_tbl := fun w h => (goodIn_p wsL_law_r31 [864, 625, 868, 629, 888, 633] (by decide +kernel) (by decide +kernel) w h).1
set_option maxRecDepth 20000 in
theorem wsL_in_r32 : ∀ w ∈ wsL_law_r32, w ∈ lw_tbl := fun w h => (goodIn_p wsL_law_r32 [892, 637, 896] (by decide +kernel) (by decide +kernel) w h).1
set_option maxRecDepth 20000 in
theorem wsL_in_wsX60 : ∀ w ∈ wsX60, w ∈ lw_tbl := fun w h => (goodIn_p wsX60 [] (by decide +kernel) (by decide +kernel) w h).1
set_option maxRecDepth 20000 in
theorem wsL_in_wsX70 : ∀ w ∈ wsX70, w ∈ lw_tbl := fun w h => (goodIn_p wsX70 [] (by decide +kernel) (by decide +kernel) w h).1
set_option maxRecDepth 20000 in
theorem wsL_in_wsX50 : ∀ w ∈ wsX50, w ∈ lw_tbl := fun w h => (goodIn_p wsX50 [] (by decide +kernel) (by decide +kernel) w h).1
set_option maxRecDepth 20000 in
theorem wsL_in_wsX20 : ∀ w ∈ wsX20, w ∈ lw_tbl := fun w h => (goodIn_p wsX20 [] (by decide +kernel) (by decide +kernel) w h).1
set_option maxRecDepth 20000 in
theorem wsL_in_wsX00 : ∀ w ∈ wsX00, w ∈ lw_tbl := fun w h => (goodIn_p wsX00 [] (by decide +kernel) (by decide +kernel) w h).1
set_option maxRecDepth 20000 in
theorem wsL_in_wsX30 : ∀ w ∈ wsX30, w ∈ lw_tbl := fun w h => (goodIn_p wsX30 [] (by decide +kernel) (by decide +kernel) w h).1
set_option maxRecDepth 20000 in
theorem wsL_in_wsX10 : ∀ w ∈ wsX10, w ∈ lw_tbl := fun w h => (goodIn_p wsX10 [] (by decide +kernel) (by decide +kernel) w h).1
set_option maxRecDepth 20000 in
theorem wsL_in_wsX40 : ∀ w ∈ wsX40, w ∈ lw_tbl := fun w h => (goodIn_p wsX40 [] (by decide +kernel) (by decide +kernel) w h).1
theorem wsL_law_in : ∀ w ∈ wsL_law, w ∈ lw_tbl := List.forall_mem_append.mpr ⟨List.forall_mem_append.mpr ⟨List.forall_mem_append.mpr ⟨List.forall_mem_append.mpr ⟨List.forall_mem_append.mpr ⟨List.forall_mem_append.mpr ⟨List.forall_mem_append.mpr ⟨List.forall_mem_append.mpr ⟨List.forall_mem_append.mpr ⟨List.forall_mem_append.mpr ⟨wsL_in_r1, List.forall_mem_append.mpr ⟨wsL_in_r2, List.forall_mem_append.mpr ⟨wsL_in_r3, List.forall_mem_append.mpr ⟨wsL_in_r4, List.forall_mem_append.mpr ⟨wsL_in_r5, List.forall_mem_append.mpr ⟨wsL_in_r6, List.forall_mem_append.mpr ⟨wsL_in_r7, List.forall_mem_append.mpr ⟨wsL_in_r8, List.forall_mem_append.mpr ⟨wsL_in_r9, List.forall_mem_append.mpr ⟨wsL_in_r10, List.forall_mem_append.mpr ⟨wsL_in_r11, List.forall_mem_append.mpr ⟨wsL_in_r12, List.forall_mem_append.mpr ⟨wsL_in_r13, List.forall_mem_append.mpr ⟨wsL_in_r14, List.forall_mem_append.mpr ⟨wsL_in_r15, List.forall_mem_append.mpr ⟨wsL_in_r16, List.forall_mem_append.mpr ⟨wsL_in_r17, List.forall_mem_append.mpr ⟨wsL_in_r18, List.forall_mem_append.mpr ⟨wsL_in_r19, List.forall_mem_append.mpr ⟨wsL_in_r20, List.forall_mem_append.mpr ⟨wsL_in_r21, List.forall_mem_append.mpr ⟨wsL_in_r22, List.forall_mem_append.mpr ⟨wsL_in_r23, List.forall_mem_append.mpr ⟨wsL_in_r24, List.forall_mem_append.mpr ⟨wsL_in_r25, List.forall_mem_append.mpr ⟨wsL_in_r26, List.forall_mem_append.mpr ⟨wsL_in_r27, List.forall_mem_append.mpr ⟨wsL_in_r28, List.forall_mem_append.mpr ⟨wsL_in_r29, List.forall_mem_append.mpr ⟨wsL_in_r30, List.forall_mem_append.mpr ⟨wsL_in_r31, wsL_in_r32⟩⟩⟩⟩⟩⟩⟩⟩⟩⟩⟩⟩⟩⟩⟩⟩⟩⟩⟩⟩⟩⟩⟩⟩⟩⟩⟩⟩⟩⟩⟩, wsL_in_wsX60⟩, wsL_in_wsX70⟩, wsL_in_wsX50⟩, wsL_in_wsX20⟩, wsL_in_wsX00⟩, wsL_in_wsX30⟩, wsL_in_wsX10⟩, wsL_in_wsX40⟩, fun _ h => absurd h List.not_mem_nil⟩
theorem inlX0 : ∀ w ∈ wsX00, w ∈ wsL_law := fun _ h => List.mem_append_left _ (List.mem_append_left _ (List.mem_append_left _ (List.mem_append_left _ (List.mem_append_right _ h))))
theorem inX0 : ∀ w ∈ wsX00, w ∈ lw_tbl := fun w h => wsL_law_in w (inlX0 w h)
theorem inlX1 : ∀ w ∈ wsX10, w ∈ wsL_law := fun _ h => List.mem_append_left _ (List.mem_append_left _ (List.mem_append_right _ h))
theorem inX1 : ∀ w ∈ wsX10, w ∈ lw_tbl := fun w h => wsL_law_in w (inlX1 w h)
theorem inlX2 : ∀ w ∈ wsX20, w ∈ wsL_law := fun _ h => List.mem_append_left _ (List.mem_append_left _ (List.mem_append_left _ (List.mem_append_left _ (List.mem_append_left _ (List.mem_append_right _ h)))))
theorem inX2 : ∀ w ∈ wsX20, w ∈ lw_tbl := fun w h => wsL_law_in w (inlX2 w h)
theorem inlX3 : ∀ w ∈ wsX30, w ∈ wsL_law := fun _ h => List.mem_append_left _ (List.mem_append_left _ (List.mem_append_left _ (List.mem_append_right _ h)))
theorem inX3 : ∀ w ∈ wsX30, w ∈ lw_tbl := fun w h => wsL_law_in w (inlX3 w h)
theorem inlX4 : ∀ w ∈ wsX40, w ∈ wsL_law := fun _ h => List.mem_append_left _ (List.mem_append_right _ h)
theorem inX4 : ∀ w ∈ wsX40, w ∈ lw_tbl := fun w h => wsL_law_in w (inlX4 w h)
theorem inlX5 : ∀ w ∈ wsX50, w ∈ wsL_law := fun _ h => List.mem_append_left _ (List.mem_append_left _ (List.mem_append_left _ (List.mem_append_left _ (List.mem_append_left _ (List.mem_append_left _ (List.mem_append_right _ h))))))
theorem inX5 : ∀ w ∈ wsX50, w ∈ lw_tbl := fun w h => wsL_law_in w (inlX5 w h)
theorem inlX6 : ∀ w ∈ wsX60, w ∈ wsL_law := fun _ h => List.mem_append_left _ (List.mem_append_left _ (List.mem_append_left _ (List.mem_append_left _ (List.mem_append_left _ (List.mem_append_left _ (List.mem_append_left _ (List.mem_append_left _ (List.mem_append_right _ h))))))))
theorem inX6 : ∀ w ∈ wsX60, w ∈ lw_tbl := fun w h => wsL_law_in w (inlX6 w h)
theorem inlX7 : ∀ w ∈ wsX70, w ∈ wsL_law := fun _ h => List.mem_append_left _ (List.mem_append_left _ (List.mem_append_left _ (List.mem_append_left _ (List.mem_append_left _ (List.mem_append_left _ (List.mem_append_left _ (List.mem_append_right _ h)))))))
theorem inX7 : ∀ w ∈ wsX70, w ∈ lw_tbl := fun w h => wsL_law_in w (inlX7 w h)
theorem inJ9 : ∀ w ∈ wsJ90, w ∈ lw_tbl := by decide +kernel
theorem inJ10 : ∀ w ∈ wsJ100, w ∈ lw_tbl := by decide +kernel
set_option maxRecDepth 20000 in
theorem ggL_law_X6_init : GoodIn wsL_law wsX6_init := goodIn_r _ [9, 10, 11, 12, 13, 14, 15, 16, 17, 18, 19, 20, 21, 22, 23, 24, 25, 26, 27, 28, 29, 30, 31, 32, 33, 34, 35, 36, 37, 38, 39, 40, 41, 42, 43, 44, 45, 46, 47, 48, 49, 50, 51, 52, 53, 54, 55, 56, 57, 58, 59, 60, 61, 62, 63, 64, 65, 66, 67, 68, 69, 70, 71, 72, 73, 74, 75, 76, 77, 78, 79, 80, 81, 82, 83, 84, 85, 86, 87, 88, 89, 90, 91, 92, 93, 94, 95, 96, 97, 98, 99, 100, 101, 102, 103, 104, 105, 106, 107, 108, 771, 772, 773, 774, 775, 776, 754, 755, 756, 757, 758, 759, 760, 761, 762, 777, 778, 779, 780, 781, 782, 783, 784, 785, 786, 787, 788, 789, 790, 791, 792, 793, 794, 795, 796, 797, 798, 799] (by decide +kernel) (by decide +kernel)
set_option maxRecDepth 20000 in
theorem gL_law_X6_init : GoodIn wsL_law (wsX6_init) := ggL_law_X6_init
set_option maxRecDepth 20000 in
theorem ggL_law_X7_init : GoodIn wsL_law wsX7_init := goodIn_r _ [111, 112, 11, 12, 61, 113, 114, 115, 116, 117, 118, 119, 120, 121, 5, 122, 123, 124, 125, 763, 764, 765, 766, 767, 768, 769, 770] (by decide +kernel) (by decide +kernel)
set_option maxRecDepth 20000 in
theorem gL_law_X7_init : GoodIn wsL_law (wsX7_init) := ggL_law_X7_init
set_option maxRecDepth 20000 in
theorem ggL_law_X6_tide : GoodIn wsL_law wsX6_tide := goodIn_r _ [129, 16, 130, 131, 132, 133, 2, 134, 135, 136, 137, 138, 139, 140, 141, 22, 142, 143, 144, 145, 59, 146, 147, 148, 149, 150, 151, 152, 153, 154, 155, 156, 15, 157, 35, 39, 43, 158, 159, 160, 161, 162, 163, 34, 164, 49, 50, 51, 52, 165, 166, 167, 26, 168, 62, 169, 170, 171, 172, 173, 174, 175, 176, 38, 177, 76, 77, 78, 79, 80, 81, 82, 83, 178, 179, 180, 181, 42, 182, 94, 95, 96, 97, 98, 99, 100, 183, 184, 185, 64, 65, 66, 67, 68, 69, 70, 186, 187, 188, 189, 190, 191, 192, 193, 194, 754, 755, 756, 757, 758, 759, 760, 761, 762, 771, 772, 773, 774, 775, 776, 780, 781, 782, 783, 779, 784, 785, 786, 787, 788, 789, 790, 791, 792, 793, 794, 795, 796, 797, 798, 799] (by decide +kernel) (by decide +kernel)
set_option maxRecDepth 20000 in
theorem gL_law_X6_tide : GoodIn wsL_law (wsV RL 13 RX6 yX6_tide wsX6_tide) := goodIn_app (goodIn_of _ (by decide +kernel)) ggL_law_X6_tide
set_option maxRecDepth 20000 in
theorem ggL_law_X7_tide : GoodIn wsL_law wsX7_tide := goodIn_r _ [198, 113, 199, 200, 5, 201, 202, 203, 204, 205, 206, 207, 208, 209, 115, 120, 121, 122, 210, 211, 212, 213, 763, 764, 765, 766, 767, 768, 769, 770] (by decide +kernel) (by decide +kernel)
set_option maxRecDepth 20000 in
theorem gL_law_X7_tide : GoodIn wsL_law (wsV RL 17 RX7 yX7_tide wsX7_tide) := goodIn_app (goodIn_of _ (by decide +kernel)) ggL_law_X7_tide
set_option maxRecDepth 20000 in
theorem ggL_law_X6_gauge : GoodIn wsL_law wsX6_gauge := goodIn_r _ [217, 16, 130, 218, 132, 133, 2, 134, 135, 136, 137, 138, 139, 140, 141, 22, 142, 143, 144, 145, 59, 146, 147, 148, 149, 150, 151, 152, 153, 154, 155, 156, 15, 157, 35, 39, 43, 158, 159, 160, 161, 162, 163, 34, 164, 49, 50, 51, 52, 165, 166, 167, 26, 168, 62, 169, 170, 171, 172, 173, 174, 175, 176, 38, 177, 76, 77, 78, 79, 80, 81, 82, 83, 178, 179, 180, 181, 42, 182, 94, 95, 96, 97, 98, 99, 100, 183, 184, 219, 192, 193, 194, 220, 68, 69, 70, 754, 755, 756, 757, 758, 759, 760, 761, 762, 771, 772, 773, 774, 775, 776, 780, 781, 782, 783, 779, 784, 785, 786, 787, 788, 789, 790, 791, 792, 793, 794, 795, 796, 797, 798, 799] (by decide +kernel) (by decide +kernel)
set_option maxRecDepth 20000 in
theorem gL_law_X6_gauge : GoodIn wsL_law (wsV RL 18 RX6 yX6_gauge wsX6_gauge) := goodIn_app (goodIn_of _ (by decide +kernel)) ggL_law_X6_gauge
set_option maxRecDepth 20000 in
theorem ggL_law_X7_gauge : GoodIn wsL_law wsX7_gauge := goodIn_r _ [224, 199, 200, 5, 201, 202, 203, 204, 120, 121, 122, 225, 226, 227, 228, 113, 205, 206, 207, 208, 209, 115, 763, 764, 765, 766, 767, 768, 769, 770] (by decide +kernel) (by decide +kernel)
set_option maxRecDepth 20000 in
theorem gL_law_X7_gauge : GoodIn wsL_law (wsV RL 22 RX7 yX7_gauge wsX7_gauge) := goodIn_app (goodIn_of _ (by decide +kernel)) ggL_law_X7_gauge
set_option maxRecDepth 20000 in
theorem ggL_law_X6_gate : GoodIn wsL_law wsX6_gate := goodIn_r _ [232, 16, 233, 234, 235, 236, 237, 2, 238, 135, 136, 137, 239, 240, 241, 38, 242, 80, 243, 192, 193, 26, 194, 62, 219, 138, 139, 140, 141, 22, 142, 143, 144, 145, 59, 146, 147, 148, 149, 150, 151, 152, 153, 154, 155, 156, 15, 157, 35, 39, 43, 158, 159, 160, 161, 162, 163, 34, 164, 49, 50, 51, 52, 165, 166, 167, 168, 169, 170, 171, 172, 173, 174, 175, 176, 177, 76, 77, 78, 79, 81, 82, 83, 178, 179, 180, 181, 42, 182, 94, 95, 96, 97, 98, 99, 100, 183, 184, 244, 86, 87, 88, 89, 68, 69, 70, 754, 755, 756, 757, 758, 759, 760, 761, 762, 771, 772, 773, 774, 775, 776, 784, 785, 786, 787, 788, 789, 790, 791, 779, 780, 781, 782, 783, 792, 793, 794, 795, 796, 797, 798, 799] (by decide +kernel) (by decide +kernel)
set_option maxRecDepth 20000 in
theorem gL_law_X6_gate : GoodIn wsL_law (wsV RL 23 RX6 yX6_gate wsX6_gate) := goodIn_app (goodIn_of _ (by decide +kernel)) ggL_law_X6_gate
set_option maxRecDepth 20000 in
theorem ggL_law_X7_gate : GoodIn wsL_law wsX7_gate := goodIn_r _ [248, 113, 249, 250, 5, 251, 202, 203, 204, 123, 124, 125, 225, 226, 227, 228, 205, 206, 207, 208, 209, 115, 763, 764, 765, 766, 767, 768, 769, 770] (by decide +kernel) (by decide +kernel)
set_option maxRecDepth 20000 in
theorem gL_law_X7_gate : GoodIn wsL_law (wsV RL 26 RX7 yX7_gate wsX7_gate) := goodIn_app (goodIn_of _ (by decide +kernel)) ggL_law_X7_gate
set_option maxRecDepth 20000 in
theorem ggL_law_X6_shut : GoodIn wsL_law wsX6_shut := goodIn_r _ [255, 16, 233, 256, 236, 237, 2, 238, 135, 136, 137, 257, 258, 259, 38, 260, 79, 243, 192, 193, 26, 194, 62, 138, 139, 140, 141, 22, 142, 143, 144, 145, 59, 146, 147, 148, 149, 150, 151, 152, 153, 154, 155, 156, 15, 157, 35, 39, 43, 158, 159, 160, 161, 162, 163, 34, 164, 49, 50, 51, 52, 165, 166, 167, 168, 169, 170, 171, 172, 173, 174, 175, 176, 177, 76, 77, 78, 80, 81, 82, 83, 178, 179, 180, 181, 42, 182, 94, 95, 96, 97, 98, 99, 100, 183, 184, 220, 68, 69, 70, 261, 262, 263, 264, 754, 755, 756, 757, 758, 759, 760, 761, 762, 771, 772, 773, 774, 775, 776, 784, 785, 786, 787, 788, 789, 790, 791, 779, 780, 781, 782, 783, 792, 793, 794, 795, 796, 797, 798, 799] (by decide +kernel) (by decide +kernel)
set_option maxRecDepth 20000 in
theorem gL_law_X6_shut : GoodIn wsL_law (wsV RL 27 RX6 yX6_shut wsX6_shut) := goodIn_app (goodIn_of _ (by decide +kernel)) ggL_law_X6_shut
set_option maxRecDepth 20000 in
theorem ggL_law_X7_shut : GoodIn wsL_law wsX7_shut := goodIn_r _ [268, 113, 249, 250, 5, 251, 202, 203, 204, 123, 124, 125, 225, 226, 227, 228, 205, 206, 207, 208, 209, 115, 763, 764, 765, 766, 767, 768, 769, 770] (by decide +kernel) (by decide +kernel)
set_option maxRecDepth 20000 in
theorem gL_law_X7_shut : GoodIn wsL_law (wsV RL 31 RX7 yX7_shut wsX7_shut) := goodIn_app (goodIn_of _ (by decide +kernel)) ggL_law_X7_shut
set_option maxRecDepth 20000 in
theorem ggL_law_X6_put : GoodIn wsL_law wsX6_put := goodIn_r _ [272, 21, 16, 273, 274, 275, 132, 133, 2, 134, 135, 136, 137, 276, 277, 278, 20, 279, 280, 106, 281, 192, 193, 26, 194, 62, 282, 283, 284, 285, 138, 139, 140, 141, 22, 142, 143, 144, 145, 59, 146, 147, 148, 149, 150, 151, 152, 153, 154, 155, 156, 15, 157, 35, 39, 43, 158, 159, 160, 161, 162, 163, 34, 164, 49, 50, 51, 52, 165, 166, 167, 168, 169, 170, 171, 172, 173, 174, 175, 176, 38, 177, 76, 77, 78, 79, 80, 81, 82, 83, 178, 179, 180, 181, 42, 182, 94, 95, 96, 97, 98, 99, 100, 183, 184, 286, 287, 288, 289, 290, 291, 292, 293, 294, 295, 68, 69, 70, 296, 297, 298, 299, 300, 219, 301, 302, 303, 304, 305, 306, 307, 308, 754, 755, 756, 757, 758, 759, 760, 761, 762, 771, 772, 773, 774, 775, 776, 792, 793, 794, 795, 796, 797, 798, 799, 777, 778, 779, 780, 781, 782, 783, 784, 785, 786, 787, 788, 789, 790, 791] (by decide +kernel) (by decide +kernel)
set_option maxRecDepth 20000 in
theorem gL_law_X6_put : GoodIn wsL_law (wsV RL 32 RX6 yX6_put wsX6_put) := goodIn_app (goodIn_of _ (by decide +kernel)) ggL_law_X6_put
set_option maxRecDepth 20000 in
theorem ggL_law_X7_put : GoodIn wsL_law wsX7_put := goodIn_r _ [312, 113, 313, 119, 199, 200, 5, 201, 202, 203, 204, 314, 315, 316, 317, 318, 319, 320, 321, 322, 323, 324, 325, 205, 206, 207, 208, 209, 115, 326, 327, 328, 329, 330, 331, 332, 333, 334, 335, 763, 764, 765, 766, 767, 768, 769, 770] (by decide +kernel) (by decide +kernel)
set_option maxRecDepth 20000 in
theorem gL_law_X7_put : GoodIn wsL_law (wsV RL 36 RX7 yX7_put wsX7_put) := goodIn_app (goodIn_of _ (by decide +kernel)) ggL_law_X7_put
set_option maxRecDepth 20000 in
theorem ggL_law_X6_run : GoodIn wsL_law wsX6_run := goodIn_r _ [339, 16, 131, 340, 233, 341, 135, 136, 2, 137, 138, 139, 140, 141, 22, 142, 143, 144, 145, 59, 146, 147, 148, 149, 150, 151, 152, 153, 154, 155, 156, 15, 157, 35, 39, 43, 158, 159, 160, 161, 162, 163, 34, 164, 49, 50, 51, 52, 165, 166, 167, 26, 168, 62, 169, 170, 171, 172, 173, 174, 175, 176, 38, 177, 76, 77, 78, 79, 80, 81, 82, 83, 178, 179, 180, 181, 42, 182, 94, 95, 96, 97, 98, 99, 100, 183, 184, 261, 262, 263, 264, 342, 343, 344, 345, 346, 347, 348, 349, 350, 351, 352, 353, 354, 187, 188, 189, 190, 191, 192, 193, 194, 355, 356, 357, 358, 359, 360, 361, 362, 363, 364, 365, 366, 258, 259, 260, 243, 367, 368, 369, 370, 371, 372, 373, 240, 241, 242, 374, 375, 376, 377, 378, 300, 379, 380, 381, 382, 383, 384, 385, 386, 387, 388, 389, 390, 295, 68, 69, 70, 391, 392, 393, 394, 395, 396, 397, 398, 399, 306, 307, 308, 400, 401, 402, 403, 89, 404, 405, 406, 407, 408, 297, 298, 299, 409, 410, 411, 412, 413, 414, 415, 416, 417, 418, 419, 754, 755, 756, 757, 758, 759, 760, 761, 762, 771, 772, 773, 774, 775, 776, 784, 785, 786, 787, 788, 789, 790, 791, 780, 781, 782, 783, 779, 792, 793, 794, 795, 796, 797, 798, 799] (by decide +kernel) (by decide +kernel)
set_option maxRecDepth 20000 in
theorem gL_law_X6_run : GoodIn wsL_law (wsV RL 37 RX6 yX6_run wsX6_run) := goodIn_app (goodIn_of _ (by decide +kernel)) ggL_law_X6_run
set_option maxRecDepth 20000 in
theorem ggL_law_X7_run : GoodIn wsL_law wsX7_run := goodIn_r _ [423, 113, 424, 202, 203, 5, 204, 205, 206, 207, 208, 209, 115, 425, 426, 427, 428, 326, 327, 328, 429, 430, 431, 432, 433, 434, 435, 436, 437, 438, 439, 440, 441, 442, 443, 444, 123, 124, 125, 445, 446, 447, 448, 210, 211, 212, 213, 120, 121, 122, 449, 450, 451, 452, 453, 454, 455, 456, 333, 334, 335, 457, 458, 459, 460, 461, 462, 463, 464, 329, 330, 331, 332, 465, 466, 467, 468, 763, 764, 765, 766, 767, 768, 769, 770] (by decide +kernel) (by decide +kernel)
set_option maxRecDepth 20000 in
theorem gL_law_X7_run : GoodIn wsL_law (wsV RL 40 RX7 yX7_run wsX7_run) := goodIn_app (goodIn_of _ (by decide +kernel)) ggL_law_X7_run
set_option maxRecDepth 20000 in
theorem ggL_law_X6_store : GoodIn wsL_law wsX6_store := goodIn_r _ [472, 16, 130, 473, 474, 475, 218, 131, 273, 476, 132, 133, 2, 134, 135, 136, 137, 219, 192, 193, 26, 194, 62, 186, 187, 188, 34, 189, 51, 49, 50, 190, 145, 59, 146, 191, 477, 351, 352, 353, 52, 354, 478, 479, 480, 42, 481, 100, 94, 300, 379, 380, 381, 382, 99, 482, 483, 484, 485, 383, 384, 385, 386, 96, 754, 755, 756, 757, 758, 759, 760, 761, 762, 771, 772, 773, 774, 775, 776, 780, 781, 782, 783, 792, 793, 794, 795, 796, 797, 798, 799, 779] (by decide +kernel) (by decide +kernel)
set_option maxRecDepth 20000 in
theorem gL_law_X6_store : GoodIn wsL_law (wsV RL 41 RX6 yX6_store wsX6_store) := goodIn_app (goodIn_of _ (by decide +kernel)) ggL_law_X6_store
set_option maxRecDepth 20000 in
theorem ggL_law_X7_store : GoodIn wsL_law wsX7_store := goodIn_r _ [489, 113, 199, 200, 5, 201, 202, 203, 204, 120, 121, 122, 210, 211, 212, 213, 490, 491, 492, 493, 333, 334, 335, 461, 462, 463, 464, 326, 327, 328, 457, 458, 459, 460, 763, 764, 765, 766, 767, 768, 769, 770] (by decide +kernel) (by decide +kernel)
set_option maxRecDepth 20000 in
theorem gL_law_X7_store : GoodIn wsL_law (wsV RL 44 RX7 yX7_store wsX7_store) := goodIn_app (goodIn_of _ (by decide +kernel)) ggL_law_X7_store
set_option maxRecDepth 20000 in
theorem ggL_law_X6_gateOf : GoodIn wsL_law wsX6_gateOf := goodIn_r _ [497, 16, 233, 234, 235, 498, 256, 131, 499, 500, 341, 501, 236, 237, 2, 238, 135, 136, 137, 219, 192, 193, 26, 194, 62, 502, 503, 504, 15, 505, 39, 35, 346, 347, 348, 34, 349, 350, 351, 352, 353, 52, 354, 187, 188, 189, 51, 49, 50, 190, 145, 59, 146, 191, 359, 360, 361, 38, 362, 363, 364, 365, 77, 366, 258, 259, 260, 79, 243, 754, 755, 756, 757, 758, 759, 760, 761, 762, 771, 772, 773, 774, 775, 776, 784, 785, 786, 787, 788, 789, 790, 791, 779, 780, 781, 782, 783] (by decide +kernel) (by decide +kernel)
set_option maxRecDepth 20000 in
theorem gL_law_X6_gateOf : GoodIn wsL_law (wsV RL 45 RX6 yX6_gateOf wsX6_gateOf) := goodIn_app (goodIn_of _ (by decide +kernel)) ggL_law_X6_gateOf
set_option maxRecDepth 20000 in
theorem ggL_law_X7_gateOf : GoodIn wsL_law wsX7_gateOf := goodIn_r _ [509, 113, 249, 250, 5, 251, 202, 203, 204, 441, 442, 443, 444, 123, 124, 125, 445, 446, 447, 448, 210, 211, 212, 213, 120, 121, 122, 763, 764, 765, 766, 767, 768, 769, 770] (by decide +kernel) (by decide +kernel)
set_option maxRecDepth 20000 in
theorem gL_law_X7_gateOf : GoodIn wsL_law (wsV RL 48 RX7 yX7_gateOf wsX7_gateOf) := goodIn_app (goodIn_of _ (by decide +kernel)) ggL_law_X7_gateOf
set_option maxRecDepth 20000 in
theorem ggL_law_X6_word : GoodIn wsL_law wsX6_word := goodIn_r _ [513, 16, 273, 514, 515, 516, 517, 518, 519, 520, 2, 521, 274, 135, 136, 137, 522, 523, 524, 15, 525, 39, 43, 526, 527, 528, 38, 529, 80, 243, 192, 193, 26, 194, 62, 530, 531, 532, 42, 533, 100, 300, 379, 380, 381, 382, 99, 534, 535, 536, 537, 538, 219, 539, 384, 385, 386, 96, 540, 541, 542, 543, 94, 95, 754, 755, 756, 757, 758, 759, 760, 761, 762, 771, 772, 773, 774, 775, 776, 792, 793, 794, 795, 796, 797, 798, 799, 784, 785, 786, 787, 788, 789, 790, 791, 779] (by decide +kernel) (by decide +kernel)
set_option maxRecDepth 20000 in
theorem gL_law_X6_word : GoodIn wsL_law (wsV RL 49 RX6 yX6_word wsX6_word) := goodIn_app (goodIn_of _ (by decide +kernel)) ggL_law_X6_word
set_option maxRecDepth 20000 in
theorem ggL_law_X7_word : GoodIn wsL_law wsX7_word := goodIn_r _ [547, 113, 548, 549, 550, 5, 551, 202, 203, 204, 552, 553, 554, 555, 333, 334, 335, 123, 124, 125, 461, 462, 463, 464, 326, 327, 328, 556, 557, 558, 559, 763, 764, 765, 766, 767, 768, 769, 770] (by decide +kernel) (by decide +kernel)
set_option maxRecDepth 20000 in
theorem gL_law_X7_word : GoodIn wsL_law (wsV RL 52 RX7 yX7_word wsX7_word) := goodIn_app (goodIn_of _ (by decide +kernel)) ggL_law_X7_word
set_option maxRecDepth 20000 in
theorem ggL_law_X6_at : GoodIn wsL_law wsX6_at := goodIn_r _ [563, 16, 273, 476, 132, 133, 2, 134, 135, 136, 137, 219, 192, 193, 26, 194, 62, 564, 380, 381, 42, 382, 99, 300, 754, 755, 756, 757, 758, 759, 760, 761, 762, 771, 772, 773, 774, 775, 776, 792, 793, 794, 795, 796, 797, 798, 799, 779] (by decide +kernel) (by decide +kernel)
set_option maxRecDepth 20000 in
theorem gL_law_X6_at : GoodIn wsL_law (wsV RL 53 RX6 yX6_at wsX6_at) := goodIn_app (goodIn_of _ (by decide +kernel)) ggL_law_X6_at
set_option maxRecDepth 20000 in
theorem ggL_law_X7_at : GoodIn wsL_law wsX7_at := goodIn_r _ [568, 113, 199, 200, 5, 201, 202, 203, 204, 333, 334, 335, 763, 764, 765, 766, 767, 768, 769, 770] (by decide +kernel) (by decide +kernel)
set_option maxRecDepth 20000 in
theorem gL_law_X7_at : GoodIn wsL_law (wsV RL 56 RX7 yX7_at wsX7_at) := goodIn_app (goodIn_of _ (by decide +kernel)) ggL_law_X7_at
set_option maxRecDepth 20000 in
theorem ggL_law_X6_count : GoodIn wsL_law wsX6_count := goodIn_r _ [572, 16, 131, 273, 274, 233, 341, 573, 501, 574, 21, 275, 143, 261, 262, 263, 26, 264, 62, 482, 483, 484, 42, 485, 100, 300, 192, 193, 194, 379, 380, 381, 382, 99, 383, 384, 385, 386, 96, 575, 576, 577, 38, 578, 579, 240, 241, 242, 80, 243, 580, 581, 582, 15, 583, 158, 584, 503, 504, 505, 39, 35, 346, 347, 348, 34, 349, 350, 351, 352, 353, 52, 354, 187, 188, 189, 51, 49, 50, 190, 145, 59, 146, 191, 359, 360, 361, 362, 363, 364, 365, 77, 366, 258, 259, 260, 79, 754, 755, 756, 757, 758, 759, 760, 761, 762, 771, 772, 773, 774, 775, 776, 792, 793, 794, 795, 796, 797, 798, 799, 784, 785, 786, 787, 788, 789, 790, 791, 777, 778, 779, 780, 781, 782, 783] (by decide +kernel) (by decide +kernel)
set_option maxRecDepth 20000 in
theorem gL_law_X6_count : GoodIn wsL_law (wsV RL 57 RX6 yX6_count wsX6_count) := goodIn_app (goodIn_of _ (by decide +kernel)) ggL_law_X6_count
set_option maxRecDepth 20000 in
theorem ggL_law_X7_count : GoodIn wsL_law wsX7_count := goodIn_r _ [588, 113, 313, 209, 425, 426, 427, 5, 428, 326, 327, 328, 589, 590, 591, 592, 123, 124, 125, 437, 438, 439, 440, 441, 442, 443, 444, 445, 446, 447, 448, 210, 211, 212, 213, 120, 121, 122, 763, 764, 765, 766, 767, 768, 769, 770] (by decide +kernel) (by decide +kernel)
set_option maxRecDepth 20000 in
theorem gL_law_X7_count : GoodIn wsL_law (wsV RL 60 RX7 yX7_count wsX7_count) := goodIn_app (goodIn_of _ (by decide +kernel)) ggL_law_X7_count
set_option maxRecDepth 20000 in
theorem ggL_law_X6_untilOpen : GoodIn wsL_law wsX6_untilOpen := goodIn_r _ [596, 16, 236, 237, 2, 238, 135, 136, 137, 597, 598, 599, 15, 600, 158, 584, 503, 504, 505, 39, 35, 346, 347, 348, 34, 349, 350, 351, 352, 353, 52, 354, 187, 188, 189, 51, 49, 50, 190, 145, 59, 146, 191, 192, 193, 26, 194, 62, 359, 360, 361, 38, 362, 363, 364, 365, 77, 366, 258, 259, 260, 79, 243, 754, 755, 756, 757, 758, 759, 760, 761, 762, 771, 772, 773, 774, 775, 776, 780, 781, 782, 783, 779, 784, 785, 786, 787, 788, 789, 790, 791] (by decide +kernel) (by decide +kernel)
set_option maxRecDepth 20000 in
theorem gL_law_X6_untilOpen : GoodIn wsL_law (wsV RL 61 RX6 yX6_untilOpen wsX6_untilOpen) := goodIn_app (goodIn_of _ (by decide +kernel)) ggL_law_X6_untilOpen
set_option maxRecDepth 20000 in
theorem ggL_law_X7_untilOpen : GoodIn wsL_law wsX7_untilOpen := goodIn_r _ [604, 249, 250, 5, 251, 202, 203, 204, 605, 606, 607, 608, 113, 441, 442, 443, 444, 123, 124, 125, 445, 446, 447, 448, 210, 211, 212, 213, 120, 121, 122, 763, 764, 765, 766, 767, 768, 769, 770] (by decide +kernel) (by decide +kernel)
set_option maxRecDepth 20000 in
theorem gL_law_X7_untilOpen : GoodIn wsL_law (wsV RL 64 RX7 yX7_untilOpen wsX7_untilOpen) := goodIn_app (goodIn_of _ (by decide +kernel)) ggL_law_X7_untilOpen
set_option maxRecDepth 20000 in
theorem ggL_law_X6_openFor : GoodIn wsL_law wsX6_openFor := goodIn_r _ [612, 16, 131, 236, 237, 2, 238, 135, 136, 137, 597, 598, 599, 15, 600, 158, 584, 503, 504, 505, 39, 35, 346, 347, 348, 34, 349, 350, 351, 352, 353, 52, 354, 187, 188, 189, 51, 49, 50, 190, 145, 59, 146, 191, 192, 193, 26, 194, 62, 359, 360, 361, 38, 362, 363, 364, 365, 77, 366, 258, 259, 260, 79, 243, 613, 614, 615, 616, 754, 755, 756, 757, 758, 759, 760, 761, 762, 771, 772, 773, 774, 775, 776, 780, 781, 782, 783, 779, 784, 785, 786, 787, 788, 789, 790, 791] (by decide +kernel) (by decide +kernel)
set_option maxRecDepth 20000 in
theorem gL_law_X6_openFor : GoodIn wsL_law (wsV RL 65 RX6 yX6_openFor wsX6_openFor) := goodIn_app (goodIn_of _ (by decide +kernel)) ggL_law_X6_openFor
set_option maxRecDepth 20000 in
theorem ggL_law_X7_openFor : GoodIn wsL_law wsX7_openFor := goodIn_r _ [620, 113, 249, 250, 5, 251, 202, 203, 204, 605, 606, 607, 608, 441, 442, 443, 444, 123, 124, 125, 445, 446, 447, 448, 210, 211, 212, 213, 120, 121, 122, 763, 764, 765, 766, 767, 768, 769, 770] (by decide +kernel) (by decide +kernel)
set_option maxRecDepth 20000 in
theorem gL_law_X7_openFor : GoodIn wsL_law (wsV RL 68 RX7 yX7_openFor wsX7_openFor) := goodIn_app (goodIn_of _ (by decide +kernel)) ggL_law_X7_openFor
set_option maxRecDepth 20000 in
theorem ggL_law_X6_untilPassed : GoodIn wsL_law wsX6_untilPassed := goodIn_r _ [624, 17, 16, 273, 518, 519, 520, 2, 521, 274, 135, 136, 137, 154, 155, 156, 15, 157, 35, 39, 43, 158, 159, 160, 161, 162, 163, 34, 164, 49, 50, 51, 52, 165, 166, 167, 26, 168, 62, 169, 145, 59, 146, 170, 171, 172, 173, 174, 175, 176, 38, 177, 76, 77, 78, 79, 80, 81, 82, 83, 178, 179, 180, 181, 42, 182, 94, 95, 96, 97, 98, 99, 100, 183, 184, 539, 384, 385, 386, 300, 192, 193, 194, 342, 343, 344, 345, 346, 347, 348, 349, 350, 351, 352, 353, 354, 187, 188, 189, 190, 191, 355, 356, 357, 358, 359, 360, 361, 362, 363, 364, 365, 366, 258, 259, 260, 243, 367, 368, 369, 370, 371, 372, 373, 240, 241, 242, 374, 375, 376, 377, 378, 379, 380, 381, 382, 383, 387, 388, 389, 390, 295, 68, 69, 70, 391, 392, 393, 394, 395, 396, 397, 398, 399, 306, 307, 308, 400, 401, 402, 403, 89, 404, 405, 406, 407, 408, 297, 298, 299, 409, 410, 411, 412, 413, 414, 415, 416, 417, 418, 419, 754, 755, 756, 757, 758, 759, 760, 761, 762, 771, 772, 773, 774, 775, 776, 792, 793, 794, 795, 796, 797, 798, 799, 780, 781, 782, 783, 779, 784, 785, 786, 787, 788, 789, 790, 791] (by decide +kernel) (by decide +kernel)
set_option maxRecDepth 20000 in
theorem gL_law_X6_untilPassed : GoodIn wsL_law (wsV RL 69 RX6 yX6_untilPassed wsX6_untilPassed) := goodIn_app (goodIn_of _ (by decide +kernel)) ggL_law_X6_untilPassed
set_option maxRecDepth 20000 in
theorem ggL_law_X7_untilPassed : GoodIn wsL_law wsX7_untilPassed := goodIn_r _ [628, 548, 549, 550, 5, 551, 113, 202, 203, 204, 629, 630, 631, 632, 114, 457, 458, 459, 460, 326, 327, 328, 433, 434, 435, 436, 437, 438, 439, 440, 441, 442, 443, 444, 123, 124, 125, 445, 446, 447, 448, 210, 211, 212, 213, 120, 121, 122, 449, 450, 451, 452, 453, 454, 455, 456, 333, 334, 335, 461, 462, 463, 464, 329, 330, 331, 332, 465, 466, 467, 468, 633, 634, 635, 636, 763, 764, 765, 766, 767, 768, 769, 770] (by decide +kernel) (by decide +kernel)
set_option maxRecDepth 20000 in
theorem gL_law_X7_untilPassed : GoodIn wsL_law (wsV RL 72 RX7 yX7_untilPassed wsX7_untilPassed) := goodIn_app (goodIn_of _ (by decide +kernel)) ggL_law_X7_untilPassed
set_option maxRecDepth 20000 in
theorem ggL_law_X6_ifRun : GoodIn wsL_law wsX6_ifRun := goodIn_r _ [640, 17, 16, 135, 136, 2, 137, 154, 155, 156, 15, 157, 35, 39, 43, 158, 159, 160, 161, 162, 163, 34, 164, 49, 50, 51, 52, 165, 166, 167, 26, 168, 62, 169, 145, 59, 146, 170, 171, 172, 173, 174, 175, 176, 38, 177, 76, 77, 78, 79, 80, 81, 82, 83, 178, 179, 180, 181, 42, 182, 94, 95, 96, 97, 98, 99, 100, 183, 184, 342, 343, 344, 345, 346, 347, 348, 349, 350, 351, 352, 353, 354, 187, 188, 189, 190, 191, 192, 193, 194, 355, 356, 357, 358, 359, 360, 361, 362, 363, 364, 365, 366, 258, 259, 260, 243, 367, 368, 369, 370, 371, 372, 373, 240, 241, 242, 374, 375, 376, 377, 378, 300, 379, 380, 381, 382, 383, 384, 385, 386, 387, 388, 389, 390, 295, 68, 69, 70, 391, 392, 393, 394, 395, 396, 397, 398, 399, 306, 307, 308, 400, 401, 402, 403, 89, 404, 405, 406, 407, 408, 297, 298, 299, 409, 410, 411, 412, 413, 414, 415, 416, 417, 418, 419, 641, 642, 643, 644, 645, 262, 263, 264, 754, 755, 756, 757, 758, 759, 760, 761, 762, 771, 772, 773, 774, 775, 776, 780, 781, 782, 783, 779, 784, 785, 786, 787, 788, 789, 790, 791, 792, 793, 794, 795, 796, 797, 798, 799] (by decide +kernel) (by decide +kernel)
set_option maxRecDepth 20000 in
theorem gL_law_X6_ifRun : GoodIn wsL_law (wsV RL 73 RX6 yX6_ifRun wsX6_ifRun) := goodIn_app (goodIn_of _ (by decide +kernel)) ggL_law_X6_ifRun
set_option maxRecDepth 20000 in
theorem ggL_law_X7_ifRun : GoodIn wsL_law wsX7_ifRun := goodIn_r _ [649, 113, 202, 203, 5, 204, 629, 630, 631, 632, 114, 425, 426, 427, 428, 326, 327, 328, 650, 651, 652, 653, 429, 430, 431, 432, 433, 434, 435, 436, 437, 438, 439, 440, 441, 442, 443, 444, 123, 124, 125, 445, 446, 447, 448, 210, 211, 212, 213, 120, 121, 122, 449, 450, 451, 452, 453, 454, 455, 456, 333, 334, 335, 457, 458, 459, 460, 461, 462, 463, 464, 329, 330, 331, 332, 465, 466, 467, 468, 633, 634, 635, 636, 763, 764, 765, 766, 767, 768, 769, 770] (by decide +kernel) (by decide +kernel)
set_option maxRecDepth 20000 in
theorem gL_law_X7_ifRun : GoodIn wsL_law (wsV RL 76 RX7 yX7_ifRun wsX7_ifRun) := goodIn_app (goodIn_of _ (by decide +kernel)) ggL_law_X7_ifRun
set_option maxRecDepth 20000 in
theorem ggL_law_X6_leastSlack : GoodIn wsL_law wsX6_leastSlack := goodIn_r _ [657, 16, 273, 274, 233, 341, 236, 237, 2, 238, 135, 136, 137, 658, 659, 660, 661, 28, 130, 131, 662, 347, 348, 34, 349, 350, 351, 352, 353, 52, 354, 187, 188, 189, 51, 49, 50, 190, 145, 59, 146, 191, 192, 193, 26, 194, 62, 220, 68, 69, 70, 261, 262, 263, 264, 663, 664, 665, 666, 17, 235, 154, 155, 156, 15, 157, 35, 39, 43, 158, 159, 160, 161, 162, 163, 164, 165, 166, 167, 168, 169, 170, 171, 172, 173, 174, 175, 176, 38, 177, 76, 77, 78, 79, 80, 81, 82, 83, 178, 179, 180, 181, 42, 182, 94, 95, 96, 97, 98, 99, 100, 183, 184, 219, 667, 356, 357, 358, 359, 360, 361, 362, 363, 364, 365, 366, 258, 259, 260, 243, 367, 368, 369, 370, 371, 372, 373, 240, 241, 242, 374, 375, 376, 377, 378, 300, 379, 380, 381, 382, 383, 384, 385, 386, 387, 388, 389, 390, 295, 391, 392, 393, 394, 395, 396, 397, 398, 399, 306, 307, 308, 400, 401, 402, 403, 89, 404, 405, 406, 407, 408, 297, 298, 299, 409, 410, 411, 412, 413, 414, 415, 416, 417, 418, 419, 668, 669, 670, 671, 672, 754, 755, 756, 757, 758, 759, 760, 761, 762, 771, 772, 773, 774, 775, 776, 792, 793, 794, 795, 796, 797, 798, 799, 784, 785, 786, 787, 788, 789, 790, 791, 780, 781, 782, 783, 779] (by decide +kernel) (by decide +kernel)
set_option maxRecDepth 20000 in
theorem gL_law_X6_leastSlack : GoodIn wsL_law (wsV RL 77 RX6 yX6_leastSlack wsX6_leastSlack) := goodIn_app (goodIn_of _ (by decide +kernel)) ggL_law_X6_leastSlack
set_option maxRecDepth 20000 in
theorem ggL_law_X7_leastSlack : GoodIn wsL_law wsX7_leastSlack := goodIn_r _ [676, 113, 249, 250, 5, 251, 202, 203, 204, 425, 426, 427, 428, 326, 327, 328, 629, 630, 631, 632, 114, 123, 124, 125, 429, 430, 431, 432, 433, 434, 435, 436, 437, 438, 439, 440, 441, 442, 443, 444, 445, 446, 447, 448, 210, 211, 212, 213, 120, 121, 122, 449, 450, 451, 452, 453, 454, 455, 456, 333, 334, 335, 457, 458, 459, 460, 461, 462, 463, 464, 329, 330, 331, 332, 465, 466, 467, 468, 633, 634, 635, 636, 763, 764, 765, 766, 767, 768, 769, 770] (by decide +kernel) (by decide +kernel)
set_option maxRecDepth 20000 in
theorem gL_law_X7_leastSlack : GoodIn wsL_law (wsV RL 80 RX7 yX7_leastSlack wsX7_leastSlack) := goodIn_app (goodIn_of _ (by decide +kernel)) ggL_law_X7_leastSlack
set_option maxRecDepth 20000 in
theorem ggL_law_X6_bestLie : GoodIn wsL_law wsX6_bestLie := goodIn_r _ [680, 132, 133, 2, 134, 135, 136, 137, 236, 237, 238, 658, 659, 660, 661, 28, 16, 130, 131, 662, 347, 348, 34, 349, 350, 351, 352, 353, 52, 354, 187, 188, 189, 51, 49, 50, 190, 145, 59, 146, 191, 192, 193, 26, 194, 62, 220, 68, 69, 70, 681, 682, 683, 684, 218, 233, 235, 672, 364, 365, 219, 754, 755, 756, 757, 758, 759, 760, 761, 762, 771, 772, 773, 774, 775, 776, 780, 781, 782, 783, 779, 784, 785, 786, 787, 788, 789, 790, 791] (by decide +kernel) (by decide +kernel)
set_option maxRecDepth 20000 in
theorem gL_law_X6_bestLie : GoodIn wsL_law (wsV RL 81 RX6 yX6_bestLie wsX6_bestLie) := goodIn_app (goodIn_of _ (by decide +kernel)) ggL_law_X6_bestLie
set_option maxRecDepth 20000 in
theorem ggL_law_X7_bestLie : GoodIn wsL_law wsX7_bestLie := goodIn_r _ [688, 199, 200, 5, 201, 202, 203, 204, 249, 250, 251, 689, 690, 691, 692, 113, 120, 121, 122, 445, 446, 447, 448, 210, 211, 212, 213, 123, 124, 125, 763, 764, 765, 766, 767, 768, 769, 770] (by decide +kernel) (by decide +kernel)
set_option maxRecDepth 20000 in
theorem gL_law_X7_bestLie : GoodIn wsL_law (wsV RL 84 RX7 yX7_bestLie wsX7_bestLie) := goodIn_app (goodIn_of _ (by decide +kernel)) ggL_law_X7_bestLie
set_option maxRecDepth 20000 in
theorem ggL_law_X6_write : GoodIn wsL_law wsX6_write := goodIn_r _ [696, 21, 275, 697, 698, 2, 699, 700, 135, 136, 137, 701, 702, 703, 704, 705, 706, 20, 707, 280, 106, 708, 68, 69, 26, 70, 62, 754, 755, 756, 757, 758, 759, 760, 761, 762, 777, 778, 779] (by decide +kernel) (by decide +kernel)
set_option maxRecDepth 20000 in
theorem gL_law_X6_write : GoodIn wsL_law (wsV RL 87 RX6 yX6_write wsX6_write) := goodIn_app (goodIn_of _ (by decide +kernel)) ggL_law_X6_write
set_option maxRecDepth 20000 in
theorem ggL_law_X7_write : GoodIn wsL_law wsX7_write := goodIn_r _ [712, 713, 313, 119, 202, 203, 5, 204, 763, 764, 765, 766, 767, 768, 769, 770] (by decide +kernel) (by decide +kernel)
set_option maxRecDepth 20000 in
theorem gL_law_X7_write : GoodIn wsL_law (wsV RL 91 RX7 yX7_write wsX7_write) := goodIn_app (goodIn_of _ (by decide +kernel)) ggL_law_X7_write
set_option maxRecDepth 20000 in
theorem ggL_law_X6_wipe : GoodIn wsL_law wsX6_wipe := goodIn_r _ [717, 21, 275, 754, 755, 756, 757, 758, 759, 760, 761, 762, 777, 778] (by decide +kernel) (by decide +kernel)
set_option maxRecDepth 20000 in
theorem gL_law_X6_wipe : GoodIn wsL_law (wsV RL 92 RX6 yX6_wipe wsX6_wipe) := goodIn_app (goodIn_of _ (by decide +kernel)) ggL_law_X6_wipe
set_option maxRecDepth 20000 in
theorem ggL_law_X7_wipe : GoodIn wsL_law wsX7_wipe := goodIn_r _ [721, 313, 763, 764, 765, 766, 767, 768, 769, 770] (by decide +kernel) (by decide +kernel)
set_option maxRecDepth 20000 in
theorem gL_law_X7_wipe : GoodIn wsL_law (wsV RL 96 RX7 yX7_wipe wsX7_wipe) := goodIn_app (goodIn_of _ (by decide +kernel)) ggL_law_X7_wipe
set_option maxRecDepth 20000 in
theorem ggL_law_X6_fault : GoodIn wsL_law wsX6_fault := goodIn_r _ [725, 21, 276, 277, 278, 20, 279, 280, 106, 281, 192, 193, 26, 194, 62, 754, 755, 756, 757, 758, 759, 760, 761, 762, 777, 778, 779] (by decide +kernel) (by decide +kernel)
set_option maxRecDepth 20000 in
theorem gL_law_X6_fault : GoodIn wsL_law (wsV RL 97 RX6 yX6_fault wsX6_fault) := goodIn_app (goodIn_of _ (by decide +kernel)) ggL_law_X6_fault
set_option maxRecDepth 20000 in
theorem ggL_law_X7_fault : GoodIn wsL_law wsX7_fault := goodIn_r _ [729, 314, 315, 316, 5, 317, 313, 119, 318, 319, 320, 321, 202, 203, 204, 763, 764, 765, 766, 767, 768, 769, 770] (by decide +kernel) (by decide +kernel)
set_option maxRecDepth 20000 in
theorem gL_law_X7_fault : GoodIn wsL_law (wsV RL 100 RX7 yX7_fault wsX7_fault) := goodIn_app (goodIn_of _ (by decide +kernel)) ggL_law_X7_fault
set_option maxRecDepth 20000 in
theorem ggL_law_X6_undo : GoodIn wsL_law wsX6_undo := goodIn_r _ [733, 143, 142, 16, 22, 151, 152, 2, 153, 154, 155, 156, 15, 157, 35, 39, 43, 158, 159, 160, 161, 162, 163, 34, 164, 49, 50, 51, 52, 165, 166, 167, 26, 168, 62, 169, 145, 59, 146, 170, 171, 172, 173, 174, 175, 176, 38, 177, 76, 77, 78, 79, 80, 81, 82, 83, 178, 179, 180, 181, 42, 182, 94, 95, 96, 97, 98, 99, 100, 183, 184, 754, 755, 756, 757, 758, 759, 760, 761, 762, 771, 772, 773, 774, 775, 776, 780, 781, 782, 783, 779, 784, 785, 786, 787, 788, 789, 790, 791, 792, 793, 794, 795, 796, 797, 798, 799] (by decide +kernel) (by decide +kernel)
set_option maxRecDepth 20000 in
theorem gL_law_X6_undo : GoodIn wsL_law (wsV RL 101 RX6 yX6_undo wsX6_undo) := goodIn_app (goodIn_of _ (by decide +kernel)) ggL_law_X6_undo
set_option maxRecDepth 20000 in
theorem ggL_law_X7_undo : GoodIn wsL_law wsX7_undo := goodIn_r _ [737, 209, 113, 115, 763, 764, 765, 766, 767, 768, 769, 770] (by decide +kernel) (by decide +kernel)
set_option maxRecDepth 20000 in
theorem gL_law_X7_undo : GoodIn wsL_law (wsV RL 104 RX7 yX7_undo wsX7_undo) := goodIn_app (goodIn_of _ (by decide +kernel)) ggL_law_X7_undo
set_option maxRecDepth 20000 in
theorem ggL_law_X6_save : GoodIn wsL_law wsX6_save := goodIn_r _ [741, 23, 27, 16, 131, 135, 136, 2, 137, 147, 148, 149, 150, 151, 152, 153, 154, 155, 156, 15, 157, 35, 39, 43, 158, 159, 160, 161, 162, 163, 34, 164, 49, 50, 51, 52, 165, 166, 167, 26, 168, 62, 169, 145, 59, 146, 170, 171, 172, 173, 174, 175, 176, 38, 177, 76, 77, 78, 79, 80, 81, 82, 83, 178, 179, 180, 181, 42, 182, 94, 95, 96, 97, 98, 99, 100, 183, 184, 220, 68, 69, 70, 754, 755, 756, 757, 758, 759, 760, 761, 762, 771, 772, 773, 774, 775, 776, 780, 781, 782, 783, 779, 784, 785, 786, 787, 788, 789, 790, 791, 792, 793, 794, 795, 796, 797, 798, 799] (by decide +kernel) (by decide +kernel)
set_option maxRecDepth 20000 in
theorem gL_law_X6_save : GoodIn wsL_law (wsV RL 105 RX6 yX6_save wsX6_save) := goodIn_app (goodIn_of _ (by decide +kernel)) ggL_law_X6_save
set_option maxRecDepth 20000 in
theorem ggL_law_X7_save : GoodIn wsL_law wsX7_save := goodIn_r _ [745, 116, 113, 118, 202, 203, 5, 204, 763, 764, 765, 766, 767, 768, 769, 770] (by decide +kernel) (by decide +kernel)
set_option maxRecDepth 20000 in
theorem gL_law_X7_save : GoodIn wsL_law (wsV RL 108 RX7 yX7_save wsX7_save) := goodIn_app (goodIn_of _ (by decide +kernel)) ggL_law_X7_save
set_option maxRecDepth 20000 in
theorem ggL_law_X6_restore : GoodIn wsL_law wsX6_restore := goodIn_r _ [749, 27, 16, 23, 131, 135, 136, 2, 137, 219, 192, 193, 26, 194, 62, 138, 139, 140, 141, 22, 142, 143, 144, 145, 59, 146, 147, 148, 149, 150, 151, 152, 153, 154, 155, 156, 15, 157, 35, 39, 43, 158, 159, 160, 161, 162, 163, 34, 164, 49, 50, 51, 52, 165, 166, 167, 168, 169, 170, 171, 172, 173, 174, 175, 176, 38, 177, 76, 77, 78, 79, 80, 81, 82, 83, 178, 179, 180, 181, 42, 182, 94, 95, 96, 97, 98, 99, 100, 183, 184, 754, 755, 756, 757, 758, 759, 760, 761, 762, 771, 772, 773, 774, 775, 776, 779, 780, 781, 782, 783, 784, 785, 786, 787, 788, 789, 790, 791, 792, 793, 794, 795, 796, 797, 798, 799] (by decide +kernel) (by decide +kernel)
set_option maxRecDepth 20000 in
theorem gL_law_X6_restore : GoodIn wsL_law (wsV RL 109 RX6 yX6_restore wsX6_restore) := goodIn_app (goodIn_of _ (by decide +kernel)) ggL_law_X6_restore
set_option maxRecDepth 20000 in
theorem ggL_law_X7_restore : GoodIn wsL_law wsX7_restore := goodIn_r _ [753, 118, 113, 116, 202, 203, 5, 204, 205, 206, 207, 208, 209, 115, 763, 764, 765, 766, 767, 768, 769, 770] (by decide +kernel) (by decide +kernel)
set_option maxRecDepth 20000 in
theorem gL_law_X7_restore : GoodIn wsL_law (wsV RL 112 RX7 yX7_restore wsX7_restore) := goodIn_app (goodIn_of _ (by decide +kernel)) ggL_law_X7_restore
theorem dL_law_0 : decode cL_law 0 = .ok (.new 7, 3) := by decide +kernel
theorem dL_law_3 : decode cL_law 3 = .ok (.dup, 1) := by decide +kernel
theorem dL_law_4 : decode cL_law 4 = .ok (.invokespecial 9, 3) := by decide +kernel
theorem dL_law_7 : decode cL_law 7 = .ok (.astore_n 1, 1) := by decide +kernel
theorem dL_law_8 : decode cL_law 8 = .ok (.new 10, 3) := by decide +kernel
theorem dL_law_11 : decode cL_law 11 = .ok (.dup, 1) := by decide +kernel
theorem dL_law_12 : decode cL_law 12 = .ok (.invokespecial 12, 3) := by decide +kernel
theorem dL_law_15 : decode cL_law 15 = .ok (.astore_n 2, 1) := by decide +kernel
theorem dL_law_16 : decode cL_law 16 = .ok (.iconst 0, 1) := by decide +kernel
theorem dL_law_17 : decode cL_law 17 = .ok (.istore_n 3, 1) := by decide +kernel
theorem dL_law_18 : decode cL_law 18 = .ok (.iload_n 3, 1) := by decide +kernel
theorem dL_law_19 : decode cL_law 19 = .ok (.aload_n 0, 1) := by decide +kernel
theorem dL_law_20 : decode cL_law 20 = .ok (.arraylength, 1) := by decide +kernel
theorem dL_law_21 : decode cL_law 21 = .ok (.iconst 5, 1) := by decide +kernel
theorem dL_law_22 : decode cL_law 22 = .ok (.isub, 1) := by decide +kernel
theorem dL_law_23 : decode cL_law 23 = .ok (.if_icmp .gt 818, 3) := by decide +kernel
theorem dL_law_26 : decode cL_law 26 = .ok (.aload_n 0, 1) := by decide +kernel
theorem dL_law_27 : decode cL_law 27 = .ok (.iload_n 3, 1) := by decide +kernel
theorem dL_law_28 : decode cL_law 28 = .ok (.iaload, 1) := by decide +kernel
theorem dL_law_29 : decode cL_law 29 = .ok (.bipush 31, 2) := by decide +kernel
theorem dL_law_31 : decode cL_law 31 = .ok (.iand, 1) := by decide +kernel
theorem dL_law_32 : decode cL_law 32 = .ok (.tableswitch 803 0 22 #[108, 161, 194, 247, 296, 319, 342, 375, 408, 441, 474, 497, 520, 543, 566, 599, 632, 665, 718, 731, 744, 757, 780], 108) := by decide +kernel
theorem dL_law_140 : decode cL_law 140 = .ok (.aload_n 1, 1) := by decide +kernel
theorem dL_law_141 : decode cL_law 141 = .ok (.aload_n 0, 1) := by decide +kernel
theorem dL_law_142 : decode cL_law 142 = .ok (.iload_n 3, 1) := by decide +kernel
theorem dL_law_143 : decode cL_law 143 = .ok (.iconst 1, 1) := by decide +kernel
theorem dL_law_144 : decode cL_law 144 = .ok (.iadd, 1) := by decide +kernel
theorem dL_law_145 : decode cL_law 145 = .ok (.iaload, 1) := by decide +kernel
theorem dL_law_146 : decode cL_law 146 = .ok (.aload_n 0, 1) := by decide +kernel
theorem dL_law_147 : decode cL_law 147 = .ok (.iload_n 3, 1) := by decide +kernel
theorem dL_law_148 : decode cL_law 148 = .ok (.iconst 2, 1) := by decide +kernel
theorem dL_law_149 : decode cL_law 149 = .ok (.iadd, 1) := by decide +kernel
theorem dL_law_150 : decode cL_law 150 = .ok (.iaload, 1) := by decide +kernel
theorem dL_law_151 : decode cL_law 151 = .ok (.aload_n 0, 1) := by decide +kernel
theorem dL_law_152 : decode cL_law 152 = .ok (.iload_n 3, 1) := by decide +kernel
theorem dL_law_153 : decode cL_law 153 = .ok (.iconst 3, 1) := by decide +kernel
theorem dL_law_154 : decode cL_law 154 = .ok (.iadd, 1) := by decide +kernel
theorem dL_law_155 : decode cL_law 155 = .ok (.iaload, 1) := by decide +kernel
theorem dL_law_156 : decode cL_law 156 = .ok (.aload_n 0, 1) := by decide +kernel
theorem dL_law_157 : decode cL_law 157 = .ok (.iload_n 3, 1) := by decide +kernel
theorem dL_law_158 : decode cL_law 158 = .ok (.iconst 4, 1) := by decide +kernel
theorem dL_law_159 : decode cL_law 159 = .ok (.iadd, 1) := by decide +kernel
theorem dL_law_160 : decode cL_law 160 = .ok (.iaload, 1) := by decide +kernel
theorem dL_law_161 : decode cL_law 161 = .ok (.invokevirtual 13, 3) := by decide +kernel
theorem dL_law_164 : decode cL_law 164 = .ok (.aload_n 2, 1) := by decide +kernel
theorem dL_law_165 : decode cL_law 165 = .ok (.aload_n 0, 1) := by decide +kernel
theorem dL_law_166 : decode cL_law 166 = .ok (.iload_n 3, 1) := by decide +kernel
theorem dL_law_167 : decode cL_law 167 = .ok (.iconst 1, 1) := by decide +kernel
theorem dL_law_168 : decode cL_law 168 = .ok (.iadd, 1) := by decide +kernel
theorem dL_law_169 : decode cL_law 169 = .ok (.iaload, 1) := by decide +kernel
theorem dL_law_170 : decode cL_law 170 = .ok (.aload_n 0, 1) := by decide +kernel
theorem dL_law_171 : decode cL_law 171 = .ok (.iload_n 3, 1) := by decide +kernel
theorem dL_law_172 : decode cL_law 172 = .ok (.iconst 2, 1) := by decide +kernel
theorem dL_law_173 : decode cL_law 173 = .ok (.iadd, 1) := by decide +kernel
theorem dL_law_174 : decode cL_law 174 = .ok (.iaload, 1) := by decide +kernel
theorem dL_law_175 : decode cL_law 175 = .ok (.aload_n 0, 1) := by decide +kernel
theorem dL_law_176 : decode cL_law 176 = .ok (.iload_n 3, 1) := by decide +kernel
theorem dL_law_177 : decode cL_law 177 = .ok (.iconst 3, 1) := by decide +kernel
theorem dL_law_178 : decode cL_law 178 = .ok (.iadd, 1) := by decide +kernel
theorem dL_law_179 : decode cL_law 179 = .ok (.iaload, 1) := by decide +kernel
theorem dL_law_180 : decode cL_law 180 = .ok (.aload_n 0, 1) := by decide +kernel
theorem dL_law_181 : decode cL_law 181 = .ok (.iload_n 3, 1) := by decide +kernel
theorem dL_law_182 : decode cL_law 182 = .ok (.iconst 4, 1) := by decide +kernel
theorem dL_law_183 : decode cL_law 183 = .ok (.iadd, 1) := by decide +kernel
theorem dL_law_184 : decode cL_law 184 = .ok (.iaload, 1) := by decide +kernel
theorem dL_law_185 : decode cL_law 185 = .ok (.invokevirtual 17, 3) := by decide +kernel
theorem dL_law_188 : decode cL_law 188 = .ok (.if_icmp .eq 647, 3) := by decide +kernel
theorem dL_law_191 : decode cL_law 191 = .ok (.iconst 0, 1) := by decide +kernel
theorem dL_law_192 : decode cL_law 192 = .ok (.ireturn, 1) := by decide +kernel
theorem dL_law_193 : decode cL_law 193 = .ok (.aload_n 1, 1) := by decide +kernel
theorem dL_law_194 : decode cL_law 194 = .ok (.aload_n 0, 1) := by decide +kernel
theorem dL_law_195 : decode cL_law 195 = .ok (.iload_n 3, 1) := by decide +kernel
theorem dL_law_196 : decode cL_law 196 = .ok (.iconst 1, 1) := by decide +kernel
theorem dL_law_197 : decode cL_law 197 = .ok (.iadd, 1) := by decide +kernel
theorem dL_law_198 : decode cL_law 198 = .ok (.iaload, 1) := by decide +kernel
theorem dL_law_199 : decode cL_law 199 = .ok (.aload_n 0, 1) := by decide +kernel
theorem dL_law_200 : decode cL_law 200 = .ok (.iload_n 3, 1) := by decide +kernel
theorem dL_law_201 : decode cL_law 201 = .ok (.iconst 2, 1) := by decide +kernel
theorem dL_law_202 : decode cL_law 202 = .ok (.iadd, 1) := by decide +kernel
theorem dL_law_203 : decode cL_law 203 = .ok (.iaload, 1) := by decide +kernel
theorem dL_law_204 : decode cL_law 204 = .ok (.invokevirtual 18, 3) := by decide +kernel
theorem dL_law_207 : decode cL_law 207 = .ok (.aload_n 2, 1) := by decide +kernel
theorem dL_law_208 : decode cL_law 208 = .ok (.aload_n 0, 1) := by decide +kernel
theorem dL_law_209 : decode cL_law 209 = .ok (.iload_n 3, 1) := by decide +kernel
theorem dL_law_210 : decode cL_law 210 = .ok (.iconst 1, 1) := by decide +kernel
theorem dL_law_211 : decode cL_law 211 = .ok (.iadd, 1) := by decide +kernel
theorem dL_law_212 : decode cL_law 212 = .ok (.iaload, 1) := by decide +kernel
theorem dL_law_213 : decode cL_law 213 = .ok (.aload_n 0, 1) := by decide +kernel
theorem dL_law_214 : decode cL_law 214 = .ok (.iload_n 3, 1) := by decide +kernel
theorem dL_law_215 : decode cL_law 215 = .ok (.iconst 2, 1) := by decide +kernel
theorem dL_law_216 : decode cL_law 216 = .ok (.iadd, 1) := by decide +kernel
theorem dL_law_217 : decode cL_law 217 = .ok (.iaload, 1) := by decide +kernel
theorem dL_law_218 : decode cL_law 218 = .ok (.invokevirtual 22, 3) := by decide +kernel
theorem dL_law_221 : decode cL_law 221 = .ok (.if_icmp .eq 614, 3) := by decide +kernel
theorem dL_law_224 : decode cL_law 224 = .ok (.iconst 0, 1) := by decide +kernel
theorem dL_law_225 : decode cL_law 225 = .ok (.ireturn, 1) := by decide +kernel
theorem dL_law_226 : decode cL_law 226 = .ok (.aload_n 1, 1) := by decide +kernel
theorem dL_law_227 : decode cL_law 227 = .ok (.aload_n 0, 1) := by decide +kernel
theorem dL_law_228 : decode cL_law 228 = .ok (.iload_n 3, 1) := by decide +kernel
theorem dL_law_229 : decode cL_law 229 = .ok (.iconst 1, 1) := by decide +kernel
theorem dL_law_230 : decode cL_law 230 = .ok (.iadd, 1) := by decide +kernel
theorem dL_law_231 : decode cL_law 231 = .ok (.iaload, 1) := by decide +kernel
theorem dL_law_232 : decode cL_law 232 = .ok (.aload_n 0, 1) := by decide +kernel
theorem dL_law_233 : decode cL_law 233 = .ok (.iload_n 3, 1) := by decide +kernel
theorem dL_law_234 : decode cL_law 234 = .ok (.iconst 2, 1) := by decide +kernel
theorem dL_law_235 : decode cL_law 235 = .ok (.iadd, 1) := by decide +kernel
theorem dL_law_236 : decode cL_law 236 = .ok (.iaload, 1) := by decide +kernel
theorem dL_law_237 : decode cL_law 237 = .ok (.aload_n 0, 1) := by decide +kernel
theorem dL_law_238 : decode cL_law 238 = .ok (.iload_n 3, 1) := by decide +kernel
theorem dL_law_239 : decode cL_law 239 = .ok (.iconst 3, 1) := by decide +kernel
theorem dL_law_240 : decode cL_law 240 = .ok (.iadd, 1) := by decide +kernel
theorem dL_law_241 : decode cL_law 241 = .ok (.iaload, 1) := by decide +kernel
theorem dL_law_242 : decode cL_law 242 = .ok (.aload_n 0, 1) := by decide +kernel
theorem dL_law_243 : decode cL_law 243 = .ok (.iload_n 3, 1) := by decide +kernel
theorem dL_law_244 : decode cL_law 244 = .ok (.iconst 4, 1) := by decide +kernel
theorem dL_law_245 : decode cL_law 245 = .ok (.iadd, 1) := by decide +kernel
theorem dL_law_246 : decode cL_law 246 = .ok (.iaload, 1) := by decide +kernel
theorem dL_law_247 : decode cL_law 247 = .ok (.invokevirtual 23, 3) := by decide +kernel
theorem dL_law_250 : decode cL_law 250 = .ok (.aload_n 2, 1) := by decide +kernel
theorem dL_law_251 : decode cL_law 251 = .ok (.aload_n 0, 1) := by decide +kernel
theorem dL_law_252 : decode cL_law 252 = .ok (.iload_n 3, 1) := by decide +kernel
theorem dL_law_253 : decode cL_law 253 = .ok (.iconst 1, 1) := by decide +kernel
theorem dL_law_254 : decode cL_law 254 = .ok (.iadd, 1) := by decide +kernel
theorem dL_law_255 : decode cL_law 255 = .ok (.iaload, 1) := by decide +kernel
theorem dL_law_256 : decode cL_law 256 = .ok (.aload_n 0, 1) := by decide +kernel
theorem dL_law_257 : decode cL_law 257 = .ok (.iload_n 3, 1) := by decide +kernel
theorem dL_law_258 : decode cL_law 258 = .ok (.iconst 2, 1) := by decide +kernel
theorem dL_law_259 : decode cL_law 259 = .ok (.iadd, 1) := by decide +kernel
theorem dL_law_260 : decode cL_law 260 = .ok (.iaload, 1) := by decide +kernel
theorem dL_law_261 : decode cL_law 261 = .ok (.aload_n 0, 1) := by decide +kernel
theorem dL_law_262 : decode cL_law 262 = .ok (.iload_n 3, 1) := by decide +kernel
theorem dL_law_263 : decode cL_law 263 = .ok (.iconst 3, 1) := by decide +kernel
theorem dL_law_264 : decode cL_law 264 = .ok (.iadd, 1) := by decide +kernel
theorem dL_law_265 : decode cL_law 265 = .ok (.iaload, 1) := by decide +kernel
theorem dL_law_266 : decode cL_law 266 = .ok (.aload_n 0, 1) := by decide +kernel
theorem dL_law_267 : decode cL_law 267 = .ok (.iload_n 3, 1) := by decide +kernel
theorem dL_law_268 : decode cL_law 268 = .ok (.iconst 4, 1) := by decide +kernel
theorem dL_law_269 : decode cL_law 269 = .ok (.iadd, 1) := by decide +kernel
theorem dL_law_270 : decode cL_law 270 = .ok (.iaload, 1) := by decide +kernel
theorem dL_law_271 : decode cL_law 271 = .ok (.invokevirtual 26, 3) := by decide +kernel
theorem dL_law_274 : decode cL_law 274 = .ok (.if_icmp .eq 561, 3) := by decide +kernel
theorem dL_law_277 : decode cL_law 277 = .ok (.iconst 0, 1) := by decide +kernel
theorem dL_law_278 : decode cL_law 278 = .ok (.ireturn, 1) := by decide +kernel
theorem dL_law_279 : decode cL_law 279 = .ok (.aload_n 1, 1) := by decide +kernel
theorem dL_law_280 : decode cL_law 280 = .ok (.aload_n 0, 1) := by decide +kernel
theorem dL_law_281 : decode cL_law 281 = .ok (.iload_n 3, 1) := by decide +kernel
theorem dL_law_282 : decode cL_law 282 = .ok (.iconst 1, 1) := by decide +kernel
theorem dL_law_283 : decode cL_law 283 = .ok (.iadd, 1) := by decide +kernel
theorem dL_law_284 : decode cL_law 284 = .ok (.iaload, 1) := by decide +kernel
theorem dL_law_285 : decode cL_law 285 = .ok (.aload_n 0, 1) := by decide +kernel
theorem dL_law_286 : decode cL_law 286 = .ok (.iload_n 3, 1) := by decide +kernel
theorem dL_law_287 : decode cL_law 287 = .ok (.iconst 2, 1) := by decide +kernel
theorem dL_law_288 : decode cL_law 288 = .ok (.iadd, 1) := by decide +kernel
theorem dL_law_289 : decode cL_law 289 = .ok (.iaload, 1) := by decide +kernel
theorem dL_law_290 : decode cL_law 290 = .ok (.ifCond .eq 7, 3) := by decide +kernel
theorem dL_law_293 : decode cL_law 293 = .ok (.iconst 1, 1) := by decide +kernel
theorem dL_law_294 : decode cL_law 294 = .ok (.goto 4, 3) := by decide +kernel
theorem dL_law_297 : decode cL_law 297 = .ok (.iconst 0, 1) := by decide +kernel
theorem dL_law_298 : decode cL_law 298 = .ok (.invokevirtual 27, 3) := by decide +kernel
theorem dL_law_301 : decode cL_law 301 = .ok (.aload_n 2, 1) := by decide +kernel
theorem dL_law_302 : decode cL_law 302 = .ok (.aload_n 0, 1) := by decide +kernel
theorem dL_law_303 : decode cL_law 303 = .ok (.iload_n 3, 1) := by decide +kernel
theorem dL_law_304 : decode cL_law 304 = .ok (.iconst 1, 1) := by decide +kernel
theorem dL_law_305 : decode cL_law 305 = .ok (.iadd, 1) := by decide +kernel
theorem dL_law_306 : decode cL_law 306 = .ok (.iaload, 1) := by decide +kernel
theorem dL_law_307 : decode cL_law 307 = .ok (.aload_n 0, 1) := by decide +kernel
theorem dL_law_308 : decode cL_law 308 = .ok (.iload_n 3, 1) := by decide +kernel
theorem dL_law_309 : decode cL_law 309 = .ok (.iconst 2, 1) := by decide +kernel
theorem dL_law_310 : decode cL_law 310 = .ok (.iadd, 1) := by decide +kernel
theorem dL_law_311 : decode cL_law 311 = .ok (.iaload, 1) := by decide +kernel
theorem dL_law_312 : decode cL_law 312 = .ok (.ifCond .eq 7, 3) := by decide +kernel
theorem dL_law_315 : decode cL_law 315 = .ok (.iconst 1, 1) := by decide +kernel
theorem dL_law_316 : decode cL_law 316 = .ok (.goto 4, 3) := by decide +kernel
theorem dL_law_319 : decode cL_law 319 = .ok (.iconst 0, 1) := by decide +kernel
theorem dL_law_320 : decode cL_law 320 = .ok (.invokevirtual 31, 3) := by decide +kernel
theorem dL_law_323 : decode cL_law 323 = .ok (.if_icmp .eq 512, 3) := by decide +kernel
theorem dL_law_326 : decode cL_law 326 = .ok (.iconst 0, 1) := by decide +kernel
theorem dL_law_327 : decode cL_law 327 = .ok (.ireturn, 1) := by decide +kernel
theorem dL_law_328 : decode cL_law 328 = .ok (.aload_n 1, 1) := by decide +kernel
theorem dL_law_329 : decode cL_law 329 = .ok (.aload_n 0, 1) := by decide +kernel
theorem dL_law_330 : decode cL_law 330 = .ok (.iload_n 3, 1) := by decide +kernel
theorem dL_law_331 : decode cL_law 331 = .ok (.iconst 1, 1) := by decide +kernel
theorem dL_law_332 : decode cL_law 332 = .ok (.iadd, 1) := by decide +kernel
theorem dL_law_333 : decode cL_law 333 = .ok (.iaload, 1) := by decide +kernel
theorem dL_law_334 : decode cL_law 334 = .ok (.invokevirtual 32, 3) := by decide +kernel
theorem dL_law_337 : decode cL_law 337 = .ok (.aload_n 2, 1) := by decide +kernel
theorem dL_law_338 : decode cL_law 338 = .ok (.aload_n 0, 1) := by decide +kernel
theorem dL_law_339 : decode cL_law 339 = .ok (.iload_n 3, 1) := by decide +kernel
theorem dL_law_340 : decode cL_law 340 = .ok (.iconst 1, 1) := by decide +kernel
theorem dL_law_341 : decode cL_law 341 = .ok (.iadd, 1) := by decide +kernel
theorem dL_law_342 : decode cL_law 342 = .ok (.iaload, 1) := by decide +kernel
theorem dL_law_343 : decode cL_law 343 = .ok (.invokevirtual 36, 3) := by decide +kernel
theorem dL_law_346 : decode cL_law 346 = .ok (.if_icmp .eq 489, 3) := by decide +kernel
theorem dL_law_349 : decode cL_law 349 = .ok (.iconst 0, 1) := by decide +kernel
theorem dL_law_350 : decode cL_law 350 = .ok (.ireturn, 1) := by decide +kernel
theorem dL_law_351 : decode cL_law 351 = .ok (.aload_n 1, 1) := by decide +kernel
theorem dL_law_352 : decode cL_law 352 = .ok (.aload_n 0, 1) := by decide +kernel
theorem dL_law_353 : decode cL_law 353 = .ok (.iload_n 3, 1) := by decide +kernel
theorem dL_law_354 : decode cL_law 354 = .ok (.iconst 1, 1) := by decide +kernel
theorem dL_law_355 : decode cL_law 355 = .ok (.iadd, 1) := by decide +kernel
theorem dL_law_356 : decode cL_law 356 = .ok (.iaload, 1) := by decide +kernel
theorem dL_law_357 : decode cL_law 357 = .ok (.invokevirtual 37, 3) := by decide +kernel
theorem dL_law_360 : decode cL_law 360 = .ok (.aload_n 2, 1) := by decide +kernel
theorem dL_law_361 : decode cL_law 361 = .ok (.aload_n 0, 1) := by decide +kernel
theorem dL_law_362 : decode cL_law 362 = .ok (.iload_n 3, 1) := by decide +kernel
theorem dL_law_363 : decode cL_law 363 = .ok (.iconst 1, 1) := by decide +kernel
theorem dL_law_364 : decode cL_law 364 = .ok (.iadd, 1) := by decide +kernel
theorem dL_law_365 : decode cL_law 365 = .ok (.iaload, 1) := by decide +kernel
theorem dL_law_366 : decode cL_law 366 = .ok (.invokevirtual 40, 3) := by decide +kernel
theorem dL_law_369 : decode cL_law 369 = .ok (.if_icmp .eq 466, 3) := by decide +kernel
theorem dL_law_372 : decode cL_law 372 = .ok (.iconst 0, 1) := by decide +kernel
theorem dL_law_373 : decode cL_law 373 = .ok (.ireturn, 1) := by decide +kernel
theorem dL_law_374 : decode cL_law 374 = .ok (.aload_n 1, 1) := by decide +kernel
theorem dL_law_375 : decode cL_law 375 = .ok (.aload_n 0, 1) := by decide +kernel
theorem dL_law_376 : decode cL_law 376 = .ok (.iload_n 3, 1) := by decide +kernel
theorem dL_law_377 : decode cL_law 377 = .ok (.iconst 1, 1) := by decide +kernel
theorem dL_law_378 : decode cL_law 378 = .ok (.iadd, 1) := by decide +kernel
theorem dL_law_379 : decode cL_law 379 = .ok (.iaload, 1) := by decide +kernel
theorem dL_law_380 : decode cL_law 380 = .ok (.aload_n 0, 1) := by decide +kernel
theorem dL_law_381 : decode cL_law 381 = .ok (.iload_n 3, 1) := by decide +kernel
theorem dL_law_382 : decode cL_law 382 = .ok (.iconst 2, 1) := by decide +kernel
theorem dL_law_383 : decode cL_law 383 = .ok (.iadd, 1) := by decide +kernel
theorem dL_law_384 : decode cL_law 384 = .ok (.iaload, 1) := by decide +kernel
theorem dL_law_385 : decode cL_law 385 = .ok (.invokevirtual 41, 3) := by decide +kernel
theorem dL_law_388 : decode cL_law 388 = .ok (.aload_n 2, 1) := by decide +kernel
theorem dL_law_389 : decode cL_law 389 = .ok (.aload_n 0, 1) := by decide +kernel
theorem dL_law_390 : decode cL_law 390 = .ok (.iload_n 3, 1) := by decide +kernel
theorem dL_law_391 : decode cL_law 391 = .ok (.iconst 1, 1) := by decide +kernel
theorem dL_law_392 : decode cL_law 392 = .ok (.iadd, 1) := by decide +kernel
theorem dL_law_393 : decode cL_law 393 = .ok (.iaload, 1) := by decide +kernel
theorem dL_law_394 : decode cL_law 394 = .ok (.aload_n 0, 1) := by decide +kernel
theorem dL_law_395 : decode cL_law 395 = .ok (.iload_n 3, 1) := by decide +kernel
theorem dL_law_396 : decode cL_law 396 = .ok (.iconst 2, 1) := by decide +kernel
theorem dL_law_397 : decode cL_law 397 = .ok (.iadd, 1) := by decide +kernel
theorem dL_law_398 : decode cL_law 398 = .ok (.iaload, 1) := by decide +kernel
theorem dL_law_399 : decode cL_law 399 = .ok (.invokevirtual 44, 3) := by decide +kernel
theorem dL_law_402 : decode cL_law 402 = .ok (.if_icmp .eq 433, 3) := by decide +kernel
theorem dL_law_405 : decode cL_law 405 = .ok (.iconst 0, 1) := by decide +kernel
theorem dL_law_406 : decode cL_law 406 = .ok (.ireturn, 1) := by decide +kernel
theorem dL_law_407 : decode cL_law 407 = .ok (.aload_n 1, 1) := by decide +kernel
theorem dL_law_408 : decode cL_law 408 = .ok (.aload_n 0, 1) := by decide +kernel
theorem dL_law_409 : decode cL_law 409 = .ok (.iload_n 3, 1) := by decide +kernel
theorem dL_law_410 : decode cL_law 410 = .ok (.iconst 1, 1) := by decide +kernel
theorem dL_law_411 : decode cL_law 411 = .ok (.iadd, 1) := by decide +kernel
theorem dL_law_412 : decode cL_law 412 = .ok (.iaload, 1) := by decide +kernel
theorem dL_law_413 : decode cL_law 413 = .ok (.aload_n 0, 1) := by decide +kernel
theorem dL_law_414 : decode cL_law 414 = .ok (.iload_n 3, 1) := by decide +kernel
theorem dL_law_415 : decode cL_law 415 = .ok (.iconst 2, 1) := by decide +kernel
theorem dL_law_416 : decode cL_law 416 = .ok (.iadd, 1) := by decide +kernel
theorem dL_law_417 : decode cL_law 417 = .ok (.iaload, 1) := by decide +kernel
theorem dL_law_418 : decode cL_law 418 = .ok (.invokevirtual 45, 3) := by decide +kernel
theorem dL_law_421 : decode cL_law 421 = .ok (.aload_n 2, 1) := by decide +kernel
theorem dL_law_422 : decode cL_law 422 = .ok (.aload_n 0, 1) := by decide +kernel
theorem dL_law_423 : decode cL_law 423 = .ok (.iload_n 3, 1) := by decide +kernel
theorem dL_law_424 : decode cL_law 424 = .ok (.iconst 1, 1) := by decide +kernel
theorem dL_law_425 : decode cL_law 425 = .ok (.iadd, 1) := by decide +kernel
theorem dL_law_426 : decode cL_law 426 = .ok (.iaload, 1) := by decide +kernel
theorem dL_law_427 : decode cL_law 427 = .ok (.aload_n 0, 1) := by decide +kernel
theorem dL_law_428 : decode cL_law 428 = .ok (.iload_n 3, 1) := by decide +kernel
theorem dL_law_429 : decode cL_law 429 = .ok (.iconst 2, 1) := by decide +kernel
theorem dL_law_430 : decode cL_law 430 = .ok (.iadd, 1) := by decide +kernel
theorem dL_law_431 : decode cL_law 431 = .ok (.iaload, 1) := by decide +kernel
theorem dL_law_432 : decode cL_law 432 = .ok (.invokevirtual 48, 3) := by decide +kernel
theorem dL_law_435 : decode cL_law 435 = .ok (.if_icmp .eq 400, 3) := by decide +kernel
theorem dL_law_438 : decode cL_law 438 = .ok (.iconst 0, 1) := by decide +kernel
theorem dL_law_439 : decode cL_law 439 = .ok (.ireturn, 1) := by decide +kernel
theorem dL_law_440 : decode cL_law 440 = .ok (.aload_n 1, 1) := by decide +kernel
theorem dL_law_441 : decode cL_law 441 = .ok (.aload_n 0, 1) := by decide +kernel
theorem dL_law_442 : decode cL_law 442 = .ok (.iload_n 3, 1) := by decide +kernel
theorem dL_law_443 : decode cL_law 443 = .ok (.iconst 1, 1) := by decide +kernel
theorem dL_law_444 : decode cL_law 444 = .ok (.iadd, 1) := by decide +kernel
theorem dL_law_445 : decode cL_law 445 = .ok (.iaload, 1) := by decide +kernel
theorem dL_law_446 : decode cL_law 446 = .ok (.aload_n 0, 1) := by decide +kernel
theorem dL_law_447 : decode cL_law 447 = .ok (.iload_n 3, 1) := by decide +kernel
theorem dL_law_448 : decode cL_law 448 = .ok (.iconst 2, 1) := by decide +kernel
theorem dL_law_449 : decode cL_law 449 = .ok (.iadd, 1) := by decide +kernel
theorem dL_law_450 : decode cL_law 450 = .ok (.iaload, 1) := by decide +kernel
theorem dL_law_451 : decode cL_law 451 = .ok (.invokevirtual 49, 3) := by decide +kernel
theorem dL_law_454 : decode cL_law 454 = .ok (.aload_n 2, 1) := by decide +kernel
theorem dL_law_455 : decode cL_law 455 = .ok (.aload_n 0, 1) := by decide +kernel
theorem dL_law_456 : decode cL_law 456 = .ok (.iload_n 3, 1) := by decide +kernel
theorem dL_law_457 : decode cL_law 457 = .ok (.iconst 1, 1) := by decide +kernel
theorem dL_law_458 : decode cL_law 458 = .ok (.iadd, 1) := by decide +kernel
theorem dL_law_459 : decode cL_law 459 = .ok (.iaload, 1) := by decide +kernel
theorem dL_law_460 : decode cL_law 460 = .ok (.aload_n 0, 1) := by decide +kernel
theorem dL_law_461 : decode cL_law 461 = .ok (.iload_n 3, 1) := by decide +kernel
theorem dL_law_462 : decode cL_law 462 = .ok (.iconst 2, 1) := by decide +kernel
theorem dL_law_463 : decode cL_law 463 = .ok (.iadd, 1) := by decide +kernel
theorem dL_law_464 : decode cL_law 464 = .ok (.iaload, 1) := by decide +kernel
theorem dL_law_465 : decode cL_law 465 = .ok (.invokevirtual 52, 3) := by decide +kernel
theorem dL_law_468 : decode cL_law 468 = .ok (.if_icmp .eq 367, 3) := by decide +kernel
theorem dL_law_471 : decode cL_law 471 = .ok (.iconst 0, 1) := by decide +kernel
theorem dL_law_472 : decode cL_law 472 = .ok (.ireturn, 1) := by decide +kernel
theorem dL_law_473 : decode cL_law 473 = .ok (.aload_n 1, 1) := by decide +kernel
theorem dL_law_474 : decode cL_law 474 = .ok (.aload_n 0, 1) := by decide +kernel
theorem dL_law_475 : decode cL_law 475 = .ok (.iload_n 3, 1) := by decide +kernel
theorem dL_law_476 : decode cL_law 476 = .ok (.iconst 1, 1) := by decide +kernel
theorem dL_law_477 : decode cL_law 477 = .ok (.iadd, 1) := by decide +kernel
theorem dL_law_478 : decode cL_law 478 = .ok (.iaload, 1) := by decide +kernel
theorem dL_law_479 : decode cL_law 479 = .ok (.aload_n 0, 1) := by decide +kernel
theorem dL_law_480 : decode cL_law 480 = .ok (.iload_n 3, 1) := by decide +kernel
theorem dL_law_481 : decode cL_law 481 = .ok (.iconst 2, 1) := by decide +kernel
theorem dL_law_482 : decode cL_law 482 = .ok (.iadd, 1) := by decide +kernel
theorem dL_law_483 : decode cL_law 483 = .ok (.iaload, 1) := by decide +kernel
theorem dL_law_484 : decode cL_law 484 = .ok (.invokevirtual 53, 3) := by decide +kernel
theorem dL_law_487 : decode cL_law 487 = .ok (.aload_n 2, 1) := by decide +kernel
theorem dL_law_488 : decode cL_law 488 = .ok (.aload_n 0, 1) := by decide +kernel
theorem dL_law_489 : decode cL_law 489 = .ok (.iload_n 3, 1) := by decide +kernel
theorem dL_law_490 : decode cL_law 490 = .ok (.iconst 1, 1) := by decide +kernel
theorem dL_law_491 : decode cL_law 491 = .ok (.iadd, 1) := by decide +kernel
theorem dL_law_492 : decode cL_law 492 = .ok (.iaload, 1) := by decide +kernel
theorem dL_law_493 : decode cL_law 493 = .ok (.aload_n 0, 1) := by decide +kernel
theorem dL_law_494 : decode cL_law 494 = .ok (.iload_n 3, 1) := by decide +kernel
theorem dL_law_495 : decode cL_law 495 = .ok (.iconst 2, 1) := by decide +kernel
theorem dL_law_496 : decode cL_law 496 = .ok (.iadd, 1) := by decide +kernel
theorem dL_law_497 : decode cL_law 497 = .ok (.iaload, 1) := by decide +kernel
theorem dL_law_498 : decode cL_law 498 = .ok (.invokevirtual 56, 3) := by decide +kernel
theorem dL_law_501 : decode cL_law 501 = .ok (.if_icmp .eq 334, 3) := by decide +kernel
theorem dL_law_504 : decode cL_law 504 = .ok (.iconst 0, 1) := by decide +kernel
theorem dL_law_505 : decode cL_law 505 = .ok (.ireturn, 1) := by decide +kernel
theorem dL_law_506 : decode cL_law 506 = .ok (.aload_n 1, 1) := by decide +kernel
theorem dL_law_507 : decode cL_law 507 = .ok (.aload_n 0, 1) := by decide +kernel
theorem dL_law_508 : decode cL_law 508 = .ok (.iload_n 3, 1) := by decide +kernel
theorem dL_law_509 : decode cL_law 509 = .ok (.iconst 1, 1) := by decide +kernel
theorem dL_law_510 : decode cL_law 510 = .ok (.iadd, 1) := by decide +kernel
theorem dL_law_511 : decode cL_law 511 = .ok (.iaload, 1) := by decide +kernel
theorem dL_law_512 : decode cL_law 512 = .ok (.invokevirtual 57, 3) := by decide +kernel
theorem dL_law_515 : decode cL_law 515 = .ok (.aload_n 2, 1) := by decide +kernel
theorem dL_law_516 : decode cL_law 516 = .ok (.aload_n 0, 1) := by decide +kernel
theorem dL_law_517 : decode cL_law 517 = .ok (.iload_n 3, 1) := by decide +kernel
theorem dL_law_518 : decode cL_law 518 = .ok (.iconst 1, 1) := by decide +kernel
theorem dL_law_519 : decode cL_law 519 = .ok (.iadd, 1) := by decide +kernel
theorem dL_law_520 : decode cL_law 520 = .ok (.iaload, 1) := by decide +kernel
theorem dL_law_521 : decode cL_law 521 = .ok (.invokevirtual 60, 3) := by decide +kernel
theorem dL_law_524 : decode cL_law 524 = .ok (.if_icmp .eq 311, 3) := by decide +kernel
theorem dL_law_527 : decode cL_law 527 = .ok (.iconst 0, 1) := by decide +kernel
theorem dL_law_528 : decode cL_law 528 = .ok (.ireturn, 1) := by decide +kernel
theorem dL_law_529 : decode cL_law 529 = .ok (.aload_n 1, 1) := by decide +kernel
theorem dL_law_530 : decode cL_law 530 = .ok (.aload_n 0, 1) := by decide +kernel
theorem dL_law_531 : decode cL_law 531 = .ok (.iload_n 3, 1) := by decide +kernel
theorem dL_law_532 : decode cL_law 532 = .ok (.iconst 1, 1) := by decide +kernel
theorem dL_law_533 : decode cL_law 533 = .ok (.iadd, 1) := by decide +kernel
theorem dL_law_534 : decode cL_law 534 = .ok (.iaload, 1) := by decide +kernel
theorem dL_law_535 : decode cL_law 535 = .ok (.invokevirtual 61, 3) := by decide +kernel
theorem dL_law_538 : decode cL_law 538 = .ok (.aload_n 2, 1) := by decide +kernel
theorem dL_law_539 : decode cL_law 539 = .ok (.aload_n 0, 1) := by decide +kernel
theorem dL_law_540 : decode cL_law 540 = .ok (.iload_n 3, 1) := by decide +kernel
theorem dL_law_541 : decode cL_law 541 = .ok (.iconst 1, 1) := by decide +kernel
theorem dL_law_542 : decode cL_law 542 = .ok (.iadd, 1) := by decide +kernel
theorem dL_law_543 : decode cL_law 543 = .ok (.iaload, 1) := by decide +kernel
theorem dL_law_544 : decode cL_law 544 = .ok (.invokevirtual 64, 3) := by decide +kernel
theorem dL_law_547 : decode cL_law 547 = .ok (.if_icmp .eq 288, 3) := by decide +kernel
theorem dL_law_550 : decode cL_law 550 = .ok (.iconst 0, 1) := by decide +kernel
theorem dL_law_551 : decode cL_law 551 = .ok (.ireturn, 1) := by decide +kernel
theorem dL_law_552 : decode cL_law 552 = .ok (.aload_n 1, 1) := by decide +kernel
theorem dL_law_553 : decode cL_law 553 = .ok (.aload_n 0, 1) := by decide +kernel
theorem dL_law_554 : decode cL_law 554 = .ok (.iload_n 3, 1) := by decide +kernel
theorem dL_law_555 : decode cL_law 555 = .ok (.iconst 1, 1) := by decide +kernel
theorem dL_law_556 : decode cL_law 556 = .ok (.iadd, 1) := by decide +kernel
theorem dL_law_557 : decode cL_law 557 = .ok (.iaload, 1) := by decide +kernel
theorem dL_law_558 : decode cL_law 558 = .ok (.invokevirtual 65, 3) := by decide +kernel
theorem dL_law_561 : decode cL_law 561 = .ok (.aload_n 2, 1) := by decide +kernel
theorem dL_law_562 : decode cL_law 562 = .ok (.aload_n 0, 1) := by decide +kernel
theorem dL_law_563 : decode cL_law 563 = .ok (.iload_n 3, 1) := by decide +kernel
theorem dL_law_564 : decode cL_law 564 = .ok (.iconst 1, 1) := by decide +kernel
theorem dL_law_565 : decode cL_law 565 = .ok (.iadd, 1) := by decide +kernel
theorem dL_law_566 : decode cL_law 566 = .ok (.iaload, 1) := by decide +kernel
theorem dL_law_567 : decode cL_law 567 = .ok (.invokevirtual 68, 3) := by decide +kernel
theorem dL_law_570 : decode cL_law 570 = .ok (.if_icmp .eq 265, 3) := by decide +kernel
theorem dL_law_573 : decode cL_law 573 = .ok (.iconst 0, 1) := by decide +kernel
theorem dL_law_574 : decode cL_law 574 = .ok (.ireturn, 1) := by decide +kernel
theorem dL_law_575 : decode cL_law 575 = .ok (.aload_n 1, 1) := by decide +kernel
theorem dL_law_576 : decode cL_law 576 = .ok (.aload_n 0, 1) := by decide +kernel
theorem dL_law_577 : decode cL_law 577 = .ok (.iload_n 3, 1) := by decide +kernel
theorem dL_law_578 : decode cL_law 578 = .ok (.iconst 1, 1) := by decide +kernel
theorem dL_law_579 : decode cL_law 579 = .ok (.iadd, 1) := by decide +kernel
theorem dL_law_580 : decode cL_law 580 = .ok (.iaload, 1) := by decide +kernel
theorem dL_law_581 : decode cL_law 581 = .ok (.invokevirtual 69, 3) := by decide +kernel
theorem dL_law_584 : decode cL_law 584 = .ok (.aload_n 2, 1) := by decide +kernel
theorem dL_law_585 : decode cL_law 585 = .ok (.aload_n 0, 1) := by decide +kernel
theorem dL_law_586 : decode cL_law 586 = .ok (.iload_n 3, 1) := by decide +kernel
theorem dL_law_587 : decode cL_law 587 = .ok (.iconst 1, 1) := by decide +kernel
theorem dL_law_588 : decode cL_law 588 = .ok (.iadd, 1) := by decide +kernel
theorem dL_law_589 : decode cL_law 589 = .ok (.iaload, 1) := by decide +kernel
theorem dL_law_590 : decode cL_law 590 = .ok (.invokevirtual 72, 3) := by decide +kernel
theorem dL_law_593 : decode cL_law 593 = .ok (.if_icmp .eq 242, 3) := by decide +kernel
theorem dL_law_596 : decode cL_law 596 = .ok (.iconst 0, 1) := by decide +kernel
theorem dL_law_597 : decode cL_law 597 = .ok (.ireturn, 1) := by decide +kernel
theorem dL_law_598 : decode cL_law 598 = .ok (.aload_n 1, 1) := by decide +kernel
theorem dL_law_599 : decode cL_law 599 = .ok (.aload_n 0, 1) := by decide +kernel
theorem dL_law_600 : decode cL_law 600 = .ok (.iload_n 3, 1) := by decide +kernel
theorem dL_law_601 : decode cL_law 601 = .ok (.iconst 1, 1) := by decide +kernel
theorem dL_law_602 : decode cL_law 602 = .ok (.iadd, 1) := by decide +kernel
theorem dL_law_603 : decode cL_law 603 = .ok (.iaload, 1) := by decide +kernel
theorem dL_law_604 : decode cL_law 604 = .ok (.aload_n 0, 1) := by decide +kernel
theorem dL_law_605 : decode cL_law 605 = .ok (.iload_n 3, 1) := by decide +kernel
theorem dL_law_606 : decode cL_law 606 = .ok (.iconst 2, 1) := by decide +kernel
theorem dL_law_607 : decode cL_law 607 = .ok (.iadd, 1) := by decide +kernel
theorem dL_law_608 : decode cL_law 608 = .ok (.iaload, 1) := by decide +kernel
theorem dL_law_609 : decode cL_law 609 = .ok (.invokevirtual 73, 3) := by decide +kernel
theorem dL_law_612 : decode cL_law 612 = .ok (.aload_n 2, 1) := by decide +kernel
theorem dL_law_613 : decode cL_law 613 = .ok (.aload_n 0, 1) := by decide +kernel
theorem dL_law_614 : decode cL_law 614 = .ok (.iload_n 3, 1) := by decide +kernel
theorem dL_law_615 : decode cL_law 615 = .ok (.iconst 1, 1) := by decide +kernel
theorem dL_law_616 : decode cL_law 616 = .ok (.iadd, 1) := by decide +kernel
theorem dL_law_617 : decode cL_law 617 = .ok (.iaload, 1) := by decide +kernel
theorem dL_law_618 : decode cL_law 618 = .ok (.aload_n 0, 1) := by decide +kernel
theorem dL_law_619 : decode cL_law 619 = .ok (.iload_n 3, 1) := by decide +kernel
theorem dL_law_620 : decode cL_law 620 = .ok (.iconst 2, 1) := by decide +kernel
theorem dL_law_621 : decode cL_law 621 = .ok (.iadd, 1) := by decide +kernel
theorem dL_law_622 : decode cL_law 622 = .ok (.iaload, 1) := by decide +kernel
theorem dL_law_623 : decode cL_law 623 = .ok (.invokevirtual 76, 3) := by decide +kernel
theorem dL_law_626 : decode cL_law 626 = .ok (.if_icmp .eq 209, 3) := by decide +kernel
theorem dL_law_629 : decode cL_law 629 = .ok (.iconst 0, 1) := by decide +kernel
theorem dL_law_630 : decode cL_law 630 = .ok (.ireturn, 1) := by decide +kernel
theorem dL_law_631 : decode cL_law 631 = .ok (.aload_n 1, 1) := by decide +kernel
theorem dL_law_632 : decode cL_law 632 = .ok (.aload_n 0, 1) := by decide +kernel
theorem dL_law_633 : decode cL_law 633 = .ok (.iload_n 3, 1) := by decide +kernel
theorem dL_law_634 : decode cL_law 634 = .ok (.iconst 1, 1) := by decide +kernel
theorem dL_law_635 : decode cL_law 635 = .ok (.iadd, 1) := by decide +kernel
theorem dL_law_636 : decode cL_law 636 = .ok (.iaload, 1) := by decide +kernel
theorem dL_law_637 : decode cL_law 637 = .ok (.aload_n 0, 1) := by decide +kernel
theorem dL_law_638 : decode cL_law 638 = .ok (.iload_n 3, 1) := by decide +kernel
theorem dL_law_639 : decode cL_law 639 = .ok (.iconst 2, 1) := by decide +kernel
theorem dL_law_640 : decode cL_law 640 = .ok (.iadd, 1) := by decide +kernel
theorem dL_law_641 : decode cL_law 641 = .ok (.iaload, 1) := by decide +kernel
theorem dL_law_642 : decode cL_law 642 = .ok (.invokevirtual 77, 3) := by decide +kernel
theorem dL_law_645 : decode cL_law 645 = .ok (.aload_n 2, 1) := by decide +kernel
theorem dL_law_646 : decode cL_law 646 = .ok (.aload_n 0, 1) := by decide +kernel
theorem dL_law_647 : decode cL_law 647 = .ok (.iload_n 3, 1) := by decide +kernel
theorem dL_law_648 : decode cL_law 648 = .ok (.iconst 1, 1) := by decide +kernel
theorem dL_law_649 : decode cL_law 649 = .ok (.iadd, 1) := by decide +kernel
theorem dL_law_650 : decode cL_law 650 = .ok (.iaload, 1) := by decide +kernel
theorem dL_law_651 : decode cL_law 651 = .ok (.aload_n 0, 1) := by decide +kernel
theorem dL_law_652 : decode cL_law 652 = .ok (.iload_n 3, 1) := by decide +kernel
theorem dL_law_653 : decode cL_law 653 = .ok (.iconst 2, 1) := by decide +kernel
theorem dL_law_654 : decode cL_law 654 = .ok (.iadd, 1) := by decide +kernel
theorem dL_law_655 : decode cL_law 655 = .ok (.iaload, 1) := by decide +kernel
theorem dL_law_656 : decode cL_law 656 = .ok (.invokevirtual 80, 3) := by decide +kernel
theorem dL_law_659 : decode cL_law 659 = .ok (.if_icmp .eq 176, 3) := by decide +kernel
theorem dL_law_662 : decode cL_law 662 = .ok (.iconst 0, 1) := by decide +kernel
theorem dL_law_663 : decode cL_law 663 = .ok (.ireturn, 1) := by decide +kernel
theorem dL_law_664 : decode cL_law 664 = .ok (.aload_n 1, 1) := by decide +kernel
theorem dL_law_665 : decode cL_law 665 = .ok (.aload_n 0, 1) := by decide +kernel
theorem dL_law_666 : decode cL_law 666 = .ok (.iload_n 3, 1) := by decide +kernel
theorem dL_law_667 : decode cL_law 667 = .ok (.iconst 1, 1) := by decide +kernel
theorem dL_law_668 : decode cL_law 668 = .ok (.iadd, 1) := by decide +kernel
theorem dL_law_669 : decode cL_law 669 = .ok (.iaload, 1) := by decide +kernel
theorem dL_law_670 : decode cL_law 670 = .ok (.aload_n 0, 1) := by decide +kernel
theorem dL_law_671 : decode cL_law 671 = .ok (.iload_n 3, 1) := by decide +kernel
theorem dL_law_672 : decode cL_law 672 = .ok (.iconst 2, 1) := by decide +kernel
theorem dL_law_673 : decode cL_law 673 = .ok (.iadd, 1) := by decide +kernel
theorem dL_law_674 : decode cL_law 674 = .ok (.iaload, 1) := by decide +kernel
theorem dL_law_675 : decode cL_law 675 = .ok (.invokevirtual 81, 3) := by decide +kernel
theorem dL_law_678 : decode cL_law 678 = .ok (.aload_n 2, 1) := by decide +kernel
theorem dL_law_679 : decode cL_law 679 = .ok (.aload_n 0, 1) := by decide +kernel
theorem dL_law_680 : decode cL_law 680 = .ok (.iload_n 3, 1) := by decide +kernel
theorem dL_law_681 : decode cL_law 681 = .ok (.iconst 1, 1) := by decide +kernel
theorem dL_law_682 : decode cL_law 682 = .ok (.iadd, 1) := by decide +kernel
theorem dL_law_683 : decode cL_law 683 = .ok (.iaload, 1) := by decide +kernel
theorem dL_law_684 : decode cL_law 684 = .ok (.aload_n 0, 1) := by decide +kernel
theorem dL_law_685 : decode cL_law 685 = .ok (.iload_n 3, 1) := by decide +kernel
theorem dL_law_686 : decode cL_law 686 = .ok (.iconst 2, 1) := by decide +kernel
theorem dL_law_687 : decode cL_law 687 = .ok (.iadd, 1) := by decide +kernel
theorem dL_law_688 : decode cL_law 688 = .ok (.iaload, 1) := by decide +kernel
theorem dL_law_689 : decode cL_law 689 = .ok (.invokevirtual 84, 3) := by decide +kernel
theorem dL_law_692 : decode cL_law 692 = .ok (.if_icmp .eq 143, 3) := by decide +kernel
theorem dL_law_695 : decode cL_law 695 = .ok (.iconst 0, 1) := by decide +kernel
theorem dL_law_696 : decode cL_law 696 = .ok (.ireturn, 1) := by decide +kernel
theorem dL_law_697 : decode cL_law 697 = .ok (.aload_n 1, 1) := by decide +kernel
theorem dL_law_698 : decode cL_law 698 = .ok (.aload_n 0, 1) := by decide +kernel
theorem dL_law_699 : decode cL_law 699 = .ok (.iload_n 3, 1) := by decide +kernel
theorem dL_law_700 : decode cL_law 700 = .ok (.iconst 1, 1) := by decide +kernel
theorem dL_law_701 : decode cL_law 701 = .ok (.iadd, 1) := by decide +kernel
theorem dL_law_702 : decode cL_law 702 = .ok (.iaload, 1) := by decide +kernel
theorem dL_law_703 : decode cL_law 703 = .ok (.i2l, 1) := by decide +kernel
theorem dL_law_704 : decode cL_law 704 = .ok (.bipush 32, 2) := by decide +kernel
theorem dL_law_706 : decode cL_law 706 = .ok (.lshl, 1) := by decide +kernel
theorem dL_law_707 : decode cL_law 707 = .ok (.aload_n 0, 1) := by decide +kernel
theorem dL_law_708 : decode cL_law 708 = .ok (.iload_n 3, 1) := by decide +kernel
theorem dL_law_709 : decode cL_law 709 = .ok (.iconst 2, 1) := by decide +kernel
theorem dL_law_710 : decode cL_law 710 = .ok (.iadd, 1) := by decide +kernel
theorem dL_law_711 : decode cL_law 711 = .ok (.iaload, 1) := by decide +kernel
theorem dL_law_712 : decode cL_law 712 = .ok (.i2l, 1) := by decide +kernel
theorem dL_law_713 : decode cL_law 713 = .ok (.ldc2_w 85, 3) := by decide +kernel
theorem dL_law_716 : decode cL_law 716 = .ok (.land, 1) := by decide +kernel
theorem dL_law_717 : decode cL_law 717 = .ok (.lor, 1) := by decide +kernel
theorem dL_law_718 : decode cL_law 718 = .ok (.invokevirtual 87, 3) := by decide +kernel
theorem dL_law_721 : decode cL_law 721 = .ok (.aload_n 2, 1) := by decide +kernel
theorem dL_law_722 : decode cL_law 722 = .ok (.aload_n 0, 1) := by decide +kernel
theorem dL_law_723 : decode cL_law 723 = .ok (.iload_n 3, 1) := by decide +kernel
theorem dL_law_724 : decode cL_law 724 = .ok (.iconst 1, 1) := by decide +kernel
theorem dL_law_725 : decode cL_law 725 = .ok (.iadd, 1) := by decide +kernel
theorem dL_law_726 : decode cL_law 726 = .ok (.iaload, 1) := by decide +kernel
theorem dL_law_727 : decode cL_law 727 = .ok (.i2l, 1) := by decide +kernel
theorem dL_law_728 : decode cL_law 728 = .ok (.bipush 32, 2) := by decide +kernel
theorem dL_law_730 : decode cL_law 730 = .ok (.lshl, 1) := by decide +kernel
theorem dL_law_731 : decode cL_law 731 = .ok (.aload_n 0, 1) := by decide +kernel
theorem dL_law_732 : decode cL_law 732 = .ok (.iload_n 3, 1) := by decide +kernel
theorem dL_law_733 : decode cL_law 733 = .ok (.iconst 2, 1) := by decide +kernel
theorem dL_law_734 : decode cL_law 734 = .ok (.iadd, 1) := by decide +kernel
theorem dL_law_735 : decode cL_law 735 = .ok (.iaload, 1) := by decide +kernel
theorem dL_law_736 : decode cL_law 736 = .ok (.i2l, 1) := by decide +kernel
theorem dL_law_737 : decode cL_law 737 = .ok (.ldc2_w 85, 3) := by decide +kernel
theorem dL_law_740 : decode cL_law 740 = .ok (.land, 1) := by decide +kernel
theorem dL_law_741 : decode cL_law 741 = .ok (.lor, 1) := by decide +kernel
theorem dL_law_742 : decode cL_law 742 = .ok (.invokevirtual 91, 3) := by decide +kernel
theorem dL_law_745 : decode cL_law 745 = .ok (.if_icmp .eq 90, 3) := by decide +kernel
theorem dL_law_748 : decode cL_law 748 = .ok (.iconst 0, 1) := by decide +kernel
theorem dL_law_749 : decode cL_law 749 = .ok (.ireturn, 1) := by decide +kernel
theorem dL_law_750 : decode cL_law 750 = .ok (.aload_n 1, 1) := by decide +kernel
theorem dL_law_751 : decode cL_law 751 = .ok (.invokevirtual 92, 3) := by decide +kernel
theorem dL_law_754 : decode cL_law 754 = .ok (.aload_n 2, 1) := by decide +kernel
theorem dL_law_755 : decode cL_law 755 = .ok (.invokevirtual 96, 3) := by decide +kernel
theorem dL_law_758 : decode cL_law 758 = .ok (.if_icmp .eq 77, 3) := by decide +kernel
theorem dL_law_761 : decode cL_law 761 = .ok (.iconst 0, 1) := by decide +kernel
theorem dL_law_762 : decode cL_law 762 = .ok (.ireturn, 1) := by decide +kernel
theorem dL_law_763 : decode cL_law 763 = .ok (.aload_n 1, 1) := by decide +kernel
theorem dL_law_764 : decode cL_law 764 = .ok (.invokevirtual 97, 3) := by decide +kernel
theorem dL_law_767 : decode cL_law 767 = .ok (.aload_n 2, 1) := by decide +kernel
theorem dL_law_768 : decode cL_law 768 = .ok (.invokevirtual 100, 3) := by decide +kernel
theorem dL_law_771 : decode cL_law 771 = .ok (.if_icmp .eq 64, 3) := by decide +kernel
theorem dL_law_774 : decode cL_law 774 = .ok (.iconst 0, 1) := by decide +kernel
theorem dL_law_775 : decode cL_law 775 = .ok (.ireturn, 1) := by decide +kernel
theorem dL_law_776 : decode cL_law 776 = .ok (.aload_n 1, 1) := by decide +kernel
theorem dL_law_777 : decode cL_law 777 = .ok (.invokevirtual 101, 3) := by decide +kernel
theorem dL_law_780 : decode cL_law 780 = .ok (.aload_n 2, 1) := by decide +kernel
theorem dL_law_781 : decode cL_law 781 = .ok (.invokevirtual 104, 3) := by decide +kernel
theorem dL_law_784 : decode cL_law 784 = .ok (.if_icmp .eq 51, 3) := by decide +kernel
theorem dL_law_787 : decode cL_law 787 = .ok (.iconst 0, 1) := by decide +kernel
theorem dL_law_788 : decode cL_law 788 = .ok (.ireturn, 1) := by decide +kernel
theorem dL_law_789 : decode cL_law 789 = .ok (.aload_n 1, 1) := by decide +kernel
theorem dL_law_790 : decode cL_law 790 = .ok (.aload_n 0, 1) := by decide +kernel
theorem dL_law_791 : decode cL_law 791 = .ok (.iload_n 3, 1) := by decide +kernel
theorem dL_law_792 : decode cL_law 792 = .ok (.iconst 1, 1) := by decide +kernel
theorem dL_law_793 : decode cL_law 793 = .ok (.iadd, 1) := by decide +kernel
theorem dL_law_794 : decode cL_law 794 = .ok (.iaload, 1) := by decide +kernel
theorem dL_law_795 : decode cL_law 795 = .ok (.invokevirtual 105, 3) := by decide +kernel
theorem dL_law_798 : decode cL_law 798 = .ok (.aload_n 2, 1) := by decide +kernel
theorem dL_law_799 : decode cL_law 799 = .ok (.aload_n 0, 1) := by decide +kernel
theorem dL_law_800 : decode cL_law 800 = .ok (.iload_n 3, 1) := by decide +kernel
theorem dL_law_801 : decode cL_law 801 = .ok (.iconst 1, 1) := by decide +kernel
theorem dL_law_802 : decode cL_law 802 = .ok (.iadd, 1) := by decide +kernel
theorem dL_law_803 : decode cL_law 803 = .ok (.iaload, 1) := by decide +kernel
theorem dL_law_804 : decode cL_law 804 = .ok (.invokevirtual 108, 3) := by decide +kernel
theorem dL_law_807 : decode cL_law 807 = .ok (.if_icmp .eq 28, 3) := by decide +kernel
theorem dL_law_810 : decode cL_law 810 = .ok (.iconst 0, 1) := by decide +kernel
theorem dL_law_811 : decode cL_law 811 = .ok (.ireturn, 1) := by decide +kernel
theorem dL_law_812 : decode cL_law 812 = .ok (.aload_n 1, 1) := by decide +kernel
theorem dL_law_813 : decode cL_law 813 = .ok (.aload_n 0, 1) := by decide +kernel
theorem dL_law_814 : decode cL_law 814 = .ok (.iload_n 3, 1) := by decide +kernel
theorem dL_law_815 : decode cL_law 815 = .ok (.iconst 1, 1) := by decide +kernel
theorem dL_law_816 : decode cL_law 816 = .ok (.iadd, 1) := by decide +kernel
theorem dL_law_817 : decode cL_law 817 = .ok (.iaload, 1) := by decide +kernel
theorem dL_law_818 : decode cL_law 818 = .ok (.invokevirtual 109, 3) := by decide +kernel
theorem dL_law_821 : decode cL_law 821 = .ok (.aload_n 2, 1) := by decide +kernel
theorem dL_law_822 : decode cL_law 822 = .ok (.aload_n 0, 1) := by decide +kernel
theorem dL_law_823 : decode cL_law 823 = .ok (.iload_n 3, 1) := by decide +kernel
theorem dL_law_824 : decode cL_law 824 = .ok (.iconst 1, 1) := by decide +kernel
theorem dL_law_825 : decode cL_law 825 = .ok (.iadd, 1) := by decide +kernel
theorem dL_law_826 : decode cL_law 826 = .ok (.iaload, 1) := by decide +kernel
theorem dL_law_827 : decode cL_law 827 = .ok (.invokevirtual 112, 3) := by decide +kernel
theorem dL_law_830 : decode cL_law 830 = .ok (.if_icmp .eq 5, 3) := by decide +kernel
theorem dL_law_833 : decode cL_law 833 = .ok (.iconst 0, 1) := by decide +kernel
theorem dL_law_834 : decode cL_law 834 = .ok (.ireturn, 1) := by decide +kernel
theorem dL_law_835 : decode cL_law 835 = .ok (.iinc 3 5, 3) := by decide +kernel
theorem dL_law_838 : decode cL_law 838 = .ok (.goto (-820), 3) := by decide +kernel
theorem dL_law_841 : decode cL_law 841 = .ok (.iconst 1, 1) := by decide +kernel
theorem dL_law_842 : decode cL_law 842 = .ok (.ireturn, 1) := by decide +kernel
