section
-- began as the skeleton's PART A and the printed NAMES of this claim
-- ===== PART A: goes FIRST, ahead of the names: the tables' words, and 'selects' of the private methods out of them =====
/-- a private method of a class that the tables say can be made, by its rows of tables_1 -/
def lw_okq (q : MethodName × Nat) : Prop := (q.1.cls ≠ "java/lang/invoke/MethodHandle" ∧ q.1.cls ≠ "java/lang/invoke/VarHandle") ∧ Cond.instantiable q.1.cls q.2 ∈ tables_1 ∧ Cond.privateMethod q.1 ∈ tables_1 ∧ Cond.instanceMethod q.1 ∈ tables_1
theorem lw_p0 : lw_okq (⟨"WeylWords", "bad", "()I"⟩, 13) := ⟨⟨by decide +kernel, by decide +kernel⟩, List.mem_of_getElem? (i := 18) (by decide +kernel), List.mem_of_getElem? (i := 352) (by decide +kernel), List.mem_of_getElem? (i := 353) (by decide +kernel)⟩
theorem lw_p1 : lw_okq (⟨"WeylWords", "replaceOperator", "(I)I"⟩, 13) := ⟨⟨by decide +kernel, by decide +kernel⟩, List.mem_of_getElem? (i := 18) (by decide +kernel), List.mem_of_getElem? (i := 416) (by decide +kernel), List.mem_of_getElem? (i := 417) (by decide +kernel)⟩
theorem lw_p2 : lw_okq (⟨"WeylWords", "full", "()I"⟩, 13) := ⟨⟨by decide +kernel, by decide +kernel⟩, List.mem_of_getElem? (i := 18) (by decide +kernel), List.mem_of_getElem? (i := 451) (by decide +kernel), List.mem_of_getElem? (i := 452) (by decide +kernel)⟩
theorem lw_p3 : lw_okq (⟨"WeylWords$Operator", "greatest", "(I)I"⟩, 1) := ⟨⟨by decide +kernel, by decide +kernel⟩, List.mem_of_getElem? (i := 35) (by decide +kernel), List.mem_of_getElem? (i := 518) (by decide +kernel), List.mem_of_getElem? (i := 519) (by decide +kernel)⟩
theorem lw_p4 : lw_okq (⟨"WeylWords$Action", "addImage", "([ILWeylWords$Operator;II)V"⟩, 3) := ⟨⟨by decide +kernel, by decide +kernel⟩, List.mem_of_getElem? (i := 239) (by decide +kernel), List.mem_of_getElem? (i := 564) (by decide +kernel), List.mem_of_getElem? (i := 565) (by decide +kernel)⟩
theorem lw_p5 : lw_okq (⟨"WeylWords$Action", "pivotRow", "(III)I"⟩, 3) := ⟨⟨by decide +kernel, by decide +kernel⟩, List.mem_of_getElem? (i := 239) (by decide +kernel), List.mem_of_getElem? (i := 580) (by decide +kernel), List.mem_of_getElem? (i := 581) (by decide +kernel)⟩
theorem lw_p6 : lw_okq (⟨"WeylWords$Action", "clearBelow", "(III)V"⟩, 3) := ⟨⟨by decide +kernel, by decide +kernel⟩, List.mem_of_getElem? (i := 239) (by decide +kernel), List.mem_of_getElem? (i := 584) (by decide +kernel), List.mem_of_getElem? (i := 585) (by decide +kernel)⟩
theorem lw_p7 : lw_okq (⟨"WeylWords", "no", "()I"⟩, 13) := ⟨⟨by decide +kernel, by decide +kernel⟩, List.mem_of_getElem? (i := 18) (by decide +kernel), List.mem_of_getElem? (i := 595) (by decide +kernel), List.mem_of_getElem? (i := 596) (by decide +kernel)⟩
theorem lw_p8 : lw_okq (⟨"WeylWords$Divider", "cancel", "(LWeylWords$Operator;I)V"⟩, 8) := ⟨⟨by decide +kernel, by decide +kernel⟩, List.mem_of_getElem? (i := 134) (by decide +kernel), List.mem_of_getElem? (i := 629) (by decide +kernel), List.mem_of_getElem? (i := 630) (by decide +kernel)⟩
theorem lw_p9 : lw_okq (⟨"WeylWords", "hasBasis", "(I)Z"⟩, 13) := ⟨⟨by decide +kernel, by decide +kernel⟩, List.mem_of_getElem? (i := 18) (by decide +kernel), List.mem_of_getElem? (i := 639) (by decide +kernel), List.mem_of_getElem? (i := 640) (by decide +kernel)⟩
theorem lw_p10 : lw_okq (⟨"WeylWords$Completion", "gather", "(LWeylWords$State;I)V"⟩, 11) := ⟨⟨by decide +kernel, by decide +kernel⟩, List.mem_of_getElem? (i := 166) (by decide +kernel), List.mem_of_getElem? (i := 656) (by decide +kernel), List.mem_of_getElem? (i := 657) (by decide +kernel)⟩
theorem lw_p11 : lw_okq (⟨"WeylWords$Completion", "complete", "()V"⟩, 11) := ⟨⟨by decide +kernel, by decide +kernel⟩, List.mem_of_getElem? (i := 166) (by decide +kernel), List.mem_of_getElem? (i := 662) (by decide +kernel), List.mem_of_getElem? (i := 663) (by decide +kernel)⟩
theorem lw_p12 : lw_okq (⟨"WeylWords$Completion", "absorb", "()V"⟩, 11) := ⟨⟨by decide +kernel, by decide +kernel⟩, List.mem_of_getElem? (i := 166) (by decide +kernel), List.mem_of_getElem? (i := 667) (by decide +kernel), List.mem_of_getElem? (i := 668) (by decide +kernel)⟩
theorem lw_p13 : lw_okq (⟨"WeylWords$Completion", "dismiss", "(I)V"⟩, 11) := ⟨⟨by decide +kernel, by decide +kernel⟩, List.mem_of_getElem? (i := 166) (by decide +kernel), List.mem_of_getElem? (i := 682) (by decide +kernel), List.mem_of_getElem? (i := 683) (by decide +kernel)⟩
theorem lw_p14 : lw_okq (⟨"WeylWords$Completion", "unsettle", "(I)V"⟩, 11) := ⟨⟨by decide +kernel, by decide +kernel⟩, List.mem_of_getElem? (i := 166) (by decide +kernel), List.mem_of_getElem? (i := 686) (by decide +kernel), List.mem_of_getElem? (i := 687) (by decide +kernel)⟩
theorem lw_p15 : lw_okq (⟨"WeylWords$Completion", "admit", "(II)V"⟩, 11) := ⟨⟨by decide +kernel, by decide +kernel⟩, List.mem_of_getElem? (i := 166) (by decide +kernel), List.mem_of_getElem? (i := 690) (by decide +kernel), List.mem_of_getElem? (i := 691) (by decide +kernel)⟩
def lw_privs_1 : List (MethodName × Nat) := [(⟨"WeylWords", "bad", "()I"⟩, 13), (⟨"WeylWords", "replaceOperator", "(I)I"⟩, 13), (⟨"WeylWords", "full", "()I"⟩, 13), (⟨"WeylWords$Operator", "greatest", "(I)I"⟩, 1), (⟨"WeylWords$Action", "addImage", "([ILWeylWords$Operator;II)V"⟩, 3), (⟨"WeylWords$Action", "pivotRow", "(III)I"⟩, 3), (⟨"WeylWords$Action", "clearBelow", "(III)V"⟩, 3), (⟨"WeylWords", "no", "()I"⟩, 13), (⟨"WeylWords$Divider", "cancel", "(LWeylWords$Operator;I)V"⟩, 8), (⟨"WeylWords", "hasBasis", "(I)Z"⟩, 13), (⟨"WeylWords$Completion", "gather", "(LWeylWords$State;I)V"⟩, 11), (⟨"WeylWords$Completion", "complete", "()V"⟩, 11), (⟨"WeylWords$Completion", "absorb", "()V"⟩, 11), (⟨"WeylWords$Completion", "dismiss", "(I)V"⟩, 11), (⟨"WeylWords$Completion", "unsettle", "(I)V"⟩, 11), (⟨"WeylWords$Completion", "admit", "(II)V"⟩, 11)]
theorem lw_r1 : ∀ q ∈ lw_privs_1, lw_okq q := List.forall_mem_cons.mpr ⟨lw_p0, List.forall_mem_cons.mpr ⟨lw_p1, List.forall_mem_cons.mpr ⟨lw_p2, List.forall_mem_cons.mpr ⟨lw_p3, List.forall_mem_cons.mpr ⟨lw_p4, List.forall_mem_cons.mpr ⟨lw_p5, List.forall_mem_cons.mpr ⟨lw_p6, List.forall_mem_cons.mpr ⟨lw_p7, List.forall_mem_cons.mpr ⟨lw_p8, List.forall_mem_cons.mpr ⟨lw_p9, List.forall_mem_cons.mpr ⟨lw_p10, List.forall_mem_cons.mpr ⟨lw_p11, List.forall_mem_cons.mpr ⟨lw_p12, List.forall_mem_cons.mpr ⟨lw_p13, List.forall_mem_cons.mpr ⟨lw_p14, List.forall_mem_cons.mpr ⟨lw_p15, fun _ h => absurd h List.not_mem_nil⟩⟩⟩⟩⟩⟩⟩⟩⟩⟩⟩⟩⟩⟩⟩⟩
theorem lw_p16 : lw_okq (⟨"WeylWords$Completion", "cheapestPair", "()I"⟩, 11) := ⟨⟨by decide +kernel, by decide +kernel⟩, List.mem_of_getElem? (i := 166) (by decide +kernel), List.mem_of_getElem? (i := 694) (by decide +kernel), List.mem_of_getElem? (i := 695) (by decide +kernel)⟩
theorem lw_p17 : lw_okq (⟨"WeylWords$Completion", "cross", "(I)V"⟩, 11) := ⟨⟨by decide +kernel, by decide +kernel⟩, List.mem_of_getElem? (i := 166) (by decide +kernel), List.mem_of_getElem? (i := 698) (by decide +kernel), List.mem_of_getElem? (i := 699) (by decide +kernel)⟩
theorem lw_p18 : lw_okq (⟨"WeylWords$Completion", "reduceTails", "()V"⟩, 11) := ⟨⟨by decide +kernel, by decide +kernel⟩, List.mem_of_getElem? (i := 166) (by decide +kernel), List.mem_of_getElem? (i := 706) (by decide +kernel), List.mem_of_getElem? (i := 707) (by decide +kernel)⟩
theorem lw_p19 : lw_okq (⟨"WeylWords$Completion", "handOver", "(LWeylWords$Basis;)V"⟩, 11) := ⟨⟨by decide +kernel, by decide +kernel⟩, List.mem_of_getElem? (i := 166) (by decide +kernel), List.mem_of_getElem? (i := 714) (by decide +kernel), List.mem_of_getElem? (i := 715) (by decide +kernel)⟩
theorem lw_p20 : lw_okq (⟨"WeylWords$Text", "pass", "(I)I"⟩, 4) := ⟨⟨by decide +kernel, by decide +kernel⟩, List.mem_of_getElem? (i := 90) (by decide +kernel), List.mem_of_getElem? (i := 769) (by decide +kernel), List.mem_of_getElem? (i := 770) (by decide +kernel)⟩
theorem lw_p21 : lw_okq (⟨"WeylWords$Text", "passOperand", "(I)I"⟩, 4) := ⟨⟨by decide +kernel, by decide +kernel⟩, List.mem_of_getElem? (i := 90) (by decide +kernel), List.mem_of_getElem? (i := 773) (by decide +kernel), List.mem_of_getElem? (i := 774) (by decide +kernel)⟩
theorem lw_p22 : lw_okq (⟨"WeylWords$Text", "passExponent", "(I)I"⟩, 4) := ⟨⟨by decide +kernel, by decide +kernel⟩, List.mem_of_getElem? (i := 90) (by decide +kernel), List.mem_of_getElem? (i := 785) (by decide +kernel), List.mem_of_getElem? (i := 786) (by decide +kernel)⟩
theorem lw_p23 : lw_okq (⟨"WeylWords$Text", "passLink", "(I)I"⟩, 4) := ⟨⟨by decide +kernel, by decide +kernel⟩, List.mem_of_getElem? (i := 90) (by decide +kernel), List.mem_of_getElem? (i := 793) (by decide +kernel), List.mem_of_getElem? (i := 794) (by decide +kernel)⟩
theorem lw_p24 : lw_okq (⟨"WeylWords$Reader", "readExpression", "(I)Z"⟩, 7) := ⟨⟨by decide +kernel, by decide +kernel⟩, List.mem_of_getElem? (i := 257) (by decide +kernel), List.mem_of_getElem? (i := 801) (by decide +kernel), List.mem_of_getElem? (i := 802) (by decide +kernel)⟩
theorem lw_p25 : lw_okq (⟨"WeylWords$Reader", "peek", "()I"⟩, 7) := ⟨⟨by decide +kernel, by decide +kernel⟩, List.mem_of_getElem? (i := 257) (by decide +kernel), List.mem_of_getElem? (i := 806) (by decide +kernel), List.mem_of_getElem? (i := 807) (by decide +kernel)⟩
theorem lw_p26 : lw_okq (⟨"WeylWords$Reader", "readTerm", "(I)Z"⟩, 7) := ⟨⟨by decide +kernel, by decide +kernel⟩, List.mem_of_getElem? (i := 257) (by decide +kernel), List.mem_of_getElem? (i := 811) (by decide +kernel), List.mem_of_getElem? (i := 812) (by decide +kernel)⟩
theorem lw_p27 : lw_okq (⟨"WeylWords$Reader", "readFactor", "(I)Z"⟩, 7) := ⟨⟨by decide +kernel, by decide +kernel⟩, List.mem_of_getElem? (i := 257) (by decide +kernel), List.mem_of_getElem? (i := 816) (by decide +kernel), List.mem_of_getElem? (i := 817) (by decide +kernel)⟩
theorem lw_p28 : lw_okq (⟨"WeylWords$Reader", "readNumber", "(I)I"⟩, 7) := ⟨⟨by decide +kernel, by decide +kernel⟩, List.mem_of_getElem? (i := 257) (by decide +kernel), List.mem_of_getElem? (i := 822) (by decide +kernel), List.mem_of_getElem? (i := 823) (by decide +kernel)⟩
theorem lw_p29 : lw_okq (⟨"WeylWords$Writer", "writeTerm", "(IIZ)V"⟩, 2) := ⟨⟨by decide +kernel, by decide +kernel⟩, List.mem_of_getElem? (i := 287) (by decide +kernel), List.mem_of_getElem? (i := 844) (by decide +kernel), List.mem_of_getElem? (i := 845) (by decide +kernel)⟩
theorem lw_p30 : lw_okq (⟨"WeylWords$Writer", "write", "(I)V"⟩, 2) := ⟨⟨by decide +kernel, by decide +kernel⟩, List.mem_of_getElem? (i := 287) (by decide +kernel), List.mem_of_getElem? (i := 848) (by decide +kernel), List.mem_of_getElem? (i := 849) (by decide +kernel)⟩
theorem lw_p31 : lw_okq (⟨"WeylWords$Writer", "writeNumber", "(I)V"⟩, 2) := ⟨⟨by decide +kernel, by decide +kernel⟩, List.mem_of_getElem? (i := 287) (by decide +kernel), List.mem_of_getElem? (i := 855) (by decide +kernel), List.mem_of_getElem? (i := 856) (by decide +kernel)⟩
def lw_privs_2 : List (MethodName × Nat) := [(⟨"WeylWords$Completion", "cheapestPair", "()I"⟩, 11), (⟨"WeylWords$Completion", "cross", "(I)V"⟩, 11), (⟨"WeylWords$Completion", "reduceTails", "()V"⟩, 11), (⟨"WeylWords$Completion", "handOver", "(LWeylWords$Basis;)V"⟩, 11), (⟨"WeylWords$Text", "pass", "(I)I"⟩, 4), (⟨"WeylWords$Text", "passOperand", "(I)I"⟩, 4), (⟨"WeylWords$Text", "passExponent", "(I)I"⟩, 4), (⟨"WeylWords$Text", "passLink", "(I)I"⟩, 4), (⟨"WeylWords$Reader", "readExpression", "(I)Z"⟩, 7), (⟨"WeylWords$Reader", "peek", "()I"⟩, 7), (⟨"WeylWords$Reader", "readTerm", "(I)Z"⟩, 7), (⟨"WeylWords$Reader", "readFactor", "(I)Z"⟩, 7), (⟨"WeylWords$Reader", "readNumber", "(I)I"⟩, 7), (⟨"WeylWords$Writer", "writeTerm", "(IIZ)V"⟩, 2), (⟨"WeylWords$Writer", "write", "(I)V"⟩, 2), (⟨"WeylWords$Writer", "writeNumber", "(I)V"⟩, 2)]
theorem lw_r2 : ∀ q ∈ lw_privs_2, lw_okq q := List.forall_mem_cons.mpr ⟨lw_p16, List.forall_mem_cons.mpr ⟨lw_p17, List.forall_mem_cons.mpr ⟨lw_p18, List.forall_mem_cons.mpr ⟨lw_p19, List.forall_mem_cons.mpr ⟨lw_p20, List.forall_mem_cons.mpr ⟨lw_p21, List.forall_mem_cons.mpr ⟨lw_p22, List.forall_mem_cons.mpr ⟨lw_p23, List.forall_mem_cons.mpr ⟨lw_p24, List.forall_mem_cons.mpr ⟨lw_p25, List.forall_mem_cons.mpr ⟨lw_p26, List.forall_mem_cons.mpr ⟨lw_p27, List.forall_mem_cons.mpr ⟨lw_p28, List.forall_mem_cons.mpr ⟨lw_p29, List.forall_mem_cons.mpr ⟨lw_p30, List.forall_mem_cons.mpr ⟨lw_p31, fun _ h => absurd h List.not_mem_nil⟩⟩⟩⟩⟩⟩⟩⟩⟩⟩⟩⟩⟩⟩⟩⟩
theorem lw_p32 : lw_okq (⟨"WeylWords$Writer", "writeLetter", "(IIZ)V"⟩, 2) := ⟨⟨by decide +kernel, by decide +kernel⟩, List.mem_of_getElem? (i := 287) (by decide +kernel), List.mem_of_getElem? (i := 861) (by decide +kernel), List.mem_of_getElem? (i := 862) (by decide +kernel)⟩
theorem lw_p33 : lw_okq (⟨"WeylWordsModel", "no", "()I"⟩, 31) := ⟨⟨by decide +kernel, by decide +kernel⟩, List.mem_of_getElem? (i := 887) (by decide +kernel), List.mem_of_getElem? (i := 994) (by decide +kernel), List.mem_of_getElem? (i := 995) (by decide +kernel)⟩
theorem lw_p34 : lw_okq (⟨"WeylWordsModel", "bad", "()I"⟩, 31) := ⟨⟨by decide +kernel, by decide +kernel⟩, List.mem_of_getElem? (i := 887) (by decide +kernel), List.mem_of_getElem? (i := 1011) (by decide +kernel), List.mem_of_getElem? (i := 1012) (by decide +kernel)⟩
theorem lw_p35 : lw_okq (⟨"WeylWordsModel", "remembers", "()V"⟩, 31) := ⟨⟨by decide +kernel, by decide +kernel⟩, List.mem_of_getElem? (i := 887) (by decide +kernel), List.mem_of_getElem? (i := 1015) (by decide +kernel), List.mem_of_getElem? (i := 1016) (by decide +kernel)⟩
theorem lw_p36 : lw_okq (⟨"WeylWordsModel", "fetches", "(II)V"⟩, 31) := ⟨⟨by decide +kernel, by decide +kernel⟩, List.mem_of_getElem? (i := 887) (by decide +kernel), List.mem_of_getElem? (i := 1033) (by decide +kernel), List.mem_of_getElem? (i := 1034) (by decide +kernel)⟩
theorem lw_p37 : lw_okq (⟨"WeylWordsModel", "wipe", "(I)V"⟩, 31) := ⟨⟨by decide +kernel, by decide +kernel⟩, List.mem_of_getElem? (i := 887) (by decide +kernel), List.mem_of_getElem? (i := 1037) (by decide +kernel), List.mem_of_getElem? (i := 1038) (by decide +kernel)⟩
theorem lw_p38 : lw_okq (⟨"WeylWordsModel", "mixes", "(IIIII)V"⟩, 31) := ⟨⟨by decide +kernel, by decide +kernel⟩, List.mem_of_getElem? (i := 887) (by decide +kernel), List.mem_of_getElem? (i := 1041) (by decide +kernel), List.mem_of_getElem? (i := 1042) (by decide +kernel)⟩
theorem lw_p39 : lw_okq (⟨"WeylWordsModel", "keeps", "(II)I"⟩, 31) := ⟨⟨by decide +kernel, by decide +kernel⟩, List.mem_of_getElem? (i := 887) (by decide +kernel), List.mem_of_getElem? (i := 1045) (by decide +kernel), List.mem_of_getElem? (i := 1046) (by decide +kernel)⟩
theorem lw_p40 : lw_okq (⟨"WeylWordsModel", "termsIn", "(I)I"⟩, 31) := ⟨⟨by decide +kernel, by decide +kernel⟩, List.mem_of_getElem? (i := 887) (by decide +kernel), List.mem_of_getElem? (i := 1049) (by decide +kernel), List.mem_of_getElem? (i := 1050) (by decide +kernel)⟩
theorem lw_p41 : lw_okq (⟨"WeylWordsModel", "isTooMuch", "(II)Z"⟩, 31) := ⟨⟨by decide +kernel, by decide +kernel⟩, List.mem_of_getElem? (i := 887) (by decide +kernel), List.mem_of_getElem? (i := 1057) (by decide +kernel), List.mem_of_getElem? (i := 1058) (by decide +kernel)⟩
theorem lw_p42 : lw_okq (⟨"WeylWordsModel", "degreeIn", "(I)I"⟩, 31) := ⟨⟨by decide +kernel, by decide +kernel⟩, List.mem_of_getElem? (i := 887) (by decide +kernel), List.mem_of_getElem? (i := 1061) (by decide +kernel), List.mem_of_getElem? (i := 1062) (by decide +kernel)⟩
theorem lw_p43 : lw_okq (⟨"WeylWordsModel", "full", "()I"⟩, 31) := ⟨⟨by decide +kernel, by decide +kernel⟩, List.mem_of_getElem? (i := 887) (by decide +kernel), List.mem_of_getElem? (i := 1065) (by decide +kernel), List.mem_of_getElem? (i := 1066) (by decide +kernel)⟩
theorem lw_p44 : lw_okq (⟨"WeylWordsModel", "multiplies", "(III)V"⟩, 31) := ⟨⟨by decide +kernel, by decide +kernel⟩, List.mem_of_getElem? (i := 887) (by decide +kernel), List.mem_of_getElem? (i := 1069) (by decide +kernel), List.mem_of_getElem? (i := 1070) (by decide +kernel)⟩
theorem lw_p45 : lw_okq (⟨"WeylWordsModel", "addsBehind", "(IIIII)V"⟩, 31) := ⟨⟨by decide +kernel, by decide +kernel⟩, List.mem_of_getElem? (i := 887) (by decide +kernel), List.mem_of_getElem? (i := 1073) (by decide +kernel), List.mem_of_getElem? (i := 1074) (by decide +kernel)⟩
theorem lw_p46 : lw_okq (⟨"WeylWordsModel", "adds", "(IIIIII)V"⟩, 31) := ⟨⟨by decide +kernel, by decide +kernel⟩, List.mem_of_getElem? (i := 887) (by decide +kernel), List.mem_of_getElem? (i := 1077) (by decide +kernel), List.mem_of_getElem? (i := 1078) (by decide +kernel)⟩
theorem lw_p47 : lw_okq (⟨"WeylWordsModel", "isPowerTooMuch", "(II)Z"⟩, 31) := ⟨⟨by decide +kernel, by decide +kernel⟩, List.mem_of_getElem? (i := 887) (by decide +kernel), List.mem_of_getElem? (i := 1089) (by decide +kernel), List.mem_of_getElem? (i := 1090) (by decide +kernel)⟩
def lw_privs_3 : List (MethodName × Nat) := [(⟨"WeylWords$Writer", "writeLetter", "(IIZ)V"⟩, 2), (⟨"WeylWordsModel", "no", "()I"⟩, 31), (⟨"WeylWordsModel", "bad", "()I"⟩, 31), (⟨"WeylWordsModel", "remembers", "()V"⟩, 31), (⟨"WeylWordsModel", "fetches", "(II)V"⟩, 31), (⟨"WeylWordsModel", "wipe", "(I)V"⟩, 31), (⟨"WeylWordsModel", "mixes", "(IIIII)V"⟩, 31), (⟨"WeylWordsModel", "keeps", "(II)I"⟩, 31), (⟨"WeylWordsModel", "termsIn", "(I)I"⟩, 31), (⟨"WeylWordsModel", "isTooMuch", "(II)Z"⟩, 31), (⟨"WeylWordsModel", "degreeIn", "(I)I"⟩, 31), (⟨"WeylWordsModel", "full", "()I"⟩, 31), (⟨"WeylWordsModel", "multiplies", "(III)V"⟩, 31), (⟨"WeylWordsModel", "addsBehind", "(IIIII)V"⟩, 31), (⟨"WeylWordsModel", "adds", "(IIIIII)V"⟩, 31), (⟨"WeylWordsModel", "isPowerTooMuch", "(II)Z"⟩, 31)]
theorem lw_r3 : ∀ q ∈ lw_privs_3, lw_okq q := List.forall_mem_cons.mpr ⟨lw_p32, List.forall_mem_cons.mpr ⟨lw_p33, List.forall_mem_cons.mpr ⟨lw_p34, List.forall_mem_cons.mpr ⟨lw_p35, List.forall_mem_cons.mpr ⟨lw_p36, List.forall_mem_cons.mpr ⟨lw_p37, List.forall_mem_cons.mpr ⟨lw_p38, List.forall_mem_cons.mpr ⟨lw_p39, List.forall_mem_cons.mpr ⟨lw_p40, List.forall_mem_cons.mpr ⟨lw_p41, List.forall_mem_cons.mpr ⟨lw_p42, List.forall_mem_cons.mpr ⟨lw_p43, List.forall_mem_cons.mpr ⟨lw_p44, List.forall_mem_cons.mpr ⟨lw_p45, List.forall_mem_cons.mpr ⟨lw_p46, List.forall_mem_cons.mpr ⟨lw_p47, fun _ h => absurd h List.not_mem_nil⟩⟩⟩⟩⟩⟩⟩⟩⟩⟩⟩⟩⟩⟩⟩⟩
theorem lw_p48 : lw_okq (⟨"WeylWordsModel", "raises", "(I)V"⟩, 31) := ⟨⟨by decide +kernel, by decide +kernel⟩, List.mem_of_getElem? (i := 887) (by decide +kernel), List.mem_of_getElem? (i := 1093) (by decide +kernel), List.mem_of_getElem? (i := 1094) (by decide +kernel)⟩
theorem lw_p49 : lw_okq (⟨"WeylWordsModel", "copies", "(II)V"⟩, 31) := ⟨⟨by decide +kernel, by decide +kernel⟩, List.mem_of_getElem? (i := 887) (by decide +kernel), List.mem_of_getElem? (i := 1097) (by decide +kernel), List.mem_of_getElem? (i := 1098) (by decide +kernel)⟩
theorem lw_p50 : lw_okq (⟨"WeylWordsModel", "aboutOf", "(II)I"⟩, 31) := ⟨⟨by decide +kernel, by decide +kernel⟩, List.mem_of_getElem? (i := 887) (by decide +kernel), List.mem_of_getElem? (i := 1109) (by decide +kernel), List.mem_of_getElem? (i := 1110) (by decide +kernel)⟩
theorem lw_p51 : lw_okq (⟨"WeylWordsModel", "greatest", "(III)I"⟩, 31) := ⟨⟨by decide +kernel, by decide +kernel⟩, List.mem_of_getElem? (i := 887) (by decide +kernel), List.mem_of_getElem? (i := 1113) (by decide +kernel), List.mem_of_getElem? (i := 1114) (by decide +kernel)⟩
theorem lw_p52 : lw_okq (⟨"WeylWordsModel", "ofLead", "(I)I"⟩, 31) := ⟨⟨by decide +kernel, by decide +kernel⟩, List.mem_of_getElem? (i := 887) (by decide +kernel), List.mem_of_getElem? (i := 1117) (by decide +kernel), List.mem_of_getElem? (i := 1118) (by decide +kernel)⟩
theorem lw_p53 : lw_okq (⟨"WeylWordsModel", "leadIn", "(I)I"⟩, 31) := ⟨⟨by decide +kernel, by decide +kernel⟩, List.mem_of_getElem? (i := 887) (by decide +kernel), List.mem_of_getElem? (i := 1121) (by decide +kernel), List.mem_of_getElem? (i := 1122) (by decide +kernel)⟩
theorem lw_p54 : lw_okq (⟨"WeylWordsModel", "wordBehind", "(II)I"⟩, 31) := ⟨⟨by decide +kernel, by decide +kernel⟩, List.mem_of_getElem? (i := 887) (by decide +kernel), List.mem_of_getElem? (i := 1125) (by decide +kernel), List.mem_of_getElem? (i := 1126) (by decide +kernel)⟩
theorem lw_p55 : lw_okq (⟨"WeylWordsModel", "canMake", "(II)Z"⟩, 31) := ⟨⟨by decide +kernel, by decide +kernel⟩, List.mem_of_getElem? (i := 887) (by decide +kernel), List.mem_of_getElem? (i := 1151) (by decide +kernel), List.mem_of_getElem? (i := 1152) (by decide +kernel)⟩
theorem lw_p56 : lw_okq (⟨"WeylWordsModel", "greatestPower", "(I)I"⟩, 31) := ⟨⟨by decide +kernel, by decide +kernel⟩, List.mem_of_getElem? (i := 887) (by decide +kernel), List.mem_of_getElem? (i := 1158) (by decide +kernel), List.mem_of_getElem? (i := 1159) (by decide +kernel)⟩
theorem lw_p57 : lw_okq (⟨"WeylWordsModel", "laysMatrix", "(II)V"⟩, 31) := ⟨⟨by decide +kernel, by decide +kernel⟩, List.mem_of_getElem? (i := 887) (by decide +kernel), List.mem_of_getElem? (i := 1166) (by decide +kernel), List.mem_of_getElem? (i := 1167) (by decide +kernel)⟩
theorem lw_p58 : lw_okq (⟨"WeylWordsModel", "isFree", "(II)Z"⟩, 31) := ⟨⟨by decide +kernel, by decide +kernel⟩, List.mem_of_getElem? (i := 887) (by decide +kernel), List.mem_of_getElem? (i := 1170) (by decide +kernel), List.mem_of_getElem? (i := 1171) (by decide +kernel)⟩
theorem lw_p59 : lw_okq (⟨"WeylWordsModel", "addsRow", "(III)V"⟩, 31) := ⟨⟨by decide +kernel, by decide +kernel⟩, List.mem_of_getElem? (i := 887) (by decide +kernel), List.mem_of_getElem? (i := 1177) (by decide +kernel), List.mem_of_getElem? (i := 1178) (by decide +kernel)⟩
theorem lw_p60 : lw_okq (⟨"WeylWordsModel", "rests", "(I)V"⟩, 31) := ⟨⟨by decide +kernel, by decide +kernel⟩, List.mem_of_getElem? (i := 887) (by decide +kernel), List.mem_of_getElem? (i := 1192) (by decide +kernel), List.mem_of_getElem? (i := 1193) (by decide +kernel)⟩
theorem lw_p61 : lw_okq (⟨"WeylWordsModel", "findsLeads", "()V"⟩, 31) := ⟨⟨by decide +kernel, by decide +kernel⟩, List.mem_of_getElem? (i := 887) (by decide +kernel), List.mem_of_getElem? (i := 1196) (by decide +kernel), List.mem_of_getElem? (i := 1197) (by decide +kernel)⟩
theorem lw_p62 : lw_okq (⟨"WeylWordsModel", "firstBelow", "(I)I"⟩, 31) := ⟨⟨by decide +kernel, by decide +kernel⟩, List.mem_of_getElem? (i := 887) (by decide +kernel), List.mem_of_getElem? (i := 1200) (by decide +kernel), List.mem_of_getElem? (i := 1201) (by decide +kernel)⟩
theorem lw_p63 : lw_okq (⟨"WeylWordsModel", "isBelow", "(II)Z"⟩, 31) := ⟨⟨by decide +kernel, by decide +kernel⟩, List.mem_of_getElem? (i := 887) (by decide +kernel), List.mem_of_getElem? (i := 1204) (by decide +kernel), List.mem_of_getElem? (i := 1205) (by decide +kernel)⟩
def lw_privs_4 : List (MethodName × Nat) := [(⟨"WeylWordsModel", "raises", "(I)V"⟩, 31), (⟨"WeylWordsModel", "copies", "(II)V"⟩, 31), (⟨"WeylWordsModel", "aboutOf", "(II)I"⟩, 31), (⟨"WeylWordsModel", "greatest", "(III)I"⟩, 31), (⟨"WeylWordsModel", "ofLead", "(I)I"⟩, 31), (⟨"WeylWordsModel", "leadIn", "(I)I"⟩, 31), (⟨"WeylWordsModel", "wordBehind", "(II)I"⟩, 31), (⟨"WeylWordsModel", "canMake", "(II)Z"⟩, 31), (⟨"WeylWordsModel", "greatestPower", "(I)I"⟩, 31), (⟨"WeylWordsModel", "laysMatrix", "(II)V"⟩, 31), (⟨"WeylWordsModel", "isFree", "(II)Z"⟩, 31), (⟨"WeylWordsModel", "addsRow", "(III)V"⟩, 31), (⟨"WeylWordsModel", "rests", "(I)V"⟩, 31), (⟨"WeylWordsModel", "findsLeads", "()V"⟩, 31), (⟨"WeylWordsModel", "firstBelow", "(I)I"⟩, 31), (⟨"WeylWordsModel", "isBelow", "(II)Z"⟩, 31)]
theorem lw_r4 : ∀ q ∈ lw_privs_4, lw_okq q := List.forall_mem_cons.mpr ⟨lw_p48, List.forall_mem_cons.mpr ⟨lw_p49, List.forall_mem_cons.mpr ⟨lw_p50, List.forall_mem_cons.mpr ⟨lw_p51, List.forall_mem_cons.mpr ⟨lw_p52, List.forall_mem_cons.mpr ⟨lw_p53, List.forall_mem_cons.mpr ⟨lw_p54, List.forall_mem_cons.mpr ⟨lw_p55, List.forall_mem_cons.mpr ⟨lw_p56, List.forall_mem_cons.mpr ⟨lw_p57, List.forall_mem_cons.mpr ⟨lw_p58, List.forall_mem_cons.mpr ⟨lw_p59, List.forall_mem_cons.mpr ⟨lw_p60, List.forall_mem_cons.mpr ⟨lw_p61, List.forall_mem_cons.mpr ⟨lw_p62, List.forall_mem_cons.mpr ⟨lw_p63, fun _ h => absurd h List.not_mem_nil⟩⟩⟩⟩⟩⟩⟩⟩⟩⟩⟩⟩⟩⟩⟩⟩
theorem lw_p64 : lw_okq (⟨"WeylWordsModel", "isSmall", "(I)Z"⟩, 31) := ⟨⟨by decide +kernel, by decide +kernel⟩, List.mem_of_getElem? (i := 887) (by decide +kernel), List.mem_of_getElem? (i := 1212) (by decide +kernel), List.mem_of_getElem? (i := 1213) (by decide +kernel)⟩
theorem lw_p65 : lw_okq (⟨"WeylWordsModel", "laysBasis", "(I)V"⟩, 31) := ⟨⟨by decide +kernel, by decide +kernel⟩, List.mem_of_getElem? (i := 887) (by decide +kernel), List.mem_of_getElem? (i := 1216) (by decide +kernel), List.mem_of_getElem? (i := 1217) (by decide +kernel)⟩
theorem lw_p66 : lw_okq (⟨"WeylWordsModel", "tidies", "()V"⟩, 31) := ⟨⟨by decide +kernel, by decide +kernel⟩, List.mem_of_getElem? (i := 887) (by decide +kernel), List.mem_of_getElem? (i := 1220) (by decide +kernel), List.mem_of_getElem? (i := 1221) (by decide +kernel)⟩
theorem lw_p67 : lw_okq (⟨"WeylWordsModel", "takesBy", "(I)V"⟩, 31) := ⟨⟨by decide +kernel, by decide +kernel⟩, List.mem_of_getElem? (i := 887) (by decide +kernel), List.mem_of_getElem? (i := 1224) (by decide +kernel), List.mem_of_getElem? (i := 1225) (by decide +kernel)⟩
theorem lw_p68 : lw_okq (⟨"WeylWordsModel", "rowGoes", "(I)V"⟩, 31) := ⟨⟨by decide +kernel, by decide +kernel⟩, List.mem_of_getElem? (i := 887) (by decide +kernel), List.mem_of_getElem? (i := 1228) (by decide +kernel), List.mem_of_getElem? (i := 1229) (by decide +kernel)⟩
theorem lw_p69 : lw_okq (⟨"WeylWordsModel", "evens", "(I)V"⟩, 31) := ⟨⟨by decide +kernel, by decide +kernel⟩, List.mem_of_getElem? (i := 887) (by decide +kernel), List.mem_of_getElem? (i := 1232) (by decide +kernel), List.mem_of_getElem? (i := 1233) (by decide +kernel)⟩
theorem lw_p70 : lw_okq (⟨"WeylWordsModel", "areAlike", "(II)Z"⟩, 31) := ⟨⟨by decide +kernel, by decide +kernel⟩, List.mem_of_getElem? (i := 887) (by decide +kernel), List.mem_of_getElem? (i := 1236) (by decide +kernel), List.mem_of_getElem? (i := 1237) (by decide +kernel)⟩
theorem lw_p71 : lw_okq (⟨"WeylWordsModel", "isOneMore", "()Z"⟩, 31) := ⟨⟨by decide +kernel, by decide +kernel⟩, List.mem_of_getElem? (i := 887) (by decide +kernel), List.mem_of_getElem? (i := 1240) (by decide +kernel), List.mem_of_getElem? (i := 1241) (by decide +kernel)⟩
theorem lw_p72 : lw_okq (⟨"WeylWordsModel", "sorts", "(Z)V"⟩, 31) := ⟨⟨by decide +kernel, by decide +kernel⟩, List.mem_of_getElem? (i := 887) (by decide +kernel), List.mem_of_getElem? (i := 1244) (by decide +kernel), List.mem_of_getElem? (i := 1245) (by decide +kernel)⟩
theorem lw_p73 : lw_okq (⟨"WeylWordsModel", "isAhead", "(II)Z"⟩, 31) := ⟨⟨by decide +kernel, by decide +kernel⟩, List.mem_of_getElem? (i := 887) (by decide +kernel), List.mem_of_getElem? (i := 1248) (by decide +kernel), List.mem_of_getElem? (i := 1249) (by decide +kernel)⟩
theorem lw_p74 : lw_okq (⟨"WeylWordsModel", "exchanges", "(II)V"⟩, 31) := ⟨⟨by decide +kernel, by decide +kernel⟩, List.mem_of_getElem? (i := 887) (by decide +kernel), List.mem_of_getElem? (i := 1252) (by decide +kernel), List.mem_of_getElem? (i := 1253) (by decide +kernel)⟩
theorem lw_p75 : lw_okq (⟨"WeylWordsModel", "crosses", "(II)V"⟩, 31) := ⟨⟨by decide +kernel, by decide +kernel⟩, List.mem_of_getElem? (i := 887) (by decide +kernel), List.mem_of_getElem? (i := 1256) (by decide +kernel), List.mem_of_getElem? (i := 1257) (by decide +kernel)⟩
theorem lw_p76 : lw_okq (⟨"WeylWordsModel", "isRead", "(Z)Z"⟩, 31) := ⟨⟨by decide +kernel, by decide +kernel⟩, List.mem_of_getElem? (i := 887) (by decide +kernel), List.mem_of_getElem? (i := 1284) (by decide +kernel), List.mem_of_getElem? (i := 1285) (by decide +kernel)⟩
theorem lw_p77 : lw_okq (⟨"WeylWordsModel", "opens", "()V"⟩, 31) := ⟨⟨by decide +kernel, by decide +kernel⟩, List.mem_of_getElem? (i := 887) (by decide +kernel), List.mem_of_getElem? (i := 1288) (by decide +kernel), List.mem_of_getElem? (i := 1289) (by decide +kernel)⟩
theorem lw_p78 : lw_okq (⟨"WeylWordsModel", "blanks", "()V"⟩, 31) := ⟨⟨by decide +kernel, by decide +kernel⟩, List.mem_of_getElem? (i := 887) (by decide +kernel), List.mem_of_getElem? (i := 1292) (by decide +kernel), List.mem_of_getElem? (i := 1293) (by decide +kernel)⟩
theorem lw_p79 : lw_okq (⟨"WeylWordsModel", "isAt", "(II)Z"⟩, 31) := ⟨⟨by decide +kernel, by decide +kernel⟩, List.mem_of_getElem? (i := 887) (by decide +kernel), List.mem_of_getElem? (i := 1296) (by decide +kernel), List.mem_of_getElem? (i := 1297) (by decide +kernel)⟩
def lw_privs_5 : List (MethodName × Nat) := [(⟨"WeylWordsModel", "isSmall", "(I)Z"⟩, 31), (⟨"WeylWordsModel", "laysBasis", "(I)V"⟩, 31), (⟨"WeylWordsModel", "tidies", "()V"⟩, 31), (⟨"WeylWordsModel", "takesBy", "(I)V"⟩, 31), (⟨"WeylWordsModel", "rowGoes", "(I)V"⟩, 31), (⟨"WeylWordsModel", "evens", "(I)V"⟩, 31), (⟨"WeylWordsModel", "areAlike", "(II)Z"⟩, 31), (⟨"WeylWordsModel", "isOneMore", "()Z"⟩, 31), (⟨"WeylWordsModel", "sorts", "(Z)V"⟩, 31), (⟨"WeylWordsModel", "isAhead", "(II)Z"⟩, 31), (⟨"WeylWordsModel", "exchanges", "(II)V"⟩, 31), (⟨"WeylWordsModel", "crosses", "(II)V"⟩, 31), (⟨"WeylWordsModel", "isRead", "(Z)Z"⟩, 31), (⟨"WeylWordsModel", "opens", "()V"⟩, 31), (⟨"WeylWordsModel", "blanks", "()V"⟩, 31), (⟨"WeylWordsModel", "isAt", "(II)Z"⟩, 31)]
theorem lw_r5 : ∀ q ∈ lw_privs_5, lw_okq q := List.forall_mem_cons.mpr ⟨lw_p64, List.forall_mem_cons.mpr ⟨lw_p65, List.forall_mem_cons.mpr ⟨lw_p66, List.forall_mem_cons.mpr ⟨lw_p67, List.forall_mem_cons.mpr ⟨lw_p68, List.forall_mem_cons.mpr ⟨lw_p69, List.forall_mem_cons.mpr ⟨lw_p70, List.forall_mem_cons.mpr ⟨lw_p71, List.forall_mem_cons.mpr ⟨lw_p72, List.forall_mem_cons.mpr ⟨lw_p73, List.forall_mem_cons.mpr ⟨lw_p74, List.forall_mem_cons.mpr ⟨lw_p75, List.forall_mem_cons.mpr ⟨lw_p76, List.forall_mem_cons.mpr ⟨lw_p77, List.forall_mem_cons.mpr ⟨lw_p78, List.forall_mem_cons.mpr ⟨lw_p79, fun _ h => absurd h List.not_mem_nil⟩⟩⟩⟩⟩⟩⟩⟩⟩⟩⟩⟩⟩⟩⟩⟩
theorem lw_p80 : lw_okq (⟨"WeylWordsModel", "takesFactor", "()Z"⟩, 31) := ⟨⟨by decide +kernel, by decide +kernel⟩, List.mem_of_getElem? (i := 887) (by decide +kernel), List.mem_of_getElem? (i := 1300) (by decide +kernel), List.mem_of_getElem? (i := 1301) (by decide +kernel)⟩
theorem lw_p81 : lw_okq (⟨"WeylWordsModel", "fails", "(I)Z"⟩, 31) := ⟨⟨by decide +kernel, by decide +kernel⟩, List.mem_of_getElem? (i := 887) (by decide +kernel), List.mem_of_getElem? (i := 1304) (by decide +kernel), List.mem_of_getElem? (i := 1305) (by decide +kernel)⟩
theorem lw_p82 : lw_okq (⟨"WeylWordsModel", "takesFigures", "(I)Z"⟩, 31) := ⟨⟨by decide +kernel, by decide +kernel⟩, List.mem_of_getElem? (i := 887) (by decide +kernel), List.mem_of_getElem? (i := 1308) (by decide +kernel), List.mem_of_getElem? (i := 1309) (by decide +kernel)⟩
theorem lw_p83 : lw_okq (⟨"WeylWordsModel", "values", "(III)V"⟩, 31) := ⟨⟨by decide +kernel, by decide +kernel⟩, List.mem_of_getElem? (i := 887) (by decide +kernel), List.mem_of_getElem? (i := 1312) (by decide +kernel), List.mem_of_getElem? (i := 1313) (by decide +kernel)⟩
theorem lw_p84 : lw_okq (⟨"WeylWordsModel", "takesPower", "()Z"⟩, 31) := ⟨⟨by decide +kernel, by decide +kernel⟩, List.mem_of_getElem? (i := 887) (by decide +kernel), List.mem_of_getElem? (i := 1316) (by decide +kernel), List.mem_of_getElem? (i := 1317) (by decide +kernel)⟩
theorem lw_p85 : lw_okq (⟨"WeylWordsModel", "takes", "(I)V"⟩, 31) := ⟨⟨by decide +kernel, by decide +kernel⟩, List.mem_of_getElem? (i := 887) (by decide +kernel), List.mem_of_getElem? (i := 1320) (by decide +kernel), List.mem_of_getElem? (i := 1321) (by decide +kernel)⟩
theorem lw_p86 : lw_okq (⟨"WeylWordsModel", "takesSign", "()Z"⟩, 31) := ⟨⟨by decide +kernel, by decide +kernel⟩, List.mem_of_getElem? (i := 887) (by decide +kernel), List.mem_of_getElem? (i := 1324) (by decide +kernel), List.mem_of_getElem? (i := 1325) (by decide +kernel)⟩
theorem lw_p87 : lw_okq (⟨"WeylWordsModel", "closes", "()V"⟩, 31) := ⟨⟨by decide +kernel, by decide +kernel⟩, List.mem_of_getElem? (i := 887) (by decide +kernel), List.mem_of_getElem? (i := 1328) (by decide +kernel), List.mem_of_getElem? (i := 1329) (by decide +kernel)⟩
theorem lw_p88 : lw_okq (⟨"WeylWordsModel", "laysLine", "(I)V"⟩, 31) := ⟨⟨by decide +kernel, by decide +kernel⟩, List.mem_of_getElem? (i := 887) (by decide +kernel), List.mem_of_getElem? (i := 1336) (by decide +kernel), List.mem_of_getElem? (i := 1337) (by decide +kernel)⟩
theorem lw_p89 : lw_okq (⟨"WeylWordsModel", "writesTerm", "(II)V"⟩, 31) := ⟨⟨by decide +kernel, by decide +kernel⟩, List.mem_of_getElem? (i := 887) (by decide +kernel), List.mem_of_getElem? (i := 1340) (by decide +kernel), List.mem_of_getElem? (i := 1341) (by decide +kernel)⟩
theorem lw_p90 : lw_okq (⟨"WeylWordsModel", "writes", "(I)V"⟩, 31) := ⟨⟨by decide +kernel, by decide +kernel⟩, List.mem_of_getElem? (i := 887) (by decide +kernel), List.mem_of_getElem? (i := 1344) (by decide +kernel), List.mem_of_getElem? (i := 1345) (by decide +kernel)⟩
theorem lw_p91 : lw_okq (⟨"WeylWordsModel", "writesNumber", "(I)V"⟩, 31) := ⟨⟨by decide +kernel, by decide +kernel⟩, List.mem_of_getElem? (i := 887) (by decide +kernel), List.mem_of_getElem? (i := 1348) (by decide +kernel), List.mem_of_getElem? (i := 1349) (by decide +kernel)⟩
theorem lw_p92 : lw_okq (⟨"WeylWordsModel", "writesLetter", "(II)V"⟩, 31) := ⟨⟨by decide +kernel, by decide +kernel⟩, List.mem_of_getElem? (i := 887) (by decide +kernel), List.mem_of_getElem? (i := 1352) (by decide +kernel), List.mem_of_getElem? (i := 1353) (by decide +kernel)⟩
theorem lw_p93 : lw_okq (⟨"WeylWordsModel", "toldOf", "(I)I"⟩, 31) := ⟨⟨by decide +kernel, by decide +kernel⟩, List.mem_of_getElem? (i := 887) (by decide +kernel), List.mem_of_getElem? (i := 1360) (by decide +kernel), List.mem_of_getElem? (i := 1361) (by decide +kernel)⟩
theorem lw_p94 : lw_okq (⟨"WeylWordsModel", "mix", "(J)V"⟩, 31) := ⟨⟨by decide +kernel, by decide +kernel⟩, List.mem_of_getElem? (i := 887) (by decide +kernel), List.mem_of_getElem? (i := 1369) (by decide +kernel), List.mem_of_getElem? (i := 1370) (by decide +kernel)⟩
def lw_privs_6 : List (MethodName × Nat) := [(⟨"WeylWordsModel", "takesFactor", "()Z"⟩, 31), (⟨"WeylWordsModel", "fails", "(I)Z"⟩, 31), (⟨"WeylWordsModel", "takesFigures", "(I)Z"⟩, 31), (⟨"WeylWordsModel", "values", "(III)V"⟩, 31), (⟨"WeylWordsModel", "takesPower", "()Z"⟩, 31), (⟨"WeylWordsModel", "takes", "(I)V"⟩, 31), (⟨"WeylWordsModel", "takesSign", "()Z"⟩, 31), (⟨"WeylWordsModel", "closes", "()V"⟩, 31), (⟨"WeylWordsModel", "laysLine", "(I)V"⟩, 31), (⟨"WeylWordsModel", "writesTerm", "(II)V"⟩, 31), (⟨"WeylWordsModel", "writes", "(I)V"⟩, 31), (⟨"WeylWordsModel", "writesNumber", "(I)V"⟩, 31), (⟨"WeylWordsModel", "writesLetter", "(II)V"⟩, 31), (⟨"WeylWordsModel", "toldOf", "(I)I"⟩, 31), (⟨"WeylWordsModel", "mix", "(J)V"⟩, 31)]
theorem lw_r6 : ∀ q ∈ lw_privs_6, lw_okq q := List.forall_mem_cons.mpr ⟨lw_p80, List.forall_mem_cons.mpr ⟨lw_p81, List.forall_mem_cons.mpr ⟨lw_p82, List.forall_mem_cons.mpr ⟨lw_p83, List.forall_mem_cons.mpr ⟨lw_p84, List.forall_mem_cons.mpr ⟨lw_p85, List.forall_mem_cons.mpr ⟨lw_p86, List.forall_mem_cons.mpr ⟨lw_p87, List.forall_mem_cons.mpr ⟨lw_p88, List.forall_mem_cons.mpr ⟨lw_p89, List.forall_mem_cons.mpr ⟨lw_p90, List.forall_mem_cons.mpr ⟨lw_p91, List.forall_mem_cons.mpr ⟨lw_p92, List.forall_mem_cons.mpr ⟨lw_p93, List.forall_mem_cons.mpr ⟨lw_p94, fun _ h => absurd h List.not_mem_nil⟩⟩⟩⟩⟩⟩⟩⟩⟩⟩⟩⟩⟩⟩⟩
def lw_privs : List (MethodName × Nat) := lw_privs_1 ++ (lw_privs_2 ++ (lw_privs_3 ++ (lw_privs_4 ++ (lw_privs_5 ++ (lw_privs_6)))))
def lw_tbl : List Cond := k2_sels lw_privs ++ tables_1
theorem lw_privs_ok : ∀ q ∈ lw_privs, lw_okq q := by
  show ∀ q ∈ lw_privs_1 ++ (lw_privs_2 ++ (lw_privs_3 ++ (lw_privs_4 ++ (lw_privs_5 ++ (lw_privs_6))))), lw_okq q
  exact List.forall_mem_append.mpr ⟨lw_r1, List.forall_mem_append.mpr ⟨lw_r2, List.forall_mem_append.mpr ⟨lw_r3, List.forall_mem_append.mpr ⟨lw_r4, List.forall_mem_append.mpr ⟨lw_r5, lw_r6⟩⟩⟩⟩⟩
def RX0 : String := "WeylWords$Action"
def TX0 : u_T := fun k => match k with
  | 0 => ("WeylWords$Action", "falling", "[[I", true)
  | 1 => ("WeylWords$Action", "rows", "[[I", true)
  | _ => ("WeylWords$Action", "image", "[I", true)
def tyX0 : Nat → FieldType := fun k => match k with
  | 0 => .array (.array .int)
  | 1 => .array (.array .int)
  | _ => .array .int
theorem nmX0 : ∀ a, a < 3 → ∀ b, b < 3 → a ≠ b → (TX0 a).2.1 ≠ (TX0 b).2.1 := by decide +kernel
theorem tyX0_ok : ∀ k, k < 3 → parseFieldDescriptor (TX0 k).2.2.1 = some (tyX0 k) := by decide +kernel
abbrev cX0_init : ByteArray := prog_2_method_1_code
def yX0_init : MethodName := ⟨RX0, "<init>", "(LWeylWords$Algebra;)V"⟩
abbrev cX0_degree : ByteArray := prog_2_method_2_code
def yX0_degree : MethodName := ⟨RX0, "degree", "([I)I"⟩
abbrev cX0_fits : ByteArray := prog_2_method_3_code
def yX0_fits : MethodName := ⟨RX0, "fits", "(LWeylWords$Operator;[I)Z"⟩
abbrev cX0_apply : ByteArray := prog_2_method_4_code
def yX0_apply : MethodName := ⟨RX0, "apply", "(LWeylWords$Operator;[I)V"⟩
abbrev cX0_addImage : ByteArray := prog_2_method_5_code
def yX0_addImage : MethodName := ⟨RX0, "addImage", "([ILWeylWords$Operator;II)V"⟩
abbrev cX0_kernelDimension : ByteArray := prog_2_method_6_code
def yX0_kernelDimension : MethodName := ⟨RX0, "kernelDimension", "(LWeylWords$Operator;I)I"⟩
abbrev cX0_pivotRow : ByteArray := prog_2_method_7_code
def yX0_pivotRow : MethodName := ⟨RX0, "pivotRow", "(III)I"⟩
abbrev cX0_clearBelow : ByteArray := prog_2_method_8_code
def yX0_clearBelow : MethodName := ⟨RX0, "clearBelow", "(III)V"⟩
def RX1 : String := "WeylWords$Algebra"
def TX1 : u_T := fun k => match k with
  | 0 => ("WeylWords$Algebra", "choose", "[[I", true)
  | 1 => ("WeylWords$Algebra", "falling", "[[I", true)
  | _ => ("WeylWords$Algebra", "spare", "LWeylWords$Operator;", true)
def tyX1 : Nat → FieldType := fun k => match k with
  | 0 => .array (.array .int)
  | 1 => .array (.array .int)
  | _ => .object "WeylWords$Operator"
theorem nmX1 : ∀ a, a < 3 → ∀ b, b < 3 → a ≠ b → (TX1 a).2.1 ≠ (TX1 b).2.1 := by decide +kernel
theorem tyX1_ok : ∀ k, k < 3 → parseFieldDescriptor (TX1 k).2.2.1 = some (tyX1 k) := by decide +kernel
abbrev cX1_init : ByteArray := prog_3_method_1_code
def yX1_init : MethodName := ⟨RX1, "<init>", "()V"⟩
abbrev cX1_residue : ByteArray := prog_3_method_2_code
def yX1_residue : MethodName := ⟨RX1, "residue", "(I)I"⟩
abbrev cX1_balanced : ByteArray := prog_3_method_3_code
def yX1_balanced : MethodName := ⟨RX1, "balanced", "(I)I"⟩
abbrev cX1_inverse : ByteArray := prog_3_method_4_code
def yX1_inverse : MethodName := ⟨RX1, "inverse", "(I)I"⟩
abbrev cX1_productFits : ByteArray := prog_3_method_5_code
def yX1_productFits : MethodName := ⟨RX1, "productFits", "(LWeylWords$Operator;LWeylWords$Operator;)Z"⟩
abbrev cX1_powerFits : ByteArray := prog_3_method_6_code
def yX1_powerFits : MethodName := ⟨RX1, "powerFits", "(LWeylWords$Operator;I)Z"⟩
abbrev cX1_addProduct : ByteArray := prog_3_method_7_code
def yX1_addProduct : MethodName := ⟨RX1, "addProduct", "(LWeylWords$Operator;ILWeylWords$Operator;LWeylWords$Operator;)V"⟩
abbrev cX1_addWordProduct : ByteArray := prog_3_method_8_code
def yX1_addWordProduct : MethodName := ⟨RX1, "addWordProduct", "(LWeylWords$Operator;IILWeylWords$Operator;I)V"⟩
abbrev cX1_raise : ByteArray := prog_3_method_9_code
def yX1_raise : MethodName := ⟨RX1, "raise", "(LWeylWords$Operator;LWeylWords$Operator;I)V"⟩
abbrev cX1_adjoin : ByteArray := prog_3_method_10_code
def yX1_adjoin : MethodName := ⟨RX1, "adjoin", "(LWeylWords$Operator;LWeylWords$Operator;)V"⟩
def RX2 : String := "WeylWords$Basis"
def TX2 : u_T := fun k => match k with
  | 0 => ("WeylWords$Basis", "parts", "[LWeylWords$Operator;", true)
  | 1 => ("WeylWords$Basis", "leadXs", "[I", true)
  | 2 => ("WeylWords$Basis", "leadDs", "[I", true)
  | 3 => ("WeylWords$Basis", "source", "[I", true)
  | 4 => ("WeylWords$Basis", "sourceOrder", "I", false)
  | _ => ("WeylWords$Basis", "count", "I", false)
def tyX2 : Nat → FieldType := fun k => match k with
  | 0 => .array (.object "WeylWords$Operator")
  | 1 => .array .int
  | 2 => .array .int
  | 3 => .array .int
  | 4 => .int
  | _ => .int
theorem nmX2 : ∀ a, a < 6 → ∀ b, b < 6 → a ≠ b → (TX2 a).2.1 ≠ (TX2 b).2.1 := by decide +kernel
theorem tyX2_ok : ∀ k, k < 6 → parseFieldDescriptor (TX2 k).2.2.1 = some (tyX2 k) := by decide +kernel
abbrev cX2_init : ByteArray := prog_4_method_1_code
def yX2_init : MethodName := ⟨RX2, "<init>", "()V"⟩
abbrev cX2_covers : ByteArray := prog_4_method_2_code
def yX2_covers : MethodName := ⟨RX2, "covers", "(II)Z"⟩
abbrev cX2_isFor : ByteArray := prog_4_method_3_code
def yX2_isFor : MethodName := ⟨RX2, "isFor", "(LWeylWords$State;I)Z"⟩
abbrev cX2_begin : ByteArray := prog_4_method_4_code
def yX2_begin : MethodName := ⟨RX2, "begin", "(LWeylWords$State;I)V"⟩
abbrev cX2_add : ByteArray := prog_4_method_5_code
def yX2_add : MethodName := ⟨RX2, "add", "(LWeylWords$Operator;)V"⟩
abbrev cX2_sourceCell : ByteArray := prog_4_method_6_code
def yX2_sourceCell : MethodName := ⟨RX2, "sourceCell", "(LWeylWords$State;III)I"⟩
def RX3 : String := "WeylWords$Completion"
def TX3 : u_T := fun k => match k with
  | 0 => ("WeylWords$Completion", "algebra", "LWeylWords$Algebra;", true)
  | 1 => ("WeylWords$Completion", "divider", "LWeylWords$Divider;", true)
  | 2 => ("WeylWords$Completion", "bases", "[LWeylWords$Basis;", true)
  | 3 => ("WeylWords$Completion", "oldest", "I", false)
  | 4 => ("WeylWords$Completion", "rows", "[LWeylWords$Operator;", true)
  | 5 => ("WeylWords$Completion", "leadXs", "[I", true)
  | 6 => ("WeylWords$Completion", "leadDs", "[I", true)
  | 7 => ("WeylWords$Completion", "settled", "[Z", true)
  | 8 => ("WeylWords$Completion", "kept", "I", false)
  | 9 => ("WeylWords$Completion", "waiting", "I", false)
  | _ => ("WeylWords$Completion", "order", "I", false)
def tyX3 : Nat → FieldType := fun k => match k with
  | 0 => .object "WeylWords$Algebra"
  | 1 => .object "WeylWords$Divider"
  | 2 => .array (.object "WeylWords$Basis")
  | 3 => .int
  | 4 => .array (.object "WeylWords$Operator")
  | 5 => .array .int
  | 6 => .array .int
  | 7 => .array .boolean
  | 8 => .int
  | 9 => .int
  | _ => .int
theorem nmX3 : ∀ a, a < 11 → ∀ b, b < 11 → a ≠ b → (TX3 a).2.1 ≠ (TX3 b).2.1 := by decide +kernel
theorem tyX3_ok : ∀ k, k < 11 → parseFieldDescriptor (TX3 k).2.2.1 = some (tyX3 k) := by decide +kernel
abbrev cX3_init : ByteArray := prog_5_method_1_code
def yX3_init : MethodName := ⟨RX3, "<init>", "(LWeylWords$Algebra;LWeylWords$Divider;)V"⟩
abbrev cX3_find : ByteArray := prog_5_method_2_code
def yX3_find : MethodName := ⟨RX3, "find", "(LWeylWords$State;I)LWeylWords$Basis;"⟩
abbrev cX3_gather : ByteArray := prog_5_method_3_code
def yX3_gather : MethodName := ⟨RX3, "gather", "(LWeylWords$State;I)V"⟩
abbrev cX3_complete : ByteArray := prog_5_method_4_code
def yX3_complete : MethodName := ⟨RX3, "complete", "()V"⟩
abbrev cX3_absorb : ByteArray := prog_5_method_5_code
def yX3_absorb : MethodName := ⟨RX3, "absorb", "()V"⟩
abbrev cX3_dismiss : ByteArray := prog_5_method_6_code
def yX3_dismiss : MethodName := ⟨RX3, "dismiss", "(I)V"⟩
abbrev cX3_admit : ByteArray := prog_5_method_7_code
def yX3_admit : MethodName := ⟨RX3, "admit", "(II)V"⟩
abbrev cX3_unsettle : ByteArray := prog_5_method_8_code
def yX3_unsettle : MethodName := ⟨RX3, "unsettle", "(I)V"⟩
abbrev cX3_cheapestPair : ByteArray := prog_5_method_9_code
def yX3_cheapestPair : MethodName := ⟨RX3, "cheapestPair", "()I"⟩
abbrev cX3_cross : ByteArray := prog_5_method_10_code
def yX3_cross : MethodName := ⟨RX3, "cross", "(I)V"⟩
abbrev cX3_reduceTails : ByteArray := prog_5_method_11_code
def yX3_reduceTails : MethodName := ⟨RX3, "reduceTails", "()V"⟩
abbrev cX3_handOver : ByteArray := prog_5_method_12_code
def yX3_handOver : MethodName := ⟨RX3, "handOver", "(LWeylWords$Basis;)V"⟩
def RX4 : String := "WeylWords$Divider"
def TX4 : u_T := fun k => match k with
  | 0 => ("WeylWords$Divider", "algebra", "LWeylWords$Algebra;", true)
  | 1 => ("WeylWords$Divider", "divisors", "[LWeylWords$Operator;", true)
  | 2 => ("WeylWords$Divider", "leadXs", "[I", true)
  | 3 => ("WeylWords$Divider", "leadDs", "[I", true)
  | 4 => ("WeylWords$Divider", "inverses", "[I", true)
  | 5 => ("WeylWords$Divider", "extents", "[I", true)
  | 6 => ("WeylWords$Divider", "count", "I", false)
  | _ => ("WeylWords$Divider", "order", "I", false)
def tyX4 : Nat → FieldType := fun k => match k with
  | 0 => .object "WeylWords$Algebra"
  | 1 => .array (.object "WeylWords$Operator")
  | 2 => .array .int
  | 3 => .array .int
  | 4 => .array .int
  | 5 => .array .int
  | 6 => .int
  | _ => .int
theorem nmX4 : ∀ a, a < 8 → ∀ b, b < 8 → a ≠ b → (TX4 a).2.1 ≠ (TX4 b).2.1 := by decide +kernel
theorem tyX4_ok : ∀ k, k < 8 → parseFieldDescriptor (TX4 k).2.2.1 = some (tyX4 k) := by decide +kernel
abbrev cX4_init : ByteArray := prog_6_method_1_code
def yX4_init : MethodName := ⟨RX4, "<init>", "(LWeylWords$Algebra;)V"⟩
abbrev cX4_begin : ByteArray := prog_6_method_2_code
def yX4_begin : MethodName := ⟨RX4, "begin", "(I)V"⟩
abbrev cX4_take : ByteArray := prog_6_method_3_code
def yX4_take : MethodName := ⟨RX4, "take", "(LWeylWords$Operator;)V"⟩
abbrev cX4_reduce : ByteArray := prog_6_method_4_code
def yX4_reduce : MethodName := ⟨RX4, "reduce", "(LWeylWords$Operator;)V"⟩
abbrev cX4_cancel : ByteArray := prog_6_method_5_code
def yX4_cancel : MethodName := ⟨RX4, "cancel", "(LWeylWords$Operator;I)V"⟩
def RX5 : String := "WeylWords$History"
def TX5 : u_T := fun k => match k with
  | 0 => ("WeylWords$History", "slots", "[LWeylWords$State;", true)
  | 1 => ("WeylWords$History", "next", "I", false)
  | _ => ("WeylWords$History", "stored", "I", false)
def tyX5 : Nat → FieldType := fun k => match k with
  | 0 => .array (.object "WeylWords$State")
  | 1 => .int
  | _ => .int
theorem nmX5 : ∀ a, a < 3 → ∀ b, b < 3 → a ≠ b → (TX5 a).2.1 ≠ (TX5 b).2.1 := by decide +kernel
theorem tyX5_ok : ∀ k, k < 3 → parseFieldDescriptor (TX5 k).2.2.1 = some (tyX5 k) := by decide +kernel
abbrev cX5_init : ByteArray := prog_7_method_1_code
def yX5_init : MethodName := ⟨RX5, "<init>", "()V"⟩
abbrev cX5_keep : ByteArray := prog_7_method_2_code
def yX5_keep : MethodName := ⟨RX5, "keep", "(LWeylWords$State;)V"⟩
abbrev cX5_restore : ByteArray := prog_7_method_3_code
def yX5_restore : MethodName := ⟨RX5, "restore", "(LWeylWords$State;)V"⟩
def RX6 : String := "WeylWords$Operator"
def TX6 : u_T := fun k => match k with
  | _ => ("WeylWords$Operator", "cells", "[I", true)
def tyX6 : Nat → FieldType := fun k => match k with
  | _ => .array .int
theorem nmX6 : ∀ a, a < 1 → ∀ b, b < 1 → a ≠ b → (TX6 a).2.1 ≠ (TX6 b).2.1 := by decide +kernel
theorem tyX6_ok : ∀ k, k < 1 → parseFieldDescriptor (TX6 k).2.2.1 = some (tyX6 k) := by decide +kernel
abbrev cX6_init : ByteArray := prog_8_method_1_code
def yX6_init : MethodName := ⟨RX6, "<init>", "()V"⟩
abbrev cX6_isWord : ByteArray := prog_8_method_2_code
def yX6_isWord : MethodName := ⟨RX6, "isWord", "(II)Z"⟩
abbrev cX6_firstPlace : ByteArray := prog_8_method_3_code
def yX6_firstPlace : MethodName := ⟨RX6, "firstPlace", "(I)I"⟩
abbrev cX6_placeOf : ByteArray := prog_8_method_4_code
def yX6_placeOf : MethodName := ⟨RX6, "placeOf", "(II)I"⟩
abbrev cX6_degreeAt : ByteArray := prog_8_method_5_code
def yX6_degreeAt : MethodName := ⟨RX6, "degreeAt", "(I)I"⟩
abbrev cX6_rankedPlace : ByteArray := prog_8_method_6_code
def yX6_rankedPlace : MethodName := ⟨RX6, "rankedPlace", "(III)I"⟩
abbrev cX6_height : ByteArray := prog_8_method_7_code
def yX6_height : MethodName := ⟨RX6, "height", "(II)I"⟩
abbrev cX6_coefficient : ByteArray := prog_8_method_8_code
def yX6_coefficient : MethodName := ⟨RX6, "coefficient", "(II)I"⟩
abbrev cX6_setCoefficient : ByteArray := prog_8_method_9_code
def yX6_setCoefficient : MethodName := ⟨RX6, "setCoefficient", "(III)V"⟩
abbrev cX6_makeZero : ByteArray := prog_8_method_10_code
def yX6_makeZero : MethodName := ⟨RX6, "makeZero", "()V"⟩
abbrev cX6_makeNumber : ByteArray := prog_8_method_11_code
def yX6_makeNumber : MethodName := ⟨RX6, "makeNumber", "(I)V"⟩
abbrev cX6_copyFrom : ByteArray := prog_8_method_12_code
def yX6_copyFrom : MethodName := ⟨RX6, "copyFrom", "(LWeylWords$Operator;)V"⟩
abbrev cX6_addMultiple : ByteArray := prog_8_method_13_code
def yX6_addMultiple : MethodName := ⟨RX6, "addMultiple", "(LWeylWords$Operator;I)V"⟩
abbrev cX6_scale : ByteArray := prog_8_method_14_code
def yX6_scale : MethodName := ⟨RX6, "scale", "(I)V"⟩
abbrev cX6_countTerms : ByteArray := prog_8_method_15_code
def yX6_countTerms : MethodName := ⟨RX6, "countTerms", "()I"⟩
abbrev cX6_extent : ByteArray := prog_8_method_16_code
def yX6_extent : MethodName := ⟨RX6, "extent", "()I"⟩
abbrev cX6_isZero : ByteArray := prog_8_method_17_code
def yX6_isZero : MethodName := ⟨RX6, "isZero", "()Z"⟩
abbrev cX6_degree : ByteArray := prog_8_method_18_code
def yX6_degree : MethodName := ⟨RX6, "degree", "()I"⟩
abbrev cX6_leadPlace : ByteArray := prog_8_method_19_code
def yX6_leadPlace : MethodName := ⟨RX6, "leadPlace", "(I)I"⟩
abbrev cX6_property : ByteArray := prog_8_method_20_code
def yX6_property : MethodName := ⟨RX6, "property", "(II)I"⟩
abbrev cX6_greatest : ByteArray := prog_8_method_21_code
def yX6_greatest : MethodName := ⟨RX6, "greatest", "(I)I"⟩
abbrev cX6_measure : ByteArray := prog_8_method_22_code
def yX6_measure : MethodName := ⟨RX6, "measure", "(III)I"⟩
def RX7 : String := "WeylWords$Reader"
def TX7 : u_T := fun k => match k with
  | 0 => ("WeylWords$Reader", "algebra", "LWeylWords$Algebra;", true)
  | 1 => ("WeylWords$Reader", "text", "LWeylWords$Text;", true)
  | 2 => ("WeylWords$Reader", "totals", "[LWeylWords$Operator;", true)
  | 3 => ("WeylWords$Reader", "products", "[LWeylWords$Operator;", true)
  | 4 => ("WeylWords$Reader", "factor", "LWeylWords$Operator;", true)
  | 5 => ("WeylWords$Reader", "spare", "LWeylWords$Operator;", true)
  | _ => ("WeylWords$Reader", "at", "I", false)
def tyX7 : Nat → FieldType := fun k => match k with
  | 0 => .object "WeylWords$Algebra"
  | 1 => .object "WeylWords$Text"
  | 2 => .array (.object "WeylWords$Operator")
  | 3 => .array (.object "WeylWords$Operator")
  | 4 => .object "WeylWords$Operator"
  | 5 => .object "WeylWords$Operator"
  | _ => .int
theorem nmX7 : ∀ a, a < 7 → ∀ b, b < 7 → a ≠ b → (TX7 a).2.1 ≠ (TX7 b).2.1 := by decide +kernel
theorem tyX7_ok : ∀ k, k < 7 → parseFieldDescriptor (TX7 k).2.2.1 = some (tyX7 k) := by decide +kernel
abbrev cX7_init : ByteArray := prog_9_method_1_code
def yX7_init : MethodName := ⟨RX7, "<init>", "(LWeylWords$Algebra;LWeylWords$Text;)V"⟩
abbrev cX7_evaluate : ByteArray := prog_9_method_2_code
def yX7_evaluate : MethodName := ⟨RX7, "evaluate", "(LWeylWords$Operator;)Z"⟩
abbrev cX7_readExpression : ByteArray := prog_9_method_3_code
def yX7_readExpression : MethodName := ⟨RX7, "readExpression", "(I)Z"⟩
abbrev cX7_readTerm : ByteArray := prog_9_method_4_code
def yX7_readTerm : MethodName := ⟨RX7, "readTerm", "(I)Z"⟩
abbrev cX7_readFactor : ByteArray := prog_9_method_5_code
def yX7_readFactor : MethodName := ⟨RX7, "readFactor", "(I)Z"⟩
abbrev cX7_readNumber : ByteArray := prog_9_method_6_code
def yX7_readNumber : MethodName := ⟨RX7, "readNumber", "(I)I"⟩
abbrev cX7_peek : ByteArray := prog_9_method_7_code
def yX7_peek : MethodName := ⟨RX7, "peek", "()I"⟩
def RX8 : String := "WeylWords$State"
def TX8 : u_T := fun k => match k with
  | 0 => ("WeylWords$State", "operators", "[LWeylWords$Operator;", true)
  | 1 => ("WeylWords$State", "polynomials", "[[I", true)
  | _ => ("WeylWords$State", "order", "I", false)
def tyX8 : Nat → FieldType := fun k => match k with
  | 0 => .array (.object "WeylWords$Operator")
  | 1 => .array (.array .int)
  | _ => .int
theorem nmX8 : ∀ a, a < 3 → ∀ b, b < 3 → a ≠ b → (TX8 a).2.1 ≠ (TX8 b).2.1 := by decide +kernel
theorem tyX8_ok : ∀ k, k < 3 → parseFieldDescriptor (TX8 k).2.2.1 = some (tyX8 k) := by decide +kernel
abbrev cX8_init : ByteArray := prog_10_method_1_code
def yX8_init : MethodName := ⟨RX8, "<init>", "()V"⟩
abbrev cX8_copyFrom : ByteArray := prog_10_method_2_code
def yX8_copyFrom : MethodName := ⟨RX8, "copyFrom", "(LWeylWords$State;)V"⟩
def RX9 : String := "WeylWords$Text"
def TX9 : u_T := fun k => match k with
  | 0 => ("WeylWords$Text", "bytes", "[I", true)
  | 1 => ("WeylWords$Text", "length", "I", false)
  | 2 => ("WeylWords$Text", "mode", "I", false)
  | _ => ("WeylWords$Text", "open", "I", false)
def tyX9 : Nat → FieldType := fun k => match k with
  | 0 => .array .int
  | 1 => .int
  | 2 => .int
  | _ => .int
theorem nmX9 : ∀ a, a < 4 → ∀ b, b < 4 → a ≠ b → (TX9 a).2.1 ≠ (TX9 b).2.1 := by decide +kernel
theorem tyX9_ok : ∀ k, k < 4 → parseFieldDescriptor (TX9 k).2.2.1 = some (tyX9 k) := by decide +kernel
abbrev cX9_init : ByteArray := prog_11_method_1_code
def yX9_init : MethodName := ⟨RX9, "<init>", "()V"⟩
abbrev cX9_append : ByteArray := prog_11_method_2_code
def yX9_append : MethodName := ⟨RX9, "append", "(I)V"⟩
abbrev cX9_byteAt : ByteArray := prog_11_method_3_code
def yX9_byteAt : MethodName := ⟨RX9, "byteAt", "(I)I"⟩
abbrev cX9_isDigit : ByteArray := prog_11_method_4_code
def yX9_isDigit : MethodName := ⟨RX9, "isDigit", "(I)Z"⟩
abbrev cX9_fault : ByteArray := prog_11_method_5_code
def yX9_fault : MethodName := ⟨RX9, "fault", "()I"⟩
abbrev cX9_pass : ByteArray := prog_11_method_6_code
def yX9_pass : MethodName := ⟨RX9, "pass", "(I)I"⟩
abbrev cX9_passOperand : ByteArray := prog_11_method_7_code
def yX9_passOperand : MethodName := ⟨RX9, "passOperand", "(I)I"⟩
abbrev cX9_passExponent : ByteArray := prog_11_method_8_code
def yX9_passExponent : MethodName := ⟨RX9, "passExponent", "(I)I"⟩
abbrev cX9_passLink : ByteArray := prog_11_method_9_code
def yX9_passLink : MethodName := ⟨RX9, "passLink", "(I)I"⟩
abbrev cX9_countDigits : ByteArray := prog_11_method_10_code
def yX9_countDigits : MethodName := ⟨RX9, "countDigits", "(II)I"⟩
abbrev cX9_valueOf : ByteArray := prog_11_method_11_code
def yX9_valueOf : MethodName := ⟨RX9, "valueOf", "(II)I"⟩
def RX10 : String := "WeylWords$Writer"
def TX10 : u_T := fun k => match k with
  | 0 => ("WeylWords$Writer", "bytes", "[I", true)
  | _ => ("WeylWords$Writer", "length", "I", false)
def tyX10 : Nat → FieldType := fun k => match k with
  | 0 => .array .int
  | _ => .int
theorem nmX10 : ∀ a, a < 2 → ∀ b, b < 2 → a ≠ b → (TX10 a).2.1 ≠ (TX10 b).2.1 := by decide +kernel
theorem tyX10_ok : ∀ k, k < 2 → parseFieldDescriptor (TX10 k).2.2.1 = some (tyX10 k) := by decide +kernel
abbrev cX10_init : ByteArray := prog_12_method_1_code
def yX10_init : MethodName := ⟨RX10, "<init>", "()V"⟩
abbrev cX10_byteAt : ByteArray := prog_12_method_2_code
def yX10_byteAt : MethodName := ⟨RX10, "byteAt", "(LWeylWords$Operator;II)I"⟩
abbrev cX10_writeTerm : ByteArray := prog_12_method_3_code
def yX10_writeTerm : MethodName := ⟨RX10, "writeTerm", "(IIZ)V"⟩
abbrev cX10_writeLetter : ByteArray := prog_12_method_4_code
def yX10_writeLetter : MethodName := ⟨RX10, "writeLetter", "(IIZ)V"⟩
abbrev cX10_writeNumber : ByteArray := prog_12_method_5_code
def yX10_writeNumber : MethodName := ⟨RX10, "writeNumber", "(I)V"⟩
abbrev cX10_write : ByteArray := prog_12_method_6_code
def yX10_write : MethodName := ⟨RX10, "write", "(I)V"⟩
def RX11 : String := "WeylWords"
def TX11 : u_T := fun k => match k with
  | 0 => ("WeylWords", "state", "LWeylWords$State;", true)
  | 1 => ("WeylWords", "history", "LWeylWords$History;", true)
  | 2 => ("WeylWords", "text", "LWeylWords$Text;", true)
  | 3 => ("WeylWords", "algebra", "LWeylWords$Algebra;", true)
  | 4 => ("WeylWords", "divider", "LWeylWords$Divider;", true)
  | 5 => ("WeylWords", "completion", "LWeylWords$Completion;", true)
  | 6 => ("WeylWords", "action", "LWeylWords$Action;", true)
  | 7 => ("WeylWords", "reader", "LWeylWords$Reader;", true)
  | 8 => ("WeylWords", "writer", "LWeylWords$Writer;", true)
  | 9 => ("WeylWords", "result", "LWeylWords$Operator;", true)
  | 10 => ("WeylWords", "badCount", "I", false)
  | 11 => ("WeylWords", "noCount", "I", false)
  | _ => ("WeylWords", "fullCount", "I", false)
def tyX11 : Nat → FieldType := fun k => match k with
  | 0 => .object "WeylWords$State"
  | 1 => .object "WeylWords$History"
  | 2 => .object "WeylWords$Text"
  | 3 => .object "WeylWords$Algebra"
  | 4 => .object "WeylWords$Divider"
  | 5 => .object "WeylWords$Completion"
  | 6 => .object "WeylWords$Action"
  | 7 => .object "WeylWords$Reader"
  | 8 => .object "WeylWords$Writer"
  | 9 => .object "WeylWords$Operator"
  | 10 => .int
  | 11 => .int
  | _ => .int
theorem nmX11 : ∀ a, a < 13 → ∀ b, b < 13 → a ≠ b → (TX11 a).2.1 ≠ (TX11 b).2.1 := by decide +kernel
theorem tyX11_ok : ∀ k, k < 13 → parseFieldDescriptor (TX11 k).2.2.1 = some (tyX11 k) := by decide +kernel
abbrev cX11_init : ByteArray := prog_1_method_1_code
def yX11_init : MethodName := ⟨RX11, "<init>", "()V"⟩
abbrev cX11_sets : ByteArray := prog_1_method_2_code
def yX11_sets : MethodName := ⟨RX11, "sets", "(IIII)I"⟩
abbrev cX11_at : ByteArray := prog_1_method_3_code
def yX11_at : MethodName := ⟨RX11, "at", "(III)I"⟩
abbrev cX11_sums : ByteArray := prog_1_method_4_code
def yX11_sums : MethodName := ⟨RX11, "sums", "(IIIII)I"⟩
abbrev cX11_times : ByteArray := prog_1_method_5_code
def yX11_times : MethodName := ⟨RX11, "times", "(III)I"⟩
abbrev cX11_bracket : ByteArray := prog_1_method_6_code
def yX11_bracket : MethodName := ⟨RX11, "bracket", "(III)I"⟩
abbrev cX11_power : ByteArray := prog_1_method_7_code
def yX11_power : MethodName := ⟨RX11, "power", "(III)I"⟩
abbrev cX11_reversed : ByteArray := prog_1_method_8_code
def yX11_reversed : MethodName := ⟨RX11, "reversed", "(II)I"⟩
abbrev cX11_of : ByteArray := prog_1_method_9_code
def yX11_of : MethodName := ⟨RX11, "of", "(II)I"⟩
abbrev cX11_order : ByteArray := prog_1_method_10_code
def yX11_order : MethodName := ⟨RX11, "order", "(I)I"⟩
abbrev cX11_puts : ByteArray := prog_1_method_11_code
def yX11_puts : MethodName := ⟨RX11, "puts", "(III)I"⟩
abbrev cX11_rate : ByteArray := prog_1_method_12_code
def yX11_rate : MethodName := ⟨RX11, "rate", "(II)I"⟩
abbrev cX11_makes : ByteArray := prog_1_method_13_code
def yX11_makes : MethodName := ⟨RX11, "makes", "(III)I"⟩
abbrev cX11_kernel : ByteArray := prog_1_method_14_code
def yX11_kernel : MethodName := ⟨RX11, "kernel", "(II)I"⟩
abbrev cX11_kills : ByteArray := prog_1_method_15_code
def yX11_kills : MethodName := ⟨RX11, "kills", "(II)I"⟩
abbrev cX11_rest : ByteArray := prog_1_method_16_code
def yX11_rest : MethodName := ⟨RX11, "rest", "(III)I"⟩
abbrev cX11_basis : ByteArray := prog_1_method_17_code
def yX11_basis : MethodName := ⟨RX11, "basis", "(I)I"⟩
abbrev cX11_based : ByteArray := prog_1_method_18_code
def yX11_based : MethodName := ⟨RX11, "based", "(IIII)I"⟩
abbrev cX11_stairs : ByteArray := prog_1_method_19_code
def yX11_stairs : MethodName := ⟨RX11, "stairs", "(II)I"⟩
abbrev cX11_within : ByteArray := prog_1_method_20_code
def yX11_within : MethodName := ⟨RX11, "within", "(II)I"⟩
abbrev cX11_type : ByteArray := prog_1_method_21_code
def yX11_type : MethodName := ⟨RX11, "type", "(I)I"⟩
abbrev cX11_clear : ByteArray := prog_1_method_22_code
def yX11_clear : MethodName := ⟨RX11, "clear", "()I"⟩
abbrev cX11_reads : ByteArray := prog_1_method_23_code
def yX11_reads : MethodName := ⟨RX11, "reads", "(I)I"⟩
abbrev cX11_shown : ByteArray := prog_1_method_24_code
def yX11_shown : MethodName := ⟨RX11, "shown", "(II)I"⟩
abbrev cX11_back : ByteArray := prog_1_method_25_code
def yX11_back : MethodName := ⟨RX11, "back", "()I"⟩
abbrev cX11_told : ByteArray := prog_1_method_26_code
def yX11_told : MethodName := ⟨RX11, "told", "(I)I"⟩
abbrev cX11_digest : ByteArray := prog_1_method_27_code
def yX11_digest : MethodName := ⟨RX11, "digest", "()J"⟩
abbrev cX11_mixed : ByteArray := prog_1_method_28_code
def yX11_mixed : MethodName := ⟨RX11, "mixed", "(J[I)J"⟩
abbrev cX11_replaceOperator : ByteArray := prog_1_method_29_code
def yX11_replaceOperator : MethodName := ⟨RX11, "replaceOperator", "(I)I"⟩
abbrev cX11_bad : ByteArray := prog_1_method_30_code
def yX11_bad : MethodName := ⟨RX11, "bad", "()I"⟩
abbrev cX11_no : ByteArray := prog_1_method_31_code
def yX11_no : MethodName := ⟨RX11, "no", "()I"⟩
abbrev cX11_full : ByteArray := prog_1_method_32_code
def yX11_full : MethodName := ⟨RX11, "full", "()I"⟩
abbrev cX11_hasBasis : ByteArray := prog_1_method_33_code
def yX11_hasBasis : MethodName := ⟨RX11, "hasBasis", "(I)Z"⟩
abbrev cX11_isOperator : ByteArray := prog_1_method_34_code
def yX11_isOperator : MethodName := ⟨RX11, "isOperator", "(I)Z"⟩
abbrev cX11_isPolynomial : ByteArray := prog_1_method_35_code
def yX11_isPolynomial : MethodName := ⟨RX11, "isPolynomial", "(I)Z"⟩
abbrev cX11_isPower : ByteArray := prog_1_method_36_code
def yX11_isPower : MethodName := ⟨RX11, "isPower", "(I)Z"⟩
abbrev cX11_isSet : ByteArray := prog_1_method_37_code
def yX11_isSet : MethodName := ⟨RX11, "isSet", "(I)Z"⟩
abbrev cX11_isInSet : ByteArray := prog_1_method_38_code
def yX11_isInSet : MethodName := ⟨RX11, "isInSet", "(II)Z"⟩
def RX12 : String := "WeylWordsModel"
def TX12 : u_T := fun k => match k with
  | 0 => ("WeylWordsModel", "now", "[I", true)
  | 1 => ("WeylWordsModel", "past", "[I", true)
  | 2 => ("WeylWordsModel", "states", "I", false)
  | 3 => ("WeylWordsModel", "refused", "[I", true)
  | 4 => ("WeylWordsModel", "text", "[I", true)
  | 5 => ("WeylWordsModel", "bytes", "I", false)
  | 6 => ("WeylWordsModel", "work", "[I", true)
  | 7 => ("WeylWordsModel", "xs", "[I", true)
  | 8 => ("WeylWordsModel", "ds", "[I", true)
  | 9 => ("WeylWordsModel", "choose", "[I", true)
  | 10 => ("WeylWordsModel", "made", "[I", true)
  | 11 => ("WeylWordsModel", "matrix", "[I", true)
  | 12 => ("WeylWordsModel", "by", "[I", true)
  | 13 => ("WeylWordsModel", "byMany", "I", false)
  | 14 => ("WeylWordsModel", "leads", "[I", true)
  | 15 => ("WeylWordsModel", "parts", "[I", true)
  | 16 => ("WeylWordsModel", "rows", "I", false)
  | 17 => ("WeylWordsModel", "laid", "I", false)
  | 18 => ("WeylWordsModel", "spot", "I", false)
  | 19 => ("WeylWordsModel", "wrongAt", "I", false)
  | 20 => ("WeylWordsModel", "depth", "I", false)
  | 21 => ("WeylWordsModel", "lacks", "Z", false)
  | 22 => ("WeylWordsModel", "mayMinus", "Z", false)
  | 23 => ("WeylWordsModel", "works", "Z", false)
  | 24 => ("WeylWordsModel", "isFull", "Z", false)
  | 25 => ("WeylWordsModel", "isMinus", "[Z", true)
  | 26 => ("WeylWordsModel", "hasProduct", "[Z", true)
  | 27 => ("WeylWordsModel", "figures", "I", false)
  | 28 => ("WeylWordsModel", "line", "[I", true)
  | 29 => ("WeylWordsModel", "written", "I", false)
  | _ => ("WeylWordsModel", "hash", "J", false)
def tyX12 : Nat → FieldType := fun k => match k with
  | 0 => .array .int
  | 1 => .array .int
  | 2 => .int
  | 3 => .array .int
  | 4 => .array .int
  | 5 => .int
  | 6 => .array .int
  | 7 => .array .int
  | 8 => .array .int
  | 9 => .array .int
  | 10 => .array .int
  | 11 => .array .int
  | 12 => .array .int
  | 13 => .int
  | 14 => .array .int
  | 15 => .array .int
  | 16 => .int
  | 17 => .int
  | 18 => .int
  | 19 => .int
  | 20 => .int
  | 21 => .boolean
  | 22 => .boolean
  | 23 => .boolean
  | 24 => .boolean
  | 25 => .array .boolean
  | 26 => .array .boolean
  | 27 => .int
  | 28 => .array .int
  | 29 => .int
  | _ => .long
theorem nmX12 : ∀ a, a < 31 → ∀ b, b < 31 → a ≠ b → (TX12 a).2.1 ≠ (TX12 b).2.1 := by decide +kernel
theorem tyX12_ok : ∀ k, k < 31 → parseFieldDescriptor (TX12 k).2.2.1 = some (tyX12 k) := by decide +kernel
abbrev cX12_init : ByteArray := prog_14_method_1_code
def yX12_init : MethodName := ⟨RX12, "<init>", "()V"⟩
abbrev cX12_in : ByteArray := prog_14_method_3_code
def yX12_in : MethodName := ⟨RX12, "in", "(III)Z"⟩
abbrev cX12_wordAt : ByteArray := prog_14_method_4_code
def yX12_wordAt : MethodName := ⟨RX12, "wordAt", "(II)I"⟩
abbrev cX12_restOf : ByteArray := prog_14_method_5_code
def yX12_restOf : MethodName := ⟨RX12, "restOf", "(I)I"⟩
abbrev cX12_tell : ByteArray := prog_14_method_6_code
def yX12_tell : MethodName := ⟨RX12, "tell", "(I)I"⟩
abbrev cX12_bad : ByteArray := prog_14_method_7_code
def yX12_bad : MethodName := ⟨RX12, "bad", "()I"⟩
abbrev cX12_no : ByteArray := prog_14_method_8_code
def yX12_no : MethodName := ⟨RX12, "no", "()I"⟩
abbrev cX12_full : ByteArray := prog_14_method_9_code
def yX12_full : MethodName := ⟨RX12, "full", "()I"⟩
abbrev cX12_remembers : ByteArray := prog_14_method_10_code
def yX12_remembers : MethodName := ⟨RX12, "remembers", "()V"⟩
abbrev cX12_back : ByteArray := prog_14_method_11_code
def yX12_back : MethodName := ⟨RX12, "back", "()I"⟩
abbrev cX12_isOperator : ByteArray := prog_14_method_12_code
def yX12_isOperator : MethodName := ⟨RX12, "isOperator", "(I)Z"⟩
abbrev cX12_isWord : ByteArray := prog_14_method_13_code
def yX12_isWord : MethodName := ⟨RX12, "isWord", "(II)Z"⟩
abbrev cX12_wipe : ByteArray := prog_14_method_14_code
def yX12_wipe : MethodName := ⟨RX12, "wipe", "(I)V"⟩
abbrev cX12_copies : ByteArray := prog_14_method_15_code
def yX12_copies : MethodName := ⟨RX12, "copies", "(II)V"⟩
abbrev cX12_fetches : ByteArray := prog_14_method_16_code
def yX12_fetches : MethodName := ⟨RX12, "fetches", "(II)V"⟩
abbrev cX12_termsIn : ByteArray := prog_14_method_17_code
def yX12_termsIn : MethodName := ⟨RX12, "termsIn", "(I)I"⟩
abbrev cX12_keeps : ByteArray := prog_14_method_18_code
def yX12_keeps : MethodName := ⟨RX12, "keeps", "(II)I"⟩
abbrev cX12_degreeIn : ByteArray := prog_14_method_19_code
def yX12_degreeIn : MethodName := ⟨RX12, "degreeIn", "(I)I"⟩
abbrev cX12_wordBehind : ByteArray := prog_14_method_20_code
def yX12_wordBehind : MethodName := ⟨RX12, "wordBehind", "(II)I"⟩
abbrev cX12_leadIn : ByteArray := prog_14_method_21_code
def yX12_leadIn : MethodName := ⟨RX12, "leadIn", "(I)I"⟩
abbrev cX12_adds : ByteArray := prog_14_method_22_code
def yX12_adds : MethodName := ⟨RX12, "adds", "(IIIIII)V"⟩
abbrev cX12_addsBehind : ByteArray := prog_14_method_23_code
def yX12_addsBehind : MethodName := ⟨RX12, "addsBehind", "(IIIII)V"⟩
abbrev cX12_multiplies : ByteArray := prog_14_method_24_code
def yX12_multiplies : MethodName := ⟨RX12, "multiplies", "(III)V"⟩
abbrev cX12_isTooMuch : ByteArray := prog_14_method_25_code
def yX12_isTooMuch : MethodName := ⟨RX12, "isTooMuch", "(II)Z"⟩
abbrev cX12_isPowerTooMuch : ByteArray := prog_14_method_26_code
def yX12_isPowerTooMuch : MethodName := ⟨RX12, "isPowerTooMuch", "(II)Z"⟩
abbrev cX12_raises : ByteArray := prog_14_method_27_code
def yX12_raises : MethodName := ⟨RX12, "raises", "(I)V"⟩
abbrev cX12_mixes : ByteArray := prog_14_method_28_code
def yX12_mixes : MethodName := ⟨RX12, "mixes", "(IIIII)V"⟩
abbrev cX12_sets : ByteArray := prog_14_method_29_code
def yX12_sets : MethodName := ⟨RX12, "sets", "(IIII)I"⟩
abbrev cX12_at : ByteArray := prog_14_method_30_code
def yX12_at : MethodName := ⟨RX12, "at", "(III)I"⟩
abbrev cX12_sums : ByteArray := prog_14_method_31_code
def yX12_sums : MethodName := ⟨RX12, "sums", "(IIIII)I"⟩
abbrev cX12_times : ByteArray := prog_14_method_32_code
def yX12_times : MethodName := ⟨RX12, "times", "(III)I"⟩
abbrev cX12_bracket : ByteArray := prog_14_method_33_code
def yX12_bracket : MethodName := ⟨RX12, "bracket", "(III)I"⟩
abbrev cX12_power : ByteArray := prog_14_method_34_code
def yX12_power : MethodName := ⟨RX12, "power", "(III)I"⟩
abbrev cX12_reversed : ByteArray := prog_14_method_35_code
def yX12_reversed : MethodName := ⟨RX12, "reversed", "(II)I"⟩
abbrev cX12_greatest : ByteArray := prog_14_method_36_code
def yX12_greatest : MethodName := ⟨RX12, "greatest", "(III)I"⟩
abbrev cX12_ofLead : ByteArray := prog_14_method_37_code
def yX12_ofLead : MethodName := ⟨RX12, "ofLead", "(I)I"⟩
abbrev cX12_aboutOf : ByteArray := prog_14_method_38_code
def yX12_aboutOf : MethodName := ⟨RX12, "aboutOf", "(II)I"⟩
abbrev cX12_of : ByteArray := prog_14_method_39_code
def yX12_of : MethodName := ⟨RX12, "of", "(II)I"⟩
abbrev cX12_order : ByteArray := prog_14_method_40_code
def yX12_order : MethodName := ⟨RX12, "order", "(I)I"⟩
abbrev cX12_isPolynomial : ByteArray := prog_14_method_41_code
def yX12_isPolynomial : MethodName := ⟨RX12, "isPolynomial", "(I)Z"⟩
abbrev cX12_rateAt : ByteArray := prog_14_method_42_code
def yX12_rateAt : MethodName := ⟨RX12, "rateAt", "(II)I"⟩
abbrev cX12_puts : ByteArray := prog_14_method_43_code
def yX12_puts : MethodName := ⟨RX12, "puts", "(III)I"⟩
abbrev cX12_rate : ByteArray := prog_14_method_44_code
def yX12_rate : MethodName := ⟨RX12, "rate", "(II)I"⟩
abbrev cX12_falls : ByteArray := prog_14_method_45_code
def yX12_falls : MethodName := ⟨RX12, "falls", "(II)I"⟩
abbrev cX12_greatestPower : ByteArray := prog_14_method_46_code
def yX12_greatestPower : MethodName := ⟨RX12, "greatestPower", "(I)I"⟩
abbrev cX12_canMake : ByteArray := prog_14_method_47_code
def yX12_canMake : MethodName := ⟨RX12, "canMake", "(II)Z"⟩
abbrev cX12_makes : ByteArray := prog_14_method_48_code
def yX12_makes : MethodName := ⟨RX12, "makes", "(III)I"⟩
abbrev cX12_inverseOf : ByteArray := prog_14_method_49_code
def yX12_inverseOf : MethodName := ⟨RX12, "inverseOf", "(I)I"⟩
abbrev cX12_laysMatrix : ByteArray := prog_14_method_50_code
def yX12_laysMatrix : MethodName := ⟨RX12, "laysMatrix", "(II)V"⟩
abbrev cX12_addsRow : ByteArray := prog_14_method_51_code
def yX12_addsRow : MethodName := ⟨RX12, "addsRow", "(III)V"⟩
abbrev cX12_isFree : ByteArray := prog_14_method_52_code
def yX12_isFree : MethodName := ⟨RX12, "isFree", "(II)Z"⟩
abbrev cX12_kernel : ByteArray := prog_14_method_53_code
def yX12_kernel : MethodName := ⟨RX12, "kernel", "(II)I"⟩
abbrev cX12_kills : ByteArray := prog_14_method_54_code
def yX12_kills : MethodName := ⟨RX12, "kills", "(II)I"⟩
abbrev cX12_findsLeads : ByteArray := prog_14_method_55_code
def yX12_findsLeads : MethodName := ⟨RX12, "findsLeads", "()V"⟩
abbrev cX12_isBelow : ByteArray := prog_14_method_56_code
def yX12_isBelow : MethodName := ⟨RX12, "isBelow", "(II)Z"⟩
abbrev cX12_firstBelow : ByteArray := prog_14_method_57_code
def yX12_firstBelow : MethodName := ⟨RX12, "firstBelow", "(I)I"⟩
abbrev cX12_rests : ByteArray := prog_14_method_58_code
def yX12_rests : MethodName := ⟨RX12, "rests", "(I)V"⟩
abbrev cX12_isSet : ByteArray := prog_14_method_59_code
def yX12_isSet : MethodName := ⟨RX12, "isSet", "(I)Z"⟩
abbrev cX12_rest : ByteArray := prog_14_method_60_code
def yX12_rest : MethodName := ⟨RX12, "rest", "(III)I"⟩
abbrev cX12_evens : ByteArray := prog_14_method_61_code
def yX12_evens : MethodName := ⟨RX12, "evens", "(I)V"⟩
abbrev cX12_areAlike : ByteArray := prog_14_method_62_code
def yX12_areAlike : MethodName := ⟨RX12, "areAlike", "(II)Z"⟩
abbrev cX12_rowGoes : ByteArray := prog_14_method_63_code
def yX12_rowGoes : MethodName := ⟨RX12, "rowGoes", "(I)V"⟩
abbrev cX12_takesBy : ByteArray := prog_14_method_64_code
def yX12_takesBy : MethodName := ⟨RX12, "takesBy", "(I)V"⟩
abbrev cX12_tidies : ByteArray := prog_14_method_65_code
def yX12_tidies : MethodName := ⟨RX12, "tidies", "()V"⟩
abbrev cX12_isAhead : ByteArray := prog_14_method_66_code
def yX12_isAhead : MethodName := ⟨RX12, "isAhead", "(II)Z"⟩
abbrev cX12_exchanges : ByteArray := prog_14_method_67_code
def yX12_exchanges : MethodName := ⟨RX12, "exchanges", "(II)V"⟩
abbrev cX12_sorts : ByteArray := prog_14_method_68_code
def yX12_sorts : MethodName := ⟨RX12, "sorts", "(Z)V"⟩
abbrev cX12_crosses : ByteArray := prog_14_method_69_code
def yX12_crosses : MethodName := ⟨RX12, "crosses", "(II)V"⟩
abbrev cX12_isOneMore : ByteArray := prog_14_method_70_code
def yX12_isOneMore : MethodName := ⟨RX12, "isOneMore", "()Z"⟩
abbrev cX12_laysBasis : ByteArray := prog_14_method_71_code
def yX12_laysBasis : MethodName := ⟨RX12, "laysBasis", "(I)V"⟩
abbrev cX12_isSmall : ByteArray := prog_14_method_72_code
def yX12_isSmall : MethodName := ⟨RX12, "isSmall", "(I)Z"⟩
abbrev cX12_basis : ByteArray := prog_14_method_73_code
def yX12_basis : MethodName := ⟨RX12, "basis", "(I)I"⟩
abbrev cX12_based : ByteArray := prog_14_method_74_code
def yX12_based : MethodName := ⟨RX12, "based", "(IIII)I"⟩
abbrev cX12_stairs : ByteArray := prog_14_method_75_code
def yX12_stairs : MethodName := ⟨RX12, "stairs", "(II)I"⟩
abbrev cX12_within : ByteArray := prog_14_method_76_code
def yX12_within : MethodName := ⟨RX12, "within", "(II)I"⟩
abbrev cX12_type : ByteArray := prog_14_method_77_code
def yX12_type : MethodName := ⟨RX12, "type", "(I)I"⟩
abbrev cX12_clear : ByteArray := prog_14_method_78_code
def yX12_clear : MethodName := ⟨RX12, "clear", "()I"⟩
abbrev cX12_isAt : ByteArray := prog_14_method_79_code
def yX12_isAt : MethodName := ⟨RX12, "isAt", "(II)Z"⟩
abbrev cX12_blanks : ByteArray := prog_14_method_80_code
def yX12_blanks : MethodName := ⟨RX12, "blanks", "()V"⟩
abbrev cX12_fails : ByteArray := prog_14_method_81_code
def yX12_fails : MethodName := ⟨RX12, "fails", "(I)Z"⟩
abbrev cX12_opens : ByteArray := prog_14_method_82_code
def yX12_opens : MethodName := ⟨RX12, "opens", "()V"⟩
abbrev cX12_closes : ByteArray := prog_14_method_83_code
def yX12_closes : MethodName := ⟨RX12, "closes", "()V"⟩
abbrev cX12_takes : ByteArray := prog_14_method_84_code
def yX12_takes : MethodName := ⟨RX12, "takes", "(I)V"⟩
abbrev cX12_takesFigures : ByteArray := prog_14_method_85_code
def yX12_takesFigures : MethodName := ⟨RX12, "takesFigures", "(I)Z"⟩
abbrev cX12_takesPower : ByteArray := prog_14_method_86_code
def yX12_takesPower : MethodName := ⟨RX12, "takesPower", "()Z"⟩
abbrev cX12_values : ByteArray := prog_14_method_87_code
def yX12_values : MethodName := ⟨RX12, "values", "(III)V"⟩
abbrev cX12_takesFactor : ByteArray := prog_14_method_88_code
def yX12_takesFactor : MethodName := ⟨RX12, "takesFactor", "()Z"⟩
abbrev cX12_takesSign : ByteArray := prog_14_method_89_code
def yX12_takesSign : MethodName := ⟨RX12, "takesSign", "()Z"⟩
abbrev cX12_isRead : ByteArray := prog_14_method_90_code
def yX12_isRead : MethodName := ⟨RX12, "isRead", "(Z)Z"⟩
abbrev cX12_reads : ByteArray := prog_14_method_91_code
def yX12_reads : MethodName := ⟨RX12, "reads", "(I)I"⟩
abbrev cX12_writes : ByteArray := prog_14_method_92_code
def yX12_writes : MethodName := ⟨RX12, "writes", "(I)V"⟩
abbrev cX12_writesNumber : ByteArray := prog_14_method_93_code
def yX12_writesNumber : MethodName := ⟨RX12, "writesNumber", "(I)V"⟩
abbrev cX12_writesLetter : ByteArray := prog_14_method_94_code
def yX12_writesLetter : MethodName := ⟨RX12, "writesLetter", "(II)V"⟩
abbrev cX12_writesTerm : ByteArray := prog_14_method_95_code
def yX12_writesTerm : MethodName := ⟨RX12, "writesTerm", "(II)V"⟩
abbrev cX12_laysLine : ByteArray := prog_14_method_96_code
def yX12_laysLine : MethodName := ⟨RX12, "laysLine", "(I)V"⟩
abbrev cX12_shown : ByteArray := prog_14_method_97_code
def yX12_shown : MethodName := ⟨RX12, "shown", "(II)I"⟩
abbrev cX12_toldOf : ByteArray := prog_14_method_98_code
def yX12_toldOf : MethodName := ⟨RX12, "toldOf", "(I)I"⟩
abbrev cX12_told : ByteArray := prog_14_method_99_code
def yX12_told : MethodName := ⟨RX12, "told", "(I)I"⟩
abbrev cX12_mix : ByteArray := prog_14_method_100_code
def yX12_mix : MethodName := ⟨RX12, "mix", "(J)V"⟩
abbrev cX12_digest : ByteArray := prog_14_method_101_code
def yX12_digest : MethodName := ⟨RX12, "digest", "()J"⟩
def RJ9 : String := "java/lang/Math"
abbrev cJ9_floorMod_7cf53 : ByteArray := prog_15_method_50_code
def yJ9_floorMod_7cf53 : MethodName := ⟨RJ9, "floorMod", "(II)I"⟩
abbrev cJ9_abs_0f7a4 : ByteArray := prog_15_method_59_code
def yJ9_abs_0f7a4 : MethodName := ⟨RJ9, "abs", "(I)I"⟩
abbrev cJ9_max_7cf53 : ByteArray := prog_15_method_65_code
def yJ9_max_7cf53 : MethodName := ⟨RJ9, "max", "(II)I"⟩
abbrev cJ9_min_7cf53 : ByteArray := prog_15_method_69_code
def yJ9_min_7cf53 : MethodName := ⟨RJ9, "min", "(II)I"⟩
def RJ10 : String := "java/lang/System"
def RJ7 : String := "java/util/Arrays"
abbrev cJ7_fill_53178 : ByteArray := prog_17_method_103_code
def yJ7_fill_53178 : MethodName := ⟨RJ7, "fill", "([II)V"⟩
def RL : String := "WeylWordsLaw"
abbrev cL_law : ByteArray := code
def yL_law : MethodName := ⟨RL, "law", "([I)Z"⟩
abbrev vwCl : List vw_C := [(RX0, TX0, 3), (RX1, TX1, 3), (RX2, TX2, 6), (RX3, TX3, 11), (RX4, TX4, 8), (RX5, TX5, 3), (RX6, TX6, 1), (RX7, TX7, 7), (RX8, TX8, 3), (RX9, TX9, 4), (RX10, TX10, 2), (RX11, TX11, 13), (RX12, TX12, 31)]
end
section
theorem dX0_init_0 : decode cX0_init 0 = .ok (.aload_n 0, 1) := by decide +kernel
theorem dX0_init_1 : decode cX0_init 1 = .ok (.invokespecial 3, 3) := by decide +kernel
theorem dX0_init_4 : decode cX0_init 4 = .ok (.aload_n 0, 1) := by decide +kernel
theorem dX0_init_5 : decode cX0_init 5 = .ok (.bipush 16, 2) := by decide +kernel
theorem dX0_init_7 : decode cX0_init 7 = .ok (.bipush 31, 2) := by decide +kernel
theorem dX0_init_9 : decode cX0_init 9 = .ok (.multianewarray 9 2, 4) := by decide +kernel
theorem dX0_init_13 : decode cX0_init 13 = .ok (.putfield 11, 3) := by decide +kernel
theorem dX0_init_16 : decode cX0_init 16 = .ok (.aload_n 0, 1) := by decide +kernel
theorem dX0_init_17 : decode cX0_init 17 = .ok (.bipush 31, 2) := by decide +kernel
theorem dX0_init_19 : decode cX0_init 19 = .ok (.newarray .int, 2) := by decide +kernel
theorem dX0_init_21 : decode cX0_init 21 = .ok (.putfield 16, 3) := by decide +kernel
theorem dX0_init_24 : decode cX0_init 24 = .ok (.aload_n 0, 1) := by decide +kernel
theorem dX0_init_25 : decode cX0_init 25 = .ok (.aload_n 1, 1) := by decide +kernel
theorem dX0_init_26 : decode cX0_init 26 = .ok (.getfield 20, 3) := by decide +kernel
theorem dX0_init_29 : decode cX0_init 29 = .ok (.putfield 25, 3) := by decide +kernel
theorem dX0_init_32 : decode cX0_init 32 = .ok (.return_, 1) := by decide +kernel
theorem dX0_degree_0 : decode cX0_degree 0 = .ok (.aload_n 0, 1) := by decide +kernel
theorem dX0_degree_1 : decode cX0_degree 1 = .ok (.arraylength, 1) := by decide +kernel
theorem dX0_degree_2 : decode cX0_degree 2 = .ok (.iconst 1, 1) := by decide +kernel
theorem dX0_degree_3 : decode cX0_degree 3 = .ok (.isub, 1) := by decide +kernel
theorem dX0_degree_4 : decode cX0_degree 4 = .ok (.istore_n 1, 1) := by decide +kernel
theorem dX0_degree_5 : decode cX0_degree 5 = .ok (.iload_n 1, 1) := by decide +kernel
theorem dX0_degree_6 : decode cX0_degree 6 = .ok (.ifCond .lt 17, 3) := by decide +kernel
theorem dX0_degree_9 : decode cX0_degree 9 = .ok (.aload_n 0, 1) := by decide +kernel
theorem dX0_degree_10 : decode cX0_degree 10 = .ok (.iload_n 1, 1) := by decide +kernel
theorem dX0_degree_11 : decode cX0_degree 11 = .ok (.iaload, 1) := by decide +kernel
theorem dX0_degree_12 : decode cX0_degree 12 = .ok (.ifCond .eq 5, 3) := by decide +kernel
theorem dX0_degree_15 : decode cX0_degree 15 = .ok (.iload_n 1, 1) := by decide +kernel
theorem dX0_degree_16 : decode cX0_degree 16 = .ok (.ireturn, 1) := by decide +kernel
theorem dX0_degree_17 : decode cX0_degree 17 = .ok (.iinc 1 (-1), 3) := by decide +kernel
theorem dX0_degree_20 : decode cX0_degree 20 = .ok (.goto (-15), 3) := by decide +kernel
theorem dX0_degree_23 : decode cX0_degree 23 = .ok (.iconst (-1), 1) := by decide +kernel
theorem dX0_degree_24 : decode cX0_degree 24 = .ok (.ireturn, 1) := by decide +kernel
theorem dX0_fits_0 : decode cX0_fits 0 = .ok (.aload_n 2, 1) := by decide +kernel
theorem dX0_fits_1 : decode cX0_fits 1 = .ok (.invokestatic 26, 3) := by decide +kernel
theorem dX0_fits_4 : decode cX0_fits 4 = .ok (.istore_n 3, 1) := by decide +kernel
theorem dX0_fits_5 : decode cX0_fits 5 = .ok (.iconst 0, 1) := by decide +kernel
theorem dX0_fits_6 : decode cX0_fits 6 = .ok (.istore 4, 2) := by decide +kernel
theorem dX0_fits_8 : decode cX0_fits 8 = .ok (.iload 4, 2) := by decide +kernel
theorem dX0_fits_10 : decode cX0_fits 10 = .ok (.bipush 91, 2) := by decide +kernel
theorem dX0_fits_12 : decode cX0_fits 12 = .ok (.if_icmp .ge 51, 3) := by decide +kernel
theorem dX0_fits_15 : decode cX0_fits 15 = .ok (.getstatic 30, 3) := by decide +kernel
theorem dX0_fits_18 : decode cX0_fits 18 = .ok (.iload 4, 2) := by decide +kernel
theorem dX0_fits_20 : decode cX0_fits 20 = .ok (.iaload, 1) := by decide +kernel
theorem dX0_fits_21 : decode cX0_fits 21 = .ok (.istore 5, 2) := by decide +kernel
theorem dX0_fits_23 : decode cX0_fits 23 = .ok (.aload_n 1, 1) := by decide +kernel
theorem dX0_fits_24 : decode cX0_fits 24 = .ok (.getfield 35, 3) := by decide +kernel
theorem dX0_fits_27 : decode cX0_fits 27 = .ok (.iload 4, 2) := by decide +kernel
theorem dX0_fits_29 : decode cX0_fits 29 = .ok (.iaload, 1) := by decide +kernel
theorem dX0_fits_30 : decode cX0_fits 30 = .ok (.ifCond .eq 27, 3) := by decide +kernel
theorem dX0_fits_33 : decode cX0_fits 33 = .ok (.iload 5, 2) := by decide +kernel
theorem dX0_fits_35 : decode cX0_fits 35 = .ok (.iload_n 3, 1) := by decide +kernel
theorem dX0_fits_36 : decode cX0_fits 36 = .ok (.if_icmp .gt 21, 3) := by decide +kernel
theorem dX0_fits_39 : decode cX0_fits 39 = .ok (.iload_n 3, 1) := by decide +kernel
theorem dX0_fits_40 : decode cX0_fits 40 = .ok (.iload 5, 2) := by decide +kernel
theorem dX0_fits_42 : decode cX0_fits 42 = .ok (.isub, 1) := by decide +kernel
theorem dX0_fits_43 : decode cX0_fits 43 = .ok (.getstatic 38, 3) := by decide +kernel
theorem dX0_fits_46 : decode cX0_fits 46 = .ok (.iload 4, 2) := by decide +kernel
theorem dX0_fits_48 : decode cX0_fits 48 = .ok (.iaload, 1) := by decide +kernel
theorem dX0_fits_49 : decode cX0_fits 49 = .ok (.iadd, 1) := by decide +kernel
theorem dX0_fits_50 : decode cX0_fits 50 = .ok (.bipush 30, 2) := by decide +kernel
theorem dX0_fits_52 : decode cX0_fits 52 = .ok (.if_icmp .le 5, 3) := by decide +kernel
theorem dX0_fits_55 : decode cX0_fits 55 = .ok (.iconst 0, 1) := by decide +kernel
theorem dX0_fits_56 : decode cX0_fits 56 = .ok (.ireturn, 1) := by decide +kernel
theorem dX0_fits_57 : decode cX0_fits 57 = .ok (.iinc 4 1, 3) := by decide +kernel
theorem dX0_fits_60 : decode cX0_fits 60 = .ok (.goto (-52), 3) := by decide +kernel
theorem dX0_fits_63 : decode cX0_fits 63 = .ok (.iconst 1, 1) := by decide +kernel
theorem dX0_fits_64 : decode cX0_fits 64 = .ok (.ireturn, 1) := by decide +kernel
theorem dX0_apply_0 : decode cX0_apply 0 = .ok (.aload_n 0, 1) := by decide +kernel
theorem dX0_apply_1 : decode cX0_apply 1 = .ok (.getfield 16, 3) := by decide +kernel
theorem dX0_apply_4 : decode cX0_apply 4 = .ok (.iconst 0, 1) := by decide +kernel
theorem dX0_apply_5 : decode cX0_apply 5 = .ok (.invokestatic 41, 3) := by decide +kernel
theorem dX0_apply_8 : decode cX0_apply 8 = .ok (.aload_n 2, 1) := by decide +kernel
theorem dX0_apply_9 : decode cX0_apply 9 = .ok (.invokestatic 26, 3) := by decide +kernel
theorem dX0_apply_12 : decode cX0_apply 12 = .ok (.istore_n 3, 1) := by decide +kernel
theorem dX0_apply_13 : decode cX0_apply 13 = .ok (.iconst 0, 1) := by decide +kernel
theorem dX0_apply_14 : decode cX0_apply 14 = .ok (.istore 4, 2) := by decide +kernel
theorem dX0_apply_16 : decode cX0_apply 16 = .ok (.iload 4, 2) := by decide +kernel
theorem dX0_apply_18 : decode cX0_apply 18 = .ok (.iload_n 3, 1) := by decide +kernel
theorem dX0_apply_19 : decode cX0_apply 19 = .ok (.if_icmp .gt 31, 3) := by decide +kernel
theorem dX0_apply_22 : decode cX0_apply 22 = .ok (.aload_n 2, 1) := by decide +kernel
theorem dX0_apply_23 : decode cX0_apply 23 = .ok (.iload 4, 2) := by decide +kernel
theorem dX0_apply_25 : decode cX0_apply 25 = .ok (.iaload, 1) := by decide +kernel
theorem dX0_apply_26 : decode cX0_apply 26 = .ok (.ifCond .eq 18, 3) := by decide +kernel
theorem dX0_apply_29 : decode cX0_apply 29 = .ok (.aload_n 0, 1) := by decide +kernel
theorem dX0_apply_30 : decode cX0_apply 30 = .ok (.aload_n 0, 1) := by decide +kernel
theorem dX0_apply_31 : decode cX0_apply 31 = .ok (.getfield 16, 3) := by decide +kernel
theorem dX0_apply_34 : decode cX0_apply 34 = .ok (.aload_n 1, 1) := by decide +kernel
theorem dX0_apply_35 : decode cX0_apply 35 = .ok (.aload_n 2, 1) := by decide +kernel
theorem dX0_apply_36 : decode cX0_apply 36 = .ok (.iload 4, 2) := by decide +kernel
theorem dX0_apply_38 : decode cX0_apply 38 = .ok (.iaload, 1) := by decide +kernel
theorem dX0_apply_39 : decode cX0_apply 39 = .ok (.iload 4, 2) := by decide +kernel
theorem dX0_apply_41 : decode cX0_apply 41 = .ok (.invokevirtual 47, 3) := by decide +kernel
theorem dX0_apply_44 : decode cX0_apply 44 = .ok (.iinc 4 1, 3) := by decide +kernel
theorem dX0_apply_47 : decode cX0_apply 47 = .ok (.goto (-31), 3) := by decide +kernel
theorem dX0_apply_50 : decode cX0_apply 50 = .ok (.return_, 1) := by decide +kernel
theorem dX0_addImage_0 : decode cX0_addImage 0 = .ok (.iconst 0, 1) := by decide +kernel
theorem dX0_addImage_1 : decode cX0_addImage 1 = .ok (.istore 5, 2) := by decide +kernel
theorem dX0_addImage_3 : decode cX0_addImage 3 = .ok (.iload 5, 2) := by decide +kernel
theorem dX0_addImage_5 : decode cX0_addImage 5 = .ok (.bipush 12, 2) := by decide +kernel
theorem dX0_addImage_7 : decode cX0_addImage 7 = .ok (.if_icmp .gt 112, 3) := by decide +kernel
theorem dX0_addImage_10 : decode cX0_addImage 10 = .ok (.iconst 0, 1) := by decide +kernel
theorem dX0_addImage_11 : decode cX0_addImage 11 = .ok (.istore 6, 2) := by decide +kernel
theorem dX0_addImage_13 : decode cX0_addImage 13 = .ok (.iload 6, 2) := by decide +kernel
theorem dX0_addImage_15 : decode cX0_addImage 15 = .ok (.iload 5, 2) := by decide +kernel
theorem dX0_addImage_17 : decode cX0_addImage 17 = .ok (.if_icmp .gt 96, 3) := by decide +kernel
theorem dX0_addImage_20 : decode cX0_addImage 20 = .ok (.iload 6, 2) := by decide +kernel
theorem dX0_addImage_22 : decode cX0_addImage 22 = .ok (.iload 4, 2) := by decide +kernel
theorem dX0_addImage_24 : decode cX0_addImage 24 = .ok (.if_icmp .gt 89, 3) := by decide +kernel
theorem dX0_addImage_27 : decode cX0_addImage 27 = .ok (.aload_n 2, 1) := by decide +kernel
theorem dX0_addImage_28 : decode cX0_addImage 28 = .ok (.getfield 35, 3) := by decide +kernel
theorem dX0_addImage_31 : decode cX0_addImage 31 = .ok (.iload 5, 2) := by decide +kernel
theorem dX0_addImage_33 : decode cX0_addImage 33 = .ok (.invokestatic 51, 3) := by decide +kernel
theorem dX0_addImage_36 : decode cX0_addImage 36 = .ok (.iload 6, 2) := by decide +kernel
theorem dX0_addImage_38 : decode cX0_addImage 38 = .ok (.iadd, 1) := by decide +kernel
theorem dX0_addImage_39 : decode cX0_addImage 39 = .ok (.iaload, 1) := by decide +kernel
theorem dX0_addImage_40 : decode cX0_addImage 40 = .ok (.istore 7, 2) := by decide +kernel
theorem dX0_addImage_42 : decode cX0_addImage 42 = .ok (.iload 4, 2) := by decide +kernel
theorem dX0_addImage_44 : decode cX0_addImage 44 = .ok (.iload 6, 2) := by decide +kernel
theorem dX0_addImage_46 : decode cX0_addImage 46 = .ok (.isub, 1) := by decide +kernel
theorem dX0_addImage_47 : decode cX0_addImage 47 = .ok (.iload 5, 2) := by decide +kernel
theorem dX0_addImage_49 : decode cX0_addImage 49 = .ok (.iadd, 1) := by decide +kernel
theorem dX0_addImage_50 : decode cX0_addImage 50 = .ok (.iload 6, 2) := by decide +kernel
theorem dX0_addImage_52 : decode cX0_addImage 52 = .ok (.isub, 1) := by decide +kernel
theorem dX0_addImage_53 : decode cX0_addImage 53 = .ok (.istore 8, 2) := by decide +kernel
theorem dX0_addImage_55 : decode cX0_addImage 55 = .ok (.iload 7, 2) := by decide +kernel
theorem dX0_addImage_57 : decode cX0_addImage 57 = .ok (.ifCond .eq 50, 3) := by decide +kernel
theorem dX0_addImage_60 : decode cX0_addImage 60 = .ok (.iload 8, 2) := by decide +kernel
theorem dX0_addImage_62 : decode cX0_addImage 62 = .ok (.bipush 30, 2) := by decide +kernel
theorem dX0_addImage_64 : decode cX0_addImage 64 = .ok (.if_icmp .gt 43, 3) := by decide +kernel
theorem dX0_addImage_67 : decode cX0_addImage 67 = .ok (.iload_n 3, 1) := by decide +kernel
theorem dX0_addImage_68 : decode cX0_addImage 68 = .ok (.iload 7, 2) := by decide +kernel
theorem dX0_addImage_70 : decode cX0_addImage 70 = .ok (.aload_n 0, 1) := by decide +kernel
theorem dX0_addImage_71 : decode cX0_addImage 71 = .ok (.getfield 25, 3) := by decide +kernel
theorem dX0_addImage_74 : decode cX0_addImage 74 = .ok (.iload 4, 2) := by decide +kernel
theorem dX0_addImage_76 : decode cX0_addImage 76 = .ok (.aaload, 1) := by decide +kernel
theorem dX0_addImage_77 : decode cX0_addImage 77 = .ok (.iload 6, 2) := by decide +kernel
theorem dX0_addImage_79 : decode cX0_addImage 79 = .ok (.iaload, 1) := by decide +kernel
theorem dX0_addImage_80 : decode cX0_addImage 80 = .ok (.imul, 1) := by decide +kernel
theorem dX0_addImage_81 : decode cX0_addImage 81 = .ok (.sipush 10007, 3) := by decide +kernel
theorem dX0_addImage_84 : decode cX0_addImage 84 = .ok (.irem, 1) := by decide +kernel
theorem dX0_addImage_85 : decode cX0_addImage 85 = .ok (.imul, 1) := by decide +kernel
theorem dX0_addImage_86 : decode cX0_addImage 86 = .ok (.sipush 10007, 3) := by decide +kernel
theorem dX0_addImage_89 : decode cX0_addImage 89 = .ok (.irem, 1) := by decide +kernel
theorem dX0_addImage_90 : decode cX0_addImage 90 = .ok (.istore 9, 2) := by decide +kernel
theorem dX0_addImage_92 : decode cX0_addImage 92 = .ok (.aload_n 1, 1) := by decide +kernel
theorem dX0_addImage_93 : decode cX0_addImage 93 = .ok (.iload 8, 2) := by decide +kernel
theorem dX0_addImage_95 : decode cX0_addImage 95 = .ok (.aload_n 1, 1) := by decide +kernel
theorem dX0_addImage_96 : decode cX0_addImage 96 = .ok (.iload 8, 2) := by decide +kernel
theorem dX0_addImage_98 : decode cX0_addImage 98 = .ok (.iaload, 1) := by decide +kernel
theorem dX0_addImage_99 : decode cX0_addImage 99 = .ok (.iload 9, 2) := by decide +kernel
theorem dX0_addImage_101 : decode cX0_addImage 101 = .ok (.iadd, 1) := by decide +kernel
theorem dX0_addImage_102 : decode cX0_addImage 102 = .ok (.sipush 10007, 3) := by decide +kernel
theorem dX0_addImage_105 : decode cX0_addImage 105 = .ok (.irem, 1) := by decide +kernel
theorem dX0_addImage_106 : decode cX0_addImage 106 = .ok (.iastore, 1) := by decide +kernel
theorem dX0_addImage_107 : decode cX0_addImage 107 = .ok (.iinc 6 1, 3) := by decide +kernel
theorem dX0_addImage_110 : decode cX0_addImage 110 = .ok (.goto (-97), 3) := by decide +kernel
theorem dX0_addImage_113 : decode cX0_addImage 113 = .ok (.iinc 5 1, 3) := by decide +kernel
theorem dX0_addImage_116 : decode cX0_addImage 116 = .ok (.goto (-113), 3) := by decide +kernel
theorem dX0_addImage_119 : decode cX0_addImage 119 = .ok (.return_, 1) := by decide +kernel
theorem dX0_kernelDimension_0 : decode cX0_kernelDimension 0 = .ok (.iload_n 2, 1) := by decide +kernel
theorem dX0_kernelDimension_1 : decode cX0_kernelDimension 1 = .ok (.bipush 15, 2) := by decide +kernel
theorem dX0_kernelDimension_3 : decode cX0_kernelDimension 3 = .ok (.invokestatic 55, 3) := by decide +kernel
theorem dX0_kernelDimension_6 : decode cX0_kernelDimension 6 = .ok (.iconst 1, 1) := by decide +kernel
theorem dX0_kernelDimension_7 : decode cX0_kernelDimension 7 = .ok (.iadd, 1) := by decide +kernel
theorem dX0_kernelDimension_8 : decode cX0_kernelDimension 8 = .ok (.istore_n 3, 1) := by decide +kernel
theorem dX0_kernelDimension_9 : decode cX0_kernelDimension 9 = .ok (.iconst 0, 1) := by decide +kernel
theorem dX0_kernelDimension_10 : decode cX0_kernelDimension 10 = .ok (.istore 4, 2) := by decide +kernel
theorem dX0_kernelDimension_12 : decode cX0_kernelDimension 12 = .ok (.iload 4, 2) := by decide +kernel
theorem dX0_kernelDimension_14 : decode cX0_kernelDimension 14 = .ok (.iload_n 3, 1) := by decide +kernel
theorem dX0_kernelDimension_15 : decode cX0_kernelDimension 15 = .ok (.if_icmp .ge 35, 3) := by decide +kernel
theorem dX0_kernelDimension_18 : decode cX0_kernelDimension 18 = .ok (.aload_n 0, 1) := by decide +kernel
theorem dX0_kernelDimension_19 : decode cX0_kernelDimension 19 = .ok (.getfield 11, 3) := by decide +kernel
theorem dX0_kernelDimension_22 : decode cX0_kernelDimension 22 = .ok (.iload 4, 2) := by decide +kernel
theorem dX0_kernelDimension_24 : decode cX0_kernelDimension 24 = .ok (.aaload, 1) := by decide +kernel
theorem dX0_kernelDimension_25 : decode cX0_kernelDimension 25 = .ok (.iconst 0, 1) := by decide +kernel
theorem dX0_kernelDimension_26 : decode cX0_kernelDimension 26 = .ok (.invokestatic 41, 3) := by decide +kernel
theorem dX0_kernelDimension_29 : decode cX0_kernelDimension 29 = .ok (.aload_n 0, 1) := by decide +kernel
theorem dX0_kernelDimension_30 : decode cX0_kernelDimension 30 = .ok (.aload_n 0, 1) := by decide +kernel
theorem dX0_kernelDimension_31 : decode cX0_kernelDimension 31 = .ok (.getfield 11, 3) := by decide +kernel
theorem dX0_kernelDimension_34 : decode cX0_kernelDimension 34 = .ok (.iload 4, 2) := by decide +kernel
theorem dX0_kernelDimension_36 : decode cX0_kernelDimension 36 = .ok (.aaload, 1) := by decide +kernel
theorem dX0_kernelDimension_37 : decode cX0_kernelDimension 37 = .ok (.aload_n 1, 1) := by decide +kernel
theorem dX0_kernelDimension_38 : decode cX0_kernelDimension 38 = .ok (.iconst 1, 1) := by decide +kernel
theorem dX0_kernelDimension_39 : decode cX0_kernelDimension 39 = .ok (.iload 4, 2) := by decide +kernel
theorem dX0_kernelDimension_41 : decode cX0_kernelDimension 41 = .ok (.invokevirtual 47, 3) := by decide +kernel
theorem dX0_kernelDimension_44 : decode cX0_kernelDimension 44 = .ok (.iinc 4 1, 3) := by decide +kernel
theorem dX0_kernelDimension_47 : decode cX0_kernelDimension 47 = .ok (.goto (-35), 3) := by decide +kernel
theorem dX0_kernelDimension_50 : decode cX0_kernelDimension 50 = .ok (.iconst 0, 1) := by decide +kernel
theorem dX0_kernelDimension_51 : decode cX0_kernelDimension 51 = .ok (.istore 4, 2) := by decide +kernel
theorem dX0_kernelDimension_53 : decode cX0_kernelDimension 53 = .ok (.iconst 0, 1) := by decide +kernel
theorem dX0_kernelDimension_54 : decode cX0_kernelDimension 54 = .ok (.istore 5, 2) := by decide +kernel
theorem dX0_kernelDimension_56 : decode cX0_kernelDimension 56 = .ok (.iload 5, 2) := by decide +kernel
theorem dX0_kernelDimension_58 : decode cX0_kernelDimension 58 = .ok (.bipush 28, 2) := by decide +kernel
theorem dX0_kernelDimension_60 : decode cX0_kernelDimension 60 = .ok (.if_icmp .ge 75, 3) := by decide +kernel
theorem dX0_kernelDimension_63 : decode cX0_kernelDimension 63 = .ok (.iload 4, 2) := by decide +kernel
theorem dX0_kernelDimension_65 : decode cX0_kernelDimension 65 = .ok (.iload_n 3, 1) := by decide +kernel
theorem dX0_kernelDimension_66 : decode cX0_kernelDimension 66 = .ok (.if_icmp .ge 69, 3) := by decide +kernel
theorem dX0_kernelDimension_69 : decode cX0_kernelDimension 69 = .ok (.aload_n 0, 1) := by decide +kernel
theorem dX0_kernelDimension_70 : decode cX0_kernelDimension 70 = .ok (.iload 4, 2) := by decide +kernel
theorem dX0_kernelDimension_72 : decode cX0_kernelDimension 72 = .ok (.iload_n 3, 1) := by decide +kernel
theorem dX0_kernelDimension_73 : decode cX0_kernelDimension 73 = .ok (.iload 5, 2) := by decide +kernel
theorem dX0_kernelDimension_75 : decode cX0_kernelDimension 75 = .ok (.invokevirtual 61, 3) := by decide +kernel
theorem dX0_kernelDimension_78 : decode cX0_kernelDimension 78 = .ok (.istore 6, 2) := by decide +kernel
theorem dX0_kernelDimension_80 : decode cX0_kernelDimension 80 = .ok (.iload 6, 2) := by decide +kernel
theorem dX0_kernelDimension_82 : decode cX0_kernelDimension 82 = .ok (.ifCond .lt 47, 3) := by decide +kernel
theorem dX0_kernelDimension_85 : decode cX0_kernelDimension 85 = .ok (.aload_n 0, 1) := by decide +kernel
theorem dX0_kernelDimension_86 : decode cX0_kernelDimension 86 = .ok (.getfield 11, 3) := by decide +kernel
theorem dX0_kernelDimension_89 : decode cX0_kernelDimension 89 = .ok (.iload 6, 2) := by decide +kernel
theorem dX0_kernelDimension_91 : decode cX0_kernelDimension 91 = .ok (.aaload, 1) := by decide +kernel
theorem dX0_kernelDimension_92 : decode cX0_kernelDimension 92 = .ok (.astore 7, 2) := by decide +kernel
theorem dX0_kernelDimension_94 : decode cX0_kernelDimension 94 = .ok (.aload_n 0, 1) := by decide +kernel
theorem dX0_kernelDimension_95 : decode cX0_kernelDimension 95 = .ok (.getfield 11, 3) := by decide +kernel
theorem dX0_kernelDimension_98 : decode cX0_kernelDimension 98 = .ok (.iload 6, 2) := by decide +kernel
theorem dX0_kernelDimension_100 : decode cX0_kernelDimension 100 = .ok (.aload_n 0, 1) := by decide +kernel
theorem dX0_kernelDimension_101 : decode cX0_kernelDimension 101 = .ok (.getfield 11, 3) := by decide +kernel
theorem dX0_kernelDimension_104 : decode cX0_kernelDimension 104 = .ok (.iload 4, 2) := by decide +kernel
theorem dX0_kernelDimension_106 : decode cX0_kernelDimension 106 = .ok (.aaload, 1) := by decide +kernel
theorem dX0_kernelDimension_107 : decode cX0_kernelDimension 107 = .ok (.aastore, 1) := by decide +kernel
theorem dX0_kernelDimension_108 : decode cX0_kernelDimension 108 = .ok (.aload_n 0, 1) := by decide +kernel
theorem dX0_kernelDimension_109 : decode cX0_kernelDimension 109 = .ok (.getfield 11, 3) := by decide +kernel
theorem dX0_kernelDimension_112 : decode cX0_kernelDimension 112 = .ok (.iload 4, 2) := by decide +kernel
theorem dX0_kernelDimension_114 : decode cX0_kernelDimension 114 = .ok (.aload 7, 2) := by decide +kernel
theorem dX0_kernelDimension_116 : decode cX0_kernelDimension 116 = .ok (.aastore, 1) := by decide +kernel
theorem dX0_kernelDimension_117 : decode cX0_kernelDimension 117 = .ok (.aload_n 0, 1) := by decide +kernel
theorem dX0_kernelDimension_118 : decode cX0_kernelDimension 118 = .ok (.iload 4, 2) := by decide +kernel
theorem dX0_kernelDimension_120 : decode cX0_kernelDimension 120 = .ok (.iload_n 3, 1) := by decide +kernel
theorem dX0_kernelDimension_121 : decode cX0_kernelDimension 121 = .ok (.iload 5, 2) := by decide +kernel
theorem dX0_kernelDimension_123 : decode cX0_kernelDimension 123 = .ok (.invokevirtual 65, 3) := by decide +kernel
theorem dX0_kernelDimension_126 : decode cX0_kernelDimension 126 = .ok (.iinc 4 1, 3) := by decide +kernel
theorem dX0_kernelDimension_129 : decode cX0_kernelDimension 129 = .ok (.iinc 5 1, 3) := by decide +kernel
theorem dX0_kernelDimension_132 : decode cX0_kernelDimension 132 = .ok (.goto (-76), 3) := by decide +kernel
theorem dX0_kernelDimension_135 : decode cX0_kernelDimension 135 = .ok (.iload_n 3, 1) := by decide +kernel
theorem dX0_kernelDimension_136 : decode cX0_kernelDimension 136 = .ok (.iload 4, 2) := by decide +kernel
theorem dX0_kernelDimension_138 : decode cX0_kernelDimension 138 = .ok (.isub, 1) := by decide +kernel
theorem dX0_kernelDimension_139 : decode cX0_kernelDimension 139 = .ok (.ireturn, 1) := by decide +kernel
theorem dX0_pivotRow_0 : decode cX0_pivotRow 0 = .ok (.iload_n 1, 1) := by decide +kernel
theorem dX0_pivotRow_1 : decode cX0_pivotRow 1 = .ok (.istore 4, 2) := by decide +kernel
theorem dX0_pivotRow_3 : decode cX0_pivotRow 3 = .ok (.iload 4, 2) := by decide +kernel
theorem dX0_pivotRow_5 : decode cX0_pivotRow 5 = .ok (.iload_n 2, 1) := by decide +kernel
theorem dX0_pivotRow_6 : decode cX0_pivotRow 6 = .ok (.if_icmp .ge 24, 3) := by decide +kernel
theorem dX0_pivotRow_9 : decode cX0_pivotRow 9 = .ok (.aload_n 0, 1) := by decide +kernel
theorem dX0_pivotRow_10 : decode cX0_pivotRow 10 = .ok (.getfield 11, 3) := by decide +kernel
theorem dX0_pivotRow_13 : decode cX0_pivotRow 13 = .ok (.iload 4, 2) := by decide +kernel
theorem dX0_pivotRow_15 : decode cX0_pivotRow 15 = .ok (.aaload, 1) := by decide +kernel
theorem dX0_pivotRow_16 : decode cX0_pivotRow 16 = .ok (.iload_n 3, 1) := by decide +kernel
theorem dX0_pivotRow_17 : decode cX0_pivotRow 17 = .ok (.iaload, 1) := by decide +kernel
theorem dX0_pivotRow_18 : decode cX0_pivotRow 18 = .ok (.ifCond .eq 6, 3) := by decide +kernel
theorem dX0_pivotRow_21 : decode cX0_pivotRow 21 = .ok (.iload 4, 2) := by decide +kernel
theorem dX0_pivotRow_23 : decode cX0_pivotRow 23 = .ok (.ireturn, 1) := by decide +kernel
theorem dX0_pivotRow_24 : decode cX0_pivotRow 24 = .ok (.iinc 4 1, 3) := by decide +kernel
theorem dX0_pivotRow_27 : decode cX0_pivotRow 27 = .ok (.goto (-24), 3) := by decide +kernel
theorem dX0_pivotRow_30 : decode cX0_pivotRow 30 = .ok (.iconst (-1), 1) := by decide +kernel
theorem dX0_pivotRow_31 : decode cX0_pivotRow 31 = .ok (.ireturn, 1) := by decide +kernel
theorem dX0_clearBelow_0 : decode cX0_clearBelow 0 = .ok (.aload_n 0, 1) := by decide +kernel
theorem dX0_clearBelow_1 : decode cX0_clearBelow 1 = .ok (.getfield 11, 3) := by decide +kernel
theorem dX0_clearBelow_4 : decode cX0_clearBelow 4 = .ok (.iload_n 1, 1) := by decide +kernel
theorem dX0_clearBelow_5 : decode cX0_clearBelow 5 = .ok (.aaload, 1) := by decide +kernel
theorem dX0_clearBelow_6 : decode cX0_clearBelow 6 = .ok (.iload_n 3, 1) := by decide +kernel
theorem dX0_clearBelow_7 : decode cX0_clearBelow 7 = .ok (.iaload, 1) := by decide +kernel
theorem dX0_clearBelow_8 : decode cX0_clearBelow 8 = .ok (.invokestatic 69, 3) := by decide +kernel
theorem dX0_clearBelow_11 : decode cX0_clearBelow 11 = .ok (.istore 4, 2) := by decide +kernel
theorem dX0_clearBelow_13 : decode cX0_clearBelow 13 = .ok (.iload_n 1, 1) := by decide +kernel
theorem dX0_clearBelow_14 : decode cX0_clearBelow 14 = .ok (.iconst 1, 1) := by decide +kernel
theorem dX0_clearBelow_15 : decode cX0_clearBelow 15 = .ok (.iadd, 1) := by decide +kernel
theorem dX0_clearBelow_16 : decode cX0_clearBelow 16 = .ok (.istore 5, 2) := by decide +kernel
theorem dX0_clearBelow_18 : decode cX0_clearBelow 18 = .ok (.iload 5, 2) := by decide +kernel
theorem dX0_clearBelow_20 : decode cX0_clearBelow 20 = .ok (.iload_n 2, 1) := by decide +kernel
theorem dX0_clearBelow_21 : decode cX0_clearBelow 21 = .ok (.if_icmp .ge 89, 3) := by decide +kernel
theorem dX0_clearBelow_24 : decode cX0_clearBelow 24 = .ok (.sipush 10007, 3) := by decide +kernel
theorem dX0_clearBelow_27 : decode cX0_clearBelow 27 = .ok (.aload_n 0, 1) := by decide +kernel
theorem dX0_clearBelow_28 : decode cX0_clearBelow 28 = .ok (.getfield 11, 3) := by decide +kernel
theorem dX0_clearBelow_31 : decode cX0_clearBelow 31 = .ok (.iload 5, 2) := by decide +kernel
theorem dX0_clearBelow_33 : decode cX0_clearBelow 33 = .ok (.aaload, 1) := by decide +kernel
theorem dX0_clearBelow_34 : decode cX0_clearBelow 34 = .ok (.iload_n 3, 1) := by decide +kernel
theorem dX0_clearBelow_35 : decode cX0_clearBelow 35 = .ok (.iaload, 1) := by decide +kernel
theorem dX0_clearBelow_36 : decode cX0_clearBelow 36 = .ok (.isub, 1) := by decide +kernel
theorem dX0_clearBelow_37 : decode cX0_clearBelow 37 = .ok (.iload 4, 2) := by decide +kernel
theorem dX0_clearBelow_39 : decode cX0_clearBelow 39 = .ok (.imul, 1) := by decide +kernel
theorem dX0_clearBelow_40 : decode cX0_clearBelow 40 = .ok (.sipush 10007, 3) := by decide +kernel
theorem dX0_clearBelow_43 : decode cX0_clearBelow 43 = .ok (.irem, 1) := by decide +kernel
theorem dX0_clearBelow_44 : decode cX0_clearBelow 44 = .ok (.istore 6, 2) := by decide +kernel
theorem dX0_clearBelow_46 : decode cX0_clearBelow 46 = .ok (.iload 6, 2) := by decide +kernel
theorem dX0_clearBelow_48 : decode cX0_clearBelow 48 = .ok (.ifCond .eq 56, 3) := by decide +kernel
theorem dX0_clearBelow_51 : decode cX0_clearBelow 51 = .ok (.iload_n 3, 1) := by decide +kernel
theorem dX0_clearBelow_52 : decode cX0_clearBelow 52 = .ok (.istore 7, 2) := by decide +kernel
theorem dX0_clearBelow_54 : decode cX0_clearBelow 54 = .ok (.iload 7, 2) := by decide +kernel
theorem dX0_clearBelow_56 : decode cX0_clearBelow 56 = .ok (.bipush 28, 2) := by decide +kernel
theorem dX0_clearBelow_58 : decode cX0_clearBelow 58 = .ok (.if_icmp .ge 46, 3) := by decide +kernel
theorem dX0_clearBelow_61 : decode cX0_clearBelow 61 = .ok (.aload_n 0, 1) := by decide +kernel
theorem dX0_clearBelow_62 : decode cX0_clearBelow 62 = .ok (.getfield 11, 3) := by decide +kernel
theorem dX0_clearBelow_65 : decode cX0_clearBelow 65 = .ok (.iload 5, 2) := by decide +kernel
theorem dX0_clearBelow_67 : decode cX0_clearBelow 67 = .ok (.aaload, 1) := by decide +kernel
theorem dX0_clearBelow_68 : decode cX0_clearBelow 68 = .ok (.iload 7, 2) := by decide +kernel
theorem dX0_clearBelow_70 : decode cX0_clearBelow 70 = .ok (.aload_n 0, 1) := by decide +kernel
theorem dX0_clearBelow_71 : decode cX0_clearBelow 71 = .ok (.getfield 11, 3) := by decide +kernel
theorem dX0_clearBelow_74 : decode cX0_clearBelow 74 = .ok (.iload 5, 2) := by decide +kernel
theorem dX0_clearBelow_76 : decode cX0_clearBelow 76 = .ok (.aaload, 1) := by decide +kernel
theorem dX0_clearBelow_77 : decode cX0_clearBelow 77 = .ok (.iload 7, 2) := by decide +kernel
theorem dX0_clearBelow_79 : decode cX0_clearBelow 79 = .ok (.iaload, 1) := by decide +kernel
theorem dX0_clearBelow_80 : decode cX0_clearBelow 80 = .ok (.iload 6, 2) := by decide +kernel
theorem dX0_clearBelow_82 : decode cX0_clearBelow 82 = .ok (.aload_n 0, 1) := by decide +kernel
theorem dX0_clearBelow_83 : decode cX0_clearBelow 83 = .ok (.getfield 11, 3) := by decide +kernel
theorem dX0_clearBelow_86 : decode cX0_clearBelow 86 = .ok (.iload_n 1, 1) := by decide +kernel
theorem dX0_clearBelow_87 : decode cX0_clearBelow 87 = .ok (.aaload, 1) := by decide +kernel
theorem dX0_clearBelow_88 : decode cX0_clearBelow 88 = .ok (.iload 7, 2) := by decide +kernel
theorem dX0_clearBelow_90 : decode cX0_clearBelow 90 = .ok (.iaload, 1) := by decide +kernel
theorem dX0_clearBelow_91 : decode cX0_clearBelow 91 = .ok (.imul, 1) := by decide +kernel
theorem dX0_clearBelow_92 : decode cX0_clearBelow 92 = .ok (.iadd, 1) := by decide +kernel
theorem dX0_clearBelow_93 : decode cX0_clearBelow 93 = .ok (.sipush 10007, 3) := by decide +kernel
theorem dX0_clearBelow_96 : decode cX0_clearBelow 96 = .ok (.irem, 1) := by decide +kernel
theorem dX0_clearBelow_97 : decode cX0_clearBelow 97 = .ok (.iastore, 1) := by decide +kernel
theorem dX0_clearBelow_98 : decode cX0_clearBelow 98 = .ok (.iinc 7 1, 3) := by decide +kernel
theorem dX0_clearBelow_101 : decode cX0_clearBelow 101 = .ok (.goto (-47), 3) := by decide +kernel
theorem dX0_clearBelow_104 : decode cX0_clearBelow 104 = .ok (.iinc 5 1, 3) := by decide +kernel
theorem dX0_clearBelow_107 : decode cX0_clearBelow 107 = .ok (.goto (-89), 3) := by decide +kernel
theorem dX0_clearBelow_110 : decode cX0_clearBelow 110 = .ok (.return_, 1) := by decide +kernel
theorem dX1_init_0 : decode cX1_init 0 = .ok (.aload_n 0, 1) := by decide +kernel
theorem dX1_init_1 : decode cX1_init 1 = .ok (.invokespecial 3, 3) := by decide +kernel
theorem dX1_init_4 : decode cX1_init 4 = .ok (.aload_n 0, 1) := by decide +kernel
theorem dX1_init_5 : decode cX1_init 5 = .ok (.bipush 13, 2) := by decide +kernel
theorem dX1_init_7 : decode cX1_init 7 = .ok (.bipush 13, 2) := by decide +kernel
theorem dX1_init_9 : decode cX1_init 9 = .ok (.multianewarray 9 2, 4) := by decide +kernel
theorem dX1_init_13 : decode cX1_init 13 = .ok (.putfield 11, 3) := by decide +kernel
theorem dX1_init_16 : decode cX1_init 16 = .ok (.aload_n 0, 1) := by decide +kernel
theorem dX1_init_17 : decode cX1_init 17 = .ok (.bipush 31, 2) := by decide +kernel
theorem dX1_init_19 : decode cX1_init 19 = .ok (.bipush 13, 2) := by decide +kernel
theorem dX1_init_21 : decode cX1_init 21 = .ok (.multianewarray 9 2, 4) := by decide +kernel
theorem dX1_init_25 : decode cX1_init 25 = .ok (.putfield 16, 3) := by decide +kernel
theorem dX1_init_28 : decode cX1_init 28 = .ok (.aload_n 0, 1) := by decide +kernel
theorem dX1_init_29 : decode cX1_init 29 = .ok (.new 19, 3) := by decide +kernel
theorem dX1_init_32 : decode cX1_init 32 = .ok (.dup, 1) := by decide +kernel
theorem dX1_init_33 : decode cX1_init 33 = .ok (.invokespecial 21, 3) := by decide +kernel
theorem dX1_init_36 : decode cX1_init 36 = .ok (.putfield 22, 3) := by decide +kernel
theorem dX1_init_39 : decode cX1_init 39 = .ok (.iconst 0, 1) := by decide +kernel
theorem dX1_init_40 : decode cX1_init 40 = .ok (.istore_n 1, 1) := by decide +kernel
theorem dX1_init_41 : decode cX1_init 41 = .ok (.iload_n 1, 1) := by decide +kernel
theorem dX1_init_42 : decode cX1_init 42 = .ok (.bipush 12, 2) := by decide +kernel
theorem dX1_init_44 : decode cX1_init 44 = .ok (.if_icmp .gt 66, 3) := by decide +kernel
theorem dX1_init_47 : decode cX1_init 47 = .ok (.aload_n 0, 1) := by decide +kernel
theorem dX1_init_48 : decode cX1_init 48 = .ok (.getfield 11, 3) := by decide +kernel
theorem dX1_init_51 : decode cX1_init 51 = .ok (.iload_n 1, 1) := by decide +kernel
theorem dX1_init_52 : decode cX1_init 52 = .ok (.aaload, 1) := by decide +kernel
theorem dX1_init_53 : decode cX1_init 53 = .ok (.iconst 0, 1) := by decide +kernel
theorem dX1_init_54 : decode cX1_init 54 = .ok (.iconst 1, 1) := by decide +kernel
theorem dX1_init_55 : decode cX1_init 55 = .ok (.iastore, 1) := by decide +kernel
theorem dX1_init_56 : decode cX1_init 56 = .ok (.iconst 1, 1) := by decide +kernel
theorem dX1_init_57 : decode cX1_init 57 = .ok (.istore_n 2, 1) := by decide +kernel
theorem dX1_init_58 : decode cX1_init 58 = .ok (.iload_n 2, 1) := by decide +kernel
theorem dX1_init_59 : decode cX1_init 59 = .ok (.iload_n 1, 1) := by decide +kernel
theorem dX1_init_60 : decode cX1_init 60 = .ok (.if_icmp .gt 44, 3) := by decide +kernel
theorem dX1_init_63 : decode cX1_init 63 = .ok (.aload_n 0, 1) := by decide +kernel
theorem dX1_init_64 : decode cX1_init 64 = .ok (.getfield 11, 3) := by decide +kernel
theorem dX1_init_67 : decode cX1_init 67 = .ok (.iload_n 1, 1) := by decide +kernel
theorem dX1_init_68 : decode cX1_init 68 = .ok (.aaload, 1) := by decide +kernel
theorem dX1_init_69 : decode cX1_init 69 = .ok (.iload_n 2, 1) := by decide +kernel
theorem dX1_init_70 : decode cX1_init 70 = .ok (.aload_n 0, 1) := by decide +kernel
theorem dX1_init_71 : decode cX1_init 71 = .ok (.getfield 11, 3) := by decide +kernel
theorem dX1_init_74 : decode cX1_init 74 = .ok (.iload_n 1, 1) := by decide +kernel
theorem dX1_init_75 : decode cX1_init 75 = .ok (.iconst 1, 1) := by decide +kernel
theorem dX1_init_76 : decode cX1_init 76 = .ok (.isub, 1) := by decide +kernel
theorem dX1_init_77 : decode cX1_init 77 = .ok (.aaload, 1) := by decide +kernel
theorem dX1_init_78 : decode cX1_init 78 = .ok (.iload_n 2, 1) := by decide +kernel
theorem dX1_init_79 : decode cX1_init 79 = .ok (.iconst 1, 1) := by decide +kernel
theorem dX1_init_80 : decode cX1_init 80 = .ok (.isub, 1) := by decide +kernel
theorem dX1_init_81 : decode cX1_init 81 = .ok (.iaload, 1) := by decide +kernel
theorem dX1_init_82 : decode cX1_init 82 = .ok (.aload_n 0, 1) := by decide +kernel
theorem dX1_init_83 : decode cX1_init 83 = .ok (.getfield 11, 3) := by decide +kernel
theorem dX1_init_86 : decode cX1_init 86 = .ok (.iload_n 1, 1) := by decide +kernel
theorem dX1_init_87 : decode cX1_init 87 = .ok (.iconst 1, 1) := by decide +kernel
theorem dX1_init_88 : decode cX1_init 88 = .ok (.isub, 1) := by decide +kernel
theorem dX1_init_89 : decode cX1_init 89 = .ok (.aaload, 1) := by decide +kernel
theorem dX1_init_90 : decode cX1_init 90 = .ok (.iload_n 2, 1) := by decide +kernel
theorem dX1_init_91 : decode cX1_init 91 = .ok (.iaload, 1) := by decide +kernel
theorem dX1_init_92 : decode cX1_init 92 = .ok (.iadd, 1) := by decide +kernel
theorem dX1_init_93 : decode cX1_init 93 = .ok (.sipush 10007, 3) := by decide +kernel
theorem dX1_init_96 : decode cX1_init 96 = .ok (.irem, 1) := by decide +kernel
theorem dX1_init_97 : decode cX1_init 97 = .ok (.iastore, 1) := by decide +kernel
theorem dX1_init_98 : decode cX1_init 98 = .ok (.iinc 2 1, 3) := by decide +kernel
theorem dX1_init_101 : decode cX1_init 101 = .ok (.goto (-43), 3) := by decide +kernel
theorem dX1_init_104 : decode cX1_init 104 = .ok (.iinc 1 1, 3) := by decide +kernel
theorem dX1_init_107 : decode cX1_init 107 = .ok (.goto (-66), 3) := by decide +kernel
theorem dX1_init_110 : decode cX1_init 110 = .ok (.iconst 0, 1) := by decide +kernel
theorem dX1_init_111 : decode cX1_init 111 = .ok (.istore_n 1, 1) := by decide +kernel
theorem dX1_init_112 : decode cX1_init 112 = .ok (.iload_n 1, 1) := by decide +kernel
theorem dX1_init_113 : decode cX1_init 113 = .ok (.bipush 30, 2) := by decide +kernel
theorem dX1_init_115 : decode cX1_init 115 = .ok (.if_icmp .gt 64, 3) := by decide +kernel
theorem dX1_init_118 : decode cX1_init 118 = .ok (.aload_n 0, 1) := by decide +kernel
theorem dX1_init_119 : decode cX1_init 119 = .ok (.getfield 16, 3) := by decide +kernel
theorem dX1_init_122 : decode cX1_init 122 = .ok (.iload_n 1, 1) := by decide +kernel
theorem dX1_init_123 : decode cX1_init 123 = .ok (.aaload, 1) := by decide +kernel
theorem dX1_init_124 : decode cX1_init 124 = .ok (.iconst 0, 1) := by decide +kernel
theorem dX1_init_125 : decode cX1_init 125 = .ok (.iconst 1, 1) := by decide +kernel
theorem dX1_init_126 : decode cX1_init 126 = .ok (.iastore, 1) := by decide +kernel
theorem dX1_init_127 : decode cX1_init 127 = .ok (.iconst 1, 1) := by decide +kernel
theorem dX1_init_128 : decode cX1_init 128 = .ok (.istore_n 2, 1) := by decide +kernel
theorem dX1_init_129 : decode cX1_init 129 = .ok (.iload_n 2, 1) := by decide +kernel
theorem dX1_init_130 : decode cX1_init 130 = .ok (.iload_n 1, 1) := by decide +kernel
theorem dX1_init_131 : decode cX1_init 131 = .ok (.bipush 12, 2) := by decide +kernel
theorem dX1_init_133 : decode cX1_init 133 = .ok (.invokestatic 26, 3) := by decide +kernel
theorem dX1_init_136 : decode cX1_init 136 = .ok (.if_icmp .gt 37, 3) := by decide +kernel
theorem dX1_init_139 : decode cX1_init 139 = .ok (.aload_n 0, 1) := by decide +kernel
theorem dX1_init_140 : decode cX1_init 140 = .ok (.getfield 16, 3) := by decide +kernel
theorem dX1_init_143 : decode cX1_init 143 = .ok (.iload_n 1, 1) := by decide +kernel
theorem dX1_init_144 : decode cX1_init 144 = .ok (.aaload, 1) := by decide +kernel
theorem dX1_init_145 : decode cX1_init 145 = .ok (.iload_n 2, 1) := by decide +kernel
theorem dX1_init_146 : decode cX1_init 146 = .ok (.aload_n 0, 1) := by decide +kernel
theorem dX1_init_147 : decode cX1_init 147 = .ok (.getfield 16, 3) := by decide +kernel
theorem dX1_init_150 : decode cX1_init 150 = .ok (.iload_n 1, 1) := by decide +kernel
theorem dX1_init_151 : decode cX1_init 151 = .ok (.aaload, 1) := by decide +kernel
theorem dX1_init_152 : decode cX1_init 152 = .ok (.iload_n 2, 1) := by decide +kernel
theorem dX1_init_153 : decode cX1_init 153 = .ok (.iconst 1, 1) := by decide +kernel
theorem dX1_init_154 : decode cX1_init 154 = .ok (.isub, 1) := by decide +kernel
theorem dX1_init_155 : decode cX1_init 155 = .ok (.iaload, 1) := by decide +kernel
theorem dX1_init_156 : decode cX1_init 156 = .ok (.iload_n 1, 1) := by decide +kernel
theorem dX1_init_157 : decode cX1_init 157 = .ok (.iload_n 2, 1) := by decide +kernel
theorem dX1_init_158 : decode cX1_init 158 = .ok (.isub, 1) := by decide +kernel
theorem dX1_init_159 : decode cX1_init 159 = .ok (.iconst 1, 1) := by decide +kernel
theorem dX1_init_160 : decode cX1_init 160 = .ok (.iadd, 1) := by decide +kernel
theorem dX1_init_161 : decode cX1_init 161 = .ok (.imul, 1) := by decide +kernel
theorem dX1_init_162 : decode cX1_init 162 = .ok (.sipush 10007, 3) := by decide +kernel
theorem dX1_init_165 : decode cX1_init 165 = .ok (.irem, 1) := by decide +kernel
theorem dX1_init_166 : decode cX1_init 166 = .ok (.iastore, 1) := by decide +kernel
theorem dX1_init_167 : decode cX1_init 167 = .ok (.iinc 2 1, 3) := by decide +kernel
theorem dX1_init_170 : decode cX1_init 170 = .ok (.goto (-41), 3) := by decide +kernel
theorem dX1_init_173 : decode cX1_init 173 = .ok (.iinc 1 1, 3) := by decide +kernel
theorem dX1_init_176 : decode cX1_init 176 = .ok (.goto (-64), 3) := by decide +kernel
theorem dX1_init_179 : decode cX1_init 179 = .ok (.return_, 1) := by decide +kernel
theorem dX1_residue_0 : decode cX1_residue 0 = .ok (.iload_n 0, 1) := by decide +kernel
theorem dX1_residue_1 : decode cX1_residue 1 = .ok (.sipush 10007, 3) := by decide +kernel
theorem dX1_residue_4 : decode cX1_residue 4 = .ok (.invokestatic 32, 3) := by decide +kernel
theorem dX1_residue_7 : decode cX1_residue 7 = .ok (.ireturn, 1) := by decide +kernel
theorem dX1_balanced_0 : decode cX1_balanced 0 = .ok (.iload_n 0, 1) := by decide +kernel
theorem dX1_balanced_1 : decode cX1_balanced 1 = .ok (.sipush 5003, 3) := by decide +kernel
theorem dX1_balanced_4 : decode cX1_balanced 4 = .ok (.if_icmp .le 11, 3) := by decide +kernel
theorem dX1_balanced_7 : decode cX1_balanced 7 = .ok (.iload_n 0, 1) := by decide +kernel
theorem dX1_balanced_8 : decode cX1_balanced 8 = .ok (.sipush 10007, 3) := by decide +kernel
theorem dX1_balanced_11 : decode cX1_balanced 11 = .ok (.isub, 1) := by decide +kernel
theorem dX1_balanced_12 : decode cX1_balanced 12 = .ok (.goto 4, 3) := by decide +kernel
theorem dX1_balanced_15 : decode cX1_balanced 15 = .ok (.iload_n 0, 1) := by decide +kernel
theorem dX1_balanced_16 : decode cX1_balanced 16 = .ok (.ireturn, 1) := by decide +kernel
theorem dX1_inverse_0 : decode cX1_inverse 0 = .ok (.iconst 1, 1) := by decide +kernel
theorem dX1_inverse_1 : decode cX1_inverse 1 = .ok (.istore_n 1, 1) := by decide +kernel
theorem dX1_inverse_2 : decode cX1_inverse 2 = .ok (.iload_n 0, 1) := by decide +kernel
theorem dX1_inverse_3 : decode cX1_inverse 3 = .ok (.istore_n 2, 1) := by decide +kernel
theorem dX1_inverse_4 : decode cX1_inverse 4 = .ok (.sipush 10005, 3) := by decide +kernel
theorem dX1_inverse_7 : decode cX1_inverse 7 = .ok (.istore_n 3, 1) := by decide +kernel
theorem dX1_inverse_8 : decode cX1_inverse 8 = .ok (.iload_n 3, 1) := by decide +kernel
theorem dX1_inverse_9 : decode cX1_inverse 9 = .ok (.ifCond .le 33, 3) := by decide +kernel
theorem dX1_inverse_12 : decode cX1_inverse 12 = .ok (.iload_n 3, 1) := by decide +kernel
theorem dX1_inverse_13 : decode cX1_inverse 13 = .ok (.iconst 1, 1) := by decide +kernel
theorem dX1_inverse_14 : decode cX1_inverse 14 = .ok (.iand, 1) := by decide +kernel
theorem dX1_inverse_15 : decode cX1_inverse 15 = .ok (.iconst 1, 1) := by decide +kernel
theorem dX1_inverse_16 : decode cX1_inverse 16 = .ok (.if_icmp .ne 11, 3) := by decide +kernel
theorem dX1_inverse_19 : decode cX1_inverse 19 = .ok (.iload_n 1, 1) := by decide +kernel
theorem dX1_inverse_20 : decode cX1_inverse 20 = .ok (.iload_n 2, 1) := by decide +kernel
theorem dX1_inverse_21 : decode cX1_inverse 21 = .ok (.imul, 1) := by decide +kernel
theorem dX1_inverse_22 : decode cX1_inverse 22 = .ok (.sipush 10007, 3) := by decide +kernel
theorem dX1_inverse_25 : decode cX1_inverse 25 = .ok (.irem, 1) := by decide +kernel
theorem dX1_inverse_26 : decode cX1_inverse 26 = .ok (.istore_n 1, 1) := by decide +kernel
theorem dX1_inverse_27 : decode cX1_inverse 27 = .ok (.iload_n 2, 1) := by decide +kernel
theorem dX1_inverse_28 : decode cX1_inverse 28 = .ok (.iload_n 2, 1) := by decide +kernel
theorem dX1_inverse_29 : decode cX1_inverse 29 = .ok (.imul, 1) := by decide +kernel
theorem dX1_inverse_30 : decode cX1_inverse 30 = .ok (.sipush 10007, 3) := by decide +kernel
theorem dX1_inverse_33 : decode cX1_inverse 33 = .ok (.irem, 1) := by decide +kernel
theorem dX1_inverse_34 : decode cX1_inverse 34 = .ok (.istore_n 2, 1) := by decide +kernel
theorem dX1_inverse_35 : decode cX1_inverse 35 = .ok (.iload_n 3, 1) := by decide +kernel
theorem dX1_inverse_36 : decode cX1_inverse 36 = .ok (.iconst 1, 1) := by decide +kernel
theorem dX1_inverse_37 : decode cX1_inverse 37 = .ok (.ishr, 1) := by decide +kernel
theorem dX1_inverse_38 : decode cX1_inverse 38 = .ok (.istore_n 3, 1) := by decide +kernel
theorem dX1_inverse_39 : decode cX1_inverse 39 = .ok (.goto (-31), 3) := by decide +kernel
theorem dX1_inverse_42 : decode cX1_inverse 42 = .ok (.iload_n 1, 1) := by decide +kernel
theorem dX1_inverse_43 : decode cX1_inverse 43 = .ok (.ireturn, 1) := by decide +kernel
theorem dX1_productFits_0 : decode cX1_productFits 0 = .ok (.aload_n 0, 1) := by decide +kernel
theorem dX1_productFits_1 : decode cX1_productFits 1 = .ok (.invokevirtual 35, 3) := by decide +kernel
theorem dX1_productFits_4 : decode cX1_productFits 4 = .ok (.ifCond .ne 24, 3) := by decide +kernel
theorem dX1_productFits_7 : decode cX1_productFits 7 = .ok (.aload_n 1, 1) := by decide +kernel
theorem dX1_productFits_8 : decode cX1_productFits 8 = .ok (.invokevirtual 35, 3) := by decide +kernel
theorem dX1_productFits_11 : decode cX1_productFits 11 = .ok (.ifCond .ne 17, 3) := by decide +kernel
theorem dX1_productFits_14 : decode cX1_productFits 14 = .ok (.aload_n 0, 1) := by decide +kernel
theorem dX1_productFits_15 : decode cX1_productFits 15 = .ok (.invokevirtual 39, 3) := by decide +kernel
theorem dX1_productFits_18 : decode cX1_productFits 18 = .ok (.aload_n 1, 1) := by decide +kernel
theorem dX1_productFits_19 : decode cX1_productFits 19 = .ok (.invokevirtual 39, 3) := by decide +kernel
theorem dX1_productFits_22 : decode cX1_productFits 22 = .ok (.iadd, 1) := by decide +kernel
theorem dX1_productFits_23 : decode cX1_productFits 23 = .ok (.bipush 12, 2) := by decide +kernel
theorem dX1_productFits_25 : decode cX1_productFits 25 = .ok (.if_icmp .gt 7, 3) := by decide +kernel
theorem dX1_productFits_28 : decode cX1_productFits 28 = .ok (.iconst 1, 1) := by decide +kernel
theorem dX1_productFits_29 : decode cX1_productFits 29 = .ok (.goto 4, 3) := by decide +kernel
theorem dX1_productFits_32 : decode cX1_productFits 32 = .ok (.iconst 0, 1) := by decide +kernel
theorem dX1_productFits_33 : decode cX1_productFits 33 = .ok (.ireturn, 1) := by decide +kernel
theorem dX1_powerFits_0 : decode cX1_powerFits 0 = .ok (.aload_n 0, 1) := by decide +kernel
theorem dX1_powerFits_1 : decode cX1_powerFits 1 = .ok (.invokevirtual 35, 3) := by decide +kernel
theorem dX1_powerFits_4 : decode cX1_powerFits 4 = .ok (.ifCond .ne 14, 3) := by decide +kernel
theorem dX1_powerFits_7 : decode cX1_powerFits 7 = .ok (.aload_n 0, 1) := by decide +kernel
theorem dX1_powerFits_8 : decode cX1_powerFits 8 = .ok (.invokevirtual 39, 3) := by decide +kernel
theorem dX1_powerFits_11 : decode cX1_powerFits 11 = .ok (.iload_n 1, 1) := by decide +kernel
theorem dX1_powerFits_12 : decode cX1_powerFits 12 = .ok (.imul, 1) := by decide +kernel
theorem dX1_powerFits_13 : decode cX1_powerFits 13 = .ok (.bipush 12, 2) := by decide +kernel
theorem dX1_powerFits_15 : decode cX1_powerFits 15 = .ok (.if_icmp .gt 7, 3) := by decide +kernel
theorem dX1_powerFits_18 : decode cX1_powerFits 18 = .ok (.iconst 1, 1) := by decide +kernel
theorem dX1_powerFits_19 : decode cX1_powerFits 19 = .ok (.goto 4, 3) := by decide +kernel
theorem dX1_powerFits_22 : decode cX1_powerFits 22 = .ok (.iconst 0, 1) := by decide +kernel
theorem dX1_powerFits_23 : decode cX1_powerFits 23 = .ok (.ireturn, 1) := by decide +kernel
theorem dX1_addProduct_0 : decode cX1_addProduct 0 = .ok (.aload_n 3, 1) := by decide +kernel
theorem dX1_addProduct_1 : decode cX1_addProduct 1 = .ok (.invokevirtual 43, 3) := by decide +kernel
theorem dX1_addProduct_4 : decode cX1_addProduct 4 = .ok (.istore 5, 2) := by decide +kernel
theorem dX1_addProduct_6 : decode cX1_addProduct 6 = .ok (.aload 4, 2) := by decide +kernel
theorem dX1_addProduct_8 : decode cX1_addProduct 8 = .ok (.invokevirtual 43, 3) := by decide +kernel
theorem dX1_addProduct_11 : decode cX1_addProduct 11 = .ok (.istore 6, 2) := by decide +kernel
theorem dX1_addProduct_13 : decode cX1_addProduct 13 = .ok (.iconst 0, 1) := by decide +kernel
theorem dX1_addProduct_14 : decode cX1_addProduct 14 = .ok (.istore 7, 2) := by decide +kernel
theorem dX1_addProduct_16 : decode cX1_addProduct 16 = .ok (.iload 7, 2) := by decide +kernel
theorem dX1_addProduct_18 : decode cX1_addProduct 18 = .ok (.iload 5, 2) := by decide +kernel
theorem dX1_addProduct_20 : decode cX1_addProduct 20 = .ok (.if_icmp .ge 42, 3) := by decide +kernel
theorem dX1_addProduct_23 : decode cX1_addProduct 23 = .ok (.aload_n 3, 1) := by decide +kernel
theorem dX1_addProduct_24 : decode cX1_addProduct 24 = .ok (.getfield 46, 3) := by decide +kernel
theorem dX1_addProduct_27 : decode cX1_addProduct 27 = .ok (.iload 7, 2) := by decide +kernel
theorem dX1_addProduct_29 : decode cX1_addProduct 29 = .ok (.iaload, 1) := by decide +kernel
theorem dX1_addProduct_30 : decode cX1_addProduct 30 = .ok (.istore 8, 2) := by decide +kernel
theorem dX1_addProduct_32 : decode cX1_addProduct 32 = .ok (.iload 8, 2) := by decide +kernel
theorem dX1_addProduct_34 : decode cX1_addProduct 34 = .ok (.ifCond .eq 22, 3) := by decide +kernel
theorem dX1_addProduct_37 : decode cX1_addProduct 37 = .ok (.aload_n 0, 1) := by decide +kernel
theorem dX1_addProduct_38 : decode cX1_addProduct 38 = .ok (.aload_n 1, 1) := by decide +kernel
theorem dX1_addProduct_39 : decode cX1_addProduct 39 = .ok (.iload_n 2, 1) := by decide +kernel
theorem dX1_addProduct_40 : decode cX1_addProduct 40 = .ok (.iload 8, 2) := by decide +kernel
theorem dX1_addProduct_42 : decode cX1_addProduct 42 = .ok (.imul, 1) := by decide +kernel
theorem dX1_addProduct_43 : decode cX1_addProduct 43 = .ok (.sipush 10007, 3) := by decide +kernel
theorem dX1_addProduct_46 : decode cX1_addProduct 46 = .ok (.irem, 1) := by decide +kernel
theorem dX1_addProduct_47 : decode cX1_addProduct 47 = .ok (.iload 7, 2) := by decide +kernel
theorem dX1_addProduct_49 : decode cX1_addProduct 49 = .ok (.aload 4, 2) := by decide +kernel
theorem dX1_addProduct_51 : decode cX1_addProduct 51 = .ok (.iload 6, 2) := by decide +kernel
theorem dX1_addProduct_53 : decode cX1_addProduct 53 = .ok (.invokevirtual 50, 3) := by decide +kernel
theorem dX1_addProduct_56 : decode cX1_addProduct 56 = .ok (.iinc 7 1, 3) := by decide +kernel
theorem dX1_addProduct_59 : decode cX1_addProduct 59 = .ok (.goto (-43), 3) := by decide +kernel
theorem dX1_addProduct_62 : decode cX1_addProduct 62 = .ok (.return_, 1) := by decide +kernel
theorem dX1_addWordProduct_0 : decode cX1_addWordProduct 0 = .ok (.getstatic 54, 3) := by decide +kernel
theorem dX1_addWordProduct_3 : decode cX1_addWordProduct 3 = .ok (.iload_n 3, 1) := by decide +kernel
theorem dX1_addWordProduct_4 : decode cX1_addWordProduct 4 = .ok (.iaload, 1) := by decide +kernel
theorem dX1_addWordProduct_5 : decode cX1_addWordProduct 5 = .ok (.istore 6, 2) := by decide +kernel
theorem dX1_addWordProduct_7 : decode cX1_addWordProduct 7 = .ok (.getstatic 57, 3) := by decide +kernel
theorem dX1_addWordProduct_10 : decode cX1_addWordProduct 10 = .ok (.iload_n 3, 1) := by decide +kernel
theorem dX1_addWordProduct_11 : decode cX1_addWordProduct 11 = .ok (.iaload, 1) := by decide +kernel
theorem dX1_addWordProduct_12 : decode cX1_addWordProduct 12 = .ok (.istore 7, 2) := by decide +kernel
theorem dX1_addWordProduct_14 : decode cX1_addWordProduct 14 = .ok (.iconst 0, 1) := by decide +kernel
theorem dX1_addWordProduct_15 : decode cX1_addWordProduct 15 = .ok (.istore 8, 2) := by decide +kernel
theorem dX1_addWordProduct_17 : decode cX1_addWordProduct 17 = .ok (.iload 8, 2) := by decide +kernel
theorem dX1_addWordProduct_19 : decode cX1_addWordProduct 19 = .ok (.iload 5, 2) := by decide +kernel
theorem dX1_addWordProduct_21 : decode cX1_addWordProduct 21 = .ok (.if_icmp .ge 178, 3) := by decide +kernel
theorem dX1_addWordProduct_24 : decode cX1_addWordProduct 24 = .ok (.getstatic 54, 3) := by decide +kernel
theorem dX1_addWordProduct_27 : decode cX1_addWordProduct 27 = .ok (.iload 8, 2) := by decide +kernel
theorem dX1_addWordProduct_29 : decode cX1_addWordProduct 29 = .ok (.iaload, 1) := by decide +kernel
theorem dX1_addWordProduct_30 : decode cX1_addWordProduct 30 = .ok (.istore 9, 2) := by decide +kernel
theorem dX1_addWordProduct_32 : decode cX1_addWordProduct 32 = .ok (.iload 7, 2) := by decide +kernel
theorem dX1_addWordProduct_34 : decode cX1_addWordProduct 34 = .ok (.getstatic 57, 3) := by decide +kernel
theorem dX1_addWordProduct_37 : decode cX1_addWordProduct 37 = .ok (.iload 8, 2) := by decide +kernel
theorem dX1_addWordProduct_39 : decode cX1_addWordProduct 39 = .ok (.iaload, 1) := by decide +kernel
theorem dX1_addWordProduct_40 : decode cX1_addWordProduct 40 = .ok (.iadd, 1) := by decide +kernel
theorem dX1_addWordProduct_41 : decode cX1_addWordProduct 41 = .ok (.istore 10, 2) := by decide +kernel
theorem dX1_addWordProduct_43 : decode cX1_addWordProduct 43 = .ok (.iload_n 2, 1) := by decide +kernel
theorem dX1_addWordProduct_44 : decode cX1_addWordProduct 44 = .ok (.aload 4, 2) := by decide +kernel
theorem dX1_addWordProduct_46 : decode cX1_addWordProduct 46 = .ok (.getfield 46, 3) := by decide +kernel
theorem dX1_addWordProduct_49 : decode cX1_addWordProduct 49 = .ok (.iload 8, 2) := by decide +kernel
theorem dX1_addWordProduct_51 : decode cX1_addWordProduct 51 = .ok (.iaload, 1) := by decide +kernel
theorem dX1_addWordProduct_52 : decode cX1_addWordProduct 52 = .ok (.imul, 1) := by decide +kernel
theorem dX1_addWordProduct_53 : decode cX1_addWordProduct 53 = .ok (.sipush 10007, 3) := by decide +kernel
theorem dX1_addWordProduct_56 : decode cX1_addWordProduct 56 = .ok (.irem, 1) := by decide +kernel
theorem dX1_addWordProduct_57 : decode cX1_addWordProduct 57 = .ok (.istore 11, 2) := by decide +kernel
theorem dX1_addWordProduct_59 : decode cX1_addWordProduct 59 = .ok (.iload 11, 2) := by decide +kernel
theorem dX1_addWordProduct_61 : decode cX1_addWordProduct 61 = .ok (.ifCond .eq 16, 3) := by decide +kernel
theorem dX1_addWordProduct_64 : decode cX1_addWordProduct 64 = .ok (.iload 6, 2) := by decide +kernel
theorem dX1_addWordProduct_66 : decode cX1_addWordProduct 66 = .ok (.iload 9, 2) := by decide +kernel
theorem dX1_addWordProduct_68 : decode cX1_addWordProduct 68 = .ok (.iadd, 1) := by decide +kernel
theorem dX1_addWordProduct_69 : decode cX1_addWordProduct 69 = .ok (.iload 10, 2) := by decide +kernel
theorem dX1_addWordProduct_71 : decode cX1_addWordProduct 71 = .ok (.iadd, 1) := by decide +kernel
theorem dX1_addWordProduct_72 : decode cX1_addWordProduct 72 = .ok (.bipush 12, 2) := by decide +kernel
theorem dX1_addWordProduct_74 : decode cX1_addWordProduct 74 = .ok (.if_icmp .le 7, 3) := by decide +kernel
theorem dX1_addWordProduct_77 : decode cX1_addWordProduct 77 = .ok (.iconst (-1), 1) := by decide +kernel
theorem dX1_addWordProduct_78 : decode cX1_addWordProduct 78 = .ok (.goto 10, 3) := by decide +kernel
theorem dX1_addWordProduct_81 : decode cX1_addWordProduct 81 = .ok (.iload 7, 2) := by decide +kernel
theorem dX1_addWordProduct_83 : decode cX1_addWordProduct 83 = .ok (.iload 9, 2) := by decide +kernel
theorem dX1_addWordProduct_85 : decode cX1_addWordProduct 85 = .ok (.invokestatic 26, 3) := by decide +kernel
theorem dX1_addWordProduct_88 : decode cX1_addWordProduct 88 = .ok (.istore 12, 2) := by decide +kernel
theorem dX1_addWordProduct_90 : decode cX1_addWordProduct 90 = .ok (.iconst 0, 1) := by decide +kernel
theorem dX1_addWordProduct_91 : decode cX1_addWordProduct 91 = .ok (.istore 13, 2) := by decide +kernel
theorem dX1_addWordProduct_93 : decode cX1_addWordProduct 93 = .ok (.iload 13, 2) := by decide +kernel
theorem dX1_addWordProduct_95 : decode cX1_addWordProduct 95 = .ok (.iload 12, 2) := by decide +kernel
theorem dX1_addWordProduct_97 : decode cX1_addWordProduct 97 = .ok (.if_icmp .gt 96, 3) := by decide +kernel
theorem dX1_addWordProduct_100 : decode cX1_addWordProduct 100 = .ok (.iload 6, 2) := by decide +kernel
theorem dX1_addWordProduct_102 : decode cX1_addWordProduct 102 = .ok (.iload 9, 2) := by decide +kernel
theorem dX1_addWordProduct_104 : decode cX1_addWordProduct 104 = .ok (.iadd, 1) := by decide +kernel
theorem dX1_addWordProduct_105 : decode cX1_addWordProduct 105 = .ok (.iload 10, 2) := by decide +kernel
theorem dX1_addWordProduct_107 : decode cX1_addWordProduct 107 = .ok (.iadd, 1) := by decide +kernel
theorem dX1_addWordProduct_108 : decode cX1_addWordProduct 108 = .ok (.iconst 2, 1) := by decide +kernel
theorem dX1_addWordProduct_109 : decode cX1_addWordProduct 109 = .ok (.iload 13, 2) := by decide +kernel
theorem dX1_addWordProduct_111 : decode cX1_addWordProduct 111 = .ok (.imul, 1) := by decide +kernel
theorem dX1_addWordProduct_112 : decode cX1_addWordProduct 112 = .ok (.isub, 1) := by decide +kernel
theorem dX1_addWordProduct_113 : decode cX1_addWordProduct 113 = .ok (.istore 14, 2) := by decide +kernel
theorem dX1_addWordProduct_115 : decode cX1_addWordProduct 115 = .ok (.iload 14, 2) := by decide +kernel
theorem dX1_addWordProduct_117 : decode cX1_addWordProduct 117 = .ok (.iload 14, 2) := by decide +kernel
theorem dX1_addWordProduct_119 : decode cX1_addWordProduct 119 = .ok (.iconst 1, 1) := by decide +kernel
theorem dX1_addWordProduct_120 : decode cX1_addWordProduct 120 = .ok (.iadd, 1) := by decide +kernel
theorem dX1_addWordProduct_121 : decode cX1_addWordProduct 121 = .ok (.imul, 1) := by decide +kernel
theorem dX1_addWordProduct_122 : decode cX1_addWordProduct 122 = .ok (.iconst 2, 1) := by decide +kernel
theorem dX1_addWordProduct_123 : decode cX1_addWordProduct 123 = .ok (.idiv, 1) := by decide +kernel
theorem dX1_addWordProduct_124 : decode cX1_addWordProduct 124 = .ok (.iload 10, 2) := by decide +kernel
theorem dX1_addWordProduct_126 : decode cX1_addWordProduct 126 = .ok (.iadd, 1) := by decide +kernel
theorem dX1_addWordProduct_127 : decode cX1_addWordProduct 127 = .ok (.iload 13, 2) := by decide +kernel
theorem dX1_addWordProduct_129 : decode cX1_addWordProduct 129 = .ok (.isub, 1) := by decide +kernel
theorem dX1_addWordProduct_130 : decode cX1_addWordProduct 130 = .ok (.istore 15, 2) := by decide +kernel
theorem dX1_addWordProduct_132 : decode cX1_addWordProduct 132 = .ok (.iload 11, 2) := by decide +kernel
theorem dX1_addWordProduct_134 : decode cX1_addWordProduct 134 = .ok (.aload_n 0, 1) := by decide +kernel
theorem dX1_addWordProduct_135 : decode cX1_addWordProduct 135 = .ok (.getfield 11, 3) := by decide +kernel
theorem dX1_addWordProduct_138 : decode cX1_addWordProduct 138 = .ok (.iload 7, 2) := by decide +kernel
theorem dX1_addWordProduct_140 : decode cX1_addWordProduct 140 = .ok (.aaload, 1) := by decide +kernel
theorem dX1_addWordProduct_141 : decode cX1_addWordProduct 141 = .ok (.iload 13, 2) := by decide +kernel
theorem dX1_addWordProduct_143 : decode cX1_addWordProduct 143 = .ok (.iaload, 1) := by decide +kernel
theorem dX1_addWordProduct_144 : decode cX1_addWordProduct 144 = .ok (.aload_n 0, 1) := by decide +kernel
theorem dX1_addWordProduct_145 : decode cX1_addWordProduct 145 = .ok (.getfield 16, 3) := by decide +kernel
theorem dX1_addWordProduct_148 : decode cX1_addWordProduct 148 = .ok (.iload 9, 2) := by decide +kernel
theorem dX1_addWordProduct_150 : decode cX1_addWordProduct 150 = .ok (.aaload, 1) := by decide +kernel
theorem dX1_addWordProduct_151 : decode cX1_addWordProduct 151 = .ok (.iload 13, 2) := by decide +kernel
theorem dX1_addWordProduct_153 : decode cX1_addWordProduct 153 = .ok (.iaload, 1) := by decide +kernel
theorem dX1_addWordProduct_154 : decode cX1_addWordProduct 154 = .ok (.imul, 1) := by decide +kernel
theorem dX1_addWordProduct_155 : decode cX1_addWordProduct 155 = .ok (.sipush 10007, 3) := by decide +kernel
theorem dX1_addWordProduct_158 : decode cX1_addWordProduct 158 = .ok (.irem, 1) := by decide +kernel
theorem dX1_addWordProduct_159 : decode cX1_addWordProduct 159 = .ok (.imul, 1) := by decide +kernel
theorem dX1_addWordProduct_160 : decode cX1_addWordProduct 160 = .ok (.sipush 10007, 3) := by decide +kernel
theorem dX1_addWordProduct_163 : decode cX1_addWordProduct 163 = .ok (.irem, 1) := by decide +kernel
theorem dX1_addWordProduct_164 : decode cX1_addWordProduct 164 = .ok (.istore 16, 2) := by decide +kernel
theorem dX1_addWordProduct_166 : decode cX1_addWordProduct 166 = .ok (.aload_n 1, 1) := by decide +kernel
theorem dX1_addWordProduct_167 : decode cX1_addWordProduct 167 = .ok (.getfield 46, 3) := by decide +kernel
theorem dX1_addWordProduct_170 : decode cX1_addWordProduct 170 = .ok (.iload 15, 2) := by decide +kernel
theorem dX1_addWordProduct_172 : decode cX1_addWordProduct 172 = .ok (.aload_n 1, 1) := by decide +kernel
theorem dX1_addWordProduct_173 : decode cX1_addWordProduct 173 = .ok (.getfield 46, 3) := by decide +kernel
theorem dX1_addWordProduct_176 : decode cX1_addWordProduct 176 = .ok (.iload 15, 2) := by decide +kernel
theorem dX1_addWordProduct_178 : decode cX1_addWordProduct 178 = .ok (.iaload, 1) := by decide +kernel
theorem dX1_addWordProduct_179 : decode cX1_addWordProduct 179 = .ok (.iload 16, 2) := by decide +kernel
theorem dX1_addWordProduct_181 : decode cX1_addWordProduct 181 = .ok (.iadd, 1) := by decide +kernel
theorem dX1_addWordProduct_182 : decode cX1_addWordProduct 182 = .ok (.sipush 10007, 3) := by decide +kernel
theorem dX1_addWordProduct_185 : decode cX1_addWordProduct 185 = .ok (.irem, 1) := by decide +kernel
theorem dX1_addWordProduct_186 : decode cX1_addWordProduct 186 = .ok (.iastore, 1) := by decide +kernel
theorem dX1_addWordProduct_187 : decode cX1_addWordProduct 187 = .ok (.iinc 13 1, 3) := by decide +kernel
theorem dX1_addWordProduct_190 : decode cX1_addWordProduct 190 = .ok (.goto (-97), 3) := by decide +kernel
theorem dX1_addWordProduct_193 : decode cX1_addWordProduct 193 = .ok (.iinc 8 1, 3) := by decide +kernel
theorem dX1_addWordProduct_196 : decode cX1_addWordProduct 196 = .ok (.goto (-179), 3) := by decide +kernel
theorem dX1_addWordProduct_199 : decode cX1_addWordProduct 199 = .ok (.return_, 1) := by decide +kernel
theorem dX1_raise_0 : decode cX1_raise 0 = .ok (.aload_n 1, 1) := by decide +kernel
theorem dX1_raise_1 : decode cX1_raise 1 = .ok (.iconst 1, 1) := by decide +kernel
theorem dX1_raise_2 : decode cX1_raise 2 = .ok (.invokevirtual 60, 3) := by decide +kernel
theorem dX1_raise_5 : decode cX1_raise 5 = .ok (.iconst 0, 1) := by decide +kernel
theorem dX1_raise_6 : decode cX1_raise 6 = .ok (.istore 4, 2) := by decide +kernel
theorem dX1_raise_8 : decode cX1_raise 8 = .ok (.iload 4, 2) := by decide +kernel
theorem dX1_raise_10 : decode cX1_raise 10 = .ok (.iload_n 3, 1) := by decide +kernel
theorem dX1_raise_11 : decode cX1_raise 11 = .ok (.if_icmp .ge 35, 3) := by decide +kernel
theorem dX1_raise_14 : decode cX1_raise 14 = .ok (.aload_n 0, 1) := by decide +kernel
theorem dX1_raise_15 : decode cX1_raise 15 = .ok (.getfield 22, 3) := by decide +kernel
theorem dX1_raise_18 : decode cX1_raise 18 = .ok (.invokevirtual 64, 3) := by decide +kernel
theorem dX1_raise_21 : decode cX1_raise 21 = .ok (.aload_n 0, 1) := by decide +kernel
theorem dX1_raise_22 : decode cX1_raise 22 = .ok (.aload_n 0, 1) := by decide +kernel
theorem dX1_raise_23 : decode cX1_raise 23 = .ok (.getfield 22, 3) := by decide +kernel
theorem dX1_raise_26 : decode cX1_raise 26 = .ok (.iconst 1, 1) := by decide +kernel
theorem dX1_raise_27 : decode cX1_raise 27 = .ok (.aload_n 2, 1) := by decide +kernel
theorem dX1_raise_28 : decode cX1_raise 28 = .ok (.aload_n 1, 1) := by decide +kernel
theorem dX1_raise_29 : decode cX1_raise 29 = .ok (.invokevirtual 67, 3) := by decide +kernel
theorem dX1_raise_32 : decode cX1_raise 32 = .ok (.aload_n 1, 1) := by decide +kernel
theorem dX1_raise_33 : decode cX1_raise 33 = .ok (.aload_n 0, 1) := by decide +kernel
theorem dX1_raise_34 : decode cX1_raise 34 = .ok (.getfield 22, 3) := by decide +kernel
theorem dX1_raise_37 : decode cX1_raise 37 = .ok (.invokevirtual 71, 3) := by decide +kernel
theorem dX1_raise_40 : decode cX1_raise 40 = .ok (.iinc 4 1, 3) := by decide +kernel
theorem dX1_raise_43 : decode cX1_raise 43 = .ok (.goto (-35), 3) := by decide +kernel
theorem dX1_raise_46 : decode cX1_raise 46 = .ok (.return_, 1) := by decide +kernel
theorem dX1_adjoin_0 : decode cX1_adjoin 0 = .ok (.aload_n 1, 1) := by decide +kernel
theorem dX1_adjoin_1 : decode cX1_adjoin 1 = .ok (.invokevirtual 64, 3) := by decide +kernel
theorem dX1_adjoin_4 : decode cX1_adjoin 4 = .ok (.iconst 0, 1) := by decide +kernel
theorem dX1_adjoin_5 : decode cX1_adjoin 5 = .ok (.istore_n 3, 1) := by decide +kernel
theorem dX1_adjoin_6 : decode cX1_adjoin 6 = .ok (.iload_n 3, 1) := by decide +kernel
theorem dX1_adjoin_7 : decode cX1_adjoin 7 = .ok (.bipush 12, 2) := by decide +kernel
theorem dX1_adjoin_9 : decode cX1_adjoin 9 = .ok (.if_icmp .gt 89, 3) := by decide +kernel
theorem dX1_adjoin_12 : decode cX1_adjoin 12 = .ok (.aload_n 0, 1) := by decide +kernel
theorem dX1_adjoin_13 : decode cX1_adjoin 13 = .ok (.getfield 22, 3) := by decide +kernel
theorem dX1_adjoin_16 : decode cX1_adjoin 16 = .ok (.invokevirtual 64, 3) := by decide +kernel
theorem dX1_adjoin_19 : decode cX1_adjoin 19 = .ok (.iconst 0, 1) := by decide +kernel
theorem dX1_adjoin_20 : decode cX1_adjoin 20 = .ok (.istore 4, 2) := by decide +kernel
theorem dX1_adjoin_22 : decode cX1_adjoin 22 = .ok (.iload 4, 2) := by decide +kernel
theorem dX1_adjoin_24 : decode cX1_adjoin 24 = .ok (.iload_n 3, 1) := by decide +kernel
theorem dX1_adjoin_25 : decode cX1_adjoin 25 = .ok (.iadd, 1) := by decide +kernel
theorem dX1_adjoin_26 : decode cX1_adjoin 26 = .ok (.bipush 12, 2) := by decide +kernel
theorem dX1_adjoin_28 : decode cX1_adjoin 28 = .ok (.if_icmp .gt 26, 3) := by decide +kernel
theorem dX1_adjoin_31 : decode cX1_adjoin 31 = .ok (.aload_n 0, 1) := by decide +kernel
theorem dX1_adjoin_32 : decode cX1_adjoin 32 = .ok (.getfield 22, 3) := by decide +kernel
theorem dX1_adjoin_35 : decode cX1_adjoin 35 = .ok (.iload 4, 2) := by decide +kernel
theorem dX1_adjoin_37 : decode cX1_adjoin 37 = .ok (.iconst 0, 1) := by decide +kernel
theorem dX1_adjoin_38 : decode cX1_adjoin 38 = .ok (.aload_n 2, 1) := by decide +kernel
theorem dX1_adjoin_39 : decode cX1_adjoin 39 = .ok (.iload 4, 2) := by decide +kernel
theorem dX1_adjoin_41 : decode cX1_adjoin 41 = .ok (.iload_n 3, 1) := by decide +kernel
theorem dX1_adjoin_42 : decode cX1_adjoin 42 = .ok (.invokevirtual 75, 3) := by decide +kernel
theorem dX1_adjoin_45 : decode cX1_adjoin 45 = .ok (.invokevirtual 78, 3) := by decide +kernel
theorem dX1_adjoin_48 : decode cX1_adjoin 48 = .ok (.iinc 4 1, 3) := by decide +kernel
theorem dX1_adjoin_51 : decode cX1_adjoin 51 = .ok (.goto (-29), 3) := by decide +kernel
theorem dX1_adjoin_54 : decode cX1_adjoin 54 = .ok (.iload_n 3, 1) := by decide +kernel
theorem dX1_adjoin_55 : decode cX1_adjoin 55 = .ok (.iconst 2, 1) := by decide +kernel
theorem dX1_adjoin_56 : decode cX1_adjoin 56 = .ok (.irem, 1) := by decide +kernel
theorem dX1_adjoin_57 : decode cX1_adjoin 57 = .ok (.ifCond .ne 7, 3) := by decide +kernel
theorem dX1_adjoin_60 : decode cX1_adjoin 60 = .ok (.iconst 1, 1) := by decide +kernel
theorem dX1_adjoin_61 : decode cX1_adjoin 61 = .ok (.goto 6, 3) := by decide +kernel
theorem dX1_adjoin_64 : decode cX1_adjoin 64 = .ok (.sipush 10006, 3) := by decide +kernel
theorem dX1_adjoin_67 : decode cX1_adjoin 67 = .ok (.istore 4, 2) := by decide +kernel
theorem dX1_adjoin_69 : decode cX1_adjoin 69 = .ok (.aload_n 0, 1) := by decide +kernel
theorem dX1_adjoin_70 : decode cX1_adjoin 70 = .ok (.aload_n 1, 1) := by decide +kernel
theorem dX1_adjoin_71 : decode cX1_adjoin 71 = .ok (.iload 4, 2) := by decide +kernel
theorem dX1_adjoin_73 : decode cX1_adjoin 73 = .ok (.iconst 0, 1) := by decide +kernel
theorem dX1_adjoin_74 : decode cX1_adjoin 74 = .ok (.iload_n 3, 1) := by decide +kernel
theorem dX1_adjoin_75 : decode cX1_adjoin 75 = .ok (.invokestatic 82, 3) := by decide +kernel
theorem dX1_adjoin_78 : decode cX1_adjoin 78 = .ok (.aload_n 0, 1) := by decide +kernel
theorem dX1_adjoin_79 : decode cX1_adjoin 79 = .ok (.getfield 22, 3) := by decide +kernel
theorem dX1_adjoin_82 : decode cX1_adjoin 82 = .ok (.aload_n 0, 1) := by decide +kernel
theorem dX1_adjoin_83 : decode cX1_adjoin 83 = .ok (.getfield 22, 3) := by decide +kernel
theorem dX1_adjoin_86 : decode cX1_adjoin 86 = .ok (.invokevirtual 43, 3) := by decide +kernel
theorem dX1_adjoin_89 : decode cX1_adjoin 89 = .ok (.invokevirtual 50, 3) := by decide +kernel
theorem dX1_adjoin_92 : decode cX1_adjoin 92 = .ok (.iinc 3 1, 3) := by decide +kernel
theorem dX1_adjoin_95 : decode cX1_adjoin 95 = .ok (.goto (-89), 3) := by decide +kernel
theorem dX1_adjoin_98 : decode cX1_adjoin 98 = .ok (.return_, 1) := by decide +kernel
theorem dX2_init_0 : decode cX2_init 0 = .ok (.aload_n 0, 1) := by decide +kernel
theorem dX2_init_1 : decode cX2_init 1 = .ok (.invokespecial 3, 3) := by decide +kernel
theorem dX2_init_4 : decode cX2_init 4 = .ok (.aload_n 0, 1) := by decide +kernel
theorem dX2_init_5 : decode cX2_init 5 = .ok (.iconst 4, 1) := by decide +kernel
theorem dX2_init_6 : decode cX2_init 6 = .ok (.anewarray 11, 3) := by decide +kernel
theorem dX2_init_9 : decode cX2_init 9 = .ok (.putfield 13, 3) := by decide +kernel
theorem dX2_init_12 : decode cX2_init 12 = .ok (.aload_n 0, 1) := by decide +kernel
theorem dX2_init_13 : decode cX2_init 13 = .ok (.iconst 4, 1) := by decide +kernel
theorem dX2_init_14 : decode cX2_init 14 = .ok (.newarray .int, 2) := by decide +kernel
theorem dX2_init_16 : decode cX2_init 16 = .ok (.putfield 17, 3) := by decide +kernel
theorem dX2_init_19 : decode cX2_init 19 = .ok (.aload_n 0, 1) := by decide +kernel
theorem dX2_init_20 : decode cX2_init 20 = .ok (.iconst 4, 1) := by decide +kernel
theorem dX2_init_21 : decode cX2_init 21 = .ok (.newarray .int, 2) := by decide +kernel
theorem dX2_init_23 : decode cX2_init 23 = .ok (.putfield 21, 3) := by decide +kernel
theorem dX2_init_26 : decode cX2_init 26 = .ok (.aload_n 0, 1) := by decide +kernel
theorem dX2_init_27 : decode cX2_init 27 = .ok (.bipush 60, 2) := by decide +kernel
theorem dX2_init_29 : decode cX2_init 29 = .ok (.newarray .int, 2) := by decide +kernel
theorem dX2_init_31 : decode cX2_init 31 = .ok (.putfield 24, 3) := by decide +kernel
theorem dX2_init_34 : decode cX2_init 34 = .ok (.aload_n 0, 1) := by decide +kernel
theorem dX2_init_35 : decode cX2_init 35 = .ok (.iconst (-1), 1) := by decide +kernel
theorem dX2_init_36 : decode cX2_init 36 = .ok (.putfield 27, 3) := by decide +kernel
theorem dX2_init_39 : decode cX2_init 39 = .ok (.aload_n 0, 1) := by decide +kernel
theorem dX2_init_40 : decode cX2_init 40 = .ok (.iconst 0, 1) := by decide +kernel
theorem dX2_init_41 : decode cX2_init 41 = .ok (.putfield 31, 3) := by decide +kernel
theorem dX2_init_44 : decode cX2_init 44 = .ok (.iconst 0, 1) := by decide +kernel
theorem dX2_init_45 : decode cX2_init 45 = .ok (.istore_n 1, 1) := by decide +kernel
theorem dX2_init_46 : decode cX2_init 46 = .ok (.iload_n 1, 1) := by decide +kernel
theorem dX2_init_47 : decode cX2_init 47 = .ok (.iconst 4, 1) := by decide +kernel
theorem dX2_init_48 : decode cX2_init 48 = .ok (.if_icmp .ge 22, 3) := by decide +kernel
theorem dX2_init_51 : decode cX2_init 51 = .ok (.aload_n 0, 1) := by decide +kernel
theorem dX2_init_52 : decode cX2_init 52 = .ok (.getfield 13, 3) := by decide +kernel
theorem dX2_init_55 : decode cX2_init 55 = .ok (.iload_n 1, 1) := by decide +kernel
theorem dX2_init_56 : decode cX2_init 56 = .ok (.new 11, 3) := by decide +kernel
theorem dX2_init_59 : decode cX2_init 59 = .ok (.dup, 1) := by decide +kernel
theorem dX2_init_60 : decode cX2_init 60 = .ok (.invokespecial 34, 3) := by decide +kernel
theorem dX2_init_63 : decode cX2_init 63 = .ok (.aastore, 1) := by decide +kernel
theorem dX2_init_64 : decode cX2_init 64 = .ok (.iinc 1 1, 3) := by decide +kernel
theorem dX2_init_67 : decode cX2_init 67 = .ok (.goto (-21), 3) := by decide +kernel
theorem dX2_init_70 : decode cX2_init 70 = .ok (.return_, 1) := by decide +kernel
theorem dX2_covers_0 : decode cX2_covers 0 = .ok (.iconst 0, 1) := by decide +kernel
theorem dX2_covers_1 : decode cX2_covers 1 = .ok (.istore_n 3, 1) := by decide +kernel
theorem dX2_covers_2 : decode cX2_covers 2 = .ok (.iload_n 3, 1) := by decide +kernel
theorem dX2_covers_3 : decode cX2_covers 3 = .ok (.aload_n 0, 1) := by decide +kernel
theorem dX2_covers_4 : decode cX2_covers 4 = .ok (.getfield 31, 3) := by decide +kernel
theorem dX2_covers_7 : decode cX2_covers 7 = .ok (.if_icmp .ge 31, 3) := by decide +kernel
theorem dX2_covers_10 : decode cX2_covers 10 = .ok (.aload_n 0, 1) := by decide +kernel
theorem dX2_covers_11 : decode cX2_covers 11 = .ok (.getfield 17, 3) := by decide +kernel
theorem dX2_covers_14 : decode cX2_covers 14 = .ok (.iload_n 3, 1) := by decide +kernel
theorem dX2_covers_15 : decode cX2_covers 15 = .ok (.iaload, 1) := by decide +kernel
theorem dX2_covers_16 : decode cX2_covers 16 = .ok (.iload_n 1, 1) := by decide +kernel
theorem dX2_covers_17 : decode cX2_covers 17 = .ok (.if_icmp .gt 15, 3) := by decide +kernel
theorem dX2_covers_20 : decode cX2_covers 20 = .ok (.aload_n 0, 1) := by decide +kernel
theorem dX2_covers_21 : decode cX2_covers 21 = .ok (.getfield 21, 3) := by decide +kernel
theorem dX2_covers_24 : decode cX2_covers 24 = .ok (.iload_n 3, 1) := by decide +kernel
theorem dX2_covers_25 : decode cX2_covers 25 = .ok (.iaload, 1) := by decide +kernel
theorem dX2_covers_26 : decode cX2_covers 26 = .ok (.iload_n 2, 1) := by decide +kernel
theorem dX2_covers_27 : decode cX2_covers 27 = .ok (.if_icmp .gt 5, 3) := by decide +kernel
theorem dX2_covers_30 : decode cX2_covers 30 = .ok (.iconst 1, 1) := by decide +kernel
theorem dX2_covers_31 : decode cX2_covers 31 = .ok (.ireturn, 1) := by decide +kernel
theorem dX2_covers_32 : decode cX2_covers 32 = .ok (.iinc 3 1, 3) := by decide +kernel
theorem dX2_covers_35 : decode cX2_covers 35 = .ok (.goto (-33), 3) := by decide +kernel
theorem dX2_covers_38 : decode cX2_covers 38 = .ok (.iconst 0, 1) := by decide +kernel
theorem dX2_covers_39 : decode cX2_covers 39 = .ok (.ireturn, 1) := by decide +kernel
theorem dX2_isFor_0 : decode cX2_isFor 0 = .ok (.aload_n 0, 1) := by decide +kernel
theorem dX2_isFor_1 : decode cX2_isFor 1 = .ok (.getfield 27, 3) := by decide +kernel
theorem dX2_isFor_4 : decode cX2_isFor 4 = .ok (.aload_n 1, 1) := by decide +kernel
theorem dX2_isFor_5 : decode cX2_isFor 5 = .ok (.getfield 35, 3) := by decide +kernel
theorem dX2_isFor_8 : decode cX2_isFor 8 = .ok (.if_icmp .eq 5, 3) := by decide +kernel
theorem dX2_isFor_11 : decode cX2_isFor 11 = .ok (.iconst 0, 1) := by decide +kernel
theorem dX2_isFor_12 : decode cX2_isFor 12 = .ok (.ireturn, 1) := by decide +kernel
theorem dX2_isFor_13 : decode cX2_isFor 13 = .ok (.iconst 0, 1) := by decide +kernel
theorem dX2_isFor_14 : decode cX2_isFor 14 = .ok (.istore_n 3, 1) := by decide +kernel
theorem dX2_isFor_15 : decode cX2_isFor 15 = .ok (.iload_n 3, 1) := by decide +kernel
theorem dX2_isFor_16 : decode cX2_isFor 16 = .ok (.bipush 6, 2) := by decide +kernel
theorem dX2_isFor_18 : decode cX2_isFor 18 = .ok (.if_icmp .ge 50, 3) := by decide +kernel
theorem dX2_isFor_21 : decode cX2_isFor 21 = .ok (.iconst 0, 1) := by decide +kernel
theorem dX2_isFor_22 : decode cX2_isFor 22 = .ok (.istore 4, 2) := by decide +kernel
theorem dX2_isFor_24 : decode cX2_isFor 24 = .ok (.iload 4, 2) := by decide +kernel
theorem dX2_isFor_26 : decode cX2_isFor 26 = .ok (.bipush 10, 2) := by decide +kernel
theorem dX2_isFor_28 : decode cX2_isFor 28 = .ok (.if_icmp .ge 34, 3) := by decide +kernel
theorem dX2_isFor_31 : decode cX2_isFor 31 = .ok (.aload_n 0, 1) := by decide +kernel
theorem dX2_isFor_32 : decode cX2_isFor 32 = .ok (.getfield 24, 3) := by decide +kernel
theorem dX2_isFor_35 : decode cX2_isFor 35 = .ok (.iload_n 3, 1) := by decide +kernel
theorem dX2_isFor_36 : decode cX2_isFor 36 = .ok (.bipush 10, 2) := by decide +kernel
theorem dX2_isFor_38 : decode cX2_isFor 38 = .ok (.imul, 1) := by decide +kernel
theorem dX2_isFor_39 : decode cX2_isFor 39 = .ok (.iload 4, 2) := by decide +kernel
theorem dX2_isFor_41 : decode cX2_isFor 41 = .ok (.iadd, 1) := by decide +kernel
theorem dX2_isFor_42 : decode cX2_isFor 42 = .ok (.iaload, 1) := by decide +kernel
theorem dX2_isFor_43 : decode cX2_isFor 43 = .ok (.aload_n 1, 1) := by decide +kernel
theorem dX2_isFor_44 : decode cX2_isFor 44 = .ok (.iload_n 2, 1) := by decide +kernel
theorem dX2_isFor_45 : decode cX2_isFor 45 = .ok (.iload_n 3, 1) := by decide +kernel
theorem dX2_isFor_46 : decode cX2_isFor 46 = .ok (.iload 4, 2) := by decide +kernel
theorem dX2_isFor_48 : decode cX2_isFor 48 = .ok (.invokestatic 40, 3) := by decide +kernel
theorem dX2_isFor_51 : decode cX2_isFor 51 = .ok (.if_icmp .eq 5, 3) := by decide +kernel
theorem dX2_isFor_54 : decode cX2_isFor 54 = .ok (.iconst 0, 1) := by decide +kernel
theorem dX2_isFor_55 : decode cX2_isFor 55 = .ok (.ireturn, 1) := by decide +kernel
theorem dX2_isFor_56 : decode cX2_isFor 56 = .ok (.iinc 4 1, 3) := by decide +kernel
theorem dX2_isFor_59 : decode cX2_isFor 59 = .ok (.goto (-35), 3) := by decide +kernel
theorem dX2_isFor_62 : decode cX2_isFor 62 = .ok (.iinc 3 1, 3) := by decide +kernel
theorem dX2_isFor_65 : decode cX2_isFor 65 = .ok (.goto (-50), 3) := by decide +kernel
theorem dX2_isFor_68 : decode cX2_isFor 68 = .ok (.iconst 1, 1) := by decide +kernel
theorem dX2_isFor_69 : decode cX2_isFor 69 = .ok (.ireturn, 1) := by decide +kernel
theorem dX2_begin_0 : decode cX2_begin 0 = .ok (.aload_n 0, 1) := by decide +kernel
theorem dX2_begin_1 : decode cX2_begin 1 = .ok (.aload_n 1, 1) := by decide +kernel
theorem dX2_begin_2 : decode cX2_begin 2 = .ok (.getfield 35, 3) := by decide +kernel
theorem dX2_begin_5 : decode cX2_begin 5 = .ok (.putfield 27, 3) := by decide +kernel
theorem dX2_begin_8 : decode cX2_begin 8 = .ok (.aload_n 0, 1) := by decide +kernel
theorem dX2_begin_9 : decode cX2_begin 9 = .ok (.iconst 0, 1) := by decide +kernel
theorem dX2_begin_10 : decode cX2_begin 10 = .ok (.putfield 31, 3) := by decide +kernel
theorem dX2_begin_13 : decode cX2_begin 13 = .ok (.iconst 0, 1) := by decide +kernel
theorem dX2_begin_14 : decode cX2_begin 14 = .ok (.istore_n 3, 1) := by decide +kernel
theorem dX2_begin_15 : decode cX2_begin 15 = .ok (.iload_n 3, 1) := by decide +kernel
theorem dX2_begin_16 : decode cX2_begin 16 = .ok (.bipush 6, 2) := by decide +kernel
theorem dX2_begin_18 : decode cX2_begin 18 = .ok (.if_icmp .ge 45, 3) := by decide +kernel
theorem dX2_begin_21 : decode cX2_begin 21 = .ok (.iconst 0, 1) := by decide +kernel
theorem dX2_begin_22 : decode cX2_begin 22 = .ok (.istore 4, 2) := by decide +kernel
theorem dX2_begin_24 : decode cX2_begin 24 = .ok (.iload 4, 2) := by decide +kernel
theorem dX2_begin_26 : decode cX2_begin 26 = .ok (.bipush 10, 2) := by decide +kernel
theorem dX2_begin_28 : decode cX2_begin 28 = .ok (.if_icmp .ge 29, 3) := by decide +kernel
theorem dX2_begin_31 : decode cX2_begin 31 = .ok (.aload_n 0, 1) := by decide +kernel
theorem dX2_begin_32 : decode cX2_begin 32 = .ok (.getfield 24, 3) := by decide +kernel
theorem dX2_begin_35 : decode cX2_begin 35 = .ok (.iload_n 3, 1) := by decide +kernel
theorem dX2_begin_36 : decode cX2_begin 36 = .ok (.bipush 10, 2) := by decide +kernel
theorem dX2_begin_38 : decode cX2_begin 38 = .ok (.imul, 1) := by decide +kernel
theorem dX2_begin_39 : decode cX2_begin 39 = .ok (.iload 4, 2) := by decide +kernel
theorem dX2_begin_41 : decode cX2_begin 41 = .ok (.iadd, 1) := by decide +kernel
theorem dX2_begin_42 : decode cX2_begin 42 = .ok (.aload_n 1, 1) := by decide +kernel
theorem dX2_begin_43 : decode cX2_begin 43 = .ok (.iload_n 2, 1) := by decide +kernel
theorem dX2_begin_44 : decode cX2_begin 44 = .ok (.iload_n 3, 1) := by decide +kernel
theorem dX2_begin_45 : decode cX2_begin 45 = .ok (.iload 4, 2) := by decide +kernel
theorem dX2_begin_47 : decode cX2_begin 47 = .ok (.invokestatic 40, 3) := by decide +kernel
theorem dX2_begin_50 : decode cX2_begin 50 = .ok (.iastore, 1) := by decide +kernel
theorem dX2_begin_51 : decode cX2_begin 51 = .ok (.iinc 4 1, 3) := by decide +kernel
theorem dX2_begin_54 : decode cX2_begin 54 = .ok (.goto (-30), 3) := by decide +kernel
theorem dX2_begin_57 : decode cX2_begin 57 = .ok (.iinc 3 1, 3) := by decide +kernel
theorem dX2_begin_60 : decode cX2_begin 60 = .ok (.goto (-45), 3) := by decide +kernel
theorem dX2_begin_63 : decode cX2_begin 63 = .ok (.return_, 1) := by decide +kernel
theorem dX2_add_0 : decode cX2_add 0 = .ok (.aload_n 1, 1) := by decide +kernel
theorem dX2_add_1 : decode cX2_add 1 = .ok (.aload_n 0, 1) := by decide +kernel
theorem dX2_add_2 : decode cX2_add 2 = .ok (.getfield 27, 3) := by decide +kernel
theorem dX2_add_5 : decode cX2_add 5 = .ok (.invokevirtual 44, 3) := by decide +kernel
theorem dX2_add_8 : decode cX2_add 8 = .ok (.istore_n 2, 1) := by decide +kernel
theorem dX2_add_9 : decode cX2_add 9 = .ok (.iload_n 2, 1) := by decide +kernel
theorem dX2_add_10 : decode cX2_add 10 = .ok (.ifCond .lt 11, 3) := by decide +kernel
theorem dX2_add_13 : decode cX2_add 13 = .ok (.aload_n 0, 1) := by decide +kernel
theorem dX2_add_14 : decode cX2_add 14 = .ok (.getfield 31, 3) := by decide +kernel
theorem dX2_add_17 : decode cX2_add 17 = .ok (.iconst 4, 1) := by decide +kernel
theorem dX2_add_18 : decode cX2_add 18 = .ok (.if_icmp .lt 4, 3) := by decide +kernel
theorem dX2_add_21 : decode cX2_add 21 = .ok (.return_, 1) := by decide +kernel
theorem dX2_add_22 : decode cX2_add 22 = .ok (.aload_n 0, 1) := by decide +kernel
theorem dX2_add_23 : decode cX2_add 23 = .ok (.getfield 13, 3) := by decide +kernel
theorem dX2_add_26 : decode cX2_add 26 = .ok (.aload_n 0, 1) := by decide +kernel
theorem dX2_add_27 : decode cX2_add 27 = .ok (.getfield 31, 3) := by decide +kernel
theorem dX2_add_30 : decode cX2_add 30 = .ok (.aaload, 1) := by decide +kernel
theorem dX2_add_31 : decode cX2_add 31 = .ok (.aload_n 1, 1) := by decide +kernel
theorem dX2_add_32 : decode cX2_add 32 = .ok (.invokevirtual 48, 3) := by decide +kernel
theorem dX2_add_35 : decode cX2_add 35 = .ok (.aload_n 0, 1) := by decide +kernel
theorem dX2_add_36 : decode cX2_add 36 = .ok (.getfield 17, 3) := by decide +kernel
theorem dX2_add_39 : decode cX2_add 39 = .ok (.aload_n 0, 1) := by decide +kernel
theorem dX2_add_40 : decode cX2_add 40 = .ok (.getfield 31, 3) := by decide +kernel
theorem dX2_add_43 : decode cX2_add 43 = .ok (.getstatic 52, 3) := by decide +kernel
theorem dX2_add_46 : decode cX2_add 46 = .ok (.iload_n 2, 1) := by decide +kernel
theorem dX2_add_47 : decode cX2_add 47 = .ok (.iaload, 1) := by decide +kernel
theorem dX2_add_48 : decode cX2_add 48 = .ok (.iastore, 1) := by decide +kernel
theorem dX2_add_49 : decode cX2_add 49 = .ok (.aload_n 0, 1) := by decide +kernel
theorem dX2_add_50 : decode cX2_add 50 = .ok (.getfield 21, 3) := by decide +kernel
theorem dX2_add_53 : decode cX2_add 53 = .ok (.aload_n 0, 1) := by decide +kernel
theorem dX2_add_54 : decode cX2_add 54 = .ok (.getfield 31, 3) := by decide +kernel
theorem dX2_add_57 : decode cX2_add 57 = .ok (.getstatic 55, 3) := by decide +kernel
theorem dX2_add_60 : decode cX2_add 60 = .ok (.iload_n 2, 1) := by decide +kernel
theorem dX2_add_61 : decode cX2_add 61 = .ok (.iaload, 1) := by decide +kernel
theorem dX2_add_62 : decode cX2_add 62 = .ok (.iastore, 1) := by decide +kernel
theorem dX2_add_63 : decode cX2_add 63 = .ok (.aload_n 0, 1) := by decide +kernel
theorem dX2_add_64 : decode cX2_add 64 = .ok (.dup, 1) := by decide +kernel
theorem dX2_add_65 : decode cX2_add 65 = .ok (.getfield 31, 3) := by decide +kernel
theorem dX2_add_68 : decode cX2_add 68 = .ok (.iconst 1, 1) := by decide +kernel
theorem dX2_add_69 : decode cX2_add 69 = .ok (.iadd, 1) := by decide +kernel
theorem dX2_add_70 : decode cX2_add 70 = .ok (.putfield 31, 3) := by decide +kernel
theorem dX2_add_73 : decode cX2_add 73 = .ok (.return_, 1) := by decide +kernel
theorem dX2_sourceCell_0 : decode cX2_sourceCell 0 = .ok (.iload_n 1, 1) := by decide +kernel
theorem dX2_sourceCell_1 : decode cX2_sourceCell 1 = .ok (.iload_n 2, 1) := by decide +kernel
theorem dX2_sourceCell_2 : decode cX2_sourceCell 2 = .ok (.invokestatic 58, 3) := by decide +kernel
theorem dX2_sourceCell_5 : decode cX2_sourceCell 5 = .ok (.ifCond .eq 17, 3) := by decide +kernel
theorem dX2_sourceCell_8 : decode cX2_sourceCell 8 = .ok (.aload_n 0, 1) := by decide +kernel
theorem dX2_sourceCell_9 : decode cX2_sourceCell 9 = .ok (.getfield 62, 3) := by decide +kernel
theorem dX2_sourceCell_12 : decode cX2_sourceCell 12 = .ok (.iload_n 2, 1) := by decide +kernel
theorem dX2_sourceCell_13 : decode cX2_sourceCell 13 = .ok (.aaload, 1) := by decide +kernel
theorem dX2_sourceCell_14 : decode cX2_sourceCell 14 = .ok (.getfield 65, 3) := by decide +kernel
theorem dX2_sourceCell_17 : decode cX2_sourceCell 17 = .ok (.iload_n 3, 1) := by decide +kernel
theorem dX2_sourceCell_18 : decode cX2_sourceCell 18 = .ok (.iaload, 1) := by decide +kernel
theorem dX2_sourceCell_19 : decode cX2_sourceCell 19 = .ok (.goto 4, 3) := by decide +kernel
theorem dX2_sourceCell_22 : decode cX2_sourceCell 22 = .ok (.iconst 0, 1) := by decide +kernel
theorem dX2_sourceCell_23 : decode cX2_sourceCell 23 = .ok (.ireturn, 1) := by decide +kernel
theorem dX3_init_0 : decode cX3_init 0 = .ok (.aload_n 0, 1) := by decide +kernel
theorem dX3_init_1 : decode cX3_init 1 = .ok (.invokespecial 3, 3) := by decide +kernel
theorem dX3_init_4 : decode cX3_init 4 = .ok (.aload_n 0, 1) := by decide +kernel
theorem dX3_init_5 : decode cX3_init 5 = .ok (.iconst 4, 1) := by decide +kernel
theorem dX3_init_6 : decode cX3_init 6 = .ok (.anewarray 11, 3) := by decide +kernel
theorem dX3_init_9 : decode cX3_init 9 = .ok (.putfield 13, 3) := by decide +kernel
theorem dX3_init_12 : decode cX3_init 12 = .ok (.aload_n 0, 1) := by decide +kernel
theorem dX3_init_13 : decode cX3_init 13 = .ok (.iconst 0, 1) := by decide +kernel
theorem dX3_init_14 : decode cX3_init 14 = .ok (.putfield 17, 3) := by decide +kernel
theorem dX3_init_17 : decode cX3_init 17 = .ok (.aload_n 0, 1) := by decide +kernel
theorem dX3_init_18 : decode cX3_init 18 = .ok (.bipush 6, 2) := by decide +kernel
theorem dX3_init_20 : decode cX3_init 20 = .ok (.anewarray 21, 3) := by decide +kernel
theorem dX3_init_23 : decode cX3_init 23 = .ok (.putfield 23, 3) := by decide +kernel
theorem dX3_init_26 : decode cX3_init 26 = .ok (.aload_n 0, 1) := by decide +kernel
theorem dX3_init_27 : decode cX3_init 27 = .ok (.bipush 6, 2) := by decide +kernel
theorem dX3_init_29 : decode cX3_init 29 = .ok (.newarray .int, 2) := by decide +kernel
theorem dX3_init_31 : decode cX3_init 31 = .ok (.putfield 27, 3) := by decide +kernel
theorem dX3_init_34 : decode cX3_init 34 = .ok (.aload_n 0, 1) := by decide +kernel
theorem dX3_init_35 : decode cX3_init 35 = .ok (.bipush 6, 2) := by decide +kernel
theorem dX3_init_37 : decode cX3_init 37 = .ok (.newarray .int, 2) := by decide +kernel
theorem dX3_init_39 : decode cX3_init 39 = .ok (.putfield 31, 3) := by decide +kernel
theorem dX3_init_42 : decode cX3_init 42 = .ok (.aload_n 0, 1) := by decide +kernel
theorem dX3_init_43 : decode cX3_init 43 = .ok (.bipush 6, 2) := by decide +kernel
theorem dX3_init_45 : decode cX3_init 45 = .ok (.newarray .boolean, 2) := by decide +kernel
theorem dX3_init_47 : decode cX3_init 47 = .ok (.putfield 34, 3) := by decide +kernel
theorem dX3_init_50 : decode cX3_init 50 = .ok (.aload_n 0, 1) := by decide +kernel
theorem dX3_init_51 : decode cX3_init 51 = .ok (.iconst 0, 1) := by decide +kernel
theorem dX3_init_52 : decode cX3_init 52 = .ok (.putfield 38, 3) := by decide +kernel
theorem dX3_init_55 : decode cX3_init 55 = .ok (.aload_n 0, 1) := by decide +kernel
theorem dX3_init_56 : decode cX3_init 56 = .ok (.iconst 0, 1) := by decide +kernel
theorem dX3_init_57 : decode cX3_init 57 = .ok (.putfield 41, 3) := by decide +kernel
theorem dX3_init_60 : decode cX3_init 60 = .ok (.aload_n 0, 1) := by decide +kernel
theorem dX3_init_61 : decode cX3_init 61 = .ok (.iconst 0, 1) := by decide +kernel
theorem dX3_init_62 : decode cX3_init 62 = .ok (.putfield 44, 3) := by decide +kernel
theorem dX3_init_65 : decode cX3_init 65 = .ok (.aload_n 0, 1) := by decide +kernel
theorem dX3_init_66 : decode cX3_init 66 = .ok (.aload_n 1, 1) := by decide +kernel
theorem dX3_init_67 : decode cX3_init 67 = .ok (.putfield 47, 3) := by decide +kernel
theorem dX3_init_70 : decode cX3_init 70 = .ok (.aload_n 0, 1) := by decide +kernel
theorem dX3_init_71 : decode cX3_init 71 = .ok (.aload_n 2, 1) := by decide +kernel
theorem dX3_init_72 : decode cX3_init 72 = .ok (.putfield 51, 3) := by decide +kernel
theorem dX3_init_75 : decode cX3_init 75 = .ok (.iconst 0, 1) := by decide +kernel
theorem dX3_init_76 : decode cX3_init 76 = .ok (.istore_n 3, 1) := by decide +kernel
theorem dX3_init_77 : decode cX3_init 77 = .ok (.iload_n 3, 1) := by decide +kernel
theorem dX3_init_78 : decode cX3_init 78 = .ok (.iconst 4, 1) := by decide +kernel
theorem dX3_init_79 : decode cX3_init 79 = .ok (.if_icmp .ge 22, 3) := by decide +kernel
theorem dX3_init_82 : decode cX3_init 82 = .ok (.aload_n 0, 1) := by decide +kernel
theorem dX3_init_83 : decode cX3_init 83 = .ok (.getfield 13, 3) := by decide +kernel
theorem dX3_init_86 : decode cX3_init 86 = .ok (.iload_n 3, 1) := by decide +kernel
theorem dX3_init_87 : decode cX3_init 87 = .ok (.new 11, 3) := by decide +kernel
theorem dX3_init_90 : decode cX3_init 90 = .ok (.dup, 1) := by decide +kernel
theorem dX3_init_91 : decode cX3_init 91 = .ok (.invokespecial 55, 3) := by decide +kernel
theorem dX3_init_94 : decode cX3_init 94 = .ok (.aastore, 1) := by decide +kernel
theorem dX3_init_95 : decode cX3_init 95 = .ok (.iinc 3 1, 3) := by decide +kernel
theorem dX3_init_98 : decode cX3_init 98 = .ok (.goto (-21), 3) := by decide +kernel
theorem dX3_init_101 : decode cX3_init 101 = .ok (.iconst 0, 1) := by decide +kernel
theorem dX3_init_102 : decode cX3_init 102 = .ok (.istore_n 3, 1) := by decide +kernel
theorem dX3_init_103 : decode cX3_init 103 = .ok (.iload_n 3, 1) := by decide +kernel
theorem dX3_init_104 : decode cX3_init 104 = .ok (.bipush 6, 2) := by decide +kernel
theorem dX3_init_106 : decode cX3_init 106 = .ok (.if_icmp .ge 22, 3) := by decide +kernel
theorem dX3_init_109 : decode cX3_init 109 = .ok (.aload_n 0, 1) := by decide +kernel
theorem dX3_init_110 : decode cX3_init 110 = .ok (.getfield 23, 3) := by decide +kernel
theorem dX3_init_113 : decode cX3_init 113 = .ok (.iload_n 3, 1) := by decide +kernel
theorem dX3_init_114 : decode cX3_init 114 = .ok (.new 21, 3) := by decide +kernel
theorem dX3_init_117 : decode cX3_init 117 = .ok (.dup, 1) := by decide +kernel
theorem dX3_init_118 : decode cX3_init 118 = .ok (.invokespecial 56, 3) := by decide +kernel
theorem dX3_init_121 : decode cX3_init 121 = .ok (.aastore, 1) := by decide +kernel
theorem dX3_init_122 : decode cX3_init 122 = .ok (.iinc 3 1, 3) := by decide +kernel
theorem dX3_init_125 : decode cX3_init 125 = .ok (.goto (-22), 3) := by decide +kernel
theorem dX3_init_128 : decode cX3_init 128 = .ok (.return_, 1) := by decide +kernel
theorem dX3_find_0 : decode cX3_find 0 = .ok (.iconst 0, 1) := by decide +kernel
theorem dX3_find_1 : decode cX3_find 1 = .ok (.istore_n 3, 1) := by decide +kernel
theorem dX3_find_2 : decode cX3_find 2 = .ok (.iload_n 3, 1) := by decide +kernel
theorem dX3_find_3 : decode cX3_find 3 = .ok (.iconst 4, 1) := by decide +kernel
theorem dX3_find_4 : decode cX3_find 4 = .ok (.if_icmp .ge 30, 3) := by decide +kernel
theorem dX3_find_7 : decode cX3_find 7 = .ok (.aload_n 0, 1) := by decide +kernel
theorem dX3_find_8 : decode cX3_find 8 = .ok (.getfield 13, 3) := by decide +kernel
theorem dX3_find_11 : decode cX3_find 11 = .ok (.iload_n 3, 1) := by decide +kernel
theorem dX3_find_12 : decode cX3_find 12 = .ok (.aaload, 1) := by decide +kernel
theorem dX3_find_13 : decode cX3_find 13 = .ok (.aload_n 1, 1) := by decide +kernel
theorem dX3_find_14 : decode cX3_find 14 = .ok (.iload_n 2, 1) := by decide +kernel
theorem dX3_find_15 : decode cX3_find 15 = .ok (.invokevirtual 57, 3) := by decide +kernel
theorem dX3_find_18 : decode cX3_find 18 = .ok (.ifCond .eq 10, 3) := by decide +kernel
theorem dX3_find_21 : decode cX3_find 21 = .ok (.aload_n 0, 1) := by decide +kernel
theorem dX3_find_22 : decode cX3_find 22 = .ok (.getfield 13, 3) := by decide +kernel
theorem dX3_find_25 : decode cX3_find 25 = .ok (.iload_n 3, 1) := by decide +kernel
theorem dX3_find_26 : decode cX3_find 26 = .ok (.aaload, 1) := by decide +kernel
theorem dX3_find_27 : decode cX3_find 27 = .ok (.areturn, 1) := by decide +kernel
theorem dX3_find_28 : decode cX3_find 28 = .ok (.iinc 3 1, 3) := by decide +kernel
theorem dX3_find_31 : decode cX3_find 31 = .ok (.goto (-29), 3) := by decide +kernel
theorem dX3_find_34 : decode cX3_find 34 = .ok (.aload_n 0, 1) := by decide +kernel
theorem dX3_find_35 : decode cX3_find 35 = .ok (.getfield 13, 3) := by decide +kernel
theorem dX3_find_38 : decode cX3_find 38 = .ok (.aload_n 0, 1) := by decide +kernel
theorem dX3_find_39 : decode cX3_find 39 = .ok (.getfield 17, 3) := by decide +kernel
theorem dX3_find_42 : decode cX3_find 42 = .ok (.aaload, 1) := by decide +kernel
theorem dX3_find_43 : decode cX3_find 43 = .ok (.astore_n 3, 1) := by decide +kernel
theorem dX3_find_44 : decode cX3_find 44 = .ok (.aload_n 0, 1) := by decide +kernel
theorem dX3_find_45 : decode cX3_find 45 = .ok (.aload_n 0, 1) := by decide +kernel
theorem dX3_find_46 : decode cX3_find 46 = .ok (.getfield 17, 3) := by decide +kernel
theorem dX3_find_49 : decode cX3_find 49 = .ok (.iconst 1, 1) := by decide +kernel
theorem dX3_find_50 : decode cX3_find 50 = .ok (.iadd, 1) := by decide +kernel
theorem dX3_find_51 : decode cX3_find 51 = .ok (.iconst 4, 1) := by decide +kernel
theorem dX3_find_52 : decode cX3_find 52 = .ok (.irem, 1) := by decide +kernel
theorem dX3_find_53 : decode cX3_find 53 = .ok (.putfield 17, 3) := by decide +kernel
theorem dX3_find_56 : decode cX3_find 56 = .ok (.aload_n 0, 1) := by decide +kernel
theorem dX3_find_57 : decode cX3_find 57 = .ok (.aload_n 1, 1) := by decide +kernel
theorem dX3_find_58 : decode cX3_find 58 = .ok (.iload_n 2, 1) := by decide +kernel
theorem dX3_find_59 : decode cX3_find 59 = .ok (.invokevirtual 61, 3) := by decide +kernel
theorem dX3_find_62 : decode cX3_find 62 = .ok (.aload_n 0, 1) := by decide +kernel
theorem dX3_find_63 : decode cX3_find 63 = .ok (.invokevirtual 65, 3) := by decide +kernel
theorem dX3_find_66 : decode cX3_find 66 = .ok (.aload_n 0, 1) := by decide +kernel
theorem dX3_find_67 : decode cX3_find 67 = .ok (.invokevirtual 68, 3) := by decide +kernel
theorem dX3_find_70 : decode cX3_find 70 = .ok (.aload_n 3, 1) := by decide +kernel
theorem dX3_find_71 : decode cX3_find 71 = .ok (.aload_n 1, 1) := by decide +kernel
theorem dX3_find_72 : decode cX3_find 72 = .ok (.iload_n 2, 1) := by decide +kernel
theorem dX3_find_73 : decode cX3_find 73 = .ok (.invokevirtual 71, 3) := by decide +kernel
theorem dX3_find_76 : decode cX3_find 76 = .ok (.aload_n 0, 1) := by decide +kernel
theorem dX3_find_77 : decode cX3_find 77 = .ok (.aload_n 3, 1) := by decide +kernel
theorem dX3_find_78 : decode cX3_find 78 = .ok (.invokevirtual 74, 3) := by decide +kernel
theorem dX3_find_81 : decode cX3_find 81 = .ok (.aload_n 3, 1) := by decide +kernel
theorem dX3_find_82 : decode cX3_find 82 = .ok (.areturn, 1) := by decide +kernel
theorem dX3_gather_0 : decode cX3_gather 0 = .ok (.aload_n 0, 1) := by decide +kernel
theorem dX3_gather_1 : decode cX3_gather 1 = .ok (.aload_n 1, 1) := by decide +kernel
theorem dX3_gather_2 : decode cX3_gather 2 = .ok (.getfield 78, 3) := by decide +kernel
theorem dX3_gather_5 : decode cX3_gather 5 = .ok (.putfield 44, 3) := by decide +kernel
theorem dX3_gather_8 : decode cX3_gather 8 = .ok (.aload_n 0, 1) := by decide +kernel
theorem dX3_gather_9 : decode cX3_gather 9 = .ok (.iconst 0, 1) := by decide +kernel
theorem dX3_gather_10 : decode cX3_gather 10 = .ok (.putfield 38, 3) := by decide +kernel
theorem dX3_gather_13 : decode cX3_gather 13 = .ok (.aload_n 0, 1) := by decide +kernel
theorem dX3_gather_14 : decode cX3_gather 14 = .ok (.iconst 0, 1) := by decide +kernel
theorem dX3_gather_15 : decode cX3_gather 15 = .ok (.putfield 41, 3) := by decide +kernel
theorem dX3_gather_18 : decode cX3_gather 18 = .ok (.iconst 0, 1) := by decide +kernel
theorem dX3_gather_19 : decode cX3_gather 19 = .ok (.istore_n 3, 1) := by decide +kernel
theorem dX3_gather_20 : decode cX3_gather 20 = .ok (.iload_n 3, 1) := by decide +kernel
theorem dX3_gather_21 : decode cX3_gather 21 = .ok (.bipush 6, 2) := by decide +kernel
theorem dX3_gather_23 : decode cX3_gather 23 = .ok (.if_icmp .ge 45, 3) := by decide +kernel
theorem dX3_gather_26 : decode cX3_gather 26 = .ok (.iload_n 2, 1) := by decide +kernel
theorem dX3_gather_27 : decode cX3_gather 27 = .ok (.iload_n 3, 1) := by decide +kernel
theorem dX3_gather_28 : decode cX3_gather 28 = .ok (.invokestatic 81, 3) := by decide +kernel
theorem dX3_gather_31 : decode cX3_gather 31 = .ok (.ifCond .eq 31, 3) := by decide +kernel
theorem dX3_gather_34 : decode cX3_gather 34 = .ok (.aload_n 0, 1) := by decide +kernel
theorem dX3_gather_35 : decode cX3_gather 35 = .ok (.getfield 23, 3) := by decide +kernel
theorem dX3_gather_38 : decode cX3_gather 38 = .ok (.aload_n 0, 1) := by decide +kernel
theorem dX3_gather_39 : decode cX3_gather 39 = .ok (.getfield 41, 3) := by decide +kernel
theorem dX3_gather_42 : decode cX3_gather 42 = .ok (.aaload, 1) := by decide +kernel
theorem dX3_gather_43 : decode cX3_gather 43 = .ok (.aload_n 1, 1) := by decide +kernel
theorem dX3_gather_44 : decode cX3_gather 44 = .ok (.getfield 85, 3) := by decide +kernel
theorem dX3_gather_47 : decode cX3_gather 47 = .ok (.iload_n 3, 1) := by decide +kernel
theorem dX3_gather_48 : decode cX3_gather 48 = .ok (.aaload, 1) := by decide +kernel
theorem dX3_gather_49 : decode cX3_gather 49 = .ok (.invokevirtual 88, 3) := by decide +kernel
theorem dX3_gather_52 : decode cX3_gather 52 = .ok (.aload_n 0, 1) := by decide +kernel
theorem dX3_gather_53 : decode cX3_gather 53 = .ok (.dup, 1) := by decide +kernel
theorem dX3_gather_54 : decode cX3_gather 54 = .ok (.getfield 41, 3) := by decide +kernel
theorem dX3_gather_57 : decode cX3_gather 57 = .ok (.iconst 1, 1) := by decide +kernel
theorem dX3_gather_58 : decode cX3_gather 58 = .ok (.iadd, 1) := by decide +kernel
theorem dX3_gather_59 : decode cX3_gather 59 = .ok (.putfield 41, 3) := by decide +kernel
theorem dX3_gather_62 : decode cX3_gather 62 = .ok (.iinc 3 1, 3) := by decide +kernel
theorem dX3_gather_65 : decode cX3_gather 65 = .ok (.goto (-45), 3) := by decide +kernel
theorem dX3_gather_68 : decode cX3_gather 68 = .ok (.return_, 1) := by decide +kernel
theorem dX3_complete_0 : decode cX3_complete 0 = .ok (.iconst 0, 1) := by decide +kernel
theorem dX3_complete_1 : decode cX3_complete 1 = .ok (.istore_n 1, 1) := by decide +kernel
theorem dX3_complete_2 : decode cX3_complete 2 = .ok (.iload_n 1, 1) := by decide +kernel
theorem dX3_complete_3 : decode cX3_complete 3 = .ok (.ldc 92, 2) := by decide +kernel
theorem dX3_complete_5 : decode cX3_complete 5 = .ok (.if_icmp .ge 45, 3) := by decide +kernel
theorem dX3_complete_8 : decode cX3_complete 8 = .ok (.aload_n 0, 1) := by decide +kernel
theorem dX3_complete_9 : decode cX3_complete 9 = .ok (.getfield 41, 3) := by decide +kernel
theorem dX3_complete_12 : decode cX3_complete 12 = .ok (.ifCond .le 10, 3) := by decide +kernel
theorem dX3_complete_15 : decode cX3_complete 15 = .ok (.aload_n 0, 1) := by decide +kernel
theorem dX3_complete_16 : decode cX3_complete 16 = .ok (.invokevirtual 93, 3) := by decide +kernel
theorem dX3_complete_19 : decode cX3_complete 19 = .ok (.goto 25, 3) := by decide +kernel
theorem dX3_complete_22 : decode cX3_complete 22 = .ok (.aload_n 0, 1) := by decide +kernel
theorem dX3_complete_23 : decode cX3_complete 23 = .ok (.invokevirtual 96, 3) := by decide +kernel
theorem dX3_complete_26 : decode cX3_complete 26 = .ok (.istore_n 2, 1) := by decide +kernel
theorem dX3_complete_27 : decode cX3_complete 27 = .ok (.iload_n 2, 1) := by decide +kernel
theorem dX3_complete_28 : decode cX3_complete 28 = .ok (.ifCond .ge 4, 3) := by decide +kernel
theorem dX3_complete_31 : decode cX3_complete 31 = .ok (.return_, 1) := by decide +kernel
theorem dX3_complete_32 : decode cX3_complete 32 = .ok (.aload_n 0, 1) := by decide +kernel
theorem dX3_complete_33 : decode cX3_complete 33 = .ok (.getfield 34, 3) := by decide +kernel
theorem dX3_complete_36 : decode cX3_complete 36 = .ok (.iload_n 2, 1) := by decide +kernel
theorem dX3_complete_37 : decode cX3_complete 37 = .ok (.iconst 1, 1) := by decide +kernel
theorem dX3_complete_38 : decode cX3_complete 38 = .ok (.bastore, 1) := by decide +kernel
theorem dX3_complete_39 : decode cX3_complete 39 = .ok (.aload_n 0, 1) := by decide +kernel
theorem dX3_complete_40 : decode cX3_complete 40 = .ok (.iload_n 2, 1) := by decide +kernel
theorem dX3_complete_41 : decode cX3_complete 41 = .ok (.invokevirtual 100, 3) := by decide +kernel
theorem dX3_complete_44 : decode cX3_complete 44 = .ok (.iinc 1 1, 3) := by decide +kernel
theorem dX3_complete_47 : decode cX3_complete 47 = .ok (.goto (-45), 3) := by decide +kernel
theorem dX3_complete_50 : decode cX3_complete 50 = .ok (.return_, 1) := by decide +kernel
theorem dX3_absorb_0 : decode cX3_absorb 0 = .ok (.aload_n 0, 1) := by decide +kernel
theorem dX3_absorb_1 : decode cX3_absorb 1 = .ok (.getfield 23, 3) := by decide +kernel
theorem dX3_absorb_4 : decode cX3_absorb 4 = .ok (.aload_n 0, 1) := by decide +kernel
theorem dX3_absorb_5 : decode cX3_absorb 5 = .ok (.getfield 38, 3) := by decide +kernel
theorem dX3_absorb_8 : decode cX3_absorb 8 = .ok (.aaload, 1) := by decide +kernel
theorem dX3_absorb_9 : decode cX3_absorb 9 = .ok (.astore_n 1, 1) := by decide +kernel
theorem dX3_absorb_10 : decode cX3_absorb 10 = .ok (.aload_n 0, 1) := by decide +kernel
theorem dX3_absorb_11 : decode cX3_absorb 11 = .ok (.getfield 51, 3) := by decide +kernel
theorem dX3_absorb_14 : decode cX3_absorb 14 = .ok (.aload_n 0, 1) := by decide +kernel
theorem dX3_absorb_15 : decode cX3_absorb 15 = .ok (.getfield 44, 3) := by decide +kernel
theorem dX3_absorb_18 : decode cX3_absorb 18 = .ok (.invokevirtual 104, 3) := by decide +kernel
theorem dX3_absorb_21 : decode cX3_absorb 21 = .ok (.iconst 0, 1) := by decide +kernel
theorem dX3_absorb_22 : decode cX3_absorb 22 = .ok (.istore_n 2, 1) := by decide +kernel
theorem dX3_absorb_23 : decode cX3_absorb 23 = .ok (.iload_n 2, 1) := by decide +kernel
theorem dX3_absorb_24 : decode cX3_absorb 24 = .ok (.aload_n 0, 1) := by decide +kernel
theorem dX3_absorb_25 : decode cX3_absorb 25 = .ok (.getfield 38, 3) := by decide +kernel
theorem dX3_absorb_28 : decode cX3_absorb 28 = .ok (.if_icmp .ge 22, 3) := by decide +kernel
theorem dX3_absorb_31 : decode cX3_absorb 31 = .ok (.aload_n 0, 1) := by decide +kernel
theorem dX3_absorb_32 : decode cX3_absorb 32 = .ok (.getfield 51, 3) := by decide +kernel
theorem dX3_absorb_35 : decode cX3_absorb 35 = .ok (.aload_n 0, 1) := by decide +kernel
theorem dX3_absorb_36 : decode cX3_absorb 36 = .ok (.getfield 23, 3) := by decide +kernel
theorem dX3_absorb_39 : decode cX3_absorb 39 = .ok (.iload_n 2, 1) := by decide +kernel
theorem dX3_absorb_40 : decode cX3_absorb 40 = .ok (.aaload, 1) := by decide +kernel
theorem dX3_absorb_41 : decode cX3_absorb 41 = .ok (.invokevirtual 108, 3) := by decide +kernel
theorem dX3_absorb_44 : decode cX3_absorb 44 = .ok (.iinc 2 1, 3) := by decide +kernel
theorem dX3_absorb_47 : decode cX3_absorb 47 = .ok (.goto (-24), 3) := by decide +kernel
theorem dX3_absorb_50 : decode cX3_absorb 50 = .ok (.aload_n 0, 1) := by decide +kernel
theorem dX3_absorb_51 : decode cX3_absorb 51 = .ok (.getfield 51, 3) := by decide +kernel
theorem dX3_absorb_54 : decode cX3_absorb 54 = .ok (.aload_n 1, 1) := by decide +kernel
theorem dX3_absorb_55 : decode cX3_absorb 55 = .ok (.invokevirtual 111, 3) := by decide +kernel
theorem dX3_absorb_58 : decode cX3_absorb 58 = .ok (.aload_n 1, 1) := by decide +kernel
theorem dX3_absorb_59 : decode cX3_absorb 59 = .ok (.aload_n 0, 1) := by decide +kernel
theorem dX3_absorb_60 : decode cX3_absorb 60 = .ok (.getfield 44, 3) := by decide +kernel
theorem dX3_absorb_63 : decode cX3_absorb 63 = .ok (.invokevirtual 114, 3) := by decide +kernel
theorem dX3_absorb_66 : decode cX3_absorb 66 = .ok (.istore_n 2, 1) := by decide +kernel
theorem dX3_absorb_67 : decode cX3_absorb 67 = .ok (.iload_n 2, 1) := by decide +kernel
theorem dX3_absorb_68 : decode cX3_absorb 68 = .ok (.ifCond .ge 56, 3) := by decide +kernel
theorem dX3_absorb_71 : decode cX3_absorb 71 = .ok (.aload_n 0, 1) := by decide +kernel
theorem dX3_absorb_72 : decode cX3_absorb 72 = .ok (.getfield 23, 3) := by decide +kernel
theorem dX3_absorb_75 : decode cX3_absorb 75 = .ok (.aload_n 0, 1) := by decide +kernel
theorem dX3_absorb_76 : decode cX3_absorb 76 = .ok (.getfield 38, 3) := by decide +kernel
theorem dX3_absorb_79 : decode cX3_absorb 79 = .ok (.aload_n 0, 1) := by decide +kernel
theorem dX3_absorb_80 : decode cX3_absorb 80 = .ok (.getfield 23, 3) := by decide +kernel
theorem dX3_absorb_83 : decode cX3_absorb 83 = .ok (.aload_n 0, 1) := by decide +kernel
theorem dX3_absorb_84 : decode cX3_absorb 84 = .ok (.getfield 38, 3) := by decide +kernel
theorem dX3_absorb_87 : decode cX3_absorb 87 = .ok (.aload_n 0, 1) := by decide +kernel
theorem dX3_absorb_88 : decode cX3_absorb 88 = .ok (.getfield 41, 3) := by decide +kernel
theorem dX3_absorb_91 : decode cX3_absorb 91 = .ok (.iadd, 1) := by decide +kernel
theorem dX3_absorb_92 : decode cX3_absorb 92 = .ok (.iconst 1, 1) := by decide +kernel
theorem dX3_absorb_93 : decode cX3_absorb 93 = .ok (.isub, 1) := by decide +kernel
theorem dX3_absorb_94 : decode cX3_absorb 94 = .ok (.aaload, 1) := by decide +kernel
theorem dX3_absorb_95 : decode cX3_absorb 95 = .ok (.aastore, 1) := by decide +kernel
theorem dX3_absorb_96 : decode cX3_absorb 96 = .ok (.aload_n 0, 1) := by decide +kernel
theorem dX3_absorb_97 : decode cX3_absorb 97 = .ok (.getfield 23, 3) := by decide +kernel
theorem dX3_absorb_100 : decode cX3_absorb 100 = .ok (.aload_n 0, 1) := by decide +kernel
theorem dX3_absorb_101 : decode cX3_absorb 101 = .ok (.getfield 38, 3) := by decide +kernel
theorem dX3_absorb_104 : decode cX3_absorb 104 = .ok (.aload_n 0, 1) := by decide +kernel
theorem dX3_absorb_105 : decode cX3_absorb 105 = .ok (.getfield 41, 3) := by decide +kernel
theorem dX3_absorb_108 : decode cX3_absorb 108 = .ok (.iadd, 1) := by decide +kernel
theorem dX3_absorb_109 : decode cX3_absorb 109 = .ok (.iconst 1, 1) := by decide +kernel
theorem dX3_absorb_110 : decode cX3_absorb 110 = .ok (.isub, 1) := by decide +kernel
theorem dX3_absorb_111 : decode cX3_absorb 111 = .ok (.aload_n 1, 1) := by decide +kernel
theorem dX3_absorb_112 : decode cX3_absorb 112 = .ok (.aastore, 1) := by decide +kernel
theorem dX3_absorb_113 : decode cX3_absorb 113 = .ok (.aload_n 0, 1) := by decide +kernel
theorem dX3_absorb_114 : decode cX3_absorb 114 = .ok (.dup, 1) := by decide +kernel
theorem dX3_absorb_115 : decode cX3_absorb 115 = .ok (.getfield 41, 3) := by decide +kernel
theorem dX3_absorb_118 : decode cX3_absorb 118 = .ok (.iconst 1, 1) := by decide +kernel
theorem dX3_absorb_119 : decode cX3_absorb 119 = .ok (.isub, 1) := by decide +kernel
theorem dX3_absorb_120 : decode cX3_absorb 120 = .ok (.putfield 41, 3) := by decide +kernel
theorem dX3_absorb_123 : decode cX3_absorb 123 = .ok (.return_, 1) := by decide +kernel
theorem dX3_absorb_124 : decode cX3_absorb 124 = .ok (.aload_n 1, 1) := by decide +kernel
theorem dX3_absorb_125 : decode cX3_absorb 125 = .ok (.aload_n 1, 1) := by decide +kernel
theorem dX3_absorb_126 : decode cX3_absorb 126 = .ok (.getfield 118, 3) := by decide +kernel
theorem dX3_absorb_129 : decode cX3_absorb 129 = .ok (.iload_n 2, 1) := by decide +kernel
theorem dX3_absorb_130 : decode cX3_absorb 130 = .ok (.iaload, 1) := by decide +kernel
theorem dX3_absorb_131 : decode cX3_absorb 131 = .ok (.invokestatic 121, 3) := by decide +kernel
theorem dX3_absorb_134 : decode cX3_absorb 134 = .ok (.invokevirtual 126, 3) := by decide +kernel
theorem dX3_absorb_137 : decode cX3_absorb 137 = .ok (.getstatic 129, 3) := by decide +kernel
theorem dX3_absorb_140 : decode cX3_absorb 140 = .ok (.iload_n 2, 1) := by decide +kernel
theorem dX3_absorb_141 : decode cX3_absorb 141 = .ok (.iaload, 1) := by decide +kernel
theorem dX3_absorb_142 : decode cX3_absorb 142 = .ok (.istore_n 3, 1) := by decide +kernel
theorem dX3_absorb_143 : decode cX3_absorb 143 = .ok (.getstatic 132, 3) := by decide +kernel
theorem dX3_absorb_146 : decode cX3_absorb 146 = .ok (.iload_n 2, 1) := by decide +kernel
theorem dX3_absorb_147 : decode cX3_absorb 147 = .ok (.iaload, 1) := by decide +kernel
theorem dX3_absorb_148 : decode cX3_absorb 148 = .ok (.istore 4, 2) := by decide +kernel
theorem dX3_absorb_150 : decode cX3_absorb 150 = .ok (.aload_n 0, 1) := by decide +kernel
theorem dX3_absorb_151 : decode cX3_absorb 151 = .ok (.getfield 38, 3) := by decide +kernel
theorem dX3_absorb_154 : decode cX3_absorb 154 = .ok (.iconst 1, 1) := by decide +kernel
theorem dX3_absorb_155 : decode cX3_absorb 155 = .ok (.isub, 1) := by decide +kernel
theorem dX3_absorb_156 : decode cX3_absorb 156 = .ok (.istore 5, 2) := by decide +kernel
theorem dX3_absorb_158 : decode cX3_absorb 158 = .ok (.iload 5, 2) := by decide +kernel
theorem dX3_absorb_160 : decode cX3_absorb 160 = .ok (.ifCond .lt 38, 3) := by decide +kernel
theorem dX3_absorb_163 : decode cX3_absorb 163 = .ok (.iload_n 3, 1) := by decide +kernel
theorem dX3_absorb_164 : decode cX3_absorb 164 = .ok (.aload_n 0, 1) := by decide +kernel
theorem dX3_absorb_165 : decode cX3_absorb 165 = .ok (.getfield 27, 3) := by decide +kernel
theorem dX3_absorb_168 : decode cX3_absorb 168 = .ok (.iload 5, 2) := by decide +kernel
theorem dX3_absorb_170 : decode cX3_absorb 170 = .ok (.iaload, 1) := by decide +kernel
theorem dX3_absorb_171 : decode cX3_absorb 171 = .ok (.if_icmp .gt 21, 3) := by decide +kernel
theorem dX3_absorb_174 : decode cX3_absorb 174 = .ok (.iload 4, 2) := by decide +kernel
theorem dX3_absorb_176 : decode cX3_absorb 176 = .ok (.aload_n 0, 1) := by decide +kernel
theorem dX3_absorb_177 : decode cX3_absorb 177 = .ok (.getfield 31, 3) := by decide +kernel
theorem dX3_absorb_180 : decode cX3_absorb 180 = .ok (.iload 5, 2) := by decide +kernel
theorem dX3_absorb_182 : decode cX3_absorb 182 = .ok (.iaload, 1) := by decide +kernel
theorem dX3_absorb_183 : decode cX3_absorb 183 = .ok (.if_icmp .gt 9, 3) := by decide +kernel
theorem dX3_absorb_186 : decode cX3_absorb 186 = .ok (.aload_n 0, 1) := by decide +kernel
theorem dX3_absorb_187 : decode cX3_absorb 187 = .ok (.iload 5, 2) := by decide +kernel
theorem dX3_absorb_189 : decode cX3_absorb 189 = .ok (.invokevirtual 135, 3) := by decide +kernel
theorem dX3_absorb_192 : decode cX3_absorb 192 = .ok (.iinc 5 (-1), 3) := by decide +kernel
theorem dX3_absorb_195 : decode cX3_absorb 195 = .ok (.goto (-37), 3) := by decide +kernel
theorem dX3_absorb_198 : decode cX3_absorb 198 = .ok (.aload_n 0, 1) := by decide +kernel
theorem dX3_absorb_199 : decode cX3_absorb 199 = .ok (.iload_n 3, 1) := by decide +kernel
theorem dX3_absorb_200 : decode cX3_absorb 200 = .ok (.iload 4, 2) := by decide +kernel
theorem dX3_absorb_202 : decode cX3_absorb 202 = .ok (.invokevirtual 138, 3) := by decide +kernel
theorem dX3_absorb_205 : decode cX3_absorb 205 = .ok (.return_, 1) := by decide +kernel
theorem dX3_dismiss_0 : decode cX3_dismiss 0 = .ok (.aload_n 0, 1) := by decide +kernel
theorem dX3_dismiss_1 : decode cX3_dismiss 1 = .ok (.getfield 23, 3) := by decide +kernel
theorem dX3_dismiss_4 : decode cX3_dismiss 4 = .ok (.iload_n 1, 1) := by decide +kernel
theorem dX3_dismiss_5 : decode cX3_dismiss 5 = .ok (.aaload, 1) := by decide +kernel
theorem dX3_dismiss_6 : decode cX3_dismiss 6 = .ok (.astore_n 2, 1) := by decide +kernel
theorem dX3_dismiss_7 : decode cX3_dismiss 7 = .ok (.iload_n 1, 1) := by decide +kernel
theorem dX3_dismiss_8 : decode cX3_dismiss 8 = .ok (.istore_n 3, 1) := by decide +kernel
theorem dX3_dismiss_9 : decode cX3_dismiss 9 = .ok (.iload_n 3, 1) := by decide +kernel
theorem dX3_dismiss_10 : decode cX3_dismiss 10 = .ok (.aload_n 0, 1) := by decide +kernel
theorem dX3_dismiss_11 : decode cX3_dismiss 11 = .ok (.getfield 38, 3) := by decide +kernel
theorem dX3_dismiss_14 : decode cX3_dismiss 14 = .ok (.if_icmp .ge 65, 3) := by decide +kernel
theorem dX3_dismiss_17 : decode cX3_dismiss 17 = .ok (.aload_n 0, 1) := by decide +kernel
theorem dX3_dismiss_18 : decode cX3_dismiss 18 = .ok (.getfield 23, 3) := by decide +kernel
theorem dX3_dismiss_21 : decode cX3_dismiss 21 = .ok (.iload_n 3, 1) := by decide +kernel
theorem dX3_dismiss_22 : decode cX3_dismiss 22 = .ok (.aload_n 0, 1) := by decide +kernel
theorem dX3_dismiss_23 : decode cX3_dismiss 23 = .ok (.getfield 23, 3) := by decide +kernel
theorem dX3_dismiss_26 : decode cX3_dismiss 26 = .ok (.iload_n 3, 1) := by decide +kernel
theorem dX3_dismiss_27 : decode cX3_dismiss 27 = .ok (.iconst 1, 1) := by decide +kernel
theorem dX3_dismiss_28 : decode cX3_dismiss 28 = .ok (.iadd, 1) := by decide +kernel
theorem dX3_dismiss_29 : decode cX3_dismiss 29 = .ok (.aaload, 1) := by decide +kernel
theorem dX3_dismiss_30 : decode cX3_dismiss 30 = .ok (.aastore, 1) := by decide +kernel
theorem dX3_dismiss_31 : decode cX3_dismiss 31 = .ok (.aload_n 0, 1) := by decide +kernel
theorem dX3_dismiss_32 : decode cX3_dismiss 32 = .ok (.getfield 27, 3) := by decide +kernel
theorem dX3_dismiss_35 : decode cX3_dismiss 35 = .ok (.iload_n 3, 1) := by decide +kernel
theorem dX3_dismiss_36 : decode cX3_dismiss 36 = .ok (.aload_n 0, 1) := by decide +kernel
theorem dX3_dismiss_37 : decode cX3_dismiss 37 = .ok (.getfield 27, 3) := by decide +kernel
theorem dX3_dismiss_40 : decode cX3_dismiss 40 = .ok (.iload_n 3, 1) := by decide +kernel
theorem dX3_dismiss_41 : decode cX3_dismiss 41 = .ok (.iconst 1, 1) := by decide +kernel
theorem dX3_dismiss_42 : decode cX3_dismiss 42 = .ok (.iadd, 1) := by decide +kernel
theorem dX3_dismiss_43 : decode cX3_dismiss 43 = .ok (.iaload, 1) := by decide +kernel
theorem dX3_dismiss_44 : decode cX3_dismiss 44 = .ok (.iastore, 1) := by decide +kernel
theorem dX3_dismiss_45 : decode cX3_dismiss 45 = .ok (.aload_n 0, 1) := by decide +kernel
theorem dX3_dismiss_46 : decode cX3_dismiss 46 = .ok (.getfield 31, 3) := by decide +kernel
theorem dX3_dismiss_49 : decode cX3_dismiss 49 = .ok (.iload_n 3, 1) := by decide +kernel
theorem dX3_dismiss_50 : decode cX3_dismiss 50 = .ok (.aload_n 0, 1) := by decide +kernel
theorem dX3_dismiss_51 : decode cX3_dismiss 51 = .ok (.getfield 31, 3) := by decide +kernel
theorem dX3_dismiss_54 : decode cX3_dismiss 54 = .ok (.iload_n 3, 1) := by decide +kernel
theorem dX3_dismiss_55 : decode cX3_dismiss 55 = .ok (.iconst 1, 1) := by decide +kernel
theorem dX3_dismiss_56 : decode cX3_dismiss 56 = .ok (.iadd, 1) := by decide +kernel
theorem dX3_dismiss_57 : decode cX3_dismiss 57 = .ok (.iaload, 1) := by decide +kernel
theorem dX3_dismiss_58 : decode cX3_dismiss 58 = .ok (.iastore, 1) := by decide +kernel
theorem dX3_dismiss_59 : decode cX3_dismiss 59 = .ok (.aload_n 0, 1) := by decide +kernel
theorem dX3_dismiss_60 : decode cX3_dismiss 60 = .ok (.getfield 34, 3) := by decide +kernel
theorem dX3_dismiss_63 : decode cX3_dismiss 63 = .ok (.iload_n 3, 1) := by decide +kernel
theorem dX3_dismiss_64 : decode cX3_dismiss 64 = .ok (.aload_n 0, 1) := by decide +kernel
theorem dX3_dismiss_65 : decode cX3_dismiss 65 = .ok (.getfield 34, 3) := by decide +kernel
theorem dX3_dismiss_68 : decode cX3_dismiss 68 = .ok (.iload_n 3, 1) := by decide +kernel
theorem dX3_dismiss_69 : decode cX3_dismiss 69 = .ok (.iconst 1, 1) := by decide +kernel
theorem dX3_dismiss_70 : decode cX3_dismiss 70 = .ok (.iadd, 1) := by decide +kernel
theorem dX3_dismiss_71 : decode cX3_dismiss 71 = .ok (.baload, 1) := by decide +kernel
theorem dX3_dismiss_72 : decode cX3_dismiss 72 = .ok (.bastore, 1) := by decide +kernel
theorem dX3_dismiss_73 : decode cX3_dismiss 73 = .ok (.iinc 3 1, 3) := by decide +kernel
theorem dX3_dismiss_76 : decode cX3_dismiss 76 = .ok (.goto (-67), 3) := by decide +kernel
theorem dX3_dismiss_79 : decode cX3_dismiss 79 = .ok (.aload_n 0, 1) := by decide +kernel
theorem dX3_dismiss_80 : decode cX3_dismiss 80 = .ok (.getfield 23, 3) := by decide +kernel
theorem dX3_dismiss_83 : decode cX3_dismiss 83 = .ok (.aload_n 0, 1) := by decide +kernel
theorem dX3_dismiss_84 : decode cX3_dismiss 84 = .ok (.getfield 38, 3) := by decide +kernel
theorem dX3_dismiss_87 : decode cX3_dismiss 87 = .ok (.aload_n 2, 1) := by decide +kernel
theorem dX3_dismiss_88 : decode cX3_dismiss 88 = .ok (.aastore, 1) := by decide +kernel
theorem dX3_dismiss_89 : decode cX3_dismiss 89 = .ok (.aload_n 0, 1) := by decide +kernel
theorem dX3_dismiss_90 : decode cX3_dismiss 90 = .ok (.dup, 1) := by decide +kernel
theorem dX3_dismiss_91 : decode cX3_dismiss 91 = .ok (.getfield 38, 3) := by decide +kernel
theorem dX3_dismiss_94 : decode cX3_dismiss 94 = .ok (.iconst 1, 1) := by decide +kernel
theorem dX3_dismiss_95 : decode cX3_dismiss 95 = .ok (.isub, 1) := by decide +kernel
theorem dX3_dismiss_96 : decode cX3_dismiss 96 = .ok (.putfield 38, 3) := by decide +kernel
theorem dX3_dismiss_99 : decode cX3_dismiss 99 = .ok (.aload_n 0, 1) := by decide +kernel
theorem dX3_dismiss_100 : decode cX3_dismiss 100 = .ok (.dup, 1) := by decide +kernel
theorem dX3_dismiss_101 : decode cX3_dismiss 101 = .ok (.getfield 41, 3) := by decide +kernel
theorem dX3_dismiss_104 : decode cX3_dismiss 104 = .ok (.iconst 1, 1) := by decide +kernel
theorem dX3_dismiss_105 : decode cX3_dismiss 105 = .ok (.iadd, 1) := by decide +kernel
theorem dX3_dismiss_106 : decode cX3_dismiss 106 = .ok (.putfield 41, 3) := by decide +kernel
theorem dX3_dismiss_109 : decode cX3_dismiss 109 = .ok (.aload_n 0, 1) := by decide +kernel
theorem dX3_dismiss_110 : decode cX3_dismiss 110 = .ok (.iload_n 1, 1) := by decide +kernel
theorem dX3_dismiss_111 : decode cX3_dismiss 111 = .ok (.iconst 1, 1) := by decide +kernel
theorem dX3_dismiss_112 : decode cX3_dismiss 112 = .ok (.isub, 1) := by decide +kernel
theorem dX3_dismiss_113 : decode cX3_dismiss 113 = .ok (.invokevirtual 142, 3) := by decide +kernel
theorem dX3_dismiss_116 : decode cX3_dismiss 116 = .ok (.return_, 1) := by decide +kernel
theorem dX3_admit_0 : decode cX3_admit 0 = .ok (.aload_n 0, 1) := by decide +kernel
theorem dX3_admit_1 : decode cX3_admit 1 = .ok (.getfield 23, 3) := by decide +kernel
theorem dX3_admit_4 : decode cX3_admit 4 = .ok (.aload_n 0, 1) := by decide +kernel
theorem dX3_admit_5 : decode cX3_admit 5 = .ok (.getfield 38, 3) := by decide +kernel
theorem dX3_admit_8 : decode cX3_admit 8 = .ok (.aaload, 1) := by decide +kernel
theorem dX3_admit_9 : decode cX3_admit 9 = .ok (.astore_n 3, 1) := by decide +kernel
theorem dX3_admit_10 : decode cX3_admit 10 = .ok (.aload_n 0, 1) := by decide +kernel
theorem dX3_admit_11 : decode cX3_admit 11 = .ok (.getfield 38, 3) := by decide +kernel
theorem dX3_admit_14 : decode cX3_admit 14 = .ok (.istore 4, 2) := by decide +kernel
theorem dX3_admit_16 : decode cX3_admit 16 = .ok (.iload 4, 2) := by decide +kernel
theorem dX3_admit_18 : decode cX3_admit 18 = .ok (.ifCond .le 86, 3) := by decide +kernel
theorem dX3_admit_21 : decode cX3_admit 21 = .ok (.aload_n 0, 1) := by decide +kernel
theorem dX3_admit_22 : decode cX3_admit 22 = .ok (.getfield 27, 3) := by decide +kernel
theorem dX3_admit_25 : decode cX3_admit 25 = .ok (.iload 4, 2) := by decide +kernel
theorem dX3_admit_27 : decode cX3_admit 27 = .ok (.iconst 1, 1) := by decide +kernel
theorem dX3_admit_28 : decode cX3_admit 28 = .ok (.isub, 1) := by decide +kernel
theorem dX3_admit_29 : decode cX3_admit 29 = .ok (.iaload, 1) := by decide +kernel
theorem dX3_admit_30 : decode cX3_admit 30 = .ok (.iload_n 1, 1) := by decide +kernel
theorem dX3_admit_31 : decode cX3_admit 31 = .ok (.if_icmp .ge 73, 3) := by decide +kernel
theorem dX3_admit_34 : decode cX3_admit 34 = .ok (.aload_n 0, 1) := by decide +kernel
theorem dX3_admit_35 : decode cX3_admit 35 = .ok (.getfield 23, 3) := by decide +kernel
theorem dX3_admit_38 : decode cX3_admit 38 = .ok (.iload 4, 2) := by decide +kernel
theorem dX3_admit_40 : decode cX3_admit 40 = .ok (.aload_n 0, 1) := by decide +kernel
theorem dX3_admit_41 : decode cX3_admit 41 = .ok (.getfield 23, 3) := by decide +kernel
theorem dX3_admit_44 : decode cX3_admit 44 = .ok (.iload 4, 2) := by decide +kernel
theorem dX3_admit_46 : decode cX3_admit 46 = .ok (.iconst 1, 1) := by decide +kernel
theorem dX3_admit_47 : decode cX3_admit 47 = .ok (.isub, 1) := by decide +kernel
theorem dX3_admit_48 : decode cX3_admit 48 = .ok (.aaload, 1) := by decide +kernel
theorem dX3_admit_49 : decode cX3_admit 49 = .ok (.aastore, 1) := by decide +kernel
theorem dX3_admit_50 : decode cX3_admit 50 = .ok (.aload_n 0, 1) := by decide +kernel
theorem dX3_admit_51 : decode cX3_admit 51 = .ok (.getfield 27, 3) := by decide +kernel
theorem dX3_admit_54 : decode cX3_admit 54 = .ok (.iload 4, 2) := by decide +kernel
theorem dX3_admit_56 : decode cX3_admit 56 = .ok (.aload_n 0, 1) := by decide +kernel
theorem dX3_admit_57 : decode cX3_admit 57 = .ok (.getfield 27, 3) := by decide +kernel
theorem dX3_admit_60 : decode cX3_admit 60 = .ok (.iload 4, 2) := by decide +kernel
theorem dX3_admit_62 : decode cX3_admit 62 = .ok (.iconst 1, 1) := by decide +kernel
theorem dX3_admit_63 : decode cX3_admit 63 = .ok (.isub, 1) := by decide +kernel
theorem dX3_admit_64 : decode cX3_admit 64 = .ok (.iaload, 1) := by decide +kernel
theorem dX3_admit_65 : decode cX3_admit 65 = .ok (.iastore, 1) := by decide +kernel
theorem dX3_admit_66 : decode cX3_admit 66 = .ok (.aload_n 0, 1) := by decide +kernel
theorem dX3_admit_67 : decode cX3_admit 67 = .ok (.getfield 31, 3) := by decide +kernel
theorem dX3_admit_70 : decode cX3_admit 70 = .ok (.iload 4, 2) := by decide +kernel
theorem dX3_admit_72 : decode cX3_admit 72 = .ok (.aload_n 0, 1) := by decide +kernel
theorem dX3_admit_73 : decode cX3_admit 73 = .ok (.getfield 31, 3) := by decide +kernel
theorem dX3_admit_76 : decode cX3_admit 76 = .ok (.iload 4, 2) := by decide +kernel
theorem dX3_admit_78 : decode cX3_admit 78 = .ok (.iconst 1, 1) := by decide +kernel
theorem dX3_admit_79 : decode cX3_admit 79 = .ok (.isub, 1) := by decide +kernel
theorem dX3_admit_80 : decode cX3_admit 80 = .ok (.iaload, 1) := by decide +kernel
theorem dX3_admit_81 : decode cX3_admit 81 = .ok (.iastore, 1) := by decide +kernel
theorem dX3_admit_82 : decode cX3_admit 82 = .ok (.aload_n 0, 1) := by decide +kernel
theorem dX3_admit_83 : decode cX3_admit 83 = .ok (.getfield 34, 3) := by decide +kernel
theorem dX3_admit_86 : decode cX3_admit 86 = .ok (.iload 4, 2) := by decide +kernel
theorem dX3_admit_88 : decode cX3_admit 88 = .ok (.aload_n 0, 1) := by decide +kernel
theorem dX3_admit_89 : decode cX3_admit 89 = .ok (.getfield 34, 3) := by decide +kernel
theorem dX3_admit_92 : decode cX3_admit 92 = .ok (.iload 4, 2) := by decide +kernel
theorem dX3_admit_94 : decode cX3_admit 94 = .ok (.iconst 1, 1) := by decide +kernel
theorem dX3_admit_95 : decode cX3_admit 95 = .ok (.isub, 1) := by decide +kernel
theorem dX3_admit_96 : decode cX3_admit 96 = .ok (.baload, 1) := by decide +kernel
theorem dX3_admit_97 : decode cX3_admit 97 = .ok (.bastore, 1) := by decide +kernel
theorem dX3_admit_98 : decode cX3_admit 98 = .ok (.iinc 4 (-1), 3) := by decide +kernel
theorem dX3_admit_101 : decode cX3_admit 101 = .ok (.goto (-85), 3) := by decide +kernel
theorem dX3_admit_104 : decode cX3_admit 104 = .ok (.aload_n 0, 1) := by decide +kernel
theorem dX3_admit_105 : decode cX3_admit 105 = .ok (.getfield 23, 3) := by decide +kernel
theorem dX3_admit_108 : decode cX3_admit 108 = .ok (.iload 4, 2) := by decide +kernel
theorem dX3_admit_110 : decode cX3_admit 110 = .ok (.aload_n 3, 1) := by decide +kernel
theorem dX3_admit_111 : decode cX3_admit 111 = .ok (.aastore, 1) := by decide +kernel
theorem dX3_admit_112 : decode cX3_admit 112 = .ok (.aload_n 0, 1) := by decide +kernel
theorem dX3_admit_113 : decode cX3_admit 113 = .ok (.getfield 27, 3) := by decide +kernel
theorem dX3_admit_116 : decode cX3_admit 116 = .ok (.iload 4, 2) := by decide +kernel
theorem dX3_admit_118 : decode cX3_admit 118 = .ok (.iload_n 1, 1) := by decide +kernel
theorem dX3_admit_119 : decode cX3_admit 119 = .ok (.iastore, 1) := by decide +kernel
theorem dX3_admit_120 : decode cX3_admit 120 = .ok (.aload_n 0, 1) := by decide +kernel
theorem dX3_admit_121 : decode cX3_admit 121 = .ok (.getfield 31, 3) := by decide +kernel
theorem dX3_admit_124 : decode cX3_admit 124 = .ok (.iload 4, 2) := by decide +kernel
theorem dX3_admit_126 : decode cX3_admit 126 = .ok (.iload_n 2, 1) := by decide +kernel
theorem dX3_admit_127 : decode cX3_admit 127 = .ok (.iastore, 1) := by decide +kernel
theorem dX3_admit_128 : decode cX3_admit 128 = .ok (.aload_n 0, 1) := by decide +kernel
theorem dX3_admit_129 : decode cX3_admit 129 = .ok (.dup, 1) := by decide +kernel
theorem dX3_admit_130 : decode cX3_admit 130 = .ok (.getfield 38, 3) := by decide +kernel
theorem dX3_admit_133 : decode cX3_admit 133 = .ok (.iconst 1, 1) := by decide +kernel
theorem dX3_admit_134 : decode cX3_admit 134 = .ok (.iadd, 1) := by decide +kernel
theorem dX3_admit_135 : decode cX3_admit 135 = .ok (.putfield 38, 3) := by decide +kernel
theorem dX3_admit_138 : decode cX3_admit 138 = .ok (.aload_n 0, 1) := by decide +kernel
theorem dX3_admit_139 : decode cX3_admit 139 = .ok (.dup, 1) := by decide +kernel
theorem dX3_admit_140 : decode cX3_admit 140 = .ok (.getfield 41, 3) := by decide +kernel
theorem dX3_admit_143 : decode cX3_admit 143 = .ok (.iconst 1, 1) := by decide +kernel
theorem dX3_admit_144 : decode cX3_admit 144 = .ok (.isub, 1) := by decide +kernel
theorem dX3_admit_145 : decode cX3_admit 145 = .ok (.putfield 41, 3) := by decide +kernel
theorem dX3_admit_148 : decode cX3_admit 148 = .ok (.aload_n 0, 1) := by decide +kernel
theorem dX3_admit_149 : decode cX3_admit 149 = .ok (.iload 4, 2) := by decide +kernel
theorem dX3_admit_151 : decode cX3_admit 151 = .ok (.invokevirtual 142, 3) := by decide +kernel
theorem dX3_admit_154 : decode cX3_admit 154 = .ok (.aload_n 0, 1) := by decide +kernel
theorem dX3_admit_155 : decode cX3_admit 155 = .ok (.iload 4, 2) := by decide +kernel
theorem dX3_admit_157 : decode cX3_admit 157 = .ok (.iconst 1, 1) := by decide +kernel
theorem dX3_admit_158 : decode cX3_admit 158 = .ok (.isub, 1) := by decide +kernel
theorem dX3_admit_159 : decode cX3_admit 159 = .ok (.invokevirtual 142, 3) := by decide +kernel
theorem dX3_admit_162 : decode cX3_admit 162 = .ok (.return_, 1) := by decide +kernel
theorem dX3_unsettle_0 : decode cX3_unsettle 0 = .ok (.iload_n 1, 1) := by decide +kernel
theorem dX3_unsettle_1 : decode cX3_unsettle 1 = .ok (.ifCond .lt 10, 3) := by decide +kernel
theorem dX3_unsettle_4 : decode cX3_unsettle 4 = .ok (.aload_n 0, 1) := by decide +kernel
theorem dX3_unsettle_5 : decode cX3_unsettle 5 = .ok (.getfield 34, 3) := by decide +kernel
theorem dX3_unsettle_8 : decode cX3_unsettle 8 = .ok (.iload_n 1, 1) := by decide +kernel
theorem dX3_unsettle_9 : decode cX3_unsettle 9 = .ok (.iconst 0, 1) := by decide +kernel
theorem dX3_unsettle_10 : decode cX3_unsettle 10 = .ok (.bastore, 1) := by decide +kernel
theorem dX3_unsettle_11 : decode cX3_unsettle 11 = .ok (.return_, 1) := by decide +kernel
theorem dX3_cheapestPair_0 : decode cX3_cheapestPair 0 = .ok (.iconst (-1), 1) := by decide +kernel
theorem dX3_cheapestPair_1 : decode cX3_cheapestPair 1 = .ok (.istore_n 1, 1) := by decide +kernel
theorem dX3_cheapestPair_2 : decode cX3_cheapestPair 2 = .ok (.bipush 13, 2) := by decide +kernel
theorem dX3_cheapestPair_4 : decode cX3_cheapestPair 4 = .ok (.istore_n 2, 1) := by decide +kernel
theorem dX3_cheapestPair_5 : decode cX3_cheapestPair 5 = .ok (.iconst 0, 1) := by decide +kernel
theorem dX3_cheapestPair_6 : decode cX3_cheapestPair 6 = .ok (.istore_n 3, 1) := by decide +kernel
theorem dX3_cheapestPair_7 : decode cX3_cheapestPair 7 = .ok (.iload_n 3, 1) := by decide +kernel
theorem dX3_cheapestPair_8 : decode cX3_cheapestPair 8 = .ok (.iconst 1, 1) := by decide +kernel
theorem dX3_cheapestPair_9 : decode cX3_cheapestPair 9 = .ok (.iadd, 1) := by decide +kernel
theorem dX3_cheapestPair_10 : decode cX3_cheapestPair 10 = .ok (.aload_n 0, 1) := by decide +kernel
theorem dX3_cheapestPair_11 : decode cX3_cheapestPair 11 = .ok (.getfield 38, 3) := by decide +kernel
theorem dX3_cheapestPair_14 : decode cX3_cheapestPair 14 = .ok (.if_icmp .ge 46, 3) := by decide +kernel
theorem dX3_cheapestPair_17 : decode cX3_cheapestPair 17 = .ok (.aload_n 0, 1) := by decide +kernel
theorem dX3_cheapestPair_18 : decode cX3_cheapestPair 18 = .ok (.getfield 27, 3) := by decide +kernel
theorem dX3_cheapestPair_21 : decode cX3_cheapestPair 21 = .ok (.iload_n 3, 1) := by decide +kernel
theorem dX3_cheapestPair_22 : decode cX3_cheapestPair 22 = .ok (.iaload, 1) := by decide +kernel
theorem dX3_cheapestPair_23 : decode cX3_cheapestPair 23 = .ok (.aload_n 0, 1) := by decide +kernel
theorem dX3_cheapestPair_24 : decode cX3_cheapestPair 24 = .ok (.getfield 31, 3) := by decide +kernel
theorem dX3_cheapestPair_27 : decode cX3_cheapestPair 27 = .ok (.iload_n 3, 1) := by decide +kernel
theorem dX3_cheapestPair_28 : decode cX3_cheapestPair 28 = .ok (.iconst 1, 1) := by decide +kernel
theorem dX3_cheapestPair_29 : decode cX3_cheapestPair 29 = .ok (.iadd, 1) := by decide +kernel
theorem dX3_cheapestPair_30 : decode cX3_cheapestPair 30 = .ok (.iaload, 1) := by decide +kernel
theorem dX3_cheapestPair_31 : decode cX3_cheapestPair 31 = .ok (.iadd, 1) := by decide +kernel
theorem dX3_cheapestPair_32 : decode cX3_cheapestPair 32 = .ok (.istore 4, 2) := by decide +kernel
theorem dX3_cheapestPair_34 : decode cX3_cheapestPair 34 = .ok (.aload_n 0, 1) := by decide +kernel
theorem dX3_cheapestPair_35 : decode cX3_cheapestPair 35 = .ok (.getfield 34, 3) := by decide +kernel
theorem dX3_cheapestPair_38 : decode cX3_cheapestPair 38 = .ok (.iload_n 3, 1) := by decide +kernel
theorem dX3_cheapestPair_39 : decode cX3_cheapestPair 39 = .ok (.baload, 1) := by decide +kernel
theorem dX3_cheapestPair_40 : decode cX3_cheapestPair 40 = .ok (.ifCond .ne 14, 3) := by decide +kernel
theorem dX3_cheapestPair_43 : decode cX3_cheapestPair 43 = .ok (.iload 4, 2) := by decide +kernel
theorem dX3_cheapestPair_45 : decode cX3_cheapestPair 45 = .ok (.iload_n 2, 1) := by decide +kernel
theorem dX3_cheapestPair_46 : decode cX3_cheapestPair 46 = .ok (.if_icmp .ge 8, 3) := by decide +kernel
theorem dX3_cheapestPair_49 : decode cX3_cheapestPair 49 = .ok (.iload_n 3, 1) := by decide +kernel
theorem dX3_cheapestPair_50 : decode cX3_cheapestPair 50 = .ok (.istore_n 1, 1) := by decide +kernel
theorem dX3_cheapestPair_51 : decode cX3_cheapestPair 51 = .ok (.iload 4, 2) := by decide +kernel
theorem dX3_cheapestPair_53 : decode cX3_cheapestPair 53 = .ok (.istore_n 2, 1) := by decide +kernel
theorem dX3_cheapestPair_54 : decode cX3_cheapestPair 54 = .ok (.iinc 3 1, 3) := by decide +kernel
theorem dX3_cheapestPair_57 : decode cX3_cheapestPair 57 = .ok (.goto (-50), 3) := by decide +kernel
theorem dX3_cheapestPair_60 : decode cX3_cheapestPair 60 = .ok (.iload_n 1, 1) := by decide +kernel
theorem dX3_cheapestPair_61 : decode cX3_cheapestPair 61 = .ok (.ireturn, 1) := by decide +kernel
theorem dX3_cross_0 : decode cX3_cross 0 = .ok (.aload_n 0, 1) := by decide +kernel
theorem dX3_cross_1 : decode cX3_cross 1 = .ok (.getfield 38, 3) := by decide +kernel
theorem dX3_cross_4 : decode cX3_cross 4 = .ok (.bipush 6, 2) := by decide +kernel
theorem dX3_cross_6 : decode cX3_cross 6 = .ok (.if_icmp .lt 4, 3) := by decide +kernel
theorem dX3_cross_9 : decode cX3_cross 9 = .ok (.return_, 1) := by decide +kernel
theorem dX3_cross_10 : decode cX3_cross 10 = .ok (.aload_n 0, 1) := by decide +kernel
theorem dX3_cross_11 : decode cX3_cross 11 = .ok (.getfield 23, 3) := by decide +kernel
theorem dX3_cross_14 : decode cX3_cross 14 = .ok (.aload_n 0, 1) := by decide +kernel
theorem dX3_cross_15 : decode cX3_cross 15 = .ok (.getfield 38, 3) := by decide +kernel
theorem dX3_cross_18 : decode cX3_cross 18 = .ok (.aaload, 1) := by decide +kernel
theorem dX3_cross_19 : decode cX3_cross 19 = .ok (.astore_n 2, 1) := by decide +kernel
theorem dX3_cross_20 : decode cX3_cross 20 = .ok (.aload_n 0, 1) := by decide +kernel
theorem dX3_cross_21 : decode cX3_cross 21 = .ok (.getfield 23, 3) := by decide +kernel
theorem dX3_cross_24 : decode cX3_cross 24 = .ok (.iload_n 1, 1) := by decide +kernel
theorem dX3_cross_25 : decode cX3_cross 25 = .ok (.aaload, 1) := by decide +kernel
theorem dX3_cross_26 : decode cX3_cross 26 = .ok (.astore_n 3, 1) := by decide +kernel
theorem dX3_cross_27 : decode cX3_cross 27 = .ok (.aload_n 0, 1) := by decide +kernel
theorem dX3_cross_28 : decode cX3_cross 28 = .ok (.getfield 23, 3) := by decide +kernel
theorem dX3_cross_31 : decode cX3_cross 31 = .ok (.iload_n 1, 1) := by decide +kernel
theorem dX3_cross_32 : decode cX3_cross 32 = .ok (.iconst 1, 1) := by decide +kernel
theorem dX3_cross_33 : decode cX3_cross 33 = .ok (.iadd, 1) := by decide +kernel
theorem dX3_cross_34 : decode cX3_cross 34 = .ok (.aaload, 1) := by decide +kernel
theorem dX3_cross_35 : decode cX3_cross 35 = .ok (.astore 4, 2) := by decide +kernel
theorem dX3_cross_37 : decode cX3_cross 37 = .ok (.iconst 0, 1) := by decide +kernel
theorem dX3_cross_38 : decode cX3_cross 38 = .ok (.aload_n 0, 1) := by decide +kernel
theorem dX3_cross_39 : decode cX3_cross 39 = .ok (.getfield 31, 3) := by decide +kernel
theorem dX3_cross_42 : decode cX3_cross 42 = .ok (.iload_n 1, 1) := by decide +kernel
theorem dX3_cross_43 : decode cX3_cross 43 = .ok (.iconst 1, 1) := by decide +kernel
theorem dX3_cross_44 : decode cX3_cross 44 = .ok (.iadd, 1) := by decide +kernel
theorem dX3_cross_45 : decode cX3_cross 45 = .ok (.iaload, 1) := by decide +kernel
theorem dX3_cross_46 : decode cX3_cross 46 = .ok (.aload_n 0, 1) := by decide +kernel
theorem dX3_cross_47 : decode cX3_cross 47 = .ok (.getfield 31, 3) := by decide +kernel
theorem dX3_cross_50 : decode cX3_cross 50 = .ok (.iload_n 1, 1) := by decide +kernel
theorem dX3_cross_51 : decode cX3_cross 51 = .ok (.iaload, 1) := by decide +kernel
theorem dX3_cross_52 : decode cX3_cross 52 = .ok (.isub, 1) := by decide +kernel
theorem dX3_cross_53 : decode cX3_cross 53 = .ok (.invokestatic 145, 3) := by decide +kernel
theorem dX3_cross_56 : decode cX3_cross 56 = .ok (.istore 5, 2) := by decide +kernel
theorem dX3_cross_58 : decode cX3_cross 58 = .ok (.aload_n 0, 1) := by decide +kernel
theorem dX3_cross_59 : decode cX3_cross 59 = .ok (.getfield 27, 3) := by decide +kernel
theorem dX3_cross_62 : decode cX3_cross 62 = .ok (.iload_n 1, 1) := by decide +kernel
theorem dX3_cross_63 : decode cX3_cross 63 = .ok (.iaload, 1) := by decide +kernel
theorem dX3_cross_64 : decode cX3_cross 64 = .ok (.aload_n 0, 1) := by decide +kernel
theorem dX3_cross_65 : decode cX3_cross 65 = .ok (.getfield 27, 3) := by decide +kernel
theorem dX3_cross_68 : decode cX3_cross 68 = .ok (.iload_n 1, 1) := by decide +kernel
theorem dX3_cross_69 : decode cX3_cross 69 = .ok (.iconst 1, 1) := by decide +kernel
theorem dX3_cross_70 : decode cX3_cross 70 = .ok (.iadd, 1) := by decide +kernel
theorem dX3_cross_71 : decode cX3_cross 71 = .ok (.iaload, 1) := by decide +kernel
theorem dX3_cross_72 : decode cX3_cross 72 = .ok (.isub, 1) := by decide +kernel
theorem dX3_cross_73 : decode cX3_cross 73 = .ok (.iconst 0, 1) := by decide +kernel
theorem dX3_cross_74 : decode cX3_cross 74 = .ok (.invokestatic 145, 3) := by decide +kernel
theorem dX3_cross_77 : decode cX3_cross 77 = .ok (.istore 6, 2) := by decide +kernel
theorem dX3_cross_79 : decode cX3_cross 79 = .ok (.aload_n 2, 1) := by decide +kernel
theorem dX3_cross_80 : decode cX3_cross 80 = .ok (.invokevirtual 149, 3) := by decide +kernel
theorem dX3_cross_83 : decode cX3_cross 83 = .ok (.aload_n 0, 1) := by decide +kernel
theorem dX3_cross_84 : decode cX3_cross 84 = .ok (.getfield 47, 3) := by decide +kernel
theorem dX3_cross_87 : decode cX3_cross 87 = .ok (.aload_n 2, 1) := by decide +kernel
theorem dX3_cross_88 : decode cX3_cross 88 = .ok (.iconst 1, 1) := by decide +kernel
theorem dX3_cross_89 : decode cX3_cross 89 = .ok (.iload 5, 2) := by decide +kernel
theorem dX3_cross_91 : decode cX3_cross 91 = .ok (.aload_n 3, 1) := by decide +kernel
theorem dX3_cross_92 : decode cX3_cross 92 = .ok (.aload_n 3, 1) := by decide +kernel
theorem dX3_cross_93 : decode cX3_cross 93 = .ok (.invokevirtual 152, 3) := by decide +kernel
theorem dX3_cross_96 : decode cX3_cross 96 = .ok (.invokevirtual 155, 3) := by decide +kernel
theorem dX3_cross_99 : decode cX3_cross 99 = .ok (.aload_n 0, 1) := by decide +kernel
end
section
theorem dX3_cross_100 : decode cX3_cross 100 = .ok (.getfield 47, 3) := by decide +kernel
theorem dX3_cross_103 : decode cX3_cross 103 = .ok (.aload_n 2, 1) := by decide +kernel
theorem dX3_cross_104 : decode cX3_cross 104 = .ok (.sipush 10006, 3) := by decide +kernel
theorem dX3_cross_107 : decode cX3_cross 107 = .ok (.iload 6, 2) := by decide +kernel
theorem dX3_cross_109 : decode cX3_cross 109 = .ok (.aload 4, 2) := by decide +kernel
theorem dX3_cross_111 : decode cX3_cross 111 = .ok (.aload 4, 2) := by decide +kernel
theorem dX3_cross_113 : decode cX3_cross 113 = .ok (.invokevirtual 152, 3) := by decide +kernel
theorem dX3_cross_116 : decode cX3_cross 116 = .ok (.invokevirtual 155, 3) := by decide +kernel
theorem dX3_cross_119 : decode cX3_cross 119 = .ok (.aload_n 0, 1) := by decide +kernel
theorem dX3_cross_120 : decode cX3_cross 120 = .ok (.iconst 1, 1) := by decide +kernel
theorem dX3_cross_121 : decode cX3_cross 121 = .ok (.putfield 41, 3) := by decide +kernel
theorem dX3_cross_124 : decode cX3_cross 124 = .ok (.return_, 1) := by decide +kernel
theorem dX3_reduceTails_0 : decode cX3_reduceTails 0 = .ok (.iconst 0, 1) := by decide +kernel
theorem dX3_reduceTails_1 : decode cX3_reduceTails 1 = .ok (.istore_n 1, 1) := by decide +kernel
theorem dX3_reduceTails_2 : decode cX3_reduceTails 2 = .ok (.iload_n 1, 1) := by decide +kernel
theorem dX3_reduceTails_3 : decode cX3_reduceTails 3 = .ok (.aload_n 0, 1) := by decide +kernel
theorem dX3_reduceTails_4 : decode cX3_reduceTails 4 = .ok (.getfield 38, 3) := by decide +kernel
theorem dX3_reduceTails_7 : decode cX3_reduceTails 7 = .ok (.if_icmp .ge 67, 3) := by decide +kernel
theorem dX3_reduceTails_10 : decode cX3_reduceTails 10 = .ok (.aload_n 0, 1) := by decide +kernel
theorem dX3_reduceTails_11 : decode cX3_reduceTails 11 = .ok (.getfield 51, 3) := by decide +kernel
theorem dX3_reduceTails_14 : decode cX3_reduceTails 14 = .ok (.aload_n 0, 1) := by decide +kernel
theorem dX3_reduceTails_15 : decode cX3_reduceTails 15 = .ok (.getfield 44, 3) := by decide +kernel
theorem dX3_reduceTails_18 : decode cX3_reduceTails 18 = .ok (.invokevirtual 104, 3) := by decide +kernel
theorem dX3_reduceTails_21 : decode cX3_reduceTails 21 = .ok (.iconst 0, 1) := by decide +kernel
theorem dX3_reduceTails_22 : decode cX3_reduceTails 22 = .ok (.istore_n 2, 1) := by decide +kernel
theorem dX3_reduceTails_23 : decode cX3_reduceTails 23 = .ok (.iload_n 2, 1) := by decide +kernel
theorem dX3_reduceTails_24 : decode cX3_reduceTails 24 = .ok (.aload_n 0, 1) := by decide +kernel
theorem dX3_reduceTails_25 : decode cX3_reduceTails 25 = .ok (.getfield 38, 3) := by decide +kernel
theorem dX3_reduceTails_28 : decode cX3_reduceTails 28 = .ok (.if_icmp .ge 27, 3) := by decide +kernel
theorem dX3_reduceTails_31 : decode cX3_reduceTails 31 = .ok (.iload_n 2, 1) := by decide +kernel
theorem dX3_reduceTails_32 : decode cX3_reduceTails 32 = .ok (.iload_n 1, 1) := by decide +kernel
theorem dX3_reduceTails_33 : decode cX3_reduceTails 33 = .ok (.if_icmp .eq 16, 3) := by decide +kernel
theorem dX3_reduceTails_36 : decode cX3_reduceTails 36 = .ok (.aload_n 0, 1) := by decide +kernel
theorem dX3_reduceTails_37 : decode cX3_reduceTails 37 = .ok (.getfield 51, 3) := by decide +kernel
theorem dX3_reduceTails_40 : decode cX3_reduceTails 40 = .ok (.aload_n 0, 1) := by decide +kernel
theorem dX3_reduceTails_41 : decode cX3_reduceTails 41 = .ok (.getfield 23, 3) := by decide +kernel
theorem dX3_reduceTails_44 : decode cX3_reduceTails 44 = .ok (.iload_n 2, 1) := by decide +kernel
theorem dX3_reduceTails_45 : decode cX3_reduceTails 45 = .ok (.aaload, 1) := by decide +kernel
theorem dX3_reduceTails_46 : decode cX3_reduceTails 46 = .ok (.invokevirtual 108, 3) := by decide +kernel
theorem dX3_reduceTails_49 : decode cX3_reduceTails 49 = .ok (.iinc 2 1, 3) := by decide +kernel
theorem dX3_reduceTails_52 : decode cX3_reduceTails 52 = .ok (.goto (-29), 3) := by decide +kernel
theorem dX3_reduceTails_55 : decode cX3_reduceTails 55 = .ok (.aload_n 0, 1) := by decide +kernel
theorem dX3_reduceTails_56 : decode cX3_reduceTails 56 = .ok (.getfield 51, 3) := by decide +kernel
theorem dX3_reduceTails_59 : decode cX3_reduceTails 59 = .ok (.aload_n 0, 1) := by decide +kernel
theorem dX3_reduceTails_60 : decode cX3_reduceTails 60 = .ok (.getfield 23, 3) := by decide +kernel
theorem dX3_reduceTails_63 : decode cX3_reduceTails 63 = .ok (.iload_n 1, 1) := by decide +kernel
theorem dX3_reduceTails_64 : decode cX3_reduceTails 64 = .ok (.aaload, 1) := by decide +kernel
theorem dX3_reduceTails_65 : decode cX3_reduceTails 65 = .ok (.invokevirtual 111, 3) := by decide +kernel
theorem dX3_reduceTails_68 : decode cX3_reduceTails 68 = .ok (.iinc 1 1, 3) := by decide +kernel
theorem dX3_reduceTails_71 : decode cX3_reduceTails 71 = .ok (.goto (-69), 3) := by decide +kernel
theorem dX3_reduceTails_74 : decode cX3_reduceTails 74 = .ok (.return_, 1) := by decide +kernel
theorem dX3_handOver_0 : decode cX3_handOver 0 = .ok (.iconst (-1), 1) := by decide +kernel
theorem dX3_handOver_1 : decode cX3_handOver 1 = .ok (.istore_n 2, 1) := by decide +kernel
theorem dX3_handOver_2 : decode cX3_handOver 2 = .ok (.iconst 0, 1) := by decide +kernel
theorem dX3_handOver_3 : decode cX3_handOver 3 = .ok (.istore_n 3, 1) := by decide +kernel
theorem dX3_handOver_4 : decode cX3_handOver 4 = .ok (.iload_n 3, 1) := by decide +kernel
theorem dX3_handOver_5 : decode cX3_handOver 5 = .ok (.aload_n 0, 1) := by decide +kernel
theorem dX3_handOver_6 : decode cX3_handOver 6 = .ok (.getfield 38, 3) := by decide +kernel
theorem dX3_handOver_9 : decode cX3_handOver 9 = .ok (.if_icmp .ge 100, 3) := by decide +kernel
theorem dX3_handOver_12 : decode cX3_handOver 12 = .ok (.iconst (-1), 1) := by decide +kernel
theorem dX3_handOver_13 : decode cX3_handOver 13 = .ok (.istore 4, 2) := by decide +kernel
theorem dX3_handOver_15 : decode cX3_handOver 15 = .ok (.bipush 91, 2) := by decide +kernel
theorem dX3_handOver_17 : decode cX3_handOver 17 = .ok (.istore 5, 2) := by decide +kernel
theorem dX3_handOver_19 : decode cX3_handOver 19 = .ok (.iconst 0, 1) := by decide +kernel
theorem dX3_handOver_20 : decode cX3_handOver 20 = .ok (.istore 6, 2) := by decide +kernel
theorem dX3_handOver_22 : decode cX3_handOver 22 = .ok (.iload 6, 2) := by decide +kernel
theorem dX3_handOver_24 : decode cX3_handOver 24 = .ok (.aload_n 0, 1) := by decide +kernel
theorem dX3_handOver_25 : decode cX3_handOver 25 = .ok (.getfield 38, 3) := by decide +kernel
theorem dX3_handOver_28 : decode cX3_handOver 28 = .ok (.if_icmp .ge 56, 3) := by decide +kernel
theorem dX3_handOver_31 : decode cX3_handOver 31 = .ok (.aload_n 0, 1) := by decide +kernel
theorem dX3_handOver_32 : decode cX3_handOver 32 = .ok (.getfield 44, 3) := by decide +kernel
theorem dX3_handOver_35 : decode cX3_handOver 35 = .ok (.aload_n 0, 1) := by decide +kernel
theorem dX3_handOver_36 : decode cX3_handOver 36 = .ok (.getfield 27, 3) := by decide +kernel
theorem dX3_handOver_39 : decode cX3_handOver 39 = .ok (.iload 6, 2) := by decide +kernel
theorem dX3_handOver_41 : decode cX3_handOver 41 = .ok (.iaload, 1) := by decide +kernel
theorem dX3_handOver_42 : decode cX3_handOver 42 = .ok (.aload_n 0, 1) := by decide +kernel
theorem dX3_handOver_43 : decode cX3_handOver 43 = .ok (.getfield 31, 3) := by decide +kernel
theorem dX3_handOver_46 : decode cX3_handOver 46 = .ok (.iload 6, 2) := by decide +kernel
theorem dX3_handOver_48 : decode cX3_handOver 48 = .ok (.iaload, 1) := by decide +kernel
theorem dX3_handOver_49 : decode cX3_handOver 49 = .ok (.invokestatic 145, 3) := by decide +kernel
theorem dX3_handOver_52 : decode cX3_handOver 52 = .ok (.invokestatic 159, 3) := by decide +kernel
theorem dX3_handOver_55 : decode cX3_handOver 55 = .ok (.istore 7, 2) := by decide +kernel
theorem dX3_handOver_57 : decode cX3_handOver 57 = .ok (.iload 7, 2) := by decide +kernel
theorem dX3_handOver_59 : decode cX3_handOver 59 = .ok (.iload_n 2, 1) := by decide +kernel
theorem dX3_handOver_60 : decode cX3_handOver 60 = .ok (.if_icmp .le 18, 3) := by decide +kernel
theorem dX3_handOver_63 : decode cX3_handOver 63 = .ok (.iload 7, 2) := by decide +kernel
theorem dX3_handOver_65 : decode cX3_handOver 65 = .ok (.iload 5, 2) := by decide +kernel
theorem dX3_handOver_67 : decode cX3_handOver 67 = .ok (.if_icmp .ge 11, 3) := by decide +kernel
theorem dX3_handOver_70 : decode cX3_handOver 70 = .ok (.iload 6, 2) := by decide +kernel
theorem dX3_handOver_72 : decode cX3_handOver 72 = .ok (.istore 4, 2) := by decide +kernel
theorem dX3_handOver_74 : decode cX3_handOver 74 = .ok (.iload 7, 2) := by decide +kernel
theorem dX3_handOver_76 : decode cX3_handOver 76 = .ok (.istore 5, 2) := by decide +kernel
theorem dX3_handOver_78 : decode cX3_handOver 78 = .ok (.iinc 6 1, 3) := by decide +kernel
theorem dX3_handOver_81 : decode cX3_handOver 81 = .ok (.goto (-59), 3) := by decide +kernel
theorem dX3_handOver_84 : decode cX3_handOver 84 = .ok (.iload 4, 2) := by decide +kernel
theorem dX3_handOver_86 : decode cX3_handOver 86 = .ok (.ifCond .lt 14, 3) := by decide +kernel
theorem dX3_handOver_89 : decode cX3_handOver 89 = .ok (.aload_n 1, 1) := by decide +kernel
theorem dX3_handOver_90 : decode cX3_handOver 90 = .ok (.aload_n 0, 1) := by decide +kernel
theorem dX3_handOver_91 : decode cX3_handOver 91 = .ok (.getfield 23, 3) := by decide +kernel
theorem dX3_handOver_94 : decode cX3_handOver 94 = .ok (.iload 4, 2) := by decide +kernel
theorem dX3_handOver_96 : decode cX3_handOver 96 = .ok (.aaload, 1) := by decide +kernel
theorem dX3_handOver_97 : decode cX3_handOver 97 = .ok (.invokevirtual 162, 3) := by decide +kernel
theorem dX3_handOver_100 : decode cX3_handOver 100 = .ok (.iload 5, 2) := by decide +kernel
theorem dX3_handOver_102 : decode cX3_handOver 102 = .ok (.istore_n 2, 1) := by decide +kernel
theorem dX3_handOver_103 : decode cX3_handOver 103 = .ok (.iinc 3 1, 3) := by decide +kernel
theorem dX3_handOver_106 : decode cX3_handOver 106 = .ok (.goto (-102), 3) := by decide +kernel
theorem dX3_handOver_109 : decode cX3_handOver 109 = .ok (.return_, 1) := by decide +kernel
theorem dX4_init_0 : decode cX4_init 0 = .ok (.aload_n 0, 1) := by decide +kernel
theorem dX4_init_1 : decode cX4_init 1 = .ok (.invokespecial 3, 3) := by decide +kernel
theorem dX4_init_4 : decode cX4_init 4 = .ok (.aload_n 0, 1) := by decide +kernel
theorem dX4_init_5 : decode cX4_init 5 = .ok (.bipush 6, 2) := by decide +kernel
theorem dX4_init_7 : decode cX4_init 7 = .ok (.anewarray 9, 3) := by decide +kernel
theorem dX4_init_10 : decode cX4_init 10 = .ok (.putfield 11, 3) := by decide +kernel
theorem dX4_init_13 : decode cX4_init 13 = .ok (.aload_n 0, 1) := by decide +kernel
theorem dX4_init_14 : decode cX4_init 14 = .ok (.bipush 6, 2) := by decide +kernel
theorem dX4_init_16 : decode cX4_init 16 = .ok (.newarray .int, 2) := by decide +kernel
theorem dX4_init_18 : decode cX4_init 18 = .ok (.putfield 17, 3) := by decide +kernel
theorem dX4_init_21 : decode cX4_init 21 = .ok (.aload_n 0, 1) := by decide +kernel
theorem dX4_init_22 : decode cX4_init 22 = .ok (.bipush 6, 2) := by decide +kernel
theorem dX4_init_24 : decode cX4_init 24 = .ok (.newarray .int, 2) := by decide +kernel
theorem dX4_init_26 : decode cX4_init 26 = .ok (.putfield 21, 3) := by decide +kernel
theorem dX4_init_29 : decode cX4_init 29 = .ok (.aload_n 0, 1) := by decide +kernel
theorem dX4_init_30 : decode cX4_init 30 = .ok (.bipush 6, 2) := by decide +kernel
theorem dX4_init_32 : decode cX4_init 32 = .ok (.newarray .int, 2) := by decide +kernel
theorem dX4_init_34 : decode cX4_init 34 = .ok (.putfield 24, 3) := by decide +kernel
theorem dX4_init_37 : decode cX4_init 37 = .ok (.aload_n 0, 1) := by decide +kernel
theorem dX4_init_38 : decode cX4_init 38 = .ok (.bipush 6, 2) := by decide +kernel
theorem dX4_init_40 : decode cX4_init 40 = .ok (.newarray .int, 2) := by decide +kernel
theorem dX4_init_42 : decode cX4_init 42 = .ok (.putfield 27, 3) := by decide +kernel
theorem dX4_init_45 : decode cX4_init 45 = .ok (.aload_n 0, 1) := by decide +kernel
theorem dX4_init_46 : decode cX4_init 46 = .ok (.iconst 0, 1) := by decide +kernel
theorem dX4_init_47 : decode cX4_init 47 = .ok (.putfield 30, 3) := by decide +kernel
theorem dX4_init_50 : decode cX4_init 50 = .ok (.aload_n 0, 1) := by decide +kernel
theorem dX4_init_51 : decode cX4_init 51 = .ok (.iconst 0, 1) := by decide +kernel
theorem dX4_init_52 : decode cX4_init 52 = .ok (.putfield 34, 3) := by decide +kernel
theorem dX4_init_55 : decode cX4_init 55 = .ok (.aload_n 0, 1) := by decide +kernel
theorem dX4_init_56 : decode cX4_init 56 = .ok (.aload_n 1, 1) := by decide +kernel
theorem dX4_init_57 : decode cX4_init 57 = .ok (.putfield 37, 3) := by decide +kernel
theorem dX4_init_60 : decode cX4_init 60 = .ok (.return_, 1) := by decide +kernel
theorem dX4_begin_0 : decode cX4_begin 0 = .ok (.aload_n 0, 1) := by decide +kernel
theorem dX4_begin_1 : decode cX4_begin 1 = .ok (.iload_n 1, 1) := by decide +kernel
theorem dX4_begin_2 : decode cX4_begin 2 = .ok (.putfield 34, 3) := by decide +kernel
theorem dX4_begin_5 : decode cX4_begin 5 = .ok (.aload_n 0, 1) := by decide +kernel
theorem dX4_begin_6 : decode cX4_begin 6 = .ok (.iconst 0, 1) := by decide +kernel
theorem dX4_begin_7 : decode cX4_begin 7 = .ok (.putfield 30, 3) := by decide +kernel
theorem dX4_begin_10 : decode cX4_begin 10 = .ok (.return_, 1) := by decide +kernel
theorem dX4_take_0 : decode cX4_take 0 = .ok (.aload_n 1, 1) := by decide +kernel
theorem dX4_take_1 : decode cX4_take 1 = .ok (.aload_n 0, 1) := by decide +kernel
theorem dX4_take_2 : decode cX4_take 2 = .ok (.getfield 34, 3) := by decide +kernel
theorem dX4_take_5 : decode cX4_take 5 = .ok (.invokevirtual 41, 3) := by decide +kernel
theorem dX4_take_8 : decode cX4_take 8 = .ok (.istore_n 2, 1) := by decide +kernel
theorem dX4_take_9 : decode cX4_take 9 = .ok (.iload_n 2, 1) := by decide +kernel
theorem dX4_take_10 : decode cX4_take 10 = .ok (.ifCond .lt 12, 3) := by decide +kernel
theorem dX4_take_13 : decode cX4_take 13 = .ok (.aload_n 0, 1) := by decide +kernel
theorem dX4_take_14 : decode cX4_take 14 = .ok (.getfield 30, 3) := by decide +kernel
theorem dX4_take_17 : decode cX4_take 17 = .ok (.bipush 6, 2) := by decide +kernel
theorem dX4_take_19 : decode cX4_take 19 = .ok (.if_icmp .lt 4, 3) := by decide +kernel
theorem dX4_take_22 : decode cX4_take 22 = .ok (.return_, 1) := by decide +kernel
theorem dX4_take_23 : decode cX4_take 23 = .ok (.aload_n 0, 1) := by decide +kernel
theorem dX4_take_24 : decode cX4_take 24 = .ok (.getfield 11, 3) := by decide +kernel
theorem dX4_take_27 : decode cX4_take 27 = .ok (.aload_n 0, 1) := by decide +kernel
theorem dX4_take_28 : decode cX4_take 28 = .ok (.getfield 30, 3) := by decide +kernel
theorem dX4_take_31 : decode cX4_take 31 = .ok (.aload_n 1, 1) := by decide +kernel
theorem dX4_take_32 : decode cX4_take 32 = .ok (.aastore, 1) := by decide +kernel
theorem dX4_take_33 : decode cX4_take 33 = .ok (.aload_n 0, 1) := by decide +kernel
theorem dX4_take_34 : decode cX4_take 34 = .ok (.getfield 17, 3) := by decide +kernel
theorem dX4_take_37 : decode cX4_take 37 = .ok (.aload_n 0, 1) := by decide +kernel
theorem dX4_take_38 : decode cX4_take 38 = .ok (.getfield 30, 3) := by decide +kernel
theorem dX4_take_41 : decode cX4_take 41 = .ok (.getstatic 45, 3) := by decide +kernel
theorem dX4_take_44 : decode cX4_take 44 = .ok (.iload_n 2, 1) := by decide +kernel
theorem dX4_take_45 : decode cX4_take 45 = .ok (.iaload, 1) := by decide +kernel
theorem dX4_take_46 : decode cX4_take 46 = .ok (.iastore, 1) := by decide +kernel
theorem dX4_take_47 : decode cX4_take 47 = .ok (.aload_n 0, 1) := by decide +kernel
theorem dX4_take_48 : decode cX4_take 48 = .ok (.getfield 21, 3) := by decide +kernel
theorem dX4_take_51 : decode cX4_take 51 = .ok (.aload_n 0, 1) := by decide +kernel
theorem dX4_take_52 : decode cX4_take 52 = .ok (.getfield 30, 3) := by decide +kernel
theorem dX4_take_55 : decode cX4_take 55 = .ok (.getstatic 48, 3) := by decide +kernel
theorem dX4_take_58 : decode cX4_take 58 = .ok (.iload_n 2, 1) := by decide +kernel
theorem dX4_take_59 : decode cX4_take 59 = .ok (.iaload, 1) := by decide +kernel
theorem dX4_take_60 : decode cX4_take 60 = .ok (.iastore, 1) := by decide +kernel
theorem dX4_take_61 : decode cX4_take 61 = .ok (.aload_n 0, 1) := by decide +kernel
theorem dX4_take_62 : decode cX4_take 62 = .ok (.getfield 24, 3) := by decide +kernel
theorem dX4_take_65 : decode cX4_take 65 = .ok (.aload_n 0, 1) := by decide +kernel
theorem dX4_take_66 : decode cX4_take 66 = .ok (.getfield 30, 3) := by decide +kernel
theorem dX4_take_69 : decode cX4_take 69 = .ok (.aload_n 1, 1) := by decide +kernel
theorem dX4_take_70 : decode cX4_take 70 = .ok (.getfield 51, 3) := by decide +kernel
theorem dX4_take_73 : decode cX4_take 73 = .ok (.iload_n 2, 1) := by decide +kernel
theorem dX4_take_74 : decode cX4_take 74 = .ok (.iaload, 1) := by decide +kernel
theorem dX4_take_75 : decode cX4_take 75 = .ok (.invokestatic 54, 3) := by decide +kernel
theorem dX4_take_78 : decode cX4_take 78 = .ok (.iastore, 1) := by decide +kernel
theorem dX4_take_79 : decode cX4_take 79 = .ok (.aload_n 0, 1) := by decide +kernel
theorem dX4_take_80 : decode cX4_take 80 = .ok (.getfield 27, 3) := by decide +kernel
theorem dX4_take_83 : decode cX4_take 83 = .ok (.aload_n 0, 1) := by decide +kernel
theorem dX4_take_84 : decode cX4_take 84 = .ok (.getfield 30, 3) := by decide +kernel
theorem dX4_take_87 : decode cX4_take 87 = .ok (.aload_n 1, 1) := by decide +kernel
theorem dX4_take_88 : decode cX4_take 88 = .ok (.invokevirtual 59, 3) := by decide +kernel
theorem dX4_take_91 : decode cX4_take 91 = .ok (.iastore, 1) := by decide +kernel
theorem dX4_take_92 : decode cX4_take 92 = .ok (.aload_n 0, 1) := by decide +kernel
theorem dX4_take_93 : decode cX4_take 93 = .ok (.dup, 1) := by decide +kernel
theorem dX4_take_94 : decode cX4_take 94 = .ok (.getfield 30, 3) := by decide +kernel
theorem dX4_take_97 : decode cX4_take 97 = .ok (.iconst 1, 1) := by decide +kernel
theorem dX4_take_98 : decode cX4_take 98 = .ok (.iadd, 1) := by decide +kernel
theorem dX4_take_99 : decode cX4_take 99 = .ok (.putfield 30, 3) := by decide +kernel
theorem dX4_take_102 : decode cX4_take 102 = .ok (.return_, 1) := by decide +kernel
theorem dX4_reduce_0 : decode cX4_reduce 0 = .ok (.aload_n 1, 1) := by decide +kernel
theorem dX4_reduce_1 : decode cX4_reduce 1 = .ok (.invokevirtual 63, 3) := by decide +kernel
theorem dX4_reduce_4 : decode cX4_reduce 4 = .ok (.istore_n 2, 1) := by decide +kernel
theorem dX4_reduce_5 : decode cX4_reduce 5 = .ok (.iload_n 2, 1) := by decide +kernel
theorem dX4_reduce_6 : decode cX4_reduce 6 = .ok (.ifCond .lt 50, 3) := by decide +kernel
theorem dX4_reduce_9 : decode cX4_reduce 9 = .ok (.iconst 0, 1) := by decide +kernel
theorem dX4_reduce_10 : decode cX4_reduce 10 = .ok (.istore_n 3, 1) := by decide +kernel
theorem dX4_reduce_11 : decode cX4_reduce 11 = .ok (.iload_n 3, 1) := by decide +kernel
theorem dX4_reduce_12 : decode cX4_reduce 12 = .ok (.iload_n 2, 1) := by decide +kernel
theorem dX4_reduce_13 : decode cX4_reduce 13 = .ok (.if_icmp .gt 37, 3) := by decide +kernel
theorem dX4_reduce_16 : decode cX4_reduce 16 = .ok (.aload_n 0, 1) := by decide +kernel
theorem dX4_reduce_17 : decode cX4_reduce 17 = .ok (.getfield 34, 3) := by decide +kernel
theorem dX4_reduce_20 : decode cX4_reduce 20 = .ok (.iload_n 2, 1) := by decide +kernel
theorem dX4_reduce_21 : decode cX4_reduce 21 = .ok (.iload_n 3, 1) := by decide +kernel
theorem dX4_reduce_22 : decode cX4_reduce 22 = .ok (.invokestatic 66, 3) := by decide +kernel
theorem dX4_reduce_25 : decode cX4_reduce 25 = .ok (.istore 4, 2) := by decide +kernel
theorem dX4_reduce_27 : decode cX4_reduce 27 = .ok (.aload_n 1, 1) := by decide +kernel
theorem dX4_reduce_28 : decode cX4_reduce 28 = .ok (.getfield 51, 3) := by decide +kernel
theorem dX4_reduce_31 : decode cX4_reduce 31 = .ok (.iload 4, 2) := by decide +kernel
theorem dX4_reduce_33 : decode cX4_reduce 33 = .ok (.iaload, 1) := by decide +kernel
theorem dX4_reduce_34 : decode cX4_reduce 34 = .ok (.ifCond .eq 10, 3) := by decide +kernel
theorem dX4_reduce_37 : decode cX4_reduce 37 = .ok (.aload_n 0, 1) := by decide +kernel
theorem dX4_reduce_38 : decode cX4_reduce 38 = .ok (.aload_n 1, 1) := by decide +kernel
theorem dX4_reduce_39 : decode cX4_reduce 39 = .ok (.iload 4, 2) := by decide +kernel
theorem dX4_reduce_41 : decode cX4_reduce 41 = .ok (.invokevirtual 70, 3) := by decide +kernel
theorem dX4_reduce_44 : decode cX4_reduce 44 = .ok (.iinc 3 1, 3) := by decide +kernel
theorem dX4_reduce_47 : decode cX4_reduce 47 = .ok (.goto (-36), 3) := by decide +kernel
theorem dX4_reduce_50 : decode cX4_reduce 50 = .ok (.iinc 2 (-1), 3) := by decide +kernel
theorem dX4_reduce_53 : decode cX4_reduce 53 = .ok (.goto (-48), 3) := by decide +kernel
theorem dX4_reduce_56 : decode cX4_reduce 56 = .ok (.return_, 1) := by decide +kernel
theorem dX4_cancel_0 : decode cX4_cancel 0 = .ok (.getstatic 45, 3) := by decide +kernel
theorem dX4_cancel_3 : decode cX4_cancel 3 = .ok (.iload_n 2, 1) := by decide +kernel
theorem dX4_cancel_4 : decode cX4_cancel 4 = .ok (.iaload, 1) := by decide +kernel
theorem dX4_cancel_5 : decode cX4_cancel 5 = .ok (.istore_n 3, 1) := by decide +kernel
theorem dX4_cancel_6 : decode cX4_cancel 6 = .ok (.getstatic 48, 3) := by decide +kernel
theorem dX4_cancel_9 : decode cX4_cancel 9 = .ok (.iload_n 2, 1) := by decide +kernel
theorem dX4_cancel_10 : decode cX4_cancel 10 = .ok (.iaload, 1) := by decide +kernel
theorem dX4_cancel_11 : decode cX4_cancel 11 = .ok (.istore 4, 2) := by decide +kernel
theorem dX4_cancel_13 : decode cX4_cancel 13 = .ok (.iconst 0, 1) := by decide +kernel
theorem dX4_cancel_14 : decode cX4_cancel 14 = .ok (.istore 5, 2) := by decide +kernel
theorem dX4_cancel_16 : decode cX4_cancel 16 = .ok (.iload 5, 2) := by decide +kernel
theorem dX4_cancel_18 : decode cX4_cancel 18 = .ok (.aload_n 0, 1) := by decide +kernel
theorem dX4_cancel_19 : decode cX4_cancel 19 = .ok (.getfield 30, 3) := by decide +kernel
theorem dX4_cancel_22 : decode cX4_cancel 22 = .ok (.if_icmp .ge 107, 3) := by decide +kernel
theorem dX4_cancel_25 : decode cX4_cancel 25 = .ok (.aload_n 0, 1) := by decide +kernel
theorem dX4_cancel_26 : decode cX4_cancel 26 = .ok (.getfield 17, 3) := by decide +kernel
theorem dX4_cancel_29 : decode cX4_cancel 29 = .ok (.iload 5, 2) := by decide +kernel
theorem dX4_cancel_31 : decode cX4_cancel 31 = .ok (.iaload, 1) := by decide +kernel
theorem dX4_cancel_32 : decode cX4_cancel 32 = .ok (.iload_n 3, 1) := by decide +kernel
theorem dX4_cancel_33 : decode cX4_cancel 33 = .ok (.if_icmp .gt 90, 3) := by decide +kernel
theorem dX4_cancel_36 : decode cX4_cancel 36 = .ok (.aload_n 0, 1) := by decide +kernel
theorem dX4_cancel_37 : decode cX4_cancel 37 = .ok (.getfield 21, 3) := by decide +kernel
theorem dX4_cancel_40 : decode cX4_cancel 40 = .ok (.iload 5, 2) := by decide +kernel
theorem dX4_cancel_42 : decode cX4_cancel 42 = .ok (.iaload, 1) := by decide +kernel
theorem dX4_cancel_43 : decode cX4_cancel 43 = .ok (.iload 4, 2) := by decide +kernel
theorem dX4_cancel_45 : decode cX4_cancel 45 = .ok (.if_icmp .gt 78, 3) := by decide +kernel
theorem dX4_cancel_48 : decode cX4_cancel 48 = .ok (.sipush 10007, 3) := by decide +kernel
theorem dX4_cancel_51 : decode cX4_cancel 51 = .ok (.aload_n 1, 1) := by decide +kernel
theorem dX4_cancel_52 : decode cX4_cancel 52 = .ok (.getfield 51, 3) := by decide +kernel
theorem dX4_cancel_55 : decode cX4_cancel 55 = .ok (.iload_n 2, 1) := by decide +kernel
theorem dX4_cancel_56 : decode cX4_cancel 56 = .ok (.iaload, 1) := by decide +kernel
theorem dX4_cancel_57 : decode cX4_cancel 57 = .ok (.isub, 1) := by decide +kernel
theorem dX4_cancel_58 : decode cX4_cancel 58 = .ok (.aload_n 0, 1) := by decide +kernel
theorem dX4_cancel_59 : decode cX4_cancel 59 = .ok (.getfield 24, 3) := by decide +kernel
theorem dX4_cancel_62 : decode cX4_cancel 62 = .ok (.iload 5, 2) := by decide +kernel
theorem dX4_cancel_64 : decode cX4_cancel 64 = .ok (.iaload, 1) := by decide +kernel
theorem dX4_cancel_65 : decode cX4_cancel 65 = .ok (.imul, 1) := by decide +kernel
theorem dX4_cancel_66 : decode cX4_cancel 66 = .ok (.sipush 10007, 3) := by decide +kernel
theorem dX4_cancel_69 : decode cX4_cancel 69 = .ok (.irem, 1) := by decide +kernel
theorem dX4_cancel_70 : decode cX4_cancel 70 = .ok (.istore 6, 2) := by decide +kernel
theorem dX4_cancel_72 : decode cX4_cancel 72 = .ok (.iload_n 3, 1) := by decide +kernel
theorem dX4_cancel_73 : decode cX4_cancel 73 = .ok (.aload_n 0, 1) := by decide +kernel
theorem dX4_cancel_74 : decode cX4_cancel 74 = .ok (.getfield 17, 3) := by decide +kernel
theorem dX4_cancel_77 : decode cX4_cancel 77 = .ok (.iload 5, 2) := by decide +kernel
theorem dX4_cancel_79 : decode cX4_cancel 79 = .ok (.iaload, 1) := by decide +kernel
theorem dX4_cancel_80 : decode cX4_cancel 80 = .ok (.isub, 1) := by decide +kernel
theorem dX4_cancel_81 : decode cX4_cancel 81 = .ok (.iload 4, 2) := by decide +kernel
theorem dX4_cancel_83 : decode cX4_cancel 83 = .ok (.aload_n 0, 1) := by decide +kernel
theorem dX4_cancel_84 : decode cX4_cancel 84 = .ok (.getfield 21, 3) := by decide +kernel
theorem dX4_cancel_87 : decode cX4_cancel 87 = .ok (.iload 5, 2) := by decide +kernel
theorem dX4_cancel_89 : decode cX4_cancel 89 = .ok (.iaload, 1) := by decide +kernel
theorem dX4_cancel_90 : decode cX4_cancel 90 = .ok (.isub, 1) := by decide +kernel
theorem dX4_cancel_91 : decode cX4_cancel 91 = .ok (.invokestatic 74, 3) := by decide +kernel
theorem dX4_cancel_94 : decode cX4_cancel 94 = .ok (.istore 7, 2) := by decide +kernel
theorem dX4_cancel_96 : decode cX4_cancel 96 = .ok (.aload_n 0, 1) := by decide +kernel
theorem dX4_cancel_97 : decode cX4_cancel 97 = .ok (.getfield 37, 3) := by decide +kernel
theorem dX4_cancel_100 : decode cX4_cancel 100 = .ok (.aload_n 1, 1) := by decide +kernel
theorem dX4_cancel_101 : decode cX4_cancel 101 = .ok (.iload 6, 2) := by decide +kernel
theorem dX4_cancel_103 : decode cX4_cancel 103 = .ok (.iload 7, 2) := by decide +kernel
theorem dX4_cancel_105 : decode cX4_cancel 105 = .ok (.aload_n 0, 1) := by decide +kernel
theorem dX4_cancel_106 : decode cX4_cancel 106 = .ok (.getfield 11, 3) := by decide +kernel
theorem dX4_cancel_109 : decode cX4_cancel 109 = .ok (.iload 5, 2) := by decide +kernel
theorem dX4_cancel_111 : decode cX4_cancel 111 = .ok (.aaload, 1) := by decide +kernel
theorem dX4_cancel_112 : decode cX4_cancel 112 = .ok (.aload_n 0, 1) := by decide +kernel
theorem dX4_cancel_113 : decode cX4_cancel 113 = .ok (.getfield 27, 3) := by decide +kernel
theorem dX4_cancel_116 : decode cX4_cancel 116 = .ok (.iload 5, 2) := by decide +kernel
theorem dX4_cancel_118 : decode cX4_cancel 118 = .ok (.iaload, 1) := by decide +kernel
theorem dX4_cancel_119 : decode cX4_cancel 119 = .ok (.invokevirtual 78, 3) := by decide +kernel
theorem dX4_cancel_122 : decode cX4_cancel 122 = .ok (.return_, 1) := by decide +kernel
theorem dX4_cancel_123 : decode cX4_cancel 123 = .ok (.iinc 5 1, 3) := by decide +kernel
theorem dX4_cancel_126 : decode cX4_cancel 126 = .ok (.goto (-110), 3) := by decide +kernel
theorem dX4_cancel_129 : decode cX4_cancel 129 = .ok (.return_, 1) := by decide +kernel
theorem dX5_init_0 : decode cX5_init 0 = .ok (.aload_n 0, 1) := by decide +kernel
theorem dX5_init_1 : decode cX5_init 1 = .ok (.invokespecial 3, 3) := by decide +kernel
theorem dX5_init_4 : decode cX5_init 4 = .ok (.aload_n 0, 1) := by decide +kernel
theorem dX5_init_5 : decode cX5_init 5 = .ok (.iconst 5, 1) := by decide +kernel
theorem dX5_init_6 : decode cX5_init 6 = .ok (.anewarray 9, 3) := by decide +kernel
theorem dX5_init_9 : decode cX5_init 9 = .ok (.putfield 11, 3) := by decide +kernel
theorem dX5_init_12 : decode cX5_init 12 = .ok (.aload_n 0, 1) := by decide +kernel
theorem dX5_init_13 : decode cX5_init 13 = .ok (.iconst 0, 1) := by decide +kernel
theorem dX5_init_14 : decode cX5_init 14 = .ok (.putfield 17, 3) := by decide +kernel
theorem dX5_init_17 : decode cX5_init 17 = .ok (.aload_n 0, 1) := by decide +kernel
theorem dX5_init_18 : decode cX5_init 18 = .ok (.iconst 0, 1) := by decide +kernel
theorem dX5_init_19 : decode cX5_init 19 = .ok (.putfield 21, 3) := by decide +kernel
theorem dX5_init_22 : decode cX5_init 22 = .ok (.iconst 0, 1) := by decide +kernel
theorem dX5_init_23 : decode cX5_init 23 = .ok (.istore_n 1, 1) := by decide +kernel
theorem dX5_init_24 : decode cX5_init 24 = .ok (.iload_n 1, 1) := by decide +kernel
theorem dX5_init_25 : decode cX5_init 25 = .ok (.iconst 5, 1) := by decide +kernel
theorem dX5_init_26 : decode cX5_init 26 = .ok (.if_icmp .ge 22, 3) := by decide +kernel
theorem dX5_init_29 : decode cX5_init 29 = .ok (.aload_n 0, 1) := by decide +kernel
theorem dX5_init_30 : decode cX5_init 30 = .ok (.getfield 11, 3) := by decide +kernel
theorem dX5_init_33 : decode cX5_init 33 = .ok (.iload_n 1, 1) := by decide +kernel
theorem dX5_init_34 : decode cX5_init 34 = .ok (.new 9, 3) := by decide +kernel
theorem dX5_init_37 : decode cX5_init 37 = .ok (.dup, 1) := by decide +kernel
theorem dX5_init_38 : decode cX5_init 38 = .ok (.invokespecial 24, 3) := by decide +kernel
theorem dX5_init_41 : decode cX5_init 41 = .ok (.aastore, 1) := by decide +kernel
theorem dX5_init_42 : decode cX5_init 42 = .ok (.iinc 1 1, 3) := by decide +kernel
theorem dX5_init_45 : decode cX5_init 45 = .ok (.goto (-21), 3) := by decide +kernel
theorem dX5_init_48 : decode cX5_init 48 = .ok (.return_, 1) := by decide +kernel
theorem dX5_keep_0 : decode cX5_keep 0 = .ok (.aload_n 0, 1) := by decide +kernel
theorem dX5_keep_1 : decode cX5_keep 1 = .ok (.getfield 11, 3) := by decide +kernel
theorem dX5_keep_4 : decode cX5_keep 4 = .ok (.aload_n 0, 1) := by decide +kernel
theorem dX5_keep_5 : decode cX5_keep 5 = .ok (.getfield 17, 3) := by decide +kernel
theorem dX5_keep_8 : decode cX5_keep 8 = .ok (.aaload, 1) := by decide +kernel
theorem dX5_keep_9 : decode cX5_keep 9 = .ok (.aload_n 1, 1) := by decide +kernel
theorem dX5_keep_10 : decode cX5_keep 10 = .ok (.invokevirtual 25, 3) := by decide +kernel
theorem dX5_keep_13 : decode cX5_keep 13 = .ok (.aload_n 0, 1) := by decide +kernel
theorem dX5_keep_14 : decode cX5_keep 14 = .ok (.aload_n 0, 1) := by decide +kernel
theorem dX5_keep_15 : decode cX5_keep 15 = .ok (.getfield 17, 3) := by decide +kernel
theorem dX5_keep_18 : decode cX5_keep 18 = .ok (.iconst 1, 1) := by decide +kernel
theorem dX5_keep_19 : decode cX5_keep 19 = .ok (.iadd, 1) := by decide +kernel
theorem dX5_keep_20 : decode cX5_keep 20 = .ok (.iconst 5, 1) := by decide +kernel
theorem dX5_keep_21 : decode cX5_keep 21 = .ok (.irem, 1) := by decide +kernel
theorem dX5_keep_22 : decode cX5_keep 22 = .ok (.putfield 17, 3) := by decide +kernel
theorem dX5_keep_25 : decode cX5_keep 25 = .ok (.aload_n 0, 1) := by decide +kernel
theorem dX5_keep_26 : decode cX5_keep 26 = .ok (.aload_n 0, 1) := by decide +kernel
theorem dX5_keep_27 : decode cX5_keep 27 = .ok (.getfield 21, 3) := by decide +kernel
theorem dX5_keep_30 : decode cX5_keep 30 = .ok (.iconst 1, 1) := by decide +kernel
theorem dX5_keep_31 : decode cX5_keep 31 = .ok (.iadd, 1) := by decide +kernel
theorem dX5_keep_32 : decode cX5_keep 32 = .ok (.iconst 5, 1) := by decide +kernel
theorem dX5_keep_33 : decode cX5_keep 33 = .ok (.invokestatic 29, 3) := by decide +kernel
theorem dX5_keep_36 : decode cX5_keep 36 = .ok (.putfield 21, 3) := by decide +kernel
theorem dX5_keep_39 : decode cX5_keep 39 = .ok (.return_, 1) := by decide +kernel
theorem dX5_restore_0 : decode cX5_restore 0 = .ok (.aload_n 0, 1) := by decide +kernel
theorem dX5_restore_1 : decode cX5_restore 1 = .ok (.getfield 21, 3) := by decide +kernel
theorem dX5_restore_4 : decode cX5_restore 4 = .ok (.ifCond .le 40, 3) := by decide +kernel
theorem dX5_restore_7 : decode cX5_restore 7 = .ok (.aload_n 0, 1) := by decide +kernel
theorem dX5_restore_8 : decode cX5_restore 8 = .ok (.aload_n 0, 1) := by decide +kernel
theorem dX5_restore_9 : decode cX5_restore 9 = .ok (.getfield 17, 3) := by decide +kernel
theorem dX5_restore_12 : decode cX5_restore 12 = .ok (.iconst 5, 1) := by decide +kernel
theorem dX5_restore_13 : decode cX5_restore 13 = .ok (.iadd, 1) := by decide +kernel
theorem dX5_restore_14 : decode cX5_restore 14 = .ok (.iconst 1, 1) := by decide +kernel
theorem dX5_restore_15 : decode cX5_restore 15 = .ok (.isub, 1) := by decide +kernel
theorem dX5_restore_16 : decode cX5_restore 16 = .ok (.iconst 5, 1) := by decide +kernel
theorem dX5_restore_17 : decode cX5_restore 17 = .ok (.irem, 1) := by decide +kernel
theorem dX5_restore_18 : decode cX5_restore 18 = .ok (.putfield 17, 3) := by decide +kernel
theorem dX5_restore_21 : decode cX5_restore 21 = .ok (.aload_n 0, 1) := by decide +kernel
theorem dX5_restore_22 : decode cX5_restore 22 = .ok (.dup, 1) := by decide +kernel
theorem dX5_restore_23 : decode cX5_restore 23 = .ok (.getfield 21, 3) := by decide +kernel
theorem dX5_restore_26 : decode cX5_restore 26 = .ok (.iconst 1, 1) := by decide +kernel
theorem dX5_restore_27 : decode cX5_restore 27 = .ok (.isub, 1) := by decide +kernel
theorem dX5_restore_28 : decode cX5_restore 28 = .ok (.putfield 21, 3) := by decide +kernel
theorem dX5_restore_31 : decode cX5_restore 31 = .ok (.aload_n 1, 1) := by decide +kernel
theorem dX5_restore_32 : decode cX5_restore 32 = .ok (.aload_n 0, 1) := by decide +kernel
theorem dX5_restore_33 : decode cX5_restore 33 = .ok (.getfield 11, 3) := by decide +kernel
theorem dX5_restore_36 : decode cX5_restore 36 = .ok (.aload_n 0, 1) := by decide +kernel
theorem dX5_restore_37 : decode cX5_restore 37 = .ok (.getfield 17, 3) := by decide +kernel
theorem dX5_restore_40 : decode cX5_restore 40 = .ok (.aaload, 1) := by decide +kernel
theorem dX5_restore_41 : decode cX5_restore 41 = .ok (.invokevirtual 25, 3) := by decide +kernel
theorem dX5_restore_44 : decode cX5_restore 44 = .ok (.return_, 1) := by decide +kernel
theorem dX6_init_0 : decode cX6_init 0 = .ok (.aload_n 0, 1) := by decide +kernel
theorem dX6_init_1 : decode cX6_init 1 = .ok (.invokespecial 3, 3) := by decide +kernel
theorem dX6_init_4 : decode cX6_init 4 = .ok (.aload_n 0, 1) := by decide +kernel
theorem dX6_init_5 : decode cX6_init 5 = .ok (.bipush 91, 2) := by decide +kernel
theorem dX6_init_7 : decode cX6_init 7 = .ok (.newarray .int, 2) := by decide +kernel
theorem dX6_init_9 : decode cX6_init 9 = .ok (.putfield 9, 3) := by decide +kernel
theorem dX6_init_12 : decode cX6_init 12 = .ok (.return_, 1) := by decide +kernel
theorem dX6_isWord_0 : decode cX6_isWord 0 = .ok (.iload_n 0, 1) := by decide +kernel
theorem dX6_isWord_1 : decode cX6_isWord 1 = .ok (.ifCond .lt 31, 3) := by decide +kernel
theorem dX6_isWord_4 : decode cX6_isWord 4 = .ok (.iload_n 1, 1) := by decide +kernel
theorem dX6_isWord_5 : decode cX6_isWord 5 = .ok (.ifCond .lt 27, 3) := by decide +kernel
theorem dX6_isWord_8 : decode cX6_isWord 8 = .ok (.iload_n 0, 1) := by decide +kernel
theorem dX6_isWord_9 : decode cX6_isWord 9 = .ok (.bipush 12, 2) := by decide +kernel
theorem dX6_isWord_11 : decode cX6_isWord 11 = .ok (.if_icmp .gt 21, 3) := by decide +kernel
theorem dX6_isWord_14 : decode cX6_isWord 14 = .ok (.iload_n 1, 1) := by decide +kernel
theorem dX6_isWord_15 : decode cX6_isWord 15 = .ok (.bipush 12, 2) := by decide +kernel
theorem dX6_isWord_17 : decode cX6_isWord 17 = .ok (.if_icmp .gt 15, 3) := by decide +kernel
theorem dX6_isWord_20 : decode cX6_isWord 20 = .ok (.iload_n 0, 1) := by decide +kernel
theorem dX6_isWord_21 : decode cX6_isWord 21 = .ok (.iload_n 1, 1) := by decide +kernel
theorem dX6_isWord_22 : decode cX6_isWord 22 = .ok (.iadd, 1) := by decide +kernel
theorem dX6_isWord_23 : decode cX6_isWord 23 = .ok (.bipush 12, 2) := by decide +kernel
theorem dX6_isWord_25 : decode cX6_isWord 25 = .ok (.if_icmp .gt 7, 3) := by decide +kernel
theorem dX6_isWord_28 : decode cX6_isWord 28 = .ok (.iconst 1, 1) := by decide +kernel
theorem dX6_isWord_29 : decode cX6_isWord 29 = .ok (.goto 4, 3) := by decide +kernel
theorem dX6_isWord_32 : decode cX6_isWord 32 = .ok (.iconst 0, 1) := by decide +kernel
theorem dX6_isWord_33 : decode cX6_isWord 33 = .ok (.ireturn, 1) := by decide +kernel
theorem dX6_firstPlace_0 : decode cX6_firstPlace 0 = .ok (.iload_n 0, 1) := by decide +kernel
theorem dX6_firstPlace_1 : decode cX6_firstPlace 1 = .ok (.iload_n 0, 1) := by decide +kernel
theorem dX6_firstPlace_2 : decode cX6_firstPlace 2 = .ok (.iconst 1, 1) := by decide +kernel
theorem dX6_firstPlace_3 : decode cX6_firstPlace 3 = .ok (.iadd, 1) := by decide +kernel
theorem dX6_firstPlace_4 : decode cX6_firstPlace 4 = .ok (.imul, 1) := by decide +kernel
theorem dX6_firstPlace_5 : decode cX6_firstPlace 5 = .ok (.iconst 2, 1) := by decide +kernel
theorem dX6_firstPlace_6 : decode cX6_firstPlace 6 = .ok (.idiv, 1) := by decide +kernel
theorem dX6_firstPlace_7 : decode cX6_firstPlace 7 = .ok (.ireturn, 1) := by decide +kernel
theorem dX6_placeOf_0 : decode cX6_placeOf 0 = .ok (.iload_n 0, 1) := by decide +kernel
theorem dX6_placeOf_1 : decode cX6_placeOf 1 = .ok (.iload_n 1, 1) := by decide +kernel
theorem dX6_placeOf_2 : decode cX6_placeOf 2 = .ok (.iadd, 1) := by decide +kernel
theorem dX6_placeOf_3 : decode cX6_placeOf 3 = .ok (.invokestatic 15, 3) := by decide +kernel
theorem dX6_placeOf_6 : decode cX6_placeOf 6 = .ok (.iload_n 1, 1) := by decide +kernel
theorem dX6_placeOf_7 : decode cX6_placeOf 7 = .ok (.iadd, 1) := by decide +kernel
theorem dX6_placeOf_8 : decode cX6_placeOf 8 = .ok (.ireturn, 1) := by decide +kernel
theorem dX6_degreeAt_0 : decode cX6_degreeAt 0 = .ok (.getstatic 19, 3) := by decide +kernel
theorem dX6_degreeAt_3 : decode cX6_degreeAt 3 = .ok (.iload_n 0, 1) := by decide +kernel
theorem dX6_degreeAt_4 : decode cX6_degreeAt 4 = .ok (.iaload, 1) := by decide +kernel
theorem dX6_degreeAt_5 : decode cX6_degreeAt 5 = .ok (.getstatic 22, 3) := by decide +kernel
theorem dX6_degreeAt_8 : decode cX6_degreeAt 8 = .ok (.iload_n 0, 1) := by decide +kernel
theorem dX6_degreeAt_9 : decode cX6_degreeAt 9 = .ok (.iaload, 1) := by decide +kernel
theorem dX6_degreeAt_10 : decode cX6_degreeAt 10 = .ok (.iadd, 1) := by decide +kernel
theorem dX6_degreeAt_11 : decode cX6_degreeAt 11 = .ok (.ireturn, 1) := by decide +kernel
theorem dX6_rankedPlace_0 : decode cX6_rankedPlace 0 = .ok (.iload_n 1, 1) := by decide +kernel
theorem dX6_rankedPlace_1 : decode cX6_rankedPlace 1 = .ok (.invokestatic 15, 3) := by decide +kernel
theorem dX6_rankedPlace_4 : decode cX6_rankedPlace 4 = .ok (.iload_n 0, 1) := by decide +kernel
theorem dX6_rankedPlace_5 : decode cX6_rankedPlace 5 = .ok (.ifCond .ne 9, 3) := by decide +kernel
theorem dX6_rankedPlace_8 : decode cX6_rankedPlace 8 = .ok (.iload_n 1, 1) := by decide +kernel
theorem dX6_rankedPlace_9 : decode cX6_rankedPlace 9 = .ok (.iload_n 2, 1) := by decide +kernel
theorem dX6_rankedPlace_10 : decode cX6_rankedPlace 10 = .ok (.isub, 1) := by decide +kernel
theorem dX6_rankedPlace_11 : decode cX6_rankedPlace 11 = .ok (.goto 4, 3) := by decide +kernel
theorem dX6_rankedPlace_14 : decode cX6_rankedPlace 14 = .ok (.iload_n 2, 1) := by decide +kernel
theorem dX6_rankedPlace_15 : decode cX6_rankedPlace 15 = .ok (.iadd, 1) := by decide +kernel
theorem dX6_rankedPlace_16 : decode cX6_rankedPlace 16 = .ok (.ireturn, 1) := by decide +kernel
theorem dX6_height_0 : decode cX6_height 0 = .ok (.iload_n 1, 1) := by decide +kernel
theorem dX6_height_1 : decode cX6_height 1 = .ok (.invokestatic 25, 3) := by decide +kernel
theorem dX6_height_4 : decode cX6_height 4 = .ok (.invokestatic 15, 3) := by decide +kernel
theorem dX6_height_7 : decode cX6_height 7 = .ok (.iload_n 0, 1) := by decide +kernel
theorem dX6_height_8 : decode cX6_height 8 = .ok (.ifCond .ne 11, 3) := by decide +kernel
theorem dX6_height_11 : decode cX6_height 11 = .ok (.getstatic 22, 3) := by decide +kernel
theorem dX6_height_14 : decode cX6_height 14 = .ok (.iload_n 1, 1) := by decide +kernel
theorem dX6_height_15 : decode cX6_height 15 = .ok (.iaload, 1) := by decide +kernel
theorem dX6_height_16 : decode cX6_height 16 = .ok (.goto 8, 3) := by decide +kernel
theorem dX6_height_19 : decode cX6_height 19 = .ok (.getstatic 19, 3) := by decide +kernel
theorem dX6_height_22 : decode cX6_height 22 = .ok (.iload_n 1, 1) := by decide +kernel
theorem dX6_height_23 : decode cX6_height 23 = .ok (.iaload, 1) := by decide +kernel
theorem dX6_height_24 : decode cX6_height 24 = .ok (.iadd, 1) := by decide +kernel
theorem dX6_height_25 : decode cX6_height 25 = .ok (.ireturn, 1) := by decide +kernel
theorem dX6_coefficient_0 : decode cX6_coefficient 0 = .ok (.iload_n 1, 1) := by decide +kernel
theorem dX6_coefficient_1 : decode cX6_coefficient 1 = .ok (.iload_n 2, 1) := by decide +kernel
theorem dX6_coefficient_2 : decode cX6_coefficient 2 = .ok (.invokestatic 28, 3) := by decide +kernel
theorem dX6_coefficient_5 : decode cX6_coefficient 5 = .ok (.ifCond .eq 16, 3) := by decide +kernel
theorem dX6_coefficient_8 : decode cX6_coefficient 8 = .ok (.aload_n 0, 1) := by decide +kernel
theorem dX6_coefficient_9 : decode cX6_coefficient 9 = .ok (.getfield 9, 3) := by decide +kernel
theorem dX6_coefficient_12 : decode cX6_coefficient 12 = .ok (.iload_n 1, 1) := by decide +kernel
theorem dX6_coefficient_13 : decode cX6_coefficient 13 = .ok (.iload_n 2, 1) := by decide +kernel
theorem dX6_coefficient_14 : decode cX6_coefficient 14 = .ok (.invokestatic 32, 3) := by decide +kernel
theorem dX6_coefficient_17 : decode cX6_coefficient 17 = .ok (.iaload, 1) := by decide +kernel
theorem dX6_coefficient_18 : decode cX6_coefficient 18 = .ok (.goto 4, 3) := by decide +kernel
theorem dX6_coefficient_21 : decode cX6_coefficient 21 = .ok (.iconst 0, 1) := by decide +kernel
theorem dX6_coefficient_22 : decode cX6_coefficient 22 = .ok (.ireturn, 1) := by decide +kernel
theorem dX6_setCoefficient_0 : decode cX6_setCoefficient 0 = .ok (.iload_n 1, 1) := by decide +kernel
theorem dX6_setCoefficient_1 : decode cX6_setCoefficient 1 = .ok (.iload_n 2, 1) := by decide +kernel
theorem dX6_setCoefficient_2 : decode cX6_setCoefficient 2 = .ok (.invokestatic 28, 3) := by decide +kernel
theorem dX6_setCoefficient_5 : decode cX6_setCoefficient 5 = .ok (.ifCond .eq 14, 3) := by decide +kernel
theorem dX6_setCoefficient_8 : decode cX6_setCoefficient 8 = .ok (.aload_n 0, 1) := by decide +kernel
theorem dX6_setCoefficient_9 : decode cX6_setCoefficient 9 = .ok (.getfield 9, 3) := by decide +kernel
theorem dX6_setCoefficient_12 : decode cX6_setCoefficient 12 = .ok (.iload_n 1, 1) := by decide +kernel
theorem dX6_setCoefficient_13 : decode cX6_setCoefficient 13 = .ok (.iload_n 2, 1) := by decide +kernel
theorem dX6_setCoefficient_14 : decode cX6_setCoefficient 14 = .ok (.invokestatic 32, 3) := by decide +kernel
theorem dX6_setCoefficient_17 : decode cX6_setCoefficient 17 = .ok (.iload_n 3, 1) := by decide +kernel
theorem dX6_setCoefficient_18 : decode cX6_setCoefficient 18 = .ok (.iastore, 1) := by decide +kernel
theorem dX6_setCoefficient_19 : decode cX6_setCoefficient 19 = .ok (.return_, 1) := by decide +kernel
theorem dX6_makeZero_0 : decode cX6_makeZero 0 = .ok (.aload_n 0, 1) := by decide +kernel
theorem dX6_makeZero_1 : decode cX6_makeZero 1 = .ok (.getfield 9, 3) := by decide +kernel
theorem dX6_makeZero_4 : decode cX6_makeZero 4 = .ok (.iconst 0, 1) := by decide +kernel
theorem dX6_makeZero_5 : decode cX6_makeZero 5 = .ok (.invokestatic 36, 3) := by decide +kernel
theorem dX6_makeZero_8 : decode cX6_makeZero 8 = .ok (.return_, 1) := by decide +kernel
theorem dX6_makeNumber_0 : decode cX6_makeNumber 0 = .ok (.aload_n 0, 1) := by decide +kernel
theorem dX6_makeNumber_1 : decode cX6_makeNumber 1 = .ok (.invokevirtual 42, 3) := by decide +kernel
theorem dX6_makeNumber_4 : decode cX6_makeNumber 4 = .ok (.aload_n 0, 1) := by decide +kernel
theorem dX6_makeNumber_5 : decode cX6_makeNumber 5 = .ok (.getfield 9, 3) := by decide +kernel
theorem dX6_makeNumber_8 : decode cX6_makeNumber 8 = .ok (.iconst 0, 1) := by decide +kernel
theorem dX6_makeNumber_9 : decode cX6_makeNumber 9 = .ok (.iload_n 1, 1) := by decide +kernel
theorem dX6_makeNumber_10 : decode cX6_makeNumber 10 = .ok (.iastore, 1) := by decide +kernel
theorem dX6_makeNumber_11 : decode cX6_makeNumber 11 = .ok (.return_, 1) := by decide +kernel
theorem dX6_copyFrom_0 : decode cX6_copyFrom 0 = .ok (.aload_n 1, 1) := by decide +kernel
theorem dX6_copyFrom_1 : decode cX6_copyFrom 1 = .ok (.getfield 9, 3) := by decide +kernel
theorem dX6_copyFrom_4 : decode cX6_copyFrom 4 = .ok (.iconst 0, 1) := by decide +kernel
theorem dX6_copyFrom_5 : decode cX6_copyFrom 5 = .ok (.aload_n 0, 1) := by decide +kernel
theorem dX6_copyFrom_6 : decode cX6_copyFrom 6 = .ok (.getfield 9, 3) := by decide +kernel
theorem dX6_copyFrom_9 : decode cX6_copyFrom 9 = .ok (.iconst 0, 1) := by decide +kernel
theorem dX6_copyFrom_10 : decode cX6_copyFrom 10 = .ok (.bipush 91, 2) := by decide +kernel
theorem dX6_copyFrom_12 : decode cX6_copyFrom 12 = .ok (.invokestatic 45, 3) := by decide +kernel
theorem dX6_copyFrom_15 : decode cX6_copyFrom 15 = .ok (.return_, 1) := by decide +kernel
theorem dX6_addMultiple_0 : decode cX6_addMultiple 0 = .ok (.iconst 0, 1) := by decide +kernel
theorem dX6_addMultiple_1 : decode cX6_addMultiple 1 = .ok (.istore_n 3, 1) := by decide +kernel
theorem dX6_addMultiple_2 : decode cX6_addMultiple 2 = .ok (.iload_n 3, 1) := by decide +kernel
theorem dX6_addMultiple_3 : decode cX6_addMultiple 3 = .ok (.bipush 91, 2) := by decide +kernel
theorem dX6_addMultiple_5 : decode cX6_addMultiple 5 = .ok (.if_icmp .ge 34, 3) := by decide +kernel
theorem dX6_addMultiple_8 : decode cX6_addMultiple 8 = .ok (.aload_n 0, 1) := by decide +kernel
theorem dX6_addMultiple_9 : decode cX6_addMultiple 9 = .ok (.getfield 9, 3) := by decide +kernel
theorem dX6_addMultiple_12 : decode cX6_addMultiple 12 = .ok (.iload_n 3, 1) := by decide +kernel
theorem dX6_addMultiple_13 : decode cX6_addMultiple 13 = .ok (.aload_n 0, 1) := by decide +kernel
theorem dX6_addMultiple_14 : decode cX6_addMultiple 14 = .ok (.getfield 9, 3) := by decide +kernel
theorem dX6_addMultiple_17 : decode cX6_addMultiple 17 = .ok (.iload_n 3, 1) := by decide +kernel
theorem dX6_addMultiple_18 : decode cX6_addMultiple 18 = .ok (.iaload, 1) := by decide +kernel
theorem dX6_addMultiple_19 : decode cX6_addMultiple 19 = .ok (.iload_n 2, 1) := by decide +kernel
theorem dX6_addMultiple_20 : decode cX6_addMultiple 20 = .ok (.aload_n 1, 1) := by decide +kernel
theorem dX6_addMultiple_21 : decode cX6_addMultiple 21 = .ok (.getfield 9, 3) := by decide +kernel
theorem dX6_addMultiple_24 : decode cX6_addMultiple 24 = .ok (.iload_n 3, 1) := by decide +kernel
theorem dX6_addMultiple_25 : decode cX6_addMultiple 25 = .ok (.iaload, 1) := by decide +kernel
theorem dX6_addMultiple_26 : decode cX6_addMultiple 26 = .ok (.imul, 1) := by decide +kernel
theorem dX6_addMultiple_27 : decode cX6_addMultiple 27 = .ok (.iadd, 1) := by decide +kernel
theorem dX6_addMultiple_28 : decode cX6_addMultiple 28 = .ok (.sipush 10007, 3) := by decide +kernel
theorem dX6_addMultiple_31 : decode cX6_addMultiple 31 = .ok (.irem, 1) := by decide +kernel
theorem dX6_addMultiple_32 : decode cX6_addMultiple 32 = .ok (.iastore, 1) := by decide +kernel
theorem dX6_addMultiple_33 : decode cX6_addMultiple 33 = .ok (.iinc 3 1, 3) := by decide +kernel
theorem dX6_addMultiple_36 : decode cX6_addMultiple 36 = .ok (.goto (-34), 3) := by decide +kernel
theorem dX6_addMultiple_39 : decode cX6_addMultiple 39 = .ok (.return_, 1) := by decide +kernel
theorem dX6_scale_0 : decode cX6_scale 0 = .ok (.iconst 0, 1) := by decide +kernel
theorem dX6_scale_1 : decode cX6_scale 1 = .ok (.istore_n 2, 1) := by decide +kernel
theorem dX6_scale_2 : decode cX6_scale 2 = .ok (.iload_n 2, 1) := by decide +kernel
theorem dX6_scale_3 : decode cX6_scale 3 = .ok (.bipush 91, 2) := by decide +kernel
theorem dX6_scale_5 : decode cX6_scale 5 = .ok (.if_icmp .ge 27, 3) := by decide +kernel
theorem dX6_scale_8 : decode cX6_scale 8 = .ok (.aload_n 0, 1) := by decide +kernel
theorem dX6_scale_9 : decode cX6_scale 9 = .ok (.getfield 9, 3) := by decide +kernel
theorem dX6_scale_12 : decode cX6_scale 12 = .ok (.iload_n 2, 1) := by decide +kernel
theorem dX6_scale_13 : decode cX6_scale 13 = .ok (.aload_n 0, 1) := by decide +kernel
theorem dX6_scale_14 : decode cX6_scale 14 = .ok (.getfield 9, 3) := by decide +kernel
theorem dX6_scale_17 : decode cX6_scale 17 = .ok (.iload_n 2, 1) := by decide +kernel
theorem dX6_scale_18 : decode cX6_scale 18 = .ok (.iaload, 1) := by decide +kernel
theorem dX6_scale_19 : decode cX6_scale 19 = .ok (.iload_n 1, 1) := by decide +kernel
theorem dX6_scale_20 : decode cX6_scale 20 = .ok (.imul, 1) := by decide +kernel
theorem dX6_scale_21 : decode cX6_scale 21 = .ok (.sipush 10007, 3) := by decide +kernel
theorem dX6_scale_24 : decode cX6_scale 24 = .ok (.irem, 1) := by decide +kernel
theorem dX6_scale_25 : decode cX6_scale 25 = .ok (.iastore, 1) := by decide +kernel
theorem dX6_scale_26 : decode cX6_scale 26 = .ok (.iinc 2 1, 3) := by decide +kernel
theorem dX6_scale_29 : decode cX6_scale 29 = .ok (.goto (-27), 3) := by decide +kernel
theorem dX6_scale_32 : decode cX6_scale 32 = .ok (.return_, 1) := by decide +kernel
theorem dX6_countTerms_0 : decode cX6_countTerms 0 = .ok (.iconst 0, 1) := by decide +kernel
theorem dX6_countTerms_1 : decode cX6_countTerms 1 = .ok (.istore_n 1, 1) := by decide +kernel
theorem dX6_countTerms_2 : decode cX6_countTerms 2 = .ok (.aload_n 0, 1) := by decide +kernel
theorem dX6_countTerms_3 : decode cX6_countTerms 3 = .ok (.getfield 9, 3) := by decide +kernel
theorem dX6_countTerms_6 : decode cX6_countTerms 6 = .ok (.astore_n 2, 1) := by decide +kernel
theorem dX6_countTerms_7 : decode cX6_countTerms 7 = .ok (.aload_n 2, 1) := by decide +kernel
theorem dX6_countTerms_8 : decode cX6_countTerms 8 = .ok (.arraylength, 1) := by decide +kernel
theorem dX6_countTerms_9 : decode cX6_countTerms 9 = .ok (.istore_n 3, 1) := by decide +kernel
theorem dX6_countTerms_10 : decode cX6_countTerms 10 = .ok (.iconst 0, 1) := by decide +kernel
theorem dX6_countTerms_11 : decode cX6_countTerms 11 = .ok (.istore 4, 2) := by decide +kernel
theorem dX6_countTerms_13 : decode cX6_countTerms 13 = .ok (.iload 4, 2) := by decide +kernel
theorem dX6_countTerms_15 : decode cX6_countTerms 15 = .ok (.iload_n 3, 1) := by decide +kernel
theorem dX6_countTerms_16 : decode cX6_countTerms 16 = .ok (.if_icmp .ge 23, 3) := by decide +kernel
theorem dX6_countTerms_19 : decode cX6_countTerms 19 = .ok (.aload_n 2, 1) := by decide +kernel
theorem dX6_countTerms_20 : decode cX6_countTerms 20 = .ok (.iload 4, 2) := by decide +kernel
theorem dX6_countTerms_22 : decode cX6_countTerms 22 = .ok (.iaload, 1) := by decide +kernel
theorem dX6_countTerms_23 : decode cX6_countTerms 23 = .ok (.istore 5, 2) := by decide +kernel
theorem dX6_countTerms_25 : decode cX6_countTerms 25 = .ok (.iload 5, 2) := by decide +kernel
theorem dX6_countTerms_27 : decode cX6_countTerms 27 = .ok (.ifCond .eq 6, 3) := by decide +kernel
theorem dX6_countTerms_30 : decode cX6_countTerms 30 = .ok (.iinc 1 1, 3) := by decide +kernel
theorem dX6_countTerms_33 : decode cX6_countTerms 33 = .ok (.iinc 4 1, 3) := by decide +kernel
theorem dX6_countTerms_36 : decode cX6_countTerms 36 = .ok (.goto (-23), 3) := by decide +kernel
theorem dX6_countTerms_39 : decode cX6_countTerms 39 = .ok (.iload_n 1, 1) := by decide +kernel
theorem dX6_countTerms_40 : decode cX6_countTerms 40 = .ok (.ireturn, 1) := by decide +kernel
theorem dX6_extent_0 : decode cX6_extent 0 = .ok (.bipush 90, 2) := by decide +kernel
theorem dX6_extent_2 : decode cX6_extent 2 = .ok (.istore_n 1, 1) := by decide +kernel
theorem dX6_extent_3 : decode cX6_extent 3 = .ok (.iload_n 1, 1) := by decide +kernel
theorem dX6_extent_4 : decode cX6_extent 4 = .ok (.ifCond .lt 22, 3) := by decide +kernel
theorem dX6_extent_7 : decode cX6_extent 7 = .ok (.aload_n 0, 1) := by decide +kernel
theorem dX6_extent_8 : decode cX6_extent 8 = .ok (.getfield 9, 3) := by decide +kernel
theorem dX6_extent_11 : decode cX6_extent 11 = .ok (.iload_n 1, 1) := by decide +kernel
theorem dX6_extent_12 : decode cX6_extent 12 = .ok (.iaload, 1) := by decide +kernel
theorem dX6_extent_13 : decode cX6_extent 13 = .ok (.ifCond .eq 7, 3) := by decide +kernel
theorem dX6_extent_16 : decode cX6_extent 16 = .ok (.iload_n 1, 1) := by decide +kernel
theorem dX6_extent_17 : decode cX6_extent 17 = .ok (.iconst 1, 1) := by decide +kernel
theorem dX6_extent_18 : decode cX6_extent 18 = .ok (.iadd, 1) := by decide +kernel
theorem dX6_extent_19 : decode cX6_extent 19 = .ok (.ireturn, 1) := by decide +kernel
theorem dX6_extent_20 : decode cX6_extent 20 = .ok (.iinc 1 (-1), 3) := by decide +kernel
theorem dX6_extent_23 : decode cX6_extent 23 = .ok (.goto (-20), 3) := by decide +kernel
theorem dX6_extent_26 : decode cX6_extent 26 = .ok (.iconst 0, 1) := by decide +kernel
theorem dX6_extent_27 : decode cX6_extent 27 = .ok (.ireturn, 1) := by decide +kernel
theorem dX6_isZero_0 : decode cX6_isZero 0 = .ok (.aload_n 0, 1) := by decide +kernel
theorem dX6_isZero_1 : decode cX6_isZero 1 = .ok (.invokevirtual 51, 3) := by decide +kernel
theorem dX6_isZero_4 : decode cX6_isZero 4 = .ok (.ifCond .ne 7, 3) := by decide +kernel
theorem dX6_isZero_7 : decode cX6_isZero 7 = .ok (.iconst 1, 1) := by decide +kernel
theorem dX6_isZero_8 : decode cX6_isZero 8 = .ok (.goto 4, 3) := by decide +kernel
theorem dX6_isZero_11 : decode cX6_isZero 11 = .ok (.iconst 0, 1) := by decide +kernel
theorem dX6_isZero_12 : decode cX6_isZero 12 = .ok (.ireturn, 1) := by decide +kernel
theorem dX6_degree_0 : decode cX6_degree 0 = .ok (.aload_n 0, 1) := by decide +kernel
theorem dX6_degree_1 : decode cX6_degree 1 = .ok (.invokevirtual 51, 3) := by decide +kernel
theorem dX6_degree_4 : decode cX6_degree 4 = .ok (.istore_n 1, 1) := by decide +kernel
theorem dX6_degree_5 : decode cX6_degree 5 = .ok (.iload_n 1, 1) := by decide +kernel
theorem dX6_degree_6 : decode cX6_degree 6 = .ok (.ifCond .ne 7, 3) := by decide +kernel
theorem dX6_degree_9 : decode cX6_degree 9 = .ok (.iconst (-1), 1) := by decide +kernel
theorem dX6_degree_10 : decode cX6_degree 10 = .ok (.goto 9, 3) := by decide +kernel
theorem dX6_degree_13 : decode cX6_degree 13 = .ok (.iload_n 1, 1) := by decide +kernel
theorem dX6_degree_14 : decode cX6_degree 14 = .ok (.iconst 1, 1) := by decide +kernel
theorem dX6_degree_15 : decode cX6_degree 15 = .ok (.isub, 1) := by decide +kernel
theorem dX6_degree_16 : decode cX6_degree 16 = .ok (.invokestatic 25, 3) := by decide +kernel
theorem dX6_degree_19 : decode cX6_degree 19 = .ok (.ireturn, 1) := by decide +kernel
theorem dX6_leadPlace_0 : decode cX6_leadPlace 0 = .ok (.aload_n 0, 1) := by decide +kernel
theorem dX6_leadPlace_1 : decode cX6_leadPlace 1 = .ok (.invokevirtual 55, 3) := by decide +kernel
theorem dX6_leadPlace_4 : decode cX6_leadPlace 4 = .ok (.istore_n 2, 1) := by decide +kernel
theorem dX6_leadPlace_5 : decode cX6_leadPlace 5 = .ok (.iconst 0, 1) := by decide +kernel
theorem dX6_leadPlace_6 : decode cX6_leadPlace 6 = .ok (.istore_n 3, 1) := by decide +kernel
theorem dX6_leadPlace_7 : decode cX6_leadPlace 7 = .ok (.iload_n 3, 1) := by decide +kernel
theorem dX6_leadPlace_8 : decode cX6_leadPlace 8 = .ok (.iload_n 2, 1) := by decide +kernel
theorem dX6_leadPlace_9 : decode cX6_leadPlace 9 = .ok (.if_icmp .gt 30, 3) := by decide +kernel
theorem dX6_leadPlace_12 : decode cX6_leadPlace 12 = .ok (.iload_n 1, 1) := by decide +kernel
theorem dX6_leadPlace_13 : decode cX6_leadPlace 13 = .ok (.iload_n 2, 1) := by decide +kernel
theorem dX6_leadPlace_14 : decode cX6_leadPlace 14 = .ok (.iload_n 3, 1) := by decide +kernel
theorem dX6_leadPlace_15 : decode cX6_leadPlace 15 = .ok (.invokestatic 58, 3) := by decide +kernel
theorem dX6_leadPlace_18 : decode cX6_leadPlace 18 = .ok (.istore 4, 2) := by decide +kernel
theorem dX6_leadPlace_20 : decode cX6_leadPlace 20 = .ok (.aload_n 0, 1) := by decide +kernel
theorem dX6_leadPlace_21 : decode cX6_leadPlace 21 = .ok (.getfield 9, 3) := by decide +kernel
theorem dX6_leadPlace_24 : decode cX6_leadPlace 24 = .ok (.iload 4, 2) := by decide +kernel
theorem dX6_leadPlace_26 : decode cX6_leadPlace 26 = .ok (.iaload, 1) := by decide +kernel
theorem dX6_leadPlace_27 : decode cX6_leadPlace 27 = .ok (.ifCond .eq 6, 3) := by decide +kernel
theorem dX6_leadPlace_30 : decode cX6_leadPlace 30 = .ok (.iload 4, 2) := by decide +kernel
theorem dX6_leadPlace_32 : decode cX6_leadPlace 32 = .ok (.ireturn, 1) := by decide +kernel
theorem dX6_leadPlace_33 : decode cX6_leadPlace 33 = .ok (.iinc 3 1, 3) := by decide +kernel
theorem dX6_leadPlace_36 : decode cX6_leadPlace 36 = .ok (.goto (-29), 3) := by decide +kernel
theorem dX6_leadPlace_39 : decode cX6_leadPlace 39 = .ok (.iconst (-1), 1) := by decide +kernel
theorem dX6_leadPlace_40 : decode cX6_leadPlace 40 = .ok (.ireturn, 1) := by decide +kernel
theorem dX6_property_0 : decode cX6_property 0 = .ok (.iload_n 1, 1) := by decide +kernel
theorem dX6_property_1 : decode cX6_property 1 = .ok (.ifCond .ne 8, 3) := by decide +kernel
theorem dX6_property_4 : decode cX6_property 4 = .ok (.aload_n 0, 1) := by decide +kernel
theorem dX6_property_5 : decode cX6_property 5 = .ok (.invokevirtual 62, 3) := by decide +kernel
theorem dX6_property_8 : decode cX6_property 8 = .ok (.ireturn, 1) := by decide +kernel
theorem dX6_property_9 : decode cX6_property 9 = .ok (.aload_n 0, 1) := by decide +kernel
theorem dX6_property_10 : decode cX6_property 10 = .ok (.iload_n 2, 1) := by decide +kernel
theorem dX6_property_11 : decode cX6_property 11 = .ok (.invokevirtual 65, 3) := by decide +kernel
theorem dX6_property_14 : decode cX6_property 14 = .ok (.istore_n 3, 1) := by decide +kernel
theorem dX6_property_15 : decode cX6_property 15 = .ok (.iload_n 3, 1) := by decide +kernel
theorem dX6_property_16 : decode cX6_property 16 = .ok (.ifCond .ge 17, 3) := by decide +kernel
theorem dX6_property_19 : decode cX6_property 19 = .ok (.iload_n 1, 1) := by decide +kernel
theorem dX6_property_20 : decode cX6_property 20 = .ok (.bipush 8, 2) := by decide +kernel
theorem dX6_property_22 : decode cX6_property 22 = .ok (.if_icmp .ne 7, 3) := by decide +kernel
theorem dX6_property_25 : decode cX6_property 25 = .ok (.iconst 0, 1) := by decide +kernel
theorem dX6_property_26 : decode cX6_property 26 = .ok (.goto 6, 3) := by decide +kernel
theorem dX6_property_29 : decode cX6_property 29 = .ok (.sipush (-20001), 3) := by decide +kernel
theorem dX6_property_32 : decode cX6_property 32 = .ok (.ireturn, 1) := by decide +kernel
theorem dX6_property_33 : decode cX6_property 33 = .ok (.iload_n 1, 1) := by decide +kernel
theorem dX6_property_34 : decode cX6_property 34 = .ok (.tableswitch 73 1 8 #[46, 73, 73, 73, 73, 51, 57, 63], 46) := by decide +kernel
theorem dX6_property_80 : decode cX6_property 80 = .ok (.iload_n 3, 1) := by decide +kernel
theorem dX6_property_81 : decode cX6_property 81 = .ok (.invokestatic 25, 3) := by decide +kernel
theorem dX6_property_84 : decode cX6_property 84 = .ok (.ireturn, 1) := by decide +kernel
theorem dX6_property_85 : decode cX6_property 85 = .ok (.getstatic 19, 3) := by decide +kernel
theorem dX6_property_88 : decode cX6_property 88 = .ok (.iload_n 3, 1) := by decide +kernel
theorem dX6_property_89 : decode cX6_property 89 = .ok (.iaload, 1) := by decide +kernel
theorem dX6_property_90 : decode cX6_property 90 = .ok (.ireturn, 1) := by decide +kernel
theorem dX6_property_91 : decode cX6_property 91 = .ok (.getstatic 22, 3) := by decide +kernel
theorem dX6_property_94 : decode cX6_property 94 = .ok (.iload_n 3, 1) := by decide +kernel
theorem dX6_property_95 : decode cX6_property 95 = .ok (.iaload, 1) := by decide +kernel
theorem dX6_property_96 : decode cX6_property 96 = .ok (.ireturn, 1) := by decide +kernel
theorem dX6_property_97 : decode cX6_property 97 = .ok (.aload_n 0, 1) := by decide +kernel
theorem dX6_property_98 : decode cX6_property 98 = .ok (.getfield 9, 3) := by decide +kernel
theorem dX6_property_101 : decode cX6_property 101 = .ok (.iload_n 3, 1) := by decide +kernel
theorem dX6_property_102 : decode cX6_property 102 = .ok (.iaload, 1) := by decide +kernel
theorem dX6_property_103 : decode cX6_property 103 = .ok (.invokestatic 68, 3) := by decide +kernel
theorem dX6_property_106 : decode cX6_property 106 = .ok (.ireturn, 1) := by decide +kernel
theorem dX6_property_107 : decode cX6_property 107 = .ok (.iload_n 1, 1) := by decide +kernel
theorem dX6_property_108 : decode cX6_property 108 = .ok (.iconst 5, 1) := by decide +kernel
theorem dX6_property_109 : decode cX6_property 109 = .ok (.if_icmp .ne 12, 3) := by decide +kernel
theorem dX6_property_112 : decode cX6_property 112 = .ok (.aload_n 0, 1) := by decide +kernel
theorem dX6_property_113 : decode cX6_property 113 = .ok (.iconst 5, 1) := by decide +kernel
theorem dX6_property_114 : decode cX6_property 114 = .ok (.invokevirtual 73, 3) := by decide +kernel
theorem dX6_property_117 : decode cX6_property 117 = .ok (.ineg, 1) := by decide +kernel
theorem dX6_property_118 : decode cX6_property 118 = .ok (.goto 8, 3) := by decide +kernel
theorem dX6_property_121 : decode cX6_property 121 = .ok (.aload_n 0, 1) := by decide +kernel
theorem dX6_property_122 : decode cX6_property 122 = .ok (.iload_n 1, 1) := by decide +kernel
theorem dX6_property_123 : decode cX6_property 123 = .ok (.invokevirtual 73, 3) := by decide +kernel
theorem dX6_property_126 : decode cX6_property 126 = .ok (.ireturn, 1) := by decide +kernel
theorem dX6_greatest_0 : decode cX6_greatest 0 = .ok (.bipush (-12), 2) := by decide +kernel
theorem dX6_greatest_2 : decode cX6_greatest 2 = .ok (.istore_n 2, 1) := by decide +kernel
theorem dX6_greatest_3 : decode cX6_greatest 3 = .ok (.iconst 0, 1) := by decide +kernel
theorem dX6_greatest_4 : decode cX6_greatest 4 = .ok (.istore_n 3, 1) := by decide +kernel
theorem dX6_greatest_5 : decode cX6_greatest 5 = .ok (.iload_n 3, 1) := by decide +kernel
theorem dX6_greatest_6 : decode cX6_greatest 6 = .ok (.bipush 12, 2) := by decide +kernel
theorem dX6_greatest_8 : decode cX6_greatest 8 = .ok (.if_icmp .gt 54, 3) := by decide +kernel
theorem dX6_greatest_11 : decode cX6_greatest 11 = .ok (.iconst 0, 1) := by decide +kernel
theorem dX6_greatest_12 : decode cX6_greatest 12 = .ok (.istore 4, 2) := by decide +kernel
theorem dX6_greatest_14 : decode cX6_greatest 14 = .ok (.iload 4, 2) := by decide +kernel
theorem dX6_greatest_16 : decode cX6_greatest 16 = .ok (.iload_n 3, 1) := by decide +kernel
theorem dX6_greatest_17 : decode cX6_greatest 17 = .ok (.if_icmp .gt 39, 3) := by decide +kernel
theorem dX6_greatest_20 : decode cX6_greatest 20 = .ok (.aload_n 0, 1) := by decide +kernel
theorem dX6_greatest_21 : decode cX6_greatest 21 = .ok (.getfield 9, 3) := by decide +kernel
theorem dX6_greatest_24 : decode cX6_greatest 24 = .ok (.iload_n 3, 1) := by decide +kernel
theorem dX6_greatest_25 : decode cX6_greatest 25 = .ok (.invokestatic 15, 3) := by decide +kernel
theorem dX6_greatest_28 : decode cX6_greatest 28 = .ok (.iload 4, 2) := by decide +kernel
theorem dX6_greatest_30 : decode cX6_greatest 30 = .ok (.iadd, 1) := by decide +kernel
theorem dX6_greatest_31 : decode cX6_greatest 31 = .ok (.iaload, 1) := by decide +kernel
theorem dX6_greatest_32 : decode cX6_greatest 32 = .ok (.ifCond .eq 18, 3) := by decide +kernel
theorem dX6_greatest_35 : decode cX6_greatest 35 = .ok (.iload_n 2, 1) := by decide +kernel
theorem dX6_greatest_36 : decode cX6_greatest 36 = .ok (.iload_n 1, 1) := by decide +kernel
theorem dX6_greatest_37 : decode cX6_greatest 37 = .ok (.iload_n 3, 1) := by decide +kernel
theorem dX6_greatest_38 : decode cX6_greatest 38 = .ok (.iload 4, 2) := by decide +kernel
theorem dX6_greatest_40 : decode cX6_greatest 40 = .ok (.isub, 1) := by decide +kernel
theorem dX6_greatest_41 : decode cX6_greatest 41 = .ok (.iload 4, 2) := by decide +kernel
theorem dX6_greatest_43 : decode cX6_greatest 43 = .ok (.invokestatic 76, 3) := by decide +kernel
theorem dX6_greatest_46 : decode cX6_greatest 46 = .ok (.invokestatic 79, 3) := by decide +kernel
theorem dX6_greatest_49 : decode cX6_greatest 49 = .ok (.istore_n 2, 1) := by decide +kernel
theorem dX6_greatest_50 : decode cX6_greatest 50 = .ok (.iinc 4 1, 3) := by decide +kernel
theorem dX6_greatest_53 : decode cX6_greatest 53 = .ok (.goto (-39), 3) := by decide +kernel
theorem dX6_greatest_56 : decode cX6_greatest 56 = .ok (.iinc 3 1, 3) := by decide +kernel
theorem dX6_greatest_59 : decode cX6_greatest 59 = .ok (.goto (-54), 3) := by decide +kernel
theorem dX6_greatest_62 : decode cX6_greatest 62 = .ok (.iload_n 2, 1) := by decide +kernel
theorem dX6_greatest_63 : decode cX6_greatest 63 = .ok (.ireturn, 1) := by decide +kernel
theorem dX6_measure_0 : decode cX6_measure 0 = .ok (.iload_n 0, 1) := by decide +kernel
theorem dX6_measure_1 : decode cX6_measure 1 = .ok (.tableswitch 35 2 4 #[27, 29, 31], 27) := by decide +kernel
theorem dX6_measure_28 : decode cX6_measure 28 = .ok (.iload_n 1, 1) := by decide +kernel
theorem dX6_measure_29 : decode cX6_measure 29 = .ok (.ireturn, 1) := by decide +kernel
theorem dX6_measure_30 : decode cX6_measure 30 = .ok (.iload_n 2, 1) := by decide +kernel
theorem dX6_measure_31 : decode cX6_measure 31 = .ok (.ireturn, 1) := by decide +kernel
theorem dX6_measure_32 : decode cX6_measure 32 = .ok (.iload_n 2, 1) := by decide +kernel
theorem dX6_measure_33 : decode cX6_measure 33 = .ok (.iload_n 1, 1) := by decide +kernel
theorem dX6_measure_34 : decode cX6_measure 34 = .ok (.isub, 1) := by decide +kernel
theorem dX6_measure_35 : decode cX6_measure 35 = .ok (.ireturn, 1) := by decide +kernel
theorem dX6_measure_36 : decode cX6_measure 36 = .ok (.iload_n 1, 1) := by decide +kernel
theorem dX6_measure_37 : decode cX6_measure 37 = .ok (.iload_n 2, 1) := by decide +kernel
theorem dX6_measure_38 : decode cX6_measure 38 = .ok (.isub, 1) := by decide +kernel
theorem dX6_measure_39 : decode cX6_measure 39 = .ok (.ireturn, 1) := by decide +kernel
theorem dX7_init_0 : decode cX7_init 0 = .ok (.aload_n 0, 1) := by decide +kernel
theorem dX7_init_1 : decode cX7_init 1 = .ok (.invokespecial 3, 3) := by decide +kernel
theorem dX7_init_4 : decode cX7_init 4 = .ok (.aload_n 0, 1) := by decide +kernel
theorem dX7_init_5 : decode cX7_init 5 = .ok (.bipush 9, 2) := by decide +kernel
theorem dX7_init_7 : decode cX7_init 7 = .ok (.anewarray 9, 3) := by decide +kernel
theorem dX7_init_10 : decode cX7_init 10 = .ok (.putfield 11, 3) := by decide +kernel
theorem dX7_init_13 : decode cX7_init 13 = .ok (.aload_n 0, 1) := by decide +kernel
theorem dX7_init_14 : decode cX7_init 14 = .ok (.bipush 9, 2) := by decide +kernel
theorem dX7_init_16 : decode cX7_init 16 = .ok (.anewarray 9, 3) := by decide +kernel
theorem dX7_init_19 : decode cX7_init 19 = .ok (.putfield 17, 3) := by decide +kernel
theorem dX7_init_22 : decode cX7_init 22 = .ok (.aload_n 0, 1) := by decide +kernel
theorem dX7_init_23 : decode cX7_init 23 = .ok (.new 9, 3) := by decide +kernel
theorem dX7_init_26 : decode cX7_init 26 = .ok (.dup, 1) := by decide +kernel
theorem dX7_init_27 : decode cX7_init 27 = .ok (.invokespecial 20, 3) := by decide +kernel
theorem dX7_init_30 : decode cX7_init 30 = .ok (.putfield 21, 3) := by decide +kernel
theorem dX7_init_33 : decode cX7_init 33 = .ok (.aload_n 0, 1) := by decide +kernel
theorem dX7_init_34 : decode cX7_init 34 = .ok (.new 9, 3) := by decide +kernel
theorem dX7_init_37 : decode cX7_init 37 = .ok (.dup, 1) := by decide +kernel
theorem dX7_init_38 : decode cX7_init 38 = .ok (.invokespecial 20, 3) := by decide +kernel
theorem dX7_init_41 : decode cX7_init 41 = .ok (.putfield 25, 3) := by decide +kernel
theorem dX7_init_44 : decode cX7_init 44 = .ok (.aload_n 0, 1) := by decide +kernel
theorem dX7_init_45 : decode cX7_init 45 = .ok (.iconst 0, 1) := by decide +kernel
theorem dX7_init_46 : decode cX7_init 46 = .ok (.putfield 28, 3) := by decide +kernel
theorem dX7_init_49 : decode cX7_init 49 = .ok (.aload_n 0, 1) := by decide +kernel
theorem dX7_init_50 : decode cX7_init 50 = .ok (.aload_n 1, 1) := by decide +kernel
theorem dX7_init_51 : decode cX7_init 51 = .ok (.putfield 32, 3) := by decide +kernel
theorem dX7_init_54 : decode cX7_init 54 = .ok (.aload_n 0, 1) := by decide +kernel
theorem dX7_init_55 : decode cX7_init 55 = .ok (.aload_n 2, 1) := by decide +kernel
theorem dX7_init_56 : decode cX7_init 56 = .ok (.putfield 36, 3) := by decide +kernel
theorem dX7_init_59 : decode cX7_init 59 = .ok (.iconst 0, 1) := by decide +kernel
theorem dX7_init_60 : decode cX7_init 60 = .ok (.istore_n 3, 1) := by decide +kernel
theorem dX7_init_61 : decode cX7_init 61 = .ok (.iload_n 3, 1) := by decide +kernel
theorem dX7_init_62 : decode cX7_init 62 = .ok (.bipush 8, 2) := by decide +kernel
theorem dX7_init_64 : decode cX7_init 64 = .ok (.if_icmp .gt 35, 3) := by decide +kernel
theorem dX7_init_67 : decode cX7_init 67 = .ok (.aload_n 0, 1) := by decide +kernel
theorem dX7_init_68 : decode cX7_init 68 = .ok (.getfield 11, 3) := by decide +kernel
theorem dX7_init_71 : decode cX7_init 71 = .ok (.iload_n 3, 1) := by decide +kernel
theorem dX7_init_72 : decode cX7_init 72 = .ok (.new 9, 3) := by decide +kernel
theorem dX7_init_75 : decode cX7_init 75 = .ok (.dup, 1) := by decide +kernel
theorem dX7_init_76 : decode cX7_init 76 = .ok (.invokespecial 20, 3) := by decide +kernel
theorem dX7_init_79 : decode cX7_init 79 = .ok (.aastore, 1) := by decide +kernel
theorem dX7_init_80 : decode cX7_init 80 = .ok (.aload_n 0, 1) := by decide +kernel
theorem dX7_init_81 : decode cX7_init 81 = .ok (.getfield 17, 3) := by decide +kernel
theorem dX7_init_84 : decode cX7_init 84 = .ok (.iload_n 3, 1) := by decide +kernel
theorem dX7_init_85 : decode cX7_init 85 = .ok (.new 9, 3) := by decide +kernel
theorem dX7_init_88 : decode cX7_init 88 = .ok (.dup, 1) := by decide +kernel
theorem dX7_init_89 : decode cX7_init 89 = .ok (.invokespecial 20, 3) := by decide +kernel
theorem dX7_init_92 : decode cX7_init 92 = .ok (.aastore, 1) := by decide +kernel
theorem dX7_init_93 : decode cX7_init 93 = .ok (.iinc 3 1, 3) := by decide +kernel
theorem dX7_init_96 : decode cX7_init 96 = .ok (.goto (-35), 3) := by decide +kernel
theorem dX7_init_99 : decode cX7_init 99 = .ok (.return_, 1) := by decide +kernel
theorem dX7_evaluate_0 : decode cX7_evaluate 0 = .ok (.aload_n 0, 1) := by decide +kernel
theorem dX7_evaluate_1 : decode cX7_evaluate 1 = .ok (.iconst 0, 1) := by decide +kernel
theorem dX7_evaluate_2 : decode cX7_evaluate 2 = .ok (.putfield 28, 3) := by decide +kernel
theorem dX7_evaluate_5 : decode cX7_evaluate 5 = .ok (.aload_n 0, 1) := by decide +kernel
theorem dX7_evaluate_6 : decode cX7_evaluate 6 = .ok (.iconst 0, 1) := by decide +kernel
theorem dX7_evaluate_7 : decode cX7_evaluate 7 = .ok (.invokevirtual 40, 3) := by decide +kernel
theorem dX7_evaluate_10 : decode cX7_evaluate 10 = .ok (.ifCond .ne 5, 3) := by decide +kernel
theorem dX7_evaluate_13 : decode cX7_evaluate 13 = .ok (.iconst 0, 1) := by decide +kernel
theorem dX7_evaluate_14 : decode cX7_evaluate 14 = .ok (.ireturn, 1) := by decide +kernel
theorem dX7_evaluate_15 : decode cX7_evaluate 15 = .ok (.aload_n 1, 1) := by decide +kernel
theorem dX7_evaluate_16 : decode cX7_evaluate 16 = .ok (.aload_n 0, 1) := by decide +kernel
theorem dX7_evaluate_17 : decode cX7_evaluate 17 = .ok (.getfield 11, 3) := by decide +kernel
theorem dX7_evaluate_20 : decode cX7_evaluate 20 = .ok (.iconst 0, 1) := by decide +kernel
theorem dX7_evaluate_21 : decode cX7_evaluate 21 = .ok (.aaload, 1) := by decide +kernel
theorem dX7_evaluate_22 : decode cX7_evaluate 22 = .ok (.invokevirtual 44, 3) := by decide +kernel
theorem dX7_evaluate_25 : decode cX7_evaluate 25 = .ok (.iconst 1, 1) := by decide +kernel
theorem dX7_evaluate_26 : decode cX7_evaluate 26 = .ok (.ireturn, 1) := by decide +kernel
theorem dX7_readExpression_0 : decode cX7_readExpression 0 = .ok (.iload_n 1, 1) := by decide +kernel
theorem dX7_readExpression_1 : decode cX7_readExpression 1 = .ok (.bipush 8, 2) := by decide +kernel
theorem dX7_readExpression_3 : decode cX7_readExpression 3 = .ok (.if_icmp .le 5, 3) := by decide +kernel
theorem dX7_readExpression_6 : decode cX7_readExpression 6 = .ok (.iconst 0, 1) := by decide +kernel
theorem dX7_readExpression_7 : decode cX7_readExpression 7 = .ok (.ireturn, 1) := by decide +kernel
theorem dX7_readExpression_8 : decode cX7_readExpression 8 = .ok (.aload_n 0, 1) := by decide +kernel
theorem dX7_readExpression_9 : decode cX7_readExpression 9 = .ok (.getfield 11, 3) := by decide +kernel
theorem dX7_readExpression_12 : decode cX7_readExpression 12 = .ok (.iload_n 1, 1) := by decide +kernel
theorem dX7_readExpression_13 : decode cX7_readExpression 13 = .ok (.aaload, 1) := by decide +kernel
theorem dX7_readExpression_14 : decode cX7_readExpression 14 = .ok (.invokevirtual 48, 3) := by decide +kernel
theorem dX7_readExpression_17 : decode cX7_readExpression 17 = .ok (.aload_n 0, 1) := by decide +kernel
theorem dX7_readExpression_18 : decode cX7_readExpression 18 = .ok (.invokevirtual 51, 3) := by decide +kernel
theorem dX7_readExpression_21 : decode cX7_readExpression 21 = .ok (.bipush 45, 2) := by decide +kernel
theorem dX7_readExpression_23 : decode cX7_readExpression 23 = .ok (.if_icmp .ne 9, 3) := by decide +kernel
theorem dX7_readExpression_26 : decode cX7_readExpression 26 = .ok (.sipush 10006, 3) := by decide +kernel
theorem dX7_readExpression_29 : decode cX7_readExpression 29 = .ok (.goto 4, 3) := by decide +kernel
theorem dX7_readExpression_32 : decode cX7_readExpression 32 = .ok (.iconst 1, 1) := by decide +kernel
theorem dX7_readExpression_33 : decode cX7_readExpression 33 = .ok (.istore_n 2, 1) := by decide +kernel
theorem dX7_readExpression_34 : decode cX7_readExpression 34 = .ok (.iload_n 2, 1) := by decide +kernel
theorem dX7_readExpression_35 : decode cX7_readExpression 35 = .ok (.iconst 1, 1) := by decide +kernel
theorem dX7_readExpression_36 : decode cX7_readExpression 36 = .ok (.if_icmp .eq 13, 3) := by decide +kernel
theorem dX7_readExpression_39 : decode cX7_readExpression 39 = .ok (.aload_n 0, 1) := by decide +kernel
theorem dX7_readExpression_40 : decode cX7_readExpression 40 = .ok (.dup, 1) := by decide +kernel
theorem dX7_readExpression_41 : decode cX7_readExpression 41 = .ok (.getfield 28, 3) := by decide +kernel
theorem dX7_readExpression_44 : decode cX7_readExpression 44 = .ok (.iconst 1, 1) := by decide +kernel
theorem dX7_readExpression_45 : decode cX7_readExpression 45 = .ok (.iadd, 1) := by decide +kernel
theorem dX7_readExpression_46 : decode cX7_readExpression 46 = .ok (.putfield 28, 3) := by decide +kernel
theorem dX7_readExpression_49 : decode cX7_readExpression 49 = .ok (.iconst 0, 1) := by decide +kernel
theorem dX7_readExpression_50 : decode cX7_readExpression 50 = .ok (.istore_n 3, 1) := by decide +kernel
theorem dX7_readExpression_51 : decode cX7_readExpression 51 = .ok (.iload_n 3, 1) := by decide +kernel
theorem dX7_readExpression_52 : decode cX7_readExpression 52 = .ok (.bipush 120, 2) := by decide +kernel
theorem dX7_readExpression_54 : decode cX7_readExpression 54 = .ok (.if_icmp .ge 82, 3) := by decide +kernel
theorem dX7_readExpression_57 : decode cX7_readExpression 57 = .ok (.aload_n 0, 1) := by decide +kernel
theorem dX7_readExpression_58 : decode cX7_readExpression 58 = .ok (.iload_n 1, 1) := by decide +kernel
theorem dX7_readExpression_59 : decode cX7_readExpression 59 = .ok (.invokevirtual 55, 3) := by decide +kernel
theorem dX7_readExpression_62 : decode cX7_readExpression 62 = .ok (.ifCond .ne 5, 3) := by decide +kernel
theorem dX7_readExpression_65 : decode cX7_readExpression 65 = .ok (.iconst 0, 1) := by decide +kernel
theorem dX7_readExpression_66 : decode cX7_readExpression 66 = .ok (.ireturn, 1) := by decide +kernel
theorem dX7_readExpression_67 : decode cX7_readExpression 67 = .ok (.aload_n 0, 1) := by decide +kernel
theorem dX7_readExpression_68 : decode cX7_readExpression 68 = .ok (.getfield 11, 3) := by decide +kernel
theorem dX7_readExpression_71 : decode cX7_readExpression 71 = .ok (.iload_n 1, 1) := by decide +kernel
theorem dX7_readExpression_72 : decode cX7_readExpression 72 = .ok (.aaload, 1) := by decide +kernel
theorem dX7_readExpression_73 : decode cX7_readExpression 73 = .ok (.aload_n 0, 1) := by decide +kernel
theorem dX7_readExpression_74 : decode cX7_readExpression 74 = .ok (.getfield 17, 3) := by decide +kernel
theorem dX7_readExpression_77 : decode cX7_readExpression 77 = .ok (.iload_n 1, 1) := by decide +kernel
theorem dX7_readExpression_78 : decode cX7_readExpression 78 = .ok (.aaload, 1) := by decide +kernel
theorem dX7_readExpression_79 : decode cX7_readExpression 79 = .ok (.iload_n 2, 1) := by decide +kernel
theorem dX7_readExpression_80 : decode cX7_readExpression 80 = .ok (.invokevirtual 58, 3) := by decide +kernel
theorem dX7_readExpression_83 : decode cX7_readExpression 83 = .ok (.aload_n 0, 1) := by decide +kernel
theorem dX7_readExpression_84 : decode cX7_readExpression 84 = .ok (.invokevirtual 51, 3) := by decide +kernel
theorem dX7_readExpression_87 : decode cX7_readExpression 87 = .ok (.istore 4, 2) := by decide +kernel
theorem dX7_readExpression_89 : decode cX7_readExpression 89 = .ok (.iload 4, 2) := by decide +kernel
theorem dX7_readExpression_91 : decode cX7_readExpression 91 = .ok (.bipush 43, 2) := by decide +kernel
theorem dX7_readExpression_93 : decode cX7_readExpression 93 = .ok (.if_icmp .eq 12, 3) := by decide +kernel
theorem dX7_readExpression_96 : decode cX7_readExpression 96 = .ok (.iload 4, 2) := by decide +kernel
theorem dX7_readExpression_98 : decode cX7_readExpression 98 = .ok (.bipush 45, 2) := by decide +kernel
theorem dX7_readExpression_100 : decode cX7_readExpression 100 = .ok (.if_icmp .eq 5, 3) := by decide +kernel
theorem dX7_readExpression_103 : decode cX7_readExpression 103 = .ok (.iconst 1, 1) := by decide +kernel
theorem dX7_readExpression_104 : decode cX7_readExpression 104 = .ok (.ireturn, 1) := by decide +kernel
theorem dX7_readExpression_105 : decode cX7_readExpression 105 = .ok (.iload 4, 2) := by decide +kernel
theorem dX7_readExpression_107 : decode cX7_readExpression 107 = .ok (.bipush 45, 2) := by decide +kernel
theorem dX7_readExpression_109 : decode cX7_readExpression 109 = .ok (.if_icmp .ne 9, 3) := by decide +kernel
theorem dX7_readExpression_112 : decode cX7_readExpression 112 = .ok (.sipush 10006, 3) := by decide +kernel
theorem dX7_readExpression_115 : decode cX7_readExpression 115 = .ok (.goto 4, 3) := by decide +kernel
theorem dX7_readExpression_118 : decode cX7_readExpression 118 = .ok (.iconst 1, 1) := by decide +kernel
theorem dX7_readExpression_119 : decode cX7_readExpression 119 = .ok (.istore_n 2, 1) := by decide +kernel
theorem dX7_readExpression_120 : decode cX7_readExpression 120 = .ok (.aload_n 0, 1) := by decide +kernel
theorem dX7_readExpression_121 : decode cX7_readExpression 121 = .ok (.dup, 1) := by decide +kernel
theorem dX7_readExpression_122 : decode cX7_readExpression 122 = .ok (.getfield 28, 3) := by decide +kernel
theorem dX7_readExpression_125 : decode cX7_readExpression 125 = .ok (.iconst 1, 1) := by decide +kernel
theorem dX7_readExpression_126 : decode cX7_readExpression 126 = .ok (.iadd, 1) := by decide +kernel
theorem dX7_readExpression_127 : decode cX7_readExpression 127 = .ok (.putfield 28, 3) := by decide +kernel
theorem dX7_readExpression_130 : decode cX7_readExpression 130 = .ok (.iinc 3 1, 3) := by decide +kernel
theorem dX7_readExpression_133 : decode cX7_readExpression 133 = .ok (.goto (-82), 3) := by decide +kernel
theorem dX7_readExpression_136 : decode cX7_readExpression 136 = .ok (.iconst 1, 1) := by decide +kernel
theorem dX7_readExpression_137 : decode cX7_readExpression 137 = .ok (.ireturn, 1) := by decide +kernel
theorem dX7_readTerm_0 : decode cX7_readTerm 0 = .ok (.aload_n 0, 1) := by decide +kernel
theorem dX7_readTerm_1 : decode cX7_readTerm 1 = .ok (.getfield 17, 3) := by decide +kernel
theorem dX7_readTerm_4 : decode cX7_readTerm 4 = .ok (.iload_n 1, 1) := by decide +kernel
theorem dX7_readTerm_5 : decode cX7_readTerm 5 = .ok (.aaload, 1) := by decide +kernel
theorem dX7_readTerm_6 : decode cX7_readTerm 6 = .ok (.astore_n 2, 1) := by decide +kernel
theorem dX7_readTerm_7 : decode cX7_readTerm 7 = .ok (.aload_n 2, 1) := by decide +kernel
theorem dX7_readTerm_8 : decode cX7_readTerm 8 = .ok (.iconst 1, 1) := by decide +kernel
theorem dX7_readTerm_9 : decode cX7_readTerm 9 = .ok (.invokevirtual 62, 3) := by decide +kernel
theorem dX7_readTerm_12 : decode cX7_readTerm 12 = .ok (.iconst 0, 1) := by decide +kernel
theorem dX7_readTerm_13 : decode cX7_readTerm 13 = .ok (.istore_n 3, 1) := by decide +kernel
theorem dX7_readTerm_14 : decode cX7_readTerm 14 = .ok (.iload_n 3, 1) := by decide +kernel
theorem dX7_readTerm_15 : decode cX7_readTerm 15 = .ok (.bipush 120, 2) := by decide +kernel
theorem dX7_readTerm_17 : decode cX7_readTerm 17 = .ok (.if_icmp .ge 83, 3) := by decide +kernel
theorem dX7_readTerm_20 : decode cX7_readTerm 20 = .ok (.aload_n 0, 1) := by decide +kernel
theorem dX7_readTerm_21 : decode cX7_readTerm 21 = .ok (.iload_n 1, 1) := by decide +kernel
theorem dX7_readTerm_22 : decode cX7_readTerm 22 = .ok (.invokevirtual 66, 3) := by decide +kernel
theorem dX7_readTerm_25 : decode cX7_readTerm 25 = .ok (.ifCond .eq 14, 3) := by decide +kernel
theorem dX7_readTerm_28 : decode cX7_readTerm 28 = .ok (.aload_n 2, 1) := by decide +kernel
theorem dX7_readTerm_29 : decode cX7_readTerm 29 = .ok (.aload_n 0, 1) := by decide +kernel
theorem dX7_readTerm_30 : decode cX7_readTerm 30 = .ok (.getfield 21, 3) := by decide +kernel
theorem dX7_readTerm_33 : decode cX7_readTerm 33 = .ok (.invokestatic 69, 3) := by decide +kernel
theorem dX7_readTerm_36 : decode cX7_readTerm 36 = .ok (.ifCond .ne 5, 3) := by decide +kernel
theorem dX7_readTerm_39 : decode cX7_readTerm 39 = .ok (.iconst 0, 1) := by decide +kernel
theorem dX7_readTerm_40 : decode cX7_readTerm 40 = .ok (.ireturn, 1) := by decide +kernel
theorem dX7_readTerm_41 : decode cX7_readTerm 41 = .ok (.aload_n 0, 1) := by decide +kernel
theorem dX7_readTerm_42 : decode cX7_readTerm 42 = .ok (.getfield 25, 3) := by decide +kernel
theorem dX7_readTerm_45 : decode cX7_readTerm 45 = .ok (.invokevirtual 48, 3) := by decide +kernel
theorem dX7_readTerm_48 : decode cX7_readTerm 48 = .ok (.aload_n 0, 1) := by decide +kernel
theorem dX7_readTerm_49 : decode cX7_readTerm 49 = .ok (.getfield 32, 3) := by decide +kernel
theorem dX7_readTerm_52 : decode cX7_readTerm 52 = .ok (.aload_n 0, 1) := by decide +kernel
theorem dX7_readTerm_53 : decode cX7_readTerm 53 = .ok (.getfield 25, 3) := by decide +kernel
theorem dX7_readTerm_56 : decode cX7_readTerm 56 = .ok (.iconst 1, 1) := by decide +kernel
theorem dX7_readTerm_57 : decode cX7_readTerm 57 = .ok (.aload_n 2, 1) := by decide +kernel
theorem dX7_readTerm_58 : decode cX7_readTerm 58 = .ok (.aload_n 0, 1) := by decide +kernel
theorem dX7_readTerm_59 : decode cX7_readTerm 59 = .ok (.getfield 21, 3) := by decide +kernel
theorem dX7_readTerm_62 : decode cX7_readTerm 62 = .ok (.invokevirtual 75, 3) := by decide +kernel
theorem dX7_readTerm_65 : decode cX7_readTerm 65 = .ok (.aload_n 2, 1) := by decide +kernel
theorem dX7_readTerm_66 : decode cX7_readTerm 66 = .ok (.aload_n 0, 1) := by decide +kernel
theorem dX7_readTerm_67 : decode cX7_readTerm 67 = .ok (.getfield 25, 3) := by decide +kernel
theorem dX7_readTerm_70 : decode cX7_readTerm 70 = .ok (.invokevirtual 44, 3) := by decide +kernel
theorem dX7_readTerm_73 : decode cX7_readTerm 73 = .ok (.aload_n 0, 1) := by decide +kernel
theorem dX7_readTerm_74 : decode cX7_readTerm 74 = .ok (.invokevirtual 51, 3) := by decide +kernel
theorem dX7_readTerm_77 : decode cX7_readTerm 77 = .ok (.bipush 42, 2) := by decide +kernel
theorem dX7_readTerm_79 : decode cX7_readTerm 79 = .ok (.if_icmp .eq 5, 3) := by decide +kernel
theorem dX7_readTerm_82 : decode cX7_readTerm 82 = .ok (.iconst 1, 1) := by decide +kernel
theorem dX7_readTerm_83 : decode cX7_readTerm 83 = .ok (.ireturn, 1) := by decide +kernel
theorem dX7_readTerm_84 : decode cX7_readTerm 84 = .ok (.aload_n 0, 1) := by decide +kernel
theorem dX7_readTerm_85 : decode cX7_readTerm 85 = .ok (.dup, 1) := by decide +kernel
theorem dX7_readTerm_86 : decode cX7_readTerm 86 = .ok (.getfield 28, 3) := by decide +kernel
theorem dX7_readTerm_89 : decode cX7_readTerm 89 = .ok (.iconst 1, 1) := by decide +kernel
theorem dX7_readTerm_90 : decode cX7_readTerm 90 = .ok (.iadd, 1) := by decide +kernel
theorem dX7_readTerm_91 : decode cX7_readTerm 91 = .ok (.putfield 28, 3) := by decide +kernel
theorem dX7_readTerm_94 : decode cX7_readTerm 94 = .ok (.iinc 3 1, 3) := by decide +kernel
theorem dX7_readTerm_97 : decode cX7_readTerm 97 = .ok (.goto (-83), 3) := by decide +kernel
theorem dX7_readTerm_100 : decode cX7_readTerm 100 = .ok (.iconst 1, 1) := by decide +kernel
theorem dX7_readTerm_101 : decode cX7_readTerm 101 = .ok (.ireturn, 1) := by decide +kernel
theorem dX7_readFactor_0 : decode cX7_readFactor 0 = .ok (.aload_n 0, 1) := by decide +kernel
theorem dX7_readFactor_1 : decode cX7_readFactor 1 = .ok (.invokevirtual 51, 3) := by decide +kernel
theorem dX7_readFactor_4 : decode cX7_readFactor 4 = .ok (.istore_n 2, 1) := by decide +kernel
theorem dX7_readFactor_5 : decode cX7_readFactor 5 = .ok (.iload_n 2, 1) := by decide +kernel
theorem dX7_readFactor_6 : decode cX7_readFactor 6 = .ok (.bipush 40, 2) := by decide +kernel
theorem dX7_readFactor_8 : decode cX7_readFactor 8 = .ok (.if_icmp .ne 58, 3) := by decide +kernel
theorem dX7_readFactor_11 : decode cX7_readFactor 11 = .ok (.aload_n 0, 1) := by decide +kernel
theorem dX7_readFactor_12 : decode cX7_readFactor 12 = .ok (.dup, 1) := by decide +kernel
theorem dX7_readFactor_13 : decode cX7_readFactor 13 = .ok (.getfield 28, 3) := by decide +kernel
theorem dX7_readFactor_16 : decode cX7_readFactor 16 = .ok (.iconst 1, 1) := by decide +kernel
theorem dX7_readFactor_17 : decode cX7_readFactor 17 = .ok (.iadd, 1) := by decide +kernel
theorem dX7_readFactor_18 : decode cX7_readFactor 18 = .ok (.putfield 28, 3) := by decide +kernel
theorem dX7_readFactor_21 : decode cX7_readFactor 21 = .ok (.aload_n 0, 1) := by decide +kernel
theorem dX7_readFactor_22 : decode cX7_readFactor 22 = .ok (.iload_n 1, 1) := by decide +kernel
theorem dX7_readFactor_23 : decode cX7_readFactor 23 = .ok (.iconst 1, 1) := by decide +kernel
theorem dX7_readFactor_24 : decode cX7_readFactor 24 = .ok (.iadd, 1) := by decide +kernel
theorem dX7_readFactor_25 : decode cX7_readFactor 25 = .ok (.invokevirtual 40, 3) := by decide +kernel
theorem dX7_readFactor_28 : decode cX7_readFactor 28 = .ok (.ifCond .ne 5, 3) := by decide +kernel
theorem dX7_readFactor_31 : decode cX7_readFactor 31 = .ok (.iconst 0, 1) := by decide +kernel
theorem dX7_readFactor_32 : decode cX7_readFactor 32 = .ok (.ireturn, 1) := by decide +kernel
theorem dX7_readFactor_33 : decode cX7_readFactor 33 = .ok (.aload_n 0, 1) := by decide +kernel
theorem dX7_readFactor_34 : decode cX7_readFactor 34 = .ok (.invokevirtual 51, 3) := by decide +kernel
theorem dX7_readFactor_37 : decode cX7_readFactor 37 = .ok (.pop, 1) := by decide +kernel
theorem dX7_readFactor_38 : decode cX7_readFactor 38 = .ok (.aload_n 0, 1) := by decide +kernel
theorem dX7_readFactor_39 : decode cX7_readFactor 39 = .ok (.dup, 1) := by decide +kernel
theorem dX7_readFactor_40 : decode cX7_readFactor 40 = .ok (.getfield 28, 3) := by decide +kernel
theorem dX7_readFactor_43 : decode cX7_readFactor 43 = .ok (.iconst 1, 1) := by decide +kernel
theorem dX7_readFactor_44 : decode cX7_readFactor 44 = .ok (.iadd, 1) := by decide +kernel
theorem dX7_readFactor_45 : decode cX7_readFactor 45 = .ok (.putfield 28, 3) := by decide +kernel
theorem dX7_readFactor_48 : decode cX7_readFactor 48 = .ok (.aload_n 0, 1) := by decide +kernel
theorem dX7_readFactor_49 : decode cX7_readFactor 49 = .ok (.getfield 21, 3) := by decide +kernel
theorem dX7_readFactor_52 : decode cX7_readFactor 52 = .ok (.aload_n 0, 1) := by decide +kernel
theorem dX7_readFactor_53 : decode cX7_readFactor 53 = .ok (.getfield 11, 3) := by decide +kernel
theorem dX7_readFactor_56 : decode cX7_readFactor 56 = .ok (.iload_n 1, 1) := by decide +kernel
theorem dX7_readFactor_57 : decode cX7_readFactor 57 = .ok (.iconst 1, 1) := by decide +kernel
theorem dX7_readFactor_58 : decode cX7_readFactor 58 = .ok (.iadd, 1) := by decide +kernel
theorem dX7_readFactor_59 : decode cX7_readFactor 59 = .ok (.aaload, 1) := by decide +kernel
theorem dX7_readFactor_60 : decode cX7_readFactor 60 = .ok (.invokevirtual 44, 3) := by decide +kernel
theorem dX7_readFactor_63 : decode cX7_readFactor 63 = .ok (.goto 77, 3) := by decide +kernel
theorem dX7_readFactor_66 : decode cX7_readFactor 66 = .ok (.iload_n 2, 1) := by decide +kernel
theorem dX7_readFactor_67 : decode cX7_readFactor 67 = .ok (.bipush 120, 2) := by decide +kernel
theorem dX7_readFactor_69 : decode cX7_readFactor 69 = .ok (.if_icmp .eq 9, 3) := by decide +kernel
theorem dX7_readFactor_72 : decode cX7_readFactor 72 = .ok (.iload_n 2, 1) := by decide +kernel
theorem dX7_readFactor_73 : decode cX7_readFactor 73 = .ok (.bipush 100, 2) := by decide +kernel
theorem dX7_readFactor_75 : decode cX7_readFactor 75 = .ok (.if_icmp .ne 53, 3) := by decide +kernel
theorem dX7_readFactor_78 : decode cX7_readFactor 78 = .ok (.aload_n 0, 1) := by decide +kernel
theorem dX7_readFactor_79 : decode cX7_readFactor 79 = .ok (.dup, 1) := by decide +kernel
theorem dX7_readFactor_80 : decode cX7_readFactor 80 = .ok (.getfield 28, 3) := by decide +kernel
theorem dX7_readFactor_83 : decode cX7_readFactor 83 = .ok (.iconst 1, 1) := by decide +kernel
theorem dX7_readFactor_84 : decode cX7_readFactor 84 = .ok (.iadd, 1) := by decide +kernel
theorem dX7_readFactor_85 : decode cX7_readFactor 85 = .ok (.putfield 28, 3) := by decide +kernel
theorem dX7_readFactor_88 : decode cX7_readFactor 88 = .ok (.aload_n 0, 1) := by decide +kernel
theorem dX7_readFactor_89 : decode cX7_readFactor 89 = .ok (.getfield 21, 3) := by decide +kernel
theorem dX7_readFactor_92 : decode cX7_readFactor 92 = .ok (.invokevirtual 48, 3) := by decide +kernel
theorem dX7_readFactor_95 : decode cX7_readFactor 95 = .ok (.aload_n 0, 1) := by decide +kernel
theorem dX7_readFactor_96 : decode cX7_readFactor 96 = .ok (.getfield 21, 3) := by decide +kernel
theorem dX7_readFactor_99 : decode cX7_readFactor 99 = .ok (.iload_n 2, 1) := by decide +kernel
theorem dX7_readFactor_100 : decode cX7_readFactor 100 = .ok (.bipush 120, 2) := by decide +kernel
theorem dX7_readFactor_102 : decode cX7_readFactor 102 = .ok (.if_icmp .ne 7, 3) := by decide +kernel
theorem dX7_readFactor_105 : decode cX7_readFactor 105 = .ok (.iconst 1, 1) := by decide +kernel
theorem dX7_readFactor_106 : decode cX7_readFactor 106 = .ok (.goto 4, 3) := by decide +kernel
theorem dX7_readFactor_109 : decode cX7_readFactor 109 = .ok (.iconst 0, 1) := by decide +kernel
theorem dX7_readFactor_110 : decode cX7_readFactor 110 = .ok (.iload_n 2, 1) := by decide +kernel
theorem dX7_readFactor_111 : decode cX7_readFactor 111 = .ok (.bipush 100, 2) := by decide +kernel
theorem dX7_readFactor_113 : decode cX7_readFactor 113 = .ok (.if_icmp .ne 7, 3) := by decide +kernel
theorem dX7_readFactor_116 : decode cX7_readFactor 116 = .ok (.iconst 1, 1) := by decide +kernel
theorem dX7_readFactor_117 : decode cX7_readFactor 117 = .ok (.goto 4, 3) := by decide +kernel
theorem dX7_readFactor_120 : decode cX7_readFactor 120 = .ok (.iconst 0, 1) := by decide +kernel
theorem dX7_readFactor_121 : decode cX7_readFactor 121 = .ok (.iconst 1, 1) := by decide +kernel
theorem dX7_readFactor_122 : decode cX7_readFactor 122 = .ok (.invokevirtual 79, 3) := by decide +kernel
theorem dX7_readFactor_125 : decode cX7_readFactor 125 = .ok (.goto 15, 3) := by decide +kernel
theorem dX7_readFactor_128 : decode cX7_readFactor 128 = .ok (.aload_n 0, 1) := by decide +kernel
theorem dX7_readFactor_129 : decode cX7_readFactor 129 = .ok (.getfield 21, 3) := by decide +kernel
theorem dX7_readFactor_132 : decode cX7_readFactor 132 = .ok (.aload_n 0, 1) := by decide +kernel
theorem dX7_readFactor_133 : decode cX7_readFactor 133 = .ok (.iconst 4, 1) := by decide +kernel
theorem dX7_readFactor_134 : decode cX7_readFactor 134 = .ok (.invokevirtual 83, 3) := by decide +kernel
theorem dX7_readFactor_137 : decode cX7_readFactor 137 = .ok (.invokevirtual 62, 3) := by decide +kernel
theorem dX7_readFactor_140 : decode cX7_readFactor 140 = .ok (.aload_n 0, 1) := by decide +kernel
theorem dX7_readFactor_141 : decode cX7_readFactor 141 = .ok (.invokevirtual 51, 3) := by decide +kernel
theorem dX7_readFactor_144 : decode cX7_readFactor 144 = .ok (.bipush 94, 2) := by decide +kernel
theorem dX7_readFactor_146 : decode cX7_readFactor 146 = .ok (.if_icmp .eq 5, 3) := by decide +kernel
theorem dX7_readFactor_149 : decode cX7_readFactor 149 = .ok (.iconst 1, 1) := by decide +kernel
theorem dX7_readFactor_150 : decode cX7_readFactor 150 = .ok (.ireturn, 1) := by decide +kernel
theorem dX7_readFactor_151 : decode cX7_readFactor 151 = .ok (.aload_n 0, 1) := by decide +kernel
theorem dX7_readFactor_152 : decode cX7_readFactor 152 = .ok (.dup, 1) := by decide +kernel
theorem dX7_readFactor_153 : decode cX7_readFactor 153 = .ok (.getfield 28, 3) := by decide +kernel
theorem dX7_readFactor_156 : decode cX7_readFactor 156 = .ok (.iconst 1, 1) := by decide +kernel
theorem dX7_readFactor_157 : decode cX7_readFactor 157 = .ok (.iadd, 1) := by decide +kernel
theorem dX7_readFactor_158 : decode cX7_readFactor 158 = .ok (.putfield 28, 3) := by decide +kernel
theorem dX7_readFactor_161 : decode cX7_readFactor 161 = .ok (.aload_n 0, 1) := by decide +kernel
theorem dX7_readFactor_162 : decode cX7_readFactor 162 = .ok (.invokevirtual 51, 3) := by decide +kernel
theorem dX7_readFactor_165 : decode cX7_readFactor 165 = .ok (.pop, 1) := by decide +kernel
theorem dX7_readFactor_166 : decode cX7_readFactor 166 = .ok (.aload_n 0, 1) := by decide +kernel
theorem dX7_readFactor_167 : decode cX7_readFactor 167 = .ok (.iconst 2, 1) := by decide +kernel
theorem dX7_readFactor_168 : decode cX7_readFactor 168 = .ok (.invokevirtual 83, 3) := by decide +kernel
theorem dX7_readFactor_171 : decode cX7_readFactor 171 = .ok (.istore_n 3, 1) := by decide +kernel
theorem dX7_readFactor_172 : decode cX7_readFactor 172 = .ok (.aload_n 0, 1) := by decide +kernel
theorem dX7_readFactor_173 : decode cX7_readFactor 173 = .ok (.getfield 21, 3) := by decide +kernel
theorem dX7_readFactor_176 : decode cX7_readFactor 176 = .ok (.iload_n 3, 1) := by decide +kernel
theorem dX7_readFactor_177 : decode cX7_readFactor 177 = .ok (.invokestatic 87, 3) := by decide +kernel
theorem dX7_readFactor_180 : decode cX7_readFactor 180 = .ok (.ifCond .ne 5, 3) := by decide +kernel
theorem dX7_readFactor_183 : decode cX7_readFactor 183 = .ok (.iconst 0, 1) := by decide +kernel
theorem dX7_readFactor_184 : decode cX7_readFactor 184 = .ok (.ireturn, 1) := by decide +kernel
theorem dX7_readFactor_185 : decode cX7_readFactor 185 = .ok (.aload_n 0, 1) := by decide +kernel
theorem dX7_readFactor_186 : decode cX7_readFactor 186 = .ok (.getfield 32, 3) := by decide +kernel
theorem dX7_readFactor_189 : decode cX7_readFactor 189 = .ok (.aload_n 0, 1) := by decide +kernel
theorem dX7_readFactor_190 : decode cX7_readFactor 190 = .ok (.getfield 25, 3) := by decide +kernel
theorem dX7_readFactor_193 : decode cX7_readFactor 193 = .ok (.aload_n 0, 1) := by decide +kernel
theorem dX7_readFactor_194 : decode cX7_readFactor 194 = .ok (.getfield 21, 3) := by decide +kernel
theorem dX7_readFactor_197 : decode cX7_readFactor 197 = .ok (.iload_n 3, 1) := by decide +kernel
theorem dX7_readFactor_198 : decode cX7_readFactor 198 = .ok (.invokevirtual 91, 3) := by decide +kernel
theorem dX7_readFactor_201 : decode cX7_readFactor 201 = .ok (.aload_n 0, 1) := by decide +kernel
theorem dX7_readFactor_202 : decode cX7_readFactor 202 = .ok (.getfield 21, 3) := by decide +kernel
theorem dX7_readFactor_205 : decode cX7_readFactor 205 = .ok (.aload_n 0, 1) := by decide +kernel
theorem dX7_readFactor_206 : decode cX7_readFactor 206 = .ok (.getfield 25, 3) := by decide +kernel
theorem dX7_readFactor_209 : decode cX7_readFactor 209 = .ok (.invokevirtual 44, 3) := by decide +kernel
theorem dX7_readFactor_212 : decode cX7_readFactor 212 = .ok (.iconst 1, 1) := by decide +kernel
theorem dX7_readFactor_213 : decode cX7_readFactor 213 = .ok (.ireturn, 1) := by decide +kernel
theorem dX7_readNumber_0 : decode cX7_readNumber 0 = .ok (.aload_n 0, 1) := by decide +kernel
theorem dX7_readNumber_1 : decode cX7_readNumber 1 = .ok (.getfield 36, 3) := by decide +kernel
theorem dX7_readNumber_4 : decode cX7_readNumber 4 = .ok (.aload_n 0, 1) := by decide +kernel
theorem dX7_readNumber_5 : decode cX7_readNumber 5 = .ok (.getfield 28, 3) := by decide +kernel
theorem dX7_readNumber_8 : decode cX7_readNumber 8 = .ok (.iload_n 1, 1) := by decide +kernel
theorem dX7_readNumber_9 : decode cX7_readNumber 9 = .ok (.invokevirtual 95, 3) := by decide +kernel
theorem dX7_readNumber_12 : decode cX7_readNumber 12 = .ok (.istore_n 2, 1) := by decide +kernel
theorem dX7_readNumber_13 : decode cX7_readNumber 13 = .ok (.aload_n 0, 1) := by decide +kernel
theorem dX7_readNumber_14 : decode cX7_readNumber 14 = .ok (.getfield 36, 3) := by decide +kernel
theorem dX7_readNumber_17 : decode cX7_readNumber 17 = .ok (.aload_n 0, 1) := by decide +kernel
theorem dX7_readNumber_18 : decode cX7_readNumber 18 = .ok (.getfield 28, 3) := by decide +kernel
theorem dX7_readNumber_21 : decode cX7_readNumber 21 = .ok (.iload_n 2, 1) := by decide +kernel
theorem dX7_readNumber_22 : decode cX7_readNumber 22 = .ok (.invokevirtual 101, 3) := by decide +kernel
theorem dX7_readNumber_25 : decode cX7_readNumber 25 = .ok (.istore_n 3, 1) := by decide +kernel
theorem dX7_readNumber_26 : decode cX7_readNumber 26 = .ok (.aload_n 0, 1) := by decide +kernel
theorem dX7_readNumber_27 : decode cX7_readNumber 27 = .ok (.dup, 1) := by decide +kernel
theorem dX7_readNumber_28 : decode cX7_readNumber 28 = .ok (.getfield 28, 3) := by decide +kernel
theorem dX7_readNumber_31 : decode cX7_readNumber 31 = .ok (.iload_n 2, 1) := by decide +kernel
theorem dX7_readNumber_32 : decode cX7_readNumber 32 = .ok (.iadd, 1) := by decide +kernel
theorem dX7_readNumber_33 : decode cX7_readNumber 33 = .ok (.putfield 28, 3) := by decide +kernel
theorem dX7_readNumber_36 : decode cX7_readNumber 36 = .ok (.iload_n 3, 1) := by decide +kernel
theorem dX7_readNumber_37 : decode cX7_readNumber 37 = .ok (.ireturn, 1) := by decide +kernel
theorem dX7_peek_0 : decode cX7_peek 0 = .ok (.aload_n 0, 1) := by decide +kernel
theorem dX7_peek_1 : decode cX7_peek 1 = .ok (.getfield 28, 3) := by decide +kernel
theorem dX7_peek_4 : decode cX7_peek 4 = .ok (.aload_n 0, 1) := by decide +kernel
theorem dX7_peek_5 : decode cX7_peek 5 = .ok (.getfield 36, 3) := by decide +kernel
theorem dX7_peek_8 : decode cX7_peek 8 = .ok (.getfield 104, 3) := by decide +kernel
theorem dX7_peek_11 : decode cX7_peek 11 = .ok (.if_icmp .ge 32, 3) := by decide +kernel
theorem dX7_peek_14 : decode cX7_peek 14 = .ok (.aload_n 0, 1) := by decide +kernel
theorem dX7_peek_15 : decode cX7_peek 15 = .ok (.getfield 36, 3) := by decide +kernel
theorem dX7_peek_18 : decode cX7_peek 18 = .ok (.aload_n 0, 1) := by decide +kernel
theorem dX7_peek_19 : decode cX7_peek 19 = .ok (.getfield 28, 3) := by decide +kernel
theorem dX7_peek_22 : decode cX7_peek 22 = .ok (.invokevirtual 107, 3) := by decide +kernel
theorem dX7_peek_25 : decode cX7_peek 25 = .ok (.bipush 32, 2) := by decide +kernel
theorem dX7_peek_27 : decode cX7_peek 27 = .ok (.if_icmp .ne 16, 3) := by decide +kernel
theorem dX7_peek_30 : decode cX7_peek 30 = .ok (.aload_n 0, 1) := by decide +kernel
theorem dX7_peek_31 : decode cX7_peek 31 = .ok (.dup, 1) := by decide +kernel
theorem dX7_peek_32 : decode cX7_peek 32 = .ok (.getfield 28, 3) := by decide +kernel
theorem dX7_peek_35 : decode cX7_peek 35 = .ok (.iconst 1, 1) := by decide +kernel
theorem dX7_peek_36 : decode cX7_peek 36 = .ok (.iadd, 1) := by decide +kernel
theorem dX7_peek_37 : decode cX7_peek 37 = .ok (.putfield 28, 3) := by decide +kernel
theorem dX7_peek_40 : decode cX7_peek 40 = .ok (.goto (-40), 3) := by decide +kernel
theorem dX7_peek_43 : decode cX7_peek 43 = .ok (.aload_n 0, 1) := by decide +kernel
theorem dX7_peek_44 : decode cX7_peek 44 = .ok (.getfield 36, 3) := by decide +kernel
theorem dX7_peek_47 : decode cX7_peek 47 = .ok (.aload_n 0, 1) := by decide +kernel
theorem dX7_peek_48 : decode cX7_peek 48 = .ok (.getfield 28, 3) := by decide +kernel
theorem dX7_peek_51 : decode cX7_peek 51 = .ok (.invokevirtual 107, 3) := by decide +kernel
theorem dX7_peek_54 : decode cX7_peek 54 = .ok (.ireturn, 1) := by decide +kernel
theorem dX8_init_0 : decode cX8_init 0 = .ok (.aload_n 0, 1) := by decide +kernel
theorem dX8_init_1 : decode cX8_init 1 = .ok (.invokespecial 3, 3) := by decide +kernel
theorem dX8_init_4 : decode cX8_init 4 = .ok (.aload_n 0, 1) := by decide +kernel
theorem dX8_init_5 : decode cX8_init 5 = .ok (.bipush 6, 2) := by decide +kernel
theorem dX8_init_7 : decode cX8_init 7 = .ok (.anewarray 9, 3) := by decide +kernel
theorem dX8_init_10 : decode cX8_init 10 = .ok (.putfield 11, 3) := by decide +kernel
theorem dX8_init_13 : decode cX8_init 13 = .ok (.aload_n 0, 1) := by decide +kernel
theorem dX8_init_14 : decode cX8_init 14 = .ok (.iconst 2, 1) := by decide +kernel
theorem dX8_init_15 : decode cX8_init 15 = .ok (.bipush 31, 2) := by decide +kernel
theorem dX8_init_17 : decode cX8_init 17 = .ok (.multianewarray 17 2, 4) := by decide +kernel
theorem dX8_init_21 : decode cX8_init 21 = .ok (.putfield 19, 3) := by decide +kernel
theorem dX8_init_24 : decode cX8_init 24 = .ok (.aload_n 0, 1) := by decide +kernel
theorem dX8_init_25 : decode cX8_init 25 = .ok (.iconst 0, 1) := by decide +kernel
theorem dX8_init_26 : decode cX8_init 26 = .ok (.putfield 22, 3) := by decide +kernel
theorem dX8_init_29 : decode cX8_init 29 = .ok (.iconst 0, 1) := by decide +kernel
theorem dX8_init_30 : decode cX8_init 30 = .ok (.istore_n 1, 1) := by decide +kernel
theorem dX8_init_31 : decode cX8_init 31 = .ok (.iload_n 1, 1) := by decide +kernel
theorem dX8_init_32 : decode cX8_init 32 = .ok (.bipush 6, 2) := by decide +kernel
theorem dX8_init_34 : decode cX8_init 34 = .ok (.if_icmp .ge 22, 3) := by decide +kernel
theorem dX8_init_37 : decode cX8_init 37 = .ok (.aload_n 0, 1) := by decide +kernel
theorem dX8_init_38 : decode cX8_init 38 = .ok (.getfield 11, 3) := by decide +kernel
theorem dX8_init_41 : decode cX8_init 41 = .ok (.iload_n 1, 1) := by decide +kernel
theorem dX8_init_42 : decode cX8_init 42 = .ok (.new 9, 3) := by decide +kernel
theorem dX8_init_45 : decode cX8_init 45 = .ok (.dup, 1) := by decide +kernel
theorem dX8_init_46 : decode cX8_init 46 = .ok (.invokespecial 26, 3) := by decide +kernel
theorem dX8_init_49 : decode cX8_init 49 = .ok (.aastore, 1) := by decide +kernel
theorem dX8_init_50 : decode cX8_init 50 = .ok (.iinc 1 1, 3) := by decide +kernel
theorem dX8_init_53 : decode cX8_init 53 = .ok (.goto (-22), 3) := by decide +kernel
theorem dX8_init_56 : decode cX8_init 56 = .ok (.return_, 1) := by decide +kernel
theorem dX8_copyFrom_0 : decode cX8_copyFrom 0 = .ok (.iconst 0, 1) := by decide +kernel
theorem dX8_copyFrom_1 : decode cX8_copyFrom 1 = .ok (.istore_n 2, 1) := by decide +kernel
theorem dX8_copyFrom_2 : decode cX8_copyFrom 2 = .ok (.iload_n 2, 1) := by decide +kernel
theorem dX8_copyFrom_3 : decode cX8_copyFrom 3 = .ok (.bipush 6, 2) := by decide +kernel
theorem dX8_copyFrom_5 : decode cX8_copyFrom 5 = .ok (.if_icmp .ge 24, 3) := by decide +kernel
theorem dX8_copyFrom_8 : decode cX8_copyFrom 8 = .ok (.aload_n 0, 1) := by decide +kernel
theorem dX8_copyFrom_9 : decode cX8_copyFrom 9 = .ok (.getfield 11, 3) := by decide +kernel
theorem dX8_copyFrom_12 : decode cX8_copyFrom 12 = .ok (.iload_n 2, 1) := by decide +kernel
theorem dX8_copyFrom_13 : decode cX8_copyFrom 13 = .ok (.aaload, 1) := by decide +kernel
theorem dX8_copyFrom_14 : decode cX8_copyFrom 14 = .ok (.aload_n 1, 1) := by decide +kernel
theorem dX8_copyFrom_15 : decode cX8_copyFrom 15 = .ok (.getfield 11, 3) := by decide +kernel
theorem dX8_copyFrom_18 : decode cX8_copyFrom 18 = .ok (.iload_n 2, 1) := by decide +kernel
theorem dX8_copyFrom_19 : decode cX8_copyFrom 19 = .ok (.aaload, 1) := by decide +kernel
theorem dX8_copyFrom_20 : decode cX8_copyFrom 20 = .ok (.invokevirtual 27, 3) := by decide +kernel
theorem dX8_copyFrom_23 : decode cX8_copyFrom 23 = .ok (.iinc 2 1, 3) := by decide +kernel
theorem dX8_copyFrom_26 : decode cX8_copyFrom 26 = .ok (.goto (-24), 3) := by decide +kernel
theorem dX8_copyFrom_29 : decode cX8_copyFrom 29 = .ok (.iconst 0, 1) := by decide +kernel
theorem dX8_copyFrom_30 : decode cX8_copyFrom 30 = .ok (.istore_n 2, 1) := by decide +kernel
theorem dX8_copyFrom_31 : decode cX8_copyFrom 31 = .ok (.iload_n 2, 1) := by decide +kernel
theorem dX8_copyFrom_32 : decode cX8_copyFrom 32 = .ok (.iconst 2, 1) := by decide +kernel
theorem dX8_copyFrom_33 : decode cX8_copyFrom 33 = .ok (.if_icmp .ge 28, 3) := by decide +kernel
theorem dX8_copyFrom_36 : decode cX8_copyFrom 36 = .ok (.aload_n 1, 1) := by decide +kernel
theorem dX8_copyFrom_37 : decode cX8_copyFrom 37 = .ok (.getfield 19, 3) := by decide +kernel
theorem dX8_copyFrom_40 : decode cX8_copyFrom 40 = .ok (.iload_n 2, 1) := by decide +kernel
theorem dX8_copyFrom_41 : decode cX8_copyFrom 41 = .ok (.aaload, 1) := by decide +kernel
theorem dX8_copyFrom_42 : decode cX8_copyFrom 42 = .ok (.iconst 0, 1) := by decide +kernel
theorem dX8_copyFrom_43 : decode cX8_copyFrom 43 = .ok (.aload_n 0, 1) := by decide +kernel
theorem dX8_copyFrom_44 : decode cX8_copyFrom 44 = .ok (.getfield 19, 3) := by decide +kernel
theorem dX8_copyFrom_47 : decode cX8_copyFrom 47 = .ok (.iload_n 2, 1) := by decide +kernel
theorem dX8_copyFrom_48 : decode cX8_copyFrom 48 = .ok (.aaload, 1) := by decide +kernel
theorem dX8_copyFrom_49 : decode cX8_copyFrom 49 = .ok (.iconst 0, 1) := by decide +kernel
theorem dX8_copyFrom_50 : decode cX8_copyFrom 50 = .ok (.bipush 31, 2) := by decide +kernel
theorem dX8_copyFrom_52 : decode cX8_copyFrom 52 = .ok (.invokestatic 31, 3) := by decide +kernel
theorem dX8_copyFrom_55 : decode cX8_copyFrom 55 = .ok (.iinc 2 1, 3) := by decide +kernel
theorem dX8_copyFrom_58 : decode cX8_copyFrom 58 = .ok (.goto (-27), 3) := by decide +kernel
theorem dX8_copyFrom_61 : decode cX8_copyFrom 61 = .ok (.aload_n 0, 1) := by decide +kernel
theorem dX8_copyFrom_62 : decode cX8_copyFrom 62 = .ok (.aload_n 1, 1) := by decide +kernel
theorem dX8_copyFrom_63 : decode cX8_copyFrom 63 = .ok (.getfield 22, 3) := by decide +kernel
theorem dX8_copyFrom_66 : decode cX8_copyFrom 66 = .ok (.putfield 22, 3) := by decide +kernel
theorem dX8_copyFrom_69 : decode cX8_copyFrom 69 = .ok (.return_, 1) := by decide +kernel
theorem dX9_init_0 : decode cX9_init 0 = .ok (.aload_n 0, 1) := by decide +kernel
theorem dX9_init_1 : decode cX9_init 1 = .ok (.invokespecial 3, 3) := by decide +kernel
theorem dX9_init_4 : decode cX9_init 4 = .ok (.aload_n 0, 1) := by decide +kernel
theorem dX9_init_5 : decode cX9_init 5 = .ok (.bipush 120, 2) := by decide +kernel
theorem dX9_init_7 : decode cX9_init 7 = .ok (.newarray .int, 2) := by decide +kernel
theorem dX9_init_9 : decode cX9_init 9 = .ok (.putfield 9, 3) := by decide +kernel
theorem dX9_init_12 : decode cX9_init 12 = .ok (.aload_n 0, 1) := by decide +kernel
theorem dX9_init_13 : decode cX9_init 13 = .ok (.iconst 0, 1) := by decide +kernel
theorem dX9_init_14 : decode cX9_init 14 = .ok (.putfield 15, 3) := by decide +kernel
theorem dX9_init_17 : decode cX9_init 17 = .ok (.aload_n 0, 1) := by decide +kernel
theorem dX9_init_18 : decode cX9_init 18 = .ok (.iconst 0, 1) := by decide +kernel
theorem dX9_init_19 : decode cX9_init 19 = .ok (.putfield 19, 3) := by decide +kernel
theorem dX9_init_22 : decode cX9_init 22 = .ok (.aload_n 0, 1) := by decide +kernel
theorem dX9_init_23 : decode cX9_init 23 = .ok (.iconst 0, 1) := by decide +kernel
theorem dX9_init_24 : decode cX9_init 24 = .ok (.putfield 22, 3) := by decide +kernel
theorem dX9_init_27 : decode cX9_init 27 = .ok (.return_, 1) := by decide +kernel
theorem dX9_append_0 : decode cX9_append 0 = .ok (.aload_n 0, 1) := by decide +kernel
theorem dX9_append_1 : decode cX9_append 1 = .ok (.getfield 15, 3) := by decide +kernel
theorem dX9_append_4 : decode cX9_append 4 = .ok (.bipush 120, 2) := by decide +kernel
theorem dX9_append_6 : decode cX9_append 6 = .ok (.if_icmp .ge 23, 3) := by decide +kernel
theorem dX9_append_9 : decode cX9_append 9 = .ok (.aload_n 0, 1) := by decide +kernel
theorem dX9_append_10 : decode cX9_append 10 = .ok (.getfield 9, 3) := by decide +kernel
theorem dX9_append_13 : decode cX9_append 13 = .ok (.aload_n 0, 1) := by decide +kernel
theorem dX9_append_14 : decode cX9_append 14 = .ok (.getfield 15, 3) := by decide +kernel
theorem dX9_append_17 : decode cX9_append 17 = .ok (.iload_n 1, 1) := by decide +kernel
theorem dX9_append_18 : decode cX9_append 18 = .ok (.iastore, 1) := by decide +kernel
theorem dX9_append_19 : decode cX9_append 19 = .ok (.aload_n 0, 1) := by decide +kernel
theorem dX9_append_20 : decode cX9_append 20 = .ok (.dup, 1) := by decide +kernel
theorem dX9_append_21 : decode cX9_append 21 = .ok (.getfield 15, 3) := by decide +kernel
theorem dX9_append_24 : decode cX9_append 24 = .ok (.iconst 1, 1) := by decide +kernel
theorem dX9_append_25 : decode cX9_append 25 = .ok (.iadd, 1) := by decide +kernel
theorem dX9_append_26 : decode cX9_append 26 = .ok (.putfield 15, 3) := by decide +kernel
theorem dX9_append_29 : decode cX9_append 29 = .ok (.return_, 1) := by decide +kernel
theorem dX9_byteAt_0 : decode cX9_byteAt 0 = .ok (.iload_n 1, 1) := by decide +kernel
theorem dX9_byteAt_1 : decode cX9_byteAt 1 = .ok (.ifCond .lt 26, 3) := by decide +kernel
theorem dX9_byteAt_4 : decode cX9_byteAt 4 = .ok (.iload_n 1, 1) := by decide +kernel
theorem dX9_byteAt_5 : decode cX9_byteAt 5 = .ok (.aload_n 0, 1) := by decide +kernel
theorem dX9_byteAt_6 : decode cX9_byteAt 6 = .ok (.getfield 15, 3) := by decide +kernel
theorem dX9_byteAt_9 : decode cX9_byteAt 9 = .ok (.if_icmp .ge 18, 3) := by decide +kernel
theorem dX9_byteAt_12 : decode cX9_byteAt 12 = .ok (.iload_n 1, 1) := by decide +kernel
theorem dX9_byteAt_13 : decode cX9_byteAt 13 = .ok (.bipush 120, 2) := by decide +kernel
theorem dX9_byteAt_15 : decode cX9_byteAt 15 = .ok (.if_icmp .ge 12, 3) := by decide +kernel
theorem dX9_byteAt_18 : decode cX9_byteAt 18 = .ok (.aload_n 0, 1) := by decide +kernel
theorem dX9_byteAt_19 : decode cX9_byteAt 19 = .ok (.getfield 9, 3) := by decide +kernel
theorem dX9_byteAt_22 : decode cX9_byteAt 22 = .ok (.iload_n 1, 1) := by decide +kernel
theorem dX9_byteAt_23 : decode cX9_byteAt 23 = .ok (.iaload, 1) := by decide +kernel
theorem dX9_byteAt_24 : decode cX9_byteAt 24 = .ok (.goto 4, 3) := by decide +kernel
theorem dX9_byteAt_27 : decode cX9_byteAt 27 = .ok (.iconst (-1), 1) := by decide +kernel
theorem dX9_byteAt_28 : decode cX9_byteAt 28 = .ok (.ireturn, 1) := by decide +kernel
theorem dX9_isDigit_0 : decode cX9_isDigit 0 = .ok (.aload_n 0, 1) := by decide +kernel
theorem dX9_isDigit_1 : decode cX9_isDigit 1 = .ok (.iload_n 1, 1) := by decide +kernel
theorem dX9_isDigit_2 : decode cX9_isDigit 2 = .ok (.invokevirtual 25, 3) := by decide +kernel
theorem dX9_isDigit_5 : decode cX9_isDigit 5 = .ok (.istore_n 2, 1) := by decide +kernel
theorem dX9_isDigit_6 : decode cX9_isDigit 6 = .ok (.iload_n 2, 1) := by decide +kernel
theorem dX9_isDigit_7 : decode cX9_isDigit 7 = .ok (.bipush 48, 2) := by decide +kernel
theorem dX9_isDigit_9 : decode cX9_isDigit 9 = .ok (.if_icmp .lt 13, 3) := by decide +kernel
theorem dX9_isDigit_12 : decode cX9_isDigit 12 = .ok (.iload_n 2, 1) := by decide +kernel
theorem dX9_isDigit_13 : decode cX9_isDigit 13 = .ok (.bipush 57, 2) := by decide +kernel
theorem dX9_isDigit_15 : decode cX9_isDigit 15 = .ok (.if_icmp .gt 7, 3) := by decide +kernel
theorem dX9_isDigit_18 : decode cX9_isDigit 18 = .ok (.iconst 1, 1) := by decide +kernel
theorem dX9_isDigit_19 : decode cX9_isDigit 19 = .ok (.goto 4, 3) := by decide +kernel
theorem dX9_isDigit_22 : decode cX9_isDigit 22 = .ok (.iconst 0, 1) := by decide +kernel
theorem dX9_isDigit_23 : decode cX9_isDigit 23 = .ok (.ireturn, 1) := by decide +kernel
theorem dX9_fault_0 : decode cX9_fault 0 = .ok (.aload_n 0, 1) := by decide +kernel
theorem dX9_fault_1 : decode cX9_fault 1 = .ok (.iconst 0, 1) := by decide +kernel
theorem dX9_fault_2 : decode cX9_fault 2 = .ok (.putfield 19, 3) := by decide +kernel
theorem dX9_fault_5 : decode cX9_fault 5 = .ok (.aload_n 0, 1) := by decide +kernel
theorem dX9_fault_6 : decode cX9_fault 6 = .ok (.iconst 0, 1) := by decide +kernel
theorem dX9_fault_7 : decode cX9_fault 7 = .ok (.putfield 22, 3) := by decide +kernel
theorem dX9_fault_10 : decode cX9_fault 10 = .ok (.iconst 0, 1) := by decide +kernel
theorem dX9_fault_11 : decode cX9_fault 11 = .ok (.istore_n 1, 1) := by decide +kernel
theorem dX9_fault_12 : decode cX9_fault 12 = .ok (.iconst 0, 1) := by decide +kernel
theorem dX9_fault_13 : decode cX9_fault 13 = .ok (.istore_n 2, 1) := by decide +kernel
theorem dX9_fault_14 : decode cX9_fault 14 = .ok (.iload_n 2, 1) := by decide +kernel
theorem dX9_fault_15 : decode cX9_fault 15 = .ok (.bipush 120, 2) := by decide +kernel
theorem dX9_fault_17 : decode cX9_fault 17 = .ok (.if_icmp .ge 49, 3) := by decide +kernel
theorem dX9_fault_20 : decode cX9_fault 20 = .ok (.iload_n 1, 1) := by decide +kernel
theorem dX9_fault_21 : decode cX9_fault 21 = .ok (.aload_n 0, 1) := by decide +kernel
theorem dX9_fault_22 : decode cX9_fault 22 = .ok (.getfield 15, 3) := by decide +kernel
theorem dX9_fault_25 : decode cX9_fault 25 = .ok (.if_icmp .ge 41, 3) := by decide +kernel
theorem dX9_fault_28 : decode cX9_fault 28 = .ok (.aload_n 0, 1) := by decide +kernel
theorem dX9_fault_29 : decode cX9_fault 29 = .ok (.iload_n 1, 1) := by decide +kernel
theorem dX9_fault_30 : decode cX9_fault 30 = .ok (.invokevirtual 25, 3) := by decide +kernel
theorem dX9_fault_33 : decode cX9_fault 33 = .ok (.bipush 32, 2) := by decide +kernel
theorem dX9_fault_35 : decode cX9_fault 35 = .ok (.if_icmp .ne 9, 3) := by decide +kernel
theorem dX9_fault_38 : decode cX9_fault 38 = .ok (.iload_n 1, 1) := by decide +kernel
theorem dX9_fault_39 : decode cX9_fault 39 = .ok (.iconst 1, 1) := by decide +kernel
theorem dX9_fault_40 : decode cX9_fault 40 = .ok (.iadd, 1) := by decide +kernel
theorem dX9_fault_41 : decode cX9_fault 41 = .ok (.goto 8, 3) := by decide +kernel
theorem dX9_fault_44 : decode cX9_fault 44 = .ok (.aload_n 0, 1) := by decide +kernel
theorem dX9_fault_45 : decode cX9_fault 45 = .ok (.iload_n 1, 1) := by decide +kernel
theorem dX9_fault_46 : decode cX9_fault 46 = .ok (.invokevirtual 29, 3) := by decide +kernel
theorem dX9_fault_49 : decode cX9_fault 49 = .ok (.istore_n 3, 1) := by decide +kernel
theorem dX9_fault_50 : decode cX9_fault 50 = .ok (.iload_n 3, 1) := by decide +kernel
theorem dX9_fault_51 : decode cX9_fault 51 = .ok (.ifCond .ge 7, 3) := by decide +kernel
theorem dX9_fault_54 : decode cX9_fault 54 = .ok (.iconst (-1), 1) := by decide +kernel
theorem dX9_fault_55 : decode cX9_fault 55 = .ok (.iload_n 3, 1) := by decide +kernel
theorem dX9_fault_56 : decode cX9_fault 56 = .ok (.isub, 1) := by decide +kernel
theorem dX9_fault_57 : decode cX9_fault 57 = .ok (.ireturn, 1) := by decide +kernel
theorem dX9_fault_58 : decode cX9_fault 58 = .ok (.iload_n 3, 1) := by decide +kernel
theorem dX9_fault_59 : decode cX9_fault 59 = .ok (.istore_n 1, 1) := by decide +kernel
theorem dX9_fault_60 : decode cX9_fault 60 = .ok (.iinc 2 1, 3) := by decide +kernel
theorem dX9_fault_63 : decode cX9_fault 63 = .ok (.goto (-49), 3) := by decide +kernel
theorem dX9_fault_66 : decode cX9_fault 66 = .ok (.aload_n 0, 1) := by decide +kernel
theorem dX9_fault_67 : decode cX9_fault 67 = .ok (.getfield 19, 3) := by decide +kernel
theorem dX9_fault_70 : decode cX9_fault 70 = .ok (.iconst 2, 1) := by decide +kernel
theorem dX9_fault_71 : decode cX9_fault 71 = .ok (.if_icmp .eq 11, 3) := by decide +kernel
theorem dX9_fault_74 : decode cX9_fault 74 = .ok (.aload_n 0, 1) := by decide +kernel
theorem dX9_fault_75 : decode cX9_fault 75 = .ok (.getfield 19, 3) := by decide +kernel
theorem dX9_fault_78 : decode cX9_fault 78 = .ok (.iconst 4, 1) := by decide +kernel
theorem dX9_fault_79 : decode cX9_fault 79 = .ok (.if_icmp .ne 14, 3) := by decide +kernel
theorem dX9_fault_82 : decode cX9_fault 82 = .ok (.aload_n 0, 1) := by decide +kernel
theorem dX9_fault_83 : decode cX9_fault 83 = .ok (.getfield 22, 3) := by decide +kernel
theorem dX9_fault_86 : decode cX9_fault 86 = .ok (.ifCond .ne 7, 3) := by decide +kernel
theorem dX9_fault_89 : decode cX9_fault 89 = .ok (.iconst 1, 1) := by decide +kernel
theorem dX9_fault_90 : decode cX9_fault 90 = .ok (.goto 4, 3) := by decide +kernel
theorem dX9_fault_93 : decode cX9_fault 93 = .ok (.iconst 0, 1) := by decide +kernel
theorem dX9_fault_94 : decode cX9_fault 94 = .ok (.istore_n 2, 1) := by decide +kernel
theorem dX9_fault_95 : decode cX9_fault 95 = .ok (.iload_n 2, 1) := by decide +kernel
theorem dX9_fault_96 : decode cX9_fault 96 = .ok (.ifCond .eq 7, 3) := by decide +kernel
theorem dX9_fault_99 : decode cX9_fault 99 = .ok (.iconst (-1), 1) := by decide +kernel
theorem dX9_fault_100 : decode cX9_fault 100 = .ok (.goto 7, 3) := by decide +kernel
theorem dX9_fault_103 : decode cX9_fault 103 = .ok (.aload_n 0, 1) := by decide +kernel
theorem dX9_fault_104 : decode cX9_fault 104 = .ok (.getfield 15, 3) := by decide +kernel
theorem dX9_fault_107 : decode cX9_fault 107 = .ok (.ireturn, 1) := by decide +kernel
theorem dX9_pass_0 : decode cX9_pass 0 = .ok (.aload_n 0, 1) := by decide +kernel
theorem dX9_pass_1 : decode cX9_pass 1 = .ok (.getfield 19, 3) := by decide +kernel
theorem dX9_pass_4 : decode cX9_pass 4 = .ok (.tableswitch 69 0 3 #[32, 57, 69, 63], 32) := by decide +kernel
theorem dX9_pass_36 : decode cX9_pass 36 = .ok (.aload_n 0, 1) := by decide +kernel
theorem dX9_pass_37 : decode cX9_pass 37 = .ok (.iload_n 1, 1) := by decide +kernel
theorem dX9_pass_38 : decode cX9_pass 38 = .ok (.invokevirtual 25, 3) := by decide +kernel
theorem dX9_pass_41 : decode cX9_pass 41 = .ok (.bipush 45, 2) := by decide +kernel
theorem dX9_pass_43 : decode cX9_pass 43 = .ok (.if_icmp .ne 12, 3) := by decide +kernel
theorem dX9_pass_46 : decode cX9_pass 46 = .ok (.aload_n 0, 1) := by decide +kernel
theorem dX9_pass_47 : decode cX9_pass 47 = .ok (.iconst 1, 1) := by decide +kernel
theorem dX9_pass_48 : decode cX9_pass 48 = .ok (.putfield 19, 3) := by decide +kernel
theorem dX9_pass_51 : decode cX9_pass 51 = .ok (.iload_n 1, 1) := by decide +kernel
theorem dX9_pass_52 : decode cX9_pass 52 = .ok (.iconst 1, 1) := by decide +kernel
theorem dX9_pass_53 : decode cX9_pass 53 = .ok (.iadd, 1) := by decide +kernel
theorem dX9_pass_54 : decode cX9_pass 54 = .ok (.ireturn, 1) := by decide +kernel
theorem dX9_pass_55 : decode cX9_pass 55 = .ok (.aload_n 0, 1) := by decide +kernel
theorem dX9_pass_56 : decode cX9_pass 56 = .ok (.iload_n 1, 1) := by decide +kernel
theorem dX9_pass_57 : decode cX9_pass 57 = .ok (.invokevirtual 32, 3) := by decide +kernel
theorem dX9_pass_60 : decode cX9_pass 60 = .ok (.ireturn, 1) := by decide +kernel
theorem dX9_pass_61 : decode cX9_pass 61 = .ok (.aload_n 0, 1) := by decide +kernel
theorem dX9_pass_62 : decode cX9_pass 62 = .ok (.iload_n 1, 1) := by decide +kernel
theorem dX9_pass_63 : decode cX9_pass 63 = .ok (.invokevirtual 32, 3) := by decide +kernel
theorem dX9_pass_66 : decode cX9_pass 66 = .ok (.ireturn, 1) := by decide +kernel
theorem dX9_pass_67 : decode cX9_pass 67 = .ok (.aload_n 0, 1) := by decide +kernel
theorem dX9_pass_68 : decode cX9_pass 68 = .ok (.iload_n 1, 1) := by decide +kernel
theorem dX9_pass_69 : decode cX9_pass 69 = .ok (.invokevirtual 35, 3) := by decide +kernel
theorem dX9_pass_72 : decode cX9_pass 72 = .ok (.ireturn, 1) := by decide +kernel
theorem dX9_pass_73 : decode cX9_pass 73 = .ok (.aload_n 0, 1) := by decide +kernel
theorem dX9_pass_74 : decode cX9_pass 74 = .ok (.iload_n 1, 1) := by decide +kernel
theorem dX9_pass_75 : decode cX9_pass 75 = .ok (.invokevirtual 38, 3) := by decide +kernel
theorem dX9_pass_78 : decode cX9_pass 78 = .ok (.ireturn, 1) := by decide +kernel
theorem dX9_passOperand_0 : decode cX9_passOperand 0 = .ok (.aload_n 0, 1) := by decide +kernel
theorem dX9_passOperand_1 : decode cX9_passOperand 1 = .ok (.iload_n 1, 1) := by decide +kernel
theorem dX9_passOperand_2 : decode cX9_passOperand 2 = .ok (.invokevirtual 25, 3) := by decide +kernel
theorem dX9_passOperand_5 : decode cX9_passOperand 5 = .ok (.istore_n 2, 1) := by decide +kernel
theorem dX9_passOperand_6 : decode cX9_passOperand 6 = .ok (.iload_n 2, 1) := by decide +kernel
theorem dX9_passOperand_7 : decode cX9_passOperand 7 = .ok (.bipush 40, 2) := by decide +kernel
theorem dX9_passOperand_9 : decode cX9_passOperand 9 = .ok (.if_icmp .ne 35, 3) := by decide +kernel
theorem dX9_passOperand_12 : decode cX9_passOperand 12 = .ok (.aload_n 0, 1) := by decide +kernel
theorem dX9_passOperand_13 : decode cX9_passOperand 13 = .ok (.getfield 22, 3) := by decide +kernel
theorem dX9_passOperand_16 : decode cX9_passOperand 16 = .ok (.bipush 8, 2) := by decide +kernel
theorem dX9_passOperand_18 : decode cX9_passOperand 18 = .ok (.if_icmp .lt 7, 3) := by decide +kernel
theorem dX9_passOperand_21 : decode cX9_passOperand 21 = .ok (.iconst (-1), 1) := by decide +kernel
theorem dX9_passOperand_22 : decode cX9_passOperand 22 = .ok (.iload_n 1, 1) := by decide +kernel
theorem dX9_passOperand_23 : decode cX9_passOperand 23 = .ok (.isub, 1) := by decide +kernel
theorem dX9_passOperand_24 : decode cX9_passOperand 24 = .ok (.ireturn, 1) := by decide +kernel
theorem dX9_passOperand_25 : decode cX9_passOperand 25 = .ok (.aload_n 0, 1) := by decide +kernel
theorem dX9_passOperand_26 : decode cX9_passOperand 26 = .ok (.dup, 1) := by decide +kernel
theorem dX9_passOperand_27 : decode cX9_passOperand 27 = .ok (.getfield 22, 3) := by decide +kernel
theorem dX9_passOperand_30 : decode cX9_passOperand 30 = .ok (.iconst 1, 1) := by decide +kernel
theorem dX9_passOperand_31 : decode cX9_passOperand 31 = .ok (.iadd, 1) := by decide +kernel
theorem dX9_passOperand_32 : decode cX9_passOperand 32 = .ok (.putfield 22, 3) := by decide +kernel
theorem dX9_passOperand_35 : decode cX9_passOperand 35 = .ok (.aload_n 0, 1) := by decide +kernel
theorem dX9_passOperand_36 : decode cX9_passOperand 36 = .ok (.iconst 0, 1) := by decide +kernel
theorem dX9_passOperand_37 : decode cX9_passOperand 37 = .ok (.putfield 19, 3) := by decide +kernel
theorem dX9_passOperand_40 : decode cX9_passOperand 40 = .ok (.iload_n 1, 1) := by decide +kernel
theorem dX9_passOperand_41 : decode cX9_passOperand 41 = .ok (.iconst 1, 1) := by decide +kernel
theorem dX9_passOperand_42 : decode cX9_passOperand 42 = .ok (.iadd, 1) := by decide +kernel
theorem dX9_passOperand_43 : decode cX9_passOperand 43 = .ok (.ireturn, 1) := by decide +kernel
theorem dX9_passOperand_44 : decode cX9_passOperand 44 = .ok (.iload_n 2, 1) := by decide +kernel
theorem dX9_passOperand_45 : decode cX9_passOperand 45 = .ok (.bipush 120, 2) := by decide +kernel
theorem dX9_passOperand_47 : decode cX9_passOperand 47 = .ok (.if_icmp .eq 9, 3) := by decide +kernel
theorem dX9_passOperand_50 : decode cX9_passOperand 50 = .ok (.iload_n 2, 1) := by decide +kernel
theorem dX9_passOperand_51 : decode cX9_passOperand 51 = .ok (.bipush 100, 2) := by decide +kernel
theorem dX9_passOperand_53 : decode cX9_passOperand 53 = .ok (.if_icmp .ne 12, 3) := by decide +kernel
theorem dX9_passOperand_56 : decode cX9_passOperand 56 = .ok (.aload_n 0, 1) := by decide +kernel
theorem dX9_passOperand_57 : decode cX9_passOperand 57 = .ok (.iconst 2, 1) := by decide +kernel
theorem dX9_passOperand_58 : decode cX9_passOperand 58 = .ok (.putfield 19, 3) := by decide +kernel
theorem dX9_passOperand_61 : decode cX9_passOperand 61 = .ok (.iload_n 1, 1) := by decide +kernel
theorem dX9_passOperand_62 : decode cX9_passOperand 62 = .ok (.iconst 1, 1) := by decide +kernel
theorem dX9_passOperand_63 : decode cX9_passOperand 63 = .ok (.iadd, 1) := by decide +kernel
theorem dX9_passOperand_64 : decode cX9_passOperand 64 = .ok (.ireturn, 1) := by decide +kernel
theorem dX9_passOperand_65 : decode cX9_passOperand 65 = .ok (.aload_n 0, 1) := by decide +kernel
theorem dX9_passOperand_66 : decode cX9_passOperand 66 = .ok (.iload_n 1, 1) := by decide +kernel
theorem dX9_passOperand_67 : decode cX9_passOperand 67 = .ok (.iconst 5, 1) := by decide +kernel
theorem dX9_passOperand_68 : decode cX9_passOperand 68 = .ok (.invokevirtual 41, 3) := by decide +kernel
theorem dX9_passOperand_71 : decode cX9_passOperand 71 = .ok (.istore_n 3, 1) := by decide +kernel
theorem dX9_passOperand_72 : decode cX9_passOperand 72 = .ok (.iload_n 3, 1) := by decide +kernel
theorem dX9_passOperand_73 : decode cX9_passOperand 73 = .ok (.ifCond .ne 7, 3) := by decide +kernel
theorem dX9_passOperand_76 : decode cX9_passOperand 76 = .ok (.iconst (-1), 1) := by decide +kernel
theorem dX9_passOperand_77 : decode cX9_passOperand 77 = .ok (.iload_n 1, 1) := by decide +kernel
theorem dX9_passOperand_78 : decode cX9_passOperand 78 = .ok (.isub, 1) := by decide +kernel
theorem dX9_passOperand_79 : decode cX9_passOperand 79 = .ok (.ireturn, 1) := by decide +kernel
theorem dX9_passOperand_80 : decode cX9_passOperand 80 = .ok (.iload_n 3, 1) := by decide +kernel
theorem dX9_passOperand_81 : decode cX9_passOperand 81 = .ok (.iconst 5, 1) := by decide +kernel
theorem dX9_passOperand_82 : decode cX9_passOperand 82 = .ok (.if_icmp .ne 9, 3) := by decide +kernel
theorem dX9_passOperand_85 : decode cX9_passOperand 85 = .ok (.iconst (-1), 1) := by decide +kernel
theorem dX9_passOperand_86 : decode cX9_passOperand 86 = .ok (.iload_n 1, 1) := by decide +kernel
theorem dX9_passOperand_87 : decode cX9_passOperand 87 = .ok (.iconst 4, 1) := by decide +kernel
theorem dX9_passOperand_88 : decode cX9_passOperand 88 = .ok (.iadd, 1) := by decide +kernel
theorem dX9_passOperand_89 : decode cX9_passOperand 89 = .ok (.isub, 1) := by decide +kernel
theorem dX9_passOperand_90 : decode cX9_passOperand 90 = .ok (.ireturn, 1) := by decide +kernel
theorem dX9_passOperand_91 : decode cX9_passOperand 91 = .ok (.aload_n 0, 1) := by decide +kernel
theorem dX9_passOperand_92 : decode cX9_passOperand 92 = .ok (.iconst 2, 1) := by decide +kernel
theorem dX9_passOperand_93 : decode cX9_passOperand 93 = .ok (.putfield 19, 3) := by decide +kernel
theorem dX9_passOperand_96 : decode cX9_passOperand 96 = .ok (.iload_n 1, 1) := by decide +kernel
theorem dX9_passOperand_97 : decode cX9_passOperand 97 = .ok (.iload_n 3, 1) := by decide +kernel
theorem dX9_passOperand_98 : decode cX9_passOperand 98 = .ok (.iadd, 1) := by decide +kernel
theorem dX9_passOperand_99 : decode cX9_passOperand 99 = .ok (.ireturn, 1) := by decide +kernel
theorem dX9_passExponent_0 : decode cX9_passExponent 0 = .ok (.aload_n 0, 1) := by decide +kernel
theorem dX9_passExponent_1 : decode cX9_passExponent 1 = .ok (.iload_n 1, 1) := by decide +kernel
theorem dX9_passExponent_2 : decode cX9_passExponent 2 = .ok (.iconst 3, 1) := by decide +kernel
theorem dX9_passExponent_3 : decode cX9_passExponent 3 = .ok (.invokevirtual 41, 3) := by decide +kernel
theorem dX9_passExponent_6 : decode cX9_passExponent 6 = .ok (.istore_n 2, 1) := by decide +kernel
theorem dX9_passExponent_7 : decode cX9_passExponent 7 = .ok (.iload_n 2, 1) := by decide +kernel
theorem dX9_passExponent_8 : decode cX9_passExponent 8 = .ok (.ifCond .ne 7, 3) := by decide +kernel
theorem dX9_passExponent_11 : decode cX9_passExponent 11 = .ok (.iconst (-1), 1) := by decide +kernel
theorem dX9_passExponent_12 : decode cX9_passExponent 12 = .ok (.iload_n 1, 1) := by decide +kernel
theorem dX9_passExponent_13 : decode cX9_passExponent 13 = .ok (.isub, 1) := by decide +kernel
theorem dX9_passExponent_14 : decode cX9_passExponent 14 = .ok (.ireturn, 1) := by decide +kernel
theorem dX9_passExponent_15 : decode cX9_passExponent 15 = .ok (.iload_n 2, 1) := by decide +kernel
theorem dX9_passExponent_16 : decode cX9_passExponent 16 = .ok (.iconst 3, 1) := by decide +kernel
theorem dX9_passExponent_17 : decode cX9_passExponent 17 = .ok (.if_icmp .ne 9, 3) := by decide +kernel
theorem dX9_passExponent_20 : decode cX9_passExponent 20 = .ok (.iconst (-1), 1) := by decide +kernel
theorem dX9_passExponent_21 : decode cX9_passExponent 21 = .ok (.iload_n 1, 1) := by decide +kernel
theorem dX9_passExponent_22 : decode cX9_passExponent 22 = .ok (.iconst 2, 1) := by decide +kernel
theorem dX9_passExponent_23 : decode cX9_passExponent 23 = .ok (.iadd, 1) := by decide +kernel
theorem dX9_passExponent_24 : decode cX9_passExponent 24 = .ok (.isub, 1) := by decide +kernel
theorem dX9_passExponent_25 : decode cX9_passExponent 25 = .ok (.ireturn, 1) := by decide +kernel
theorem dX9_passExponent_26 : decode cX9_passExponent 26 = .ok (.aload_n 0, 1) := by decide +kernel
theorem dX9_passExponent_27 : decode cX9_passExponent 27 = .ok (.iload_n 1, 1) := by decide +kernel
theorem dX9_passExponent_28 : decode cX9_passExponent 28 = .ok (.iload_n 2, 1) := by decide +kernel
theorem dX9_passExponent_29 : decode cX9_passExponent 29 = .ok (.invokevirtual 45, 3) := by decide +kernel
theorem dX9_passExponent_32 : decode cX9_passExponent 32 = .ok (.bipush 12, 2) := by decide +kernel
theorem dX9_passExponent_34 : decode cX9_passExponent 34 = .ok (.if_icmp .le 7, 3) := by decide +kernel
theorem dX9_passExponent_37 : decode cX9_passExponent 37 = .ok (.iconst (-1), 1) := by decide +kernel
theorem dX9_passExponent_38 : decode cX9_passExponent 38 = .ok (.iload_n 1, 1) := by decide +kernel
theorem dX9_passExponent_39 : decode cX9_passExponent 39 = .ok (.isub, 1) := by decide +kernel
theorem dX9_passExponent_40 : decode cX9_passExponent 40 = .ok (.ireturn, 1) := by decide +kernel
theorem dX9_passExponent_41 : decode cX9_passExponent 41 = .ok (.aload_n 0, 1) := by decide +kernel
theorem dX9_passExponent_42 : decode cX9_passExponent 42 = .ok (.iconst 4, 1) := by decide +kernel
theorem dX9_passExponent_43 : decode cX9_passExponent 43 = .ok (.putfield 19, 3) := by decide +kernel
theorem dX9_passExponent_46 : decode cX9_passExponent 46 = .ok (.iload_n 1, 1) := by decide +kernel
theorem dX9_passExponent_47 : decode cX9_passExponent 47 = .ok (.iload_n 2, 1) := by decide +kernel
theorem dX9_passExponent_48 : decode cX9_passExponent 48 = .ok (.iadd, 1) := by decide +kernel
theorem dX9_passExponent_49 : decode cX9_passExponent 49 = .ok (.ireturn, 1) := by decide +kernel
theorem dX9_passLink_0 : decode cX9_passLink 0 = .ok (.aload_n 0, 1) := by decide +kernel
theorem dX9_passLink_1 : decode cX9_passLink 1 = .ok (.iload_n 1, 1) := by decide +kernel
theorem dX9_passLink_2 : decode cX9_passLink 2 = .ok (.invokevirtual 25, 3) := by decide +kernel
theorem dX9_passLink_5 : decode cX9_passLink 5 = .ok (.istore_n 2, 1) := by decide +kernel
theorem dX9_passLink_6 : decode cX9_passLink 6 = .ok (.iload_n 2, 1) := by decide +kernel
theorem dX9_passLink_7 : decode cX9_passLink 7 = .ok (.bipush 94, 2) := by decide +kernel
theorem dX9_passLink_9 : decode cX9_passLink 9 = .ok (.if_icmp .ne 19, 3) := by decide +kernel
theorem dX9_passLink_12 : decode cX9_passLink 12 = .ok (.aload_n 0, 1) := by decide +kernel
theorem dX9_passLink_13 : decode cX9_passLink 13 = .ok (.getfield 19, 3) := by decide +kernel
theorem dX9_passLink_16 : decode cX9_passLink 16 = .ok (.iconst 2, 1) := by decide +kernel
theorem dX9_passLink_17 : decode cX9_passLink 17 = .ok (.if_icmp .ne 11, 3) := by decide +kernel
theorem dX9_passLink_20 : decode cX9_passLink 20 = .ok (.aload_n 0, 1) := by decide +kernel
theorem dX9_passLink_21 : decode cX9_passLink 21 = .ok (.iconst 3, 1) := by decide +kernel
theorem dX9_passLink_22 : decode cX9_passLink 22 = .ok (.putfield 19, 3) := by decide +kernel
theorem dX9_passLink_25 : decode cX9_passLink 25 = .ok (.goto 64, 3) := by decide +kernel
theorem dX9_passLink_28 : decode cX9_passLink 28 = .ok (.iload_n 2, 1) := by decide +kernel
theorem dX9_passLink_29 : decode cX9_passLink 29 = .ok (.bipush 43, 2) := by decide +kernel
theorem dX9_passLink_31 : decode cX9_passLink 31 = .ok (.if_icmp .eq 15, 3) := by decide +kernel
theorem dX9_passLink_34 : decode cX9_passLink 34 = .ok (.iload_n 2, 1) := by decide +kernel
theorem dX9_passLink_35 : decode cX9_passLink 35 = .ok (.bipush 45, 2) := by decide +kernel
theorem dX9_passLink_37 : decode cX9_passLink 37 = .ok (.if_icmp .eq 9, 3) := by decide +kernel
theorem dX9_passLink_40 : decode cX9_passLink 40 = .ok (.iload_n 2, 1) := by decide +kernel
theorem dX9_passLink_41 : decode cX9_passLink 41 = .ok (.bipush 42, 2) := by decide +kernel
theorem dX9_passLink_43 : decode cX9_passLink 43 = .ok (.if_icmp .ne 11, 3) := by decide +kernel
theorem dX9_passLink_46 : decode cX9_passLink 46 = .ok (.aload_n 0, 1) := by decide +kernel
theorem dX9_passLink_47 : decode cX9_passLink 47 = .ok (.iconst 1, 1) := by decide +kernel
theorem dX9_passLink_48 : decode cX9_passLink 48 = .ok (.putfield 19, 3) := by decide +kernel
theorem dX9_passLink_51 : decode cX9_passLink 51 = .ok (.goto 38, 3) := by decide +kernel
theorem dX9_passLink_54 : decode cX9_passLink 54 = .ok (.iload_n 2, 1) := by decide +kernel
theorem dX9_passLink_55 : decode cX9_passLink 55 = .ok (.bipush 41, 2) := by decide +kernel
theorem dX9_passLink_57 : decode cX9_passLink 57 = .ok (.if_icmp .ne 28, 3) := by decide +kernel
theorem dX9_passLink_60 : decode cX9_passLink 60 = .ok (.aload_n 0, 1) := by decide +kernel
theorem dX9_passLink_61 : decode cX9_passLink 61 = .ok (.getfield 22, 3) := by decide +kernel
theorem dX9_passLink_64 : decode cX9_passLink 64 = .ok (.ifCond .le 21, 3) := by decide +kernel
theorem dX9_passLink_67 : decode cX9_passLink 67 = .ok (.aload_n 0, 1) := by decide +kernel
theorem dX9_passLink_68 : decode cX9_passLink 68 = .ok (.dup, 1) := by decide +kernel
theorem dX9_passLink_69 : decode cX9_passLink 69 = .ok (.getfield 22, 3) := by decide +kernel
theorem dX9_passLink_72 : decode cX9_passLink 72 = .ok (.iconst 1, 1) := by decide +kernel
theorem dX9_passLink_73 : decode cX9_passLink 73 = .ok (.isub, 1) := by decide +kernel
theorem dX9_passLink_74 : decode cX9_passLink 74 = .ok (.putfield 22, 3) := by decide +kernel
theorem dX9_passLink_77 : decode cX9_passLink 77 = .ok (.aload_n 0, 1) := by decide +kernel
theorem dX9_passLink_78 : decode cX9_passLink 78 = .ok (.iconst 2, 1) := by decide +kernel
theorem dX9_passLink_79 : decode cX9_passLink 79 = .ok (.putfield 19, 3) := by decide +kernel
theorem dX9_passLink_82 : decode cX9_passLink 82 = .ok (.goto 7, 3) := by decide +kernel
theorem dX9_passLink_85 : decode cX9_passLink 85 = .ok (.iconst (-1), 1) := by decide +kernel
theorem dX9_passLink_86 : decode cX9_passLink 86 = .ok (.iload_n 1, 1) := by decide +kernel
theorem dX9_passLink_87 : decode cX9_passLink 87 = .ok (.isub, 1) := by decide +kernel
theorem dX9_passLink_88 : decode cX9_passLink 88 = .ok (.ireturn, 1) := by decide +kernel
theorem dX9_passLink_89 : decode cX9_passLink 89 = .ok (.iload_n 1, 1) := by decide +kernel
theorem dX9_passLink_90 : decode cX9_passLink 90 = .ok (.iconst 1, 1) := by decide +kernel
theorem dX9_passLink_91 : decode cX9_passLink 91 = .ok (.iadd, 1) := by decide +kernel
theorem dX9_passLink_92 : decode cX9_passLink 92 = .ok (.ireturn, 1) := by decide +kernel
theorem dX9_countDigits_0 : decode cX9_countDigits 0 = .ok (.iconst 0, 1) := by decide +kernel
theorem dX9_countDigits_1 : decode cX9_countDigits 1 = .ok (.istore_n 3, 1) := by decide +kernel
theorem dX9_countDigits_2 : decode cX9_countDigits 2 = .ok (.iload_n 3, 1) := by decide +kernel
theorem dX9_countDigits_3 : decode cX9_countDigits 3 = .ok (.iload_n 2, 1) := by decide +kernel
theorem dX9_countDigits_4 : decode cX9_countDigits 4 = .ok (.if_icmp .ge 19, 3) := by decide +kernel
theorem dX9_countDigits_7 : decode cX9_countDigits 7 = .ok (.aload_n 0, 1) := by decide +kernel
theorem dX9_countDigits_8 : decode cX9_countDigits 8 = .ok (.iload_n 1, 1) := by decide +kernel
theorem dX9_countDigits_9 : decode cX9_countDigits 9 = .ok (.iload_n 3, 1) := by decide +kernel
theorem dX9_countDigits_10 : decode cX9_countDigits 10 = .ok (.iadd, 1) := by decide +kernel
theorem dX9_countDigits_11 : decode cX9_countDigits 11 = .ok (.invokevirtual 48, 3) := by decide +kernel
theorem dX9_countDigits_14 : decode cX9_countDigits 14 = .ok (.ifCond .eq 9, 3) := by decide +kernel
theorem dX9_countDigits_17 : decode cX9_countDigits 17 = .ok (.iinc 3 1, 3) := by decide +kernel
theorem dX9_countDigits_20 : decode cX9_countDigits 20 = .ok (.goto (-18), 3) := by decide +kernel
theorem dX9_countDigits_23 : decode cX9_countDigits 23 = .ok (.iload_n 3, 1) := by decide +kernel
theorem dX9_countDigits_24 : decode cX9_countDigits 24 = .ok (.ireturn, 1) := by decide +kernel
theorem dX9_valueOf_0 : decode cX9_valueOf 0 = .ok (.iconst 0, 1) := by decide +kernel
theorem dX9_valueOf_1 : decode cX9_valueOf 1 = .ok (.istore_n 3, 1) := by decide +kernel
theorem dX9_valueOf_2 : decode cX9_valueOf 2 = .ok (.iconst 0, 1) := by decide +kernel
theorem dX9_valueOf_3 : decode cX9_valueOf 3 = .ok (.istore 4, 2) := by decide +kernel
theorem dX9_valueOf_5 : decode cX9_valueOf 5 = .ok (.iload 4, 2) := by decide +kernel
end
section
theorem dX9_valueOf_7 : decode cX9_valueOf 7 = .ok (.iload_n 2, 1) := by decide +kernel
theorem dX9_valueOf_8 : decode cX9_valueOf 8 = .ok (.if_icmp .ge 26, 3) := by decide +kernel
theorem dX9_valueOf_11 : decode cX9_valueOf 11 = .ok (.iload_n 3, 1) := by decide +kernel
theorem dX9_valueOf_12 : decode cX9_valueOf 12 = .ok (.bipush 10, 2) := by decide +kernel
theorem dX9_valueOf_14 : decode cX9_valueOf 14 = .ok (.imul, 1) := by decide +kernel
theorem dX9_valueOf_15 : decode cX9_valueOf 15 = .ok (.aload_n 0, 1) := by decide +kernel
theorem dX9_valueOf_16 : decode cX9_valueOf 16 = .ok (.iload_n 1, 1) := by decide +kernel
theorem dX9_valueOf_17 : decode cX9_valueOf 17 = .ok (.iload 4, 2) := by decide +kernel
theorem dX9_valueOf_19 : decode cX9_valueOf 19 = .ok (.iadd, 1) := by decide +kernel
theorem dX9_valueOf_20 : decode cX9_valueOf 20 = .ok (.invokevirtual 25, 3) := by decide +kernel
theorem dX9_valueOf_23 : decode cX9_valueOf 23 = .ok (.bipush 48, 2) := by decide +kernel
theorem dX9_valueOf_25 : decode cX9_valueOf 25 = .ok (.isub, 1) := by decide +kernel
theorem dX9_valueOf_26 : decode cX9_valueOf 26 = .ok (.iadd, 1) := by decide +kernel
theorem dX9_valueOf_27 : decode cX9_valueOf 27 = .ok (.istore_n 3, 1) := by decide +kernel
theorem dX9_valueOf_28 : decode cX9_valueOf 28 = .ok (.iinc 4 1, 3) := by decide +kernel
theorem dX9_valueOf_31 : decode cX9_valueOf 31 = .ok (.goto (-26), 3) := by decide +kernel
theorem dX9_valueOf_34 : decode cX9_valueOf 34 = .ok (.iload_n 3, 1) := by decide +kernel
theorem dX9_valueOf_35 : decode cX9_valueOf 35 = .ok (.ireturn, 1) := by decide +kernel
theorem dX10_init_0 : decode cX10_init 0 = .ok (.aload_n 0, 1) := by decide +kernel
theorem dX10_init_1 : decode cX10_init 1 = .ok (.invokespecial 3, 3) := by decide +kernel
theorem dX10_init_4 : decode cX10_init 4 = .ok (.aload_n 0, 1) := by decide +kernel
theorem dX10_init_5 : decode cX10_init 5 = .ok (.bipush 20, 2) := by decide +kernel
theorem dX10_init_7 : decode cX10_init 7 = .ok (.newarray .int, 2) := by decide +kernel
theorem dX10_init_9 : decode cX10_init 9 = .ok (.putfield 9, 3) := by decide +kernel
theorem dX10_init_12 : decode cX10_init 12 = .ok (.aload_n 0, 1) := by decide +kernel
theorem dX10_init_13 : decode cX10_init 13 = .ok (.iconst 0, 1) := by decide +kernel
theorem dX10_init_14 : decode cX10_init 14 = .ok (.putfield 15, 3) := by decide +kernel
theorem dX10_init_17 : decode cX10_init 17 = .ok (.return_, 1) := by decide +kernel
theorem dX10_byteAt_0 : decode cX10_byteAt 0 = .ok (.aload_n 1, 1) := by decide +kernel
theorem dX10_byteAt_1 : decode cX10_byteAt 1 = .ok (.invokevirtual 19, 3) := by decide +kernel
theorem dX10_byteAt_4 : decode cX10_byteAt 4 = .ok (.istore 4, 2) := by decide +kernel
theorem dX10_byteAt_6 : decode cX10_byteAt 6 = .ok (.iload 4, 2) := by decide +kernel
theorem dX10_byteAt_8 : decode cX10_byteAt 8 = .ok (.ifCond .ge 16, 3) := by decide +kernel
theorem dX10_byteAt_11 : decode cX10_byteAt 11 = .ok (.iload_n 3, 1) := by decide +kernel
theorem dX10_byteAt_12 : decode cX10_byteAt 12 = .ok (.ifCond .ne 8, 3) := by decide +kernel
theorem dX10_byteAt_15 : decode cX10_byteAt 15 = .ok (.bipush 48, 2) := by decide +kernel
theorem dX10_byteAt_17 : decode cX10_byteAt 17 = .ok (.goto 6, 3) := by decide +kernel
theorem dX10_byteAt_20 : decode cX10_byteAt 20 = .ok (.sipush (-20001), 3) := by decide +kernel
theorem dX10_byteAt_23 : decode cX10_byteAt 23 = .ok (.ireturn, 1) := by decide +kernel
theorem dX10_byteAt_24 : decode cX10_byteAt 24 = .ok (.iconst 0, 1) := by decide +kernel
theorem dX10_byteAt_25 : decode cX10_byteAt 25 = .ok (.istore 5, 2) := by decide +kernel
theorem dX10_byteAt_27 : decode cX10_byteAt 27 = .ok (.iload 4, 2) := by decide +kernel
theorem dX10_byteAt_29 : decode cX10_byteAt 29 = .ok (.istore 6, 2) := by decide +kernel
theorem dX10_byteAt_31 : decode cX10_byteAt 31 = .ok (.iload 6, 2) := by decide +kernel
theorem dX10_byteAt_33 : decode cX10_byteAt 33 = .ok (.ifCond .lt 101, 3) := by decide +kernel
theorem dX10_byteAt_36 : decode cX10_byteAt 36 = .ok (.iconst 0, 1) := by decide +kernel
theorem dX10_byteAt_37 : decode cX10_byteAt 37 = .ok (.istore 7, 2) := by decide +kernel
theorem dX10_byteAt_39 : decode cX10_byteAt 39 = .ok (.iload 7, 2) := by decide +kernel
theorem dX10_byteAt_41 : decode cX10_byteAt 41 = .ok (.iload 6, 2) := by decide +kernel
theorem dX10_byteAt_43 : decode cX10_byteAt 43 = .ok (.if_icmp .gt 85, 3) := by decide +kernel
theorem dX10_byteAt_46 : decode cX10_byteAt 46 = .ok (.iload_n 2, 1) := by decide +kernel
theorem dX10_byteAt_47 : decode cX10_byteAt 47 = .ok (.iload 6, 2) := by decide +kernel
theorem dX10_byteAt_49 : decode cX10_byteAt 49 = .ok (.iload 7, 2) := by decide +kernel
theorem dX10_byteAt_51 : decode cX10_byteAt 51 = .ok (.invokestatic 25, 3) := by decide +kernel
theorem dX10_byteAt_54 : decode cX10_byteAt 54 = .ok (.istore 8, 2) := by decide +kernel
theorem dX10_byteAt_56 : decode cX10_byteAt 56 = .ok (.aload_n 1, 1) := by decide +kernel
theorem dX10_byteAt_57 : decode cX10_byteAt 57 = .ok (.getfield 29, 3) := by decide +kernel
theorem dX10_byteAt_60 : decode cX10_byteAt 60 = .ok (.iload 8, 2) := by decide +kernel
theorem dX10_byteAt_62 : decode cX10_byteAt 62 = .ok (.iaload, 1) := by decide +kernel
theorem dX10_byteAt_63 : decode cX10_byteAt 63 = .ok (.ifCond .eq 59, 3) := by decide +kernel
theorem dX10_byteAt_66 : decode cX10_byteAt 66 = .ok (.aload_n 0, 1) := by decide +kernel
theorem dX10_byteAt_67 : decode cX10_byteAt 67 = .ok (.aload_n 1, 1) := by decide +kernel
theorem dX10_byteAt_68 : decode cX10_byteAt 68 = .ok (.getfield 29, 3) := by decide +kernel
theorem dX10_byteAt_71 : decode cX10_byteAt 71 = .ok (.iload 8, 2) := by decide +kernel
theorem dX10_byteAt_73 : decode cX10_byteAt 73 = .ok (.iaload, 1) := by decide +kernel
theorem dX10_byteAt_74 : decode cX10_byteAt 74 = .ok (.invokestatic 32, 3) := by decide +kernel
theorem dX10_byteAt_77 : decode cX10_byteAt 77 = .ok (.iload 8, 2) := by decide +kernel
theorem dX10_byteAt_79 : decode cX10_byteAt 79 = .ok (.iload 5, 2) := by decide +kernel
theorem dX10_byteAt_81 : decode cX10_byteAt 81 = .ok (.ifCond .ne 7, 3) := by decide +kernel
theorem dX10_byteAt_84 : decode cX10_byteAt 84 = .ok (.iconst 1, 1) := by decide +kernel
theorem dX10_byteAt_85 : decode cX10_byteAt 85 = .ok (.goto 4, 3) := by decide +kernel
theorem dX10_byteAt_88 : decode cX10_byteAt 88 = .ok (.iconst 0, 1) := by decide +kernel
theorem dX10_byteAt_89 : decode cX10_byteAt 89 = .ok (.invokevirtual 38, 3) := by decide +kernel
theorem dX10_byteAt_92 : decode cX10_byteAt 92 = .ok (.iload_n 3, 1) := by decide +kernel
theorem dX10_byteAt_93 : decode cX10_byteAt 93 = .ok (.iload 5, 2) := by decide +kernel
theorem dX10_byteAt_95 : decode cX10_byteAt 95 = .ok (.isub, 1) := by decide +kernel
theorem dX10_byteAt_96 : decode cX10_byteAt 96 = .ok (.aload_n 0, 1) := by decide +kernel
theorem dX10_byteAt_97 : decode cX10_byteAt 97 = .ok (.getfield 15, 3) := by decide +kernel
theorem dX10_byteAt_100 : decode cX10_byteAt 100 = .ok (.if_icmp .ge 13, 3) := by decide +kernel
theorem dX10_byteAt_103 : decode cX10_byteAt 103 = .ok (.aload_n 0, 1) := by decide +kernel
theorem dX10_byteAt_104 : decode cX10_byteAt 104 = .ok (.getfield 9, 3) := by decide +kernel
theorem dX10_byteAt_107 : decode cX10_byteAt 107 = .ok (.iload_n 3, 1) := by decide +kernel
theorem dX10_byteAt_108 : decode cX10_byteAt 108 = .ok (.iload 5, 2) := by decide +kernel
theorem dX10_byteAt_110 : decode cX10_byteAt 110 = .ok (.isub, 1) := by decide +kernel
theorem dX10_byteAt_111 : decode cX10_byteAt 111 = .ok (.iaload, 1) := by decide +kernel
theorem dX10_byteAt_112 : decode cX10_byteAt 112 = .ok (.ireturn, 1) := by decide +kernel
theorem dX10_byteAt_113 : decode cX10_byteAt 113 = .ok (.iload 5, 2) := by decide +kernel
theorem dX10_byteAt_115 : decode cX10_byteAt 115 = .ok (.aload_n 0, 1) := by decide +kernel
theorem dX10_byteAt_116 : decode cX10_byteAt 116 = .ok (.getfield 15, 3) := by decide +kernel
theorem dX10_byteAt_119 : decode cX10_byteAt 119 = .ok (.iadd, 1) := by decide +kernel
theorem dX10_byteAt_120 : decode cX10_byteAt 120 = .ok (.istore 5, 2) := by decide +kernel
theorem dX10_byteAt_122 : decode cX10_byteAt 122 = .ok (.iinc 7 1, 3) := by decide +kernel
theorem dX10_byteAt_125 : decode cX10_byteAt 125 = .ok (.goto (-86), 3) := by decide +kernel
theorem dX10_byteAt_128 : decode cX10_byteAt 128 = .ok (.iinc 6 (-1), 3) := by decide +kernel
theorem dX10_byteAt_131 : decode cX10_byteAt 131 = .ok (.goto (-100), 3) := by decide +kernel
theorem dX10_byteAt_134 : decode cX10_byteAt 134 = .ok (.sipush (-20001), 3) := by decide +kernel
theorem dX10_byteAt_137 : decode cX10_byteAt 137 = .ok (.ireturn, 1) := by decide +kernel
theorem dX10_writeTerm_0 : decode cX10_writeTerm 0 = .ok (.aload_n 0, 1) := by decide +kernel
theorem dX10_writeTerm_1 : decode cX10_writeTerm 1 = .ok (.iconst 0, 1) := by decide +kernel
theorem dX10_writeTerm_2 : decode cX10_writeTerm 2 = .ok (.putfield 15, 3) := by decide +kernel
theorem dX10_writeTerm_5 : decode cX10_writeTerm 5 = .ok (.iload_n 1, 1) := by decide +kernel
theorem dX10_writeTerm_6 : decode cX10_writeTerm 6 = .ok (.ifCond .ge 12, 3) := by decide +kernel
theorem dX10_writeTerm_9 : decode cX10_writeTerm 9 = .ok (.aload_n 0, 1) := by decide +kernel
theorem dX10_writeTerm_10 : decode cX10_writeTerm 10 = .ok (.bipush 45, 2) := by decide +kernel
theorem dX10_writeTerm_12 : decode cX10_writeTerm 12 = .ok (.invokevirtual 42, 3) := by decide +kernel
theorem dX10_writeTerm_15 : decode cX10_writeTerm 15 = .ok (.goto 13, 3) := by decide +kernel
theorem dX10_writeTerm_18 : decode cX10_writeTerm 18 = .ok (.iload_n 3, 1) := by decide +kernel
theorem dX10_writeTerm_19 : decode cX10_writeTerm 19 = .ok (.ifCond .ne 9, 3) := by decide +kernel
theorem dX10_writeTerm_22 : decode cX10_writeTerm 22 = .ok (.aload_n 0, 1) := by decide +kernel
theorem dX10_writeTerm_23 : decode cX10_writeTerm 23 = .ok (.bipush 43, 2) := by decide +kernel
theorem dX10_writeTerm_25 : decode cX10_writeTerm 25 = .ok (.invokevirtual 42, 3) := by decide +kernel
theorem dX10_writeTerm_28 : decode cX10_writeTerm 28 = .ok (.iload_n 1, 1) := by decide +kernel
theorem dX10_writeTerm_29 : decode cX10_writeTerm 29 = .ok (.invokestatic 46, 3) := by decide +kernel
theorem dX10_writeTerm_32 : decode cX10_writeTerm 32 = .ok (.istore 4, 2) := by decide +kernel
theorem dX10_writeTerm_34 : decode cX10_writeTerm 34 = .ok (.iload 4, 2) := by decide +kernel
theorem dX10_writeTerm_36 : decode cX10_writeTerm 36 = .ok (.iconst 1, 1) := by decide +kernel
theorem dX10_writeTerm_37 : decode cX10_writeTerm 37 = .ok (.if_icmp .ne 7, 3) := by decide +kernel
theorem dX10_writeTerm_40 : decode cX10_writeTerm 40 = .ok (.iload_n 2, 1) := by decide +kernel
theorem dX10_writeTerm_41 : decode cX10_writeTerm 41 = .ok (.ifCond .ne 7, 3) := by decide +kernel
theorem dX10_writeTerm_44 : decode cX10_writeTerm 44 = .ok (.iconst 1, 1) := by decide +kernel
theorem dX10_writeTerm_45 : decode cX10_writeTerm 45 = .ok (.goto 4, 3) := by decide +kernel
theorem dX10_writeTerm_48 : decode cX10_writeTerm 48 = .ok (.iconst 0, 1) := by decide +kernel
theorem dX10_writeTerm_49 : decode cX10_writeTerm 49 = .ok (.istore 5, 2) := by decide +kernel
theorem dX10_writeTerm_51 : decode cX10_writeTerm 51 = .ok (.iload 5, 2) := by decide +kernel
theorem dX10_writeTerm_53 : decode cX10_writeTerm 53 = .ok (.ifCond .eq 9, 3) := by decide +kernel
theorem dX10_writeTerm_56 : decode cX10_writeTerm 56 = .ok (.aload_n 0, 1) := by decide +kernel
theorem dX10_writeTerm_57 : decode cX10_writeTerm 57 = .ok (.iload 4, 2) := by decide +kernel
theorem dX10_writeTerm_59 : decode cX10_writeTerm 59 = .ok (.invokevirtual 51, 3) := by decide +kernel
theorem dX10_writeTerm_62 : decode cX10_writeTerm 62 = .ok (.getstatic 54, 3) := by decide +kernel
theorem dX10_writeTerm_65 : decode cX10_writeTerm 65 = .ok (.iload_n 2, 1) := by decide +kernel
theorem dX10_writeTerm_66 : decode cX10_writeTerm 66 = .ok (.iaload, 1) := by decide +kernel
theorem dX10_writeTerm_67 : decode cX10_writeTerm 67 = .ok (.istore 6, 2) := by decide +kernel
theorem dX10_writeTerm_69 : decode cX10_writeTerm 69 = .ok (.getstatic 57, 3) := by decide +kernel
theorem dX10_writeTerm_72 : decode cX10_writeTerm 72 = .ok (.iload_n 2, 1) := by decide +kernel
theorem dX10_writeTerm_73 : decode cX10_writeTerm 73 = .ok (.iaload, 1) := by decide +kernel
theorem dX10_writeTerm_74 : decode cX10_writeTerm 74 = .ok (.istore 7, 2) := by decide +kernel
theorem dX10_writeTerm_76 : decode cX10_writeTerm 76 = .ok (.aload_n 0, 1) := by decide +kernel
theorem dX10_writeTerm_77 : decode cX10_writeTerm 77 = .ok (.bipush 120, 2) := by decide +kernel
theorem dX10_writeTerm_79 : decode cX10_writeTerm 79 = .ok (.iload 6, 2) := by decide +kernel
theorem dX10_writeTerm_81 : decode cX10_writeTerm 81 = .ok (.iload 5, 2) := by decide +kernel
theorem dX10_writeTerm_83 : decode cX10_writeTerm 83 = .ok (.invokevirtual 60, 3) := by decide +kernel
theorem dX10_writeTerm_86 : decode cX10_writeTerm 86 = .ok (.aload_n 0, 1) := by decide +kernel
theorem dX10_writeTerm_87 : decode cX10_writeTerm 87 = .ok (.bipush 100, 2) := by decide +kernel
theorem dX10_writeTerm_89 : decode cX10_writeTerm 89 = .ok (.iload 7, 2) := by decide +kernel
theorem dX10_writeTerm_91 : decode cX10_writeTerm 91 = .ok (.iload 5, 2) := by decide +kernel
theorem dX10_writeTerm_93 : decode cX10_writeTerm 93 = .ok (.ifCond .ne 8, 3) := by decide +kernel
theorem dX10_writeTerm_96 : decode cX10_writeTerm 96 = .ok (.iload 6, 2) := by decide +kernel
theorem dX10_writeTerm_98 : decode cX10_writeTerm 98 = .ok (.ifCond .le 7, 3) := by decide +kernel
theorem dX10_writeTerm_101 : decode cX10_writeTerm 101 = .ok (.iconst 1, 1) := by decide +kernel
theorem dX10_writeTerm_102 : decode cX10_writeTerm 102 = .ok (.goto 4, 3) := by decide +kernel
theorem dX10_writeTerm_105 : decode cX10_writeTerm 105 = .ok (.iconst 0, 1) := by decide +kernel
theorem dX10_writeTerm_106 : decode cX10_writeTerm 106 = .ok (.invokevirtual 60, 3) := by decide +kernel
theorem dX10_writeTerm_109 : decode cX10_writeTerm 109 = .ok (.return_, 1) := by decide +kernel
theorem dX10_writeLetter_0 : decode cX10_writeLetter 0 = .ok (.iload_n 2, 1) := by decide +kernel
theorem dX10_writeLetter_1 : decode cX10_writeLetter 1 = .ok (.ifCond .ne 4, 3) := by decide +kernel
theorem dX10_writeLetter_4 : decode cX10_writeLetter 4 = .ok (.return_, 1) := by decide +kernel
theorem dX10_writeLetter_5 : decode cX10_writeLetter 5 = .ok (.iload_n 3, 1) := by decide +kernel
theorem dX10_writeLetter_6 : decode cX10_writeLetter 6 = .ok (.ifCond .eq 9, 3) := by decide +kernel
theorem dX10_writeLetter_9 : decode cX10_writeLetter 9 = .ok (.aload_n 0, 1) := by decide +kernel
theorem dX10_writeLetter_10 : decode cX10_writeLetter 10 = .ok (.bipush 42, 2) := by decide +kernel
theorem dX10_writeLetter_12 : decode cX10_writeLetter 12 = .ok (.invokevirtual 42, 3) := by decide +kernel
theorem dX10_writeLetter_15 : decode cX10_writeLetter 15 = .ok (.aload_n 0, 1) := by decide +kernel
theorem dX10_writeLetter_16 : decode cX10_writeLetter 16 = .ok (.iload_n 1, 1) := by decide +kernel
theorem dX10_writeLetter_17 : decode cX10_writeLetter 17 = .ok (.invokevirtual 42, 3) := by decide +kernel
theorem dX10_writeLetter_20 : decode cX10_writeLetter 20 = .ok (.iload_n 2, 1) := by decide +kernel
theorem dX10_writeLetter_21 : decode cX10_writeLetter 21 = .ok (.iconst 1, 1) := by decide +kernel
theorem dX10_writeLetter_22 : decode cX10_writeLetter 22 = .ok (.if_icmp .le 14, 3) := by decide +kernel
theorem dX10_writeLetter_25 : decode cX10_writeLetter 25 = .ok (.aload_n 0, 1) := by decide +kernel
theorem dX10_writeLetter_26 : decode cX10_writeLetter 26 = .ok (.bipush 94, 2) := by decide +kernel
theorem dX10_writeLetter_28 : decode cX10_writeLetter 28 = .ok (.invokevirtual 42, 3) := by decide +kernel
theorem dX10_writeLetter_31 : decode cX10_writeLetter 31 = .ok (.aload_n 0, 1) := by decide +kernel
theorem dX10_writeLetter_32 : decode cX10_writeLetter 32 = .ok (.iload_n 2, 1) := by decide +kernel
theorem dX10_writeLetter_33 : decode cX10_writeLetter 33 = .ok (.invokevirtual 51, 3) := by decide +kernel
theorem dX10_writeLetter_36 : decode cX10_writeLetter 36 = .ok (.return_, 1) := by decide +kernel
theorem dX10_writeNumber_0 : decode cX10_writeNumber 0 = .ok (.iconst 0, 1) := by decide +kernel
theorem dX10_writeNumber_1 : decode cX10_writeNumber 1 = .ok (.istore_n 2, 1) := by decide +kernel
theorem dX10_writeNumber_2 : decode cX10_writeNumber 2 = .ok (.sipush 1000, 3) := by decide +kernel
theorem dX10_writeNumber_5 : decode cX10_writeNumber 5 = .ok (.istore_n 3, 1) := by decide +kernel
theorem dX10_writeNumber_6 : decode cX10_writeNumber 6 = .ok (.iload_n 3, 1) := by decide +kernel
theorem dX10_writeNumber_7 : decode cX10_writeNumber 7 = .ok (.ifCond .le 47, 3) := by decide +kernel
theorem dX10_writeNumber_10 : decode cX10_writeNumber 10 = .ok (.iload_n 1, 1) := by decide +kernel
theorem dX10_writeNumber_11 : decode cX10_writeNumber 11 = .ok (.iload_n 3, 1) := by decide +kernel
theorem dX10_writeNumber_12 : decode cX10_writeNumber 12 = .ok (.idiv, 1) := by decide +kernel
theorem dX10_writeNumber_13 : decode cX10_writeNumber 13 = .ok (.bipush 10, 2) := by decide +kernel
theorem dX10_writeNumber_15 : decode cX10_writeNumber 15 = .ok (.irem, 1) := by decide +kernel
theorem dX10_writeNumber_16 : decode cX10_writeNumber 16 = .ok (.istore 4, 2) := by decide +kernel
theorem dX10_writeNumber_18 : decode cX10_writeNumber 18 = .ok (.iload_n 2, 1) := by decide +kernel
theorem dX10_writeNumber_19 : decode cX10_writeNumber 19 = .ok (.ifCond .ne 8, 3) := by decide +kernel
theorem dX10_writeNumber_22 : decode cX10_writeNumber 22 = .ok (.iload 4, 2) := by decide +kernel
theorem dX10_writeNumber_24 : decode cX10_writeNumber 24 = .ok (.ifCond .le 7, 3) := by decide +kernel
theorem dX10_writeNumber_27 : decode cX10_writeNumber 27 = .ok (.iconst 1, 1) := by decide +kernel
theorem dX10_writeNumber_28 : decode cX10_writeNumber 28 = .ok (.goto 4, 3) := by decide +kernel
theorem dX10_writeNumber_31 : decode cX10_writeNumber 31 = .ok (.iconst 0, 1) := by decide +kernel
theorem dX10_writeNumber_32 : decode cX10_writeNumber 32 = .ok (.istore_n 2, 1) := by decide +kernel
theorem dX10_writeNumber_33 : decode cX10_writeNumber 33 = .ok (.iload_n 2, 1) := by decide +kernel
theorem dX10_writeNumber_34 : decode cX10_writeNumber 34 = .ok (.ifCond .eq 12, 3) := by decide +kernel
theorem dX10_writeNumber_37 : decode cX10_writeNumber 37 = .ok (.aload_n 0, 1) := by decide +kernel
theorem dX10_writeNumber_38 : decode cX10_writeNumber 38 = .ok (.bipush 48, 2) := by decide +kernel
theorem dX10_writeNumber_40 : decode cX10_writeNumber 40 = .ok (.iload 4, 2) := by decide +kernel
theorem dX10_writeNumber_42 : decode cX10_writeNumber 42 = .ok (.iadd, 1) := by decide +kernel
theorem dX10_writeNumber_43 : decode cX10_writeNumber 43 = .ok (.invokevirtual 42, 3) := by decide +kernel
theorem dX10_writeNumber_46 : decode cX10_writeNumber 46 = .ok (.iload_n 3, 1) := by decide +kernel
theorem dX10_writeNumber_47 : decode cX10_writeNumber 47 = .ok (.bipush 10, 2) := by decide +kernel
theorem dX10_writeNumber_49 : decode cX10_writeNumber 49 = .ok (.idiv, 1) := by decide +kernel
theorem dX10_writeNumber_50 : decode cX10_writeNumber 50 = .ok (.istore_n 3, 1) := by decide +kernel
theorem dX10_writeNumber_51 : decode cX10_writeNumber 51 = .ok (.goto (-45), 3) := by decide +kernel
theorem dX10_writeNumber_54 : decode cX10_writeNumber 54 = .ok (.return_, 1) := by decide +kernel
theorem dX10_write_0 : decode cX10_write 0 = .ok (.aload_n 0, 1) := by decide +kernel
theorem dX10_write_1 : decode cX10_write 1 = .ok (.getfield 15, 3) := by decide +kernel
theorem dX10_write_4 : decode cX10_write 4 = .ok (.aload_n 0, 1) := by decide +kernel
theorem dX10_write_5 : decode cX10_write 5 = .ok (.getfield 9, 3) := by decide +kernel
theorem dX10_write_8 : decode cX10_write 8 = .ok (.arraylength, 1) := by decide +kernel
theorem dX10_write_9 : decode cX10_write 9 = .ok (.if_icmp .ge 23, 3) := by decide +kernel
theorem dX10_write_12 : decode cX10_write 12 = .ok (.aload_n 0, 1) := by decide +kernel
theorem dX10_write_13 : decode cX10_write 13 = .ok (.getfield 9, 3) := by decide +kernel
theorem dX10_write_16 : decode cX10_write 16 = .ok (.aload_n 0, 1) := by decide +kernel
theorem dX10_write_17 : decode cX10_write 17 = .ok (.getfield 15, 3) := by decide +kernel
theorem dX10_write_20 : decode cX10_write 20 = .ok (.iload_n 1, 1) := by decide +kernel
theorem dX10_write_21 : decode cX10_write 21 = .ok (.iastore, 1) := by decide +kernel
theorem dX10_write_22 : decode cX10_write 22 = .ok (.aload_n 0, 1) := by decide +kernel
theorem dX10_write_23 : decode cX10_write 23 = .ok (.dup, 1) := by decide +kernel
theorem dX10_write_24 : decode cX10_write 24 = .ok (.getfield 15, 3) := by decide +kernel
theorem dX10_write_27 : decode cX10_write 27 = .ok (.iconst 1, 1) := by decide +kernel
theorem dX10_write_28 : decode cX10_write 28 = .ok (.iadd, 1) := by decide +kernel
theorem dX10_write_29 : decode cX10_write 29 = .ok (.putfield 15, 3) := by decide +kernel
theorem dX10_write_32 : decode cX10_write 32 = .ok (.return_, 1) := by decide +kernel
theorem dX11_init_0 : decode cX11_init 0 = .ok (.aload_n 0, 1) := by decide +kernel
theorem dX11_init_1 : decode cX11_init 1 = .ok (.invokespecial 1, 3) := by decide +kernel
theorem dX11_init_4 : decode cX11_init 4 = .ok (.aload_n 0, 1) := by decide +kernel
theorem dX11_init_5 : decode cX11_init 5 = .ok (.new 7, 3) := by decide +kernel
theorem dX11_init_8 : decode cX11_init 8 = .ok (.dup, 1) := by decide +kernel
theorem dX11_init_9 : decode cX11_init 9 = .ok (.invokespecial 9, 3) := by decide +kernel
theorem dX11_init_12 : decode cX11_init 12 = .ok (.putfield 10, 3) := by decide +kernel
theorem dX11_init_15 : decode cX11_init 15 = .ok (.aload_n 0, 1) := by decide +kernel
theorem dX11_init_16 : decode cX11_init 16 = .ok (.new 16, 3) := by decide +kernel
theorem dX11_init_19 : decode cX11_init 19 = .ok (.dup, 1) := by decide +kernel
theorem dX11_init_20 : decode cX11_init 20 = .ok (.invokespecial 18, 3) := by decide +kernel
theorem dX11_init_23 : decode cX11_init 23 = .ok (.putfield 19, 3) := by decide +kernel
theorem dX11_init_26 : decode cX11_init 26 = .ok (.aload_n 0, 1) := by decide +kernel
theorem dX11_init_27 : decode cX11_init 27 = .ok (.new 23, 3) := by decide +kernel
theorem dX11_init_30 : decode cX11_init 30 = .ok (.dup, 1) := by decide +kernel
theorem dX11_init_31 : decode cX11_init 31 = .ok (.invokespecial 25, 3) := by decide +kernel
theorem dX11_init_34 : decode cX11_init 34 = .ok (.putfield 26, 3) := by decide +kernel
theorem dX11_init_37 : decode cX11_init 37 = .ok (.aload_n 0, 1) := by decide +kernel
theorem dX11_init_38 : decode cX11_init 38 = .ok (.new 30, 3) := by decide +kernel
theorem dX11_init_41 : decode cX11_init 41 = .ok (.dup, 1) := by decide +kernel
theorem dX11_init_42 : decode cX11_init 42 = .ok (.invokespecial 32, 3) := by decide +kernel
theorem dX11_init_45 : decode cX11_init 45 = .ok (.putfield 33, 3) := by decide +kernel
theorem dX11_init_48 : decode cX11_init 48 = .ok (.aload_n 0, 1) := by decide +kernel
theorem dX11_init_49 : decode cX11_init 49 = .ok (.new 37, 3) := by decide +kernel
theorem dX11_init_52 : decode cX11_init 52 = .ok (.dup, 1) := by decide +kernel
theorem dX11_init_53 : decode cX11_init 53 = .ok (.aload_n 0, 1) := by decide +kernel
theorem dX11_init_54 : decode cX11_init 54 = .ok (.getfield 33, 3) := by decide +kernel
theorem dX11_init_57 : decode cX11_init 57 = .ok (.invokespecial 39, 3) := by decide +kernel
theorem dX11_init_60 : decode cX11_init 60 = .ok (.putfield 42, 3) := by decide +kernel
theorem dX11_init_63 : decode cX11_init 63 = .ok (.aload_n 0, 1) := by decide +kernel
theorem dX11_init_64 : decode cX11_init 64 = .ok (.new 46, 3) := by decide +kernel
theorem dX11_init_67 : decode cX11_init 67 = .ok (.dup, 1) := by decide +kernel
theorem dX11_init_68 : decode cX11_init 68 = .ok (.aload_n 0, 1) := by decide +kernel
theorem dX11_init_69 : decode cX11_init 69 = .ok (.getfield 33, 3) := by decide +kernel
theorem dX11_init_72 : decode cX11_init 72 = .ok (.aload_n 0, 1) := by decide +kernel
theorem dX11_init_73 : decode cX11_init 73 = .ok (.getfield 42, 3) := by decide +kernel
theorem dX11_init_76 : decode cX11_init 76 = .ok (.invokespecial 48, 3) := by decide +kernel
theorem dX11_init_79 : decode cX11_init 79 = .ok (.putfield 51, 3) := by decide +kernel
theorem dX11_init_82 : decode cX11_init 82 = .ok (.aload_n 0, 1) := by decide +kernel
theorem dX11_init_83 : decode cX11_init 83 = .ok (.new 55, 3) := by decide +kernel
theorem dX11_init_86 : decode cX11_init 86 = .ok (.dup, 1) := by decide +kernel
theorem dX11_init_87 : decode cX11_init 87 = .ok (.aload_n 0, 1) := by decide +kernel
theorem dX11_init_88 : decode cX11_init 88 = .ok (.getfield 33, 3) := by decide +kernel
theorem dX11_init_91 : decode cX11_init 91 = .ok (.invokespecial 57, 3) := by decide +kernel
theorem dX11_init_94 : decode cX11_init 94 = .ok (.putfield 58, 3) := by decide +kernel
theorem dX11_init_97 : decode cX11_init 97 = .ok (.aload_n 0, 1) := by decide +kernel
theorem dX11_init_98 : decode cX11_init 98 = .ok (.new 62, 3) := by decide +kernel
theorem dX11_init_101 : decode cX11_init 101 = .ok (.dup, 1) := by decide +kernel
theorem dX11_init_102 : decode cX11_init 102 = .ok (.aload_n 0, 1) := by decide +kernel
theorem dX11_init_103 : decode cX11_init 103 = .ok (.getfield 33, 3) := by decide +kernel
theorem dX11_init_106 : decode cX11_init 106 = .ok (.aload_n 0, 1) := by decide +kernel
theorem dX11_init_107 : decode cX11_init 107 = .ok (.getfield 26, 3) := by decide +kernel
theorem dX11_init_110 : decode cX11_init 110 = .ok (.invokespecial 64, 3) := by decide +kernel
theorem dX11_init_113 : decode cX11_init 113 = .ok (.putfield 67, 3) := by decide +kernel
theorem dX11_init_116 : decode cX11_init 116 = .ok (.aload_n 0, 1) := by decide +kernel
theorem dX11_init_117 : decode cX11_init 117 = .ok (.new 71, 3) := by decide +kernel
theorem dX11_init_120 : decode cX11_init 120 = .ok (.dup, 1) := by decide +kernel
theorem dX11_init_121 : decode cX11_init 121 = .ok (.invokespecial 73, 3) := by decide +kernel
theorem dX11_init_124 : decode cX11_init 124 = .ok (.putfield 74, 3) := by decide +kernel
theorem dX11_init_127 : decode cX11_init 127 = .ok (.aload_n 0, 1) := by decide +kernel
theorem dX11_init_128 : decode cX11_init 128 = .ok (.new 78, 3) := by decide +kernel
theorem dX11_init_131 : decode cX11_init 131 = .ok (.dup, 1) := by decide +kernel
theorem dX11_init_132 : decode cX11_init 132 = .ok (.invokespecial 80, 3) := by decide +kernel
theorem dX11_init_135 : decode cX11_init 135 = .ok (.putfield 81, 3) := by decide +kernel
theorem dX11_init_138 : decode cX11_init 138 = .ok (.aload_n 0, 1) := by decide +kernel
theorem dX11_init_139 : decode cX11_init 139 = .ok (.iconst 0, 1) := by decide +kernel
theorem dX11_init_140 : decode cX11_init 140 = .ok (.putfield 85, 3) := by decide +kernel
theorem dX11_init_143 : decode cX11_init 143 = .ok (.aload_n 0, 1) := by decide +kernel
theorem dX11_init_144 : decode cX11_init 144 = .ok (.iconst 0, 1) := by decide +kernel
theorem dX11_init_145 : decode cX11_init 145 = .ok (.putfield 89, 3) := by decide +kernel
theorem dX11_init_148 : decode cX11_init 148 = .ok (.aload_n 0, 1) := by decide +kernel
theorem dX11_init_149 : decode cX11_init 149 = .ok (.iconst 0, 1) := by decide +kernel
theorem dX11_init_150 : decode cX11_init 150 = .ok (.putfield 92, 3) := by decide +kernel
theorem dX11_init_153 : decode cX11_init 153 = .ok (.return_, 1) := by decide +kernel
theorem dX11_sets_0 : decode cX11_sets 0 = .ok (.iload_n 1, 1) := by decide +kernel
theorem dX11_sets_1 : decode cX11_sets 1 = .ok (.invokestatic 95, 3) := by decide +kernel
theorem dX11_sets_4 : decode cX11_sets 4 = .ok (.ifCond .eq 11, 3) := by decide +kernel
theorem dX11_sets_7 : decode cX11_sets 7 = .ok (.iload_n 2, 1) := by decide +kernel
theorem dX11_sets_8 : decode cX11_sets 8 = .ok (.iload_n 3, 1) := by decide +kernel
theorem dX11_sets_9 : decode cX11_sets 9 = .ok (.invokestatic 99, 3) := by decide +kernel
theorem dX11_sets_12 : decode cX11_sets 12 = .ok (.ifCond .ne 8, 3) := by decide +kernel
theorem dX11_sets_15 : decode cX11_sets 15 = .ok (.aload_n 0, 1) := by decide +kernel
theorem dX11_sets_16 : decode cX11_sets 16 = .ok (.invokevirtual 103, 3) := by decide +kernel
theorem dX11_sets_19 : decode cX11_sets 19 = .ok (.ireturn, 1) := by decide +kernel
theorem dX11_sets_20 : decode cX11_sets 20 = .ok (.aload_n 0, 1) := by decide +kernel
theorem dX11_sets_21 : decode cX11_sets 21 = .ok (.getfield 19, 3) := by decide +kernel
theorem dX11_sets_24 : decode cX11_sets 24 = .ok (.aload_n 0, 1) := by decide +kernel
theorem dX11_sets_25 : decode cX11_sets 25 = .ok (.getfield 10, 3) := by decide +kernel
theorem dX11_sets_28 : decode cX11_sets 28 = .ok (.invokevirtual 107, 3) := by decide +kernel
theorem dX11_sets_31 : decode cX11_sets 31 = .ok (.aload_n 0, 1) := by decide +kernel
theorem dX11_sets_32 : decode cX11_sets 32 = .ok (.getfield 10, 3) := by decide +kernel
theorem dX11_sets_35 : decode cX11_sets 35 = .ok (.getfield 111, 3) := by decide +kernel
theorem dX11_sets_38 : decode cX11_sets 38 = .ok (.iload_n 1, 1) := by decide +kernel
theorem dX11_sets_39 : decode cX11_sets 39 = .ok (.aaload, 1) := by decide +kernel
theorem dX11_sets_40 : decode cX11_sets 40 = .ok (.astore 5, 2) := by decide +kernel
theorem dX11_sets_42 : decode cX11_sets 42 = .ok (.aload 5, 2) := by decide +kernel
theorem dX11_sets_44 : decode cX11_sets 44 = .ok (.iload_n 2, 1) := by decide +kernel
theorem dX11_sets_45 : decode cX11_sets 45 = .ok (.iload_n 3, 1) := by decide +kernel
theorem dX11_sets_46 : decode cX11_sets 46 = .ok (.invokevirtual 115, 3) := by decide +kernel
theorem dX11_sets_49 : decode cX11_sets 49 = .ok (.istore 6, 2) := by decide +kernel
theorem dX11_sets_51 : decode cX11_sets 51 = .ok (.aload 5, 2) := by decide +kernel
theorem dX11_sets_53 : decode cX11_sets 53 = .ok (.iload_n 2, 1) := by decide +kernel
theorem dX11_sets_54 : decode cX11_sets 54 = .ok (.iload_n 3, 1) := by decide +kernel
theorem dX11_sets_55 : decode cX11_sets 55 = .ok (.iload 4, 2) := by decide +kernel
theorem dX11_sets_57 : decode cX11_sets 57 = .ok (.invokestatic 119, 3) := by decide +kernel
theorem dX11_sets_60 : decode cX11_sets 60 = .ok (.invokevirtual 123, 3) := by decide +kernel
theorem dX11_sets_63 : decode cX11_sets 63 = .ok (.iload 6, 2) := by decide +kernel
theorem dX11_sets_65 : decode cX11_sets 65 = .ok (.invokestatic 127, 3) := by decide +kernel
theorem dX11_sets_68 : decode cX11_sets 68 = .ok (.ireturn, 1) := by decide +kernel
theorem dX11_at_0 : decode cX11_at 0 = .ok (.iload_n 1, 1) := by decide +kernel
theorem dX11_at_1 : decode cX11_at 1 = .ok (.invokestatic 95, 3) := by decide +kernel
theorem dX11_at_4 : decode cX11_at 4 = .ok (.ifCond .eq 11, 3) := by decide +kernel
theorem dX11_at_7 : decode cX11_at 7 = .ok (.iload_n 2, 1) := by decide +kernel
theorem dX11_at_8 : decode cX11_at 8 = .ok (.iload_n 3, 1) := by decide +kernel
theorem dX11_at_9 : decode cX11_at 9 = .ok (.invokestatic 99, 3) := by decide +kernel
theorem dX11_at_12 : decode cX11_at 12 = .ok (.ifCond .ne 8, 3) := by decide +kernel
theorem dX11_at_15 : decode cX11_at 15 = .ok (.aload_n 0, 1) := by decide +kernel
theorem dX11_at_16 : decode cX11_at 16 = .ok (.invokevirtual 103, 3) := by decide +kernel
theorem dX11_at_19 : decode cX11_at 19 = .ok (.ireturn, 1) := by decide +kernel
theorem dX11_at_20 : decode cX11_at 20 = .ok (.aload_n 0, 1) := by decide +kernel
theorem dX11_at_21 : decode cX11_at 21 = .ok (.getfield 10, 3) := by decide +kernel
theorem dX11_at_24 : decode cX11_at 24 = .ok (.getfield 111, 3) := by decide +kernel
theorem dX11_at_27 : decode cX11_at 27 = .ok (.iload_n 1, 1) := by decide +kernel
theorem dX11_at_28 : decode cX11_at 28 = .ok (.aaload, 1) := by decide +kernel
theorem dX11_at_29 : decode cX11_at 29 = .ok (.iload_n 2, 1) := by decide +kernel
theorem dX11_at_30 : decode cX11_at 30 = .ok (.iload_n 3, 1) := by decide +kernel
theorem dX11_at_31 : decode cX11_at 31 = .ok (.invokevirtual 115, 3) := by decide +kernel
theorem dX11_at_34 : decode cX11_at 34 = .ok (.invokestatic 127, 3) := by decide +kernel
theorem dX11_at_37 : decode cX11_at 37 = .ok (.ireturn, 1) := by decide +kernel
theorem dX11_sums_0 : decode cX11_sums 0 = .ok (.iload_n 1, 1) := by decide +kernel
theorem dX11_sums_1 : decode cX11_sums 1 = .ok (.invokestatic 95, 3) := by decide +kernel
theorem dX11_sums_4 : decode cX11_sums 4 = .ok (.ifCond .eq 18, 3) := by decide +kernel
theorem dX11_sums_7 : decode cX11_sums 7 = .ok (.iload_n 2, 1) := by decide +kernel
theorem dX11_sums_8 : decode cX11_sums 8 = .ok (.invokestatic 95, 3) := by decide +kernel
theorem dX11_sums_11 : decode cX11_sums 11 = .ok (.ifCond .eq 11, 3) := by decide +kernel
theorem dX11_sums_14 : decode cX11_sums 14 = .ok (.iload 4, 2) := by decide +kernel
theorem dX11_sums_16 : decode cX11_sums 16 = .ok (.invokestatic 95, 3) := by decide +kernel
theorem dX11_sums_19 : decode cX11_sums 19 = .ok (.ifCond .ne 8, 3) := by decide +kernel
theorem dX11_sums_22 : decode cX11_sums 22 = .ok (.aload_n 0, 1) := by decide +kernel
theorem dX11_sums_23 : decode cX11_sums 23 = .ok (.invokevirtual 103, 3) := by decide +kernel
theorem dX11_sums_26 : decode cX11_sums 26 = .ok (.ireturn, 1) := by decide +kernel
theorem dX11_sums_27 : decode cX11_sums 27 = .ok (.aload_n 0, 1) := by decide +kernel
theorem dX11_sums_28 : decode cX11_sums 28 = .ok (.getfield 81, 3) := by decide +kernel
theorem dX11_sums_31 : decode cX11_sums 31 = .ok (.invokevirtual 130, 3) := by decide +kernel
theorem dX11_sums_34 : decode cX11_sums 34 = .ok (.aload_n 0, 1) := by decide +kernel
theorem dX11_sums_35 : decode cX11_sums 35 = .ok (.getfield 81, 3) := by decide +kernel
theorem dX11_sums_38 : decode cX11_sums 38 = .ok (.aload_n 0, 1) := by decide +kernel
theorem dX11_sums_39 : decode cX11_sums 39 = .ok (.getfield 10, 3) := by decide +kernel
theorem dX11_sums_42 : decode cX11_sums 42 = .ok (.getfield 111, 3) := by decide +kernel
theorem dX11_sums_45 : decode cX11_sums 45 = .ok (.iload_n 2, 1) := by decide +kernel
theorem dX11_sums_46 : decode cX11_sums 46 = .ok (.aaload, 1) := by decide +kernel
theorem dX11_sums_47 : decode cX11_sums 47 = .ok (.iload_n 3, 1) := by decide +kernel
theorem dX11_sums_48 : decode cX11_sums 48 = .ok (.invokestatic 119, 3) := by decide +kernel
theorem dX11_sums_51 : decode cX11_sums 51 = .ok (.invokevirtual 133, 3) := by decide +kernel
theorem dX11_sums_54 : decode cX11_sums 54 = .ok (.aload_n 0, 1) := by decide +kernel
theorem dX11_sums_55 : decode cX11_sums 55 = .ok (.getfield 81, 3) := by decide +kernel
theorem dX11_sums_58 : decode cX11_sums 58 = .ok (.aload_n 0, 1) := by decide +kernel
theorem dX11_sums_59 : decode cX11_sums 59 = .ok (.getfield 10, 3) := by decide +kernel
theorem dX11_sums_62 : decode cX11_sums 62 = .ok (.getfield 111, 3) := by decide +kernel
theorem dX11_sums_65 : decode cX11_sums 65 = .ok (.iload 4, 2) := by decide +kernel
theorem dX11_sums_67 : decode cX11_sums 67 = .ok (.aaload, 1) := by decide +kernel
theorem dX11_sums_68 : decode cX11_sums 68 = .ok (.iload 5, 2) := by decide +kernel
theorem dX11_sums_70 : decode cX11_sums 70 = .ok (.invokestatic 119, 3) := by decide +kernel
theorem dX11_sums_73 : decode cX11_sums 73 = .ok (.invokevirtual 133, 3) := by decide +kernel
theorem dX11_sums_76 : decode cX11_sums 76 = .ok (.aload_n 0, 1) := by decide +kernel
theorem dX11_sums_77 : decode cX11_sums 77 = .ok (.iload_n 1, 1) := by decide +kernel
theorem dX11_sums_78 : decode cX11_sums 78 = .ok (.invokevirtual 137, 3) := by decide +kernel
theorem dX11_sums_81 : decode cX11_sums 81 = .ok (.ireturn, 1) := by decide +kernel
theorem dX11_times_0 : decode cX11_times 0 = .ok (.iload_n 1, 1) := by decide +kernel
theorem dX11_times_1 : decode cX11_times 1 = .ok (.invokestatic 95, 3) := by decide +kernel
theorem dX11_times_4 : decode cX11_times 4 = .ok (.ifCond .eq 17, 3) := by decide +kernel
theorem dX11_times_7 : decode cX11_times 7 = .ok (.iload_n 2, 1) := by decide +kernel
theorem dX11_times_8 : decode cX11_times 8 = .ok (.invokestatic 95, 3) := by decide +kernel
theorem dX11_times_11 : decode cX11_times 11 = .ok (.ifCond .eq 10, 3) := by decide +kernel
theorem dX11_times_14 : decode cX11_times 14 = .ok (.iload_n 3, 1) := by decide +kernel
theorem dX11_times_15 : decode cX11_times 15 = .ok (.invokestatic 95, 3) := by decide +kernel
theorem dX11_times_18 : decode cX11_times 18 = .ok (.ifCond .ne 8, 3) := by decide +kernel
theorem dX11_times_21 : decode cX11_times 21 = .ok (.aload_n 0, 1) := by decide +kernel
theorem dX11_times_22 : decode cX11_times 22 = .ok (.invokevirtual 103, 3) := by decide +kernel
theorem dX11_times_25 : decode cX11_times 25 = .ok (.ireturn, 1) := by decide +kernel
theorem dX11_times_26 : decode cX11_times 26 = .ok (.aload_n 0, 1) := by decide +kernel
theorem dX11_times_27 : decode cX11_times 27 = .ok (.getfield 10, 3) := by decide +kernel
theorem dX11_times_30 : decode cX11_times 30 = .ok (.getfield 111, 3) := by decide +kernel
theorem dX11_times_33 : decode cX11_times 33 = .ok (.iload_n 2, 1) := by decide +kernel
theorem dX11_times_34 : decode cX11_times 34 = .ok (.aaload, 1) := by decide +kernel
theorem dX11_times_35 : decode cX11_times 35 = .ok (.astore 4, 2) := by decide +kernel
theorem dX11_times_37 : decode cX11_times 37 = .ok (.aload_n 0, 1) := by decide +kernel
theorem dX11_times_38 : decode cX11_times 38 = .ok (.getfield 10, 3) := by decide +kernel
theorem dX11_times_41 : decode cX11_times 41 = .ok (.getfield 111, 3) := by decide +kernel
theorem dX11_times_44 : decode cX11_times 44 = .ok (.iload_n 3, 1) := by decide +kernel
theorem dX11_times_45 : decode cX11_times 45 = .ok (.aaload, 1) := by decide +kernel
theorem dX11_times_46 : decode cX11_times 46 = .ok (.astore 5, 2) := by decide +kernel
theorem dX11_times_48 : decode cX11_times 48 = .ok (.aload 4, 2) := by decide +kernel
theorem dX11_times_50 : decode cX11_times 50 = .ok (.aload 5, 2) := by decide +kernel
theorem dX11_times_52 : decode cX11_times 52 = .ok (.invokestatic 140, 3) := by decide +kernel
theorem dX11_times_55 : decode cX11_times 55 = .ok (.ifCond .ne 8, 3) := by decide +kernel
theorem dX11_times_58 : decode cX11_times 58 = .ok (.aload_n 0, 1) := by decide +kernel
theorem dX11_times_59 : decode cX11_times 59 = .ok (.invokevirtual 144, 3) := by decide +kernel
theorem dX11_times_62 : decode cX11_times 62 = .ok (.ireturn, 1) := by decide +kernel
theorem dX11_times_63 : decode cX11_times 63 = .ok (.aload_n 0, 1) := by decide +kernel
theorem dX11_times_64 : decode cX11_times 64 = .ok (.getfield 81, 3) := by decide +kernel
theorem dX11_times_67 : decode cX11_times 67 = .ok (.invokevirtual 130, 3) := by decide +kernel
theorem dX11_times_70 : decode cX11_times 70 = .ok (.aload_n 0, 1) := by decide +kernel
theorem dX11_times_71 : decode cX11_times 71 = .ok (.getfield 33, 3) := by decide +kernel
theorem dX11_times_74 : decode cX11_times 74 = .ok (.aload_n 0, 1) := by decide +kernel
theorem dX11_times_75 : decode cX11_times 75 = .ok (.getfield 81, 3) := by decide +kernel
theorem dX11_times_78 : decode cX11_times 78 = .ok (.iconst 1, 1) := by decide +kernel
theorem dX11_times_79 : decode cX11_times 79 = .ok (.aload 4, 2) := by decide +kernel
theorem dX11_times_81 : decode cX11_times 81 = .ok (.aload 5, 2) := by decide +kernel
theorem dX11_times_83 : decode cX11_times 83 = .ok (.invokevirtual 147, 3) := by decide +kernel
theorem dX11_times_86 : decode cX11_times 86 = .ok (.aload_n 0, 1) := by decide +kernel
theorem dX11_times_87 : decode cX11_times 87 = .ok (.iload_n 1, 1) := by decide +kernel
theorem dX11_times_88 : decode cX11_times 88 = .ok (.invokevirtual 137, 3) := by decide +kernel
theorem dX11_times_91 : decode cX11_times 91 = .ok (.ireturn, 1) := by decide +kernel
theorem dX11_bracket_0 : decode cX11_bracket 0 = .ok (.iload_n 1, 1) := by decide +kernel
theorem dX11_bracket_1 : decode cX11_bracket 1 = .ok (.invokestatic 95, 3) := by decide +kernel
theorem dX11_bracket_4 : decode cX11_bracket 4 = .ok (.ifCond .eq 17, 3) := by decide +kernel
theorem dX11_bracket_7 : decode cX11_bracket 7 = .ok (.iload_n 2, 1) := by decide +kernel
theorem dX11_bracket_8 : decode cX11_bracket 8 = .ok (.invokestatic 95, 3) := by decide +kernel
theorem dX11_bracket_11 : decode cX11_bracket 11 = .ok (.ifCond .eq 10, 3) := by decide +kernel
theorem dX11_bracket_14 : decode cX11_bracket 14 = .ok (.iload_n 3, 1) := by decide +kernel
theorem dX11_bracket_15 : decode cX11_bracket 15 = .ok (.invokestatic 95, 3) := by decide +kernel
theorem dX11_bracket_18 : decode cX11_bracket 18 = .ok (.ifCond .ne 8, 3) := by decide +kernel
theorem dX11_bracket_21 : decode cX11_bracket 21 = .ok (.aload_n 0, 1) := by decide +kernel
theorem dX11_bracket_22 : decode cX11_bracket 22 = .ok (.invokevirtual 103, 3) := by decide +kernel
theorem dX11_bracket_25 : decode cX11_bracket 25 = .ok (.ireturn, 1) := by decide +kernel
theorem dX11_bracket_26 : decode cX11_bracket 26 = .ok (.aload_n 0, 1) := by decide +kernel
theorem dX11_bracket_27 : decode cX11_bracket 27 = .ok (.getfield 10, 3) := by decide +kernel
theorem dX11_bracket_30 : decode cX11_bracket 30 = .ok (.getfield 111, 3) := by decide +kernel
theorem dX11_bracket_33 : decode cX11_bracket 33 = .ok (.iload_n 2, 1) := by decide +kernel
theorem dX11_bracket_34 : decode cX11_bracket 34 = .ok (.aaload, 1) := by decide +kernel
theorem dX11_bracket_35 : decode cX11_bracket 35 = .ok (.astore 4, 2) := by decide +kernel
theorem dX11_bracket_37 : decode cX11_bracket 37 = .ok (.aload_n 0, 1) := by decide +kernel
theorem dX11_bracket_38 : decode cX11_bracket 38 = .ok (.getfield 10, 3) := by decide +kernel
theorem dX11_bracket_41 : decode cX11_bracket 41 = .ok (.getfield 111, 3) := by decide +kernel
theorem dX11_bracket_44 : decode cX11_bracket 44 = .ok (.iload_n 3, 1) := by decide +kernel
theorem dX11_bracket_45 : decode cX11_bracket 45 = .ok (.aaload, 1) := by decide +kernel
theorem dX11_bracket_46 : decode cX11_bracket 46 = .ok (.astore 5, 2) := by decide +kernel
theorem dX11_bracket_48 : decode cX11_bracket 48 = .ok (.aload 4, 2) := by decide +kernel
theorem dX11_bracket_50 : decode cX11_bracket 50 = .ok (.aload 5, 2) := by decide +kernel
theorem dX11_bracket_52 : decode cX11_bracket 52 = .ok (.invokestatic 140, 3) := by decide +kernel
theorem dX11_bracket_55 : decode cX11_bracket 55 = .ok (.ifCond .ne 8, 3) := by decide +kernel
theorem dX11_bracket_58 : decode cX11_bracket 58 = .ok (.aload_n 0, 1) := by decide +kernel
theorem dX11_bracket_59 : decode cX11_bracket 59 = .ok (.invokevirtual 144, 3) := by decide +kernel
theorem dX11_bracket_62 : decode cX11_bracket 62 = .ok (.ireturn, 1) := by decide +kernel
theorem dX11_bracket_63 : decode cX11_bracket 63 = .ok (.aload_n 0, 1) := by decide +kernel
theorem dX11_bracket_64 : decode cX11_bracket 64 = .ok (.getfield 81, 3) := by decide +kernel
theorem dX11_bracket_67 : decode cX11_bracket 67 = .ok (.invokevirtual 130, 3) := by decide +kernel
theorem dX11_bracket_70 : decode cX11_bracket 70 = .ok (.aload_n 0, 1) := by decide +kernel
theorem dX11_bracket_71 : decode cX11_bracket 71 = .ok (.getfield 33, 3) := by decide +kernel
theorem dX11_bracket_74 : decode cX11_bracket 74 = .ok (.aload_n 0, 1) := by decide +kernel
theorem dX11_bracket_75 : decode cX11_bracket 75 = .ok (.getfield 81, 3) := by decide +kernel
theorem dX11_bracket_78 : decode cX11_bracket 78 = .ok (.iconst 1, 1) := by decide +kernel
theorem dX11_bracket_79 : decode cX11_bracket 79 = .ok (.aload 4, 2) := by decide +kernel
theorem dX11_bracket_81 : decode cX11_bracket 81 = .ok (.aload 5, 2) := by decide +kernel
theorem dX11_bracket_83 : decode cX11_bracket 83 = .ok (.invokevirtual 147, 3) := by decide +kernel
theorem dX11_bracket_86 : decode cX11_bracket 86 = .ok (.aload_n 0, 1) := by decide +kernel
theorem dX11_bracket_87 : decode cX11_bracket 87 = .ok (.getfield 33, 3) := by decide +kernel
theorem dX11_bracket_90 : decode cX11_bracket 90 = .ok (.aload_n 0, 1) := by decide +kernel
theorem dX11_bracket_91 : decode cX11_bracket 91 = .ok (.getfield 81, 3) := by decide +kernel
theorem dX11_bracket_94 : decode cX11_bracket 94 = .ok (.sipush 10006, 3) := by decide +kernel
theorem dX11_bracket_97 : decode cX11_bracket 97 = .ok (.aload 5, 2) := by decide +kernel
theorem dX11_bracket_99 : decode cX11_bracket 99 = .ok (.aload 4, 2) := by decide +kernel
theorem dX11_bracket_101 : decode cX11_bracket 101 = .ok (.invokevirtual 147, 3) := by decide +kernel
theorem dX11_bracket_104 : decode cX11_bracket 104 = .ok (.aload_n 0, 1) := by decide +kernel
theorem dX11_bracket_105 : decode cX11_bracket 105 = .ok (.iload_n 1, 1) := by decide +kernel
theorem dX11_bracket_106 : decode cX11_bracket 106 = .ok (.invokevirtual 137, 3) := by decide +kernel
theorem dX11_bracket_109 : decode cX11_bracket 109 = .ok (.ireturn, 1) := by decide +kernel
theorem dX11_power_0 : decode cX11_power 0 = .ok (.iload_n 1, 1) := by decide +kernel
theorem dX11_power_1 : decode cX11_power 1 = .ok (.invokestatic 95, 3) := by decide +kernel
theorem dX11_power_4 : decode cX11_power 4 = .ok (.ifCond .eq 20, 3) := by decide +kernel
theorem dX11_power_7 : decode cX11_power 7 = .ok (.iload_n 2, 1) := by decide +kernel
theorem dX11_power_8 : decode cX11_power 8 = .ok (.invokestatic 95, 3) := by decide +kernel
theorem dX11_power_11 : decode cX11_power 11 = .ok (.ifCond .eq 13, 3) := by decide +kernel
theorem dX11_power_14 : decode cX11_power 14 = .ok (.iload_n 3, 1) := by decide +kernel
theorem dX11_power_15 : decode cX11_power 15 = .ok (.ifCond .lt 9, 3) := by decide +kernel
theorem dX11_power_18 : decode cX11_power 18 = .ok (.iload_n 3, 1) := by decide +kernel
theorem dX11_power_19 : decode cX11_power 19 = .ok (.bipush 12, 2) := by decide +kernel
theorem dX11_power_21 : decode cX11_power 21 = .ok (.if_icmp .le 8, 3) := by decide +kernel
theorem dX11_power_24 : decode cX11_power 24 = .ok (.aload_n 0, 1) := by decide +kernel
theorem dX11_power_25 : decode cX11_power 25 = .ok (.invokevirtual 103, 3) := by decide +kernel
theorem dX11_power_28 : decode cX11_power 28 = .ok (.ireturn, 1) := by decide +kernel
theorem dX11_power_29 : decode cX11_power 29 = .ok (.aload_n 0, 1) := by decide +kernel
theorem dX11_power_30 : decode cX11_power 30 = .ok (.getfield 10, 3) := by decide +kernel
theorem dX11_power_33 : decode cX11_power 33 = .ok (.getfield 111, 3) := by decide +kernel
theorem dX11_power_36 : decode cX11_power 36 = .ok (.iload_n 2, 1) := by decide +kernel
theorem dX11_power_37 : decode cX11_power 37 = .ok (.aaload, 1) := by decide +kernel
theorem dX11_power_38 : decode cX11_power 38 = .ok (.astore 4, 2) := by decide +kernel
theorem dX11_power_40 : decode cX11_power 40 = .ok (.aload 4, 2) := by decide +kernel
theorem dX11_power_42 : decode cX11_power 42 = .ok (.iload_n 3, 1) := by decide +kernel
theorem dX11_power_43 : decode cX11_power 43 = .ok (.invokestatic 151, 3) := by decide +kernel
theorem dX11_power_46 : decode cX11_power 46 = .ok (.ifCond .ne 8, 3) := by decide +kernel
theorem dX11_power_49 : decode cX11_power 49 = .ok (.aload_n 0, 1) := by decide +kernel
theorem dX11_power_50 : decode cX11_power 50 = .ok (.invokevirtual 144, 3) := by decide +kernel
theorem dX11_power_53 : decode cX11_power 53 = .ok (.ireturn, 1) := by decide +kernel
theorem dX11_power_54 : decode cX11_power 54 = .ok (.aload_n 0, 1) := by decide +kernel
theorem dX11_power_55 : decode cX11_power 55 = .ok (.getfield 33, 3) := by decide +kernel
theorem dX11_power_58 : decode cX11_power 58 = .ok (.aload_n 0, 1) := by decide +kernel
theorem dX11_power_59 : decode cX11_power 59 = .ok (.getfield 81, 3) := by decide +kernel
theorem dX11_power_62 : decode cX11_power 62 = .ok (.aload 4, 2) := by decide +kernel
theorem dX11_power_64 : decode cX11_power 64 = .ok (.iload_n 3, 1) := by decide +kernel
theorem dX11_power_65 : decode cX11_power 65 = .ok (.invokevirtual 155, 3) := by decide +kernel
theorem dX11_power_68 : decode cX11_power 68 = .ok (.aload_n 0, 1) := by decide +kernel
theorem dX11_power_69 : decode cX11_power 69 = .ok (.iload_n 1, 1) := by decide +kernel
theorem dX11_power_70 : decode cX11_power 70 = .ok (.invokevirtual 137, 3) := by decide +kernel
theorem dX11_power_73 : decode cX11_power 73 = .ok (.ireturn, 1) := by decide +kernel
theorem dX11_reversed_0 : decode cX11_reversed 0 = .ok (.iload_n 1, 1) := by decide +kernel
theorem dX11_reversed_1 : decode cX11_reversed 1 = .ok (.invokestatic 95, 3) := by decide +kernel
theorem dX11_reversed_4 : decode cX11_reversed 4 = .ok (.ifCond .eq 10, 3) := by decide +kernel
theorem dX11_reversed_7 : decode cX11_reversed 7 = .ok (.iload_n 2, 1) := by decide +kernel
theorem dX11_reversed_8 : decode cX11_reversed 8 = .ok (.invokestatic 95, 3) := by decide +kernel
theorem dX11_reversed_11 : decode cX11_reversed 11 = .ok (.ifCond .ne 8, 3) := by decide +kernel
theorem dX11_reversed_14 : decode cX11_reversed 14 = .ok (.aload_n 0, 1) := by decide +kernel
theorem dX11_reversed_15 : decode cX11_reversed 15 = .ok (.invokevirtual 103, 3) := by decide +kernel
theorem dX11_reversed_18 : decode cX11_reversed 18 = .ok (.ireturn, 1) := by decide +kernel
theorem dX11_reversed_19 : decode cX11_reversed 19 = .ok (.aload_n 0, 1) := by decide +kernel
theorem dX11_reversed_20 : decode cX11_reversed 20 = .ok (.getfield 33, 3) := by decide +kernel
theorem dX11_reversed_23 : decode cX11_reversed 23 = .ok (.aload_n 0, 1) := by decide +kernel
theorem dX11_reversed_24 : decode cX11_reversed 24 = .ok (.getfield 81, 3) := by decide +kernel
theorem dX11_reversed_27 : decode cX11_reversed 27 = .ok (.aload_n 0, 1) := by decide +kernel
theorem dX11_reversed_28 : decode cX11_reversed 28 = .ok (.getfield 10, 3) := by decide +kernel
theorem dX11_reversed_31 : decode cX11_reversed 31 = .ok (.getfield 111, 3) := by decide +kernel
theorem dX11_reversed_34 : decode cX11_reversed 34 = .ok (.iload_n 2, 1) := by decide +kernel
theorem dX11_reversed_35 : decode cX11_reversed 35 = .ok (.aaload, 1) := by decide +kernel
theorem dX11_reversed_36 : decode cX11_reversed 36 = .ok (.invokevirtual 159, 3) := by decide +kernel
theorem dX11_reversed_39 : decode cX11_reversed 39 = .ok (.aload_n 0, 1) := by decide +kernel
theorem dX11_reversed_40 : decode cX11_reversed 40 = .ok (.iload_n 1, 1) := by decide +kernel
theorem dX11_reversed_41 : decode cX11_reversed 41 = .ok (.invokevirtual 137, 3) := by decide +kernel
theorem dX11_reversed_44 : decode cX11_reversed 44 = .ok (.ireturn, 1) := by decide +kernel
theorem dX11_of_0 : decode cX11_of 0 = .ok (.iload_n 1, 1) := by decide +kernel
theorem dX11_of_1 : decode cX11_of 1 = .ok (.invokestatic 95, 3) := by decide +kernel
theorem dX11_of_4 : decode cX11_of 4 = .ok (.ifCond .eq 13, 3) := by decide +kernel
theorem dX11_of_7 : decode cX11_of 7 = .ok (.iload_n 2, 1) := by decide +kernel
theorem dX11_of_8 : decode cX11_of 8 = .ok (.ifCond .lt 9, 3) := by decide +kernel
theorem dX11_of_11 : decode cX11_of 11 = .ok (.iload_n 2, 1) := by decide +kernel
theorem dX11_of_12 : decode cX11_of 12 = .ok (.bipush 8, 2) := by decide +kernel
theorem dX11_of_14 : decode cX11_of 14 = .ok (.if_icmp .le 8, 3) := by decide +kernel
theorem dX11_of_17 : decode cX11_of 17 = .ok (.aload_n 0, 1) := by decide +kernel
theorem dX11_of_18 : decode cX11_of 18 = .ok (.invokevirtual 103, 3) := by decide +kernel
theorem dX11_of_21 : decode cX11_of 21 = .ok (.ireturn, 1) := by decide +kernel
theorem dX11_of_22 : decode cX11_of 22 = .ok (.aload_n 0, 1) := by decide +kernel
theorem dX11_of_23 : decode cX11_of 23 = .ok (.getfield 10, 3) := by decide +kernel
theorem dX11_of_26 : decode cX11_of 26 = .ok (.getfield 111, 3) := by decide +kernel
theorem dX11_of_29 : decode cX11_of 29 = .ok (.iload_n 1, 1) := by decide +kernel
theorem dX11_of_30 : decode cX11_of 30 = .ok (.aaload, 1) := by decide +kernel
theorem dX11_of_31 : decode cX11_of 31 = .ok (.iload_n 2, 1) := by decide +kernel
theorem dX11_of_32 : decode cX11_of 32 = .ok (.aload_n 0, 1) := by decide +kernel
theorem dX11_of_33 : decode cX11_of 33 = .ok (.getfield 10, 3) := by decide +kernel
theorem dX11_of_36 : decode cX11_of 36 = .ok (.getfield 163, 3) := by decide +kernel
theorem dX11_of_39 : decode cX11_of 39 = .ok (.invokevirtual 166, 3) := by decide +kernel
theorem dX11_of_42 : decode cX11_of 42 = .ok (.ireturn, 1) := by decide +kernel
theorem dX11_order_0 : decode cX11_order 0 = .ok (.iload_n 1, 1) := by decide +kernel
theorem dX11_order_1 : decode cX11_order 1 = .ok (.ifCond .eq 13, 3) := by decide +kernel
theorem dX11_order_4 : decode cX11_order 4 = .ok (.iload_n 1, 1) := by decide +kernel
theorem dX11_order_5 : decode cX11_order 5 = .ok (.iconst 1, 1) := by decide +kernel
theorem dX11_order_6 : decode cX11_order 6 = .ok (.if_icmp .eq 8, 3) := by decide +kernel
theorem dX11_order_9 : decode cX11_order 9 = .ok (.aload_n 0, 1) := by decide +kernel
theorem dX11_order_10 : decode cX11_order 10 = .ok (.invokevirtual 103, 3) := by decide +kernel
theorem dX11_order_13 : decode cX11_order 13 = .ok (.ireturn, 1) := by decide +kernel
theorem dX11_order_14 : decode cX11_order 14 = .ok (.aload_n 0, 1) := by decide +kernel
theorem dX11_order_15 : decode cX11_order 15 = .ok (.getfield 19, 3) := by decide +kernel
theorem dX11_order_18 : decode cX11_order 18 = .ok (.aload_n 0, 1) := by decide +kernel
theorem dX11_order_19 : decode cX11_order 19 = .ok (.getfield 10, 3) := by decide +kernel
theorem dX11_order_22 : decode cX11_order 22 = .ok (.invokevirtual 107, 3) := by decide +kernel
theorem dX11_order_25 : decode cX11_order 25 = .ok (.aload_n 0, 1) := by decide +kernel
theorem dX11_order_26 : decode cX11_order 26 = .ok (.getfield 10, 3) := by decide +kernel
theorem dX11_order_29 : decode cX11_order 29 = .ok (.getfield 163, 3) := by decide +kernel
theorem dX11_order_32 : decode cX11_order 32 = .ok (.istore_n 2, 1) := by decide +kernel
theorem dX11_order_33 : decode cX11_order 33 = .ok (.aload_n 0, 1) := by decide +kernel
theorem dX11_order_34 : decode cX11_order 34 = .ok (.getfield 10, 3) := by decide +kernel
theorem dX11_order_37 : decode cX11_order 37 = .ok (.iload_n 1, 1) := by decide +kernel
theorem dX11_order_38 : decode cX11_order 38 = .ok (.putfield 163, 3) := by decide +kernel
theorem dX11_order_41 : decode cX11_order 41 = .ok (.iload_n 2, 1) := by decide +kernel
theorem dX11_order_42 : decode cX11_order 42 = .ok (.ireturn, 1) := by decide +kernel
theorem dX11_puts_0 : decode cX11_puts 0 = .ok (.iload_n 1, 1) := by decide +kernel
theorem dX11_puts_1 : decode cX11_puts 1 = .ok (.invokestatic 169, 3) := by decide +kernel
theorem dX11_puts_4 : decode cX11_puts 4 = .ok (.ifCond .eq 10, 3) := by decide +kernel
theorem dX11_puts_7 : decode cX11_puts 7 = .ok (.iload_n 2, 1) := by decide +kernel
theorem dX11_puts_8 : decode cX11_puts 8 = .ok (.invokestatic 172, 3) := by decide +kernel
theorem dX11_puts_11 : decode cX11_puts 11 = .ok (.ifCond .ne 8, 3) := by decide +kernel
theorem dX11_puts_14 : decode cX11_puts 14 = .ok (.aload_n 0, 1) := by decide +kernel
theorem dX11_puts_15 : decode cX11_puts 15 = .ok (.invokevirtual 103, 3) := by decide +kernel
theorem dX11_puts_18 : decode cX11_puts 18 = .ok (.ireturn, 1) := by decide +kernel
theorem dX11_puts_19 : decode cX11_puts 19 = .ok (.aload_n 0, 1) := by decide +kernel
theorem dX11_puts_20 : decode cX11_puts 20 = .ok (.getfield 19, 3) := by decide +kernel
theorem dX11_puts_23 : decode cX11_puts 23 = .ok (.aload_n 0, 1) := by decide +kernel
theorem dX11_puts_24 : decode cX11_puts 24 = .ok (.getfield 10, 3) := by decide +kernel
theorem dX11_puts_27 : decode cX11_puts 27 = .ok (.invokevirtual 107, 3) := by decide +kernel
theorem dX11_puts_30 : decode cX11_puts 30 = .ok (.aload_n 0, 1) := by decide +kernel
theorem dX11_puts_31 : decode cX11_puts 31 = .ok (.getfield 10, 3) := by decide +kernel
theorem dX11_puts_34 : decode cX11_puts 34 = .ok (.getfield 175, 3) := by decide +kernel
theorem dX11_puts_37 : decode cX11_puts 37 = .ok (.iload_n 1, 1) := by decide +kernel
theorem dX11_puts_38 : decode cX11_puts 38 = .ok (.aaload, 1) := by decide +kernel
theorem dX11_puts_39 : decode cX11_puts 39 = .ok (.iload_n 2, 1) := by decide +kernel
theorem dX11_puts_40 : decode cX11_puts 40 = .ok (.iaload, 1) := by decide +kernel
theorem dX11_puts_41 : decode cX11_puts 41 = .ok (.istore 4, 2) := by decide +kernel
theorem dX11_puts_43 : decode cX11_puts 43 = .ok (.aload_n 0, 1) := by decide +kernel
theorem dX11_puts_44 : decode cX11_puts 44 = .ok (.getfield 10, 3) := by decide +kernel
theorem dX11_puts_47 : decode cX11_puts 47 = .ok (.getfield 175, 3) := by decide +kernel
theorem dX11_puts_50 : decode cX11_puts 50 = .ok (.iload_n 1, 1) := by decide +kernel
theorem dX11_puts_51 : decode cX11_puts 51 = .ok (.aaload, 1) := by decide +kernel
theorem dX11_puts_52 : decode cX11_puts 52 = .ok (.iload_n 2, 1) := by decide +kernel
theorem dX11_puts_53 : decode cX11_puts 53 = .ok (.iload_n 3, 1) := by decide +kernel
theorem dX11_puts_54 : decode cX11_puts 54 = .ok (.invokestatic 119, 3) := by decide +kernel
theorem dX11_puts_57 : decode cX11_puts 57 = .ok (.iastore, 1) := by decide +kernel
theorem dX11_puts_58 : decode cX11_puts 58 = .ok (.iload 4, 2) := by decide +kernel
theorem dX11_puts_60 : decode cX11_puts 60 = .ok (.invokestatic 127, 3) := by decide +kernel
theorem dX11_puts_63 : decode cX11_puts 63 = .ok (.ireturn, 1) := by decide +kernel
theorem dX11_rate_0 : decode cX11_rate 0 = .ok (.iload_n 1, 1) := by decide +kernel
theorem dX11_rate_1 : decode cX11_rate 1 = .ok (.invokestatic 169, 3) := by decide +kernel
theorem dX11_rate_4 : decode cX11_rate 4 = .ok (.ifCond .eq 10, 3) := by decide +kernel
theorem dX11_rate_7 : decode cX11_rate 7 = .ok (.iload_n 2, 1) := by decide +kernel
theorem dX11_rate_8 : decode cX11_rate 8 = .ok (.invokestatic 172, 3) := by decide +kernel
theorem dX11_rate_11 : decode cX11_rate 11 = .ok (.ifCond .ne 8, 3) := by decide +kernel
theorem dX11_rate_14 : decode cX11_rate 14 = .ok (.aload_n 0, 1) := by decide +kernel
theorem dX11_rate_15 : decode cX11_rate 15 = .ok (.invokevirtual 103, 3) := by decide +kernel
theorem dX11_rate_18 : decode cX11_rate 18 = .ok (.ireturn, 1) := by decide +kernel
theorem dX11_rate_19 : decode cX11_rate 19 = .ok (.aload_n 0, 1) := by decide +kernel
theorem dX11_rate_20 : decode cX11_rate 20 = .ok (.getfield 10, 3) := by decide +kernel
theorem dX11_rate_23 : decode cX11_rate 23 = .ok (.getfield 175, 3) := by decide +kernel
theorem dX11_rate_26 : decode cX11_rate 26 = .ok (.iload_n 1, 1) := by decide +kernel
theorem dX11_rate_27 : decode cX11_rate 27 = .ok (.aaload, 1) := by decide +kernel
theorem dX11_rate_28 : decode cX11_rate 28 = .ok (.iload_n 2, 1) := by decide +kernel
theorem dX11_rate_29 : decode cX11_rate 29 = .ok (.iaload, 1) := by decide +kernel
theorem dX11_rate_30 : decode cX11_rate 30 = .ok (.invokestatic 127, 3) := by decide +kernel
theorem dX11_rate_33 : decode cX11_rate 33 = .ok (.ireturn, 1) := by decide +kernel
theorem dX11_makes_0 : decode cX11_makes 0 = .ok (.iload_n 1, 1) := by decide +kernel
theorem dX11_makes_1 : decode cX11_makes 1 = .ok (.invokestatic 169, 3) := by decide +kernel
theorem dX11_makes_4 : decode cX11_makes 4 = .ok (.ifCond .eq 17, 3) := by decide +kernel
theorem dX11_makes_7 : decode cX11_makes 7 = .ok (.iload_n 2, 1) := by decide +kernel
theorem dX11_makes_8 : decode cX11_makes 8 = .ok (.invokestatic 95, 3) := by decide +kernel
theorem dX11_makes_11 : decode cX11_makes 11 = .ok (.ifCond .eq 10, 3) := by decide +kernel
theorem dX11_makes_14 : decode cX11_makes 14 = .ok (.iload_n 3, 1) := by decide +kernel
theorem dX11_makes_15 : decode cX11_makes 15 = .ok (.invokestatic 169, 3) := by decide +kernel
theorem dX11_makes_18 : decode cX11_makes 18 = .ok (.ifCond .ne 8, 3) := by decide +kernel
theorem dX11_makes_21 : decode cX11_makes 21 = .ok (.aload_n 0, 1) := by decide +kernel
theorem dX11_makes_22 : decode cX11_makes 22 = .ok (.invokevirtual 103, 3) := by decide +kernel
theorem dX11_makes_25 : decode cX11_makes 25 = .ok (.ireturn, 1) := by decide +kernel
theorem dX11_makes_26 : decode cX11_makes 26 = .ok (.aload_n 0, 1) := by decide +kernel
theorem dX11_makes_27 : decode cX11_makes 27 = .ok (.getfield 10, 3) := by decide +kernel
theorem dX11_makes_30 : decode cX11_makes 30 = .ok (.getfield 111, 3) := by decide +kernel
theorem dX11_makes_33 : decode cX11_makes 33 = .ok (.iload_n 2, 1) := by decide +kernel
theorem dX11_makes_34 : decode cX11_makes 34 = .ok (.aaload, 1) := by decide +kernel
theorem dX11_makes_35 : decode cX11_makes 35 = .ok (.astore 4, 2) := by decide +kernel
theorem dX11_makes_37 : decode cX11_makes 37 = .ok (.aload_n 0, 1) := by decide +kernel
theorem dX11_makes_38 : decode cX11_makes 38 = .ok (.getfield 10, 3) := by decide +kernel
theorem dX11_makes_41 : decode cX11_makes 41 = .ok (.getfield 175, 3) := by decide +kernel
theorem dX11_makes_44 : decode cX11_makes 44 = .ok (.iload_n 3, 1) := by decide +kernel
theorem dX11_makes_45 : decode cX11_makes 45 = .ok (.aaload, 1) := by decide +kernel
theorem dX11_makes_46 : decode cX11_makes 46 = .ok (.astore 5, 2) := by decide +kernel
theorem dX11_makes_48 : decode cX11_makes 48 = .ok (.aload_n 0, 1) := by decide +kernel
theorem dX11_makes_49 : decode cX11_makes 49 = .ok (.getfield 58, 3) := by decide +kernel
theorem dX11_makes_52 : decode cX11_makes 52 = .ok (.aload 4, 2) := by decide +kernel
theorem dX11_makes_54 : decode cX11_makes 54 = .ok (.aload 5, 2) := by decide +kernel
theorem dX11_makes_56 : decode cX11_makes 56 = .ok (.invokevirtual 179, 3) := by decide +kernel
theorem dX11_makes_59 : decode cX11_makes 59 = .ok (.ifCond .ne 8, 3) := by decide +kernel
theorem dX11_makes_62 : decode cX11_makes 62 = .ok (.aload_n 0, 1) := by decide +kernel
theorem dX11_makes_63 : decode cX11_makes 63 = .ok (.invokevirtual 144, 3) := by decide +kernel
theorem dX11_makes_66 : decode cX11_makes 66 = .ok (.ireturn, 1) := by decide +kernel
theorem dX11_makes_67 : decode cX11_makes 67 = .ok (.aload_n 0, 1) := by decide +kernel
theorem dX11_makes_68 : decode cX11_makes 68 = .ok (.getfield 58, 3) := by decide +kernel
theorem dX11_makes_71 : decode cX11_makes 71 = .ok (.aload 4, 2) := by decide +kernel
theorem dX11_makes_73 : decode cX11_makes 73 = .ok (.aload 5, 2) := by decide +kernel
theorem dX11_makes_75 : decode cX11_makes 75 = .ok (.invokevirtual 183, 3) := by decide +kernel
theorem dX11_makes_78 : decode cX11_makes 78 = .ok (.aload_n 0, 1) := by decide +kernel
theorem dX11_makes_79 : decode cX11_makes 79 = .ok (.getfield 19, 3) := by decide +kernel
theorem dX11_makes_82 : decode cX11_makes 82 = .ok (.aload_n 0, 1) := by decide +kernel
theorem dX11_makes_83 : decode cX11_makes 83 = .ok (.getfield 10, 3) := by decide +kernel
theorem dX11_makes_86 : decode cX11_makes 86 = .ok (.invokevirtual 107, 3) := by decide +kernel
theorem dX11_makes_89 : decode cX11_makes 89 = .ok (.aload_n 0, 1) := by decide +kernel
theorem dX11_makes_90 : decode cX11_makes 90 = .ok (.getfield 58, 3) := by decide +kernel
theorem dX11_makes_93 : decode cX11_makes 93 = .ok (.getfield 187, 3) := by decide +kernel
theorem dX11_makes_96 : decode cX11_makes 96 = .ok (.iconst 0, 1) := by decide +kernel
theorem dX11_makes_97 : decode cX11_makes 97 = .ok (.aload_n 0, 1) := by decide +kernel
theorem dX11_makes_98 : decode cX11_makes 98 = .ok (.getfield 10, 3) := by decide +kernel
theorem dX11_makes_101 : decode cX11_makes 101 = .ok (.getfield 175, 3) := by decide +kernel
theorem dX11_makes_104 : decode cX11_makes 104 = .ok (.iload_n 1, 1) := by decide +kernel
theorem dX11_makes_105 : decode cX11_makes 105 = .ok (.aaload, 1) := by decide +kernel
theorem dX11_makes_106 : decode cX11_makes 106 = .ok (.iconst 0, 1) := by decide +kernel
theorem dX11_makes_107 : decode cX11_makes 107 = .ok (.bipush 31, 2) := by decide +kernel
theorem dX11_makes_109 : decode cX11_makes 109 = .ok (.invokestatic 191, 3) := by decide +kernel
theorem dX11_makes_112 : decode cX11_makes 112 = .ok (.aload_n 0, 1) := by decide +kernel
theorem dX11_makes_113 : decode cX11_makes 113 = .ok (.getfield 58, 3) := by decide +kernel
theorem dX11_makes_116 : decode cX11_makes 116 = .ok (.getfield 187, 3) := by decide +kernel
theorem dX11_makes_119 : decode cX11_makes 119 = .ok (.invokestatic 197, 3) := by decide +kernel
theorem dX11_makes_122 : decode cX11_makes 122 = .ok (.istore 6, 2) := by decide +kernel
theorem dX11_makes_124 : decode cX11_makes 124 = .ok (.iload 6, 2) := by decide +kernel
theorem dX11_makes_126 : decode cX11_makes 126 = .ok (.ifCond .ge 9, 3) := by decide +kernel
theorem dX11_makes_129 : decode cX11_makes 129 = .ok (.sipush (-20001), 3) := by decide +kernel
theorem dX11_makes_132 : decode cX11_makes 132 = .ok (.goto 5, 3) := by decide +kernel
theorem dX11_makes_135 : decode cX11_makes 135 = .ok (.iload 6, 2) := by decide +kernel
theorem dX11_makes_137 : decode cX11_makes 137 = .ok (.ireturn, 1) := by decide +kernel
theorem dX11_kernel_0 : decode cX11_kernel 0 = .ok (.iload_n 1, 1) := by decide +kernel
theorem dX11_kernel_1 : decode cX11_kernel 1 = .ok (.invokestatic 95, 3) := by decide +kernel
theorem dX11_kernel_4 : decode cX11_kernel 4 = .ok (.ifCond .eq 13, 3) := by decide +kernel
theorem dX11_kernel_7 : decode cX11_kernel 7 = .ok (.iload_n 2, 1) := by decide +kernel
theorem dX11_kernel_8 : decode cX11_kernel 8 = .ok (.ifCond .lt 9, 3) := by decide +kernel
theorem dX11_kernel_11 : decode cX11_kernel 11 = .ok (.iload_n 2, 1) := by decide +kernel
theorem dX11_kernel_12 : decode cX11_kernel 12 = .ok (.bipush 15, 2) := by decide +kernel
theorem dX11_kernel_14 : decode cX11_kernel 14 = .ok (.if_icmp .le 8, 3) := by decide +kernel
theorem dX11_kernel_17 : decode cX11_kernel 17 = .ok (.aload_n 0, 1) := by decide +kernel
theorem dX11_kernel_18 : decode cX11_kernel 18 = .ok (.invokevirtual 103, 3) := by decide +kernel
theorem dX11_kernel_21 : decode cX11_kernel 21 = .ok (.ireturn, 1) := by decide +kernel
theorem dX11_kernel_22 : decode cX11_kernel 22 = .ok (.aload_n 0, 1) := by decide +kernel
theorem dX11_kernel_23 : decode cX11_kernel 23 = .ok (.getfield 58, 3) := by decide +kernel
theorem dX11_kernel_26 : decode cX11_kernel 26 = .ok (.aload_n 0, 1) := by decide +kernel
theorem dX11_kernel_27 : decode cX11_kernel 27 = .ok (.getfield 10, 3) := by decide +kernel
theorem dX11_kernel_30 : decode cX11_kernel 30 = .ok (.getfield 111, 3) := by decide +kernel
theorem dX11_kernel_33 : decode cX11_kernel 33 = .ok (.iload_n 1, 1) := by decide +kernel
theorem dX11_kernel_34 : decode cX11_kernel 34 = .ok (.aaload, 1) := by decide +kernel
theorem dX11_kernel_35 : decode cX11_kernel 35 = .ok (.iload_n 2, 1) := by decide +kernel
theorem dX11_kernel_36 : decode cX11_kernel 36 = .ok (.invokevirtual 201, 3) := by decide +kernel
theorem dX11_kernel_39 : decode cX11_kernel 39 = .ok (.ireturn, 1) := by decide +kernel
theorem dX11_kills_0 : decode cX11_kills 0 = .ok (.iload_n 1, 1) := by decide +kernel
theorem dX11_kills_1 : decode cX11_kills 1 = .ok (.invokestatic 95, 3) := by decide +kernel
theorem dX11_kills_4 : decode cX11_kills 4 = .ok (.ifCond .eq 10, 3) := by decide +kernel
theorem dX11_kills_7 : decode cX11_kills 7 = .ok (.iload_n 2, 1) := by decide +kernel
theorem dX11_kills_8 : decode cX11_kills 8 = .ok (.invokestatic 169, 3) := by decide +kernel
theorem dX11_kills_11 : decode cX11_kills 11 = .ok (.ifCond .ne 8, 3) := by decide +kernel
theorem dX11_kills_14 : decode cX11_kills 14 = .ok (.aload_n 0, 1) := by decide +kernel
theorem dX11_kills_15 : decode cX11_kills 15 = .ok (.invokevirtual 103, 3) := by decide +kernel
theorem dX11_kills_18 : decode cX11_kills 18 = .ok (.ireturn, 1) := by decide +kernel
theorem dX11_kills_19 : decode cX11_kills 19 = .ok (.aload_n 0, 1) := by decide +kernel
theorem dX11_kills_20 : decode cX11_kills 20 = .ok (.getfield 10, 3) := by decide +kernel
theorem dX11_kills_23 : decode cX11_kills 23 = .ok (.getfield 175, 3) := by decide +kernel
theorem dX11_kills_26 : decode cX11_kills 26 = .ok (.iload_n 2, 1) := by decide +kernel
theorem dX11_kills_27 : decode cX11_kills 27 = .ok (.aaload, 1) := by decide +kernel
theorem dX11_kills_28 : decode cX11_kills 28 = .ok (.astore_n 3, 1) := by decide +kernel
theorem dX11_kills_29 : decode cX11_kills 29 = .ok (.aload_n 3, 1) := by decide +kernel
theorem dX11_kills_30 : decode cX11_kills 30 = .ok (.invokestatic 197, 3) := by decide +kernel
theorem dX11_kills_33 : decode cX11_kills 33 = .ok (.istore 4, 2) := by decide +kernel
theorem dX11_kills_35 : decode cX11_kills 35 = .ok (.iload 4, 2) := by decide +kernel
theorem dX11_kills_37 : decode cX11_kills 37 = .ok (.ifCond .ge 8, 3) := by decide +kernel
theorem dX11_kills_40 : decode cX11_kills 40 = .ok (.aload_n 0, 1) := by decide +kernel
theorem dX11_kills_41 : decode cX11_kills 41 = .ok (.invokevirtual 205, 3) := by decide +kernel
theorem dX11_kills_44 : decode cX11_kills 44 = .ok (.ireturn, 1) := by decide +kernel
theorem dX11_kills_45 : decode cX11_kills 45 = .ok (.iload 4, 2) := by decide +kernel
theorem dX11_kills_47 : decode cX11_kills 47 = .ok (.bipush 11, 2) := by decide +kernel
theorem dX11_kills_49 : decode cX11_kills 49 = .ok (.if_icmp .le 8, 3) := by decide +kernel
theorem dX11_kills_52 : decode cX11_kills 52 = .ok (.aload_n 0, 1) := by decide +kernel
theorem dX11_kills_53 : decode cX11_kills 53 = .ok (.invokevirtual 144, 3) := by decide +kernel
theorem dX11_kills_56 : decode cX11_kills 56 = .ok (.ireturn, 1) := by decide +kernel
theorem dX11_kills_57 : decode cX11_kills 57 = .ok (.aload_n 0, 1) := by decide +kernel
theorem dX11_kills_58 : decode cX11_kills 58 = .ok (.getfield 81, 3) := by decide +kernel
theorem dX11_kills_61 : decode cX11_kills 61 = .ok (.invokevirtual 130, 3) := by decide +kernel
theorem dX11_kills_64 : decode cX11_kills 64 = .ok (.iconst 0, 1) := by decide +kernel
theorem dX11_kills_65 : decode cX11_kills 65 = .ok (.istore 5, 2) := by decide +kernel
theorem dX11_kills_67 : decode cX11_kills 67 = .ok (.iload 5, 2) := by decide +kernel
theorem dX11_kills_69 : decode cX11_kills 69 = .ok (.bipush 11, 2) := by decide +kernel
theorem dX11_kills_71 : decode cX11_kills 71 = .ok (.if_icmp .gt 51, 3) := by decide +kernel
theorem dX11_kills_74 : decode cX11_kills 74 = .ok (.aload_n 0, 1) := by decide +kernel
theorem dX11_kills_75 : decode cX11_kills 75 = .ok (.getfield 81, 3) := by decide +kernel
theorem dX11_kills_78 : decode cX11_kills 78 = .ok (.iload 5, 2) := by decide +kernel
theorem dX11_kills_80 : decode cX11_kills 80 = .ok (.iconst 1, 1) := by decide +kernel
theorem dX11_kills_81 : decode cX11_kills 81 = .ok (.aload_n 3, 1) := by decide +kernel
theorem dX11_kills_82 : decode cX11_kills 82 = .ok (.iload 5, 2) := by decide +kernel
theorem dX11_kills_84 : decode cX11_kills 84 = .ok (.iaload, 1) := by decide +kernel
theorem dX11_kills_85 : decode cX11_kills 85 = .ok (.invokevirtual 123, 3) := by decide +kernel
theorem dX11_kills_88 : decode cX11_kills 88 = .ok (.iload 5, 2) := by decide +kernel
theorem dX11_kills_90 : decode cX11_kills 90 = .ok (.ifCond .le 26, 3) := by decide +kernel
theorem dX11_kills_93 : decode cX11_kills 93 = .ok (.aload_n 0, 1) := by decide +kernel
theorem dX11_kills_94 : decode cX11_kills 94 = .ok (.getfield 81, 3) := by decide +kernel
theorem dX11_kills_97 : decode cX11_kills 97 = .ok (.iload 5, 2) := by decide +kernel
theorem dX11_kills_99 : decode cX11_kills 99 = .ok (.iconst 1, 1) := by decide +kernel
theorem dX11_kills_100 : decode cX11_kills 100 = .ok (.isub, 1) := by decide +kernel
theorem dX11_kills_101 : decode cX11_kills 101 = .ok (.iconst 0, 1) := by decide +kernel
theorem dX11_kills_102 : decode cX11_kills 102 = .ok (.iload 5, 2) := by decide +kernel
theorem dX11_kills_104 : decode cX11_kills 104 = .ok (.ineg, 1) := by decide +kernel
theorem dX11_kills_105 : decode cX11_kills 105 = .ok (.aload_n 3, 1) := by decide +kernel
theorem dX11_kills_106 : decode cX11_kills 106 = .ok (.iload 5, 2) := by decide +kernel
theorem dX11_kills_108 : decode cX11_kills 108 = .ok (.iaload, 1) := by decide +kernel
theorem dX11_kills_109 : decode cX11_kills 109 = .ok (.imul, 1) := by decide +kernel
theorem dX11_kills_110 : decode cX11_kills 110 = .ok (.invokestatic 119, 3) := by decide +kernel
theorem dX11_kills_113 : decode cX11_kills 113 = .ok (.invokevirtual 123, 3) := by decide +kernel
theorem dX11_kills_116 : decode cX11_kills 116 = .ok (.iinc 5 1, 3) := by decide +kernel
theorem dX11_kills_119 : decode cX11_kills 119 = .ok (.goto (-52), 3) := by decide +kernel
theorem dX11_kills_122 : decode cX11_kills 122 = .ok (.aload_n 0, 1) := by decide +kernel
theorem dX11_kills_123 : decode cX11_kills 123 = .ok (.iload_n 1, 1) := by decide +kernel
theorem dX11_kills_124 : decode cX11_kills 124 = .ok (.invokevirtual 137, 3) := by decide +kernel
theorem dX11_kills_127 : decode cX11_kills 127 = .ok (.ireturn, 1) := by decide +kernel
theorem dX11_rest_0 : decode cX11_rest 0 = .ok (.iload_n 1, 1) := by decide +kernel
theorem dX11_rest_1 : decode cX11_rest 1 = .ok (.invokestatic 95, 3) := by decide +kernel
theorem dX11_rest_4 : decode cX11_rest 4 = .ok (.ifCond .eq 17, 3) := by decide +kernel
theorem dX11_rest_7 : decode cX11_rest 7 = .ok (.iload_n 2, 1) := by decide +kernel
theorem dX11_rest_8 : decode cX11_rest 8 = .ok (.invokestatic 95, 3) := by decide +kernel
theorem dX11_rest_11 : decode cX11_rest 11 = .ok (.ifCond .eq 10, 3) := by decide +kernel
theorem dX11_rest_14 : decode cX11_rest 14 = .ok (.iload_n 3, 1) := by decide +kernel
theorem dX11_rest_15 : decode cX11_rest 15 = .ok (.invokestatic 208, 3) := by decide +kernel
theorem dX11_rest_18 : decode cX11_rest 18 = .ok (.ifCond .ne 8, 3) := by decide +kernel
theorem dX11_rest_21 : decode cX11_rest 21 = .ok (.aload_n 0, 1) := by decide +kernel
theorem dX11_rest_22 : decode cX11_rest 22 = .ok (.invokevirtual 103, 3) := by decide +kernel
theorem dX11_rest_25 : decode cX11_rest 25 = .ok (.ireturn, 1) := by decide +kernel
theorem dX11_rest_26 : decode cX11_rest 26 = .ok (.iconst 0, 1) := by decide +kernel
theorem dX11_rest_27 : decode cX11_rest 27 = .ok (.istore 4, 2) := by decide +kernel
theorem dX11_rest_29 : decode cX11_rest 29 = .ok (.iload 4, 2) := by decide +kernel
theorem dX11_rest_31 : decode cX11_rest 31 = .ok (.bipush 6, 2) := by decide +kernel
theorem dX11_rest_33 : decode cX11_rest 33 = .ok (.if_icmp .ge 39, 3) := by decide +kernel
theorem dX11_rest_36 : decode cX11_rest 36 = .ok (.iload_n 3, 1) := by decide +kernel
theorem dX11_rest_37 : decode cX11_rest 37 = .ok (.iload 4, 2) := by decide +kernel
theorem dX11_rest_39 : decode cX11_rest 39 = .ok (.invokestatic 211, 3) := by decide +kernel
theorem dX11_rest_42 : decode cX11_rest 42 = .ok (.ifCond .eq 24, 3) := by decide +kernel
theorem dX11_rest_45 : decode cX11_rest 45 = .ok (.aload_n 0, 1) := by decide +kernel
theorem dX11_rest_46 : decode cX11_rest 46 = .ok (.getfield 10, 3) := by decide +kernel
theorem dX11_rest_49 : decode cX11_rest 49 = .ok (.getfield 111, 3) := by decide +kernel
theorem dX11_rest_52 : decode cX11_rest 52 = .ok (.iload 4, 2) := by decide +kernel
theorem dX11_rest_54 : decode cX11_rest 54 = .ok (.aaload, 1) := by decide +kernel
theorem dX11_rest_55 : decode cX11_rest 55 = .ok (.invokevirtual 214, 3) := by decide +kernel
theorem dX11_rest_58 : decode cX11_rest 58 = .ok (.ifCond .eq 8, 3) := by decide +kernel
theorem dX11_rest_61 : decode cX11_rest 61 = .ok (.aload_n 0, 1) := by decide +kernel
theorem dX11_rest_62 : decode cX11_rest 62 = .ok (.invokevirtual 205, 3) := by decide +kernel
theorem dX11_rest_65 : decode cX11_rest 65 = .ok (.ireturn, 1) := by decide +kernel
theorem dX11_rest_66 : decode cX11_rest 66 = .ok (.iinc 4 1, 3) := by decide +kernel
theorem dX11_rest_69 : decode cX11_rest 69 = .ok (.goto (-40), 3) := by decide +kernel
theorem dX11_rest_72 : decode cX11_rest 72 = .ok (.aload_n 0, 1) := by decide +kernel
theorem dX11_rest_73 : decode cX11_rest 73 = .ok (.getfield 42, 3) := by decide +kernel
theorem dX11_rest_76 : decode cX11_rest 76 = .ok (.aload_n 0, 1) := by decide +kernel
theorem dX11_rest_77 : decode cX11_rest 77 = .ok (.getfield 10, 3) := by decide +kernel
theorem dX11_rest_80 : decode cX11_rest 80 = .ok (.getfield 163, 3) := by decide +kernel
theorem dX11_rest_83 : decode cX11_rest 83 = .ok (.invokevirtual 218, 3) := by decide +kernel
theorem dX11_rest_86 : decode cX11_rest 86 = .ok (.iconst 0, 1) := by decide +kernel
theorem dX11_rest_87 : decode cX11_rest 87 = .ok (.istore 4, 2) := by decide +kernel
theorem dX11_rest_89 : decode cX11_rest 89 = .ok (.iload 4, 2) := by decide +kernel
theorem dX11_rest_91 : decode cX11_rest 91 = .ok (.bipush 6, 2) := by decide +kernel
theorem dX11_rest_93 : decode cX11_rest 93 = .ok (.if_icmp .ge 35, 3) := by decide +kernel
theorem dX11_rest_96 : decode cX11_rest 96 = .ok (.iload_n 3, 1) := by decide +kernel
theorem dX11_rest_97 : decode cX11_rest 97 = .ok (.iload 4, 2) := by decide +kernel
theorem dX11_rest_99 : decode cX11_rest 99 = .ok (.invokestatic 211, 3) := by decide +kernel
theorem dX11_rest_102 : decode cX11_rest 102 = .ok (.ifCond .eq 20, 3) := by decide +kernel
theorem dX11_rest_105 : decode cX11_rest 105 = .ok (.aload_n 0, 1) := by decide +kernel
theorem dX11_rest_106 : decode cX11_rest 106 = .ok (.getfield 42, 3) := by decide +kernel
theorem dX11_rest_109 : decode cX11_rest 109 = .ok (.aload_n 0, 1) := by decide +kernel
theorem dX11_rest_110 : decode cX11_rest 110 = .ok (.getfield 10, 3) := by decide +kernel
theorem dX11_rest_113 : decode cX11_rest 113 = .ok (.getfield 111, 3) := by decide +kernel
theorem dX11_rest_116 : decode cX11_rest 116 = .ok (.iload 4, 2) := by decide +kernel
theorem dX11_rest_118 : decode cX11_rest 118 = .ok (.aaload, 1) := by decide +kernel
theorem dX11_rest_119 : decode cX11_rest 119 = .ok (.invokevirtual 222, 3) := by decide +kernel
theorem dX11_rest_122 : decode cX11_rest 122 = .ok (.iinc 4 1, 3) := by decide +kernel
theorem dX11_rest_125 : decode cX11_rest 125 = .ok (.goto (-36), 3) := by decide +kernel
theorem dX11_rest_128 : decode cX11_rest 128 = .ok (.aload_n 0, 1) := by decide +kernel
theorem dX11_rest_129 : decode cX11_rest 129 = .ok (.getfield 81, 3) := by decide +kernel
theorem dX11_rest_132 : decode cX11_rest 132 = .ok (.aload_n 0, 1) := by decide +kernel
theorem dX11_rest_133 : decode cX11_rest 133 = .ok (.getfield 10, 3) := by decide +kernel
theorem dX11_rest_136 : decode cX11_rest 136 = .ok (.getfield 111, 3) := by decide +kernel
theorem dX11_rest_139 : decode cX11_rest 139 = .ok (.iload_n 2, 1) := by decide +kernel
theorem dX11_rest_140 : decode cX11_rest 140 = .ok (.aaload, 1) := by decide +kernel
theorem dX11_rest_141 : decode cX11_rest 141 = .ok (.invokevirtual 226, 3) := by decide +kernel
theorem dX11_rest_144 : decode cX11_rest 144 = .ok (.aload_n 0, 1) := by decide +kernel
theorem dX11_rest_145 : decode cX11_rest 145 = .ok (.getfield 42, 3) := by decide +kernel
theorem dX11_rest_148 : decode cX11_rest 148 = .ok (.aload_n 0, 1) := by decide +kernel
theorem dX11_rest_149 : decode cX11_rest 149 = .ok (.getfield 81, 3) := by decide +kernel
theorem dX11_rest_152 : decode cX11_rest 152 = .ok (.invokevirtual 229, 3) := by decide +kernel
theorem dX11_rest_155 : decode cX11_rest 155 = .ok (.aload_n 0, 1) := by decide +kernel
theorem dX11_rest_156 : decode cX11_rest 156 = .ok (.iload_n 1, 1) := by decide +kernel
theorem dX11_rest_157 : decode cX11_rest 157 = .ok (.invokevirtual 137, 3) := by decide +kernel
theorem dX11_rest_160 : decode cX11_rest 160 = .ok (.ireturn, 1) := by decide +kernel
theorem dX11_basis_0 : decode cX11_basis 0 = .ok (.iload_n 1, 1) := by decide +kernel
theorem dX11_basis_1 : decode cX11_basis 1 = .ok (.invokestatic 208, 3) := by decide +kernel
theorem dX11_basis_4 : decode cX11_basis 4 = .ok (.ifCond .ne 8, 3) := by decide +kernel
theorem dX11_basis_7 : decode cX11_basis 7 = .ok (.aload_n 0, 1) := by decide +kernel
theorem dX11_basis_8 : decode cX11_basis 8 = .ok (.invokevirtual 103, 3) := by decide +kernel
theorem dX11_basis_11 : decode cX11_basis 11 = .ok (.ireturn, 1) := by decide +kernel
theorem dX11_basis_12 : decode cX11_basis 12 = .ok (.aload_n 0, 1) := by decide +kernel
theorem dX11_basis_13 : decode cX11_basis 13 = .ok (.iload_n 1, 1) := by decide +kernel
theorem dX11_basis_14 : decode cX11_basis 14 = .ok (.invokevirtual 232, 3) := by decide +kernel
theorem dX11_basis_17 : decode cX11_basis 17 = .ok (.ifCond .ne 8, 3) := by decide +kernel
theorem dX11_basis_20 : decode cX11_basis 20 = .ok (.aload_n 0, 1) := by decide +kernel
theorem dX11_basis_21 : decode cX11_basis 21 = .ok (.invokevirtual 205, 3) := by decide +kernel
theorem dX11_basis_24 : decode cX11_basis 24 = .ok (.ireturn, 1) := by decide +kernel
theorem dX11_basis_25 : decode cX11_basis 25 = .ok (.aload_n 0, 1) := by decide +kernel
theorem dX11_basis_26 : decode cX11_basis 26 = .ok (.getfield 51, 3) := by decide +kernel
theorem dX11_basis_29 : decode cX11_basis 29 = .ok (.aload_n 0, 1) := by decide +kernel
theorem dX11_basis_30 : decode cX11_basis 30 = .ok (.getfield 10, 3) := by decide +kernel
theorem dX11_basis_33 : decode cX11_basis 33 = .ok (.iload_n 1, 1) := by decide +kernel
theorem dX11_basis_34 : decode cX11_basis 34 = .ok (.invokevirtual 235, 3) := by decide +kernel
theorem dX11_basis_37 : decode cX11_basis 37 = .ok (.getfield 239, 3) := by decide +kernel
theorem dX11_basis_40 : decode cX11_basis 40 = .ok (.ireturn, 1) := by decide +kernel
theorem dX11_based_0 : decode cX11_based 0 = .ok (.iload_n 3, 1) := by decide +kernel
theorem dX11_based_1 : decode cX11_based 1 = .ok (.ifCond .lt 25, 3) := by decide +kernel
theorem dX11_based_4 : decode cX11_based 4 = .ok (.iload_n 3, 1) := by decide +kernel
theorem dX11_based_5 : decode cX11_based 5 = .ok (.bipush 15, 2) := by decide +kernel
theorem dX11_based_7 : decode cX11_based 7 = .ok (.if_icmp .gt 19, 3) := by decide +kernel
theorem dX11_based_10 : decode cX11_based 10 = .ok (.iload 4, 2) := by decide +kernel
theorem dX11_based_12 : decode cX11_based 12 = .ok (.ifCond .lt 14, 3) := by decide +kernel
theorem dX11_based_15 : decode cX11_based 15 = .ok (.iload 4, 2) := by decide +kernel
theorem dX11_based_17 : decode cX11_based 17 = .ok (.bipush 15, 2) := by decide +kernel
theorem dX11_based_19 : decode cX11_based 19 = .ok (.if_icmp .gt 7, 3) := by decide +kernel
theorem dX11_based_22 : decode cX11_based 22 = .ok (.iconst 1, 1) := by decide +kernel
theorem dX11_based_23 : decode cX11_based 23 = .ok (.goto 4, 3) := by decide +kernel
theorem dX11_based_26 : decode cX11_based 26 = .ok (.iconst 0, 1) := by decide +kernel
theorem dX11_based_27 : decode cX11_based 27 = .ok (.istore 5, 2) := by decide +kernel
theorem dX11_based_29 : decode cX11_based 29 = .ok (.iload_n 1, 1) := by decide +kernel
theorem dX11_based_30 : decode cX11_based 30 = .ok (.invokestatic 208, 3) := by decide +kernel
theorem dX11_based_33 : decode cX11_based 33 = .ok (.ifCond .eq 12, 3) := by decide +kernel
theorem dX11_based_36 : decode cX11_based 36 = .ok (.iload_n 2, 1) := by decide +kernel
theorem dX11_based_37 : decode cX11_based 37 = .ok (.ifCond .lt 8, 3) := by decide +kernel
theorem dX11_based_40 : decode cX11_based 40 = .ok (.iload 5, 2) := by decide +kernel
theorem dX11_based_42 : decode cX11_based 42 = .ok (.ifCond .ne 8, 3) := by decide +kernel
theorem dX11_based_45 : decode cX11_based 45 = .ok (.aload_n 0, 1) := by decide +kernel
theorem dX11_based_46 : decode cX11_based 46 = .ok (.invokevirtual 103, 3) := by decide +kernel
theorem dX11_based_49 : decode cX11_based 49 = .ok (.ireturn, 1) := by decide +kernel
theorem dX11_based_50 : decode cX11_based 50 = .ok (.aload_n 0, 1) := by decide +kernel
theorem dX11_based_51 : decode cX11_based 51 = .ok (.iload_n 1, 1) := by decide +kernel
theorem dX11_based_52 : decode cX11_based 52 = .ok (.invokevirtual 232, 3) := by decide +kernel
theorem dX11_based_55 : decode cX11_based 55 = .ok (.ifCond .ne 8, 3) := by decide +kernel
theorem dX11_based_58 : decode cX11_based 58 = .ok (.aload_n 0, 1) := by decide +kernel
theorem dX11_based_59 : decode cX11_based 59 = .ok (.invokevirtual 205, 3) := by decide +kernel
theorem dX11_based_62 : decode cX11_based 62 = .ok (.ireturn, 1) := by decide +kernel
theorem dX11_based_63 : decode cX11_based 63 = .ok (.aload_n 0, 1) := by decide +kernel
theorem dX11_based_64 : decode cX11_based 64 = .ok (.getfield 51, 3) := by decide +kernel
theorem dX11_based_67 : decode cX11_based 67 = .ok (.aload_n 0, 1) := by decide +kernel
theorem dX11_based_68 : decode cX11_based 68 = .ok (.getfield 10, 3) := by decide +kernel
theorem dX11_based_71 : decode cX11_based 71 = .ok (.iload_n 1, 1) := by decide +kernel
theorem dX11_based_72 : decode cX11_based 72 = .ok (.invokevirtual 235, 3) := by decide +kernel
theorem dX11_based_75 : decode cX11_based 75 = .ok (.astore 6, 2) := by decide +kernel
theorem dX11_based_77 : decode cX11_based 77 = .ok (.iload_n 2, 1) := by decide +kernel
theorem dX11_based_78 : decode cX11_based 78 = .ok (.aload 6, 2) := by decide +kernel
theorem dX11_based_80 : decode cX11_based 80 = .ok (.getfield 239, 3) := by decide +kernel
theorem dX11_based_83 : decode cX11_based 83 = .ok (.if_icmp .ge 22, 3) := by decide +kernel
theorem dX11_based_86 : decode cX11_based 86 = .ok (.aload 6, 2) := by decide +kernel
theorem dX11_based_88 : decode cX11_based 88 = .ok (.getfield 244, 3) := by decide +kernel
theorem dX11_based_91 : decode cX11_based 91 = .ok (.iload_n 2, 1) := by decide +kernel
theorem dX11_based_92 : decode cX11_based 92 = .ok (.aaload, 1) := by decide +kernel
theorem dX11_based_93 : decode cX11_based 93 = .ok (.iload_n 3, 1) := by decide +kernel
theorem dX11_based_94 : decode cX11_based 94 = .ok (.iload 4, 2) := by decide +kernel
theorem dX11_based_96 : decode cX11_based 96 = .ok (.invokevirtual 115, 3) := by decide +kernel
theorem dX11_based_99 : decode cX11_based 99 = .ok (.invokestatic 127, 3) := by decide +kernel
theorem dX11_based_102 : decode cX11_based 102 = .ok (.goto 4, 3) := by decide +kernel
theorem dX11_based_105 : decode cX11_based 105 = .ok (.iconst 0, 1) := by decide +kernel
theorem dX11_based_106 : decode cX11_based 106 = .ok (.ireturn, 1) := by decide +kernel
theorem dX11_stairs_0 : decode cX11_stairs 0 = .ok (.iload_n 1, 1) := by decide +kernel
theorem dX11_stairs_1 : decode cX11_stairs 1 = .ok (.invokestatic 208, 3) := by decide +kernel
theorem dX11_stairs_4 : decode cX11_stairs 4 = .ok (.ifCond .eq 13, 3) := by decide +kernel
theorem dX11_stairs_7 : decode cX11_stairs 7 = .ok (.iload_n 2, 1) := by decide +kernel
theorem dX11_stairs_8 : decode cX11_stairs 8 = .ok (.ifCond .lt 9, 3) := by decide +kernel
theorem dX11_stairs_11 : decode cX11_stairs 11 = .ok (.iload_n 2, 1) := by decide +kernel
theorem dX11_stairs_12 : decode cX11_stairs 12 = .ok (.bipush 20, 2) := by decide +kernel
theorem dX11_stairs_14 : decode cX11_stairs 14 = .ok (.if_icmp .le 8, 3) := by decide +kernel
theorem dX11_stairs_17 : decode cX11_stairs 17 = .ok (.aload_n 0, 1) := by decide +kernel
theorem dX11_stairs_18 : decode cX11_stairs 18 = .ok (.invokevirtual 103, 3) := by decide +kernel
theorem dX11_stairs_21 : decode cX11_stairs 21 = .ok (.ireturn, 1) := by decide +kernel
theorem dX11_stairs_22 : decode cX11_stairs 22 = .ok (.aload_n 0, 1) := by decide +kernel
theorem dX11_stairs_23 : decode cX11_stairs 23 = .ok (.iload_n 1, 1) := by decide +kernel
theorem dX11_stairs_24 : decode cX11_stairs 24 = .ok (.invokevirtual 232, 3) := by decide +kernel
theorem dX11_stairs_27 : decode cX11_stairs 27 = .ok (.ifCond .ne 8, 3) := by decide +kernel
theorem dX11_stairs_30 : decode cX11_stairs 30 = .ok (.aload_n 0, 1) := by decide +kernel
theorem dX11_stairs_31 : decode cX11_stairs 31 = .ok (.invokevirtual 205, 3) := by decide +kernel
theorem dX11_stairs_34 : decode cX11_stairs 34 = .ok (.ireturn, 1) := by decide +kernel
theorem dX11_stairs_35 : decode cX11_stairs 35 = .ok (.aload_n 0, 1) := by decide +kernel
theorem dX11_stairs_36 : decode cX11_stairs 36 = .ok (.getfield 51, 3) := by decide +kernel
theorem dX11_stairs_39 : decode cX11_stairs 39 = .ok (.aload_n 0, 1) := by decide +kernel
theorem dX11_stairs_40 : decode cX11_stairs 40 = .ok (.getfield 10, 3) := by decide +kernel
theorem dX11_stairs_43 : decode cX11_stairs 43 = .ok (.iload_n 1, 1) := by decide +kernel
theorem dX11_stairs_44 : decode cX11_stairs 44 = .ok (.invokevirtual 235, 3) := by decide +kernel
theorem dX11_stairs_47 : decode cX11_stairs 47 = .ok (.astore_n 3, 1) := by decide +kernel
theorem dX11_stairs_48 : decode cX11_stairs 48 = .ok (.iconst 0, 1) := by decide +kernel
theorem dX11_stairs_49 : decode cX11_stairs 49 = .ok (.istore 4, 2) := by decide +kernel
theorem dX11_stairs_51 : decode cX11_stairs 51 = .ok (.iconst 0, 1) := by decide +kernel
theorem dX11_stairs_52 : decode cX11_stairs 52 = .ok (.istore 5, 2) := by decide +kernel
theorem dX11_stairs_54 : decode cX11_stairs 54 = .ok (.iload 5, 2) := by decide +kernel
theorem dX11_stairs_56 : decode cX11_stairs 56 = .ok (.iload_n 2, 1) := by decide +kernel
theorem dX11_stairs_57 : decode cX11_stairs 57 = .ok (.if_icmp .gt 25, 3) := by decide +kernel
theorem dX11_stairs_60 : decode cX11_stairs 60 = .ok (.aload_n 3, 1) := by decide +kernel
theorem dX11_stairs_61 : decode cX11_stairs 61 = .ok (.iload_n 2, 1) := by decide +kernel
theorem dX11_stairs_62 : decode cX11_stairs 62 = .ok (.iload 5, 2) := by decide +kernel
theorem dX11_stairs_64 : decode cX11_stairs 64 = .ok (.isub, 1) := by decide +kernel
theorem dX11_stairs_65 : decode cX11_stairs 65 = .ok (.iload 5, 2) := by decide +kernel
theorem dX11_stairs_67 : decode cX11_stairs 67 = .ok (.invokevirtual 247, 3) := by decide +kernel
theorem dX11_stairs_70 : decode cX11_stairs 70 = .ok (.ifCond .ne 6, 3) := by decide +kernel
theorem dX11_stairs_73 : decode cX11_stairs 73 = .ok (.iinc 4 1, 3) := by decide +kernel
theorem dX11_stairs_76 : decode cX11_stairs 76 = .ok (.iinc 5 1, 3) := by decide +kernel
theorem dX11_stairs_79 : decode cX11_stairs 79 = .ok (.goto (-25), 3) := by decide +kernel
theorem dX11_stairs_82 : decode cX11_stairs 82 = .ok (.iload 4, 2) := by decide +kernel
theorem dX11_stairs_84 : decode cX11_stairs 84 = .ok (.ireturn, 1) := by decide +kernel
theorem dX11_within_0 : decode cX11_within 0 = .ok (.iload_n 1, 1) := by decide +kernel
theorem dX11_within_1 : decode cX11_within 1 = .ok (.invokestatic 95, 3) := by decide +kernel
theorem dX11_within_4 : decode cX11_within 4 = .ok (.ifCond .eq 10, 3) := by decide +kernel
theorem dX11_within_7 : decode cX11_within 7 = .ok (.iload_n 2, 1) := by decide +kernel
theorem dX11_within_8 : decode cX11_within 8 = .ok (.invokestatic 208, 3) := by decide +kernel
theorem dX11_within_11 : decode cX11_within 11 = .ok (.ifCond .ne 8, 3) := by decide +kernel
theorem dX11_within_14 : decode cX11_within 14 = .ok (.aload_n 0, 1) := by decide +kernel
theorem dX11_within_15 : decode cX11_within 15 = .ok (.invokevirtual 103, 3) := by decide +kernel
theorem dX11_within_18 : decode cX11_within 18 = .ok (.ireturn, 1) := by decide +kernel
theorem dX11_within_19 : decode cX11_within 19 = .ok (.aload_n 0, 1) := by decide +kernel
theorem dX11_within_20 : decode cX11_within 20 = .ok (.iload_n 2, 1) := by decide +kernel
theorem dX11_within_21 : decode cX11_within 21 = .ok (.invokevirtual 232, 3) := by decide +kernel
theorem dX11_within_24 : decode cX11_within 24 = .ok (.ifCond .ne 8, 3) := by decide +kernel
theorem dX11_within_27 : decode cX11_within 27 = .ok (.aload_n 0, 1) := by decide +kernel
theorem dX11_within_28 : decode cX11_within 28 = .ok (.invokevirtual 205, 3) := by decide +kernel
theorem dX11_within_31 : decode cX11_within 31 = .ok (.ireturn, 1) := by decide +kernel
theorem dX11_within_32 : decode cX11_within 32 = .ok (.aload_n 0, 1) := by decide +kernel
theorem dX11_within_33 : decode cX11_within 33 = .ok (.getfield 51, 3) := by decide +kernel
theorem dX11_within_36 : decode cX11_within 36 = .ok (.aload_n 0, 1) := by decide +kernel
theorem dX11_within_37 : decode cX11_within 37 = .ok (.getfield 10, 3) := by decide +kernel
theorem dX11_within_40 : decode cX11_within 40 = .ok (.iload_n 2, 1) := by decide +kernel
theorem dX11_within_41 : decode cX11_within 41 = .ok (.invokevirtual 235, 3) := by decide +kernel
theorem dX11_within_44 : decode cX11_within 44 = .ok (.astore_n 3, 1) := by decide +kernel
theorem dX11_within_45 : decode cX11_within 45 = .ok (.aload_n 0, 1) := by decide +kernel
theorem dX11_within_46 : decode cX11_within 46 = .ok (.getfield 42, 3) := by decide +kernel
theorem dX11_within_49 : decode cX11_within 49 = .ok (.aload_n 0, 1) := by decide +kernel
theorem dX11_within_50 : decode cX11_within 50 = .ok (.getfield 10, 3) := by decide +kernel
theorem dX11_within_53 : decode cX11_within 53 = .ok (.getfield 163, 3) := by decide +kernel
theorem dX11_within_56 : decode cX11_within 56 = .ok (.invokevirtual 218, 3) := by decide +kernel
theorem dX11_within_59 : decode cX11_within 59 = .ok (.iconst 0, 1) := by decide +kernel
theorem dX11_within_60 : decode cX11_within 60 = .ok (.istore 4, 2) := by decide +kernel
theorem dX11_within_62 : decode cX11_within 62 = .ok (.iload 4, 2) := by decide +kernel
theorem dX11_within_64 : decode cX11_within 64 = .ok (.aload_n 3, 1) := by decide +kernel
theorem dX11_within_65 : decode cX11_within 65 = .ok (.getfield 239, 3) := by decide +kernel
theorem dX11_within_68 : decode cX11_within 68 = .ok (.if_icmp .ge 23, 3) := by decide +kernel
theorem dX11_within_71 : decode cX11_within 71 = .ok (.aload_n 0, 1) := by decide +kernel
theorem dX11_within_72 : decode cX11_within 72 = .ok (.getfield 42, 3) := by decide +kernel
theorem dX11_within_75 : decode cX11_within 75 = .ok (.aload_n 3, 1) := by decide +kernel
theorem dX11_within_76 : decode cX11_within 76 = .ok (.getfield 244, 3) := by decide +kernel
theorem dX11_within_79 : decode cX11_within 79 = .ok (.iload 4, 2) := by decide +kernel
theorem dX11_within_81 : decode cX11_within 81 = .ok (.aaload, 1) := by decide +kernel
theorem dX11_within_82 : decode cX11_within 82 = .ok (.invokevirtual 222, 3) := by decide +kernel
theorem dX11_within_85 : decode cX11_within 85 = .ok (.iinc 4 1, 3) := by decide +kernel
theorem dX11_within_88 : decode cX11_within 88 = .ok (.goto (-26), 3) := by decide +kernel
theorem dX11_within_91 : decode cX11_within 91 = .ok (.aload_n 0, 1) := by decide +kernel
theorem dX11_within_92 : decode cX11_within 92 = .ok (.getfield 81, 3) := by decide +kernel
theorem dX11_within_95 : decode cX11_within 95 = .ok (.aload_n 0, 1) := by decide +kernel
theorem dX11_within_96 : decode cX11_within 96 = .ok (.getfield 10, 3) := by decide +kernel
theorem dX11_within_99 : decode cX11_within 99 = .ok (.getfield 111, 3) := by decide +kernel
theorem dX11_within_102 : decode cX11_within 102 = .ok (.iload_n 1, 1) := by decide +kernel
theorem dX11_within_103 : decode cX11_within 103 = .ok (.aaload, 1) := by decide +kernel
theorem dX11_within_104 : decode cX11_within 104 = .ok (.invokevirtual 226, 3) := by decide +kernel
theorem dX11_within_107 : decode cX11_within 107 = .ok (.aload_n 0, 1) := by decide +kernel
theorem dX11_within_108 : decode cX11_within 108 = .ok (.getfield 42, 3) := by decide +kernel
theorem dX11_within_111 : decode cX11_within 111 = .ok (.aload_n 0, 1) := by decide +kernel
theorem dX11_within_112 : decode cX11_within 112 = .ok (.getfield 81, 3) := by decide +kernel
theorem dX11_within_115 : decode cX11_within 115 = .ok (.invokevirtual 229, 3) := by decide +kernel
theorem dX11_within_118 : decode cX11_within 118 = .ok (.aload_n 0, 1) := by decide +kernel
theorem dX11_within_119 : decode cX11_within 119 = .ok (.getfield 81, 3) := by decide +kernel
theorem dX11_within_122 : decode cX11_within 122 = .ok (.invokevirtual 214, 3) := by decide +kernel
theorem dX11_within_125 : decode cX11_within 125 = .ok (.ifCond .eq 7, 3) := by decide +kernel
theorem dX11_within_128 : decode cX11_within 128 = .ok (.iconst 1, 1) := by decide +kernel
theorem dX11_within_129 : decode cX11_within 129 = .ok (.goto 4, 3) := by decide +kernel
theorem dX11_within_132 : decode cX11_within 132 = .ok (.iconst 0, 1) := by decide +kernel
theorem dX11_within_133 : decode cX11_within 133 = .ok (.ireturn, 1) := by decide +kernel
theorem dX11_type_0 : decode cX11_type 0 = .ok (.iload_n 1, 1) := by decide +kernel
theorem dX11_type_1 : decode cX11_type 1 = .ok (.ifCond .lt 9, 3) := by decide +kernel
theorem dX11_type_4 : decode cX11_type 4 = .ok (.iload_n 1, 1) := by decide +kernel
theorem dX11_type_5 : decode cX11_type 5 = .ok (.bipush 127, 2) := by decide +kernel
theorem dX11_type_7 : decode cX11_type 7 = .ok (.if_icmp .le 8, 3) := by decide +kernel
theorem dX11_type_10 : decode cX11_type 10 = .ok (.aload_n 0, 1) := by decide +kernel
theorem dX11_type_11 : decode cX11_type 11 = .ok (.invokevirtual 103, 3) := by decide +kernel
theorem dX11_type_14 : decode cX11_type 14 = .ok (.ireturn, 1) := by decide +kernel
theorem dX11_type_15 : decode cX11_type 15 = .ok (.aload_n 0, 1) := by decide +kernel
theorem dX11_type_16 : decode cX11_type 16 = .ok (.getfield 26, 3) := by decide +kernel
theorem dX11_type_19 : decode cX11_type 19 = .ok (.getfield 250, 3) := by decide +kernel
theorem dX11_type_22 : decode cX11_type 22 = .ok (.bipush 120, 2) := by decide +kernel
theorem dX11_type_24 : decode cX11_type 24 = .ok (.if_icmp .lt 8, 3) := by decide +kernel
theorem dX11_type_27 : decode cX11_type 27 = .ok (.aload_n 0, 1) := by decide +kernel
theorem dX11_type_28 : decode cX11_type 28 = .ok (.invokevirtual 144, 3) := by decide +kernel
theorem dX11_type_31 : decode cX11_type 31 = .ok (.ireturn, 1) := by decide +kernel
theorem dX11_type_32 : decode cX11_type 32 = .ok (.aload_n 0, 1) := by decide +kernel
theorem dX11_type_33 : decode cX11_type 33 = .ok (.getfield 26, 3) := by decide +kernel
theorem dX11_type_36 : decode cX11_type 36 = .ok (.iload_n 1, 1) := by decide +kernel
theorem dX11_type_37 : decode cX11_type 37 = .ok (.invokevirtual 253, 3) := by decide +kernel
theorem dX11_type_40 : decode cX11_type 40 = .ok (.aload_n 0, 1) := by decide +kernel
theorem dX11_type_41 : decode cX11_type 41 = .ok (.getfield 26, 3) := by decide +kernel
theorem dX11_type_44 : decode cX11_type 44 = .ok (.getfield 250, 3) := by decide +kernel
theorem dX11_type_47 : decode cX11_type 47 = .ok (.ireturn, 1) := by decide +kernel
theorem dX11_clear_0 : decode cX11_clear 0 = .ok (.aload_n 0, 1) := by decide +kernel
theorem dX11_clear_1 : decode cX11_clear 1 = .ok (.getfield 26, 3) := by decide +kernel
theorem dX11_clear_4 : decode cX11_clear 4 = .ok (.getfield 250, 3) := by decide +kernel
theorem dX11_clear_7 : decode cX11_clear 7 = .ok (.istore_n 1, 1) := by decide +kernel
theorem dX11_clear_8 : decode cX11_clear 8 = .ok (.aload_n 0, 1) := by decide +kernel
theorem dX11_clear_9 : decode cX11_clear 9 = .ok (.getfield 26, 3) := by decide +kernel
theorem dX11_clear_12 : decode cX11_clear 12 = .ok (.iconst 0, 1) := by decide +kernel
theorem dX11_clear_13 : decode cX11_clear 13 = .ok (.putfield 250, 3) := by decide +kernel
theorem dX11_clear_16 : decode cX11_clear 16 = .ok (.iload_n 1, 1) := by decide +kernel
theorem dX11_clear_17 : decode cX11_clear 17 = .ok (.ireturn, 1) := by decide +kernel
theorem dX11_reads_0 : decode cX11_reads 0 = .ok (.iload_n 1, 1) := by decide +kernel
theorem dX11_reads_1 : decode cX11_reads 1 = .ok (.invokestatic 95, 3) := by decide +kernel
theorem dX11_reads_4 : decode cX11_reads 4 = .ok (.ifCond .ne 8, 3) := by decide +kernel
theorem dX11_reads_7 : decode cX11_reads 7 = .ok (.aload_n 0, 1) := by decide +kernel
theorem dX11_reads_8 : decode cX11_reads 8 = .ok (.invokevirtual 103, 3) := by decide +kernel
theorem dX11_reads_11 : decode cX11_reads 11 = .ok (.ireturn, 1) := by decide +kernel
theorem dX11_reads_12 : decode cX11_reads 12 = .ok (.aload_n 0, 1) := by decide +kernel
theorem dX11_reads_13 : decode cX11_reads 13 = .ok (.getfield 26, 3) := by decide +kernel
theorem dX11_reads_16 : decode cX11_reads 16 = .ok (.invokevirtual 256, 3) := by decide +kernel
theorem dX11_reads_19 : decode cX11_reads 19 = .ok (.istore_n 2, 1) := by decide +kernel
theorem dX11_reads_20 : decode cX11_reads 20 = .ok (.iload_n 2, 1) := by decide +kernel
theorem dX11_reads_21 : decode cX11_reads 21 = .ok (.ifCond .lt 9, 3) := by decide +kernel
theorem dX11_reads_24 : decode cX11_reads 24 = .ok (.sipush (-30000), 3) := by decide +kernel
theorem dX11_reads_27 : decode cX11_reads 27 = .ok (.iload_n 2, 1) := by decide +kernel
theorem dX11_reads_28 : decode cX11_reads 28 = .ok (.isub, 1) := by decide +kernel
theorem dX11_reads_29 : decode cX11_reads 29 = .ok (.ireturn, 1) := by decide +kernel
theorem dX11_reads_30 : decode cX11_reads 30 = .ok (.aload_n 0, 1) := by decide +kernel
theorem dX11_reads_31 : decode cX11_reads 31 = .ok (.getfield 67, 3) := by decide +kernel
theorem dX11_reads_34 : decode cX11_reads 34 = .ok (.aload_n 0, 1) := by decide +kernel
theorem dX11_reads_35 : decode cX11_reads 35 = .ok (.getfield 81, 3) := by decide +kernel
theorem dX11_reads_38 : decode cX11_reads 38 = .ok (.invokevirtual 259, 3) := by decide +kernel
theorem dX11_reads_41 : decode cX11_reads 41 = .ok (.ifCond .ne 8, 3) := by decide +kernel
theorem dX11_reads_44 : decode cX11_reads 44 = .ok (.aload_n 0, 1) := by decide +kernel
theorem dX11_reads_45 : decode cX11_reads 45 = .ok (.invokevirtual 144, 3) := by decide +kernel
theorem dX11_reads_48 : decode cX11_reads 48 = .ok (.ireturn, 1) := by decide +kernel
theorem dX11_reads_49 : decode cX11_reads 49 = .ok (.aload_n 0, 1) := by decide +kernel
theorem dX11_reads_50 : decode cX11_reads 50 = .ok (.iload_n 1, 1) := by decide +kernel
theorem dX11_reads_51 : decode cX11_reads 51 = .ok (.invokevirtual 137, 3) := by decide +kernel
theorem dX11_reads_54 : decode cX11_reads 54 = .ok (.ireturn, 1) := by decide +kernel
theorem dX11_shown_0 : decode cX11_shown 0 = .ok (.iload_n 1, 1) := by decide +kernel
theorem dX11_shown_1 : decode cX11_shown 1 = .ok (.invokestatic 95, 3) := by decide +kernel
theorem dX11_shown_4 : decode cX11_shown 4 = .ok (.ifCond .eq 7, 3) := by decide +kernel
theorem dX11_shown_7 : decode cX11_shown 7 = .ok (.iload_n 2, 1) := by decide +kernel
theorem dX11_shown_8 : decode cX11_shown 8 = .ok (.ifCond .ge 8, 3) := by decide +kernel
theorem dX11_shown_11 : decode cX11_shown 11 = .ok (.aload_n 0, 1) := by decide +kernel
theorem dX11_shown_12 : decode cX11_shown 12 = .ok (.invokevirtual 103, 3) := by decide +kernel
theorem dX11_shown_15 : decode cX11_shown 15 = .ok (.ireturn, 1) := by decide +kernel
theorem dX11_shown_16 : decode cX11_shown 16 = .ok (.aload_n 0, 1) := by decide +kernel
theorem dX11_shown_17 : decode cX11_shown 17 = .ok (.getfield 74, 3) := by decide +kernel
theorem dX11_shown_20 : decode cX11_shown 20 = .ok (.aload_n 0, 1) := by decide +kernel
theorem dX11_shown_21 : decode cX11_shown 21 = .ok (.getfield 10, 3) := by decide +kernel
theorem dX11_shown_24 : decode cX11_shown 24 = .ok (.getfield 111, 3) := by decide +kernel
theorem dX11_shown_27 : decode cX11_shown 27 = .ok (.iload_n 1, 1) := by decide +kernel
theorem dX11_shown_28 : decode cX11_shown 28 = .ok (.aaload, 1) := by decide +kernel
theorem dX11_shown_29 : decode cX11_shown 29 = .ok (.aload_n 0, 1) := by decide +kernel
theorem dX11_shown_30 : decode cX11_shown 30 = .ok (.getfield 10, 3) := by decide +kernel
theorem dX11_shown_33 : decode cX11_shown 33 = .ok (.getfield 163, 3) := by decide +kernel
theorem dX11_shown_36 : decode cX11_shown 36 = .ok (.iload_n 2, 1) := by decide +kernel
theorem dX11_shown_37 : decode cX11_shown 37 = .ok (.invokevirtual 263, 3) := by decide +kernel
theorem dX11_shown_40 : decode cX11_shown 40 = .ok (.ireturn, 1) := by decide +kernel
theorem dX11_back_0 : decode cX11_back 0 = .ok (.aload_n 0, 1) := by decide +kernel
theorem dX11_back_1 : decode cX11_back 1 = .ok (.getfield 19, 3) := by decide +kernel
theorem dX11_back_4 : decode cX11_back 4 = .ok (.getfield 267, 3) := by decide +kernel
theorem dX11_back_7 : decode cX11_back 7 = .ok (.ifCond .ne 8, 3) := by decide +kernel
theorem dX11_back_10 : decode cX11_back 10 = .ok (.aload_n 0, 1) := by decide +kernel
theorem dX11_back_11 : decode cX11_back 11 = .ok (.invokevirtual 205, 3) := by decide +kernel
theorem dX11_back_14 : decode cX11_back 14 = .ok (.ireturn, 1) := by decide +kernel
theorem dX11_back_15 : decode cX11_back 15 = .ok (.aload_n 0, 1) := by decide +kernel
theorem dX11_back_16 : decode cX11_back 16 = .ok (.getfield 19, 3) := by decide +kernel
theorem dX11_back_19 : decode cX11_back 19 = .ok (.aload_n 0, 1) := by decide +kernel
theorem dX11_back_20 : decode cX11_back 20 = .ok (.getfield 10, 3) := by decide +kernel
theorem dX11_back_23 : decode cX11_back 23 = .ok (.invokevirtual 270, 3) := by decide +kernel
theorem dX11_back_26 : decode cX11_back 26 = .ok (.aload_n 0, 1) := by decide +kernel
theorem dX11_back_27 : decode cX11_back 27 = .ok (.getfield 19, 3) := by decide +kernel
theorem dX11_back_30 : decode cX11_back 30 = .ok (.getfield 267, 3) := by decide +kernel
theorem dX11_back_33 : decode cX11_back 33 = .ok (.ireturn, 1) := by decide +kernel
theorem dX11_told_0 : decode cX11_told 0 = .ok (.iload_n 1, 1) := by decide +kernel
theorem dX11_told_1 : decode cX11_told 1 = .ok (.tableswitch 78 0 5 #[39, 44, 49, 54, 62, 70], 39) := by decide +kernel
theorem dX11_told_40 : decode cX11_told 40 = .ok (.aload_n 0, 1) := by decide +kernel
theorem dX11_told_41 : decode cX11_told 41 = .ok (.getfield 85, 3) := by decide +kernel
theorem dX11_told_44 : decode cX11_told 44 = .ok (.ireturn, 1) := by decide +kernel
theorem dX11_told_45 : decode cX11_told 45 = .ok (.aload_n 0, 1) := by decide +kernel
theorem dX11_told_46 : decode cX11_told 46 = .ok (.getfield 89, 3) := by decide +kernel
theorem dX11_told_49 : decode cX11_told 49 = .ok (.ireturn, 1) := by decide +kernel
theorem dX11_told_50 : decode cX11_told 50 = .ok (.aload_n 0, 1) := by decide +kernel
theorem dX11_told_51 : decode cX11_told 51 = .ok (.getfield 92, 3) := by decide +kernel
theorem dX11_told_54 : decode cX11_told 54 = .ok (.ireturn, 1) := by decide +kernel
theorem dX11_told_55 : decode cX11_told 55 = .ok (.aload_n 0, 1) := by decide +kernel
theorem dX11_told_56 : decode cX11_told 56 = .ok (.getfield 26, 3) := by decide +kernel
theorem dX11_told_59 : decode cX11_told 59 = .ok (.getfield 250, 3) := by decide +kernel
theorem dX11_told_62 : decode cX11_told 62 = .ok (.ireturn, 1) := by decide +kernel
theorem dX11_told_63 : decode cX11_told 63 = .ok (.aload_n 0, 1) := by decide +kernel
theorem dX11_told_64 : decode cX11_told 64 = .ok (.getfield 10, 3) := by decide +kernel
theorem dX11_told_67 : decode cX11_told 67 = .ok (.getfield 163, 3) := by decide +kernel
theorem dX11_told_70 : decode cX11_told 70 = .ok (.ireturn, 1) := by decide +kernel
theorem dX11_told_71 : decode cX11_told 71 = .ok (.aload_n 0, 1) := by decide +kernel
theorem dX11_told_72 : decode cX11_told 72 = .ok (.getfield 19, 3) := by decide +kernel
theorem dX11_told_75 : decode cX11_told 75 = .ok (.getfield 267, 3) := by decide +kernel
theorem dX11_told_78 : decode cX11_told 78 = .ok (.ireturn, 1) := by decide +kernel
theorem dX11_told_79 : decode cX11_told 79 = .ok (.aload_n 0, 1) := by decide +kernel
theorem dX11_told_80 : decode cX11_told 80 = .ok (.invokevirtual 103, 3) := by decide +kernel
theorem dX11_told_83 : decode cX11_told 83 = .ok (.ireturn, 1) := by decide +kernel
theorem dX11_digest_0 : decode cX11_digest 0 = .ok (.ldc2_w 273, 3) := by decide +kernel
theorem dX11_digest_3 : decode cX11_digest 3 = .ok (.lstore_n 1, 1) := by decide +kernel
theorem dX11_digest_4 : decode cX11_digest 4 = .ok (.iconst 0, 1) := by decide +kernel
theorem dX11_digest_5 : decode cX11_digest 5 = .ok (.istore_n 3, 1) := by decide +kernel
theorem dX11_digest_6 : decode cX11_digest 6 = .ok (.iload_n 3, 1) := by decide +kernel
theorem dX11_digest_7 : decode cX11_digest 7 = .ok (.iconst 5, 1) := by decide +kernel
theorem dX11_digest_8 : decode cX11_digest 8 = .ok (.if_icmp .gt 22, 3) := by decide +kernel
theorem dX11_digest_11 : decode cX11_digest 11 = .ok (.ldc2_w 275, 3) := by decide +kernel
theorem dX11_digest_14 : decode cX11_digest 14 = .ok (.lload_n 1, 1) := by decide +kernel
theorem dX11_digest_15 : decode cX11_digest 15 = .ok (.lmul, 1) := by decide +kernel
theorem dX11_digest_16 : decode cX11_digest 16 = .ok (.aload_n 0, 1) := by decide +kernel
theorem dX11_digest_17 : decode cX11_digest 17 = .ok (.iload_n 3, 1) := by decide +kernel
theorem dX11_digest_18 : decode cX11_digest 18 = .ok (.invokevirtual 277, 3) := by decide +kernel
theorem dX11_digest_21 : decode cX11_digest 21 = .ok (.i2l, 1) := by decide +kernel
theorem dX11_digest_22 : decode cX11_digest 22 = .ok (.ladd, 1) := by decide +kernel
theorem dX11_digest_23 : decode cX11_digest 23 = .ok (.lstore_n 1, 1) := by decide +kernel
theorem dX11_digest_24 : decode cX11_digest 24 = .ok (.iinc 3 1, 3) := by decide +kernel
theorem dX11_digest_27 : decode cX11_digest 27 = .ok (.goto (-21), 3) := by decide +kernel
theorem dX11_digest_30 : decode cX11_digest 30 = .ok (.iconst 0, 1) := by decide +kernel
theorem dX11_digest_31 : decode cX11_digest 31 = .ok (.istore_n 3, 1) := by decide +kernel
theorem dX11_digest_32 : decode cX11_digest 32 = .ok (.iload_n 3, 1) := by decide +kernel
theorem dX11_digest_33 : decode cX11_digest 33 = .ok (.bipush 6, 2) := by decide +kernel
theorem dX11_digest_35 : decode cX11_digest 35 = .ok (.if_icmp .ge 68, 3) := by decide +kernel
theorem dX11_digest_38 : decode cX11_digest 38 = .ok (.aload_n 0, 1) := by decide +kernel
theorem dX11_digest_39 : decode cX11_digest 39 = .ok (.getfield 10, 3) := by decide +kernel
theorem dX11_digest_42 : decode cX11_digest 42 = .ok (.getfield 111, 3) := by decide +kernel
theorem dX11_digest_45 : decode cX11_digest 45 = .ok (.iload_n 3, 1) := by decide +kernel
theorem dX11_digest_46 : decode cX11_digest 46 = .ok (.aaload, 1) := by decide +kernel
theorem dX11_digest_47 : decode cX11_digest 47 = .ok (.astore 4, 2) := by decide +kernel
theorem dX11_digest_49 : decode cX11_digest 49 = .ok (.iconst 0, 1) := by decide +kernel
theorem dX11_digest_50 : decode cX11_digest 50 = .ok (.istore 5, 2) := by decide +kernel
theorem dX11_digest_52 : decode cX11_digest 52 = .ok (.iload 5, 2) := by decide +kernel
theorem dX11_digest_54 : decode cX11_digest 54 = .ok (.bipush 8, 2) := by decide +kernel
theorem dX11_digest_56 : decode cX11_digest 56 = .ok (.if_icmp .gt 31, 3) := by decide +kernel
theorem dX11_digest_59 : decode cX11_digest 59 = .ok (.ldc2_w 275, 3) := by decide +kernel
theorem dX11_digest_62 : decode cX11_digest 62 = .ok (.lload_n 1, 1) := by decide +kernel
theorem dX11_digest_63 : decode cX11_digest 63 = .ok (.lmul, 1) := by decide +kernel
theorem dX11_digest_64 : decode cX11_digest 64 = .ok (.aload 4, 2) := by decide +kernel
theorem dX11_digest_66 : decode cX11_digest 66 = .ok (.iload 5, 2) := by decide +kernel
theorem dX11_digest_68 : decode cX11_digest 68 = .ok (.aload_n 0, 1) := by decide +kernel
theorem dX11_digest_69 : decode cX11_digest 69 = .ok (.getfield 10, 3) := by decide +kernel
theorem dX11_digest_72 : decode cX11_digest 72 = .ok (.getfield 163, 3) := by decide +kernel
theorem dX11_digest_75 : decode cX11_digest 75 = .ok (.invokevirtual 166, 3) := by decide +kernel
theorem dX11_digest_78 : decode cX11_digest 78 = .ok (.i2l, 1) := by decide +kernel
theorem dX11_digest_79 : decode cX11_digest 79 = .ok (.ladd, 1) := by decide +kernel
theorem dX11_digest_80 : decode cX11_digest 80 = .ok (.lstore_n 1, 1) := by decide +kernel
theorem dX11_digest_81 : decode cX11_digest 81 = .ok (.iinc 5 1, 3) := by decide +kernel
theorem dX11_digest_84 : decode cX11_digest 84 = .ok (.goto (-32), 3) := by decide +kernel
theorem dX11_digest_87 : decode cX11_digest 87 = .ok (.lload_n 1, 1) := by decide +kernel
theorem dX11_digest_88 : decode cX11_digest 88 = .ok (.aload 4, 2) := by decide +kernel
theorem dX11_digest_90 : decode cX11_digest 90 = .ok (.getfield 280, 3) := by decide +kernel
theorem dX11_digest_93 : decode cX11_digest 93 = .ok (.invokestatic 283, 3) := by decide +kernel
theorem dX11_digest_96 : decode cX11_digest 96 = .ok (.lstore_n 1, 1) := by decide +kernel
theorem dX11_digest_97 : decode cX11_digest 97 = .ok (.iinc 3 1, 3) := by decide +kernel
theorem dX11_digest_100 : decode cX11_digest 100 = .ok (.goto (-68), 3) := by decide +kernel
theorem dX11_digest_103 : decode cX11_digest 103 = .ok (.iconst 0, 1) := by decide +kernel
theorem dX11_digest_104 : decode cX11_digest 104 = .ok (.istore_n 3, 1) := by decide +kernel
theorem dX11_digest_105 : decode cX11_digest 105 = .ok (.iload_n 3, 1) := by decide +kernel
theorem dX11_digest_106 : decode cX11_digest 106 = .ok (.iconst 2, 1) := by decide +kernel
theorem dX11_digest_107 : decode cX11_digest 107 = .ok (.if_icmp .ge 23, 3) := by decide +kernel
theorem dX11_digest_110 : decode cX11_digest 110 = .ok (.lload_n 1, 1) := by decide +kernel
theorem dX11_digest_111 : decode cX11_digest 111 = .ok (.aload_n 0, 1) := by decide +kernel
theorem dX11_digest_112 : decode cX11_digest 112 = .ok (.getfield 10, 3) := by decide +kernel
theorem dX11_digest_115 : decode cX11_digest 115 = .ok (.getfield 175, 3) := by decide +kernel
theorem dX11_digest_118 : decode cX11_digest 118 = .ok (.iload_n 3, 1) := by decide +kernel
theorem dX11_digest_119 : decode cX11_digest 119 = .ok (.aaload, 1) := by decide +kernel
theorem dX11_digest_120 : decode cX11_digest 120 = .ok (.invokestatic 283, 3) := by decide +kernel
theorem dX11_digest_123 : decode cX11_digest 123 = .ok (.lstore_n 1, 1) := by decide +kernel
theorem dX11_digest_124 : decode cX11_digest 124 = .ok (.iinc 3 1, 3) := by decide +kernel
theorem dX11_digest_127 : decode cX11_digest 127 = .ok (.goto (-22), 3) := by decide +kernel
theorem dX11_digest_130 : decode cX11_digest 130 = .ok (.lload_n 1, 1) := by decide +kernel
theorem dX11_digest_131 : decode cX11_digest 131 = .ok (.lreturn, 1) := by decide +kernel
theorem dX11_mixed_0 : decode cX11_mixed 0 = .ok (.lload_n 0, 1) := by decide +kernel
theorem dX11_mixed_1 : decode cX11_mixed 1 = .ok (.lstore_n 3, 1) := by decide +kernel
theorem dX11_mixed_2 : decode cX11_mixed 2 = .ok (.aload_n 2, 1) := by decide +kernel
theorem dX11_mixed_3 : decode cX11_mixed 3 = .ok (.astore 5, 2) := by decide +kernel
theorem dX11_mixed_5 : decode cX11_mixed 5 = .ok (.aload 5, 2) := by decide +kernel
theorem dX11_mixed_7 : decode cX11_mixed 7 = .ok (.arraylength, 1) := by decide +kernel
theorem dX11_mixed_8 : decode cX11_mixed 8 = .ok (.istore 6, 2) := by decide +kernel
theorem dX11_mixed_10 : decode cX11_mixed 10 = .ok (.iconst 0, 1) := by decide +kernel
theorem dX11_mixed_11 : decode cX11_mixed 11 = .ok (.istore 7, 2) := by decide +kernel
theorem dX11_mixed_13 : decode cX11_mixed 13 = .ok (.iload 7, 2) := by decide +kernel
theorem dX11_mixed_15 : decode cX11_mixed 15 = .ok (.iload 6, 2) := by decide +kernel
theorem dX11_mixed_17 : decode cX11_mixed 17 = .ok (.if_icmp .ge 29, 3) := by decide +kernel
theorem dX11_mixed_20 : decode cX11_mixed 20 = .ok (.aload 5, 2) := by decide +kernel
theorem dX11_mixed_22 : decode cX11_mixed 22 = .ok (.iload 7, 2) := by decide +kernel
theorem dX11_mixed_24 : decode cX11_mixed 24 = .ok (.iaload, 1) := by decide +kernel
theorem dX11_mixed_25 : decode cX11_mixed 25 = .ok (.istore 8, 2) := by decide +kernel
theorem dX11_mixed_27 : decode cX11_mixed 27 = .ok (.ldc2_w 275, 3) := by decide +kernel
theorem dX11_mixed_30 : decode cX11_mixed 30 = .ok (.lload_n 3, 1) := by decide +kernel
theorem dX11_mixed_31 : decode cX11_mixed 31 = .ok (.lmul, 1) := by decide +kernel
theorem dX11_mixed_32 : decode cX11_mixed 32 = .ok (.iload 8, 2) := by decide +kernel
theorem dX11_mixed_34 : decode cX11_mixed 34 = .ok (.invokestatic 127, 3) := by decide +kernel
theorem dX11_mixed_37 : decode cX11_mixed 37 = .ok (.i2l, 1) := by decide +kernel
theorem dX11_mixed_38 : decode cX11_mixed 38 = .ok (.ladd, 1) := by decide +kernel
theorem dX11_mixed_39 : decode cX11_mixed 39 = .ok (.lstore_n 3, 1) := by decide +kernel
theorem dX11_mixed_40 : decode cX11_mixed 40 = .ok (.iinc 7 1, 3) := by decide +kernel
theorem dX11_mixed_43 : decode cX11_mixed 43 = .ok (.goto (-30), 3) := by decide +kernel
theorem dX11_mixed_46 : decode cX11_mixed 46 = .ok (.lload_n 3, 1) := by decide +kernel
theorem dX11_mixed_47 : decode cX11_mixed 47 = .ok (.lreturn, 1) := by decide +kernel
theorem dX11_replaceOperator_0 : decode cX11_replaceOperator 0 = .ok (.aload_n 0, 1) := by decide +kernel
theorem dX11_replaceOperator_1 : decode cX11_replaceOperator 1 = .ok (.getfield 19, 3) := by decide +kernel
theorem dX11_replaceOperator_4 : decode cX11_replaceOperator 4 = .ok (.aload_n 0, 1) := by decide +kernel
theorem dX11_replaceOperator_5 : decode cX11_replaceOperator 5 = .ok (.getfield 10, 3) := by decide +kernel
theorem dX11_replaceOperator_8 : decode cX11_replaceOperator 8 = .ok (.invokevirtual 107, 3) := by decide +kernel
theorem dX11_replaceOperator_11 : decode cX11_replaceOperator 11 = .ok (.aload_n 0, 1) := by decide +kernel
theorem dX11_replaceOperator_12 : decode cX11_replaceOperator 12 = .ok (.getfield 10, 3) := by decide +kernel
theorem dX11_replaceOperator_15 : decode cX11_replaceOperator 15 = .ok (.getfield 111, 3) := by decide +kernel
theorem dX11_replaceOperator_18 : decode cX11_replaceOperator 18 = .ok (.iload_n 1, 1) := by decide +kernel
theorem dX11_replaceOperator_19 : decode cX11_replaceOperator 19 = .ok (.aaload, 1) := by decide +kernel
theorem dX11_replaceOperator_20 : decode cX11_replaceOperator 20 = .ok (.aload_n 0, 1) := by decide +kernel
theorem dX11_replaceOperator_21 : decode cX11_replaceOperator 21 = .ok (.getfield 81, 3) := by decide +kernel
theorem dX11_replaceOperator_24 : decode cX11_replaceOperator 24 = .ok (.invokevirtual 226, 3) := by decide +kernel
theorem dX11_replaceOperator_27 : decode cX11_replaceOperator 27 = .ok (.aload_n 0, 1) := by decide +kernel
theorem dX11_replaceOperator_28 : decode cX11_replaceOperator 28 = .ok (.getfield 81, 3) := by decide +kernel
theorem dX11_replaceOperator_31 : decode cX11_replaceOperator 31 = .ok (.invokevirtual 287, 3) := by decide +kernel
theorem dX11_replaceOperator_34 : decode cX11_replaceOperator 34 = .ok (.ireturn, 1) := by decide +kernel
theorem dX11_bad_0 : decode cX11_bad 0 = .ok (.aload_n 0, 1) := by decide +kernel
theorem dX11_bad_1 : decode cX11_bad 1 = .ok (.dup, 1) := by decide +kernel
theorem dX11_bad_2 : decode cX11_bad 2 = .ok (.getfield 85, 3) := by decide +kernel
theorem dX11_bad_5 : decode cX11_bad 5 = .ok (.iconst 1, 1) := by decide +kernel
theorem dX11_bad_6 : decode cX11_bad 6 = .ok (.iadd, 1) := by decide +kernel
theorem dX11_bad_7 : decode cX11_bad 7 = .ok (.putfield 85, 3) := by decide +kernel
theorem dX11_bad_10 : decode cX11_bad 10 = .ok (.sipush (-20002), 3) := by decide +kernel
theorem dX11_bad_13 : decode cX11_bad 13 = .ok (.ireturn, 1) := by decide +kernel
theorem dX11_no_0 : decode cX11_no 0 = .ok (.aload_n 0, 1) := by decide +kernel
theorem dX11_no_1 : decode cX11_no 1 = .ok (.dup, 1) := by decide +kernel
theorem dX11_no_2 : decode cX11_no 2 = .ok (.getfield 89, 3) := by decide +kernel
theorem dX11_no_5 : decode cX11_no 5 = .ok (.iconst 1, 1) := by decide +kernel
theorem dX11_no_6 : decode cX11_no 6 = .ok (.iadd, 1) := by decide +kernel
theorem dX11_no_7 : decode cX11_no 7 = .ok (.putfield 89, 3) := by decide +kernel
theorem dX11_no_10 : decode cX11_no 10 = .ok (.sipush (-20003), 3) := by decide +kernel
theorem dX11_no_13 : decode cX11_no 13 = .ok (.ireturn, 1) := by decide +kernel
theorem dX11_full_0 : decode cX11_full 0 = .ok (.aload_n 0, 1) := by decide +kernel
theorem dX11_full_1 : decode cX11_full 1 = .ok (.dup, 1) := by decide +kernel
theorem dX11_full_2 : decode cX11_full 2 = .ok (.getfield 92, 3) := by decide +kernel
theorem dX11_full_5 : decode cX11_full 5 = .ok (.iconst 1, 1) := by decide +kernel
theorem dX11_full_6 : decode cX11_full 6 = .ok (.iadd, 1) := by decide +kernel
theorem dX11_full_7 : decode cX11_full 7 = .ok (.putfield 92, 3) := by decide +kernel
theorem dX11_full_10 : decode cX11_full 10 = .ok (.sipush (-20004), 3) := by decide +kernel
theorem dX11_full_13 : decode cX11_full 13 = .ok (.ireturn, 1) := by decide +kernel
theorem dX11_hasBasis_0 : decode cX11_hasBasis 0 = .ok (.iconst 0, 1) := by decide +kernel
theorem dX11_hasBasis_1 : decode cX11_hasBasis 1 = .ok (.istore_n 2, 1) := by decide +kernel
theorem dX11_hasBasis_2 : decode cX11_hasBasis 2 = .ok (.iload_n 2, 1) := by decide +kernel
theorem dX11_hasBasis_3 : decode cX11_hasBasis 3 = .ok (.bipush 6, 2) := by decide +kernel
theorem dX11_hasBasis_5 : decode cX11_hasBasis 5 = .ok (.if_icmp .ge 35, 3) := by decide +kernel
theorem dX11_hasBasis_8 : decode cX11_hasBasis 8 = .ok (.iload_n 1, 1) := by decide +kernel
theorem dX11_hasBasis_9 : decode cX11_hasBasis 9 = .ok (.iload_n 2, 1) := by decide +kernel
theorem dX11_hasBasis_10 : decode cX11_hasBasis 10 = .ok (.invokestatic 211, 3) := by decide +kernel
theorem dX11_hasBasis_13 : decode cX11_hasBasis 13 = .ok (.ifCond .eq 21, 3) := by decide +kernel
theorem dX11_hasBasis_16 : decode cX11_hasBasis 16 = .ok (.aload_n 0, 1) := by decide +kernel
theorem dX11_hasBasis_17 : decode cX11_hasBasis 17 = .ok (.getfield 10, 3) := by decide +kernel
theorem dX11_hasBasis_20 : decode cX11_hasBasis 20 = .ok (.getfield 111, 3) := by decide +kernel
theorem dX11_hasBasis_23 : decode cX11_hasBasis 23 = .ok (.iload_n 2, 1) := by decide +kernel
theorem dX11_hasBasis_24 : decode cX11_hasBasis 24 = .ok (.aaload, 1) := by decide +kernel
theorem dX11_hasBasis_25 : decode cX11_hasBasis 25 = .ok (.invokevirtual 290, 3) := by decide +kernel
theorem dX11_hasBasis_28 : decode cX11_hasBasis 28 = .ok (.iconst 3, 1) := by decide +kernel
theorem dX11_hasBasis_29 : decode cX11_hasBasis 29 = .ok (.if_icmp .le 5, 3) := by decide +kernel
theorem dX11_hasBasis_32 : decode cX11_hasBasis 32 = .ok (.iconst 0, 1) := by decide +kernel
theorem dX11_hasBasis_33 : decode cX11_hasBasis 33 = .ok (.ireturn, 1) := by decide +kernel
theorem dX11_hasBasis_34 : decode cX11_hasBasis 34 = .ok (.iinc 2 1, 3) := by decide +kernel
theorem dX11_hasBasis_37 : decode cX11_hasBasis 37 = .ok (.goto (-35), 3) := by decide +kernel
theorem dX11_hasBasis_40 : decode cX11_hasBasis 40 = .ok (.iconst 1, 1) := by decide +kernel
theorem dX11_hasBasis_41 : decode cX11_hasBasis 41 = .ok (.ireturn, 1) := by decide +kernel
theorem dX11_isOperator_0 : decode cX11_isOperator 0 = .ok (.iload_n 0, 1) := by decide +kernel
theorem dX11_isOperator_1 : decode cX11_isOperator 1 = .ok (.ifCond .lt 13, 3) := by decide +kernel
theorem dX11_isOperator_4 : decode cX11_isOperator 4 = .ok (.iload_n 0, 1) := by decide +kernel
theorem dX11_isOperator_5 : decode cX11_isOperator 5 = .ok (.bipush 6, 2) := by decide +kernel
theorem dX11_isOperator_7 : decode cX11_isOperator 7 = .ok (.if_icmp .ge 7, 3) := by decide +kernel
theorem dX11_isOperator_10 : decode cX11_isOperator 10 = .ok (.iconst 1, 1) := by decide +kernel
theorem dX11_isOperator_11 : decode cX11_isOperator 11 = .ok (.goto 4, 3) := by decide +kernel
theorem dX11_isOperator_14 : decode cX11_isOperator 14 = .ok (.iconst 0, 1) := by decide +kernel
theorem dX11_isOperator_15 : decode cX11_isOperator 15 = .ok (.ireturn, 1) := by decide +kernel
theorem dX11_isPolynomial_0 : decode cX11_isPolynomial 0 = .ok (.iload_n 0, 1) := by decide +kernel
theorem dX11_isPolynomial_1 : decode cX11_isPolynomial 1 = .ok (.ifCond .lt 12, 3) := by decide +kernel
theorem dX11_isPolynomial_4 : decode cX11_isPolynomial 4 = .ok (.iload_n 0, 1) := by decide +kernel
theorem dX11_isPolynomial_5 : decode cX11_isPolynomial 5 = .ok (.iconst 2, 1) := by decide +kernel
theorem dX11_isPolynomial_6 : decode cX11_isPolynomial 6 = .ok (.if_icmp .ge 7, 3) := by decide +kernel
theorem dX11_isPolynomial_9 : decode cX11_isPolynomial 9 = .ok (.iconst 1, 1) := by decide +kernel
theorem dX11_isPolynomial_10 : decode cX11_isPolynomial 10 = .ok (.goto 4, 3) := by decide +kernel
theorem dX11_isPolynomial_13 : decode cX11_isPolynomial 13 = .ok (.iconst 0, 1) := by decide +kernel
theorem dX11_isPolynomial_14 : decode cX11_isPolynomial 14 = .ok (.ireturn, 1) := by decide +kernel
theorem dX11_isPower_0 : decode cX11_isPower 0 = .ok (.iload_n 0, 1) := by decide +kernel
theorem dX11_isPower_1 : decode cX11_isPower 1 = .ok (.ifCond .lt 13, 3) := by decide +kernel
theorem dX11_isPower_4 : decode cX11_isPower 4 = .ok (.iload_n 0, 1) := by decide +kernel
theorem dX11_isPower_5 : decode cX11_isPower 5 = .ok (.bipush 30, 2) := by decide +kernel
theorem dX11_isPower_7 : decode cX11_isPower 7 = .ok (.if_icmp .gt 7, 3) := by decide +kernel
theorem dX11_isPower_10 : decode cX11_isPower 10 = .ok (.iconst 1, 1) := by decide +kernel
theorem dX11_isPower_11 : decode cX11_isPower 11 = .ok (.goto 4, 3) := by decide +kernel
theorem dX11_isPower_14 : decode cX11_isPower 14 = .ok (.iconst 0, 1) := by decide +kernel
theorem dX11_isPower_15 : decode cX11_isPower 15 = .ok (.ireturn, 1) := by decide +kernel
theorem dX11_isSet_0 : decode cX11_isSet 0 = .ok (.iload_n 0, 1) := by decide +kernel
theorem dX11_isSet_1 : decode cX11_isSet 1 = .ok (.ifCond .le 13, 3) := by decide +kernel
theorem dX11_isSet_4 : decode cX11_isSet 4 = .ok (.iload_n 0, 1) := by decide +kernel
theorem dX11_isSet_5 : decode cX11_isSet 5 = .ok (.bipush 64, 2) := by decide +kernel
theorem dX11_isSet_7 : decode cX11_isSet 7 = .ok (.if_icmp .ge 7, 3) := by decide +kernel
theorem dX11_isSet_10 : decode cX11_isSet 10 = .ok (.iconst 1, 1) := by decide +kernel
theorem dX11_isSet_11 : decode cX11_isSet 11 = .ok (.goto 4, 3) := by decide +kernel
theorem dX11_isSet_14 : decode cX11_isSet 14 = .ok (.iconst 0, 1) := by decide +kernel
theorem dX11_isSet_15 : decode cX11_isSet 15 = .ok (.ireturn, 1) := by decide +kernel
theorem dX11_isInSet_0 : decode cX11_isInSet 0 = .ok (.iload_n 0, 1) := by decide +kernel
theorem dX11_isInSet_1 : decode cX11_isInSet 1 = .ok (.iload_n 1, 1) := by decide +kernel
theorem dX11_isInSet_2 : decode cX11_isInSet 2 = .ok (.ishr, 1) := by decide +kernel
theorem dX11_isInSet_3 : decode cX11_isInSet 3 = .ok (.iconst 1, 1) := by decide +kernel
theorem dX11_isInSet_4 : decode cX11_isInSet 4 = .ok (.iand, 1) := by decide +kernel
theorem dX11_isInSet_5 : decode cX11_isInSet 5 = .ok (.iconst 1, 1) := by decide +kernel
theorem dX11_isInSet_6 : decode cX11_isInSet 6 = .ok (.if_icmp .ne 7, 3) := by decide +kernel
theorem dX11_isInSet_9 : decode cX11_isInSet 9 = .ok (.iconst 1, 1) := by decide +kernel
theorem dX11_isInSet_10 : decode cX11_isInSet 10 = .ok (.goto 4, 3) := by decide +kernel
theorem dX11_isInSet_13 : decode cX11_isInSet 13 = .ok (.iconst 0, 1) := by decide +kernel
theorem dX11_isInSet_14 : decode cX11_isInSet 14 = .ok (.ireturn, 1) := by decide +kernel
theorem dX12_init_0 : decode cX12_init 0 = .ok (.aload_n 0, 1) := by decide +kernel
theorem dX12_init_1 : decode cX12_init 1 = .ok (.invokespecial 1, 3) := by decide +kernel
theorem dX12_init_4 : decode cX12_init 4 = .ok (.aload_n 0, 1) := by decide +kernel
theorem dX12_init_5 : decode cX12_init 5 = .ok (.sipush 609, 3) := by decide +kernel
theorem dX12_init_8 : decode cX12_init 8 = .ok (.newarray .int, 2) := by decide +kernel
theorem dX12_init_10 : decode cX12_init 10 = .ok (.putfield 7, 3) := by decide +kernel
theorem dX12_init_13 : decode cX12_init 13 = .ok (.aload_n 0, 1) := by decide +kernel
theorem dX12_init_14 : decode cX12_init 14 = .ok (.sipush 3045, 3) := by decide +kernel
theorem dX12_init_17 : decode cX12_init 17 = .ok (.newarray .int, 2) := by decide +kernel
theorem dX12_init_19 : decode cX12_init 19 = .ok (.putfield 13, 3) := by decide +kernel
theorem dX12_init_22 : decode cX12_init 22 = .ok (.aload_n 0, 1) := by decide +kernel
theorem dX12_init_23 : decode cX12_init 23 = .ok (.iconst 3, 1) := by decide +kernel
theorem dX12_init_24 : decode cX12_init 24 = .ok (.newarray .int, 2) := by decide +kernel
theorem dX12_init_26 : decode cX12_init 26 = .ok (.putfield 16, 3) := by decide +kernel
theorem dX12_init_29 : decode cX12_init 29 = .ok (.aload_n 0, 1) := by decide +kernel
theorem dX12_init_30 : decode cX12_init 30 = .ok (.bipush 120, 2) := by decide +kernel
theorem dX12_init_32 : decode cX12_init 32 = .ok (.newarray .int, 2) := by decide +kernel
theorem dX12_init_34 : decode cX12_init 34 = .ok (.putfield 19, 3) := by decide +kernel
theorem dX12_init_37 : decode cX12_init 37 = .ok (.aload_n 0, 1) := by decide +kernel
theorem dX12_init_38 : decode cX12_init 38 = .ok (.sipush 22816, 3) := by decide +kernel
theorem dX12_init_41 : decode cX12_init 41 = .ok (.newarray .int, 2) := by decide +kernel
theorem dX12_init_43 : decode cX12_init 43 = .ok (.putfield 22, 3) := by decide +kernel
theorem dX12_init_46 : decode cX12_init 46 = .ok (.aload_n 0, 1) := by decide +kernel
theorem dX12_init_47 : decode cX12_init 47 = .ok (.sipush 496, 3) := by decide +kernel
theorem dX12_init_50 : decode cX12_init 50 = .ok (.newarray .int, 2) := by decide +kernel
theorem dX12_init_52 : decode cX12_init 52 = .ok (.putfield 25, 3) := by decide +kernel
theorem dX12_init_55 : decode cX12_init 55 = .ok (.aload_n 0, 1) := by decide +kernel
theorem dX12_init_56 : decode cX12_init 56 = .ok (.sipush 496, 3) := by decide +kernel
theorem dX12_init_59 : decode cX12_init 59 = .ok (.newarray .int, 2) := by decide +kernel
theorem dX12_init_61 : decode cX12_init 61 = .ok (.putfield 28, 3) := by decide +kernel
theorem dX12_init_64 : decode cX12_init 64 = .ok (.aload_n 0, 1) := by decide +kernel
theorem dX12_init_65 : decode cX12_init 65 = .ok (.sipush 961, 3) := by decide +kernel
theorem dX12_init_68 : decode cX12_init 68 = .ok (.newarray .int, 2) := by decide +kernel
theorem dX12_init_70 : decode cX12_init 70 = .ok (.putfield 31, 3) := by decide +kernel
theorem dX12_init_73 : decode cX12_init 73 = .ok (.aload_n 0, 1) := by decide +kernel
theorem dX12_init_74 : decode cX12_init 74 = .ok (.bipush 31, 2) := by decide +kernel
theorem dX12_init_76 : decode cX12_init 76 = .ok (.newarray .int, 2) := by decide +kernel
theorem dX12_init_78 : decode cX12_init 78 = .ok (.putfield 34, 3) := by decide +kernel
theorem dX12_init_81 : decode cX12_init 81 = .ok (.aload_n 0, 1) := by decide +kernel
theorem dX12_init_82 : decode cX12_init 82 = .ok (.sipush 448, 3) := by decide +kernel
theorem dX12_init_85 : decode cX12_init 85 = .ok (.newarray .int, 2) := by decide +kernel
theorem dX12_init_87 : decode cX12_init 87 = .ok (.putfield 37, 3) := by decide +kernel
theorem dX12_init_90 : decode cX12_init 90 = .ok (.aload_n 0, 1) := by decide +kernel
theorem dX12_init_91 : decode cX12_init 91 = .ok (.bipush 24, 2) := by decide +kernel
theorem dX12_init_93 : decode cX12_init 93 = .ok (.newarray .int, 2) := by decide +kernel
theorem dX12_init_95 : decode cX12_init 95 = .ok (.putfield 40, 3) := by decide +kernel
theorem dX12_init_98 : decode cX12_init 98 = .ok (.aload_n 0, 1) := by decide +kernel
theorem dX12_init_99 : decode cX12_init 99 = .ok (.bipush 24, 2) := by decide +kernel
theorem dX12_init_101 : decode cX12_init 101 = .ok (.newarray .int, 2) := by decide +kernel
theorem dX12_init_103 : decode cX12_init 103 = .ok (.putfield 43, 3) := by decide +kernel
theorem dX12_init_106 : decode cX12_init 106 = .ok (.aload_n 0, 1) := by decide +kernel
theorem dX12_init_107 : decode cX12_init 107 = .ok (.bipush 24, 2) := by decide +kernel
theorem dX12_init_109 : decode cX12_init 109 = .ok (.newarray .int, 2) := by decide +kernel
theorem dX12_init_111 : decode cX12_init 111 = .ok (.putfield 46, 3) := by decide +kernel
theorem dX12_init_114 : decode cX12_init 114 = .ok (.aload_n 0, 1) := by decide +kernel
theorem dX12_init_115 : decode cX12_init 115 = .ok (.bipush 9, 2) := by decide +kernel
theorem dX12_init_117 : decode cX12_init 117 = .ok (.newarray .boolean, 2) := by decide +kernel
theorem dX12_init_119 : decode cX12_init 119 = .ok (.putfield 49, 3) := by decide +kernel
theorem dX12_init_122 : decode cX12_init 122 = .ok (.aload_n 0, 1) := by decide +kernel
theorem dX12_init_123 : decode cX12_init 123 = .ok (.bipush 9, 2) := by decide +kernel
theorem dX12_init_125 : decode cX12_init 125 = .ok (.newarray .boolean, 2) := by decide +kernel
theorem dX12_init_127 : decode cX12_init 127 = .ok (.putfield 53, 3) := by decide +kernel
theorem dX12_init_130 : decode cX12_init 130 = .ok (.aload_n 0, 1) := by decide +kernel
theorem dX12_init_131 : decode cX12_init 131 = .ok (.sipush 1500, 3) := by decide +kernel
theorem dX12_init_134 : decode cX12_init 134 = .ok (.newarray .int, 2) := by decide +kernel
theorem dX12_init_136 : decode cX12_init 136 = .ok (.putfield 56, 3) := by decide +kernel
theorem dX12_init_139 : decode cX12_init 139 = .ok (.iconst 0, 1) := by decide +kernel
theorem dX12_init_140 : decode cX12_init 140 = .ok (.istore_n 1, 1) := by decide +kernel
theorem dX12_init_141 : decode cX12_init 141 = .ok (.iload_n 1, 1) := by decide +kernel
theorem dX12_init_142 : decode cX12_init 142 = .ok (.bipush 30, 2) := by decide +kernel
theorem dX12_init_144 : decode cX12_init 144 = .ok (.if_icmp .gt 102, 3) := by decide +kernel
theorem dX12_init_147 : decode cX12_init 147 = .ok (.iconst 0, 1) := by decide +kernel
theorem dX12_init_148 : decode cX12_init 148 = .ok (.istore_n 2, 1) := by decide +kernel
theorem dX12_init_149 : decode cX12_init 149 = .ok (.iload_n 2, 1) := by decide +kernel
theorem dX12_init_150 : decode cX12_init 150 = .ok (.iload_n 1, 1) := by decide +kernel
theorem dX12_init_151 : decode cX12_init 151 = .ok (.if_icmp .gt 89, 3) := by decide +kernel
theorem dX12_init_154 : decode cX12_init 154 = .ok (.aload_n 0, 1) := by decide +kernel
theorem dX12_init_155 : decode cX12_init 155 = .ok (.getfield 25, 3) := by decide +kernel
theorem dX12_init_158 : decode cX12_init 158 = .ok (.iload_n 1, 1) := by decide +kernel
theorem dX12_init_159 : decode cX12_init 159 = .ok (.iload_n 2, 1) := by decide +kernel
theorem dX12_init_160 : decode cX12_init 160 = .ok (.isub, 1) := by decide +kernel
theorem dX12_init_161 : decode cX12_init 161 = .ok (.iload_n 2, 1) := by decide +kernel
theorem dX12_init_162 : decode cX12_init 162 = .ok (.invokestatic 59, 3) := by decide +kernel
theorem dX12_init_165 : decode cX12_init 165 = .ok (.iload_n 1, 1) := by decide +kernel
theorem dX12_init_166 : decode cX12_init 166 = .ok (.iload_n 2, 1) := by decide +kernel
theorem dX12_init_167 : decode cX12_init 167 = .ok (.isub, 1) := by decide +kernel
theorem dX12_init_168 : decode cX12_init 168 = .ok (.iastore, 1) := by decide +kernel
theorem dX12_init_169 : decode cX12_init 169 = .ok (.aload_n 0, 1) := by decide +kernel
theorem dX12_init_170 : decode cX12_init 170 = .ok (.getfield 28, 3) := by decide +kernel
theorem dX12_init_173 : decode cX12_init 173 = .ok (.iload_n 1, 1) := by decide +kernel
theorem dX12_init_174 : decode cX12_init 174 = .ok (.iload_n 2, 1) := by decide +kernel
theorem dX12_init_175 : decode cX12_init 175 = .ok (.isub, 1) := by decide +kernel
theorem dX12_init_176 : decode cX12_init 176 = .ok (.iload_n 2, 1) := by decide +kernel
theorem dX12_init_177 : decode cX12_init 177 = .ok (.invokestatic 59, 3) := by decide +kernel
theorem dX12_init_180 : decode cX12_init 180 = .ok (.iload_n 2, 1) := by decide +kernel
theorem dX12_init_181 : decode cX12_init 181 = .ok (.iastore, 1) := by decide +kernel
theorem dX12_init_182 : decode cX12_init 182 = .ok (.aload_n 0, 1) := by decide +kernel
theorem dX12_init_183 : decode cX12_init 183 = .ok (.getfield 31, 3) := by decide +kernel
theorem dX12_init_186 : decode cX12_init 186 = .ok (.bipush 31, 2) := by decide +kernel
end
section
theorem dX12_init_188 : decode cX12_init 188 = .ok (.iload_n 1, 1) := by decide +kernel
theorem dX12_init_189 : decode cX12_init 189 = .ok (.imul, 1) := by decide +kernel
theorem dX12_init_190 : decode cX12_init 190 = .ok (.iload_n 2, 1) := by decide +kernel
theorem dX12_init_191 : decode cX12_init 191 = .ok (.iadd, 1) := by decide +kernel
theorem dX12_init_192 : decode cX12_init 192 = .ok (.iload_n 2, 1) := by decide +kernel
theorem dX12_init_193 : decode cX12_init 193 = .ok (.ifCond .ne 7, 3) := by decide +kernel
theorem dX12_init_196 : decode cX12_init 196 = .ok (.iconst 1, 1) := by decide +kernel
theorem dX12_init_197 : decode cX12_init 197 = .ok (.goto 36, 3) := by decide +kernel
theorem dX12_init_200 : decode cX12_init 200 = .ok (.aload_n 0, 1) := by decide +kernel
theorem dX12_init_201 : decode cX12_init 201 = .ok (.getfield 31, 3) := by decide +kernel
theorem dX12_init_204 : decode cX12_init 204 = .ok (.bipush 31, 2) := by decide +kernel
theorem dX12_init_206 : decode cX12_init 206 = .ok (.iload_n 1, 1) := by decide +kernel
theorem dX12_init_207 : decode cX12_init 207 = .ok (.imul, 1) := by decide +kernel
theorem dX12_init_208 : decode cX12_init 208 = .ok (.iload_n 2, 1) := by decide +kernel
theorem dX12_init_209 : decode cX12_init 209 = .ok (.iadd, 1) := by decide +kernel
theorem dX12_init_210 : decode cX12_init 210 = .ok (.bipush 31, 2) := by decide +kernel
theorem dX12_init_212 : decode cX12_init 212 = .ok (.isub, 1) := by decide +kernel
theorem dX12_init_213 : decode cX12_init 213 = .ok (.iaload, 1) := by decide +kernel
theorem dX12_init_214 : decode cX12_init 214 = .ok (.aload_n 0, 1) := by decide +kernel
theorem dX12_init_215 : decode cX12_init 215 = .ok (.getfield 31, 3) := by decide +kernel
theorem dX12_init_218 : decode cX12_init 218 = .ok (.bipush 31, 2) := by decide +kernel
theorem dX12_init_220 : decode cX12_init 220 = .ok (.iload_n 1, 1) := by decide +kernel
theorem dX12_init_221 : decode cX12_init 221 = .ok (.imul, 1) := by decide +kernel
theorem dX12_init_222 : decode cX12_init 222 = .ok (.iload_n 2, 1) := by decide +kernel
theorem dX12_init_223 : decode cX12_init 223 = .ok (.iadd, 1) := by decide +kernel
theorem dX12_init_224 : decode cX12_init 224 = .ok (.bipush 32, 2) := by decide +kernel
theorem dX12_init_226 : decode cX12_init 226 = .ok (.isub, 1) := by decide +kernel
theorem dX12_init_227 : decode cX12_init 227 = .ok (.iaload, 1) := by decide +kernel
theorem dX12_init_228 : decode cX12_init 228 = .ok (.iadd, 1) := by decide +kernel
theorem dX12_init_229 : decode cX12_init 229 = .ok (.sipush 10007, 3) := by decide +kernel
theorem dX12_init_232 : decode cX12_init 232 = .ok (.irem, 1) := by decide +kernel
theorem dX12_init_233 : decode cX12_init 233 = .ok (.iastore, 1) := by decide +kernel
theorem dX12_init_234 : decode cX12_init 234 = .ok (.iinc 2 1, 3) := by decide +kernel
theorem dX12_init_237 : decode cX12_init 237 = .ok (.goto (-88), 3) := by decide +kernel
theorem dX12_init_240 : decode cX12_init 240 = .ok (.iinc 1 1, 3) := by decide +kernel
theorem dX12_init_243 : decode cX12_init 243 = .ok (.goto (-102), 3) := by decide +kernel
theorem dX12_init_246 : decode cX12_init 246 = .ok (.return_, 1) := by decide +kernel
theorem dX12_in_0 : decode cX12_in 0 = .ok (.iload_n 0, 1) := by decide +kernel
theorem dX12_in_1 : decode cX12_in 1 = .ok (.iload_n 1, 1) := by decide +kernel
theorem dX12_in_2 : decode cX12_in 2 = .ok (.if_icmp .lt 12, 3) := by decide +kernel
theorem dX12_in_5 : decode cX12_in 5 = .ok (.iload_n 0, 1) := by decide +kernel
theorem dX12_in_6 : decode cX12_in 6 = .ok (.iload_n 2, 1) := by decide +kernel
theorem dX12_in_7 : decode cX12_in 7 = .ok (.if_icmp .gt 7, 3) := by decide +kernel
theorem dX12_in_10 : decode cX12_in 10 = .ok (.iconst 1, 1) := by decide +kernel
theorem dX12_in_11 : decode cX12_in 11 = .ok (.goto 4, 3) := by decide +kernel
theorem dX12_in_14 : decode cX12_in 14 = .ok (.iconst 0, 1) := by decide +kernel
theorem dX12_in_15 : decode cX12_in 15 = .ok (.ireturn, 1) := by decide +kernel
theorem dX12_wordAt_0 : decode cX12_wordAt 0 = .ok (.iload_n 0, 1) := by decide +kernel
theorem dX12_wordAt_1 : decode cX12_wordAt 1 = .ok (.iload_n 1, 1) := by decide +kernel
theorem dX12_wordAt_2 : decode cX12_wordAt 2 = .ok (.iadd, 1) := by decide +kernel
theorem dX12_wordAt_3 : decode cX12_wordAt 3 = .ok (.iload_n 0, 1) := by decide +kernel
theorem dX12_wordAt_4 : decode cX12_wordAt 4 = .ok (.iload_n 1, 1) := by decide +kernel
theorem dX12_wordAt_5 : decode cX12_wordAt 5 = .ok (.iadd, 1) := by decide +kernel
theorem dX12_wordAt_6 : decode cX12_wordAt 6 = .ok (.iconst 1, 1) := by decide +kernel
theorem dX12_wordAt_7 : decode cX12_wordAt 7 = .ok (.iadd, 1) := by decide +kernel
theorem dX12_wordAt_8 : decode cX12_wordAt 8 = .ok (.imul, 1) := by decide +kernel
theorem dX12_wordAt_9 : decode cX12_wordAt 9 = .ok (.iconst 2, 1) := by decide +kernel
theorem dX12_wordAt_10 : decode cX12_wordAt 10 = .ok (.idiv, 1) := by decide +kernel
theorem dX12_wordAt_11 : decode cX12_wordAt 11 = .ok (.iload_n 1, 1) := by decide +kernel
theorem dX12_wordAt_12 : decode cX12_wordAt 12 = .ok (.iadd, 1) := by decide +kernel
theorem dX12_wordAt_13 : decode cX12_wordAt 13 = .ok (.ireturn, 1) := by decide +kernel
theorem dX12_restOf_0 : decode cX12_restOf 0 = .ok (.iload_n 0, 1) := by decide +kernel
theorem dX12_restOf_1 : decode cX12_restOf 1 = .ok (.sipush 10007, 3) := by decide +kernel
theorem dX12_restOf_4 : decode cX12_restOf 4 = .ok (.irem, 1) := by decide +kernel
theorem dX12_restOf_5 : decode cX12_restOf 5 = .ok (.istore_n 1, 1) := by decide +kernel
theorem dX12_restOf_6 : decode cX12_restOf 6 = .ok (.iload_n 1, 1) := by decide +kernel
theorem dX12_restOf_7 : decode cX12_restOf 7 = .ok (.ifCond .ge 11, 3) := by decide +kernel
theorem dX12_restOf_10 : decode cX12_restOf 10 = .ok (.iload_n 1, 1) := by decide +kernel
theorem dX12_restOf_11 : decode cX12_restOf 11 = .ok (.sipush 10007, 3) := by decide +kernel
theorem dX12_restOf_14 : decode cX12_restOf 14 = .ok (.iadd, 1) := by decide +kernel
theorem dX12_restOf_15 : decode cX12_restOf 15 = .ok (.goto 4, 3) := by decide +kernel
theorem dX12_restOf_18 : decode cX12_restOf 18 = .ok (.iload_n 1, 1) := by decide +kernel
theorem dX12_restOf_19 : decode cX12_restOf 19 = .ok (.ireturn, 1) := by decide +kernel
theorem dX12_tell_0 : decode cX12_tell 0 = .ok (.iload_n 0, 1) := by decide +kernel
theorem dX12_tell_1 : decode cX12_tell 1 = .ok (.sipush 5003, 3) := by decide +kernel
theorem dX12_tell_4 : decode cX12_tell 4 = .ok (.if_icmp .le 11, 3) := by decide +kernel
theorem dX12_tell_7 : decode cX12_tell 7 = .ok (.iload_n 0, 1) := by decide +kernel
theorem dX12_tell_8 : decode cX12_tell 8 = .ok (.sipush 10007, 3) := by decide +kernel
theorem dX12_tell_11 : decode cX12_tell 11 = .ok (.isub, 1) := by decide +kernel
theorem dX12_tell_12 : decode cX12_tell 12 = .ok (.goto 4, 3) := by decide +kernel
theorem dX12_tell_15 : decode cX12_tell 15 = .ok (.iload_n 0, 1) := by decide +kernel
theorem dX12_tell_16 : decode cX12_tell 16 = .ok (.ireturn, 1) := by decide +kernel
theorem dX12_bad_0 : decode cX12_bad 0 = .ok (.aload_n 0, 1) := by decide +kernel
theorem dX12_bad_1 : decode cX12_bad 1 = .ok (.getfield 16, 3) := by decide +kernel
theorem dX12_bad_4 : decode cX12_bad 4 = .ok (.iconst 0, 1) := by decide +kernel
theorem dX12_bad_5 : decode cX12_bad 5 = .ok (.dup2, 1) := by decide +kernel
theorem dX12_bad_6 : decode cX12_bad 6 = .ok (.iaload, 1) := by decide +kernel
theorem dX12_bad_7 : decode cX12_bad 7 = .ok (.iconst 1, 1) := by decide +kernel
theorem dX12_bad_8 : decode cX12_bad 8 = .ok (.iadd, 1) := by decide +kernel
theorem dX12_bad_9 : decode cX12_bad 9 = .ok (.iastore, 1) := by decide +kernel
theorem dX12_bad_10 : decode cX12_bad 10 = .ok (.sipush (-20002), 3) := by decide +kernel
theorem dX12_bad_13 : decode cX12_bad 13 = .ok (.ireturn, 1) := by decide +kernel
theorem dX12_no_0 : decode cX12_no 0 = .ok (.aload_n 0, 1) := by decide +kernel
theorem dX12_no_1 : decode cX12_no 1 = .ok (.getfield 16, 3) := by decide +kernel
theorem dX12_no_4 : decode cX12_no 4 = .ok (.iconst 1, 1) := by decide +kernel
theorem dX12_no_5 : decode cX12_no 5 = .ok (.dup2, 1) := by decide +kernel
theorem dX12_no_6 : decode cX12_no 6 = .ok (.iaload, 1) := by decide +kernel
theorem dX12_no_7 : decode cX12_no 7 = .ok (.iconst 1, 1) := by decide +kernel
theorem dX12_no_8 : decode cX12_no 8 = .ok (.iadd, 1) := by decide +kernel
theorem dX12_no_9 : decode cX12_no 9 = .ok (.iastore, 1) := by decide +kernel
theorem dX12_no_10 : decode cX12_no 10 = .ok (.sipush (-20003), 3) := by decide +kernel
theorem dX12_no_13 : decode cX12_no 13 = .ok (.ireturn, 1) := by decide +kernel
theorem dX12_full_0 : decode cX12_full 0 = .ok (.aload_n 0, 1) := by decide +kernel
theorem dX12_full_1 : decode cX12_full 1 = .ok (.getfield 16, 3) := by decide +kernel
theorem dX12_full_4 : decode cX12_full 4 = .ok (.iconst 2, 1) := by decide +kernel
theorem dX12_full_5 : decode cX12_full 5 = .ok (.dup2, 1) := by decide +kernel
theorem dX12_full_6 : decode cX12_full 6 = .ok (.iaload, 1) := by decide +kernel
theorem dX12_full_7 : decode cX12_full 7 = .ok (.iconst 1, 1) := by decide +kernel
theorem dX12_full_8 : decode cX12_full 8 = .ok (.iadd, 1) := by decide +kernel
theorem dX12_full_9 : decode cX12_full 9 = .ok (.iastore, 1) := by decide +kernel
theorem dX12_full_10 : decode cX12_full 10 = .ok (.sipush (-20004), 3) := by decide +kernel
theorem dX12_full_13 : decode cX12_full 13 = .ok (.ireturn, 1) := by decide +kernel
theorem dX12_remembers_0 : decode cX12_remembers 0 = .ok (.aload_n 0, 1) := by decide +kernel
theorem dX12_remembers_1 : decode cX12_remembers 1 = .ok (.iconst 0, 1) := by decide +kernel
theorem dX12_remembers_2 : decode cX12_remembers 2 = .ok (.putfield 63, 3) := by decide +kernel
theorem dX12_remembers_5 : decode cX12_remembers 5 = .ok (.aload_n 0, 1) := by decide +kernel
theorem dX12_remembers_6 : decode cX12_remembers 6 = .ok (.getfield 67, 3) := by decide +kernel
theorem dX12_remembers_9 : decode cX12_remembers 9 = .ok (.iconst 5, 1) := by decide +kernel
theorem dX12_remembers_10 : decode cX12_remembers 10 = .ok (.if_icmp .ne 44, 3) := by decide +kernel
theorem dX12_remembers_13 : decode cX12_remembers 13 = .ok (.iconst 0, 1) := by decide +kernel
theorem dX12_remembers_14 : decode cX12_remembers 14 = .ok (.istore_n 1, 1) := by decide +kernel
theorem dX12_remembers_15 : decode cX12_remembers 15 = .ok (.iload_n 1, 1) := by decide +kernel
theorem dX12_remembers_16 : decode cX12_remembers 16 = .ok (.sipush 2436, 3) := by decide +kernel
theorem dX12_remembers_19 : decode cX12_remembers 19 = .ok (.if_icmp .ge 25, 3) := by decide +kernel
theorem dX12_remembers_22 : decode cX12_remembers 22 = .ok (.aload_n 0, 1) := by decide +kernel
theorem dX12_remembers_23 : decode cX12_remembers 23 = .ok (.getfield 13, 3) := by decide +kernel
theorem dX12_remembers_26 : decode cX12_remembers 26 = .ok (.iload_n 1, 1) := by decide +kernel
theorem dX12_remembers_27 : decode cX12_remembers 27 = .ok (.aload_n 0, 1) := by decide +kernel
theorem dX12_remembers_28 : decode cX12_remembers 28 = .ok (.getfield 13, 3) := by decide +kernel
theorem dX12_remembers_31 : decode cX12_remembers 31 = .ok (.iload_n 1, 1) := by decide +kernel
theorem dX12_remembers_32 : decode cX12_remembers 32 = .ok (.sipush 609, 3) := by decide +kernel
theorem dX12_remembers_35 : decode cX12_remembers 35 = .ok (.iadd, 1) := by decide +kernel
theorem dX12_remembers_36 : decode cX12_remembers 36 = .ok (.iaload, 1) := by decide +kernel
theorem dX12_remembers_37 : decode cX12_remembers 37 = .ok (.iastore, 1) := by decide +kernel
theorem dX12_remembers_38 : decode cX12_remembers 38 = .ok (.iinc 1 1, 3) := by decide +kernel
theorem dX12_remembers_41 : decode cX12_remembers 41 = .ok (.goto (-26), 3) := by decide +kernel
theorem dX12_remembers_44 : decode cX12_remembers 44 = .ok (.aload_n 0, 1) := by decide +kernel
theorem dX12_remembers_45 : decode cX12_remembers 45 = .ok (.dup, 1) := by decide +kernel
theorem dX12_remembers_46 : decode cX12_remembers 46 = .ok (.getfield 67, 3) := by decide +kernel
theorem dX12_remembers_49 : decode cX12_remembers 49 = .ok (.iconst 1, 1) := by decide +kernel
theorem dX12_remembers_50 : decode cX12_remembers 50 = .ok (.isub, 1) := by decide +kernel
theorem dX12_remembers_51 : decode cX12_remembers 51 = .ok (.putfield 67, 3) := by decide +kernel
theorem dX12_remembers_54 : decode cX12_remembers 54 = .ok (.iconst 0, 1) := by decide +kernel
theorem dX12_remembers_55 : decode cX12_remembers 55 = .ok (.istore_n 1, 1) := by decide +kernel
theorem dX12_remembers_56 : decode cX12_remembers 56 = .ok (.iload_n 1, 1) := by decide +kernel
theorem dX12_remembers_57 : decode cX12_remembers 57 = .ok (.sipush 609, 3) := by decide +kernel
theorem dX12_remembers_60 : decode cX12_remembers 60 = .ok (.if_icmp .ge 30, 3) := by decide +kernel
theorem dX12_remembers_63 : decode cX12_remembers 63 = .ok (.aload_n 0, 1) := by decide +kernel
theorem dX12_remembers_64 : decode cX12_remembers 64 = .ok (.getfield 13, 3) := by decide +kernel
theorem dX12_remembers_67 : decode cX12_remembers 67 = .ok (.sipush 609, 3) := by decide +kernel
theorem dX12_remembers_70 : decode cX12_remembers 70 = .ok (.aload_n 0, 1) := by decide +kernel
theorem dX12_remembers_71 : decode cX12_remembers 71 = .ok (.getfield 67, 3) := by decide +kernel
theorem dX12_remembers_74 : decode cX12_remembers 74 = .ok (.imul, 1) := by decide +kernel
theorem dX12_remembers_75 : decode cX12_remembers 75 = .ok (.iload_n 1, 1) := by decide +kernel
theorem dX12_remembers_76 : decode cX12_remembers 76 = .ok (.iadd, 1) := by decide +kernel
theorem dX12_remembers_77 : decode cX12_remembers 77 = .ok (.aload_n 0, 1) := by decide +kernel
theorem dX12_remembers_78 : decode cX12_remembers 78 = .ok (.getfield 7, 3) := by decide +kernel
theorem dX12_remembers_81 : decode cX12_remembers 81 = .ok (.iload_n 1, 1) := by decide +kernel
theorem dX12_remembers_82 : decode cX12_remembers 82 = .ok (.iaload, 1) := by decide +kernel
theorem dX12_remembers_83 : decode cX12_remembers 83 = .ok (.iastore, 1) := by decide +kernel
theorem dX12_remembers_84 : decode cX12_remembers 84 = .ok (.iinc 1 1, 3) := by decide +kernel
theorem dX12_remembers_87 : decode cX12_remembers 87 = .ok (.goto (-31), 3) := by decide +kernel
theorem dX12_remembers_90 : decode cX12_remembers 90 = .ok (.aload_n 0, 1) := by decide +kernel
theorem dX12_remembers_91 : decode cX12_remembers 91 = .ok (.dup, 1) := by decide +kernel
theorem dX12_remembers_92 : decode cX12_remembers 92 = .ok (.getfield 67, 3) := by decide +kernel
theorem dX12_remembers_95 : decode cX12_remembers 95 = .ok (.iconst 1, 1) := by decide +kernel
theorem dX12_remembers_96 : decode cX12_remembers 96 = .ok (.iadd, 1) := by decide +kernel
theorem dX12_remembers_97 : decode cX12_remembers 97 = .ok (.putfield 67, 3) := by decide +kernel
theorem dX12_remembers_100 : decode cX12_remembers 100 = .ok (.return_, 1) := by decide +kernel
theorem dX12_back_0 : decode cX12_back 0 = .ok (.aload_n 0, 1) := by decide +kernel
theorem dX12_back_1 : decode cX12_back 1 = .ok (.getfield 67, 3) := by decide +kernel
theorem dX12_back_4 : decode cX12_back 4 = .ok (.ifCond .ne 8, 3) := by decide +kernel
theorem dX12_back_7 : decode cX12_back 7 = .ok (.aload_n 0, 1) := by decide +kernel
theorem dX12_back_8 : decode cX12_back 8 = .ok (.invokevirtual 70, 3) := by decide +kernel
theorem dX12_back_11 : decode cX12_back 11 = .ok (.ireturn, 1) := by decide +kernel
theorem dX12_back_12 : decode cX12_back 12 = .ok (.aload_n 0, 1) := by decide +kernel
theorem dX12_back_13 : decode cX12_back 13 = .ok (.dup, 1) := by decide +kernel
theorem dX12_back_14 : decode cX12_back 14 = .ok (.getfield 67, 3) := by decide +kernel
theorem dX12_back_17 : decode cX12_back 17 = .ok (.iconst 1, 1) := by decide +kernel
theorem dX12_back_18 : decode cX12_back 18 = .ok (.isub, 1) := by decide +kernel
theorem dX12_back_19 : decode cX12_back 19 = .ok (.putfield 67, 3) := by decide +kernel
theorem dX12_back_22 : decode cX12_back 22 = .ok (.aload_n 0, 1) := by decide +kernel
theorem dX12_back_23 : decode cX12_back 23 = .ok (.iconst 0, 1) := by decide +kernel
theorem dX12_back_24 : decode cX12_back 24 = .ok (.putfield 63, 3) := by decide +kernel
theorem dX12_back_27 : decode cX12_back 27 = .ok (.iconst 0, 1) := by decide +kernel
theorem dX12_back_28 : decode cX12_back 28 = .ok (.istore_n 1, 1) := by decide +kernel
theorem dX12_back_29 : decode cX12_back 29 = .ok (.iload_n 1, 1) := by decide +kernel
theorem dX12_back_30 : decode cX12_back 30 = .ok (.sipush 609, 3) := by decide +kernel
theorem dX12_back_33 : decode cX12_back 33 = .ok (.if_icmp .ge 30, 3) := by decide +kernel
theorem dX12_back_36 : decode cX12_back 36 = .ok (.aload_n 0, 1) := by decide +kernel
theorem dX12_back_37 : decode cX12_back 37 = .ok (.getfield 7, 3) := by decide +kernel
theorem dX12_back_40 : decode cX12_back 40 = .ok (.iload_n 1, 1) := by decide +kernel
theorem dX12_back_41 : decode cX12_back 41 = .ok (.aload_n 0, 1) := by decide +kernel
theorem dX12_back_42 : decode cX12_back 42 = .ok (.getfield 13, 3) := by decide +kernel
theorem dX12_back_45 : decode cX12_back 45 = .ok (.sipush 609, 3) := by decide +kernel
theorem dX12_back_48 : decode cX12_back 48 = .ok (.aload_n 0, 1) := by decide +kernel
theorem dX12_back_49 : decode cX12_back 49 = .ok (.getfield 67, 3) := by decide +kernel
theorem dX12_back_52 : decode cX12_back 52 = .ok (.imul, 1) := by decide +kernel
theorem dX12_back_53 : decode cX12_back 53 = .ok (.iload_n 1, 1) := by decide +kernel
theorem dX12_back_54 : decode cX12_back 54 = .ok (.iadd, 1) := by decide +kernel
theorem dX12_back_55 : decode cX12_back 55 = .ok (.iaload, 1) := by decide +kernel
theorem dX12_back_56 : decode cX12_back 56 = .ok (.iastore, 1) := by decide +kernel
theorem dX12_back_57 : decode cX12_back 57 = .ok (.iinc 1 1, 3) := by decide +kernel
theorem dX12_back_60 : decode cX12_back 60 = .ok (.goto (-31), 3) := by decide +kernel
theorem dX12_back_63 : decode cX12_back 63 = .ok (.aload_n 0, 1) := by decide +kernel
theorem dX12_back_64 : decode cX12_back 64 = .ok (.getfield 67, 3) := by decide +kernel
theorem dX12_back_67 : decode cX12_back 67 = .ok (.ireturn, 1) := by decide +kernel
theorem dX12_isOperator_0 : decode cX12_isOperator 0 = .ok (.iload_n 0, 1) := by decide +kernel
theorem dX12_isOperator_1 : decode cX12_isOperator 1 = .ok (.iconst 0, 1) := by decide +kernel
theorem dX12_isOperator_2 : decode cX12_isOperator 2 = .ok (.iconst 5, 1) := by decide +kernel
theorem dX12_isOperator_3 : decode cX12_isOperator 3 = .ok (.invokestatic 74, 3) := by decide +kernel
theorem dX12_isOperator_6 : decode cX12_isOperator 6 = .ok (.ireturn, 1) := by decide +kernel
theorem dX12_isWord_0 : decode cX12_isWord 0 = .ok (.iload_n 0, 1) := by decide +kernel
theorem dX12_isWord_1 : decode cX12_isWord 1 = .ok (.iconst 0, 1) := by decide +kernel
theorem dX12_isWord_2 : decode cX12_isWord 2 = .ok (.bipush 12, 2) := by decide +kernel
theorem dX12_isWord_4 : decode cX12_isWord 4 = .ok (.invokestatic 74, 3) := by decide +kernel
theorem dX12_isWord_7 : decode cX12_isWord 7 = .ok (.ifCond .eq 19, 3) := by decide +kernel
theorem dX12_isWord_10 : decode cX12_isWord 10 = .ok (.iload_n 1, 1) := by decide +kernel
theorem dX12_isWord_11 : decode cX12_isWord 11 = .ok (.iconst 0, 1) := by decide +kernel
theorem dX12_isWord_12 : decode cX12_isWord 12 = .ok (.bipush 12, 2) := by decide +kernel
theorem dX12_isWord_14 : decode cX12_isWord 14 = .ok (.iload_n 0, 1) := by decide +kernel
theorem dX12_isWord_15 : decode cX12_isWord 15 = .ok (.isub, 1) := by decide +kernel
theorem dX12_isWord_16 : decode cX12_isWord 16 = .ok (.invokestatic 74, 3) := by decide +kernel
theorem dX12_isWord_19 : decode cX12_isWord 19 = .ok (.ifCond .eq 7, 3) := by decide +kernel
theorem dX12_isWord_22 : decode cX12_isWord 22 = .ok (.iconst 1, 1) := by decide +kernel
theorem dX12_isWord_23 : decode cX12_isWord 23 = .ok (.goto 4, 3) := by decide +kernel
theorem dX12_isWord_26 : decode cX12_isWord 26 = .ok (.iconst 0, 1) := by decide +kernel
theorem dX12_isWord_27 : decode cX12_isWord 27 = .ok (.ireturn, 1) := by decide +kernel
theorem dX12_wipe_0 : decode cX12_wipe 0 = .ok (.iconst 0, 1) := by decide +kernel
theorem dX12_wipe_1 : decode cX12_wipe 1 = .ok (.istore_n 2, 1) := by decide +kernel
theorem dX12_wipe_2 : decode cX12_wipe 2 = .ok (.iload_n 2, 1) := by decide +kernel
theorem dX12_wipe_3 : decode cX12_wipe 3 = .ok (.sipush 496, 3) := by decide +kernel
theorem dX12_wipe_6 : decode cX12_wipe 6 = .ok (.if_icmp .ge 22, 3) := by decide +kernel
theorem dX12_wipe_9 : decode cX12_wipe 9 = .ok (.aload_n 0, 1) := by decide +kernel
theorem dX12_wipe_10 : decode cX12_wipe 10 = .ok (.getfield 22, 3) := by decide +kernel
theorem dX12_wipe_13 : decode cX12_wipe 13 = .ok (.sipush 496, 3) := by decide +kernel
theorem dX12_wipe_16 : decode cX12_wipe 16 = .ok (.iload_n 1, 1) := by decide +kernel
theorem dX12_wipe_17 : decode cX12_wipe 17 = .ok (.imul, 1) := by decide +kernel
theorem dX12_wipe_18 : decode cX12_wipe 18 = .ok (.iload_n 2, 1) := by decide +kernel
theorem dX12_wipe_19 : decode cX12_wipe 19 = .ok (.iadd, 1) := by decide +kernel
theorem dX12_wipe_20 : decode cX12_wipe 20 = .ok (.iconst 0, 1) := by decide +kernel
theorem dX12_wipe_21 : decode cX12_wipe 21 = .ok (.iastore, 1) := by decide +kernel
theorem dX12_wipe_22 : decode cX12_wipe 22 = .ok (.iinc 2 1, 3) := by decide +kernel
theorem dX12_wipe_25 : decode cX12_wipe 25 = .ok (.goto (-23), 3) := by decide +kernel
theorem dX12_wipe_28 : decode cX12_wipe 28 = .ok (.return_, 1) := by decide +kernel
theorem dX12_copies_0 : decode cX12_copies 0 = .ok (.iconst 0, 1) := by decide +kernel
theorem dX12_copies_1 : decode cX12_copies 1 = .ok (.istore_n 3, 1) := by decide +kernel
theorem dX12_copies_2 : decode cX12_copies 2 = .ok (.iload_n 3, 1) := by decide +kernel
theorem dX12_copies_3 : decode cX12_copies 3 = .ok (.sipush 496, 3) := by decide +kernel
theorem dX12_copies_6 : decode cX12_copies 6 = .ok (.if_icmp .ge 33, 3) := by decide +kernel
theorem dX12_copies_9 : decode cX12_copies 9 = .ok (.aload_n 0, 1) := by decide +kernel
theorem dX12_copies_10 : decode cX12_copies 10 = .ok (.getfield 22, 3) := by decide +kernel
theorem dX12_copies_13 : decode cX12_copies 13 = .ok (.sipush 496, 3) := by decide +kernel
theorem dX12_copies_16 : decode cX12_copies 16 = .ok (.iload_n 2, 1) := by decide +kernel
theorem dX12_copies_17 : decode cX12_copies 17 = .ok (.imul, 1) := by decide +kernel
theorem dX12_copies_18 : decode cX12_copies 18 = .ok (.iload_n 3, 1) := by decide +kernel
theorem dX12_copies_19 : decode cX12_copies 19 = .ok (.iadd, 1) := by decide +kernel
theorem dX12_copies_20 : decode cX12_copies 20 = .ok (.aload_n 0, 1) := by decide +kernel
theorem dX12_copies_21 : decode cX12_copies 21 = .ok (.getfield 22, 3) := by decide +kernel
theorem dX12_copies_24 : decode cX12_copies 24 = .ok (.sipush 496, 3) := by decide +kernel
theorem dX12_copies_27 : decode cX12_copies 27 = .ok (.iload_n 1, 1) := by decide +kernel
theorem dX12_copies_28 : decode cX12_copies 28 = .ok (.imul, 1) := by decide +kernel
theorem dX12_copies_29 : decode cX12_copies 29 = .ok (.iload_n 3, 1) := by decide +kernel
theorem dX12_copies_30 : decode cX12_copies 30 = .ok (.iadd, 1) := by decide +kernel
theorem dX12_copies_31 : decode cX12_copies 31 = .ok (.iaload, 1) := by decide +kernel
theorem dX12_copies_32 : decode cX12_copies 32 = .ok (.iastore, 1) := by decide +kernel
theorem dX12_copies_33 : decode cX12_copies 33 = .ok (.iinc 3 1, 3) := by decide +kernel
theorem dX12_copies_36 : decode cX12_copies 36 = .ok (.goto (-34), 3) := by decide +kernel
theorem dX12_copies_39 : decode cX12_copies 39 = .ok (.return_, 1) := by decide +kernel
theorem dX12_fetches_0 : decode cX12_fetches 0 = .ok (.aload_n 0, 1) := by decide +kernel
theorem dX12_fetches_1 : decode cX12_fetches 1 = .ok (.iload_n 2, 1) := by decide +kernel
theorem dX12_fetches_2 : decode cX12_fetches 2 = .ok (.invokevirtual 78, 3) := by decide +kernel
theorem dX12_fetches_5 : decode cX12_fetches 5 = .ok (.iconst 0, 1) := by decide +kernel
theorem dX12_fetches_6 : decode cX12_fetches 6 = .ok (.istore_n 3, 1) := by decide +kernel
theorem dX12_fetches_7 : decode cX12_fetches 7 = .ok (.iload_n 3, 1) := by decide +kernel
theorem dX12_fetches_8 : decode cX12_fetches 8 = .ok (.bipush 91, 2) := by decide +kernel
theorem dX12_fetches_10 : decode cX12_fetches 10 = .ok (.if_icmp .ge 32, 3) := by decide +kernel
theorem dX12_fetches_13 : decode cX12_fetches 13 = .ok (.aload_n 0, 1) := by decide +kernel
theorem dX12_fetches_14 : decode cX12_fetches 14 = .ok (.getfield 22, 3) := by decide +kernel
theorem dX12_fetches_17 : decode cX12_fetches 17 = .ok (.sipush 496, 3) := by decide +kernel
theorem dX12_fetches_20 : decode cX12_fetches 20 = .ok (.iload_n 2, 1) := by decide +kernel
theorem dX12_fetches_21 : decode cX12_fetches 21 = .ok (.imul, 1) := by decide +kernel
theorem dX12_fetches_22 : decode cX12_fetches 22 = .ok (.iload_n 3, 1) := by decide +kernel
theorem dX12_fetches_23 : decode cX12_fetches 23 = .ok (.iadd, 1) := by decide +kernel
theorem dX12_fetches_24 : decode cX12_fetches 24 = .ok (.aload_n 0, 1) := by decide +kernel
theorem dX12_fetches_25 : decode cX12_fetches 25 = .ok (.getfield 7, 3) := by decide +kernel
theorem dX12_fetches_28 : decode cX12_fetches 28 = .ok (.bipush 91, 2) := by decide +kernel
theorem dX12_fetches_30 : decode cX12_fetches 30 = .ok (.iload_n 1, 1) := by decide +kernel
theorem dX12_fetches_31 : decode cX12_fetches 31 = .ok (.imul, 1) := by decide +kernel
theorem dX12_fetches_32 : decode cX12_fetches 32 = .ok (.iload_n 3, 1) := by decide +kernel
theorem dX12_fetches_33 : decode cX12_fetches 33 = .ok (.iadd, 1) := by decide +kernel
theorem dX12_fetches_34 : decode cX12_fetches 34 = .ok (.iaload, 1) := by decide +kernel
theorem dX12_fetches_35 : decode cX12_fetches 35 = .ok (.iastore, 1) := by decide +kernel
theorem dX12_fetches_36 : decode cX12_fetches 36 = .ok (.iinc 3 1, 3) := by decide +kernel
theorem dX12_fetches_39 : decode cX12_fetches 39 = .ok (.goto (-32), 3) := by decide +kernel
theorem dX12_fetches_42 : decode cX12_fetches 42 = .ok (.return_, 1) := by decide +kernel
theorem dX12_termsIn_0 : decode cX12_termsIn 0 = .ok (.iconst 0, 1) := by decide +kernel
theorem dX12_termsIn_1 : decode cX12_termsIn 1 = .ok (.istore_n 2, 1) := by decide +kernel
theorem dX12_termsIn_2 : decode cX12_termsIn 2 = .ok (.iconst 0, 1) := by decide +kernel
theorem dX12_termsIn_3 : decode cX12_termsIn 3 = .ok (.istore_n 3, 1) := by decide +kernel
theorem dX12_termsIn_4 : decode cX12_termsIn 4 = .ok (.iload_n 3, 1) := by decide +kernel
theorem dX12_termsIn_5 : decode cX12_termsIn 5 = .ok (.sipush 496, 3) := by decide +kernel
theorem dX12_termsIn_8 : decode cX12_termsIn 8 = .ok (.if_icmp .ge 32, 3) := by decide +kernel
theorem dX12_termsIn_11 : decode cX12_termsIn 11 = .ok (.iload_n 2, 1) := by decide +kernel
theorem dX12_termsIn_12 : decode cX12_termsIn 12 = .ok (.aload_n 0, 1) := by decide +kernel
theorem dX12_termsIn_13 : decode cX12_termsIn 13 = .ok (.getfield 22, 3) := by decide +kernel
theorem dX12_termsIn_16 : decode cX12_termsIn 16 = .ok (.sipush 496, 3) := by decide +kernel
theorem dX12_termsIn_19 : decode cX12_termsIn 19 = .ok (.iload_n 1, 1) := by decide +kernel
theorem dX12_termsIn_20 : decode cX12_termsIn 20 = .ok (.imul, 1) := by decide +kernel
theorem dX12_termsIn_21 : decode cX12_termsIn 21 = .ok (.iload_n 3, 1) := by decide +kernel
theorem dX12_termsIn_22 : decode cX12_termsIn 22 = .ok (.iadd, 1) := by decide +kernel
theorem dX12_termsIn_23 : decode cX12_termsIn 23 = .ok (.iaload, 1) := by decide +kernel
theorem dX12_termsIn_24 : decode cX12_termsIn 24 = .ok (.ifCond .ne 7, 3) := by decide +kernel
theorem dX12_termsIn_27 : decode cX12_termsIn 27 = .ok (.iconst 0, 1) := by decide +kernel
theorem dX12_termsIn_28 : decode cX12_termsIn 28 = .ok (.goto 4, 3) := by decide +kernel
theorem dX12_termsIn_31 : decode cX12_termsIn 31 = .ok (.iconst 1, 1) := by decide +kernel
theorem dX12_termsIn_32 : decode cX12_termsIn 32 = .ok (.iadd, 1) := by decide +kernel
theorem dX12_termsIn_33 : decode cX12_termsIn 33 = .ok (.istore_n 2, 1) := by decide +kernel
theorem dX12_termsIn_34 : decode cX12_termsIn 34 = .ok (.iinc 3 1, 3) := by decide +kernel
theorem dX12_termsIn_37 : decode cX12_termsIn 37 = .ok (.goto (-33), 3) := by decide +kernel
theorem dX12_termsIn_40 : decode cX12_termsIn 40 = .ok (.iload_n 2, 1) := by decide +kernel
theorem dX12_termsIn_41 : decode cX12_termsIn 41 = .ok (.ireturn, 1) := by decide +kernel
theorem dX12_keeps_0 : decode cX12_keeps 0 = .ok (.aload_n 0, 1) := by decide +kernel
theorem dX12_keeps_1 : decode cX12_keeps 1 = .ok (.invokevirtual 82, 3) := by decide +kernel
theorem dX12_keeps_4 : decode cX12_keeps 4 = .ok (.iconst 0, 1) := by decide +kernel
theorem dX12_keeps_5 : decode cX12_keeps 5 = .ok (.istore_n 3, 1) := by decide +kernel
theorem dX12_keeps_6 : decode cX12_keeps 6 = .ok (.iload_n 3, 1) := by decide +kernel
theorem dX12_keeps_7 : decode cX12_keeps 7 = .ok (.bipush 91, 2) := by decide +kernel
theorem dX12_keeps_9 : decode cX12_keeps 9 = .ok (.if_icmp .ge 32, 3) := by decide +kernel
theorem dX12_keeps_12 : decode cX12_keeps 12 = .ok (.aload_n 0, 1) := by decide +kernel
theorem dX12_keeps_13 : decode cX12_keeps 13 = .ok (.getfield 7, 3) := by decide +kernel
theorem dX12_keeps_16 : decode cX12_keeps 16 = .ok (.bipush 91, 2) := by decide +kernel
theorem dX12_keeps_18 : decode cX12_keeps 18 = .ok (.iload_n 1, 1) := by decide +kernel
theorem dX12_keeps_19 : decode cX12_keeps 19 = .ok (.imul, 1) := by decide +kernel
theorem dX12_keeps_20 : decode cX12_keeps 20 = .ok (.iload_n 3, 1) := by decide +kernel
theorem dX12_keeps_21 : decode cX12_keeps 21 = .ok (.iadd, 1) := by decide +kernel
theorem dX12_keeps_22 : decode cX12_keeps 22 = .ok (.aload_n 0, 1) := by decide +kernel
theorem dX12_keeps_23 : decode cX12_keeps 23 = .ok (.getfield 22, 3) := by decide +kernel
theorem dX12_keeps_26 : decode cX12_keeps 26 = .ok (.sipush 496, 3) := by decide +kernel
theorem dX12_keeps_29 : decode cX12_keeps 29 = .ok (.iload_n 2, 1) := by decide +kernel
theorem dX12_keeps_30 : decode cX12_keeps 30 = .ok (.imul, 1) := by decide +kernel
theorem dX12_keeps_31 : decode cX12_keeps 31 = .ok (.iload_n 3, 1) := by decide +kernel
theorem dX12_keeps_32 : decode cX12_keeps 32 = .ok (.iadd, 1) := by decide +kernel
theorem dX12_keeps_33 : decode cX12_keeps 33 = .ok (.iaload, 1) := by decide +kernel
theorem dX12_keeps_34 : decode cX12_keeps 34 = .ok (.iastore, 1) := by decide +kernel
theorem dX12_keeps_35 : decode cX12_keeps 35 = .ok (.iinc 3 1, 3) := by decide +kernel
theorem dX12_keeps_38 : decode cX12_keeps 38 = .ok (.goto (-32), 3) := by decide +kernel
theorem dX12_keeps_41 : decode cX12_keeps 41 = .ok (.aload_n 0, 1) := by decide +kernel
theorem dX12_keeps_42 : decode cX12_keeps 42 = .ok (.iload_n 2, 1) := by decide +kernel
theorem dX12_keeps_43 : decode cX12_keeps 43 = .ok (.invokevirtual 85, 3) := by decide +kernel
theorem dX12_keeps_46 : decode cX12_keeps 46 = .ok (.ireturn, 1) := by decide +kernel
theorem dX12_degreeIn_0 : decode cX12_degreeIn 0 = .ok (.sipush 495, 3) := by decide +kernel
theorem dX12_degreeIn_3 : decode cX12_degreeIn 3 = .ok (.istore_n 2, 1) := by decide +kernel
theorem dX12_degreeIn_4 : decode cX12_degreeIn 4 = .ok (.iload_n 2, 1) := by decide +kernel
theorem dX12_degreeIn_5 : decode cX12_degreeIn 5 = .ok (.ifCond .lt 24, 3) := by decide +kernel
theorem dX12_degreeIn_8 : decode cX12_degreeIn 8 = .ok (.aload_n 0, 1) := by decide +kernel
theorem dX12_degreeIn_9 : decode cX12_degreeIn 9 = .ok (.getfield 22, 3) := by decide +kernel
theorem dX12_degreeIn_12 : decode cX12_degreeIn 12 = .ok (.sipush 496, 3) := by decide +kernel
theorem dX12_degreeIn_15 : decode cX12_degreeIn 15 = .ok (.iload_n 1, 1) := by decide +kernel
theorem dX12_degreeIn_16 : decode cX12_degreeIn 16 = .ok (.imul, 1) := by decide +kernel
theorem dX12_degreeIn_17 : decode cX12_degreeIn 17 = .ok (.iload_n 2, 1) := by decide +kernel
theorem dX12_degreeIn_18 : decode cX12_degreeIn 18 = .ok (.iadd, 1) := by decide +kernel
theorem dX12_degreeIn_19 : decode cX12_degreeIn 19 = .ok (.iaload, 1) := by decide +kernel
theorem dX12_degreeIn_20 : decode cX12_degreeIn 20 = .ok (.ifCond .ne 9, 3) := by decide +kernel
theorem dX12_degreeIn_23 : decode cX12_degreeIn 23 = .ok (.iinc 2 (-1), 3) := by decide +kernel
theorem dX12_degreeIn_26 : decode cX12_degreeIn 26 = .ok (.goto (-22), 3) := by decide +kernel
theorem dX12_degreeIn_29 : decode cX12_degreeIn 29 = .ok (.iload_n 2, 1) := by decide +kernel
theorem dX12_degreeIn_30 : decode cX12_degreeIn 30 = .ok (.ifCond .ge 7, 3) := by decide +kernel
theorem dX12_degreeIn_33 : decode cX12_degreeIn 33 = .ok (.iconst (-1), 1) := by decide +kernel
theorem dX12_degreeIn_34 : decode cX12_degreeIn 34 = .ok (.goto 16, 3) := by decide +kernel
theorem dX12_degreeIn_37 : decode cX12_degreeIn 37 = .ok (.aload_n 0, 1) := by decide +kernel
theorem dX12_degreeIn_38 : decode cX12_degreeIn 38 = .ok (.getfield 25, 3) := by decide +kernel
theorem dX12_degreeIn_41 : decode cX12_degreeIn 41 = .ok (.iload_n 2, 1) := by decide +kernel
theorem dX12_degreeIn_42 : decode cX12_degreeIn 42 = .ok (.iaload, 1) := by decide +kernel
theorem dX12_degreeIn_43 : decode cX12_degreeIn 43 = .ok (.aload_n 0, 1) := by decide +kernel
theorem dX12_degreeIn_44 : decode cX12_degreeIn 44 = .ok (.getfield 28, 3) := by decide +kernel
theorem dX12_degreeIn_47 : decode cX12_degreeIn 47 = .ok (.iload_n 2, 1) := by decide +kernel
theorem dX12_degreeIn_48 : decode cX12_degreeIn 48 = .ok (.iaload, 1) := by decide +kernel
theorem dX12_degreeIn_49 : decode cX12_degreeIn 49 = .ok (.iadd, 1) := by decide +kernel
theorem dX12_degreeIn_50 : decode cX12_degreeIn 50 = .ok (.ireturn, 1) := by decide +kernel
theorem dX12_wordBehind_0 : decode cX12_wordBehind 0 = .ok (.aload_n 0, 1) := by decide +kernel
theorem dX12_wordBehind_1 : decode cX12_wordBehind 1 = .ok (.getfield 7, 3) := by decide +kernel
theorem dX12_wordBehind_4 : decode cX12_wordBehind 4 = .ok (.sipush 608, 3) := by decide +kernel
theorem dX12_wordBehind_7 : decode cX12_wordBehind 7 = .ok (.iaload, 1) := by decide +kernel
theorem dX12_wordBehind_8 : decode cX12_wordBehind 8 = .ok (.ifCond .ne 13, 3) := by decide +kernel
theorem dX12_wordBehind_11 : decode cX12_wordBehind 11 = .ok (.iload_n 2, 1) := by decide +kernel
theorem dX12_wordBehind_12 : decode cX12_wordBehind 12 = .ok (.iload_n 1, 1) := by decide +kernel
theorem dX12_wordBehind_13 : decode cX12_wordBehind 13 = .ok (.iload_n 2, 1) := by decide +kernel
theorem dX12_wordBehind_14 : decode cX12_wordBehind 14 = .ok (.isub, 1) := by decide +kernel
theorem dX12_wordBehind_15 : decode cX12_wordBehind 15 = .ok (.invokestatic 59, 3) := by decide +kernel
theorem dX12_wordBehind_18 : decode cX12_wordBehind 18 = .ok (.goto 10, 3) := by decide +kernel
theorem dX12_wordBehind_21 : decode cX12_wordBehind 21 = .ok (.iload_n 1, 1) := by decide +kernel
theorem dX12_wordBehind_22 : decode cX12_wordBehind 22 = .ok (.iload_n 2, 1) := by decide +kernel
theorem dX12_wordBehind_23 : decode cX12_wordBehind 23 = .ok (.isub, 1) := by decide +kernel
theorem dX12_wordBehind_24 : decode cX12_wordBehind 24 = .ok (.iload_n 2, 1) := by decide +kernel
theorem dX12_wordBehind_25 : decode cX12_wordBehind 25 = .ok (.invokestatic 59, 3) := by decide +kernel
theorem dX12_wordBehind_28 : decode cX12_wordBehind 28 = .ok (.ireturn, 1) := by decide +kernel
theorem dX12_leadIn_0 : decode cX12_leadIn 0 = .ok (.aload_n 0, 1) := by decide +kernel
theorem dX12_leadIn_1 : decode cX12_leadIn 1 = .ok (.iload_n 1, 1) := by decide +kernel
theorem dX12_leadIn_2 : decode cX12_leadIn 2 = .ok (.invokevirtual 89, 3) := by decide +kernel
theorem dX12_leadIn_5 : decode cX12_leadIn 5 = .ok (.istore_n 2, 1) := by decide +kernel
theorem dX12_leadIn_6 : decode cX12_leadIn 6 = .ok (.iconst 0, 1) := by decide +kernel
theorem dX12_leadIn_7 : decode cX12_leadIn 7 = .ok (.istore_n 3, 1) := by decide +kernel
theorem dX12_leadIn_8 : decode cX12_leadIn 8 = .ok (.iload_n 3, 1) := by decide +kernel
theorem dX12_leadIn_9 : decode cX12_leadIn 9 = .ok (.iload_n 2, 1) := by decide +kernel
theorem dX12_leadIn_10 : decode cX12_leadIn 10 = .ok (.if_icmp .gt 36, 3) := by decide +kernel
theorem dX12_leadIn_13 : decode cX12_leadIn 13 = .ok (.aload_n 0, 1) := by decide +kernel
theorem dX12_leadIn_14 : decode cX12_leadIn 14 = .ok (.iload_n 2, 1) := by decide +kernel
theorem dX12_leadIn_15 : decode cX12_leadIn 15 = .ok (.iload_n 3, 1) := by decide +kernel
theorem dX12_leadIn_16 : decode cX12_leadIn 16 = .ok (.invokevirtual 92, 3) := by decide +kernel
theorem dX12_leadIn_19 : decode cX12_leadIn 19 = .ok (.istore 4, 2) := by decide +kernel
theorem dX12_leadIn_21 : decode cX12_leadIn 21 = .ok (.aload_n 0, 1) := by decide +kernel
theorem dX12_leadIn_22 : decode cX12_leadIn 22 = .ok (.getfield 22, 3) := by decide +kernel
theorem dX12_leadIn_25 : decode cX12_leadIn 25 = .ok (.sipush 496, 3) := by decide +kernel
theorem dX12_leadIn_28 : decode cX12_leadIn 28 = .ok (.iload_n 1, 1) := by decide +kernel
theorem dX12_leadIn_29 : decode cX12_leadIn 29 = .ok (.imul, 1) := by decide +kernel
theorem dX12_leadIn_30 : decode cX12_leadIn 30 = .ok (.iload 4, 2) := by decide +kernel
theorem dX12_leadIn_32 : decode cX12_leadIn 32 = .ok (.iadd, 1) := by decide +kernel
theorem dX12_leadIn_33 : decode cX12_leadIn 33 = .ok (.iaload, 1) := by decide +kernel
theorem dX12_leadIn_34 : decode cX12_leadIn 34 = .ok (.ifCond .eq 6, 3) := by decide +kernel
theorem dX12_leadIn_37 : decode cX12_leadIn 37 = .ok (.iload 4, 2) := by decide +kernel
theorem dX12_leadIn_39 : decode cX12_leadIn 39 = .ok (.ireturn, 1) := by decide +kernel
theorem dX12_leadIn_40 : decode cX12_leadIn 40 = .ok (.iinc 3 1, 3) := by decide +kernel
theorem dX12_leadIn_43 : decode cX12_leadIn 43 = .ok (.goto (-35), 3) := by decide +kernel
theorem dX12_leadIn_46 : decode cX12_leadIn 46 = .ok (.iconst (-1), 1) := by decide +kernel
theorem dX12_leadIn_47 : decode cX12_leadIn 47 = .ok (.ireturn, 1) := by decide +kernel
theorem dX12_adds_0 : decode cX12_adds 0 = .ok (.iload 5, 2) := by decide +kernel
theorem dX12_adds_2 : decode cX12_adds 2 = .ok (.istore 7, 2) := by decide +kernel
theorem dX12_adds_4 : decode cX12_adds 4 = .ok (.iconst 0, 1) := by decide +kernel
theorem dX12_adds_5 : decode cX12_adds 5 = .ok (.istore 8, 2) := by decide +kernel
theorem dX12_adds_7 : decode cX12_adds 7 = .ok (.iload 8, 2) := by decide +kernel
theorem dX12_adds_9 : decode cX12_adds 9 = .ok (.iload_n 3, 1) := by decide +kernel
theorem dX12_adds_10 : decode cX12_adds 10 = .ok (.if_icmp .gt 87, 3) := by decide +kernel
theorem dX12_adds_13 : decode cX12_adds 13 = .ok (.iload 8, 2) := by decide +kernel
theorem dX12_adds_15 : decode cX12_adds 15 = .ok (.iload_n 2, 1) := by decide +kernel
theorem dX12_adds_16 : decode cX12_adds 16 = .ok (.if_icmp .gt 81, 3) := by decide +kernel
theorem dX12_adds_19 : decode cX12_adds 19 = .ok (.sipush 496, 3) := by decide +kernel
theorem dX12_adds_22 : decode cX12_adds 22 = .ok (.iload 6, 2) := by decide +kernel
theorem dX12_adds_24 : decode cX12_adds 24 = .ok (.imul, 1) := by decide +kernel
theorem dX12_adds_25 : decode cX12_adds 25 = .ok (.iload_n 1, 1) := by decide +kernel
theorem dX12_adds_26 : decode cX12_adds 26 = .ok (.iload_n 3, 1) := by decide +kernel
theorem dX12_adds_27 : decode cX12_adds 27 = .ok (.iadd, 1) := by decide +kernel
theorem dX12_adds_28 : decode cX12_adds 28 = .ok (.iload 8, 2) := by decide +kernel
theorem dX12_adds_30 : decode cX12_adds 30 = .ok (.isub, 1) := by decide +kernel
theorem dX12_adds_31 : decode cX12_adds 31 = .ok (.iload_n 2, 1) := by decide +kernel
theorem dX12_adds_32 : decode cX12_adds 32 = .ok (.iload 8, 2) := by decide +kernel
theorem dX12_adds_34 : decode cX12_adds 34 = .ok (.isub, 1) := by decide +kernel
theorem dX12_adds_35 : decode cX12_adds 35 = .ok (.iload 4, 2) := by decide +kernel
theorem dX12_adds_37 : decode cX12_adds 37 = .ok (.iadd, 1) := by decide +kernel
theorem dX12_adds_38 : decode cX12_adds 38 = .ok (.invokestatic 59, 3) := by decide +kernel
theorem dX12_adds_41 : decode cX12_adds 41 = .ok (.iadd, 1) := by decide +kernel
theorem dX12_adds_42 : decode cX12_adds 42 = .ok (.istore 9, 2) := by decide +kernel
theorem dX12_adds_44 : decode cX12_adds 44 = .ok (.aload_n 0, 1) := by decide +kernel
theorem dX12_adds_45 : decode cX12_adds 45 = .ok (.getfield 22, 3) := by decide +kernel
theorem dX12_adds_48 : decode cX12_adds 48 = .ok (.iload 9, 2) := by decide +kernel
theorem dX12_adds_50 : decode cX12_adds 50 = .ok (.aload_n 0, 1) := by decide +kernel
theorem dX12_adds_51 : decode cX12_adds 51 = .ok (.getfield 22, 3) := by decide +kernel
theorem dX12_adds_54 : decode cX12_adds 54 = .ok (.iload 9, 2) := by decide +kernel
theorem dX12_adds_56 : decode cX12_adds 56 = .ok (.iaload, 1) := by decide +kernel
theorem dX12_adds_57 : decode cX12_adds 57 = .ok (.aload_n 0, 1) := by decide +kernel
theorem dX12_adds_58 : decode cX12_adds 58 = .ok (.getfield 31, 3) := by decide +kernel
theorem dX12_adds_61 : decode cX12_adds 61 = .ok (.bipush 31, 2) := by decide +kernel
theorem dX12_adds_63 : decode cX12_adds 63 = .ok (.iload_n 2, 1) := by decide +kernel
theorem dX12_adds_64 : decode cX12_adds 64 = .ok (.imul, 1) := by decide +kernel
theorem dX12_adds_65 : decode cX12_adds 65 = .ok (.iload 8, 2) := by decide +kernel
theorem dX12_adds_67 : decode cX12_adds 67 = .ok (.iadd, 1) := by decide +kernel
theorem dX12_adds_68 : decode cX12_adds 68 = .ok (.iaload, 1) := by decide +kernel
theorem dX12_adds_69 : decode cX12_adds 69 = .ok (.iload 7, 2) := by decide +kernel
theorem dX12_adds_71 : decode cX12_adds 71 = .ok (.imul, 1) := by decide +kernel
theorem dX12_adds_72 : decode cX12_adds 72 = .ok (.iadd, 1) := by decide +kernel
theorem dX12_adds_73 : decode cX12_adds 73 = .ok (.sipush 10007, 3) := by decide +kernel
theorem dX12_adds_76 : decode cX12_adds 76 = .ok (.irem, 1) := by decide +kernel
theorem dX12_adds_77 : decode cX12_adds 77 = .ok (.iastore, 1) := by decide +kernel
theorem dX12_adds_78 : decode cX12_adds 78 = .ok (.iload 7, 2) := by decide +kernel
theorem dX12_adds_80 : decode cX12_adds 80 = .ok (.iload_n 3, 1) := by decide +kernel
theorem dX12_adds_81 : decode cX12_adds 81 = .ok (.iload 8, 2) := by decide +kernel
theorem dX12_adds_83 : decode cX12_adds 83 = .ok (.isub, 1) := by decide +kernel
theorem dX12_adds_84 : decode cX12_adds 84 = .ok (.imul, 1) := by decide +kernel
theorem dX12_adds_85 : decode cX12_adds 85 = .ok (.sipush 10007, 3) := by decide +kernel
theorem dX12_adds_88 : decode cX12_adds 88 = .ok (.irem, 1) := by decide +kernel
theorem dX12_adds_89 : decode cX12_adds 89 = .ok (.istore 7, 2) := by decide +kernel
theorem dX12_adds_91 : decode cX12_adds 91 = .ok (.iinc 8 1, 3) := by decide +kernel
theorem dX12_adds_94 : decode cX12_adds 94 = .ok (.goto (-87), 3) := by decide +kernel
theorem dX12_adds_97 : decode cX12_adds 97 = .ok (.return_, 1) := by decide +kernel
theorem dX12_addsBehind_0 : decode cX12_addsBehind 0 = .ok (.aload_n 0, 1) := by decide +kernel
theorem dX12_addsBehind_1 : decode cX12_addsBehind 1 = .ok (.iload 4, 2) := by decide +kernel
theorem dX12_addsBehind_3 : decode cX12_addsBehind 3 = .ok (.invokevirtual 89, 3) := by decide +kernel
theorem dX12_addsBehind_6 : decode cX12_addsBehind 6 = .ok (.istore 6, 2) := by decide +kernel
theorem dX12_addsBehind_8 : decode cX12_addsBehind 8 = .ok (.iconst 0, 1) := by decide +kernel
theorem dX12_addsBehind_9 : decode cX12_addsBehind 9 = .ok (.istore 7, 2) := by decide +kernel
theorem dX12_addsBehind_11 : decode cX12_addsBehind 11 = .ok (.iload 7, 2) := by decide +kernel
theorem dX12_addsBehind_13 : decode cX12_addsBehind 13 = .ok (.iload 6, 2) := by decide +kernel
theorem dX12_addsBehind_15 : decode cX12_addsBehind 15 = .ok (.iconst 1, 1) := by decide +kernel
theorem dX12_addsBehind_16 : decode cX12_addsBehind 16 = .ok (.iadd, 1) := by decide +kernel
theorem dX12_addsBehind_17 : decode cX12_addsBehind 17 = .ok (.iload 6, 2) := by decide +kernel
theorem dX12_addsBehind_19 : decode cX12_addsBehind 19 = .ok (.iconst 2, 1) := by decide +kernel
theorem dX12_addsBehind_20 : decode cX12_addsBehind 20 = .ok (.iadd, 1) := by decide +kernel
theorem dX12_addsBehind_21 : decode cX12_addsBehind 21 = .ok (.imul, 1) := by decide +kernel
theorem dX12_addsBehind_22 : decode cX12_addsBehind 22 = .ok (.iconst 2, 1) := by decide +kernel
theorem dX12_addsBehind_23 : decode cX12_addsBehind 23 = .ok (.idiv, 1) := by decide +kernel
theorem dX12_addsBehind_24 : decode cX12_addsBehind 24 = .ok (.if_icmp .ge 60, 3) := by decide +kernel
theorem dX12_addsBehind_27 : decode cX12_addsBehind 27 = .ok (.aload_n 0, 1) := by decide +kernel
theorem dX12_addsBehind_28 : decode cX12_addsBehind 28 = .ok (.getfield 22, 3) := by decide +kernel
theorem dX12_addsBehind_31 : decode cX12_addsBehind 31 = .ok (.sipush 496, 3) := by decide +kernel
theorem dX12_addsBehind_34 : decode cX12_addsBehind 34 = .ok (.iload 4, 2) := by decide +kernel
theorem dX12_addsBehind_36 : decode cX12_addsBehind 36 = .ok (.imul, 1) := by decide +kernel
theorem dX12_addsBehind_37 : decode cX12_addsBehind 37 = .ok (.iload 7, 2) := by decide +kernel
theorem dX12_addsBehind_39 : decode cX12_addsBehind 39 = .ok (.iadd, 1) := by decide +kernel
theorem dX12_addsBehind_40 : decode cX12_addsBehind 40 = .ok (.iaload, 1) := by decide +kernel
theorem dX12_addsBehind_41 : decode cX12_addsBehind 41 = .ok (.istore 8, 2) := by decide +kernel
theorem dX12_addsBehind_43 : decode cX12_addsBehind 43 = .ok (.iload 8, 2) := by decide +kernel
theorem dX12_addsBehind_45 : decode cX12_addsBehind 45 = .ok (.ifCond .eq 33, 3) := by decide +kernel
theorem dX12_addsBehind_48 : decode cX12_addsBehind 48 = .ok (.aload_n 0, 1) := by decide +kernel
theorem dX12_addsBehind_49 : decode cX12_addsBehind 49 = .ok (.iload_n 1, 1) := by decide +kernel
theorem dX12_addsBehind_50 : decode cX12_addsBehind 50 = .ok (.iload_n 2, 1) := by decide +kernel
theorem dX12_addsBehind_51 : decode cX12_addsBehind 51 = .ok (.aload_n 0, 1) := by decide +kernel
theorem dX12_addsBehind_52 : decode cX12_addsBehind 52 = .ok (.getfield 25, 3) := by decide +kernel
theorem dX12_addsBehind_55 : decode cX12_addsBehind 55 = .ok (.iload 7, 2) := by decide +kernel
theorem dX12_addsBehind_57 : decode cX12_addsBehind 57 = .ok (.iaload, 1) := by decide +kernel
theorem dX12_addsBehind_58 : decode cX12_addsBehind 58 = .ok (.aload_n 0, 1) := by decide +kernel
theorem dX12_addsBehind_59 : decode cX12_addsBehind 59 = .ok (.getfield 28, 3) := by decide +kernel
theorem dX12_addsBehind_62 : decode cX12_addsBehind 62 = .ok (.iload 7, 2) := by decide +kernel
theorem dX12_addsBehind_64 : decode cX12_addsBehind 64 = .ok (.iaload, 1) := by decide +kernel
theorem dX12_addsBehind_65 : decode cX12_addsBehind 65 = .ok (.iload_n 3, 1) := by decide +kernel
theorem dX12_addsBehind_66 : decode cX12_addsBehind 66 = .ok (.iload 8, 2) := by decide +kernel
theorem dX12_addsBehind_68 : decode cX12_addsBehind 68 = .ok (.imul, 1) := by decide +kernel
theorem dX12_addsBehind_69 : decode cX12_addsBehind 69 = .ok (.sipush 10007, 3) := by decide +kernel
theorem dX12_addsBehind_72 : decode cX12_addsBehind 72 = .ok (.irem, 1) := by decide +kernel
theorem dX12_addsBehind_73 : decode cX12_addsBehind 73 = .ok (.iload 5, 2) := by decide +kernel
theorem dX12_addsBehind_75 : decode cX12_addsBehind 75 = .ok (.invokevirtual 95, 3) := by decide +kernel
theorem dX12_addsBehind_78 : decode cX12_addsBehind 78 = .ok (.iinc 7 1, 3) := by decide +kernel
theorem dX12_addsBehind_81 : decode cX12_addsBehind 81 = .ok (.goto (-70), 3) := by decide +kernel
theorem dX12_addsBehind_84 : decode cX12_addsBehind 84 = .ok (.return_, 1) := by decide +kernel
theorem dX12_multiplies_0 : decode cX12_multiplies 0 = .ok (.aload_n 0, 1) := by decide +kernel
theorem dX12_multiplies_1 : decode cX12_multiplies 1 = .ok (.iload_n 3, 1) := by decide +kernel
theorem dX12_multiplies_2 : decode cX12_multiplies 2 = .ok (.invokevirtual 78, 3) := by decide +kernel
theorem dX12_multiplies_5 : decode cX12_multiplies 5 = .ok (.aload_n 0, 1) := by decide +kernel
theorem dX12_multiplies_6 : decode cX12_multiplies 6 = .ok (.iload_n 1, 1) := by decide +kernel
theorem dX12_multiplies_7 : decode cX12_multiplies 7 = .ok (.invokevirtual 89, 3) := by decide +kernel
theorem dX12_multiplies_10 : decode cX12_multiplies 10 = .ok (.istore 4, 2) := by decide +kernel
theorem dX12_multiplies_12 : decode cX12_multiplies 12 = .ok (.iconst 0, 1) := by decide +kernel
theorem dX12_multiplies_13 : decode cX12_multiplies 13 = .ok (.istore 5, 2) := by decide +kernel
theorem dX12_multiplies_15 : decode cX12_multiplies 15 = .ok (.iload 5, 2) := by decide +kernel
theorem dX12_multiplies_17 : decode cX12_multiplies 17 = .ok (.iload 4, 2) := by decide +kernel
theorem dX12_multiplies_19 : decode cX12_multiplies 19 = .ok (.iconst 1, 1) := by decide +kernel
theorem dX12_multiplies_20 : decode cX12_multiplies 20 = .ok (.iadd, 1) := by decide +kernel
theorem dX12_multiplies_21 : decode cX12_multiplies 21 = .ok (.iload 4, 2) := by decide +kernel
theorem dX12_multiplies_23 : decode cX12_multiplies 23 = .ok (.iconst 2, 1) := by decide +kernel
theorem dX12_multiplies_24 : decode cX12_multiplies 24 = .ok (.iadd, 1) := by decide +kernel
theorem dX12_multiplies_25 : decode cX12_multiplies 25 = .ok (.imul, 1) := by decide +kernel
theorem dX12_multiplies_26 : decode cX12_multiplies 26 = .ok (.iconst 2, 1) := by decide +kernel
theorem dX12_multiplies_27 : decode cX12_multiplies 27 = .ok (.idiv, 1) := by decide +kernel
theorem dX12_multiplies_28 : decode cX12_multiplies 28 = .ok (.if_icmp .ge 51, 3) := by decide +kernel
theorem dX12_multiplies_31 : decode cX12_multiplies 31 = .ok (.aload_n 0, 1) := by decide +kernel
theorem dX12_multiplies_32 : decode cX12_multiplies 32 = .ok (.getfield 22, 3) := by decide +kernel
theorem dX12_multiplies_35 : decode cX12_multiplies 35 = .ok (.sipush 496, 3) := by decide +kernel
theorem dX12_multiplies_38 : decode cX12_multiplies 38 = .ok (.iload_n 1, 1) := by decide +kernel
theorem dX12_multiplies_39 : decode cX12_multiplies 39 = .ok (.imul, 1) := by decide +kernel
theorem dX12_multiplies_40 : decode cX12_multiplies 40 = .ok (.iload 5, 2) := by decide +kernel
theorem dX12_multiplies_42 : decode cX12_multiplies 42 = .ok (.iadd, 1) := by decide +kernel
theorem dX12_multiplies_43 : decode cX12_multiplies 43 = .ok (.iaload, 1) := by decide +kernel
theorem dX12_multiplies_44 : decode cX12_multiplies 44 = .ok (.istore 6, 2) := by decide +kernel
theorem dX12_multiplies_46 : decode cX12_multiplies 46 = .ok (.iload 6, 2) := by decide +kernel
theorem dX12_multiplies_48 : decode cX12_multiplies 48 = .ok (.ifCond .eq 25, 3) := by decide +kernel
theorem dX12_multiplies_51 : decode cX12_multiplies 51 = .ok (.aload_n 0, 1) := by decide +kernel
theorem dX12_multiplies_52 : decode cX12_multiplies 52 = .ok (.aload_n 0, 1) := by decide +kernel
theorem dX12_multiplies_53 : decode cX12_multiplies 53 = .ok (.getfield 25, 3) := by decide +kernel
theorem dX12_multiplies_56 : decode cX12_multiplies 56 = .ok (.iload 5, 2) := by decide +kernel
theorem dX12_multiplies_58 : decode cX12_multiplies 58 = .ok (.iaload, 1) := by decide +kernel
theorem dX12_multiplies_59 : decode cX12_multiplies 59 = .ok (.aload_n 0, 1) := by decide +kernel
theorem dX12_multiplies_60 : decode cX12_multiplies 60 = .ok (.getfield 28, 3) := by decide +kernel
theorem dX12_multiplies_63 : decode cX12_multiplies 63 = .ok (.iload 5, 2) := by decide +kernel
theorem dX12_multiplies_65 : decode cX12_multiplies 65 = .ok (.iaload, 1) := by decide +kernel
theorem dX12_multiplies_66 : decode cX12_multiplies 66 = .ok (.iload 6, 2) := by decide +kernel
theorem dX12_multiplies_68 : decode cX12_multiplies 68 = .ok (.iload_n 2, 1) := by decide +kernel
theorem dX12_multiplies_69 : decode cX12_multiplies 69 = .ok (.iload_n 3, 1) := by decide +kernel
theorem dX12_multiplies_70 : decode cX12_multiplies 70 = .ok (.invokevirtual 99, 3) := by decide +kernel
theorem dX12_multiplies_73 : decode cX12_multiplies 73 = .ok (.iinc 5 1, 3) := by decide +kernel
theorem dX12_multiplies_76 : decode cX12_multiplies 76 = .ok (.goto (-61), 3) := by decide +kernel
theorem dX12_multiplies_79 : decode cX12_multiplies 79 = .ok (.return_, 1) := by decide +kernel
theorem dX12_isTooMuch_0 : decode cX12_isTooMuch 0 = .ok (.aload_n 0, 1) := by decide +kernel
theorem dX12_isTooMuch_1 : decode cX12_isTooMuch 1 = .ok (.iload_n 1, 1) := by decide +kernel
theorem dX12_isTooMuch_2 : decode cX12_isTooMuch 2 = .ok (.invokevirtual 89, 3) := by decide +kernel
theorem dX12_isTooMuch_5 : decode cX12_isTooMuch 5 = .ok (.istore_n 3, 1) := by decide +kernel
theorem dX12_isTooMuch_6 : decode cX12_isTooMuch 6 = .ok (.aload_n 0, 1) := by decide +kernel
theorem dX12_isTooMuch_7 : decode cX12_isTooMuch 7 = .ok (.iload_n 2, 1) := by decide +kernel
theorem dX12_isTooMuch_8 : decode cX12_isTooMuch 8 = .ok (.invokevirtual 89, 3) := by decide +kernel
theorem dX12_isTooMuch_11 : decode cX12_isTooMuch 11 = .ok (.istore 4, 2) := by decide +kernel
theorem dX12_isTooMuch_13 : decode cX12_isTooMuch 13 = .ok (.iload_n 3, 1) := by decide +kernel
theorem dX12_isTooMuch_14 : decode cX12_isTooMuch 14 = .ok (.ifCond .lt 21, 3) := by decide +kernel
theorem dX12_isTooMuch_17 : decode cX12_isTooMuch 17 = .ok (.iload 4, 2) := by decide +kernel
theorem dX12_isTooMuch_19 : decode cX12_isTooMuch 19 = .ok (.ifCond .lt 16, 3) := by decide +kernel
theorem dX12_isTooMuch_22 : decode cX12_isTooMuch 22 = .ok (.iload_n 3, 1) := by decide +kernel
theorem dX12_isTooMuch_23 : decode cX12_isTooMuch 23 = .ok (.iload 4, 2) := by decide +kernel
theorem dX12_isTooMuch_25 : decode cX12_isTooMuch 25 = .ok (.iadd, 1) := by decide +kernel
theorem dX12_isTooMuch_26 : decode cX12_isTooMuch 26 = .ok (.bipush 12, 2) := by decide +kernel
theorem dX12_isTooMuch_28 : decode cX12_isTooMuch 28 = .ok (.if_icmp .le 7, 3) := by decide +kernel
theorem dX12_isTooMuch_31 : decode cX12_isTooMuch 31 = .ok (.iconst 1, 1) := by decide +kernel
theorem dX12_isTooMuch_32 : decode cX12_isTooMuch 32 = .ok (.goto 4, 3) := by decide +kernel
theorem dX12_isTooMuch_35 : decode cX12_isTooMuch 35 = .ok (.iconst 0, 1) := by decide +kernel
theorem dX12_isTooMuch_36 : decode cX12_isTooMuch 36 = .ok (.ireturn, 1) := by decide +kernel
theorem dX12_isPowerTooMuch_0 : decode cX12_isPowerTooMuch 0 = .ok (.iload_n 2, 1) := by decide +kernel
theorem dX12_isPowerTooMuch_1 : decode cX12_isPowerTooMuch 1 = .ok (.aload_n 0, 1) := by decide +kernel
theorem dX12_isPowerTooMuch_2 : decode cX12_isPowerTooMuch 2 = .ok (.iload_n 1, 1) := by decide +kernel
theorem dX12_isPowerTooMuch_3 : decode cX12_isPowerTooMuch 3 = .ok (.invokevirtual 89, 3) := by decide +kernel
theorem dX12_isPowerTooMuch_6 : decode cX12_isPowerTooMuch 6 = .ok (.imul, 1) := by decide +kernel
theorem dX12_isPowerTooMuch_7 : decode cX12_isPowerTooMuch 7 = .ok (.bipush 12, 2) := by decide +kernel
theorem dX12_isPowerTooMuch_9 : decode cX12_isPowerTooMuch 9 = .ok (.if_icmp .le 7, 3) := by decide +kernel
theorem dX12_isPowerTooMuch_12 : decode cX12_isPowerTooMuch 12 = .ok (.iconst 1, 1) := by decide +kernel
theorem dX12_isPowerTooMuch_13 : decode cX12_isPowerTooMuch 13 = .ok (.goto 4, 3) := by decide +kernel
theorem dX12_isPowerTooMuch_16 : decode cX12_isPowerTooMuch 16 = .ok (.iconst 0, 1) := by decide +kernel
theorem dX12_isPowerTooMuch_17 : decode cX12_isPowerTooMuch 17 = .ok (.ireturn, 1) := by decide +kernel
theorem dX12_raises_0 : decode cX12_raises 0 = .ok (.aload_n 0, 1) := by decide +kernel
theorem dX12_raises_1 : decode cX12_raises 1 = .ok (.bipush 27, 2) := by decide +kernel
theorem dX12_raises_3 : decode cX12_raises 3 = .ok (.bipush 26, 2) := by decide +kernel
theorem dX12_raises_5 : decode cX12_raises 5 = .ok (.invokevirtual 103, 3) := by decide +kernel
theorem dX12_raises_8 : decode cX12_raises 8 = .ok (.aload_n 0, 1) := by decide +kernel
theorem dX12_raises_9 : decode cX12_raises 9 = .ok (.bipush 27, 2) := by decide +kernel
theorem dX12_raises_11 : decode cX12_raises 11 = .ok (.invokevirtual 78, 3) := by decide +kernel
theorem dX12_raises_14 : decode cX12_raises 14 = .ok (.aload_n 0, 1) := by decide +kernel
theorem dX12_raises_15 : decode cX12_raises 15 = .ok (.getfield 22, 3) := by decide +kernel
theorem dX12_raises_18 : decode cX12_raises 18 = .ok (.sipush 13392, 3) := by decide +kernel
theorem dX12_raises_21 : decode cX12_raises 21 = .ok (.iconst 1, 1) := by decide +kernel
theorem dX12_raises_22 : decode cX12_raises 22 = .ok (.iastore, 1) := by decide +kernel
theorem dX12_raises_23 : decode cX12_raises 23 = .ok (.iconst 0, 1) := by decide +kernel
theorem dX12_raises_24 : decode cX12_raises 24 = .ok (.istore_n 2, 1) := by decide +kernel
theorem dX12_raises_25 : decode cX12_raises 25 = .ok (.iload_n 2, 1) := by decide +kernel
theorem dX12_raises_26 : decode cX12_raises 26 = .ok (.iload_n 1, 1) := by decide +kernel
theorem dX12_raises_27 : decode cX12_raises 27 = .ok (.if_icmp .ge 27, 3) := by decide +kernel
theorem dX12_raises_30 : decode cX12_raises 30 = .ok (.aload_n 0, 1) := by decide +kernel
theorem dX12_raises_31 : decode cX12_raises 31 = .ok (.bipush 27, 2) := by decide +kernel
theorem dX12_raises_33 : decode cX12_raises 33 = .ok (.bipush 26, 2) := by decide +kernel
theorem dX12_raises_35 : decode cX12_raises 35 = .ok (.bipush 25, 2) := by decide +kernel
theorem dX12_raises_37 : decode cX12_raises 37 = .ok (.invokevirtual 107, 3) := by decide +kernel
theorem dX12_raises_40 : decode cX12_raises 40 = .ok (.aload_n 0, 1) := by decide +kernel
theorem dX12_raises_41 : decode cX12_raises 41 = .ok (.bipush 25, 2) := by decide +kernel
theorem dX12_raises_43 : decode cX12_raises 43 = .ok (.bipush 27, 2) := by decide +kernel
theorem dX12_raises_45 : decode cX12_raises 45 = .ok (.invokevirtual 103, 3) := by decide +kernel
theorem dX12_raises_48 : decode cX12_raises 48 = .ok (.iinc 2 1, 3) := by decide +kernel
theorem dX12_raises_51 : decode cX12_raises 51 = .ok (.goto (-26), 3) := by decide +kernel
theorem dX12_raises_54 : decode cX12_raises 54 = .ok (.return_, 1) := by decide +kernel
theorem dX12_mixes_0 : decode cX12_mixes 0 = .ok (.iconst 0, 1) := by decide +kernel
theorem dX12_mixes_1 : decode cX12_mixes 1 = .ok (.istore 6, 2) := by decide +kernel
theorem dX12_mixes_3 : decode cX12_mixes 3 = .ok (.iload 6, 2) := by decide +kernel
theorem dX12_mixes_5 : decode cX12_mixes 5 = .ok (.sipush 496, 3) := by decide +kernel
theorem dX12_mixes_8 : decode cX12_mixes 8 = .ok (.if_icmp .ge 59, 3) := by decide +kernel
theorem dX12_mixes_11 : decode cX12_mixes 11 = .ok (.aload_n 0, 1) := by decide +kernel
theorem dX12_mixes_12 : decode cX12_mixes 12 = .ok (.getfield 22, 3) := by decide +kernel
theorem dX12_mixes_15 : decode cX12_mixes 15 = .ok (.sipush 496, 3) := by decide +kernel
theorem dX12_mixes_18 : decode cX12_mixes 18 = .ok (.iload 5, 2) := by decide +kernel
theorem dX12_mixes_20 : decode cX12_mixes 20 = .ok (.imul, 1) := by decide +kernel
theorem dX12_mixes_21 : decode cX12_mixes 21 = .ok (.iload 6, 2) := by decide +kernel
theorem dX12_mixes_23 : decode cX12_mixes 23 = .ok (.iadd, 1) := by decide +kernel
theorem dX12_mixes_24 : decode cX12_mixes 24 = .ok (.iload_n 2, 1) := by decide +kernel
theorem dX12_mixes_25 : decode cX12_mixes 25 = .ok (.aload_n 0, 1) := by decide +kernel
theorem dX12_mixes_26 : decode cX12_mixes 26 = .ok (.getfield 22, 3) := by decide +kernel
theorem dX12_mixes_29 : decode cX12_mixes 29 = .ok (.sipush 496, 3) := by decide +kernel
theorem dX12_mixes_32 : decode cX12_mixes 32 = .ok (.iload_n 1, 1) := by decide +kernel
theorem dX12_mixes_33 : decode cX12_mixes 33 = .ok (.imul, 1) := by decide +kernel
theorem dX12_mixes_34 : decode cX12_mixes 34 = .ok (.iload 6, 2) := by decide +kernel
theorem dX12_mixes_36 : decode cX12_mixes 36 = .ok (.iadd, 1) := by decide +kernel
theorem dX12_mixes_37 : decode cX12_mixes 37 = .ok (.iaload, 1) := by decide +kernel
theorem dX12_mixes_38 : decode cX12_mixes 38 = .ok (.imul, 1) := by decide +kernel
theorem dX12_mixes_39 : decode cX12_mixes 39 = .ok (.iload 4, 2) := by decide +kernel
theorem dX12_mixes_41 : decode cX12_mixes 41 = .ok (.aload_n 0, 1) := by decide +kernel
theorem dX12_mixes_42 : decode cX12_mixes 42 = .ok (.getfield 22, 3) := by decide +kernel
theorem dX12_mixes_45 : decode cX12_mixes 45 = .ok (.sipush 496, 3) := by decide +kernel
theorem dX12_mixes_48 : decode cX12_mixes 48 = .ok (.iload_n 3, 1) := by decide +kernel
theorem dX12_mixes_49 : decode cX12_mixes 49 = .ok (.imul, 1) := by decide +kernel
theorem dX12_mixes_50 : decode cX12_mixes 50 = .ok (.iload 6, 2) := by decide +kernel
theorem dX12_mixes_52 : decode cX12_mixes 52 = .ok (.iadd, 1) := by decide +kernel
theorem dX12_mixes_53 : decode cX12_mixes 53 = .ok (.iaload, 1) := by decide +kernel
theorem dX12_mixes_54 : decode cX12_mixes 54 = .ok (.imul, 1) := by decide +kernel
theorem dX12_mixes_55 : decode cX12_mixes 55 = .ok (.iadd, 1) := by decide +kernel
theorem dX12_mixes_56 : decode cX12_mixes 56 = .ok (.sipush 10007, 3) := by decide +kernel
theorem dX12_mixes_59 : decode cX12_mixes 59 = .ok (.irem, 1) := by decide +kernel
theorem dX12_mixes_60 : decode cX12_mixes 60 = .ok (.iastore, 1) := by decide +kernel
theorem dX12_mixes_61 : decode cX12_mixes 61 = .ok (.iinc 6 1, 3) := by decide +kernel
theorem dX12_mixes_64 : decode cX12_mixes 64 = .ok (.goto (-61), 3) := by decide +kernel
theorem dX12_mixes_67 : decode cX12_mixes 67 = .ok (.return_, 1) := by decide +kernel
theorem dX12_sets_0 : decode cX12_sets 0 = .ok (.iload_n 1, 1) := by decide +kernel
theorem dX12_sets_1 : decode cX12_sets 1 = .ok (.invokestatic 111, 3) := by decide +kernel
theorem dX12_sets_4 : decode cX12_sets 4 = .ok (.ifCond .eq 11, 3) := by decide +kernel
theorem dX12_sets_7 : decode cX12_sets 7 = .ok (.iload_n 2, 1) := by decide +kernel
theorem dX12_sets_8 : decode cX12_sets 8 = .ok (.iload_n 3, 1) := by decide +kernel
theorem dX12_sets_9 : decode cX12_sets 9 = .ok (.invokestatic 115, 3) := by decide +kernel
theorem dX12_sets_12 : decode cX12_sets 12 = .ok (.ifCond .ne 8, 3) := by decide +kernel
theorem dX12_sets_15 : decode cX12_sets 15 = .ok (.aload_n 0, 1) := by decide +kernel
theorem dX12_sets_16 : decode cX12_sets 16 = .ok (.invokevirtual 119, 3) := by decide +kernel
theorem dX12_sets_19 : decode cX12_sets 19 = .ok (.ireturn, 1) := by decide +kernel
theorem dX12_sets_20 : decode cX12_sets 20 = .ok (.aload_n 0, 1) := by decide +kernel
theorem dX12_sets_21 : decode cX12_sets 21 = .ok (.invokevirtual 82, 3) := by decide +kernel
theorem dX12_sets_24 : decode cX12_sets 24 = .ok (.bipush 91, 2) := by decide +kernel
theorem dX12_sets_26 : decode cX12_sets 26 = .ok (.iload_n 1, 1) := by decide +kernel
theorem dX12_sets_27 : decode cX12_sets 27 = .ok (.imul, 1) := by decide +kernel
theorem dX12_sets_28 : decode cX12_sets 28 = .ok (.iload_n 2, 1) := by decide +kernel
theorem dX12_sets_29 : decode cX12_sets 29 = .ok (.iload_n 3, 1) := by decide +kernel
theorem dX12_sets_30 : decode cX12_sets 30 = .ok (.invokestatic 59, 3) := by decide +kernel
theorem dX12_sets_33 : decode cX12_sets 33 = .ok (.iadd, 1) := by decide +kernel
theorem dX12_sets_34 : decode cX12_sets 34 = .ok (.istore 5, 2) := by decide +kernel
theorem dX12_sets_36 : decode cX12_sets 36 = .ok (.aload_n 0, 1) := by decide +kernel
theorem dX12_sets_37 : decode cX12_sets 37 = .ok (.getfield 7, 3) := by decide +kernel
theorem dX12_sets_40 : decode cX12_sets 40 = .ok (.iload 5, 2) := by decide +kernel
theorem dX12_sets_42 : decode cX12_sets 42 = .ok (.iaload, 1) := by decide +kernel
theorem dX12_sets_43 : decode cX12_sets 43 = .ok (.istore 6, 2) := by decide +kernel
theorem dX12_sets_45 : decode cX12_sets 45 = .ok (.aload_n 0, 1) := by decide +kernel
theorem dX12_sets_46 : decode cX12_sets 46 = .ok (.getfield 7, 3) := by decide +kernel
theorem dX12_sets_49 : decode cX12_sets 49 = .ok (.iload 5, 2) := by decide +kernel
theorem dX12_sets_51 : decode cX12_sets 51 = .ok (.iload 4, 2) := by decide +kernel
theorem dX12_sets_53 : decode cX12_sets 53 = .ok (.invokestatic 122, 3) := by decide +kernel
theorem dX12_sets_56 : decode cX12_sets 56 = .ok (.iastore, 1) := by decide +kernel
theorem dX12_sets_57 : decode cX12_sets 57 = .ok (.iload 6, 2) := by decide +kernel
theorem dX12_sets_59 : decode cX12_sets 59 = .ok (.invokestatic 125, 3) := by decide +kernel
theorem dX12_sets_62 : decode cX12_sets 62 = .ok (.ireturn, 1) := by decide +kernel
theorem dX12_at_0 : decode cX12_at 0 = .ok (.iload_n 1, 1) := by decide +kernel
theorem dX12_at_1 : decode cX12_at 1 = .ok (.invokestatic 111, 3) := by decide +kernel
theorem dX12_at_4 : decode cX12_at 4 = .ok (.ifCond .eq 32, 3) := by decide +kernel
theorem dX12_at_7 : decode cX12_at 7 = .ok (.iload_n 2, 1) := by decide +kernel
theorem dX12_at_8 : decode cX12_at 8 = .ok (.iload_n 3, 1) := by decide +kernel
theorem dX12_at_9 : decode cX12_at 9 = .ok (.invokestatic 115, 3) := by decide +kernel
theorem dX12_at_12 : decode cX12_at 12 = .ok (.ifCond .eq 24, 3) := by decide +kernel
theorem dX12_at_15 : decode cX12_at 15 = .ok (.aload_n 0, 1) := by decide +kernel
theorem dX12_at_16 : decode cX12_at 16 = .ok (.getfield 7, 3) := by decide +kernel
theorem dX12_at_19 : decode cX12_at 19 = .ok (.bipush 91, 2) := by decide +kernel
theorem dX12_at_21 : decode cX12_at 21 = .ok (.iload_n 1, 1) := by decide +kernel
theorem dX12_at_22 : decode cX12_at 22 = .ok (.imul, 1) := by decide +kernel
theorem dX12_at_23 : decode cX12_at 23 = .ok (.iload_n 2, 1) := by decide +kernel
theorem dX12_at_24 : decode cX12_at 24 = .ok (.iload_n 3, 1) := by decide +kernel
theorem dX12_at_25 : decode cX12_at 25 = .ok (.invokestatic 59, 3) := by decide +kernel
theorem dX12_at_28 : decode cX12_at 28 = .ok (.iadd, 1) := by decide +kernel
theorem dX12_at_29 : decode cX12_at 29 = .ok (.iaload, 1) := by decide +kernel
theorem dX12_at_30 : decode cX12_at 30 = .ok (.invokestatic 125, 3) := by decide +kernel
theorem dX12_at_33 : decode cX12_at 33 = .ok (.goto 7, 3) := by decide +kernel
theorem dX12_at_36 : decode cX12_at 36 = .ok (.aload_n 0, 1) := by decide +kernel
theorem dX12_at_37 : decode cX12_at 37 = .ok (.invokevirtual 119, 3) := by decide +kernel
theorem dX12_at_40 : decode cX12_at 40 = .ok (.ireturn, 1) := by decide +kernel
theorem dX12_sums_0 : decode cX12_sums 0 = .ok (.iload_n 1, 1) := by decide +kernel
theorem dX12_sums_1 : decode cX12_sums 1 = .ok (.invokestatic 111, 3) := by decide +kernel
theorem dX12_sums_4 : decode cX12_sums 4 = .ok (.ifCond .eq 18, 3) := by decide +kernel
theorem dX12_sums_7 : decode cX12_sums 7 = .ok (.iload_n 2, 1) := by decide +kernel
theorem dX12_sums_8 : decode cX12_sums 8 = .ok (.invokestatic 111, 3) := by decide +kernel
theorem dX12_sums_11 : decode cX12_sums 11 = .ok (.ifCond .eq 11, 3) := by decide +kernel
theorem dX12_sums_14 : decode cX12_sums 14 = .ok (.iload 4, 2) := by decide +kernel
theorem dX12_sums_16 : decode cX12_sums 16 = .ok (.invokestatic 111, 3) := by decide +kernel
theorem dX12_sums_19 : decode cX12_sums 19 = .ok (.ifCond .ne 8, 3) := by decide +kernel
theorem dX12_sums_22 : decode cX12_sums 22 = .ok (.aload_n 0, 1) := by decide +kernel
theorem dX12_sums_23 : decode cX12_sums 23 = .ok (.invokevirtual 119, 3) := by decide +kernel
theorem dX12_sums_26 : decode cX12_sums 26 = .ok (.ireturn, 1) := by decide +kernel
theorem dX12_sums_27 : decode cX12_sums 27 = .ok (.aload_n 0, 1) := by decide +kernel
theorem dX12_sums_28 : decode cX12_sums 28 = .ok (.iload_n 2, 1) := by decide +kernel
theorem dX12_sums_29 : decode cX12_sums 29 = .ok (.bipush 24, 2) := by decide +kernel
theorem dX12_sums_31 : decode cX12_sums 31 = .ok (.invokevirtual 128, 3) := by decide +kernel
theorem dX12_sums_34 : decode cX12_sums 34 = .ok (.aload_n 0, 1) := by decide +kernel
theorem dX12_sums_35 : decode cX12_sums 35 = .ok (.iload 4, 2) := by decide +kernel
theorem dX12_sums_37 : decode cX12_sums 37 = .ok (.bipush 26, 2) := by decide +kernel
theorem dX12_sums_39 : decode cX12_sums 39 = .ok (.invokevirtual 128, 3) := by decide +kernel
theorem dX12_sums_42 : decode cX12_sums 42 = .ok (.aload_n 0, 1) := by decide +kernel
theorem dX12_sums_43 : decode cX12_sums 43 = .ok (.bipush 24, 2) := by decide +kernel
theorem dX12_sums_45 : decode cX12_sums 45 = .ok (.iload_n 3, 1) := by decide +kernel
theorem dX12_sums_46 : decode cX12_sums 46 = .ok (.invokestatic 122, 3) := by decide +kernel
theorem dX12_sums_49 : decode cX12_sums 49 = .ok (.bipush 26, 2) := by decide +kernel
theorem dX12_sums_51 : decode cX12_sums 51 = .ok (.iload 5, 2) := by decide +kernel
theorem dX12_sums_53 : decode cX12_sums 53 = .ok (.invokestatic 122, 3) := by decide +kernel
theorem dX12_sums_56 : decode cX12_sums 56 = .ok (.bipush 25, 2) := by decide +kernel
theorem dX12_sums_58 : decode cX12_sums 58 = .ok (.invokevirtual 131, 3) := by decide +kernel
theorem dX12_sums_61 : decode cX12_sums 61 = .ok (.aload_n 0, 1) := by decide +kernel
theorem dX12_sums_62 : decode cX12_sums 62 = .ok (.iload_n 1, 1) := by decide +kernel
theorem dX12_sums_63 : decode cX12_sums 63 = .ok (.bipush 25, 2) := by decide +kernel
theorem dX12_sums_65 : decode cX12_sums 65 = .ok (.invokevirtual 134, 3) := by decide +kernel
theorem dX12_sums_68 : decode cX12_sums 68 = .ok (.ireturn, 1) := by decide +kernel
theorem dX12_times_0 : decode cX12_times 0 = .ok (.iload_n 1, 1) := by decide +kernel
theorem dX12_times_1 : decode cX12_times 1 = .ok (.invokestatic 111, 3) := by decide +kernel
theorem dX12_times_4 : decode cX12_times 4 = .ok (.ifCond .eq 17, 3) := by decide +kernel
theorem dX12_times_7 : decode cX12_times 7 = .ok (.iload_n 2, 1) := by decide +kernel
theorem dX12_times_8 : decode cX12_times 8 = .ok (.invokestatic 111, 3) := by decide +kernel
theorem dX12_times_11 : decode cX12_times 11 = .ok (.ifCond .eq 10, 3) := by decide +kernel
theorem dX12_times_14 : decode cX12_times 14 = .ok (.iload_n 3, 1) := by decide +kernel
theorem dX12_times_15 : decode cX12_times 15 = .ok (.invokestatic 111, 3) := by decide +kernel
theorem dX12_times_18 : decode cX12_times 18 = .ok (.ifCond .ne 8, 3) := by decide +kernel
theorem dX12_times_21 : decode cX12_times 21 = .ok (.aload_n 0, 1) := by decide +kernel
theorem dX12_times_22 : decode cX12_times 22 = .ok (.invokevirtual 119, 3) := by decide +kernel
theorem dX12_times_25 : decode cX12_times 25 = .ok (.ireturn, 1) := by decide +kernel
theorem dX12_times_26 : decode cX12_times 26 = .ok (.aload_n 0, 1) := by decide +kernel
theorem dX12_times_27 : decode cX12_times 27 = .ok (.iload_n 2, 1) := by decide +kernel
theorem dX12_times_28 : decode cX12_times 28 = .ok (.bipush 24, 2) := by decide +kernel
theorem dX12_times_30 : decode cX12_times 30 = .ok (.invokevirtual 128, 3) := by decide +kernel
theorem dX12_times_33 : decode cX12_times 33 = .ok (.aload_n 0, 1) := by decide +kernel
theorem dX12_times_34 : decode cX12_times 34 = .ok (.iload_n 3, 1) := by decide +kernel
theorem dX12_times_35 : decode cX12_times 35 = .ok (.bipush 26, 2) := by decide +kernel
theorem dX12_times_37 : decode cX12_times 37 = .ok (.invokevirtual 128, 3) := by decide +kernel
theorem dX12_times_40 : decode cX12_times 40 = .ok (.aload_n 0, 1) := by decide +kernel
theorem dX12_times_41 : decode cX12_times 41 = .ok (.bipush 24, 2) := by decide +kernel
theorem dX12_times_43 : decode cX12_times 43 = .ok (.bipush 26, 2) := by decide +kernel
theorem dX12_times_45 : decode cX12_times 45 = .ok (.invokevirtual 137, 3) := by decide +kernel
theorem dX12_times_48 : decode cX12_times 48 = .ok (.ifCond .eq 8, 3) := by decide +kernel
theorem dX12_times_51 : decode cX12_times 51 = .ok (.aload_n 0, 1) := by decide +kernel
theorem dX12_times_52 : decode cX12_times 52 = .ok (.invokevirtual 140, 3) := by decide +kernel
theorem dX12_times_55 : decode cX12_times 55 = .ok (.ireturn, 1) := by decide +kernel
theorem dX12_times_56 : decode cX12_times 56 = .ok (.aload_n 0, 1) := by decide +kernel
theorem dX12_times_57 : decode cX12_times 57 = .ok (.bipush 24, 2) := by decide +kernel
theorem dX12_times_59 : decode cX12_times 59 = .ok (.bipush 26, 2) := by decide +kernel
theorem dX12_times_61 : decode cX12_times 61 = .ok (.bipush 25, 2) := by decide +kernel
theorem dX12_times_63 : decode cX12_times 63 = .ok (.invokevirtual 107, 3) := by decide +kernel
theorem dX12_times_66 : decode cX12_times 66 = .ok (.aload_n 0, 1) := by decide +kernel
theorem dX12_times_67 : decode cX12_times 67 = .ok (.iload_n 1, 1) := by decide +kernel
theorem dX12_times_68 : decode cX12_times 68 = .ok (.bipush 25, 2) := by decide +kernel
theorem dX12_times_70 : decode cX12_times 70 = .ok (.invokevirtual 134, 3) := by decide +kernel
theorem dX12_times_73 : decode cX12_times 73 = .ok (.ireturn, 1) := by decide +kernel
theorem dX12_bracket_0 : decode cX12_bracket 0 = .ok (.iload_n 1, 1) := by decide +kernel
theorem dX12_bracket_1 : decode cX12_bracket 1 = .ok (.invokestatic 111, 3) := by decide +kernel
theorem dX12_bracket_4 : decode cX12_bracket 4 = .ok (.ifCond .eq 17, 3) := by decide +kernel
theorem dX12_bracket_7 : decode cX12_bracket 7 = .ok (.iload_n 2, 1) := by decide +kernel
theorem dX12_bracket_8 : decode cX12_bracket 8 = .ok (.invokestatic 111, 3) := by decide +kernel
theorem dX12_bracket_11 : decode cX12_bracket 11 = .ok (.ifCond .eq 10, 3) := by decide +kernel
theorem dX12_bracket_14 : decode cX12_bracket 14 = .ok (.iload_n 3, 1) := by decide +kernel
theorem dX12_bracket_15 : decode cX12_bracket 15 = .ok (.invokestatic 111, 3) := by decide +kernel
theorem dX12_bracket_18 : decode cX12_bracket 18 = .ok (.ifCond .ne 8, 3) := by decide +kernel
theorem dX12_bracket_21 : decode cX12_bracket 21 = .ok (.aload_n 0, 1) := by decide +kernel
theorem dX12_bracket_22 : decode cX12_bracket 22 = .ok (.invokevirtual 119, 3) := by decide +kernel
theorem dX12_bracket_25 : decode cX12_bracket 25 = .ok (.ireturn, 1) := by decide +kernel
theorem dX12_bracket_26 : decode cX12_bracket 26 = .ok (.aload_n 0, 1) := by decide +kernel
theorem dX12_bracket_27 : decode cX12_bracket 27 = .ok (.iload_n 2, 1) := by decide +kernel
theorem dX12_bracket_28 : decode cX12_bracket 28 = .ok (.bipush 24, 2) := by decide +kernel
theorem dX12_bracket_30 : decode cX12_bracket 30 = .ok (.invokevirtual 128, 3) := by decide +kernel
theorem dX12_bracket_33 : decode cX12_bracket 33 = .ok (.aload_n 0, 1) := by decide +kernel
theorem dX12_bracket_34 : decode cX12_bracket 34 = .ok (.iload_n 3, 1) := by decide +kernel
theorem dX12_bracket_35 : decode cX12_bracket 35 = .ok (.bipush 26, 2) := by decide +kernel
theorem dX12_bracket_37 : decode cX12_bracket 37 = .ok (.invokevirtual 128, 3) := by decide +kernel
theorem dX12_bracket_40 : decode cX12_bracket 40 = .ok (.aload_n 0, 1) := by decide +kernel
theorem dX12_bracket_41 : decode cX12_bracket 41 = .ok (.bipush 24, 2) := by decide +kernel
theorem dX12_bracket_43 : decode cX12_bracket 43 = .ok (.bipush 26, 2) := by decide +kernel
theorem dX12_bracket_45 : decode cX12_bracket 45 = .ok (.invokevirtual 137, 3) := by decide +kernel
theorem dX12_bracket_48 : decode cX12_bracket 48 = .ok (.ifCond .eq 8, 3) := by decide +kernel
theorem dX12_bracket_51 : decode cX12_bracket 51 = .ok (.aload_n 0, 1) := by decide +kernel
theorem dX12_bracket_52 : decode cX12_bracket 52 = .ok (.invokevirtual 140, 3) := by decide +kernel
theorem dX12_bracket_55 : decode cX12_bracket 55 = .ok (.ireturn, 1) := by decide +kernel
theorem dX12_bracket_56 : decode cX12_bracket 56 = .ok (.aload_n 0, 1) := by decide +kernel
theorem dX12_bracket_57 : decode cX12_bracket 57 = .ok (.bipush 24, 2) := by decide +kernel
theorem dX12_bracket_59 : decode cX12_bracket 59 = .ok (.bipush 26, 2) := by decide +kernel
theorem dX12_bracket_61 : decode cX12_bracket 61 = .ok (.bipush 25, 2) := by decide +kernel
theorem dX12_bracket_63 : decode cX12_bracket 63 = .ok (.invokevirtual 107, 3) := by decide +kernel
theorem dX12_bracket_66 : decode cX12_bracket 66 = .ok (.aload_n 0, 1) := by decide +kernel
theorem dX12_bracket_67 : decode cX12_bracket 67 = .ok (.bipush 26, 2) := by decide +kernel
theorem dX12_bracket_69 : decode cX12_bracket 69 = .ok (.bipush 24, 2) := by decide +kernel
theorem dX12_bracket_71 : decode cX12_bracket 71 = .ok (.bipush 27, 2) := by decide +kernel
theorem dX12_bracket_73 : decode cX12_bracket 73 = .ok (.invokevirtual 107, 3) := by decide +kernel
theorem dX12_bracket_76 : decode cX12_bracket 76 = .ok (.aload_n 0, 1) := by decide +kernel
theorem dX12_bracket_77 : decode cX12_bracket 77 = .ok (.bipush 25, 2) := by decide +kernel
theorem dX12_bracket_79 : decode cX12_bracket 79 = .ok (.iconst 1, 1) := by decide +kernel
theorem dX12_bracket_80 : decode cX12_bracket 80 = .ok (.bipush 27, 2) := by decide +kernel
theorem dX12_bracket_82 : decode cX12_bracket 82 = .ok (.sipush 10006, 3) := by decide +kernel
theorem dX12_bracket_85 : decode cX12_bracket 85 = .ok (.bipush 28, 2) := by decide +kernel
theorem dX12_bracket_87 : decode cX12_bracket 87 = .ok (.invokevirtual 131, 3) := by decide +kernel
theorem dX12_bracket_90 : decode cX12_bracket 90 = .ok (.aload_n 0, 1) := by decide +kernel
theorem dX12_bracket_91 : decode cX12_bracket 91 = .ok (.iload_n 1, 1) := by decide +kernel
theorem dX12_bracket_92 : decode cX12_bracket 92 = .ok (.bipush 28, 2) := by decide +kernel
theorem dX12_bracket_94 : decode cX12_bracket 94 = .ok (.invokevirtual 134, 3) := by decide +kernel
theorem dX12_bracket_97 : decode cX12_bracket 97 = .ok (.ireturn, 1) := by decide +kernel
theorem dX12_power_0 : decode cX12_power 0 = .ok (.iload_n 1, 1) := by decide +kernel
theorem dX12_power_1 : decode cX12_power 1 = .ok (.invokestatic 111, 3) := by decide +kernel
theorem dX12_power_4 : decode cX12_power 4 = .ok (.ifCond .eq 20, 3) := by decide +kernel
theorem dX12_power_7 : decode cX12_power 7 = .ok (.iload_n 2, 1) := by decide +kernel
theorem dX12_power_8 : decode cX12_power 8 = .ok (.invokestatic 111, 3) := by decide +kernel
theorem dX12_power_11 : decode cX12_power 11 = .ok (.ifCond .eq 13, 3) := by decide +kernel
theorem dX12_power_14 : decode cX12_power 14 = .ok (.iload_n 3, 1) := by decide +kernel
theorem dX12_power_15 : decode cX12_power 15 = .ok (.iconst 0, 1) := by decide +kernel
theorem dX12_power_16 : decode cX12_power 16 = .ok (.bipush 12, 2) := by decide +kernel
theorem dX12_power_18 : decode cX12_power 18 = .ok (.invokestatic 74, 3) := by decide +kernel
theorem dX12_power_21 : decode cX12_power 21 = .ok (.ifCond .ne 8, 3) := by decide +kernel
theorem dX12_power_24 : decode cX12_power 24 = .ok (.aload_n 0, 1) := by decide +kernel
theorem dX12_power_25 : decode cX12_power 25 = .ok (.invokevirtual 119, 3) := by decide +kernel
theorem dX12_power_28 : decode cX12_power 28 = .ok (.ireturn, 1) := by decide +kernel
theorem dX12_power_29 : decode cX12_power 29 = .ok (.aload_n 0, 1) := by decide +kernel
theorem dX12_power_30 : decode cX12_power 30 = .ok (.iload_n 2, 1) := by decide +kernel
theorem dX12_power_31 : decode cX12_power 31 = .ok (.bipush 27, 2) := by decide +kernel
theorem dX12_power_33 : decode cX12_power 33 = .ok (.invokevirtual 128, 3) := by decide +kernel
theorem dX12_power_36 : decode cX12_power 36 = .ok (.aload_n 0, 1) := by decide +kernel
theorem dX12_power_37 : decode cX12_power 37 = .ok (.bipush 27, 2) := by decide +kernel
theorem dX12_power_39 : decode cX12_power 39 = .ok (.iload_n 3, 1) := by decide +kernel
theorem dX12_power_40 : decode cX12_power 40 = .ok (.invokevirtual 143, 3) := by decide +kernel
theorem dX12_power_43 : decode cX12_power 43 = .ok (.ifCond .eq 8, 3) := by decide +kernel
theorem dX12_power_46 : decode cX12_power 46 = .ok (.aload_n 0, 1) := by decide +kernel
theorem dX12_power_47 : decode cX12_power 47 = .ok (.invokevirtual 140, 3) := by decide +kernel
theorem dX12_power_50 : decode cX12_power 50 = .ok (.ireturn, 1) := by decide +kernel
theorem dX12_power_51 : decode cX12_power 51 = .ok (.aload_n 0, 1) := by decide +kernel
theorem dX12_power_52 : decode cX12_power 52 = .ok (.iload_n 3, 1) := by decide +kernel
theorem dX12_power_53 : decode cX12_power 53 = .ok (.invokevirtual 146, 3) := by decide +kernel
theorem dX12_power_56 : decode cX12_power 56 = .ok (.aload_n 0, 1) := by decide +kernel
theorem dX12_power_57 : decode cX12_power 57 = .ok (.iload_n 1, 1) := by decide +kernel
theorem dX12_power_58 : decode cX12_power 58 = .ok (.bipush 27, 2) := by decide +kernel
theorem dX12_power_60 : decode cX12_power 60 = .ok (.invokevirtual 134, 3) := by decide +kernel
theorem dX12_power_63 : decode cX12_power 63 = .ok (.ireturn, 1) := by decide +kernel
theorem dX12_reversed_0 : decode cX12_reversed 0 = .ok (.iload_n 1, 1) := by decide +kernel
theorem dX12_reversed_1 : decode cX12_reversed 1 = .ok (.invokestatic 111, 3) := by decide +kernel
theorem dX12_reversed_4 : decode cX12_reversed 4 = .ok (.ifCond .eq 10, 3) := by decide +kernel
theorem dX12_reversed_7 : decode cX12_reversed 7 = .ok (.iload_n 2, 1) := by decide +kernel
theorem dX12_reversed_8 : decode cX12_reversed 8 = .ok (.invokestatic 111, 3) := by decide +kernel
theorem dX12_reversed_11 : decode cX12_reversed 11 = .ok (.ifCond .ne 8, 3) := by decide +kernel
theorem dX12_reversed_14 : decode cX12_reversed 14 = .ok (.aload_n 0, 1) := by decide +kernel
theorem dX12_reversed_15 : decode cX12_reversed 15 = .ok (.invokevirtual 119, 3) := by decide +kernel
theorem dX12_reversed_18 : decode cX12_reversed 18 = .ok (.ireturn, 1) := by decide +kernel
theorem dX12_reversed_19 : decode cX12_reversed 19 = .ok (.aload_n 0, 1) := by decide +kernel
theorem dX12_reversed_20 : decode cX12_reversed 20 = .ok (.bipush 25, 2) := by decide +kernel
theorem dX12_reversed_22 : decode cX12_reversed 22 = .ok (.invokevirtual 78, 3) := by decide +kernel
theorem dX12_reversed_25 : decode cX12_reversed 25 = .ok (.iconst 0, 1) := by decide +kernel
theorem dX12_reversed_26 : decode cX12_reversed 26 = .ok (.istore_n 3, 1) := by decide +kernel
theorem dX12_reversed_27 : decode cX12_reversed 27 = .ok (.iload_n 3, 1) := by decide +kernel
theorem dX12_reversed_28 : decode cX12_reversed 28 = .ok (.bipush 91, 2) := by decide +kernel
theorem dX12_reversed_30 : decode cX12_reversed 30 = .ok (.if_icmp .ge 70, 3) := by decide +kernel
theorem dX12_reversed_33 : decode cX12_reversed 33 = .ok (.aload_n 0, 1) := by decide +kernel
theorem dX12_reversed_34 : decode cX12_reversed 34 = .ok (.getfield 7, 3) := by decide +kernel
theorem dX12_reversed_37 : decode cX12_reversed 37 = .ok (.bipush 91, 2) := by decide +kernel
theorem dX12_reversed_39 : decode cX12_reversed 39 = .ok (.iload_n 2, 1) := by decide +kernel
theorem dX12_reversed_40 : decode cX12_reversed 40 = .ok (.imul, 1) := by decide +kernel
theorem dX12_reversed_41 : decode cX12_reversed 41 = .ok (.iload_n 3, 1) := by decide +kernel
theorem dX12_reversed_42 : decode cX12_reversed 42 = .ok (.iadd, 1) := by decide +kernel
theorem dX12_reversed_43 : decode cX12_reversed 43 = .ok (.iaload, 1) := by decide +kernel
theorem dX12_reversed_44 : decode cX12_reversed 44 = .ok (.istore 4, 2) := by decide +kernel
theorem dX12_reversed_46 : decode cX12_reversed 46 = .ok (.iload 4, 2) := by decide +kernel
theorem dX12_reversed_48 : decode cX12_reversed 48 = .ok (.ifCond .eq 46, 3) := by decide +kernel
theorem dX12_reversed_51 : decode cX12_reversed 51 = .ok (.aload_n 0, 1) := by decide +kernel
theorem dX12_reversed_52 : decode cX12_reversed 52 = .ok (.iconst 0, 1) := by decide +kernel
theorem dX12_reversed_53 : decode cX12_reversed 53 = .ok (.aload_n 0, 1) := by decide +kernel
theorem dX12_reversed_54 : decode cX12_reversed 54 = .ok (.getfield 28, 3) := by decide +kernel
theorem dX12_reversed_57 : decode cX12_reversed 57 = .ok (.iload_n 3, 1) := by decide +kernel
theorem dX12_reversed_58 : decode cX12_reversed 58 = .ok (.iaload, 1) := by decide +kernel
theorem dX12_reversed_59 : decode cX12_reversed 59 = .ok (.aload_n 0, 1) := by decide +kernel
theorem dX12_reversed_60 : decode cX12_reversed 60 = .ok (.getfield 25, 3) := by decide +kernel
theorem dX12_reversed_63 : decode cX12_reversed 63 = .ok (.iload_n 3, 1) := by decide +kernel
theorem dX12_reversed_64 : decode cX12_reversed 64 = .ok (.iaload, 1) := by decide +kernel
theorem dX12_reversed_65 : decode cX12_reversed 65 = .ok (.iconst 0, 1) := by decide +kernel
theorem dX12_reversed_66 : decode cX12_reversed 66 = .ok (.aload_n 0, 1) := by decide +kernel
theorem dX12_reversed_67 : decode cX12_reversed 67 = .ok (.getfield 28, 3) := by decide +kernel
theorem dX12_reversed_70 : decode cX12_reversed 70 = .ok (.iload_n 3, 1) := by decide +kernel
theorem dX12_reversed_71 : decode cX12_reversed 71 = .ok (.iaload, 1) := by decide +kernel
theorem dX12_reversed_72 : decode cX12_reversed 72 = .ok (.iconst 2, 1) := by decide +kernel
theorem dX12_reversed_73 : decode cX12_reversed 73 = .ok (.irem, 1) := by decide +kernel
theorem dX12_reversed_74 : decode cX12_reversed 74 = .ok (.iconst 1, 1) := by decide +kernel
theorem dX12_reversed_75 : decode cX12_reversed 75 = .ok (.if_icmp .ne 12, 3) := by decide +kernel
theorem dX12_reversed_78 : decode cX12_reversed 78 = .ok (.sipush 10007, 3) := by decide +kernel
theorem dX12_reversed_81 : decode cX12_reversed 81 = .ok (.iload 4, 2) := by decide +kernel
theorem dX12_reversed_83 : decode cX12_reversed 83 = .ok (.isub, 1) := by decide +kernel
theorem dX12_reversed_84 : decode cX12_reversed 84 = .ok (.goto 5, 3) := by decide +kernel
theorem dX12_reversed_87 : decode cX12_reversed 87 = .ok (.iload 4, 2) := by decide +kernel
theorem dX12_reversed_89 : decode cX12_reversed 89 = .ok (.bipush 25, 2) := by decide +kernel
theorem dX12_reversed_91 : decode cX12_reversed 91 = .ok (.invokevirtual 95, 3) := by decide +kernel
theorem dX12_reversed_94 : decode cX12_reversed 94 = .ok (.iinc 3 1, 3) := by decide +kernel
theorem dX12_reversed_97 : decode cX12_reversed 97 = .ok (.goto (-70), 3) := by decide +kernel
theorem dX12_reversed_100 : decode cX12_reversed 100 = .ok (.aload_n 0, 1) := by decide +kernel
theorem dX12_reversed_101 : decode cX12_reversed 101 = .ok (.iload_n 1, 1) := by decide +kernel
theorem dX12_reversed_102 : decode cX12_reversed 102 = .ok (.bipush 25, 2) := by decide +kernel
theorem dX12_reversed_104 : decode cX12_reversed 104 = .ok (.invokevirtual 134, 3) := by decide +kernel
theorem dX12_reversed_107 : decode cX12_reversed 107 = .ok (.ireturn, 1) := by decide +kernel
theorem dX12_greatest_0 : decode cX12_greatest 0 = .ok (.bipush (-99), 2) := by decide +kernel
theorem dX12_greatest_2 : decode cX12_greatest 2 = .ok (.istore 4, 2) := by decide +kernel
theorem dX12_greatest_4 : decode cX12_greatest 4 = .ok (.iconst 0, 1) := by decide +kernel
theorem dX12_greatest_5 : decode cX12_greatest 5 = .ok (.istore 5, 2) := by decide +kernel
theorem dX12_greatest_7 : decode cX12_greatest 7 = .ok (.iload 5, 2) := by decide +kernel
theorem dX12_greatest_9 : decode cX12_greatest 9 = .ok (.bipush 91, 2) := by decide +kernel
theorem dX12_greatest_11 : decode cX12_greatest 11 = .ok (.if_icmp .ge 61, 3) := by decide +kernel
theorem dX12_greatest_14 : decode cX12_greatest 14 = .ok (.iload_n 2, 1) := by decide +kernel
theorem dX12_greatest_15 : decode cX12_greatest 15 = .ok (.aload_n 0, 1) := by decide +kernel
theorem dX12_greatest_16 : decode cX12_greatest 16 = .ok (.getfield 25, 3) := by decide +kernel
theorem dX12_greatest_19 : decode cX12_greatest 19 = .ok (.iload 5, 2) := by decide +kernel
theorem dX12_greatest_21 : decode cX12_greatest 21 = .ok (.iaload, 1) := by decide +kernel
theorem dX12_greatest_22 : decode cX12_greatest 22 = .ok (.imul, 1) := by decide +kernel
theorem dX12_greatest_23 : decode cX12_greatest 23 = .ok (.iload_n 3, 1) := by decide +kernel
theorem dX12_greatest_24 : decode cX12_greatest 24 = .ok (.aload_n 0, 1) := by decide +kernel
theorem dX12_greatest_25 : decode cX12_greatest 25 = .ok (.getfield 28, 3) := by decide +kernel
theorem dX12_greatest_28 : decode cX12_greatest 28 = .ok (.iload 5, 2) := by decide +kernel
theorem dX12_greatest_30 : decode cX12_greatest 30 = .ok (.iaload, 1) := by decide +kernel
theorem dX12_greatest_31 : decode cX12_greatest 31 = .ok (.imul, 1) := by decide +kernel
theorem dX12_greatest_32 : decode cX12_greatest 32 = .ok (.iadd, 1) := by decide +kernel
theorem dX12_greatest_33 : decode cX12_greatest 33 = .ok (.istore 6, 2) := by decide +kernel
theorem dX12_greatest_35 : decode cX12_greatest 35 = .ok (.aload_n 0, 1) := by decide +kernel
theorem dX12_greatest_36 : decode cX12_greatest 36 = .ok (.getfield 7, 3) := by decide +kernel
theorem dX12_greatest_39 : decode cX12_greatest 39 = .ok (.bipush 91, 2) := by decide +kernel
theorem dX12_greatest_41 : decode cX12_greatest 41 = .ok (.iload_n 1, 1) := by decide +kernel
theorem dX12_greatest_42 : decode cX12_greatest 42 = .ok (.imul, 1) := by decide +kernel
theorem dX12_greatest_43 : decode cX12_greatest 43 = .ok (.iload 5, 2) := by decide +kernel
theorem dX12_greatest_45 : decode cX12_greatest 45 = .ok (.iadd, 1) := by decide +kernel
theorem dX12_greatest_46 : decode cX12_greatest 46 = .ok (.iaload, 1) := by decide +kernel
theorem dX12_greatest_47 : decode cX12_greatest 47 = .ok (.ifCond .eq 15, 3) := by decide +kernel
theorem dX12_greatest_50 : decode cX12_greatest 50 = .ok (.iload 6, 2) := by decide +kernel
theorem dX12_greatest_52 : decode cX12_greatest 52 = .ok (.iload 4, 2) := by decide +kernel
theorem dX12_greatest_54 : decode cX12_greatest 54 = .ok (.if_icmp .le 8, 3) := by decide +kernel
theorem dX12_greatest_57 : decode cX12_greatest 57 = .ok (.iload 6, 2) := by decide +kernel
theorem dX12_greatest_59 : decode cX12_greatest 59 = .ok (.goto 5, 3) := by decide +kernel
theorem dX12_greatest_62 : decode cX12_greatest 62 = .ok (.iload 4, 2) := by decide +kernel
theorem dX12_greatest_64 : decode cX12_greatest 64 = .ok (.istore 4, 2) := by decide +kernel
theorem dX12_greatest_66 : decode cX12_greatest 66 = .ok (.iinc 5 1, 3) := by decide +kernel
theorem dX12_greatest_69 : decode cX12_greatest 69 = .ok (.goto (-62), 3) := by decide +kernel
theorem dX12_greatest_72 : decode cX12_greatest 72 = .ok (.iload 4, 2) := by decide +kernel
theorem dX12_greatest_74 : decode cX12_greatest 74 = .ok (.ireturn, 1) := by decide +kernel
theorem dX12_ofLead_0 : decode cX12_ofLead 0 = .ok (.aload_n 0, 1) := by decide +kernel
theorem dX12_ofLead_1 : decode cX12_ofLead 1 = .ok (.bipush 24, 2) := by decide +kernel
theorem dX12_ofLead_3 : decode cX12_ofLead 3 = .ok (.invokevirtual 149, 3) := by decide +kernel
theorem dX12_ofLead_6 : decode cX12_ofLead 6 = .ok (.istore_n 2, 1) := by decide +kernel
theorem dX12_ofLead_7 : decode cX12_ofLead 7 = .ok (.iload_n 1, 1) := by decide +kernel
theorem dX12_ofLead_8 : decode cX12_ofLead 8 = .ok (.bipush 6, 2) := by decide +kernel
theorem dX12_ofLead_10 : decode cX12_ofLead 10 = .ok (.if_icmp .ne 12, 3) := by decide +kernel
theorem dX12_ofLead_13 : decode cX12_ofLead 13 = .ok (.aload_n 0, 1) := by decide +kernel
theorem dX12_ofLead_14 : decode cX12_ofLead 14 = .ok (.getfield 25, 3) := by decide +kernel
theorem dX12_ofLead_17 : decode cX12_ofLead 17 = .ok (.iload_n 2, 1) := by decide +kernel
theorem dX12_ofLead_18 : decode cX12_ofLead 18 = .ok (.iaload, 1) := by decide +kernel
theorem dX12_ofLead_19 : decode cX12_ofLead 19 = .ok (.goto 31, 3) := by decide +kernel
theorem dX12_ofLead_22 : decode cX12_ofLead 22 = .ok (.iload_n 1, 1) := by decide +kernel
theorem dX12_ofLead_23 : decode cX12_ofLead 23 = .ok (.bipush 7, 2) := by decide +kernel
theorem dX12_ofLead_25 : decode cX12_ofLead 25 = .ok (.if_icmp .ne 12, 3) := by decide +kernel
theorem dX12_ofLead_28 : decode cX12_ofLead 28 = .ok (.aload_n 0, 1) := by decide +kernel
theorem dX12_ofLead_29 : decode cX12_ofLead 29 = .ok (.getfield 28, 3) := by decide +kernel
theorem dX12_ofLead_32 : decode cX12_ofLead 32 = .ok (.iload_n 2, 1) := by decide +kernel
theorem dX12_ofLead_33 : decode cX12_ofLead 33 = .ok (.iaload, 1) := by decide +kernel
theorem dX12_ofLead_34 : decode cX12_ofLead 34 = .ok (.goto 16, 3) := by decide +kernel
theorem dX12_ofLead_37 : decode cX12_ofLead 37 = .ok (.aload_n 0, 1) := by decide +kernel
theorem dX12_ofLead_38 : decode cX12_ofLead 38 = .ok (.getfield 22, 3) := by decide +kernel
theorem dX12_ofLead_41 : decode cX12_ofLead 41 = .ok (.sipush 11904, 3) := by decide +kernel
theorem dX12_ofLead_44 : decode cX12_ofLead 44 = .ok (.iload_n 2, 1) := by decide +kernel
theorem dX12_ofLead_45 : decode cX12_ofLead 45 = .ok (.iadd, 1) := by decide +kernel
theorem dX12_ofLead_46 : decode cX12_ofLead 46 = .ok (.iaload, 1) := by decide +kernel
theorem dX12_ofLead_47 : decode cX12_ofLead 47 = .ok (.invokestatic 125, 3) := by decide +kernel
theorem dX12_ofLead_50 : decode cX12_ofLead 50 = .ok (.ireturn, 1) := by decide +kernel
theorem dX12_aboutOf_0 : decode cX12_aboutOf 0 = .ok (.aload_n 0, 1) := by decide +kernel
theorem dX12_aboutOf_1 : decode cX12_aboutOf 1 = .ok (.iload_n 1, 1) := by decide +kernel
theorem dX12_aboutOf_2 : decode cX12_aboutOf 2 = .ok (.bipush 24, 2) := by decide +kernel
theorem dX12_aboutOf_4 : decode cX12_aboutOf 4 = .ok (.invokevirtual 128, 3) := by decide +kernel
theorem dX12_aboutOf_7 : decode cX12_aboutOf 7 = .ok (.aload_n 0, 1) := by decide +kernel
theorem dX12_aboutOf_8 : decode cX12_aboutOf 8 = .ok (.bipush 24, 2) := by decide +kernel
theorem dX12_aboutOf_10 : decode cX12_aboutOf 10 = .ok (.invokevirtual 85, 3) := by decide +kernel
theorem dX12_aboutOf_13 : decode cX12_aboutOf 13 = .ok (.istore_n 3, 1) := by decide +kernel
theorem dX12_aboutOf_14 : decode cX12_aboutOf 14 = .ok (.iload_n 2, 1) := by decide +kernel
theorem dX12_aboutOf_15 : decode cX12_aboutOf 15 = .ok (.ifCond .eq 7, 3) := by decide +kernel
theorem dX12_aboutOf_18 : decode cX12_aboutOf 18 = .ok (.iload_n 3, 1) := by decide +kernel
theorem dX12_aboutOf_19 : decode cX12_aboutOf 19 = .ok (.ifCond .ne 21, 3) := by decide +kernel
theorem dX12_aboutOf_22 : decode cX12_aboutOf 22 = .ok (.iload_n 2, 1) := by decide +kernel
theorem dX12_aboutOf_23 : decode cX12_aboutOf 23 = .ok (.ifCond .eq 9, 3) := by decide +kernel
theorem dX12_aboutOf_26 : decode cX12_aboutOf 26 = .ok (.iload_n 2, 1) := by decide +kernel
theorem dX12_aboutOf_27 : decode cX12_aboutOf 27 = .ok (.bipush 8, 2) := by decide +kernel
theorem dX12_aboutOf_29 : decode cX12_aboutOf 29 = .ok (.if_icmp .ne 7, 3) := by decide +kernel
theorem dX12_aboutOf_32 : decode cX12_aboutOf 32 = .ok (.iload_n 3, 1) := by decide +kernel
theorem dX12_aboutOf_33 : decode cX12_aboutOf 33 = .ok (.goto 6, 3) := by decide +kernel
theorem dX12_aboutOf_36 : decode cX12_aboutOf 36 = .ok (.sipush (-20001), 3) := by decide +kernel
theorem dX12_aboutOf_39 : decode cX12_aboutOf 39 = .ok (.ireturn, 1) := by decide +kernel
theorem dX12_aboutOf_40 : decode cX12_aboutOf 40 = .ok (.iload_n 2, 1) := by decide +kernel
theorem dX12_aboutOf_41 : decode cX12_aboutOf 41 = .ok (.tableswitch 75 1 5 #[35, 42, 50, 58, 66], 35) := by decide +kernel
theorem dX12_aboutOf_76 : decode cX12_aboutOf 76 = .ok (.aload_n 0, 1) := by decide +kernel
theorem dX12_aboutOf_77 : decode cX12_aboutOf 77 = .ok (.bipush 24, 2) := by decide +kernel
theorem dX12_aboutOf_79 : decode cX12_aboutOf 79 = .ok (.invokevirtual 89, 3) := by decide +kernel
theorem dX12_aboutOf_82 : decode cX12_aboutOf 82 = .ok (.ireturn, 1) := by decide +kernel
theorem dX12_aboutOf_83 : decode cX12_aboutOf 83 = .ok (.aload_n 0, 1) := by decide +kernel
theorem dX12_aboutOf_84 : decode cX12_aboutOf 84 = .ok (.iload_n 1, 1) := by decide +kernel
theorem dX12_aboutOf_85 : decode cX12_aboutOf 85 = .ok (.iconst 1, 1) := by decide +kernel
theorem dX12_aboutOf_86 : decode cX12_aboutOf 86 = .ok (.iconst 0, 1) := by decide +kernel
theorem dX12_aboutOf_87 : decode cX12_aboutOf 87 = .ok (.invokevirtual 152, 3) := by decide +kernel
theorem dX12_aboutOf_90 : decode cX12_aboutOf 90 = .ok (.ireturn, 1) := by decide +kernel
theorem dX12_aboutOf_91 : decode cX12_aboutOf 91 = .ok (.aload_n 0, 1) := by decide +kernel
theorem dX12_aboutOf_92 : decode cX12_aboutOf 92 = .ok (.iload_n 1, 1) := by decide +kernel
theorem dX12_aboutOf_93 : decode cX12_aboutOf 93 = .ok (.iconst 0, 1) := by decide +kernel
theorem dX12_aboutOf_94 : decode cX12_aboutOf 94 = .ok (.iconst 1, 1) := by decide +kernel
theorem dX12_aboutOf_95 : decode cX12_aboutOf 95 = .ok (.invokevirtual 152, 3) := by decide +kernel
theorem dX12_aboutOf_98 : decode cX12_aboutOf 98 = .ok (.ireturn, 1) := by decide +kernel
theorem dX12_aboutOf_99 : decode cX12_aboutOf 99 = .ok (.aload_n 0, 1) := by decide +kernel
theorem dX12_aboutOf_100 : decode cX12_aboutOf 100 = .ok (.iload_n 1, 1) := by decide +kernel
theorem dX12_aboutOf_101 : decode cX12_aboutOf 101 = .ok (.iconst (-1), 1) := by decide +kernel
theorem dX12_aboutOf_102 : decode cX12_aboutOf 102 = .ok (.iconst 1, 1) := by decide +kernel
theorem dX12_aboutOf_103 : decode cX12_aboutOf 103 = .ok (.invokevirtual 152, 3) := by decide +kernel
theorem dX12_aboutOf_106 : decode cX12_aboutOf 106 = .ok (.ireturn, 1) := by decide +kernel
theorem dX12_aboutOf_107 : decode cX12_aboutOf 107 = .ok (.aload_n 0, 1) := by decide +kernel
theorem dX12_aboutOf_108 : decode cX12_aboutOf 108 = .ok (.iload_n 1, 1) := by decide +kernel
theorem dX12_aboutOf_109 : decode cX12_aboutOf 109 = .ok (.iconst 1, 1) := by decide +kernel
theorem dX12_aboutOf_110 : decode cX12_aboutOf 110 = .ok (.iconst (-1), 1) := by decide +kernel
theorem dX12_aboutOf_111 : decode cX12_aboutOf 111 = .ok (.invokevirtual 152, 3) := by decide +kernel
theorem dX12_aboutOf_114 : decode cX12_aboutOf 114 = .ok (.ineg, 1) := by decide +kernel
theorem dX12_aboutOf_115 : decode cX12_aboutOf 115 = .ok (.ireturn, 1) := by decide +kernel
theorem dX12_aboutOf_116 : decode cX12_aboutOf 116 = .ok (.aload_n 0, 1) := by decide +kernel
theorem dX12_aboutOf_117 : decode cX12_aboutOf 117 = .ok (.iload_n 2, 1) := by decide +kernel
theorem dX12_aboutOf_118 : decode cX12_aboutOf 118 = .ok (.invokevirtual 156, 3) := by decide +kernel
theorem dX12_aboutOf_121 : decode cX12_aboutOf 121 = .ok (.ireturn, 1) := by decide +kernel
theorem dX12_of_0 : decode cX12_of 0 = .ok (.iload_n 1, 1) := by decide +kernel
theorem dX12_of_1 : decode cX12_of 1 = .ok (.invokestatic 111, 3) := by decide +kernel
theorem dX12_of_4 : decode cX12_of 4 = .ok (.ifCond .eq 22, 3) := by decide +kernel
theorem dX12_of_7 : decode cX12_of 7 = .ok (.iload_n 2, 1) := by decide +kernel
theorem dX12_of_8 : decode cX12_of 8 = .ok (.iconst 0, 1) := by decide +kernel
theorem dX12_of_9 : decode cX12_of 9 = .ok (.bipush 8, 2) := by decide +kernel
theorem dX12_of_11 : decode cX12_of 11 = .ok (.invokestatic 74, 3) := by decide +kernel
theorem dX12_of_14 : decode cX12_of 14 = .ok (.ifCond .eq 12, 3) := by decide +kernel
theorem dX12_of_17 : decode cX12_of 17 = .ok (.aload_n 0, 1) := by decide +kernel
theorem dX12_of_18 : decode cX12_of 18 = .ok (.iload_n 1, 1) := by decide +kernel
theorem dX12_of_19 : decode cX12_of 19 = .ok (.iload_n 2, 1) := by decide +kernel
theorem dX12_of_20 : decode cX12_of 20 = .ok (.invokevirtual 159, 3) := by decide +kernel
theorem dX12_of_23 : decode cX12_of 23 = .ok (.goto 7, 3) := by decide +kernel
theorem dX12_of_26 : decode cX12_of 26 = .ok (.aload_n 0, 1) := by decide +kernel
theorem dX12_of_27 : decode cX12_of 27 = .ok (.invokevirtual 119, 3) := by decide +kernel
theorem dX12_of_30 : decode cX12_of 30 = .ok (.ireturn, 1) := by decide +kernel
theorem dX12_order_0 : decode cX12_order 0 = .ok (.iload_n 1, 1) := by decide +kernel
theorem dX12_order_1 : decode cX12_order 1 = .ok (.iconst 0, 1) := by decide +kernel
theorem dX12_order_2 : decode cX12_order 2 = .ok (.iconst 1, 1) := by decide +kernel
theorem dX12_order_3 : decode cX12_order 3 = .ok (.invokestatic 74, 3) := by decide +kernel
theorem dX12_order_6 : decode cX12_order 6 = .ok (.ifCond .ne 8, 3) := by decide +kernel
theorem dX12_order_9 : decode cX12_order 9 = .ok (.aload_n 0, 1) := by decide +kernel
theorem dX12_order_10 : decode cX12_order 10 = .ok (.invokevirtual 119, 3) := by decide +kernel
theorem dX12_order_13 : decode cX12_order 13 = .ok (.ireturn, 1) := by decide +kernel
theorem dX12_order_14 : decode cX12_order 14 = .ok (.aload_n 0, 1) := by decide +kernel
theorem dX12_order_15 : decode cX12_order 15 = .ok (.invokevirtual 82, 3) := by decide +kernel
theorem dX12_order_18 : decode cX12_order 18 = .ok (.aload_n 0, 1) := by decide +kernel
theorem dX12_order_19 : decode cX12_order 19 = .ok (.getfield 7, 3) := by decide +kernel
theorem dX12_order_22 : decode cX12_order 22 = .ok (.sipush 608, 3) := by decide +kernel
theorem dX12_order_25 : decode cX12_order 25 = .ok (.iaload, 1) := by decide +kernel
theorem dX12_order_26 : decode cX12_order 26 = .ok (.istore_n 2, 1) := by decide +kernel
theorem dX12_order_27 : decode cX12_order 27 = .ok (.aload_n 0, 1) := by decide +kernel
theorem dX12_order_28 : decode cX12_order 28 = .ok (.getfield 7, 3) := by decide +kernel
theorem dX12_order_31 : decode cX12_order 31 = .ok (.sipush 608, 3) := by decide +kernel
theorem dX12_order_34 : decode cX12_order 34 = .ok (.iload_n 1, 1) := by decide +kernel
theorem dX12_order_35 : decode cX12_order 35 = .ok (.iastore, 1) := by decide +kernel
theorem dX12_order_36 : decode cX12_order 36 = .ok (.iload_n 2, 1) := by decide +kernel
theorem dX12_order_37 : decode cX12_order 37 = .ok (.ireturn, 1) := by decide +kernel
theorem dX12_isPolynomial_0 : decode cX12_isPolynomial 0 = .ok (.iload_n 0, 1) := by decide +kernel
theorem dX12_isPolynomial_1 : decode cX12_isPolynomial 1 = .ok (.iconst 0, 1) := by decide +kernel
theorem dX12_isPolynomial_2 : decode cX12_isPolynomial 2 = .ok (.iconst 1, 1) := by decide +kernel
theorem dX12_isPolynomial_3 : decode cX12_isPolynomial 3 = .ok (.invokestatic 74, 3) := by decide +kernel
theorem dX12_isPolynomial_6 : decode cX12_isPolynomial 6 = .ok (.ireturn, 1) := by decide +kernel
theorem dX12_rateAt_0 : decode cX12_rateAt 0 = .ok (.sipush 546, 3) := by decide +kernel
theorem dX12_rateAt_3 : decode cX12_rateAt 3 = .ok (.bipush 31, 2) := by decide +kernel
theorem dX12_rateAt_5 : decode cX12_rateAt 5 = .ok (.iload_n 0, 1) := by decide +kernel
theorem dX12_rateAt_6 : decode cX12_rateAt 6 = .ok (.imul, 1) := by decide +kernel
theorem dX12_rateAt_7 : decode cX12_rateAt 7 = .ok (.iadd, 1) := by decide +kernel
theorem dX12_rateAt_8 : decode cX12_rateAt 8 = .ok (.iload_n 1, 1) := by decide +kernel
theorem dX12_rateAt_9 : decode cX12_rateAt 9 = .ok (.iadd, 1) := by decide +kernel
theorem dX12_rateAt_10 : decode cX12_rateAt 10 = .ok (.ireturn, 1) := by decide +kernel
theorem dX12_puts_0 : decode cX12_puts 0 = .ok (.iload_n 1, 1) := by decide +kernel
theorem dX12_puts_1 : decode cX12_puts 1 = .ok (.invokestatic 162, 3) := by decide +kernel
theorem dX12_puts_4 : decode cX12_puts 4 = .ok (.ifCond .eq 13, 3) := by decide +kernel
theorem dX12_puts_7 : decode cX12_puts 7 = .ok (.iload_n 2, 1) := by decide +kernel
theorem dX12_puts_8 : decode cX12_puts 8 = .ok (.iconst 0, 1) := by decide +kernel
theorem dX12_puts_9 : decode cX12_puts 9 = .ok (.bipush 30, 2) := by decide +kernel
theorem dX12_puts_11 : decode cX12_puts 11 = .ok (.invokestatic 74, 3) := by decide +kernel
theorem dX12_puts_14 : decode cX12_puts 14 = .ok (.ifCond .ne 8, 3) := by decide +kernel
theorem dX12_puts_17 : decode cX12_puts 17 = .ok (.aload_n 0, 1) := by decide +kernel
theorem dX12_puts_18 : decode cX12_puts 18 = .ok (.invokevirtual 119, 3) := by decide +kernel
theorem dX12_puts_21 : decode cX12_puts 21 = .ok (.ireturn, 1) := by decide +kernel
theorem dX12_puts_22 : decode cX12_puts 22 = .ok (.aload_n 0, 1) := by decide +kernel
theorem dX12_puts_23 : decode cX12_puts 23 = .ok (.invokevirtual 82, 3) := by decide +kernel
theorem dX12_puts_26 : decode cX12_puts 26 = .ok (.aload_n 0, 1) := by decide +kernel
theorem dX12_puts_27 : decode cX12_puts 27 = .ok (.getfield 7, 3) := by decide +kernel
theorem dX12_puts_30 : decode cX12_puts 30 = .ok (.iload_n 1, 1) := by decide +kernel
theorem dX12_puts_31 : decode cX12_puts 31 = .ok (.iload_n 2, 1) := by decide +kernel
theorem dX12_puts_32 : decode cX12_puts 32 = .ok (.invokestatic 165, 3) := by decide +kernel
theorem dX12_puts_35 : decode cX12_puts 35 = .ok (.iaload, 1) := by decide +kernel
theorem dX12_puts_36 : decode cX12_puts 36 = .ok (.istore 4, 2) := by decide +kernel
theorem dX12_puts_38 : decode cX12_puts 38 = .ok (.aload_n 0, 1) := by decide +kernel
theorem dX12_puts_39 : decode cX12_puts 39 = .ok (.getfield 7, 3) := by decide +kernel
theorem dX12_puts_42 : decode cX12_puts 42 = .ok (.iload_n 1, 1) := by decide +kernel
theorem dX12_puts_43 : decode cX12_puts 43 = .ok (.iload_n 2, 1) := by decide +kernel
theorem dX12_puts_44 : decode cX12_puts 44 = .ok (.invokestatic 165, 3) := by decide +kernel
theorem dX12_puts_47 : decode cX12_puts 47 = .ok (.iload_n 3, 1) := by decide +kernel
theorem dX12_puts_48 : decode cX12_puts 48 = .ok (.invokestatic 122, 3) := by decide +kernel
theorem dX12_puts_51 : decode cX12_puts 51 = .ok (.iastore, 1) := by decide +kernel
theorem dX12_puts_52 : decode cX12_puts 52 = .ok (.iload 4, 2) := by decide +kernel
theorem dX12_puts_54 : decode cX12_puts 54 = .ok (.invokestatic 125, 3) := by decide +kernel
theorem dX12_puts_57 : decode cX12_puts 57 = .ok (.ireturn, 1) := by decide +kernel
theorem dX12_rate_0 : decode cX12_rate 0 = .ok (.iload_n 1, 1) := by decide +kernel
theorem dX12_rate_1 : decode cX12_rate 1 = .ok (.invokestatic 162, 3) := by decide +kernel
theorem dX12_rate_4 : decode cX12_rate 4 = .ok (.ifCond .eq 29, 3) := by decide +kernel
theorem dX12_rate_7 : decode cX12_rate 7 = .ok (.iload_n 2, 1) := by decide +kernel
theorem dX12_rate_8 : decode cX12_rate 8 = .ok (.iconst 0, 1) := by decide +kernel
theorem dX12_rate_9 : decode cX12_rate 9 = .ok (.bipush 30, 2) := by decide +kernel
theorem dX12_rate_11 : decode cX12_rate 11 = .ok (.invokestatic 74, 3) := by decide +kernel
theorem dX12_rate_14 : decode cX12_rate 14 = .ok (.ifCond .eq 19, 3) := by decide +kernel
theorem dX12_rate_17 : decode cX12_rate 17 = .ok (.aload_n 0, 1) := by decide +kernel
theorem dX12_rate_18 : decode cX12_rate 18 = .ok (.getfield 7, 3) := by decide +kernel
theorem dX12_rate_21 : decode cX12_rate 21 = .ok (.iload_n 1, 1) := by decide +kernel
theorem dX12_rate_22 : decode cX12_rate 22 = .ok (.iload_n 2, 1) := by decide +kernel
theorem dX12_rate_23 : decode cX12_rate 23 = .ok (.invokestatic 165, 3) := by decide +kernel
theorem dX12_rate_26 : decode cX12_rate 26 = .ok (.iaload, 1) := by decide +kernel
theorem dX12_rate_27 : decode cX12_rate 27 = .ok (.invokestatic 125, 3) := by decide +kernel
theorem dX12_rate_30 : decode cX12_rate 30 = .ok (.goto 7, 3) := by decide +kernel
theorem dX12_rate_33 : decode cX12_rate 33 = .ok (.aload_n 0, 1) := by decide +kernel
theorem dX12_rate_34 : decode cX12_rate 34 = .ok (.invokevirtual 119, 3) := by decide +kernel
theorem dX12_rate_37 : decode cX12_rate 37 = .ok (.ireturn, 1) := by decide +kernel
theorem dX12_falls_0 : decode cX12_falls 0 = .ok (.iconst 1, 1) := by decide +kernel
theorem dX12_falls_1 : decode cX12_falls 1 = .ok (.istore_n 2, 1) := by decide +kernel
theorem dX12_falls_2 : decode cX12_falls 2 = .ok (.iconst 0, 1) := by decide +kernel
theorem dX12_falls_3 : decode cX12_falls 3 = .ok (.istore_n 3, 1) := by decide +kernel
theorem dX12_falls_4 : decode cX12_falls 4 = .ok (.iload_n 3, 1) := by decide +kernel
theorem dX12_falls_5 : decode cX12_falls 5 = .ok (.iload_n 1, 1) := by decide +kernel
theorem dX12_falls_6 : decode cX12_falls 6 = .ok (.if_icmp .ge 19, 3) := by decide +kernel
theorem dX12_falls_9 : decode cX12_falls 9 = .ok (.iload_n 2, 1) := by decide +kernel
theorem dX12_falls_10 : decode cX12_falls 10 = .ok (.iload_n 0, 1) := by decide +kernel
theorem dX12_falls_11 : decode cX12_falls 11 = .ok (.iload_n 3, 1) := by decide +kernel
theorem dX12_falls_12 : decode cX12_falls 12 = .ok (.isub, 1) := by decide +kernel
theorem dX12_falls_13 : decode cX12_falls 13 = .ok (.imul, 1) := by decide +kernel
theorem dX12_falls_14 : decode cX12_falls 14 = .ok (.sipush 10007, 3) := by decide +kernel
theorem dX12_falls_17 : decode cX12_falls 17 = .ok (.irem, 1) := by decide +kernel
theorem dX12_falls_18 : decode cX12_falls 18 = .ok (.istore_n 2, 1) := by decide +kernel
theorem dX12_falls_19 : decode cX12_falls 19 = .ok (.iinc 3 1, 3) := by decide +kernel
theorem dX12_falls_22 : decode cX12_falls 22 = .ok (.goto (-18), 3) := by decide +kernel
theorem dX12_falls_25 : decode cX12_falls 25 = .ok (.iload_n 2, 1) := by decide +kernel
theorem dX12_falls_26 : decode cX12_falls 26 = .ok (.ireturn, 1) := by decide +kernel
theorem dX12_greatestPower_0 : decode cX12_greatestPower 0 = .ok (.bipush 30, 2) := by decide +kernel
theorem dX12_greatestPower_2 : decode cX12_greatestPower 2 = .ok (.istore_n 2, 1) := by decide +kernel
theorem dX12_greatestPower_3 : decode cX12_greatestPower 3 = .ok (.iload_n 2, 1) := by decide +kernel
theorem dX12_greatestPower_4 : decode cX12_greatestPower 4 = .ok (.ifCond .lt 22, 3) := by decide +kernel
theorem dX12_greatestPower_7 : decode cX12_greatestPower 7 = .ok (.aload_n 0, 1) := by decide +kernel
theorem dX12_greatestPower_8 : decode cX12_greatestPower 8 = .ok (.getfield 7, 3) := by decide +kernel
theorem dX12_greatestPower_11 : decode cX12_greatestPower 11 = .ok (.iload_n 1, 1) := by decide +kernel
theorem dX12_greatestPower_12 : decode cX12_greatestPower 12 = .ok (.iload_n 2, 1) := by decide +kernel
theorem dX12_greatestPower_13 : decode cX12_greatestPower 13 = .ok (.invokestatic 165, 3) := by decide +kernel
theorem dX12_greatestPower_16 : decode cX12_greatestPower 16 = .ok (.iaload, 1) := by decide +kernel
theorem dX12_greatestPower_17 : decode cX12_greatestPower 17 = .ok (.ifCond .ne 9, 3) := by decide +kernel
theorem dX12_greatestPower_20 : decode cX12_greatestPower 20 = .ok (.iinc 2 (-1), 3) := by decide +kernel
theorem dX12_greatestPower_23 : decode cX12_greatestPower 23 = .ok (.goto (-20), 3) := by decide +kernel
theorem dX12_greatestPower_26 : decode cX12_greatestPower 26 = .ok (.iload_n 2, 1) := by decide +kernel
theorem dX12_greatestPower_27 : decode cX12_greatestPower 27 = .ok (.ireturn, 1) := by decide +kernel
theorem dX12_canMake_0 : decode cX12_canMake 0 = .ok (.iconst 0, 1) := by decide +kernel
theorem dX12_canMake_1 : decode cX12_canMake 1 = .ok (.istore_n 3, 1) := by decide +kernel
theorem dX12_canMake_2 : decode cX12_canMake 2 = .ok (.iload_n 3, 1) := by decide +kernel
theorem dX12_canMake_3 : decode cX12_canMake 3 = .ok (.bipush 31, 2) := by decide +kernel
theorem dX12_canMake_5 : decode cX12_canMake 5 = .ok (.if_icmp .ge 16, 3) := by decide +kernel
theorem dX12_canMake_8 : decode cX12_canMake 8 = .ok (.aload_n 0, 1) := by decide +kernel
theorem dX12_canMake_9 : decode cX12_canMake 9 = .ok (.getfield 34, 3) := by decide +kernel
theorem dX12_canMake_12 : decode cX12_canMake 12 = .ok (.iload_n 3, 1) := by decide +kernel
theorem dX12_canMake_13 : decode cX12_canMake 13 = .ok (.iconst 0, 1) := by decide +kernel
theorem dX12_canMake_14 : decode cX12_canMake 14 = .ok (.iastore, 1) := by decide +kernel
theorem dX12_canMake_15 : decode cX12_canMake 15 = .ok (.iinc 3 1, 3) := by decide +kernel
theorem dX12_canMake_18 : decode cX12_canMake 18 = .ok (.goto (-16), 3) := by decide +kernel
theorem dX12_canMake_21 : decode cX12_canMake 21 = .ok (.iconst 1, 1) := by decide +kernel
theorem dX12_canMake_22 : decode cX12_canMake 22 = .ok (.istore_n 3, 1) := by decide +kernel
theorem dX12_canMake_23 : decode cX12_canMake 23 = .ok (.iconst 0, 1) := by decide +kernel
theorem dX12_canMake_24 : decode cX12_canMake 24 = .ok (.istore 4, 2) := by decide +kernel
theorem dX12_canMake_26 : decode cX12_canMake 26 = .ok (.iload 4, 2) := by decide +kernel
theorem dX12_canMake_28 : decode cX12_canMake 28 = .ok (.sipush 2821, 3) := by decide +kernel
theorem dX12_canMake_31 : decode cX12_canMake 31 = .ok (.if_icmp .ge 145, 3) := by decide +kernel
theorem dX12_canMake_34 : decode cX12_canMake 34 = .ok (.iload 4, 2) := by decide +kernel
theorem dX12_canMake_36 : decode cX12_canMake 36 = .ok (.bipush 31, 2) := by decide +kernel
theorem dX12_canMake_38 : decode cX12_canMake 38 = .ok (.idiv, 1) := by decide +kernel
theorem dX12_canMake_39 : decode cX12_canMake 39 = .ok (.istore 5, 2) := by decide +kernel
theorem dX12_canMake_41 : decode cX12_canMake 41 = .ok (.iload 4, 2) := by decide +kernel
theorem dX12_canMake_43 : decode cX12_canMake 43 = .ok (.bipush 31, 2) := by decide +kernel
theorem dX12_canMake_45 : decode cX12_canMake 45 = .ok (.irem, 1) := by decide +kernel
theorem dX12_canMake_46 : decode cX12_canMake 46 = .ok (.istore 6, 2) := by decide +kernel
theorem dX12_canMake_48 : decode cX12_canMake 48 = .ok (.aload_n 0, 1) := by decide +kernel
theorem dX12_canMake_49 : decode cX12_canMake 49 = .ok (.getfield 7, 3) := by decide +kernel
theorem dX12_canMake_52 : decode cX12_canMake 52 = .ok (.bipush 91, 2) := by decide +kernel
theorem dX12_canMake_54 : decode cX12_canMake 54 = .ok (.iload_n 1, 1) := by decide +kernel
theorem dX12_canMake_55 : decode cX12_canMake 55 = .ok (.imul, 1) := by decide +kernel
theorem dX12_canMake_56 : decode cX12_canMake 56 = .ok (.iload 5, 2) := by decide +kernel
theorem dX12_canMake_58 : decode cX12_canMake 58 = .ok (.iadd, 1) := by decide +kernel
theorem dX12_canMake_59 : decode cX12_canMake 59 = .ok (.iaload, 1) := by decide +kernel
theorem dX12_canMake_60 : decode cX12_canMake 60 = .ok (.aload_n 0, 1) := by decide +kernel
theorem dX12_canMake_61 : decode cX12_canMake 61 = .ok (.getfield 7, 3) := by decide +kernel
theorem dX12_canMake_64 : decode cX12_canMake 64 = .ok (.iload_n 2, 1) := by decide +kernel
theorem dX12_canMake_65 : decode cX12_canMake 65 = .ok (.iload 6, 2) := by decide +kernel
theorem dX12_canMake_67 : decode cX12_canMake 67 = .ok (.invokestatic 165, 3) := by decide +kernel
theorem dX12_canMake_70 : decode cX12_canMake 70 = .ok (.iaload, 1) := by decide +kernel
theorem dX12_canMake_71 : decode cX12_canMake 71 = .ok (.imul, 1) := by decide +kernel
theorem dX12_canMake_72 : decode cX12_canMake 72 = .ok (.sipush 10007, 3) := by decide +kernel
theorem dX12_canMake_75 : decode cX12_canMake 75 = .ok (.irem, 1) := by decide +kernel
theorem dX12_canMake_76 : decode cX12_canMake 76 = .ok (.istore 7, 2) := by decide +kernel
theorem dX12_canMake_78 : decode cX12_canMake 78 = .ok (.iload 7, 2) := by decide +kernel
theorem dX12_canMake_80 : decode cX12_canMake 80 = .ok (.ifCond .eq 90, 3) := by decide +kernel
theorem dX12_canMake_83 : decode cX12_canMake 83 = .ok (.iload 6, 2) := by decide +kernel
theorem dX12_canMake_85 : decode cX12_canMake 85 = .ok (.aload_n 0, 1) := by decide +kernel
theorem dX12_canMake_86 : decode cX12_canMake 86 = .ok (.getfield 28, 3) := by decide +kernel
theorem dX12_canMake_89 : decode cX12_canMake 89 = .ok (.iload 5, 2) := by decide +kernel
theorem dX12_canMake_91 : decode cX12_canMake 91 = .ok (.iaload, 1) := by decide +kernel
theorem dX12_canMake_92 : decode cX12_canMake 92 = .ok (.if_icmp .lt 78, 3) := by decide +kernel
theorem dX12_canMake_95 : decode cX12_canMake 95 = .ok (.iload 6, 2) := by decide +kernel
theorem dX12_canMake_97 : decode cX12_canMake 97 = .ok (.aload_n 0, 1) := by decide +kernel
theorem dX12_canMake_98 : decode cX12_canMake 98 = .ok (.getfield 28, 3) := by decide +kernel
theorem dX12_canMake_101 : decode cX12_canMake 101 = .ok (.iload 5, 2) := by decide +kernel
theorem dX12_canMake_103 : decode cX12_canMake 103 = .ok (.iaload, 1) := by decide +kernel
theorem dX12_canMake_104 : decode cX12_canMake 104 = .ok (.isub, 1) := by decide +kernel
theorem dX12_canMake_105 : decode cX12_canMake 105 = .ok (.aload_n 0, 1) := by decide +kernel
theorem dX12_canMake_106 : decode cX12_canMake 106 = .ok (.getfield 25, 3) := by decide +kernel
theorem dX12_canMake_109 : decode cX12_canMake 109 = .ok (.iload 5, 2) := by decide +kernel
theorem dX12_canMake_111 : decode cX12_canMake 111 = .ok (.iaload, 1) := by decide +kernel
theorem dX12_canMake_112 : decode cX12_canMake 112 = .ok (.iadd, 1) := by decide +kernel
theorem dX12_canMake_113 : decode cX12_canMake 113 = .ok (.istore 8, 2) := by decide +kernel
theorem dX12_canMake_115 : decode cX12_canMake 115 = .ok (.iload_n 3, 1) := by decide +kernel
theorem dX12_canMake_116 : decode cX12_canMake 116 = .ok (.ifCond .eq 14, 3) := by decide +kernel
theorem dX12_canMake_119 : decode cX12_canMake 119 = .ok (.iload 8, 2) := by decide +kernel
theorem dX12_canMake_121 : decode cX12_canMake 121 = .ok (.bipush 31, 2) := by decide +kernel
theorem dX12_canMake_123 : decode cX12_canMake 123 = .ok (.if_icmp .ge 7, 3) := by decide +kernel
theorem dX12_canMake_126 : decode cX12_canMake 126 = .ok (.iconst 1, 1) := by decide +kernel
theorem dX12_canMake_127 : decode cX12_canMake 127 = .ok (.goto 4, 3) := by decide +kernel
theorem dX12_canMake_130 : decode cX12_canMake 130 = .ok (.iconst 0, 1) := by decide +kernel
theorem dX12_canMake_131 : decode cX12_canMake 131 = .ok (.istore_n 3, 1) := by decide +kernel
theorem dX12_canMake_132 : decode cX12_canMake 132 = .ok (.iload_n 3, 1) := by decide +kernel
theorem dX12_canMake_133 : decode cX12_canMake 133 = .ok (.ifCond .eq 37, 3) := by decide +kernel
theorem dX12_canMake_136 : decode cX12_canMake 136 = .ok (.aload_n 0, 1) := by decide +kernel
theorem dX12_canMake_137 : decode cX12_canMake 137 = .ok (.getfield 34, 3) := by decide +kernel
theorem dX12_canMake_140 : decode cX12_canMake 140 = .ok (.iload 8, 2) := by decide +kernel
theorem dX12_canMake_142 : decode cX12_canMake 142 = .ok (.aload_n 0, 1) := by decide +kernel
theorem dX12_canMake_143 : decode cX12_canMake 143 = .ok (.getfield 34, 3) := by decide +kernel
theorem dX12_canMake_146 : decode cX12_canMake 146 = .ok (.iload 8, 2) := by decide +kernel
theorem dX12_canMake_148 : decode cX12_canMake 148 = .ok (.iaload, 1) := by decide +kernel
theorem dX12_canMake_149 : decode cX12_canMake 149 = .ok (.iload 7, 2) := by decide +kernel
theorem dX12_canMake_151 : decode cX12_canMake 151 = .ok (.iload 6, 2) := by decide +kernel
theorem dX12_canMake_153 : decode cX12_canMake 153 = .ok (.aload_n 0, 1) := by decide +kernel
theorem dX12_canMake_154 : decode cX12_canMake 154 = .ok (.getfield 28, 3) := by decide +kernel
theorem dX12_canMake_157 : decode cX12_canMake 157 = .ok (.iload 5, 2) := by decide +kernel
theorem dX12_canMake_159 : decode cX12_canMake 159 = .ok (.iaload, 1) := by decide +kernel
theorem dX12_canMake_160 : decode cX12_canMake 160 = .ok (.invokestatic 168, 3) := by decide +kernel
theorem dX12_canMake_163 : decode cX12_canMake 163 = .ok (.imul, 1) := by decide +kernel
theorem dX12_canMake_164 : decode cX12_canMake 164 = .ok (.iadd, 1) := by decide +kernel
theorem dX12_canMake_165 : decode cX12_canMake 165 = .ok (.sipush 10007, 3) := by decide +kernel
theorem dX12_canMake_168 : decode cX12_canMake 168 = .ok (.irem, 1) := by decide +kernel
theorem dX12_canMake_169 : decode cX12_canMake 169 = .ok (.iastore, 1) := by decide +kernel
theorem dX12_canMake_170 : decode cX12_canMake 170 = .ok (.iinc 4 1, 3) := by decide +kernel
theorem dX12_canMake_173 : decode cX12_canMake 173 = .ok (.goto (-147), 3) := by decide +kernel
theorem dX12_canMake_176 : decode cX12_canMake 176 = .ok (.iload_n 3, 1) := by decide +kernel
theorem dX12_canMake_177 : decode cX12_canMake 177 = .ok (.ireturn, 1) := by decide +kernel
theorem dX12_makes_0 : decode cX12_makes 0 = .ok (.iload_n 1, 1) := by decide +kernel
theorem dX12_makes_1 : decode cX12_makes 1 = .ok (.invokestatic 162, 3) := by decide +kernel
theorem dX12_makes_4 : decode cX12_makes 4 = .ok (.ifCond .eq 17, 3) := by decide +kernel
theorem dX12_makes_7 : decode cX12_makes 7 = .ok (.iload_n 2, 1) := by decide +kernel
theorem dX12_makes_8 : decode cX12_makes 8 = .ok (.invokestatic 111, 3) := by decide +kernel
theorem dX12_makes_11 : decode cX12_makes 11 = .ok (.ifCond .eq 10, 3) := by decide +kernel
theorem dX12_makes_14 : decode cX12_makes 14 = .ok (.iload_n 3, 1) := by decide +kernel
theorem dX12_makes_15 : decode cX12_makes 15 = .ok (.invokestatic 162, 3) := by decide +kernel
theorem dX12_makes_18 : decode cX12_makes 18 = .ok (.ifCond .ne 8, 3) := by decide +kernel
theorem dX12_makes_21 : decode cX12_makes 21 = .ok (.aload_n 0, 1) := by decide +kernel
theorem dX12_makes_22 : decode cX12_makes 22 = .ok (.invokevirtual 119, 3) := by decide +kernel
theorem dX12_makes_25 : decode cX12_makes 25 = .ok (.ireturn, 1) := by decide +kernel
theorem dX12_makes_26 : decode cX12_makes 26 = .ok (.aload_n 0, 1) := by decide +kernel
theorem dX12_makes_27 : decode cX12_makes 27 = .ok (.iload_n 2, 1) := by decide +kernel
theorem dX12_makes_28 : decode cX12_makes 28 = .ok (.iload_n 3, 1) := by decide +kernel
theorem dX12_makes_29 : decode cX12_makes 29 = .ok (.invokevirtual 171, 3) := by decide +kernel
theorem dX12_makes_32 : decode cX12_makes 32 = .ok (.ifCond .ne 8, 3) := by decide +kernel
theorem dX12_makes_35 : decode cX12_makes 35 = .ok (.aload_n 0, 1) := by decide +kernel
theorem dX12_makes_36 : decode cX12_makes 36 = .ok (.invokevirtual 140, 3) := by decide +kernel
theorem dX12_makes_39 : decode cX12_makes 39 = .ok (.ireturn, 1) := by decide +kernel
theorem dX12_makes_40 : decode cX12_makes 40 = .ok (.aload_n 0, 1) := by decide +kernel
theorem dX12_makes_41 : decode cX12_makes 41 = .ok (.invokevirtual 82, 3) := by decide +kernel
theorem dX12_makes_44 : decode cX12_makes 44 = .ok (.iconst 0, 1) := by decide +kernel
theorem dX12_makes_45 : decode cX12_makes 45 = .ok (.istore 4, 2) := by decide +kernel
theorem dX12_makes_47 : decode cX12_makes 47 = .ok (.iload 4, 2) := by decide +kernel
theorem dX12_makes_49 : decode cX12_makes 49 = .ok (.bipush 31, 2) := by decide +kernel
theorem dX12_makes_51 : decode cX12_makes 51 = .ok (.if_icmp .ge 27, 3) := by decide +kernel
theorem dX12_makes_54 : decode cX12_makes 54 = .ok (.aload_n 0, 1) := by decide +kernel
theorem dX12_makes_55 : decode cX12_makes 55 = .ok (.getfield 7, 3) := by decide +kernel
theorem dX12_makes_58 : decode cX12_makes 58 = .ok (.iload_n 1, 1) := by decide +kernel
theorem dX12_makes_59 : decode cX12_makes 59 = .ok (.iload 4, 2) := by decide +kernel
theorem dX12_makes_61 : decode cX12_makes 61 = .ok (.invokestatic 165, 3) := by decide +kernel
theorem dX12_makes_64 : decode cX12_makes 64 = .ok (.aload_n 0, 1) := by decide +kernel
theorem dX12_makes_65 : decode cX12_makes 65 = .ok (.getfield 34, 3) := by decide +kernel
theorem dX12_makes_68 : decode cX12_makes 68 = .ok (.iload 4, 2) := by decide +kernel
theorem dX12_makes_70 : decode cX12_makes 70 = .ok (.iaload, 1) := by decide +kernel
theorem dX12_makes_71 : decode cX12_makes 71 = .ok (.iastore, 1) := by decide +kernel
theorem dX12_makes_72 : decode cX12_makes 72 = .ok (.iinc 4 1, 3) := by decide +kernel
theorem dX12_makes_75 : decode cX12_makes 75 = .ok (.goto (-28), 3) := by decide +kernel
theorem dX12_makes_78 : decode cX12_makes 78 = .ok (.aload_n 0, 1) := by decide +kernel
theorem dX12_makes_79 : decode cX12_makes 79 = .ok (.iload_n 1, 1) := by decide +kernel
theorem dX12_makes_80 : decode cX12_makes 80 = .ok (.invokevirtual 174, 3) := by decide +kernel
theorem dX12_makes_83 : decode cX12_makes 83 = .ok (.istore 4, 2) := by decide +kernel
theorem dX12_makes_85 : decode cX12_makes 85 = .ok (.iload 4, 2) := by decide +kernel
theorem dX12_makes_87 : decode cX12_makes 87 = .ok (.ifCond .ge 9, 3) := by decide +kernel
theorem dX12_makes_90 : decode cX12_makes 90 = .ok (.sipush (-20001), 3) := by decide +kernel
theorem dX12_makes_93 : decode cX12_makes 93 = .ok (.goto 5, 3) := by decide +kernel
theorem dX12_makes_96 : decode cX12_makes 96 = .ok (.iload 4, 2) := by decide +kernel
theorem dX12_makes_98 : decode cX12_makes 98 = .ok (.ireturn, 1) := by decide +kernel
theorem dX12_inverseOf_0 : decode cX12_inverseOf 0 = .ok (.iconst 1, 1) := by decide +kernel
theorem dX12_inverseOf_1 : decode cX12_inverseOf 1 = .ok (.istore_n 1, 1) := by decide +kernel
theorem dX12_inverseOf_2 : decode cX12_inverseOf 2 = .ok (.iload_n 0, 1) := by decide +kernel
theorem dX12_inverseOf_3 : decode cX12_inverseOf 3 = .ok (.istore_n 2, 1) := by decide +kernel
theorem dX12_inverseOf_4 : decode cX12_inverseOf 4 = .ok (.sipush 10005, 3) := by decide +kernel
theorem dX12_inverseOf_7 : decode cX12_inverseOf 7 = .ok (.istore_n 3, 1) := by decide +kernel
theorem dX12_inverseOf_8 : decode cX12_inverseOf 8 = .ok (.iload_n 3, 1) := by decide +kernel
theorem dX12_inverseOf_9 : decode cX12_inverseOf 9 = .ok (.ifCond .le 37, 3) := by decide +kernel
theorem dX12_inverseOf_12 : decode cX12_inverseOf 12 = .ok (.iload_n 3, 1) := by decide +kernel
theorem dX12_inverseOf_13 : decode cX12_inverseOf 13 = .ok (.iconst 2, 1) := by decide +kernel
theorem dX12_inverseOf_14 : decode cX12_inverseOf 14 = .ok (.irem, 1) := by decide +kernel
theorem dX12_inverseOf_15 : decode cX12_inverseOf 15 = .ok (.iconst 1, 1) := by decide +kernel
theorem dX12_inverseOf_16 : decode cX12_inverseOf 16 = .ok (.if_icmp .ne 13, 3) := by decide +kernel
theorem dX12_inverseOf_19 : decode cX12_inverseOf 19 = .ok (.iload_n 1, 1) := by decide +kernel
theorem dX12_inverseOf_20 : decode cX12_inverseOf 20 = .ok (.iload_n 2, 1) := by decide +kernel
theorem dX12_inverseOf_21 : decode cX12_inverseOf 21 = .ok (.imul, 1) := by decide +kernel
theorem dX12_inverseOf_22 : decode cX12_inverseOf 22 = .ok (.sipush 10007, 3) := by decide +kernel
theorem dX12_inverseOf_25 : decode cX12_inverseOf 25 = .ok (.irem, 1) := by decide +kernel
theorem dX12_inverseOf_26 : decode cX12_inverseOf 26 = .ok (.goto 4, 3) := by decide +kernel
theorem dX12_inverseOf_29 : decode cX12_inverseOf 29 = .ok (.iload_n 1, 1) := by decide +kernel
theorem dX12_inverseOf_30 : decode cX12_inverseOf 30 = .ok (.istore_n 1, 1) := by decide +kernel
theorem dX12_inverseOf_31 : decode cX12_inverseOf 31 = .ok (.iload_n 2, 1) := by decide +kernel
theorem dX12_inverseOf_32 : decode cX12_inverseOf 32 = .ok (.iload_n 2, 1) := by decide +kernel
theorem dX12_inverseOf_33 : decode cX12_inverseOf 33 = .ok (.imul, 1) := by decide +kernel
theorem dX12_inverseOf_34 : decode cX12_inverseOf 34 = .ok (.sipush 10007, 3) := by decide +kernel
theorem dX12_inverseOf_37 : decode cX12_inverseOf 37 = .ok (.irem, 1) := by decide +kernel
theorem dX12_inverseOf_38 : decode cX12_inverseOf 38 = .ok (.istore_n 2, 1) := by decide +kernel
theorem dX12_inverseOf_39 : decode cX12_inverseOf 39 = .ok (.iload_n 3, 1) := by decide +kernel
theorem dX12_inverseOf_40 : decode cX12_inverseOf 40 = .ok (.iconst 2, 1) := by decide +kernel
theorem dX12_inverseOf_41 : decode cX12_inverseOf 41 = .ok (.idiv, 1) := by decide +kernel
theorem dX12_inverseOf_42 : decode cX12_inverseOf 42 = .ok (.istore_n 3, 1) := by decide +kernel
theorem dX12_inverseOf_43 : decode cX12_inverseOf 43 = .ok (.goto (-35), 3) := by decide +kernel
theorem dX12_inverseOf_46 : decode cX12_inverseOf 46 = .ok (.iload_n 1, 1) := by decide +kernel
theorem dX12_inverseOf_47 : decode cX12_inverseOf 47 = .ok (.ireturn, 1) := by decide +kernel
theorem dX12_laysMatrix_0 : decode cX12_laysMatrix 0 = .ok (.iconst 0, 1) := by decide +kernel
theorem dX12_laysMatrix_1 : decode cX12_laysMatrix 1 = .ok (.istore_n 3, 1) := by decide +kernel
theorem dX12_laysMatrix_2 : decode cX12_laysMatrix 2 = .ok (.iload_n 3, 1) := by decide +kernel
theorem dX12_laysMatrix_3 : decode cX12_laysMatrix 3 = .ok (.bipush 28, 2) := by decide +kernel
theorem dX12_laysMatrix_5 : decode cX12_laysMatrix 5 = .ok (.iload_n 2, 1) := by decide +kernel
theorem dX12_laysMatrix_6 : decode cX12_laysMatrix 6 = .ok (.imul, 1) := by decide +kernel
theorem dX12_laysMatrix_7 : decode cX12_laysMatrix 7 = .ok (.if_icmp .ge 16, 3) := by decide +kernel
theorem dX12_laysMatrix_10 : decode cX12_laysMatrix 10 = .ok (.aload_n 0, 1) := by decide +kernel
theorem dX12_laysMatrix_11 : decode cX12_laysMatrix 11 = .ok (.getfield 37, 3) := by decide +kernel
theorem dX12_laysMatrix_14 : decode cX12_laysMatrix 14 = .ok (.iload_n 3, 1) := by decide +kernel
theorem dX12_laysMatrix_15 : decode cX12_laysMatrix 15 = .ok (.iconst 0, 1) := by decide +kernel
theorem dX12_laysMatrix_16 : decode cX12_laysMatrix 16 = .ok (.iastore, 1) := by decide +kernel
theorem dX12_laysMatrix_17 : decode cX12_laysMatrix 17 = .ok (.iinc 3 1, 3) := by decide +kernel
theorem dX12_laysMatrix_20 : decode cX12_laysMatrix 20 = .ok (.goto (-18), 3) := by decide +kernel
theorem dX12_laysMatrix_23 : decode cX12_laysMatrix 23 = .ok (.iconst 0, 1) := by decide +kernel
theorem dX12_laysMatrix_24 : decode cX12_laysMatrix 24 = .ok (.istore_n 3, 1) := by decide +kernel
theorem dX12_laysMatrix_25 : decode cX12_laysMatrix 25 = .ok (.iload_n 3, 1) := by decide +kernel
theorem dX12_laysMatrix_26 : decode cX12_laysMatrix 26 = .ok (.bipush 91, 2) := by decide +kernel
theorem dX12_laysMatrix_28 : decode cX12_laysMatrix 28 = .ok (.iload_n 2, 1) := by decide +kernel
theorem dX12_laysMatrix_29 : decode cX12_laysMatrix 29 = .ok (.imul, 1) := by decide +kernel
theorem dX12_laysMatrix_30 : decode cX12_laysMatrix 30 = .ok (.if_icmp .ge 110, 3) := by decide +kernel
theorem dX12_laysMatrix_33 : decode cX12_laysMatrix 33 = .ok (.iload_n 3, 1) := by decide +kernel
theorem dX12_laysMatrix_34 : decode cX12_laysMatrix 34 = .ok (.iload_n 2, 1) := by decide +kernel
theorem dX12_laysMatrix_35 : decode cX12_laysMatrix 35 = .ok (.idiv, 1) := by decide +kernel
theorem dX12_laysMatrix_36 : decode cX12_laysMatrix 36 = .ok (.istore 4, 2) := by decide +kernel
theorem dX12_laysMatrix_38 : decode cX12_laysMatrix 38 = .ok (.iload_n 3, 1) := by decide +kernel
theorem dX12_laysMatrix_39 : decode cX12_laysMatrix 39 = .ok (.iload_n 2, 1) := by decide +kernel
theorem dX12_laysMatrix_40 : decode cX12_laysMatrix 40 = .ok (.irem, 1) := by decide +kernel
theorem dX12_laysMatrix_41 : decode cX12_laysMatrix 41 = .ok (.istore 5, 2) := by decide +kernel
theorem dX12_laysMatrix_43 : decode cX12_laysMatrix 43 = .ok (.aload_n 0, 1) := by decide +kernel
theorem dX12_laysMatrix_44 : decode cX12_laysMatrix 44 = .ok (.getfield 7, 3) := by decide +kernel
theorem dX12_laysMatrix_47 : decode cX12_laysMatrix 47 = .ok (.bipush 91, 2) := by decide +kernel
theorem dX12_laysMatrix_49 : decode cX12_laysMatrix 49 = .ok (.iload_n 1, 1) := by decide +kernel
theorem dX12_laysMatrix_50 : decode cX12_laysMatrix 50 = .ok (.imul, 1) := by decide +kernel
theorem dX12_laysMatrix_51 : decode cX12_laysMatrix 51 = .ok (.iload 4, 2) := by decide +kernel
theorem dX12_laysMatrix_53 : decode cX12_laysMatrix 53 = .ok (.iadd, 1) := by decide +kernel
theorem dX12_laysMatrix_54 : decode cX12_laysMatrix 54 = .ok (.iaload, 1) := by decide +kernel
theorem dX12_laysMatrix_55 : decode cX12_laysMatrix 55 = .ok (.istore 6, 2) := by decide +kernel
theorem dX12_laysMatrix_57 : decode cX12_laysMatrix 57 = .ok (.iload 6, 2) := by decide +kernel
theorem dX12_laysMatrix_59 : decode cX12_laysMatrix 59 = .ok (.ifCond .eq 75, 3) := by decide +kernel
theorem dX12_laysMatrix_62 : decode cX12_laysMatrix 62 = .ok (.iload 5, 2) := by decide +kernel
theorem dX12_laysMatrix_64 : decode cX12_laysMatrix 64 = .ok (.aload_n 0, 1) := by decide +kernel
theorem dX12_laysMatrix_65 : decode cX12_laysMatrix 65 = .ok (.getfield 28, 3) := by decide +kernel
theorem dX12_laysMatrix_68 : decode cX12_laysMatrix 68 = .ok (.iload 4, 2) := by decide +kernel
theorem dX12_laysMatrix_70 : decode cX12_laysMatrix 70 = .ok (.iaload, 1) := by decide +kernel
theorem dX12_laysMatrix_71 : decode cX12_laysMatrix 71 = .ok (.if_icmp .lt 63, 3) := by decide +kernel
theorem dX12_laysMatrix_74 : decode cX12_laysMatrix 74 = .ok (.bipush 28, 2) := by decide +kernel
theorem dX12_laysMatrix_76 : decode cX12_laysMatrix 76 = .ok (.iload 5, 2) := by decide +kernel
theorem dX12_laysMatrix_78 : decode cX12_laysMatrix 78 = .ok (.imul, 1) := by decide +kernel
theorem dX12_laysMatrix_79 : decode cX12_laysMatrix 79 = .ok (.iload 5, 2) := by decide +kernel
theorem dX12_laysMatrix_81 : decode cX12_laysMatrix 81 = .ok (.iadd, 1) := by decide +kernel
theorem dX12_laysMatrix_82 : decode cX12_laysMatrix 82 = .ok (.aload_n 0, 1) := by decide +kernel
theorem dX12_laysMatrix_83 : decode cX12_laysMatrix 83 = .ok (.getfield 28, 3) := by decide +kernel
theorem dX12_laysMatrix_86 : decode cX12_laysMatrix 86 = .ok (.iload 4, 2) := by decide +kernel
theorem dX12_laysMatrix_88 : decode cX12_laysMatrix 88 = .ok (.iaload, 1) := by decide +kernel
theorem dX12_laysMatrix_89 : decode cX12_laysMatrix 89 = .ok (.isub, 1) := by decide +kernel
theorem dX12_laysMatrix_90 : decode cX12_laysMatrix 90 = .ok (.aload_n 0, 1) := by decide +kernel
theorem dX12_laysMatrix_91 : decode cX12_laysMatrix 91 = .ok (.getfield 25, 3) := by decide +kernel
theorem dX12_laysMatrix_94 : decode cX12_laysMatrix 94 = .ok (.iload 4, 2) := by decide +kernel
theorem dX12_laysMatrix_96 : decode cX12_laysMatrix 96 = .ok (.iaload, 1) := by decide +kernel
theorem dX12_laysMatrix_97 : decode cX12_laysMatrix 97 = .ok (.iadd, 1) := by decide +kernel
theorem dX12_laysMatrix_98 : decode cX12_laysMatrix 98 = .ok (.istore 7, 2) := by decide +kernel
theorem dX12_laysMatrix_100 : decode cX12_laysMatrix 100 = .ok (.aload_n 0, 1) := by decide +kernel
theorem dX12_laysMatrix_101 : decode cX12_laysMatrix 101 = .ok (.getfield 37, 3) := by decide +kernel
theorem dX12_laysMatrix_104 : decode cX12_laysMatrix 104 = .ok (.iload 7, 2) := by decide +kernel
theorem dX12_laysMatrix_106 : decode cX12_laysMatrix 106 = .ok (.aload_n 0, 1) := by decide +kernel
theorem dX12_laysMatrix_107 : decode cX12_laysMatrix 107 = .ok (.getfield 37, 3) := by decide +kernel
theorem dX12_laysMatrix_110 : decode cX12_laysMatrix 110 = .ok (.iload 7, 2) := by decide +kernel
theorem dX12_laysMatrix_112 : decode cX12_laysMatrix 112 = .ok (.iaload, 1) := by decide +kernel
theorem dX12_laysMatrix_113 : decode cX12_laysMatrix 113 = .ok (.iload 6, 2) := by decide +kernel
theorem dX12_laysMatrix_115 : decode cX12_laysMatrix 115 = .ok (.iload 5, 2) := by decide +kernel
theorem dX12_laysMatrix_117 : decode cX12_laysMatrix 117 = .ok (.aload_n 0, 1) := by decide +kernel
theorem dX12_laysMatrix_118 : decode cX12_laysMatrix 118 = .ok (.getfield 28, 3) := by decide +kernel
theorem dX12_laysMatrix_121 : decode cX12_laysMatrix 121 = .ok (.iload 4, 2) := by decide +kernel
theorem dX12_laysMatrix_123 : decode cX12_laysMatrix 123 = .ok (.iaload, 1) := by decide +kernel
theorem dX12_laysMatrix_124 : decode cX12_laysMatrix 124 = .ok (.invokestatic 168, 3) := by decide +kernel
theorem dX12_laysMatrix_127 : decode cX12_laysMatrix 127 = .ok (.imul, 1) := by decide +kernel
theorem dX12_laysMatrix_128 : decode cX12_laysMatrix 128 = .ok (.iadd, 1) := by decide +kernel
theorem dX12_laysMatrix_129 : decode cX12_laysMatrix 129 = .ok (.sipush 10007, 3) := by decide +kernel
theorem dX12_laysMatrix_132 : decode cX12_laysMatrix 132 = .ok (.irem, 1) := by decide +kernel
theorem dX12_laysMatrix_133 : decode cX12_laysMatrix 133 = .ok (.iastore, 1) := by decide +kernel
theorem dX12_laysMatrix_134 : decode cX12_laysMatrix 134 = .ok (.iinc 3 1, 3) := by decide +kernel
theorem dX12_laysMatrix_137 : decode cX12_laysMatrix 137 = .ok (.goto (-112), 3) := by decide +kernel
theorem dX12_laysMatrix_140 : decode cX12_laysMatrix 140 = .ok (.return_, 1) := by decide +kernel
theorem dX12_addsRow_0 : decode cX12_addsRow 0 = .ok (.iconst 0, 1) := by decide +kernel
theorem dX12_addsRow_1 : decode cX12_addsRow 1 = .ok (.istore 4, 2) := by decide +kernel
theorem dX12_addsRow_3 : decode cX12_addsRow 3 = .ok (.iload 4, 2) := by decide +kernel
theorem dX12_addsRow_5 : decode cX12_addsRow 5 = .ok (.bipush 28, 2) := by decide +kernel
theorem dX12_addsRow_7 : decode cX12_addsRow 7 = .ok (.if_icmp .ge 52, 3) := by decide +kernel
theorem dX12_addsRow_10 : decode cX12_addsRow 10 = .ok (.aload_n 0, 1) := by decide +kernel
theorem dX12_addsRow_11 : decode cX12_addsRow 11 = .ok (.getfield 37, 3) := by decide +kernel
theorem dX12_addsRow_14 : decode cX12_addsRow 14 = .ok (.bipush 28, 2) := by decide +kernel
theorem dX12_addsRow_16 : decode cX12_addsRow 16 = .ok (.iload_n 3, 1) := by decide +kernel
theorem dX12_addsRow_17 : decode cX12_addsRow 17 = .ok (.imul, 1) := by decide +kernel
theorem dX12_addsRow_18 : decode cX12_addsRow 18 = .ok (.iload 4, 2) := by decide +kernel
theorem dX12_addsRow_20 : decode cX12_addsRow 20 = .ok (.iadd, 1) := by decide +kernel
theorem dX12_addsRow_21 : decode cX12_addsRow 21 = .ok (.aload_n 0, 1) := by decide +kernel
theorem dX12_addsRow_22 : decode cX12_addsRow 22 = .ok (.getfield 37, 3) := by decide +kernel
theorem dX12_addsRow_25 : decode cX12_addsRow 25 = .ok (.bipush 28, 2) := by decide +kernel
theorem dX12_addsRow_27 : decode cX12_addsRow 27 = .ok (.iload_n 3, 1) := by decide +kernel
theorem dX12_addsRow_28 : decode cX12_addsRow 28 = .ok (.imul, 1) := by decide +kernel
theorem dX12_addsRow_29 : decode cX12_addsRow 29 = .ok (.iload 4, 2) := by decide +kernel
theorem dX12_addsRow_31 : decode cX12_addsRow 31 = .ok (.iadd, 1) := by decide +kernel
theorem dX12_addsRow_32 : decode cX12_addsRow 32 = .ok (.iaload, 1) := by decide +kernel
theorem dX12_addsRow_33 : decode cX12_addsRow 33 = .ok (.iload_n 2, 1) := by decide +kernel
end
section
theorem dX12_addsRow_34 : decode cX12_addsRow 34 = .ok (.aload_n 0, 1) := by decide +kernel
theorem dX12_addsRow_35 : decode cX12_addsRow 35 = .ok (.getfield 37, 3) := by decide +kernel
theorem dX12_addsRow_38 : decode cX12_addsRow 38 = .ok (.bipush 28, 2) := by decide +kernel
theorem dX12_addsRow_40 : decode cX12_addsRow 40 = .ok (.iload_n 1, 1) := by decide +kernel
theorem dX12_addsRow_41 : decode cX12_addsRow 41 = .ok (.imul, 1) := by decide +kernel
theorem dX12_addsRow_42 : decode cX12_addsRow 42 = .ok (.iload 4, 2) := by decide +kernel
theorem dX12_addsRow_44 : decode cX12_addsRow 44 = .ok (.iadd, 1) := by decide +kernel
theorem dX12_addsRow_45 : decode cX12_addsRow 45 = .ok (.iaload, 1) := by decide +kernel
theorem dX12_addsRow_46 : decode cX12_addsRow 46 = .ok (.imul, 1) := by decide +kernel
theorem dX12_addsRow_47 : decode cX12_addsRow 47 = .ok (.iadd, 1) := by decide +kernel
theorem dX12_addsRow_48 : decode cX12_addsRow 48 = .ok (.sipush 10007, 3) := by decide +kernel
theorem dX12_addsRow_51 : decode cX12_addsRow 51 = .ok (.irem, 1) := by decide +kernel
theorem dX12_addsRow_52 : decode cX12_addsRow 52 = .ok (.iastore, 1) := by decide +kernel
theorem dX12_addsRow_53 : decode cX12_addsRow 53 = .ok (.iinc 4 1, 3) := by decide +kernel
theorem dX12_addsRow_56 : decode cX12_addsRow 56 = .ok (.goto (-53), 3) := by decide +kernel
theorem dX12_addsRow_59 : decode cX12_addsRow 59 = .ok (.return_, 1) := by decide +kernel
theorem dX12_isFree_0 : decode cX12_isFree 0 = .ok (.iconst 0, 1) := by decide +kernel
theorem dX12_isFree_1 : decode cX12_isFree 1 = .ok (.istore_n 3, 1) := by decide +kernel
theorem dX12_isFree_2 : decode cX12_isFree 2 = .ok (.iload_n 3, 1) := by decide +kernel
theorem dX12_isFree_3 : decode cX12_isFree 3 = .ok (.bipush 28, 2) := by decide +kernel
theorem dX12_isFree_5 : decode cX12_isFree 5 = .ok (.if_icmp .ge 23, 3) := by decide +kernel
theorem dX12_isFree_8 : decode cX12_isFree 8 = .ok (.aload_n 0, 1) := by decide +kernel
theorem dX12_isFree_9 : decode cX12_isFree 9 = .ok (.getfield 37, 3) := by decide +kernel
theorem dX12_isFree_12 : decode cX12_isFree 12 = .ok (.bipush 28, 2) := by decide +kernel
theorem dX12_isFree_14 : decode cX12_isFree 14 = .ok (.iload_n 1, 1) := by decide +kernel
theorem dX12_isFree_15 : decode cX12_isFree 15 = .ok (.imul, 1) := by decide +kernel
theorem dX12_isFree_16 : decode cX12_isFree 16 = .ok (.iload_n 3, 1) := by decide +kernel
theorem dX12_isFree_17 : decode cX12_isFree 17 = .ok (.iadd, 1) := by decide +kernel
theorem dX12_isFree_18 : decode cX12_isFree 18 = .ok (.iaload, 1) := by decide +kernel
theorem dX12_isFree_19 : decode cX12_isFree 19 = .ok (.ifCond .ne 9, 3) := by decide +kernel
theorem dX12_isFree_22 : decode cX12_isFree 22 = .ok (.iinc 3 1, 3) := by decide +kernel
theorem dX12_isFree_25 : decode cX12_isFree 25 = .ok (.goto (-23), 3) := by decide +kernel
theorem dX12_isFree_28 : decode cX12_isFree 28 = .ok (.iload_n 3, 1) := by decide +kernel
theorem dX12_isFree_29 : decode cX12_isFree 29 = .ok (.bipush 28, 2) := by decide +kernel
theorem dX12_isFree_31 : decode cX12_isFree 31 = .ok (.if_icmp .ne 5, 3) := by decide +kernel
theorem dX12_isFree_34 : decode cX12_isFree 34 = .ok (.iconst 0, 1) := by decide +kernel
theorem dX12_isFree_35 : decode cX12_isFree 35 = .ok (.ireturn, 1) := by decide +kernel
theorem dX12_isFree_36 : decode cX12_isFree 36 = .ok (.aload_n 0, 1) := by decide +kernel
theorem dX12_isFree_37 : decode cX12_isFree 37 = .ok (.getfield 37, 3) := by decide +kernel
theorem dX12_isFree_40 : decode cX12_isFree 40 = .ok (.bipush 28, 2) := by decide +kernel
theorem dX12_isFree_42 : decode cX12_isFree 42 = .ok (.iload_n 1, 1) := by decide +kernel
theorem dX12_isFree_43 : decode cX12_isFree 43 = .ok (.imul, 1) := by decide +kernel
theorem dX12_isFree_44 : decode cX12_isFree 44 = .ok (.iload_n 3, 1) := by decide +kernel
theorem dX12_isFree_45 : decode cX12_isFree 45 = .ok (.iadd, 1) := by decide +kernel
theorem dX12_isFree_46 : decode cX12_isFree 46 = .ok (.iaload, 1) := by decide +kernel
theorem dX12_isFree_47 : decode cX12_isFree 47 = .ok (.invokestatic 177, 3) := by decide +kernel
theorem dX12_isFree_50 : decode cX12_isFree 50 = .ok (.istore 4, 2) := by decide +kernel
theorem dX12_isFree_52 : decode cX12_isFree 52 = .ok (.iload_n 1, 1) := by decide +kernel
theorem dX12_isFree_53 : decode cX12_isFree 53 = .ok (.iconst 1, 1) := by decide +kernel
theorem dX12_isFree_54 : decode cX12_isFree 54 = .ok (.iadd, 1) := by decide +kernel
theorem dX12_isFree_55 : decode cX12_isFree 55 = .ok (.istore 5, 2) := by decide +kernel
theorem dX12_isFree_57 : decode cX12_isFree 57 = .ok (.iload 5, 2) := by decide +kernel
theorem dX12_isFree_59 : decode cX12_isFree 59 = .ok (.iload_n 2, 1) := by decide +kernel
theorem dX12_isFree_60 : decode cX12_isFree 60 = .ok (.if_icmp .ge 52, 3) := by decide +kernel
theorem dX12_isFree_63 : decode cX12_isFree 63 = .ok (.aload_n 0, 1) := by decide +kernel
theorem dX12_isFree_64 : decode cX12_isFree 64 = .ok (.getfield 37, 3) := by decide +kernel
theorem dX12_isFree_67 : decode cX12_isFree 67 = .ok (.bipush 28, 2) := by decide +kernel
theorem dX12_isFree_69 : decode cX12_isFree 69 = .ok (.iload 5, 2) := by decide +kernel
theorem dX12_isFree_71 : decode cX12_isFree 71 = .ok (.imul, 1) := by decide +kernel
theorem dX12_isFree_72 : decode cX12_isFree 72 = .ok (.iload_n 3, 1) := by decide +kernel
theorem dX12_isFree_73 : decode cX12_isFree 73 = .ok (.iadd, 1) := by decide +kernel
theorem dX12_isFree_74 : decode cX12_isFree 74 = .ok (.iaload, 1) := by decide +kernel
theorem dX12_isFree_75 : decode cX12_isFree 75 = .ok (.iload 4, 2) := by decide +kernel
theorem dX12_isFree_77 : decode cX12_isFree 77 = .ok (.imul, 1) := by decide +kernel
theorem dX12_isFree_78 : decode cX12_isFree 78 = .ok (.sipush 10007, 3) := by decide +kernel
theorem dX12_isFree_81 : decode cX12_isFree 81 = .ok (.irem, 1) := by decide +kernel
theorem dX12_isFree_82 : decode cX12_isFree 82 = .ok (.istore 6, 2) := by decide +kernel
theorem dX12_isFree_84 : decode cX12_isFree 84 = .ok (.aload_n 0, 1) := by decide +kernel
theorem dX12_isFree_85 : decode cX12_isFree 85 = .ok (.iload_n 1, 1) := by decide +kernel
theorem dX12_isFree_86 : decode cX12_isFree 86 = .ok (.iload 6, 2) := by decide +kernel
theorem dX12_isFree_88 : decode cX12_isFree 88 = .ok (.ifCond .ne 7, 3) := by decide +kernel
theorem dX12_isFree_91 : decode cX12_isFree 91 = .ok (.iconst 0, 1) := by decide +kernel
theorem dX12_isFree_92 : decode cX12_isFree 92 = .ok (.goto 9, 3) := by decide +kernel
theorem dX12_isFree_95 : decode cX12_isFree 95 = .ok (.sipush 10007, 3) := by decide +kernel
theorem dX12_isFree_98 : decode cX12_isFree 98 = .ok (.iload 6, 2) := by decide +kernel
theorem dX12_isFree_100 : decode cX12_isFree 100 = .ok (.isub, 1) := by decide +kernel
theorem dX12_isFree_101 : decode cX12_isFree 101 = .ok (.iload 5, 2) := by decide +kernel
theorem dX12_isFree_103 : decode cX12_isFree 103 = .ok (.invokevirtual 180, 3) := by decide +kernel
theorem dX12_isFree_106 : decode cX12_isFree 106 = .ok (.iinc 5 1, 3) := by decide +kernel
theorem dX12_isFree_109 : decode cX12_isFree 109 = .ok (.goto (-52), 3) := by decide +kernel
theorem dX12_isFree_112 : decode cX12_isFree 112 = .ok (.iconst 1, 1) := by decide +kernel
theorem dX12_isFree_113 : decode cX12_isFree 113 = .ok (.ireturn, 1) := by decide +kernel
theorem dX12_kernel_0 : decode cX12_kernel 0 = .ok (.iload_n 1, 1) := by decide +kernel
theorem dX12_kernel_1 : decode cX12_kernel 1 = .ok (.invokestatic 111, 3) := by decide +kernel
theorem dX12_kernel_4 : decode cX12_kernel 4 = .ok (.ifCond .eq 13, 3) := by decide +kernel
theorem dX12_kernel_7 : decode cX12_kernel 7 = .ok (.iload_n 2, 1) := by decide +kernel
theorem dX12_kernel_8 : decode cX12_kernel 8 = .ok (.iconst 0, 1) := by decide +kernel
theorem dX12_kernel_9 : decode cX12_kernel 9 = .ok (.bipush 15, 2) := by decide +kernel
theorem dX12_kernel_11 : decode cX12_kernel 11 = .ok (.invokestatic 74, 3) := by decide +kernel
theorem dX12_kernel_14 : decode cX12_kernel 14 = .ok (.ifCond .ne 8, 3) := by decide +kernel
theorem dX12_kernel_17 : decode cX12_kernel 17 = .ok (.aload_n 0, 1) := by decide +kernel
theorem dX12_kernel_18 : decode cX12_kernel 18 = .ok (.invokevirtual 119, 3) := by decide +kernel
theorem dX12_kernel_21 : decode cX12_kernel 21 = .ok (.ireturn, 1) := by decide +kernel
theorem dX12_kernel_22 : decode cX12_kernel 22 = .ok (.aload_n 0, 1) := by decide +kernel
theorem dX12_kernel_23 : decode cX12_kernel 23 = .ok (.iload_n 1, 1) := by decide +kernel
theorem dX12_kernel_24 : decode cX12_kernel 24 = .ok (.iload_n 2, 1) := by decide +kernel
theorem dX12_kernel_25 : decode cX12_kernel 25 = .ok (.iconst 1, 1) := by decide +kernel
theorem dX12_kernel_26 : decode cX12_kernel 26 = .ok (.iadd, 1) := by decide +kernel
theorem dX12_kernel_27 : decode cX12_kernel 27 = .ok (.invokevirtual 183, 3) := by decide +kernel
theorem dX12_kernel_30 : decode cX12_kernel 30 = .ok (.iconst 0, 1) := by decide +kernel
theorem dX12_kernel_31 : decode cX12_kernel 31 = .ok (.istore_n 3, 1) := by decide +kernel
theorem dX12_kernel_32 : decode cX12_kernel 32 = .ok (.iconst 0, 1) := by decide +kernel
theorem dX12_kernel_33 : decode cX12_kernel 33 = .ok (.istore 4, 2) := by decide +kernel
theorem dX12_kernel_35 : decode cX12_kernel 35 = .ok (.iload 4, 2) := by decide +kernel
theorem dX12_kernel_37 : decode cX12_kernel 37 = .ok (.iload_n 2, 1) := by decide +kernel
theorem dX12_kernel_38 : decode cX12_kernel 38 = .ok (.if_icmp .gt 29, 3) := by decide +kernel
theorem dX12_kernel_41 : decode cX12_kernel 41 = .ok (.iload_n 3, 1) := by decide +kernel
theorem dX12_kernel_42 : decode cX12_kernel 42 = .ok (.aload_n 0, 1) := by decide +kernel
theorem dX12_kernel_43 : decode cX12_kernel 43 = .ok (.iload 4, 2) := by decide +kernel
theorem dX12_kernel_45 : decode cX12_kernel 45 = .ok (.iload_n 2, 1) := by decide +kernel
theorem dX12_kernel_46 : decode cX12_kernel 46 = .ok (.iconst 1, 1) := by decide +kernel
theorem dX12_kernel_47 : decode cX12_kernel 47 = .ok (.iadd, 1) := by decide +kernel
theorem dX12_kernel_48 : decode cX12_kernel 48 = .ok (.invokevirtual 186, 3) := by decide +kernel
theorem dX12_kernel_51 : decode cX12_kernel 51 = .ok (.ifCond .eq 7, 3) := by decide +kernel
theorem dX12_kernel_54 : decode cX12_kernel 54 = .ok (.iconst 0, 1) := by decide +kernel
theorem dX12_kernel_55 : decode cX12_kernel 55 = .ok (.goto 4, 3) := by decide +kernel
theorem dX12_kernel_58 : decode cX12_kernel 58 = .ok (.iconst 1, 1) := by decide +kernel
theorem dX12_kernel_59 : decode cX12_kernel 59 = .ok (.iadd, 1) := by decide +kernel
theorem dX12_kernel_60 : decode cX12_kernel 60 = .ok (.istore_n 3, 1) := by decide +kernel
theorem dX12_kernel_61 : decode cX12_kernel 61 = .ok (.iinc 4 1, 3) := by decide +kernel
theorem dX12_kernel_64 : decode cX12_kernel 64 = .ok (.goto (-29), 3) := by decide +kernel
theorem dX12_kernel_67 : decode cX12_kernel 67 = .ok (.iload_n 3, 1) := by decide +kernel
theorem dX12_kernel_68 : decode cX12_kernel 68 = .ok (.ireturn, 1) := by decide +kernel
theorem dX12_kills_0 : decode cX12_kills 0 = .ok (.iload_n 1, 1) := by decide +kernel
theorem dX12_kills_1 : decode cX12_kills 1 = .ok (.invokestatic 111, 3) := by decide +kernel
theorem dX12_kills_4 : decode cX12_kills 4 = .ok (.ifCond .eq 10, 3) := by decide +kernel
theorem dX12_kills_7 : decode cX12_kills 7 = .ok (.iload_n 2, 1) := by decide +kernel
theorem dX12_kills_8 : decode cX12_kills 8 = .ok (.invokestatic 162, 3) := by decide +kernel
theorem dX12_kills_11 : decode cX12_kills 11 = .ok (.ifCond .ne 8, 3) := by decide +kernel
theorem dX12_kills_14 : decode cX12_kills 14 = .ok (.aload_n 0, 1) := by decide +kernel
theorem dX12_kills_15 : decode cX12_kills 15 = .ok (.invokevirtual 119, 3) := by decide +kernel
theorem dX12_kills_18 : decode cX12_kills 18 = .ok (.ireturn, 1) := by decide +kernel
theorem dX12_kills_19 : decode cX12_kills 19 = .ok (.aload_n 0, 1) := by decide +kernel
theorem dX12_kills_20 : decode cX12_kills 20 = .ok (.iload_n 2, 1) := by decide +kernel
theorem dX12_kills_21 : decode cX12_kills 21 = .ok (.invokevirtual 174, 3) := by decide +kernel
theorem dX12_kills_24 : decode cX12_kills 24 = .ok (.istore_n 3, 1) := by decide +kernel
theorem dX12_kills_25 : decode cX12_kills 25 = .ok (.iload_n 3, 1) := by decide +kernel
theorem dX12_kills_26 : decode cX12_kills 26 = .ok (.ifCond .ge 8, 3) := by decide +kernel
theorem dX12_kills_29 : decode cX12_kills 29 = .ok (.aload_n 0, 1) := by decide +kernel
theorem dX12_kills_30 : decode cX12_kills 30 = .ok (.invokevirtual 70, 3) := by decide +kernel
theorem dX12_kills_33 : decode cX12_kills 33 = .ok (.ireturn, 1) := by decide +kernel
theorem dX12_kills_34 : decode cX12_kills 34 = .ok (.iload_n 3, 1) := by decide +kernel
theorem dX12_kills_35 : decode cX12_kills 35 = .ok (.bipush 11, 2) := by decide +kernel
theorem dX12_kills_37 : decode cX12_kills 37 = .ok (.if_icmp .le 8, 3) := by decide +kernel
theorem dX12_kills_40 : decode cX12_kills 40 = .ok (.aload_n 0, 1) := by decide +kernel
theorem dX12_kills_41 : decode cX12_kills 41 = .ok (.invokevirtual 140, 3) := by decide +kernel
theorem dX12_kills_44 : decode cX12_kills 44 = .ok (.ireturn, 1) := by decide +kernel
theorem dX12_kills_45 : decode cX12_kills 45 = .ok (.aload_n 0, 1) := by decide +kernel
theorem dX12_kills_46 : decode cX12_kills 46 = .ok (.bipush 25, 2) := by decide +kernel
theorem dX12_kills_48 : decode cX12_kills 48 = .ok (.invokevirtual 78, 3) := by decide +kernel
theorem dX12_kills_51 : decode cX12_kills 51 = .ok (.iconst 0, 1) := by decide +kernel
theorem dX12_kills_52 : decode cX12_kills 52 = .ok (.istore 4, 2) := by decide +kernel
theorem dX12_kills_54 : decode cX12_kills 54 = .ok (.iload 4, 2) := by decide +kernel
theorem dX12_kills_56 : decode cX12_kills 56 = .ok (.iload_n 3, 1) := by decide +kernel
theorem dX12_kills_57 : decode cX12_kills 57 = .ok (.if_icmp .gt 102, 3) := by decide +kernel
theorem dX12_kills_60 : decode cX12_kills 60 = .ok (.aload_n 0, 1) := by decide +kernel
theorem dX12_kills_61 : decode cX12_kills 61 = .ok (.getfield 7, 3) := by decide +kernel
theorem dX12_kills_64 : decode cX12_kills 64 = .ok (.iload_n 2, 1) := by decide +kernel
theorem dX12_kills_65 : decode cX12_kills 65 = .ok (.iload 4, 2) := by decide +kernel
theorem dX12_kills_67 : decode cX12_kills 67 = .ok (.invokestatic 165, 3) := by decide +kernel
theorem dX12_kills_70 : decode cX12_kills 70 = .ok (.iaload, 1) := by decide +kernel
theorem dX12_kills_71 : decode cX12_kills 71 = .ok (.istore 5, 2) := by decide +kernel
theorem dX12_kills_73 : decode cX12_kills 73 = .ok (.sipush 12400, 3) := by decide +kernel
theorem dX12_kills_76 : decode cX12_kills 76 = .ok (.iload 4, 2) := by decide +kernel
theorem dX12_kills_78 : decode cX12_kills 78 = .ok (.iconst 1, 1) := by decide +kernel
theorem dX12_kills_79 : decode cX12_kills 79 = .ok (.invokestatic 59, 3) := by decide +kernel
theorem dX12_kills_82 : decode cX12_kills 82 = .ok (.iadd, 1) := by decide +kernel
theorem dX12_kills_83 : decode cX12_kills 83 = .ok (.istore 6, 2) := by decide +kernel
theorem dX12_kills_85 : decode cX12_kills 85 = .ok (.aload_n 0, 1) := by decide +kernel
theorem dX12_kills_86 : decode cX12_kills 86 = .ok (.getfield 22, 3) := by decide +kernel
theorem dX12_kills_89 : decode cX12_kills 89 = .ok (.iload 6, 2) := by decide +kernel
theorem dX12_kills_91 : decode cX12_kills 91 = .ok (.aload_n 0, 1) := by decide +kernel
theorem dX12_kills_92 : decode cX12_kills 92 = .ok (.getfield 22, 3) := by decide +kernel
theorem dX12_kills_95 : decode cX12_kills 95 = .ok (.iload 6, 2) := by decide +kernel
theorem dX12_kills_97 : decode cX12_kills 97 = .ok (.iaload, 1) := by decide +kernel
theorem dX12_kills_98 : decode cX12_kills 98 = .ok (.iload 5, 2) := by decide +kernel
theorem dX12_kills_100 : decode cX12_kills 100 = .ok (.iadd, 1) := by decide +kernel
theorem dX12_kills_101 : decode cX12_kills 101 = .ok (.sipush 10007, 3) := by decide +kernel
theorem dX12_kills_104 : decode cX12_kills 104 = .ok (.irem, 1) := by decide +kernel
theorem dX12_kills_105 : decode cX12_kills 105 = .ok (.iastore, 1) := by decide +kernel
theorem dX12_kills_106 : decode cX12_kills 106 = .ok (.iload 4, 2) := by decide +kernel
theorem dX12_kills_108 : decode cX12_kills 108 = .ok (.ifCond .le 45, 3) := by decide +kernel
theorem dX12_kills_111 : decode cX12_kills 111 = .ok (.sipush 12400, 3) := by decide +kernel
theorem dX12_kills_114 : decode cX12_kills 114 = .ok (.iload 4, 2) := by decide +kernel
theorem dX12_kills_116 : decode cX12_kills 116 = .ok (.iconst 1, 1) := by decide +kernel
theorem dX12_kills_117 : decode cX12_kills 117 = .ok (.isub, 1) := by decide +kernel
theorem dX12_kills_118 : decode cX12_kills 118 = .ok (.iconst 0, 1) := by decide +kernel
theorem dX12_kills_119 : decode cX12_kills 119 = .ok (.invokestatic 59, 3) := by decide +kernel
theorem dX12_kills_122 : decode cX12_kills 122 = .ok (.iadd, 1) := by decide +kernel
theorem dX12_kills_123 : decode cX12_kills 123 = .ok (.istore 6, 2) := by decide +kernel
theorem dX12_kills_125 : decode cX12_kills 125 = .ok (.aload_n 0, 1) := by decide +kernel
theorem dX12_kills_126 : decode cX12_kills 126 = .ok (.getfield 22, 3) := by decide +kernel
theorem dX12_kills_129 : decode cX12_kills 129 = .ok (.iload 6, 2) := by decide +kernel
theorem dX12_kills_131 : decode cX12_kills 131 = .ok (.aload_n 0, 1) := by decide +kernel
theorem dX12_kills_132 : decode cX12_kills 132 = .ok (.getfield 22, 3) := by decide +kernel
theorem dX12_kills_135 : decode cX12_kills 135 = .ok (.iload 6, 2) := by decide +kernel
theorem dX12_kills_137 : decode cX12_kills 137 = .ok (.iaload, 1) := by decide +kernel
theorem dX12_kills_138 : decode cX12_kills 138 = .ok (.sipush 10007, 3) := by decide +kernel
theorem dX12_kills_141 : decode cX12_kills 141 = .ok (.iload 5, 2) := by decide +kernel
theorem dX12_kills_143 : decode cX12_kills 143 = .ok (.isub, 1) := by decide +kernel
theorem dX12_kills_144 : decode cX12_kills 144 = .ok (.iload 4, 2) := by decide +kernel
theorem dX12_kills_146 : decode cX12_kills 146 = .ok (.imul, 1) := by decide +kernel
theorem dX12_kills_147 : decode cX12_kills 147 = .ok (.iadd, 1) := by decide +kernel
theorem dX12_kills_148 : decode cX12_kills 148 = .ok (.sipush 10007, 3) := by decide +kernel
theorem dX12_kills_151 : decode cX12_kills 151 = .ok (.irem, 1) := by decide +kernel
theorem dX12_kills_152 : decode cX12_kills 152 = .ok (.iastore, 1) := by decide +kernel
theorem dX12_kills_153 : decode cX12_kills 153 = .ok (.iinc 4 1, 3) := by decide +kernel
theorem dX12_kills_156 : decode cX12_kills 156 = .ok (.goto (-102), 3) := by decide +kernel
theorem dX12_kills_159 : decode cX12_kills 159 = .ok (.aload_n 0, 1) := by decide +kernel
theorem dX12_kills_160 : decode cX12_kills 160 = .ok (.iload_n 1, 1) := by decide +kernel
theorem dX12_kills_161 : decode cX12_kills 161 = .ok (.bipush 25, 2) := by decide +kernel
theorem dX12_kills_163 : decode cX12_kills 163 = .ok (.invokevirtual 134, 3) := by decide +kernel
theorem dX12_kills_166 : decode cX12_kills 166 = .ok (.ireturn, 1) := by decide +kernel
theorem dX12_findsLeads_0 : decode cX12_findsLeads 0 = .ok (.iconst 0, 1) := by decide +kernel
theorem dX12_findsLeads_1 : decode cX12_findsLeads 1 = .ok (.istore_n 1, 1) := by decide +kernel
theorem dX12_findsLeads_2 : decode cX12_findsLeads 2 = .ok (.iload_n 1, 1) := by decide +kernel
theorem dX12_findsLeads_3 : decode cX12_findsLeads 3 = .ok (.aload_n 0, 1) := by decide +kernel
theorem dX12_findsLeads_4 : decode cX12_findsLeads 4 = .ok (.getfield 189, 3) := by decide +kernel
theorem dX12_findsLeads_7 : decode cX12_findsLeads 7 = .ok (.if_icmp .ge 56, 3) := by decide +kernel
theorem dX12_findsLeads_10 : decode cX12_findsLeads 10 = .ok (.aload_n 0, 1) := by decide +kernel
theorem dX12_findsLeads_11 : decode cX12_findsLeads 11 = .ok (.getfield 43, 3) := by decide +kernel
theorem dX12_findsLeads_14 : decode cX12_findsLeads 14 = .ok (.iload_n 1, 1) := by decide +kernel
theorem dX12_findsLeads_15 : decode cX12_findsLeads 15 = .ok (.aload_n 0, 1) := by decide +kernel
theorem dX12_findsLeads_16 : decode cX12_findsLeads 16 = .ok (.aload_n 0, 1) := by decide +kernel
theorem dX12_findsLeads_17 : decode cX12_findsLeads 17 = .ok (.getfield 40, 3) := by decide +kernel
theorem dX12_findsLeads_20 : decode cX12_findsLeads 20 = .ok (.iload_n 1, 1) := by decide +kernel
theorem dX12_findsLeads_21 : decode cX12_findsLeads 21 = .ok (.iaload, 1) := by decide +kernel
theorem dX12_findsLeads_22 : decode cX12_findsLeads 22 = .ok (.invokevirtual 149, 3) := by decide +kernel
theorem dX12_findsLeads_25 : decode cX12_findsLeads 25 = .ok (.iastore, 1) := by decide +kernel
theorem dX12_findsLeads_26 : decode cX12_findsLeads 26 = .ok (.aload_n 0, 1) := by decide +kernel
theorem dX12_findsLeads_27 : decode cX12_findsLeads 27 = .ok (.getfield 46, 3) := by decide +kernel
theorem dX12_findsLeads_30 : decode cX12_findsLeads 30 = .ok (.iload_n 1, 1) := by decide +kernel
theorem dX12_findsLeads_31 : decode cX12_findsLeads 31 = .ok (.aload_n 0, 1) := by decide +kernel
theorem dX12_findsLeads_32 : decode cX12_findsLeads 32 = .ok (.getfield 22, 3) := by decide +kernel
theorem dX12_findsLeads_35 : decode cX12_findsLeads 35 = .ok (.sipush 496, 3) := by decide +kernel
theorem dX12_findsLeads_38 : decode cX12_findsLeads 38 = .ok (.aload_n 0, 1) := by decide +kernel
theorem dX12_findsLeads_39 : decode cX12_findsLeads 39 = .ok (.getfield 40, 3) := by decide +kernel
theorem dX12_findsLeads_42 : decode cX12_findsLeads 42 = .ok (.iload_n 1, 1) := by decide +kernel
theorem dX12_findsLeads_43 : decode cX12_findsLeads 43 = .ok (.iaload, 1) := by decide +kernel
theorem dX12_findsLeads_44 : decode cX12_findsLeads 44 = .ok (.imul, 1) := by decide +kernel
theorem dX12_findsLeads_45 : decode cX12_findsLeads 45 = .ok (.aload_n 0, 1) := by decide +kernel
theorem dX12_findsLeads_46 : decode cX12_findsLeads 46 = .ok (.getfield 43, 3) := by decide +kernel
theorem dX12_findsLeads_49 : decode cX12_findsLeads 49 = .ok (.iload_n 1, 1) := by decide +kernel
theorem dX12_findsLeads_50 : decode cX12_findsLeads 50 = .ok (.iaload, 1) := by decide +kernel
theorem dX12_findsLeads_51 : decode cX12_findsLeads 51 = .ok (.iadd, 1) := by decide +kernel
theorem dX12_findsLeads_52 : decode cX12_findsLeads 52 = .ok (.iaload, 1) := by decide +kernel
theorem dX12_findsLeads_53 : decode cX12_findsLeads 53 = .ok (.invokestatic 177, 3) := by decide +kernel
theorem dX12_findsLeads_56 : decode cX12_findsLeads 56 = .ok (.iastore, 1) := by decide +kernel
theorem dX12_findsLeads_57 : decode cX12_findsLeads 57 = .ok (.iinc 1 1, 3) := by decide +kernel
theorem dX12_findsLeads_60 : decode cX12_findsLeads 60 = .ok (.goto (-58), 3) := by decide +kernel
theorem dX12_findsLeads_63 : decode cX12_findsLeads 63 = .ok (.return_, 1) := by decide +kernel
theorem dX12_isBelow_0 : decode cX12_isBelow 0 = .ok (.aload_n 0, 1) := by decide +kernel
theorem dX12_isBelow_1 : decode cX12_isBelow 1 = .ok (.getfield 25, 3) := by decide +kernel
theorem dX12_isBelow_4 : decode cX12_isBelow 4 = .ok (.iload_n 1, 1) := by decide +kernel
theorem dX12_isBelow_5 : decode cX12_isBelow 5 = .ok (.iaload, 1) := by decide +kernel
theorem dX12_isBelow_6 : decode cX12_isBelow 6 = .ok (.aload_n 0, 1) := by decide +kernel
theorem dX12_isBelow_7 : decode cX12_isBelow 7 = .ok (.getfield 25, 3) := by decide +kernel
theorem dX12_isBelow_10 : decode cX12_isBelow 10 = .ok (.iload_n 2, 1) := by decide +kernel
theorem dX12_isBelow_11 : decode cX12_isBelow 11 = .ok (.iaload, 1) := by decide +kernel
theorem dX12_isBelow_12 : decode cX12_isBelow 12 = .ok (.if_icmp .gt 22, 3) := by decide +kernel
theorem dX12_isBelow_15 : decode cX12_isBelow 15 = .ok (.aload_n 0, 1) := by decide +kernel
theorem dX12_isBelow_16 : decode cX12_isBelow 16 = .ok (.getfield 28, 3) := by decide +kernel
theorem dX12_isBelow_19 : decode cX12_isBelow 19 = .ok (.iload_n 1, 1) := by decide +kernel
theorem dX12_isBelow_20 : decode cX12_isBelow 20 = .ok (.iaload, 1) := by decide +kernel
theorem dX12_isBelow_21 : decode cX12_isBelow 21 = .ok (.aload_n 0, 1) := by decide +kernel
theorem dX12_isBelow_22 : decode cX12_isBelow 22 = .ok (.getfield 28, 3) := by decide +kernel
theorem dX12_isBelow_25 : decode cX12_isBelow 25 = .ok (.iload_n 2, 1) := by decide +kernel
theorem dX12_isBelow_26 : decode cX12_isBelow 26 = .ok (.iaload, 1) := by decide +kernel
theorem dX12_isBelow_27 : decode cX12_isBelow 27 = .ok (.if_icmp .gt 7, 3) := by decide +kernel
theorem dX12_isBelow_30 : decode cX12_isBelow 30 = .ok (.iconst 1, 1) := by decide +kernel
theorem dX12_isBelow_31 : decode cX12_isBelow 31 = .ok (.goto 4, 3) := by decide +kernel
theorem dX12_isBelow_34 : decode cX12_isBelow 34 = .ok (.iconst 0, 1) := by decide +kernel
theorem dX12_isBelow_35 : decode cX12_isBelow 35 = .ok (.ireturn, 1) := by decide +kernel
theorem dX12_firstBelow_0 : decode cX12_firstBelow 0 = .ok (.iconst 0, 1) := by decide +kernel
theorem dX12_firstBelow_1 : decode cX12_firstBelow 1 = .ok (.istore_n 2, 1) := by decide +kernel
theorem dX12_firstBelow_2 : decode cX12_firstBelow 2 = .ok (.iload_n 2, 1) := by decide +kernel
theorem dX12_firstBelow_3 : decode cX12_firstBelow 3 = .ok (.aload_n 0, 1) := by decide +kernel
theorem dX12_firstBelow_4 : decode cX12_firstBelow 4 = .ok (.getfield 189, 3) := by decide +kernel
theorem dX12_firstBelow_7 : decode cX12_firstBelow 7 = .ok (.if_icmp .ge 23, 3) := by decide +kernel
theorem dX12_firstBelow_10 : decode cX12_firstBelow 10 = .ok (.aload_n 0, 1) := by decide +kernel
theorem dX12_firstBelow_11 : decode cX12_firstBelow 11 = .ok (.aload_n 0, 1) := by decide +kernel
theorem dX12_firstBelow_12 : decode cX12_firstBelow 12 = .ok (.getfield 43, 3) := by decide +kernel
theorem dX12_firstBelow_15 : decode cX12_firstBelow 15 = .ok (.iload_n 2, 1) := by decide +kernel
theorem dX12_firstBelow_16 : decode cX12_firstBelow 16 = .ok (.iaload, 1) := by decide +kernel
theorem dX12_firstBelow_17 : decode cX12_firstBelow 17 = .ok (.iload_n 1, 1) := by decide +kernel
theorem dX12_firstBelow_18 : decode cX12_firstBelow 18 = .ok (.invokevirtual 192, 3) := by decide +kernel
theorem dX12_firstBelow_21 : decode cX12_firstBelow 21 = .ok (.ifCond .ne 9, 3) := by decide +kernel
theorem dX12_firstBelow_24 : decode cX12_firstBelow 24 = .ok (.iinc 2 1, 3) := by decide +kernel
theorem dX12_firstBelow_27 : decode cX12_firstBelow 27 = .ok (.goto (-25), 3) := by decide +kernel
theorem dX12_firstBelow_30 : decode cX12_firstBelow 30 = .ok (.iload_n 2, 1) := by decide +kernel
theorem dX12_firstBelow_31 : decode cX12_firstBelow 31 = .ok (.ireturn, 1) := by decide +kernel
theorem dX12_rests_0 : decode cX12_rests 0 = .ok (.aload_n 0, 1) := by decide +kernel
theorem dX12_rests_1 : decode cX12_rests 1 = .ok (.invokevirtual 195, 3) := by decide +kernel
theorem dX12_rests_4 : decode cX12_rests 4 = .ok (.aload_n 0, 1) := by decide +kernel
theorem dX12_rests_5 : decode cX12_rests 5 = .ok (.iload_n 1, 1) := by decide +kernel
theorem dX12_rests_6 : decode cX12_rests 6 = .ok (.invokevirtual 78, 3) := by decide +kernel
theorem dX12_rests_9 : decode cX12_rests 9 = .ok (.aload_n 0, 1) := by decide +kernel
theorem dX12_rests_10 : decode cX12_rests 10 = .ok (.bipush 24, 2) := by decide +kernel
theorem dX12_rests_12 : decode cX12_rests 12 = .ok (.invokevirtual 149, 3) := by decide +kernel
theorem dX12_rests_15 : decode cX12_rests 15 = .ok (.istore_n 2, 1) := by decide +kernel
theorem dX12_rests_16 : decode cX12_rests 16 = .ok (.iload_n 2, 1) := by decide +kernel
theorem dX12_rests_17 : decode cX12_rests 17 = .ok (.ifCond .lt 139, 3) := by decide +kernel
theorem dX12_rests_20 : decode cX12_rests 20 = .ok (.aload_n 0, 1) := by decide +kernel
theorem dX12_rests_21 : decode cX12_rests 21 = .ok (.getfield 22, 3) := by decide +kernel
theorem dX12_rests_24 : decode cX12_rests 24 = .ok (.sipush 11904, 3) := by decide +kernel
theorem dX12_rests_27 : decode cX12_rests 27 = .ok (.iload_n 2, 1) := by decide +kernel
theorem dX12_rests_28 : decode cX12_rests 28 = .ok (.iadd, 1) := by decide +kernel
theorem dX12_rests_29 : decode cX12_rests 29 = .ok (.iaload, 1) := by decide +kernel
theorem dX12_rests_30 : decode cX12_rests 30 = .ok (.istore_n 3, 1) := by decide +kernel
theorem dX12_rests_31 : decode cX12_rests 31 = .ok (.aload_n 0, 1) := by decide +kernel
theorem dX12_rests_32 : decode cX12_rests 32 = .ok (.iload_n 2, 1) := by decide +kernel
theorem dX12_rests_33 : decode cX12_rests 33 = .ok (.invokevirtual 198, 3) := by decide +kernel
theorem dX12_rests_36 : decode cX12_rests 36 = .ok (.istore 4, 2) := by decide +kernel
theorem dX12_rests_38 : decode cX12_rests 38 = .ok (.iload 4, 2) := by decide +kernel
theorem dX12_rests_40 : decode cX12_rests 40 = .ok (.aload_n 0, 1) := by decide +kernel
theorem dX12_rests_41 : decode cX12_rests 41 = .ok (.getfield 189, 3) := by decide +kernel
theorem dX12_rests_44 : decode cX12_rests 44 = .ok (.if_icmp .ge 78, 3) := by decide +kernel
theorem dX12_rests_47 : decode cX12_rests 47 = .ok (.iload_n 3, 1) := by decide +kernel
theorem dX12_rests_48 : decode cX12_rests 48 = .ok (.aload_n 0, 1) := by decide +kernel
theorem dX12_rests_49 : decode cX12_rests 49 = .ok (.getfield 46, 3) := by decide +kernel
theorem dX12_rests_52 : decode cX12_rests 52 = .ok (.iload 4, 2) := by decide +kernel
theorem dX12_rests_54 : decode cX12_rests 54 = .ok (.iaload, 1) := by decide +kernel
theorem dX12_rests_55 : decode cX12_rests 55 = .ok (.imul, 1) := by decide +kernel
theorem dX12_rests_56 : decode cX12_rests 56 = .ok (.sipush 10007, 3) := by decide +kernel
theorem dX12_rests_59 : decode cX12_rests 59 = .ok (.irem, 1) := by decide +kernel
theorem dX12_rests_60 : decode cX12_rests 60 = .ok (.istore 5, 2) := by decide +kernel
theorem dX12_rests_62 : decode cX12_rests 62 = .ok (.aload_n 0, 1) := by decide +kernel
theorem dX12_rests_63 : decode cX12_rests 63 = .ok (.aload_n 0, 1) := by decide +kernel
theorem dX12_rests_64 : decode cX12_rests 64 = .ok (.getfield 25, 3) := by decide +kernel
theorem dX12_rests_67 : decode cX12_rests 67 = .ok (.iload_n 2, 1) := by decide +kernel
theorem dX12_rests_68 : decode cX12_rests 68 = .ok (.iaload, 1) := by decide +kernel
theorem dX12_rests_69 : decode cX12_rests 69 = .ok (.aload_n 0, 1) := by decide +kernel
theorem dX12_rests_70 : decode cX12_rests 70 = .ok (.getfield 25, 3) := by decide +kernel
theorem dX12_rests_73 : decode cX12_rests 73 = .ok (.aload_n 0, 1) := by decide +kernel
theorem dX12_rests_74 : decode cX12_rests 74 = .ok (.getfield 43, 3) := by decide +kernel
theorem dX12_rests_77 : decode cX12_rests 77 = .ok (.iload 4, 2) := by decide +kernel
theorem dX12_rests_79 : decode cX12_rests 79 = .ok (.iaload, 1) := by decide +kernel
theorem dX12_rests_80 : decode cX12_rests 80 = .ok (.iaload, 1) := by decide +kernel
theorem dX12_rests_81 : decode cX12_rests 81 = .ok (.isub, 1) := by decide +kernel
theorem dX12_rests_82 : decode cX12_rests 82 = .ok (.aload_n 0, 1) := by decide +kernel
theorem dX12_rests_83 : decode cX12_rests 83 = .ok (.getfield 28, 3) := by decide +kernel
theorem dX12_rests_86 : decode cX12_rests 86 = .ok (.iload_n 2, 1) := by decide +kernel
theorem dX12_rests_87 : decode cX12_rests 87 = .ok (.iaload, 1) := by decide +kernel
theorem dX12_rests_88 : decode cX12_rests 88 = .ok (.aload_n 0, 1) := by decide +kernel
theorem dX12_rests_89 : decode cX12_rests 89 = .ok (.getfield 28, 3) := by decide +kernel
theorem dX12_rests_92 : decode cX12_rests 92 = .ok (.aload_n 0, 1) := by decide +kernel
theorem dX12_rests_93 : decode cX12_rests 93 = .ok (.getfield 43, 3) := by decide +kernel
theorem dX12_rests_96 : decode cX12_rests 96 = .ok (.iload 4, 2) := by decide +kernel
theorem dX12_rests_98 : decode cX12_rests 98 = .ok (.iaload, 1) := by decide +kernel
theorem dX12_rests_99 : decode cX12_rests 99 = .ok (.iaload, 1) := by decide +kernel
theorem dX12_rests_100 : decode cX12_rests 100 = .ok (.isub, 1) := by decide +kernel
theorem dX12_rests_101 : decode cX12_rests 101 = .ok (.sipush 10007, 3) := by decide +kernel
theorem dX12_rests_104 : decode cX12_rests 104 = .ok (.iload 5, 2) := by decide +kernel
theorem dX12_rests_106 : decode cX12_rests 106 = .ok (.isub, 1) := by decide +kernel
theorem dX12_rests_107 : decode cX12_rests 107 = .ok (.aload_n 0, 1) := by decide +kernel
theorem dX12_rests_108 : decode cX12_rests 108 = .ok (.getfield 40, 3) := by decide +kernel
theorem dX12_rests_111 : decode cX12_rests 111 = .ok (.iload 4, 2) := by decide +kernel
theorem dX12_rests_113 : decode cX12_rests 113 = .ok (.iaload, 1) := by decide +kernel
theorem dX12_rests_114 : decode cX12_rests 114 = .ok (.bipush 24, 2) := by decide +kernel
theorem dX12_rests_116 : decode cX12_rests 116 = .ok (.invokevirtual 99, 3) := by decide +kernel
theorem dX12_rests_119 : decode cX12_rests 119 = .ok (.goto 27, 3) := by decide +kernel
theorem dX12_rests_122 : decode cX12_rests 122 = .ok (.aload_n 0, 1) := by decide +kernel
theorem dX12_rests_123 : decode cX12_rests 123 = .ok (.getfield 22, 3) := by decide +kernel
theorem dX12_rests_126 : decode cX12_rests 126 = .ok (.sipush 496, 3) := by decide +kernel
theorem dX12_rests_129 : decode cX12_rests 129 = .ok (.iload_n 1, 1) := by decide +kernel
theorem dX12_rests_130 : decode cX12_rests 130 = .ok (.imul, 1) := by decide +kernel
theorem dX12_rests_131 : decode cX12_rests 131 = .ok (.iload_n 2, 1) := by decide +kernel
theorem dX12_rests_132 : decode cX12_rests 132 = .ok (.iadd, 1) := by decide +kernel
theorem dX12_rests_133 : decode cX12_rests 133 = .ok (.iload_n 3, 1) := by decide +kernel
theorem dX12_rests_134 : decode cX12_rests 134 = .ok (.iastore, 1) := by decide +kernel
theorem dX12_rests_135 : decode cX12_rests 135 = .ok (.aload_n 0, 1) := by decide +kernel
theorem dX12_rests_136 : decode cX12_rests 136 = .ok (.getfield 22, 3) := by decide +kernel
theorem dX12_rests_139 : decode cX12_rests 139 = .ok (.sipush 11904, 3) := by decide +kernel
theorem dX12_rests_142 : decode cX12_rests 142 = .ok (.iload_n 2, 1) := by decide +kernel
theorem dX12_rests_143 : decode cX12_rests 143 = .ok (.iadd, 1) := by decide +kernel
theorem dX12_rests_144 : decode cX12_rests 144 = .ok (.iconst 0, 1) := by decide +kernel
theorem dX12_rests_145 : decode cX12_rests 145 = .ok (.iastore, 1) := by decide +kernel
theorem dX12_rests_146 : decode cX12_rests 146 = .ok (.aload_n 0, 1) := by decide +kernel
theorem dX12_rests_147 : decode cX12_rests 147 = .ok (.bipush 24, 2) := by decide +kernel
theorem dX12_rests_149 : decode cX12_rests 149 = .ok (.invokevirtual 149, 3) := by decide +kernel
theorem dX12_rests_152 : decode cX12_rests 152 = .ok (.istore_n 2, 1) := by decide +kernel
theorem dX12_rests_153 : decode cX12_rests 153 = .ok (.goto (-137), 3) := by decide +kernel
theorem dX12_rests_156 : decode cX12_rests 156 = .ok (.return_, 1) := by decide +kernel
theorem dX12_isSet_0 : decode cX12_isSet 0 = .ok (.iload_n 0, 1) := by decide +kernel
theorem dX12_isSet_1 : decode cX12_isSet 1 = .ok (.iconst 1, 1) := by decide +kernel
theorem dX12_isSet_2 : decode cX12_isSet 2 = .ok (.bipush 63, 2) := by decide +kernel
theorem dX12_isSet_4 : decode cX12_isSet 4 = .ok (.invokestatic 74, 3) := by decide +kernel
theorem dX12_isSet_7 : decode cX12_isSet 7 = .ok (.ireturn, 1) := by decide +kernel
theorem dX12_rest_0 : decode cX12_rest 0 = .ok (.iload_n 1, 1) := by decide +kernel
theorem dX12_rest_1 : decode cX12_rest 1 = .ok (.invokestatic 111, 3) := by decide +kernel
theorem dX12_rest_4 : decode cX12_rest 4 = .ok (.ifCond .eq 17, 3) := by decide +kernel
theorem dX12_rest_7 : decode cX12_rest 7 = .ok (.iload_n 2, 1) := by decide +kernel
theorem dX12_rest_8 : decode cX12_rest 8 = .ok (.invokestatic 111, 3) := by decide +kernel
theorem dX12_rest_11 : decode cX12_rest 11 = .ok (.ifCond .eq 10, 3) := by decide +kernel
theorem dX12_rest_14 : decode cX12_rest 14 = .ok (.iload_n 3, 1) := by decide +kernel
theorem dX12_rest_15 : decode cX12_rest 15 = .ok (.invokestatic 201, 3) := by decide +kernel
theorem dX12_rest_18 : decode cX12_rest 18 = .ok (.ifCond .ne 8, 3) := by decide +kernel
theorem dX12_rest_21 : decode cX12_rest 21 = .ok (.aload_n 0, 1) := by decide +kernel
theorem dX12_rest_22 : decode cX12_rest 22 = .ok (.invokevirtual 119, 3) := by decide +kernel
theorem dX12_rest_25 : decode cX12_rest 25 = .ok (.ireturn, 1) := by decide +kernel
theorem dX12_rest_26 : decode cX12_rest 26 = .ok (.aload_n 0, 1) := by decide +kernel
theorem dX12_rest_27 : decode cX12_rest 27 = .ok (.iconst 0, 1) := by decide +kernel
theorem dX12_rest_28 : decode cX12_rest 28 = .ok (.putfield 189, 3) := by decide +kernel
theorem dX12_rest_31 : decode cX12_rest 31 = .ok (.aload_n 0, 1) := by decide +kernel
theorem dX12_rest_32 : decode cX12_rest 32 = .ok (.iconst 0, 1) := by decide +kernel
theorem dX12_rest_33 : decode cX12_rest 33 = .ok (.putfield 63, 3) := by decide +kernel
theorem dX12_rest_36 : decode cX12_rest 36 = .ok (.iconst 0, 1) := by decide +kernel
theorem dX12_rest_37 : decode cX12_rest 37 = .ok (.istore 4, 2) := by decide +kernel
theorem dX12_rest_39 : decode cX12_rest 39 = .ok (.iload 4, 2) := by decide +kernel
theorem dX12_rest_41 : decode cX12_rest 41 = .ok (.bipush 6, 2) := by decide +kernel
theorem dX12_rest_43 : decode cX12_rest 43 = .ok (.if_icmp .ge 52, 3) := by decide +kernel
theorem dX12_rest_46 : decode cX12_rest 46 = .ok (.iload_n 3, 1) := by decide +kernel
theorem dX12_rest_47 : decode cX12_rest 47 = .ok (.iload 4, 2) := by decide +kernel
theorem dX12_rest_49 : decode cX12_rest 49 = .ok (.ishr, 1) := by decide +kernel
theorem dX12_rest_50 : decode cX12_rest 50 = .ok (.iconst 1, 1) := by decide +kernel
theorem dX12_rest_51 : decode cX12_rest 51 = .ok (.iand, 1) := by decide +kernel
theorem dX12_rest_52 : decode cX12_rest 52 = .ok (.iconst 1, 1) := by decide +kernel
theorem dX12_rest_53 : decode cX12_rest 53 = .ok (.if_icmp .ne 36, 3) := by decide +kernel
theorem dX12_rest_56 : decode cX12_rest 56 = .ok (.aload_n 0, 1) := by decide +kernel
theorem dX12_rest_57 : decode cX12_rest 57 = .ok (.iload 4, 2) := by decide +kernel
theorem dX12_rest_59 : decode cX12_rest 59 = .ok (.aload_n 0, 1) := by decide +kernel
theorem dX12_rest_60 : decode cX12_rest 60 = .ok (.getfield 189, 3) := by decide +kernel
theorem dX12_rest_63 : decode cX12_rest 63 = .ok (.invokevirtual 128, 3) := by decide +kernel
theorem dX12_rest_66 : decode cX12_rest 66 = .ok (.aload_n 0, 1) := by decide +kernel
theorem dX12_rest_67 : decode cX12_rest 67 = .ok (.getfield 40, 3) := by decide +kernel
theorem dX12_rest_70 : decode cX12_rest 70 = .ok (.aload_n 0, 1) := by decide +kernel
theorem dX12_rest_71 : decode cX12_rest 71 = .ok (.getfield 189, 3) := by decide +kernel
theorem dX12_rest_74 : decode cX12_rest 74 = .ok (.aload_n 0, 1) := by decide +kernel
theorem dX12_rest_75 : decode cX12_rest 75 = .ok (.getfield 189, 3) := by decide +kernel
theorem dX12_rest_78 : decode cX12_rest 78 = .ok (.iastore, 1) := by decide +kernel
theorem dX12_rest_79 : decode cX12_rest 79 = .ok (.aload_n 0, 1) := by decide +kernel
theorem dX12_rest_80 : decode cX12_rest 80 = .ok (.dup, 1) := by decide +kernel
theorem dX12_rest_81 : decode cX12_rest 81 = .ok (.getfield 189, 3) := by decide +kernel
theorem dX12_rest_84 : decode cX12_rest 84 = .ok (.iconst 1, 1) := by decide +kernel
theorem dX12_rest_85 : decode cX12_rest 85 = .ok (.iadd, 1) := by decide +kernel
theorem dX12_rest_86 : decode cX12_rest 86 = .ok (.putfield 189, 3) := by decide +kernel
theorem dX12_rest_89 : decode cX12_rest 89 = .ok (.iinc 4 1, 3) := by decide +kernel
theorem dX12_rest_92 : decode cX12_rest 92 = .ok (.goto (-53), 3) := by decide +kernel
theorem dX12_rest_95 : decode cX12_rest 95 = .ok (.iconst 0, 1) := by decide +kernel
theorem dX12_rest_96 : decode cX12_rest 96 = .ok (.istore 4, 2) := by decide +kernel
theorem dX12_rest_98 : decode cX12_rest 98 = .ok (.iload 4, 2) := by decide +kernel
theorem dX12_rest_100 : decode cX12_rest 100 = .ok (.aload_n 0, 1) := by decide +kernel
theorem dX12_rest_101 : decode cX12_rest 101 = .ok (.getfield 189, 3) := by decide +kernel
theorem dX12_rest_104 : decode cX12_rest 104 = .ok (.if_icmp .ge 28, 3) := by decide +kernel
theorem dX12_rest_107 : decode cX12_rest 107 = .ok (.aload_n 0, 1) := by decide +kernel
theorem dX12_rest_108 : decode cX12_rest 108 = .ok (.aload_n 0, 1) := by decide +kernel
theorem dX12_rest_109 : decode cX12_rest 109 = .ok (.getfield 40, 3) := by decide +kernel
theorem dX12_rest_112 : decode cX12_rest 112 = .ok (.iload 4, 2) := by decide +kernel
theorem dX12_rest_114 : decode cX12_rest 114 = .ok (.iaload, 1) := by decide +kernel
theorem dX12_rest_115 : decode cX12_rest 115 = .ok (.invokevirtual 89, 3) := by decide +kernel
theorem dX12_rest_118 : decode cX12_rest 118 = .ok (.ifCond .ge 8, 3) := by decide +kernel
theorem dX12_rest_121 : decode cX12_rest 121 = .ok (.aload_n 0, 1) := by decide +kernel
theorem dX12_rest_122 : decode cX12_rest 122 = .ok (.invokevirtual 70, 3) := by decide +kernel
theorem dX12_rest_125 : decode cX12_rest 125 = .ok (.ireturn, 1) := by decide +kernel
theorem dX12_rest_126 : decode cX12_rest 126 = .ok (.iinc 4 1, 3) := by decide +kernel
theorem dX12_rest_129 : decode cX12_rest 129 = .ok (.goto (-31), 3) := by decide +kernel
theorem dX12_rest_132 : decode cX12_rest 132 = .ok (.aload_n 0, 1) := by decide +kernel
theorem dX12_rest_133 : decode cX12_rest 133 = .ok (.iload_n 2, 1) := by decide +kernel
theorem dX12_rest_134 : decode cX12_rest 134 = .ok (.bipush 24, 2) := by decide +kernel
theorem dX12_rest_136 : decode cX12_rest 136 = .ok (.invokevirtual 128, 3) := by decide +kernel
theorem dX12_rest_139 : decode cX12_rest 139 = .ok (.aload_n 0, 1) := by decide +kernel
theorem dX12_rest_140 : decode cX12_rest 140 = .ok (.bipush 25, 2) := by decide +kernel
theorem dX12_rest_142 : decode cX12_rest 142 = .ok (.invokevirtual 204, 3) := by decide +kernel
theorem dX12_rest_145 : decode cX12_rest 145 = .ok (.aload_n 0, 1) := by decide +kernel
theorem dX12_rest_146 : decode cX12_rest 146 = .ok (.iload_n 1, 1) := by decide +kernel
theorem dX12_rest_147 : decode cX12_rest 147 = .ok (.bipush 25, 2) := by decide +kernel
theorem dX12_rest_149 : decode cX12_rest 149 = .ok (.invokevirtual 134, 3) := by decide +kernel
theorem dX12_rest_152 : decode cX12_rest 152 = .ok (.ireturn, 1) := by decide +kernel
theorem dX12_evens_0 : decode cX12_evens 0 = .ok (.aload_n 0, 1) := by decide +kernel
theorem dX12_evens_1 : decode cX12_evens 1 = .ok (.getfield 22, 3) := by decide +kernel
theorem dX12_evens_4 : decode cX12_evens 4 = .ok (.sipush 496, 3) := by decide +kernel
theorem dX12_evens_7 : decode cX12_evens 7 = .ok (.iload_n 1, 1) := by decide +kernel
theorem dX12_evens_8 : decode cX12_evens 8 = .ok (.imul, 1) := by decide +kernel
theorem dX12_evens_9 : decode cX12_evens 9 = .ok (.aload_n 0, 1) := by decide +kernel
theorem dX12_evens_10 : decode cX12_evens 10 = .ok (.iload_n 1, 1) := by decide +kernel
theorem dX12_evens_11 : decode cX12_evens 11 = .ok (.invokevirtual 149, 3) := by decide +kernel
theorem dX12_evens_14 : decode cX12_evens 14 = .ok (.iadd, 1) := by decide +kernel
theorem dX12_evens_15 : decode cX12_evens 15 = .ok (.iaload, 1) := by decide +kernel
theorem dX12_evens_16 : decode cX12_evens 16 = .ok (.invokestatic 177, 3) := by decide +kernel
theorem dX12_evens_19 : decode cX12_evens 19 = .ok (.istore_n 2, 1) := by decide +kernel
theorem dX12_evens_20 : decode cX12_evens 20 = .ok (.iconst 0, 1) := by decide +kernel
theorem dX12_evens_21 : decode cX12_evens 21 = .ok (.istore_n 3, 1) := by decide +kernel
theorem dX12_evens_22 : decode cX12_evens 22 = .ok (.iload_n 3, 1) := by decide +kernel
theorem dX12_evens_23 : decode cX12_evens 23 = .ok (.sipush 496, 3) := by decide +kernel
theorem dX12_evens_26 : decode cX12_evens 26 = .ok (.if_icmp .ge 39, 3) := by decide +kernel
theorem dX12_evens_29 : decode cX12_evens 29 = .ok (.aload_n 0, 1) := by decide +kernel
theorem dX12_evens_30 : decode cX12_evens 30 = .ok (.getfield 22, 3) := by decide +kernel
theorem dX12_evens_33 : decode cX12_evens 33 = .ok (.sipush 496, 3) := by decide +kernel
theorem dX12_evens_36 : decode cX12_evens 36 = .ok (.iload_n 1, 1) := by decide +kernel
theorem dX12_evens_37 : decode cX12_evens 37 = .ok (.imul, 1) := by decide +kernel
theorem dX12_evens_38 : decode cX12_evens 38 = .ok (.iload_n 3, 1) := by decide +kernel
theorem dX12_evens_39 : decode cX12_evens 39 = .ok (.iadd, 1) := by decide +kernel
theorem dX12_evens_40 : decode cX12_evens 40 = .ok (.aload_n 0, 1) := by decide +kernel
theorem dX12_evens_41 : decode cX12_evens 41 = .ok (.getfield 22, 3) := by decide +kernel
theorem dX12_evens_44 : decode cX12_evens 44 = .ok (.sipush 496, 3) := by decide +kernel
theorem dX12_evens_47 : decode cX12_evens 47 = .ok (.iload_n 1, 1) := by decide +kernel
theorem dX12_evens_48 : decode cX12_evens 48 = .ok (.imul, 1) := by decide +kernel
theorem dX12_evens_49 : decode cX12_evens 49 = .ok (.iload_n 3, 1) := by decide +kernel
theorem dX12_evens_50 : decode cX12_evens 50 = .ok (.iadd, 1) := by decide +kernel
theorem dX12_evens_51 : decode cX12_evens 51 = .ok (.iaload, 1) := by decide +kernel
theorem dX12_evens_52 : decode cX12_evens 52 = .ok (.iload_n 2, 1) := by decide +kernel
theorem dX12_evens_53 : decode cX12_evens 53 = .ok (.imul, 1) := by decide +kernel
theorem dX12_evens_54 : decode cX12_evens 54 = .ok (.sipush 10007, 3) := by decide +kernel
theorem dX12_evens_57 : decode cX12_evens 57 = .ok (.irem, 1) := by decide +kernel
theorem dX12_evens_58 : decode cX12_evens 58 = .ok (.iastore, 1) := by decide +kernel
theorem dX12_evens_59 : decode cX12_evens 59 = .ok (.iinc 3 1, 3) := by decide +kernel
theorem dX12_evens_62 : decode cX12_evens 62 = .ok (.goto (-40), 3) := by decide +kernel
theorem dX12_evens_65 : decode cX12_evens 65 = .ok (.return_, 1) := by decide +kernel
theorem dX12_areAlike_0 : decode cX12_areAlike 0 = .ok (.iconst 1, 1) := by decide +kernel
theorem dX12_areAlike_1 : decode cX12_areAlike 1 = .ok (.istore_n 3, 1) := by decide +kernel
theorem dX12_areAlike_2 : decode cX12_areAlike 2 = .ok (.iconst 0, 1) := by decide +kernel
theorem dX12_areAlike_3 : decode cX12_areAlike 3 = .ok (.istore 4, 2) := by decide +kernel
theorem dX12_areAlike_5 : decode cX12_areAlike 5 = .ok (.iload 4, 2) := by decide +kernel
theorem dX12_areAlike_7 : decode cX12_areAlike 7 = .ok (.sipush 496, 3) := by decide +kernel
theorem dX12_areAlike_10 : decode cX12_areAlike 10 = .ok (.if_icmp .ge 48, 3) := by decide +kernel
theorem dX12_areAlike_13 : decode cX12_areAlike 13 = .ok (.iload_n 3, 1) := by decide +kernel
theorem dX12_areAlike_14 : decode cX12_areAlike 14 = .ok (.ifCond .eq 36, 3) := by decide +kernel
theorem dX12_areAlike_17 : decode cX12_areAlike 17 = .ok (.aload_n 0, 1) := by decide +kernel
theorem dX12_areAlike_18 : decode cX12_areAlike 18 = .ok (.getfield 22, 3) := by decide +kernel
theorem dX12_areAlike_21 : decode cX12_areAlike 21 = .ok (.sipush 496, 3) := by decide +kernel
theorem dX12_areAlike_24 : decode cX12_areAlike 24 = .ok (.iload_n 1, 1) := by decide +kernel
theorem dX12_areAlike_25 : decode cX12_areAlike 25 = .ok (.imul, 1) := by decide +kernel
theorem dX12_areAlike_26 : decode cX12_areAlike 26 = .ok (.iload 4, 2) := by decide +kernel
theorem dX12_areAlike_28 : decode cX12_areAlike 28 = .ok (.iadd, 1) := by decide +kernel
theorem dX12_areAlike_29 : decode cX12_areAlike 29 = .ok (.iaload, 1) := by decide +kernel
theorem dX12_areAlike_30 : decode cX12_areAlike 30 = .ok (.aload_n 0, 1) := by decide +kernel
theorem dX12_areAlike_31 : decode cX12_areAlike 31 = .ok (.getfield 22, 3) := by decide +kernel
theorem dX12_areAlike_34 : decode cX12_areAlike 34 = .ok (.sipush 496, 3) := by decide +kernel
theorem dX12_areAlike_37 : decode cX12_areAlike 37 = .ok (.iload_n 2, 1) := by decide +kernel
theorem dX12_areAlike_38 : decode cX12_areAlike 38 = .ok (.imul, 1) := by decide +kernel
theorem dX12_areAlike_39 : decode cX12_areAlike 39 = .ok (.iload 4, 2) := by decide +kernel
theorem dX12_areAlike_41 : decode cX12_areAlike 41 = .ok (.iadd, 1) := by decide +kernel
theorem dX12_areAlike_42 : decode cX12_areAlike 42 = .ok (.iaload, 1) := by decide +kernel
theorem dX12_areAlike_43 : decode cX12_areAlike 43 = .ok (.if_icmp .ne 7, 3) := by decide +kernel
theorem dX12_areAlike_46 : decode cX12_areAlike 46 = .ok (.iconst 1, 1) := by decide +kernel
theorem dX12_areAlike_47 : decode cX12_areAlike 47 = .ok (.goto 4, 3) := by decide +kernel
theorem dX12_areAlike_50 : decode cX12_areAlike 50 = .ok (.iconst 0, 1) := by decide +kernel
theorem dX12_areAlike_51 : decode cX12_areAlike 51 = .ok (.istore_n 3, 1) := by decide +kernel
theorem dX12_areAlike_52 : decode cX12_areAlike 52 = .ok (.iinc 4 1, 3) := by decide +kernel
theorem dX12_areAlike_55 : decode cX12_areAlike 55 = .ok (.goto (-50), 3) := by decide +kernel
theorem dX12_areAlike_58 : decode cX12_areAlike 58 = .ok (.iload_n 3, 1) := by decide +kernel
theorem dX12_areAlike_59 : decode cX12_areAlike 59 = .ok (.ireturn, 1) := by decide +kernel
theorem dX12_rowGoes_0 : decode cX12_rowGoes 0 = .ok (.aload_n 0, 1) := by decide +kernel
theorem dX12_rowGoes_1 : decode cX12_rowGoes 1 = .ok (.dup, 1) := by decide +kernel
theorem dX12_rowGoes_2 : decode cX12_rowGoes 2 = .ok (.getfield 207, 3) := by decide +kernel
theorem dX12_rowGoes_5 : decode cX12_rowGoes 5 = .ok (.iconst 1, 1) := by decide +kernel
theorem dX12_rowGoes_6 : decode cX12_rowGoes 6 = .ok (.isub, 1) := by decide +kernel
theorem dX12_rowGoes_7 : decode cX12_rowGoes 7 = .ok (.putfield 207, 3) := by decide +kernel
theorem dX12_rowGoes_10 : decode cX12_rowGoes 10 = .ok (.iload_n 1, 1) := by decide +kernel
theorem dX12_rowGoes_11 : decode cX12_rowGoes 11 = .ok (.istore_n 2, 1) := by decide +kernel
theorem dX12_rowGoes_12 : decode cX12_rowGoes 12 = .ok (.iload_n 2, 1) := by decide +kernel
theorem dX12_rowGoes_13 : decode cX12_rowGoes 13 = .ok (.aload_n 0, 1) := by decide +kernel
theorem dX12_rowGoes_14 : decode cX12_rowGoes 14 = .ok (.getfield 207, 3) := by decide +kernel
theorem dX12_rowGoes_17 : decode cX12_rowGoes 17 = .ok (.if_icmp .ge 17, 3) := by decide +kernel
theorem dX12_rowGoes_20 : decode cX12_rowGoes 20 = .ok (.aload_n 0, 1) := by decide +kernel
theorem dX12_rowGoes_21 : decode cX12_rowGoes 21 = .ok (.iload_n 2, 1) := by decide +kernel
theorem dX12_rowGoes_22 : decode cX12_rowGoes 22 = .ok (.iconst 1, 1) := by decide +kernel
theorem dX12_rowGoes_23 : decode cX12_rowGoes 23 = .ok (.iadd, 1) := by decide +kernel
theorem dX12_rowGoes_24 : decode cX12_rowGoes 24 = .ok (.iload_n 2, 1) := by decide +kernel
theorem dX12_rowGoes_25 : decode cX12_rowGoes 25 = .ok (.invokevirtual 103, 3) := by decide +kernel
theorem dX12_rowGoes_28 : decode cX12_rowGoes 28 = .ok (.iinc 2 1, 3) := by decide +kernel
theorem dX12_rowGoes_31 : decode cX12_rowGoes 31 = .ok (.goto (-19), 3) := by decide +kernel
theorem dX12_rowGoes_34 : decode cX12_rowGoes 34 = .ok (.return_, 1) := by decide +kernel
theorem dX12_takesBy_0 : decode cX12_takesBy 0 = .ok (.aload_n 0, 1) := by decide +kernel
theorem dX12_takesBy_1 : decode cX12_takesBy 1 = .ok (.iconst 0, 1) := by decide +kernel
theorem dX12_takesBy_2 : decode cX12_takesBy 2 = .ok (.putfield 189, 3) := by decide +kernel
theorem dX12_takesBy_5 : decode cX12_takesBy 5 = .ok (.iconst 0, 1) := by decide +kernel
theorem dX12_takesBy_6 : decode cX12_takesBy 6 = .ok (.istore_n 2, 1) := by decide +kernel
theorem dX12_takesBy_7 : decode cX12_takesBy 7 = .ok (.iload_n 2, 1) := by decide +kernel
theorem dX12_takesBy_8 : decode cX12_takesBy 8 = .ok (.aload_n 0, 1) := by decide +kernel
theorem dX12_takesBy_9 : decode cX12_takesBy 9 = .ok (.getfield 207, 3) := by decide +kernel
theorem dX12_takesBy_12 : decode cX12_takesBy 12 = .ok (.if_icmp .ge 34, 3) := by decide +kernel
theorem dX12_takesBy_15 : decode cX12_takesBy 15 = .ok (.iload_n 2, 1) := by decide +kernel
theorem dX12_takesBy_16 : decode cX12_takesBy 16 = .ok (.iload_n 1, 1) := by decide +kernel
theorem dX12_takesBy_17 : decode cX12_takesBy 17 = .ok (.if_icmp .eq 23, 3) := by decide +kernel
theorem dX12_takesBy_20 : decode cX12_takesBy 20 = .ok (.aload_n 0, 1) := by decide +kernel
theorem dX12_takesBy_21 : decode cX12_takesBy 21 = .ok (.getfield 40, 3) := by decide +kernel
theorem dX12_takesBy_24 : decode cX12_takesBy 24 = .ok (.aload_n 0, 1) := by decide +kernel
theorem dX12_takesBy_25 : decode cX12_takesBy 25 = .ok (.getfield 189, 3) := by decide +kernel
theorem dX12_takesBy_28 : decode cX12_takesBy 28 = .ok (.iload_n 2, 1) := by decide +kernel
theorem dX12_takesBy_29 : decode cX12_takesBy 29 = .ok (.iastore, 1) := by decide +kernel
theorem dX12_takesBy_30 : decode cX12_takesBy 30 = .ok (.aload_n 0, 1) := by decide +kernel
theorem dX12_takesBy_31 : decode cX12_takesBy 31 = .ok (.dup, 1) := by decide +kernel
theorem dX12_takesBy_32 : decode cX12_takesBy 32 = .ok (.getfield 189, 3) := by decide +kernel
theorem dX12_takesBy_35 : decode cX12_takesBy 35 = .ok (.iconst 1, 1) := by decide +kernel
theorem dX12_takesBy_36 : decode cX12_takesBy 36 = .ok (.iadd, 1) := by decide +kernel
theorem dX12_takesBy_37 : decode cX12_takesBy 37 = .ok (.putfield 189, 3) := by decide +kernel
theorem dX12_takesBy_40 : decode cX12_takesBy 40 = .ok (.iinc 2 1, 3) := by decide +kernel
theorem dX12_takesBy_43 : decode cX12_takesBy 43 = .ok (.goto (-36), 3) := by decide +kernel
theorem dX12_takesBy_46 : decode cX12_takesBy 46 = .ok (.return_, 1) := by decide +kernel
theorem dX12_tidies_0 : decode cX12_tidies 0 = .ok (.iconst 1, 1) := by decide +kernel
theorem dX12_tidies_1 : decode cX12_tidies 1 = .ok (.istore_n 1, 1) := by decide +kernel
theorem dX12_tidies_2 : decode cX12_tidies 2 = .ok (.iload_n 1, 1) := by decide +kernel
theorem dX12_tidies_3 : decode cX12_tidies 3 = .ok (.ifCond .eq 95, 3) := by decide +kernel
theorem dX12_tidies_6 : decode cX12_tidies 6 = .ok (.iconst 0, 1) := by decide +kernel
theorem dX12_tidies_7 : decode cX12_tidies 7 = .ok (.istore_n 1, 1) := by decide +kernel
theorem dX12_tidies_8 : decode cX12_tidies 8 = .ok (.aload_n 0, 1) := by decide +kernel
theorem dX12_tidies_9 : decode cX12_tidies 9 = .ok (.getfield 207, 3) := by decide +kernel
theorem dX12_tidies_12 : decode cX12_tidies 12 = .ok (.iconst 1, 1) := by decide +kernel
theorem dX12_tidies_13 : decode cX12_tidies 13 = .ok (.isub, 1) := by decide +kernel
theorem dX12_tidies_14 : decode cX12_tidies 14 = .ok (.istore_n 2, 1) := by decide +kernel
theorem dX12_tidies_15 : decode cX12_tidies 15 = .ok (.iload_n 2, 1) := by decide +kernel
theorem dX12_tidies_16 : decode cX12_tidies 16 = .ok (.ifCond .lt 79, 3) := by decide +kernel
theorem dX12_tidies_19 : decode cX12_tidies 19 = .ok (.aload_n 0, 1) := by decide +kernel
theorem dX12_tidies_20 : decode cX12_tidies 20 = .ok (.iload_n 2, 1) := by decide +kernel
theorem dX12_tidies_21 : decode cX12_tidies 21 = .ok (.invokevirtual 210, 3) := by decide +kernel
theorem dX12_tidies_24 : decode cX12_tidies 24 = .ok (.aload_n 0, 1) := by decide +kernel
theorem dX12_tidies_25 : decode cX12_tidies 25 = .ok (.iload_n 2, 1) := by decide +kernel
theorem dX12_tidies_26 : decode cX12_tidies 26 = .ok (.bipush 24, 2) := by decide +kernel
theorem dX12_tidies_28 : decode cX12_tidies 28 = .ok (.invokevirtual 103, 3) := by decide +kernel
theorem dX12_tidies_31 : decode cX12_tidies 31 = .ok (.aload_n 0, 1) := by decide +kernel
theorem dX12_tidies_32 : decode cX12_tidies 32 = .ok (.bipush 25, 2) := by decide +kernel
theorem dX12_tidies_34 : decode cX12_tidies 34 = .ok (.invokevirtual 204, 3) := by decide +kernel
theorem dX12_tidies_37 : decode cX12_tidies 37 = .ok (.aload_n 0, 1) := by decide +kernel
theorem dX12_tidies_38 : decode cX12_tidies 38 = .ok (.bipush 25, 2) := by decide +kernel
theorem dX12_tidies_40 : decode cX12_tidies 40 = .ok (.invokevirtual 89, 3) := by decide +kernel
theorem dX12_tidies_43 : decode cX12_tidies 43 = .ok (.ifCond .ge 13, 3) := by decide +kernel
theorem dX12_tidies_46 : decode cX12_tidies 46 = .ok (.aload_n 0, 1) := by decide +kernel
theorem dX12_tidies_47 : decode cX12_tidies 47 = .ok (.iload_n 2, 1) := by decide +kernel
theorem dX12_tidies_48 : decode cX12_tidies 48 = .ok (.invokevirtual 213, 3) := by decide +kernel
theorem dX12_tidies_51 : decode cX12_tidies 51 = .ok (.iconst 1, 1) := by decide +kernel
theorem dX12_tidies_52 : decode cX12_tidies 52 = .ok (.istore_n 1, 1) := by decide +kernel
theorem dX12_tidies_53 : decode cX12_tidies 53 = .ok (.goto 36, 3) := by decide +kernel
theorem dX12_tidies_56 : decode cX12_tidies 56 = .ok (.aload_n 0, 1) := by decide +kernel
theorem dX12_tidies_57 : decode cX12_tidies 57 = .ok (.bipush 25, 2) := by decide +kernel
theorem dX12_tidies_59 : decode cX12_tidies 59 = .ok (.invokevirtual 216, 3) := by decide +kernel
theorem dX12_tidies_62 : decode cX12_tidies 62 = .ok (.iload_n 1, 1) := by decide +kernel
theorem dX12_tidies_63 : decode cX12_tidies 63 = .ok (.ifCond .ne 13, 3) := by decide +kernel
theorem dX12_tidies_66 : decode cX12_tidies 66 = .ok (.aload_n 0, 1) := by decide +kernel
theorem dX12_tidies_67 : decode cX12_tidies 67 = .ok (.bipush 25, 2) := by decide +kernel
theorem dX12_tidies_69 : decode cX12_tidies 69 = .ok (.iload_n 2, 1) := by decide +kernel
theorem dX12_tidies_70 : decode cX12_tidies 70 = .ok (.invokevirtual 219, 3) := by decide +kernel
theorem dX12_tidies_73 : decode cX12_tidies 73 = .ok (.ifCond .ne 7, 3) := by decide +kernel
theorem dX12_tidies_76 : decode cX12_tidies 76 = .ok (.iconst 1, 1) := by decide +kernel
theorem dX12_tidies_77 : decode cX12_tidies 77 = .ok (.goto 4, 3) := by decide +kernel
theorem dX12_tidies_80 : decode cX12_tidies 80 = .ok (.iconst 0, 1) := by decide +kernel
theorem dX12_tidies_81 : decode cX12_tidies 81 = .ok (.istore_n 1, 1) := by decide +kernel
theorem dX12_tidies_82 : decode cX12_tidies 82 = .ok (.aload_n 0, 1) := by decide +kernel
theorem dX12_tidies_83 : decode cX12_tidies 83 = .ok (.bipush 25, 2) := by decide +kernel
theorem dX12_tidies_85 : decode cX12_tidies 85 = .ok (.iload_n 2, 1) := by decide +kernel
theorem dX12_tidies_86 : decode cX12_tidies 86 = .ok (.invokevirtual 103, 3) := by decide +kernel
theorem dX12_tidies_89 : decode cX12_tidies 89 = .ok (.iinc 2 (-1), 3) := by decide +kernel
theorem dX12_tidies_92 : decode cX12_tidies 92 = .ok (.goto (-77), 3) := by decide +kernel
theorem dX12_tidies_95 : decode cX12_tidies 95 = .ok (.goto (-93), 3) := by decide +kernel
theorem dX12_tidies_98 : decode cX12_tidies 98 = .ok (.return_, 1) := by decide +kernel
theorem dX12_isAhead_0 : decode cX12_isAhead 0 = .ok (.aload_n 0, 1) := by decide +kernel
theorem dX12_isAhead_1 : decode cX12_isAhead 1 = .ok (.getfield 25, 3) := by decide +kernel
theorem dX12_isAhead_4 : decode cX12_isAhead 4 = .ok (.iload_n 1, 1) := by decide +kernel
theorem dX12_isAhead_5 : decode cX12_isAhead 5 = .ok (.iaload, 1) := by decide +kernel
theorem dX12_isAhead_6 : decode cX12_isAhead 6 = .ok (.aload_n 0, 1) := by decide +kernel
theorem dX12_isAhead_7 : decode cX12_isAhead 7 = .ok (.getfield 28, 3) := by decide +kernel
theorem dX12_isAhead_10 : decode cX12_isAhead 10 = .ok (.iload_n 1, 1) := by decide +kernel
theorem dX12_isAhead_11 : decode cX12_isAhead 11 = .ok (.iaload, 1) := by decide +kernel
theorem dX12_isAhead_12 : decode cX12_isAhead 12 = .ok (.iadd, 1) := by decide +kernel
theorem dX12_isAhead_13 : decode cX12_isAhead 13 = .ok (.istore_n 3, 1) := by decide +kernel
theorem dX12_isAhead_14 : decode cX12_isAhead 14 = .ok (.aload_n 0, 1) := by decide +kernel
theorem dX12_isAhead_15 : decode cX12_isAhead 15 = .ok (.getfield 25, 3) := by decide +kernel
theorem dX12_isAhead_18 : decode cX12_isAhead 18 = .ok (.iload_n 2, 1) := by decide +kernel
theorem dX12_isAhead_19 : decode cX12_isAhead 19 = .ok (.iaload, 1) := by decide +kernel
theorem dX12_isAhead_20 : decode cX12_isAhead 20 = .ok (.aload_n 0, 1) := by decide +kernel
theorem dX12_isAhead_21 : decode cX12_isAhead 21 = .ok (.getfield 28, 3) := by decide +kernel
theorem dX12_isAhead_24 : decode cX12_isAhead 24 = .ok (.iload_n 2, 1) := by decide +kernel
theorem dX12_isAhead_25 : decode cX12_isAhead 25 = .ok (.iaload, 1) := by decide +kernel
theorem dX12_isAhead_26 : decode cX12_isAhead 26 = .ok (.iadd, 1) := by decide +kernel
theorem dX12_isAhead_27 : decode cX12_isAhead 27 = .ok (.istore 4, 2) := by decide +kernel
theorem dX12_isAhead_29 : decode cX12_isAhead 29 = .ok (.iload_n 3, 1) := by decide +kernel
theorem dX12_isAhead_30 : decode cX12_isAhead 30 = .ok (.iload 4, 2) := by decide +kernel
theorem dX12_isAhead_32 : decode cX12_isAhead 32 = .ok (.if_icmp .gt 53, 3) := by decide +kernel
theorem dX12_isAhead_35 : decode cX12_isAhead 35 = .ok (.iload_n 3, 1) := by decide +kernel
theorem dX12_isAhead_36 : decode cX12_isAhead 36 = .ok (.iload 4, 2) := by decide +kernel
theorem dX12_isAhead_38 : decode cX12_isAhead 38 = .ok (.if_icmp .ne 51, 3) := by decide +kernel
theorem dX12_isAhead_41 : decode cX12_isAhead 41 = .ok (.aload_n 0, 1) := by decide +kernel
theorem dX12_isAhead_42 : decode cX12_isAhead 42 = .ok (.getfield 7, 3) := by decide +kernel
theorem dX12_isAhead_45 : decode cX12_isAhead 45 = .ok (.sipush 608, 3) := by decide +kernel
theorem dX12_isAhead_48 : decode cX12_isAhead 48 = .ok (.iaload, 1) := by decide +kernel
theorem dX12_isAhead_49 : decode cX12_isAhead 49 = .ok (.ifCond .ne 21, 3) := by decide +kernel
theorem dX12_isAhead_52 : decode cX12_isAhead 52 = .ok (.aload_n 0, 1) := by decide +kernel
theorem dX12_isAhead_53 : decode cX12_isAhead 53 = .ok (.getfield 28, 3) := by decide +kernel
theorem dX12_isAhead_56 : decode cX12_isAhead 56 = .ok (.iload_n 1, 1) := by decide +kernel
theorem dX12_isAhead_57 : decode cX12_isAhead 57 = .ok (.iaload, 1) := by decide +kernel
theorem dX12_isAhead_58 : decode cX12_isAhead 58 = .ok (.aload_n 0, 1) := by decide +kernel
theorem dX12_isAhead_59 : decode cX12_isAhead 59 = .ok (.getfield 28, 3) := by decide +kernel
theorem dX12_isAhead_62 : decode cX12_isAhead 62 = .ok (.iload_n 2, 1) := by decide +kernel
theorem dX12_isAhead_63 : decode cX12_isAhead 63 = .ok (.iaload, 1) := by decide +kernel
theorem dX12_isAhead_64 : decode cX12_isAhead 64 = .ok (.if_icmp .le 25, 3) := by decide +kernel
theorem dX12_isAhead_67 : decode cX12_isAhead 67 = .ok (.goto 18, 3) := by decide +kernel
theorem dX12_isAhead_70 : decode cX12_isAhead 70 = .ok (.aload_n 0, 1) := by decide +kernel
theorem dX12_isAhead_71 : decode cX12_isAhead 71 = .ok (.getfield 25, 3) := by decide +kernel
theorem dX12_isAhead_74 : decode cX12_isAhead 74 = .ok (.iload_n 1, 1) := by decide +kernel
theorem dX12_isAhead_75 : decode cX12_isAhead 75 = .ok (.iaload, 1) := by decide +kernel
theorem dX12_isAhead_76 : decode cX12_isAhead 76 = .ok (.aload_n 0, 1) := by decide +kernel
theorem dX12_isAhead_77 : decode cX12_isAhead 77 = .ok (.getfield 25, 3) := by decide +kernel
theorem dX12_isAhead_80 : decode cX12_isAhead 80 = .ok (.iload_n 2, 1) := by decide +kernel
theorem dX12_isAhead_81 : decode cX12_isAhead 81 = .ok (.iaload, 1) := by decide +kernel
theorem dX12_isAhead_82 : decode cX12_isAhead 82 = .ok (.if_icmp .le 7, 3) := by decide +kernel
theorem dX12_isAhead_85 : decode cX12_isAhead 85 = .ok (.iconst 1, 1) := by decide +kernel
theorem dX12_isAhead_86 : decode cX12_isAhead 86 = .ok (.goto 4, 3) := by decide +kernel
theorem dX12_isAhead_89 : decode cX12_isAhead 89 = .ok (.iconst 0, 1) := by decide +kernel
theorem dX12_isAhead_90 : decode cX12_isAhead 90 = .ok (.ireturn, 1) := by decide +kernel
theorem dX12_exchanges_0 : decode cX12_exchanges 0 = .ok (.aload_n 0, 1) := by decide +kernel
theorem dX12_exchanges_1 : decode cX12_exchanges 1 = .ok (.iload_n 1, 1) := by decide +kernel
theorem dX12_exchanges_2 : decode cX12_exchanges 2 = .ok (.bipush 26, 2) := by decide +kernel
theorem dX12_exchanges_4 : decode cX12_exchanges 4 = .ok (.invokevirtual 103, 3) := by decide +kernel
theorem dX12_exchanges_7 : decode cX12_exchanges 7 = .ok (.aload_n 0, 1) := by decide +kernel
theorem dX12_exchanges_8 : decode cX12_exchanges 8 = .ok (.iload_n 2, 1) := by decide +kernel
theorem dX12_exchanges_9 : decode cX12_exchanges 9 = .ok (.iload_n 1, 1) := by decide +kernel
theorem dX12_exchanges_10 : decode cX12_exchanges 10 = .ok (.invokevirtual 103, 3) := by decide +kernel
theorem dX12_exchanges_13 : decode cX12_exchanges 13 = .ok (.aload_n 0, 1) := by decide +kernel
theorem dX12_exchanges_14 : decode cX12_exchanges 14 = .ok (.bipush 26, 2) := by decide +kernel
theorem dX12_exchanges_16 : decode cX12_exchanges 16 = .ok (.iload_n 2, 1) := by decide +kernel
theorem dX12_exchanges_17 : decode cX12_exchanges 17 = .ok (.invokevirtual 103, 3) := by decide +kernel
theorem dX12_exchanges_20 : decode cX12_exchanges 20 = .ok (.return_, 1) := by decide +kernel
theorem dX12_sorts_0 : decode cX12_sorts 0 = .ok (.iconst 1, 1) := by decide +kernel
theorem dX12_sorts_1 : decode cX12_sorts 1 = .ok (.istore_n 2, 1) := by decide +kernel
theorem dX12_sorts_2 : decode cX12_sorts 2 = .ok (.iload_n 2, 1) := by decide +kernel
theorem dX12_sorts_3 : decode cX12_sorts 3 = .ok (.aload_n 0, 1) := by decide +kernel
theorem dX12_sorts_4 : decode cX12_sorts 4 = .ok (.getfield 207, 3) := by decide +kernel
theorem dX12_sorts_7 : decode cX12_sorts 7 = .ok (.if_icmp .ge 80, 3) := by decide +kernel
theorem dX12_sorts_10 : decode cX12_sorts 10 = .ok (.iload_n 2, 1) := by decide +kernel
theorem dX12_sorts_11 : decode cX12_sorts 11 = .ok (.istore_n 3, 1) := by decide +kernel
theorem dX12_sorts_12 : decode cX12_sorts 12 = .ok (.iload_n 3, 1) := by decide +kernel
theorem dX12_sorts_13 : decode cX12_sorts 13 = .ok (.ifCond .le 68, 3) := by decide +kernel
theorem dX12_sorts_16 : decode cX12_sorts 16 = .ok (.aload_n 0, 1) := by decide +kernel
theorem dX12_sorts_17 : decode cX12_sorts 17 = .ok (.iload_n 3, 1) := by decide +kernel
theorem dX12_sorts_18 : decode cX12_sorts 18 = .ok (.iconst 1, 1) := by decide +kernel
theorem dX12_sorts_19 : decode cX12_sorts 19 = .ok (.isub, 1) := by decide +kernel
theorem dX12_sorts_20 : decode cX12_sorts 20 = .ok (.invokevirtual 149, 3) := by decide +kernel
theorem dX12_sorts_23 : decode cX12_sorts 23 = .ok (.istore 4, 2) := by decide +kernel
theorem dX12_sorts_25 : decode cX12_sorts 25 = .ok (.aload_n 0, 1) := by decide +kernel
theorem dX12_sorts_26 : decode cX12_sorts 26 = .ok (.iload_n 3, 1) := by decide +kernel
theorem dX12_sorts_27 : decode cX12_sorts 27 = .ok (.invokevirtual 149, 3) := by decide +kernel
theorem dX12_sorts_30 : decode cX12_sorts 30 = .ok (.istore 5, 2) := by decide +kernel
theorem dX12_sorts_32 : decode cX12_sorts 32 = .ok (.iload_n 1, 1) := by decide +kernel
theorem dX12_sorts_33 : decode cX12_sorts 33 = .ok (.ifCond .eq 23, 3) := by decide +kernel
theorem dX12_sorts_36 : decode cX12_sorts 36 = .ok (.aload_n 0, 1) := by decide +kernel
theorem dX12_sorts_37 : decode cX12_sorts 37 = .ok (.getfield 25, 3) := by decide +kernel
theorem dX12_sorts_40 : decode cX12_sorts 40 = .ok (.iload 4, 2) := by decide +kernel
theorem dX12_sorts_42 : decode cX12_sorts 42 = .ok (.iaload, 1) := by decide +kernel
theorem dX12_sorts_43 : decode cX12_sorts 43 = .ok (.aload_n 0, 1) := by decide +kernel
theorem dX12_sorts_44 : decode cX12_sorts 44 = .ok (.getfield 25, 3) := by decide +kernel
theorem dX12_sorts_47 : decode cX12_sorts 47 = .ok (.iload 5, 2) := by decide +kernel
theorem dX12_sorts_49 : decode cX12_sorts 49 = .ok (.iaload, 1) := by decide +kernel
theorem dX12_sorts_50 : decode cX12_sorts 50 = .ok (.if_icmp .le 25, 3) := by decide +kernel
theorem dX12_sorts_53 : decode cX12_sorts 53 = .ok (.goto 14, 3) := by decide +kernel
theorem dX12_sorts_56 : decode cX12_sorts 56 = .ok (.aload_n 0, 1) := by decide +kernel
theorem dX12_sorts_57 : decode cX12_sorts 57 = .ok (.iload 4, 2) := by decide +kernel
theorem dX12_sorts_59 : decode cX12_sorts 59 = .ok (.iload 5, 2) := by decide +kernel
theorem dX12_sorts_61 : decode cX12_sorts 61 = .ok (.invokevirtual 222, 3) := by decide +kernel
theorem dX12_sorts_64 : decode cX12_sorts 64 = .ok (.ifCond .eq 11, 3) := by decide +kernel
theorem dX12_sorts_67 : decode cX12_sorts 67 = .ok (.aload_n 0, 1) := by decide +kernel
theorem dX12_sorts_68 : decode cX12_sorts 68 = .ok (.iload_n 3, 1) := by decide +kernel
theorem dX12_sorts_69 : decode cX12_sorts 69 = .ok (.iconst 1, 1) := by decide +kernel
theorem dX12_sorts_70 : decode cX12_sorts 70 = .ok (.isub, 1) := by decide +kernel
theorem dX12_sorts_71 : decode cX12_sorts 71 = .ok (.iload_n 3, 1) := by decide +kernel
theorem dX12_sorts_72 : decode cX12_sorts 72 = .ok (.invokevirtual 225, 3) := by decide +kernel
theorem dX12_sorts_75 : decode cX12_sorts 75 = .ok (.iinc 3 (-1), 3) := by decide +kernel
theorem dX12_sorts_78 : decode cX12_sorts 78 = .ok (.goto (-66), 3) := by decide +kernel
theorem dX12_sorts_81 : decode cX12_sorts 81 = .ok (.iinc 2 1, 3) := by decide +kernel
theorem dX12_sorts_84 : decode cX12_sorts 84 = .ok (.goto (-82), 3) := by decide +kernel
theorem dX12_sorts_87 : decode cX12_sorts 87 = .ok (.return_, 1) := by decide +kernel
theorem dX12_crosses_0 : decode cX12_crosses 0 = .ok (.aload_n 0, 1) := by decide +kernel
theorem dX12_crosses_1 : decode cX12_crosses 1 = .ok (.iload_n 1, 1) := by decide +kernel
theorem dX12_crosses_2 : decode cX12_crosses 2 = .ok (.invokevirtual 149, 3) := by decide +kernel
theorem dX12_crosses_5 : decode cX12_crosses 5 = .ok (.istore_n 3, 1) := by decide +kernel
theorem dX12_crosses_6 : decode cX12_crosses 6 = .ok (.aload_n 0, 1) := by decide +kernel
theorem dX12_crosses_7 : decode cX12_crosses 7 = .ok (.iload_n 2, 1) := by decide +kernel
theorem dX12_crosses_8 : decode cX12_crosses 8 = .ok (.invokevirtual 149, 3) := by decide +kernel
theorem dX12_crosses_11 : decode cX12_crosses 11 = .ok (.istore 4, 2) := by decide +kernel
theorem dX12_crosses_13 : decode cX12_crosses 13 = .ok (.aload_n 0, 1) := by decide +kernel
theorem dX12_crosses_14 : decode cX12_crosses 14 = .ok (.getfield 25, 3) := by decide +kernel
theorem dX12_crosses_17 : decode cX12_crosses 17 = .ok (.iload_n 3, 1) := by decide +kernel
theorem dX12_crosses_18 : decode cX12_crosses 18 = .ok (.iaload, 1) := by decide +kernel
theorem dX12_crosses_19 : decode cX12_crosses 19 = .ok (.aload_n 0, 1) := by decide +kernel
theorem dX12_crosses_20 : decode cX12_crosses 20 = .ok (.getfield 25, 3) := by decide +kernel
theorem dX12_crosses_23 : decode cX12_crosses 23 = .ok (.iload 4, 2) := by decide +kernel
theorem dX12_crosses_25 : decode cX12_crosses 25 = .ok (.iaload, 1) := by decide +kernel
theorem dX12_crosses_26 : decode cX12_crosses 26 = .ok (.if_icmp .le 12, 3) := by decide +kernel
theorem dX12_crosses_29 : decode cX12_crosses 29 = .ok (.aload_n 0, 1) := by decide +kernel
theorem dX12_crosses_30 : decode cX12_crosses 30 = .ok (.getfield 25, 3) := by decide +kernel
theorem dX12_crosses_33 : decode cX12_crosses 33 = .ok (.iload_n 3, 1) := by decide +kernel
theorem dX12_crosses_34 : decode cX12_crosses 34 = .ok (.iaload, 1) := by decide +kernel
theorem dX12_crosses_35 : decode cX12_crosses 35 = .ok (.goto 10, 3) := by decide +kernel
theorem dX12_crosses_38 : decode cX12_crosses 38 = .ok (.aload_n 0, 1) := by decide +kernel
theorem dX12_crosses_39 : decode cX12_crosses 39 = .ok (.getfield 25, 3) := by decide +kernel
theorem dX12_crosses_42 : decode cX12_crosses 42 = .ok (.iload 4, 2) := by decide +kernel
theorem dX12_crosses_44 : decode cX12_crosses 44 = .ok (.iaload, 1) := by decide +kernel
theorem dX12_crosses_45 : decode cX12_crosses 45 = .ok (.istore 5, 2) := by decide +kernel
theorem dX12_crosses_47 : decode cX12_crosses 47 = .ok (.aload_n 0, 1) := by decide +kernel
theorem dX12_crosses_48 : decode cX12_crosses 48 = .ok (.getfield 28, 3) := by decide +kernel
theorem dX12_crosses_51 : decode cX12_crosses 51 = .ok (.iload_n 3, 1) := by decide +kernel
theorem dX12_crosses_52 : decode cX12_crosses 52 = .ok (.iaload, 1) := by decide +kernel
theorem dX12_crosses_53 : decode cX12_crosses 53 = .ok (.aload_n 0, 1) := by decide +kernel
theorem dX12_crosses_54 : decode cX12_crosses 54 = .ok (.getfield 28, 3) := by decide +kernel
theorem dX12_crosses_57 : decode cX12_crosses 57 = .ok (.iload 4, 2) := by decide +kernel
theorem dX12_crosses_59 : decode cX12_crosses 59 = .ok (.iaload, 1) := by decide +kernel
theorem dX12_crosses_60 : decode cX12_crosses 60 = .ok (.if_icmp .le 12, 3) := by decide +kernel
theorem dX12_crosses_63 : decode cX12_crosses 63 = .ok (.aload_n 0, 1) := by decide +kernel
theorem dX12_crosses_64 : decode cX12_crosses 64 = .ok (.getfield 28, 3) := by decide +kernel
theorem dX12_crosses_67 : decode cX12_crosses 67 = .ok (.iload_n 3, 1) := by decide +kernel
theorem dX12_crosses_68 : decode cX12_crosses 68 = .ok (.iaload, 1) := by decide +kernel
theorem dX12_crosses_69 : decode cX12_crosses 69 = .ok (.goto 10, 3) := by decide +kernel
theorem dX12_crosses_72 : decode cX12_crosses 72 = .ok (.aload_n 0, 1) := by decide +kernel
theorem dX12_crosses_73 : decode cX12_crosses 73 = .ok (.getfield 28, 3) := by decide +kernel
theorem dX12_crosses_76 : decode cX12_crosses 76 = .ok (.iload 4, 2) := by decide +kernel
theorem dX12_crosses_78 : decode cX12_crosses 78 = .ok (.iaload, 1) := by decide +kernel
theorem dX12_crosses_79 : decode cX12_crosses 79 = .ok (.istore 6, 2) := by decide +kernel
theorem dX12_crosses_81 : decode cX12_crosses 81 = .ok (.aload_n 0, 1) := by decide +kernel
theorem dX12_crosses_82 : decode cX12_crosses 82 = .ok (.bipush 24, 2) := by decide +kernel
theorem dX12_crosses_84 : decode cX12_crosses 84 = .ok (.invokevirtual 78, 3) := by decide +kernel
theorem dX12_crosses_87 : decode cX12_crosses 87 = .ok (.aload_n 0, 1) := by decide +kernel
theorem dX12_crosses_88 : decode cX12_crosses 88 = .ok (.iload 5, 2) := by decide +kernel
theorem dX12_crosses_90 : decode cX12_crosses 90 = .ok (.aload_n 0, 1) := by decide +kernel
theorem dX12_crosses_91 : decode cX12_crosses 91 = .ok (.getfield 25, 3) := by decide +kernel
theorem dX12_crosses_94 : decode cX12_crosses 94 = .ok (.iload_n 3, 1) := by decide +kernel
theorem dX12_crosses_95 : decode cX12_crosses 95 = .ok (.iaload, 1) := by decide +kernel
theorem dX12_crosses_96 : decode cX12_crosses 96 = .ok (.isub, 1) := by decide +kernel
theorem dX12_crosses_97 : decode cX12_crosses 97 = .ok (.iload 6, 2) := by decide +kernel
theorem dX12_crosses_99 : decode cX12_crosses 99 = .ok (.aload_n 0, 1) := by decide +kernel
theorem dX12_crosses_100 : decode cX12_crosses 100 = .ok (.getfield 28, 3) := by decide +kernel
theorem dX12_crosses_103 : decode cX12_crosses 103 = .ok (.iload_n 3, 1) := by decide +kernel
theorem dX12_crosses_104 : decode cX12_crosses 104 = .ok (.iaload, 1) := by decide +kernel
theorem dX12_crosses_105 : decode cX12_crosses 105 = .ok (.isub, 1) := by decide +kernel
theorem dX12_crosses_106 : decode cX12_crosses 106 = .ok (.iconst 1, 1) := by decide +kernel
theorem dX12_crosses_107 : decode cX12_crosses 107 = .ok (.iload_n 1, 1) := by decide +kernel
theorem dX12_crosses_108 : decode cX12_crosses 108 = .ok (.bipush 24, 2) := by decide +kernel
theorem dX12_crosses_110 : decode cX12_crosses 110 = .ok (.invokevirtual 99, 3) := by decide +kernel
theorem dX12_crosses_113 : decode cX12_crosses 113 = .ok (.aload_n 0, 1) := by decide +kernel
theorem dX12_crosses_114 : decode cX12_crosses 114 = .ok (.iload 5, 2) := by decide +kernel
theorem dX12_crosses_116 : decode cX12_crosses 116 = .ok (.aload_n 0, 1) := by decide +kernel
theorem dX12_crosses_117 : decode cX12_crosses 117 = .ok (.getfield 25, 3) := by decide +kernel
theorem dX12_crosses_120 : decode cX12_crosses 120 = .ok (.iload 4, 2) := by decide +kernel
theorem dX12_crosses_122 : decode cX12_crosses 122 = .ok (.iaload, 1) := by decide +kernel
theorem dX12_crosses_123 : decode cX12_crosses 123 = .ok (.isub, 1) := by decide +kernel
theorem dX12_crosses_124 : decode cX12_crosses 124 = .ok (.iload 6, 2) := by decide +kernel
theorem dX12_crosses_126 : decode cX12_crosses 126 = .ok (.aload_n 0, 1) := by decide +kernel
theorem dX12_crosses_127 : decode cX12_crosses 127 = .ok (.getfield 28, 3) := by decide +kernel
theorem dX12_crosses_130 : decode cX12_crosses 130 = .ok (.iload 4, 2) := by decide +kernel
theorem dX12_crosses_132 : decode cX12_crosses 132 = .ok (.iaload, 1) := by decide +kernel
theorem dX12_crosses_133 : decode cX12_crosses 133 = .ok (.isub, 1) := by decide +kernel
theorem dX12_crosses_134 : decode cX12_crosses 134 = .ok (.sipush 10006, 3) := by decide +kernel
theorem dX12_crosses_137 : decode cX12_crosses 137 = .ok (.iload_n 2, 1) := by decide +kernel
theorem dX12_crosses_138 : decode cX12_crosses 138 = .ok (.bipush 24, 2) := by decide +kernel
theorem dX12_crosses_140 : decode cX12_crosses 140 = .ok (.invokevirtual 99, 3) := by decide +kernel
theorem dX12_crosses_143 : decode cX12_crosses 143 = .ok (.return_, 1) := by decide +kernel
theorem dX12_isOneMore_0 : decode cX12_isOneMore 0 = .ok (.aload_n 0, 1) := by decide +kernel
theorem dX12_isOneMore_1 : decode cX12_isOneMore 1 = .ok (.iconst 1, 1) := by decide +kernel
theorem dX12_isOneMore_2 : decode cX12_isOneMore 2 = .ok (.invokevirtual 228, 3) := by decide +kernel
theorem dX12_isOneMore_5 : decode cX12_isOneMore 5 = .ok (.aload_n 0, 1) := by decide +kernel
theorem dX12_isOneMore_6 : decode cX12_isOneMore 6 = .ok (.sipush (-20001), 3) := by decide +kernel
theorem dX12_isOneMore_9 : decode cX12_isOneMore 9 = .ok (.invokevirtual 210, 3) := by decide +kernel
theorem dX12_isOneMore_12 : decode cX12_isOneMore 12 = .ok (.iconst 1, 1) := by decide +kernel
theorem dX12_isOneMore_13 : decode cX12_isOneMore 13 = .ok (.istore_n 1, 1) := by decide +kernel
theorem dX12_isOneMore_14 : decode cX12_isOneMore 14 = .ok (.iload_n 1, 1) := by decide +kernel
theorem dX12_isOneMore_15 : decode cX12_isOneMore 15 = .ok (.aload_n 0, 1) := by decide +kernel
theorem dX12_isOneMore_16 : decode cX12_isOneMore 16 = .ok (.getfield 207, 3) := by decide +kernel
theorem dX12_isOneMore_19 : decode cX12_isOneMore 19 = .ok (.if_icmp .ge 60, 3) := by decide +kernel
theorem dX12_isOneMore_22 : decode cX12_isOneMore 22 = .ok (.aload_n 0, 1) := by decide +kernel
theorem dX12_isOneMore_23 : decode cX12_isOneMore 23 = .ok (.iload_n 1, 1) := by decide +kernel
theorem dX12_isOneMore_24 : decode cX12_isOneMore 24 = .ok (.iconst 1, 1) := by decide +kernel
theorem dX12_isOneMore_25 : decode cX12_isOneMore 25 = .ok (.isub, 1) := by decide +kernel
theorem dX12_isOneMore_26 : decode cX12_isOneMore 26 = .ok (.iload_n 1, 1) := by decide +kernel
theorem dX12_isOneMore_27 : decode cX12_isOneMore 27 = .ok (.invokevirtual 232, 3) := by decide +kernel
theorem dX12_isOneMore_30 : decode cX12_isOneMore 30 = .ok (.aload_n 0, 1) := by decide +kernel
theorem dX12_isOneMore_31 : decode cX12_isOneMore 31 = .ok (.bipush 25, 2) := by decide +kernel
theorem dX12_isOneMore_33 : decode cX12_isOneMore 33 = .ok (.invokevirtual 204, 3) := by decide +kernel
theorem dX12_isOneMore_36 : decode cX12_isOneMore 36 = .ok (.aload_n 0, 1) := by decide +kernel
theorem dX12_isOneMore_37 : decode cX12_isOneMore 37 = .ok (.bipush 25, 2) := by decide +kernel
theorem dX12_isOneMore_39 : decode cX12_isOneMore 39 = .ok (.invokevirtual 89, 3) := by decide +kernel
theorem dX12_isOneMore_42 : decode cX12_isOneMore 42 = .ok (.ifCond .lt 31, 3) := by decide +kernel
theorem dX12_isOneMore_45 : decode cX12_isOneMore 45 = .ok (.aload_n 0, 1) := by decide +kernel
theorem dX12_isOneMore_46 : decode cX12_isOneMore 46 = .ok (.bipush 25, 2) := by decide +kernel
theorem dX12_isOneMore_48 : decode cX12_isOneMore 48 = .ok (.invokevirtual 216, 3) := by decide +kernel
theorem dX12_isOneMore_51 : decode cX12_isOneMore 51 = .ok (.aload_n 0, 1) := by decide +kernel
theorem dX12_isOneMore_52 : decode cX12_isOneMore 52 = .ok (.bipush 25, 2) := by decide +kernel
theorem dX12_isOneMore_54 : decode cX12_isOneMore 54 = .ok (.aload_n 0, 1) := by decide +kernel
theorem dX12_isOneMore_55 : decode cX12_isOneMore 55 = .ok (.getfield 207, 3) := by decide +kernel
theorem dX12_isOneMore_58 : decode cX12_isOneMore 58 = .ok (.invokevirtual 103, 3) := by decide +kernel
theorem dX12_isOneMore_61 : decode cX12_isOneMore 61 = .ok (.aload_n 0, 1) := by decide +kernel
theorem dX12_isOneMore_62 : decode cX12_isOneMore 62 = .ok (.dup, 1) := by decide +kernel
theorem dX12_isOneMore_63 : decode cX12_isOneMore 63 = .ok (.getfield 207, 3) := by decide +kernel
theorem dX12_isOneMore_66 : decode cX12_isOneMore 66 = .ok (.iconst 1, 1) := by decide +kernel
theorem dX12_isOneMore_67 : decode cX12_isOneMore 67 = .ok (.iadd, 1) := by decide +kernel
theorem dX12_isOneMore_68 : decode cX12_isOneMore 68 = .ok (.putfield 207, 3) := by decide +kernel
theorem dX12_isOneMore_71 : decode cX12_isOneMore 71 = .ok (.iconst 1, 1) := by decide +kernel
theorem dX12_isOneMore_72 : decode cX12_isOneMore 72 = .ok (.ireturn, 1) := by decide +kernel
theorem dX12_isOneMore_73 : decode cX12_isOneMore 73 = .ok (.iinc 1 1, 3) := by decide +kernel
theorem dX12_isOneMore_76 : decode cX12_isOneMore 76 = .ok (.goto (-62), 3) := by decide +kernel
theorem dX12_isOneMore_79 : decode cX12_isOneMore 79 = .ok (.iconst 0, 1) := by decide +kernel
theorem dX12_isOneMore_80 : decode cX12_isOneMore 80 = .ok (.ireturn, 1) := by decide +kernel
theorem dX12_laysBasis_0 : decode cX12_laysBasis 0 = .ok (.aload_n 0, 1) := by decide +kernel
theorem dX12_laysBasis_1 : decode cX12_laysBasis 1 = .ok (.getfield 63, 3) := by decide +kernel
theorem dX12_laysBasis_4 : decode cX12_laysBasis 4 = .ok (.iload_n 1, 1) := by decide +kernel
theorem dX12_laysBasis_5 : decode cX12_laysBasis 5 = .ok (.if_icmp .ne 4, 3) := by decide +kernel
theorem dX12_laysBasis_8 : decode cX12_laysBasis 8 = .ok (.return_, 1) := by decide +kernel
theorem dX12_laysBasis_9 : decode cX12_laysBasis 9 = .ok (.aload_n 0, 1) := by decide +kernel
theorem dX12_laysBasis_10 : decode cX12_laysBasis 10 = .ok (.iconst 0, 1) := by decide +kernel
theorem dX12_laysBasis_11 : decode cX12_laysBasis 11 = .ok (.putfield 207, 3) := by decide +kernel
theorem dX12_laysBasis_14 : decode cX12_laysBasis 14 = .ok (.iconst 0, 1) := by decide +kernel
theorem dX12_laysBasis_15 : decode cX12_laysBasis 15 = .ok (.istore_n 2, 1) := by decide +kernel
theorem dX12_laysBasis_16 : decode cX12_laysBasis 16 = .ok (.iload_n 2, 1) := by decide +kernel
theorem dX12_laysBasis_17 : decode cX12_laysBasis 17 = .ok (.bipush 6, 2) := by decide +kernel
theorem dX12_laysBasis_19 : decode cX12_laysBasis 19 = .ok (.if_icmp .ge 52, 3) := by decide +kernel
theorem dX12_laysBasis_22 : decode cX12_laysBasis 22 = .ok (.iload_n 1, 1) := by decide +kernel
theorem dX12_laysBasis_23 : decode cX12_laysBasis 23 = .ok (.iload_n 2, 1) := by decide +kernel
theorem dX12_laysBasis_24 : decode cX12_laysBasis 24 = .ok (.ishr, 1) := by decide +kernel
theorem dX12_laysBasis_25 : decode cX12_laysBasis 25 = .ok (.iconst 1, 1) := by decide +kernel
theorem dX12_laysBasis_26 : decode cX12_laysBasis 26 = .ok (.iand, 1) := by decide +kernel
theorem dX12_laysBasis_27 : decode cX12_laysBasis 27 = .ok (.iconst 1, 1) := by decide +kernel
theorem dX12_laysBasis_28 : decode cX12_laysBasis 28 = .ok (.if_icmp .ne 37, 3) := by decide +kernel
theorem dX12_laysBasis_31 : decode cX12_laysBasis 31 = .ok (.aload_n 0, 1) := by decide +kernel
theorem dX12_laysBasis_32 : decode cX12_laysBasis 32 = .ok (.iload_n 2, 1) := by decide +kernel
theorem dX12_laysBasis_33 : decode cX12_laysBasis 33 = .ok (.aload_n 0, 1) := by decide +kernel
theorem dX12_laysBasis_34 : decode cX12_laysBasis 34 = .ok (.getfield 207, 3) := by decide +kernel
theorem dX12_laysBasis_37 : decode cX12_laysBasis 37 = .ok (.invokevirtual 128, 3) := by decide +kernel
theorem dX12_laysBasis_40 : decode cX12_laysBasis 40 = .ok (.aload_n 0, 1) := by decide +kernel
theorem dX12_laysBasis_41 : decode cX12_laysBasis 41 = .ok (.dup, 1) := by decide +kernel
theorem dX12_laysBasis_42 : decode cX12_laysBasis 42 = .ok (.getfield 207, 3) := by decide +kernel
theorem dX12_laysBasis_45 : decode cX12_laysBasis 45 = .ok (.aload_n 0, 1) := by decide +kernel
theorem dX12_laysBasis_46 : decode cX12_laysBasis 46 = .ok (.aload_n 0, 1) := by decide +kernel
theorem dX12_laysBasis_47 : decode cX12_laysBasis 47 = .ok (.getfield 207, 3) := by decide +kernel
theorem dX12_laysBasis_50 : decode cX12_laysBasis 50 = .ok (.invokevirtual 89, 3) := by decide +kernel
theorem dX12_laysBasis_53 : decode cX12_laysBasis 53 = .ok (.ifCond .ge 7, 3) := by decide +kernel
theorem dX12_laysBasis_56 : decode cX12_laysBasis 56 = .ok (.iconst 0, 1) := by decide +kernel
theorem dX12_laysBasis_57 : decode cX12_laysBasis 57 = .ok (.goto 4, 3) := by decide +kernel
theorem dX12_laysBasis_60 : decode cX12_laysBasis 60 = .ok (.iconst 1, 1) := by decide +kernel
theorem dX12_laysBasis_61 : decode cX12_laysBasis 61 = .ok (.iadd, 1) := by decide +kernel
theorem dX12_laysBasis_62 : decode cX12_laysBasis 62 = .ok (.putfield 207, 3) := by decide +kernel
theorem dX12_laysBasis_65 : decode cX12_laysBasis 65 = .ok (.iinc 2 1, 3) := by decide +kernel
theorem dX12_laysBasis_68 : decode cX12_laysBasis 68 = .ok (.goto (-52), 3) := by decide +kernel
theorem dX12_laysBasis_71 : decode cX12_laysBasis 71 = .ok (.aload_n 0, 1) := by decide +kernel
theorem dX12_laysBasis_72 : decode cX12_laysBasis 72 = .ok (.invokevirtual 235, 3) := by decide +kernel
theorem dX12_laysBasis_75 : decode cX12_laysBasis 75 = .ok (.aload_n 0, 1) := by decide +kernel
theorem dX12_laysBasis_76 : decode cX12_laysBasis 76 = .ok (.invokevirtual 238, 3) := by decide +kernel
theorem dX12_laysBasis_79 : decode cX12_laysBasis 79 = .ok (.ifCond .eq 10, 3) := by decide +kernel
theorem dX12_laysBasis_82 : decode cX12_laysBasis 82 = .ok (.aload_n 0, 1) := by decide +kernel
theorem dX12_laysBasis_83 : decode cX12_laysBasis 83 = .ok (.invokevirtual 235, 3) := by decide +kernel
theorem dX12_laysBasis_86 : decode cX12_laysBasis 86 = .ok (.goto (-11), 3) := by decide +kernel
theorem dX12_laysBasis_89 : decode cX12_laysBasis 89 = .ok (.aload_n 0, 1) := by decide +kernel
theorem dX12_laysBasis_90 : decode cX12_laysBasis 90 = .ok (.iconst 0, 1) := by decide +kernel
theorem dX12_laysBasis_91 : decode cX12_laysBasis 91 = .ok (.invokevirtual 228, 3) := by decide +kernel
theorem dX12_laysBasis_94 : decode cX12_laysBasis 94 = .ok (.aload_n 0, 1) := by decide +kernel
theorem dX12_laysBasis_95 : decode cX12_laysBasis 95 = .ok (.iload_n 1, 1) := by decide +kernel
theorem dX12_laysBasis_96 : decode cX12_laysBasis 96 = .ok (.putfield 63, 3) := by decide +kernel
theorem dX12_laysBasis_99 : decode cX12_laysBasis 99 = .ok (.return_, 1) := by decide +kernel
theorem dX12_isSmall_0 : decode cX12_isSmall 0 = .ok (.iconst 1, 1) := by decide +kernel
theorem dX12_isSmall_1 : decode cX12_isSmall 1 = .ok (.istore_n 2, 1) := by decide +kernel
theorem dX12_isSmall_2 : decode cX12_isSmall 2 = .ok (.iconst 0, 1) := by decide +kernel
theorem dX12_isSmall_3 : decode cX12_isSmall 3 = .ok (.istore_n 3, 1) := by decide +kernel
theorem dX12_isSmall_4 : decode cX12_isSmall 4 = .ok (.iload_n 3, 1) := by decide +kernel
theorem dX12_isSmall_5 : decode cX12_isSmall 5 = .ok (.bipush 6, 2) := by decide +kernel
theorem dX12_isSmall_7 : decode cX12_isSmall 7 = .ok (.if_icmp .ge 44, 3) := by decide +kernel
theorem dX12_isSmall_10 : decode cX12_isSmall 10 = .ok (.aload_n 0, 1) := by decide +kernel
theorem dX12_isSmall_11 : decode cX12_isSmall 11 = .ok (.iload_n 3, 1) := by decide +kernel
theorem dX12_isSmall_12 : decode cX12_isSmall 12 = .ok (.bipush 24, 2) := by decide +kernel
theorem dX12_isSmall_14 : decode cX12_isSmall 14 = .ok (.invokevirtual 128, 3) := by decide +kernel
theorem dX12_isSmall_17 : decode cX12_isSmall 17 = .ok (.iload_n 2, 1) := by decide +kernel
theorem dX12_isSmall_18 : decode cX12_isSmall 18 = .ok (.ifCond .eq 25, 3) := by decide +kernel
theorem dX12_isSmall_21 : decode cX12_isSmall 21 = .ok (.iload_n 1, 1) := by decide +kernel
theorem dX12_isSmall_22 : decode cX12_isSmall 22 = .ok (.iload_n 3, 1) := by decide +kernel
theorem dX12_isSmall_23 : decode cX12_isSmall 23 = .ok (.ishr, 1) := by decide +kernel
theorem dX12_isSmall_24 : decode cX12_isSmall 24 = .ok (.iconst 1, 1) := by decide +kernel
theorem dX12_isSmall_25 : decode cX12_isSmall 25 = .ok (.iand, 1) := by decide +kernel
theorem dX12_isSmall_26 : decode cX12_isSmall 26 = .ok (.ifCond .eq 13, 3) := by decide +kernel
theorem dX12_isSmall_29 : decode cX12_isSmall 29 = .ok (.aload_n 0, 1) := by decide +kernel
theorem dX12_isSmall_30 : decode cX12_isSmall 30 = .ok (.bipush 24, 2) := by decide +kernel
theorem dX12_isSmall_32 : decode cX12_isSmall 32 = .ok (.invokevirtual 89, 3) := by decide +kernel
theorem dX12_isSmall_35 : decode cX12_isSmall 35 = .ok (.iconst 3, 1) := by decide +kernel
theorem dX12_isSmall_36 : decode cX12_isSmall 36 = .ok (.if_icmp .gt 7, 3) := by decide +kernel
theorem dX12_isSmall_39 : decode cX12_isSmall 39 = .ok (.iconst 1, 1) := by decide +kernel
theorem dX12_isSmall_40 : decode cX12_isSmall 40 = .ok (.goto 4, 3) := by decide +kernel
theorem dX12_isSmall_43 : decode cX12_isSmall 43 = .ok (.iconst 0, 1) := by decide +kernel
theorem dX12_isSmall_44 : decode cX12_isSmall 44 = .ok (.istore_n 2, 1) := by decide +kernel
theorem dX12_isSmall_45 : decode cX12_isSmall 45 = .ok (.iinc 3 1, 3) := by decide +kernel
theorem dX12_isSmall_48 : decode cX12_isSmall 48 = .ok (.goto (-44), 3) := by decide +kernel
theorem dX12_isSmall_51 : decode cX12_isSmall 51 = .ok (.iload_n 2, 1) := by decide +kernel
theorem dX12_isSmall_52 : decode cX12_isSmall 52 = .ok (.ireturn, 1) := by decide +kernel
theorem dX12_basis_0 : decode cX12_basis 0 = .ok (.iload_n 1, 1) := by decide +kernel
theorem dX12_basis_1 : decode cX12_basis 1 = .ok (.invokestatic 201, 3) := by decide +kernel
theorem dX12_basis_4 : decode cX12_basis 4 = .ok (.ifCond .ne 8, 3) := by decide +kernel
theorem dX12_basis_7 : decode cX12_basis 7 = .ok (.aload_n 0, 1) := by decide +kernel
theorem dX12_basis_8 : decode cX12_basis 8 = .ok (.invokevirtual 119, 3) := by decide +kernel
theorem dX12_basis_11 : decode cX12_basis 11 = .ok (.ireturn, 1) := by decide +kernel
theorem dX12_basis_12 : decode cX12_basis 12 = .ok (.aload_n 0, 1) := by decide +kernel
theorem dX12_basis_13 : decode cX12_basis 13 = .ok (.iload_n 1, 1) := by decide +kernel
theorem dX12_basis_14 : decode cX12_basis 14 = .ok (.invokevirtual 242, 3) := by decide +kernel
theorem dX12_basis_17 : decode cX12_basis 17 = .ok (.ifCond .ne 8, 3) := by decide +kernel
theorem dX12_basis_20 : decode cX12_basis 20 = .ok (.aload_n 0, 1) := by decide +kernel
theorem dX12_basis_21 : decode cX12_basis 21 = .ok (.invokevirtual 70, 3) := by decide +kernel
theorem dX12_basis_24 : decode cX12_basis 24 = .ok (.ireturn, 1) := by decide +kernel
theorem dX12_basis_25 : decode cX12_basis 25 = .ok (.aload_n 0, 1) := by decide +kernel
theorem dX12_basis_26 : decode cX12_basis 26 = .ok (.iload_n 1, 1) := by decide +kernel
theorem dX12_basis_27 : decode cX12_basis 27 = .ok (.invokevirtual 245, 3) := by decide +kernel
theorem dX12_basis_30 : decode cX12_basis 30 = .ok (.aload_n 0, 1) := by decide +kernel
theorem dX12_basis_31 : decode cX12_basis 31 = .ok (.getfield 207, 3) := by decide +kernel
theorem dX12_basis_34 : decode cX12_basis 34 = .ok (.ireturn, 1) := by decide +kernel
theorem dX12_based_0 : decode cX12_based 0 = .ok (.iload_n 1, 1) := by decide +kernel
theorem dX12_based_1 : decode cX12_based 1 = .ok (.invokestatic 201, 3) := by decide +kernel
theorem dX12_based_4 : decode cX12_based 4 = .ok (.ifCond .eq 28, 3) := by decide +kernel
theorem dX12_based_7 : decode cX12_based 7 = .ok (.iload_n 2, 1) := by decide +kernel
theorem dX12_based_8 : decode cX12_based 8 = .ok (.ifCond .lt 24, 3) := by decide +kernel
theorem dX12_based_11 : decode cX12_based 11 = .ok (.iload_n 3, 1) := by decide +kernel
theorem dX12_based_12 : decode cX12_based 12 = .ok (.iconst 0, 1) := by decide +kernel
theorem dX12_based_13 : decode cX12_based 13 = .ok (.bipush 15, 2) := by decide +kernel
theorem dX12_based_15 : decode cX12_based 15 = .ok (.invokestatic 74, 3) := by decide +kernel
theorem dX12_based_18 : decode cX12_based 18 = .ok (.ifCond .eq 14, 3) := by decide +kernel
theorem dX12_based_21 : decode cX12_based 21 = .ok (.iload 4, 2) := by decide +kernel
theorem dX12_based_23 : decode cX12_based 23 = .ok (.iconst 0, 1) := by decide +kernel
theorem dX12_based_24 : decode cX12_based 24 = .ok (.bipush 15, 2) := by decide +kernel
theorem dX12_based_26 : decode cX12_based 26 = .ok (.invokestatic 74, 3) := by decide +kernel
theorem dX12_based_29 : decode cX12_based 29 = .ok (.ifCond .ne 8, 3) := by decide +kernel
theorem dX12_based_32 : decode cX12_based 32 = .ok (.aload_n 0, 1) := by decide +kernel
theorem dX12_based_33 : decode cX12_based 33 = .ok (.invokevirtual 119, 3) := by decide +kernel
theorem dX12_based_36 : decode cX12_based 36 = .ok (.ireturn, 1) := by decide +kernel
theorem dX12_based_37 : decode cX12_based 37 = .ok (.aload_n 0, 1) := by decide +kernel
theorem dX12_based_38 : decode cX12_based 38 = .ok (.iload_n 1, 1) := by decide +kernel
theorem dX12_based_39 : decode cX12_based 39 = .ok (.invokevirtual 242, 3) := by decide +kernel
theorem dX12_based_42 : decode cX12_based 42 = .ok (.ifCond .ne 8, 3) := by decide +kernel
theorem dX12_based_45 : decode cX12_based 45 = .ok (.aload_n 0, 1) := by decide +kernel
theorem dX12_based_46 : decode cX12_based 46 = .ok (.invokevirtual 70, 3) := by decide +kernel
theorem dX12_based_49 : decode cX12_based 49 = .ok (.ireturn, 1) := by decide +kernel
theorem dX12_based_50 : decode cX12_based 50 = .ok (.aload_n 0, 1) := by decide +kernel
theorem dX12_based_51 : decode cX12_based 51 = .ok (.iload_n 1, 1) := by decide +kernel
theorem dX12_based_52 : decode cX12_based 52 = .ok (.invokevirtual 245, 3) := by decide +kernel
theorem dX12_based_55 : decode cX12_based 55 = .ok (.iload_n 2, 1) := by decide +kernel
theorem dX12_based_56 : decode cX12_based 56 = .ok (.aload_n 0, 1) := by decide +kernel
theorem dX12_based_57 : decode cX12_based 57 = .ok (.getfield 207, 3) := by decide +kernel
theorem dX12_based_60 : decode cX12_based 60 = .ok (.if_icmp .ge 26, 3) := by decide +kernel
theorem dX12_based_63 : decode cX12_based 63 = .ok (.aload_n 0, 1) := by decide +kernel
theorem dX12_based_64 : decode cX12_based 64 = .ok (.getfield 22, 3) := by decide +kernel
theorem dX12_based_67 : decode cX12_based 67 = .ok (.sipush 496, 3) := by decide +kernel
theorem dX12_based_70 : decode cX12_based 70 = .ok (.iload_n 2, 1) := by decide +kernel
theorem dX12_based_71 : decode cX12_based 71 = .ok (.imul, 1) := by decide +kernel
theorem dX12_based_72 : decode cX12_based 72 = .ok (.iload_n 3, 1) := by decide +kernel
theorem dX12_based_73 : decode cX12_based 73 = .ok (.iload 4, 2) := by decide +kernel
theorem dX12_based_75 : decode cX12_based 75 = .ok (.invokestatic 59, 3) := by decide +kernel
theorem dX12_based_78 : decode cX12_based 78 = .ok (.iadd, 1) := by decide +kernel
theorem dX12_based_79 : decode cX12_based 79 = .ok (.iaload, 1) := by decide +kernel
theorem dX12_based_80 : decode cX12_based 80 = .ok (.invokestatic 125, 3) := by decide +kernel
theorem dX12_based_83 : decode cX12_based 83 = .ok (.goto 4, 3) := by decide +kernel
theorem dX12_based_86 : decode cX12_based 86 = .ok (.iconst 0, 1) := by decide +kernel
theorem dX12_based_87 : decode cX12_based 87 = .ok (.ireturn, 1) := by decide +kernel
theorem dX12_stairs_0 : decode cX12_stairs 0 = .ok (.iload_n 1, 1) := by decide +kernel
theorem dX12_stairs_1 : decode cX12_stairs 1 = .ok (.invokestatic 201, 3) := by decide +kernel
theorem dX12_stairs_4 : decode cX12_stairs 4 = .ok (.ifCond .eq 13, 3) := by decide +kernel
theorem dX12_stairs_7 : decode cX12_stairs 7 = .ok (.iload_n 2, 1) := by decide +kernel
theorem dX12_stairs_8 : decode cX12_stairs 8 = .ok (.iconst 0, 1) := by decide +kernel
theorem dX12_stairs_9 : decode cX12_stairs 9 = .ok (.bipush 20, 2) := by decide +kernel
theorem dX12_stairs_11 : decode cX12_stairs 11 = .ok (.invokestatic 74, 3) := by decide +kernel
theorem dX12_stairs_14 : decode cX12_stairs 14 = .ok (.ifCond .ne 8, 3) := by decide +kernel
theorem dX12_stairs_17 : decode cX12_stairs 17 = .ok (.aload_n 0, 1) := by decide +kernel
theorem dX12_stairs_18 : decode cX12_stairs 18 = .ok (.invokevirtual 119, 3) := by decide +kernel
theorem dX12_stairs_21 : decode cX12_stairs 21 = .ok (.ireturn, 1) := by decide +kernel
theorem dX12_stairs_22 : decode cX12_stairs 22 = .ok (.aload_n 0, 1) := by decide +kernel
theorem dX12_stairs_23 : decode cX12_stairs 23 = .ok (.iload_n 1, 1) := by decide +kernel
theorem dX12_stairs_24 : decode cX12_stairs 24 = .ok (.invokevirtual 242, 3) := by decide +kernel
theorem dX12_stairs_27 : decode cX12_stairs 27 = .ok (.ifCond .ne 8, 3) := by decide +kernel
theorem dX12_stairs_30 : decode cX12_stairs 30 = .ok (.aload_n 0, 1) := by decide +kernel
theorem dX12_stairs_31 : decode cX12_stairs 31 = .ok (.invokevirtual 70, 3) := by decide +kernel
theorem dX12_stairs_34 : decode cX12_stairs 34 = .ok (.ireturn, 1) := by decide +kernel
theorem dX12_stairs_35 : decode cX12_stairs 35 = .ok (.aload_n 0, 1) := by decide +kernel
theorem dX12_stairs_36 : decode cX12_stairs 36 = .ok (.iload_n 1, 1) := by decide +kernel
theorem dX12_stairs_37 : decode cX12_stairs 37 = .ok (.invokevirtual 245, 3) := by decide +kernel
theorem dX12_stairs_40 : decode cX12_stairs 40 = .ok (.aload_n 0, 1) := by decide +kernel
theorem dX12_stairs_41 : decode cX12_stairs 41 = .ok (.sipush (-20001), 3) := by decide +kernel
theorem dX12_stairs_44 : decode cX12_stairs 44 = .ok (.invokevirtual 210, 3) := by decide +kernel
theorem dX12_stairs_47 : decode cX12_stairs 47 = .ok (.aload_n 0, 1) := by decide +kernel
theorem dX12_stairs_48 : decode cX12_stairs 48 = .ok (.invokevirtual 195, 3) := by decide +kernel
theorem dX12_stairs_51 : decode cX12_stairs 51 = .ok (.iconst 0, 1) := by decide +kernel
theorem dX12_stairs_52 : decode cX12_stairs 52 = .ok (.istore_n 3, 1) := by decide +kernel
theorem dX12_stairs_53 : decode cX12_stairs 53 = .ok (.iconst 0, 1) := by decide +kernel
theorem dX12_stairs_54 : decode cX12_stairs 54 = .ok (.istore 4, 2) := by decide +kernel
theorem dX12_stairs_56 : decode cX12_stairs 56 = .ok (.iload 4, 2) := by decide +kernel
theorem dX12_stairs_58 : decode cX12_stairs 58 = .ok (.iload_n 2, 1) := by decide +kernel
theorem dX12_stairs_59 : decode cX12_stairs 59 = .ok (.if_icmp .gt 37, 3) := by decide +kernel
theorem dX12_stairs_62 : decode cX12_stairs 62 = .ok (.iload_n 3, 1) := by decide +kernel
theorem dX12_stairs_63 : decode cX12_stairs 63 = .ok (.aload_n 0, 1) := by decide +kernel
theorem dX12_stairs_64 : decode cX12_stairs 64 = .ok (.iload_n 2, 1) := by decide +kernel
theorem dX12_stairs_65 : decode cX12_stairs 65 = .ok (.iload 4, 2) := by decide +kernel
theorem dX12_stairs_67 : decode cX12_stairs 67 = .ok (.isub, 1) := by decide +kernel
theorem dX12_stairs_68 : decode cX12_stairs 68 = .ok (.iload 4, 2) := by decide +kernel
theorem dX12_stairs_70 : decode cX12_stairs 70 = .ok (.invokestatic 59, 3) := by decide +kernel
theorem dX12_stairs_73 : decode cX12_stairs 73 = .ok (.invokevirtual 198, 3) := by decide +kernel
theorem dX12_stairs_76 : decode cX12_stairs 76 = .ok (.aload_n 0, 1) := by decide +kernel
theorem dX12_stairs_77 : decode cX12_stairs 77 = .ok (.getfield 189, 3) := by decide +kernel
theorem dX12_stairs_80 : decode cX12_stairs 80 = .ok (.if_icmp .ne 7, 3) := by decide +kernel
theorem dX12_stairs_83 : decode cX12_stairs 83 = .ok (.iconst 1, 1) := by decide +kernel
theorem dX12_stairs_84 : decode cX12_stairs 84 = .ok (.goto 4, 3) := by decide +kernel
theorem dX12_stairs_87 : decode cX12_stairs 87 = .ok (.iconst 0, 1) := by decide +kernel
theorem dX12_stairs_88 : decode cX12_stairs 88 = .ok (.iadd, 1) := by decide +kernel
theorem dX12_stairs_89 : decode cX12_stairs 89 = .ok (.istore_n 3, 1) := by decide +kernel
theorem dX12_stairs_90 : decode cX12_stairs 90 = .ok (.iinc 4 1, 3) := by decide +kernel
theorem dX12_stairs_93 : decode cX12_stairs 93 = .ok (.goto (-37), 3) := by decide +kernel
theorem dX12_stairs_96 : decode cX12_stairs 96 = .ok (.iload_n 3, 1) := by decide +kernel
theorem dX12_stairs_97 : decode cX12_stairs 97 = .ok (.ireturn, 1) := by decide +kernel
theorem dX12_within_0 : decode cX12_within 0 = .ok (.iload_n 1, 1) := by decide +kernel
theorem dX12_within_1 : decode cX12_within 1 = .ok (.invokestatic 111, 3) := by decide +kernel
theorem dX12_within_4 : decode cX12_within 4 = .ok (.ifCond .eq 10, 3) := by decide +kernel
theorem dX12_within_7 : decode cX12_within 7 = .ok (.iload_n 2, 1) := by decide +kernel
theorem dX12_within_8 : decode cX12_within 8 = .ok (.invokestatic 201, 3) := by decide +kernel
theorem dX12_within_11 : decode cX12_within 11 = .ok (.ifCond .ne 8, 3) := by decide +kernel
theorem dX12_within_14 : decode cX12_within 14 = .ok (.aload_n 0, 1) := by decide +kernel
theorem dX12_within_15 : decode cX12_within 15 = .ok (.invokevirtual 119, 3) := by decide +kernel
theorem dX12_within_18 : decode cX12_within 18 = .ok (.ireturn, 1) := by decide +kernel
theorem dX12_within_19 : decode cX12_within 19 = .ok (.aload_n 0, 1) := by decide +kernel
theorem dX12_within_20 : decode cX12_within 20 = .ok (.iload_n 2, 1) := by decide +kernel
theorem dX12_within_21 : decode cX12_within 21 = .ok (.invokevirtual 242, 3) := by decide +kernel
theorem dX12_within_24 : decode cX12_within 24 = .ok (.ifCond .ne 8, 3) := by decide +kernel
theorem dX12_within_27 : decode cX12_within 27 = .ok (.aload_n 0, 1) := by decide +kernel
theorem dX12_within_28 : decode cX12_within 28 = .ok (.invokevirtual 70, 3) := by decide +kernel
theorem dX12_within_31 : decode cX12_within 31 = .ok (.ireturn, 1) := by decide +kernel
theorem dX12_within_32 : decode cX12_within 32 = .ok (.aload_n 0, 1) := by decide +kernel
theorem dX12_within_33 : decode cX12_within 33 = .ok (.iload_n 2, 1) := by decide +kernel
theorem dX12_within_34 : decode cX12_within 34 = .ok (.invokevirtual 245, 3) := by decide +kernel
theorem dX12_within_37 : decode cX12_within 37 = .ok (.aload_n 0, 1) := by decide +kernel
theorem dX12_within_38 : decode cX12_within 38 = .ok (.sipush (-20001), 3) := by decide +kernel
theorem dX12_within_41 : decode cX12_within 41 = .ok (.invokevirtual 210, 3) := by decide +kernel
theorem dX12_within_44 : decode cX12_within 44 = .ok (.aload_n 0, 1) := by decide +kernel
theorem dX12_within_45 : decode cX12_within 45 = .ok (.iload_n 1, 1) := by decide +kernel
theorem dX12_within_46 : decode cX12_within 46 = .ok (.bipush 24, 2) := by decide +kernel
theorem dX12_within_48 : decode cX12_within 48 = .ok (.invokevirtual 128, 3) := by decide +kernel
theorem dX12_within_51 : decode cX12_within 51 = .ok (.aload_n 0, 1) := by decide +kernel
theorem dX12_within_52 : decode cX12_within 52 = .ok (.bipush 25, 2) := by decide +kernel
theorem dX12_within_54 : decode cX12_within 54 = .ok (.invokevirtual 204, 3) := by decide +kernel
theorem dX12_within_57 : decode cX12_within 57 = .ok (.aload_n 0, 1) := by decide +kernel
theorem dX12_within_58 : decode cX12_within 58 = .ok (.bipush 25, 2) := by decide +kernel
theorem dX12_within_60 : decode cX12_within 60 = .ok (.invokevirtual 89, 3) := by decide +kernel
theorem dX12_within_63 : decode cX12_within 63 = .ok (.ifCond .ge 7, 3) := by decide +kernel
theorem dX12_within_66 : decode cX12_within 66 = .ok (.iconst 1, 1) := by decide +kernel
theorem dX12_within_67 : decode cX12_within 67 = .ok (.goto 4, 3) := by decide +kernel
theorem dX12_within_70 : decode cX12_within 70 = .ok (.iconst 0, 1) := by decide +kernel
theorem dX12_within_71 : decode cX12_within 71 = .ok (.ireturn, 1) := by decide +kernel
theorem dX12_type_0 : decode cX12_type 0 = .ok (.iload_n 1, 1) := by decide +kernel
theorem dX12_type_1 : decode cX12_type 1 = .ok (.iconst 0, 1) := by decide +kernel
theorem dX12_type_2 : decode cX12_type 2 = .ok (.bipush 127, 2) := by decide +kernel
theorem dX12_type_4 : decode cX12_type 4 = .ok (.invokestatic 74, 3) := by decide +kernel
theorem dX12_type_7 : decode cX12_type 7 = .ok (.ifCond .ne 8, 3) := by decide +kernel
theorem dX12_type_10 : decode cX12_type 10 = .ok (.aload_n 0, 1) := by decide +kernel
theorem dX12_type_11 : decode cX12_type 11 = .ok (.invokevirtual 119, 3) := by decide +kernel
theorem dX12_type_14 : decode cX12_type 14 = .ok (.ireturn, 1) := by decide +kernel
theorem dX12_type_15 : decode cX12_type 15 = .ok (.aload_n 0, 1) := by decide +kernel
theorem dX12_type_16 : decode cX12_type 16 = .ok (.getfield 248, 3) := by decide +kernel
theorem dX12_type_19 : decode cX12_type 19 = .ok (.bipush 120, 2) := by decide +kernel
theorem dX12_type_21 : decode cX12_type 21 = .ok (.if_icmp .ne 8, 3) := by decide +kernel
theorem dX12_type_24 : decode cX12_type 24 = .ok (.aload_n 0, 1) := by decide +kernel
theorem dX12_type_25 : decode cX12_type 25 = .ok (.invokevirtual 140, 3) := by decide +kernel
theorem dX12_type_28 : decode cX12_type 28 = .ok (.ireturn, 1) := by decide +kernel
theorem dX12_type_29 : decode cX12_type 29 = .ok (.aload_n 0, 1) := by decide +kernel
theorem dX12_type_30 : decode cX12_type 30 = .ok (.getfield 19, 3) := by decide +kernel
theorem dX12_type_33 : decode cX12_type 33 = .ok (.aload_n 0, 1) := by decide +kernel
theorem dX12_type_34 : decode cX12_type 34 = .ok (.getfield 248, 3) := by decide +kernel
theorem dX12_type_37 : decode cX12_type 37 = .ok (.iload_n 1, 1) := by decide +kernel
theorem dX12_type_38 : decode cX12_type 38 = .ok (.iastore, 1) := by decide +kernel
theorem dX12_type_39 : decode cX12_type 39 = .ok (.aload_n 0, 1) := by decide +kernel
theorem dX12_type_40 : decode cX12_type 40 = .ok (.dup, 1) := by decide +kernel
theorem dX12_type_41 : decode cX12_type 41 = .ok (.getfield 248, 3) := by decide +kernel
theorem dX12_type_44 : decode cX12_type 44 = .ok (.iconst 1, 1) := by decide +kernel
theorem dX12_type_45 : decode cX12_type 45 = .ok (.iadd, 1) := by decide +kernel
theorem dX12_type_46 : decode cX12_type 46 = .ok (.putfield 248, 3) := by decide +kernel
theorem dX12_type_49 : decode cX12_type 49 = .ok (.aload_n 0, 1) := by decide +kernel
theorem dX12_type_50 : decode cX12_type 50 = .ok (.getfield 248, 3) := by decide +kernel
theorem dX12_type_53 : decode cX12_type 53 = .ok (.ireturn, 1) := by decide +kernel
theorem dX12_clear_0 : decode cX12_clear 0 = .ok (.aload_n 0, 1) := by decide +kernel
theorem dX12_clear_1 : decode cX12_clear 1 = .ok (.getfield 248, 3) := by decide +kernel
theorem dX12_clear_4 : decode cX12_clear 4 = .ok (.istore_n 1, 1) := by decide +kernel
theorem dX12_clear_5 : decode cX12_clear 5 = .ok (.aload_n 0, 1) := by decide +kernel
theorem dX12_clear_6 : decode cX12_clear 6 = .ok (.iconst 0, 1) := by decide +kernel
theorem dX12_clear_7 : decode cX12_clear 7 = .ok (.putfield 248, 3) := by decide +kernel
theorem dX12_clear_10 : decode cX12_clear 10 = .ok (.iload_n 1, 1) := by decide +kernel
theorem dX12_clear_11 : decode cX12_clear 11 = .ok (.ireturn, 1) := by decide +kernel
theorem dX12_isAt_0 : decode cX12_isAt 0 = .ok (.aload_n 0, 1) := by decide +kernel
theorem dX12_isAt_1 : decode cX12_isAt 1 = .ok (.getfield 251, 3) := by decide +kernel
theorem dX12_isAt_4 : decode cX12_isAt 4 = .ok (.aload_n 0, 1) := by decide +kernel
theorem dX12_isAt_5 : decode cX12_isAt 5 = .ok (.getfield 248, 3) := by decide +kernel
theorem dX12_isAt_8 : decode cX12_isAt 8 = .ok (.if_icmp .ge 24, 3) := by decide +kernel
theorem dX12_isAt_11 : decode cX12_isAt 11 = .ok (.aload_n 0, 1) := by decide +kernel
theorem dX12_isAt_12 : decode cX12_isAt 12 = .ok (.getfield 19, 3) := by decide +kernel
theorem dX12_isAt_15 : decode cX12_isAt 15 = .ok (.aload_n 0, 1) := by decide +kernel
theorem dX12_isAt_16 : decode cX12_isAt 16 = .ok (.getfield 251, 3) := by decide +kernel
theorem dX12_isAt_19 : decode cX12_isAt 19 = .ok (.iaload, 1) := by decide +kernel
theorem dX12_isAt_20 : decode cX12_isAt 20 = .ok (.iload_n 1, 1) := by decide +kernel
theorem dX12_isAt_21 : decode cX12_isAt 21 = .ok (.iload_n 2, 1) := by decide +kernel
theorem dX12_isAt_22 : decode cX12_isAt 22 = .ok (.invokestatic 74, 3) := by decide +kernel
theorem dX12_isAt_25 : decode cX12_isAt 25 = .ok (.ifCond .eq 7, 3) := by decide +kernel
theorem dX12_isAt_28 : decode cX12_isAt 28 = .ok (.iconst 1, 1) := by decide +kernel
theorem dX12_isAt_29 : decode cX12_isAt 29 = .ok (.goto 4, 3) := by decide +kernel
theorem dX12_isAt_32 : decode cX12_isAt 32 = .ok (.iconst 0, 1) := by decide +kernel
theorem dX12_isAt_33 : decode cX12_isAt 33 = .ok (.ireturn, 1) := by decide +kernel
theorem dX12_blanks_0 : decode cX12_blanks 0 = .ok (.aload_n 0, 1) := by decide +kernel
theorem dX12_blanks_1 : decode cX12_blanks 1 = .ok (.bipush 32, 2) := by decide +kernel
theorem dX12_blanks_3 : decode cX12_blanks 3 = .ok (.bipush 32, 2) := by decide +kernel
theorem dX12_blanks_5 : decode cX12_blanks 5 = .ok (.invokevirtual 254, 3) := by decide +kernel
theorem dX12_blanks_8 : decode cX12_blanks 8 = .ok (.ifCond .eq 16, 3) := by decide +kernel
theorem dX12_blanks_11 : decode cX12_blanks 11 = .ok (.aload_n 0, 1) := by decide +kernel
theorem dX12_blanks_12 : decode cX12_blanks 12 = .ok (.dup, 1) := by decide +kernel
theorem dX12_blanks_13 : decode cX12_blanks 13 = .ok (.getfield 251, 3) := by decide +kernel
theorem dX12_blanks_16 : decode cX12_blanks 16 = .ok (.iconst 1, 1) := by decide +kernel
theorem dX12_blanks_17 : decode cX12_blanks 17 = .ok (.iadd, 1) := by decide +kernel
theorem dX12_blanks_18 : decode cX12_blanks 18 = .ok (.putfield 251, 3) := by decide +kernel
theorem dX12_blanks_21 : decode cX12_blanks 21 = .ok (.goto (-21), 3) := by decide +kernel
theorem dX12_blanks_24 : decode cX12_blanks 24 = .ok (.return_, 1) := by decide +kernel
theorem dX12_fails_0 : decode cX12_fails 0 = .ok (.aload_n 0, 1) := by decide +kernel
theorem dX12_fails_1 : decode cX12_fails 1 = .ok (.iload_n 1, 1) := by decide +kernel
theorem dX12_fails_2 : decode cX12_fails 2 = .ok (.putfield 257, 3) := by decide +kernel
theorem dX12_fails_5 : decode cX12_fails 5 = .ok (.iconst 0, 1) := by decide +kernel
theorem dX12_fails_6 : decode cX12_fails 6 = .ok (.ireturn, 1) := by decide +kernel
theorem dX12_opens_0 : decode cX12_opens 0 = .ok (.aload_n 0, 1) := by decide +kernel
theorem dX12_opens_1 : decode cX12_opens 1 = .ok (.iconst 1, 1) := by decide +kernel
theorem dX12_opens_2 : decode cX12_opens 2 = .ok (.putfield 260, 3) := by decide +kernel
theorem dX12_opens_5 : decode cX12_opens 5 = .ok (.aload_n 0, 1) := by decide +kernel
theorem dX12_opens_6 : decode cX12_opens 6 = .ok (.iconst 1, 1) := by decide +kernel
theorem dX12_opens_7 : decode cX12_opens 7 = .ok (.putfield 264, 3) := by decide +kernel
theorem dX12_opens_10 : decode cX12_opens 10 = .ok (.aload_n 0, 1) := by decide +kernel
theorem dX12_opens_11 : decode cX12_opens 11 = .ok (.getfield 49, 3) := by decide +kernel
theorem dX12_opens_14 : decode cX12_opens 14 = .ok (.aload_n 0, 1) := by decide +kernel
theorem dX12_opens_15 : decode cX12_opens 15 = .ok (.getfield 267, 3) := by decide +kernel
theorem dX12_opens_18 : decode cX12_opens 18 = .ok (.iconst 0, 1) := by decide +kernel
theorem dX12_opens_19 : decode cX12_opens 19 = .ok (.bastore, 1) := by decide +kernel
theorem dX12_opens_20 : decode cX12_opens 20 = .ok (.aload_n 0, 1) := by decide +kernel
theorem dX12_opens_21 : decode cX12_opens 21 = .ok (.getfield 53, 3) := by decide +kernel
theorem dX12_opens_24 : decode cX12_opens 24 = .ok (.aload_n 0, 1) := by decide +kernel
theorem dX12_opens_25 : decode cX12_opens 25 = .ok (.getfield 267, 3) := by decide +kernel
theorem dX12_opens_28 : decode cX12_opens 28 = .ok (.iconst 0, 1) := by decide +kernel
theorem dX12_opens_29 : decode cX12_opens 29 = .ok (.bastore, 1) := by decide +kernel
theorem dX12_opens_30 : decode cX12_opens 30 = .ok (.aload_n 0, 1) := by decide +kernel
theorem dX12_opens_31 : decode cX12_opens 31 = .ok (.bipush 28, 2) := by decide +kernel
theorem dX12_opens_33 : decode cX12_opens 33 = .ok (.aload_n 0, 1) := by decide +kernel
theorem dX12_opens_34 : decode cX12_opens 34 = .ok (.getfield 267, 3) := by decide +kernel
theorem dX12_opens_37 : decode cX12_opens 37 = .ok (.iadd, 1) := by decide +kernel
theorem dX12_opens_38 : decode cX12_opens 38 = .ok (.invokevirtual 78, 3) := by decide +kernel
theorem dX12_opens_41 : decode cX12_opens 41 = .ok (.return_, 1) := by decide +kernel
theorem dX12_closes_0 : decode cX12_closes 0 = .ok (.aload_n 0, 1) := by decide +kernel
theorem dX12_closes_1 : decode cX12_closes 1 = .ok (.getfield 270, 3) := by decide +kernel
theorem dX12_closes_4 : decode cX12_closes 4 = .ok (.ifCond .eq 63, 3) := by decide +kernel
theorem dX12_closes_7 : decode cX12_closes 7 = .ok (.aload_n 0, 1) := by decide +kernel
theorem dX12_closes_8 : decode cX12_closes 8 = .ok (.getfield 273, 3) := by decide +kernel
theorem dX12_closes_11 : decode cX12_closes 11 = .ok (.ifCond .ne 56, 3) := by decide +kernel
theorem dX12_closes_14 : decode cX12_closes 14 = .ok (.aload_n 0, 1) := by decide +kernel
theorem dX12_closes_15 : decode cX12_closes 15 = .ok (.bipush 28, 2) := by decide +kernel
theorem dX12_closes_17 : decode cX12_closes 17 = .ok (.aload_n 0, 1) := by decide +kernel
theorem dX12_closes_18 : decode cX12_closes 18 = .ok (.getfield 267, 3) := by decide +kernel
theorem dX12_closes_21 : decode cX12_closes 21 = .ok (.iadd, 1) := by decide +kernel
theorem dX12_closes_22 : decode cX12_closes 22 = .ok (.iconst 1, 1) := by decide +kernel
theorem dX12_closes_23 : decode cX12_closes 23 = .ok (.bipush 37, 2) := by decide +kernel
theorem dX12_closes_25 : decode cX12_closes 25 = .ok (.aload_n 0, 1) := by decide +kernel
theorem dX12_closes_26 : decode cX12_closes 26 = .ok (.getfield 267, 3) := by decide +kernel
theorem dX12_closes_29 : decode cX12_closes 29 = .ok (.iadd, 1) := by decide +kernel
theorem dX12_closes_30 : decode cX12_closes 30 = .ok (.aload_n 0, 1) := by decide +kernel
theorem dX12_closes_31 : decode cX12_closes 31 = .ok (.getfield 49, 3) := by decide +kernel
theorem dX12_closes_34 : decode cX12_closes 34 = .ok (.aload_n 0, 1) := by decide +kernel
theorem dX12_closes_35 : decode cX12_closes 35 = .ok (.getfield 267, 3) := by decide +kernel
theorem dX12_closes_38 : decode cX12_closes 38 = .ok (.baload, 1) := by decide +kernel
theorem dX12_closes_39 : decode cX12_closes 39 = .ok (.ifCond .eq 9, 3) := by decide +kernel
theorem dX12_closes_42 : decode cX12_closes 42 = .ok (.sipush 10006, 3) := by decide +kernel
theorem dX12_closes_45 : decode cX12_closes 45 = .ok (.goto 4, 3) := by decide +kernel
theorem dX12_closes_48 : decode cX12_closes 48 = .ok (.iconst 1, 1) := by decide +kernel
theorem dX12_closes_49 : decode cX12_closes 49 = .ok (.bipush 25, 2) := by decide +kernel
theorem dX12_closes_51 : decode cX12_closes 51 = .ok (.invokevirtual 131, 3) := by decide +kernel
theorem dX12_closes_54 : decode cX12_closes 54 = .ok (.aload_n 0, 1) := by decide +kernel
theorem dX12_closes_55 : decode cX12_closes 55 = .ok (.bipush 25, 2) := by decide +kernel
theorem dX12_closes_57 : decode cX12_closes 57 = .ok (.bipush 28, 2) := by decide +kernel
theorem dX12_closes_59 : decode cX12_closes 59 = .ok (.aload_n 0, 1) := by decide +kernel
theorem dX12_closes_60 : decode cX12_closes 60 = .ok (.getfield 267, 3) := by decide +kernel
theorem dX12_closes_63 : decode cX12_closes 63 = .ok (.iadd, 1) := by decide +kernel
theorem dX12_closes_64 : decode cX12_closes 64 = .ok (.invokevirtual 103, 3) := by decide +kernel
theorem dX12_closes_67 : decode cX12_closes 67 = .ok (.aload_n 0, 1) := by decide +kernel
theorem dX12_closes_68 : decode cX12_closes 68 = .ok (.getfield 53, 3) := by decide +kernel
theorem dX12_closes_71 : decode cX12_closes 71 = .ok (.aload_n 0, 1) := by decide +kernel
theorem dX12_closes_72 : decode cX12_closes 72 = .ok (.getfield 267, 3) := by decide +kernel
theorem dX12_closes_75 : decode cX12_closes 75 = .ok (.iconst 0, 1) := by decide +kernel
theorem dX12_closes_76 : decode cX12_closes 76 = .ok (.bastore, 1) := by decide +kernel
theorem dX12_closes_77 : decode cX12_closes 77 = .ok (.return_, 1) := by decide +kernel
theorem dX12_takes_0 : decode cX12_takes 0 = .ok (.aload_n 0, 1) := by decide +kernel
theorem dX12_takes_1 : decode cX12_takes 1 = .ok (.getfield 270, 3) := by decide +kernel
theorem dX12_takes_4 : decode cX12_takes 4 = .ok (.ifCond .eq 21, 3) := by decide +kernel
theorem dX12_takes_7 : decode cX12_takes 7 = .ok (.aload_n 0, 1) := by decide +kernel
theorem dX12_takes_8 : decode cX12_takes 8 = .ok (.getfield 273, 3) := by decide +kernel
theorem dX12_takes_11 : decode cX12_takes 11 = .ok (.ifCond .ne 14, 3) := by decide +kernel
theorem dX12_takes_14 : decode cX12_takes 14 = .ok (.aload_n 0, 1) := by decide +kernel
theorem dX12_takes_15 : decode cX12_takes 15 = .ok (.aload_n 0, 1) := by decide +kernel
theorem dX12_takes_16 : decode cX12_takes 16 = .ok (.bipush 27, 2) := by decide +kernel
theorem dX12_takes_18 : decode cX12_takes 18 = .ok (.iload_n 1, 1) := by decide +kernel
theorem dX12_takes_19 : decode cX12_takes 19 = .ok (.invokevirtual 143, 3) := by decide +kernel
theorem dX12_takes_22 : decode cX12_takes 22 = .ok (.putfield 273, 3) := by decide +kernel
theorem dX12_takes_25 : decode cX12_takes 25 = .ok (.aload_n 0, 1) := by decide +kernel
theorem dX12_takes_26 : decode cX12_takes 26 = .ok (.getfield 270, 3) := by decide +kernel
theorem dX12_takes_29 : decode cX12_takes 29 = .ok (.ifCond .eq 52, 3) := by decide +kernel
theorem dX12_takes_32 : decode cX12_takes 32 = .ok (.aload_n 0, 1) := by decide +kernel
theorem dX12_takes_33 : decode cX12_takes 33 = .ok (.getfield 273, 3) := by decide +kernel
theorem dX12_takes_36 : decode cX12_takes 36 = .ok (.ifCond .ne 45, 3) := by decide +kernel
theorem dX12_takes_39 : decode cX12_takes 39 = .ok (.aload_n 0, 1) := by decide +kernel
theorem dX12_takes_40 : decode cX12_takes 40 = .ok (.iload_n 1, 1) := by decide +kernel
theorem dX12_takes_41 : decode cX12_takes 41 = .ok (.invokevirtual 146, 3) := by decide +kernel
theorem dX12_takes_44 : decode cX12_takes 44 = .ok (.aload_n 0, 1) := by decide +kernel
theorem dX12_takes_45 : decode cX12_takes 45 = .ok (.aload_n 0, 1) := by decide +kernel
theorem dX12_takes_46 : decode cX12_takes 46 = .ok (.getfield 53, 3) := by decide +kernel
theorem dX12_takes_49 : decode cX12_takes 49 = .ok (.aload_n 0, 1) := by decide +kernel
theorem dX12_takes_50 : decode cX12_takes 50 = .ok (.getfield 267, 3) := by decide +kernel
theorem dX12_takes_53 : decode cX12_takes 53 = .ok (.baload, 1) := by decide +kernel
theorem dX12_takes_54 : decode cX12_takes 54 = .ok (.ifCond .eq 23, 3) := by decide +kernel
theorem dX12_takes_57 : decode cX12_takes 57 = .ok (.aload_n 0, 1) := by decide +kernel
theorem dX12_takes_58 : decode cX12_takes 58 = .ok (.bipush 37, 2) := by decide +kernel
theorem dX12_takes_60 : decode cX12_takes 60 = .ok (.aload_n 0, 1) := by decide +kernel
theorem dX12_takes_61 : decode cX12_takes 61 = .ok (.getfield 267, 3) := by decide +kernel
theorem dX12_takes_64 : decode cX12_takes 64 = .ok (.iadd, 1) := by decide +kernel
theorem dX12_takes_65 : decode cX12_takes 65 = .ok (.bipush 27, 2) := by decide +kernel
theorem dX12_takes_67 : decode cX12_takes 67 = .ok (.invokevirtual 137, 3) := by decide +kernel
theorem dX12_takes_70 : decode cX12_takes 70 = .ok (.ifCond .eq 7, 3) := by decide +kernel
theorem dX12_takes_73 : decode cX12_takes 73 = .ok (.iconst 1, 1) := by decide +kernel
theorem dX12_takes_74 : decode cX12_takes 74 = .ok (.goto 4, 3) := by decide +kernel
theorem dX12_takes_77 : decode cX12_takes 77 = .ok (.iconst 0, 1) := by decide +kernel
theorem dX12_takes_78 : decode cX12_takes 78 = .ok (.putfield 273, 3) := by decide +kernel
theorem dX12_takes_81 : decode cX12_takes 81 = .ok (.aload_n 0, 1) := by decide +kernel
theorem dX12_takes_82 : decode cX12_takes 82 = .ok (.getfield 270, 3) := by decide +kernel
theorem dX12_takes_85 : decode cX12_takes 85 = .ok (.ifCond .eq 66, 3) := by decide +kernel
theorem dX12_takes_88 : decode cX12_takes 88 = .ok (.aload_n 0, 1) := by decide +kernel
theorem dX12_takes_89 : decode cX12_takes 89 = .ok (.getfield 273, 3) := by decide +kernel
theorem dX12_takes_92 : decode cX12_takes 92 = .ok (.ifCond .ne 59, 3) := by decide +kernel
theorem dX12_takes_95 : decode cX12_takes 95 = .ok (.aload_n 0, 1) := by decide +kernel
theorem dX12_takes_96 : decode cX12_takes 96 = .ok (.getfield 53, 3) := by decide +kernel
theorem dX12_takes_99 : decode cX12_takes 99 = .ok (.aload_n 0, 1) := by decide +kernel
theorem dX12_takes_100 : decode cX12_takes 100 = .ok (.getfield 267, 3) := by decide +kernel
theorem dX12_takes_103 : decode cX12_takes 103 = .ok (.baload, 1) := by decide +kernel
theorem dX12_takes_104 : decode cX12_takes 104 = .ok (.ifCond .eq 34, 3) := by decide +kernel
theorem dX12_takes_107 : decode cX12_takes 107 = .ok (.aload_n 0, 1) := by decide +kernel
theorem dX12_takes_108 : decode cX12_takes 108 = .ok (.bipush 37, 2) := by decide +kernel
theorem dX12_takes_110 : decode cX12_takes 110 = .ok (.aload_n 0, 1) := by decide +kernel
theorem dX12_takes_111 : decode cX12_takes 111 = .ok (.getfield 267, 3) := by decide +kernel
theorem dX12_takes_114 : decode cX12_takes 114 = .ok (.iadd, 1) := by decide +kernel
theorem dX12_takes_115 : decode cX12_takes 115 = .ok (.bipush 27, 2) := by decide +kernel
theorem dX12_takes_117 : decode cX12_takes 117 = .ok (.bipush 25, 2) := by decide +kernel
theorem dX12_takes_119 : decode cX12_takes 119 = .ok (.invokevirtual 107, 3) := by decide +kernel
theorem dX12_takes_122 : decode cX12_takes 122 = .ok (.aload_n 0, 1) := by decide +kernel
theorem dX12_takes_123 : decode cX12_takes 123 = .ok (.bipush 25, 2) := by decide +kernel
theorem dX12_takes_125 : decode cX12_takes 125 = .ok (.bipush 37, 2) := by decide +kernel
theorem dX12_takes_127 : decode cX12_takes 127 = .ok (.aload_n 0, 1) := by decide +kernel
theorem dX12_takes_128 : decode cX12_takes 128 = .ok (.getfield 267, 3) := by decide +kernel
theorem dX12_takes_131 : decode cX12_takes 131 = .ok (.iadd, 1) := by decide +kernel
theorem dX12_takes_132 : decode cX12_takes 132 = .ok (.invokevirtual 103, 3) := by decide +kernel
theorem dX12_takes_135 : decode cX12_takes 135 = .ok (.goto 16, 3) := by decide +kernel
theorem dX12_takes_138 : decode cX12_takes 138 = .ok (.aload_n 0, 1) := by decide +kernel
theorem dX12_takes_139 : decode cX12_takes 139 = .ok (.bipush 27, 2) := by decide +kernel
theorem dX12_takes_141 : decode cX12_takes 141 = .ok (.bipush 37, 2) := by decide +kernel
theorem dX12_takes_143 : decode cX12_takes 143 = .ok (.aload_n 0, 1) := by decide +kernel
theorem dX12_takes_144 : decode cX12_takes 144 = .ok (.getfield 267, 3) := by decide +kernel
theorem dX12_takes_147 : decode cX12_takes 147 = .ok (.iadd, 1) := by decide +kernel
theorem dX12_takes_148 : decode cX12_takes 148 = .ok (.invokevirtual 103, 3) := by decide +kernel
theorem dX12_takes_151 : decode cX12_takes 151 = .ok (.aload_n 0, 1) := by decide +kernel
theorem dX12_takes_152 : decode cX12_takes 152 = .ok (.getfield 53, 3) := by decide +kernel
theorem dX12_takes_155 : decode cX12_takes 155 = .ok (.aload_n 0, 1) := by decide +kernel
theorem dX12_takes_156 : decode cX12_takes 156 = .ok (.getfield 267, 3) := by decide +kernel
theorem dX12_takes_159 : decode cX12_takes 159 = .ok (.iconst 1, 1) := by decide +kernel
theorem dX12_takes_160 : decode cX12_takes 160 = .ok (.bastore, 1) := by decide +kernel
theorem dX12_takes_161 : decode cX12_takes 161 = .ok (.return_, 1) := by decide +kernel
theorem dX12_takesFigures_0 : decode cX12_takesFigures 0 = .ok (.aload_n 0, 1) := by decide +kernel
theorem dX12_takesFigures_1 : decode cX12_takesFigures 1 = .ok (.getfield 251, 3) := by decide +kernel
theorem dX12_takesFigures_4 : decode cX12_takesFigures 4 = .ok (.istore_n 2, 1) := by decide +kernel
theorem dX12_takesFigures_5 : decode cX12_takesFigures 5 = .ok (.aload_n 0, 1) := by decide +kernel
theorem dX12_takesFigures_6 : decode cX12_takesFigures 6 = .ok (.iconst 0, 1) := by decide +kernel
theorem dX12_takesFigures_7 : decode cX12_takesFigures 7 = .ok (.putfield 276, 3) := by decide +kernel
theorem dX12_takesFigures_10 : decode cX12_takesFigures 10 = .ok (.aload_n 0, 1) := by decide +kernel
theorem dX12_takesFigures_11 : decode cX12_takesFigures 11 = .ok (.bipush 48, 2) := by decide +kernel
theorem dX12_takesFigures_13 : decode cX12_takesFigures 13 = .ok (.bipush 57, 2) := by decide +kernel
theorem dX12_takesFigures_15 : decode cX12_takesFigures 15 = .ok (.invokevirtual 254, 3) := by decide +kernel
theorem dX12_takesFigures_18 : decode cX12_takesFigures 18 = .ok (.ifCond .eq 59, 3) := by decide +kernel
theorem dX12_takesFigures_21 : decode cX12_takesFigures 21 = .ok (.aload_n 0, 1) := by decide +kernel
theorem dX12_takesFigures_22 : decode cX12_takesFigures 22 = .ok (.getfield 251, 3) := by decide +kernel
theorem dX12_takesFigures_25 : decode cX12_takesFigures 25 = .ok (.iload_n 2, 1) := by decide +kernel
theorem dX12_takesFigures_26 : decode cX12_takesFigures 26 = .ok (.iload_n 1, 1) := by decide +kernel
theorem dX12_takesFigures_27 : decode cX12_takesFigures 27 = .ok (.iadd, 1) := by decide +kernel
theorem dX12_takesFigures_28 : decode cX12_takesFigures 28 = .ok (.if_icmp .ne 12, 3) := by decide +kernel
theorem dX12_takesFigures_31 : decode cX12_takesFigures 31 = .ok (.aload_n 0, 1) := by decide +kernel
theorem dX12_takesFigures_32 : decode cX12_takesFigures 32 = .ok (.aload_n 0, 1) := by decide +kernel
theorem dX12_takesFigures_33 : decode cX12_takesFigures 33 = .ok (.getfield 251, 3) := by decide +kernel
theorem dX12_takesFigures_36 : decode cX12_takesFigures 36 = .ok (.invokevirtual 279, 3) := by decide +kernel
theorem dX12_takesFigures_39 : decode cX12_takesFigures 39 = .ok (.ireturn, 1) := by decide +kernel
theorem dX12_takesFigures_40 : decode cX12_takesFigures 40 = .ok (.aload_n 0, 1) := by decide +kernel
theorem dX12_takesFigures_41 : decode cX12_takesFigures 41 = .ok (.bipush 10, 2) := by decide +kernel
theorem dX12_takesFigures_43 : decode cX12_takesFigures 43 = .ok (.aload_n 0, 1) := by decide +kernel
theorem dX12_takesFigures_44 : decode cX12_takesFigures 44 = .ok (.getfield 276, 3) := by decide +kernel
theorem dX12_takesFigures_47 : decode cX12_takesFigures 47 = .ok (.imul, 1) := by decide +kernel
theorem dX12_takesFigures_48 : decode cX12_takesFigures 48 = .ok (.aload_n 0, 1) := by decide +kernel
theorem dX12_takesFigures_49 : decode cX12_takesFigures 49 = .ok (.getfield 19, 3) := by decide +kernel
theorem dX12_takesFigures_52 : decode cX12_takesFigures 52 = .ok (.aload_n 0, 1) := by decide +kernel
theorem dX12_takesFigures_53 : decode cX12_takesFigures 53 = .ok (.getfield 251, 3) := by decide +kernel
theorem dX12_takesFigures_56 : decode cX12_takesFigures 56 = .ok (.iaload, 1) := by decide +kernel
theorem dX12_takesFigures_57 : decode cX12_takesFigures 57 = .ok (.iadd, 1) := by decide +kernel
theorem dX12_takesFigures_58 : decode cX12_takesFigures 58 = .ok (.bipush 48, 2) := by decide +kernel
theorem dX12_takesFigures_60 : decode cX12_takesFigures 60 = .ok (.isub, 1) := by decide +kernel
theorem dX12_takesFigures_61 : decode cX12_takesFigures 61 = .ok (.putfield 276, 3) := by decide +kernel
theorem dX12_takesFigures_64 : decode cX12_takesFigures 64 = .ok (.aload_n 0, 1) := by decide +kernel
theorem dX12_takesFigures_65 : decode cX12_takesFigures 65 = .ok (.dup, 1) := by decide +kernel
theorem dX12_takesFigures_66 : decode cX12_takesFigures 66 = .ok (.getfield 251, 3) := by decide +kernel
theorem dX12_takesFigures_69 : decode cX12_takesFigures 69 = .ok (.iconst 1, 1) := by decide +kernel
theorem dX12_takesFigures_70 : decode cX12_takesFigures 70 = .ok (.iadd, 1) := by decide +kernel
theorem dX12_takesFigures_71 : decode cX12_takesFigures 71 = .ok (.putfield 251, 3) := by decide +kernel
theorem dX12_takesFigures_74 : decode cX12_takesFigures 74 = .ok (.goto (-64), 3) := by decide +kernel
theorem dX12_takesFigures_77 : decode cX12_takesFigures 77 = .ok (.aload_n 0, 1) := by decide +kernel
theorem dX12_takesFigures_78 : decode cX12_takesFigures 78 = .ok (.getfield 251, 3) := by decide +kernel
theorem dX12_takesFigures_81 : decode cX12_takesFigures 81 = .ok (.iload_n 2, 1) := by decide +kernel
theorem dX12_takesFigures_82 : decode cX12_takesFigures 82 = .ok (.if_icmp .gt 14, 3) := by decide +kernel
theorem dX12_takesFigures_85 : decode cX12_takesFigures 85 = .ok (.aload_n 0, 1) := by decide +kernel
theorem dX12_takesFigures_86 : decode cX12_takesFigures 86 = .ok (.aload_n 0, 1) := by decide +kernel
theorem dX12_takesFigures_87 : decode cX12_takesFigures 87 = .ok (.getfield 251, 3) := by decide +kernel
theorem dX12_takesFigures_90 : decode cX12_takesFigures 90 = .ok (.invokevirtual 279, 3) := by decide +kernel
theorem dX12_takesFigures_93 : decode cX12_takesFigures 93 = .ok (.ifCond .eq 7, 3) := by decide +kernel
theorem dX12_takesFigures_96 : decode cX12_takesFigures 96 = .ok (.iconst 1, 1) := by decide +kernel
theorem dX12_takesFigures_97 : decode cX12_takesFigures 97 = .ok (.goto 4, 3) := by decide +kernel
theorem dX12_takesFigures_100 : decode cX12_takesFigures 100 = .ok (.iconst 0, 1) := by decide +kernel
theorem dX12_takesFigures_101 : decode cX12_takesFigures 101 = .ok (.ireturn, 1) := by decide +kernel
theorem dX12_takesPower_0 : decode cX12_takesPower 0 = .ok (.iconst 1, 1) := by decide +kernel
theorem dX12_takesPower_1 : decode cX12_takesPower 1 = .ok (.istore_n 1, 1) := by decide +kernel
theorem dX12_takesPower_2 : decode cX12_takesPower 2 = .ok (.aload_n 0, 1) := by decide +kernel
theorem dX12_takesPower_3 : decode cX12_takesPower 3 = .ok (.invokevirtual 282, 3) := by decide +kernel
theorem dX12_takesPower_6 : decode cX12_takesPower 6 = .ok (.aload_n 0, 1) := by decide +kernel
theorem dX12_takesPower_7 : decode cX12_takesPower 7 = .ok (.bipush 94, 2) := by decide +kernel
theorem dX12_takesPower_9 : decode cX12_takesPower 9 = .ok (.bipush 94, 2) := by decide +kernel
theorem dX12_takesPower_11 : decode cX12_takesPower 11 = .ok (.invokevirtual 254, 3) := by decide +kernel
theorem dX12_takesPower_14 : decode cX12_takesPower 14 = .ok (.ifCond .eq 52, 3) := by decide +kernel
theorem dX12_takesPower_17 : decode cX12_takesPower 17 = .ok (.aload_n 0, 1) := by decide +kernel
theorem dX12_takesPower_18 : decode cX12_takesPower 18 = .ok (.dup, 1) := by decide +kernel
theorem dX12_takesPower_19 : decode cX12_takesPower 19 = .ok (.getfield 251, 3) := by decide +kernel
theorem dX12_takesPower_22 : decode cX12_takesPower 22 = .ok (.iconst 1, 1) := by decide +kernel
theorem dX12_takesPower_23 : decode cX12_takesPower 23 = .ok (.iadd, 1) := by decide +kernel
theorem dX12_takesPower_24 : decode cX12_takesPower 24 = .ok (.putfield 251, 3) := by decide +kernel
theorem dX12_takesPower_27 : decode cX12_takesPower 27 = .ok (.aload_n 0, 1) := by decide +kernel
theorem dX12_takesPower_28 : decode cX12_takesPower 28 = .ok (.invokevirtual 282, 3) := by decide +kernel
theorem dX12_takesPower_31 : decode cX12_takesPower 31 = .ok (.aload_n 0, 1) := by decide +kernel
theorem dX12_takesPower_32 : decode cX12_takesPower 32 = .ok (.getfield 251, 3) := by decide +kernel
theorem dX12_takesPower_35 : decode cX12_takesPower 35 = .ok (.istore_n 2, 1) := by decide +kernel
theorem dX12_takesPower_36 : decode cX12_takesPower 36 = .ok (.aload_n 0, 1) := by decide +kernel
theorem dX12_takesPower_37 : decode cX12_takesPower 37 = .ok (.iconst 2, 1) := by decide +kernel
theorem dX12_takesPower_38 : decode cX12_takesPower 38 = .ok (.invokevirtual 285, 3) := by decide +kernel
theorem dX12_takesPower_41 : decode cX12_takesPower 41 = .ok (.ifCond .ne 5, 3) := by decide +kernel
theorem dX12_takesPower_44 : decode cX12_takesPower 44 = .ok (.iconst 0, 1) := by decide +kernel
theorem dX12_takesPower_45 : decode cX12_takesPower 45 = .ok (.ireturn, 1) := by decide +kernel
theorem dX12_takesPower_46 : decode cX12_takesPower 46 = .ok (.aload_n 0, 1) := by decide +kernel
theorem dX12_takesPower_47 : decode cX12_takesPower 47 = .ok (.getfield 276, 3) := by decide +kernel
theorem dX12_takesPower_50 : decode cX12_takesPower 50 = .ok (.bipush 12, 2) := by decide +kernel
theorem dX12_takesPower_52 : decode cX12_takesPower 52 = .ok (.if_icmp .le 9, 3) := by decide +kernel
theorem dX12_takesPower_55 : decode cX12_takesPower 55 = .ok (.aload_n 0, 1) := by decide +kernel
theorem dX12_takesPower_56 : decode cX12_takesPower 56 = .ok (.iload_n 2, 1) := by decide +kernel
theorem dX12_takesPower_57 : decode cX12_takesPower 57 = .ok (.invokevirtual 279, 3) := by decide +kernel
theorem dX12_takesPower_60 : decode cX12_takesPower 60 = .ok (.ireturn, 1) := by decide +kernel
theorem dX12_takesPower_61 : decode cX12_takesPower 61 = .ok (.aload_n 0, 1) := by decide +kernel
theorem dX12_takesPower_62 : decode cX12_takesPower 62 = .ok (.getfield 276, 3) := by decide +kernel
theorem dX12_takesPower_65 : decode cX12_takesPower 65 = .ok (.istore_n 1, 1) := by decide +kernel
theorem dX12_takesPower_66 : decode cX12_takesPower 66 = .ok (.aload_n 0, 1) := by decide +kernel
theorem dX12_takesPower_67 : decode cX12_takesPower 67 = .ok (.iconst 0, 1) := by decide +kernel
theorem dX12_takesPower_68 : decode cX12_takesPower 68 = .ok (.putfield 260, 3) := by decide +kernel
theorem dX12_takesPower_71 : decode cX12_takesPower 71 = .ok (.aload_n 0, 1) := by decide +kernel
theorem dX12_takesPower_72 : decode cX12_takesPower 72 = .ok (.iload_n 1, 1) := by decide +kernel
theorem dX12_takesPower_73 : decode cX12_takesPower 73 = .ok (.invokevirtual 288, 3) := by decide +kernel
theorem dX12_takesPower_76 : decode cX12_takesPower 76 = .ok (.iconst 1, 1) := by decide +kernel
theorem dX12_takesPower_77 : decode cX12_takesPower 77 = .ok (.ireturn, 1) := by decide +kernel
theorem dX12_values_0 : decode cX12_values 0 = .ok (.aload_n 0, 1) := by decide +kernel
theorem dX12_values_1 : decode cX12_values 1 = .ok (.bipush 27, 2) := by decide +kernel
theorem dX12_values_3 : decode cX12_values 3 = .ok (.invokevirtual 78, 3) := by decide +kernel
theorem dX12_values_6 : decode cX12_values 6 = .ok (.aload_n 0, 1) := by decide +kernel
theorem dX12_values_7 : decode cX12_values 7 = .ok (.getfield 22, 3) := by decide +kernel
theorem dX12_values_10 : decode cX12_values 10 = .ok (.sipush 13392, 3) := by decide +kernel
theorem dX12_values_13 : decode cX12_values 13 = .ok (.iload_n 1, 1) := by decide +kernel
theorem dX12_values_14 : decode cX12_values 14 = .ok (.iload_n 2, 1) := by decide +kernel
theorem dX12_values_15 : decode cX12_values 15 = .ok (.invokestatic 59, 3) := by decide +kernel
theorem dX12_values_18 : decode cX12_values 18 = .ok (.iadd, 1) := by decide +kernel
theorem dX12_values_19 : decode cX12_values 19 = .ok (.iload_n 3, 1) := by decide +kernel
theorem dX12_values_20 : decode cX12_values 20 = .ok (.iastore, 1) := by decide +kernel
theorem dX12_values_21 : decode cX12_values 21 = .ok (.return_, 1) := by decide +kernel
theorem dX12_takesFactor_0 : decode cX12_takesFactor 0 = .ok (.aload_n 0, 1) := by decide +kernel
theorem dX12_takesFactor_1 : decode cX12_takesFactor 1 = .ok (.bipush 45, 2) := by decide +kernel
theorem dX12_takesFactor_3 : decode cX12_takesFactor 3 = .ok (.bipush 45, 2) := by decide +kernel
theorem dX12_takesFactor_5 : decode cX12_takesFactor 5 = .ok (.invokevirtual 254, 3) := by decide +kernel
theorem dX12_takesFactor_8 : decode cX12_takesFactor 8 = .ok (.ifCond .eq 37, 3) := by decide +kernel
theorem dX12_takesFactor_11 : decode cX12_takesFactor 11 = .ok (.aload_n 0, 1) := by decide +kernel
theorem dX12_takesFactor_12 : decode cX12_takesFactor 12 = .ok (.getfield 264, 3) := by decide +kernel
theorem dX12_takesFactor_15 : decode cX12_takesFactor 15 = .ok (.ifCond .eq 30, 3) := by decide +kernel
theorem dX12_takesFactor_18 : decode cX12_takesFactor 18 = .ok (.aload_n 0, 1) := by decide +kernel
theorem dX12_takesFactor_19 : decode cX12_takesFactor 19 = .ok (.iconst 0, 1) := by decide +kernel
theorem dX12_takesFactor_20 : decode cX12_takesFactor 20 = .ok (.putfield 264, 3) := by decide +kernel
theorem dX12_takesFactor_23 : decode cX12_takesFactor 23 = .ok (.aload_n 0, 1) := by decide +kernel
theorem dX12_takesFactor_24 : decode cX12_takesFactor 24 = .ok (.getfield 49, 3) := by decide +kernel
theorem dX12_takesFactor_27 : decode cX12_takesFactor 27 = .ok (.aload_n 0, 1) := by decide +kernel
theorem dX12_takesFactor_28 : decode cX12_takesFactor 28 = .ok (.getfield 267, 3) := by decide +kernel
theorem dX12_takesFactor_31 : decode cX12_takesFactor 31 = .ok (.iconst 1, 1) := by decide +kernel
theorem dX12_takesFactor_32 : decode cX12_takesFactor 32 = .ok (.bastore, 1) := by decide +kernel
theorem dX12_takesFactor_33 : decode cX12_takesFactor 33 = .ok (.aload_n 0, 1) := by decide +kernel
theorem dX12_takesFactor_34 : decode cX12_takesFactor 34 = .ok (.dup, 1) := by decide +kernel
theorem dX12_takesFactor_35 : decode cX12_takesFactor 35 = .ok (.getfield 251, 3) := by decide +kernel
theorem dX12_takesFactor_38 : decode cX12_takesFactor 38 = .ok (.iconst 1, 1) := by decide +kernel
theorem dX12_takesFactor_39 : decode cX12_takesFactor 39 = .ok (.iadd, 1) := by decide +kernel
theorem dX12_takesFactor_40 : decode cX12_takesFactor 40 = .ok (.putfield 251, 3) := by decide +kernel
theorem dX12_takesFactor_43 : decode cX12_takesFactor 43 = .ok (.iconst 1, 1) := by decide +kernel
theorem dX12_takesFactor_44 : decode cX12_takesFactor 44 = .ok (.ireturn, 1) := by decide +kernel
theorem dX12_takesFactor_45 : decode cX12_takesFactor 45 = .ok (.aload_n 0, 1) := by decide +kernel
theorem dX12_takesFactor_46 : decode cX12_takesFactor 46 = .ok (.bipush 40, 2) := by decide +kernel
theorem dX12_takesFactor_48 : decode cX12_takesFactor 48 = .ok (.bipush 40, 2) := by decide +kernel
theorem dX12_takesFactor_50 : decode cX12_takesFactor 50 = .ok (.invokevirtual 254, 3) := by decide +kernel
theorem dX12_takesFactor_53 : decode cX12_takesFactor 53 = .ok (.ifCond .eq 47, 3) := by decide +kernel
theorem dX12_takesFactor_56 : decode cX12_takesFactor 56 = .ok (.aload_n 0, 1) := by decide +kernel
theorem dX12_takesFactor_57 : decode cX12_takesFactor 57 = .ok (.getfield 267, 3) := by decide +kernel
theorem dX12_takesFactor_60 : decode cX12_takesFactor 60 = .ok (.bipush 8, 2) := by decide +kernel
end
section
theorem dX12_takesFactor_62 : decode cX12_takesFactor 62 = .ok (.if_icmp .ne 12, 3) := by decide +kernel
theorem dX12_takesFactor_65 : decode cX12_takesFactor 65 = .ok (.aload_n 0, 1) := by decide +kernel
theorem dX12_takesFactor_66 : decode cX12_takesFactor 66 = .ok (.aload_n 0, 1) := by decide +kernel
theorem dX12_takesFactor_67 : decode cX12_takesFactor 67 = .ok (.getfield 251, 3) := by decide +kernel
theorem dX12_takesFactor_70 : decode cX12_takesFactor 70 = .ok (.invokevirtual 279, 3) := by decide +kernel
theorem dX12_takesFactor_73 : decode cX12_takesFactor 73 = .ok (.ireturn, 1) := by decide +kernel
theorem dX12_takesFactor_74 : decode cX12_takesFactor 74 = .ok (.aload_n 0, 1) := by decide +kernel
theorem dX12_takesFactor_75 : decode cX12_takesFactor 75 = .ok (.dup, 1) := by decide +kernel
theorem dX12_takesFactor_76 : decode cX12_takesFactor 76 = .ok (.getfield 267, 3) := by decide +kernel
theorem dX12_takesFactor_79 : decode cX12_takesFactor 79 = .ok (.iconst 1, 1) := by decide +kernel
theorem dX12_takesFactor_80 : decode cX12_takesFactor 80 = .ok (.iadd, 1) := by decide +kernel
theorem dX12_takesFactor_81 : decode cX12_takesFactor 81 = .ok (.putfield 267, 3) := by decide +kernel
theorem dX12_takesFactor_84 : decode cX12_takesFactor 84 = .ok (.aload_n 0, 1) := by decide +kernel
theorem dX12_takesFactor_85 : decode cX12_takesFactor 85 = .ok (.dup, 1) := by decide +kernel
theorem dX12_takesFactor_86 : decode cX12_takesFactor 86 = .ok (.getfield 251, 3) := by decide +kernel
theorem dX12_takesFactor_89 : decode cX12_takesFactor 89 = .ok (.iconst 1, 1) := by decide +kernel
theorem dX12_takesFactor_90 : decode cX12_takesFactor 90 = .ok (.iadd, 1) := by decide +kernel
theorem dX12_takesFactor_91 : decode cX12_takesFactor 91 = .ok (.putfield 251, 3) := by decide +kernel
theorem dX12_takesFactor_94 : decode cX12_takesFactor 94 = .ok (.aload_n 0, 1) := by decide +kernel
theorem dX12_takesFactor_95 : decode cX12_takesFactor 95 = .ok (.invokevirtual 291, 3) := by decide +kernel
theorem dX12_takesFactor_98 : decode cX12_takesFactor 98 = .ok (.iconst 1, 1) := by decide +kernel
theorem dX12_takesFactor_99 : decode cX12_takesFactor 99 = .ok (.ireturn, 1) := by decide +kernel
theorem dX12_takesFactor_100 : decode cX12_takesFactor 100 = .ok (.aload_n 0, 1) := by decide +kernel
theorem dX12_takesFactor_101 : decode cX12_takesFactor 101 = .ok (.bipush 48, 2) := by decide +kernel
theorem dX12_takesFactor_103 : decode cX12_takesFactor 103 = .ok (.bipush 57, 2) := by decide +kernel
theorem dX12_takesFactor_105 : decode cX12_takesFactor 105 = .ok (.invokevirtual 254, 3) := by decide +kernel
theorem dX12_takesFactor_108 : decode cX12_takesFactor 108 = .ok (.ifCond .eq 31, 3) := by decide +kernel
theorem dX12_takesFactor_111 : decode cX12_takesFactor 111 = .ok (.aload_n 0, 1) := by decide +kernel
theorem dX12_takesFactor_112 : decode cX12_takesFactor 112 = .ok (.iconst 4, 1) := by decide +kernel
theorem dX12_takesFactor_113 : decode cX12_takesFactor 113 = .ok (.invokevirtual 285, 3) := by decide +kernel
theorem dX12_takesFactor_116 : decode cX12_takesFactor 116 = .ok (.ifCond .ne 5, 3) := by decide +kernel
theorem dX12_takesFactor_119 : decode cX12_takesFactor 119 = .ok (.iconst 0, 1) := by decide +kernel
theorem dX12_takesFactor_120 : decode cX12_takesFactor 120 = .ok (.ireturn, 1) := by decide +kernel
theorem dX12_takesFactor_121 : decode cX12_takesFactor 121 = .ok (.aload_n 0, 1) := by decide +kernel
theorem dX12_takesFactor_122 : decode cX12_takesFactor 122 = .ok (.iconst 0, 1) := by decide +kernel
theorem dX12_takesFactor_123 : decode cX12_takesFactor 123 = .ok (.iconst 0, 1) := by decide +kernel
theorem dX12_takesFactor_124 : decode cX12_takesFactor 124 = .ok (.aload_n 0, 1) := by decide +kernel
theorem dX12_takesFactor_125 : decode cX12_takesFactor 125 = .ok (.getfield 276, 3) := by decide +kernel
theorem dX12_takesFactor_128 : decode cX12_takesFactor 128 = .ok (.invokestatic 122, 3) := by decide +kernel
theorem dX12_takesFactor_131 : decode cX12_takesFactor 131 = .ok (.invokevirtual 294, 3) := by decide +kernel
theorem dX12_takesFactor_134 : decode cX12_takesFactor 134 = .ok (.aload_n 0, 1) := by decide +kernel
theorem dX12_takesFactor_135 : decode cX12_takesFactor 135 = .ok (.invokevirtual 297, 3) := by decide +kernel
theorem dX12_takesFactor_138 : decode cX12_takesFactor 138 = .ok (.ireturn, 1) := by decide +kernel
theorem dX12_takesFactor_139 : decode cX12_takesFactor 139 = .ok (.aload_n 0, 1) := by decide +kernel
theorem dX12_takesFactor_140 : decode cX12_takesFactor 140 = .ok (.bipush 120, 2) := by decide +kernel
theorem dX12_takesFactor_142 : decode cX12_takesFactor 142 = .ok (.bipush 120, 2) := by decide +kernel
theorem dX12_takesFactor_144 : decode cX12_takesFactor 144 = .ok (.invokevirtual 254, 3) := by decide +kernel
theorem dX12_takesFactor_147 : decode cX12_takesFactor 147 = .ok (.ifCond .ne 23, 3) := by decide +kernel
theorem dX12_takesFactor_150 : decode cX12_takesFactor 150 = .ok (.aload_n 0, 1) := by decide +kernel
theorem dX12_takesFactor_151 : decode cX12_takesFactor 151 = .ok (.bipush 100, 2) := by decide +kernel
theorem dX12_takesFactor_153 : decode cX12_takesFactor 153 = .ok (.bipush 100, 2) := by decide +kernel
theorem dX12_takesFactor_155 : decode cX12_takesFactor 155 = .ok (.invokevirtual 254, 3) := by decide +kernel
theorem dX12_takesFactor_158 : decode cX12_takesFactor 158 = .ok (.ifCond .ne 12, 3) := by decide +kernel
theorem dX12_takesFactor_161 : decode cX12_takesFactor 161 = .ok (.aload_n 0, 1) := by decide +kernel
theorem dX12_takesFactor_162 : decode cX12_takesFactor 162 = .ok (.aload_n 0, 1) := by decide +kernel
theorem dX12_takesFactor_163 : decode cX12_takesFactor 163 = .ok (.getfield 251, 3) := by decide +kernel
theorem dX12_takesFactor_166 : decode cX12_takesFactor 166 = .ok (.invokevirtual 279, 3) := by decide +kernel
theorem dX12_takesFactor_169 : decode cX12_takesFactor 169 = .ok (.ireturn, 1) := by decide +kernel
theorem dX12_takesFactor_170 : decode cX12_takesFactor 170 = .ok (.aload_n 0, 1) := by decide +kernel
theorem dX12_takesFactor_171 : decode cX12_takesFactor 171 = .ok (.getfield 19, 3) := by decide +kernel
theorem dX12_takesFactor_174 : decode cX12_takesFactor 174 = .ok (.aload_n 0, 1) := by decide +kernel
theorem dX12_takesFactor_175 : decode cX12_takesFactor 175 = .ok (.getfield 251, 3) := by decide +kernel
theorem dX12_takesFactor_178 : decode cX12_takesFactor 178 = .ok (.iaload, 1) := by decide +kernel
theorem dX12_takesFactor_179 : decode cX12_takesFactor 179 = .ok (.bipush 120, 2) := by decide +kernel
theorem dX12_takesFactor_181 : decode cX12_takesFactor 181 = .ok (.if_icmp .ne 7, 3) := by decide +kernel
theorem dX12_takesFactor_184 : decode cX12_takesFactor 184 = .ok (.iconst 1, 1) := by decide +kernel
theorem dX12_takesFactor_185 : decode cX12_takesFactor 185 = .ok (.goto 4, 3) := by decide +kernel
theorem dX12_takesFactor_188 : decode cX12_takesFactor 188 = .ok (.iconst 0, 1) := by decide +kernel
theorem dX12_takesFactor_189 : decode cX12_takesFactor 189 = .ok (.istore_n 1, 1) := by decide +kernel
theorem dX12_takesFactor_190 : decode cX12_takesFactor 190 = .ok (.aload_n 0, 1) := by decide +kernel
theorem dX12_takesFactor_191 : decode cX12_takesFactor 191 = .ok (.iload_n 1, 1) := by decide +kernel
theorem dX12_takesFactor_192 : decode cX12_takesFactor 192 = .ok (.ifCond .eq 7, 3) := by decide +kernel
theorem dX12_takesFactor_195 : decode cX12_takesFactor 195 = .ok (.iconst 1, 1) := by decide +kernel
theorem dX12_takesFactor_196 : decode cX12_takesFactor 196 = .ok (.goto 4, 3) := by decide +kernel
theorem dX12_takesFactor_199 : decode cX12_takesFactor 199 = .ok (.iconst 0, 1) := by decide +kernel
theorem dX12_takesFactor_200 : decode cX12_takesFactor 200 = .ok (.iload_n 1, 1) := by decide +kernel
theorem dX12_takesFactor_201 : decode cX12_takesFactor 201 = .ok (.ifCond .eq 7, 3) := by decide +kernel
theorem dX12_takesFactor_204 : decode cX12_takesFactor 204 = .ok (.iconst 0, 1) := by decide +kernel
theorem dX12_takesFactor_205 : decode cX12_takesFactor 205 = .ok (.goto 4, 3) := by decide +kernel
theorem dX12_takesFactor_208 : decode cX12_takesFactor 208 = .ok (.iconst 1, 1) := by decide +kernel
theorem dX12_takesFactor_209 : decode cX12_takesFactor 209 = .ok (.iconst 1, 1) := by decide +kernel
theorem dX12_takesFactor_210 : decode cX12_takesFactor 210 = .ok (.invokevirtual 294, 3) := by decide +kernel
theorem dX12_takesFactor_213 : decode cX12_takesFactor 213 = .ok (.aload_n 0, 1) := by decide +kernel
theorem dX12_takesFactor_214 : decode cX12_takesFactor 214 = .ok (.dup, 1) := by decide +kernel
theorem dX12_takesFactor_215 : decode cX12_takesFactor 215 = .ok (.getfield 251, 3) := by decide +kernel
theorem dX12_takesFactor_218 : decode cX12_takesFactor 218 = .ok (.iconst 1, 1) := by decide +kernel
theorem dX12_takesFactor_219 : decode cX12_takesFactor 219 = .ok (.iadd, 1) := by decide +kernel
theorem dX12_takesFactor_220 : decode cX12_takesFactor 220 = .ok (.putfield 251, 3) := by decide +kernel
theorem dX12_takesFactor_223 : decode cX12_takesFactor 223 = .ok (.aload_n 0, 1) := by decide +kernel
theorem dX12_takesFactor_224 : decode cX12_takesFactor 224 = .ok (.invokevirtual 297, 3) := by decide +kernel
theorem dX12_takesFactor_227 : decode cX12_takesFactor 227 = .ok (.ireturn, 1) := by decide +kernel
theorem dX12_takesSign_0 : decode cX12_takesSign 0 = .ok (.aload_n 0, 1) := by decide +kernel
theorem dX12_takesSign_1 : decode cX12_takesSign 1 = .ok (.bipush 42, 2) := by decide +kernel
theorem dX12_takesSign_3 : decode cX12_takesSign 3 = .ok (.bipush 42, 2) := by decide +kernel
theorem dX12_takesSign_5 : decode cX12_takesSign 5 = .ok (.invokevirtual 254, 3) := by decide +kernel
theorem dX12_takesSign_8 : decode cX12_takesSign 8 = .ok (.ifCond .eq 25, 3) := by decide +kernel
theorem dX12_takesSign_11 : decode cX12_takesSign 11 = .ok (.aload_n 0, 1) := by decide +kernel
theorem dX12_takesSign_12 : decode cX12_takesSign 12 = .ok (.dup, 1) := by decide +kernel
theorem dX12_takesSign_13 : decode cX12_takesSign 13 = .ok (.getfield 251, 3) := by decide +kernel
theorem dX12_takesSign_16 : decode cX12_takesSign 16 = .ok (.iconst 1, 1) := by decide +kernel
theorem dX12_takesSign_17 : decode cX12_takesSign 17 = .ok (.iadd, 1) := by decide +kernel
theorem dX12_takesSign_18 : decode cX12_takesSign 18 = .ok (.putfield 251, 3) := by decide +kernel
theorem dX12_takesSign_21 : decode cX12_takesSign 21 = .ok (.aload_n 0, 1) := by decide +kernel
theorem dX12_takesSign_22 : decode cX12_takesSign 22 = .ok (.iconst 1, 1) := by decide +kernel
theorem dX12_takesSign_23 : decode cX12_takesSign 23 = .ok (.putfield 260, 3) := by decide +kernel
theorem dX12_takesSign_26 : decode cX12_takesSign 26 = .ok (.aload_n 0, 1) := by decide +kernel
theorem dX12_takesSign_27 : decode cX12_takesSign 27 = .ok (.iconst 0, 1) := by decide +kernel
theorem dX12_takesSign_28 : decode cX12_takesSign 28 = .ok (.putfield 264, 3) := by decide +kernel
theorem dX12_takesSign_31 : decode cX12_takesSign 31 = .ok (.iconst 1, 1) := by decide +kernel
theorem dX12_takesSign_32 : decode cX12_takesSign 32 = .ok (.ireturn, 1) := by decide +kernel
theorem dX12_takesSign_33 : decode cX12_takesSign 33 = .ok (.aload_n 0, 1) := by decide +kernel
theorem dX12_takesSign_34 : decode cX12_takesSign 34 = .ok (.bipush 43, 2) := by decide +kernel
theorem dX12_takesSign_36 : decode cX12_takesSign 36 = .ok (.bipush 43, 2) := by decide +kernel
theorem dX12_takesSign_38 : decode cX12_takesSign 38 = .ok (.invokevirtual 254, 3) := by decide +kernel
theorem dX12_takesSign_41 : decode cX12_takesSign 41 = .ok (.ifCond .ne 14, 3) := by decide +kernel
theorem dX12_takesSign_44 : decode cX12_takesSign 44 = .ok (.aload_n 0, 1) := by decide +kernel
theorem dX12_takesSign_45 : decode cX12_takesSign 45 = .ok (.bipush 45, 2) := by decide +kernel
theorem dX12_takesSign_47 : decode cX12_takesSign 47 = .ok (.bipush 45, 2) := by decide +kernel
theorem dX12_takesSign_49 : decode cX12_takesSign 49 = .ok (.invokevirtual 254, 3) := by decide +kernel
theorem dX12_takesSign_52 : decode cX12_takesSign 52 = .ok (.ifCond .eq 57, 3) := by decide +kernel
theorem dX12_takesSign_55 : decode cX12_takesSign 55 = .ok (.aload_n 0, 1) := by decide +kernel
theorem dX12_takesSign_56 : decode cX12_takesSign 56 = .ok (.invokevirtual 300, 3) := by decide +kernel
theorem dX12_takesSign_59 : decode cX12_takesSign 59 = .ok (.aload_n 0, 1) := by decide +kernel
theorem dX12_takesSign_60 : decode cX12_takesSign 60 = .ok (.getfield 49, 3) := by decide +kernel
theorem dX12_takesSign_63 : decode cX12_takesSign 63 = .ok (.aload_n 0, 1) := by decide +kernel
theorem dX12_takesSign_64 : decode cX12_takesSign 64 = .ok (.getfield 267, 3) := by decide +kernel
theorem dX12_takesSign_67 : decode cX12_takesSign 67 = .ok (.aload_n 0, 1) := by decide +kernel
theorem dX12_takesSign_68 : decode cX12_takesSign 68 = .ok (.getfield 19, 3) := by decide +kernel
theorem dX12_takesSign_71 : decode cX12_takesSign 71 = .ok (.aload_n 0, 1) := by decide +kernel
theorem dX12_takesSign_72 : decode cX12_takesSign 72 = .ok (.getfield 251, 3) := by decide +kernel
theorem dX12_takesSign_75 : decode cX12_takesSign 75 = .ok (.iaload, 1) := by decide +kernel
theorem dX12_takesSign_76 : decode cX12_takesSign 76 = .ok (.bipush 45, 2) := by decide +kernel
theorem dX12_takesSign_78 : decode cX12_takesSign 78 = .ok (.if_icmp .ne 7, 3) := by decide +kernel
theorem dX12_takesSign_81 : decode cX12_takesSign 81 = .ok (.iconst 1, 1) := by decide +kernel
theorem dX12_takesSign_82 : decode cX12_takesSign 82 = .ok (.goto 4, 3) := by decide +kernel
theorem dX12_takesSign_85 : decode cX12_takesSign 85 = .ok (.iconst 0, 1) := by decide +kernel
theorem dX12_takesSign_86 : decode cX12_takesSign 86 = .ok (.bastore, 1) := by decide +kernel
theorem dX12_takesSign_87 : decode cX12_takesSign 87 = .ok (.aload_n 0, 1) := by decide +kernel
theorem dX12_takesSign_88 : decode cX12_takesSign 88 = .ok (.dup, 1) := by decide +kernel
theorem dX12_takesSign_89 : decode cX12_takesSign 89 = .ok (.getfield 251, 3) := by decide +kernel
theorem dX12_takesSign_92 : decode cX12_takesSign 92 = .ok (.iconst 1, 1) := by decide +kernel
theorem dX12_takesSign_93 : decode cX12_takesSign 93 = .ok (.iadd, 1) := by decide +kernel
theorem dX12_takesSign_94 : decode cX12_takesSign 94 = .ok (.putfield 251, 3) := by decide +kernel
theorem dX12_takesSign_97 : decode cX12_takesSign 97 = .ok (.aload_n 0, 1) := by decide +kernel
theorem dX12_takesSign_98 : decode cX12_takesSign 98 = .ok (.iconst 1, 1) := by decide +kernel
theorem dX12_takesSign_99 : decode cX12_takesSign 99 = .ok (.putfield 260, 3) := by decide +kernel
theorem dX12_takesSign_102 : decode cX12_takesSign 102 = .ok (.aload_n 0, 1) := by decide +kernel
theorem dX12_takesSign_103 : decode cX12_takesSign 103 = .ok (.iconst 0, 1) := by decide +kernel
theorem dX12_takesSign_104 : decode cX12_takesSign 104 = .ok (.putfield 264, 3) := by decide +kernel
theorem dX12_takesSign_107 : decode cX12_takesSign 107 = .ok (.iconst 1, 1) := by decide +kernel
theorem dX12_takesSign_108 : decode cX12_takesSign 108 = .ok (.ireturn, 1) := by decide +kernel
theorem dX12_takesSign_109 : decode cX12_takesSign 109 = .ok (.aload_n 0, 1) := by decide +kernel
theorem dX12_takesSign_110 : decode cX12_takesSign 110 = .ok (.bipush 41, 2) := by decide +kernel
theorem dX12_takesSign_112 : decode cX12_takesSign 112 = .ok (.bipush 41, 2) := by decide +kernel
theorem dX12_takesSign_114 : decode cX12_takesSign 114 = .ok (.invokevirtual 254, 3) := by decide +kernel
theorem dX12_takesSign_117 : decode cX12_takesSign 117 = .ok (.ifCond .eq 10, 3) := by decide +kernel
theorem dX12_takesSign_120 : decode cX12_takesSign 120 = .ok (.aload_n 0, 1) := by decide +kernel
theorem dX12_takesSign_121 : decode cX12_takesSign 121 = .ok (.getfield 267, 3) := by decide +kernel
theorem dX12_takesSign_124 : decode cX12_takesSign 124 = .ok (.ifCond .ne 12, 3) := by decide +kernel
theorem dX12_takesSign_127 : decode cX12_takesSign 127 = .ok (.aload_n 0, 1) := by decide +kernel
theorem dX12_takesSign_128 : decode cX12_takesSign 128 = .ok (.aload_n 0, 1) := by decide +kernel
theorem dX12_takesSign_129 : decode cX12_takesSign 129 = .ok (.getfield 251, 3) := by decide +kernel
theorem dX12_takesSign_132 : decode cX12_takesSign 132 = .ok (.invokevirtual 279, 3) := by decide +kernel
theorem dX12_takesSign_135 : decode cX12_takesSign 135 = .ok (.ireturn, 1) := by decide +kernel
theorem dX12_takesSign_136 : decode cX12_takesSign 136 = .ok (.aload_n 0, 1) := by decide +kernel
theorem dX12_takesSign_137 : decode cX12_takesSign 137 = .ok (.invokevirtual 300, 3) := by decide +kernel
theorem dX12_takesSign_140 : decode cX12_takesSign 140 = .ok (.aload_n 0, 1) := by decide +kernel
theorem dX12_takesSign_141 : decode cX12_takesSign 141 = .ok (.bipush 28, 2) := by decide +kernel
theorem dX12_takesSign_143 : decode cX12_takesSign 143 = .ok (.aload_n 0, 1) := by decide +kernel
theorem dX12_takesSign_144 : decode cX12_takesSign 144 = .ok (.getfield 267, 3) := by decide +kernel
theorem dX12_takesSign_147 : decode cX12_takesSign 147 = .ok (.iadd, 1) := by decide +kernel
theorem dX12_takesSign_148 : decode cX12_takesSign 148 = .ok (.bipush 27, 2) := by decide +kernel
theorem dX12_takesSign_150 : decode cX12_takesSign 150 = .ok (.invokevirtual 103, 3) := by decide +kernel
theorem dX12_takesSign_153 : decode cX12_takesSign 153 = .ok (.aload_n 0, 1) := by decide +kernel
theorem dX12_takesSign_154 : decode cX12_takesSign 154 = .ok (.dup, 1) := by decide +kernel
theorem dX12_takesSign_155 : decode cX12_takesSign 155 = .ok (.getfield 267, 3) := by decide +kernel
theorem dX12_takesSign_158 : decode cX12_takesSign 158 = .ok (.iconst 1, 1) := by decide +kernel
theorem dX12_takesSign_159 : decode cX12_takesSign 159 = .ok (.isub, 1) := by decide +kernel
theorem dX12_takesSign_160 : decode cX12_takesSign 160 = .ok (.putfield 267, 3) := by decide +kernel
theorem dX12_takesSign_163 : decode cX12_takesSign 163 = .ok (.aload_n 0, 1) := by decide +kernel
theorem dX12_takesSign_164 : decode cX12_takesSign 164 = .ok (.dup, 1) := by decide +kernel
theorem dX12_takesSign_165 : decode cX12_takesSign 165 = .ok (.getfield 251, 3) := by decide +kernel
theorem dX12_takesSign_168 : decode cX12_takesSign 168 = .ok (.iconst 1, 1) := by decide +kernel
theorem dX12_takesSign_169 : decode cX12_takesSign 169 = .ok (.iadd, 1) := by decide +kernel
theorem dX12_takesSign_170 : decode cX12_takesSign 170 = .ok (.putfield 251, 3) := by decide +kernel
theorem dX12_takesSign_173 : decode cX12_takesSign 173 = .ok (.aload_n 0, 1) := by decide +kernel
theorem dX12_takesSign_174 : decode cX12_takesSign 174 = .ok (.invokevirtual 297, 3) := by decide +kernel
theorem dX12_takesSign_177 : decode cX12_takesSign 177 = .ok (.ireturn, 1) := by decide +kernel
theorem dX12_isRead_0 : decode cX12_isRead 0 = .ok (.aload_n 0, 1) := by decide +kernel
theorem dX12_isRead_1 : decode cX12_isRead 1 = .ok (.iload_n 1, 1) := by decide +kernel
theorem dX12_isRead_2 : decode cX12_isRead 2 = .ok (.putfield 270, 3) := by decide +kernel
theorem dX12_isRead_5 : decode cX12_isRead 5 = .ok (.aload_n 0, 1) := by decide +kernel
theorem dX12_isRead_6 : decode cX12_isRead 6 = .ok (.iconst 0, 1) := by decide +kernel
theorem dX12_isRead_7 : decode cX12_isRead 7 = .ok (.putfield 273, 3) := by decide +kernel
theorem dX12_isRead_10 : decode cX12_isRead 10 = .ok (.aload_n 0, 1) := by decide +kernel
theorem dX12_isRead_11 : decode cX12_isRead 11 = .ok (.iconst 0, 1) := by decide +kernel
theorem dX12_isRead_12 : decode cX12_isRead 12 = .ok (.putfield 251, 3) := by decide +kernel
theorem dX12_isRead_15 : decode cX12_isRead 15 = .ok (.aload_n 0, 1) := by decide +kernel
theorem dX12_isRead_16 : decode cX12_isRead 16 = .ok (.iconst 0, 1) := by decide +kernel
theorem dX12_isRead_17 : decode cX12_isRead 17 = .ok (.putfield 267, 3) := by decide +kernel
theorem dX12_isRead_20 : decode cX12_isRead 20 = .ok (.aload_n 0, 1) := by decide +kernel
theorem dX12_isRead_21 : decode cX12_isRead 21 = .ok (.invokevirtual 291, 3) := by decide +kernel
theorem dX12_isRead_24 : decode cX12_isRead 24 = .ok (.aload_n 0, 1) := by decide +kernel
theorem dX12_isRead_25 : decode cX12_isRead 25 = .ok (.invokevirtual 282, 3) := by decide +kernel
theorem dX12_isRead_28 : decode cX12_isRead 28 = .ok (.aload_n 0, 1) := by decide +kernel
theorem dX12_isRead_29 : decode cX12_isRead 29 = .ok (.getfield 251, 3) := by decide +kernel
theorem dX12_isRead_32 : decode cX12_isRead 32 = .ok (.aload_n 0, 1) := by decide +kernel
theorem dX12_isRead_33 : decode cX12_isRead 33 = .ok (.getfield 248, 3) := by decide +kernel
theorem dX12_isRead_36 : decode cX12_isRead 36 = .ok (.if_icmp .ge 36, 3) := by decide +kernel
theorem dX12_isRead_39 : decode cX12_isRead 39 = .ok (.aload_n 0, 1) := by decide +kernel
theorem dX12_isRead_40 : decode cX12_isRead 40 = .ok (.getfield 260, 3) := by decide +kernel
theorem dX12_isRead_43 : decode cX12_isRead 43 = .ok (.ifCond .eq 13, 3) := by decide +kernel
theorem dX12_isRead_46 : decode cX12_isRead 46 = .ok (.aload_n 0, 1) := by decide +kernel
theorem dX12_isRead_47 : decode cX12_isRead 47 = .ok (.invokevirtual 303, 3) := by decide +kernel
theorem dX12_isRead_50 : decode cX12_isRead 50 = .ok (.ifCond .eq 13, 3) := by decide +kernel
theorem dX12_isRead_53 : decode cX12_isRead 53 = .ok (.goto 12, 3) := by decide +kernel
theorem dX12_isRead_56 : decode cX12_isRead 56 = .ok (.aload_n 0, 1) := by decide +kernel
theorem dX12_isRead_57 : decode cX12_isRead 57 = .ok (.invokevirtual 306, 3) := by decide +kernel
theorem dX12_isRead_60 : decode cX12_isRead 60 = .ok (.ifCond .ne 5, 3) := by decide +kernel
theorem dX12_isRead_63 : decode cX12_isRead 63 = .ok (.iconst 0, 1) := by decide +kernel
theorem dX12_isRead_64 : decode cX12_isRead 64 = .ok (.ireturn, 1) := by decide +kernel
theorem dX12_isRead_65 : decode cX12_isRead 65 = .ok (.aload_n 0, 1) := by decide +kernel
theorem dX12_isRead_66 : decode cX12_isRead 66 = .ok (.invokevirtual 282, 3) := by decide +kernel
theorem dX12_isRead_69 : decode cX12_isRead 69 = .ok (.goto (-41), 3) := by decide +kernel
theorem dX12_isRead_72 : decode cX12_isRead 72 = .ok (.aload_n 0, 1) := by decide +kernel
theorem dX12_isRead_73 : decode cX12_isRead 73 = .ok (.getfield 260, 3) := by decide +kernel
theorem dX12_isRead_76 : decode cX12_isRead 76 = .ok (.ifCond .ne 10, 3) := by decide +kernel
theorem dX12_isRead_79 : decode cX12_isRead 79 = .ok (.aload_n 0, 1) := by decide +kernel
theorem dX12_isRead_80 : decode cX12_isRead 80 = .ok (.getfield 267, 3) := by decide +kernel
theorem dX12_isRead_83 : decode cX12_isRead 83 = .ok (.ifCond .le 12, 3) := by decide +kernel
theorem dX12_isRead_86 : decode cX12_isRead 86 = .ok (.aload_n 0, 1) := by decide +kernel
theorem dX12_isRead_87 : decode cX12_isRead 87 = .ok (.aload_n 0, 1) := by decide +kernel
theorem dX12_isRead_88 : decode cX12_isRead 88 = .ok (.getfield 248, 3) := by decide +kernel
theorem dX12_isRead_91 : decode cX12_isRead 91 = .ok (.invokevirtual 279, 3) := by decide +kernel
theorem dX12_isRead_94 : decode cX12_isRead 94 = .ok (.ireturn, 1) := by decide +kernel
theorem dX12_isRead_95 : decode cX12_isRead 95 = .ok (.aload_n 0, 1) := by decide +kernel
theorem dX12_isRead_96 : decode cX12_isRead 96 = .ok (.invokevirtual 300, 3) := by decide +kernel
theorem dX12_isRead_99 : decode cX12_isRead 99 = .ok (.iconst 1, 1) := by decide +kernel
theorem dX12_isRead_100 : decode cX12_isRead 100 = .ok (.ireturn, 1) := by decide +kernel
theorem dX12_reads_0 : decode cX12_reads 0 = .ok (.iload_n 1, 1) := by decide +kernel
theorem dX12_reads_1 : decode cX12_reads 1 = .ok (.invokestatic 111, 3) := by decide +kernel
theorem dX12_reads_4 : decode cX12_reads 4 = .ok (.ifCond .ne 8, 3) := by decide +kernel
theorem dX12_reads_7 : decode cX12_reads 7 = .ok (.aload_n 0, 1) := by decide +kernel
theorem dX12_reads_8 : decode cX12_reads 8 = .ok (.invokevirtual 119, 3) := by decide +kernel
theorem dX12_reads_11 : decode cX12_reads 11 = .ok (.ireturn, 1) := by decide +kernel
theorem dX12_reads_12 : decode cX12_reads 12 = .ok (.aload_n 0, 1) := by decide +kernel
theorem dX12_reads_13 : decode cX12_reads 13 = .ok (.iconst 0, 1) := by decide +kernel
theorem dX12_reads_14 : decode cX12_reads 14 = .ok (.invokevirtual 309, 3) := by decide +kernel
theorem dX12_reads_17 : decode cX12_reads 17 = .ok (.ifCond .ne 12, 3) := by decide +kernel
theorem dX12_reads_20 : decode cX12_reads 20 = .ok (.sipush (-30000), 3) := by decide +kernel
theorem dX12_reads_23 : decode cX12_reads 23 = .ok (.aload_n 0, 1) := by decide +kernel
theorem dX12_reads_24 : decode cX12_reads 24 = .ok (.getfield 257, 3) := by decide +kernel
theorem dX12_reads_27 : decode cX12_reads 27 = .ok (.isub, 1) := by decide +kernel
theorem dX12_reads_28 : decode cX12_reads 28 = .ok (.ireturn, 1) := by decide +kernel
theorem dX12_reads_29 : decode cX12_reads 29 = .ok (.aload_n 0, 1) := by decide +kernel
theorem dX12_reads_30 : decode cX12_reads 30 = .ok (.iconst 1, 1) := by decide +kernel
theorem dX12_reads_31 : decode cX12_reads 31 = .ok (.invokevirtual 309, 3) := by decide +kernel
theorem dX12_reads_34 : decode cX12_reads 34 = .ok (.istore_n 2, 1) := by decide +kernel
theorem dX12_reads_35 : decode cX12_reads 35 = .ok (.iload_n 2, 1) := by decide +kernel
theorem dX12_reads_36 : decode cX12_reads 36 = .ok (.ifCond .eq 17, 3) := by decide +kernel
theorem dX12_reads_39 : decode cX12_reads 39 = .ok (.aload_n 0, 1) := by decide +kernel
theorem dX12_reads_40 : decode cX12_reads 40 = .ok (.getfield 273, 3) := by decide +kernel
theorem dX12_reads_43 : decode cX12_reads 43 = .ok (.ifCond .eq 10, 3) := by decide +kernel
theorem dX12_reads_46 : decode cX12_reads 46 = .ok (.aload_n 0, 1) := by decide +kernel
theorem dX12_reads_47 : decode cX12_reads 47 = .ok (.invokevirtual 140, 3) := by decide +kernel
theorem dX12_reads_50 : decode cX12_reads 50 = .ok (.goto 10, 3) := by decide +kernel
theorem dX12_reads_53 : decode cX12_reads 53 = .ok (.aload_n 0, 1) := by decide +kernel
theorem dX12_reads_54 : decode cX12_reads 54 = .ok (.iload_n 1, 1) := by decide +kernel
theorem dX12_reads_55 : decode cX12_reads 55 = .ok (.bipush 28, 2) := by decide +kernel
theorem dX12_reads_57 : decode cX12_reads 57 = .ok (.invokevirtual 134, 3) := by decide +kernel
theorem dX12_reads_60 : decode cX12_reads 60 = .ok (.ireturn, 1) := by decide +kernel
theorem dX12_writes_0 : decode cX12_writes 0 = .ok (.aload_n 0, 1) := by decide +kernel
theorem dX12_writes_1 : decode cX12_writes 1 = .ok (.getfield 56, 3) := by decide +kernel
theorem dX12_writes_4 : decode cX12_writes 4 = .ok (.aload_n 0, 1) := by decide +kernel
theorem dX12_writes_5 : decode cX12_writes 5 = .ok (.getfield 313, 3) := by decide +kernel
theorem dX12_writes_8 : decode cX12_writes 8 = .ok (.iload_n 1, 1) := by decide +kernel
theorem dX12_writes_9 : decode cX12_writes 9 = .ok (.iastore, 1) := by decide +kernel
theorem dX12_writes_10 : decode cX12_writes 10 = .ok (.aload_n 0, 1) := by decide +kernel
theorem dX12_writes_11 : decode cX12_writes 11 = .ok (.dup, 1) := by decide +kernel
theorem dX12_writes_12 : decode cX12_writes 12 = .ok (.getfield 313, 3) := by decide +kernel
theorem dX12_writes_15 : decode cX12_writes 15 = .ok (.iconst 1, 1) := by decide +kernel
theorem dX12_writes_16 : decode cX12_writes 16 = .ok (.iadd, 1) := by decide +kernel
theorem dX12_writes_17 : decode cX12_writes 17 = .ok (.putfield 313, 3) := by decide +kernel
theorem dX12_writes_20 : decode cX12_writes 20 = .ok (.return_, 1) := by decide +kernel
theorem dX12_writesNumber_0 : decode cX12_writesNumber 0 = .ok (.iconst 1, 1) := by decide +kernel
theorem dX12_writesNumber_1 : decode cX12_writesNumber 1 = .ok (.istore_n 2, 1) := by decide +kernel
theorem dX12_writesNumber_2 : decode cX12_writesNumber 2 = .ok (.iload_n 2, 1) := by decide +kernel
theorem dX12_writesNumber_3 : decode cX12_writesNumber 3 = .ok (.bipush 10, 2) := by decide +kernel
theorem dX12_writesNumber_5 : decode cX12_writesNumber 5 = .ok (.imul, 1) := by decide +kernel
theorem dX12_writesNumber_6 : decode cX12_writesNumber 6 = .ok (.iload_n 1, 1) := by decide +kernel
theorem dX12_writesNumber_7 : decode cX12_writesNumber 7 = .ok (.if_icmp .gt 11, 3) := by decide +kernel
theorem dX12_writesNumber_10 : decode cX12_writesNumber 10 = .ok (.iload_n 2, 1) := by decide +kernel
theorem dX12_writesNumber_11 : decode cX12_writesNumber 11 = .ok (.bipush 10, 2) := by decide +kernel
theorem dX12_writesNumber_13 : decode cX12_writesNumber 13 = .ok (.imul, 1) := by decide +kernel
theorem dX12_writesNumber_14 : decode cX12_writesNumber 14 = .ok (.istore_n 2, 1) := by decide +kernel
theorem dX12_writesNumber_15 : decode cX12_writesNumber 15 = .ok (.goto (-13), 3) := by decide +kernel
theorem dX12_writesNumber_18 : decode cX12_writesNumber 18 = .ok (.iload_n 2, 1) := by decide +kernel
theorem dX12_writesNumber_19 : decode cX12_writesNumber 19 = .ok (.istore_n 3, 1) := by decide +kernel
theorem dX12_writesNumber_20 : decode cX12_writesNumber 20 = .ok (.iload_n 3, 1) := by decide +kernel
theorem dX12_writesNumber_21 : decode cX12_writesNumber 21 = .ok (.ifCond .le 24, 3) := by decide +kernel
theorem dX12_writesNumber_24 : decode cX12_writesNumber 24 = .ok (.aload_n 0, 1) := by decide +kernel
theorem dX12_writesNumber_25 : decode cX12_writesNumber 25 = .ok (.bipush 48, 2) := by decide +kernel
theorem dX12_writesNumber_27 : decode cX12_writesNumber 27 = .ok (.iload_n 1, 1) := by decide +kernel
theorem dX12_writesNumber_28 : decode cX12_writesNumber 28 = .ok (.iload_n 3, 1) := by decide +kernel
theorem dX12_writesNumber_29 : decode cX12_writesNumber 29 = .ok (.idiv, 1) := by decide +kernel
theorem dX12_writesNumber_30 : decode cX12_writesNumber 30 = .ok (.bipush 10, 2) := by decide +kernel
theorem dX12_writesNumber_32 : decode cX12_writesNumber 32 = .ok (.irem, 1) := by decide +kernel
theorem dX12_writesNumber_33 : decode cX12_writesNumber 33 = .ok (.iadd, 1) := by decide +kernel
theorem dX12_writesNumber_34 : decode cX12_writesNumber 34 = .ok (.invokevirtual 316, 3) := by decide +kernel
theorem dX12_writesNumber_37 : decode cX12_writesNumber 37 = .ok (.iload_n 3, 1) := by decide +kernel
theorem dX12_writesNumber_38 : decode cX12_writesNumber 38 = .ok (.bipush 10, 2) := by decide +kernel
theorem dX12_writesNumber_40 : decode cX12_writesNumber 40 = .ok (.idiv, 1) := by decide +kernel
theorem dX12_writesNumber_41 : decode cX12_writesNumber 41 = .ok (.istore_n 3, 1) := by decide +kernel
theorem dX12_writesNumber_42 : decode cX12_writesNumber 42 = .ok (.goto (-22), 3) := by decide +kernel
theorem dX12_writesNumber_45 : decode cX12_writesNumber 45 = .ok (.return_, 1) := by decide +kernel
theorem dX12_writesLetter_0 : decode cX12_writesLetter 0 = .ok (.aload_n 0, 1) := by decide +kernel
theorem dX12_writesLetter_1 : decode cX12_writesLetter 1 = .ok (.iload_n 1, 1) := by decide +kernel
theorem dX12_writesLetter_2 : decode cX12_writesLetter 2 = .ok (.invokevirtual 316, 3) := by decide +kernel
theorem dX12_writesLetter_5 : decode cX12_writesLetter 5 = .ok (.iload_n 2, 1) := by decide +kernel
theorem dX12_writesLetter_6 : decode cX12_writesLetter 6 = .ok (.iconst 1, 1) := by decide +kernel
theorem dX12_writesLetter_7 : decode cX12_writesLetter 7 = .ok (.if_icmp .le 14, 3) := by decide +kernel
theorem dX12_writesLetter_10 : decode cX12_writesLetter 10 = .ok (.aload_n 0, 1) := by decide +kernel
theorem dX12_writesLetter_11 : decode cX12_writesLetter 11 = .ok (.bipush 94, 2) := by decide +kernel
theorem dX12_writesLetter_13 : decode cX12_writesLetter 13 = .ok (.invokevirtual 316, 3) := by decide +kernel
theorem dX12_writesLetter_16 : decode cX12_writesLetter 16 = .ok (.aload_n 0, 1) := by decide +kernel
theorem dX12_writesLetter_17 : decode cX12_writesLetter 17 = .ok (.iload_n 2, 1) := by decide +kernel
theorem dX12_writesLetter_18 : decode cX12_writesLetter 18 = .ok (.invokevirtual 319, 3) := by decide +kernel
theorem dX12_writesLetter_21 : decode cX12_writesLetter 21 = .ok (.return_, 1) := by decide +kernel
theorem dX12_writesTerm_0 : decode cX12_writesTerm 0 = .ok (.iload_n 2, 1) := by decide +kernel
theorem dX12_writesTerm_1 : decode cX12_writesTerm 1 = .ok (.ifCond .lt 10, 3) := by decide +kernel
theorem dX12_writesTerm_4 : decode cX12_writesTerm 4 = .ok (.aload_n 0, 1) := by decide +kernel
theorem dX12_writesTerm_5 : decode cX12_writesTerm 5 = .ok (.getfield 313, 3) := by decide +kernel
theorem dX12_writesTerm_8 : decode cX12_writesTerm 8 = .ok (.ifCond .le 18, 3) := by decide +kernel
theorem dX12_writesTerm_11 : decode cX12_writesTerm 11 = .ok (.aload_n 0, 1) := by decide +kernel
theorem dX12_writesTerm_12 : decode cX12_writesTerm 12 = .ok (.iload_n 2, 1) := by decide +kernel
theorem dX12_writesTerm_13 : decode cX12_writesTerm 13 = .ok (.ifCond .ge 8, 3) := by decide +kernel
theorem dX12_writesTerm_16 : decode cX12_writesTerm 16 = .ok (.bipush 45, 2) := by decide +kernel
theorem dX12_writesTerm_18 : decode cX12_writesTerm 18 = .ok (.goto 5, 3) := by decide +kernel
theorem dX12_writesTerm_21 : decode cX12_writesTerm 21 = .ok (.bipush 43, 2) := by decide +kernel
theorem dX12_writesTerm_23 : decode cX12_writesTerm 23 = .ok (.invokevirtual 316, 3) := by decide +kernel
theorem dX12_writesTerm_26 : decode cX12_writesTerm 26 = .ok (.iload_n 2, 1) := by decide +kernel
theorem dX12_writesTerm_27 : decode cX12_writesTerm 27 = .ok (.ifCond .ge 8, 3) := by decide +kernel
theorem dX12_writesTerm_30 : decode cX12_writesTerm 30 = .ok (.iload_n 2, 1) := by decide +kernel
theorem dX12_writesTerm_31 : decode cX12_writesTerm 31 = .ok (.ineg, 1) := by decide +kernel
theorem dX12_writesTerm_32 : decode cX12_writesTerm 32 = .ok (.goto 4, 3) := by decide +kernel
theorem dX12_writesTerm_35 : decode cX12_writesTerm 35 = .ok (.iload_n 2, 1) := by decide +kernel
theorem dX12_writesTerm_36 : decode cX12_writesTerm 36 = .ok (.istore_n 3, 1) := by decide +kernel
theorem dX12_writesTerm_37 : decode cX12_writesTerm 37 = .ok (.iload_n 3, 1) := by decide +kernel
theorem dX12_writesTerm_38 : decode cX12_writesTerm 38 = .ok (.iconst 1, 1) := by decide +kernel
theorem dX12_writesTerm_39 : decode cX12_writesTerm 39 = .ok (.if_icmp .ne 7, 3) := by decide +kernel
theorem dX12_writesTerm_42 : decode cX12_writesTerm 42 = .ok (.iload_n 1, 1) := by decide +kernel
theorem dX12_writesTerm_43 : decode cX12_writesTerm 43 = .ok (.ifCond .ne 7, 3) := by decide +kernel
theorem dX12_writesTerm_46 : decode cX12_writesTerm 46 = .ok (.iconst 1, 1) := by decide +kernel
theorem dX12_writesTerm_47 : decode cX12_writesTerm 47 = .ok (.goto 4, 3) := by decide +kernel
theorem dX12_writesTerm_50 : decode cX12_writesTerm 50 = .ok (.iconst 0, 1) := by decide +kernel
theorem dX12_writesTerm_51 : decode cX12_writesTerm 51 = .ok (.istore 4, 2) := by decide +kernel
theorem dX12_writesTerm_53 : decode cX12_writesTerm 53 = .ok (.iload 4, 2) := by decide +kernel
theorem dX12_writesTerm_55 : decode cX12_writesTerm 55 = .ok (.ifCond .eq 8, 3) := by decide +kernel
theorem dX12_writesTerm_58 : decode cX12_writesTerm 58 = .ok (.aload_n 0, 1) := by decide +kernel
theorem dX12_writesTerm_59 : decode cX12_writesTerm 59 = .ok (.iload_n 3, 1) := by decide +kernel
theorem dX12_writesTerm_60 : decode cX12_writesTerm 60 = .ok (.invokevirtual 319, 3) := by decide +kernel
theorem dX12_writesTerm_63 : decode cX12_writesTerm 63 = .ok (.aload_n 0, 1) := by decide +kernel
theorem dX12_writesTerm_64 : decode cX12_writesTerm 64 = .ok (.getfield 25, 3) := by decide +kernel
theorem dX12_writesTerm_67 : decode cX12_writesTerm 67 = .ok (.iload_n 1, 1) := by decide +kernel
theorem dX12_writesTerm_68 : decode cX12_writesTerm 68 = .ok (.iaload, 1) := by decide +kernel
theorem dX12_writesTerm_69 : decode cX12_writesTerm 69 = .ok (.ifCond .le 26, 3) := by decide +kernel
theorem dX12_writesTerm_72 : decode cX12_writesTerm 72 = .ok (.iload 4, 2) := by decide +kernel
theorem dX12_writesTerm_74 : decode cX12_writesTerm 74 = .ok (.ifCond .eq 9, 3) := by decide +kernel
theorem dX12_writesTerm_77 : decode cX12_writesTerm 77 = .ok (.aload_n 0, 1) := by decide +kernel
theorem dX12_writesTerm_78 : decode cX12_writesTerm 78 = .ok (.bipush 42, 2) := by decide +kernel
theorem dX12_writesTerm_80 : decode cX12_writesTerm 80 = .ok (.invokevirtual 316, 3) := by decide +kernel
theorem dX12_writesTerm_83 : decode cX12_writesTerm 83 = .ok (.aload_n 0, 1) := by decide +kernel
theorem dX12_writesTerm_84 : decode cX12_writesTerm 84 = .ok (.bipush 120, 2) := by decide +kernel
theorem dX12_writesTerm_86 : decode cX12_writesTerm 86 = .ok (.aload_n 0, 1) := by decide +kernel
theorem dX12_writesTerm_87 : decode cX12_writesTerm 87 = .ok (.getfield 25, 3) := by decide +kernel
theorem dX12_writesTerm_90 : decode cX12_writesTerm 90 = .ok (.iload_n 1, 1) := by decide +kernel
theorem dX12_writesTerm_91 : decode cX12_writesTerm 91 = .ok (.iaload, 1) := by decide +kernel
theorem dX12_writesTerm_92 : decode cX12_writesTerm 92 = .ok (.invokevirtual 322, 3) := by decide +kernel
theorem dX12_writesTerm_95 : decode cX12_writesTerm 95 = .ok (.aload_n 0, 1) := by decide +kernel
theorem dX12_writesTerm_96 : decode cX12_writesTerm 96 = .ok (.getfield 28, 3) := by decide +kernel
theorem dX12_writesTerm_99 : decode cX12_writesTerm 99 = .ok (.iload_n 1, 1) := by decide +kernel
theorem dX12_writesTerm_100 : decode cX12_writesTerm 100 = .ok (.iaload, 1) := by decide +kernel
theorem dX12_writesTerm_101 : decode cX12_writesTerm 101 = .ok (.ifCond .le 35, 3) := by decide +kernel
theorem dX12_writesTerm_104 : decode cX12_writesTerm 104 = .ok (.iload 4, 2) := by decide +kernel
theorem dX12_writesTerm_106 : decode cX12_writesTerm 106 = .ok (.ifCond .ne 12, 3) := by decide +kernel
theorem dX12_writesTerm_109 : decode cX12_writesTerm 109 = .ok (.aload_n 0, 1) := by decide +kernel
theorem dX12_writesTerm_110 : decode cX12_writesTerm 110 = .ok (.getfield 25, 3) := by decide +kernel
theorem dX12_writesTerm_113 : decode cX12_writesTerm 113 = .ok (.iload_n 1, 1) := by decide +kernel
theorem dX12_writesTerm_114 : decode cX12_writesTerm 114 = .ok (.iaload, 1) := by decide +kernel
theorem dX12_writesTerm_115 : decode cX12_writesTerm 115 = .ok (.ifCond .le 9, 3) := by decide +kernel
theorem dX12_writesTerm_118 : decode cX12_writesTerm 118 = .ok (.aload_n 0, 1) := by decide +kernel
theorem dX12_writesTerm_119 : decode cX12_writesTerm 119 = .ok (.bipush 42, 2) := by decide +kernel
theorem dX12_writesTerm_121 : decode cX12_writesTerm 121 = .ok (.invokevirtual 316, 3) := by decide +kernel
theorem dX12_writesTerm_124 : decode cX12_writesTerm 124 = .ok (.aload_n 0, 1) := by decide +kernel
theorem dX12_writesTerm_125 : decode cX12_writesTerm 125 = .ok (.bipush 100, 2) := by decide +kernel
theorem dX12_writesTerm_127 : decode cX12_writesTerm 127 = .ok (.aload_n 0, 1) := by decide +kernel
theorem dX12_writesTerm_128 : decode cX12_writesTerm 128 = .ok (.getfield 28, 3) := by decide +kernel
theorem dX12_writesTerm_131 : decode cX12_writesTerm 131 = .ok (.iload_n 1, 1) := by decide +kernel
theorem dX12_writesTerm_132 : decode cX12_writesTerm 132 = .ok (.iaload, 1) := by decide +kernel
theorem dX12_writesTerm_133 : decode cX12_writesTerm 133 = .ok (.invokevirtual 322, 3) := by decide +kernel
theorem dX12_writesTerm_136 : decode cX12_writesTerm 136 = .ok (.return_, 1) := by decide +kernel
theorem dX12_laysLine_0 : decode cX12_laysLine 0 = .ok (.aload_n 0, 1) := by decide +kernel
theorem dX12_laysLine_1 : decode cX12_laysLine 1 = .ok (.iconst 0, 1) := by decide +kernel
theorem dX12_laysLine_2 : decode cX12_laysLine 2 = .ok (.putfield 313, 3) := by decide +kernel
theorem dX12_laysLine_5 : decode cX12_laysLine 5 = .ok (.bipush 12, 2) := by decide +kernel
theorem dX12_laysLine_7 : decode cX12_laysLine 7 = .ok (.istore_n 2, 1) := by decide +kernel
theorem dX12_laysLine_8 : decode cX12_laysLine 8 = .ok (.iload_n 2, 1) := by decide +kernel
theorem dX12_laysLine_9 : decode cX12_laysLine 9 = .ok (.ifCond .lt 60, 3) := by decide +kernel
theorem dX12_laysLine_12 : decode cX12_laysLine 12 = .ok (.iconst 0, 1) := by decide +kernel
theorem dX12_laysLine_13 : decode cX12_laysLine 13 = .ok (.istore_n 3, 1) := by decide +kernel
theorem dX12_laysLine_14 : decode cX12_laysLine 14 = .ok (.iload_n 3, 1) := by decide +kernel
theorem dX12_laysLine_15 : decode cX12_laysLine 15 = .ok (.iload_n 2, 1) := by decide +kernel
theorem dX12_laysLine_16 : decode cX12_laysLine 16 = .ok (.if_icmp .gt 47, 3) := by decide +kernel
theorem dX12_laysLine_19 : decode cX12_laysLine 19 = .ok (.aload_n 0, 1) := by decide +kernel
theorem dX12_laysLine_20 : decode cX12_laysLine 20 = .ok (.iload_n 2, 1) := by decide +kernel
theorem dX12_laysLine_21 : decode cX12_laysLine 21 = .ok (.iload_n 3, 1) := by decide +kernel
theorem dX12_laysLine_22 : decode cX12_laysLine 22 = .ok (.invokevirtual 92, 3) := by decide +kernel
theorem dX12_laysLine_25 : decode cX12_laysLine 25 = .ok (.istore 4, 2) := by decide +kernel
theorem dX12_laysLine_27 : decode cX12_laysLine 27 = .ok (.aload_n 0, 1) := by decide +kernel
theorem dX12_laysLine_28 : decode cX12_laysLine 28 = .ok (.getfield 7, 3) := by decide +kernel
theorem dX12_laysLine_31 : decode cX12_laysLine 31 = .ok (.bipush 91, 2) := by decide +kernel
theorem dX12_laysLine_33 : decode cX12_laysLine 33 = .ok (.iload_n 1, 1) := by decide +kernel
theorem dX12_laysLine_34 : decode cX12_laysLine 34 = .ok (.imul, 1) := by decide +kernel
theorem dX12_laysLine_35 : decode cX12_laysLine 35 = .ok (.iload 4, 2) := by decide +kernel
theorem dX12_laysLine_37 : decode cX12_laysLine 37 = .ok (.iadd, 1) := by decide +kernel
theorem dX12_laysLine_38 : decode cX12_laysLine 38 = .ok (.iaload, 1) := by decide +kernel
theorem dX12_laysLine_39 : decode cX12_laysLine 39 = .ok (.istore 5, 2) := by decide +kernel
theorem dX12_laysLine_41 : decode cX12_laysLine 41 = .ok (.iload 5, 2) := by decide +kernel
theorem dX12_laysLine_43 : decode cX12_laysLine 43 = .ok (.ifCond .eq 14, 3) := by decide +kernel
theorem dX12_laysLine_46 : decode cX12_laysLine 46 = .ok (.aload_n 0, 1) := by decide +kernel
theorem dX12_laysLine_47 : decode cX12_laysLine 47 = .ok (.iload 4, 2) := by decide +kernel
theorem dX12_laysLine_49 : decode cX12_laysLine 49 = .ok (.iload 5, 2) := by decide +kernel
theorem dX12_laysLine_51 : decode cX12_laysLine 51 = .ok (.invokestatic 125, 3) := by decide +kernel
theorem dX12_laysLine_54 : decode cX12_laysLine 54 = .ok (.invokevirtual 325, 3) := by decide +kernel
theorem dX12_laysLine_57 : decode cX12_laysLine 57 = .ok (.iinc 3 1, 3) := by decide +kernel
theorem dX12_laysLine_60 : decode cX12_laysLine 60 = .ok (.goto (-46), 3) := by decide +kernel
theorem dX12_laysLine_63 : decode cX12_laysLine 63 = .ok (.iinc 2 (-1), 3) := by decide +kernel
theorem dX12_laysLine_66 : decode cX12_laysLine 66 = .ok (.goto (-58), 3) := by decide +kernel
theorem dX12_laysLine_69 : decode cX12_laysLine 69 = .ok (.aload_n 0, 1) := by decide +kernel
theorem dX12_laysLine_70 : decode cX12_laysLine 70 = .ok (.getfield 313, 3) := by decide +kernel
theorem dX12_laysLine_73 : decode cX12_laysLine 73 = .ok (.ifCond .ne 9, 3) := by decide +kernel
theorem dX12_laysLine_76 : decode cX12_laysLine 76 = .ok (.aload_n 0, 1) := by decide +kernel
theorem dX12_laysLine_77 : decode cX12_laysLine 77 = .ok (.bipush 48, 2) := by decide +kernel
theorem dX12_laysLine_79 : decode cX12_laysLine 79 = .ok (.invokevirtual 316, 3) := by decide +kernel
theorem dX12_laysLine_82 : decode cX12_laysLine 82 = .ok (.return_, 1) := by decide +kernel
theorem dX12_shown_0 : decode cX12_shown 0 = .ok (.iload_n 1, 1) := by decide +kernel
theorem dX12_shown_1 : decode cX12_shown 1 = .ok (.invokestatic 111, 3) := by decide +kernel
theorem dX12_shown_4 : decode cX12_shown 4 = .ok (.ifCond .eq 7, 3) := by decide +kernel
theorem dX12_shown_7 : decode cX12_shown 7 = .ok (.iload_n 2, 1) := by decide +kernel
theorem dX12_shown_8 : decode cX12_shown 8 = .ok (.ifCond .ge 8, 3) := by decide +kernel
theorem dX12_shown_11 : decode cX12_shown 11 = .ok (.aload_n 0, 1) := by decide +kernel
theorem dX12_shown_12 : decode cX12_shown 12 = .ok (.invokevirtual 119, 3) := by decide +kernel
theorem dX12_shown_15 : decode cX12_shown 15 = .ok (.ireturn, 1) := by decide +kernel
theorem dX12_shown_16 : decode cX12_shown 16 = .ok (.aload_n 0, 1) := by decide +kernel
theorem dX12_shown_17 : decode cX12_shown 17 = .ok (.iload_n 1, 1) := by decide +kernel
theorem dX12_shown_18 : decode cX12_shown 18 = .ok (.invokevirtual 328, 3) := by decide +kernel
theorem dX12_shown_21 : decode cX12_shown 21 = .ok (.iload_n 2, 1) := by decide +kernel
theorem dX12_shown_22 : decode cX12_shown 22 = .ok (.aload_n 0, 1) := by decide +kernel
theorem dX12_shown_23 : decode cX12_shown 23 = .ok (.getfield 313, 3) := by decide +kernel
theorem dX12_shown_26 : decode cX12_shown 26 = .ok (.if_icmp .ge 12, 3) := by decide +kernel
theorem dX12_shown_29 : decode cX12_shown 29 = .ok (.aload_n 0, 1) := by decide +kernel
theorem dX12_shown_30 : decode cX12_shown 30 = .ok (.getfield 56, 3) := by decide +kernel
theorem dX12_shown_33 : decode cX12_shown 33 = .ok (.iload_n 2, 1) := by decide +kernel
theorem dX12_shown_34 : decode cX12_shown 34 = .ok (.iaload, 1) := by decide +kernel
theorem dX12_shown_35 : decode cX12_shown 35 = .ok (.goto 6, 3) := by decide +kernel
theorem dX12_shown_38 : decode cX12_shown 38 = .ok (.sipush (-20001), 3) := by decide +kernel
theorem dX12_shown_41 : decode cX12_shown 41 = .ok (.ireturn, 1) := by decide +kernel
theorem dX12_toldOf_0 : decode cX12_toldOf 0 = .ok (.iload_n 1, 1) := by decide +kernel
theorem dX12_toldOf_1 : decode cX12_toldOf 1 = .ok (.iconst 3, 1) := by decide +kernel
theorem dX12_toldOf_2 : decode cX12_toldOf 2 = .ok (.if_icmp .ge 12, 3) := by decide +kernel
theorem dX12_toldOf_5 : decode cX12_toldOf 5 = .ok (.aload_n 0, 1) := by decide +kernel
theorem dX12_toldOf_6 : decode cX12_toldOf 6 = .ok (.getfield 16, 3) := by decide +kernel
theorem dX12_toldOf_9 : decode cX12_toldOf 9 = .ok (.iload_n 1, 1) := by decide +kernel
theorem dX12_toldOf_10 : decode cX12_toldOf 10 = .ok (.iaload, 1) := by decide +kernel
theorem dX12_toldOf_11 : decode cX12_toldOf 11 = .ok (.goto 35, 3) := by decide +kernel
theorem dX12_toldOf_14 : decode cX12_toldOf 14 = .ok (.iload_n 1, 1) := by decide +kernel
theorem dX12_toldOf_15 : decode cX12_toldOf 15 = .ok (.iconst 3, 1) := by decide +kernel
theorem dX12_toldOf_16 : decode cX12_toldOf 16 = .ok (.if_icmp .ne 10, 3) := by decide +kernel
theorem dX12_toldOf_19 : decode cX12_toldOf 19 = .ok (.aload_n 0, 1) := by decide +kernel
theorem dX12_toldOf_20 : decode cX12_toldOf 20 = .ok (.getfield 248, 3) := by decide +kernel
theorem dX12_toldOf_23 : decode cX12_toldOf 23 = .ok (.goto 23, 3) := by decide +kernel
theorem dX12_toldOf_26 : decode cX12_toldOf 26 = .ok (.iload_n 1, 1) := by decide +kernel
theorem dX12_toldOf_27 : decode cX12_toldOf 27 = .ok (.iconst 4, 1) := by decide +kernel
theorem dX12_toldOf_28 : decode cX12_toldOf 28 = .ok (.if_icmp .ne 14, 3) := by decide +kernel
theorem dX12_toldOf_31 : decode cX12_toldOf 31 = .ok (.aload_n 0, 1) := by decide +kernel
theorem dX12_toldOf_32 : decode cX12_toldOf 32 = .ok (.getfield 7, 3) := by decide +kernel
theorem dX12_toldOf_35 : decode cX12_toldOf 35 = .ok (.sipush 608, 3) := by decide +kernel
theorem dX12_toldOf_38 : decode cX12_toldOf 38 = .ok (.iaload, 1) := by decide +kernel
theorem dX12_toldOf_39 : decode cX12_toldOf 39 = .ok (.goto 7, 3) := by decide +kernel
theorem dX12_toldOf_42 : decode cX12_toldOf 42 = .ok (.aload_n 0, 1) := by decide +kernel
theorem dX12_toldOf_43 : decode cX12_toldOf 43 = .ok (.getfield 67, 3) := by decide +kernel
theorem dX12_toldOf_46 : decode cX12_toldOf 46 = .ok (.ireturn, 1) := by decide +kernel
theorem dX12_told_0 : decode cX12_told 0 = .ok (.iload_n 1, 1) := by decide +kernel
theorem dX12_told_1 : decode cX12_told 1 = .ok (.iconst 0, 1) := by decide +kernel
theorem dX12_told_2 : decode cX12_told 2 = .ok (.iconst 5, 1) := by decide +kernel
theorem dX12_told_3 : decode cX12_told 3 = .ok (.invokestatic 74, 3) := by decide +kernel
theorem dX12_told_6 : decode cX12_told 6 = .ok (.ifCond .eq 11, 3) := by decide +kernel
theorem dX12_told_9 : decode cX12_told 9 = .ok (.aload_n 0, 1) := by decide +kernel
theorem dX12_told_10 : decode cX12_told 10 = .ok (.iload_n 1, 1) := by decide +kernel
theorem dX12_told_11 : decode cX12_told 11 = .ok (.invokevirtual 331, 3) := by decide +kernel
theorem dX12_told_14 : decode cX12_told 14 = .ok (.goto 7, 3) := by decide +kernel
theorem dX12_told_17 : decode cX12_told 17 = .ok (.aload_n 0, 1) := by decide +kernel
theorem dX12_told_18 : decode cX12_told 18 = .ok (.invokevirtual 119, 3) := by decide +kernel
theorem dX12_told_21 : decode cX12_told 21 = .ok (.ireturn, 1) := by decide +kernel
theorem dX12_mix_0 : decode cX12_mix 0 = .ok (.aload_n 0, 1) := by decide +kernel
theorem dX12_mix_1 : decode cX12_mix 1 = .ok (.ldc2_w 334, 3) := by decide +kernel
theorem dX12_mix_4 : decode cX12_mix 4 = .ok (.aload_n 0, 1) := by decide +kernel
theorem dX12_mix_5 : decode cX12_mix 5 = .ok (.getfield 336, 3) := by decide +kernel
theorem dX12_mix_8 : decode cX12_mix 8 = .ok (.lmul, 1) := by decide +kernel
theorem dX12_mix_9 : decode cX12_mix 9 = .ok (.lload_n 1, 1) := by decide +kernel
theorem dX12_mix_10 : decode cX12_mix 10 = .ok (.ladd, 1) := by decide +kernel
theorem dX12_mix_11 : decode cX12_mix 11 = .ok (.putfield 336, 3) := by decide +kernel
theorem dX12_mix_14 : decode cX12_mix 14 = .ok (.return_, 1) := by decide +kernel
theorem dX12_digest_0 : decode cX12_digest 0 = .ok (.aload_n 0, 1) := by decide +kernel
theorem dX12_digest_1 : decode cX12_digest 1 = .ok (.ldc2_w 340, 3) := by decide +kernel
theorem dX12_digest_4 : decode cX12_digest 4 = .ok (.putfield 336, 3) := by decide +kernel
theorem dX12_digest_7 : decode cX12_digest 7 = .ok (.iconst 0, 1) := by decide +kernel
theorem dX12_digest_8 : decode cX12_digest 8 = .ok (.istore_n 1, 1) := by decide +kernel
theorem dX12_digest_9 : decode cX12_digest 9 = .ok (.iload_n 1, 1) := by decide +kernel
theorem dX12_digest_10 : decode cX12_digest 10 = .ok (.bipush 6, 2) := by decide +kernel
theorem dX12_digest_12 : decode cX12_digest 12 = .ok (.if_icmp .ge 19, 3) := by decide +kernel
theorem dX12_digest_15 : decode cX12_digest 15 = .ok (.aload_n 0, 1) := by decide +kernel
theorem dX12_digest_16 : decode cX12_digest 16 = .ok (.aload_n 0, 1) := by decide +kernel
theorem dX12_digest_17 : decode cX12_digest 17 = .ok (.iload_n 1, 1) := by decide +kernel
theorem dX12_digest_18 : decode cX12_digest 18 = .ok (.invokevirtual 331, 3) := by decide +kernel
theorem dX12_digest_21 : decode cX12_digest 21 = .ok (.i2l, 1) := by decide +kernel
theorem dX12_digest_22 : decode cX12_digest 22 = .ok (.invokevirtual 342, 3) := by decide +kernel
theorem dX12_digest_25 : decode cX12_digest 25 = .ok (.iinc 1 1, 3) := by decide +kernel
theorem dX12_digest_28 : decode cX12_digest 28 = .ok (.goto (-19), 3) := by decide +kernel
theorem dX12_digest_31 : decode cX12_digest 31 = .ok (.iconst 0, 1) := by decide +kernel
theorem dX12_digest_32 : decode cX12_digest 32 = .ok (.istore_n 1, 1) := by decide +kernel
theorem dX12_digest_33 : decode cX12_digest 33 = .ok (.iload_n 1, 1) := by decide +kernel
theorem dX12_digest_34 : decode cX12_digest 34 = .ok (.bipush 6, 2) := by decide +kernel
theorem dX12_digest_36 : decode cX12_digest 36 = .ok (.if_icmp .ge 67, 3) := by decide +kernel
theorem dX12_digest_39 : decode cX12_digest 39 = .ok (.iconst 0, 1) := by decide +kernel
theorem dX12_digest_40 : decode cX12_digest 40 = .ok (.istore_n 2, 1) := by decide +kernel
theorem dX12_digest_41 : decode cX12_digest 41 = .ok (.iload_n 2, 1) := by decide +kernel
theorem dX12_digest_42 : decode cX12_digest 42 = .ok (.bipush 9, 2) := by decide +kernel
theorem dX12_digest_44 : decode cX12_digest 44 = .ok (.if_icmp .ge 20, 3) := by decide +kernel
theorem dX12_digest_47 : decode cX12_digest 47 = .ok (.aload_n 0, 1) := by decide +kernel
theorem dX12_digest_48 : decode cX12_digest 48 = .ok (.aload_n 0, 1) := by decide +kernel
theorem dX12_digest_49 : decode cX12_digest 49 = .ok (.iload_n 1, 1) := by decide +kernel
theorem dX12_digest_50 : decode cX12_digest 50 = .ok (.iload_n 2, 1) := by decide +kernel
theorem dX12_digest_51 : decode cX12_digest 51 = .ok (.invokevirtual 159, 3) := by decide +kernel
theorem dX12_digest_54 : decode cX12_digest 54 = .ok (.i2l, 1) := by decide +kernel
theorem dX12_digest_55 : decode cX12_digest 55 = .ok (.invokevirtual 342, 3) := by decide +kernel
theorem dX12_digest_58 : decode cX12_digest 58 = .ok (.iinc 2 1, 3) := by decide +kernel
theorem dX12_digest_61 : decode cX12_digest 61 = .ok (.goto (-20), 3) := by decide +kernel
theorem dX12_digest_64 : decode cX12_digest 64 = .ok (.iconst 0, 1) := by decide +kernel
theorem dX12_digest_65 : decode cX12_digest 65 = .ok (.istore_n 2, 1) := by decide +kernel
theorem dX12_digest_66 : decode cX12_digest 66 = .ok (.iload_n 2, 1) := by decide +kernel
theorem dX12_digest_67 : decode cX12_digest 67 = .ok (.bipush 91, 2) := by decide +kernel
theorem dX12_digest_69 : decode cX12_digest 69 = .ok (.if_icmp .ge 28, 3) := by decide +kernel
theorem dX12_digest_72 : decode cX12_digest 72 = .ok (.aload_n 0, 1) := by decide +kernel
theorem dX12_digest_73 : decode cX12_digest 73 = .ok (.aload_n 0, 1) := by decide +kernel
theorem dX12_digest_74 : decode cX12_digest 74 = .ok (.getfield 7, 3) := by decide +kernel
theorem dX12_digest_77 : decode cX12_digest 77 = .ok (.bipush 91, 2) := by decide +kernel
theorem dX12_digest_79 : decode cX12_digest 79 = .ok (.iload_n 1, 1) := by decide +kernel
theorem dX12_digest_80 : decode cX12_digest 80 = .ok (.imul, 1) := by decide +kernel
theorem dX12_digest_81 : decode cX12_digest 81 = .ok (.iload_n 2, 1) := by decide +kernel
theorem dX12_digest_82 : decode cX12_digest 82 = .ok (.iadd, 1) := by decide +kernel
theorem dX12_digest_83 : decode cX12_digest 83 = .ok (.iaload, 1) := by decide +kernel
theorem dX12_digest_84 : decode cX12_digest 84 = .ok (.invokestatic 125, 3) := by decide +kernel
theorem dX12_digest_87 : decode cX12_digest 87 = .ok (.i2l, 1) := by decide +kernel
theorem dX12_digest_88 : decode cX12_digest 88 = .ok (.invokevirtual 342, 3) := by decide +kernel
theorem dX12_digest_91 : decode cX12_digest 91 = .ok (.iinc 2 1, 3) := by decide +kernel
theorem dX12_digest_94 : decode cX12_digest 94 = .ok (.goto (-28), 3) := by decide +kernel
theorem dX12_digest_97 : decode cX12_digest 97 = .ok (.iinc 1 1, 3) := by decide +kernel
theorem dX12_digest_100 : decode cX12_digest 100 = .ok (.goto (-67), 3) := by decide +kernel
theorem dX12_digest_103 : decode cX12_digest 103 = .ok (.iconst 0, 1) := by decide +kernel
theorem dX12_digest_104 : decode cX12_digest 104 = .ok (.istore_n 1, 1) := by decide +kernel
theorem dX12_digest_105 : decode cX12_digest 105 = .ok (.iload_n 1, 1) := by decide +kernel
theorem dX12_digest_106 : decode cX12_digest 106 = .ok (.bipush 62, 2) := by decide +kernel
theorem dX12_digest_108 : decode cX12_digest 108 = .ok (.if_icmp .ge 27, 3) := by decide +kernel
theorem dX12_digest_111 : decode cX12_digest 111 = .ok (.aload_n 0, 1) := by decide +kernel
theorem dX12_digest_112 : decode cX12_digest 112 = .ok (.aload_n 0, 1) := by decide +kernel
theorem dX12_digest_113 : decode cX12_digest 113 = .ok (.getfield 7, 3) := by decide +kernel
theorem dX12_digest_116 : decode cX12_digest 116 = .ok (.sipush 546, 3) := by decide +kernel
theorem dX12_digest_119 : decode cX12_digest 119 = .ok (.iload_n 1, 1) := by decide +kernel
theorem dX12_digest_120 : decode cX12_digest 120 = .ok (.iadd, 1) := by decide +kernel
theorem dX12_digest_121 : decode cX12_digest 121 = .ok (.iaload, 1) := by decide +kernel
theorem dX12_digest_122 : decode cX12_digest 122 = .ok (.invokestatic 125, 3) := by decide +kernel
theorem dX12_digest_125 : decode cX12_digest 125 = .ok (.i2l, 1) := by decide +kernel
theorem dX12_digest_126 : decode cX12_digest 126 = .ok (.invokevirtual 342, 3) := by decide +kernel
theorem dX12_digest_129 : decode cX12_digest 129 = .ok (.iinc 1 1, 3) := by decide +kernel
theorem dX12_digest_132 : decode cX12_digest 132 = .ok (.goto (-27), 3) := by decide +kernel
theorem dX12_digest_135 : decode cX12_digest 135 = .ok (.aload_n 0, 1) := by decide +kernel
theorem dX12_digest_136 : decode cX12_digest 136 = .ok (.getfield 336, 3) := by decide +kernel
theorem dX12_digest_139 : decode cX12_digest 139 = .ok (.lreturn, 1) := by decide +kernel
theorem dJ9_floorMod_7cf53_0 : decode cJ9_floorMod_7cf53 0 = .ok (.iload_n 0, 1) := by decide +kernel
theorem dJ9_floorMod_7cf53_1 : decode cJ9_floorMod_7cf53 1 = .ok (.iload_n 1, 1) := by decide +kernel
theorem dJ9_floorMod_7cf53_2 : decode cJ9_floorMod_7cf53 2 = .ok (.irem, 1) := by decide +kernel
theorem dJ9_floorMod_7cf53_3 : decode cJ9_floorMod_7cf53 3 = .ok (.istore_n 2, 1) := by decide +kernel
theorem dJ9_floorMod_7cf53_4 : decode cJ9_floorMod_7cf53 4 = .ok (.iload_n 0, 1) := by decide +kernel
theorem dJ9_floorMod_7cf53_5 : decode cJ9_floorMod_7cf53 5 = .ok (.iload_n 1, 1) := by decide +kernel
theorem dJ9_floorMod_7cf53_6 : decode cJ9_floorMod_7cf53 6 = .ok (.ixor, 1) := by decide +kernel
theorem dJ9_floorMod_7cf53_7 : decode cJ9_floorMod_7cf53 7 = .ok (.ifCond .ge 11, 3) := by decide +kernel
theorem dJ9_floorMod_7cf53_10 : decode cJ9_floorMod_7cf53 10 = .ok (.iload_n 2, 1) := by decide +kernel
theorem dJ9_floorMod_7cf53_11 : decode cJ9_floorMod_7cf53 11 = .ok (.ifCond .eq 7, 3) := by decide +kernel
theorem dJ9_floorMod_7cf53_14 : decode cJ9_floorMod_7cf53 14 = .ok (.iload_n 2, 1) := by decide +kernel
theorem dJ9_floorMod_7cf53_15 : decode cJ9_floorMod_7cf53 15 = .ok (.iload_n 1, 1) := by decide +kernel
theorem dJ9_floorMod_7cf53_16 : decode cJ9_floorMod_7cf53 16 = .ok (.iadd, 1) := by decide +kernel
theorem dJ9_floorMod_7cf53_17 : decode cJ9_floorMod_7cf53 17 = .ok (.ireturn, 1) := by decide +kernel
theorem dJ9_floorMod_7cf53_18 : decode cJ9_floorMod_7cf53 18 = .ok (.iload_n 2, 1) := by decide +kernel
theorem dJ9_floorMod_7cf53_19 : decode cJ9_floorMod_7cf53 19 = .ok (.ireturn, 1) := by decide +kernel
theorem dJ9_abs_0f7a4_0 : decode cJ9_abs_0f7a4 0 = .ok (.iload_n 0, 1) := by decide +kernel
theorem dJ9_abs_0f7a4_1 : decode cJ9_abs_0f7a4 1 = .ok (.ifCond .ge 8, 3) := by decide +kernel
theorem dJ9_abs_0f7a4_4 : decode cJ9_abs_0f7a4 4 = .ok (.iload_n 0, 1) := by decide +kernel
theorem dJ9_abs_0f7a4_5 : decode cJ9_abs_0f7a4 5 = .ok (.ineg, 1) := by decide +kernel
theorem dJ9_abs_0f7a4_6 : decode cJ9_abs_0f7a4 6 = .ok (.goto 4, 3) := by decide +kernel
theorem dJ9_abs_0f7a4_9 : decode cJ9_abs_0f7a4 9 = .ok (.iload_n 0, 1) := by decide +kernel
theorem dJ9_abs_0f7a4_10 : decode cJ9_abs_0f7a4 10 = .ok (.ireturn, 1) := by decide +kernel
theorem dJ9_max_7cf53_0 : decode cJ9_max_7cf53 0 = .ok (.iload_n 0, 1) := by decide +kernel
theorem dJ9_max_7cf53_1 : decode cJ9_max_7cf53 1 = .ok (.iload_n 1, 1) := by decide +kernel
theorem dJ9_max_7cf53_2 : decode cJ9_max_7cf53 2 = .ok (.if_icmp .lt 7, 3) := by decide +kernel
theorem dJ9_max_7cf53_5 : decode cJ9_max_7cf53 5 = .ok (.iload_n 0, 1) := by decide +kernel
theorem dJ9_max_7cf53_6 : decode cJ9_max_7cf53 6 = .ok (.goto 4, 3) := by decide +kernel
theorem dJ9_max_7cf53_9 : decode cJ9_max_7cf53 9 = .ok (.iload_n 1, 1) := by decide +kernel
theorem dJ9_max_7cf53_10 : decode cJ9_max_7cf53 10 = .ok (.ireturn, 1) := by decide +kernel
theorem dJ9_min_7cf53_0 : decode cJ9_min_7cf53 0 = .ok (.iload_n 0, 1) := by decide +kernel
theorem dJ9_min_7cf53_1 : decode cJ9_min_7cf53 1 = .ok (.iload_n 1, 1) := by decide +kernel
theorem dJ9_min_7cf53_2 : decode cJ9_min_7cf53 2 = .ok (.if_icmp .gt 7, 3) := by decide +kernel
theorem dJ9_min_7cf53_5 : decode cJ9_min_7cf53 5 = .ok (.iload_n 0, 1) := by decide +kernel
theorem dJ9_min_7cf53_6 : decode cJ9_min_7cf53 6 = .ok (.goto 4, 3) := by decide +kernel
theorem dJ9_min_7cf53_9 : decode cJ9_min_7cf53 9 = .ok (.iload_n 1, 1) := by decide +kernel
theorem dJ9_min_7cf53_10 : decode cJ9_min_7cf53 10 = .ok (.ireturn, 1) := by decide +kernel
theorem dJ7_fill_53178_0 : decode cJ7_fill_53178 0 = .ok (.iconst 0, 1) := by decide +kernel
theorem dJ7_fill_53178_1 : decode cJ7_fill_53178 1 = .ok (.istore_n 2, 1) := by decide +kernel
theorem dJ7_fill_53178_2 : decode cJ7_fill_53178 2 = .ok (.aload_n 0, 1) := by decide +kernel
theorem dJ7_fill_53178_3 : decode cJ7_fill_53178 3 = .ok (.arraylength, 1) := by decide +kernel
theorem dJ7_fill_53178_4 : decode cJ7_fill_53178 4 = .ok (.istore_n 3, 1) := by decide +kernel
theorem dJ7_fill_53178_5 : decode cJ7_fill_53178 5 = .ok (.iload_n 2, 1) := by decide +kernel
theorem dJ7_fill_53178_6 : decode cJ7_fill_53178 6 = .ok (.iload_n 3, 1) := by decide +kernel
theorem dJ7_fill_53178_7 : decode cJ7_fill_53178 7 = .ok (.if_icmp .ge 13, 3) := by decide +kernel
theorem dJ7_fill_53178_10 : decode cJ7_fill_53178 10 = .ok (.aload_n 0, 1) := by decide +kernel
theorem dJ7_fill_53178_11 : decode cJ7_fill_53178 11 = .ok (.iload_n 2, 1) := by decide +kernel
theorem dJ7_fill_53178_12 : decode cJ7_fill_53178 12 = .ok (.iload_n 1, 1) := by decide +kernel
theorem dJ7_fill_53178_13 : decode cJ7_fill_53178 13 = .ok (.iastore, 1) := by decide +kernel
theorem dJ7_fill_53178_14 : decode cJ7_fill_53178 14 = .ok (.iinc 2 1, 3) := by decide +kernel
theorem dJ7_fill_53178_17 : decode cJ7_fill_53178 17 = .ok (.goto (-12), 3) := by decide +kernel
theorem dJ7_fill_53178_20 : decode cJ7_fill_53178 20 = .ok (.return_, 1) := by decide +kernel
theorem dL_law_0 : decode cL_law 0 = .ok (.new 7, 3) := by decide +kernel
theorem dL_law_3 : decode cL_law 3 = .ok (.dup, 1) := by decide +kernel
theorem dL_law_4 : decode cL_law 4 = .ok (.invokespecial 9, 3) := by decide +kernel
theorem dL_law_7 : decode cL_law 7 = .ok (.astore_n 1, 1) := by decide +kernel
theorem dL_law_8 : decode cL_law 8 = .ok (.new 10, 3) := by decide +kernel
theorem dL_law_11 : decode cL_law 11 = .ok (.dup, 1) := by decide +kernel
theorem dL_law_12 : decode cL_law 12 = .ok (.invokespecial 12, 3) := by decide +kernel
theorem dL_law_15 : decode cL_law 15 = .ok (.astore_n 2, 1) := by decide +kernel
theorem dL_law_16 : decode cL_law 16 = .ok (.iconst 0, 1) := by decide +kernel
theorem dL_law_17 : decode cL_law 17 = .ok (.istore_n 3, 1) := by decide +kernel
theorem dL_law_18 : decode cL_law 18 = .ok (.iload_n 3, 1) := by decide +kernel
theorem dL_law_19 : decode cL_law 19 = .ok (.aload_n 0, 1) := by decide +kernel
theorem dL_law_20 : decode cL_law 20 = .ok (.arraylength, 1) := by decide +kernel
theorem dL_law_21 : decode cL_law 21 = .ok (.bipush 6, 2) := by decide +kernel
theorem dL_law_23 : decode cL_law 23 = .ok (.isub, 1) := by decide +kernel
theorem dL_law_24 : decode cL_law 24 = .ok (.if_icmp .gt 1023, 3) := by decide +kernel
theorem dL_law_27 : decode cL_law 27 = .ok (.aload_n 0, 1) := by decide +kernel
theorem dL_law_28 : decode cL_law 28 = .ok (.iload_n 3, 1) := by decide +kernel
theorem dL_law_29 : decode cL_law 29 = .ok (.iaload, 1) := by decide +kernel
theorem dL_law_30 : decode cL_law 30 = .ok (.bipush 31, 2) := by decide +kernel
theorem dL_law_32 : decode cL_law 32 = .ok (.iand, 1) := by decide +kernel
theorem dL_law_33 : decode cL_law 33 = .ok (.tableswitch 1008 0 25 #[119, 172, 215, 278, 321, 364, 407, 440, 473, 496, 539, 572, 615, 648, 681, 724, 747, 800, 833, 866, 889, 902, 925, 958, 971, 994], 119) := by decide +kernel
theorem dL_law_152 : decode cL_law 152 = .ok (.aload_n 1, 1) := by decide +kernel
theorem dL_law_153 : decode cL_law 153 = .ok (.aload_n 0, 1) := by decide +kernel
theorem dL_law_154 : decode cL_law 154 = .ok (.iload_n 3, 1) := by decide +kernel
theorem dL_law_155 : decode cL_law 155 = .ok (.iconst 1, 1) := by decide +kernel
theorem dL_law_156 : decode cL_law 156 = .ok (.iadd, 1) := by decide +kernel
theorem dL_law_157 : decode cL_law 157 = .ok (.iaload, 1) := by decide +kernel
theorem dL_law_158 : decode cL_law 158 = .ok (.aload_n 0, 1) := by decide +kernel
theorem dL_law_159 : decode cL_law 159 = .ok (.iload_n 3, 1) := by decide +kernel
theorem dL_law_160 : decode cL_law 160 = .ok (.iconst 2, 1) := by decide +kernel
theorem dL_law_161 : decode cL_law 161 = .ok (.iadd, 1) := by decide +kernel
theorem dL_law_162 : decode cL_law 162 = .ok (.iaload, 1) := by decide +kernel
theorem dL_law_163 : decode cL_law 163 = .ok (.aload_n 0, 1) := by decide +kernel
theorem dL_law_164 : decode cL_law 164 = .ok (.iload_n 3, 1) := by decide +kernel
theorem dL_law_165 : decode cL_law 165 = .ok (.iconst 3, 1) := by decide +kernel
theorem dL_law_166 : decode cL_law 166 = .ok (.iadd, 1) := by decide +kernel
theorem dL_law_167 : decode cL_law 167 = .ok (.iaload, 1) := by decide +kernel
theorem dL_law_168 : decode cL_law 168 = .ok (.aload_n 0, 1) := by decide +kernel
theorem dL_law_169 : decode cL_law 169 = .ok (.iload_n 3, 1) := by decide +kernel
theorem dL_law_170 : decode cL_law 170 = .ok (.iconst 4, 1) := by decide +kernel
theorem dL_law_171 : decode cL_law 171 = .ok (.iadd, 1) := by decide +kernel
theorem dL_law_172 : decode cL_law 172 = .ok (.iaload, 1) := by decide +kernel
theorem dL_law_173 : decode cL_law 173 = .ok (.invokevirtual 13, 3) := by decide +kernel
theorem dL_law_176 : decode cL_law 176 = .ok (.aload_n 2, 1) := by decide +kernel
theorem dL_law_177 : decode cL_law 177 = .ok (.aload_n 0, 1) := by decide +kernel
theorem dL_law_178 : decode cL_law 178 = .ok (.iload_n 3, 1) := by decide +kernel
theorem dL_law_179 : decode cL_law 179 = .ok (.iconst 1, 1) := by decide +kernel
theorem dL_law_180 : decode cL_law 180 = .ok (.iadd, 1) := by decide +kernel
theorem dL_law_181 : decode cL_law 181 = .ok (.iaload, 1) := by decide +kernel
theorem dL_law_182 : decode cL_law 182 = .ok (.aload_n 0, 1) := by decide +kernel
theorem dL_law_183 : decode cL_law 183 = .ok (.iload_n 3, 1) := by decide +kernel
theorem dL_law_184 : decode cL_law 184 = .ok (.iconst 2, 1) := by decide +kernel
theorem dL_law_185 : decode cL_law 185 = .ok (.iadd, 1) := by decide +kernel
theorem dL_law_186 : decode cL_law 186 = .ok (.iaload, 1) := by decide +kernel
theorem dL_law_187 : decode cL_law 187 = .ok (.aload_n 0, 1) := by decide +kernel
theorem dL_law_188 : decode cL_law 188 = .ok (.iload_n 3, 1) := by decide +kernel
theorem dL_law_189 : decode cL_law 189 = .ok (.iconst 3, 1) := by decide +kernel
theorem dL_law_190 : decode cL_law 190 = .ok (.iadd, 1) := by decide +kernel
theorem dL_law_191 : decode cL_law 191 = .ok (.iaload, 1) := by decide +kernel
theorem dL_law_192 : decode cL_law 192 = .ok (.aload_n 0, 1) := by decide +kernel
theorem dL_law_193 : decode cL_law 193 = .ok (.iload_n 3, 1) := by decide +kernel
theorem dL_law_194 : decode cL_law 194 = .ok (.iconst 4, 1) := by decide +kernel
theorem dL_law_195 : decode cL_law 195 = .ok (.iadd, 1) := by decide +kernel
theorem dL_law_196 : decode cL_law 196 = .ok (.iaload, 1) := by decide +kernel
theorem dL_law_197 : decode cL_law 197 = .ok (.invokevirtual 17, 3) := by decide +kernel
theorem dL_law_200 : decode cL_law 200 = .ok (.if_icmp .eq 841, 3) := by decide +kernel
theorem dL_law_203 : decode cL_law 203 = .ok (.iconst 0, 1) := by decide +kernel
theorem dL_law_204 : decode cL_law 204 = .ok (.ireturn, 1) := by decide +kernel
theorem dL_law_205 : decode cL_law 205 = .ok (.aload_n 1, 1) := by decide +kernel
theorem dL_law_206 : decode cL_law 206 = .ok (.aload_n 0, 1) := by decide +kernel
theorem dL_law_207 : decode cL_law 207 = .ok (.iload_n 3, 1) := by decide +kernel
theorem dL_law_208 : decode cL_law 208 = .ok (.iconst 1, 1) := by decide +kernel
theorem dL_law_209 : decode cL_law 209 = .ok (.iadd, 1) := by decide +kernel
theorem dL_law_210 : decode cL_law 210 = .ok (.iaload, 1) := by decide +kernel
theorem dL_law_211 : decode cL_law 211 = .ok (.aload_n 0, 1) := by decide +kernel
theorem dL_law_212 : decode cL_law 212 = .ok (.iload_n 3, 1) := by decide +kernel
theorem dL_law_213 : decode cL_law 213 = .ok (.iconst 2, 1) := by decide +kernel
theorem dL_law_214 : decode cL_law 214 = .ok (.iadd, 1) := by decide +kernel
theorem dL_law_215 : decode cL_law 215 = .ok (.iaload, 1) := by decide +kernel
theorem dL_law_216 : decode cL_law 216 = .ok (.aload_n 0, 1) := by decide +kernel
theorem dL_law_217 : decode cL_law 217 = .ok (.iload_n 3, 1) := by decide +kernel
theorem dL_law_218 : decode cL_law 218 = .ok (.iconst 3, 1) := by decide +kernel
theorem dL_law_219 : decode cL_law 219 = .ok (.iadd, 1) := by decide +kernel
theorem dL_law_220 : decode cL_law 220 = .ok (.iaload, 1) := by decide +kernel
theorem dL_law_221 : decode cL_law 221 = .ok (.invokevirtual 18, 3) := by decide +kernel
theorem dL_law_224 : decode cL_law 224 = .ok (.aload_n 2, 1) := by decide +kernel
theorem dL_law_225 : decode cL_law 225 = .ok (.aload_n 0, 1) := by decide +kernel
theorem dL_law_226 : decode cL_law 226 = .ok (.iload_n 3, 1) := by decide +kernel
theorem dL_law_227 : decode cL_law 227 = .ok (.iconst 1, 1) := by decide +kernel
theorem dL_law_228 : decode cL_law 228 = .ok (.iadd, 1) := by decide +kernel
theorem dL_law_229 : decode cL_law 229 = .ok (.iaload, 1) := by decide +kernel
theorem dL_law_230 : decode cL_law 230 = .ok (.aload_n 0, 1) := by decide +kernel
theorem dL_law_231 : decode cL_law 231 = .ok (.iload_n 3, 1) := by decide +kernel
theorem dL_law_232 : decode cL_law 232 = .ok (.iconst 2, 1) := by decide +kernel
theorem dL_law_233 : decode cL_law 233 = .ok (.iadd, 1) := by decide +kernel
theorem dL_law_234 : decode cL_law 234 = .ok (.iaload, 1) := by decide +kernel
theorem dL_law_235 : decode cL_law 235 = .ok (.aload_n 0, 1) := by decide +kernel
theorem dL_law_236 : decode cL_law 236 = .ok (.iload_n 3, 1) := by decide +kernel
theorem dL_law_237 : decode cL_law 237 = .ok (.iconst 3, 1) := by decide +kernel
theorem dL_law_238 : decode cL_law 238 = .ok (.iadd, 1) := by decide +kernel
theorem dL_law_239 : decode cL_law 239 = .ok (.iaload, 1) := by decide +kernel
theorem dL_law_240 : decode cL_law 240 = .ok (.invokevirtual 22, 3) := by decide +kernel
theorem dL_law_243 : decode cL_law 243 = .ok (.if_icmp .eq 798, 3) := by decide +kernel
theorem dL_law_246 : decode cL_law 246 = .ok (.iconst 0, 1) := by decide +kernel
theorem dL_law_247 : decode cL_law 247 = .ok (.ireturn, 1) := by decide +kernel
theorem dL_law_248 : decode cL_law 248 = .ok (.aload_n 1, 1) := by decide +kernel
theorem dL_law_249 : decode cL_law 249 = .ok (.aload_n 0, 1) := by decide +kernel
theorem dL_law_250 : decode cL_law 250 = .ok (.iload_n 3, 1) := by decide +kernel
theorem dL_law_251 : decode cL_law 251 = .ok (.iconst 1, 1) := by decide +kernel
theorem dL_law_252 : decode cL_law 252 = .ok (.iadd, 1) := by decide +kernel
theorem dL_law_253 : decode cL_law 253 = .ok (.iaload, 1) := by decide +kernel
theorem dL_law_254 : decode cL_law 254 = .ok (.aload_n 0, 1) := by decide +kernel
theorem dL_law_255 : decode cL_law 255 = .ok (.iload_n 3, 1) := by decide +kernel
theorem dL_law_256 : decode cL_law 256 = .ok (.iconst 2, 1) := by decide +kernel
theorem dL_law_257 : decode cL_law 257 = .ok (.iadd, 1) := by decide +kernel
theorem dL_law_258 : decode cL_law 258 = .ok (.iaload, 1) := by decide +kernel
theorem dL_law_259 : decode cL_law 259 = .ok (.aload_n 0, 1) := by decide +kernel
theorem dL_law_260 : decode cL_law 260 = .ok (.iload_n 3, 1) := by decide +kernel
theorem dL_law_261 : decode cL_law 261 = .ok (.iconst 3, 1) := by decide +kernel
theorem dL_law_262 : decode cL_law 262 = .ok (.iadd, 1) := by decide +kernel
theorem dL_law_263 : decode cL_law 263 = .ok (.iaload, 1) := by decide +kernel
theorem dL_law_264 : decode cL_law 264 = .ok (.aload_n 0, 1) := by decide +kernel
theorem dL_law_265 : decode cL_law 265 = .ok (.iload_n 3, 1) := by decide +kernel
theorem dL_law_266 : decode cL_law 266 = .ok (.iconst 4, 1) := by decide +kernel
theorem dL_law_267 : decode cL_law 267 = .ok (.iadd, 1) := by decide +kernel
theorem dL_law_268 : decode cL_law 268 = .ok (.iaload, 1) := by decide +kernel
theorem dL_law_269 : decode cL_law 269 = .ok (.aload_n 0, 1) := by decide +kernel
theorem dL_law_270 : decode cL_law 270 = .ok (.iload_n 3, 1) := by decide +kernel
theorem dL_law_271 : decode cL_law 271 = .ok (.iconst 5, 1) := by decide +kernel
theorem dL_law_272 : decode cL_law 272 = .ok (.iadd, 1) := by decide +kernel
theorem dL_law_273 : decode cL_law 273 = .ok (.iaload, 1) := by decide +kernel
theorem dL_law_274 : decode cL_law 274 = .ok (.invokevirtual 23, 3) := by decide +kernel
theorem dL_law_277 : decode cL_law 277 = .ok (.aload_n 2, 1) := by decide +kernel
theorem dL_law_278 : decode cL_law 278 = .ok (.aload_n 0, 1) := by decide +kernel
theorem dL_law_279 : decode cL_law 279 = .ok (.iload_n 3, 1) := by decide +kernel
theorem dL_law_280 : decode cL_law 280 = .ok (.iconst 1, 1) := by decide +kernel
theorem dL_law_281 : decode cL_law 281 = .ok (.iadd, 1) := by decide +kernel
theorem dL_law_282 : decode cL_law 282 = .ok (.iaload, 1) := by decide +kernel
theorem dL_law_283 : decode cL_law 283 = .ok (.aload_n 0, 1) := by decide +kernel
theorem dL_law_284 : decode cL_law 284 = .ok (.iload_n 3, 1) := by decide +kernel
theorem dL_law_285 : decode cL_law 285 = .ok (.iconst 2, 1) := by decide +kernel
theorem dL_law_286 : decode cL_law 286 = .ok (.iadd, 1) := by decide +kernel
theorem dL_law_287 : decode cL_law 287 = .ok (.iaload, 1) := by decide +kernel
theorem dL_law_288 : decode cL_law 288 = .ok (.aload_n 0, 1) := by decide +kernel
theorem dL_law_289 : decode cL_law 289 = .ok (.iload_n 3, 1) := by decide +kernel
theorem dL_law_290 : decode cL_law 290 = .ok (.iconst 3, 1) := by decide +kernel
theorem dL_law_291 : decode cL_law 291 = .ok (.iadd, 1) := by decide +kernel
theorem dL_law_292 : decode cL_law 292 = .ok (.iaload, 1) := by decide +kernel
theorem dL_law_293 : decode cL_law 293 = .ok (.aload_n 0, 1) := by decide +kernel
theorem dL_law_294 : decode cL_law 294 = .ok (.iload_n 3, 1) := by decide +kernel
theorem dL_law_295 : decode cL_law 295 = .ok (.iconst 4, 1) := by decide +kernel
theorem dL_law_296 : decode cL_law 296 = .ok (.iadd, 1) := by decide +kernel
theorem dL_law_297 : decode cL_law 297 = .ok (.iaload, 1) := by decide +kernel
theorem dL_law_298 : decode cL_law 298 = .ok (.aload_n 0, 1) := by decide +kernel
theorem dL_law_299 : decode cL_law 299 = .ok (.iload_n 3, 1) := by decide +kernel
theorem dL_law_300 : decode cL_law 300 = .ok (.iconst 5, 1) := by decide +kernel
theorem dL_law_301 : decode cL_law 301 = .ok (.iadd, 1) := by decide +kernel
theorem dL_law_302 : decode cL_law 302 = .ok (.iaload, 1) := by decide +kernel
theorem dL_law_303 : decode cL_law 303 = .ok (.invokevirtual 27, 3) := by decide +kernel
theorem dL_law_306 : decode cL_law 306 = .ok (.if_icmp .eq 735, 3) := by decide +kernel
theorem dL_law_309 : decode cL_law 309 = .ok (.iconst 0, 1) := by decide +kernel
theorem dL_law_310 : decode cL_law 310 = .ok (.ireturn, 1) := by decide +kernel
theorem dL_law_311 : decode cL_law 311 = .ok (.aload_n 1, 1) := by decide +kernel
theorem dL_law_312 : decode cL_law 312 = .ok (.aload_n 0, 1) := by decide +kernel
theorem dL_law_313 : decode cL_law 313 = .ok (.iload_n 3, 1) := by decide +kernel
theorem dL_law_314 : decode cL_law 314 = .ok (.iconst 1, 1) := by decide +kernel
theorem dL_law_315 : decode cL_law 315 = .ok (.iadd, 1) := by decide +kernel
theorem dL_law_316 : decode cL_law 316 = .ok (.iaload, 1) := by decide +kernel
theorem dL_law_317 : decode cL_law 317 = .ok (.aload_n 0, 1) := by decide +kernel
theorem dL_law_318 : decode cL_law 318 = .ok (.iload_n 3, 1) := by decide +kernel
theorem dL_law_319 : decode cL_law 319 = .ok (.iconst 2, 1) := by decide +kernel
theorem dL_law_320 : decode cL_law 320 = .ok (.iadd, 1) := by decide +kernel
theorem dL_law_321 : decode cL_law 321 = .ok (.iaload, 1) := by decide +kernel
theorem dL_law_322 : decode cL_law 322 = .ok (.aload_n 0, 1) := by decide +kernel
theorem dL_law_323 : decode cL_law 323 = .ok (.iload_n 3, 1) := by decide +kernel
theorem dL_law_324 : decode cL_law 324 = .ok (.iconst 3, 1) := by decide +kernel
theorem dL_law_325 : decode cL_law 325 = .ok (.iadd, 1) := by decide +kernel
theorem dL_law_326 : decode cL_law 326 = .ok (.iaload, 1) := by decide +kernel
theorem dL_law_327 : decode cL_law 327 = .ok (.invokevirtual 28, 3) := by decide +kernel
theorem dL_law_330 : decode cL_law 330 = .ok (.aload_n 2, 1) := by decide +kernel
theorem dL_law_331 : decode cL_law 331 = .ok (.aload_n 0, 1) := by decide +kernel
theorem dL_law_332 : decode cL_law 332 = .ok (.iload_n 3, 1) := by decide +kernel
theorem dL_law_333 : decode cL_law 333 = .ok (.iconst 1, 1) := by decide +kernel
theorem dL_law_334 : decode cL_law 334 = .ok (.iadd, 1) := by decide +kernel
theorem dL_law_335 : decode cL_law 335 = .ok (.iaload, 1) := by decide +kernel
theorem dL_law_336 : decode cL_law 336 = .ok (.aload_n 0, 1) := by decide +kernel
theorem dL_law_337 : decode cL_law 337 = .ok (.iload_n 3, 1) := by decide +kernel
theorem dL_law_338 : decode cL_law 338 = .ok (.iconst 2, 1) := by decide +kernel
theorem dL_law_339 : decode cL_law 339 = .ok (.iadd, 1) := by decide +kernel
theorem dL_law_340 : decode cL_law 340 = .ok (.iaload, 1) := by decide +kernel
theorem dL_law_341 : decode cL_law 341 = .ok (.aload_n 0, 1) := by decide +kernel
theorem dL_law_342 : decode cL_law 342 = .ok (.iload_n 3, 1) := by decide +kernel
theorem dL_law_343 : decode cL_law 343 = .ok (.iconst 3, 1) := by decide +kernel
theorem dL_law_344 : decode cL_law 344 = .ok (.iadd, 1) := by decide +kernel
theorem dL_law_345 : decode cL_law 345 = .ok (.iaload, 1) := by decide +kernel
theorem dL_law_346 : decode cL_law 346 = .ok (.invokevirtual 31, 3) := by decide +kernel
theorem dL_law_349 : decode cL_law 349 = .ok (.if_icmp .eq 692, 3) := by decide +kernel
theorem dL_law_352 : decode cL_law 352 = .ok (.iconst 0, 1) := by decide +kernel
theorem dL_law_353 : decode cL_law 353 = .ok (.ireturn, 1) := by decide +kernel
theorem dL_law_354 : decode cL_law 354 = .ok (.aload_n 1, 1) := by decide +kernel
theorem dL_law_355 : decode cL_law 355 = .ok (.aload_n 0, 1) := by decide +kernel
theorem dL_law_356 : decode cL_law 356 = .ok (.iload_n 3, 1) := by decide +kernel
theorem dL_law_357 : decode cL_law 357 = .ok (.iconst 1, 1) := by decide +kernel
theorem dL_law_358 : decode cL_law 358 = .ok (.iadd, 1) := by decide +kernel
theorem dL_law_359 : decode cL_law 359 = .ok (.iaload, 1) := by decide +kernel
theorem dL_law_360 : decode cL_law 360 = .ok (.aload_n 0, 1) := by decide +kernel
theorem dL_law_361 : decode cL_law 361 = .ok (.iload_n 3, 1) := by decide +kernel
theorem dL_law_362 : decode cL_law 362 = .ok (.iconst 2, 1) := by decide +kernel
theorem dL_law_363 : decode cL_law 363 = .ok (.iadd, 1) := by decide +kernel
theorem dL_law_364 : decode cL_law 364 = .ok (.iaload, 1) := by decide +kernel
theorem dL_law_365 : decode cL_law 365 = .ok (.aload_n 0, 1) := by decide +kernel
theorem dL_law_366 : decode cL_law 366 = .ok (.iload_n 3, 1) := by decide +kernel
theorem dL_law_367 : decode cL_law 367 = .ok (.iconst 3, 1) := by decide +kernel
theorem dL_law_368 : decode cL_law 368 = .ok (.iadd, 1) := by decide +kernel
theorem dL_law_369 : decode cL_law 369 = .ok (.iaload, 1) := by decide +kernel
theorem dL_law_370 : decode cL_law 370 = .ok (.invokevirtual 32, 3) := by decide +kernel
theorem dL_law_373 : decode cL_law 373 = .ok (.aload_n 2, 1) := by decide +kernel
theorem dL_law_374 : decode cL_law 374 = .ok (.aload_n 0, 1) := by decide +kernel
theorem dL_law_375 : decode cL_law 375 = .ok (.iload_n 3, 1) := by decide +kernel
theorem dL_law_376 : decode cL_law 376 = .ok (.iconst 1, 1) := by decide +kernel
theorem dL_law_377 : decode cL_law 377 = .ok (.iadd, 1) := by decide +kernel
theorem dL_law_378 : decode cL_law 378 = .ok (.iaload, 1) := by decide +kernel
theorem dL_law_379 : decode cL_law 379 = .ok (.aload_n 0, 1) := by decide +kernel
theorem dL_law_380 : decode cL_law 380 = .ok (.iload_n 3, 1) := by decide +kernel
theorem dL_law_381 : decode cL_law 381 = .ok (.iconst 2, 1) := by decide +kernel
theorem dL_law_382 : decode cL_law 382 = .ok (.iadd, 1) := by decide +kernel
theorem dL_law_383 : decode cL_law 383 = .ok (.iaload, 1) := by decide +kernel
theorem dL_law_384 : decode cL_law 384 = .ok (.aload_n 0, 1) := by decide +kernel
theorem dL_law_385 : decode cL_law 385 = .ok (.iload_n 3, 1) := by decide +kernel
theorem dL_law_386 : decode cL_law 386 = .ok (.iconst 3, 1) := by decide +kernel
theorem dL_law_387 : decode cL_law 387 = .ok (.iadd, 1) := by decide +kernel
theorem dL_law_388 : decode cL_law 388 = .ok (.iaload, 1) := by decide +kernel
theorem dL_law_389 : decode cL_law 389 = .ok (.invokevirtual 35, 3) := by decide +kernel
theorem dL_law_392 : decode cL_law 392 = .ok (.if_icmp .eq 649, 3) := by decide +kernel
theorem dL_law_395 : decode cL_law 395 = .ok (.iconst 0, 1) := by decide +kernel
theorem dL_law_396 : decode cL_law 396 = .ok (.ireturn, 1) := by decide +kernel
theorem dL_law_397 : decode cL_law 397 = .ok (.aload_n 1, 1) := by decide +kernel
theorem dL_law_398 : decode cL_law 398 = .ok (.aload_n 0, 1) := by decide +kernel
theorem dL_law_399 : decode cL_law 399 = .ok (.iload_n 3, 1) := by decide +kernel
theorem dL_law_400 : decode cL_law 400 = .ok (.iconst 1, 1) := by decide +kernel
theorem dL_law_401 : decode cL_law 401 = .ok (.iadd, 1) := by decide +kernel
theorem dL_law_402 : decode cL_law 402 = .ok (.iaload, 1) := by decide +kernel
theorem dL_law_403 : decode cL_law 403 = .ok (.aload_n 0, 1) := by decide +kernel
theorem dL_law_404 : decode cL_law 404 = .ok (.iload_n 3, 1) := by decide +kernel
theorem dL_law_405 : decode cL_law 405 = .ok (.iconst 2, 1) := by decide +kernel
theorem dL_law_406 : decode cL_law 406 = .ok (.iadd, 1) := by decide +kernel
theorem dL_law_407 : decode cL_law 407 = .ok (.iaload, 1) := by decide +kernel
theorem dL_law_408 : decode cL_law 408 = .ok (.aload_n 0, 1) := by decide +kernel
theorem dL_law_409 : decode cL_law 409 = .ok (.iload_n 3, 1) := by decide +kernel
theorem dL_law_410 : decode cL_law 410 = .ok (.iconst 3, 1) := by decide +kernel
theorem dL_law_411 : decode cL_law 411 = .ok (.iadd, 1) := by decide +kernel
theorem dL_law_412 : decode cL_law 412 = .ok (.iaload, 1) := by decide +kernel
theorem dL_law_413 : decode cL_law 413 = .ok (.invokevirtual 36, 3) := by decide +kernel
theorem dL_law_416 : decode cL_law 416 = .ok (.aload_n 2, 1) := by decide +kernel
theorem dL_law_417 : decode cL_law 417 = .ok (.aload_n 0, 1) := by decide +kernel
theorem dL_law_418 : decode cL_law 418 = .ok (.iload_n 3, 1) := by decide +kernel
theorem dL_law_419 : decode cL_law 419 = .ok (.iconst 1, 1) := by decide +kernel
theorem dL_law_420 : decode cL_law 420 = .ok (.iadd, 1) := by decide +kernel
theorem dL_law_421 : decode cL_law 421 = .ok (.iaload, 1) := by decide +kernel
theorem dL_law_422 : decode cL_law 422 = .ok (.aload_n 0, 1) := by decide +kernel
theorem dL_law_423 : decode cL_law 423 = .ok (.iload_n 3, 1) := by decide +kernel
theorem dL_law_424 : decode cL_law 424 = .ok (.iconst 2, 1) := by decide +kernel
theorem dL_law_425 : decode cL_law 425 = .ok (.iadd, 1) := by decide +kernel
theorem dL_law_426 : decode cL_law 426 = .ok (.iaload, 1) := by decide +kernel
theorem dL_law_427 : decode cL_law 427 = .ok (.aload_n 0, 1) := by decide +kernel
theorem dL_law_428 : decode cL_law 428 = .ok (.iload_n 3, 1) := by decide +kernel
theorem dL_law_429 : decode cL_law 429 = .ok (.iconst 3, 1) := by decide +kernel
theorem dL_law_430 : decode cL_law 430 = .ok (.iadd, 1) := by decide +kernel
theorem dL_law_431 : decode cL_law 431 = .ok (.iaload, 1) := by decide +kernel
theorem dL_law_432 : decode cL_law 432 = .ok (.invokevirtual 39, 3) := by decide +kernel
theorem dL_law_435 : decode cL_law 435 = .ok (.if_icmp .eq 606, 3) := by decide +kernel
theorem dL_law_438 : decode cL_law 438 = .ok (.iconst 0, 1) := by decide +kernel
theorem dL_law_439 : decode cL_law 439 = .ok (.ireturn, 1) := by decide +kernel
theorem dL_law_440 : decode cL_law 440 = .ok (.aload_n 1, 1) := by decide +kernel
theorem dL_law_441 : decode cL_law 441 = .ok (.aload_n 0, 1) := by decide +kernel
theorem dL_law_442 : decode cL_law 442 = .ok (.iload_n 3, 1) := by decide +kernel
theorem dL_law_443 : decode cL_law 443 = .ok (.iconst 1, 1) := by decide +kernel
theorem dL_law_444 : decode cL_law 444 = .ok (.iadd, 1) := by decide +kernel
theorem dL_law_445 : decode cL_law 445 = .ok (.iaload, 1) := by decide +kernel
theorem dL_law_446 : decode cL_law 446 = .ok (.aload_n 0, 1) := by decide +kernel
theorem dL_law_447 : decode cL_law 447 = .ok (.iload_n 3, 1) := by decide +kernel
theorem dL_law_448 : decode cL_law 448 = .ok (.iconst 2, 1) := by decide +kernel
theorem dL_law_449 : decode cL_law 449 = .ok (.iadd, 1) := by decide +kernel
theorem dL_law_450 : decode cL_law 450 = .ok (.iaload, 1) := by decide +kernel
theorem dL_law_451 : decode cL_law 451 = .ok (.invokevirtual 40, 3) := by decide +kernel
theorem dL_law_454 : decode cL_law 454 = .ok (.aload_n 2, 1) := by decide +kernel
theorem dL_law_455 : decode cL_law 455 = .ok (.aload_n 0, 1) := by decide +kernel
theorem dL_law_456 : decode cL_law 456 = .ok (.iload_n 3, 1) := by decide +kernel
theorem dL_law_457 : decode cL_law 457 = .ok (.iconst 1, 1) := by decide +kernel
theorem dL_law_458 : decode cL_law 458 = .ok (.iadd, 1) := by decide +kernel
theorem dL_law_459 : decode cL_law 459 = .ok (.iaload, 1) := by decide +kernel
theorem dL_law_460 : decode cL_law 460 = .ok (.aload_n 0, 1) := by decide +kernel
theorem dL_law_461 : decode cL_law 461 = .ok (.iload_n 3, 1) := by decide +kernel
theorem dL_law_462 : decode cL_law 462 = .ok (.iconst 2, 1) := by decide +kernel
theorem dL_law_463 : decode cL_law 463 = .ok (.iadd, 1) := by decide +kernel
theorem dL_law_464 : decode cL_law 464 = .ok (.iaload, 1) := by decide +kernel
theorem dL_law_465 : decode cL_law 465 = .ok (.invokevirtual 44, 3) := by decide +kernel
theorem dL_law_468 : decode cL_law 468 = .ok (.if_icmp .eq 573, 3) := by decide +kernel
theorem dL_law_471 : decode cL_law 471 = .ok (.iconst 0, 1) := by decide +kernel
theorem dL_law_472 : decode cL_law 472 = .ok (.ireturn, 1) := by decide +kernel
theorem dL_law_473 : decode cL_law 473 = .ok (.aload_n 1, 1) := by decide +kernel
theorem dL_law_474 : decode cL_law 474 = .ok (.aload_n 0, 1) := by decide +kernel
theorem dL_law_475 : decode cL_law 475 = .ok (.iload_n 3, 1) := by decide +kernel
theorem dL_law_476 : decode cL_law 476 = .ok (.iconst 1, 1) := by decide +kernel
theorem dL_law_477 : decode cL_law 477 = .ok (.iadd, 1) := by decide +kernel
theorem dL_law_478 : decode cL_law 478 = .ok (.iaload, 1) := by decide +kernel
theorem dL_law_479 : decode cL_law 479 = .ok (.aload_n 0, 1) := by decide +kernel
theorem dL_law_480 : decode cL_law 480 = .ok (.iload_n 3, 1) := by decide +kernel
theorem dL_law_481 : decode cL_law 481 = .ok (.iconst 2, 1) := by decide +kernel
theorem dL_law_482 : decode cL_law 482 = .ok (.iadd, 1) := by decide +kernel
theorem dL_law_483 : decode cL_law 483 = .ok (.iaload, 1) := by decide +kernel
theorem dL_law_484 : decode cL_law 484 = .ok (.invokevirtual 45, 3) := by decide +kernel
theorem dL_law_487 : decode cL_law 487 = .ok (.aload_n 2, 1) := by decide +kernel
theorem dL_law_488 : decode cL_law 488 = .ok (.aload_n 0, 1) := by decide +kernel
theorem dL_law_489 : decode cL_law 489 = .ok (.iload_n 3, 1) := by decide +kernel
theorem dL_law_490 : decode cL_law 490 = .ok (.iconst 1, 1) := by decide +kernel
theorem dL_law_491 : decode cL_law 491 = .ok (.iadd, 1) := by decide +kernel
theorem dL_law_492 : decode cL_law 492 = .ok (.iaload, 1) := by decide +kernel
theorem dL_law_493 : decode cL_law 493 = .ok (.aload_n 0, 1) := by decide +kernel
theorem dL_law_494 : decode cL_law 494 = .ok (.iload_n 3, 1) := by decide +kernel
theorem dL_law_495 : decode cL_law 495 = .ok (.iconst 2, 1) := by decide +kernel
theorem dL_law_496 : decode cL_law 496 = .ok (.iadd, 1) := by decide +kernel
theorem dL_law_497 : decode cL_law 497 = .ok (.iaload, 1) := by decide +kernel
theorem dL_law_498 : decode cL_law 498 = .ok (.invokevirtual 48, 3) := by decide +kernel
theorem dL_law_501 : decode cL_law 501 = .ok (.if_icmp .eq 540, 3) := by decide +kernel
theorem dL_law_504 : decode cL_law 504 = .ok (.iconst 0, 1) := by decide +kernel
theorem dL_law_505 : decode cL_law 505 = .ok (.ireturn, 1) := by decide +kernel
theorem dL_law_506 : decode cL_law 506 = .ok (.aload_n 1, 1) := by decide +kernel
theorem dL_law_507 : decode cL_law 507 = .ok (.aload_n 0, 1) := by decide +kernel
theorem dL_law_508 : decode cL_law 508 = .ok (.iload_n 3, 1) := by decide +kernel
theorem dL_law_509 : decode cL_law 509 = .ok (.iconst 1, 1) := by decide +kernel
theorem dL_law_510 : decode cL_law 510 = .ok (.iadd, 1) := by decide +kernel
theorem dL_law_511 : decode cL_law 511 = .ok (.iaload, 1) := by decide +kernel
theorem dL_law_512 : decode cL_law 512 = .ok (.invokevirtual 49, 3) := by decide +kernel
theorem dL_law_515 : decode cL_law 515 = .ok (.aload_n 2, 1) := by decide +kernel
theorem dL_law_516 : decode cL_law 516 = .ok (.aload_n 0, 1) := by decide +kernel
theorem dL_law_517 : decode cL_law 517 = .ok (.iload_n 3, 1) := by decide +kernel
theorem dL_law_518 : decode cL_law 518 = .ok (.iconst 1, 1) := by decide +kernel
theorem dL_law_519 : decode cL_law 519 = .ok (.iadd, 1) := by decide +kernel
theorem dL_law_520 : decode cL_law 520 = .ok (.iaload, 1) := by decide +kernel
theorem dL_law_521 : decode cL_law 521 = .ok (.invokevirtual 53, 3) := by decide +kernel
theorem dL_law_524 : decode cL_law 524 = .ok (.if_icmp .eq 517, 3) := by decide +kernel
theorem dL_law_527 : decode cL_law 527 = .ok (.iconst 0, 1) := by decide +kernel
theorem dL_law_528 : decode cL_law 528 = .ok (.ireturn, 1) := by decide +kernel
theorem dL_law_529 : decode cL_law 529 = .ok (.aload_n 1, 1) := by decide +kernel
theorem dL_law_530 : decode cL_law 530 = .ok (.aload_n 0, 1) := by decide +kernel
theorem dL_law_531 : decode cL_law 531 = .ok (.iload_n 3, 1) := by decide +kernel
theorem dL_law_532 : decode cL_law 532 = .ok (.iconst 1, 1) := by decide +kernel
theorem dL_law_533 : decode cL_law 533 = .ok (.iadd, 1) := by decide +kernel
theorem dL_law_534 : decode cL_law 534 = .ok (.iaload, 1) := by decide +kernel
theorem dL_law_535 : decode cL_law 535 = .ok (.aload_n 0, 1) := by decide +kernel
theorem dL_law_536 : decode cL_law 536 = .ok (.iload_n 3, 1) := by decide +kernel
theorem dL_law_537 : decode cL_law 537 = .ok (.iconst 2, 1) := by decide +kernel
theorem dL_law_538 : decode cL_law 538 = .ok (.iadd, 1) := by decide +kernel
theorem dL_law_539 : decode cL_law 539 = .ok (.iaload, 1) := by decide +kernel
theorem dL_law_540 : decode cL_law 540 = .ok (.aload_n 0, 1) := by decide +kernel
theorem dL_law_541 : decode cL_law 541 = .ok (.iload_n 3, 1) := by decide +kernel
theorem dL_law_542 : decode cL_law 542 = .ok (.iconst 3, 1) := by decide +kernel
theorem dL_law_543 : decode cL_law 543 = .ok (.iadd, 1) := by decide +kernel
theorem dL_law_544 : decode cL_law 544 = .ok (.iaload, 1) := by decide +kernel
theorem dL_law_545 : decode cL_law 545 = .ok (.invokevirtual 54, 3) := by decide +kernel
theorem dL_law_548 : decode cL_law 548 = .ok (.aload_n 2, 1) := by decide +kernel
theorem dL_law_549 : decode cL_law 549 = .ok (.aload_n 0, 1) := by decide +kernel
theorem dL_law_550 : decode cL_law 550 = .ok (.iload_n 3, 1) := by decide +kernel
theorem dL_law_551 : decode cL_law 551 = .ok (.iconst 1, 1) := by decide +kernel
theorem dL_law_552 : decode cL_law 552 = .ok (.iadd, 1) := by decide +kernel
theorem dL_law_553 : decode cL_law 553 = .ok (.iaload, 1) := by decide +kernel
theorem dL_law_554 : decode cL_law 554 = .ok (.aload_n 0, 1) := by decide +kernel
theorem dL_law_555 : decode cL_law 555 = .ok (.iload_n 3, 1) := by decide +kernel
theorem dL_law_556 : decode cL_law 556 = .ok (.iconst 2, 1) := by decide +kernel
theorem dL_law_557 : decode cL_law 557 = .ok (.iadd, 1) := by decide +kernel
theorem dL_law_558 : decode cL_law 558 = .ok (.iaload, 1) := by decide +kernel
theorem dL_law_559 : decode cL_law 559 = .ok (.aload_n 0, 1) := by decide +kernel
theorem dL_law_560 : decode cL_law 560 = .ok (.iload_n 3, 1) := by decide +kernel
theorem dL_law_561 : decode cL_law 561 = .ok (.iconst 3, 1) := by decide +kernel
theorem dL_law_562 : decode cL_law 562 = .ok (.iadd, 1) := by decide +kernel
theorem dL_law_563 : decode cL_law 563 = .ok (.iaload, 1) := by decide +kernel
theorem dL_law_564 : decode cL_law 564 = .ok (.invokevirtual 57, 3) := by decide +kernel
theorem dL_law_567 : decode cL_law 567 = .ok (.if_icmp .eq 474, 3) := by decide +kernel
theorem dL_law_570 : decode cL_law 570 = .ok (.iconst 0, 1) := by decide +kernel
theorem dL_law_571 : decode cL_law 571 = .ok (.ireturn, 1) := by decide +kernel
theorem dL_law_572 : decode cL_law 572 = .ok (.aload_n 1, 1) := by decide +kernel
theorem dL_law_573 : decode cL_law 573 = .ok (.aload_n 0, 1) := by decide +kernel
theorem dL_law_574 : decode cL_law 574 = .ok (.iload_n 3, 1) := by decide +kernel
theorem dL_law_575 : decode cL_law 575 = .ok (.iconst 1, 1) := by decide +kernel
theorem dL_law_576 : decode cL_law 576 = .ok (.iadd, 1) := by decide +kernel
theorem dL_law_577 : decode cL_law 577 = .ok (.iaload, 1) := by decide +kernel
theorem dL_law_578 : decode cL_law 578 = .ok (.aload_n 0, 1) := by decide +kernel
theorem dL_law_579 : decode cL_law 579 = .ok (.iload_n 3, 1) := by decide +kernel
theorem dL_law_580 : decode cL_law 580 = .ok (.iconst 2, 1) := by decide +kernel
theorem dL_law_581 : decode cL_law 581 = .ok (.iadd, 1) := by decide +kernel
theorem dL_law_582 : decode cL_law 582 = .ok (.iaload, 1) := by decide +kernel
theorem dL_law_583 : decode cL_law 583 = .ok (.invokevirtual 58, 3) := by decide +kernel
theorem dL_law_586 : decode cL_law 586 = .ok (.aload_n 2, 1) := by decide +kernel
theorem dL_law_587 : decode cL_law 587 = .ok (.aload_n 0, 1) := by decide +kernel
theorem dL_law_588 : decode cL_law 588 = .ok (.iload_n 3, 1) := by decide +kernel
theorem dL_law_589 : decode cL_law 589 = .ok (.iconst 1, 1) := by decide +kernel
theorem dL_law_590 : decode cL_law 590 = .ok (.iadd, 1) := by decide +kernel
theorem dL_law_591 : decode cL_law 591 = .ok (.iaload, 1) := by decide +kernel
theorem dL_law_592 : decode cL_law 592 = .ok (.aload_n 0, 1) := by decide +kernel
theorem dL_law_593 : decode cL_law 593 = .ok (.iload_n 3, 1) := by decide +kernel
theorem dL_law_594 : decode cL_law 594 = .ok (.iconst 2, 1) := by decide +kernel
theorem dL_law_595 : decode cL_law 595 = .ok (.iadd, 1) := by decide +kernel
theorem dL_law_596 : decode cL_law 596 = .ok (.iaload, 1) := by decide +kernel
theorem dL_law_597 : decode cL_law 597 = .ok (.invokevirtual 61, 3) := by decide +kernel
theorem dL_law_600 : decode cL_law 600 = .ok (.if_icmp .eq 441, 3) := by decide +kernel
theorem dL_law_603 : decode cL_law 603 = .ok (.iconst 0, 1) := by decide +kernel
theorem dL_law_604 : decode cL_law 604 = .ok (.ireturn, 1) := by decide +kernel
theorem dL_law_605 : decode cL_law 605 = .ok (.aload_n 1, 1) := by decide +kernel
theorem dL_law_606 : decode cL_law 606 = .ok (.aload_n 0, 1) := by decide +kernel
theorem dL_law_607 : decode cL_law 607 = .ok (.iload_n 3, 1) := by decide +kernel
theorem dL_law_608 : decode cL_law 608 = .ok (.iconst 1, 1) := by decide +kernel
theorem dL_law_609 : decode cL_law 609 = .ok (.iadd, 1) := by decide +kernel
theorem dL_law_610 : decode cL_law 610 = .ok (.iaload, 1) := by decide +kernel
theorem dL_law_611 : decode cL_law 611 = .ok (.aload_n 0, 1) := by decide +kernel
theorem dL_law_612 : decode cL_law 612 = .ok (.iload_n 3, 1) := by decide +kernel
theorem dL_law_613 : decode cL_law 613 = .ok (.iconst 2, 1) := by decide +kernel
theorem dL_law_614 : decode cL_law 614 = .ok (.iadd, 1) := by decide +kernel
theorem dL_law_615 : decode cL_law 615 = .ok (.iaload, 1) := by decide +kernel
theorem dL_law_616 : decode cL_law 616 = .ok (.aload_n 0, 1) := by decide +kernel
theorem dL_law_617 : decode cL_law 617 = .ok (.iload_n 3, 1) := by decide +kernel
theorem dL_law_618 : decode cL_law 618 = .ok (.iconst 3, 1) := by decide +kernel
theorem dL_law_619 : decode cL_law 619 = .ok (.iadd, 1) := by decide +kernel
theorem dL_law_620 : decode cL_law 620 = .ok (.iaload, 1) := by decide +kernel
theorem dL_law_621 : decode cL_law 621 = .ok (.invokevirtual 62, 3) := by decide +kernel
theorem dL_law_624 : decode cL_law 624 = .ok (.aload_n 2, 1) := by decide +kernel
theorem dL_law_625 : decode cL_law 625 = .ok (.aload_n 0, 1) := by decide +kernel
theorem dL_law_626 : decode cL_law 626 = .ok (.iload_n 3, 1) := by decide +kernel
theorem dL_law_627 : decode cL_law 627 = .ok (.iconst 1, 1) := by decide +kernel
theorem dL_law_628 : decode cL_law 628 = .ok (.iadd, 1) := by decide +kernel
theorem dL_law_629 : decode cL_law 629 = .ok (.iaload, 1) := by decide +kernel
theorem dL_law_630 : decode cL_law 630 = .ok (.aload_n 0, 1) := by decide +kernel
theorem dL_law_631 : decode cL_law 631 = .ok (.iload_n 3, 1) := by decide +kernel
theorem dL_law_632 : decode cL_law 632 = .ok (.iconst 2, 1) := by decide +kernel
theorem dL_law_633 : decode cL_law 633 = .ok (.iadd, 1) := by decide +kernel
theorem dL_law_634 : decode cL_law 634 = .ok (.iaload, 1) := by decide +kernel
theorem dL_law_635 : decode cL_law 635 = .ok (.aload_n 0, 1) := by decide +kernel
theorem dL_law_636 : decode cL_law 636 = .ok (.iload_n 3, 1) := by decide +kernel
theorem dL_law_637 : decode cL_law 637 = .ok (.iconst 3, 1) := by decide +kernel
theorem dL_law_638 : decode cL_law 638 = .ok (.iadd, 1) := by decide +kernel
theorem dL_law_639 : decode cL_law 639 = .ok (.iaload, 1) := by decide +kernel
theorem dL_law_640 : decode cL_law 640 = .ok (.invokevirtual 65, 3) := by decide +kernel
theorem dL_law_643 : decode cL_law 643 = .ok (.if_icmp .eq 398, 3) := by decide +kernel
theorem dL_law_646 : decode cL_law 646 = .ok (.iconst 0, 1) := by decide +kernel
theorem dL_law_647 : decode cL_law 647 = .ok (.ireturn, 1) := by decide +kernel
theorem dL_law_648 : decode cL_law 648 = .ok (.aload_n 1, 1) := by decide +kernel
theorem dL_law_649 : decode cL_law 649 = .ok (.aload_n 0, 1) := by decide +kernel
theorem dL_law_650 : decode cL_law 650 = .ok (.iload_n 3, 1) := by decide +kernel
theorem dL_law_651 : decode cL_law 651 = .ok (.iconst 1, 1) := by decide +kernel
theorem dL_law_652 : decode cL_law 652 = .ok (.iadd, 1) := by decide +kernel
theorem dL_law_653 : decode cL_law 653 = .ok (.iaload, 1) := by decide +kernel
theorem dL_law_654 : decode cL_law 654 = .ok (.aload_n 0, 1) := by decide +kernel
theorem dL_law_655 : decode cL_law 655 = .ok (.iload_n 3, 1) := by decide +kernel
theorem dL_law_656 : decode cL_law 656 = .ok (.iconst 2, 1) := by decide +kernel
theorem dL_law_657 : decode cL_law 657 = .ok (.iadd, 1) := by decide +kernel
theorem dL_law_658 : decode cL_law 658 = .ok (.iaload, 1) := by decide +kernel
theorem dL_law_659 : decode cL_law 659 = .ok (.invokevirtual 66, 3) := by decide +kernel
theorem dL_law_662 : decode cL_law 662 = .ok (.aload_n 2, 1) := by decide +kernel
theorem dL_law_663 : decode cL_law 663 = .ok (.aload_n 0, 1) := by decide +kernel
theorem dL_law_664 : decode cL_law 664 = .ok (.iload_n 3, 1) := by decide +kernel
theorem dL_law_665 : decode cL_law 665 = .ok (.iconst 1, 1) := by decide +kernel
theorem dL_law_666 : decode cL_law 666 = .ok (.iadd, 1) := by decide +kernel
theorem dL_law_667 : decode cL_law 667 = .ok (.iaload, 1) := by decide +kernel
theorem dL_law_668 : decode cL_law 668 = .ok (.aload_n 0, 1) := by decide +kernel
theorem dL_law_669 : decode cL_law 669 = .ok (.iload_n 3, 1) := by decide +kernel
theorem dL_law_670 : decode cL_law 670 = .ok (.iconst 2, 1) := by decide +kernel
theorem dL_law_671 : decode cL_law 671 = .ok (.iadd, 1) := by decide +kernel
theorem dL_law_672 : decode cL_law 672 = .ok (.iaload, 1) := by decide +kernel
theorem dL_law_673 : decode cL_law 673 = .ok (.invokevirtual 69, 3) := by decide +kernel
theorem dL_law_676 : decode cL_law 676 = .ok (.if_icmp .eq 365, 3) := by decide +kernel
theorem dL_law_679 : decode cL_law 679 = .ok (.iconst 0, 1) := by decide +kernel
theorem dL_law_680 : decode cL_law 680 = .ok (.ireturn, 1) := by decide +kernel
theorem dL_law_681 : decode cL_law 681 = .ok (.aload_n 1, 1) := by decide +kernel
theorem dL_law_682 : decode cL_law 682 = .ok (.aload_n 0, 1) := by decide +kernel
theorem dL_law_683 : decode cL_law 683 = .ok (.iload_n 3, 1) := by decide +kernel
theorem dL_law_684 : decode cL_law 684 = .ok (.iconst 1, 1) := by decide +kernel
theorem dL_law_685 : decode cL_law 685 = .ok (.iadd, 1) := by decide +kernel
theorem dL_law_686 : decode cL_law 686 = .ok (.iaload, 1) := by decide +kernel
theorem dL_law_687 : decode cL_law 687 = .ok (.aload_n 0, 1) := by decide +kernel
theorem dL_law_688 : decode cL_law 688 = .ok (.iload_n 3, 1) := by decide +kernel
theorem dL_law_689 : decode cL_law 689 = .ok (.iconst 2, 1) := by decide +kernel
theorem dL_law_690 : decode cL_law 690 = .ok (.iadd, 1) := by decide +kernel
theorem dL_law_691 : decode cL_law 691 = .ok (.iaload, 1) := by decide +kernel
theorem dL_law_692 : decode cL_law 692 = .ok (.invokevirtual 70, 3) := by decide +kernel
theorem dL_law_695 : decode cL_law 695 = .ok (.aload_n 2, 1) := by decide +kernel
theorem dL_law_696 : decode cL_law 696 = .ok (.aload_n 0, 1) := by decide +kernel
theorem dL_law_697 : decode cL_law 697 = .ok (.iload_n 3, 1) := by decide +kernel
theorem dL_law_698 : decode cL_law 698 = .ok (.iconst 1, 1) := by decide +kernel
theorem dL_law_699 : decode cL_law 699 = .ok (.iadd, 1) := by decide +kernel
theorem dL_law_700 : decode cL_law 700 = .ok (.iaload, 1) := by decide +kernel
theorem dL_law_701 : decode cL_law 701 = .ok (.aload_n 0, 1) := by decide +kernel
theorem dL_law_702 : decode cL_law 702 = .ok (.iload_n 3, 1) := by decide +kernel
theorem dL_law_703 : decode cL_law 703 = .ok (.iconst 2, 1) := by decide +kernel
theorem dL_law_704 : decode cL_law 704 = .ok (.iadd, 1) := by decide +kernel
theorem dL_law_705 : decode cL_law 705 = .ok (.iaload, 1) := by decide +kernel
theorem dL_law_706 : decode cL_law 706 = .ok (.invokevirtual 73, 3) := by decide +kernel
theorem dL_law_709 : decode cL_law 709 = .ok (.if_icmp .eq 332, 3) := by decide +kernel
theorem dL_law_712 : decode cL_law 712 = .ok (.iconst 0, 1) := by decide +kernel
theorem dL_law_713 : decode cL_law 713 = .ok (.ireturn, 1) := by decide +kernel
theorem dL_law_714 : decode cL_law 714 = .ok (.aload_n 1, 1) := by decide +kernel
theorem dL_law_715 : decode cL_law 715 = .ok (.aload_n 0, 1) := by decide +kernel
theorem dL_law_716 : decode cL_law 716 = .ok (.iload_n 3, 1) := by decide +kernel
theorem dL_law_717 : decode cL_law 717 = .ok (.iconst 1, 1) := by decide +kernel
theorem dL_law_718 : decode cL_law 718 = .ok (.iadd, 1) := by decide +kernel
theorem dL_law_719 : decode cL_law 719 = .ok (.iaload, 1) := by decide +kernel
theorem dL_law_720 : decode cL_law 720 = .ok (.aload_n 0, 1) := by decide +kernel
theorem dL_law_721 : decode cL_law 721 = .ok (.iload_n 3, 1) := by decide +kernel
theorem dL_law_722 : decode cL_law 722 = .ok (.iconst 2, 1) := by decide +kernel
theorem dL_law_723 : decode cL_law 723 = .ok (.iadd, 1) := by decide +kernel
theorem dL_law_724 : decode cL_law 724 = .ok (.iaload, 1) := by decide +kernel
theorem dL_law_725 : decode cL_law 725 = .ok (.aload_n 0, 1) := by decide +kernel
theorem dL_law_726 : decode cL_law 726 = .ok (.iload_n 3, 1) := by decide +kernel
theorem dL_law_727 : decode cL_law 727 = .ok (.iconst 3, 1) := by decide +kernel
theorem dL_law_728 : decode cL_law 728 = .ok (.iadd, 1) := by decide +kernel
theorem dL_law_729 : decode cL_law 729 = .ok (.iaload, 1) := by decide +kernel
theorem dL_law_730 : decode cL_law 730 = .ok (.invokevirtual 74, 3) := by decide +kernel
theorem dL_law_733 : decode cL_law 733 = .ok (.aload_n 2, 1) := by decide +kernel
theorem dL_law_734 : decode cL_law 734 = .ok (.aload_n 0, 1) := by decide +kernel
theorem dL_law_735 : decode cL_law 735 = .ok (.iload_n 3, 1) := by decide +kernel
theorem dL_law_736 : decode cL_law 736 = .ok (.iconst 1, 1) := by decide +kernel
theorem dL_law_737 : decode cL_law 737 = .ok (.iadd, 1) := by decide +kernel
theorem dL_law_738 : decode cL_law 738 = .ok (.iaload, 1) := by decide +kernel
theorem dL_law_739 : decode cL_law 739 = .ok (.aload_n 0, 1) := by decide +kernel
theorem dL_law_740 : decode cL_law 740 = .ok (.iload_n 3, 1) := by decide +kernel
theorem dL_law_741 : decode cL_law 741 = .ok (.iconst 2, 1) := by decide +kernel
theorem dL_law_742 : decode cL_law 742 = .ok (.iadd, 1) := by decide +kernel
theorem dL_law_743 : decode cL_law 743 = .ok (.iaload, 1) := by decide +kernel
theorem dL_law_744 : decode cL_law 744 = .ok (.aload_n 0, 1) := by decide +kernel
theorem dL_law_745 : decode cL_law 745 = .ok (.iload_n 3, 1) := by decide +kernel
theorem dL_law_746 : decode cL_law 746 = .ok (.iconst 3, 1) := by decide +kernel
theorem dL_law_747 : decode cL_law 747 = .ok (.iadd, 1) := by decide +kernel
theorem dL_law_748 : decode cL_law 748 = .ok (.iaload, 1) := by decide +kernel
theorem dL_law_749 : decode cL_law 749 = .ok (.invokevirtual 77, 3) := by decide +kernel
theorem dL_law_752 : decode cL_law 752 = .ok (.if_icmp .eq 289, 3) := by decide +kernel
theorem dL_law_755 : decode cL_law 755 = .ok (.iconst 0, 1) := by decide +kernel
theorem dL_law_756 : decode cL_law 756 = .ok (.ireturn, 1) := by decide +kernel
theorem dL_law_757 : decode cL_law 757 = .ok (.aload_n 1, 1) := by decide +kernel
theorem dL_law_758 : decode cL_law 758 = .ok (.aload_n 0, 1) := by decide +kernel
theorem dL_law_759 : decode cL_law 759 = .ok (.iload_n 3, 1) := by decide +kernel
theorem dL_law_760 : decode cL_law 760 = .ok (.iconst 1, 1) := by decide +kernel
theorem dL_law_761 : decode cL_law 761 = .ok (.iadd, 1) := by decide +kernel
theorem dL_law_762 : decode cL_law 762 = .ok (.iaload, 1) := by decide +kernel
theorem dL_law_763 : decode cL_law 763 = .ok (.invokevirtual 78, 3) := by decide +kernel
theorem dL_law_766 : decode cL_law 766 = .ok (.aload_n 2, 1) := by decide +kernel
theorem dL_law_767 : decode cL_law 767 = .ok (.aload_n 0, 1) := by decide +kernel
theorem dL_law_768 : decode cL_law 768 = .ok (.iload_n 3, 1) := by decide +kernel
theorem dL_law_769 : decode cL_law 769 = .ok (.iconst 1, 1) := by decide +kernel
theorem dL_law_770 : decode cL_law 770 = .ok (.iadd, 1) := by decide +kernel
theorem dL_law_771 : decode cL_law 771 = .ok (.iaload, 1) := by decide +kernel
theorem dL_law_772 : decode cL_law 772 = .ok (.invokevirtual 81, 3) := by decide +kernel
theorem dL_law_775 : decode cL_law 775 = .ok (.if_icmp .eq 266, 3) := by decide +kernel
theorem dL_law_778 : decode cL_law 778 = .ok (.iconst 0, 1) := by decide +kernel
theorem dL_law_779 : decode cL_law 779 = .ok (.ireturn, 1) := by decide +kernel
theorem dL_law_780 : decode cL_law 780 = .ok (.aload_n 1, 1) := by decide +kernel
theorem dL_law_781 : decode cL_law 781 = .ok (.aload_n 0, 1) := by decide +kernel
theorem dL_law_782 : decode cL_law 782 = .ok (.iload_n 3, 1) := by decide +kernel
theorem dL_law_783 : decode cL_law 783 = .ok (.iconst 1, 1) := by decide +kernel
theorem dL_law_784 : decode cL_law 784 = .ok (.iadd, 1) := by decide +kernel
theorem dL_law_785 : decode cL_law 785 = .ok (.iaload, 1) := by decide +kernel
theorem dL_law_786 : decode cL_law 786 = .ok (.aload_n 0, 1) := by decide +kernel
theorem dL_law_787 : decode cL_law 787 = .ok (.iload_n 3, 1) := by decide +kernel
theorem dL_law_788 : decode cL_law 788 = .ok (.iconst 2, 1) := by decide +kernel
theorem dL_law_789 : decode cL_law 789 = .ok (.iadd, 1) := by decide +kernel
theorem dL_law_790 : decode cL_law 790 = .ok (.iaload, 1) := by decide +kernel
theorem dL_law_791 : decode cL_law 791 = .ok (.aload_n 0, 1) := by decide +kernel
theorem dL_law_792 : decode cL_law 792 = .ok (.iload_n 3, 1) := by decide +kernel
theorem dL_law_793 : decode cL_law 793 = .ok (.iconst 3, 1) := by decide +kernel
theorem dL_law_794 : decode cL_law 794 = .ok (.iadd, 1) := by decide +kernel
theorem dL_law_795 : decode cL_law 795 = .ok (.iaload, 1) := by decide +kernel
theorem dL_law_796 : decode cL_law 796 = .ok (.aload_n 0, 1) := by decide +kernel
theorem dL_law_797 : decode cL_law 797 = .ok (.iload_n 3, 1) := by decide +kernel
theorem dL_law_798 : decode cL_law 798 = .ok (.iconst 4, 1) := by decide +kernel
theorem dL_law_799 : decode cL_law 799 = .ok (.iadd, 1) := by decide +kernel
theorem dL_law_800 : decode cL_law 800 = .ok (.iaload, 1) := by decide +kernel
theorem dL_law_801 : decode cL_law 801 = .ok (.invokevirtual 82, 3) := by decide +kernel
theorem dL_law_804 : decode cL_law 804 = .ok (.aload_n 2, 1) := by decide +kernel
theorem dL_law_805 : decode cL_law 805 = .ok (.aload_n 0, 1) := by decide +kernel
theorem dL_law_806 : decode cL_law 806 = .ok (.iload_n 3, 1) := by decide +kernel
theorem dL_law_807 : decode cL_law 807 = .ok (.iconst 1, 1) := by decide +kernel
theorem dL_law_808 : decode cL_law 808 = .ok (.iadd, 1) := by decide +kernel
theorem dL_law_809 : decode cL_law 809 = .ok (.iaload, 1) := by decide +kernel
theorem dL_law_810 : decode cL_law 810 = .ok (.aload_n 0, 1) := by decide +kernel
theorem dL_law_811 : decode cL_law 811 = .ok (.iload_n 3, 1) := by decide +kernel
theorem dL_law_812 : decode cL_law 812 = .ok (.iconst 2, 1) := by decide +kernel
theorem dL_law_813 : decode cL_law 813 = .ok (.iadd, 1) := by decide +kernel
theorem dL_law_814 : decode cL_law 814 = .ok (.iaload, 1) := by decide +kernel
theorem dL_law_815 : decode cL_law 815 = .ok (.aload_n 0, 1) := by decide +kernel
theorem dL_law_816 : decode cL_law 816 = .ok (.iload_n 3, 1) := by decide +kernel
theorem dL_law_817 : decode cL_law 817 = .ok (.iconst 3, 1) := by decide +kernel
theorem dL_law_818 : decode cL_law 818 = .ok (.iadd, 1) := by decide +kernel
theorem dL_law_819 : decode cL_law 819 = .ok (.iaload, 1) := by decide +kernel
theorem dL_law_820 : decode cL_law 820 = .ok (.aload_n 0, 1) := by decide +kernel
theorem dL_law_821 : decode cL_law 821 = .ok (.iload_n 3, 1) := by decide +kernel
theorem dL_law_822 : decode cL_law 822 = .ok (.iconst 4, 1) := by decide +kernel
theorem dL_law_823 : decode cL_law 823 = .ok (.iadd, 1) := by decide +kernel
theorem dL_law_824 : decode cL_law 824 = .ok (.iaload, 1) := by decide +kernel
theorem dL_law_825 : decode cL_law 825 = .ok (.invokevirtual 85, 3) := by decide +kernel
theorem dL_law_828 : decode cL_law 828 = .ok (.if_icmp .eq 213, 3) := by decide +kernel
theorem dL_law_831 : decode cL_law 831 = .ok (.iconst 0, 1) := by decide +kernel
theorem dL_law_832 : decode cL_law 832 = .ok (.ireturn, 1) := by decide +kernel
theorem dL_law_833 : decode cL_law 833 = .ok (.aload_n 1, 1) := by decide +kernel
theorem dL_law_834 : decode cL_law 834 = .ok (.aload_n 0, 1) := by decide +kernel
theorem dL_law_835 : decode cL_law 835 = .ok (.iload_n 3, 1) := by decide +kernel
theorem dL_law_836 : decode cL_law 836 = .ok (.iconst 1, 1) := by decide +kernel
theorem dL_law_837 : decode cL_law 837 = .ok (.iadd, 1) := by decide +kernel
theorem dL_law_838 : decode cL_law 838 = .ok (.iaload, 1) := by decide +kernel
theorem dL_law_839 : decode cL_law 839 = .ok (.aload_n 0, 1) := by decide +kernel
theorem dL_law_840 : decode cL_law 840 = .ok (.iload_n 3, 1) := by decide +kernel
theorem dL_law_841 : decode cL_law 841 = .ok (.iconst 2, 1) := by decide +kernel
theorem dL_law_842 : decode cL_law 842 = .ok (.iadd, 1) := by decide +kernel
theorem dL_law_843 : decode cL_law 843 = .ok (.iaload, 1) := by decide +kernel
theorem dL_law_844 : decode cL_law 844 = .ok (.invokevirtual 86, 3) := by decide +kernel
theorem dL_law_847 : decode cL_law 847 = .ok (.aload_n 2, 1) := by decide +kernel
theorem dL_law_848 : decode cL_law 848 = .ok (.aload_n 0, 1) := by decide +kernel
theorem dL_law_849 : decode cL_law 849 = .ok (.iload_n 3, 1) := by decide +kernel
theorem dL_law_850 : decode cL_law 850 = .ok (.iconst 1, 1) := by decide +kernel
theorem dL_law_851 : decode cL_law 851 = .ok (.iadd, 1) := by decide +kernel
theorem dL_law_852 : decode cL_law 852 = .ok (.iaload, 1) := by decide +kernel
theorem dL_law_853 : decode cL_law 853 = .ok (.aload_n 0, 1) := by decide +kernel
theorem dL_law_854 : decode cL_law 854 = .ok (.iload_n 3, 1) := by decide +kernel
theorem dL_law_855 : decode cL_law 855 = .ok (.iconst 2, 1) := by decide +kernel
theorem dL_law_856 : decode cL_law 856 = .ok (.iadd, 1) := by decide +kernel
theorem dL_law_857 : decode cL_law 857 = .ok (.iaload, 1) := by decide +kernel
theorem dL_law_858 : decode cL_law 858 = .ok (.invokevirtual 89, 3) := by decide +kernel
theorem dL_law_861 : decode cL_law 861 = .ok (.if_icmp .eq 180, 3) := by decide +kernel
theorem dL_law_864 : decode cL_law 864 = .ok (.iconst 0, 1) := by decide +kernel
theorem dL_law_865 : decode cL_law 865 = .ok (.ireturn, 1) := by decide +kernel
theorem dL_law_866 : decode cL_law 866 = .ok (.aload_n 1, 1) := by decide +kernel
theorem dL_law_867 : decode cL_law 867 = .ok (.aload_n 0, 1) := by decide +kernel
theorem dL_law_868 : decode cL_law 868 = .ok (.iload_n 3, 1) := by decide +kernel
theorem dL_law_869 : decode cL_law 869 = .ok (.iconst 1, 1) := by decide +kernel
theorem dL_law_870 : decode cL_law 870 = .ok (.iadd, 1) := by decide +kernel
theorem dL_law_871 : decode cL_law 871 = .ok (.iaload, 1) := by decide +kernel
theorem dL_law_872 : decode cL_law 872 = .ok (.aload_n 0, 1) := by decide +kernel
theorem dL_law_873 : decode cL_law 873 = .ok (.iload_n 3, 1) := by decide +kernel
theorem dL_law_874 : decode cL_law 874 = .ok (.iconst 2, 1) := by decide +kernel
theorem dL_law_875 : decode cL_law 875 = .ok (.iadd, 1) := by decide +kernel
theorem dL_law_876 : decode cL_law 876 = .ok (.iaload, 1) := by decide +kernel
theorem dL_law_877 : decode cL_law 877 = .ok (.invokevirtual 90, 3) := by decide +kernel
theorem dL_law_880 : decode cL_law 880 = .ok (.aload_n 2, 1) := by decide +kernel
theorem dL_law_881 : decode cL_law 881 = .ok (.aload_n 0, 1) := by decide +kernel
theorem dL_law_882 : decode cL_law 882 = .ok (.iload_n 3, 1) := by decide +kernel
theorem dL_law_883 : decode cL_law 883 = .ok (.iconst 1, 1) := by decide +kernel
theorem dL_law_884 : decode cL_law 884 = .ok (.iadd, 1) := by decide +kernel
theorem dL_law_885 : decode cL_law 885 = .ok (.iaload, 1) := by decide +kernel
theorem dL_law_886 : decode cL_law 886 = .ok (.aload_n 0, 1) := by decide +kernel
theorem dL_law_887 : decode cL_law 887 = .ok (.iload_n 3, 1) := by decide +kernel
theorem dL_law_888 : decode cL_law 888 = .ok (.iconst 2, 1) := by decide +kernel
theorem dL_law_889 : decode cL_law 889 = .ok (.iadd, 1) := by decide +kernel
theorem dL_law_890 : decode cL_law 890 = .ok (.iaload, 1) := by decide +kernel
theorem dL_law_891 : decode cL_law 891 = .ok (.invokevirtual 93, 3) := by decide +kernel
theorem dL_law_894 : decode cL_law 894 = .ok (.if_icmp .eq 147, 3) := by decide +kernel
theorem dL_law_897 : decode cL_law 897 = .ok (.iconst 0, 1) := by decide +kernel
theorem dL_law_898 : decode cL_law 898 = .ok (.ireturn, 1) := by decide +kernel
theorem dL_law_899 : decode cL_law 899 = .ok (.aload_n 1, 1) := by decide +kernel
theorem dL_law_900 : decode cL_law 900 = .ok (.aload_n 0, 1) := by decide +kernel
theorem dL_law_901 : decode cL_law 901 = .ok (.iload_n 3, 1) := by decide +kernel
theorem dL_law_902 : decode cL_law 902 = .ok (.iconst 1, 1) := by decide +kernel
theorem dL_law_903 : decode cL_law 903 = .ok (.iadd, 1) := by decide +kernel
theorem dL_law_904 : decode cL_law 904 = .ok (.iaload, 1) := by decide +kernel
theorem dL_law_905 : decode cL_law 905 = .ok (.invokevirtual 94, 3) := by decide +kernel
theorem dL_law_908 : decode cL_law 908 = .ok (.aload_n 2, 1) := by decide +kernel
theorem dL_law_909 : decode cL_law 909 = .ok (.aload_n 0, 1) := by decide +kernel
theorem dL_law_910 : decode cL_law 910 = .ok (.iload_n 3, 1) := by decide +kernel
theorem dL_law_911 : decode cL_law 911 = .ok (.iconst 1, 1) := by decide +kernel
theorem dL_law_912 : decode cL_law 912 = .ok (.iadd, 1) := by decide +kernel
theorem dL_law_913 : decode cL_law 913 = .ok (.iaload, 1) := by decide +kernel
theorem dL_law_914 : decode cL_law 914 = .ok (.invokevirtual 97, 3) := by decide +kernel
theorem dL_law_917 : decode cL_law 917 = .ok (.if_icmp .eq 124, 3) := by decide +kernel
theorem dL_law_920 : decode cL_law 920 = .ok (.iconst 0, 1) := by decide +kernel
theorem dL_law_921 : decode cL_law 921 = .ok (.ireturn, 1) := by decide +kernel
theorem dL_law_922 : decode cL_law 922 = .ok (.aload_n 1, 1) := by decide +kernel
theorem dL_law_923 : decode cL_law 923 = .ok (.invokevirtual 98, 3) := by decide +kernel
theorem dL_law_926 : decode cL_law 926 = .ok (.aload_n 2, 1) := by decide +kernel
theorem dL_law_927 : decode cL_law 927 = .ok (.invokevirtual 102, 3) := by decide +kernel
theorem dL_law_930 : decode cL_law 930 = .ok (.if_icmp .eq 111, 3) := by decide +kernel
theorem dL_law_933 : decode cL_law 933 = .ok (.iconst 0, 1) := by decide +kernel
theorem dL_law_934 : decode cL_law 934 = .ok (.ireturn, 1) := by decide +kernel
theorem dL_law_935 : decode cL_law 935 = .ok (.aload_n 1, 1) := by decide +kernel
theorem dL_law_936 : decode cL_law 936 = .ok (.aload_n 0, 1) := by decide +kernel
theorem dL_law_937 : decode cL_law 937 = .ok (.iload_n 3, 1) := by decide +kernel
theorem dL_law_938 : decode cL_law 938 = .ok (.iconst 1, 1) := by decide +kernel
theorem dL_law_939 : decode cL_law 939 = .ok (.iadd, 1) := by decide +kernel
theorem dL_law_940 : decode cL_law 940 = .ok (.iaload, 1) := by decide +kernel
theorem dL_law_941 : decode cL_law 941 = .ok (.invokevirtual 103, 3) := by decide +kernel
theorem dL_law_944 : decode cL_law 944 = .ok (.aload_n 2, 1) := by decide +kernel
theorem dL_law_945 : decode cL_law 945 = .ok (.aload_n 0, 1) := by decide +kernel
theorem dL_law_946 : decode cL_law 946 = .ok (.iload_n 3, 1) := by decide +kernel
theorem dL_law_947 : decode cL_law 947 = .ok (.iconst 1, 1) := by decide +kernel
theorem dL_law_948 : decode cL_law 948 = .ok (.iadd, 1) := by decide +kernel
theorem dL_law_949 : decode cL_law 949 = .ok (.iaload, 1) := by decide +kernel
theorem dL_law_950 : decode cL_law 950 = .ok (.invokevirtual 106, 3) := by decide +kernel
theorem dL_law_953 : decode cL_law 953 = .ok (.if_icmp .eq 88, 3) := by decide +kernel
theorem dL_law_956 : decode cL_law 956 = .ok (.iconst 0, 1) := by decide +kernel
theorem dL_law_957 : decode cL_law 957 = .ok (.ireturn, 1) := by decide +kernel
theorem dL_law_958 : decode cL_law 958 = .ok (.aload_n 1, 1) := by decide +kernel
theorem dL_law_959 : decode cL_law 959 = .ok (.aload_n 0, 1) := by decide +kernel
theorem dL_law_960 : decode cL_law 960 = .ok (.iload_n 3, 1) := by decide +kernel
theorem dL_law_961 : decode cL_law 961 = .ok (.iconst 1, 1) := by decide +kernel
theorem dL_law_962 : decode cL_law 962 = .ok (.iadd, 1) := by decide +kernel
theorem dL_law_963 : decode cL_law 963 = .ok (.iaload, 1) := by decide +kernel
theorem dL_law_964 : decode cL_law 964 = .ok (.aload_n 0, 1) := by decide +kernel
theorem dL_law_965 : decode cL_law 965 = .ok (.iload_n 3, 1) := by decide +kernel
theorem dL_law_966 : decode cL_law 966 = .ok (.iconst 2, 1) := by decide +kernel
theorem dL_law_967 : decode cL_law 967 = .ok (.iadd, 1) := by decide +kernel
theorem dL_law_968 : decode cL_law 968 = .ok (.iaload, 1) := by decide +kernel
theorem dL_law_969 : decode cL_law 969 = .ok (.invokevirtual 107, 3) := by decide +kernel
theorem dL_law_972 : decode cL_law 972 = .ok (.aload_n 2, 1) := by decide +kernel
theorem dL_law_973 : decode cL_law 973 = .ok (.aload_n 0, 1) := by decide +kernel
theorem dL_law_974 : decode cL_law 974 = .ok (.iload_n 3, 1) := by decide +kernel
theorem dL_law_975 : decode cL_law 975 = .ok (.iconst 1, 1) := by decide +kernel
theorem dL_law_976 : decode cL_law 976 = .ok (.iadd, 1) := by decide +kernel
theorem dL_law_977 : decode cL_law 977 = .ok (.iaload, 1) := by decide +kernel
theorem dL_law_978 : decode cL_law 978 = .ok (.aload_n 0, 1) := by decide +kernel
theorem dL_law_979 : decode cL_law 979 = .ok (.iload_n 3, 1) := by decide +kernel
theorem dL_law_980 : decode cL_law 980 = .ok (.iconst 2, 1) := by decide +kernel
theorem dL_law_981 : decode cL_law 981 = .ok (.iadd, 1) := by decide +kernel
theorem dL_law_982 : decode cL_law 982 = .ok (.iaload, 1) := by decide +kernel
theorem dL_law_983 : decode cL_law 983 = .ok (.invokevirtual 110, 3) := by decide +kernel
theorem dL_law_986 : decode cL_law 986 = .ok (.if_icmp .eq 55, 3) := by decide +kernel
theorem dL_law_989 : decode cL_law 989 = .ok (.iconst 0, 1) := by decide +kernel
theorem dL_law_990 : decode cL_law 990 = .ok (.ireturn, 1) := by decide +kernel
theorem dL_law_991 : decode cL_law 991 = .ok (.aload_n 1, 1) := by decide +kernel
theorem dL_law_992 : decode cL_law 992 = .ok (.invokevirtual 111, 3) := by decide +kernel
theorem dL_law_995 : decode cL_law 995 = .ok (.aload_n 2, 1) := by decide +kernel
theorem dL_law_996 : decode cL_law 996 = .ok (.invokevirtual 114, 3) := by decide +kernel
theorem dL_law_999 : decode cL_law 999 = .ok (.if_icmp .eq 42, 3) := by decide +kernel
theorem dL_law_1002 : decode cL_law 1002 = .ok (.iconst 0, 1) := by decide +kernel
theorem dL_law_1003 : decode cL_law 1003 = .ok (.ireturn, 1) := by decide +kernel
theorem dL_law_1004 : decode cL_law 1004 = .ok (.aload_n 1, 1) := by decide +kernel
theorem dL_law_1005 : decode cL_law 1005 = .ok (.aload_n 0, 1) := by decide +kernel
theorem dL_law_1006 : decode cL_law 1006 = .ok (.iload_n 3, 1) := by decide +kernel
theorem dL_law_1007 : decode cL_law 1007 = .ok (.iconst 1, 1) := by decide +kernel
theorem dL_law_1008 : decode cL_law 1008 = .ok (.iadd, 1) := by decide +kernel
theorem dL_law_1009 : decode cL_law 1009 = .ok (.iaload, 1) := by decide +kernel
theorem dL_law_1010 : decode cL_law 1010 = .ok (.invokevirtual 115, 3) := by decide +kernel
theorem dL_law_1013 : decode cL_law 1013 = .ok (.aload_n 2, 1) := by decide +kernel
theorem dL_law_1014 : decode cL_law 1014 = .ok (.aload_n 0, 1) := by decide +kernel
theorem dL_law_1015 : decode cL_law 1015 = .ok (.iload_n 3, 1) := by decide +kernel
theorem dL_law_1016 : decode cL_law 1016 = .ok (.iconst 1, 1) := by decide +kernel
theorem dL_law_1017 : decode cL_law 1017 = .ok (.iadd, 1) := by decide +kernel
theorem dL_law_1018 : decode cL_law 1018 = .ok (.iaload, 1) := by decide +kernel
theorem dL_law_1019 : decode cL_law 1019 = .ok (.invokevirtual 118, 3) := by decide +kernel
theorem dL_law_1022 : decode cL_law 1022 = .ok (.if_icmp .eq 19, 3) := by decide +kernel
theorem dL_law_1025 : decode cL_law 1025 = .ok (.iconst 0, 1) := by decide +kernel
theorem dL_law_1026 : decode cL_law 1026 = .ok (.ireturn, 1) := by decide +kernel
theorem dL_law_1027 : decode cL_law 1027 = .ok (.aload_n 1, 1) := by decide +kernel
theorem dL_law_1028 : decode cL_law 1028 = .ok (.invokevirtual 119, 3) := by decide +kernel
theorem dL_law_1031 : decode cL_law 1031 = .ok (.aload_n 2, 1) := by decide +kernel
theorem dL_law_1032 : decode cL_law 1032 = .ok (.invokevirtual 123, 3) := by decide +kernel
theorem dL_law_1035 : decode cL_law 1035 = .ok (.lcmp, 1) := by decide +kernel
theorem dL_law_1036 : decode cL_law 1036 = .ok (.ifCond .eq 5, 3) := by decide +kernel
theorem dL_law_1039 : decode cL_law 1039 = .ok (.iconst 0, 1) := by decide +kernel
theorem dL_law_1040 : decode cL_law 1040 = .ok (.ireturn, 1) := by decide +kernel
theorem dL_law_1041 : decode cL_law 1041 = .ok (.iinc 3 6, 3) := by decide +kernel
theorem dL_law_1044 : decode cL_law 1044 = .ok (.goto (-1026), 3) := by decide +kernel
theorem dL_law_1047 : decode cL_law 1047 = .ok (.iconst 1, 1) := by decide +kernel
theorem dL_law_1048 : decode cL_law 1048 = .ok (.ireturn, 1) := by decide +kernel
end
