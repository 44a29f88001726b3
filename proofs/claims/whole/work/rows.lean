section
-- began as the skeleton's PART A and the printed NAMES of this claim
-- ===== PART A: goes FIRST, ahead of the names: the tables' words, and 'selects' of the private methods out of them =====
/-- a private method of a class that the tables say can be made, by its rows of tables_1 -/
def lw_okq (q : MethodName × Nat) : Prop := (q.1.cls ≠ "java/lang/invoke/MethodHandle" ∧ q.1.cls ≠ "java/lang/invoke/VarHandle") ∧ Cond.instantiable q.1.cls q.2 ∈ tables_1 ∧ Cond.privateMethod q.1 ∈ tables_1 ∧ Cond.instanceMethod q.1 ∈ tables_1
theorem lw_p0 : lw_okq (⟨"WeylWords", "bad", "()I"⟩, 13) := ⟨⟨by decide +kernel, by decide +kernel⟩, List.mem_of_getElem? (i := 18) (by decide +kernel), List.mem_of_getElem? (i := 352) (by decide +kernel), List.mem_of_getElem? (i := 353) (by decide +kernel)⟩
theorem lw_p1 : lw_okq (⟨"WeylWords", "replaceOperator", "(I)I"⟩, 13) := ⟨⟨by decide +kernel, by decide +kernel⟩, List.mem_of_getElem? (i := 18) (by decide +kernel), List.mem_of_getElem? (i := 416) (by decide +kernel), List.mem_of_getElem? (i := 417) (by decide +kernel)⟩
theorem lw_p2 : lw_okq (⟨"WeylWords", "full", "()I"⟩, 13) := ⟨⟨by decide +kernel, by decide +kernel⟩, List.mem_of_getElem? (i := 18) (by decide +kernel), List.mem_of_getElem? (i := 451) (by decide +kernel), List.mem_of_getElem? (i := 452) (by decide +kernel)⟩
theorem lw_p3 : lw_okq (⟨"WeylWords$Operator", "greatest", "(I)I"⟩, 1) := ⟨⟨by decide +kernel, by decide +kernel⟩, List.mem_of_getElem? (i := 35) (by decide +kernel), List.mem_of_getElem? (i := 518) (by decide +kernel), List.mem_of_getElem? (i := 519) (by decide +kernel)⟩
theorem lw_p4 : lw_okq (⟨"WeylWords$Action", "addImage", "([ILWeylWords$Operator;II)V"⟩, 3) := ⟨⟨by decide +kernel, by decide +kernel⟩, List.mem_of_getElem? (i := 239) (by decide +kernel), List.mem_of_getElem? (i := 564) (by decide +kernel), List.mem_of_getElem? (i := 565) (by decide +kernel)⟩
theorem lw_p5 : lw_okq (⟨"WeylWords$Action", "pivotRow", "(III)I"⟩, 3) := ⟨⟨by decide +kernel, by decide +kernel⟩, List.mem_of_getElem? (i := 239) (by decide +kernel), List.mem_of_getElem? (i := 580) (by decide +kernel), List.mem_of_getElem? (i := 581) (by decide +kernel)⟩
theorem lw_p6 : lw_okq (⟨"WeylWords$Action", "clearBelow", "(III)V"⟩, 3) := ⟨⟨by decide +kernel, by decide +kernel⟩, List.mem_of_getElem? (i := 239) (by decide +kernel), List.mem_of_getElem? (i := 584) (by decide +kernel), List.mem_of_getElem? (i := 585) (by decide +kernel)⟩
theorem lw_p7 : lw_okq (⟨"WeylWords", "no", "()I"⟩, 13) := ⟨⟨by decide +kernel, by decide +kernel⟩, List.mem_of_getElem? (i := 18) (by decide +kernel), List.mem_of_getElem? (i := 595) (by decide +kernel), List.mem_of_getElem? (i := 596) (by decide +kernel)⟩
theorem lw_p8 : lw_okq (⟨"WeylWords$Divider", "cancel", "(LWeylWords$Operator;I)V"⟩, 8) := ⟨⟨by decide +kernel, by decide +kernel⟩, List.mem_of_getElem? (i := 134) (by decide +kernel), List.mem_of_getElem? (i := 629) (by decide +kernel), List.mem_of_getElem? (i := 630) (by decide +kernel)⟩
theorem lw_p9 : lw_okq (⟨"WeylWords", "hasBasis", "(I)Z"⟩, 13) := ⟨⟨by decide +kernel, by decide +kernel⟩, List.mem_of_getElem? (i := 18) (by decide +kernel), List.mem_of_getElem? (i := 639) (by decide +kernel), List.mem_of_getElem? (i := 640) (by decide +kernel)⟩
theorem lw_p10 : lw_okq (⟨"WeylWords$Completion", "gather", "(LWeylWords$State;I)V"⟩, 11) := ⟨⟨by decide +kernel, by decide +kernel⟩, List.mem_of_getElem? (i := 166) (by decide +kernel), List.mem_of_getElem? (i := 656) (by decide +kernel), List.mem_of_getElem? (i := 657) (by decide +kernel)⟩
theorem lw_p11 : lw_okq (⟨"WeylWords$Completion", "complete", "()V"⟩, 11) := ⟨⟨by decide +kernel, by decide +kernel⟩, List.mem_of_getElem? (i := 166) (by decide +kernel), List.mem_of_getElem? (i := 662) (by decide +kernel), List.mem_of_getElem? (i := 663) (by decide +kernel)⟩
theorem lw_p12 : lw_okq (⟨"WeylWords$Completion", "absorb", "()V"⟩, 11) := ⟨⟨by decide +kernel, by decide +kernel⟩, List.mem_of_getElem? (i := 166) (by decide +kernel), List.mem_of_getElem? (i := 667) (by decide +kernel), List.mem_of_getElem? (i := 668) (by decide +kernel)⟩
theorem lw_p13 : lw_okq (⟨"WeylWords$Completion", "dismiss", "(I)V"⟩, 11) := ⟨⟨by decide +kernel, by decide +kernel⟩, List.mem_of_getElem? (i := 166) (by decide +kernel), List.mem_of_getElem? (i := 682) (by decide +kernel), List.mem_of_getElem? (i := 683) (by decide +kernel)⟩
theorem lw_p14 : lw_okq (⟨"WeylWords$Completion", "unsettle", "(I)V"⟩, 11) := ⟨⟨by decide +kernel, by decide +kernel⟩, List.mem_of_getElem? (i := 166) (by decide +kernel), List.mem_of_getElem? (i := 686) (by decide +kernel), List.mem_of_getElem? (i := 687) (by decide +kernel)⟩
theorem lw_p15 : lw_okq (⟨"WeylWords$Completion", "admit", "(II)V"⟩, 11) := ⟨⟨by decide +kernel, by decide +kernel⟩, List.mem_of_getElem? (i := 166) (by decide +kernel), List.mem_of_getElem? (i := 690) (by decide +kernel), List.mem_of_getElem? (i := 691) (by decide +kernel)⟩
def lw_privs_1 : List (MethodName × Nat) := [(⟨"WeylWords", "bad", "()I"⟩, 13), (⟨"WeylWords", "replaceOperator", "(I)I"⟩, 13), (⟨"WeylWords", "full", "()I"⟩, 13), (⟨"WeylWords$Operator", "greatest", "(I)I"⟩, 1), (⟨"WeylWords$Action", "addImage", "([ILWeylWords$Operator;II)V"⟩, 3), (⟨"WeylWords$Action", "pivotRow", "(III)I"⟩, 3), (⟨"WeylWords$Action", "clearBelow", "(III)V"⟩, 3), (⟨"WeylWords", "no", "()I"⟩, 13), (⟨"WeylWords$Divider", "cancel", "(LWeylWords$Operator;I)V"⟩, 8), (⟨"WeylWords", "hasBasis", "(I)Z"⟩, 13), (⟨"WeylWords$Completion", "gather", "(LWeylWords$State;I)V"⟩, 11), (⟨"WeylWords$Completion", "complete", "()V"⟩, 11), (⟨"WeylWords$Completion", "absorb", "()V"⟩, 11), (⟨"WeylWords$Completion", "dismiss", "(I)V"⟩, 11), (⟨"WeylWords$Completion", "unsettle", "(I)V"⟩, 11), (⟨"WeylWords$Completion", "admit", "(II)V"⟩, 11)]
theorem lw_r1 : ∀ q ∈ lw_privs_1, lw_okq q := List.forall_mem_cons.mpr ⟨lw_p0, List.forall_mem_cons.mpr ⟨lw_p1, List.forall_mem_cons.mpr ⟨lw_p2, List.forall_mem_cons.mpr ⟨lw_p3, List.forall_mem_cons.mpr ⟨lw_p4, List.forall_mem_cons.mpr ⟨lw_p5, List.forall_mem_cons.mpr ⟨lw_p6, List.forall_mem_cons.mpr ⟨lw_p7, List.forall_mem_cons.mpr ⟨lw_p8, List.forall_mem_cons.mpr ⟨lw_p9, List.forall_mem_cons.mpr ⟨lw_p10, List.forall_mem_cons.mpr ⟨lw_p11, List.forall_mem_cons.mpr ⟨lw_p12, List.forall_mem_cons.mpr ⟨lw_p13, List.forall_mem_cons.mpr ⟨lw_p14, List.forall_mem_cons.mpr ⟨lw_p15, fun _ h => absurd h List.not_mem_nil⟩⟩⟩⟩⟩⟩⟩⟩⟩⟩⟩⟩⟩⟩⟩⟩
theorem lw_p16 : lw_okq (⟨"WeylWords$Completion", "cheapestPair", "()I"⟩, 11) := ⟨⟨by decide +kernel, by decide +kernel⟩, List.mem_of_getElem? (i := 166) (by decide +kernel), List.mem_of_getElem? (i := 694) (by decide +kernel), List.mem_of_getElem? (i := 695) (by decide +kernel)⟩
theorem lw_p17 : lw_okq (⟨"WeylWords$Completion", "cross", "(I)V"⟩, 11) := ⟨⟨by decide +kernel, by decide +kernel⟩, List.mem_of_getElem? (i := 166) (by decide +kernel), List.mem_of_getElem? (i := 698) (by decide +kernel), List.mem_of_getElem? (i := 699) (by decide +kernel)⟩
theorem lw_p18 : lw_okq (⟨"WeylWords$Completion", "reduceTails", "()V"⟩, 11) := ⟨⟨by decide +kernel, by decide +kernel⟩, List.mem_of_getElem? (i := 166) (by decide +kernel), List.mem_of_getElem? (i := 706) (by decide +kernel), List.mem_of_getElem? (i := 707) (by decide +kernel)⟩
theorem lw_p19 : lw_okq (⟨"WeylWords$Completion", "handOver", "(LWeylWords$Basis;)V"⟩, 11) := ⟨⟨by decide +kernel, by decide +kernel⟩, List.mem_of_getElem? (i := 166) (by decide +kernel), List.mem_of_getElem? (i := 714) (by decide +kernel), List.mem_of_getElem? (i := 715) (by decide +kernel)⟩
theorem lw_p20 : lw_okq (⟨"WeylWords$Text", "pass", "(I)I"⟩, 4) := ⟨⟨by decide +kernel, by decide +kernel⟩, List.mem_of_getElem? (i := 90) (by decide +kernel), List.mem_of_getElem? (i := 769) (by decide +kernel), List.mem_of_getElem? (i := 770) (by decide +kernel)⟩
theorem lw_p21 : lw_okq (⟨"WeylWords$Text", "passOperand", "(I)I"⟩, 4) := ⟨⟨by decide +kernel, by decide +kernel⟩, List.mem_of_getElem? (i := 90) (by decide +kernel), List.mem_of_getElem? (i := 773) (by decide +kernel), List.mem_of_getElem? (i := 774) (by decide +kernel)⟩
theorem lw_p22 : lw_okq (⟨"WeylWords$Text", "passExponent", "(I)I"⟩, 4) := ⟨⟨by decide +kernel, by decide +kernel⟩, List.mem_of_getElem? (i := 90) (by decide +kernel), List.mem_of_getElem? (i := 785) (by decide +kernel), List.mem_of_getElem? (i := 786) (by decide +kernel)⟩
theorem lw_p23 : lw_okq (⟨"WeylWords$Text", "passLink", "(I)I"⟩, 4) := ⟨⟨by decide +kernel, by decide +kernel⟩, List.mem_of_getElem? (i := 90) (by decide +kernel), List.mem_of_getElem? (i := 793) (by decide +kernel), List.mem_of_getElem? (i := 794) (by decide +kernel)⟩
theorem lw_p24 : lw_okq (⟨"WeylWords$Reader", "readExpression", "(I)Z"⟩, 7) := ⟨⟨by decide +kernel, by decide +kernel⟩, List.mem_of_getElem? (i := 257) (by decide +kernel), List.mem_of_getElem? (i := 801) (by decide +kernel), List.mem_of_getElem? (i := 802) (by decide +kernel)⟩
theorem lw_p25 : lw_okq (⟨"WeylWords$Reader", "peek", "()I"⟩, 7) := ⟨⟨by decide +kernel, by decide +kernel⟩, List.mem_of_getElem? (i := 257) (by decide +kernel), List.mem_of_getElem? (i := 806) (by decide +kernel), List.mem_of_getElem? (i := 807) (by decide +kernel)⟩
theorem lw_p26 : lw_okq (⟨"WeylWords$Reader", "readTerm", "(I)Z"⟩, 7) := ⟨⟨by decide +kernel, by decide +kernel⟩, List.mem_of_getElem? (i := 257) (by decide +kernel), List.mem_of_getElem? (i := 811) (by decide +kernel), List.mem_of_getElem? (i := 812) (by decide +kernel)⟩
theorem lw_p27 : lw_okq (⟨"WeylWords$Reader", "readFactor", "(I)Z"⟩, 7) := ⟨⟨by decide +kernel, by decide +kernel⟩, List.mem_of_getElem? (i := 257) (by decide +kernel), List.mem_of_getElem? (i := 816) (by decide +kernel), List.mem_of_getElem? (i := 817) (by decide +kernel)⟩
theorem lw_p28 : lw_okq (⟨"WeylWords$Reader", "readNumber", "(I)I"⟩, 7) := ⟨⟨by decide +kernel, by decide +kernel⟩, List.mem_of_getElem? (i := 257) (by decide +kernel), List.mem_of_getElem? (i := 822) (by decide +kernel), List.mem_of_getElem? (i := 823) (by decide +kernel)⟩
theorem lw_p29 : lw_okq (⟨"WeylWords$Writer", "writeTerm", "(IIZ)V"⟩, 2) := ⟨⟨by decide +kernel, by decide +kernel⟩, List.mem_of_getElem? (i := 287) (by decide +kernel), List.mem_of_getElem? (i := 844) (by decide +kernel), List.mem_of_getElem? (i := 845) (by decide +kernel)⟩
theorem lw_p30 : lw_okq (⟨"WeylWords$Writer", "write", "(I)V"⟩, 2) := ⟨⟨by decide +kernel, by decide +kernel⟩, List.mem_of_getElem? (i := 287) (by decide +kernel), List.mem_of_getElem? (i := 848) (by decide +kernel), List.mem_of_getElem? (i := 849) (by decide +kernel)⟩
theorem lw_p31 : lw_okq (⟨"WeylWords$Writer", "writeNumber", "(I)V"⟩, 2) := ⟨⟨by decide +kernel, by decide +kernel⟩, List.mem_of_getElem? (i := 287) (by decide +kernel), List.mem_of_getElem? (i := 855) (by decide +kernel), List.mem_of_getElem? (i := 856) (by decide +kernel)⟩
def lw_privs_2 : List (MethodName × Nat) := [(⟨"WeylWords$Completion", "cheapestPair", "()I"⟩, 11), (⟨"WeylWords$Completion", "cross", "(I)V"⟩, 11), (⟨"WeylWords$Completion", "reduceTails", "()V"⟩, 11), (⟨"WeylWords$Completion", "handOver", "(LWeylWords$Basis;)V"⟩, 11), (⟨"WeylWords$Text", "pass", "(I)I"⟩, 4), (⟨"WeylWords$Text", "passOperand", "(I)I"⟩, 4), (⟨"WeylWords$Text", "passExponent", "(I)I"⟩, 4), (⟨"WeylWords$Text", "passLink", "(I)I"⟩, 4), (⟨"WeylWords$Reader", "readExpression", "(I)Z"⟩, 7), (⟨"WeylWords$Reader", "peek", "()I"⟩, 7), (⟨"WeylWords$Reader", "readTerm", "(I)Z"⟩, 7), (⟨"WeylWords$Reader", "readFactor", "(I)Z"⟩, 7), (⟨"WeylWords$Reader", "readNumber", "(I)I"⟩, 7), (⟨"WeylWords$Writer", "writeTerm", "(IIZ)V"⟩, 2), (⟨"WeylWords$Writer", "write", "(I)V"⟩, 2), (⟨"WeylWords$Writer", "writeNumber", "(I)V"⟩, 2)]
theorem lw_r2 : ∀ q ∈ lw_privs_2, lw_okq q := List.forall_mem_cons.mpr ⟨lw_p16, List.forall_mem_cons.mpr ⟨lw_p17, List.forall_mem_cons.mpr ⟨lw_p18, List.forall_mem_cons.mpr ⟨lw_p19, List.forall_mem_cons.mpr ⟨lw_p20, List.forall_mem_cons.mpr ⟨lw_p21, List.forall_mem_cons.mpr ⟨lw_p22, List.forall_mem_cons.mpr ⟨lw_p23, List.forall_mem_cons.mpr ⟨lw_p24, List.forall_mem_cons.mpr ⟨lw_p25, List.forall_mem_cons.mpr ⟨lw_p26, List.forall_mem_cons.mpr ⟨lw_p27, List.forall_mem_cons.mpr ⟨lw_p28, List.forall_mem_cons.mpr ⟨lw_p29, List.forall_mem_cons.mpr ⟨lw_p30, List.forall_mem_cons.mpr ⟨lw_p31, fun _ h => absurd h List.not_mem_nil⟩⟩⟩⟩⟩⟩⟩⟩⟩⟩⟩⟩⟩⟩⟩⟩
theorem lw_p32 : lw_okq (⟨"WeylWords$Writer", "writeLetter", "(IIZ)V"⟩, 2) := ⟨⟨by decide +kernel, by decide +kernel⟩, List.mem_of_getElem? (i := 287) (by decide +kernel), List.mem_of_getElem? (i := 861) (by decide +kernel), List.mem_of_getElem? (i := 862) (by decide +kernel)⟩
theorem lw_p33 : lw_okq (⟨"WeylWordsModel", "no", "()I"⟩, 31) := ⟨⟨by decide +kernel, by decide +kernel⟩, List.mem_of_getElem? (i := 887) (by decide +kernel), List.mem_of_getElem? (i := 994) (by decide +kernel), List.mem_of_getElem? (i := 995) (by decide +kernel)⟩
theorem lw_p34 : lw_okq (⟨"WeylWordsModel", "bad", "()I"⟩, 31) := ⟨⟨by decide +kernel, by decide +kernel⟩, List.mem_of_getElem? (i := 887) (by decide +kernel), List.mem_of_getElem? (i := 1011) (by decide +kernel), List.mem_of_getElem? (i := 1012) (by decide +kernel)⟩
theorem lw_p35 : lw_okq (⟨"WeylWordsModel", "remembers", "()V"⟩, 31) := ⟨⟨by decide +kernel, by decide +kernel⟩, List.mem_of_getElem? (i := 887) (by decide +kernel), List.mem_of_getElem? (i := 1015) (by decide +kernel), List.mem_of_getElem? (i := 1016) (by decide +kernel)⟩
theorem lw_p36 : lw_okq (⟨"WeylWordsModel", "fetches", "(II)V"⟩, 31) := ⟨⟨by decide +kernel, by decide +kernel⟩, List.mem_of_getElem? (i := 887) (by decide +kernel), List.mem_of_getElem? (i := 1033) (by decide +kernel), List.mem_of_getElem? (i := 1034) (by decide +kernel)⟩
theorem lw_p37 : lw_okq (⟨"WeylWordsModel", "wipe", "(I)V"⟩, 31) := ⟨⟨by decide +kernel, by decide +kernel⟩, List.mem_of_getElem? (i := 887) (by decide +kernel), List.mem_of_getElem? (i := 1037) (by decide +kernel), List.mem_of_getElem? (i := 1038) (by decide +kernel)⟩
theorem lw_p38 : lw_okq (⟨"WeylWordsModel", "mixes", "(IIIII)V"⟩, 31) := ⟨⟨by decide +kernel, by decide +kernel⟩, List.mem_of_getElem? (i := 887) (by decide +kernel), List.mem_of_getElem? (i := 1041) (by decide +kernel), List.mem_of_getElem? (i := 1042) (by decide +kernel)⟩
theorem lw_p39 : lw_okq (⟨"WeylWordsModel", "keeps", "(II)I"⟩, 31) := ⟨⟨by decide +kernel, by decide +kernel⟩, List.mem_of_getElem? (i := 887) (by decide +kernel), List.mem_of_getElem? (i := 1045) (by decide +kernel), List.mem_of_getElem? (i := 1046) (by decide +kernel)⟩
theorem lw_p40 : lw_okq (⟨"WeylWordsModel", "termsIn", "(I)I"⟩, 31) := ⟨⟨by decide +kernel, by decide +kernel⟩, List.mem_of_getElem? (i := 887) (by decide +kernel), List.mem_of_getElem? (i := 1049) (by decide +kernel), List.mem_of_getElem? (i := 1050) (by decide +kernel)⟩
theorem lw_p41 : lw_okq (⟨"WeylWordsModel", "isTooMuch", "(II)Z"⟩, 31) := ⟨⟨by decide +kernel, by decide +kernel⟩, List.mem_of_getElem? (i := 887) (by decide +kernel), List.mem_of_getElem? (i := 1057) (by decide +kernel), List.mem_of_getElem? (i := 1058) (by decide +kernel)⟩
theorem lw_p42 : lw_okq (⟨"WeylWordsModel", "degreeIn", "(I)I"⟩, 31) := ⟨⟨by decide +kernel, by decide +kernel⟩, List.mem_of_getElem? (i := 887) (by decide +kernel), List.mem_of_getElem? (i := 1061) (by decide +kernel), List.mem_of_getElem? (i := 1062) (by decide +kernel)⟩
theorem lw_p43 : lw_okq (⟨"WeylWordsModel", "full", "()I"⟩, 31) := ⟨⟨by decide +kernel, by decide +kernel⟩, List.mem_of_getElem? (i := 887) (by decide +kernel), List.mem_of_getElem? (i := 1065) (by decide +kernel), List.mem_of_getElem? (i := 1066) (by decide +kernel)⟩
theorem lw_p44 : lw_okq (⟨"WeylWordsModel", "multiplies", "(III)V"⟩, 31) := ⟨⟨by decide +kernel, by decide +kernel⟩, List.mem_of_getElem? (i := 887) (by decide +kernel), List.mem_of_getElem? (i := 1069) (by decide +kernel), List.mem_of_getElem? (i := 1070) (by decide +kernel)⟩
theorem lw_p45 : lw_okq (⟨"WeylWordsModel", "addsBehind", "(IIIII)V"⟩, 31) := ⟨⟨by decide +kernel, by decide +kernel⟩, List.mem_of_getElem? (i := 887) (by decide +kernel), List.mem_of_getElem? (i := 1073) (by decide +kernel), List.mem_of_getElem? (i := 1074) (by decide +kernel)⟩
theorem lw_p46 : lw_okq (⟨"WeylWordsModel", "adds", "(IIIIII)V"⟩, 31) := ⟨⟨by decide +kernel, by decide +kernel⟩, List.mem_of_getElem? (i := 887) (by decide +kernel), List.mem_of_getElem? (i := 1077) (by decide +kernel), List.mem_of_getElem? (i := 1078) (by decide +kernel)⟩
theorem lw_p47 : lw_okq (⟨"WeylWordsModel", "isPowerTooMuch", "(II)Z"⟩, 31) := ⟨⟨by decide +kernel, by decide +kernel⟩, List.mem_of_getElem? (i := 887) (by decide +kernel), List.mem_of_getElem? (i := 1089) (by decide +kernel), List.mem_of_getElem? (i := 1090) (by decide +kernel)⟩
def lw_privs_3 : List (MethodName × Nat) := [(⟨"WeylWords$Writer", "writeLetter", "(IIZ)V"⟩, 2), (⟨"WeylWordsModel", "no", "()I"⟩, 31), (⟨"WeylWordsModel", "bad", "()I"⟩, 31), (⟨"WeylWordsModel", "remembers", "()V"⟩, 31), (⟨"WeylWordsModel", "fetches", "(II)V"⟩, 31), (⟨"WeylWordsModel", "wipe", "(I)V"⟩, 31), (⟨"WeylWordsModel", "mixes", "(IIIII)V"⟩, 31), (⟨"WeylWordsModel", "keeps", "(II)I"⟩, 31), (⟨"WeylWordsModel", "termsIn", "(I)I"⟩, 31), (⟨"WeylWordsModel", "isTooMuch", "(II)Z"⟩, 31), (⟨"WeylWordsModel", "degreeIn", "(I)I"⟩, 31), (⟨"WeylWordsModel", "full", "()I"⟩, 31), (⟨"WeylWordsModel", "multiplies", "(III)V"⟩, 31), (⟨"WeylWordsModel", "addsBehind", "(IIIII)V"⟩, 31), (⟨"WeylWordsModel", "adds", "(IIIIII)V"⟩, 31), (⟨"WeylWordsModel", "isPowerTooMuch", "(II)Z"⟩, 31)]
theorem lw_r3 : ∀ q ∈ lw_privs_3, lw_okq q := List.forall_mem_cons.mpr ⟨lw_p32, List.forall_mem_cons.mpr ⟨lw_p33, List.forall_mem_cons.mpr ⟨lw_p34, List.forall_mem_cons.mpr ⟨lw_p35, List.forall_mem_cons.mpr ⟨lw_p36, List.forall_mem_cons.mpr ⟨lw_p37, List.forall_mem_cons.mpr ⟨lw_p38, List.forall_mem_cons.mpr ⟨lw_p39, List.forall_mem_cons.mpr ⟨lw_p40, List.forall_mem_cons.mpr ⟨lw_p41, List.forall_mem_cons.mpr ⟨lw_p42, List.forall_mem_cons.mpr ⟨lw_p43, List.forall_mem_cons.mpr ⟨lw_p44, List.forall_mem_cons.mpr ⟨lw_p45, List.forall_mem_cons.mpr ⟨lw_p46, List.forall_mem_cons.mpr ⟨lw_p47, fun _ h => absurd h List.not_mem_nil⟩⟩⟩⟩⟩⟩⟩⟩⟩⟩⟩⟩⟩⟩⟩⟩
theorem lw_p48 : lw_okq (⟨"WeylWordsModel", "raises", "(I)V"⟩, 31) := ⟨⟨by decide +kernel, by decide +kernel⟩, List.mem_of_getElem? (i := 887) (by decide +kernel), List.mem_of_getElem? (i := 1093) (by decide +kernel), List.mem_of_getElem? (i := 1094) (by decide +kernel)⟩
theorem lw_p49 : lw_okq (⟨"WeylWordsModel", "copies", "(II)V"⟩, 31) := ⟨⟨by decide +kernel, by decide +kernel⟩, List.mem_of_getElem? (i := 887) (by decide +kernel), List.mem_of_getElem? (i := 1097) (by decide +kernel), List.mem_of_getElem? (i := 1098) (by decide +kernel)⟩
theorem lw_p50 : lw_okq (⟨"WeylWordsModel", "aboutOf", "(II)I"⟩, 31) := ⟨⟨by decide +kernel, by decide +kernel⟩, List.mem_of_getElem? (i := 887) (by decide +kernel), List.mem_of_getElem? (i := 1109) (by decide +kernel), List.mem_of_getElem? (i := 1110) (by decide +kernel)⟩
theorem lw_p51 : lw_okq (⟨"WeylWordsModel", "greatest", "(III)I"⟩, 31) := ⟨⟨by decide +kernel, by decide +kernel⟩, List.mem_of_getElem? (i := 887) (by decide +kernel), List.mem_of_getElem? (i := 1113) (by decide +kernel), List.mem_of_getElem? (i := 1114) (by decide +kernel)⟩
theorem lw_p52 : lw_okq (⟨"WeylWordsModel", "ofLead", "(I)I"⟩, 31) := ⟨⟨by decide +kernel, by decide +kernel⟩, List.mem_of_getElem? (i := 887) (by decide +kernel), List.mem_of_getElem? (i := 1117) (by decide +kernel), List.mem_of_getElem? (i := 1118) (by decide +kernel)⟩
theorem lw_p53 : lw_okq (⟨"WeylWordsModel", "leadIn", "(I)I"⟩, 31) := ⟨⟨by decide +kernel, by decide +kernel⟩, List.mem_of_getElem? (i := 887) (by decide +kernel), List.mem_of_getElem? (i := 1121) (by decide +kernel), List.mem_of_getElem? (i := 1122) (by decide +kernel)⟩
theorem lw_p54 : lw_okq (⟨"WeylWordsModel", "wordBehind", "(II)I"⟩, 31) := ⟨⟨by decide +kernel, by decide +kernel⟩, List.mem_of_getElem? (i := 887) (by decide +kernel), List.mem_of_getElem? (i := 1125) (by decide +kernel), List.mem_of_getElem? (i := 1126) (by decide +kernel)⟩
theorem lw_p55 : lw_okq (⟨"WeylWordsModel", "canMake", "(II)Z"⟩, 31) := ⟨⟨by decide +kernel, by decide +kernel⟩, List.mem_of_getElem? (i := 887) (by decide +kernel), List.mem_of_getElem? (i := 1151) (by decide +kernel), List.mem_of_getElem? (i := 1152) (by decide +kernel)⟩
theorem lw_p56 : lw_okq (⟨"WeylWordsModel", "greatestPower", "(I)I"⟩, 31) := ⟨⟨by decide +kernel, by decide +kernel⟩, List.mem_of_getElem? (i := 887) (by decide +kernel), List.mem_of_getElem? (i := 1158) (by decide +kernel), List.mem_of_getElem? (i := 1159) (by decide +kernel)⟩
theorem lw_p57 : lw_okq (⟨"WeylWordsModel", "laysMatrix", "(II)V"⟩, 31) := ⟨⟨by decide +kernel, by decide +kernel⟩, List.mem_of_getElem? (i := 887) (by decide +kernel), List.mem_of_getElem? (i := 1166) (by decide +kernel), List.mem_of_getElem? (i := 1167) (by decide +kernel)⟩
theorem lw_p58 : lw_okq (⟨"WeylWordsModel", "isFree", "(II)Z"⟩, 31) := ⟨⟨by decide +kernel, by decide +kernel⟩, List.mem_of_getElem? (i := 887) (by decide +kernel), List.mem_of_getElem? (i := 1170) (by decide +kernel), List.mem_of_getElem? (i := 1171) (by decide +kernel)⟩
theorem lw_p59 : lw_okq (⟨"WeylWordsModel", "addsRow", "(III)V"⟩, 31) := ⟨⟨by decide +kernel, by decide +kernel⟩, List.mem_of_getElem? (i := 887) (by decide +kernel), List.mem_of_getElem? (i := 1177) (by decide +kernel), List.mem_of_getElem? (i := 1178) (by decide +kernel)⟩
theorem lw_p60 : lw_okq (⟨"WeylWordsModel", "rests", "(I)V"⟩, 31) := ⟨⟨by decide +kernel, by decide +kernel⟩, List.mem_of_getElem? (i := 887) (by decide +kernel), List.mem_of_getElem? (i := 1192) (by decide +kernel), List.mem_of_getElem? (i := 1193) (by decide +kernel)⟩
theorem lw_p61 : lw_okq (⟨"WeylWordsModel", "findsLeads", "()V"⟩, 31) := ⟨⟨by decide +kernel, by decide +kernel⟩, List.mem_of_getElem? (i := 887) (by decide +kernel), List.mem_of_getElem? (i := 1196) (by decide +kernel), List.mem_of_getElem? (i := 1197) (by decide +kernel)⟩
theorem lw_p62 : lw_okq (⟨"WeylWordsModel", "firstBelow", "(I)I"⟩, 31) := ⟨⟨by decide +kernel, by decide +kernel⟩, List.mem_of_getElem? (i := 887) (by decide +kernel), List.mem_of_getElem? (i := 1200) (by decide +kernel), List.mem_of_getElem? (i := 1201) (by decide +kernel)⟩
theorem lw_p63 : lw_okq (⟨"WeylWordsModel", "isBelow", "(II)Z"⟩, 31) := ⟨⟨by decide +kernel, by decide +kernel⟩, List.mem_of_getElem? (i := 887) (by decide +kernel), List.mem_of_getElem? (i := 1204) (by decide +kernel), List.mem_of_getElem? (i := 1205) (by decide +kernel)⟩
def lw_privs_4 : List (MethodName × Nat) := [(⟨"WeylWordsModel", "raises", "(I)V"⟩, 31), (⟨"WeylWordsModel", "copies", "(II)V"⟩, 31), (⟨"WeylWordsModel", "aboutOf", "(II)I"⟩, 31), (⟨"WeylWordsModel", "greatest", "(III)I"⟩, 31), (⟨"WeylWordsModel", "ofLead", "(I)I"⟩, 31), (⟨"WeylWordsModel", "leadIn", "(I)I"⟩, 31), (⟨"WeylWordsModel", "wordBehind", "(II)I"⟩, 31), (⟨"WeylWordsModel", "canMake", "(II)Z"⟩, 31), (⟨"WeylWordsModel", "greatestPower", "(I)I"⟩, 31), (⟨"WeylWordsModel", "laysMatrix", "(II)V"⟩, 31), (⟨"WeylWordsModel", "isFree", "(II)Z"⟩, 31), (⟨"WeylWordsModel", "addsRow", "(III)V"⟩, 31), (⟨"WeylWordsModel", "rests", "(I)V"⟩, 31), (⟨"WeylWordsModel", "findsLeads", "()V"⟩, 31), (⟨"WeylWordsModel", "firstBelow", "(I)I"⟩, 31), (⟨"WeylWordsModel", "isBelow", "(II)Z"⟩, 31)]
theorem lw_r4 : ∀ q ∈ lw_privs_4, lw_okq q := List.forall_mem_cons.mpr ⟨lw_p48, List.forall_mem_cons.mpr ⟨lw_p49, List.forall_mem_cons.mpr ⟨lw_p50, List.forall_mem_cons.mpr ⟨lw_p51, List.forall_mem_cons.mpr ⟨lw_p52, List.forall_mem_cons.mpr ⟨lw_p53, List.forall_mem_cons.mpr ⟨lw_p54, List.forall_mem_cons.mpr ⟨lw_p55, List.forall_mem_cons.mpr ⟨lw_p56, List.forall_mem_cons.mpr ⟨lw_p57, List.forall_mem_cons.mpr ⟨lw_p58, List.forall_mem_cons.mpr ⟨lw_p59, List.forall_mem_cons.mpr ⟨lw_p60, List.forall_mem_cons.mpr ⟨lw_p61, List.forall_mem_cons.mpr ⟨lw_p62, List.forall_mem_cons.mpr ⟨lw_p63, fun _ h => absurd h List.not_mem_nil⟩⟩⟩⟩⟩⟩⟩⟩⟩⟩⟩⟩⟩⟩⟩⟩
theorem lw_p64 : lw_okq (⟨"WeylWordsModel", "isSmall", "(I)Z"⟩, 31) := ⟨⟨by decide +kernel, by decide +kernel⟩, List.mem_of_getElem? (i := 887) (by decide +kernel), List.mem_of_getElem? (i := 1212) (by decide +kernel), List.mem_of_getElem? (i := 1213) (by decide +kernel)⟩
theorem lw_p65 : lw_okq (⟨"WeylWordsModel", "laysBasis", "(I)V"⟩, 31) := ⟨⟨by decide +kernel, by decide +kernel⟩, List.mem_of_getElem? (i := 887) (by decide +kernel), List.mem_of_getElem? (i := 1216) (by decide +kernel), List.mem_of_getElem? (i := 1217) (by decide +kernel)⟩
theorem lw_p66 : lw_okq (⟨"WeylWordsModel", "tidies", "()V"⟩, 31) := ⟨⟨by decide +kernel, by decide +kernel⟩, List.mem_of_getElem? (i := 887) (by decide +kernel), List.mem_of_getElem? (i := 1220) (by decide +kernel), List.mem_of_getElem? (i := 1221) (by decide +kernel)⟩
theorem lw_p67 : lw_okq (⟨"WeylWordsModel", "takesBy", "(I)V"⟩, 31) := ⟨⟨by decide +kernel, by decide +kernel⟩, List.mem_of_getElem? (i := 887) (by decide +kernel), List.mem_of_getElem? (i := 1224) (by decide +kernel), List.mem_of_getElem? (i := 1225) (by decide +kernel)⟩
theorem lw_p68 : lw_okq (⟨"WeylWordsModel", "rowGoes", "(I)V"⟩, 31) := ⟨⟨by decide +kernel, by decide +kernel⟩, List.mem_of_getElem? (i := 887) (by decide +kernel), List.mem_of_getElem? (i := 1228) (by decide +kernel), List.mem_of_getElem? (i := 1229) (by decide +kernel)⟩
theorem lw_p69 : lw_okq (⟨"WeylWordsModel", "evens", "(I)V"⟩, 31) := ⟨⟨by decide +kernel, by decide +kernel⟩, List.mem_of_getElem? (i := 887) (by decide +kernel), List.mem_of_getElem? (i := 1232) (by decide +kernel), List.mem_of_getElem? (i := 1233) (by decide +kernel)⟩
theorem lw_p70 : lw_okq (⟨"WeylWordsModel", "areAlike", "(II)Z"⟩, 31) := ⟨⟨by decide +kernel, by decide +kernel⟩, List.mem_of_getElem? (i := 887) (by decide +kernel), List.mem_of_getElem? (i := 1236) (by decide +kernel), List.mem_of_getElem? (i := 1237) (by decide +kernel)⟩
theorem lw_p71 : lw_okq (⟨"WeylWordsModel", "isOneMore", "()Z"⟩, 31) := ⟨⟨by decide +kernel, by decide +kernel⟩, List.mem_of_getElem? (i := 887) (by decide +kernel), List.mem_of_getElem? (i := 1240) (by decide +kernel), List.mem_of_getElem? (i := 1241) (by decide +kernel)⟩
theorem lw_p72 : lw_okq (⟨"WeylWordsModel", "sorts", "(Z)V"⟩, 31) := ⟨⟨by decide +kernel, by decide +kernel⟩, List.mem_of_getElem? (i := 887) (by decide +kernel), List.mem_of_getElem? (i := 1244) (by decide +kernel), List.mem_of_getElem? (i := 1245) (by decide +kernel)⟩
theorem lw_p73 : lw_okq (⟨"WeylWordsModel", "isAhead", "(II)Z"⟩, 31) := ⟨⟨by decide +kernel, by decide +kernel⟩, List.mem_of_getElem? (i := 887) (by decide +kernel), List.mem_of_getElem? (i := 1248) (by decide +kernel), List.mem_of_getElem? (i := 1249) (by decide +kernel)⟩
theorem lw_p74 : lw_okq (⟨"WeylWordsModel", "exchanges", "(II)V"⟩, 31) := ⟨⟨by decide +kernel, by decide +kernel⟩, List.mem_of_getElem? (i := 887) (by decide +kernel), List.mem_of_getElem? (i := 1252) (by decide +kernel), List.mem_of_getElem? (i := 1253) (by decide +kernel)⟩
theorem lw_p75 : lw_okq (⟨"WeylWordsModel", "crosses", "(II)V"⟩, 31) := ⟨⟨by decide +kernel, by decide +kernel⟩, List.mem_of_getElem? (i := 887) (by decide +kernel), List.mem_of_getElem? (i := 1256) (by decide +kernel), List.mem_of_getElem? (i := 1257) (by decide +kernel)⟩
theorem lw_p76 : lw_okq (⟨"WeylWordsModel", "isRead", "(Z)Z"⟩, 31) := ⟨⟨by decide +kernel, by decide +kernel⟩, List.mem_of_getElem? (i := 887) (by decide +kernel), List.mem_of_getElem? (i := 1284) (by decide +kernel), List.mem_of_getElem? (i := 1285) (by decide +kernel)⟩
theorem lw_p77 : lw_okq (⟨"WeylWordsModel", "opens", "()V"⟩, 31) := ⟨⟨by decide +kernel, by decide +kernel⟩, List.mem_of_getElem? (i := 887) (by decide +kernel), List.mem_of_getElem? (i := 1288) (by decide +kernel), List.mem_of_getElem? (i := 1289) (by decide +kernel)⟩
theorem lw_p78 : lw_okq (⟨"WeylWordsModel", "blanks", "()V"⟩, 31) := ⟨⟨by decide +kernel, by decide +kernel⟩, List.mem_of_getElem? (i := 887) (by decide +kernel), List.mem_of_getElem? (i := 1292) (by decide +kernel), List.mem_of_getElem? (i := 1293) (by decide +kernel)⟩
theorem lw_p79 : lw_okq (⟨"WeylWordsModel", "isAt", "(II)Z"⟩, 31) := ⟨⟨by decide +kernel, by decide +kernel⟩, List.mem_of_getElem? (i := 887) (by decide +kernel), List.mem_of_getElem? (i := 1296) (by decide +kernel), List.mem_of_getElem? (i := 1297) (by decide +kernel)⟩
def lw_privs_5 : List (MethodName × Nat) := [(⟨"WeylWordsModel", "isSmall", "(I)Z"⟩, 31), (⟨"WeylWordsModel", "laysBasis", "(I)V"⟩, 31), (⟨"WeylWordsModel", "tidies", "()V"⟩, 31), (⟨"WeylWordsModel", "takesBy", "(I)V"⟩, 31), (⟨"WeylWordsModel", "rowGoes", "(I)V"⟩, 31), (⟨"WeylWordsModel", "evens", "(I)V"⟩, 31), (⟨"WeylWordsModel", "areAlike", "(II)Z"⟩, 31), (⟨"WeylWordsModel", "isOneMore", "()Z"⟩, 31), (⟨"WeylWordsModel", "sorts", "(Z)V"⟩, 31), (⟨"WeylWordsModel", "isAhead", "(II)Z"⟩, 31), (⟨"WeylWordsModel", "exchanges", "(II)V"⟩, 31), (⟨"WeylWordsModel", "crosses", "(II)V"⟩, 31), (⟨"WeylWordsModel", "isRead", "(Z)Z"⟩, 31), (⟨"WeylWordsModel", "opens", "()V"⟩, 31), (⟨"WeylWordsModel", "blanks", "()V"⟩, 31), (⟨"WeylWordsModel", "isAt", "(II)Z"⟩, 31)]
theorem lw_r5 : ∀ q ∈ lw_privs_5, lw_okq q := List.forall_mem_cons.mpr ⟨lw_p64, List.forall_mem_cons.mpr ⟨lw_p65, List.forall_mem_cons.mpr ⟨lw_p66, List.forall_mem_cons.mpr ⟨lw_p67, List.forall_mem_cons.mpr ⟨lw_p68, List.forall_mem_cons.mpr ⟨lw_p69, List.forall_mem_cons.mpr ⟨lw_p70, List.forall_mem_cons.mpr ⟨lw_p71, List.forall_mem_cons.mpr ⟨lw_p72, List.forall_mem_cons.mpr ⟨lw_p73, List.forall_mem_cons.mpr ⟨lw_p74, List.forall_mem_cons.mpr ⟨lw_p75, List.forall_mem_cons.mpr ⟨lw_p76, List.forall_mem_cons.mpr ⟨lw_p77, List.forall_mem_cons.mpr ⟨lw_p78, List.forall_mem_cons.mpr ⟨lw_p79, fun _ h => absurd h List.not_mem_nil⟩⟩⟩⟩⟩⟩⟩⟩⟩⟩⟩⟩⟩⟩⟩⟩
theorem lw_p80 : lw_okq (⟨"WeylWordsModel", "takesFactor", "()Z"⟩, 31) := ⟨⟨by decide +kernel, by decide +kernel⟩, List.mem_of_getElem? (i := 887) (by decide +kernel), List.mem_of_getElem? (i := 1300) (by decide +kernel), List.mem_of_getElem? (i := 1301) (by decide +kernel)⟩
theorem lw_p81 : lw_okq (⟨"WeylWordsModel", "fails", "(I)Z"⟩, 31) := ⟨⟨by decide +kernel, by decide +kernel⟩, List.mem_of_getElem? (i := 887) (by decide +kernel), List.mem_of_getElem? (i := 1304) (by decide +kernel), List.mem_of_getElem? (i := 1305) (by decide +kernel)⟩
theorem lw_p82 : lw_okq (⟨"WeylWordsModel", "takesFigures", "(I)Z"⟩, 31) := ⟨⟨by decide +kernel, by decide +kernel⟩, List.mem_of_getElem? (i := 887) (by decide +kernel), List.mem_of_getElem? (i := 1308) (by decide +kernel), List.mem_of_getElem? (i := 1309) (by decide +kernel)⟩
theorem lw_p83 : lw_okq (⟨"WeylWordsModel", "values", "(III)V"⟩, 31) := ⟨⟨by decide +kernel, by decide +kernel⟩, List.mem_of_getElem? (i := 887) (by decide +kernel), List.mem_of_getElem? (i := 1312) (by decide +kernel), List.mem_of_getElem? (i := 1313) (by decide +kernel)⟩
theorem lw_p84 : lw_okq (⟨"WeylWordsModel", "takesPower", "()Z"⟩, 31) := ⟨⟨by decide +kernel, by decide +kernel⟩, List.mem_of_getElem? (i := 887) (by decide +kernel), List.mem_of_getElem? (i := 1316) (by decide +kernel), List.mem_of_getElem? (i := 1317) (by decide +kernel)⟩
theorem lw_p85 : lw_okq (⟨"WeylWordsModel", "takes", "(I)V"⟩, 31) := ⟨⟨by decide +kernel, by decide +kernel⟩, List.mem_of_getElem? (i := 887) (by decide +kernel), List.mem_of_getElem? (i := 1320) (by decide +kernel), List.mem_of_getElem? (i := 1321) (by decide +kernel)⟩
theorem lw_p86 : lw_okq (⟨"WeylWordsModel", "takesSign", "()Z"⟩, 31) := ⟨⟨by decide +kernel, by decide +kernel⟩, List.mem_of_getElem? (i := 887) (by decide +kernel), List.mem_of_getElem? (i := 1324) (by decide +kernel), List.mem_of_getElem? (i := 1325) (by decide +kernel)⟩
theorem lw_p87 : lw_okq (⟨"WeylWordsModel", "closes", "()V"⟩, 31) := ⟨⟨by decide +kernel, by decide +kernel⟩, List.mem_of_getElem? (i := 887) (by decide +kernel), List.mem_of_getElem? (i := 1328) (by decide +kernel), List.mem_of_getElem? (i := 1329) (by decide +kernel)⟩
theorem lw_p88 : lw_okq (⟨"WeylWordsModel", "laysLine", "(I)V"⟩, 31) := ⟨⟨by decide +kernel, by decide +kernel⟩, List.mem_of_getElem? (i := 887) (by decide +kernel), List.mem_of_getElem? (i := 1336) (by decide +kernel), List.mem_of_getElem? (i := 1337) (by decide +kernel)⟩
theorem lw_p89 : lw_okq (⟨"WeylWordsModel", "writesTerm", "(II)V"⟩, 31) := ⟨⟨by decide +kernel, by decide +kernel⟩, List.mem_of_getElem? (i := 887) (by decide +kernel), List.mem_of_getElem? (i := 1340) (by decide +kernel), List.mem_of_getElem? (i := 1341) (by decide +kernel)⟩
theorem lw_p90 : lw_okq (⟨"WeylWordsModel", "writes", "(I)V"⟩, 31) := ⟨⟨by decide +kernel, by decide +kernel⟩, List.mem_of_getElem? (i := 887) (by decide +kernel), List.mem_of_getElem? (i := 1344) (by decide +kernel), List.mem_of_getElem? (i := 1345) (by decide +kernel)⟩
theorem lw_p91 : lw_okq (⟨"WeylWordsModel", "writesNumber", "(I)V"⟩, 31) := ⟨⟨by decide +kernel, by decide +kernel⟩, List.mem_of_getElem? (i := 887) (by decide +kernel), List.mem_of_getElem? (i := 1348) (by decide +kernel), List.mem_of_getElem? (i := 1349) (by decide +kernel)⟩
theorem lw_p92 : lw_okq (⟨"WeylWordsModel", "writesLetter", "(II)V"⟩, 31) := ⟨⟨by decide +kernel, by decide +kernel⟩, List.mem_of_getElem? (i := 887) (by decide +kernel), List.mem_of_getElem? (i := 1352) (by decide +kernel), List.mem_of_getElem? (i := 1353) (by decide +kernel)⟩
theorem lw_p93 : lw_okq (⟨"WeylWordsModel", "toldOf", "(I)I"⟩, 31) := ⟨⟨by decide +kernel, by decide +kernel⟩, List.mem_of_getElem? (i := 887) (by decide +kernel), List.mem_of_getElem? (i := 1360) (by decide +kernel), List.mem_of_getElem? (i := 1361) (by decide +kernel)⟩
theorem lw_p94 : lw_okq (⟨"WeylWordsModel", "mix", "(J)V"⟩, 31) := ⟨⟨by decide +kernel, by decide +kernel⟩, List.mem_of_getElem? (i := 887) (by decide +kernel), List.mem_of_getElem? (i := 1369) (by decide +kernel), List.mem_of_getElem? (i := 1370) (by decide +kernel)⟩
def lw_privs_6 : List (MethodName × Nat) := [(⟨"WeylWordsModel", "takesFactor", "()Z"⟩, 31), (⟨"WeylWordsModel", "fails", "(I)Z"⟩, 31), (⟨"WeylWordsModel", "takesFigures", "(I)Z"⟩, 31), (⟨"WeylWordsModel", "values", "(III)V"⟩, 31), (⟨"WeylWordsModel", "takesPower", "()Z"⟩, 31), (⟨"WeylWordsModel", "takes", "(I)V"⟩, 31), (⟨"WeylWordsModel", "takesSign", "()Z"⟩, 31), (⟨"WeylWordsModel", "closes", "()V"⟩, 31), (⟨"WeylWordsModel", "laysLine", "(I)V"⟩, 31), (⟨"WeylWordsModel", "writesTerm", "(II)V"⟩, 31), (⟨"WeylWordsModel", "writes", "(I)V"⟩, 31), (⟨"WeylWordsModel", "writesNumber", "(I)V"⟩, 31), (⟨"WeylWordsModel", "writesLetter", "(II)V"⟩, 31), (⟨"WeylWordsModel", "toldOf", "(I)I"⟩, 31), (⟨"WeylWordsModel", "mix", "(J)V"⟩, 31)]
theorem lw_r6 : ∀ q ∈ lw_privs_6, lw_okq q := List.forall_mem_cons.mpr ⟨lw_p80, List.forall_mem_cons.mpr ⟨lw_p81, List.forall_mem_cons.mpr ⟨lw_p82, List.forall_mem_cons.mpr ⟨lw_p83, List.forall_mem_cons.mpr ⟨lw_p84, List.forall_mem_cons.mpr ⟨lw_p85, List.forall_mem_cons.mpr ⟨lw_p86, List.forall_mem_cons.mpr ⟨lw_p87, List.forall_mem_cons.mpr ⟨lw_p88, List.forall_mem_cons.mpr ⟨lw_p89, List.forall_mem_cons.mpr ⟨lw_p90, List.forall_mem_cons.mpr ⟨lw_p91, List.forall_mem_cons.mpr ⟨lw_p92, List.forall_mem_cons.mpr ⟨lw_p93, List.forall_mem_cons.mpr ⟨lw_p94, fun _ h => absurd h List.not_mem_nil⟩⟩⟩⟩⟩⟩⟩⟩⟩⟩⟩⟩⟩⟩⟩
def lw_privs : List (MethodName × Nat) := lw_privs_1 ++ (lw_privs_2 ++ (lw_privs_3 ++ (lw_privs_4 ++ (lw_privs_5 ++ (lw_privs_6)))))
def lw_tbl : List Cond := k2_sels lw_privs ++ tables_1
theorem lw_privs_ok : ∀ q ∈ lw_privs, lw_okq q := by
  show ∀ q ∈ lw_privs_1 ++ (lw_privs_2 ++ (lw_privs_3 ++ (lw_privs_4 ++ (lw_privs_5 ++ (lw_privs_6))))), lw_okq q
  exact List.forall_mem_append.mpr ⟨lw_r1, List.forall_mem_append.mpr ⟨lw_r2, List.forall_mem_append.mpr ⟨lw_r3, List.forall_mem_append.mpr ⟨lw_r4, List.forall_mem_append.mpr ⟨lw_r5, lw_r6⟩⟩⟩⟩⟩
def RX0 : String := "WeylWords$Action"
def TX0 : u_T := fun k => match k with
  | 0 => ("WeylWords$Action", "falling", "[[I", true)
  | 1 => ("WeylWords$Action", "rows", "[[I", true)
  | _ => ("WeylWords$Action", "image", "[I", true)
def tyX0 : Nat → FieldType := fun k => match k with
  | 0 => .array (.array .int)
  | 1 => .array (.array .int)
  | _ => .array .int
theorem nmX0 : ∀ a, a < 3 → ∀ b, b < 3 → a ≠ b → (TX0 a).2.1 ≠ (TX0 b).2.1 := by decide +kernel
theorem tyX0_ok : ∀ k, k < 3 → parseFieldDescriptor (TX0 k).2.2.1 = some (tyX0 k) := by decide +kernel
abbrev cX0_init : ByteArray := prog_2_method_1_code
def yX0_init : MethodName := ⟨RX0, "<init>", "(LWeylWords$Algebra;)V"⟩
abbrev cX0_degree : ByteArray := prog_2_method_2_code
def yX0_degree : MethodName := ⟨RX0, "degree", "([I)I"⟩
abbrev cX0_fits : ByteArray := prog_2_method_3_code
def yX0_fits : MethodName := ⟨RX0, "fits", "(LWeylWords$Operator;[I)Z"⟩
abbrev cX0_apply : ByteArray := prog_2_method_4_code
def yX0_apply : MethodName := ⟨RX0, "apply", "(LWeylWords$Operator;[I)V"⟩
abbrev cX0_addImage : ByteArray := prog_2_method_5_code
def yX0_addImage : MethodName := ⟨RX0, "addImage", "([ILWeylWords$Operator;II)V"⟩
abbrev cX0_kernelDimension : ByteArray := prog_2_method_6_code
def yX0_kernelDimension : MethodName := ⟨RX0, "kernelDimension", "(LWeylWords$Operator;I)I"⟩
abbrev cX0_pivotRow : ByteArray := prog_2_method_7_code
def yX0_pivotRow : MethodName := ⟨RX0, "pivotRow", "(III)I"⟩
abbrev cX0_clearBelow : ByteArray := prog_2_method_8_code
def yX0_clearBelow : MethodName := ⟨RX0, "clearBelow", "(III)V"⟩
def RX1 : String := "WeylWords$Algebra"
def TX1 : u_T := fun k => match k with
  | 0 => ("WeylWords$Algebra", "choose", "[[I", true)
  | 1 => ("WeylWords$Algebra", "falling", "[[I", true)
  | _ => ("WeylWords$Algebra", "spare", "LWeylWords$Operator;", true)
def tyX1 : Nat → FieldType := fun k => match k with
  | 0 => .array (.array .int)
  | 1 => .array (.array .int)
  | _ => .object "WeylWords$Operator"
theorem nmX1 : ∀ a, a < 3 → ∀ b, b < 3 → a ≠ b → (TX1 a).2.1 ≠ (TX1 b).2.1 := by decide +kernel
theorem tyX1_ok : ∀ k, k < 3 → parseFieldDescriptor (TX1 k).2.2.1 = some (tyX1 k) := by decide +kernel
abbrev cX1_init : ByteArray := prog_3_method_1_code
def yX1_init : MethodName := ⟨RX1, "<init>", "()V"⟩
abbrev cX1_residue : ByteArray := prog_3_method_2_code
def yX1_residue : MethodName := ⟨RX1, "residue", "(I)I"⟩
abbrev cX1_balanced : ByteArray := prog_3_method_3_code
def yX1_balanced : MethodName := ⟨RX1, "balanced", "(I)I"⟩
abbrev cX1_inverse : ByteArray := prog_3_method_4_code
def yX1_inverse : MethodName := ⟨RX1, "inverse", "(I)I"⟩
abbrev cX1_productFits : ByteArray := prog_3_method_5_code
def yX1_productFits : MethodName := ⟨RX1, "productFits", "(LWeylWords$Operator;LWeylWords$Operator;)Z"⟩
abbrev cX1_powerFits : ByteArray := prog_3_method_6_code
def yX1_powerFits : MethodName := ⟨RX1, "powerFits", "(LWeylWords$Operator;I)Z"⟩
abbrev cX1_addProduct : ByteArray := prog_3_method_7_code
def yX1_addProduct : MethodName := ⟨RX1, "addProduct", "(LWeylWords$Operator;ILWeylWords$Operator;LWeylWords$Operator;)V"⟩
abbrev cX1_addWordProduct : ByteArray := prog_3_method_8_code
def yX1_addWordProduct : MethodName := ⟨RX1, "addWordProduct", "(LWeylWords$Operator;IILWeylWords$Operator;I)V"⟩
abbrev cX1_raise : ByteArray := prog_3_method_9_code
def yX1_raise : MethodName := ⟨RX1, "raise", "(LWeylWords$Operator;LWeylWords$Operator;I)V"⟩
abbrev cX1_adjoin : ByteArray := prog_3_method_10_code
def yX1_adjoin : MethodName := ⟨RX1, "adjoin", "(LWeylWords$Operator;LWeylWords$Operator;)V"⟩
def RX2 : String := "WeylWords$Basis"
def TX2 : u_T := fun k => match k with
  | 0 => ("WeylWords$Basis", "parts", "[LWeylWords$Operator;", true)
  | 1 => ("WeylWords$Basis", "leadXs", "[I", true)
  | 2 => ("WeylWords$Basis", "leadDs", "[I", true)
  | 3 => ("WeylWords$Basis", "source", "[I", true)
  | 4 => ("WeylWords$Basis", "sourceOrder", "I", false)
  | _ => ("WeylWords$Basis", "count", "I", false)
def tyX2 : Nat → FieldType := fun k => match k with
  | 0 => .array (.object "WeylWords$Operator")
  | 1 => .array .int
  | 2 => .array .int
  | 3 => .array .int
  | 4 => .int
  | _ => .int
theorem nmX2 : ∀ a, a < 6 → ∀ b, b < 6 → a ≠ b → (TX2 a).2.1 ≠ (TX2 b).2.1 := by decide +kernel
theorem tyX2_ok : ∀ k, k < 6 → parseFieldDescriptor (TX2 k).2.2.1 = some (tyX2 k) := by decide +kernel
abbrev cX2_init : ByteArray := prog_4_method_1_code
def yX2_init : MethodName := ⟨RX2, "<init>", "()V"⟩
abbrev cX2_covers : ByteArray := prog_4_method_2_code
def yX2_covers : MethodName := ⟨RX2, "covers", "(II)Z"⟩
abbrev cX2_isFor : ByteArray := prog_4_method_3_code
def yX2_isFor : MethodName := ⟨RX2, "isFor", "(LWeylWords$State;I)Z"⟩
abbrev cX2_begin : ByteArray := prog_4_method_4_code
def yX2_begin : MethodName := ⟨RX2, "begin", "(LWeylWords$State;I)V"⟩
abbrev cX2_add : ByteArray := prog_4_method_5_code
def yX2_add : MethodName := ⟨RX2, "add", "(LWeylWords$Operator;)V"⟩
abbrev cX2_sourceCell : ByteArray := prog_4_method_6_code
def yX2_sourceCell : MethodName := ⟨RX2, "sourceCell", "(LWeylWords$State;III)I"⟩
def RX3 : String := "WeylWords$Completion"
def TX3 : u_T := fun k => match k with
  | 0 => ("WeylWords$Completion", "algebra", "LWeylWords$Algebra;", true)
  | 1 => ("WeylWords$Completion", "divider", "LWeylWords$Divider;", true)
  | 2 => ("WeylWords$Completion", "bases", "[LWeylWords$Basis;", true)
  | 3 => ("WeylWords$Completion", "oldest", "I", false)
  | 4 => ("WeylWords$Completion", "rows", "[LWeylWords$Operator;", true)
  | 5 => ("WeylWords$Completion", "leadXs", "[I", true)
  | 6 => ("WeylWords$Completion", "leadDs", "[I", true)
  | 7 => ("WeylWords$Completion", "settled", "[Z", true)
  | 8 => ("WeylWords$Completion", "kept", "I", false)
  | 9 => ("WeylWords$Completion", "waiting", "I", false)
  | _ => ("WeylWords$Completion", "order", "I", false)
def tyX3 : Nat → FieldType := fun k => match k with
  | 0 => .object "WeylWords$Algebra"
  | 1 => .object "WeylWords$Divider"
  | 2 => .array (.object "WeylWords$Basis")
  | 3 => .int
  | 4 => .array (.object "WeylWords$Operator")
  | 5 => .array .int
  | 6 => .array .int
  | 7 => .array .boolean
  | 8 => .int
  | 9 => .int
  | _ => .int
theorem nmX3 : ∀ a, a < 11 → ∀ b, b < 11 → a ≠ b → (TX3 a).2.1 ≠ (TX3 b).2.1 := by decide +kernel
theorem tyX3_ok : ∀ k, k < 11 → parseFieldDescriptor (TX3 k).2.2.1 = some (tyX3 k) := by decide +kernel
abbrev cX3_init : ByteArray := prog_5_method_1_code
def yX3_init : MethodName := ⟨RX3, "<init>", "(LWeylWords$Algebra;LWeylWords$Divider;)V"⟩
abbrev cX3_find : ByteArray := prog_5_method_2_code
def yX3_find : MethodName := ⟨RX3, "find", "(LWeylWords$State;I)LWeylWords$Basis;"⟩
abbrev cX3_gather : ByteArray := prog_5_method_3_code
def yX3_gather : MethodName := ⟨RX3, "gather", "(LWeylWords$State;I)V"⟩
abbrev cX3_complete : ByteArray := prog_5_method_4_code
def yX3_complete : MethodName := ⟨RX3, "complete", "()V"⟩
abbrev cX3_absorb : ByteArray := prog_5_method_5_code
def yX3_absorb : MethodName := ⟨RX3, "absorb", "()V"⟩
abbrev cX3_dismiss : ByteArray := prog_5_method_6_code
def yX3_dismiss : MethodName := ⟨RX3, "dismiss", "(I)V"⟩
abbrev cX3_admit : ByteArray := prog_5_method_7_code
def yX3_admit : MethodName := ⟨RX3, "admit", "(II)V"⟩
abbrev cX3_unsettle : ByteArray := prog_5_method_8_code
def yX3_unsettle : MethodName := ⟨RX3, "unsettle", "(I)V"⟩
abbrev cX3_cheapestPair : ByteArray := prog_5_method_9_code
def yX3_cheapestPair : MethodName := ⟨RX3, "cheapestPair", "()I"⟩
abbrev cX3_cross : ByteArray := prog_5_method_10_code
def yX3_cross : MethodName := ⟨RX3, "cross", "(I)V"⟩
abbrev cX3_reduceTails : ByteArray := prog_5_method_11_code
def yX3_reduceTails : MethodName := ⟨RX3, "reduceTails", "()V"⟩
abbrev cX3_handOver : ByteArray := prog_5_method_12_code
def yX3_handOver : MethodName := ⟨RX3, "handOver", "(LWeylWords$Basis;)V"⟩
def RX4 : String := "WeylWords$Divider"
def TX4 : u_T := fun k => match k with
  | 0 => ("WeylWords$Divider", "algebra", "LWeylWords$Algebra;", true)
  | 1 => ("WeylWords$Divider", "divisors", "[LWeylWords$Operator;", true)
  | 2 => ("WeylWords$Divider", "leadXs", "[I", true)
  | 3 => ("WeylWords$Divider", "leadDs", "[I", true)
  | 4 => ("WeylWords$Divider", "inverses", "[I", true)
  | 5 => ("WeylWords$Divider", "extents", "[I", true)
  | 6 => ("WeylWords$Divider", "count", "I", false)
  | _ => ("WeylWords$Divider", "order", "I", false)
def tyX4 : Nat → FieldType := fun k => match k with
  | 0 => .object "WeylWords$Algebra"
  | 1 => .array (.object "WeylWords$Operator")
  | 2 => .array .int
  | 3 => .array .int
  | 4 => .array .int
  | 5 => .array .int
  | 6 => .int
  | _ => .int
theorem nmX4 : ∀ a, a < 8 → ∀ b, b < 8 → a ≠ b → (TX4 a).2.1 ≠ (TX4 b).2.1 := by decide +kernel
theorem tyX4_ok : ∀ k, k < 8 → parseFieldDescriptor (TX4 k).2.2.1 = some (tyX4 k) := by decide +kernel
abbrev cX4_init : ByteArray := prog_6_method_1_code
def yX4_init : MethodName := ⟨RX4, "<init>", "(LWeylWords$Algebra;)V"⟩
abbrev cX4_begin : ByteArray := prog_6_method_2_code
def yX4_begin : MethodName := ⟨RX4, "begin", "(I)V"⟩
abbrev cX4_take : ByteArray := prog_6_method_3_code
def yX4_take : MethodName := ⟨RX4, "take", "(LWeylWords$Operator;)V"⟩
abbrev cX4_reduce : ByteArray := prog_6_method_4_code
def yX4_reduce : MethodName := ⟨RX4, "reduce", "(LWeylWords$Operator;)V"⟩
abbrev cX4_cancel : ByteArray := prog_6_method_5_code
def yX4_cancel : MethodName := ⟨RX4, "cancel", "(LWeylWords$Operator;I)V"⟩
def RX5 : String := "WeylWords$History"
def TX5 : u_T := fun k => match k with
  | 0 => ("WeylWords$History", "slots", "[LWeylWords$State;", true)
  | 1 => ("WeylWords$History", "next", "I", false)
  | _ => ("WeylWords$History", "stored", "I", false)
def tyX5 : Nat → FieldType := fun k => match k with
  | 0 => .array (.object "WeylWords$State")
  | 1 => .int
  | _ => .int
theorem nmX5 : ∀ a, a < 3 → ∀ b, b < 3 → a ≠ b → (TX5 a).2.1 ≠ (TX5 b).2.1 := by decide +kernel
theorem tyX5_ok : ∀ k, k < 3 → parseFieldDescriptor (TX5 k).2.2.1 = some (tyX5 k) := by decide +kernel
abbrev cX5_init : ByteArray := prog_7_method_1_code
def yX5_init : MethodName := ⟨RX5, "<init>", "()V"⟩
abbrev cX5_keep : ByteArray := prog_7_method_2_code
def yX5_keep : MethodName := ⟨RX5, "keep", "(LWeylWords$State;)V"⟩
abbrev cX5_restore : ByteArray := prog_7_method_3_code
def yX5_restore : MethodName := ⟨RX5, "restore", "(LWeylWords$State;)V"⟩
def RX6 : String := "WeylWords$Operator"
def TX6 : u_T := fun k => match k with
  | _ => ("WeylWords$Operator", "cells", "[I", true)
def tyX6 : Nat → FieldType := fun k => match k with
  | _ => .array .int
theorem nmX6 : ∀ a, a < 1 → ∀ b, b < 1 → a ≠ b → (TX6 a).2.1 ≠ (TX6 b).2.1 := by decide +kernel
theorem tyX6_ok : ∀ k, k < 1 → parseFieldDescriptor (TX6 k).2.2.1 = some (tyX6 k) := by decide +kernel
abbrev cX6_init : ByteArray := prog_8_method_1_code
def yX6_init : MethodName := ⟨RX6, "<init>", "()V"⟩
abbrev cX6_isWord : ByteArray := prog_8_method_2_code
def yX6_isWord : MethodName := ⟨RX6, "isWord", "(II)Z"⟩
abbrev cX6_firstPlace : ByteArray := prog_8_method_3_code
def yX6_firstPlace : MethodName := ⟨RX6, "firstPlace", "(I)I"⟩
abbrev cX6_placeOf : ByteArray := prog_8_method_4_code
def yX6_placeOf : MethodName := ⟨RX6, "placeOf", "(II)I"⟩
abbrev cX6_degreeAt : ByteArray := prog_8_method_5_code
def yX6_degreeAt : MethodName := ⟨RX6, "degreeAt", "(I)I"⟩
abbrev cX6_rankedPlace : ByteArray := prog_8_method_6_code
def yX6_rankedPlace : MethodName := ⟨RX6, "rankedPlace", "(III)I"⟩
abbrev cX6_height : ByteArray := prog_8_method_7_code
def yX6_height : MethodName := ⟨RX6, "height", "(II)I"⟩
abbrev cX6_coefficient : ByteArray := prog_8_method_8_code
def yX6_coefficient : MethodName := ⟨RX6, "coefficient", "(II)I"⟩
abbrev cX6_setCoefficient : ByteArray := prog_8_method_9_code
def yX6_setCoefficient : MethodName := ⟨RX6, "setCoefficient", "(III)V"⟩
abbrev cX6_makeZero : ByteArray := prog_8_method_10_code
def yX6_makeZero : MethodName := ⟨RX6, "makeZero", "()V"⟩
abbrev cX6_makeNumber : ByteArray := prog_8_method_11_code
def yX6_makeNumber : MethodName := ⟨RX6, "makeNumber", "(I)V"⟩
abbrev cX6_copyFrom : ByteArray := prog_8_method_12_code
def yX6_copyFrom : MethodName := ⟨RX6, "copyFrom", "(LWeylWords$Operator;)V"⟩
abbrev cX6_addMultiple : ByteArray := prog_8_method_13_code
def yX6_addMultiple : MethodName := ⟨RX6, "addMultiple", "(LWeylWords$Operator;I)V"⟩
abbrev cX6_scale : ByteArray := prog_8_method_14_code
def yX6_scale : MethodName := ⟨RX6, "scale", "(I)V"⟩
abbrev cX6_countTerms : ByteArray := prog_8_method_15_code
def yX6_countTerms : MethodName := ⟨RX6, "countTerms", "()I"⟩
abbrev cX6_extent : ByteArray := prog_8_method_16_code
def yX6_extent : MethodName := ⟨RX6, "extent", "()I"⟩
abbrev cX6_isZero : ByteArray := prog_8_method_17_code
def yX6_isZero : MethodName := ⟨RX6, "isZero", "()Z"⟩
abbrev cX6_degree : ByteArray := prog_8_method_18_code
def yX6_degree : MethodName := ⟨RX6, "degree", "()I"⟩
abbrev cX6_leadPlace : ByteArray := prog_8_method_19_code
def yX6_leadPlace : MethodName := ⟨RX6, "leadPlace", "(I)I"⟩
abbrev cX6_property : ByteArray := prog_8_method_20_code
def yX6_property : MethodName := ⟨RX6, "property", "(II)I"⟩
abbrev cX6_greatest : ByteArray := prog_8_method_21_code
def yX6_greatest : MethodName := ⟨RX6, "greatest", "(I)I"⟩
abbrev cX6_measure : ByteArray := prog_8_method_22_code
def yX6_measure : MethodName := ⟨RX6, "measure", "(III)I"⟩
def RX7 : String := "WeylWords$Reader"
def TX7 : u_T := fun k => match k with
  | 0 => ("WeylWords$Reader", "algebra", "LWeylWords$Algebra;", true)
  | 1 => ("WeylWords$Reader", "text", "LWeylWords$Text;", true)
  | 2 => ("WeylWords$Reader", "totals", "[LWeylWords$Operator;", true)
  | 3 => ("WeylWords$Reader", "products", "[LWeylWords$Operator;", true)
  | 4 => ("WeylWords$Reader", "factor", "LWeylWords$Operator;", true)
  | 5 => ("WeylWords$Reader", "spare", "LWeylWords$Operator;", true)
  | _ => ("WeylWords$Reader", "at", "I", false)
def tyX7 : Nat → FieldType := fun k => match k with
  | 0 => .object "WeylWords$Algebra"
  | 1 => .object "WeylWords$Text"
  | 2 => .array (.object "WeylWords$Operator")
  | 3 => .array (.object "WeylWords$Operator")
  | 4 => .object "WeylWords$Operator"
  | 5 => .object "WeylWords$Operator"
  | _ => .int
theorem nmX7 : ∀ a, a < 7 → ∀ b, b < 7 → a ≠ b → (TX7 a).2.1 ≠ (TX7 b).2.1 := by decide +kernel
theorem tyX7_ok : ∀ k, k < 7 → parseFieldDescriptor (TX7 k).2.2.1 = some (tyX7 k) := by decide +kernel
abbrev cX7_init : ByteArray := prog_9_method_1_code
def yX7_init : MethodName := ⟨RX7, "<init>", "(LWeylWords$Algebra;LWeylWords$Text;)V"⟩
abbrev cX7_evaluate : ByteArray := prog_9_method_2_code
def yX7_evaluate : MethodName := ⟨RX7, "evaluate", "(LWeylWords$Operator;)Z"⟩
abbrev cX7_readExpression : ByteArray := prog_9_method_3_code
def yX7_readExpression : MethodName := ⟨RX7, "readExpression", "(I)Z"⟩
abbrev cX7_readTerm : ByteArray := prog_9_method_4_code
def yX7_readTerm : MethodName := ⟨RX7, "readTerm", "(I)Z"⟩
abbrev cX7_readFactor : ByteArray := prog_9_method_5_code
def yX7_readFactor : MethodName := ⟨RX7, "readFactor", "(I)Z"⟩
abbrev cX7_readNumber : ByteArray := prog_9_method_6_code
def yX7_readNumber : MethodName := ⟨RX7, "readNumber", "(I)I"⟩
abbrev cX7_peek : ByteArray := prog_9_method_7_code
def yX7_peek : MethodName := ⟨RX7, "peek", "()I"⟩
def RX8 : String := "WeylWords$State"
def TX8 : u_T := fun k => match k with
  | 0 => ("WeylWords$State", "operators", "[LWeylWords$Operator;", true)
  | 1 => ("WeylWords$State", "polynomials", "[[I", true)
  | _ => ("WeylWords$State", "order", "I", false)
def tyX8 : Nat → FieldType := fun k => match k with
  | 0 => .array (.object "WeylWords$Operator")
  | 1 => .array (.array .int)
  | _ => .int
theorem nmX8 : ∀ a, a < 3 → ∀ b, b < 3 → a ≠ b → (TX8 a).2.1 ≠ (TX8 b).2.1 := by decide +kernel
theorem tyX8_ok : ∀ k, k < 3 → parseFieldDescriptor (TX8 k).2.2.1 = some (tyX8 k) := by decide +kernel
abbrev cX8_init : ByteArray := prog_10_method_1_code
def yX8_init : MethodName := ⟨RX8, "<init>", "()V"⟩
abbrev cX8_copyFrom : ByteArray := prog_10_method_2_code
def yX8_copyFrom : MethodName := ⟨RX8, "copyFrom", "(LWeylWords$State;)V"⟩
def RX9 : String := "WeylWords$Text"
def TX9 : u_T := fun k => match k with
  | 0 => ("WeylWords$Text", "bytes", "[I", true)
  | 1 => ("WeylWords$Text", "length", "I", false)
  | 2 => ("WeylWords$Text", "mode", "I", false)
  | _ => ("WeylWords$Text", "open", "I", false)
def tyX9 : Nat → FieldType := fun k => match k with
  | 0 => .array .int
  | 1 => .int
  | 2 => .int
  | _ => .int
theorem nmX9 : ∀ a, a < 4 → ∀ b, b < 4 → a ≠ b → (TX9 a).2.1 ≠ (TX9 b).2.1 := by decide +kernel
theorem tyX9_ok : ∀ k, k < 4 → parseFieldDescriptor (TX9 k).2.2.1 = some (tyX9 k) := by decide +kernel
abbrev cX9_init : ByteArray := prog_11_method_1_code
def yX9_init : MethodName := ⟨RX9, "<init>", "()V"⟩
abbrev cX9_append : ByteArray := prog_11_method_2_code
def yX9_append : MethodName := ⟨RX9, "append", "(I)V"⟩
abbrev cX9_byteAt : ByteArray := prog_11_method_3_code
def yX9_byteAt : MethodName := ⟨RX9, "byteAt", "(I)I"⟩
abbrev cX9_isDigit : ByteArray := prog_11_method_4_code
def yX9_isDigit : MethodName := ⟨RX9, "isDigit", "(I)Z"⟩
abbrev cX9_fault : ByteArray := prog_11_method_5_code
def yX9_fault : MethodName := ⟨RX9, "fault", "()I"⟩
abbrev cX9_pass : ByteArray := prog_11_method_6_code
def yX9_pass : MethodName := ⟨RX9, "pass", "(I)I"⟩
abbrev cX9_passOperand : ByteArray := prog_11_method_7_code
def yX9_passOperand : MethodName := ⟨RX9, "passOperand", "(I)I"⟩
abbrev cX9_passExponent : ByteArray := prog_11_method_8_code
def yX9_passExponent : MethodName := ⟨RX9, "passExponent", "(I)I"⟩
abbrev cX9_passLink : ByteArray := prog_11_method_9_code
def yX9_passLink : MethodName := ⟨RX9, "passLink", "(I)I"⟩
abbrev cX9_countDigits : ByteArray := prog_11_method_10_code
def yX9_countDigits : MethodName := ⟨RX9, "countDigits", "(II)I"⟩
abbrev cX9_valueOf : ByteArray := prog_11_method_11_code
def yX9_valueOf : MethodName := ⟨RX9, "valueOf", "(II)I"⟩
def RX10 : String := "WeylWords$Writer"
def TX10 : u_T := fun k => match k with
  | 0 => ("WeylWords$Writer", "bytes", "[I", true)
  | _ => ("WeylWords$Writer", "length", "I", false)
def tyX10 : Nat → FieldType := fun k => match k with
  | 0 => .array .int
  | _ => .int
theorem nmX10 : ∀ a, a < 2 → ∀ b, b < 2 → a ≠ b → (TX10 a).2.1 ≠ (TX10 b).2.1 := by decide +kernel
theorem tyX10_ok : ∀ k, k < 2 → parseFieldDescriptor (TX10 k).2.2.1 = some (tyX10 k) := by decide +kernel
abbrev cX10_init : ByteArray := prog_12_method_1_code
def yX10_init : MethodName := ⟨RX10, "<init>", "()V"⟩
abbrev cX10_byteAt : ByteArray := prog_12_method_2_code
def yX10_byteAt : MethodName := ⟨RX10, "byteAt", "(LWeylWords$Operator;II)I"⟩
abbrev cX10_writeTerm : ByteArray := prog_12_method_3_code
def yX10_writeTerm : MethodName := ⟨RX10, "writeTerm", "(IIZ)V"⟩
abbrev cX10_writeLetter : ByteArray := prog_12_method_4_code
def yX10_writeLetter : MethodName := ⟨RX10, "writeLetter", "(IIZ)V"⟩
abbrev cX10_writeNumber : ByteArray := prog_12_method_5_code
def yX10_writeNumber : MethodName := ⟨RX10, "writeNumber", "(I)V"⟩
abbrev cX10_write : ByteArray := prog_12_method_6_code
def yX10_write : MethodName := ⟨RX10, "write", "(I)V"⟩
def RX11 : String := "WeylWords"
def TX11 : u_T := fun k => match k with
  | 0 => ("WeylWords", "state", "LWeylWords$State;", true)
  | 1 => ("WeylWords", "history", "LWeylWords$History;", true)
  | 2 => ("WeylWords", "text", "LWeylWords$Text;", true)
  | 3 => ("WeylWords", "algebra", "LWeylWords$Algebra;", true)
  | 4 => ("WeylWords", "divider", "LWeylWords$Divider;", true)
  | 5 => ("WeylWords", "completion", "LWeylWords$Completion;", true)
  | 6 => ("WeylWords", "action", "LWeylWords$Action;", true)
  | 7 => ("WeylWords", "reader", "LWeylWords$Reader;", true)
  | 8 => ("WeylWords", "writer", "LWeylWords$Writer;", true)
  | 9 => ("WeylWords", "result", "LWeylWords$Operator;", true)
  | 10 => ("WeylWords", "badCount", "I", false)
  | 11 => ("WeylWords", "noCount", "I", false)
  | _ => ("WeylWords", "fullCount", "I", false)
def tyX11 : Nat → FieldType := fun k => match k with
  | 0 => .object "WeylWords$State"
  | 1 => .object "WeylWords$History"
  | 2 => .object "WeylWords$Text"
  | 3 => .object "WeylWords$Algebra"
  | 4 => .object "WeylWords$Divider"
  | 5 => .object "WeylWords$Completion"
  | 6 => .object "WeylWords$Action"
  | 7 => .object "WeylWords$Reader"
  | 8 => .object "WeylWords$Writer"
  | 9 => .object "WeylWords$Operator"
  | 10 => .int
  | 11 => .int
  | _ => .int
theorem nmX11 : ∀ a, a < 13 → ∀ b, b < 13 → a ≠ b → (TX11 a).2.1 ≠ (TX11 b).2.1 := by decide +kernel
theorem tyX11_ok : ∀ k, k < 13 → parseFieldDescriptor (TX11 k).2.2.1 = some (tyX11 k) := by decide +kernel
abbrev cX11_init : ByteArray := prog_1_method_1_code
def yX11_init : MethodName := ⟨RX11, "<init>", "()V"⟩
abbrev cX11_sets : ByteArray := prog_1_method_2_code
def yX11_sets : MethodName := ⟨RX11, "sets", "(IIII)I"⟩
abbrev cX11_at : ByteArray := prog_1_method_3_code
def yX11_at : MethodName := ⟨RX11, "at", "(III)I"⟩
abbrev cX11_sums : ByteArray := prog_1_method_4_code
def yX11_sums : MethodName := ⟨RX11, "sums", "(IIIII)I"⟩
abbrev cX11_times : ByteArray := prog_1_method_5_code
def yX11_times : MethodName := ⟨RX11, "times", "(III)I"⟩
abbrev cX11_bracket : ByteArray := prog_1_method_6_code
def yX11_bracket : MethodName := ⟨RX11, "bracket", "(III)I"⟩
abbrev cX11_power : ByteArray := prog_1_method_7_code
def yX11_power : MethodName := ⟨RX11, "power", "(III)I"⟩
abbrev cX11_reversed : ByteArray := prog_1_method_8_code
def yX11_reversed : MethodName := ⟨RX11, "reversed", "(II)I"⟩
abbrev cX11_of : ByteArray := prog_1_method_9_code
def yX11_of : MethodName := ⟨RX11, "of", "(II)I"⟩
abbrev cX11_order : ByteArray := prog_1_method_10_code
def yX11_order : MethodName := ⟨RX11, "order", "(I)I"⟩
abbrev cX11_puts : ByteArray := prog_1_method_11_code
def yX11_puts : MethodName := ⟨RX11, "puts", "(III)I"⟩
abbrev cX11_rate : ByteArray := prog_1_method_12_code
def yX11_rate : MethodName := ⟨RX11, "rate", "(II)I"⟩
abbrev cX11_makes : ByteArray := prog_1_method_13_code
def yX11_makes : MethodName := ⟨RX11, "makes", "(III)I"⟩
abbrev cX11_kernel : ByteArray := prog_1_method_14_code
def yX11_kernel : MethodName := ⟨RX11, "kernel", "(II)I"⟩
abbrev cX11_kills : ByteArray := prog_1_method_15_code
def yX11_kills : MethodName := ⟨RX11, "kills", "(II)I"⟩
abbrev cX11_rest : ByteArray := prog_1_method_16_code
def yX11_rest : MethodName := ⟨RX11, "rest", "(III)I"⟩
abbrev cX11_basis : ByteArray := prog_1_method_17_code
def yX11_basis : MethodName := ⟨RX11, "basis", "(I)I"⟩
abbrev cX11_based : ByteArray := prog_1_method_18_code
def yX11_based : MethodName := ⟨RX11, "based", "(IIII)I"⟩
abbrev cX11_stairs : ByteArray := prog_1_method_19_code
def yX11_stairs : MethodName := ⟨RX11, "stairs", "(II)I"⟩
abbrev cX11_within : ByteArray := prog_1_method_20_code
def yX11_within : MethodName := ⟨RX11, "within", "(II)I"⟩
abbrev cX11_type : ByteArray := prog_1_method_21_code
def yX11_type : MethodName := ⟨RX11, "type", "(I)I"⟩
abbrev cX11_clear : ByteArray := prog_1_method_22_code
def yX11_clear : MethodName := ⟨RX11, "clear", "()I"⟩
abbrev cX11_reads : ByteArray := prog_1_method_23_code
def yX11_reads : MethodName := ⟨RX11, "reads", "(I)I"⟩
abbrev cX11_shown : ByteArray := prog_1_method_24_code
def yX11_shown : MethodName := ⟨RX11, "shown", "(II)I"⟩
abbrev cX11_back : ByteArray := prog_1_method_25_code
def yX11_back : MethodName := ⟨RX11, "back", "()I"⟩
abbrev cX11_told : ByteArray := prog_1_method_26_code
def yX11_told : MethodName := ⟨RX11, "told", "(I)I"⟩
abbrev cX11_digest : ByteArray := prog_1_method_27_code
def yX11_digest : MethodName := ⟨RX11, "digest", "()J"⟩
abbrev cX11_mixed : ByteArray := prog_1_method_28_code
def yX11_mixed : MethodName := ⟨RX11, "mixed", "(J[I)J"⟩
abbrev cX11_replaceOperator : ByteArray := prog_1_method_29_code
def yX11_replaceOperator : MethodName := ⟨RX11, "replaceOperator", "(I)I"⟩
abbrev cX11_bad : ByteArray := prog_1_method_30_code
def yX11_bad : MethodName := ⟨RX11, "bad", "()I"⟩
abbrev cX11_no : ByteArray := prog_1_method_31_code
def yX11_no : MethodName := ⟨RX11, "no", "()I"⟩
abbrev cX11_full : ByteArray := prog_1_method_32_code
def yX11_full : MethodName := ⟨RX11, "full", "()I"⟩
abbrev cX11_hasBasis : ByteArray := prog_1_method_33_code
def yX11_hasBasis : MethodName := ⟨RX11, "hasBasis", "(I)Z"⟩
abbrev cX11_isOperator : ByteArray := prog_1_method_34_code
def yX11_isOperator : MethodName := ⟨RX11, "isOperator", "(I)Z"⟩
abbrev cX11_isPolynomial : ByteArray := prog_1_method_35_code
def yX11_isPolynomial : MethodName := ⟨RX11, "isPolynomial", "(I)Z"⟩
abbrev cX11_isPower : ByteArray := prog_1_method_36_code
def yX11_isPower : MethodName := ⟨RX11, "isPower", "(I)Z"⟩
abbrev cX11_isSet : ByteArray := prog_1_method_37_code
def yX11_isSet : MethodName := ⟨RX11, "isSet", "(I)Z"⟩
abbrev cX11_isInSet : ByteArray := prog_1_method_38_code
def yX11_isInSet : MethodName := ⟨RX11, "isInSet", "(II)Z"⟩
def RX12 : String := "WeylWordsModel"
def TX12 : u_T := fun k => match k with
  | 0 => ("WeylWordsModel", "now", "[I", true)
  | 1 => ("WeylWordsModel", "past", "[I", true)
  | 2 => ("WeylWordsModel", "states", "I", false)
  | 3 => ("WeylWordsModel", "refused", "[I", true)
  | 4 => ("WeylWordsModel", "text", "[I", true)
  | 5 => ("WeylWordsModel", "bytes", "I", false)
  | 6 => ("WeylWordsModel", "work", "[I", true)
  | 7 => ("WeylWordsModel", "xs", "[I", true)
  | 8 => ("WeylWordsModel", "ds", "[I", true)
  | 9 => ("WeylWordsModel", "choose", "[I", true)
  | 10 => ("WeylWordsModel", "made", "[I", true)
  | 11 => ("WeylWordsModel", "matrix", "[I", true)
  | 12 => ("WeylWordsModel", "by", "[I", true)
  | 13 => ("WeylWordsModel", "byMany", "I", false)
  | 14 => ("WeylWordsModel", "leads", "[I", true)
  | 15 => ("WeylWordsModel", "parts", "[I", true)
  | 16 => ("WeylWordsModel", "rows", "I", false)
  | 17 => ("WeylWordsModel", "laid", "I", false)
  | 18 => ("WeylWordsModel", "spot", "I", false)
  | 19 => ("WeylWordsModel", "wrongAt", "I", false)
  | 20 => ("WeylWordsModel", "depth", "I", false)
  | 21 => ("WeylWordsModel", "lacks", "Z", false)
  | 22 => ("WeylWordsModel", "mayMinus", "Z", false)
  | 23 => ("WeylWordsModel", "works", "Z", false)
  | 24 => ("WeylWordsModel", "isFull", "Z", false)
  | 25 => ("WeylWordsModel", "isMinus", "[Z", true)
  | 26 => ("WeylWordsModel", "hasProduct", "[Z", true)
  | 27 => ("WeylWordsModel", "figures", "I", false)
  | 28 => ("WeylWordsModel", "line", "[I", true)
  | 29 => ("WeylWordsModel", "written", "I", false)
  | _ => ("WeylWordsModel", "hash", "J", false)
def tyX12 : Nat → FieldType := fun k => match k with
  | 0 => .array .int
  | 1 => .array .int
  | 2 => .int
  | 3 => .array .int
  | 4 => .array .int
  | 5 => .int
  | 6 => .array .int
  | 7 => .array .int
  | 8 => .array .int
  | 9 => .array .int
  | 10 => .array .int
  | 11 => .array .int
  | 12 => .array .int
  | 13 => .int
  | 14 => .array .int
  | 15 => .array .int
  | 16 => .int
  | 17 => .int
  | 18 => .int
  | 19 => .int
  | 20 => .int
  | 21 => .boolean
  | 22 => .boolean
  | 23 => .boolean
  | 24 => .boolean
  | 25 => .array .boolean
  | 26 => .array .boolean
  | 27 => .int
  | 28 => .array .int
  | 29 => .int
  | _ => .long
theorem nmX12 : ∀ a, a < 31 → ∀ b, b < 31 → a ≠ b → (TX12 a).2.1 ≠ (TX12 b).2.1 := by decide +kernel
theorem tyX12_ok : ∀ k, k < 31 → parseFieldDescriptor (TX12 k).2.2.1 = some (tyX12 k) := by decide +kernel
abbrev cX12_init : ByteArray := prog_14_method_1_code
def yX12_init : MethodName := ⟨RX12, "<init>", "()V"⟩
abbrev cX12_in : ByteArray := prog_14_method_3_code
def yX12_in : MethodName := ⟨RX12, "in", "(III)Z"⟩
abbrev cX12_wordAt : ByteArray := prog_14_method_4_code
def yX12_wordAt : MethodName := ⟨RX12, "wordAt", "(II)I"⟩
abbrev cX12_restOf : ByteArray := prog_14_method_5_code
def yX12_restOf : MethodName := ⟨RX12, "restOf", "(I)I"⟩
abbrev cX12_tell : ByteArray := prog_14_method_6_code
def yX12_tell : MethodName := ⟨RX12, "tell", "(I)I"⟩
abbrev cX12_bad : ByteArray := prog_14_method_7_code
def yX12_bad : MethodName := ⟨RX12, "bad", "()I"⟩
abbrev cX12_no : ByteArray := prog_14_method_8_code
def yX12_no : MethodName := ⟨RX12, "no", "()I"⟩
abbrev cX12_full : ByteArray := prog_14_method_9_code
def yX12_full : MethodName := ⟨RX12, "full", "()I"⟩
abbrev cX12_remembers : ByteArray := prog_14_method_10_code
def yX12_remembers : MethodName := ⟨RX12, "remembers", "()V"⟩
abbrev cX12_back : ByteArray := prog_14_method_11_code
def yX12_back : MethodName := ⟨RX12, "back", "()I"⟩
abbrev cX12_isOperator : ByteArray := prog_14_method_12_code
def yX12_isOperator : MethodName := ⟨RX12, "isOperator", "(I)Z"⟩
abbrev cX12_isWord : ByteArray := prog_14_method_13_code
def yX12_isWord : MethodName := ⟨RX12, "isWord", "(II)Z"⟩
abbrev cX12_wipe : ByteArray := prog_14_method_14_code
def yX12_wipe : MethodName := ⟨RX12, "wipe", "(I)V"⟩
abbrev cX12_copies : ByteArray := prog_14_method_15_code
def yX12_copies : MethodName := ⟨RX12, "copies", "(II)V"⟩
abbrev cX12_fetches : ByteArray := prog_14_method_16_code
def yX12_fetches : MethodName := ⟨RX12, "fetches", "(II)V"⟩
abbrev cX12_termsIn : ByteArray := prog_14_method_17_code
def yX12_termsIn : MethodName := ⟨RX12, "termsIn", "(I)I"⟩
abbrev cX12_keeps : ByteArray := prog_14_method_18_code
def yX12_keeps : MethodName := ⟨RX12, "keeps", "(II)I"⟩
abbrev cX12_degreeIn : ByteArray := prog_14_method_19_code
def yX12_degreeIn : MethodName := ⟨RX12, "degreeIn", "(I)I"⟩
abbrev cX12_wordBehind : ByteArray := prog_14_method_20_code
def yX12_wordBehind : MethodName := ⟨RX12, "wordBehind", "(II)I"⟩
abbrev cX12_leadIn : ByteArray := prog_14_method_21_code
def yX12_leadIn : MethodName := ⟨RX12, "leadIn", "(I)I"⟩
abbrev cX12_adds : ByteArray := prog_14_method_22_code
def yX12_adds : MethodName := ⟨RX12, "adds", "(IIIIII)V"⟩
abbrev cX12_addsBehind : ByteArray := prog_14_method_23_code
def yX12_addsBehind : MethodName := ⟨RX12, "addsBehind", "(IIIII)V"⟩
abbrev cX12_multiplies : ByteArray := prog_14_method_24_code
def yX12_multiplies : MethodName := ⟨RX12, "multiplies", "(III)V"⟩
abbrev cX12_isTooMuch : ByteArray := prog_14_method_25_code
def yX12_isTooMuch : MethodName := ⟨RX12, "isTooMuch", "(II)Z"⟩
abbrev cX12_isPowerTooMuch : ByteArray := prog_14_method_26_code
def yX12_isPowerTooMuch : MethodName := ⟨RX12, "isPowerTooMuch", "(II)Z"⟩
abbrev cX12_raises : ByteArray := prog_14_method_27_code
def yX12_raises : MethodName := ⟨RX12, "raises", "(I)V"⟩
abbrev cX12_mixes : ByteArray := prog_14_method_28_code
def yX12_mixes : MethodName := ⟨RX12, "mixes", "(IIIII)V"⟩
abbrev cX12_sets : ByteArray := prog_14_method_29_code
def yX12_sets : MethodName := ⟨RX12, "sets", "(IIII)I"⟩
abbrev cX12_at : ByteArray := prog_14_method_30_code
def yX12_at : MethodName := ⟨RX12, "at", "(III)I"⟩
abbrev cX12_sums : ByteArray := prog_14_method_31_code
def yX12_sums : MethodName := ⟨RX12, "sums", "(IIIII)I"⟩
abbrev cX12_times : ByteArray := prog_14_method_32_code
def yX12_times : MethodName := ⟨RX12, "times", "(III)I"⟩
abbrev cX12_bracket : ByteArray := prog_14_method_33_code
def yX12_bracket : MethodName := ⟨RX12, "bracket", "(III)I"⟩
abbrev cX12_power : ByteArray := prog_14_method_34_code
def yX12_power : MethodName := ⟨RX12, "power", "(III)I"⟩
abbrev cX12_reversed : ByteArray := prog_14_method_35_code
def yX12_reversed : MethodName := ⟨RX12, "reversed", "(II)I"⟩
abbrev cX12_greatest : ByteArray := prog_14_method_36_code
def yX12_greatest : MethodName := ⟨RX12, "greatest", "(III)I"⟩
abbrev cX12_ofLead : ByteArray := prog_14_method_37_code
def yX12_ofLead : MethodName := ⟨RX12, "ofLead", "(I)I"⟩
abbrev cX12_aboutOf : ByteArray := prog_14_method_38_code
def yX12_aboutOf : MethodName := ⟨RX12, "aboutOf", "(II)I"⟩
abbrev cX12_of : ByteArray := prog_14_method_39_code
def yX12_of : MethodName := ⟨RX12, "of", "(II)I"⟩
abbrev cX12_order : ByteArray := prog_14_method_40_code
def yX12_order : MethodName := ⟨RX12, "order", "(I)I"⟩
abbrev cX12_isPolynomial : ByteArray := prog_14_method_41_code
def yX12_isPolynomial : MethodName := ⟨RX12, "isPolynomial", "(I)Z"⟩
abbrev cX12_rateAt : ByteArray := prog_14_method_42_code
def yX12_rateAt : MethodName := ⟨RX12, "rateAt", "(II)I"⟩
abbrev cX12_puts : ByteArray := prog_14_method_43_code
def yX12_puts : MethodName := ⟨RX12, "puts", "(III)I"⟩
abbrev cX12_rate : ByteArray := prog_14_method_44_code
def yX12_rate : MethodName := ⟨RX12, "rate", "(II)I"⟩
abbrev cX12_falls : ByteArray := prog_14_method_45_code
def yX12_falls : MethodName := ⟨RX12, "falls", "(II)I"⟩
abbrev cX12_greatestPower : ByteArray := prog_14_method_46_code
def yX12_greatestPower : MethodName := ⟨RX12, "greatestPower", "(I)I"⟩
abbrev cX12_canMake : ByteArray := prog_14_method_47_code
def yX12_canMake : MethodName := ⟨RX12, "canMake", "(II)Z"⟩
abbrev cX12_makes : ByteArray := prog_14_method_48_code
def yX12_makes : MethodName := ⟨RX12, "makes", "(III)I"⟩
abbrev cX12_inverseOf : ByteArray := prog_14_method_49_code
def yX12_inverseOf : MethodName := ⟨RX12, "inverseOf", "(I)I"⟩
abbrev cX12_laysMatrix : ByteArray := prog_14_method_50_code
def yX12_laysMatrix : MethodName := ⟨RX12, "laysMatrix", "(II)V"⟩
abbrev cX12_addsRow : ByteArray := prog_14_method_51_code
def yX12_addsRow : MethodName := ⟨RX12, "addsRow", "(III)V"⟩
abbrev cX12_isFree : ByteArray := prog_14_method_52_code
def yX12_isFree : MethodName := ⟨RX12, "isFree", "(II)Z"⟩
abbrev cX12_kernel : ByteArray := prog_14_method_53_code
def yX12_kernel : MethodName := ⟨RX12, "kernel", "(II)I"⟩
abbrev cX12_kills : ByteArray := prog_14_method_54_code
def yX12_kills : MethodName := ⟨RX12, "kills", "(II)I"⟩
abbrev cX12_findsLeads : ByteArray := prog_14_method_55_code
def yX12_findsLeads : MethodName := ⟨RX12, "findsLeads", "()V"⟩
abbrev cX12_isBelow : ByteArray := prog_14_method_56_code
def yX12_isBelow : MethodName := ⟨RX12, "isBelow", "(II)Z"⟩
abbrev cX12_firstBelow : ByteArray := prog_14_method_57_code
def yX12_firstBelow : MethodName := ⟨RX12, "firstBelow", "(I)I"⟩
abbrev cX12_rests : ByteArray := prog_14_method_58_code
def yX12_rests : MethodName := ⟨RX12, "rests", "(I)V"⟩
abbrev cX12_isSet : ByteArray := prog_14_method_59_code
def yX12_isSet : MethodName := ⟨RX12, "isSet", "(I)Z"⟩
abbrev cX12_rest : ByteArray := prog_14_method_60_code
def yX12_rest : MethodName := ⟨RX12, "rest", "(III)I"⟩
abbrev cX12_evens : ByteArray := prog_14_method_61_code
def yX12_evens : MethodName := ⟨RX12, "evens", "(I)V"⟩
abbrev cX12_areAlike : ByteArray := prog_14_method_62_code
def yX12_areAlike : MethodName := ⟨RX12, "areAlike", "(II)Z"⟩
abbrev cX12_rowGoes : ByteArray := prog_14_method_63_code
def yX12_rowGoes : MethodName := ⟨RX12, "rowGoes", "(I)V"⟩
abbrev cX12_takesBy : ByteArray := prog_14_method_64_code
def yX12_takesBy : MethodName := ⟨RX12, "takesBy", "(I)V"⟩
abbrev cX12_tidies : ByteArray := prog_14_method_65_code
def yX12_tidies : MethodName := ⟨RX12, "tidies", "()V"⟩
abbrev cX12_isAhead : ByteArray := prog_14_method_66_code
def yX12_isAhead : MethodName := ⟨RX12, "isAhead", "(II)Z"⟩
abbrev cX12_exchanges : ByteArray := prog_14_method_67_code
def yX12_exchanges : MethodName := ⟨RX12, "exchanges", "(II)V"⟩
abbrev cX12_sorts : ByteArray := prog_14_method_68_code
def yX12_sorts : MethodName := ⟨RX12, "sorts", "(Z)V"⟩
abbrev cX12_crosses : ByteArray := prog_14_method_69_code
def yX12_crosses : MethodName := ⟨RX12, "crosses", "(II)V"⟩
abbrev cX12_isOneMore : ByteArray := prog_14_method_70_code
def yX12_isOneMore : MethodName := ⟨RX12, "isOneMore", "()Z"⟩
abbrev cX12_laysBasis : ByteArray := prog_14_method_71_code
def yX12_laysBasis : MethodName := ⟨RX12, "laysBasis", "(I)V"⟩
abbrev cX12_isSmall : ByteArray := prog_14_method_72_code
def yX12_isSmall : MethodName := ⟨RX12, "isSmall", "(I)Z"⟩
abbrev cX12_basis : ByteArray := prog_14_method_73_code
def yX12_basis : MethodName := ⟨RX12, "basis", "(I)I"⟩
abbrev cX12_based : ByteArray := prog_14_method_74_code
def yX12_based : MethodName := ⟨RX12, "based", "(IIII)I"⟩
abbrev cX12_stairs : ByteArray := prog_14_method_75_code
def yX12_stairs : MethodName := ⟨RX12, "stairs", "(II)I"⟩
abbrev cX12_within : ByteArray := prog_14_method_76_code
def yX12_within : MethodName := ⟨RX12, "within", "(II)I"⟩
abbrev cX12_type : ByteArray := prog_14_method_77_code
def yX12_type : MethodName := ⟨RX12, "type", "(I)I"⟩
abbrev cX12_clear : ByteArray := prog_14_method_78_code
def yX12_clear : MethodName := ⟨RX12, "clear", "()I"⟩
abbrev cX12_isAt : ByteArray := prog_14_method_79_code
def yX12_isAt : MethodName := ⟨RX12, "isAt", "(II)Z"⟩
abbrev cX12_blanks : ByteArray := prog_14_method_80_code
def yX12_blanks : MethodName := ⟨RX12, "blanks", "()V"⟩
abbrev cX12_fails : ByteArray := prog_14_method_81_code
def yX12_fails : MethodName := ⟨RX12, "fails", "(I)Z"⟩
abbrev cX12_opens : ByteArray := prog_14_method_82_code
def yX12_opens : MethodName := ⟨RX12, "opens", "()V"⟩
abbrev cX12_closes : ByteArray := prog_14_method_83_code
def yX12_closes : MethodName := ⟨RX12, "closes", "()V"⟩
abbrev cX12_takes : ByteArray := prog_14_method_84_code
def yX12_takes : MethodName := ⟨RX12, "takes", "(I)V"⟩
abbrev cX12_takesFigures : ByteArray := prog_14_method_85_code
def yX12_takesFigures : MethodName := ⟨RX12, "takesFigures", "(I)Z"⟩
abbrev cX12_takesPower : ByteArray := prog_14_method_86_code
def yX12_takesPower : MethodName := ⟨RX12, "takesPower", "()Z"⟩
abbrev cX12_values : ByteArray := prog_14_method_87_code
def yX12_values : MethodName := ⟨RX12, "values", "(III)V"⟩
abbrev cX12_takesFactor : ByteArray := prog_14_method_88_code
def yX12_takesFactor : MethodName := ⟨RX12, "takesFactor", "()Z"⟩
abbrev cX12_takesSign : ByteArray := prog_14_method_89_code
def yX12_takesSign : MethodName := ⟨RX12, "takesSign", "()Z"⟩
abbrev cX12_isRead : ByteArray := prog_14_method_90_code
def yX12_isRead : MethodName := ⟨RX12, "isRead", "(Z)Z"⟩
abbrev cX12_reads : ByteArray := prog_14_method_91_code
def yX12_reads : MethodName := ⟨RX12, "reads", "(I)I"⟩
abbrev cX12_writes : ByteArray := prog_14_method_92_code
def yX12_writes : MethodName := ⟨RX12, "writes", "(I)V"⟩
abbrev cX12_writesNumber : ByteArray := prog_14_method_93_code
def yX12_writesNumber : MethodName := ⟨RX12, "writesNumber", "(I)V"⟩
abbrev cX12_writesLetter : ByteArray := prog_14_method_94_code
def yX12_writesLetter : MethodName := ⟨RX12, "writesLetter", "(II)V"⟩
abbrev cX12_writesTerm : ByteArray := prog_14_method_95_code
def yX12_writesTerm : MethodName := ⟨RX12, "writesTerm", "(II)V"⟩
abbrev cX12_laysLine : ByteArray := prog_14_method_96_code
def yX12_laysLine : MethodName := ⟨RX12, "laysLine", "(I)V"⟩
abbrev cX12_shown : ByteArray := prog_14_method_97_code
def yX12_shown : MethodName := ⟨RX12, "shown", "(II)I"⟩
abbrev cX12_toldOf : ByteArray := prog_14_method_98_code
def yX12_toldOf : MethodName := ⟨RX12, "toldOf", "(I)I"⟩
abbrev cX12_told : ByteArray := prog_14_method_99_code
def yX12_told : MethodName := ⟨RX12, "told", "(I)I"⟩
abbrev cX12_mix : ByteArray := prog_14_method_100_code
def yX12_mix : MethodName := ⟨RX12, "mix", "(J)V"⟩
abbrev cX12_digest : ByteArray := prog_14_method_101_code
def yX12_digest : MethodName := ⟨RX12, "digest", "()J"⟩
def RJ9 : String := "java/lang/Math"
abbrev cJ9_floorMod_7cf53 : ByteArray := prog_15_method_50_code
def yJ9_floorMod_7cf53 : MethodName := ⟨RJ9, "floorMod", "(II)I"⟩
abbrev cJ9_abs_0f7a4 : ByteArray := prog_15_method_59_code
def yJ9_abs_0f7a4 : MethodName := ⟨RJ9, "abs", "(I)I"⟩
abbrev cJ9_max_7cf53 : ByteArray := prog_15_method_65_code
def yJ9_max_7cf53 : MethodName := ⟨RJ9, "max", "(II)I"⟩
abbrev cJ9_min_7cf53 : ByteArray := prog_15_method_69_code
def yJ9_min_7cf53 : MethodName := ⟨RJ9, "min", "(II)I"⟩
def RJ10 : String := "java/lang/System"
def RJ7 : String := "java/util/Arrays"
abbrev cJ7_fill_53178 : ByteArray := prog_17_method_103_code
def yJ7_fill_53178 : MethodName := ⟨RJ7, "fill", "([II)V"⟩
def RL : String := "WeylWordsLaw"
abbrev cL_law : ByteArray := code
def yL_law : MethodName := ⟨RL, "law", "([I)Z"⟩
abbrev vwCl : List vw_C := [(RX0, TX0, 3), (RX1, TX1, 3), (RX2, TX2, 6), (RX3, TX3, 11), (RX4, TX4, 8), (RX5, TX5, 3), (RX6, TX6, 1), (RX7, TX7, 7), (RX8, TX8, 3), (RX9, TX9, 4), (RX10, TX10, 2), (RX11, TX11, 13), (RX12, TX12, 31)]
end
section
/-! AN ABSTRACT MACHINE: numbers without wrap, references as places in a list of cells, control as a tree.
    What it computes, the machine does (part 04); all later reasoning is about it alone. -/
abbrev am_V : Type := Int ⊕ Option Nat ⊕ Int64 ⊕ Unit
abbrev vI (x : Int) : am_V := Sum.inl x
abbrev vR (a : Nat) : am_V := Sum.inr (Sum.inl (some a))
abbrev vN : am_V := Sum.inr (Sum.inl none)
abbrev vL (x : Int64) : am_V := Sum.inr (Sum.inr (Sum.inl x))
abbrev vU : am_V := Sum.inr (Sum.inr (Sum.inr ()))
/-- a cell: its kind (0 to 12: an object, 20 to 25: a row, 30: a row that is read only, 99: none), its length, what it holds -/
abbrev am_C : Type := Nat × Nat × (Nat → am_V)
abbrev am_H : Type := Nat × (Nat → am_C)
/-- names, stack, cells -/
abbrev am_S : Type := List am_V × List am_V × am_H
abbrev am_I : Type := Instr × Nat × Nat × Nat
abbrev am_G : Type := Nat → List am_V → am_H → Option (List am_V × am_H)
def au {α : Type} (f : Nat → α) (k : Nat) (v : α) : Nat → α := fun j => if j = k then v else f j
theorem au_s {α : Type} (f : Nat → α) (k : Nat) (v : α) : au f k v k = v := if_pos rfl
theorem au_n {α : Type} (f : Nat → α) {k j : Nat} (v : α) (h : j ≠ k) : au f k v j = f j := if_neg h
def lget : List am_V → Nat → am_V
  | [], _ => vU
  | a :: _, 0 => a
  | _ :: l, n + 1 => lget l n
abbrev inR (x : Int) : Prop := -2147483648 ≤ x ∧ x ≤ 2147483647
def am_cat (v : am_V) : Nat := match v with
  | .inr (.inr (.inl _)) => 2
  | _ => 1
def am_cats : List am_V → Nat
  | [] => 0
  | v :: r => am_cat v + am_cats r
def defV : FieldType → am_V
  | .int => vI 0
  | .boolean => vI 0
  | .long => vL 0
  | .object _ => vN
  | .array _ => vN
  | _ => vU
def am_ty (c : Nat) : Nat → FieldType := match c with
  | 0 => tyX0 | 1 => tyX1 | 2 => tyX2 | 3 => tyX3 | 4 => tyX4 | 5 => tyX5 | 6 => tyX6 | 7 => tyX7 | 8 => tyX8 | 9 => tyX9 | 10 => tyX10 | 11 => tyX11 | _ => tyX12
def am_n (c : Nat) : Nat := match c with
  | 0 => 3 | 1 => 3 | 2 => 6 | 3 => 11 | 4 => 8 | 5 => 3 | 6 => 1 | 7 => 7 | 8 => 3 | 9 => 4 | 10 => 2 | 11 => 13 | _ => 31
/-- which kind of value a field takes: 0 int, 1 boolean, 2 long, 3 a reference -/
def am_fk : FieldType → Nat
  | .int => 0
  | .boolean => 1
  | .long => 2
  | .object _ => 3
  | .array _ => 3
  | _ => 9
def am_fit (k : Nat) (v : am_V) : Bool := match k, v with
  | 0, .inl _ => true
  | 1, .inl x => decide (x = 0 ∨ x = 1)
  | 2, .inr (.inr (.inl _)) => true
  | 3, .inr (.inl (some _)) => true
  | _, _ => false
/-- the kind of what a row of references holds -/
def am_el (t : Nat) : Nat := match t with
  | 22 => 20 | 23 => 6 | 24 => 8 | 25 => 2 | _ => 99
def am_st (ls : List am_V) (i : Nat) (v : am_V) : Option (List am_V) := match i with
  | 0 => some (ls.set 0 v)
  | j + 1 => if am_cat (lget ls j) = 1 then some (ls.set (j + 1) v) else none
def am_put (h : am_H) (a : Nat) (c : am_C) : am_H := (h.1, au h.2 a c)
def am_new (h : am_H) (c : am_C) : am_H := (h.1 + 1, au h.2 h.1 c)
/-- a row of n rows of k ints, all new: the row first -/
def am_rows (n k : Nat) (h : am_H) : am_H := (h.1 + 1 + n, fun j => if j = h.1 then (22, n, fun i => vR (h.1 + 1 + i)) else if h.1 + 1 ≤ j ∧ j < h.1 + 1 + n then (20, k, fun _ => vI 0) else h.2 j)
/-- whether what is called is an object of that kind -/
def am_rc (c : Nat) (h : am_H) (as : List am_V) : Bool := match as with
  | .inr (.inl (some a)) :: _ => decide ((h.2 a).1 = c)
  | _ => false
def am_inv (G : am_G) (r : Bool) (k n c : Nat) (x : am_S) : Option am_S :=
  if n ≤ x.2.1.length ∧ am_cats (x.2.1.drop n) ≤ 8 ∧ (r = true → am_rc c x.2.2 (x.2.1.take n).reverse = true) then
    (G k (x.2.1.take n).reverse x.2.2).map fun q => (x.1, q.1 ++ x.2.1.drop n, q.2)
  else none
def am_cpy (f g : Nat → am_V) (sp dp n : Nat) : Nat → am_V := fun j => if dp ≤ j ∧ j < dp + n then f (sp + (j - dp)) else g j
/-- System.arraycopy over rows of ints -/
def am_copy (x : am_S) : Option am_S := match x with
  | (ls, .inl n :: .inl dp :: .inr (.inl (some d)) :: .inl sp :: .inr (.inl (some s)) :: st, h) =>
    if (h.2 s).1 = 20 ∧ (h.2 d).1 = 20 ∧ 0 ≤ sp ∧ 0 ≤ dp ∧ 0 ≤ n ∧ sp + n ≤ (h.2 s).2.1 ∧ dp + n ≤ (h.2 d).2.1 ∧ (h.2 s).2.1 ≤ 100000 ∧ (h.2 d).2.1 ≤ 100000 ∧ am_cats st ≤ 8 then
      some (ls, st, am_put h d (20, (h.2 d).2.1, am_cpy (h.2 s).2.2 (h.2 d).2.2 sp.toNat dp.toNat n.toNat))
    else none
  | _ => none
def am_ldi (i : Nat) (x : am_S) : Option am_S := match lget x.1 i with
  | .inl v => some (x.1, vI v :: x.2.1, x.2.2)
  | _ => none
def am_lda (i : Nat) (x : am_S) : Option am_S := match lget x.1 i with
  | .inr (.inl (some v)) => some (x.1, vR v :: x.2.1, x.2.2)
  | _ => none
def am_ldl (i : Nat) (x : am_S) : Option am_S := match lget x.1 i with
  | .inr (.inr (.inl v)) => some (x.1, vL v :: x.2.1, x.2.2)
  | _ => none
def am_sti (i : Nat) (x : am_S) : Option am_S := match x with
  | (ls, .inl v :: st, h) => (am_st ls i (vI v)).map fun q => (q, st, h)
  | _ => none
def am_sta (i : Nat) (x : am_S) : Option am_S := match x with
  | (ls, .inr (.inl (some v)) :: st, h) => (am_st ls i (vR v)).map fun q => (q, st, h)
  | _ => none
def am_stl (i : Nat) (x : am_S) : Option am_S := match x with
  | (ls, .inr (.inr (.inl v)) :: st, h) => (am_st ls i (vL v)).map fun q => (q.set (i + 1) vU, st, h)
  | _ => none
def am_b2 (f : Int → Int → Int) (x : am_S) : Option am_S := match x with
  | (ls, .inl b :: .inl a :: st, h) => some (ls, vI (f a b) :: st, h)
  | _ => none
/-- division, rest, shift, mask: where the numbers must be in their range -/
def am_b3 (ok : Int → Int → Bool) (f : Int → Int → Int) (x : am_S) : Option am_S := match x with
  | (ls, .inl b :: .inl a :: st, h) => if inR a ∧ inR b ∧ ok a b = true then some (ls, vI (f a b) :: st, h) else none
  | _ => none
def am_aload (t : Nat → Bool) (x : am_S) : Option am_S := match x with
  | (ls, .inl i :: .inr (.inl (some a)) :: st, h) => if t (h.2 a).1 = true ∧ 0 ≤ i ∧ i < (h.2 a).2.1 ∧ (h.2 a).2.1 ≤ 100000 then some (ls, (h.2 a).2.2 i.toNat :: st, h) else none
  | _ => none
def am_I1 (G : am_G) (ai : am_I) (x : am_S) : Option am_S := match ai.1 with
  | .iconst n => some (x.1, vI n :: x.2.1, x.2.2)
  | .bipush n => some (x.1, vI n :: x.2.1, x.2.2)
  | .sipush n => some (x.1, vI n :: x.2.1, x.2.2)
  | .ldc _ => some (x.1, vI ai.2.1 :: x.2.1, x.2.2)
  | .ldc2_w _ => some (x.1, vL (Int64.ofNat ai.2.1) :: x.2.1, x.2.2)
  | .iload i => am_ldi i x
  | .iload_n i => am_ldi i.val x
  | .aload i => am_lda i x
  | .aload_n i => am_lda i.val x
  | .lload_n i => am_ldl i.val x
  | .istore i => am_sti i x
  | .istore_n i => am_sti i.val x
  | .astore i => am_sta i x
  | .astore_n i => am_sta i.val x
  | .lstore_n i => am_stl i.val x
  | .iinc i n => match lget x.1 i with
    | .inl v => (am_st x.1 i (vI (v + n))).map fun q => (q, x.2.1, x.2.2)
    | _ => none
  | .dup => match x with
    | (ls, v :: st, h) => if am_cat v = 1 then some (ls, v :: v :: st, h) else none
    | _ => none
  | .pop => match x with
    | (ls, v :: st, h) => if am_cat v = 1 then some (ls, st, h) else none
    | _ => none
  | .iadd => am_b2 (· + ·) x
  | .isub => am_b2 (· - ·) x
  | .imul => am_b2 (· * ·) x
  | .ineg => match x with
    | (ls, .inl a :: st, h) => some (ls, vI (- a) :: st, h)
    | _ => none
  | .idiv => am_b3 (fun _ b => decide (0 < b)) Int.tdiv x
  | .irem => am_b3 (fun _ b => decide (0 < b)) Int.tmod x
  | .ishr => am_b3 (fun _ b => decide (0 ≤ b ∧ b < 32)) (fun a b => a / 2 ^ b.toNat) x
  | .iand => am_b3 (fun _ b => decide (b = 1 ∨ b = 31)) (fun a b => a % (b + 1)) x
  | .ixor => am_b2 (fun a b => (Int32.ofInt a ^^^ Int32.ofInt b).toInt) x
  | .i2l => match x with
    | (ls, .inl a :: st, h) => if inR a then some (ls, vL (Int64.ofInt a) :: st, h) else none
    | _ => none
  | .ladd => match x with
    | (ls, .inr (.inr (.inl b)) :: .inr (.inr (.inl a)) :: st, h) => some (ls, vL (a + b) :: st, h)
    | _ => none
  | .lmul => match x with
    | (ls, .inr (.inr (.inl b)) :: .inr (.inr (.inl a)) :: st, h) => some (ls, vL (a * b) :: st, h)
    | _ => none
  | .lcmp => match x with
    | (ls, .inr (.inr (.inl b)) :: .inr (.inr (.inl a)) :: st, h) => some (ls, vI (lg_cmp a b).toInt :: st, h)
    | _ => none
  | .getfield _ => match x with
    | (ls, .inr (.inl (some a)) :: st, h) => if (h.2 a).1 = ai.2.1 then some (ls, (h.2 a).2.2 ai.2.2.1 :: st, h) else none
    | _ => none
  | .putfield _ => match x with
    | (ls, v :: .inr (.inl (some a)) :: st, h) => if (h.2 a).1 = ai.2.1 ∧ am_fit ai.2.2.2 v = true then some (ls, st, am_put h a (ai.2.1, (h.2 a).2.1, au (h.2 a).2.2 ai.2.2.1 v)) else none
    | _ => none
  | .getstatic _ => some (x.1, vR ai.2.1 :: x.2.1, x.2.2)
  | .iaload => am_aload (fun t => t == 20 || t == 30) x
  | .baload => am_aload (fun t => t == 21) x
  | .aaload => am_aload (fun t => decide (22 ≤ t ∧ t ≤ 25)) x
  | .iastore => match x with
    | (ls, .inl v :: .inl i :: .inr (.inl (some a)) :: st, h) => if (h.2 a).1 = 20 ∧ 0 ≤ i ∧ i < (h.2 a).2.1 ∧ (h.2 a).2.1 ≤ 100000 then some (ls, st, am_put h a (20, (h.2 a).2.1, au (h.2 a).2.2 i.toNat (vI v))) else none
    | _ => none
  | .bastore => match x with
    | (ls, .inl v :: .inl i :: .inr (.inl (some a)) :: st, h) => if (h.2 a).1 = 21 ∧ 0 ≤ i ∧ i < (h.2 a).2.1 ∧ (h.2 a).2.1 ≤ 100000 ∧ (v = 0 ∨ v = 1) then some (ls, st, am_put h a (21, (h.2 a).2.1, au (h.2 a).2.2 i.toNat (vI v))) else none
    | _ => none
  | .aastore => match x with
    | (ls, .inr (.inl (some v)) :: .inl i :: .inr (.inl (some a)) :: st, h) => if 22 ≤ (h.2 a).1 ∧ (h.2 a).1 ≤ 25 ∧ (h.2 v).1 = am_el (h.2 a).1 ∧ 0 ≤ i ∧ i < (h.2 a).2.1 ∧ (h.2 a).2.1 ≤ 100000 then some (ls, st, am_put h a ((h.2 a).1, (h.2 a).2.1, au (h.2 a).2.2 i.toNat (vR v))) else none
    | _ => none
  | .arraylength => match x with
    | (ls, .inr (.inl (some a)) :: st, h) => if (h.2 a).1 = 20 ∨ (h.2 a).1 = 30 then some (ls, vI (h.2 a).2.1 :: st, h) else none
    | _ => none
  | .newarray _ => match x with
    | (ls, .inl n :: st, h) => if 0 ≤ n ∧ n ≤ 100000 then some (ls, vR h.1 :: st, am_new h (ai.2.1, n.toNat, fun _ => vI 0)) else none
    | _ => none
  | .anewarray _ => match x with
    | (ls, .inl n :: st, h) => if 0 ≤ n ∧ n ≤ 100000 then some (ls, vR h.1 :: st, am_new h (ai.2.1, n.toNat, fun _ => vN)) else none
    | _ => none
  | .multianewarray _ _ => match x with
    | (ls, .inl k :: .inl n :: st, h) => if 0 < n ∧ n ≤ 1000 ∧ 0 ≤ k ∧ k ≤ 1000 then some (ls, vR h.1 :: st, am_rows n.toNat k.toNat h) else none
    | _ => none
  | .new _ => some (x.1, vR x.2.2.1 :: x.2.1, am_new x.2.2 (ai.2.1, am_n ai.2.1, fun k => defV (am_ty ai.2.1 k)))
  | .invokevirtual _ => am_inv G true ai.2.1 ai.2.2.1 ai.2.2.2 x
  | .invokespecial _ => if ai.2.1 = 998 then (match x with
    | (ls, .inr (.inl (some _)) :: st, h) => if am_cats st ≤ 8 then some (ls, st, h) else none
    | _ => none) else am_inv G true ai.2.1 ai.2.2.1 ai.2.2.2 x
  | .invokestatic _ => if ai.2.1 = 999 then am_copy x else am_inv G false ai.2.1 ai.2.2.1 ai.2.2.2 x
  | _ => none
def am_L (G : am_G) : List am_I → am_S → Option am_S
  | [], x => some x
  | i :: r, x => (am_I1 G i x).bind (am_L G r)
def am_cmp (c : Jvm.ClassFile.Cond) (a b : Int) : Bool := match c with
  | .eq => decide (a = b)
  | .ne => decide (a ≠ b)
  | .lt => decide (a < b)
  | .ge => decide (b ≤ a)
  | .gt => decide (b < a)
  | .le => decide (a ≤ b)
/-- what ends a stretch: 0 goes on behind it, 1 returns, t + 2 goes to t -/
def am_t (i : Instr) (ts : List Nat) (x : am_S) : Option (Nat × am_S) := match i with
  | .goto _ => some (ts.headD 0 + 2, x)
  | .ifCond c _ => match x with
    | (ls, .inl a :: st, h) => if inR a then some (if am_cmp c a 0 = true then ts.headD 0 + 2 else 0, ls, st, h) else none
    | _ => none
  | .if_icmp c _ => match x with
    | (ls, .inl b :: .inl a :: st, h) => if inR a ∧ inR b then some (if am_cmp c a b = true then ts.headD 0 + 2 else 0, ls, st, h) else none
    | _ => none
  | .tableswitch _ lo hi _ => match x with
    | (ls, .inl a :: st, h) => if inR a then some ((if lo ≤ a ∧ a ≤ hi then ts.getD ((a - lo).toNat + 1) 0 else ts.headD 0) + 2, ls, st, h) else none
    | _ => none
  | .ireturn => match x with
    | (ls, [.inl a], h) => if ts.headD 0 = 0 ∨ a = 0 ∨ a = 1 then some (1, ls, [vI a], h) else none
    | _ => none
  | .lreturn => match x with
    | (ls, [.inr (.inr (.inl a))], h) => some (1, ls, [vL a], h)
    | _ => none
  | .areturn => match x with
    | (ls, [.inr (.inl (some a))], h) => some (1, ls, [vR a], h)
    | _ => none
  | .return_ => match x with
    | (ls, [], h) => some (1, ls, [], h)
    | _ => none
  | _ => none
def am_lp (f : am_S → Option (Nat × am_S)) (L : Nat) : Nat → am_S → Option (Nat × am_S)
  | 0, _ => none
  | n + 1, x => (f x).bind fun r => if r.1 = L + 2 then am_lp f L n r.2 else some r
abbrev am_T : Type := Lean.RArray (List am_I × Option (Instr × List Nat))
/-- how often a loop may go round -/
abbrev am_F : Nat := 100000000
def am_ev (G : am_G) : am_T → am_S → Option (Nat × am_S)
  | .leaf q, x => (am_L G q.1 x).bind fun y => match q.2 with
    | none => some (0, y)
    | some r => am_t r.1 r.2 y
  | .branch 0 a b, x => (am_ev G a x).bind fun r => if r.1 = 0 then am_ev G b r.2 else some r
  | .branch (n + 1) a _, x => if n % 2 = 0 then (am_ev G a x).map fun r => if r.1 = n / 2 + 2 then (0, r.2) else r
    else am_lp (am_ev G a) (n / 2) am_F x
/-- a stretch; a stretch with its end; one behind another; one whose ways out to L end behind it; one whose ways to L go round -/
abbrev tS (is : List am_I) : am_T := .leaf (is, none)
abbrev tB (is : List am_I) (i : Instr) (ts : List Nat) : am_T := .leaf (is, some (i, ts))
abbrev tQ (a b : am_T) : am_T := .branch 0 a b
abbrev tK (L : Nat) (a : am_T) : am_T := .branch (2 * L + 1) a (.leaf ([], none))
abbrev tW (L : Nat) (a : am_T) : am_T := .branch (2 * L + 2) a (.leaf ([], none))
theorem ev_S (G : am_G) (is : List am_I) (x : am_S) : am_ev G (tS is) x = (am_L G is x).bind fun y => some (0, y) := rfl
theorem ev_B (G : am_G) (is : List am_I) (i : Instr) (ts : List Nat) (x : am_S) : am_ev G (tB is i ts) x = (am_L G is x).bind (am_t i ts) := rfl
theorem ev_Q (G : am_G) (a b : am_T) (x : am_S) : am_ev G (tQ a b) x = (am_ev G a x).bind fun r => if r.1 = 0 then am_ev G b r.2 else some r := rfl
theorem ev_K (G : am_G) (L : Nat) (a : am_T) (x : am_S) : am_ev G (tK L a) x = (am_ev G a x).map fun r => if r.1 = L + 2 then (0, r.2) else r := by
  show (if 2 * L % 2 = 0 then (am_ev G a x).map (fun r => if r.1 = 2 * L / 2 + 2 then (0, r.2) else r) else _) = _
  rw [if_pos (by omega), show 2 * L / 2 = L by omega]
theorem ev_W (G : am_G) (L : Nat) (a : am_T) (x : am_S) : am_ev G (tW L a) x = am_lp (am_ev G a) L am_F x := by
  show (if (2 * L + 1) % 2 = 0 then (am_ev G a x).map (fun r => if r.1 = (2 * L + 1) / 2 + 2 then (0, r.2) else r) else am_lp (am_ev G a) ((2 * L + 1) / 2) am_F x) = _
  rw [if_neg (by omega), show (2 * L + 1) / 2 = L by omega]
/-- a method: the name of what it belongs to, its own name, its bytes, how many names it has, what it returns, its tree -/
abbrev am_M : Type := String × MethodName × ByteArray × Nat × Option FieldType × am_T
def am_lay : List am_V → List am_V
  | [] => []
  | .inr (.inr (.inl v)) :: r => vL v :: vU :: am_lay r
  | v :: r => v :: am_lay r
def am_in (as : List am_V) (n : Nat) : List am_V := am_lay as ++ List.replicate (n - (am_lay as).length) vU
def am_run (tb : Nat → Option am_M) : Nat → am_G
  | 0 => fun _ _ _ => none
  | d + 1 => fun k as h => (tb k).bind fun q => if (am_lay as).length ≤ q.2.2.2.1 then
      (am_ev (am_run tb d) q.2.2.2.2.2 (am_in as q.2.2.2.1, [], h)).bind fun r => if r.1 = 1 then some (r.2.2.1, r.2.2.2) else none
    else none
end
section
/-! How the abstract machine's states stand for the machine's. -/
abbrev am_Z : Type := Nat × Nat × Nat × Nat
/-- the address of a place: three rows that are read only, then what is made, one behind another -/
def am_rho (z : am_Z) (k : Nat) : Nat := if k = 0 then z.1 else if k = 1 then z.2.1 else if k = 2 then z.2.2.1 else z.2.2.2 + (k - 3)
def am_rv (z : am_Z) (v : am_V) : Value := match v with
  | .inl x => .int (Int32.ofInt x)
  | .inr (.inl none) => .null
  | .inr (.inl (some k)) => .ref (am_rho z k)
  | .inr (.inr (.inl x)) => .long x
  | .inr (.inr (.inr _)) => .null
theorem am_rv_cat (z : am_Z) (v : am_V) : (am_rv z v).category = am_cat v := by
  rcases v with x | (_ | k) | x | x <;> rfl
theorem am_cats_eq (z : am_Z) (st : List am_V) : ((st.map (am_rv z)).map fun v => v.category).sum = am_cats st := by
  induction st with
  | nil => rfl
  | cons v r ih =>
    simp only [List.map_cons, List.sum_cons, am_cats, am_rv_cat]
    rw [ih]
theorem i32_of {x : Int} (h : inR x) : (Int32.ofInt x).toInt = x := Int32.toInt_ofInt_of_le (by have := h.1; omega) (by have := h.2; omega)
theorem i32_nat {x : Int} (h0 : 0 ≤ x) (h1 : x ≤ 2147483647) : (Int32.ofInt x).toNatClampNeg = x.toNat := by
  show (Int32.ofInt x).toInt.toNat = x.toNat
  rw [i32_of ⟨by omega, h1⟩]
theorem i32_eq {x y : Int} (hx : inR x) (hy : inR y) : Int32.ofInt x = Int32.ofInt y ↔ x = y := by
  rw [← Int32.toInt_inj, i32_of hx, i32_of hy]
theorem i32_le {x y : Int} (hx : inR x) (hy : inR y) : Int32.ofInt x ≤ Int32.ofInt y ↔ x ≤ y := by
  rw [Int32.le_iff_toInt_le, i32_of hx, i32_of hy]
theorem i32_lt {x y : Int} (hx : inR x) (hy : inR y) : Int32.ofInt x < Int32.ofInt y ↔ x < y := by
  rw [Int32.lt_iff_toInt_lt, i32_of hx, i32_of hy]
theorem i32_0 : (0 : Int32) = Int32.ofInt 0 := rfl
theorem inR_0 : inR 0 := by decide
theorem i32_idx {i : Int} {n : Nat} (h0 : 0 ≤ i) (h1 : i < n) (hn : n ≤ 100000) : ¬ (Int32.ofInt i < 0 ∨ n ≤ (Int32.ofInt i).toNatClampNeg) := by
  have hr : inR i := ⟨by omega, by omega⟩
  rw [i32_nat h0 (by omega), i32_0, i32_lt hr inR_0]
  omega
theorem i32_div {a b : Int} (ha : inR a) (hb : inR b) (h : 0 < b) : Int32.ofInt (Int.tdiv a b) = Int32.ofInt a / Int32.ofInt b :=
  Int32.ofInt_tdiv (by have := ha.1; show (-2147483648 : Int) ≤ a; omega) (by have := ha.2; show a ≤ (2147483647 : Int); omega) (by show (-2147483648 : Int) ≤ b; omega) (by have := hb.2; show b ≤ (2147483647 : Int); omega)
theorem i32_rem {a b : Int} (ha : inR a) (hb : inR b) (h : 0 < b) : Int32.ofInt a - Int32.ofInt a / Int32.ofInt b * Int32.ofInt b = Int32.ofInt (Int.tmod a b) := by
  rw [← i32_div ha hb h, ← Int32.ofInt_mul, ← Int32.ofInt_sub]
  congr 1
  have := Int.tmod_add_mul_tdiv a b
  rw [Int.mul_comm] at this
  omega
/-- the types of the rows -/
def am_at (t : Nat) : FieldType := match t with
  | 20 => .int | 21 => .boolean | 22 => .array .int | 23 => .object "WeylWords$Operator" | 24 => .object "WeylWords$State" | _ => .object "WeylWords$Basis"
/-- the name of what a row of references holds -/
def am_cn (t : Nat) : String := match t with
  | 22 => "[I" | 23 => "WeylWords$Operator" | 24 => "WeylWords$State" | _ => "WeylWords$Basis"
def am_KA (s : State) (t : Nat) (cA : ClassId) : Prop := s.vm.findClass ("[" ++ (am_at t).toString) = some cA ∧ ∃ (kA : Class) (comp : ClassId), s.vm.classes[cA]? = some kA ∧ kA.kind = .array comp (am_at t) ∧ (22 ≤ t → s.vm.findClass (am_cn t) = some comp)
abbrev am_D : Type := am_Z × (Nat → ClassId) × (Nat → Nat → Nat) × (Nat → ClassId)
/-- the words that aren't kept by themselves -/
def am_kw : Cond → Bool
  | .arrayOver (.object _) => true
  | .arrayOver (.array _) => true
  | .methodLinkNest .. => true
  | _ => false
def am_Kw (s : State) : Prop := ∀ w ∈ lw_tbl, am_kw w = true → va_Nw w s
def lw_good : List Cond := lw_tbl.filter goodWord
theorem lw_good_of {w : Cond} (h : w ∈ lw_tbl) (hg : goodWord w = true) : w ∈ lw_good := List.mem_filter.mpr ⟨h, hg⟩
theorem am_goodIn {w0 : Cond} (h : w0 ∈ lw_tbl) (hg : goodWord w0 = true) : GoodIn lw_good (w0 :: lw_good) := by
  intro w hw
  have hm : w ∈ lw_good := by
    rcases List.mem_cons.mp hw with q | q
    · rw [q]; exact lw_good_of h hg
    · exact q
  exact ⟨hm, good_of_word (List.mem_filter.mp hm).2⟩
theorem am_Kw.warm {s U : State} (hW : s.WarmedH U.vm) (h : am_Kw s) : am_Kw U := by
  intro w hw hk
  have h1 := h w hw hk
  cases w <;> try cases hk
  case arrayOver t =>
    cases t <;> try cases hk
    case object C => exact va_AO.moved hW.alike h1
    case array t => exact over_moved hW.alike h1
  case methodLinkNest a i x b => exact va_Nw.warmM hW h1
theorem am_Kw.same {s U : State} (hv : s.vm = U.vm) (h : am_Kw s) : am_Kw U := by
  intro w hw hk
  have h1 := h w hw hk
  have ha : s.vm.Alike U.vm := by rw [hv]; exact Vm.Alike.refl _
  cases w <;> try cases hk
  case arrayOver t =>
    cases t <;> try cases hk
    case object C => exact va_AO.moved ha h1
    case array t => exact over_moved ha h1
  case methodLinkNest a i x b => exact va_Nw.same rfl hv h1
def am_K (D : am_D) (s : State) : Prop := va_K (D.2.1, D.2.2.1) vwCl [] s ∧ (∀ t, 20 ≤ t → t ≤ 25 → am_KA s t (D.2.2.2 t)) ∧ am_Kw s
def am_ce (D : am_D) (s : State) (x : am_C) (r : Cell) : Prop :=
  (x.1 < 13 ∧ r.cls = D.2.1 x.1 ∧ r.vm = .none ∧ x.2.1 = am_n x.1 ∧ ∀ k, k < am_n x.1 → r.slots[D.2.2.1 x.1 k]? = some (am_rv D.1 (x.2.2 k)))
  ∨ (20 ≤ x.1 ∧ x.1 ≤ 25 ∧ r = arrV (D.2.2.2 x.1) x.2.1 (fun j => am_rv D.1 (x.2.2 j)) ∧ (x.1 = 20 → ∀ j, j < x.2.1 → ∃ v : Int, x.2.2 j = vI v))
  ∨ (x.1 = 30 ∧ s.isArrayOf r .int ∧ r.vm ≠ .unknown ∧ r.slots.size = x.2.1 ∧ ∀ j, j < x.2.1 → r.slots[j]? = some (am_rv D.1 (x.2.2 j)))
def am_R (D : am_D) (s : State) (h : am_H) (H : Heap) : Prop :=
  3 ≤ h.1 ∧ H.size + 3 = D.1.2.2.2 + h.1 ∧ (D.1.1 < D.1.2.2.2 ∧ D.1.2.1 < D.1.2.2.2 ∧ D.1.2.2.1 < D.1.2.2.2)
  ∧ (∀ k, k < 3 → (h.2 k).1 = 30 ∨ (h.2 k).1 = 99)
  ∧ (∀ k, (h.2 k).1 ≠ 99 → k < h.1 ∧ ∃ r : Cell, H[am_rho D.1 k]? = some r ∧ am_ce D s (h.2 k) r)
  ∧ va_Z "WeylWords$Operator" "X_AT" "[I" (.ref D.1.2.1) (fun q => D.1.2.2.2 ≤ q) s H
  ∧ va_Z "WeylWords$Operator" "D_AT" "[I" (.ref D.1.2.2.1) (fun q => D.1.2.2.2 ≤ q) s H
theorem am_rho_ge {z : am_Z} {k : Nat} (h : 3 ≤ k) : am_rho z k = z.2.2.2 + (k - 3) := by
  unfold am_rho
  rw [if_neg (by omega), if_neg (by omega), if_neg (by omega)]
theorem am_rho_lt {D : am_D} {s : State} {h : am_H} {H : Heap} (hR : am_R D s h H) {k : Nat} (hk : k < 3) : am_rho D.1 k < D.1.2.2.2 := by
  obtain ⟨-, -, ⟨h0, h1, h2⟩, -⟩ := hR
  rcases (show k = 0 ∨ k = 1 ∨ k = 2 by omega) with rfl | rfl | rfl
  · exact h0
  · exact h1
  · exact h2
theorem am_rho_ne {D : am_D} {s : State} {h : am_H} {H : Heap} (hR : am_R D s h H) {k j : Nat} (hk : 3 ≤ k) (hj : j ≠ k) : am_rho D.1 j ≠ am_rho D.1 k := by
  by_cases h3 : j < 3
  · have h1 := am_rho_lt hR h3
    rw [am_rho_ge hk]
    omega
  · rw [am_rho_ge hk, am_rho_ge (by omega)]
    omega
theorem am_ce.moved {D : am_D} {u U : State} (hvm : u.vm.Alike U.vm) {x : am_C} {r : Cell} (h : am_ce D u x r) : am_ce D U x r := by
  rcases h with h | h | ⟨h1, h2, h3⟩
  · exact Or.inl h
  · exact Or.inr (Or.inl h)
  · exact Or.inr (Or.inr ⟨h1, State.isArrayOf_alike hvm h2, h3⟩)
theorem am_R.moved {D : am_D} {u U : State} (hvm : u.vm.Alike U.vm) {h : am_H} {H : Heap} (hR : am_R D u h H) : am_R D U h H := by
  obtain ⟨h1, h2, h3, h4, h5, h6, h7⟩ := hR
  exact ⟨h1, h2, h3, h4, fun k hk => ⟨(h5 k hk).1, by obtain ⟨r, q1, q2⟩ := (h5 k hk).2; exact ⟨r, q1, q2.moved hvm⟩⟩, h6.moved hvm, h7.moved hvm⟩
theorem am_KA.moved {u U : State} (hvm : u.vm.Alike U.vm) {t : Nat} {cA : ClassId} (h : am_KA u t cA) : am_KA U t cA := by
  obtain ⟨h1, kA, comp, h2, h3, h4⟩ := h
  obtain ⟨k', hk', he⟩ := hvm.2.2 _ _ h2
  exact ⟨by rw [hvm.findClass]; exact h1, k', comp, hk', by rw [he]; exact h3, fun h => by rw [hvm.findClass]; exact h4 h⟩
theorem am_K.warm {D : am_D} {u U : State} (hW : u.WarmedH U.vm) (h : am_K D u) : am_K D U := ⟨va_K.moved hW.alike h.1, fun t h1 h2 => (h.2.1 t h1 h2).moved hW.alike, h.2.2.warm hW⟩
theorem am_K.same {D : am_D} {u U : State} (hv : u.vm = U.vm) (h : am_K D u) : am_K D U := by
  have ha : u.vm.Alike U.vm := by rw [hv]; exact Vm.Alike.refl _
  exact ⟨va_K.moved ha h.1, fun t h1 h2 => (h.2.1 t h1 h2).moved ha, h.2.2.same hv⟩
/-- a cell that is no row of the three is behind the base -/
theorem am_R.ge {D : am_D} {s : State} {h : am_H} {H : Heap} (hR : am_R D s h H) {k : Nat} (h1 : (h.2 k).1 ≠ 99) (h2 : (h.2 k).1 ≠ 30) : 3 ≤ k := by
  obtain ⟨-, -, -, h4, -⟩ := hR
  by_cases h3 : k < 3
  · rcases h4 k h3 with q | q
    · exact absurd q h2
    · exact absurd q h1
  · omega
/-- one cell is written -/
theorem am_R.put {D : am_D} {s : State} {h : am_H} {H H' : Heap} (hR : am_R D s h H) {k : Nat} (hk : 3 ≤ k) (hl : k < h.1) {x : am_C} {r : Cell} (hx : x.1 ≠ 99) (hr : am_ce D s x r) (e1 : H'[am_rho D.1 k]? = some r) (e2 : H'.size = H.size) (e3 : ∀ q, q ≠ am_rho D.1 k → H'[q]? = H[q]?) : am_R D s (am_put h k x) H' := by
  have hR0 := hR
  obtain ⟨h1, h2, h3, h4, h5, h6, h7⟩ := hR
  have hb : D.1.2.2.2 ≤ am_rho D.1 k := by rw [am_rho_ge hk]; omega
  refine ⟨h1, by rw [e2]; exact h2, h3, fun j hj => ?_, fun j hj => ?_, h6.kept (fun a _ ha => e3 a (fun q => ha (by rw [q]; exact hb))), h7.kept (fun a _ ha => e3 a (fun q => ha (by rw [q]; exact hb)))⟩
  · show (au h.2 k x j).1 = 30 ∨ (au h.2 k x j).1 = 99
    rw [au_n _ _ (by omega)]
    exact h4 j hj
  · have hj : (au h.2 k x j).1 ≠ 99 := hj
    show j < h.1 ∧ ∃ r : Cell, H'[am_rho D.1 j]? = some r ∧ am_ce D s (au h.2 k x j) r
    by_cases hjk : j = k
    · subst hjk
      rw [au_s]
      exact ⟨hl, r, e1, hr⟩
    · rw [au_n _ _ hjk] at hj ⊢
      obtain ⟨q1, r', q2, q3⟩ := h5 j hj
      exact ⟨q1, r', by rw [e3 _ (am_rho_ne hR0 hk hjk)]; exact q2, q3⟩
/-- one cell is made -/
theorem am_R.new {D : am_D} {s : State} {h : am_H} {H H' : Heap} (hR : am_R D s h H) {x : am_C} {r : Cell} (hx : x.1 ≠ 99) (hr : am_ce D s x r) (e1 : H'[H.size]? = some r) (e2 : H'.size = H.size + 1) (e3 : ∀ q, q < H.size → H'[q]? = H[q]?) : am_R D s (am_new h x) H' := by
  have hR0 := hR
  obtain ⟨h1, h2, h3, h4, h5, h6, h7⟩ := hR
  have hz : am_rho D.1 h.1 = H.size := by rw [am_rho_ge h1]; omega
  refine ⟨by show 3 ≤ h.1 + 1; omega, by show H'.size + 3 = D.1.2.2.2 + (h.1 + 1); omega, h3, fun j hj => ?_, fun j hj => ?_, h6.kept (fun a ha _ => e3 a ha), h7.kept (fun a ha _ => e3 a ha)⟩
  · show (au h.2 h.1 x j).1 = 30 ∨ (au h.2 h.1 x j).1 = 99
    rw [au_n _ _ (by omega)]
    exact h4 j hj
  · have hj : (au h.2 h.1 x j).1 ≠ 99 := hj
    show j < h.1 + 1 ∧ ∃ r : Cell, H'[am_rho D.1 j]? = some r ∧ am_ce D s (au h.2 h.1 x j) r
    by_cases hjk : j = h.1
    · subst hjk
      rw [au_s]
      exact ⟨by omega, r, by rw [hz]; exact e1, hr⟩
    · rw [au_n _ _ hjk] at hj ⊢
      obtain ⟨q1, r', q2, q3⟩ := h5 j hj
      exact ⟨by omega, r', by rw [e3 _ (Array.getElem?_eq_some_iff.mp q2).1]; exact q2, q3⟩
/-- the names of a frame -/
def am_ls (z : am_Z) (nL : Nat) (A : List am_V) (ls : Array Slot) : Prop := A.length = nL ∧ lv_has ls nL [] ∧ ∀ i, lget A i ≠ vU → ls[i]? = some (.val (am_rv z (lget A i)))
theorem lget_set (A : List am_V) (i : Nat) (v : am_V) (hi : i < A.length) (j : Nat) : lget (A.set i v) j = if j = i then v else lget A j := by
  induction A generalizing i j with
  | nil => exact absurd hi (Nat.not_lt_zero _)
  | cons a r ih =>
    cases i with
    | zero => cases j with
      | zero => rfl
      | succ j => rw [if_neg (by omega)]; rfl
    | succ i => cases j with
      | zero => rw [if_neg (by omega)]; rfl
      | succ j =>
        show lget (r.set i v) j = _
        rw [ih i (by simpa using hi) j]
        by_cases h : j = i
        · rw [if_pos h, if_pos (by omega)]
        · rw [if_neg h, if_neg (by omega)]; rfl
theorem lget_lt {A : List am_V} {i : Nat} (h : lget A i ≠ vU) : i < A.length := by
  induction A generalizing i with
  | nil => exact absurd rfl h
  | cons a r ih =>
    cases i with
    | zero => simp
    | succ i => have := ih (i := i) h; simp; omega
theorem am_ls.at {z : am_Z} {nL : Nat} {A : List am_V} {ls : Array Slot} (h : am_ls z nL A ls) {i : Nat} {v : am_V} (hv : lget A i = v) (hn : v ≠ vU) : ls[i]? = some (.val (am_rv z v)) := by
  subst hv
  exact h.2.2 i hn
theorem am_ls.has {z : am_Z} {nL : Nat} {A : List am_V} {ls : Array Slot} (h : am_ls z nL A ls) (j : Nat) (hj : lget A j ≠ vU) : lv_has ls nL [(j, am_rv z (lget A j))] :=
  ⟨h.2.1.1, h.2.1.2.1, fun q hq => by rw [List.mem_singleton.mp hq]; exact h.2.2 j hj⟩
theorem am_st_eq {A B : List am_V} {i : Nat} {v : am_V} (h : am_st A i v = some B) : B = A.set i v ∧ ∀ j, j + 1 = i → am_cat (lget A j) = 1 := by
  unfold am_st at h
  cases i with
  | zero => exact ⟨(Option.some.inj h).symm, fun j hj => by omega⟩
  | succ i =>
    by_cases hc : am_cat (lget A i) = 1
    · simp only [hc, if_true] at h
      exact ⟨(Option.some.inj h).symm, fun j hj => by rw [show j = i by omega]; exact hc⟩
    · simp only [hc, if_false] at h
      cases h
theorem am_ls.st1 {z : am_Z} {nL : Nat} {A B : List am_V} {ls : Array Slot} (h : am_ls z nL A ls) {i : Nat} {v : am_V} (hi : i < nL) (hc : am_cat v = 1) (hs : am_st A i v = some B) : ∃ ls', storeLocals ls i (am_rv z v) = some ls' ∧ am_ls z nL B ls' := by
  obtain ⟨hB, hl⟩ := am_st_eq hs
  have hc' : (am_rv z v).category = 1 := by rw [am_rv_cat]; exact hc
  obtain ⟨ls', e', h'⟩ := lv_store1 (v := am_rv z v) h.2.1 hi hc'
  refine ⟨ls', e', ?_, ⟨h'.1, h'.2.1, fun q hq => absurd hq List.not_mem_nil⟩, fun j hj => ?_⟩
  · rw [hB, List.length_set]; exact h.1
  · rw [hB, lget_set _ _ _ (by rw [h.1]; exact hi)] at hj ⊢
    by_cases hji : j = i
    · rw [if_pos hji]
      rw [hji]
      exact h'.2.2 (i, am_rv z v) List.mem_cons_self
    · rw [if_neg hji] at hj ⊢
      obtain ⟨ls2, e2, h2⟩ := lv_store1 (v := am_rv z v) (h.has j hj) hi hc'
      cases e'.symm.trans e2
      refine h2.2.2 (j, am_rv z (lget A j)) (List.mem_cons_of_mem _ (List.mem_filter.mpr ⟨List.mem_singleton.mpr rfl, ?_⟩))
      have h3 : (j == i) = false := by simpa using hji
      have h4 : (j + 1 == i && (am_rv z (lget A j)).category == 2) = false := by
        by_cases q : j + 1 = i
        · rw [am_rv_cat, hl j q]; simp
        · simp [q]
      show (!(j == i) && !(j + 1 == i && (am_rv z (lget A j)).category == 2)) = true
      rw [h3, h4]; rfl
theorem am_ls.st2 {z : am_Z} {nL : Nat} {A B : List am_V} {ls : Array Slot} (h : am_ls z nL A ls) {i : Nat} {x : Int64} (hi : i + 1 < nL) (hs : am_st A i (vL x) = some B) : ∃ ls', storeLocals ls i (.long x) = some ls' ∧ am_ls z nL (B.set (i + 1) vU) ls' := by
  obtain ⟨hB, hl⟩ := am_st_eq hs
  obtain ⟨ls', e', h'⟩ := lv_store2 (v := .long x) h.2.1 hi rfl
  refine ⟨ls', e', ?_, ⟨h'.1, h'.2.1, fun q hq => absurd hq List.not_mem_nil⟩, fun j hj => ?_⟩
  · rw [hB, List.length_set, List.length_set]; exact h.1
  · rw [hB, lget_set _ _ _ (by rw [List.length_set, h.1]; exact hi), lget_set _ _ _ (by rw [h.1]; omega)] at hj ⊢
    by_cases hj1 : j = i + 1
    · rw [if_pos hj1] at hj; exact absurd rfl hj
    · rw [if_neg hj1] at hj ⊢
      by_cases hji : j = i
      · rw [if_pos hji]
        rw [hji]
        exact h'.2.2 (i, .long x) List.mem_cons_self
      · rw [if_neg hji] at hj ⊢
        obtain ⟨ls2, e2, h2⟩ := lv_store2 (v := .long x) (h.has j hj) hi rfl
        cases e'.symm.trans e2
        refine h2.2.2 (j, am_rv z (lget A j)) (List.mem_cons_of_mem _ (List.mem_filter.mpr ⟨List.mem_singleton.mpr rfl, ?_⟩))
        have h3 : (j == i) = false := by simpa using hji
        have h5 : (j == i + 1) = false := by simpa using hj1
        have h4 : (j + 1 == i && (am_rv z (lget A j)).category == 2) = false := by
          by_cases q : j + 1 = i
          · rw [am_rv_cat, hl j q]; simp
          · simp [q]
        show (!(j == i) && (!(j == i + 1) && !(j + 1 == i && (am_rv z (lget A j)).category == 2))) = true
        rw [h3, h4, h5]; rfl
end
section
/-! One step of the abstract machine is one of the machine: what needs no tables. -/
def am_sm (f : Nat → am_C) : Nat → Nat
  | 0 => 0
  | n + 1 => am_sm f n + (f n).2.1
def am_sl (h : am_H) : Nat := am_sm h.2 h.1
theorem am_sm_eq {f g : Nat → am_C} {n : Nat} (h : ∀ k, k < n → (f k).2.1 = (g k).2.1) : am_sm f n = am_sm g n := by
  induction n with
  | zero => rfl
  | succ n ih =>
    show am_sm f n + _ = am_sm g n + _
    rw [ih (fun k hk => h k (by omega)), h n (by omega)]
theorem am_sl_put {h : am_H} {a : Nat} {x : am_C} (hx : x.2.1 = (h.2 a).2.1) : am_sl (am_put h a x) = am_sl h := by
  refine am_sm_eq fun k _ => ?_
  show (au h.2 a x k).2.1 = _
  by_cases hk : k = a
  · rw [hk, au_s, hx]
  · rw [au_n _ _ hk]
theorem am_sl_new {h : am_H} {x : am_C} : am_sl (am_new h x) = am_sl h + x.2.1 := by
  show am_sm (au h.2 h.1 x) h.1 + (au h.2 h.1 x h.1).2.1 = _
  rw [au_s]
  congr 1
  exact am_sm_eq fun k hk => by rw [au_n _ _ (by omega)]
def am_q (c : Nat) : vw_C := match c with
  | 0 => (RX0, TX0, 3) | 1 => (RX1, TX1, 3) | 2 => (RX2, TX2, 6) | 3 => (RX3, TX3, 11) | 4 => (RX4, TX4, 8) | 5 => (RX5, TX5, 3) | 6 => (RX6, TX6, 1) | 7 => (RX7, TX7, 7) | 8 => (RX8, TX8, 3) | 9 => (RX9, TX9, 4) | 10 => (RX10, TX10, 2) | 11 => (RX11, TX11, 13) | _ => (RX12, TX12, 31)
def am_len : Instr → Nat
  | .iload _ => 2 | .aload _ => 2 | .istore _ => 2 | .astore _ => 2 | .bipush _ => 2 | .newarray _ => 2 | .ldc _ => 2
  | .sipush _ => 3 | .iinc _ _ => 3 | .getfield _ => 3 | .putfield _ => 3 | .getstatic _ => 3 | .ldc2_w _ => 3 | .new _ => 3 | .anewarray _ => 3
  | .invokevirtual _ => 3 | .invokespecial _ => 3 | .invokestatic _ => 3 | .goto _ => 3 | .ifCond _ _ => 3 | .if_icmp _ _ => 3 | .multianewarray _ _ => 4
  | _ => 1
def am_fl (own : String) (i c k : Nat) : Prop := c < 13 ∧ k < am_n c ∧ Cond.fieldLink own i ((am_q c).2.1 k).1 ((am_q c).2.1 k).2.1 ((am_q c).2.1 k).2.2.1 ∈ lw_tbl
def am_okm (q : am_M) (n : Nat) : Prop := Cond.code q.2.1 q.2.2.1 q.2.2.2.1 q.2.2.2.2.1 ∈ lw_tbl ∧ Cond.initialized q.2.1.cls ∈ lw_tbl ∧ (q.2.1.cls ≠ "java/lang/invoke/MethodHandle" ∧ q.2.1.cls ≠ "java/lang/invoke/VarHandle") ∧ (parseMethodDescriptor q.2.1.desc).map (fun d => d.parameters.length) = some n ∧ q.2.2.2.1 ≤ 60
def am_lk (own : String) (i : Nat) (y : MethodName) : Prop := Cond.methodLink own i y ∈ lw_tbl ∨ ∃ host, Cond.methodLinkNest own i y host ∈ lw_tbl
def am_ok1 (tb : Nat → Option am_M) (own : String) (ini : Bool) (nL : Nat) (ai : am_I) : Prop := match ai.1 with
  | .bipush n => -128 ≤ n ∧ n ≤ 127
  | .sipush n => -32768 ≤ n ∧ n ≤ 32767
  | .ldc i => Cond.constant own i (Int32.ofInt ai.2.1) ∈ lw_tbl
  | .ldc2_w i => Cond.constantLong own i (Int64.ofNat ai.2.1) ∈ lw_tbl
  | .istore i => i < nL
  | .istore_n i => i.val < nL
  | .astore i => i < nL
  | .astore_n i => i.val < nL
  | .lstore_n i => i.val + 1 < nL
  | .iinc i _ => i < nL
  | .getfield i => am_fl own i ai.2.1 ai.2.2.1
  | .putfield i => am_fl own i ai.2.1 ai.2.2.1 ∧ am_fk (am_ty ai.2.1 ai.2.2.1) = ai.2.2.2 ∧ (((am_q ai.2.1).2.1 ai.2.2.1).2.2.2 = false ∨ (ini = true ∧ ((am_q ai.2.1).2.1 ai.2.2.1).2.2.2 = true ∧ ((am_q ai.2.1).2.1 ai.2.2.1).1 = own))
  | .getstatic i => (ai.2.1 = 1 ∧ Cond.fieldLink own i "WeylWords$Operator" "X_AT" "[I" ∈ lw_tbl) ∨ (ai.2.1 = 2 ∧ Cond.fieldLink own i "WeylWords$Operator" "D_AT" "[I" ∈ lw_tbl)
  | .newarray t => (t = .int ∧ ai.2.1 = 20) ∨ (t = .boolean ∧ ai.2.1 = 21)
  | .anewarray i => 23 ≤ ai.2.1 ∧ ai.2.1 ≤ 25 ∧ Cond.classLink own i (am_cn ai.2.1) ∈ lw_tbl
  | .multianewarray i d => d = 2 ∧ Cond.classLink own i "[[I" ∈ lw_tbl
  | .new i => ai.2.1 < 13 ∧ Cond.classLink own i (am_q ai.2.1).1 ∈ lw_tbl
  | .invokevirtual i => ∃ q, tb ai.2.1 = some q ∧ ai.2.2.2 < 13 ∧ q.2.1.cls = (am_q ai.2.2.2).1 ∧ am_okm q (ai.2.2.1 - 1) ∧ 1 ≤ ai.2.2.1 ∧ Cond.methodLink own i q.2.1 ∈ lw_tbl ∧ Cond.instanceMethod q.2.1 ∈ lw_tbl ∧ Cond.selects (am_q ai.2.2.2).1 q.2.1 q.2.1 ∈ lw_tbl
  | .invokespecial i => if ai.2.1 = 998 then Cond.methodLink own i Lib.objectInit ∈ lw_tbl else
      ∃ q, tb ai.2.1 = some q ∧ am_okm q (ai.2.2.1 - 1) ∧ 1 ≤ ai.2.2.1 ∧ am_lk own i q.2.1 ∧ Cond.instanceMethod q.2.1 ∈ lw_tbl ∧ q.2.1.name = "<init>" ∧ q.2.2.2.2.1 = none
  | .invokestatic i => if ai.2.1 = 999 then Cond.methodLink own i arraycopyName ∈ lw_tbl else
      ∃ q, tb ai.2.1 = some q ∧ am_okm q ai.2.2.1 ∧ am_lk own i q.2.1 ∧ Cond.static q.2.1 ∈ lw_tbl
  | _ => True
/-- what a frame of the machine is, at its method's beginning -/
def am_Fx (p : Program) (R : Room) (s : State) (m : MethodId) (args : Array Value) (meth : Method) (c : Code) (cc : ByteArray) (nL : Nat) (own : String) (ini : Bool) (D : am_D) : Prop :=
  p.tables.exec = Jvm.exec ∧ c.code = cc ∧ c.maxLocals = nL ∧ s.vm.findClass own = some m.cls ∧ (∀ w ∈ lw_good, w.before args s = true) ∧ am_K D s ∧ 1 ≤ R.frames ∧ 100 ≤ R.locals ∧ (ini = true → meth.name = "<init>")
def am_At (p : Program) (l : Launch) (e : Env) (R : Room) (s : State) (m : MethodId) (args : Array Value) (below : List Frame) (meth : Method) (c : Code) (Q : State → Prop) (D : am_D) (nL : Nat) (h0 : am_H) (x : am_S) (pc : Nat) : Prop :=
  ∀ (LS : Array Slot) (H : Heap) (locs : List Loc), am_ls D.1 nL x.1 LS → am_R D s x.2.2 H → (∀ q ∈ locs, D.1.2.2.2 ≤ q.base) → W p l e R s m args below meth c H locs (x.2.2.1 - h0.1) (am_sl x.2.2 - am_sl h0) Q (F0 m pc LS (x.2.1.map (am_rv D.1)))
section INS
variable {p : Program} {l : Launch} {e : Env} {R : Room} {s : State} {m : MethodId} {args : Array Value} {below : List Frame} {meth : Method} {c : Code} {Q : State → Prop} {cc : ByteArray} {nL : Nat} {own : String} {ini : Bool} {D : am_D} {h0 : am_H}
theorem at_b2 {f : Int → Int → Int} {g : Int32 → Int32 → Int32} {pc : Nat} (hr : ∀ a b : Int, Int32.ofInt (f a b) = g (Int32.ofInt a) (Int32.ofInt b))
    (row : ∀ {H : Heap} {locs : List Loc} {cells slots : Nat} {LS : Array Slot} {rest : List Value} {a b : Int32}, W p l e R s m args below meth c H locs cells slots Q (F0 m (pc + 1) LS (.int (g a b) :: rest)) → W p l e R s m args below meth c H locs cells slots Q (F0 m pc LS (.int b :: .int a :: rest)))
    {x y : am_S} (hev : am_b2 f x = some y) (k : am_At p l e R s m args below meth c Q D nL h0 y (pc + 1)) : am_At p l e R s m args below meth c Q D nL h0 x pc := by
  obtain ⟨ls, st, h⟩ := x
  rcases st with _ | ⟨b | b, _ | ⟨a | a, st⟩⟩ <;> try cases hev
  intro LS H locs hl hR hf
  refine row ?_
  have := k LS H locs hl hR hf
  simp only [List.map_cons, am_rv, hr] at this
  exact this
theorem at_b3 {ok : Int → Int → Bool} {f : Int → Int → Int} {g : Int32 → Int32 → Int32} {pc : Nat} {C : Int32 → Prop} (hr : ∀ a b : Int, inR a → inR b → ok a b = true → g (Int32.ofInt a) (Int32.ofInt b) = Int32.ofInt (f a b) ∧ C (Int32.ofInt b))
    (row : ∀ {H : Heap} {locs : List Loc} {cells slots : Nat} {LS : Array Slot} {rest : List Value} {a b : Int32}, C b → W p l e R s m args below meth c H locs cells slots Q (F0 m (pc + 1) LS (.int (g a b) :: rest)) → W p l e R s m args below meth c H locs cells slots Q (F0 m pc LS (.int b :: .int a :: rest)))
    {x y : am_S} (hev : am_b3 ok f x = some y) (k : am_At p l e R s m args below meth c Q D nL h0 y (pc + 1)) : am_At p l e R s m args below meth c Q D nL h0 x pc := by
  obtain ⟨ls, st, h⟩ := x
  rcases st with _ | ⟨b | b, _ | ⟨a | a, st⟩⟩ <;> try cases hev
  by_cases hc : inR a ∧ inR b ∧ ok a b = true
  · simp only [am_b3, if_pos hc] at hev
    cases hev
    intro LS H locs hl hR hf
    obtain ⟨e1, e2⟩ := hr a b hc.1 hc.2.1 hc.2.2
    refine row e2 ?_
    rw [e1]
    exact k LS H locs hl hR hf
  · simp only [am_b3, if_neg hc] at hev
    cases hev
theorem i32_ne0 {b : Int} (hb : inR b) (h : 0 < b) : ¬ Int32.ofInt b = 0 := by
  rw [i32_0, i32_eq hb inR_0]; omega
/-- a constant -/
theorem at_push {v : am_V} {pc n : Nat} {x : am_S} (row : ∀ {H : Heap} {locs : List Loc} {cells slots : Nat} {LS : Array Slot} {rest : List Value}, W p l e R s m args below meth c H locs cells slots Q (F0 m (pc + n) LS (am_rv D.1 v :: rest)) → W p l e R s m args below meth c H locs cells slots Q (F0 m pc LS rest))
    (k : am_At p l e R s m args below meth c Q D nL h0 (x.1, v :: x.2.1, x.2.2) (pc + n)) : am_At p l e R s m args below meth c Q D nL h0 x pc :=
  fun LS H locs hl hR hf => row (k LS H locs hl hR hf)
theorem at_ldi {i pc n : Nat} {x y : am_S} (row : ∀ {H : Heap} {locs : List Loc} {cells slots : Nat} {LS : Array Slot} {rest : List Value} {v : Int32}, LS[i]? = some (.val (.int v)) → W p l e R s m args below meth c H locs cells slots Q (F0 m (pc + n) LS (.int v :: rest)) → W p l e R s m args below meth c H locs cells slots Q (F0 m pc LS rest))
    (hev : am_ldi i x = some y) (k : am_At p l e R s m args below meth c Q D nL h0 y (pc + n)) : am_At p l e R s m args below meth c Q D nL h0 x pc := by
  intro LS H locs hl hR hf
  cases hv : lget x.1 i with
  | inl v =>
    simp only [am_ldi, hv] at hev
    cases hev
    exact row (hl.at hv (by intro q; cases q)) (k LS H locs hl hR hf)
  | inr v => simp only [am_ldi, hv] at hev; cases hev
theorem at_lda {i pc n : Nat} {x y : am_S} (row : ∀ {H : Heap} {locs : List Loc} {cells slots : Nat} {LS : Array Slot} {rest : List Value} {v : Nat}, LS[i]? = some (.val (.ref v)) → W p l e R s m args below meth c H locs cells slots Q (F0 m (pc + n) LS (.ref v :: rest)) → W p l e R s m args below meth c H locs cells slots Q (F0 m pc LS rest))
    (hev : am_lda i x = some y) (k : am_At p l e R s m args below meth c Q D nL h0 y (pc + n)) : am_At p l e R s m args below meth c Q D nL h0 x pc := by
  intro LS H locs hl hR hf
  rcases hv : lget x.1 i with v | (_ | v) | v | v <;> simp only [am_lda, hv] at hev <;> cases hev
  exact row (v := am_rho D.1 v) (hl.at hv (by intro q; cases q)) (k LS H locs hl hR hf)
theorem at_ldl {i pc n : Nat} {x y : am_S} (row : ∀ {H : Heap} {locs : List Loc} {cells slots : Nat} {LS : Array Slot} {rest : List Value} {v : Int64}, LS[i]? = some (.val (.long v)) → W p l e R s m args below meth c H locs cells slots Q (F0 m (pc + n) LS (.long v :: rest)) → W p l e R s m args below meth c H locs cells slots Q (F0 m pc LS rest))
    (hev : am_ldl i x = some y) (k : am_At p l e R s m args below meth c Q D nL h0 y (pc + n)) : am_At p l e R s m args below meth c Q D nL h0 x pc := by
  intro LS H locs hl hR hf
  rcases hv : lget x.1 i with v | (_ | v) | v | v <;> simp only [am_ldl, hv] at hev <;> cases hev
  exact row (v := v) (hl.at hv (by intro q; cases q)) (k LS H locs hl hR hf)
/-- a store of one slot: the machine's step is a row whose new names are those of storeLocals -/
theorem at_st {v : am_V} {i pc n : Nat} {ls B : List am_V} {st : List am_V} {h : am_H} (hi : i < nL) (hc : am_cat v = 1) (hs : am_st ls i v = some B)
    (row : ∀ {H : Heap} {locs : List Loc} {cells slots : Nat} {LS LS' : Array Slot} {rest : List Value}, storeLocals LS i (am_rv D.1 v) = some LS' → W p l e R s m args below meth c H locs cells slots Q (F0 m (pc + n) LS' rest) → W p l e R s m args below meth c H locs cells slots Q (F0 m pc LS (am_rv D.1 v :: rest)))
    (k : am_At p l e R s m args below meth c Q D nL h0 (B, st, h) (pc + n)) : am_At p l e R s m args below meth c Q D nL h0 (ls, v :: st, h) pc := by
  intro LS H locs hl hR hf
  obtain ⟨ls', e', h'⟩ := hl.st1 hi hc hs
  exact row e' (k ls' H locs h' hR hf)
variable {H : Heap} {locs : List Loc} {cells slots : Nat} {LS LS' : Array Slot} {rest : List Value} {pc : Nat}
theorem W.ist (hexec : p.tables.exec = Jvm.exec) (hb : c.code = cc) {i n : Nat} {v : Int32} (hdg : (∃ k : Fin 4, k.val = i ∧ n = 1 ∧ decode cc pc = .ok (.istore_n k, 1)) ∨ (n = 2 ∧ decode cc pc = .ok (.istore i, 2))) (hs : storeLocals LS i (.int v) = some LS') (kk : W p l e R s m args below meth c H locs cells slots Q (F0 m (pc + n) LS' rest)) : W p l e R s m args below meth c H locs cells slots Q (F0 m pc LS (.int v :: rest)) := by
  intro T hT X
  obtain ⟨t, a, b⟩ := kk T hT X
  refine ⟨t, ?_, b⟩
  rcases hdg with ⟨k, rfl, rfl, hdg⟩ | ⟨rfl, hdg⟩
  · jvm_step X.here [X.here.top, ↓top_set X.here.top, hexec, hb, hdg, hs]
    exact a
  · jvm_step X.here [X.here.top, ↓top_set X.here.top, hexec, hb, hdg, hs]
    exact a
theorem W.ast (hexec : p.tables.exec = Jvm.exec) (hb : c.code = cc) {i n : Nat} {v : Nat} (hdg : (∃ k : Fin 4, k.val = i ∧ n = 1 ∧ decode cc pc = .ok (.astore_n k, 1)) ∨ (n = 2 ∧ decode cc pc = .ok (.astore i, 2))) (hs : storeLocals LS i (.ref v) = some LS') (kk : W p l e R s m args below meth c H locs cells slots Q (F0 m (pc + n) LS' rest)) : W p l e R s m args below meth c H locs cells slots Q (F0 m pc LS (.ref v :: rest)) := by
  intro T hT X
  obtain ⟨t, a, b⟩ := kk T hT X
  refine ⟨t, ?_, b⟩
  rcases hdg with ⟨k, rfl, rfl, hdg⟩ | ⟨rfl, hdg⟩
  · jvm_step X.here [X.here.top, ↓top_set X.here.top, hexec, hb, hdg, hs, Value.isRef]
    exact a
  · jvm_step X.here [X.here.top, ↓top_set X.here.top, hexec, hb, hdg, hs, Value.isRef]
    exact a
theorem W.lst (hexec : p.tables.exec = Jvm.exec) (hb : c.code = cc) {k : Fin 4} {v : Int64} (hdg : decode cc pc = .ok (.lstore_n k, 1)) (hs : storeLocals LS k.val (.long v) = some LS') (kk : W p l e R s m args below meth c H locs cells slots Q (F0 m (pc + 1) LS' rest)) : W p l e R s m args below meth c H locs cells slots Q (F0 m pc LS (.long v :: rest)) := by
  intro T hT X
  obtain ⟨t, a, b⟩ := kk T hT X
  refine ⟨t, ?_, b⟩
  jvm_step X.here [X.here.top, ↓top_set X.here.top, hexec, hb, hdg, hs]
  exact a
theorem W.inc (hexec : p.tables.exec = Jvm.exec) (hb : c.code = cc) {i : Nat} {n : Int} {v : Int32} (hdg : decode cc pc = .ok (.iinc i n, 3)) (hg : LS[i]? = some (.val (.int v))) (hs : storeLocals LS i (.int (v + Int32.ofInt n)) = some LS') (kk : W p l e R s m args below meth c H locs cells slots Q (F0 m (pc + 3) LS' rest)) : W p l e R s m args below meth c H locs cells slots Q (F0 m pc LS rest) := by
  intro T hT X
  obtain ⟨t, a, b⟩ := kk T hT X
  refine ⟨t, ?_, b⟩
  jvm_step X.here [X.here.top, ↓top_set X.here.top, hexec, hb, hdg, hg, hs]
  exact a
end INS
end
section
/-! The words of the tables that all methods use, by their places. -/
theorem am_in9 {w : Cond} (i : Nat) (h : lw_tbl[i]? = some w) : w ∈ lw_tbl := List.mem_of_getElem? h
theorem am_pl9 {ws : List Cond} (ps : List Nat) (h : ws = ps.filterMap (fun i => lw_tbl[i]?)) : ∀ w ∈ ws, w ∈ lw_tbl := by
  subst h
  intro w hw
  obtain ⟨i, -, hi⟩ := List.mem_filterMap.mp hw
  exact List.mem_of_getElem? hi
theorem tb_l0 : ∀ w ∈ u_ws RX0 TX0 3, w ∈ lw_tbl := am_pl9 [344, 346, 348] (by decide +kernel)
theorem tb_i0 : Cond.instantiable RX0 3 ∈ lw_tbl := am_in9 334 (by decide +kernel)
theorem tb_j0 : Cond.initialized RX0 ∈ lw_tbl := am_in9 106 (by decide +kernel)
theorem tb_l1 : ∀ w ∈ u_ws RX1 TX1 3, w ∈ lw_tbl := am_pl9 [221, 223, 225] (by decide +kernel)
theorem tb_i1 : Cond.instantiable RX1 3 ∈ lw_tbl := am_in9 206 (by decide +kernel)
theorem tb_j1 : Cond.initialized RX1 ∈ lw_tbl := am_in9 101 (by decide +kernel)
theorem tb_l2 : ∀ w ∈ u_ws RX2 TX2 6, w ∈ lw_tbl := am_pl9 [284, 286, 288, 290, 292, 294] (by decide +kernel)
theorem tb_i2 : Cond.instantiable RX2 6 ∈ lw_tbl := am_in9 269 (by decide +kernel)
theorem tb_j2 : Cond.initialized RX2 ∈ lw_tbl := am_in9 105 (by decide +kernel)
theorem tb_l3 : ∀ w ∈ u_ws RX3 TX3 11, w ∈ lw_tbl := am_pl9 [310, 312, 314, 316, 318, 320, 322, 324, 326, 328, 330] (by decide +kernel)
theorem tb_i3 : Cond.instantiable RX3 11 ∈ lw_tbl := am_in9 261 (by decide +kernel)
theorem tb_j3 : Cond.initialized RX3 ∈ lw_tbl := am_in9 104 (by decide +kernel)
theorem tb_l4 : ∀ w ∈ u_ws RX4 TX4 8, w ∈ lw_tbl := am_pl9 [243, 245, 247, 249, 251, 253, 255, 257] (by decide +kernel)
theorem tb_i4 : Cond.instantiable RX4 8 ∈ lw_tbl := am_in9 229 (by decide +kernel)
theorem tb_j4 : Cond.initialized RX4 ∈ lw_tbl := am_in9 103 (by decide +kernel)
theorem tb_l5 : ∀ w ∈ u_ws RX5 TX5 3, w ∈ lw_tbl := am_pl9 [177, 179, 181] (by decide +kernel)
theorem tb_i5 : Cond.instantiable RX5 3 ∈ lw_tbl := am_in9 165 (by decide +kernel)
theorem tb_j5 : Cond.initialized RX5 ∈ lw_tbl := am_in9 99 (by decide +kernel)
theorem tb_l6 : ∀ w ∈ u_ws RX6 TX6 1, w ∈ lw_tbl := am_pl9 [143] (by decide +kernel)
theorem tb_i6 : Cond.instantiable RX6 1 ∈ lw_tbl := am_in9 130 (by decide +kernel)
theorem tb_j6 : Cond.initialized RX6 ∈ lw_tbl := am_in9 98 (by decide +kernel)
theorem tb_l7 : ∀ w ∈ u_ws RX7 TX7 7, w ∈ lw_tbl := am_pl9 [366, 368, 370, 372, 374, 376, 378] (by decide +kernel)
theorem tb_i7 : Cond.instantiable RX7 7 ∈ lw_tbl := am_in9 352 (by decide +kernel)
theorem tb_j7 : Cond.initialized RX7 ∈ lw_tbl := am_in9 107 (by decide +kernel)
theorem tb_l8 : ∀ w ∈ u_ws RX8 TX8 3, w ∈ lw_tbl := am_pl9 [157, 159, 161] (by decide +kernel)
theorem tb_i8 : Cond.instantiable RX8 3 ∈ lw_tbl := am_in9 121 (by decide +kernel)
theorem tb_j8 : Cond.initialized RX8 ∈ lw_tbl := am_in9 97 (by decide +kernel)
theorem tb_l9 : ∀ w ∈ u_ws RX9 TX9 4, w ∈ lw_tbl := am_pl9 [196, 198, 200, 202] (by decide +kernel)
theorem tb_i9 : Cond.instantiable RX9 4 ∈ lw_tbl := am_in9 185 (by decide +kernel)
theorem tb_j9 : Cond.initialized RX9 ∈ lw_tbl := am_in9 100 (by decide +kernel)
theorem tb_l10 : ∀ w ∈ u_ws RX10 TX10 2, w ∈ lw_tbl := am_pl9 [389, 391] (by decide +kernel)
theorem tb_i10 : Cond.instantiable RX10 2 ∈ lw_tbl := am_in9 382 (by decide +kernel)
theorem tb_j10 : Cond.initialized RX10 ∈ lw_tbl := am_in9 108 (by decide +kernel)
theorem tb_l11 : ∀ w ∈ u_ws RX11 TX11 13, w ∈ lw_tbl := am_pl9 [409, 411, 413, 415, 417, 419, 421, 423, 425, 427, 429, 431, 433] (by decide +kernel)
theorem tb_i11 : Cond.instantiable RX11 13 ∈ lw_tbl := am_in9 113 (by decide +kernel)
theorem tb_j11 : Cond.initialized RX11 ∈ lw_tbl := am_in9 96 (by decide +kernel)
theorem tb_l12 : ∀ w ∈ u_ws RX12 TX12 31, w ∈ lw_tbl := am_pl9 [1021, 1023, 1025, 1027, 1029, 1031, 1033, 1035, 1037, 1039, 1041, 1043, 1045, 1047, 1049, 1051, 1053, 1055, 1057, 1059, 1061, 1063, 1065, 1067, 1069, 1071, 1073, 1075, 1077, 1079, 1081] (by decide +kernel)
theorem tb_i12 : Cond.instantiable RX12 31 ∈ lw_tbl := am_in9 982 (by decide +kernel)
theorem tb_j12 : Cond.initialized RX12 ∈ lw_tbl := am_in9 109 (by decide +kernel)
theorem tb_q : ∀ c, c < 13 → vwCl[c]? = some (am_q c) ∧ (am_q c).2.2 = am_n c
  | 0, _ => ⟨rfl, rfl⟩
  | 1, _ => ⟨rfl, rfl⟩
  | 2, _ => ⟨rfl, rfl⟩
  | 3, _ => ⟨rfl, rfl⟩
  | 4, _ => ⟨rfl, rfl⟩
  | 5, _ => ⟨rfl, rfl⟩
  | 6, _ => ⟨rfl, rfl⟩
  | 7, _ => ⟨rfl, rfl⟩
  | 8, _ => ⟨rfl, rfl⟩
  | 9, _ => ⟨rfl, rfl⟩
  | 10, _ => ⟨rfl, rfl⟩
  | 11, _ => ⟨rfl, rfl⟩
  | 12, _ => ⟨rfl, rfl⟩
  | n + 13, h => absurd h (by omega)
theorem tb_lay : ∀ c, c < 13 → ∀ w ∈ u_ws (am_q c).1 (am_q c).2.1 (am_n c), w ∈ lw_tbl
  | 0, _ => tb_l0
  | 1, _ => tb_l1
  | 2, _ => tb_l2
  | 3, _ => tb_l3
  | 4, _ => tb_l4
  | 5, _ => tb_l5
  | 6, _ => tb_l6
  | 7, _ => tb_l7
  | 8, _ => tb_l8
  | 9, _ => tb_l9
  | 10, _ => tb_l10
  | 11, _ => tb_l11
  | 12, _ => tb_l12
  | n + 13, h => absurd h (by omega)
theorem tb_nm : ∀ c, c < 13 → ∀ a, a < am_n c → ∀ b, b < am_n c → a ≠ b → ((am_q c).2.1 a).2.1 ≠ ((am_q c).2.1 b).2.1
  | 0, _ => nmX0
  | 1, _ => nmX1
  | 2, _ => nmX2
  | 3, _ => nmX3
  | 4, _ => nmX4
  | 5, _ => nmX5
  | 6, _ => nmX6
  | 7, _ => nmX7
  | 8, _ => nmX8
  | 9, _ => nmX9
  | 10, _ => nmX10
  | 11, _ => nmX11
  | 12, _ => nmX12
  | n + 13, h => absurd h (by omega)
theorem tb_ty : ∀ c, c < 13 → ∀ k, k < am_n c → parseFieldDescriptor ((am_q c).2.1 k).2.2.1 = some (am_ty c k)
  | 0, _ => tyX0_ok
  | 1, _ => tyX1_ok
  | 2, _ => tyX2_ok
  | 3, _ => tyX3_ok
  | 4, _ => tyX4_ok
  | 5, _ => tyX5_ok
  | 6, _ => tyX6_ok
  | 7, _ => tyX7_ok
  | 8, _ => tyX8_ok
  | 9, _ => tyX9_ok
  | 10, _ => tyX10_ok
  | 11, _ => tyX11_ok
  | 12, _ => tyX12_ok
  | n + 13, h => absurd h (by omega)
theorem tb_inst : ∀ c, c < 13 → Cond.instantiable (am_q c).1 (am_n c) ∈ lw_tbl
  | 0, _ => tb_i0
  | 1, _ => tb_i1
  | 2, _ => tb_i2
  | 3, _ => tb_i3
  | 4, _ => tb_i4
  | 5, _ => tb_i5
  | 6, _ => tb_i6
  | 7, _ => tb_i7
  | 8, _ => tb_i8
  | 9, _ => tb_i9
  | 10, _ => tb_i10
  | 11, _ => tb_i11
  | 12, _ => tb_i12
  | n + 13, h => absurd h (by omega)
theorem tb_ini : ∀ c, c < 13 → Cond.initialized (am_q c).1 ∈ lw_tbl
  | 0, _ => tb_j0
  | 1, _ => tb_j1
  | 2, _ => tb_j2
  | 3, _ => tb_j3
  | 4, _ => tb_j4
  | 5, _ => tb_j5
  | 6, _ => tb_j6
  | 7, _ => tb_j7
  | 8, _ => tb_j8
  | 9, _ => tb_j9
  | 10, _ => tb_j10
  | 11, _ => tb_j11
  | 12, _ => tb_j12
  | n + 13, h => absurd h (by omega)
theorem tb_ai : Cond.arrayClass .int ∈ lw_tbl := am_in9 146 (by decide +kernel)
theorem tb_ab : Cond.arrayClass .boolean ∈ lw_tbl := am_in9 297 (by decide +kernel)
theorem tb_aa : Cond.arrayOver (.array .int) ∈ lw_tbl := am_in9 129 (by decide +kernel)
theorem tb_ao23 : Cond.arrayOver (.object "WeylWords$Operator") ∈ lw_tbl := am_in9 127 (by decide +kernel)
theorem tb_ao24 : Cond.arrayOver (.object "WeylWords$State") ∈ lw_tbl := am_in9 171 (by decide +kernel)
theorem tb_ao25 : Cond.arrayOver (.object "WeylWords$Basis") ∈ lw_tbl := am_in9 267 (by decide +kernel)
theorem tb_ao : ∀ t, 23 ≤ t → t ≤ 25 → Cond.arrayOver (.object (am_cn t)) ∈ lw_tbl := by
  intro t h1 h2
  rcases (show t = 23 ∨ t = 24 ∨ t = 25 by omega) with rfl | rfl | rfl
  · exact tb_ao23
  · exact tb_ao24
  · exact tb_ao25
theorem tb_oi : Cond.instanceMethod Lib.objectInit ∈ lw_tbl := am_in9 118 (by decide +kernel)
theorem tb_oc : Cond.code Lib.objectInit ⟨#[0xb1]⟩ 1 none ∈ lw_tbl := am_in9 119 rfl
theorem tb_cn : Cond.native arraycopyName ∈ lw_tbl := am_in9 464 (by decide +kernel)
theorem tb_cs : Cond.static arraycopyName ∈ lw_tbl := am_in9 463 (by decide +kernel)
theorem tb_ci : Cond.initialized "java/lang/System" ∈ lw_tbl := am_in9 110 (by decide +kernel)
end
section
/-! One step of the abstract machine is one of the machine: fields, rows, what is made. -/
def am_B (R : Room) (h0 h : am_H) : Prop := h0.1 ≤ h.1 ∧ am_sl h0 ≤ am_sl h ∧ h.1 - h0.1 ≤ R.cells ∧ am_sl h - am_sl h0 ≤ R.slots
theorem lay_good {C : String} {T : u_T} {k : Nat} : goodWord (u_lay C T k) = true := by
  unfold u_lay
  split <;> rfl
theorem tb_layg {c : Nat} (hc : c < 13) : ∀ w ∈ u_ws (am_q c).1 (am_q c).2.1 (am_n c), w ∈ lw_good := by
  intro w hw
  refine lw_good_of (tb_lay c hc w hw) ?_
  obtain ⟨k, -, rfl⟩ := List.mem_map.mp hw
  exact lay_good
section HEAP
variable {p : Program} {l : Launch} {e : Env} {R : Room} {s : State} {m : MethodId} {args : Array Value} {below : List Frame} {meth : Method} {c : Code} {Q : State → Prop} {cc : ByteArray} {nL : Nat} {own : String} {ini : Bool} {D : am_D} {h0 : am_H}
theorem am_Fx.w (X : am_Fx p R s m args meth c cc nL own ini D) {w : Cond} (h : w ∈ lw_tbl) (hg : goodWord w = true) : w.before args s = true := X.2.2.2.2.1 _ (lw_good_of h hg)
/-- an object: its cell -/
theorem am_R.obj {h : am_H} {H : Heap} (hR : am_R D s h H) {a k : Nat} (hk : k < 13) (ht : (h.2 a).1 = k) : 3 ≤ a ∧ a < h.1 ∧ ∃ r : Cell, H[am_rho D.1 a]? = some r ∧ r.cls = D.2.1 k ∧ r.vm = .none ∧ (h.2 a).2.1 = am_n k ∧ ∀ j, j < am_n k → r.slots[D.2.2.1 k j]? = some (am_rv D.1 ((h.2 a).2.2 j)) := by
  have h3 := hR.ge (k := a) (by omega) (by omega)
  obtain ⟨hl, r, q1, q2⟩ := hR.2.2.2.2.1 a (by omega)
  subst ht
  rcases q2 with ⟨-, q3, q4, q5, q6⟩ | ⟨q3, -⟩ | ⟨q3, -⟩
  · exact ⟨h3, hl, r, q1, q3, q4, q5, q6⟩
  · omega
  · omega
theorem am_R.arr {h : am_H} {H : Heap} (hR : am_R D s h H) {a t : Nat} (h20 : 20 ≤ t) (h25 : t ≤ 25) (ht : (h.2 a).1 = t) : 3 ≤ a ∧ a < h.1 ∧ H[am_rho D.1 a]? = some (arrV (D.2.2.2 t) (h.2 a).2.1 (fun j => am_rv D.1 ((h.2 a).2.2 j))) ∧ (t = 20 → ∀ j, j < (h.2 a).2.1 → ∃ v : Int, (h.2 a).2.2 j = vI v) := by
  have h3 := hR.ge (k := a) (by omega) (by omega)
  obtain ⟨hl, r, q1, q2⟩ := hR.2.2.2.2.1 a (by omega)
  subst ht
  rcases q2 with ⟨q3, -⟩ | ⟨-, -, q3, q4⟩ | ⟨q3, -⟩
  · omega
  · exact ⟨h3, hl, by rw [← q3]; exact q1, q4⟩
  · omega
theorem am_KA.of {t : Nat} {cA : ClassId} (h : am_KA s t cA) (n : Nat) (f : Nat → Value) : s.isArrayOf (arrV cA n f) (am_at t) := by
  obtain ⟨-, kA, comp, h2, h3, -⟩ := h
  exact ⟨fun k q => (by cases q), kA, h2, comp, h3⟩
theorem at_get (X : am_Fx p R s m args meth c cc nL own ini D) {G : am_G} {i k j z pc : Nat} (hl : am_fl own i k j) {x y : am_S} (hd : decode cc pc = .ok (.getfield i, 3)) (hev : am_I1 G (.getfield i, k, j, z) x = some y) (kk : am_At p l e R s m args below meth c Q D nL h0 y (pc + 3)) : am_At p l e R s m args below meth c Q D nL h0 x pc := by
  obtain ⟨hc, hj, hw⟩ := hl
  obtain ⟨ls, st, h⟩ := x
  rcases st with _ | ⟨v | (_ | a) | v | v, st⟩ <;> simp only [am_I1] at hev <;> try cases hev
  by_cases ht : (h.2 a).1 = k
  · simp only [if_pos ht] at hev
    cases hev
    intro LS H locs hls hR hf
    obtain ⟨-, -, r, q1, q2, q3, q4, q5⟩ := hR.obj hc ht
    obtain ⟨hS, hfc, kC, hkC, hkind⟩ := X.2.2.2.2.2.1.1.1 k _ (tb_q k hc).1
    rw [(tb_q k hc).2] at hS
    obtain ⟨cf, kf, fi, f, hi, hsl⟩ := hS j hj
    have hst := (u_facts hfc hkC (u_lays X.2.2.2.2.1 (tb_layg hc) hj) hi).1
    exact W.getf (v := am_rv D.1 ((h.2 a).2.2 j)) X.1 X.2.1 X.2.2.2.1 (X.w hw rfl) hi hst q1 (by rw [q3]; exact fun q => by cases q) (by rw [hsl]; exact q5 j hj) rfl rfl hd (kk LS H locs hls hR hf)
  · simp only [if_neg ht] at hev
    cases hev
theorem am_fit_ok {ty : FieldType} {v : am_V} (h : am_fit (am_fk ty) v = true) : narrow ty (am_rv D.1 v) = am_rv D.1 v ∧ fits ty (am_rv D.1 v) = true := by
  cases ty <;> rcases v with x | (_ | x) | x | x <;> simp only [am_fk, am_fit] at h <;> first | (cases h; done) | exact ⟨rfl, rfl⟩ | skip
  all_goals
    rcases of_decide_eq_true h with rfl | rfl <;> exact ⟨rfl, rfl⟩
theorem at_put (X : am_Fx p R s m args meth c cc nL own ini D) {G : am_G} {i k j z pc : Nat} (hl : am_fl own i k j) (hfk : am_fk (am_ty k j) = z) (hfin : ((am_q k).2.1 j).2.2.2 = false ∨ (ini = true ∧ ((am_q k).2.1 j).2.2.2 = true ∧ ((am_q k).2.1 j).1 = own)) {x y : am_S} (hd : decode cc pc = .ok (.putfield i, 3)) (hev : am_I1 G (.putfield i, k, j, z) x = some y) (kk : am_At p l e R s m args below meth c Q D nL h0 y (pc + 3)) : am_At p l e R s m args below meth c Q D nL h0 x pc := by
  obtain ⟨hc, hj, hw⟩ := hl
  obtain ⟨ls, st, h⟩ := x
  rcases st with _ | ⟨v, _ | ⟨a | (_ | a) | a | a, st⟩⟩ <;> simp only [am_I1] at hev <;> try cases hev
  by_cases ht : (h.2 a).1 = k ∧ am_fit z v = true
  · simp only [if_pos ht] at hev
    cases hev
    intro LS H locs hls hR hf
    obtain ⟨h3, hlt, r, q1, q2, q3, q4, q5⟩ := hR.obj hc ht.1
    have hap := va_apart (own := own) X.2.2.2.2.1 (tb_layg hc) (am_ty k) (tb_ty k hc) (tb_nm k hc) X.2.2.2.2.2.1.1 (by rw [(tb_q k hc).1, ← (tb_q k hc).2])
    obtain ⟨hS, hfc, kC, hkC, hkind⟩ := X.2.2.2.2.2.1.1.1 k _ (tb_q k hc).1
    rw [(tb_q k hc).2] at hS
    obtain ⟨cf, kf, fi, f, hi, hsl⟩ := hS j hj
    have hst := (u_facts hfc hkC (u_lays X.2.2.2.2.1 (tb_layg hc) hj) hi).1
    have hfit := am_fit_ok (D := D) (ty := am_ty k j) (v := v) (by rw [hfk]; exact ht.2)
    have hlay := X.2.2.2.2.1 _ (tb_layg hc _ (u_in_lay hj))
    unfold u_lay at hlay
    have hdone : ∀ H' : Heap, H'[am_rho D.1 a]? = some (r.setSlot f.slot (am_rv D.1 v)) → H'.size = H.size → (∀ q, q ≠ am_rho D.1 a → H'[q]? = H[q]?) → W p l e R s m args below meth c H' (locs ++ [⟨am_rho D.1 a, f.slot⟩]) (h.1 - h0.1) (am_sl h - am_sl h0) Q (F0 m (pc + 3) LS (st.map (am_rv D.1))) := by
      intro H' e1 e2 e3
      have hR' : am_R D s (am_put h a (k, (h.2 a).2.1, au (h.2 a).2.2 j v)) H' := by
        refine hR.put h3 hlt (r := r.setSlot f.slot (am_rv D.1 v)) (by show k ≠ 99; omega) (Or.inl ⟨hc, q2, q3, q4, fun i hi => ?_⟩) e1 e2 e3
        have := t_set (V := fun i => am_rv D.1 ((h.2 a).2.2 i)) q5 hap hj (am_rv D.1 v) i hi
        rw [hsl]
        rw [this]
        show some (updV _ _ _ _) = some (am_rv D.1 (au (h.2 a).2.2 j v i))
        by_cases hij : i = j
        · subst hij; rw [au_s]; simp [updV]
        · rw [au_n _ _ hij]; simp [updV, hij]
      have := kk LS H' (locs ++ [⟨am_rho D.1 a, f.slot⟩]) hls hR' (fun q hq => by
        rcases List.mem_append.mp hq with g | g
        · exact hf q g
        · rw [List.mem_singleton.mp g]; show D.1.2.2.2 ≤ am_rho D.1 a; rw [am_rho_ge h3]; omega)
      rw [show am_sl (ls, st, am_put h a (k, (h.2 a).2.1, au (h.2 a).2.2 j v)).2.2 = am_sl h from am_sl_put rfl] at this
      exact this
    rcases hfin with hfin | ⟨hi1, hi2, hi3⟩
    · rw [if_neg (by rw [hfin]; decide)] at hlay
      have h6 := u_store hfc hkC hkind hlay hi (tb_ty k hc j hj) hfit.1 hfit.2
      exact W.putK X.1 X.2.1 (f := f) ⟨X.2.2.2.1, X.w hw rfl, ⟨_, _, _, hi⟩, hst⟩ (by rw [q2]; exact h6) q1 q3 (by rw [hsl]; exact k2_hasslot (q5 j hj)) rfl rfl hd hdone
    · rw [if_pos hi2] at hlay
      have hcf : m.cls = cf := by
        obtain ⟨_, _, c', _, _, _, -, -, hf', -, -, -, hown2, -⟩ := Cond.laysFinal_spec hlay
        have e1 : c' = cf := by have := hi.symm.trans hf'; simp at this; exact this.1.symm
        rw [hi3] at hown2
        rw [← e1]; exact Option.some.inj (X.2.2.2.1.symm.trans hown2)
      have h6 := u_fits hfc hkC hkind (Or.inr hlay) hi (tb_ty k hc j hj) hfit.1 hfit.2
      exact W.putFinK X.1 X.2.1 X.2.2.2.1 (X.w hw rfl) hi hst hcf (X.2.2.2.2.2.2.2.2 hi1) (by rw [q2]; exact h6) q1 q3 (by rw [hsl]; exact k2_hasslot (q5 j hj)) rfl rfl hd hdone
  · simp only [if_neg ht] at hev
    cases hev
theorem at_gets (X : am_Fx p R s m args meth c cc nL own ini D) {G : am_G} {i k j z pc : Nat} (hl : (k = 1 ∧ Cond.fieldLink own i "WeylWords$Operator" "X_AT" "[I" ∈ lw_tbl) ∨ (k = 2 ∧ Cond.fieldLink own i "WeylWords$Operator" "D_AT" "[I" ∈ lw_tbl)) {x y : am_S} (hd : decode cc pc = .ok (.getstatic i, 3)) (hev : am_I1 G (.getstatic i, k, j, z) x = some y) (kk : am_At p l e R s m args below meth c Q D nL h0 y (pc + 3)) : am_At p l e R s m args below meth c Q D nL h0 x pc := by
  simp only [am_I1] at hev
  cases hev
  intro LS H locs hls hR hf
  rcases hl with ⟨rfl, hw⟩ | ⟨rfl, hw⟩
  · obtain ⟨cf, kf, fi, f, a, cell, g1, g2, g3, g4, g5, g6, g7, g8⟩ := hR.2.2.2.2.2.1
    exact W.gets X.1 X.2.1 X.2.2.2.1 (X.w hw rfl) g1 g2 g3 g4 g5 (fun q => by rw [q] at g6; cases g6) g7 rfl hd (kk LS H locs hls hR hf)
  · obtain ⟨cf, kf, fi, f, a, cell, g1, g2, g3, g4, g5, g6, g7, g8⟩ := hR.2.2.2.2.2.2
    exact W.gets X.1 X.2.1 X.2.2.2.1 (X.w hw rfl) g1 g2 g3 g4 g5 (fun q => by rw [q] at g6; cases g6) g7 rfl hd (kk LS H locs hls hR hf)
theorem am_aload_eq {t : Nat → Bool} {x y : am_S} (hev : am_aload t x = some y) : ∃ ls st h i a, x = (ls, vI i :: vR a :: st, h) ∧ t (h.2 a).1 = true ∧ 0 ≤ i ∧ i < (h.2 a).2.1 ∧ (h.2 a).2.1 ≤ 100000 ∧ y = (ls, (h.2 a).2.2 i.toNat :: st, h) := by
  obtain ⟨ls, st, h⟩ := x
  rcases st with _ | ⟨i | i, _ | ⟨a | (_ | a) | a | a, st⟩⟩ <;> simp only [am_aload] at hev <;> try cases hev
  by_cases hc : t (h.2 a).1 = true ∧ 0 ≤ i ∧ i < (h.2 a).2.1 ∧ (h.2 a).2.1 ≤ 100000
  · simp only [if_pos hc] at hev
    cases hev
    exact ⟨ls, st, h, i, a, rfl, hc.1, hc.2.1, hc.2.2.1, hc.2.2.2, rfl⟩
  · simp only [if_neg hc] at hev
    cases hev
theorem at_iald (X : am_Fx p R s m args meth c cc nL own ini D) {pc : Nat} {x y : am_S} (hd : decode cc pc = .ok (.iaload, 1)) (hev : am_aload (fun t => t == 20 || t == 30) x = some y) (kk : am_At p l e R s m args below meth c Q D nL h0 y (pc + 1)) : am_At p l e R s m args below meth c Q D nL h0 x pc := by
  obtain ⟨ls, st, h, i, a, rfl, ht, h1, h2, h3, rfl⟩ := am_aload_eq hev
  intro LS H locs hls hR hf
  have hR : am_R D s h H := hR
  have hn := i32_nat h1 (show i ≤ 2147483647 by omega)
  have ht : (h.2 a).1 = 20 ∨ (h.2 a).1 = 30 := by simpa using ht
  rcases ht with ht | ht
  · obtain ⟨-, -, q1, -⟩ := hR.arr (t := 20) (by omega) (by omega) ht
    refine W.iald (v := am_rv D.1 ((h.2 a).2.2 i.toNat)) X.1 X.2.1 q1 ((X.2.2.2.2.2.1.2.1 20 (by omega) (by omega)).of _ _) (fun q => by cases q) (by rw [arrV_size]; exact i32_idx h1 h2 h3) (by rw [hn, arrV_read _ _ (by omega)]) rfl rfl hd (kk LS H locs hls hR hf)
  · obtain ⟨-, r, q1, q2⟩ := hR.2.2.2.2.1 a (by omega)
    rcases q2 with ⟨q3, -⟩ | ⟨q3, q4, -⟩ | ⟨-, q3, q4, q5, q6⟩
    · omega
    · omega
    · exact W.iald (v := am_rv D.1 ((h.2 a).2.2 i.toNat)) X.1 X.2.1 q1 q3 q4 (by rw [q5]; exact i32_idx h1 h2 h3) (by rw [hn]; exact q6 _ (by omega)) rfl rfl hd (kk LS H locs hls hR hf)
theorem at_bald (X : am_Fx p R s m args meth c cc nL own ini D) {pc : Nat} {x y : am_S} (hd : decode cc pc = .ok (.baload, 1)) (hev : am_aload (fun t => t == 21) x = some y) (kk : am_At p l e R s m args below meth c Q D nL h0 y (pc + 1)) : am_At p l e R s m args below meth c Q D nL h0 x pc := by
  obtain ⟨ls, st, h, i, a, rfl, ht, h1, h2, h3, rfl⟩ := am_aload_eq hev
  intro LS H locs hls hR hf
  have hR : am_R D s h H := hR
  have hn := i32_nat h1 (show i ≤ 2147483647 by omega)
  have ht : (h.2 a).1 = 21 := by simpa using ht
  obtain ⟨-, -, q1, -⟩ := hR.arr (t := 21) (by omega) (by omega) ht
  refine W.zald (v := am_rv D.1 ((h.2 a).2.2 i.toNat)) X.1 X.2.1 q1 ((X.2.2.2.2.2.1.2.1 21 (by omega) (by omega)).of _ _) (fun q => by cases q) (by rw [arrV_size]; exact i32_idx h1 h2 h3) (by rw [hn, arrV_read _ _ (by omega)]) rfl rfl hd (kk LS H locs hls hR hf)
theorem am_at_ref {t : Nat} (h1 : 22 ≤ t) (h2 : t ≤ 25) : (am_at t).isReference = true := by
  rcases (show t = 22 ∨ t = 23 ∨ t = 24 ∨ t = 25 by omega) with rfl | rfl | rfl | rfl <;> rfl
theorem at_aald (X : am_Fx p R s m args meth c cc nL own ini D) {pc : Nat} {x y : am_S} (hd : decode cc pc = .ok (.aaload, 1)) (hev : am_aload (fun t => decide (22 ≤ t ∧ t ≤ 25)) x = some y) (kk : am_At p l e R s m args below meth c Q D nL h0 y (pc + 1)) : am_At p l e R s m args below meth c Q D nL h0 x pc := by
  obtain ⟨ls, st, h, i, a, rfl, ht, h1, h2, h3, rfl⟩ := am_aload_eq hev
  intro LS H locs hls hR hf
  have hR : am_R D s h H := hR
  have hn := i32_nat h1 (show i ≤ 2147483647 by omega)
  have ht : 22 ≤ (h.2 a).1 ∧ (h.2 a).1 ≤ 25 := of_decide_eq_true ht
  obtain ⟨-, -, q1, -⟩ := hR.arr (by omega) ht.2 rfl
  refine W.aald (v := am_rv D.1 ((h.2 a).2.2 i.toNat)) X.1 X.2.1 q1 ((X.2.2.2.2.2.1.2.1 _ (by omega) ht.2).of _ _) (am_at_ref ht.1 ht.2) (fun q => by cases q) (by rw [arrV_size]; exact i32_idx h1 h2 h3) (by rw [hn, arrV_read _ _ (by omega)]) rfl rfl hd (kk LS H locs hls hR hf)
/-- behind a store into a row -/
theorem am_R.store {h : am_H} {H H' : Heap} (hR : am_R D s h H) {a t i : Nat} (h20 : 20 ≤ t) (h25 : t ≤ 25) (ht : (h.2 a).1 = t) {v : am_V} (hv : t = 20 → ∃ z : Int, v = vI z) (hi : i < (h.2 a).2.1)
    (e1 : H'[am_rho D.1 a]? = some ((arrV (D.2.2.2 t) (h.2 a).2.1 (fun j => am_rv D.1 ((h.2 a).2.2 j))).setSlot i (am_rv D.1 v))) (e2 : H'.size = H.size) (e3 : ∀ q, q ≠ am_rho D.1 a → H'[q]? = H[q]?) : am_R D s (am_put h a (t, (h.2 a).2.1, au (h.2 a).2.2 i v)) H' := by
  obtain ⟨h3, hl, q1, q2⟩ := hR.arr h20 h25 ht
  refine hR.put h3 hl (by show t ≠ 99; omega) (Or.inr (Or.inl ⟨h20, h25, ?_, fun h j hj => ?_⟩)) e1 e2 e3
  · rw [arrV_store]
    congr 1
    funext j
    show updV _ _ _ _ = am_rv D.1 (au (h.2 a).2.2 i v j)
    by_cases hij : j = i
    · subst hij; rw [au_s]; simp [updV]
    · rw [au_n _ _ hij]; simp [updV, hij]
  · have h : t = 20 := h
    show ∃ z : Int, au (_) i v j = vI z
    by_cases hij : j = i
    · subst hij; rw [au_s]; exact hv h
    · rw [au_n _ _ hij]; exact q2 h j hj
theorem am_store_at {h : am_H} {H' : Heap} {locs : List Loc} {a t i : Nat} {v : am_V} {LS : Array Slot} {ls st : List am_V} {pc : Nat} (hls : am_ls D.1 nL ls LS) (h3 : 3 ≤ a) (hR : am_R D s (am_put h a (t, (h.2 a).2.1, au (h.2 a).2.2 i v)) H') (hf : ∀ q ∈ locs, D.1.2.2.2 ≤ q.base)
    (kk : am_At p l e R s m args below meth c Q D nL h0 (ls, st, am_put h a (t, (h.2 a).2.1, au (h.2 a).2.2 i v)) pc) : W p l e R s m args below meth c H' (locs ++ [⟨am_rho D.1 a, i⟩]) (h.1 - h0.1) (am_sl h - am_sl h0) Q (F0 m pc LS (st.map (am_rv D.1))) := by
  have := kk LS H' (locs ++ [⟨am_rho D.1 a, i⟩]) hls hR (fun q hq => by
    rcases List.mem_append.mp hq with g | g
    · exact hf q g
    · rw [List.mem_singleton.mp g]; show D.1.2.2.2 ≤ am_rho D.1 a; rw [am_rho_ge h3]; omega)
  rw [show am_sl (ls, st, am_put h a (t, (h.2 a).2.1, au (h.2 a).2.2 i v)).2.2 = am_sl h from am_sl_put rfl] at this
  exact this
theorem at_iast (X : am_Fx p R s m args meth c cc nL own ini D) {G : am_G} {z : Nat × Nat × Nat} {pc : Nat} {x y : am_S} (hd : decode cc pc = .ok (.iastore, 1)) (hev : am_I1 G (.iastore, z) x = some y) (kk : am_At p l e R s m args below meth c Q D nL h0 y (pc + 1)) : am_At p l e R s m args below meth c Q D nL h0 x pc := by
  obtain ⟨ls, st, h⟩ := x
  rcases st with _ | ⟨v | v, _ | ⟨i | i, _ | ⟨a | (_ | a) | a | a, st⟩⟩⟩ <;> simp only [am_I1] at hev <;> try cases hev
  by_cases hc : (h.2 a).1 = 20 ∧ 0 ≤ i ∧ i < (h.2 a).2.1 ∧ (h.2 a).2.1 ≤ 100000
  · simp only [if_pos hc] at hev
    cases hev
    obtain ⟨ht, h1, h2, h3⟩ := hc
    intro LS H locs hls hR hf
    have hR : am_R D s h H := hR
    have hn := i32_nat h1 (show i ≤ 2147483647 by omega)
    obtain ⟨g3, -, q1, -⟩ := hR.arr (t := 20) (by omega) (by omega) ht
    refine W.iast X.1 X.2.1 q1 ((X.2.2.2.2.2.1.2.1 20 (by omega) (by omega)).of _ _) (fun q => by cases q) (by rw [arrV_size]; exact i32_idx h1 h2 h3) rfl rfl hd fun H' e1 e2 e3 => ?_
    rw [hn] at e1 ⊢
    exact am_store_at hls g3 (hR.store (by omega) (by omega) ht (v := vI v) (fun _ => ⟨v, rfl⟩) (by omega) e1 e2 e3) hf kk
  · simp only [if_neg hc] at hev
    cases hev
theorem at_bast (X : am_Fx p R s m args meth c cc nL own ini D) {G : am_G} {z : Nat × Nat × Nat} {pc : Nat} {x y : am_S} (hd : decode cc pc = .ok (.bastore, 1)) (hev : am_I1 G (.bastore, z) x = some y) (kk : am_At p l e R s m args below meth c Q D nL h0 y (pc + 1)) : am_At p l e R s m args below meth c Q D nL h0 x pc := by
  obtain ⟨ls, st, h⟩ := x
  rcases st with _ | ⟨v | v, _ | ⟨i | i, _ | ⟨a | (_ | a) | a | a, st⟩⟩⟩ <;> simp only [am_I1] at hev <;> try cases hev
  by_cases hc : (h.2 a).1 = 21 ∧ 0 ≤ i ∧ i < (h.2 a).2.1 ∧ (h.2 a).2.1 ≤ 100000 ∧ (v = 0 ∨ v = 1)
  · simp only [if_pos hc] at hev
    cases hev
    obtain ⟨ht, h1, h2, h3, h4⟩ := hc
    intro LS H locs hls hR hf
    have hR : am_R D s h H := hR
    have hn := i32_nat h1 (show i ≤ 2147483647 by omega)
    obtain ⟨g3, -, q1, -⟩ := hR.arr (t := 21) (by omega) (by omega) ht
    refine W.zast X.1 X.2.1 q1 ((X.2.2.2.2.2.1.2.1 21 (by omega) (by omega)).of _ _) (fun q => by cases q) (by rw [arrV_size]; exact i32_idx h1 h2 h3) rfl rfl hd fun H' e1 e2 e3 => ?_
    rw [show narrow .boolean (.int (Int32.ofInt v)) = am_rv D.1 (vI v) by rcases h4 with rfl | rfl <;> rfl, hn] at e1
    rw [hn]
    exact am_store_at hls g3 (hR.store (by omega) (by omega) ht (v := vI v) (fun q => by omega) (by omega) e1 e2 e3) hf kk
  · simp only [if_neg hc] at hev
    cases hev
end HEAP
end
section
/-! One step of the abstract machine is one of the machine: rows of references, lengths, what is made, arraycopy. -/
section HEAP2
variable {p : Program} {l : Launch} {e : Env} {R : Room} {s : State} {m : MethodId} {args : Array Value} {below : List Frame} {meth : Method} {c : Code} {Q : State → Prop} {cc : ByteArray} {nL : Nat} {own : String} {ini : Bool} {D : am_D} {h0 : am_H}
theorem am_assign (vm : Vm) (c : ClassId) : vm.assignable c c = true := by
  show vm.assignableAux (255 + 1) c c = true
  unfold Vm.assignableAux
  simp
/-- what a row of references takes: the cell's own number is that of the row's component -/
theorem am_el_cls (hK : am_K D s) {h : am_H} {H : Heap} (hR : am_R D s h H) {t v : Nat} (h1 : 22 ≤ t) (h2 : t ≤ 25) (hv : (h.2 v).1 = am_el t) : ∃ (kA kC : Class) (comp : ClassId) (cv : Cell), s.vm.classes[D.2.2.2 t]? = some kA ∧ kA.kind = .array comp (am_at t) ∧ H[am_rho D.1 v]? = some cv ∧ cv.cls = comp ∧ (∀ q, cv.vm ≠ .statics q) ∧ s.vm.classes[comp]? = some kC := by
  obtain ⟨-, kA, comp, k1, k2, k3⟩ := hK.2.1 t (by omega) h2
  have k3 := k3 h1
  by_cases h22 : t = 22
  · subst h22
    obtain ⟨g1, kI, ci, g2, g3, -⟩ := hK.2.1 20 (by omega) (by omega)
    have hc : comp = D.2.2.2 20 := Option.some.inj (k3.symm.trans g1)
    subst hc
    obtain ⟨-, -, q1, -⟩ := hR.arr (t := 20) (by omega) (by omega) hv
    exact ⟨kA, kI, _, _, k1, k2, q1, rfl, fun q w => (by cases w), g2⟩
  · have hel : am_el t < 13 ∧ (am_q (am_el t)).1 = am_cn t := by
      rcases (show t = 23 ∨ t = 24 ∨ t = 25 by omega) with rfl | rfl | rfl <;> exact ⟨by decide, rfl⟩
    obtain ⟨-, -, r, q1, q2, q3, -⟩ := hR.obj hel.1 hv
    obtain ⟨-, hfc, kC, hkC, -⟩ := hK.1.1 (am_el t) _ (tb_q _ hel.1).1
    rw [hel.2] at hfc
    have hc : comp = D.2.1 (am_el t) := Option.some.inj (k3.symm.trans hfc)
    subst hc
    exact ⟨kA, kC, _, r, k1, k2, q1, q2, fun q w => (by rw [q3] at w; cases w), hkC⟩
theorem at_aast (X : am_Fx p R s m args meth c cc nL own ini D) {G : am_G} {z : Nat × Nat × Nat} {pc : Nat} {x y : am_S} (hd : decode cc pc = .ok (.aastore, 1)) (hev : am_I1 G (.aastore, z) x = some y) (kk : am_At p l e R s m args below meth c Q D nL h0 y (pc + 1)) : am_At p l e R s m args below meth c Q D nL h0 x pc := by
  obtain ⟨ls, st, h⟩ := x
  rcases st with _ | ⟨v | (_ | v) | v | v, _ | ⟨i | i, _ | ⟨a | (_ | a) | a | a, st⟩⟩⟩ <;> simp only [am_I1] at hev <;> try cases hev
  by_cases hc : 22 ≤ (h.2 a).1 ∧ (h.2 a).1 ≤ 25 ∧ (h.2 v).1 = am_el (h.2 a).1 ∧ 0 ≤ i ∧ i < (h.2 a).2.1 ∧ (h.2 a).2.1 ≤ 100000
  · simp only [if_pos hc] at hev
    cases hev
    obtain ⟨t1, t2, t3, h1, h2, h3⟩ := hc
    intro LS H locs hls hR hf
    have hR : am_R D s h H := hR
    have hn := i32_nat h1 (show i ≤ 2147483647 by omega)
    obtain ⟨g3, -, q1, -⟩ := hR.arr (by omega) t2 rfl
    obtain ⟨kA, kC, comp, cv, w1, w2, w3, w4, w5, w6⟩ := am_el_cls X.2.2.2.2.2.1 hR t1 t2 t3
    have hin := i32_idx h1 h2 h3
    refine W.aast X.1 X.2.1 q1 (fun q w => by cases w) (fun w => by cases w) w1 w2 (am_at_ref t1 t2) w6 ⟨fun w => hin (Or.inl w), by rw [arrV_size]; exact Nat.not_le.mp fun w => hin (Or.inr w)⟩ w3 w5 (by rw [w4]; exact w6) (by rw [w4]; exact am_assign _ _) rfl rfl hd fun H' e1 e2 e3 => ?_
    rw [hn] at e1 ⊢
    exact am_store_at hls g3 (hR.store (by omega) t2 rfl (v := vR v) (fun q => by omega) (by omega) e1 e2 e3) hf kk
  · simp only [if_neg hc] at hev
    cases hev
theorem at_alen (X : am_Fx p R s m args meth c cc nL own ini D) {G : am_G} {z : Nat × Nat × Nat} {pc : Nat} {x y : am_S} (hd : decode cc pc = .ok (.arraylength, 1)) (hev : am_I1 G (.arraylength, z) x = some y) (kk : am_At p l e R s m args below meth c Q D nL h0 y (pc + 1)) : am_At p l e R s m args below meth c Q D nL h0 x pc := by
  obtain ⟨ls, st, h⟩ := x
  rcases st with _ | ⟨a | (_ | a) | a | a, st⟩ <;> simp only [am_I1] at hev <;> try cases hev
  by_cases hc : (h.2 a).1 = 20 ∨ (h.2 a).1 = 30
  · simp only [if_pos hc] at hev
    cases hev
    intro LS H locs hls hR hf
    have hR : am_R D s h H := hR
    rcases hc with ht | ht
    · obtain ⟨-, -, q1, -⟩ := hR.arr (t := 20) (by omega) (by omega) ht
      exact W.alen (n := Int32.ofInt (h.2 a).2.1) X.1 X.2.1 q1 ((X.2.2.2.2.2.1.2.1 20 (by omega) (by omega)).of _ _) (by rw [arrV_size]; rfl) rfl rfl hd (kk LS H locs hls hR hf)
    · obtain ⟨-, r, q1, q2⟩ := hR.2.2.2.2.1 a (by omega)
      rcases q2 with ⟨q3, -⟩ | ⟨q3, q4, -⟩ | ⟨-, q3, q4, q5, q6⟩
      · omega
      · omega
      · exact W.alen (n := Int32.ofInt (h.2 a).2.1) X.1 X.2.1 q1 q3 (by rw [q5]; rfl) rfl rfl hd (kk LS H locs hls hR hf)
  · simp only [if_neg hc] at hev
    cases hev
/-- behind what is made -/
theorem am_new_at {h : am_H} {H' : Heap} {locs : List Loc} {x : am_C} {LS : Array Slot} {ls st : List am_V} {pc n : Nat} (hB : am_B R h0 h) (hn : x.2.1 = n) (hls : am_ls D.1 nL ls LS) (hR : am_R D s (am_new h x) H') (hf : ∀ q ∈ locs, D.1.2.2.2 ≤ q.base)
    (kk : am_At p l e R s m args below meth c Q D nL h0 (ls, vR h.1 :: st, am_new h x) pc) {a : Nat} (ha : am_rho D.1 h.1 = a) : W p l e R s m args below meth c H' locs (h.1 - h0.1 + 1) (am_sl h - am_sl h0 + n) Q (F0 m pc LS (.ref a :: st.map (am_rv D.1))) := by
  have := kk LS H' locs hls hR hf
  have e1 : (am_new h x).1 - h0.1 = h.1 - h0.1 + 1 := by show h.1 + 1 - h0.1 = _; have := hB.1; omega
  have e2 : am_sl (am_new h x) - am_sl h0 = am_sl h - am_sl h0 + n := by rw [am_sl_new, hn]; have := hB.2.1; omega
  rw [show (ls, vR h.1 :: st, am_new h x).2.2 = am_new h x from rfl, e1, e2] at this
  rw [← ha]
  exact this
theorem am_B.room {h : am_H} {x : am_C} (hB : am_B R h0 h) (hB' : am_B R h0 (am_new h x)) : h.1 - h0.1 + 1 ≤ R.cells ∧ am_sl h - am_sl h0 + x.2.1 ≤ R.slots := by
  obtain ⟨h1, h2, -, -⟩ := hB
  obtain ⟨-, -, h3, h4⟩ := hB'
  rw [am_sl_new] at h4
  have h3 : h.1 + 1 - h0.1 ≤ R.cells := h3
  exact ⟨by omega, by omega⟩
theorem am_rho_size {h : am_H} {H : Heap} (hR : am_R D s h H) : am_rho D.1 h.1 = H.size := by
  rw [am_rho_ge hR.1]
  have := hR.2.1
  have := hR.1
  omega
theorem at_newa (X : am_Fx p R s m args meth c cc nL own ini D) {G : am_G} {t : ArrayType} {k j z pc : Nat} (hl : (t = .int ∧ k = 20) ∨ (t = .boolean ∧ k = 21)) {x y : am_S} (hB : am_B R h0 x.2.2) (hB' : am_B R h0 y.2.2) (hd : decode cc pc = .ok (.newarray t, 2)) (hev : am_I1 G (.newarray t, k, j, z) x = some y) (kk : am_At p l e R s m args below meth c Q D nL h0 y (pc + 2)) : am_At p l e R s m args below meth c Q D nL h0 x pc := by
  obtain ⟨ls, st, h⟩ := x
  rcases st with _ | ⟨n | n, st⟩ <;> simp only [am_I1] at hev <;> try cases hev
  by_cases hc : 0 ≤ n ∧ n ≤ 100000
  · simp only [if_pos hc] at hev
    cases hev
    intro LS H locs hls hR hf
    have hR : am_R D s h H := hR
    have hB : am_B R h0 h := hB
    have hn := i32_nat hc.1 (show n ≤ 2147483647 by omega)
    have h0' : ¬ Int32.ofInt n < 0 := by rw [i32_0, i32_lt ⟨by omega, by omega⟩ inR_0]; omega
    obtain ⟨r1, r2⟩ := hB.room hB'
    have hk : 20 ≤ k ∧ k ≤ 25 ∧ newarray.typeOf t = am_at k ∧ (Cond.arrayClass (newarray.typeOf t)).before args s = true ∧ defaultValue (newarray.typeOf t) = .int 0 ∧ componentBytes (newarray.typeOf t) ≤ 4 := by
      rcases hl with ⟨rfl, rfl⟩ | ⟨rfl, rfl⟩
      · exact ⟨by omega, by omega, rfl, X.w tb_ai rfl, rfl, by decide⟩
      · exact ⟨by omega, by omega, rfl, X.w tb_ab rfl, rfl, by decide⟩
    refine W.newa (n := Int32.ofInt n) X.1 X.2.1 hk.2.2.2.1 rfl hd rfl h0' (by rw [hn]; have := Nat.mul_le_mul (show n.toNat ≤ 100000 by omega) hk.2.2.2.2.2; omega) r1 (by rw [hn]; exact r2) fun cA kA comp f1 f2 f3 => ?_
    have hcA : cA = D.2.2.2 k := by
      have g := (X.2.2.2.2.2.1.2.1 k hk.1 hk.2.1).1
      rw [← hk.2.2.1] at g
      exact Option.some.inj (f1.symm.trans g)
    subst hcA
    rw [hn]
    refine am_new_at hB rfl hls (hR.new (r := arrV (D.2.2.2 k) n.toNat (fun _ => .int 0)) (by show k ≠ 99; omega) (Or.inr (Or.inl ⟨hk.1, hk.2.1, rfl, fun _ _ _ => ⟨0, rfl⟩⟩)) ?_ ?_ ?_) hf kk (am_rho_size hR)
    · rw [hk.2.2.2.2.1, Array.getElem?_push_size, ← arrV_new]
    · rw [Array.size_push]
    · exact fun q hq => by rw [Array.getElem?_push, if_neg (Nat.ne_of_lt hq)]
  · simp only [if_neg hc] at hev
    cases hev
theorem at_anew (X : am_Fx p R s m args meth c cc nL own ini D) {G : am_G} {i k j z pc : Nat} (hl : 23 ≤ k ∧ k ≤ 25 ∧ Cond.classLink own i (am_cn k) ∈ lw_tbl) {x y : am_S} (hB : am_B R h0 x.2.2) (hB' : am_B R h0 y.2.2) (hd : decode cc pc = .ok (.anewarray i, 3)) (hev : am_I1 G (.anewarray i, k, j, z) x = some y) (kk : am_At p l e R s m args below meth c Q D nL h0 y (pc + 3)) : am_At p l e R s m args below meth c Q D nL h0 x pc := by
  obtain ⟨ls, st, h⟩ := x
  rcases st with _ | ⟨n | n, st⟩ <;> simp only [am_I1] at hev <;> try cases hev
  by_cases hc : 0 ≤ n ∧ n ≤ 100000
  · simp only [if_pos hc] at hev
    cases hev
    intro LS H locs hls hR hf
    have hR : am_R D s h H := hR
    have hB : am_B R h0 h := hB
    have hn := i32_nat hc.1 (show n ≤ 2147483647 by omega)
    have h0' : ¬ Int32.ofInt n < 0 := by rw [i32_0, i32_lt ⟨by omega, by omega⟩ inR_0]; omega
    obtain ⟨r1, r2⟩ := hB.room hB'
    have hat : am_at k = .object (am_cn k) := by
      rcases (show k = 23 ∨ k = 24 ∨ k = 25 by omega) with rfl | rfl | rfl <;> rfl
    refine W.anew (n := Int32.ofInt n) X.1 X.2.1 X.2.2.2.1 (X.w hl.2.2 rfl) (X.2.2.2.2.2.1.2.2 _ (tb_ao k hl.1 hl.2.1) rfl) rfl hd rfl h0' (by rw [hn]; omega) r1 (by rw [hn]; exact r2) fun cA kA comp f1 f2 f3 f4 => ?_
    have hcA : cA = D.2.2.2 k := by
      have g := (X.2.2.2.2.2.1.2.1 k (by omega) hl.2.1).1
      rw [hat] at g
      exact Option.some.inj (f1.symm.trans g)
    subst hcA
    rw [hn]
    refine am_new_at hB rfl hls (hR.new (r := arrV (D.2.2.2 k) n.toNat (fun _ => .null)) (by show k ≠ 99; omega) (Or.inr (Or.inl ⟨by show 20 ≤ k; omega, hl.2.1, rfl, fun w => by have w : k = 20 := w; omega⟩)) ?_ ?_ ?_) hf kk (am_rho_size hR)
    · rw [Array.getElem?_push_size, ← arrV_new]
    · rw [Array.size_push]
    · exact fun q hq => by rw [Array.getElem?_push, if_neg (Nat.ne_of_lt hq)]
  · simp only [if_neg hc] at hev
    cases hev
theorem am_def {ty : FieldType} (h : am_fk ty ≠ 9) : defaultValue ty = am_rv D.1 (defV ty) := by
  cases ty <;> first | rfl | exact absurd rfl h
theorem am_fks : ∀ c, c < 13 → ∀ k, k < am_n c → am_fk (am_ty c k) ≠ 9 := by decide +kernel
theorem at_new (X : am_Fx p R s m args meth c cc nL own ini D) {G : am_G} {i k j z pc : Nat} (hl : k < 13 ∧ Cond.classLink own i (am_q k).1 ∈ lw_tbl) {x y : am_S} (hB : am_B R h0 x.2.2) (hB' : am_B R h0 y.2.2) (hd : decode cc pc = .ok (.new i, 3)) (hev : am_I1 G (.new i, k, j, z) x = some y) (kk : am_At p l e R s m args below meth c Q D nL h0 y (pc + 3)) : am_At p l e R s m args below meth c Q D nL h0 x pc := by
  obtain ⟨ls, st, h⟩ := x
  simp only [am_I1] at hev
  cases hev
  intro LS H locs hls hR hf
  have hR : am_R D s h H := hR
  have hB : am_B R h0 h := hB
  obtain ⟨r1, r2⟩ := hB.room hB'
  have hKn := X.2.2.2.2.2.1.1.1 k _ (tb_q k hl.1).1
  rw [(tb_q k hl.1).2] at hKn
  refine W.newcK (n := am_n k) X.1 X.2.1 X.2.2.2.1 (X.w hl.2 rfl) (X.w (tb_inst k hl.1) rfl) (X.w (tb_ini k hl.1) rfl) rfl hd r1 r2 hKn.2.1 rfl fun H1 kC hkC e1 z1 o1 => ?_
  obtain ⟨cell, b1, b2, b3, b4⟩ := u_born (am_ty k) X.2.2.2.2.1 (tb_layg hl.1) hKn hkC e1 (tb_ty k hl.1)
  exact am_new_at hB rfl hls (hR.new (r := cell) (by show k ≠ 99; have := hl.1; omega) (Or.inl ⟨hl.1, b2, b3, rfl, fun j hj => (b4 j hj).trans (congrArg some (am_def (am_fks k hl.1 j hj)))⟩) b1 z1 o1) hf kk (am_rho_size hR)
theorem at_oini (X : am_Fx p R s m args meth c cc nL own ini D) {G : am_G} {i j z pc : Nat} (hl : Cond.methodLink own i Lib.objectInit ∈ lw_tbl) {x y : am_S} (hd : decode cc pc = .ok (.invokespecial i, 3)) (hev : am_I1 G (.invokespecial i, 998, j, z) x = some y) (kk : am_At p l e R s m args below meth c Q D nL h0 y (pc + 3)) : am_At p l e R s m args below meth c Q D nL h0 x pc := by
  obtain ⟨ls, st, h⟩ := x
  rcases st with _ | ⟨a | (_ | a) | a | a, st⟩ <;> simp only [am_I1, if_true] at hev <;> try cases hev
  by_cases hc : am_cats st ≤ 8
  · simp only [if_pos hc] at hev
    cases hev
    intro LS H locs hls hR hf
    exact W.objInit X.1 X.2.1 X.2.2.2.1 (X.w hl rfl) (X.w tb_oi rfl) (X.w tb_oc rfl) rfl (by rw [X.2.2.1]; exact hls.2.1.1) rfl hd X.2.2.2.2.2.2.1 (by show 2 * 0 + _ + 12 ≤ _; rw [am_cats_eq]; have := X.2.2.2.2.2.2.2.1; omega) (kk LS H locs hls hR hf)
  · simp only [if_neg hc] at hev
    cases hev
theorem at_copy (X : am_Fx p R s m args meth c cc nL own ini D) {i pc : Nat} (hl : Cond.methodLink own i arraycopyName ∈ lw_tbl) {x y : am_S} (hd : decode cc pc = .ok (.invokestatic i, 3)) (hev : am_copy x = some y) (kk : am_At p l e R s m args below meth c Q D nL h0 y (pc + 3)) : am_At p l e R s m args below meth c Q D nL h0 x pc := by
  obtain ⟨ls, st, h⟩ := x
  rcases st with _ | ⟨n | n, _ | ⟨dp | dp, _ | ⟨d | (_ | d) | d | d, _ | ⟨sp | sp, _ | ⟨a | (_ | a) | a | a, st⟩⟩⟩⟩⟩ <;> simp only [am_copy] at hev <;> try cases hev
  by_cases hc : (h.2 a).1 = 20 ∧ (h.2 d).1 = 20 ∧ 0 ≤ sp ∧ 0 ≤ dp ∧ 0 ≤ n ∧ sp + n ≤ (h.2 a).2.1 ∧ dp + n ≤ (h.2 d).2.1 ∧ (h.2 a).2.1 ≤ 100000 ∧ (h.2 d).2.1 ≤ 100000 ∧ am_cats st ≤ 8
  · simp only [if_pos hc] at hev
    cases hev
    obtain ⟨ta, td, c1, c2, c3, c4, c5, c6, c7, c8⟩ := hc
    intro LS H locs hls hR hf
    have hR : am_R D s h H := hR
    have n1 := i32_nat c1 (show sp ≤ 2147483647 by omega)
    have n2 := i32_nat c2 (show dp ≤ 2147483647 by omega)
    have n3 := i32_nat c3 (show n ≤ 2147483647 by omega)
    have i1 : (Int32.ofInt sp).toInt = sp := i32_of ⟨by omega, by omega⟩
    have i2 : (Int32.ofInt dp).toInt = dp := i32_of ⟨by omega, by omega⟩
    have i3 : (Int32.ofInt n).toInt = n := i32_of ⟨by omega, by omega⟩
    obtain ⟨a3, al, qa, va⟩ := hR.arr (t := 20) (by omega) (by omega) ta
    obtain ⟨d3, dl, qd, vd⟩ := hR.arr (t := 20) (by omega) (by omega) td
    obtain ⟨-, kI, ci, k1, k2, -⟩ := X.2.2.2.2.2.1.2.1 20 (by omega) (by omega)
    have neg : ∀ v : Int, 0 ≤ v → v ≤ 100000 → ¬ Int32.ofInt v < 0 := fun v w1 w2 => by rw [i32_0, i32_lt ⟨by omega, by omega⟩ inR_0]; omega
    intro T hT Y
    obtain ⟨vm', Y', step⟩ := Y.arraycopy X.1 X.2.2.2.1 (X.w hl rfl) (X.w tb_cn rfl) (X.w tb_cs rfl) (X.w tb_ci rfl) (src := am_rho D.1 a) (dst := am_rho D.1 d) (cs := arrV (D.2.2.2 20) (h.2 a).2.1 (fun j => am_rv D.1 ((h.2 a).2.2 j))) (cd := arrV (D.2.2.2 20) (h.2 d).2.1 (fun j => am_rv D.1 ((h.2 d).2.2 j))) (srcPos := Int32.ofInt sp) (destPos := Int32.ofInt dp) (n := Int32.ofInt n) (by rw [hT]; exact qa) (by rw [hT]; exact qd)
      (fun _ w => by cases w) (fun _ w => by cases w) (fun w => by cases w) (fun w => by cases w) k1 k1 k2 k2 (by decide) (neg sp c1 (by omega)) (neg dp c2 (by omega)) (neg n c3 (by omega))
      (by rw [i1, i3, arrV_size]; omega) (by rw [i2, i3, arrV_size]; omega)
      (fun vm₁ _ j hj => by
        rw [n3] at hj
        have e : (arrV (D.2.2.2 20) (h.2 a).2.1 (fun j => am_rv D.1 ((h.2 a).2.2 j))).slots.getD ((Int32.ofInt sp).toNatClampNeg + j) .null = am_rv D.1 ((h.2 a).2.2 (sp.toNat + j)) := by
          rw [n1, Array.getD_eq_getD_getElem?, arrV_read _ _ (by omega)]
          rfl
        obtain ⟨w, hw⟩ := va rfl (sp.toNat + j) (by omega)
        rw [e, hw]
        exact ⟨rfl, trivial⟩)
      (g := F0 m pc LS (.int (Int32.ofInt n) :: .int (Int32.ofInt dp) :: .ref (am_rho D.1 d) :: .int (Int32.ofInt sp) :: .ref (am_rho D.1 a) :: st.map (am_rv D.1))) rfl (by rw [X.2.2.1]; exact hls.2.1.1) (rest := st.map (am_rv D.1)) rfl (by rw [X.2.1]; exact hd) X.2.2.2.2.2.2.1 (by show 2 * 0 + _ + _ ≤ _; rw [am_cats_eq]; have := X.2.2.2.2.2.2.2.1; show 2 * 0 + _ + (5 + 2 + 11) ≤ _; omega)
    have e1 : copied (arrV (D.2.2.2 20) (h.2 a).2.1 (fun j => am_rv D.1 ((h.2 a).2.2 j))) (arrV (D.2.2.2 20) (h.2 d).2.1 (fun j => am_rv D.1 ((h.2 d).2.2 j))) (Int32.ofInt sp) (Int32.ofInt dp) (Int32.ofInt n) = arrV (D.2.2.2 20) (h.2 d).2.1 (fun j => am_rv D.1 (am_cpy (h.2 a).2.2 (h.2 d).2.2 sp.toNat dp.toNat n.toNat j)) := by
      have := va_copied (fun z => am_rv D.1 z) (D.2.2.2 20) (D.2.2.2 20) (n0 := (h.2 a).2.1) (n1 := (h.2 d).2.1) (sp := sp.toNat) (dp := dp.toNat) (n := n.toNat) (h.2 a).2.2 (h.2 d).2.2 (by omega)
      rw [← n1, ← n2, ← n3] at this
      rw [← n1, ← n2, ← n3]
      exact this
    rw [e1] at Y' step
    have hlt : am_rho D.1 d < H.size := (Array.getElem?_eq_some_iff.mp qd).1
    generalize hH1 : H.setIfInBounds (am_rho D.1 d) (arrV (D.2.2.2 20) (h.2 d).2.1 (fun j => am_rv D.1 (am_cpy (h.2 a).2.2 (h.2 d).2.2 sp.toNat dp.toNat n.toNat j))) = H1
    have hR' : am_R D s (am_put h d (20, (h.2 d).2.1, am_cpy (h.2 a).2.2 (h.2 d).2.2 sp.toNat dp.toNat n.toNat)) H1 := by
      refine hR.put d3 dl (r := arrV (D.2.2.2 20) (h.2 d).2.1 (fun j => am_rv D.1 (am_cpy (h.2 a).2.2 (h.2 d).2.2 sp.toNat dp.toNat n.toNat j))) (by show (20 : Nat) ≠ 99; decide) (Or.inr (Or.inl ⟨by show 20 ≤ 20; omega, by show 20 ≤ 25; omega, rfl, fun _ j hj => ?_⟩)) ?_ ?_ ?_
      · show ∃ v : Int, am_cpy _ _ _ _ _ j = vI v
        unfold am_cpy
        split
        · exact va rfl _ (by omega)
        · exact vd rfl _ hj
      · rw [← hH1]; simp [Array.getElem?_setIfInBounds, hlt]
      · rw [← hH1]; simp
      · intro q hq
        rw [← hH1]; simp [Array.getElem?_setIfInBounds, Ne.symm hq]
    have hk := kk LS H1 (locs ++ ((arrV (D.2.2.2 20) (h.2 a).2.1 (fun j => am_rv D.1 ((h.2 a).2.2 j))).stretch (Int32.ofInt sp).toNatClampNeg (Int32.ofInt n).toNatClampNeg).zipIdx.map fun q => ⟨am_rho D.1 d, (Int32.ofInt dp).toNatClampNeg + q.2⟩) hls hR' (fun q hq => by
      rcases List.mem_append.mp hq with g | g
      · exact hf q g
      · obtain ⟨w, -, hw⟩ := List.mem_map.mp g
        rw [← hw]; show D.1.2.2.2 ≤ am_rho D.1 d; rw [am_rho_ge d3]; omega)
    rw [show am_sl (ls, st, am_put h d (20, (h.2 d).2.1, am_cpy (h.2 a).2.2 (h.2 d).2.2 sp.toNat dp.toNat n.toNat)).2.2 = am_sl h from am_sl_put rfl] at hk
    obtain ⟨t, a1, b1⟩ := hk _ (show ((T.setVm vm').setCell (am_rho D.1 d) _).heap = H1 by rw [← hH1, ← hT]; rfl) Y'
    exact ⟨t, step t a1, b1⟩
  · simp only [if_neg hc] at hev
    cases hev
end HEAP2
end
section
/-! A row of rows of ints: multianewarray of two dimensions. -/
section MULTI
variable {E : CtlPost} {e : Env} {d : Bool} {acts : List Action} {s : State}
theorem mu_newA {c : ClassId} {n : Nat} {k : Class} {comp : ClassId} {ty : FieldType} {v : Value} {Qn : Addr → Pre} (hk : s.vm.classes[c]? = some k) (hkind : k.kind = .array comp ty) (hv : fits ty v = true)
    (hlimit : ¬ n > e.platform.arrayLengthLimit) (hheap : ¬ n * componentBytes ty > e.platform.maxHeapBytes) (h1 : s.heap.size < e.platform.maxCells) (h2 : s.slotsUsed + n ≤ e.platform.maxSlots)
    (hq : ∀ d' acts', Qn s.heap.size d' acts' (s.pushCell { cls := c, slots := Array.replicate n v, vm := .none })) : wp (Jvm.newArray c n v) Qn E e d acts s := by
  have hfit : ∀ i w, (Array.replicate n v)[i]? = some w → s.fitsSlot c .none i w = true := by
    intro i w hw
    simp only [Array.getElem?_replicate] at hw
    split at hw
    · cases hw; simp [State.fitsSlot, State.slotType?, hk, hkind, hv]
    · cases hw
  simp only [Jvm.newArray, Jvm.arrayFits, wp_bind', W.ask, W.ite, hlimit, if_false, wp_pure', W.theClass, hk, hkind, hheap, W.alloc, W.stop, Option.some.injEq, exists_eq_left']
  rw [if_neg (by omega)]
  exact ⟨h1, by simpa using h2, hfit, hq _ _⟩
theorem mu_make1 {c : ClassId} {n : Int32} {k : Class} {comp : ClassId} {ty : FieldType} {Qn : Addr → Pre} (hn : ¬ n < 0) (hk : s.vm.classes[c]? = some k) (hkind : k.kind = .array comp ty) (hv : fits ty (defaultValue ty) = true)
    (hlimit : ¬ n.toNatClampNeg > e.platform.arrayLengthLimit) (hheap : ¬ n.toNatClampNeg * componentBytes ty > e.platform.maxHeapBytes) (h1 : s.heap.size < e.platform.maxCells) (h2 : s.slotsUsed + n.toNatClampNeg ≤ e.platform.maxSlots)
    (hq : ∀ d' acts', Qn s.heap.size d' acts' (s.pushCell { cls := c, slots := Array.replicate n.toNatClampNeg (defaultValue ty), vm := .none })) : wp (multianewarray.make c [n]) Qn E e d acts s := by
  simp only [multianewarray.make, wp_bind', W.ite, hn, if_false, wp_pure', W.theClass, hk, hkind, Option.some.injEq, exists_eq_left']
  exact mu_newA hk hkind hv hlimit hheap h1 h2 hq
end MULTI
section MULTI2
variable {E : CtlPost} {e : Env} {d : Bool} {acts : List Action} {s : State}
theorem mu_make2 {c : ClassId} {n k : Int32} {kc : Class} {comp : ClassId} {Qn : Addr → Pre} (I : Nat → State → Prop) (hn : ¬ n < 0) (hn0 : ¬ n.toNatClampNeg = 0) (hk0 : ¬ k < 0) (hk : s.vm.classes[c]? = some kc) (hkind : kc.kind = .array comp (.array .int))
    (hlimit : ¬ n.toNatClampNeg > e.platform.arrayLengthLimit) (hheap : ¬ n.toNatClampNeg * 4 > e.platform.maxHeapBytes) (h1 : s.heap.size < e.platform.maxCells) (h2 : s.slotsUsed + n.toNatClampNeg ≤ e.platform.maxSlots)
    (h0 : I 0 (s.pushCell { cls := c, slots := Array.replicate n.toNatClampNeg .null, vm := .none }))
    (hstep : ∀ i s' d' acts' (Q' : ForInStep PUnit → Pre), i < n.toNatClampNeg → I i s' → (∀ s'' d'' acts'', I (i + 1) s'' → Q' (ForInStep.yield PUnit.unit) d'' acts'' s'') → wp (do let a ← multianewarray.make comp [k]; Jvm.writeLoc s.heap.size i (.ref a); Pure.pure (ForInStep.yield PUnit.unit)) Q' E e d' acts' s')
    (hq : ∀ s' d' acts', I n.toNatClampNeg s' → Qn s.heap.size d' acts' s') : wp (multianewarray.make c [n, k]) Qn E e d acts s := by
  rw [multianewarray.make]
  simp only [wp_bind', W.ite, hn, if_false, wp_pure', W.theClass, hk, hkind, Option.some.injEq, exists_eq_left']
  refine mu_newA hk hkind rfl hlimit hheap h1 h2 fun d' acts' => ?_
  have hz : (n == 0) = false := by
    rw [beq_eq_false_iff_ne]
    intro q
    subst q
    exact hn0 rfl
  simp only [hz, Bool.false_eq_true, if_false, wp_bind', wp_pure', Std.Legacy.Range.forIn_eq_forIn_range', Std.Legacy.Range.size]
  refine wp_forIn_inv (fun rest s' => ∃ i, i ≤ n.toNatClampNeg ∧ rest = List.range' i (n.toNatClampNeg - i) ∧ I i s') _ _ ⟨0, Nat.zero_le _, by simp, h0⟩ ?_ ?_
  · rintro x rest s' d2 acts2 Q' ⟨i, hi, hr, hI⟩ hQ
    by_cases hlt : i < n.toNatClampNeg
    · rw [show n.toNatClampNeg - i = (n.toNatClampNeg - (i + 1)) + 1 by omega, List.range'_succ] at hr
      obtain ⟨rfl, rfl⟩ := List.cons.inj hr
      exact hstep _ s' d2 acts2 Q' hlt hI fun s'' d'' acts'' h => hQ s'' d'' acts'' ⟨_, hlt, rfl, h⟩
    · rw [show n.toNatClampNeg - i = 0 by omega] at hr
      cases hr
  · rintro s' d2 acts2 ⟨i, hi, hr, hI⟩
    have hi' : i = n.toNatClampNeg := by
      by_cases hlt : i < n.toNatClampNeg
      · rw [show n.toNatClampNeg - i = (n.toNatClampNeg - (i + 1)) + 1 by omega, List.range'_succ] at hr
        cases hr
      · omega
    subst hi'
    exact hq s' d2 acts2 hI
end MULTI2
def muT (T : State) (cA cI : ClassId) (n k : Nat) : Nat → State
  | 0 => T.pushCell { cls := cA, slots := Array.replicate n .null, vm := .none }
  | i + 1 => ((muT T cA cI n k i).pushCell { cls := cI, slots := Array.replicate k (.int 0), vm := .none }).setCell T.heap.size ((arrV cA n (fun j => if j < i then .ref (T.heap.size + 1 + j) else .null)).setSlot i (.ref (T.heap.size + 1 + i)))
section MULTI3
variable {p : Program} {l : Launch} {e : Env} {R : Room} {s : State} {m : MethodId} {args : Array Value} {below : List Frame} {meth : Method} {c : Code} {T : State} {locs : List Loc} {cells slots : Nat}
theorem mu_vm (T : State) (cA cI : ClassId) (n k i : Nat) : (muT T cA cI n k i).vm = T.vm := by
  induction i with
  | zero => rfl
  | succ i ih => exact ih
theorem mu_facts (T : State) (cA cI : ClassId) (n k : Nat) : ∀ i, i ≤ n → (muT T cA cI n k i).heap.size = T.heap.size + 1 + i ∧ (muT T cA cI n k i).heap[T.heap.size]? = some (arrV cA n (fun j => if j < i then .ref (T.heap.size + 1 + j) else .null))
    ∧ (∀ j, j < i → (muT T cA cI n k i).heap[T.heap.size + 1 + j]? = some (arrV cI k (fun _ => .int 0))) ∧ ∀ q, q < T.heap.size → (muT T cA cI n k i).heap[q]? = T.heap[q]? := by
  intro i
  induction i with
  | zero =>
    intro _
    refine ⟨by simp [muT, State.pushCell], ?_, fun j hj => absurd hj (by omega), fun q hq => ?_⟩
    · show (T.heap.push _)[T.heap.size]? = _
      rw [Array.getElem?_push_size, arrV_new]
      rfl
    · show (T.heap.push _)[q]? = _
      rw [Array.getElem?_push, if_neg (Nat.ne_of_lt hq)]
  | succ i ih =>
    intro hi
    obtain ⟨h1, h2, h3, h4⟩ := ih (by omega)
    generalize hU : muT T cA cI n k i = U at h1 h2 h3 h4
    have e : (muT T cA cI n k (i + 1)).heap = (U.heap.push { cls := cI, slots := Array.replicate k (.int 0), vm := .none }).setIfInBounds T.heap.size ((arrV cA n (fun j => if j < i then .ref (T.heap.size + 1 + j) else .null)).setSlot i (.ref (T.heap.size + 1 + i))) := by
      rw [← hU]; rfl
    rw [e]
    refine ⟨by rw [Array.size_setIfInBounds, Array.size_push, h1]; omega, ?_, fun j hj => ?_, fun q hq => ?_⟩
    · rw [Array.getElem?_setIfInBounds, if_pos rfl, if_pos (by rw [Array.size_push, h1]; omega), arrV_store]
      congr 2
      funext j
      show updV _ _ _ _ = _
      unfold updV
      by_cases hji : j = i
      · subst hji; simp
      · rw [if_neg hji]
        show (if j < i then Value.ref (T.heap.size + 1 + j) else Value.null) = _
        by_cases hlt : j < i
        · rw [if_pos hlt, if_pos (by omega)]
        · rw [if_neg hlt, if_neg (by omega)]
    · rw [Array.getElem?_setIfInBounds, if_neg (by omega), Array.getElem?_push]
      by_cases hji : j = i
      · subst hji
        rw [if_pos (by omega), arrV_new]
      · rw [if_neg (by omega)]
        exact h3 j (by omega)
    · rw [Array.getElem?_setIfInBounds, if_neg (by omega), Array.getElem?_push, if_neg (by omega)]
      exact h4 q hq
theorem mu_stand (X : Stand p l e R s m args below meth c T locs cells slots) (cA cI : ClassId) (n k : Nat) : ∀ i, i ≤ n → ∃ L : List Loc, (∀ q ∈ L, q.base = T.heap.size) ∧ Stand p l e R s m args below meth c (muT T cA cI n k i) (locs ++ L) (cells + 1 + i) (slots + n + i * k) := by
  intro i
  induction i with
  | zero =>
    intro _
    refine ⟨[], fun q hq => absurd hq List.not_mem_nil, ?_⟩
    have := X.pushed { cls := cA, slots := Array.replicate n .null, vm := .none }
    simpa [muT] using this
  | succ i ih =>
    intro hi
    obtain ⟨L, hL, X1⟩ := ih (by omega)
    obtain ⟨h1, h2, -, -⟩ := mu_facts T cA cI n k i (by omega)
    have X2 := X1.pushed { cls := cI, slots := Array.replicate k (.int 0), vm := .none }
    have hc : ((muT T cA cI n k i).pushCell { cls := cI, slots := Array.replicate k (.int 0), vm := .none }).heap[T.heap.size]? = some (arrV cA n (fun j => if j < i then .ref (T.heap.size + 1 + j) else .null)) := by
      show ((muT T cA cI n k i).heap.push _)[T.heap.size]? = _
      rw [Array.getElem?_push, if_neg (by omega)]
      exact h2
    have X3 := X2.stored hc i (.ref (T.heap.size + 1 + i))
    refine ⟨L ++ [⟨T.heap.size, i⟩], fun q hq => ?_, ?_⟩
    · rcases List.mem_append.mp hq with g | g
      · exact hL q g
      · rw [List.mem_singleton.mp g]
    · have e1 : cells + 1 + i + 1 = cells + 1 + (i + 1) := by omega
      have e2 : slots + n + i * k + (Array.replicate k (Value.int 0)).size = slots + n + (i + 1) * k := by rw [Array.size_replicate, Nat.succ_mul]; omega
      rw [← List.append_assoc, ← e1, ← e2]
      exact X3
theorem mu_cold {E : CtlPost} {d : Bool} {acts : List Action} {Qn : Unit → Pre} {f : JFrame} {index c : Nat} {vm' : Vm} (hs : s.topJava?.isSome) (hg : (Jvm.resolveClass f.method.cls index).Gives e.toSetting s.vm (.ok c) vm') (hr : vm'.classReady f.method.cls index c)
    (hsz : vm'.classes.size ≤ s.vm.classes.size := by no_record) :
    wp (multianewarray.sem index 2) Qn E e d acts (s.setTop f) ↔ wp (multianewarray.sem index 2) Qn E e d acts ((s.setVm vm').setTop f) := by
  simp only [multianewarray.sem, wp_bind']
  exact W.resolveClassAt_transfer (s := s.setTop f) (State.method?_setTop f hs) hg hr
theorem mu_row (X : Stand p l e R s m args below meth c T locs cells slots) (hexec : p.tables.exec = Jvm.exec) {own : String} {index : Nat}
    (hown : s.vm.findClass own = some m.cls) (hclink : (Cond.classLink own index "[[I").before args s = true) {cA comp ci : ClassId} {kA kI : Class} (hA : s.vm.findClass "[[I" = some cA) (hkA : s.vm.classes[cA]? = some kA) (hkindA : kA.kind = .array comp (.array .int)) (hkI : s.vm.classes[comp]? = some kI) (hkindI : kI.kind = .array ci .int)
    {g : JFrame} (hg : g.method = m) (hdg : decode c.code g.pc = .ok (.multianewarray index 2, 4)) {n k : Int32} {rest : List Value} (hstack : g.stack = .int k :: .int n :: rest) (hn : ¬ n < 0) (hn0 : ¬ n.toNatClampNeg = 0) (hk : ¬ k < 0) (hnb : n.toNatClampNeg ≤ 1000) (hkb : k.toNatClampNeg ≤ 1000)
    (hcells : cells + 1 + n.toNatClampNeg ≤ R.cells) (hslots : slots + n.toNatClampNeg + n.toNatClampNeg * k.toNatClampNeg ≤ R.slots) :
    ∃ vm₁ : Vm, s.WarmedH vm₁ ∧ ∀ target, Steps p.tables e below ((muT (T.setVm vm₁) cA comp n.toNatClampNeg k.toNatClampNeg n.toNatClampNeg).setTop { g with pc := g.pc + 4, stack := .ref T.heap.size :: rest }) target → Steps p.tables e below (T.setTop g) target := by
  subst hg
  have hpl : e.platform.magicAccessors = ({} : Platform).magicAccessors := by rw [X.admits.platform]
  obtain ⟨cc, hfcc, hcl⟩ := Cond.classLink_spec hown hclink e.platform hpl
  cases hA.symm.trans hfcc
  obtain ⟨hg₁, hwarm₁, hready₁⟩ := State.classEntry (e := e) X.warmed hcl
  generalize T.vm.noted g.method.cls index (.cls cA) = vm₁ at hg₁ hwarm₁ hready₁
  have hal : s.vm.Alike vm₁ := hwarm₁.alike
  refine ⟨vm₁, hwarm₁, fun target hrest => ?_⟩
  refine Steps.instr (c := _) (by simpa using X.here) ?_
  simp [jvm, wpRun, exec, X.here.top, hexec, hdg]
  rw [mu_cold (e := e) (s := T) (f := g) X.here.top hg₁ hready₁]
  have htop : (T.setVm vm₁).topJava?.isSome := X.here.top
  simp only [multianewarray.sem, wp_bind', W.resolveClassAt_ready (State.method?_setTop g htop) hready₁, popN, W.pop, State.topJava?_setTop' _ htop, Option.some.injEq, exists_eq_left', hstack, List.cons.injEq, exists_cons_eq, State.setTop_setTop, wp_pure', List.nil_append, List.cons_append, List.mapM_cons, List.mapM_nil]
  obtain ⟨kA₁, hkA₁, heA⟩ := hal.2.2 _ _ hkA
  have hkindA₁ : kA₁.kind = .array comp (.array .int) := by rw [heA]; exact hkindA
  obtain ⟨kI₁, hkI₁, heI⟩ := hal.2.2 _ _ hkI
  have hkindI₁ : kI₁.kind = .array ci .int := by rw [heI]; exact hkindI
  have X₁ := X.noted hwarm₁
  have lim : ∀ q : Nat, q ≤ 1000 → ¬ q > e.platform.arrayLengthLimit := fun q hq => by rw [Launch.admits_arrayLengthLimit X.admits]; omega
  have lim2 : ∀ q : Nat, q ≤ 1000 → ¬ q * 4 > e.platform.maxHeapBytes := fun q hq => by rw [Launch.admits_maxHeapBytes X.admits]; omega
  obtain ⟨r1, r2⟩ := X₁.roomAbove (a := 1) (b := n.toNatClampNeg) (by omega) (by omega)
  generalize hT1 : T.setVm vm₁ = T1 at htop X₁ r1 r2 ⊢
  have hT1h : T1.heap = T.heap := by rw [← hT1]; rfl
  have hT1v : T1.vm = vm₁ := by rw [← hT1]; rfl
  refine mu_make2 (fun i s' => s' = (muT T1 cA comp n.toNatClampNeg k.toNatClampNeg i).setTop { g with stack := rest }) hn hn0 hk (kc := kA₁) (by show T1.vm.classes[cA]? = _; rw [hT1v]; exact hkA₁) hkindA₁ (lim _ hnb) (lim2 _ hnb) (by show T1.heap.size < _; omega) (by show T1.slotsUsed + _ ≤ _; exact r2) ?_ ?_ ?_
  · rfl
  · rintro i s' d' acts' Q' hi rfl hQ
    obtain ⟨f1, f2, f3, f4⟩ := mu_facts T1 cA comp n.toNatClampNeg k.toNatClampNeg i (by omega)
    obtain ⟨L, -, Xi⟩ := mu_stand X₁ cA comp n.toNatClampNeg k.toNatClampNeg i (by omega)
    have hvm := mu_vm T1 cA comp n.toNatClampNeg k.toNatClampNeg i
    have hmul : i * k.toNatClampNeg + k.toNatClampNeg ≤ n.toNatClampNeg * k.toNatClampNeg := by
      rw [← Nat.succ_mul]; exact Nat.mul_le_mul_right _ hi
    obtain ⟨g1, g2⟩ := Xi.roomAbove (a := 1) (b := k.toNatClampNeg) (by omega) (by omega)
    generalize hU : muT T1 cA comp n.toNatClampNeg k.toNatClampNeg i = U at f1 f2 f3 f4 Xi hvm g1 g2 ⊢
    simp only [wp_bind']
    refine mu_make1 (k := kI₁) hk (by show U.vm.classes[comp]? = _; rw [hvm, hT1v]; exact hkI₁) hkindI₁ rfl (lim _ hkb) (lim2 _ hkb) (by show U.heap.size < _; omega) (by show U.slotsUsed + _ ≤ _; exact g2) fun d2 acts2 => ?_
    simp only [wp_bind', W.writeLoc, wp_pure']
    refine ⟨arrV cA n.toNatClampNeg (fun j => if j < i then .ref (T1.heap.size + 1 + j) else .null), ?_, fun q => (by cases q), (by rw [arrV_size]; exact hi), ?_, hQ _ _ _ ?_⟩
    · show (U.heap.push _)[T1.heap.size]? = _
      rw [Array.getElem?_push, if_neg (by omega)]
      exact f2
    · show ((U.setTop _).pushCell _).fitsSlot cA .none i _ = true
      have : ((U.setTop { g with stack := rest }).pushCell { cls := comp, slots := Array.replicate k.toNatClampNeg (defaultValue .int), vm := .none }).vm.classes[cA]? = some kA₁ := by show U.vm.classes[cA]? = _; rw [hvm, hT1v]; exact hkA₁
      simp [State.fitsSlot, State.slotType?, hvm, hT1v, hkA₁, hkindA₁]
      rfl
    · show _ = (muT T1 cA comp n.toNatClampNeg k.toNatClampNeg (i + 1)).setTop _
      show _ = (((muT T1 cA comp n.toNatClampNeg k.toNatClampNeg i).pushCell { cls := comp, slots := Array.replicate k.toNatClampNeg (.int 0), vm := .none }).setCell T1.heap.size ((arrV cA n.toNatClampNeg (fun j => if j < i then .ref (T1.heap.size + 1 + j) else .null)).setSlot i (.ref (T1.heap.size + 1 + i)))).setTop _
      rw [hU, ← f1]
      rfl
  · rintro s' d' acts' rfl
    have htop2 : (muT T1 cA comp n.toNatClampNeg k.toNatClampNeg n.toNatClampNeg).topJava?.isSome := by
      obtain ⟨L, -, Xn⟩ := mu_stand X₁ cA comp n.toNatClampNeg k.toNatClampNeg n.toNatClampNeg (by omega)
      exact Xn.here.top
    simp only [wp_bind', W.mark, W.pushRef, State.topJava?_setTop' _ htop2, Option.some.injEq, exists_eq_left', State.setTop_setTop]
    intro acts
    rw [hT1] at hrest
    rw [← hT1h] at hrest
    simpa [jvm] using hrest
end MULTI3
end
section
/-! One step of the abstract machine is one of the machine: rows of rows, calls. -/
theorem am_sm_add (f : Nat → am_C) (a b : Nat) : am_sm f (a + b) = am_sm f a + am_sm (fun j => f (a + j)) b := by
  induction b with
  | zero => rfl
  | succ b ih =>
    show am_sm f (a + b) + (f (a + b)).2.1 = am_sm f a + (am_sm (fun j => f (a + j)) b + (f (a + b)).2.1)
    rw [ih, Nat.add_assoc]
theorem am_sm_const (f : Nat → am_C) (n k : Nat) (h : ∀ j, j < n → (f j).2.1 = k) : am_sm f n = n * k := by
  induction n with
  | zero => simp [am_sm]
  | succ n ih =>
    show am_sm f n + (f n).2.1 = _
    rw [ih (fun j hj => h j (by omega)), h n (by omega), Nat.succ_mul]
theorem am_sl_rows (n k : Nat) (h : am_H) : am_sl (am_rows n k h) = am_sl h + n + n * k := by
  show am_sm (am_rows n k h).2 (h.1 + 1 + n) = _
  rw [am_sm_add, am_sm_const _ n k (fun j hj => ?_)]
  · show am_sm (am_rows n k h).2 h.1 + ((am_rows n k h).2 h.1).2.1 + n * k = _
    have e1 : ((am_rows n k h).2 h.1).2.1 = n := by
      show (if h.1 = h.1 then _ else _ : am_C).2.1 = n
      rw [if_pos rfl]
    have e2 : am_sm (am_rows n k h).2 h.1 = am_sl h := am_sm_eq fun j hj => by
      show (if j = h.1 then _ else if h.1 + 1 ≤ j ∧ j < h.1 + 1 + n then _ else h.2 j : am_C).2.1 = _
      rw [if_neg (by omega), if_neg (by omega)]
    rw [e1, e2]
  · show (if h.1 + 1 + j = h.1 then _ else if h.1 + 1 ≤ h.1 + 1 + j ∧ h.1 + 1 + j < h.1 + 1 + n then _ else _ : am_C).2.1 = k
    rw [if_neg (by omega), if_pos (by omega)]
def am_Pc (D : am_D) (as : List am_V) (h : am_H) : Array Value → State → Prop := fun a U => a = (as.map (am_rv D.1)).toArray ∧ am_R D U h U.heap ∧ am_K D U
def am_Qc (D : am_D) (v : List am_V) (h : am_H) : Array Value → State → Outcome → State → Prop := fun _ _ o t => o = .returned (v.map (am_rv D.1)).head? ∧ v.length ≤ 1 ∧ am_R D t h t.heap
def am_rm (d mc ms : Nat) : Room := { frames := d, cells := mc, slots := ms, locals := 100 * d }
/-- what a table of methods computes, the machine's methods do, in so many frames -/
def am_Snd (l : Launch) (D : am_D) (tb : Nat → Option am_M) (d : Nat) (G : am_G) : Prop := ∀ (k : Nat) (q : am_M) (as : List am_V) (h : am_H) (v : List am_V) (h' : am_H), tb k = some q → G k as h = some (v, h') →
  (h.1 ≤ h'.1 ∧ am_sl h ≤ am_sl h') ∧ v.length ≤ 1 ∧ Met l q.2.1 (Cond.code q.2.1 q.2.2.1 q.2.2.2.1 q.2.2.2.2.1 :: lw_good) (am_rm d (h'.1 - h.1) (am_sl h' - am_sl h)) (am_Pc D as h) (am_Qc D v h') (h'.1 - h.1) (am_sl h' - am_sl h) (fun a => D.1.2.2.2 ≤ a)
section CALL
variable {p : Program} {l : Launch} {e : Env} {R : Room} {s : State} {m : MethodId} {args : Array Value} {below : List Frame} {meth : Method} {c : Code} {Q : State → Prop} {cc : ByteArray} {nL : Nat} {own : String} {ini : Bool} {D : am_D} {h0 : am_H}
theorem am_R.rows {h : am_H} {H H' : Heap} {n k : Nat} (hR : am_R D s h H) (f1 : H'.size = H.size + 1 + n) (f2 : H'[H.size]? = some (arrV (D.2.2.2 22) n (fun j => .ref (H.size + 1 + j)))) (f3 : ∀ j, j < n → H'[H.size + 1 + j]? = some (arrV (D.2.2.2 20) k (fun _ => .int 0))) (f4 : ∀ q, q < H.size → H'[q]? = H[q]?) : am_R D s (am_rows n k h) H' := by
  have hR0 := hR
  obtain ⟨h1, h2, h3, h4, h5, h6, h7⟩ := hR
  have hz : ∀ j, am_rho D.1 (h.1 + j) = H.size + j := fun j => by rw [am_rho_ge (by omega)]; omega
  refine ⟨by show 3 ≤ h.1 + 1 + n; omega, by show H'.size + 3 = D.1.2.2.2 + (h.1 + 1 + n); omega, h3, fun j hj => ?_, fun j hj => ?_, h6.kept (fun a ha _ => f4 a ha), h7.kept (fun a ha _ => f4 a ha)⟩
  · show (if j = h.1 then _ else if h.1 + 1 ≤ j ∧ j < h.1 + 1 + n then _ else h.2 j : am_C).1 = 30 ∨ (if j = h.1 then _ else if h.1 + 1 ≤ j ∧ j < h.1 + 1 + n then _ else h.2 j : am_C).1 = 99
    rw [if_neg (by omega), if_neg (by omega)]
    exact h4 j hj
  · have hj : (if j = h.1 then (22, n, fun i => vR (h.1 + 1 + i)) else if h.1 + 1 ≤ j ∧ j < h.1 + 1 + n then (20, k, fun _ => vI 0) else h.2 j : am_C).1 ≠ 99 := hj
    show j < h.1 + 1 + n ∧ ∃ r : Cell, H'[am_rho D.1 j]? = some r ∧ am_ce D s (if j = h.1 then (22, n, fun i => vR (h.1 + 1 + i)) else if h.1 + 1 ≤ j ∧ j < h.1 + 1 + n then (20, k, fun _ => vI 0) else h.2 j : am_C) r
    by_cases e1 : j = h.1
    · rw [if_pos e1]
      refine ⟨by omega, _, by rw [e1, show h.1 = h.1 + 0 from rfl, hz]; exact f2, Or.inr (Or.inl ⟨by show 20 ≤ 22; omega, by show 22 ≤ 25; omega, ?_, fun w => absurd w (by show ¬ 22 = 20; omega)⟩)⟩
      congr 1
      funext i
      show Value.ref _ = Value.ref (am_rho D.1 (h.1 + 1 + i))
      rw [show h.1 + 1 + i = h.1 + (1 + i) by omega, hz, Nat.add_assoc]
    · rw [if_neg e1] at hj ⊢
      by_cases e2 : h.1 + 1 ≤ j ∧ j < h.1 + 1 + n
      · rw [if_pos e2]
        refine ⟨e2.2, _, ?_, Or.inr (Or.inl ⟨by show 20 ≤ 20; omega, by show 20 ≤ 25; omega, rfl, fun _ _ _ => ⟨0, rfl⟩⟩)⟩
        have := f3 (j - (h.1 + 1)) (by omega)
        rw [show am_rho D.1 j = H.size + 1 + (j - (h.1 + 1)) by rw [show j = h.1 + (j - h.1) by omega, hz]; omega]
        exact this
      · rw [if_neg e2] at hj ⊢
        obtain ⟨q1, r', q2, q3⟩ := h5 j hj
        exact ⟨by omega, r', by rw [f4 _ (Array.getElem?_eq_some_iff.mp q2).1]; exact q2, q3⟩
theorem at_multi (X : am_Fx p R s m args meth c cc nL own ini D) {G : am_G} {i d k j z pc : Nat} (hl : d = 2 ∧ Cond.classLink own i "[[I" ∈ lw_tbl) {x y : am_S} (hB : am_B R h0 x.2.2) (hB' : am_B R h0 y.2.2) (hd : decode cc pc = .ok (.multianewarray i d, 4)) (hev : am_I1 G (.multianewarray i d, k, j, z) x = some y) (kk : am_At p l e R s m args below meth c Q D nL h0 y (pc + 4)) : am_At p l e R s m args below meth c Q D nL h0 x pc := by
  obtain ⟨rfl, hl⟩ := hl
  obtain ⟨ls, st, h⟩ := x
  rcases st with _ | ⟨k | k, _ | ⟨n | n, st⟩⟩ <;> simp only [am_I1] at hev <;> try cases hev
  by_cases hc : 0 < n ∧ n ≤ 1000 ∧ 0 ≤ k ∧ k ≤ 1000
  · simp only [if_pos hc] at hev
    cases hev
    intro LS H locs hls hR hf
    have hR : am_R D s h H := hR
    have hB : am_B R h0 h := hB
    have hB' : am_B R h0 (am_rows n.toNat k.toNat h) := hB'
    have hn := i32_nat (show 0 ≤ n by omega) (show n ≤ 2147483647 by omega)
    have hk := i32_nat hc.2.2.1 (show k ≤ 2147483647 by omega)
    have neg : ∀ v : Int, 0 ≤ v → v ≤ 1000 → ¬ Int32.ofInt v < 0 := fun v w1 w2 => by rw [i32_0, i32_lt ⟨by omega, by omega⟩ inR_0]; omega
    obtain ⟨g1, kA, comp, g2, g3, g4⟩ := X.2.2.2.2.2.1.2.1 22 (by omega) (by omega)
    obtain ⟨w1, kI, ci, w2, w3, -⟩ := X.2.2.2.2.2.1.2.1 20 (by omega) (by omega)
    have hcomp : comp = D.2.2.2 20 := Option.some.inj ((g4 (by omega)).symm.trans w1)
    subst hcomp
    obtain ⟨b1, b2, b3, b4⟩ := hB
    obtain ⟨-, -, b5, b6⟩ := hB'
    rw [am_sl_rows] at b6
    have b5 : h.1 + 1 + n.toNat - h0.1 ≤ R.cells := b5
    intro T hT Y
    obtain ⟨vm₁, hW, step⟩ := mu_row Y X.1 X.2.2.2.1 (X.w hl rfl) g1 g2 g3 w2 w3 (g := F0 m pc LS (.int (Int32.ofInt k) :: .int (Int32.ofInt n) :: st.map (am_rv D.1))) rfl (by rw [X.2.1]; exact hd) (n := Int32.ofInt n) (k := Int32.ofInt k) (rest := st.map (am_rv D.1)) rfl (neg n (by omega) hc.2.1) (by rw [hn]; omega) (neg k hc.2.2.1 hc.2.2.2) (by rw [hn]; omega) (by rw [hk]; omega) (by rw [hn]; show h.1 - h0.1 + 1 + _ ≤ _; omega) (by rw [hn, hk]; show am_sl h - am_sl h0 + _ + _ ≤ _; omega)
    obtain ⟨L, hL, Y'⟩ := mu_stand (Y.noted hW) (D.2.2.2 22) (D.2.2.2 20) (Int32.ofInt n).toNatClampNeg (Int32.ofInt k).toNatClampNeg (Int32.ofInt n).toNatClampNeg (by omega)
    obtain ⟨f1, f2, f3, f4⟩ := mu_facts (T.setVm vm₁) (D.2.2.2 22) (D.2.2.2 20) (Int32.ofInt n).toNatClampNeg (Int32.ofInt k).toNatClampNeg (Int32.ofInt n).toNatClampNeg (by omega)
    rw [hn, hk] at Y' f1 f2 f3 f4 step
    have hh : (T.setVm vm₁).heap = H := hT
    rw [hh] at f1 f2 f3 f4 hL
    generalize muT (T.setVm vm₁) (D.2.2.2 22) (D.2.2.2 20) n.toNat k.toNat n.toNat = T' at Y' f1 f2 f3 f4 step
    have hR' : am_R D s (am_rows n.toNat k.toNat h) T'.heap := by
      refine hR.rows f1 ?_ f3 f4
      rw [f2]
      unfold arrV
      congr 2
      apply congrArg
      funext j
      exact if_pos j.isLt
    have hk2 := kk LS T'.heap (locs ++ L) hls hR' (fun q hq => by
      rcases List.mem_append.mp hq with g | g
      · exact hf q g
      · rw [hL q g]
        have := hR.2.1
        have := hR.1
        omega)
    have e1 : (am_rows n.toNat k.toNat h).1 - h0.1 = h.1 - h0.1 + 1 + n.toNat := by show h.1 + 1 + n.toNat - h0.1 = _; omega
    have e2 : am_sl (am_rows n.toNat k.toNat h) - am_sl h0 = am_sl h - am_sl h0 + n.toNat + n.toNat * k.toNat := by rw [am_sl_rows]; omega
    rw [show (ls, vR h.1 :: st, am_rows n.toNat k.toNat h).2.2 = am_rows n.toNat k.toNat h from rfl, e1, e2] at hk2
    obtain ⟨t, a1, c1⟩ := hk2 T' rfl Y'
    refine ⟨t, step t ?_, c1⟩
    have e3 : am_rho D.1 h.1 = T.heap.size := by rw [am_rho_size hR, hT]
    rw [← e3]
    exact a1
  · simp only [if_neg hc] at hev
    cases hev
theorem am_inv_eq {G : am_G} {r : Bool} {k n c0 : Nat} {x y : am_S} (h : am_inv G r k n c0 x = some y) : n ≤ x.2.1.length ∧ am_cats (x.2.1.drop n) ≤ 8 ∧ (r = true → am_rc c0 x.2.2 (x.2.1.take n).reverse = true) ∧ ∃ v h', G k (x.2.1.take n).reverse x.2.2 = some (v, h') ∧ y = (x.1, v ++ x.2.1.drop n, h') := by
  unfold am_inv at h
  split at h
  case isTrue hc =>
    obtain ⟨⟨v, h'⟩, h1, h2⟩ := Option.map_eq_some_iff.mp h
    exact ⟨hc.1, hc.2.1, hc.2.2, v, h', h1, h2.symm⟩
  case isFalse hc => cases h
theorem am_Pc.blind {as : List am_V} {h : am_H} : FrameBlind (am_Pc D as h) := by
  rintro a U g mk ⟨h1, h2, h3⟩
  exact ⟨h1, am_R.moved (u := U) (U := U.calling g mk a) (Vm.Alike.refl U.vm) h2, am_K.same (u := U) (U := U.calling g mk a) rfl h3⟩
/-- behind a call -/
theorem at_call {k n d pc : Nat} {G : am_G} {tb : Nat → Option am_M} {q : am_M} (X : am_Fx p R s m args meth c cc nL own ini D) (hS : am_Snd l D tb d G) (hq : tb k = some q) {ls st : List am_V} {h : am_H} {v : List am_V} {h' : am_H} (hg : G k (st.take n).reverse h = some (v, h')) (hB : am_B R h0 h) (hB' : am_B R h0 h')
    (hrun : ∀ (LS : Array Slot) (H : Heap) (locs : List Loc), am_ls D.1 nL ls LS → am_R D s h H → va_Run p l e R s m args below meth c H locs (h.1 - h0.1) (am_sl h - am_sl h0) (h'.1 - h.1) (am_sl h' - am_sl h) (F0 m pc LS (st.map (am_rv D.1))) ((st.drop n).map (am_rv D.1)) (am_Qc D v h' (((st.take n).reverse.map (am_rv D.1)).toArray)) (fun a => D.1.2.2.2 ≤ a))
    (kk : am_At p l e R s m args below meth c Q D nL h0 (ls, v ++ st.drop n, h') (pc + 3)) : am_At p l e R s m args below meth c Q D nL h0 (ls, st, h) pc := by
  intro LS H locs hls hR hf T hT Y
  obtain ⟨⟨m1, m2⟩, hv, -⟩ := hS k q _ _ _ _ hq hg
  obtain ⟨r, st₀, t, T', L, g0, Y', hL, e1, e2, ⟨o1, -, o2⟩, step⟩ := hrun LS H locs hls hR T hT Y
  have hr : r = (v.map (am_rv D.1)).head? := Outcome.returned.inj o1
  subst hr
  have hal : s.vm.Alike t.vm := by rw [← e2]; exact Y'.warmed.alike
  have hR' : am_R D s h' T'.heap := by rw [e1]; exact am_R.moved hal.symm o2
  have k1 : h'.1 - h0.1 = h.1 - h0.1 + (h'.1 - h.1) := by have := hB.1; omega
  have k2 : am_sl h' - am_sl h0 = am_sl h - am_sl h0 + (am_sl h' - am_sl h) := by have := hB.2.1; omega
  have hk := kk LS T'.heap (locs ++ L) hls hR' (fun q hq => by
    rcases List.mem_append.mp hq with g | g
    · exact hf q g
    · exact hL q g)
  rw [show (ls, v ++ st.drop n, h').2.2 = h' from rfl, k1, k2] at hk
  obtain ⟨t2, a1, b1⟩ := hk T' rfl Y'
  refine ⟨t2, step t2 ?_, b1⟩
  have ev : (v.map (am_rv D.1)).head?.toList ++ (st.drop n).map (am_rv D.1) = (v ++ st.drop n).map (am_rv D.1) := by
    rw [List.map_append]
    congr 1
    rcases v with _ | ⟨a, _ | ⟨b, w⟩⟩
    · rfl
    · rfl
    · simp at hv
  rw [ev]
  exact a1
theorem am_okm.code {q : am_M} {n : Nat} (h : am_okm q n) : Cond.code q.2.1 q.2.2.1 q.2.2.2.1 q.2.2.2.2.1 ∈ lw_tbl := h.1
theorem am_params {y : MethodName} {n : Nat} (h : (parseMethodDescriptor y.desc).map (fun d => d.parameters.length) = some n) : ∀ sig, parseMethodDescriptor y.desc = some sig → n = sig.parameters.length := by
  intro sig hs
  rw [hs] at h
  exact (Option.some.inj h).symm
/-- the room and the words of a call -/
theorem am_callB {q : am_M} {n d mc ms : Nat} (X : am_Fx p R s m args meth c cc nL own ini D) (hd1 : d + 1 ≤ R.frames) (hd2 : 100 * d + 100 ≤ R.locals) (hok : am_okm q n) :
    (am_rm d mc ms).cells = mc ∧ (am_rm d mc ms).slots = ms ∧ (am_rm d mc ms).frames + 1 ≤ R.frames ∧ 8 + (q.2.2.2.1 + 11) + (am_rm d mc ms).locals ≤ R.locals ∧ (∀ w ∈ (Cond.code q.2.1 q.2.2.1 q.2.2.2.1 q.2.2.2.2.1 :: lw_good), ∀ (a' : Array Value) (U : State), s.WarmedH U.vm → w.before a' U = true) ∧ Cond.code q.2.1 q.2.2.1 q.2.2.2.1 q.2.2.2.2.1 ∈ (Cond.code q.2.1 q.2.2.1 q.2.2.2.1 q.2.2.2.2.1 :: lw_good) ∧
    (Cond.code q.2.1 q.2.2.1 q.2.2.2.1 q.2.2.2.2.1).before args s = true ∧ (Cond.initialized q.2.1.cls).before args s = true ∧ (q.2.1.cls ≠ "java/lang/invoke/MethodHandle" ∧ q.2.1.cls ≠ "java/lang/invoke/VarHandle") ∧ (∀ sig, parseMethodDescriptor q.2.1.desc = some sig → n = sig.parameters.length) := by
  obtain ⟨h1, h2, h3, h4, h5⟩ := hok
  refine ⟨rfl, rfl, hd1, ?_, pay_in X.2.2.2.2.1 (am_goodIn h1 rfl), List.mem_cons_self, X.w h1 rfl, X.w h2 rfl, h3, am_params h4⟩
  show 8 + (q.2.2.2.1 + 11) + 100 * d ≤ R.locals
  omega
theorem am_pre (X : am_Fx p R s m args meth c cc nL own ini D) {as : List am_V} {h : am_H} {H : Heap} (hR : am_R D s h H) : ∀ U : State, U.heap = H → s.WarmedH U.vm → am_Pc D as h (as.map (am_rv D.1)).toArray U :=
  fun U hU hW => ⟨rfl, by rw [hU]; exact am_R.moved hW.alike hR, X.2.2.2.2.2.1.warm hW⟩
theorem at_invV (X : am_Fx p R s m args meth c cc nL own ini D) {G : am_G} {tb : Nat → Option am_M} {i k n c0 d pc : Nat} (hS : am_Snd l D tb d G) (hd1 : d + 1 ≤ R.frames) (hd2 : 100 * d + 100 ≤ R.locals)
    (hok : ∃ q, tb k = some q ∧ c0 < 13 ∧ q.2.1.cls = (am_q c0).1 ∧ am_okm q (n - 1) ∧ 1 ≤ n ∧ Cond.methodLink own i q.2.1 ∈ lw_tbl ∧ Cond.instanceMethod q.2.1 ∈ lw_tbl ∧ Cond.selects (am_q c0).1 q.2.1 q.2.1 ∈ lw_tbl)
    {x y : am_S} (hB : am_B R h0 x.2.2) (hB' : am_B R h0 y.2.2) (hd : decode cc pc = .ok (.invokevirtual i, 3)) (hev : am_inv G true k n c0 x = some y) (kk : am_At p l e R s m args below meth c Q D nL h0 y (pc + 3)) : am_At p l e R s m args below meth c Q D nL h0 x pc := by
  obtain ⟨q, hq, hc0, hcls, hokm, hn1, hlk, hin, hsel⟩ := hok
  obtain ⟨ls, st, h⟩ := x
  obtain ⟨i1, i2, i3, v, h', hg, rfl⟩ := am_inv_eq hev
  have i3 : am_rc c0 h (st.take n).reverse = true := i3 rfl
  have i1 : n ≤ st.length := i1
  have hB : am_B R h0 h := hB
  have hB' : am_B R h0 h' := hB'
  have hg : G k (st.take n).reverse h = some (v, h') := hg
  have kk : am_At p l e R s m args below meth c Q D nL h0 (ls, v ++ st.drop n, h') (pc + 3) := kk
  obtain ⟨⟨m1, m2⟩, -, hM⟩ := hS k q _ _ _ _ hq hg
  refine at_call X hS hq hg hB hB' (fun LS H locs hls hR => ?_) kk
  rcases hrev : (st.take n).reverse with _ | ⟨a, as⟩
  · rw [hrev] at i3; cases i3
  · rw [hrev] at i3 hM
    rcases a with a | (_ | a) | a | a <;> try cases i3
    have ht : (h.2 a).1 = c0 := of_decide_eq_true i3
    obtain ⟨-, -, r, q1, q2, q3, -⟩ := hR.obj hc0 ht
    obtain ⟨-, hfc, -⟩ := X.2.2.2.2.2.1.1.1 c0 _ (tb_q c0 hc0).1
    have hst : st = as.reverse ++ vR a :: st.drop n := by
      have := congrArg List.reverse hrev
      rw [List.reverse_reverse, List.reverse_cons] at this
      have e := List.take_append_drop n st
      rw [this] at e
      simpa using e.symm
    have hlen : as.length = n - 1 := by
      have := congrArg List.length hrev
      rw [List.length_reverse, List.length_take] at this
      simp at this
      omega
    obtain ⟨b1, b2, b3, b4, b5, b6, b7, b8, b9, b10⟩ := am_callB (mc := h'.1 - h.1) (ms := am_sl h' - am_sl h) X hd1 hd2 hokm
    have hstk : (F0 m pc LS (st.map (am_rv D.1))).stack = (as.map (am_rv D.1)).reverse ++ .ref (am_rho D.1 a) :: (st.drop n).map (am_rv D.1) := by
      show st.map (am_rv D.1) = _
      exact (congrArg (List.map (am_rv D.1)) hst).trans (by rw [List.map_append, List.map_cons, List.map_reverse]; rfl)
    refine va_runV (As := as.map (am_rv D.1)) (C := (am_q c0).1) (bytes := q.2.2.1) (maxL := q.2.2.2.1) (ret := q.2.2.2.2.1) (n := n - 1) ⟨X.1, X.2.1, X.2.2.1, X.2.2.2.1, X.2.2.2.2.1⟩ hM ⟨⟨b1, b2, b3, b4, b5, b6, b7, b8, b9, b10, X.w hlk rfl⟩, X.w hin rfl, X.w hsel rfl⟩ ⟨am_Pc.blind, ⟨r, q1, by rw [q3]; rfl, by rw [q2]; exact hfc⟩, am_pre X hR⟩ rfl (by rw [List.length_map]; exact hlen) hls.2.1.1 hstk (lv_room (by rw [am_cats_eq]; exact i2)) hd ⟨?_, ?_⟩
    · have := hB'.2.2.1; have := hB.1; omega
    · have := hB'.2.2.2; have := hB.2.1; omega
theorem at_invS (X : am_Fx p R s m args meth c cc nL own ini D) {G : am_G} {tb : Nat → Option am_M} {i k n c0 d pc : Nat} (hS : am_Snd l D tb d G) (hd1 : d + 1 ≤ R.frames) (hd2 : 100 * d + 100 ≤ R.locals)
    (hok : ∃ q, tb k = some q ∧ am_okm q n ∧ am_lk own i q.2.1 ∧ Cond.static q.2.1 ∈ lw_tbl)
    {x y : am_S} (hB : am_B R h0 x.2.2) (hB' : am_B R h0 y.2.2) (hd : decode cc pc = .ok (.invokestatic i, 3)) (hev : am_inv G false k n c0 x = some y) (kk : am_At p l e R s m args below meth c Q D nL h0 y (pc + 3)) : am_At p l e R s m args below meth c Q D nL h0 x pc := by
  obtain ⟨q, hq, hokm, hlk, hsta⟩ := hok
  obtain ⟨ls, st, h⟩ := x
  obtain ⟨i1, i2, -, v, h', hg, rfl⟩ := am_inv_eq hev
  have i1 : n ≤ st.length := i1
  have hB : am_B R h0 h := hB
  have hB' : am_B R h0 h' := hB'
  have hg : G k (st.take n).reverse h = some (v, h') := hg
  have kk : am_At p l e R s m args below meth c Q D nL h0 (ls, v ++ st.drop n, h') (pc + 3) := kk
  obtain ⟨⟨m1, m2⟩, -, hM⟩ := hS k q _ _ _ _ hq hg
  refine at_call X hS hq hg hB hB' (fun LS H locs hls hR => ?_) kk
  obtain ⟨b1, b2, b3, b4, b5, b6, b7, b8, b9, b10⟩ := am_callB (mc := h'.1 - h.1) (ms := am_sl h' - am_sl h) X hd1 hd2 hokm
  have hstk : (F0 m pc LS (st.map (am_rv D.1))).stack = ((st.take n).reverse.map (am_rv D.1)).reverse ++ (st.drop n).map (am_rv D.1) := by
    show st.map (am_rv D.1) = _
    rw [List.map_reverse, List.reverse_reverse, ← List.map_append, List.take_append_drop]
  have hlen : ((st.take n).reverse.map (am_rv D.1)).length = n := by
    rw [List.length_map, List.length_reverse, List.length_take]; omega
  have hroom : h.1 - h0.1 + (h'.1 - h.1) ≤ R.cells ∧ am_sl h - am_sl h0 + (am_sl h' - am_sl h) ≤ R.slots := by
    have := hB'.2.2.1; have := hB.1; have := hB'.2.2.2; have := hB.2.1
    exact ⟨by omega, by omega⟩
  rcases hlk with hlk | ⟨host, hlk⟩
  · exact va_runS (bytes := q.2.2.1) (maxL := q.2.2.2.1) (ret := q.2.2.2.2.1) (n := n) ⟨X.1, X.2.1, X.2.2.1, X.2.2.2.1, X.2.2.2.2.1⟩ hM ⟨⟨b1, b2, b3, b4, b5, b6, b7, b8, b9, b10, X.w hlk rfl⟩, X.w hsta rfl⟩ ⟨am_Pc.blind, am_pre X hR⟩ rfl hlen hls.2.1.1 hstk (lv_room (by rw [am_cats_eq]; exact i2)) hd hroom
  · exact va_runSN (bytes := q.2.2.1) (maxL := q.2.2.2.1) (ret := q.2.2.2.2.1) (n := n) (host := host) ⟨X.1, X.2.1, X.2.2.1, X.2.2.2.1, X.2.2.2.2.1⟩ hM ⟨⟨⟨b1, b2, b3, b4, b5, b6⟩, b7, b8, b9, b10, va_Nw.use rfl (X.2.2.2.2.2.1.2.2 _ hlk rfl)⟩, X.w hsta rfl, trivial⟩ ⟨am_Pc.blind, am_pre X hR⟩ rfl hlen hls.2.1.1 hstk (lv_room (by rw [am_cats_eq]; exact i2)) hd hroom
theorem at_invI (X : am_Fx p R s m args meth c cc nL own ini D) {G : am_G} {tb : Nat → Option am_M} {i k n c0 d pc : Nat} (hS : am_Snd l D tb d G) (hd1 : d + 1 ≤ R.frames) (hd2 : 100 * d + 100 ≤ R.locals)
    (hok : ∃ q, tb k = some q ∧ am_okm q (n - 1) ∧ 1 ≤ n ∧ am_lk own i q.2.1 ∧ Cond.instanceMethod q.2.1 ∈ lw_tbl ∧ q.2.1.name = "<init>" ∧ q.2.2.2.2.1 = none)
    {x y : am_S} (hB : am_B R h0 x.2.2) (hB' : am_B R h0 y.2.2) (hd : decode cc pc = .ok (.invokespecial i, 3)) (hev : am_inv G true k n c0 x = some y) (kk : am_At p l e R s m args below meth c Q D nL h0 y (pc + 3)) : am_At p l e R s m args below meth c Q D nL h0 x pc := by
  obtain ⟨q, hq, hokm, hn1, hlk, hin, hnm, hret⟩ := hok
  obtain ⟨ls, st, h⟩ := x
  obtain ⟨i1, i2, i3, v, h', hg, rfl⟩ := am_inv_eq hev
  have i3 : am_rc c0 h (st.take n).reverse = true := i3 rfl
  have i1 : n ≤ st.length := i1
  have hB : am_B R h0 h := hB
  have hB' : am_B R h0 h' := hB'
  have hg : G k (st.take n).reverse h = some (v, h') := hg
  have kk : am_At p l e R s m args below meth c Q D nL h0 (ls, v ++ st.drop n, h') (pc + 3) := kk
  obtain ⟨⟨m1, m2⟩, -, hM⟩ := hS k q _ _ _ _ hq hg
  refine at_call X hS hq hg hB hB' (fun LS H locs hls hR => ?_) kk
  rcases hrev : (st.take n).reverse with _ | ⟨a, as⟩
  · rw [hrev] at i3; cases i3
  · rw [hrev] at i3 hM
    rcases a with a | (_ | a) | a | a <;> try cases i3
    have hst : st = as.reverse ++ vR a :: st.drop n := by
      have := congrArg List.reverse hrev
      rw [List.reverse_reverse, List.reverse_cons] at this
      have e := List.take_append_drop n st
      rw [this] at e
      simpa using e.symm
    have hlen : (as.map (am_rv D.1)).length = n - 1 := by
      have := congrArg List.length hrev
      rw [List.length_reverse, List.length_take] at this
      simp at this
      rw [List.length_map]
      omega
    obtain ⟨b1, b2, b3, b4, b5, b6, b7, b8, b9, b10⟩ := am_callB (mc := h'.1 - h.1) (ms := am_sl h' - am_sl h) X hd1 hd2 hokm
    rw [hret] at hM b5 b6 b7
    have hstk : (F0 m pc LS (st.map (am_rv D.1))).stack = (as.map (am_rv D.1)).reverse ++ .ref (am_rho D.1 a) :: (st.drop n).map (am_rv D.1) := by
      show st.map (am_rv D.1) = _
      exact (congrArg (List.map (am_rv D.1)) hst).trans (by rw [List.map_append, List.map_cons, List.map_reverse]; rfl)
    have hroom : h.1 - h0.1 + (h'.1 - h.1) ≤ R.cells ∧ am_sl h - am_sl h0 + (am_sl h' - am_sl h) ≤ R.slots := by
      have := hB'.2.2.1; have := hB.1; have := hB'.2.2.2; have := hB.2.1
      exact ⟨by omega, by omega⟩
    rcases hlk with hlk | ⟨host, hlk⟩
    · exact va_runI (As := as.map (am_rv D.1)) (bytes := q.2.2.1) (maxL := q.2.2.2.1) (n := n - 1) ⟨X.1, X.2.1, X.2.2.1, X.2.2.2.1, X.2.2.2.2.1⟩ hM ⟨⟨b1, b2, b3, b4, b5, b6, b7, b8, b9, b10, X.w hlk rfl⟩, hnm, X.w hin rfl⟩ ⟨am_Pc.blind, am_pre X hR⟩ rfl hlen hls.2.1.1 hstk (lv_room (by rw [am_cats_eq]; exact i2)) hd hroom
    · exact va_runIN (As := as.map (am_rv D.1)) (bytes := q.2.2.1) (maxL := q.2.2.2.1) (n := n - 1) (host := host) ⟨X.1, X.2.1, X.2.2.1, X.2.2.2.1, X.2.2.2.2.1⟩ hM ⟨⟨⟨b1, b2, b3, b4, b5, b6⟩, b7, b8, b9, b10, va_Nw.use rfl (X.2.2.2.2.2.1.2.2 _ hlk rfl)⟩, hnm, X.w hin rfl⟩ ⟨am_Pc.blind, am_pre X hR⟩ rfl hlen hls.2.1.1 hstk (lv_room (by rw [am_cats_eq]; exact i2)) hd hroom
end CALL
end
section
/-! What the abstract machine computes, the machine does: one step, a stretch, a tree, a table of methods. -/
def am_le (h h' : am_H) : Prop := h.1 ≤ h'.1 ∧ am_sl h ≤ am_sl h'
theorem am_le.rf (h : am_H) : am_le h h := ⟨Nat.le_refl _, Nat.le_refl _⟩
theorem am_le.tr {a b c : am_H} (h1 : am_le a b) (h2 : am_le b c) : am_le a c := ⟨Nat.le_trans h1.1 h2.1, Nat.le_trans h1.2 h2.2⟩
theorem am_B.mid {R : Room} {h0 a b c : am_H} (h1 : am_B R h0 a) (h2 : am_B R h0 c) (h3 : am_le a b) (h4 : am_le b c) : am_B R h0 b := by
  obtain ⟨p1, p2, -, -⟩ := h1
  obtain ⟨q1, q2, q3, q4⟩ := h2
  obtain ⟨r1, r2⟩ := h3
  obtain ⟨s1, s2⟩ := h4
  exact ⟨by omega, by omega, by omega, by omega⟩
theorem i32_shn : ∀ n : Nat, n < 32 → (Int32.ofInt (n : Int) &&& 31).toBitVec.smod 32#32 = BitVec.ofNat 32 n := by decide +kernel
theorem int_div_in {a c : Int} (ha : inR a) (hc : 0 < c) : inR (a / c) := by
  obtain ⟨h1, h2⟩ := ha
  by_cases h : 0 ≤ a
  · have := Int.ediv_le_self c h
    have := Int.ediv_nonneg h (Int.le_of_lt hc)
    exact ⟨by omega, by omega⟩
  · have h3 := Int.ediv_neg_of_neg_of_pos (by omega : a < 0) hc
    have h4 : a ≤ a / c := Int.le_ediv_of_mul_le hc (by
      have := Int.mul_le_mul_of_nonpos_left (a := a) (b := c) (c := 1) (by omega) (by omega)
      omega)
    exact ⟨by omega, by omega⟩
theorem i32_shr {a b : Int} (ha : inR a) (hb : 0 ≤ b ∧ b < 32) : Int32.ofInt a >>> (Int32.ofInt b &&& 31) = Int32.ofInt (a / 2 ^ b.toNat) := by
  obtain ⟨n, rfl⟩ : ∃ n : Nat, b = n := ⟨b.toNat, by omega⟩
  have hn : n < 32 := by omega
  apply Int32.toInt_inj.mp
  have hp : (0 : Int) < 2 ^ n := Int.pow_pos (by decide)
  rw [Int.toNat_natCast, i32_of (int_div_in ha hp)]
  show ((Int32.ofInt a).toBitVec.sshiftRight' ((Int32.ofInt (n : Int) &&& 31).toBitVec.smod 32#32)).toInt = _
  rw [i32_shn n hn]
  show ((Int32.ofInt a).toBitVec.sshiftRight (BitVec.ofNat 32 n).toNat).toInt = _
  rw [BitVec.toInt_sshiftRight, show (Int32.ofInt a).toBitVec.toInt = a from i32_of ha, BitVec.toNat_ofNat, Nat.mod_eq_of_lt (by omega), Int.shiftRight_eq_div_pow]
  simp
theorem i32_and {a b : Int} (ha : inR a) (hb : b = 1 ∨ b = 31) : Int32.ofInt a &&& Int32.ofInt b = Int32.ofInt (a % (b + 1)) := by
  apply Int32.toBitVec_inj.mp
  rcases hb with rfl | rfl
  · show BitVec.ofInt 32 a &&& 1#32 = BitVec.ofInt 32 (a % 2)
    apply BitVec.eq_of_toNat_eq
    rw [BitVec.toNat_and, BitVec.toNat_ofInt, BitVec.toNat_ofInt, show (1#32).toNat = 2 ^ 1 - 1 from rfl, Nat.and_two_pow_sub_one_eq_mod]
    omega
  · show BitVec.ofInt 32 a &&& 31#32 = BitVec.ofInt 32 (a % 32)
    apply BitVec.eq_of_toNat_eq
    rw [BitVec.toNat_and, BitVec.toNat_ofInt, BitVec.toNat_ofInt, show (31#32).toNat = 2 ^ 5 - 1 from rfl, Nat.and_two_pow_sub_one_eq_mod]
    omega
section SOUND
variable {p : Program} {l : Launch} {e : Env} {R : Room} {s : State} {m : MethodId} {args : Array Value} {below : List Frame} {meth : Method} {c : Code} {Q : State → Prop} {cc : ByteArray} {nL : Nat} {own : String} {ini : Bool} {D : am_D} {h0 : am_H}
variable {tb : Nat → Option am_M} {d : Nat} {G : am_G}
/-- what a step does to the size -/
theorem am_I1_le (hS : am_Snd l D tb d G) {ai : am_I} (hok : am_ok1 tb own ini nL ai) {x y : am_S} (hev : am_I1 G ai x = some y) : am_le x.2.2 y.2.2 := by
  have inv : ∀ {r : Bool} {k n c0 : Nat}, (∃ q, tb k = some q) → am_inv G r k n c0 x = some y → am_le x.2.2 y.2.2 := by
    intro r k n c0 ⟨q, hq⟩ h
    obtain ⟨-, -, -, v, h', hg, rfl⟩ := am_inv_eq h
    exact (hS k q _ _ _ _ hq hg).1
  have same : y.2.2 = x.2.2 → am_le x.2.2 y.2.2 := fun h => by rw [h]; exact am_le.rf _
  have sb2 : ∀ {f : Int → Int → Int}, am_b2 f x = some y → am_le x.2.2 y.2.2 := by
    intro f h
    unfold am_b2 at h
    split at h <;> cases h
    exact am_le.rf _
  have sb3 : ∀ {ok : Int → Int → Bool} {f : Int → Int → Int}, am_b3 ok f x = some y → am_le x.2.2 y.2.2 := by
    intro ok f h
    unfold am_b3 at h
    split at h
    · split at h <;> cases h
      exact am_le.rf _
    · cases h
  have sal : ∀ {t : Nat → Bool}, am_aload t x = some y → am_le x.2.2 y.2.2 := by
    intro t h
    obtain ⟨ls, st, h', i, a, rfl, -, -, -, -, rfl⟩ := am_aload_eq h
    exact am_le.rf _
  have sput : ∀ {h : am_H} {a : Nat} {q : am_C}, q.2.1 = (h.2 a).2.1 → am_le h (am_put h a q) := fun hq => ⟨Nat.le_refl _, by rw [am_sl_put hq]; exact Nat.le_refl _⟩
  have snew : ∀ {h : am_H} {q : am_C}, am_le h (am_new h q) := fun {h q} => ⟨Nat.le_succ _, by rw [am_sl_new]; exact Nat.le_add_right _ _⟩
  have srows : ∀ (h : am_H) (n k : Nat), am_le h (am_rows n k h) := fun h n k => ⟨by show h.1 ≤ h.1 + 1 + n; omega, by rw [am_sl_rows]; omega⟩
  obtain ⟨i, a1, a2, a3⟩ := ai
  cases i <;> simp only [am_I1] at hev <;> try (cases hev; done)
  case iconst => cases hev; exact am_le.rf _
  case bipush => cases hev; exact am_le.rf _
  case sipush => cases hev; exact am_le.rf _
  case ldc => cases hev; exact am_le.rf _
  case ldc2_w => cases hev; exact am_le.rf _
  case getstatic => cases hev; exact am_le.rf _
  case iload => unfold am_ldi at hev; split at hev <;> cases hev; exact am_le.rf _
  case iload_n => unfold am_ldi at hev; split at hev <;> cases hev; exact am_le.rf _
  case aload => unfold am_lda at hev; split at hev <;> cases hev; exact am_le.rf _
  case aload_n => unfold am_lda at hev; split at hev <;> cases hev; exact am_le.rf _
  case lload_n => unfold am_ldl at hev; split at hev <;> cases hev; exact am_le.rf _
  case istore =>
    unfold am_sti at hev
    split at hev
    · obtain ⟨_, -, rfl⟩ := Option.map_eq_some_iff.mp hev; exact am_le.rf _
    · cases hev
  case istore_n =>
    unfold am_sti at hev
    split at hev
    · obtain ⟨_, -, rfl⟩ := Option.map_eq_some_iff.mp hev; exact am_le.rf _
    · cases hev
  case astore =>
    unfold am_sta at hev
    split at hev
    · obtain ⟨_, -, rfl⟩ := Option.map_eq_some_iff.mp hev; exact am_le.rf _
    · cases hev
  case astore_n =>
    unfold am_sta at hev
    split at hev
    · obtain ⟨_, -, rfl⟩ := Option.map_eq_some_iff.mp hev; exact am_le.rf _
    · cases hev
  case lstore_n =>
    unfold am_stl at hev
    split at hev
    · obtain ⟨_, -, rfl⟩ := Option.map_eq_some_iff.mp hev; exact am_le.rf _
    · cases hev
  case iinc =>
    split at hev
    · obtain ⟨_, -, rfl⟩ := Option.map_eq_some_iff.mp hev; exact am_le.rf _
    · cases hev
  case dup =>
    split at hev
    · split at hev <;> cases hev; exact am_le.rf _
    · cases hev
  case pop =>
    split at hev
    · split at hev <;> cases hev; exact am_le.rf _
    · cases hev
  case iadd => exact sb2 hev
  case isub => exact sb2 hev
  case imul => exact sb2 hev
  case ixor => exact sb2 hev
  case idiv => exact sb3 hev
  case irem => exact sb3 hev
  case ishr => exact sb3 hev
  case iand => exact sb3 hev
  case ineg => split at hev <;> cases hev; exact am_le.rf _
  case i2l =>
    split at hev
    · split at hev <;> cases hev; exact am_le.rf _
    · cases hev
  case ladd => split at hev <;> cases hev; exact am_le.rf _
  case lmul => split at hev <;> cases hev; exact am_le.rf _
  case lcmp => split at hev <;> cases hev; exact am_le.rf _
  case getfield =>
    split at hev
    · split at hev <;> cases hev; exact am_le.rf _
    · cases hev
  case putfield =>
    split at hev
    · split at hev <;> cases hev; exact sput rfl
    · cases hev
  case iaload => exact sal hev
  case baload => exact sal hev
  case aaload => exact sal hev
  case iastore =>
    split at hev
    · split at hev <;> cases hev; exact sput rfl
    · cases hev
  case bastore =>
    split at hev
    · split at hev <;> cases hev; exact sput rfl
    · cases hev
  case aastore =>
    split at hev
    · split at hev <;> cases hev; exact sput rfl
    · cases hev
  case arraylength =>
    split at hev
    · split at hev <;> cases hev; exact am_le.rf _
    · cases hev
  case newarray =>
    split at hev
    · split at hev <;> cases hev; exact snew
    · cases hev
  case anewarray =>
    split at hev
    · split at hev <;> cases hev; exact snew
    · cases hev
  case multianewarray =>
    split at hev
    · split at hev <;> cases hev; exact srows _ _ _
    · cases hev
  case new => cases hev; exact snew
  case invokevirtual => obtain ⟨q, hq, -⟩ := hok; exact inv ⟨q, hq⟩ hev
  case invokespecial =>
    have hok : (if a1 = 998 then _ else _ : Prop) := hok
    by_cases h998 : a1 = 998
    · simp only [if_pos h998] at hev
      split at hev
      · split at hev <;> cases hev; exact am_le.rf _
      · cases hev
    · simp only [if_neg h998] at hev hok
      obtain ⟨q, hq, -⟩ := hok; exact inv ⟨q, hq⟩ hev
  case invokestatic =>
    have hok : (if a1 = 999 then _ else _ : Prop) := hok
    by_cases h999 : a1 = 999
    · simp only [if_pos h999] at hev
      unfold am_copy at hev
      split at hev
      · split at hev <;> cases hev; exact sput rfl
      · cases hev
    · simp only [if_neg h999] at hev hok
      obtain ⟨q, hq, -⟩ := hok; exact inv ⟨q, hq⟩ hev
/-- one step -/
theorem am_I1_ok (X : am_Fx p R s m args meth c cc nL own ini D) (hS : am_Snd l D tb d G) (hd1 : d + 1 ≤ R.frames) (hd2 : 100 * d + 100 ≤ R.locals) {ai : am_I} (hok : am_ok1 tb own ini nL ai) {pc : Nat} (hd : decode cc pc = .ok (ai.1, am_len ai.1)) {x y : am_S} (hev : am_I1 G ai x = some y) (hB : am_B R h0 x.2.2) (hB' : am_B R h0 y.2.2)
    (kk : am_At p l e R s m args below meth c Q D nL h0 y (pc + am_len ai.1)) : am_At p l e R s m args below meth c Q D nL h0 x pc := by
  have hx := X.1
  have hb := X.2.1
  obtain ⟨i, a1, a2, a3⟩ := ai
  cases i <;> try (simp only [am_I1] at hev; cases hev; done)
  case iconst n =>
    simp only [am_I1] at hev; cases hev
    exact at_push (v := vI n) (fun k => lv_iconst hx hb hd rfl k) kk
  case bipush n =>
    simp only [am_I1] at hev; cases hev
    have hok : -128 ≤ n ∧ n ≤ 127 := hok
    exact at_push (v := vI n) (fun k => lv_bipush hx hb hd (Int8.toInt32_ofInt (by show (-128 : Int) ≤ n; omega) (by show n ≤ (127 : Int); omega)) k) kk
  case sipush n =>
    simp only [am_I1] at hev; cases hev
    have hok : -32768 ≤ n ∧ n ≤ 32767 := hok
    exact at_push (v := vI n) (fun k => lv_sipush hx hb hd (Int16.toInt32_ofInt (by show (-32768 : Int) ≤ n; omega) (by show n ≤ (32767 : Int); omega)) k) kk
  case ldc n =>
    simp only [am_I1] at hev; cases hev
    exact at_push (v := vI a1) (fun k => lv_ldc hx hb X.2.2.2.1 (X.w hok rfl) hd k) kk
  case ldc2_w n =>
    simp only [am_I1] at hev; cases hev
    exact at_push (v := vL (Int64.ofNat a1)) (fun k => lv_ldc2 hx hb X.2.2.2.1 (X.w hok rfl) hd k) kk
  case iload i => exact at_ldi (fun h k => lv_iload hx hb hd h k) hev kk
  case iload_n i => exact at_ldi (fun h k => lv_iload_n hx hb hd rfl h k) hev kk
  case aload i => exact at_lda (fun h k => lv_aload hx hb hd h k) hev kk
  case aload_n i => exact at_lda (fun h k => lv_aload_n hx hb hd rfl h k) hev kk
  case lload_n i => exact at_ldl (fun h k => lv_lload_n hx hb hd rfl h k) hev kk
  case istore i =>
    simp only [am_I1, am_sti] at hev
    split at hev
    · obtain ⟨B, hB1, rfl⟩ := Option.map_eq_some_iff.mp hev
      exact at_st (v := vI _) hok rfl hB1 (fun h k => W.ist hx hb (Or.inr ⟨rfl, hd⟩) h k) kk
    · cases hev
  case istore_n i =>
    simp only [am_I1, am_sti] at hev
    split at hev
    · obtain ⟨B, hB1, rfl⟩ := Option.map_eq_some_iff.mp hev
      exact at_st (v := vI _) hok rfl hB1 (fun h k => W.ist hx hb (Or.inl ⟨i, rfl, rfl, hd⟩) h k) kk
    · cases hev
  case astore i =>
    simp only [am_I1, am_sta] at hev
    split at hev
    · obtain ⟨B, hB1, rfl⟩ := Option.map_eq_some_iff.mp hev
      exact at_st (v := vR _) hok rfl hB1 (fun h k => W.ast hx hb (Or.inr ⟨rfl, hd⟩) h k) kk
    · cases hev
  case astore_n i =>
    simp only [am_I1, am_sta] at hev
    split at hev
    · obtain ⟨B, hB1, rfl⟩ := Option.map_eq_some_iff.mp hev
      exact at_st (v := vR _) hok rfl hB1 (fun h k => W.ast hx hb (Or.inl ⟨i, rfl, rfl, hd⟩) h k) kk
    · cases hev
  case lstore_n i =>
    simp only [am_I1, am_stl] at hev
    split at hev
    · obtain ⟨B, hB1, rfl⟩ := Option.map_eq_some_iff.mp hev
      intro LS H locs hl hR hf
      obtain ⟨ls', e', h'⟩ := am_ls.st2 hl hok hB1
      exact W.lst hx hb hd e' (kk ls' H locs h' hR hf)
    · cases hev
  case iinc i n =>
    simp only [am_I1] at hev
    cases hv : lget x.1 i with
    | inl v =>
      simp only [hv] at hev
      obtain ⟨B, hB1, rfl⟩ := Option.map_eq_some_iff.mp hev
      intro LS H locs hl hR hf
      obtain ⟨ls', e', h'⟩ := am_ls.st1 hl (v := vI (v + n)) hok rfl hB1
      refine W.inc hx hb hd (hl.at hv (by intro q; cases q)) ?_ (kk ls' H locs h' hR hf)
      rw [← Int32.ofInt_add]
      exact e'
    | inr v => simp only [hv] at hev; cases hev
  case dup =>
    simp only [am_I1] at hev
    split at hev
    · split at hev <;> cases hev
      rename_i hc
      exact fun LS H locs hl hR hf => lv_dup hx hb hd (by rw [am_rv_cat]; exact hc) (kk LS H locs hl hR hf)
    · cases hev
  case pop =>
    simp only [am_I1] at hev
    split at hev
    · split at hev <;> cases hev
      rename_i hc
      exact fun LS H locs hl hR hf => lv_pop hx hb hd (by rw [am_rv_cat]; exact hc) (kk LS H locs hl hR hf)
    · cases hev
  case iadd => exact at_b2 (g := (· + ·)) (fun a b => Int32.ofInt_add a b) (fun k => lv_iadd hx hb hd k) hev kk
  case isub => exact at_b2 (g := (· - ·)) (fun a b => Int32.ofInt_sub a b) (fun k => lv_isub hx hb hd k) hev kk
  case imul => exact at_b2 (g := (· * ·)) (fun a b => Int32.ofInt_mul a b) (fun k => lv_imul hx hb hd k) hev kk
  case ixor => exact at_b2 (g := (· ^^^ ·)) (fun a b => Int32.ofInt_toInt _) (fun k => lv_ixor hx hb hd k) hev kk
  case ineg =>
    simp only [am_I1] at hev
    split at hev <;> cases hev
    intro LS H locs hl hR hf
    refine lv_ineg hx hb hd ?_
    rw [← Int32.ofInt_neg]
    exact kk LS H locs hl hR hf
  case idiv => exact at_b3 (g := (· / ·)) (C := fun b => ¬ b = 0) (fun a b ha hb2 h => ⟨(i32_div ha hb2 (of_decide_eq_true h)).symm, i32_ne0 hb2 (of_decide_eq_true h)⟩) (fun h k => lv_idiv hx hb hd h k) hev kk
  case irem => exact at_b3 (g := fun a b => a - a / b * b) (C := fun b => ¬ b = 0) (fun a b ha hb2 h => ⟨i32_rem ha hb2 (of_decide_eq_true h), i32_ne0 hb2 (of_decide_eq_true h)⟩) (fun h k => lv_irem hx hb hd h k) hev kk
  case ishr => exact at_b3 (g := fun a b => a >>> (b &&& 31)) (C := fun _ => True) (fun a b ha hb2 h => ⟨i32_shr ha (of_decide_eq_true h), trivial⟩) (fun _ k => lv_ishr hx hb hd k) hev kk
  case iand => exact at_b3 (g := fun a b => a &&& b) (C := fun _ => True) (fun a b ha hb2 h => ⟨i32_and ha (of_decide_eq_true h), trivial⟩) (fun _ k => lv_iand hx hb hd k) hev kk
  case i2l =>
    simp only [am_I1] at hev
    split at hev
    · split at hev <;> cases hev
      rename_i hc
      exact fun LS H locs hl hR hf => lv_i2l hx hb hd (Int32.toInt64_ofInt (by have := hc.1; show (-2147483648 : Int) ≤ _; omega) (by have := hc.2; show _ ≤ (2147483647 : Int); omega)) (kk LS H locs hl hR hf)
    · cases hev
  case ladd =>
    simp only [am_I1] at hev
    split at hev <;> cases hev
    exact fun LS H locs hl hR hf => lv_ladd hx hb hd (kk LS H locs hl hR hf)
  case lmul =>
    simp only [am_I1] at hev
    split at hev <;> cases hev
    exact fun LS H locs hl hR hf => lv_lmul hx hb hd (kk LS H locs hl hR hf)
  case lcmp =>
    simp only [am_I1] at hev
    split at hev <;> cases hev
    intro LS H locs hl hR hf
    refine W.lcmp hx hb hd ?_
    have := kk LS H locs hl hR hf
    simp only [List.map_cons, am_rv, Int32.ofInt_toInt] at this
    exact this
  case getfield i => exact at_get X hok hd hev kk
  case putfield i => exact at_put X hok.1 hok.2.1 hok.2.2 hd hev kk
  case getstatic i => exact at_gets X hok hd hev kk
  case iaload => exact at_iald X hd hev kk
  case baload => exact at_bald X hd hev kk
  case aaload => exact at_aald X hd hev kk
  case iastore => exact at_iast X hd hev kk
  case bastore => exact at_bast X hd hev kk
  case aastore => exact at_aast X hd hev kk
  case arraylength => exact at_alen X hd hev kk
  case newarray t => exact at_newa X hok hB hB' hd hev kk
  case anewarray i => exact at_anew X hok hB hB' hd hev kk
  case multianewarray i dd => exact at_multi X hok hB hB' hd hev kk
  case new i => exact at_new X hok hB hB' hd hev kk
  case invokevirtual i => exact at_invV X hS hd1 hd2 hok hB hB' hd hev kk
  case invokespecial i =>
    have hok : (if a1 = 998 then _ else _ : Prop) := hok
    by_cases h998 : a1 = 998
    · subst h998
      rw [if_pos rfl] at hok
      exact at_oini X hok hd hev kk
    · rw [if_neg h998] at hok
      simp only [am_I1, if_neg h998] at hev
      exact at_invI X hS hd1 hd2 hok hB hB' hd hev kk
  case invokestatic i =>
    have hok : (if a1 = 999 then _ else _ : Prop) := hok
    by_cases h999 : a1 = 999
    · subst h999
      rw [if_pos rfl] at hok
      simp only [am_I1, if_true] at hev
      exact at_copy X hok hd hev kk
    · rw [if_neg h999] at hok
      simp only [am_I1, if_neg h999] at hev
      exact at_invS X hS hd1 hd2 hok hB hB' hd hev kk
end SOUND
end
section
/-! Stretches, their ends, trees, tables of methods. -/
def am_okL (tb : Nat → Option am_M) (own : String) (ini : Bool) (nL : Nat) (cc : ByteArray) : List am_I → Nat → Nat → Prop
  | [], pc, pc' => pc' = pc
  | i :: r, pc, pc' => am_ok1 tb own ini nL i ∧ decode cc pc = .ok (i.1, am_len i.1) ∧ am_okL tb own ini nL cc r (pc + am_len i.1) pc'
def am_okt (cc : ByteArray) (ret : Option FieldType) (i : Instr) (ts : List Nat) (pc pc' : Nat) : Prop := match i with
  | .goto off => decode cc pc = .ok (.goto off, 3) ∧ pc' = pc + 3 ∧ (pc : Int) + off = ((ts.headD 0 : Nat) : Int)
  | .ifCond c off => decode cc pc = .ok (.ifCond c off, 3) ∧ pc' = pc + 3 ∧ (pc : Int) + off = ((ts.headD 0 : Nat) : Int)
  | .if_icmp c off => decode cc pc = .ok (.if_icmp c off, 3) ∧ pc' = pc + 3 ∧ (pc : Int) + off = ((ts.headD 0 : Nat) : Int)
  | .tableswitch dd lo hi offs => ∃ n, decode cc pc = .ok (.tableswitch dd lo hi offs, n) ∧ pc' = pc + n ∧ (pc : Int) + dd = ((ts.headD 0 : Nat) : Int) ∧ (∀ j : Nat, (j : Int) ≤ hi - lo → ∃ off, offs[j]? = some off ∧ (pc : Int) + off = ((ts.getD (j + 1) 0 : Nat) : Int))
  | .ireturn => decode cc pc = .ok (.ireturn, 1) ∧ pc' = pc + 1 ∧ ((ts.headD 0 = 0 ∧ ret = some .int) ∨ (ts.headD 0 = 1 ∧ ret = some .boolean))
  | .lreturn => decode cc pc = .ok (.lreturn, 1) ∧ pc' = pc + 1 ∧ ret = some .long
  | .areturn => decode cc pc = .ok (.areturn, 1) ∧ pc' = pc + 1 ∧ ∃ n, ret = some (.object n)
  | .return_ => decode cc pc = .ok (.return_, 1) ∧ pc' = pc + 1 ∧ ret = none
  | _ => False
def am_okT (tb : Nat → Option am_M) (own : String) (ini : Bool) (nL : Nat) (cc : ByteArray) (ret : Option FieldType) : am_T → Nat → Nat → Prop
  | .leaf q, pc, pc' => match q.2 with
    | none => am_okL tb own ini nL cc q.1 pc pc'
    | some r => ∃ pc1, am_okL tb own ini nL cc q.1 pc pc1 ∧ am_okt cc ret r.1 r.2 pc1 pc'
  | .branch 0 a b, pc, pc' => ∃ pc1, am_okT tb own ini nL cc ret a pc pc1 ∧ am_okT tb own ini nL cc ret b pc1 pc'
  | .branch (n + 1) a _, pc, pc' => am_okT tb own ini nL cc ret a pc pc' ∧ (if n % 2 = 0 then n / 2 = pc' else n / 2 = pc)
section TREE
variable {p : Program} {l : Launch} {e : Env} {R : Room} {s : State} {m : MethodId} {args : Array Value} {below : List Frame} {meth : Method} {c : Code} {Q : State → Prop} {cc : ByteArray} {nL : Nat} {own : String} {ini : Bool} {D : am_D} {h0 : am_H}
variable {tb : Nat → Option am_M} {d : Nat} {G : am_G} {ret : Option FieldType}
theorem am_L_le (hS : am_Snd l D tb d G) : ∀ (is : List am_I) {pc pc' : Nat}, am_okL tb own ini nL cc is pc pc' → ∀ {x y : am_S}, am_L G is x = some y → am_le x.2.2 y.2.2
  | [], _, _, _, x, y, h => by cases h; exact am_le.rf _
  | i :: r, pc, pc', hok, x, y, h => by
    obtain ⟨z, h1, h2⟩ := Option.bind_eq_some_iff.mp h
    exact (am_I1_le hS hok.1 h1).tr (am_L_le hS r hok.2.2 h2)
theorem am_L_ok (X : am_Fx p R s m args meth c cc nL own ini D) (hS : am_Snd l D tb d G) (hd1 : d + 1 ≤ R.frames) (hd2 : 100 * d + 100 ≤ R.locals) : ∀ (is : List am_I) {pc pc' : Nat}, am_okL tb own ini nL cc is pc pc' → ∀ {x y : am_S}, am_L G is x = some y → am_B R h0 x.2.2 → am_B R h0 y.2.2 → am_At p l e R s m args below meth c Q D nL h0 y pc' → am_At p l e R s m args below meth c Q D nL h0 x pc
  | [], _, _, hok, x, y, h, _, _, kk => by
    cases h
    have hok : _ = _ := hok
    rw [← hok]
    exact kk
  | i :: r, pc, pc', hok, x, y, h, hB, hB', kk => by
    obtain ⟨z, h1, h2⟩ := Option.bind_eq_some_iff.mp h
    have l1 := am_I1_le hS hok.1 h1
    have l2 := am_L_le hS r hok.2.2 h2
    have hBz := hB.mid hB' l1 l2
    exact am_I1_ok X hS hd1 hd2 hok.1 hok.2.1 h1 hB hBz (am_L_ok X hS hd1 hd2 r hok.2.2 h2 hBz hB' kk)
variable {H : Heap} {locs : List Loc} {cells slots : Nat} {LS : Array Slot} {rest : List Value} {pc : Nat}
theorem W.ifc (hx : p.tables.exec = Jvm.exec) (hb : c.code = cc) {cd : Jvm.ClassFile.Cond} {a off : Int} {tgt : Nat} (ha : inR a) (hd : decode cc pc = .ok (.ifCond cd off, 3)) (ht : (pc : Int) + off = (tgt : Int))
    (k : W p l e R s m args below meth c H locs cells slots Q (F0 m (if am_cmp cd a 0 = true then tgt else pc + 3) LS rest)) : W p l e R s m args below meth c H locs cells slots Q (F0 m pc LS (.int (Int32.ofInt a) :: rest)) := by
  cases cd
  · refine lv_if_eq hx hb hd ht (fun h => ?_) (fun h => ?_) <;> rw [i32_0, i32_eq ha inR_0] at h <;> simpa [am_cmp, h] using k
  · refine lv_if_ne hx hb hd ht (fun h => ?_) (fun h => ?_) <;> rw [i32_0, i32_eq ha inR_0] at h <;> simpa [am_cmp, h] using k
  · refine lv_if_lt hx hb hd ht (fun h => ?_) (fun h => ?_) <;> rw [i32_0, i32_lt ha inR_0] at h <;> simpa [am_cmp, h] using k
  · refine lv_if_ge hx hb hd ht (fun h => ?_) (fun h => ?_) <;> rw [i32_0, i32_le inR_0 ha] at h <;> simpa [am_cmp, h] using k
  · refine lv_if_gt hx hb hd ht (fun h => ?_) (fun h => ?_) <;> rw [i32_0, i32_lt inR_0 ha] at h <;> simpa [am_cmp, h] using k
  · refine lv_if_le hx hb hd ht (fun h => ?_) (fun h => ?_) <;> rw [i32_0, i32_le ha inR_0] at h <;> simpa [am_cmp, h] using k
theorem W.icmp (hx : p.tables.exec = Jvm.exec) (hb : c.code = cc) {cd : Jvm.ClassFile.Cond} {a b off : Int} {tgt : Nat} (ha : inR a) (hb2 : inR b) (hd : decode cc pc = .ok (.if_icmp cd off, 3)) (ht : (pc : Int) + off = (tgt : Int))
    (k : W p l e R s m args below meth c H locs cells slots Q (F0 m (if am_cmp cd a b = true then tgt else pc + 3) LS rest)) : W p l e R s m args below meth c H locs cells slots Q (F0 m pc LS (.int (Int32.ofInt b) :: .int (Int32.ofInt a) :: rest)) := by
  cases cd
  · refine lv_icmp_eq hx hb hd ht (fun h => ?_) (fun h => ?_) <;> rw [i32_eq ha hb2] at h <;> simpa [am_cmp, h] using k
  · refine lv_icmp_ne hx hb hd ht (fun h => ?_) (fun h => ?_) <;> rw [i32_eq ha hb2] at h <;> simpa [am_cmp, h] using k
  · refine lv_icmp_lt hx hb hd ht (fun h => ?_) (fun h => ?_) <;> rw [i32_lt ha hb2] at h <;> simpa [am_cmp, h] using k
  · refine lv_icmp_ge hx hb hd ht (fun h => ?_) (fun h => ?_) <;> rw [i32_le hb2 ha] at h <;> simpa [am_cmp, h] using k
  · refine lv_icmp_gt hx hb hd ht (fun h => ?_) (fun h => ?_) <;> rw [i32_lt hb2 ha] at h <;> simpa [am_cmp, h] using k
  · refine lv_icmp_le hx hb hd ht (fun h => ?_) (fun h => ?_) <;> rw [i32_le ha hb2] at h <;> simpa [am_cmp, h] using k
/-- what is wanted behind a stretch, by the way it ends -/
def am_Way (p : Program) (l : Launch) (e : Env) (R : Room) (s : State) (m : MethodId) (args : Array Value) (below : List Frame) (meth : Method) (c : Code) (Q : State → Prop) (D : am_D) (nL : Nat) (h0 : am_H) (cc : ByteArray) (ret : Option FieldType) (pc' o : Nat) (y : am_S) : Prop :=
  (o = 0 → am_At p l e R s m args below meth c Q D nL h0 y pc') ∧ (∀ t, o = t + 2 → am_At p l e R s m args below meth c Q D nL h0 y t) ∧ (o = 1 → ∀ i ts pcx pcy, am_okt cc ret i ts pcx pcy → am_t i ts y = some (1, y) → am_At p l e R s m args below meth c Q D nL h0 y pcx)
theorem am_t_le {i : Instr} {ts : List Nat} {x y : am_S} {o : Nat} (h : am_t i ts x = some (o, y)) : y.2.2 = x.2.2 := by
  unfold am_t at h
  split at h
  · cases h; rfl
  · split at h
    · split at h <;> cases h; rfl
    · cases h
  · split at h
    · split at h <;> cases h; rfl
    · cases h
  · split at h
    · split at h <;> cases h; rfl
    · cases h
  · split at h
    · split at h <;> cases h; rfl
    · cases h
  · split at h <;> cases h; rfl
  · split at h <;> cases h; rfl
  · split at h <;> cases h; rfl
  · cases h
theorem am_t_ok (X : am_Fx p R s m args meth c cc nL own ini D) {i : Instr} {ts : List Nat} {pc pc' o : Nat} (hok : am_okt cc ret i ts pc pc') {x y : am_S} (hev : am_t i ts x = some (o, y)) (K : am_Way p l e R s m args below meth c Q D nL h0 cc ret pc' o y) : am_At p l e R s m args below meth c Q D nL h0 x pc := by
  have hx := X.1
  have hb := X.2.1
  have hev0 := hev
  unfold am_t at hev
  split at hev
  · obtain ⟨o1, o2, o3⟩ := hok
    cases hev
    exact fun LS H locs hl hR hf => lv_goto hx hb o1 o3 (K.2.1 _ rfl LS H locs hl hR hf)
  · obtain ⟨o1, o2, o3⟩ := hok
    split at hev
    · split at hev
      · rename_i cd off _ ls a st h hin
        cases hev
        intro LS H locs hl hR hf
        refine W.ifc hx hb hin o1 o3 ?_
        by_cases hc : am_cmp cd a 0 = true
        · rw [if_pos hc]
          exact K.2.1 _ (by rw [if_pos hc]) LS H locs hl hR hf
        · rw [if_neg hc, ← o2]
          exact K.1 (by rw [if_neg hc]) LS H locs hl hR hf
      · cases hev
    · cases hev
  · obtain ⟨o1, o2, o3⟩ := hok
    split at hev
    · split at hev
      · rename_i cd off _ ls b a st h hin
        cases hev
        intro LS H locs hl hR hf
        refine W.icmp hx hb hin.1 hin.2 o1 o3 ?_
        by_cases hc : am_cmp cd a b = true
        · rw [if_pos hc]
          exact K.2.1 _ (by rw [if_pos hc]) LS H locs hl hR hf
        · rw [if_neg hc, ← o2]
          exact K.1 (by rw [if_neg hc]) LS H locs hl hR hf
      · cases hev
    · cases hev
  · obtain ⟨n, o1, o2, o3, o4⟩ := hok
    split at hev
    · split at hev
      · rename_i dd lo hi offs _ ls a st h hin
        cases hev
        intro LS H locs hl hR hf
        have ha := i32_of hin
        by_cases hc : lo ≤ a ∧ a ≤ hi
        · obtain ⟨off, q1, q2⟩ := o4 (a - lo).toNat (by omega)
          refine lv_tableIn hx hb o1 (by rw [ha]; omega) (by rw [ha]; omega) (by rw [ha]; exact q1) q2 ?_
          exact K.2.1 _ (by rw [if_pos hc]) LS H locs hl hR hf
        · refine lv_tableOut hx hb o1 (by rw [ha]; omega) o3 ?_
          exact K.2.1 _ (by rw [if_neg hc]) LS H locs hl hR hf
      · cases hev
    · cases hev
  · split at hev
    · split at hev
      · cases hev; exact K.2.2 rfl _ _ _ _ hok hev0
      · cases hev
    · cases hev
  · split at hev
    · cases hev; exact K.2.2 rfl _ _ _ _ hok hev0
    · cases hev
  · split at hev
    · cases hev; exact K.2.2 rfl _ _ _ _ hok hev0
    · cases hev
  · split at hev
    · cases hev; exact K.2.2 rfl _ _ _ _ hok hev0
    · cases hev
  · cases hev
theorem am_lp_le {f : am_S → Option (Nat × am_S)} {L : Nat} (hf : ∀ x o y, f x = some (o, y) → am_le x.2.2 y.2.2) : ∀ (n : Nat) {x y : am_S} {o : Nat}, am_lp f L n x = some (o, y) → am_le x.2.2 y.2.2
  | 0, _, _, _, h => by cases h
  | n + 1, x, y, o, h => by
    obtain ⟨⟨o1, z⟩, h1, h2⟩ := Option.bind_eq_some_iff.mp h
    split at h2
    · exact (hf _ _ _ h1).tr (am_lp_le hf n h2)
    · cases h2; exact hf _ _ _ h1
theorem am_ev_le (hS : am_Snd l D tb d G) : ∀ (t : am_T) {pc pc' : Nat}, am_okT tb own ini nL cc ret t pc pc' → ∀ {x y : am_S} {o : Nat}, am_ev G t x = some (o, y) → am_le x.2.2 y.2.2
  | .leaf (is, none), pc, pc', hok, x, y, o, h => by
    obtain ⟨z, h1, h2⟩ := Option.bind_eq_some_iff.mp h
    cases h2
    exact am_L_le hS is hok h1
  | .leaf (is, some r), pc, pc', hok, x, y, o, h => by
    obtain ⟨z, h1, h2⟩ := Option.bind_eq_some_iff.mp h
    obtain ⟨pc1, k1, k2⟩ := hok
    rw [am_t_le h2]
    exact am_L_le hS is k1 h1
  | .branch 0 a b, pc, pc', hok, x, y, o, h => by
    obtain ⟨pc1, k1, k2⟩ := hok
    obtain ⟨⟨o1, z⟩, h1, h2⟩ := Option.bind_eq_some_iff.mp h
    split at h2
    · exact (am_ev_le hS a k1 h1).tr (am_ev_le hS b k2 h2)
    · cases h2; exact am_ev_le hS a k1 h1
  | .branch (n + 1) a _, pc, pc', hok, x, y, o, h => by
    unfold am_ev at h
    split at h
    · obtain ⟨⟨o1, z⟩, h1, h2⟩ := Option.map_eq_some_iff.mp h
      have := am_ev_le hS a hok.1 h1
      split at h2 <;> cases h2 <;> exact this
    · exact am_lp_le (fun x o y h => am_ev_le hS a hok.1 h) am_F h
theorem am_ev_ok (X : am_Fx p R s m args meth c cc nL own ini D) (hS : am_Snd l D tb d G) (hd1 : d + 1 ≤ R.frames) (hd2 : 100 * d + 100 ≤ R.locals) : ∀ (t : am_T) {pc pc' : Nat}, am_okT tb own ini nL cc ret t pc pc' → ∀ {x y : am_S} {o : Nat}, am_ev G t x = some (o, y) → am_B R h0 x.2.2 → am_B R h0 y.2.2 → am_Way p l e R s m args below meth c Q D nL h0 cc ret pc' o y → am_At p l e R s m args below meth c Q D nL h0 x pc
  | .leaf (is, none), pc, pc', hok, x, y, o, h, hB, hB', K => by
    obtain ⟨z, h1, h2⟩ := Option.bind_eq_some_iff.mp h
    cases h2
    exact am_L_ok X hS hd1 hd2 is hok h1 hB hB' (K.1 rfl)
  | .leaf (is, some r), pc, pc', hok, x, y, o, h, hB, hB', K => by
    obtain ⟨z, h1, h2⟩ := Option.bind_eq_some_iff.mp h
    obtain ⟨pc1, k1, k2⟩ := hok
    exact am_L_ok X hS hd1 hd2 is k1 h1 hB (by rw [← am_t_le h2]; exact hB') (am_t_ok X k2 h2 K)
  | .branch 0 a b, pc, pc', hok, x, y, o, h, hB, hB', K => by
    obtain ⟨pc1, k1, k2⟩ := hok
    obtain ⟨⟨o1, z⟩, h1, h2⟩ := Option.bind_eq_some_iff.mp h
    split at h2
    · rename_i ho
      have ho : o1 = 0 := ho
      subst ho
      have hBz := hB.mid hB' (am_ev_le hS a k1 h1) (am_ev_le hS b k2 h2)
      exact am_ev_ok X hS hd1 hd2 a k1 h1 hB hBz ⟨fun _ => am_ev_ok X hS hd1 hd2 b k2 h2 hBz hB' K, fun t ht => by omega, fun ht => by omega⟩
    · rename_i ho
      cases h2
      exact am_ev_ok X hS hd1 hd2 a k1 h1 hB hB' ⟨fun q => absurd q ho, K.2.1, K.2.2⟩
  | .branch (n + 1) a _, pc, pc', hok, x, y, o, h, hB, hB', K => by
    obtain ⟨k1, k2⟩ := hok
    unfold am_ev at h
    split at h
    · rename_i hn
      rw [if_pos hn] at k2
      obtain ⟨⟨o1, z⟩, h1, h2⟩ := Option.map_eq_some_iff.mp h
      split at h2
      · rename_i ho
        have ho : o1 = n / 2 + 2 := ho
        cases h2
        refine am_ev_ok X hS hd1 hd2 a k1 h1 hB hB' ⟨fun q => by omega, fun t ht => ?_, fun q => by omega⟩
        rw [show t = pc' by omega]
        exact K.1 rfl
      · cases h2
        exact am_ev_ok X hS hd1 hd2 a k1 h1 hB hB' K
    · rename_i hn
      rw [if_neg hn] at k2
      have hle : ∀ x o y, am_ev G a x = some (o, y) → am_le x.2.2 y.2.2 := fun x o y h => am_ev_le hS a k1 h
      have loop : ∀ (j : Nat) {x y : am_S} {o : Nat}, am_lp (am_ev G a) (n / 2) j x = some (o, y) → am_B R h0 x.2.2 → am_B R h0 y.2.2 → am_Way p l e R s m args below meth c Q D nL h0 cc ret pc' o y → am_At p l e R s m args below meth c Q D nL h0 x pc := by
        intro j
        induction j with
        | zero => intro x y o h; cases h
        | succ j ih =>
          intro x y o h hB hB' K
          obtain ⟨⟨o1, z⟩, h1, h2⟩ := Option.bind_eq_some_iff.mp h
          split at h2
          · rename_i ho
            have ho : o1 = n / 2 + 2 := ho
            have hBz := hB.mid hB' (hle _ _ _ h1) (am_lp_le hle j h2)
            refine am_ev_ok X hS hd1 hd2 a k1 h1 hB hBz ⟨fun q => by omega, fun t ht => ?_, fun q => by omega⟩
            rw [show t = pc by omega]
            exact ih h2 hBz hB' K
          · cases h2
            exact am_ev_ok X hS hd1 hd2 a k1 h1 hB hB' K
      exact loop am_F h hB hB' K
end TREE
end
section
/-! A table of methods: what its run computes, the machine's methods do. -/
theorem lget_nil (n : Nat) : ∀ i, lget (List.replicate n vU) i = vU := by
  induction n with
  | zero => intro i; rfl
  | succ n ih =>
    intro i
    cases i with
    | zero => rfl
    | succ i => exact ih i
theorem lget_app (A : List am_V) (n : Nat) : ∀ i, lget (A ++ List.replicate n vU) i = lget A i := by
  induction A with
  | nil => intro i; exact lget_nil n i
  | cons a r ih =>
    intro i
    cases i with
    | zero => rfl
    | succ i => exact ih i
theorem am_lay_sl (z : am_Z) : ∀ as : List am_V, (lg_sl (as.map (am_rv z))).length = (am_lay as).length ∧ ∀ i, lget (am_lay as) i ≠ vU → (lg_sl (as.map (am_rv z)))[i]? = some (.val (am_rv z (lget (am_lay as) i)))
  | [] => ⟨rfl, fun i h => absurd rfl h⟩
  | v :: r => by
    obtain ⟨h1, h2⟩ := am_lay_sl z r
    have one : ∀ w : Value, w.category = 1 → w = am_rv z v → am_lay (v :: r) = v :: am_lay r → (lg_sl ((v :: r).map (am_rv z))).length = (am_lay (v :: r)).length ∧ ∀ i, lget (am_lay (v :: r)) i ≠ vU → (lg_sl ((v :: r).map (am_rv z)))[i]? = some (.val (am_rv z (lget (am_lay (v :: r)) i))) := by
      intro w hw e1 e2
      have e3 : lg_sl ((v :: r).map (am_rv z)) = .val (am_rv z v) :: lg_sl (r.map (am_rv z)) := by
        have hc : ¬ (am_rv z v).category = 2 := by rw [← e1, hw]; decide
        simp only [List.map_cons, lg_sl, List.flatMap_cons, if_neg hc]
        rfl
      rw [e2, e3]
      refine ⟨by simp [h1], fun i hi => ?_⟩
      cases i with
      | zero => rfl
      | succ i => exact h2 i hi
    rcases v with x | (_ | x) | x | x
    · exact one (.int (Int32.ofInt x)) rfl rfl rfl
    · exact one .null rfl rfl rfl
    · exact one (.ref (am_rho z x)) rfl rfl rfl
    · refine ⟨?_, fun i hi => ?_⟩
      · show (lg_sl (r.map (am_rv z))).length + 1 + 1 = (am_lay r).length + 1 + 1
        rw [h1]
      · rcases i with _ | _ | i
        · rfl
        · exact absurd rfl hi
        · exact h2 i hi
    · exact one .null rfl rfl rfl
theorem am_in_ls (z : am_Z) (as : List am_V) (n : Nat) (h : (am_lay as).length ≤ n) : am_ls z n (am_in as n) ((lg_sl (as.map (am_rv z)) ++ List.replicate (n - (lg_sl (as.map (am_rv z))).length) Slot.unset).toArray) := by
  obtain ⟨h1, h2⟩ := am_lay_sl z as
  have h3 := lv_entry (as.map (am_rv z)) (n := n) (by rw [h1]; exact h)
  refine ⟨?_, ⟨h3.1, h3.2.1, fun q hq => absurd hq List.not_mem_nil⟩, fun i hi => ?_⟩
  · unfold am_in
    rw [List.length_append, List.length_replicate]
    omega
  · unfold am_in at hi ⊢
    rw [lget_app] at hi ⊢
    have h4 := h2 i hi
    rw [List.getElem?_toArray, List.getElem?_append_left (List.getElem?_eq_some_iff.mp h4).1]
    exact h4
theorem am_t_ret {i : Instr} {ts : List Nat} {x y : am_S} (h : am_t i ts x = some (1, y)) : y.2.1.length ≤ 1 := by
  unfold am_t at h
  split at h
  · cases h
  · split at h
    · split at h
      · split at h <;> cases h
      · cases h
    · cases h
  · split at h
    · split at h
      · split at h <;> cases h
      · cases h
    · cases h
  · split at h
    · split at h <;> cases h
    · cases h
  · split at h
    · split at h <;> cases h; exact Nat.le_refl 1
    · cases h
  · split at h <;> cases h; exact Nat.le_refl 1
  · split at h <;> cases h; exact Nat.le_refl 1
  · split at h <;> cases h; exact Nat.zero_le 1
  · cases h
theorem am_lp_ret {f : am_S → Option (Nat × am_S)} {L : Nat} (hf : ∀ x y, f x = some (1, y) → y.2.1.length ≤ 1) : ∀ (n : Nat) {x y : am_S}, am_lp f L n x = some (1, y) → y.2.1.length ≤ 1
  | 0, _, _, h => by cases h
  | n + 1, x, y, h => by
    obtain ⟨⟨o1, z⟩, h1, h2⟩ := Option.bind_eq_some_iff.mp h
    split at h2
    · exact am_lp_ret hf n h2
    · cases h2; exact hf _ _ h1
theorem am_ev_ret {G : am_G} : ∀ (t : am_T) {x y : am_S}, am_ev G t x = some (1, y) → y.2.1.length ≤ 1
  | .leaf (is, none), x, y, h => by
    obtain ⟨z, h1, h2⟩ := Option.bind_eq_some_iff.mp h
    cases h2
  | .leaf (is, some r), x, y, h => by
    obtain ⟨z, h1, h2⟩ := Option.bind_eq_some_iff.mp h
    exact am_t_ret h2
  | .branch 0 a b, x, y, h => by
    obtain ⟨⟨o1, z⟩, h1, h2⟩ := Option.bind_eq_some_iff.mp h
    split at h2
    · exact am_ev_ret b h2
    · cases h2; exact am_ev_ret a h1
  | .branch (n + 1) a _, x, y, h => by
    unfold am_ev at h
    split at h
    · obtain ⟨⟨o1, z⟩, h1, h2⟩ := Option.map_eq_some_iff.mp h
      split at h2 <;> cases h2
      exact am_ev_ret a h1
    · exact am_lp_ret (fun x y h => am_ev_ret a h) am_F h
def am_okM (tb : Nat → Option am_M) (q : am_M) : Prop := plainName q.2.1.cls = true ∧ ∃ pc', am_okT tb q.2.1.cls (q.2.1.name == "<init>") q.2.2.2.1 q.2.2.1 q.2.2.2.2.1 q.2.2.2.2.2 0 pc'
theorem am_run_eq {tb : Nat → Option am_M} {d k : Nat} {q : am_M} {as : List am_V} {h : am_H} {v : List am_V} {h' : am_H} (hq : tb k = some q) (hg : am_run tb (d + 1) k as h = some (v, h')) : (am_lay as).length ≤ q.2.2.2.1 ∧ ∃ ls', am_ev (am_run tb d) q.2.2.2.2.2 (am_in as q.2.2.2.1, [], h) = some (1, ls', v, h') := by
  have hg : (tb k).bind (fun q => if (am_lay as).length ≤ q.2.2.2.1 then (am_ev (am_run tb d) q.2.2.2.2.2 (am_in as q.2.2.2.1, [], h)).bind fun r => if r.1 = 1 then some (r.2.2.1, r.2.2.2) else none else none) = some (v, h') := hg
  rw [hq, Option.bind_some] at hg
  split at hg
  · rename_i hl
    obtain ⟨⟨o, ls', st', h2⟩, e1, e2⟩ := Option.bind_eq_some_iff.mp hg
    split at e2
    · rename_i ho
      have ho : o = 1 := ho
      subst ho
      cases e2
      exact ⟨hl, ls', e1⟩
    · cases e2
  · cases hg
theorem am_run_ok (l : Launch) (D : am_D) (tb : Nat → Option am_M) (htb : ∀ k q, tb k = some q → am_okM tb q) : ∀ d, am_Snd l D tb d (am_run tb d) := by
  intro d
  induction d with
  | zero => intro k q as h v h' _ hg; cases hg
  | succ d ih =>
    intro k q as h v h' hq hg
    obtain ⟨hlen, ls', hev⟩ := am_run_eq hq hg
    obtain ⟨hpl, pcE, hok⟩ := htb k q hq
    have hle : am_le h h' := am_ev_le ih _ hok hev
    refine ⟨hle, am_ev_ret _ hev, ?_⟩
    refine Met.ofW (cc := q.2.2.1) (maxL := q.2.2.2.1) (ret := q.2.2.2.2.1) hpl rfl ?_
    intro p e s m args below meth c s₁ B hml hv
    obtain ⟨rfl, hR, hK⟩ := hv
    have hlocks : meth.locks = false := B.notSynchronized
    have hts := atoms_spec (ws := Cond.code q.2.1 q.2.2.1 q.2.2.2.1 q.2.2.2.2.1 :: lw_good) B.pre
    have X : am_Fx p (am_rm (d + 1) (h'.1 - h.1) (am_sl h' - am_sl h)) s m (as.map (am_rv D.1)).toArray meth c q.2.2.1 q.2.2.2.1 q.2.1.cls (q.2.1.name == "<init>") D :=
      ⟨B.exec, B.bytes, hml, findClass_of_methodNamed B.named, fun w hw => hts w (List.mem_cons_of_mem _ hw), hK, by show 1 ≤ d + 1; omega, by show 100 ≤ 100 * (d + 1); omega, fun hi => by rw [(name_of_methodNamed B.named B.method).1]; exact eq_of_beq hi⟩
    have hB : am_B (am_rm (d + 1) (h'.1 - h.1) (am_sl h' - am_sl h)) h h := ⟨Nat.le_refl _, Nat.le_refl _, by show h.1 - h.1 ≤ h'.1 - h.1; omega, by show am_sl h - am_sl h ≤ am_sl h' - am_sl h; omega⟩
    have hB' : am_B (am_rm (d + 1) (h'.1 - h.1) (am_sl h' - am_sl h)) h h' := ⟨hle.1, hle.2, Nat.le_refl _, Nat.le_refl _⟩
    have hret := B.returns
    have main : am_At p l e (am_rm (d + 1) (h'.1 - h.1) (am_sl h' - am_sl h)) s m (as.map (am_rv D.1)).toArray below meth c (MQ below (am_Qc D v h') (as.map (am_rv D.1)).toArray s (h'.1 - h.1) (am_sl h' - am_sl h) (fun a => D.1.2.2.2 ≤ a)) D q.2.2.2.1 h (am_in as q.2.2.2.1, [], h) 0 := by
      refine am_ev_ok X ih (by show d + 1 ≤ d + 1; omega) (by show 100 * d + 100 ≤ 100 * (d + 1); omega) _ hok hev hB hB' ⟨fun q => by omega, fun t ht => by omega, fun _ i ts pcx pcy hokt ht => ?_⟩
      intro LS H locs hl hR hf
      have post : ∀ t : State, t.heap = H → s.WarmedH t.vm → am_Qc D v h' (as.map (am_rv D.1)).toArray s (.returned (v.map (am_rv D.1)).head?) t := fun t ht hW => ⟨rfl, am_ev_ret _ hev, by rw [ht]; exact am_R.moved hW.alike hR⟩
      show W p l e _ s m _ below meth c H locs (h'.1 - h.1) (am_sl h' - am_sl h) _ (F0 m pcx LS (v.map (am_rv D.1)))
      unfold am_t at ht
      split at ht
      · exact absurd (congrArg Prod.fst (Option.some.inj ht)) (by show ¬ _ + 2 = 1; omega)
      · split at ht
        · split at ht
          · have := congrArg Prod.fst (Option.some.inj ht); split at this <;> cases this
          · cases ht
        · cases ht
      · split at ht
        · split at ht
          · have := congrArg Prod.fst (Option.some.inj ht); split at this <;> cases this
          · cases ht
        · cases ht
      · split at ht
        · split at ht
          · exact absurd (congrArg Prod.fst (Option.some.inj ht)) (by show ¬ _ + 2 = 1; omega)
          · cases ht
        · cases ht
      · obtain ⟨o1, -, o2⟩ := hokt
        split at ht
        · rename_i ls1 a h1 he
          cases he
          split at ht
          · rename_i hz
            rcases o2 with ⟨-, o2⟩ | ⟨o3, o2⟩
            · exact W.iret (v := Int32.ofInt a) X.1 X.2.1 (hret.trans o2) post hf o1
            · have hz : a = 0 ∨ a = 1 := by rcases hz with hz | hz | hz <;> omega
              refine W.zret (v := Int32.ofInt a) (ty := .boolean) X.1 X.2.1 (hret.trans o2) ?_ post hf o1
              rcases hz with rfl | rfl <;> rfl
          · cases ht
        · cases ht
      · obtain ⟨o1, -, o2⟩ := hokt
        split at ht
        · rename_i ls1 a h1 he
          cases he
          exact W.lret (v := a) X.1 X.2.1 (hret.trans o2) post hf o1
        · cases ht
      · obtain ⟨o1, -, n, o2⟩ := hokt
        split at ht
        · rename_i ls1 a h1 he
          cases he
          exact W.aret (v := .ref (am_rho D.1 a)) X.1 X.2.1 (hret.trans o2) (Or.inl ⟨n, rfl⟩) (Or.inr ⟨_, rfl⟩) post hf o1
        · cases ht
      · obtain ⟨o1, -, o2⟩ := hokt
        split at ht
        · rename_i ls1 h1 he
          cases he
          exact W.vret X.1 X.2.1 (hret.trans o2) post hf o1
        · cases ht
      · cases ht
    have fin := main _ s.heap [] (am_in_ls D.1 as q.2.2.2.1 hlen) hR (fun q hq => absurd hq List.not_mem_nil)
    rw [show (am_in as q.2.2.2.1, ([] : List am_V), h).2.2 = h from rfl, Nat.sub_self, Nat.sub_self] at fin
    rw [lg_entry_eq]
    exact fin
end
