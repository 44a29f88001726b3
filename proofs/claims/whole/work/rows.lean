section
-- began as the skeleton's PART A and the printed NAMES of this claim
-- ===== PART A: goes FIRST, ahead of the names: the tables' words, and 'selects' of the private methods out of them =====
/-- a private method of a class that the tables say can be made, by its rows of tables_1 -/
def lw_okq (q : MethodName × Nat) : Prop := (q.1.cls ≠ "java/lang/invoke/MethodHandle" ∧ q.1.cls ≠ "java/lang/invoke/VarHandle") ∧ Cond.instantiable q.1.cls q.2 ∈ tables_1 ∧ Cond.privateMethod q.1 ∈ tables_1 ∧ Cond.instanceMethod q.1 ∈ tables_1
theorem lw_p0 : lw_okq (⟨"WeylWords", "bad", "()I"⟩, 13) := ⟨⟨by decide +kernel, by decide +kernel⟩, List.mem_of_getElem? (i := 18) (by decide +kernel), List.mem_of_getElem? (i := 352) (by decide +kernel), List.mem_of_getElem? (i := 353) (by decide +kernel)⟩
theorem lw_p1 : lw_okq (⟨"WeylWords", "replaceOperator", "(I)I"⟩, 13) := ⟨⟨by decide +kernel, by decide +kernel⟩, List.mem_of_getElem? (i := 18) (by decide +kernel), List.mem_of_getElem? (i := 416) (by decide +kernel), List.mem_of_getElem? (i := 417) (by decide +kernel)⟩
theorem lw_p2 : lw_okq (⟨"WeylWords", "full", "()I"⟩, 13) := ⟨⟨by decide +kernel, by decide +kernel⟩, List.mem_of_getElem? (i := 18) (by decide +kernel), List.mem_of_getElem? (i := 451) (by decide +kernel), List.mem_of_getElem? (i := 452) (by decide +kernel)⟩
theorem lw_p3 : lw_okq (⟨"WeylWords$Operator", "greatest", "(I)I"⟩, 1) := ⟨⟨by decide +kernel, by decide +kernel⟩, List.mem_of_getElem? (i := 35) (by decide +kernel), List.mem_of_getElem? (i := 518) (by decide +kernel), List.mem_of_getElem? (i := 519) (by decide +kernel)⟩
theorem lw_p4 : lw_okq (⟨"WeylWords$Action", "addImage", "([ILWeylWords$Operator;II)V"⟩, 3) := ⟨⟨by decide +kernel, by decide +kernel⟩, List.mem_of_getElem? (i := 239) (by decide +kernel), List.mem_of_getElem? (i := 564) (by decide +kernel), List.mem_of_getElem? (i := 565) (by decide +kernel)⟩
theorem lw_p5 : lw_okq (⟨"WeylWords$Action", "pivotRow", "(III)I"⟩, 3) := ⟨⟨by decide +kernel, by decide +kernel⟩, List.mem_of_getElem? (i := 239) (by decide +kernel), List.mem_of_getElem? (i := 580) (by decide +kernel), List.mem_of_getElem? (i := 581) (by decide +kernel)⟩
theorem lw_p6 : lw_okq (⟨"WeylWords$Action", "clearBelow", "(III)V"⟩, 3) := ⟨⟨by decide +kernel, by decide +kernel⟩, List.mem_of_getElem? (i := 239) (by decide +kernel), List.mem_of_getElem? (i := 584) (by decide +kernel), List.mem_of_getElem? (i := 585) (by decide +kernel)⟩
theorem lw_p7 : lw_okq (⟨"WeylWords", "no", "()I"⟩, 13) := ⟨⟨by decide +kernel, by decide +kernel⟩, List.mem_of_getElem? (i := 18) (by decide +kernel), List.mem_of_getElem? (i := 595) (by decide +kernel), List.mem_of_getElem? (i := 596) (by decide +kernel)⟩
theorem lw_p8 : lw_okq (⟨"WeylWords$Divider", "cancel", "(LWeylWords$Operator;I)V"⟩, 8) := ⟨⟨by decide +kernel, by decide +kernel⟩, List.mem_of_getElem? (i := 134) (by decide +kernel), List.mem_of_getElem? (i := 629) (by decide +kernel), List.mem_of_getElem? (i := 630) (by decide +kernel)⟩
theorem lw_p9 : lw_okq (⟨"WeylWords", "hasBasis", "(I)Z"⟩, 13) := ⟨⟨by decide +kernel, by decide +kernel⟩, List.mem_of_getElem? (i := 18) (by decide +kernel), List.mem_of_getElem? (i := 639) (by decide +kernel), List.mem_of_getElem? (i := 640) (by decide +kernel)⟩
theorem lw_p10 : lw_okq (⟨"WeylWords$Completion", "gather", "(LWeylWords$State;I)V"⟩, 11) := ⟨⟨by decide +kernel, by decide +kernel⟩, List.mem_of_getElem? (i := 166) (by decide +kernel), List.mem_of_getElem? (i := 656) (by decide +kernel), List.mem_of_getElem? (i := 657) (by decide +kernel)⟩
theorem lw_p11 : lw_okq (⟨"WeylWords$Completion", "complete", "()V"⟩, 11) := ⟨⟨by decide +kernel, by decide +kernel⟩, List.mem_of_getElem? (i := 166) (by decide +kernel), List.mem_of_getElem? (i := 662) (by decide +kernel), List.mem_of_getElem? (i := 663) (by decide +kernel)⟩
theorem lw_p12 : lw_okq (⟨"WeylWords$Completion", "absorb", "()V"⟩, 11) := ⟨⟨by decide +kernel, by decide +kernel⟩, List.mem_of_getElem? (i := 166) (by decide +kernel), List.mem_of_getElem? (i := 667) (by decide +kernel), List.mem_of_getElem? (i := 668) (by decide +kernel)⟩
theorem lw_p13 : lw_okq (⟨"WeylWords$Completion", "dismiss", "(I)V"⟩, 11) := ⟨⟨by decide +kernel, by decide +kernel⟩, List.mem_of_getElem? (i := 166) (by decide +kernel), List.mem_of_getElem? (i := 682) (by decide +kernel), List.mem_of_getElem? (i := 683) (by decide +kernel)⟩
theorem lw_p14 : lw_okq (⟨"WeylWords$Completion", "unsettle", "(I)V"⟩, 11) := ⟨⟨by decide +kernel, by decide +kernel⟩, List.mem_of_getElem? (i := 166) (by decide +kernel), List.mem_of_getElem? (i := 686) (by decide +kernel), List.mem_of_getElem? (i := 687) (by decide +kernel)⟩
theorem lw_p15 : lw_okq (⟨"WeylWords$Completion", "admit", "(II)V"⟩, 11) := ⟨⟨by decide +kernel, by decide +kernel⟩, List.mem_of_getElem? (i := 166) (by decide +kernel), List.mem_of_getElem? (i := 690) (by decide +kernel), List.mem_of_getElem? (i := 691) (by decide +kernel)⟩
def lw_privs_1 : List (MethodName × Nat) := [(⟨"WeylWords", "bad", "()I"⟩, 13), (⟨"WeylWords", "replaceOperator", "(I)I"⟩, 13), (⟨"WeylWords", "full", "()I"⟩, 13), (⟨"WeylWords$Operator", "greatest", "(I)I"⟩, 1), (⟨"WeylWords$Action", "addImage", "([ILWeylWords$Operator;II)V"⟩, 3), (⟨"WeylWords$Action", "pivotRow", "(III)I"⟩, 3), (⟨"WeylWords$Action", "clearBelow", "(III)V"⟩, 3), (⟨"WeylWords", "no", "()I"⟩, 13), (⟨"WeylWords$Divider", "cancel", "(LWeylWords$Operator;I)V"⟩, 8), (⟨"WeylWords", "hasBasis", "(I)Z"⟩, 13), (⟨"WeylWords$Completion", "gather", "(LWeylWords$State;I)V"⟩, 11), (⟨"WeylWords$Completion", "complete", "()V"⟩, 11), (⟨"WeylWords$Completion", "absorb", "()V"⟩, 11), (⟨"WeylWords$Completion", "dismiss", "(I)V"⟩, 11), (⟨"WeylWords$Completion", "unsettle", "(I)V"⟩, 11), (⟨"WeylWords$Completion", "admit", "(II)V"⟩, 11)]
theorem lw_r1 : ∀ q ∈ lw_privs_1, lw_okq q := List.forall_mem_cons.mpr ⟨lw_p0, List.forall_mem_cons.mpr ⟨lw_p1, List.forall_mem_cons.mpr ⟨lw_p2, List.forall_mem_cons.mpr ⟨lw_p3, List.forall_mem_cons.mpr ⟨lw_p4, List.forall_mem_cons.mpr ⟨lw_p5, List.forall_mem_cons.mpr ⟨lw_p6, List.forall_mem_cons.mpr ⟨lw_p7, List.forall_mem_cons.mpr ⟨lw_p8, List.forall_mem_cons.mpr ⟨lw_p9, List.forall_mem_cons.mpr ⟨lw_p10, List.forall_mem_cons.mpr ⟨lw_p11, List.forall_mem_cons.mpr ⟨lw_p12, List.forall_mem_cons.mpr ⟨lw_p13, List.forall_mem_cons.mpr ⟨lw_p14, List.forall_mem_cons.mpr ⟨lw_p15, fun _ h => absurd h List.not_mem_nil⟩⟩⟩⟩⟩⟩⟩⟩⟩⟩⟩⟩⟩⟩⟩⟩
theorem lw_p16 : lw_okq (⟨"WeylWords$Completion", "cheapestPair", "()I"⟩, 11) := ⟨⟨by decide +kernel, by decide +kernel⟩, List.mem_of_getElem? (i := 166) (by decide +kernel), List.mem_of_getElem? (i := 694) (by decide +kernel), List.mem_of_getElem? (i := 695) (by decide +kernel)⟩
theorem lw_p17 : lw_okq (⟨"WeylWords$Completion", "cross", "(I)V"⟩, 11) := ⟨⟨by decide +kernel, by decide +kernel⟩, List.mem_of_getElem? (i := 166) (by decide +kernel), List.mem_of_getElem? (i := 698) (by decide +kernel), List.mem_of_getElem? (i := 699) (by decide +kernel)⟩
theorem lw_p18 : lw_okq (⟨"WeylWords$Completion", "reduceTails", "()V"⟩, 11) := ⟨⟨by decide +kernel, by decide +kernel⟩, List.mem_of_getElem? (i := 166) (by decide +kernel), List.mem_of_getElem? (i := 706) (by decide +kernel), List.mem_of_getElem? (i := 707) (by decide +kernel)⟩
theorem lw_p19 : lw_okq (⟨"WeylWords$Completion", "handOver", "(LWeylWords$Basis;)V"⟩, 11) := ⟨⟨by decide +kernel, by decide +kernel⟩, List.mem_of_getElem? (i := 166) (by decide +kernel), List.mem_of_getElem? (i := 714) (by decide +kernel), List.mem_of_getElem? (i := 715) (by decide +kernel)⟩
theorem lw_p20 : lw_okq (⟨"WeylWords$Text", "pass", "(I)I"⟩, 4) := ⟨⟨by decide +kernel, by decide +kernel⟩, List.mem_of_getElem? (i := 90) (by decide +kernel), List.mem_of_getElem? (i := 769) (by decide +kernel), List.mem_of_getElem? (i := 770) (by decide +kernel)⟩
theorem lw_p21 : lw_okq (⟨"WeylWords$Text", "passOperand", "(I)I"⟩, 4) := ⟨⟨by decide +kernel, by decide +kernel⟩, List.mem_of_getElem? (i := 90) (by decide +kernel), List.mem_of_getElem? (i := 773) (by decide +kernel), List.mem_of_getElem? (i := 774) (by decide +kernel)⟩
theorem lw_p22 : lw_okq (⟨"WeylWords$Text", "passExponent", "(I)I"⟩, 4) := ⟨⟨by decide +kernel, by decide +kernel⟩, List.mem_of_getElem? (i := 90) (by decide +kernel), List.mem_of_getElem? (i := 785) (by decide +kernel), List.mem_of_getElem? (i := 786) (by decide +kernel)⟩
theorem lw_p23 : lw_okq (⟨"WeylWords$Text", "passLink", "(I)I"⟩, 4) := ⟨⟨by decide +kernel, by decide +kernel⟩, List.mem_of_getElem? (i := 90) (by decide +kernel), List.mem_of_getElem? (i := 793) (by decide +kernel), List.mem_of_getElem? (i := 794) (by decide +kernel)⟩
theorem lw_p24 : lw_okq (⟨"WeylWords$Reader", "readExpression", "(I)Z"⟩, 7) := ⟨⟨by decide +kernel, by decide +kernel⟩, List.mem_of_getElem? (i := 257) (by decide +kernel), List.mem_of_getElem? (i := 801) (by decide +kernel), List.mem_of_getElem? (i := 802) (by decide +kernel)⟩
theorem lw_p25 : lw_okq (⟨"WeylWords$Reader", "peek", "()I"⟩, 7) := ⟨⟨by decide +kernel, by decide +kernel⟩, List.mem_of_getElem? (i := 257) (by decide +kernel), List.mem_of_getElem? (i := 806) (by decide +kernel), List.mem_of_getElem? (i := 807) (by decide +kernel)⟩
theorem lw_p26 : lw_okq (⟨"WeylWords$Reader", "readTerm", "(I)Z"⟩, 7) := ⟨⟨by decide +kernel, by decide +kernel⟩, List.mem_of_getElem? (i := 257) (by decide +kernel), List.mem_of_getElem? (i := 811) (by decide +kernel), List.mem_of_getElem? (i := 812) (by decide +kernel)⟩
theorem lw_p27 : lw_okq (⟨"WeylWords$Reader", "readFactor", "(I)Z"⟩, 7) := ⟨⟨by decide +kernel, by decide +kernel⟩, List.mem_of_getElem? (i := 257) (by decide +kernel), List.mem_of_getElem? (i := 816) (by decide +kernel), List.mem_of_getElem? (i := 817) (by decide +kernel)⟩
theorem lw_p28 : lw_okq (⟨"WeylWords$Reader", "readNumber", "(I)I"⟩, 7) := ⟨⟨by decide +kernel, by decide +kernel⟩, List.mem_of_getElem? (i := 257) (by decide +kernel), List.mem_of_getElem? (i := 822) (by decide +kernel), List.mem_of_getElem? (i := 823) (by decide +kernel)⟩
theorem lw_p29 : lw_okq (⟨"WeylWords$Writer", "writeTerm", "(IIZ)V"⟩, 2) := ⟨⟨by decide +kernel, by decide +kernel⟩, List.mem_of_getElem? (i := 287) (by decide +kernel), List.mem_of_getElem? (i := 844) (by decide +kernel), List.mem_of_getElem? (i := 845) (by decide +kernel)⟩
theorem lw_p30 : lw_okq (⟨"WeylWords$Writer", "write", "(I)V"⟩, 2) := ⟨⟨by decide +kernel, by decide +kernel⟩, List.mem_of_getElem? (i := 287) (by decide +kernel), List.mem_of_getElem? (i := 848) (by decide +kernel), List.mem_of_getElem? (i := 849) (by decide +kernel)⟩
theorem lw_p31 : lw_okq (⟨"WeylWords$Writer", "writeNumber", "(I)V"⟩, 2) := ⟨⟨by decide +kernel, by decide +kernel⟩, List.mem_of_getElem? (i := 287) (by decide +kernel), List.mem_of_getElem? (i := 855) (by decide +kernel), List.mem_of_getElem? (i := 856) (by decide +kernel)⟩
def lw_privs_2 : List (MethodName × Nat) := [(⟨"WeylWords$Completion", "cheapestPair", "()I"⟩, 11), (⟨"WeylWords$Completion", "cross", "(I)V"⟩, 11), (⟨"WeylWords$Completion", "reduceTails", "()V"⟩, 11), (⟨"WeylWords$Completion", "handOver", "(LWeylWords$Basis;)V"⟩, 11), (⟨"WeylWords$Text", "pass", "(I)I"⟩, 4), (⟨"WeylWords$Text", "passOperand", "(I)I"⟩, 4), (⟨"WeylWords$Text", "passExponent", "(I)I"⟩, 4), (⟨"WeylWords$Text", "passLink", "(I)I"⟩, 4), (⟨"WeylWords$Reader", "readExpression", "(I)Z"⟩, 7), (⟨"WeylWords$Reader", "peek", "()I"⟩, 7), (⟨"WeylWords$Reader", "readTerm", "(I)Z"⟩, 7), (⟨"WeylWords$Reader", "readFactor", "(I)Z"⟩, 7), (⟨"WeylWords$Reader", "readNumber", "(I)I"⟩, 7), (⟨"WeylWords$Writer", "writeTerm", "(IIZ)V"⟩, 2), (⟨"WeylWords$Writer", "write", "(I)V"⟩, 2), (⟨"WeylWords$Writer", "writeNumber", "(I)V"⟩, 2)]
theorem lw_r2 : ∀ q ∈ lw_privs_2, lw_okq q := List.forall_mem_cons.mpr ⟨lw_p16, List.forall_mem_cons.mpr ⟨lw_p17, List.forall_mem_cons.mpr ⟨lw_p18, List.forall_mem_cons.mpr ⟨lw_p19, List.forall_mem_cons.mpr ⟨lw_p20, List.forall_mem_cons.mpr ⟨lw_p21, List.forall_mem_cons.mpr ⟨lw_p22, List.forall_mem_cons.mpr ⟨lw_p23, List.forall_mem_cons.mpr ⟨lw_p24, List.forall_mem_cons.mpr ⟨lw_p25, List.forall_mem_cons.mpr ⟨lw_p26, List.forall_mem_cons.mpr ⟨lw_p27, List.forall_mem_cons.mpr ⟨lw_p28, List.forall_mem_cons.mpr ⟨lw_p29, List.forall_mem_cons.mpr ⟨lw_p30, List.forall_mem_cons.mpr ⟨lw_p31, fun _ h => absurd h List.not_mem_nil⟩⟩⟩⟩⟩⟩⟩⟩⟩⟩⟩⟩⟩⟩⟩⟩
theorem lw_p32 : lw_okq (⟨"WeylWords$Writer", "writeLetter", "(IIZ)V"⟩, 2) := ⟨⟨by decide +kernel, by decide +kernel⟩, List.mem_of_getElem? (i := 287) (by decide +kernel), List.mem_of_getElem? (i := 861) (by decide +kernel), List.mem_of_getElem? (i := 862) (by decide +kernel)⟩
theorem lw_p33 : lw_okq (⟨"WeylWordsModel", "no", "()I"⟩, 31) := ⟨⟨by decide +kernel, by decide +kernel⟩, List.mem_of_getElem? (i := 887) (by decide +kernel), List.mem_of_getElem? (i := 994) (by decide +kernel), List.mem_of_getElem? (i := 995) (by decide +kernel)⟩
theorem lw_p34 : lw_okq (⟨"WeylWordsModel", "bad", "()I"⟩, 31) := ⟨⟨by decide +kernel, by decide +kernel⟩, List.mem_of_getElem? (i := 887) (by decide +kernel), List.mem_of_getElem? (i := 1011) (by decide +kernel), List.mem_of_getElem? (i := 1012) (by decide +kernel)⟩
theorem lw_p35 : lw_okq (⟨"WeylWordsModel", "remembers", "()V"⟩, 31) := ⟨⟨by decide +kernel, by decide +kernel⟩, List.mem_of_getElem? (i := 887) (by decide +kernel), List.mem_of_getElem? (i := 1015) (by decide +kernel), List.mem_of_getElem? (i := 1016) (by decide +kernel)⟩
theorem lw_p36 : lw_okq (⟨"WeylWordsModel", "fetches", "(II)V"⟩, 31) := ⟨⟨by decide +kernel, by decide +kernel⟩, List.mem_of_getElem? (i := 887) (by decide +kernel), List.mem_of_getElem? (i := 1033) (by decide +kernel), List.mem_of_getElem? (i := 1034) (by decide +kernel)⟩
theorem lw_p37 : lw_okq (⟨"WeylWordsModel", "wipe", "(I)V"⟩, 31) := ⟨⟨by decide +kernel, by decide +kernel⟩, List.mem_of_getElem? (i := 887) (by decide +kernel), List.mem_of_getElem? (i := 1037) (by decide +kernel), List.mem_of_getElem? (i := 1038) (by decide +kernel)⟩
theorem lw_p38 : lw_okq (⟨"WeylWordsModel", "mixes", "(IIIII)V"⟩, 31) := ⟨⟨by decide +kernel, by decide +kernel⟩, List.mem_of_getElem? (i := 887) (by decide +kernel), List.mem_of_getElem? (i := 1041) (by decide +kernel), List.mem_of_getElem? (i := 1042) (by decide +kernel)⟩
theorem lw_p39 : lw_okq (⟨"WeylWordsModel", "keeps", "(II)I"⟩, 31) := ⟨⟨by decide +kernel, by decide +kernel⟩, List.mem_of_getElem? (i := 887) (by decide +kernel), List.mem_of_getElem? (i := 1045) (by decide +kernel), List.mem_of_getElem? (i := 1046) (by decide +kernel)⟩
theorem lw_p40 : lw_okq (⟨"WeylWordsModel", "termsIn", "(I)I"⟩, 31) := ⟨⟨by decide +kernel, by decide +kernel⟩, List.mem_of_getElem? (i := 887) (by decide +kernel), List.mem_of_getElem? (i := 1049) (by decide +kernel), List.mem_of_getElem? (i := 1050) (by decide +kernel)⟩
theorem lw_p41 : lw_okq (⟨"WeylWordsModel", "isTooMuch", "(II)Z"⟩, 31) := ⟨⟨by decide +kernel, by decide +kernel⟩, List.mem_of_getElem? (i := 887) (by decide +kernel), List.mem_of_getElem? (i := 1057) (by decide +kernel), List.mem_of_getElem? (i := 1058) (by decide +kernel)⟩
theorem lw_p42 : lw_okq (⟨"WeylWordsModel", "degreeIn", "(I)I"⟩, 31) := ⟨⟨by decide +kernel, by decide +kernel⟩, List.mem_of_getElem? (i := 887) (by decide +kernel), List.mem_of_getElem? (i := 1061) (by decide +kernel), List.mem_of_getElem? (i := 1062) (by decide +kernel)⟩
theorem lw_p43 : lw_okq (⟨"WeylWordsModel", "full", "()I"⟩, 31) := ⟨⟨by decide +kernel, by decide +kernel⟩, List.mem_of_getElem? (i := 887) (by decide +kernel), List.mem_of_getElem? (i := 1065) (by decide +kernel), List.mem_of_getElem? (i := 1066) (by decide +kernel)⟩
theorem lw_p44 : lw_okq (⟨"WeylWordsModel", "multiplies", "(III)V"⟩, 31) := ⟨⟨by decide +kernel, by decide +kernel⟩, List.mem_of_getElem? (i := 887) (by decide +kernel), List.mem_of_getElem? (i := 1069) (by decide +kernel), List.mem_of_getElem? (i := 1070) (by decide +kernel)⟩
theorem lw_p45 : lw_okq (⟨"WeylWordsModel", "addsBehind", "(IIIII)V"⟩, 31) := ⟨⟨by decide +kernel, by decide +kernel⟩, List.mem_of_getElem? (i := 887) (by decide +kernel), List.mem_of_getElem? (i := 1073) (by decide +kernel), List.mem_of_getElem? (i := 1074) (by decide +kernel)⟩
theorem lw_p46 : lw_okq (⟨"WeylWordsModel", "adds", "(IIIIII)V"⟩, 31) := ⟨⟨by decide +kernel, by decide +kernel⟩, List.mem_of_getElem? (i := 887) (by decide +kernel), List.mem_of_getElem? (i := 1077) (by decide +kernel), List.mem_of_getElem? (i := 1078) (by decide +kernel)⟩
theorem lw_p47 : lw_okq (⟨"WeylWordsModel", "isPowerTooMuch", "(II)Z"⟩, 31) := ⟨⟨by decide +kernel, by decide +kernel⟩, List.mem_of_getElem? (i := 887) (by decide +kernel), List.mem_of_getElem? (i := 1089) (by decide +kernel), List.mem_of_getElem? (i := 1090) (by decide +kernel)⟩
def lw_privs_3 : List (MethodName × Nat) := [(⟨"WeylWords$Writer", "writeLetter", "(IIZ)V"⟩, 2), (⟨"WeylWordsModel", "no", "()I"⟩, 31), (⟨"WeylWordsModel", "bad", "()I"⟩, 31), (⟨"WeylWordsModel", "remembers", "()V"⟩, 31), (⟨"WeylWordsModel", "fetches", "(II)V"⟩, 31), (⟨"WeylWordsModel", "wipe", "(I)V"⟩, 31), (⟨"WeylWordsModel", "mixes", "(IIIII)V"⟩, 31), (⟨"WeylWordsModel", "keeps", "(II)I"⟩, 31), (⟨"WeylWordsModel", "termsIn", "(I)I"⟩, 31), (⟨"WeylWordsModel", "isTooMuch", "(II)Z"⟩, 31), (⟨"WeylWordsModel", "degreeIn", "(I)I"⟩, 31), (⟨"WeylWordsModel", "full", "()I"⟩, 31), (⟨"WeylWordsModel", "multiplies", "(III)V"⟩, 31), (⟨"WeylWordsModel", "addsBehind", "(IIIII)V"⟩, 31), (⟨"WeylWordsModel", "adds", "(IIIIII)V"⟩, 31), (⟨"WeylWordsModel", "isPowerTooMuch", "(II)Z"⟩, 31)]
theorem lw_r3 : ∀ q ∈ lw_privs_3, lw_okq q := List.forall_mem_cons.mpr ⟨lw_p32, List.forall_mem_cons.mpr ⟨lw_p33, List.forall_mem_cons.mpr ⟨lw_p34, List.forall_mem_cons.mpr ⟨lw_p35, List.forall_mem_cons.mpr ⟨lw_p36, List.forall_mem_cons.mpr ⟨lw_p37, List.forall_mem_cons.mpr ⟨lw_p38, List.forall_mem_cons.mpr ⟨lw_p39, List.forall_mem_cons.mpr ⟨lw_p40, List.forall_mem_cons.mpr ⟨lw_p41, List.forall_mem_cons.mpr ⟨lw_p42, List.forall_mem_cons.mpr ⟨lw_p43, List.forall_mem_cons.mpr ⟨lw_p44, List.forall_mem_cons.mpr ⟨lw_p45, List.forall_mem_cons.mpr ⟨lw_p46, List.forall_mem_cons.mpr ⟨lw_p47, fun _ h => absurd h List.not_mem_nil⟩⟩⟩⟩⟩⟩⟩⟩⟩⟩⟩⟩⟩⟩⟩⟩
theorem lw_p48 : lw_okq (⟨"WeylWordsModel", "raises", "(I)V"⟩, 31) := ⟨⟨by decide +kernel, by decide +kernel⟩, List.mem_of_getElem? (i := 887) (by decide +kernel), List.mem_of_getElem? (i := 1093) (by decide +kernel), List.mem_of_getElem? (i := 1094) (by decide +kernel)⟩
theorem lw_p49 : lw_okq (⟨"WeylWordsModel", "copies", "(II)V"⟩, 31) := ⟨⟨by decide +kernel, by decide +kernel⟩, List.mem_of_getElem? (i := 887) (by decide +kernel), List.mem_of_getElem? (i := 1097) (by decide +kernel), List.mem_of_getElem? (i := 1098) (by decide +kernel)⟩
theorem lw_p50 : lw_okq (⟨"WeylWordsModel", "aboutOf", "(II)I"⟩, 31) := ⟨⟨by decide +kernel, by decide +kernel⟩, List.mem_of_getElem? (i := 887) (by decide +kernel), List.mem_of_getElem? (i := 1109) (by decide +kernel), List.mem_of_getElem? (i := 1110) (by decide +kernel)⟩
theorem lw_p51 : lw_okq (⟨"WeylWordsModel", "greatest", "(III)I"⟩, 31) := ⟨⟨by decide +kernel, by decide +kernel⟩, List.mem_of_getElem? (i := 887) (by decide +kernel), List.mem_of_getElem? (i := 1113) (by decide +kernel), List.mem_of_getElem? (i := 1114) (by decide +kernel)⟩
theorem lw_p52 : lw_okq (⟨"WeylWordsModel", "ofLead", "(I)I"⟩, 31) := ⟨⟨by decide +kernel, by decide +kernel⟩, List.mem_of_getElem? (i := 887) (by decide +kernel), List.mem_of_getElem? (i := 1117) (by decide +kernel), List.mem_of_getElem? (i := 1118) (by decide +kernel)⟩
theorem lw_p53 : lw_okq (⟨"WeylWordsModel", "leadIn", "(I)I"⟩, 31) := ⟨⟨by decide +kernel, by decide +kernel⟩, List.mem_of_getElem? (i := 887) (by decide +kernel), List.mem_of_getElem? (i := 1121) (by decide +kernel), List.mem_of_getElem? (i := 1122) (by decide +kernel)⟩
theorem lw_p54 : lw_okq (⟨"WeylWordsModel", "wordBehind", "(II)I"⟩, 31) := ⟨⟨by decide +kernel, by decide +kernel⟩, List.mem_of_getElem? (i := 887) (by decide +kernel), List.mem_of_getElem? (i := 1125) (by decide +kernel), List.mem_of_getElem? (i := 1126) (by decide +kernel)⟩
theorem lw_p55 : lw_okq (⟨"WeylWordsModel", "canMake", "(II)Z"⟩, 31) := ⟨⟨by decide +kernel, by decide +kernel⟩, List.mem_of_getElem? (i := 887) (by decide +kernel), List.mem_of_getElem? (i := 1151) (by decide +kernel), List.mem_of_getElem? (i := 1152) (by decide +kernel)⟩
theorem lw_p56 : lw_okq (⟨"WeylWordsModel", "greatestPower", "(I)I"⟩, 31) := ⟨⟨by decide +kernel, by decide +kernel⟩, List.mem_of_getElem? (i := 887) (by decide +kernel), List.mem_of_getElem? (i := 1158) (by decide +kernel), List.mem_of_getElem? (i := 1159) (by decide +kernel)⟩
theorem lw_p57 : lw_okq (⟨"WeylWordsModel", "laysMatrix", "(II)V"⟩, 31) := ⟨⟨by decide +kernel, by decide +kernel⟩, List.mem_of_getElem? (i := 887) (by decide +kernel), List.mem_of_getElem? (i := 1166) (by decide +kernel), List.mem_of_getElem? (i := 1167) (by decide +kernel)⟩
theorem lw_p58 : lw_okq (⟨"WeylWordsModel", "isFree", "(II)Z"⟩, 31) := ⟨⟨by decide +kernel, by decide +kernel⟩, List.mem_of_getElem? (i := 887) (by decide +kernel), List.mem_of_getElem? (i := 1170) (by decide +kernel), List.mem_of_getElem? (i := 1171) (by decide +kernel)⟩
theorem lw_p59 : lw_okq (⟨"WeylWordsModel", "addsRow", "(III)V"⟩, 31) := ⟨⟨by decide +kernel, by decide +kernel⟩, List.mem_of_getElem? (i := 887) (by decide +kernel), List.mem_of_getElem? (i := 1177) (by decide +kernel), List.mem_of_getElem? (i := 1178) (by decide +kernel)⟩
theorem lw_p60 : lw_okq (⟨"WeylWordsModel", "rests", "(I)V"⟩, 31) := ⟨⟨by decide +kernel, by decide +kernel⟩, List.mem_of_getElem? (i := 887) (by decide +kernel), List.mem_of_getElem? (i := 1192) (by decide +kernel), List.mem_of_getElem? (i := 1193) (by decide +kernel)⟩
theorem lw_p61 : lw_okq (⟨"WeylWordsModel", "findsLeads", "()V"⟩, 31) := ⟨⟨by decide +kernel, by decide +kernel⟩, List.mem_of_getElem? (i := 887) (by decide +kernel), List.mem_of_getElem? (i := 1196) (by decide +kernel), List.mem_of_getElem? (i := 1197) (by decide +kernel)⟩
theorem lw_p62 : lw_okq (⟨"WeylWordsModel", "firstBelow", "(I)I"⟩, 31) := ⟨⟨by decide +kernel, by decide +kernel⟩, List.mem_of_getElem? (i := 887) (by decide +kernel), List.mem_of_getElem? (i := 1200) (by decide +kernel), List.mem_of_getElem? (i := 1201) (by decide +kernel)⟩
theorem lw_p63 : lw_okq (⟨"WeylWordsModel", "isBelow", "(II)Z"⟩, 31) := ⟨⟨by decide +kernel, by decide +kernel⟩, List.mem_of_getElem? (i := 887) (by decide +kernel), List.mem_of_getElem? (i := 1204) (by decide +kernel), List.mem_of_getElem? (i := 1205) (by decide +kernel)⟩
def lw_privs_4 : List (MethodName × Nat) := [(⟨"WeylWordsModel", "raises", "(I)V"⟩, 31), (⟨"WeylWordsModel", "copies", "(II)V"⟩, 31), (⟨"WeylWordsModel", "aboutOf", "(II)I"⟩, 31), (⟨"WeylWordsModel", "greatest", "(III)I"⟩, 31), (⟨"WeylWordsModel", "ofLead", "(I)I"⟩, 31), (⟨"WeylWordsModel", "leadIn", "(I)I"⟩, 31), (⟨"WeylWordsModel", "wordBehind", "(II)I"⟩, 31), (⟨"WeylWordsModel", "canMake", "(II)Z"⟩, 31), (⟨"WeylWordsModel", "greatestPower", "(I)I"⟩, 31), (⟨"WeylWordsModel", "laysMatrix", "(II)V"⟩, 31), (⟨"WeylWordsModel", "isFree", "(II)Z"⟩, 31), (⟨"WeylWordsModel", "addsRow", "(III)V"⟩, 31), (⟨"WeylWordsModel", "rests", "(I)V"⟩, 31), (⟨"WeylWordsModel", "findsLeads", "()V"⟩, 31), (⟨"WeylWordsModel", "firstBelow", "(I)I"⟩, 31), (⟨"WeylWordsModel", "isBelow", "(II)Z"⟩, 31)]
theorem lw_r4 : ∀ q ∈ lw_privs_4, lw_okq q := List.forall_mem_cons.mpr ⟨lw_p48, List.forall_mem_cons.mpr ⟨lw_p49, List.forall_mem_cons.mpr ⟨lw_p50, List.forall_mem_cons.mpr ⟨lw_p51, List.forall_mem_cons.mpr ⟨lw_p52, List.forall_mem_cons.mpr ⟨lw_p53, List.forall_mem_cons.mpr ⟨lw_p54, List.forall_mem_cons.mpr ⟨lw_p55, List.forall_mem_cons.mpr ⟨lw_p56, List.forall_mem_cons.mpr ⟨lw_p57, List.forall_mem_cons.mpr ⟨lw_p58, List.forall_mem_cons.mpr ⟨lw_p59, List.forall_mem_cons.mpr ⟨lw_p60, List.forall_mem_cons.mpr ⟨lw_p61, List.forall_mem_cons.mpr ⟨lw_p62, List.forall_mem_cons.mpr ⟨lw_p63, fun _ h => absurd h List.not_mem_nil⟩⟩⟩⟩⟩⟩⟩⟩⟩⟩⟩⟩⟩⟩⟩⟩
theorem lw_p64 : lw_okq (⟨"WeylWordsModel", "isSmall", "(I)Z"⟩, 31) := ⟨⟨by decide +kernel, by decide +kernel⟩, List.mem_of_getElem? (i := 887) (by decide +kernel), List.mem_of_getElem? (i := 1212) (by decide +kernel), List.mem_of_getElem? (i := 1213) (by decide +kernel)⟩
theorem lw_p65 : lw_okq (⟨"WeylWordsModel", "laysBasis", "(I)V"⟩, 31) := ⟨⟨by decide +kernel, by decide +kernel⟩, List.mem_of_getElem? (i := 887) (by decide +kernel), List.mem_of_getElem? (i := 1216) (by decide +kernel), List.mem_of_getElem? (i := 1217) (by decide +kernel)⟩
theorem lw_p66 : lw_okq (⟨"WeylWordsModel", "tidies", "()V"⟩, 31) := ⟨⟨by decide +kernel, by decide +kernel⟩, List.mem_of_getElem? (i := 887) (by decide +kernel), List.mem_of_getElem? (i := 1220) (by decide +kernel), List.mem_of_getElem? (i := 1221) (by decide +kernel)⟩
theorem lw_p67 : lw_okq (⟨"WeylWordsModel", "takesBy", "(I)V"⟩, 31) := ⟨⟨by decide +kernel, by decide +kernel⟩, List.mem_of_getElem? (i := 887) (by decide +kernel), List.mem_of_getElem? (i := 1224) (by decide +kernel), List.mem_of_getElem? (i := 1225) (by decide +kernel)⟩
theorem lw_p68 : lw_okq (⟨"WeylWordsModel", "rowGoes", "(I)V"⟩, 31) := ⟨⟨by decide +kernel, by decide +kernel⟩, List.mem_of_getElem? (i := 887) (by decide +kernel), List.mem_of_getElem? (i := 1228) (by decide +kernel), List.mem_of_getElem? (i := 1229) (by decide +kernel)⟩
theorem lw_p69 : lw_okq (⟨"WeylWordsModel", "evens", "(I)V"⟩, 31) := ⟨⟨by decide +kernel, by decide +kernel⟩, List.mem_of_getElem? (i := 887) (by decide +kernel), List.mem_of_getElem? (i := 1232) (by decide +kernel), List.mem_of_getElem? (i := 1233) (by decide +kernel)⟩
theorem lw_p70 : lw_okq (⟨"WeylWordsModel", "areAlike", "(II)Z"⟩, 31) := ⟨⟨by decide +kernel, by decide +kernel⟩, List.mem_of_getElem? (i := 887) (by decide +kernel), List.mem_of_getElem? (i := 1236) (by decide +kernel), List.mem_of_getElem? (i := 1237) (by decide +kernel)⟩
theorem lw_p71 : lw_okq (⟨"WeylWordsModel", "isOneMore", "()Z"⟩, 31) := ⟨⟨by decide +kernel, by decide +kernel⟩, List.mem_of_getElem? (i := 887) (by decide +kernel), List.mem_of_getElem? (i := 1240) (by decide +kernel), List.mem_of_getElem? (i := 1241) (by decide +kernel)⟩
theorem lw_p72 : lw_okq (⟨"WeylWordsModel", "sorts", "(Z)V"⟩, 31) := ⟨⟨by decide +kernel, by decide +kernel⟩, List.mem_of_getElem? (i := 887) (by decide +kernel), List.mem_of_getElem? (i := 1244) (by decide +kernel), List.mem_of_getElem? (i := 1245) (by decide +kernel)⟩
theorem lw_p73 : lw_okq (⟨"WeylWordsModel", "isAhead", "(II)Z"⟩, 31) := ⟨⟨by decide +kernel, by decide +kernel⟩, List.mem_of_getElem? (i := 887) (by decide +kernel), List.mem_of_getElem? (i := 1248) (by decide +kernel), List.mem_of_getElem? (i := 1249) (by decide +kernel)⟩
theorem lw_p74 : lw_okq (⟨"WeylWordsModel", "exchanges", "(II)V"⟩, 31) := ⟨⟨by decide +kernel, by decide +kernel⟩, List.mem_of_getElem? (i := 887) (by decide +kernel), List.mem_of_getElem? (i := 1252) (by decide +kernel), List.mem_of_getElem? (i := 1253) (by decide +kernel)⟩
theorem lw_p75 : lw_okq (⟨"WeylWordsModel", "crosses", "(II)V"⟩, 31) := ⟨⟨by decide +kernel, by decide +kernel⟩, List.mem_of_getElem? (i := 887) (by decide +kernel), List.mem_of_getElem? (i := 1256) (by decide +kernel), List.mem_of_getElem? (i := 1257) (by decide +kernel)⟩
theorem lw_p76 : lw_okq (⟨"WeylWordsModel", "isRead", "(Z)Z"⟩, 31) := ⟨⟨by decide +kernel, by decide +kernel⟩, List.mem_of_getElem? (i := 887) (by decide +kernel), List.mem_of_getElem? (i := 1284) (by decide +kernel), List.mem_of_getElem? (i := 1285) (by decide +kernel)⟩
theorem lw_p77 : lw_okq (⟨"WeylWordsModel", "opens", "()V"⟩, 31) := ⟨⟨by decide +kernel, by decide +kernel⟩, List.mem_of_getElem? (i := 887) (by decide +kernel), List.mem_of_getElem? (i := 1288) (by decide +kernel), List.mem_of_getElem? (i := 1289) (by decide +kernel)⟩
theorem lw_p78 : lw_okq (⟨"WeylWordsModel", "blanks", "()V"⟩, 31) := ⟨⟨by decide +kernel, by decide +kernel⟩, List.mem_of_getElem? (i := 887) (by decide +kernel), List.mem_of_getElem? (i := 1292) (by decide +kernel), List.mem_of_getElem? (i := 1293) (by decide +kernel)⟩
theorem lw_p79 : lw_okq (⟨"WeylWordsModel", "isAt", "(II)Z"⟩, 31) := ⟨⟨by decide +kernel, by decide +kernel⟩, List.mem_of_getElem? (i := 887) (by decide +kernel), List.mem_of_getElem? (i := 1296) (by decide +kernel), List.mem_of_getElem? (i := 1297) (by decide +kernel)⟩
def lw_privs_5 : List (MethodName × Nat) := [(⟨"WeylWordsModel", "isSmall", "(I)Z"⟩, 31), (⟨"WeylWordsModel", "laysBasis", "(I)V"⟩, 31), (⟨"WeylWordsModel", "tidies", "()V"⟩, 31), (⟨"WeylWordsModel", "takesBy", "(I)V"⟩, 31), (⟨"WeylWordsModel", "rowGoes", "(I)V"⟩, 31), (⟨"WeylWordsModel", "evens", "(I)V"⟩, 31), (⟨"WeylWordsModel", "areAlike", "(II)Z"⟩, 31), (⟨"WeylWordsModel", "isOneMore", "()Z"⟩, 31), (⟨"WeylWordsModel", "sorts", "(Z)V"⟩, 31), (⟨"WeylWordsModel", "isAhead", "(II)Z"⟩, 31), (⟨"WeylWordsModel", "exchanges", "(II)V"⟩, 31), (⟨"WeylWordsModel", "crosses", "(II)V"⟩, 31), (⟨"WeylWordsModel", "isRead", "(Z)Z"⟩, 31), (⟨"WeylWordsModel", "opens", "()V"⟩, 31), (⟨"WeylWordsModel", "blanks", "()V"⟩, 31), (⟨"WeylWordsModel", "isAt", "(II)Z"⟩, 31)]
theorem lw_r5 : ∀ q ∈ lw_privs_5, lw_okq q := List.forall_mem_cons.mpr ⟨lw_p64, List.forall_mem_cons.mpr ⟨lw_p65, List.forall_mem_cons.mpr ⟨lw_p66, List.forall_mem_cons.mpr ⟨lw_p67, List.forall_mem_cons.mpr ⟨lw_p68, List.forall_mem_cons.mpr ⟨lw_p69, List.forall_mem_cons.mpr ⟨lw_p70, List.forall_mem_cons.mpr ⟨lw_p71, List.forall_mem_cons.mpr ⟨lw_p72, List.forall_mem_cons.mpr ⟨lw_p73, List.forall_mem_cons.mpr ⟨lw_p74, List.forall_mem_cons.mpr ⟨lw_p75, List.forall_mem_cons.mpr ⟨lw_p76, List.forall_mem_cons.mpr ⟨lw_p77, List.forall_mem_cons.mpr ⟨lw_p78, List.forall_mem_cons.mpr ⟨lw_p79, fun _ h => absurd h List.not_mem_nil⟩⟩⟩⟩⟩⟩⟩⟩⟩⟩⟩⟩⟩⟩⟩⟩
theorem lw_p80 : lw_okq (⟨"WeylWordsModel", "takesFactor", "()Z"⟩, 31) := ⟨⟨by decide +kernel, by decide +kernel⟩, List.mem_of_getElem? (i := 887) (by decide +kernel), List.mem_of_getElem? (i := 1300) (by decide +kernel), List.mem_of_getElem? (i := 1301) (by decide +kernel)⟩
theorem lw_p81 : lw_okq (⟨"WeylWordsModel", "fails", "(I)Z"⟩, 31) := ⟨⟨by decide +kernel, by decide +kernel⟩, List.mem_of_getElem? (i := 887) (by decide +kernel), List.mem_of_getElem? (i := 1304) (by decide +kernel), List.mem_of_getElem? (i := 1305) (by decide +kernel)⟩
theorem lw_p82 : lw_okq (⟨"WeylWordsModel", "takesFigures", "(I)Z"⟩, 31) := ⟨⟨by decide +kernel, by decide +kernel⟩, List.mem_of_getElem? (i := 887) (by decide +kernel), List.mem_of_getElem? (i := 1308) (by decide +kernel), List.mem_of_getElem? (i := 1309) (by decide +kernel)⟩
theorem lw_p83 : lw_okq (⟨"WeylWordsModel", "values", "(III)V"⟩, 31) := ⟨⟨by decide +kernel, by decide +kernel⟩, List.mem_of_getElem? (i := 887) (by decide +kernel), List.mem_of_getElem? (i := 1312) (by decide +kernel), List.mem_of_getElem? (i := 1313) (by decide +kernel)⟩
theorem lw_p84 : lw_okq (⟨"WeylWordsModel", "takesPower", "()Z"⟩, 31) := ⟨⟨by decide +kernel, by decide +kernel⟩, List.mem_of_getElem? (i := 887) (by decide +kernel), List.mem_of_getElem? (i := 1316) (by decide +kernel), List.mem_of_getElem? (i := 1317) (by decide +kernel)⟩
theorem lw_p85 : lw_okq (⟨"WeylWordsModel", "takes", "(I)V"⟩, 31) := ⟨⟨by decide +kernel, by decide +kernel⟩, List.mem_of_getElem? (i := 887) (by decide +kernel), List.mem_of_getElem? (i := 1320) (by decide +kernel), List.mem_of_getElem? (i := 1321) (by decide +kernel)⟩
theorem lw_p86 : lw_okq (⟨"WeylWordsModel", "takesSign", "()Z"⟩, 31) := ⟨⟨by decide +kernel, by decide +kernel⟩, List.mem_of_getElem? (i := 887) (by decide +kernel), List.mem_of_getElem? (i := 1324) (by decide +kernel), List.mem_of_getElem? (i := 1325) (by decide +kernel)⟩
theorem lw_p87 : lw_okq (⟨"WeylWordsModel", "closes", "()V"⟩, 31) := ⟨⟨by decide +kernel, by decide +kernel⟩, List.mem_of_getElem? (i := 887) (by decide +kernel), List.mem_of_getElem? (i := 1328) (by decide +kernel), List.mem_of_getElem? (i := 1329) (by decide +kernel)⟩
theorem lw_p88 : lw_okq (⟨"WeylWordsModel", "laysLine", "(I)V"⟩, 31) := ⟨⟨by decide +kernel, by decide +kernel⟩, List.mem_of_getElem? (i := 887) (by decide +kernel), List.mem_of_getElem? (i := 1336) (by decide +kernel), List.mem_of_getElem? (i := 1337) (by decide +kernel)⟩
theorem lw_p89 : lw_okq (⟨"WeylWordsModel", "writesTerm", "(II)V"⟩, 31) := ⟨⟨by decide +kernel, by decide +kernel⟩, List.mem_of_getElem? (i := 887) (by decide +kernel), List.mem_of_getElem? (i := 1340) (by decide +kernel), List.mem_of_getElem? (i := 1341) (by decide +kernel)⟩
theorem lw_p90 : lw_okq (⟨"WeylWordsModel", "writes", "(I)V"⟩, 31) := ⟨⟨by decide +kernel, by decide +kernel⟩, List.mem_of_getElem? (i := 887) (by decide +kernel), List.mem_of_getElem? (i := 1344) (by decide +kernel), List.mem_of_getElem? (i := 1345) (by decide +kernel)⟩
theorem lw_p91 : lw_okq (⟨"WeylWordsModel", "writesNumber", "(I)V"⟩, 31) := ⟨⟨by decide +kernel, by decide +kernel⟩, List.mem_of_getElem? (i := 887) (by decide +kernel), List.mem_of_getElem? (i := 1348) (by decide +kernel), List.mem_of_getElem? (i := 1349) (by decide +kernel)⟩
theorem lw_p92 : lw_okq (⟨"WeylWordsModel", "writesLetter", "(II)V"⟩, 31) := ⟨⟨by decide +kernel, by decide +kernel⟩, List.mem_of_getElem? (i := 887) (by decide +kernel), List.mem_of_getElem? (i := 1352) (by decide +kernel), List.mem_of_getElem? (i := 1353) (by decide +kernel)⟩
theorem lw_p93 : lw_okq (⟨"WeylWordsModel", "toldOf", "(I)I"⟩, 31) := ⟨⟨by decide +kernel, by decide +kernel⟩, List.mem_of_getElem? (i := 887) (by decide +kernel), List.mem_of_getElem? (i := 1360) (by decide +kernel), List.mem_of_getElem? (i := 1361) (by decide +kernel)⟩
theorem lw_p94 : lw_okq (⟨"WeylWordsModel", "mix", "(J)V"⟩, 31) := ⟨⟨by decide +kernel, by decide +kernel⟩, List.mem_of_getElem? (i := 887) (by decide +kernel), List.mem_of_getElem? (i := 1369) (by decide +kernel), List.mem_of_getElem? (i := 1370) (by decide +kernel)⟩
def lw_privs_6 : List (MethodName × Nat) := [(⟨"WeylWordsModel", "takesFactor", "()Z"⟩, 31), (⟨"WeylWordsModel", "fails", "(I)Z"⟩, 31), (⟨"WeylWordsModel", "takesFigures", "(I)Z"⟩, 31), (⟨"WeylWordsModel", "values", "(III)V"⟩, 31), (⟨"WeylWordsModel", "takesPower", "()Z"⟩, 31), (⟨"WeylWordsModel", "takes", "(I)V"⟩, 31), (⟨"WeylWordsModel", "takesSign", "()Z"⟩, 31), (⟨"WeylWordsModel", "closes", "()V"⟩, 31), (⟨"WeylWordsModel", "laysLine", "(I)V"⟩, 31), (⟨"WeylWordsModel", "writesTerm", "(II)V"⟩, 31), (⟨"WeylWordsModel", "writes", "(I)V"⟩, 31), (⟨"WeylWordsModel", "writesNumber", "(I)V"⟩, 31), (⟨"WeylWordsModel", "writesLetter", "(II)V"⟩, 31), (⟨"WeylWordsModel", "toldOf", "(I)I"⟩, 31), (⟨"WeylWordsModel", "mix", "(J)V"⟩, 31)]
theorem lw_r6 : ∀ q ∈ lw_privs_6, lw_okq q := List.forall_mem_cons.mpr ⟨lw_p80, List.forall_mem_cons.mpr ⟨lw_p81, List.forall_mem_cons.mpr ⟨lw_p82, List.forall_mem_cons.mpr ⟨lw_p83, List.forall_mem_cons.mpr ⟨lw_p84, List.forall_mem_cons.mpr ⟨lw_p85, List.forall_mem_cons.mpr ⟨lw_p86, List.forall_mem_cons.mpr ⟨lw_p87, List.forall_mem_cons.mpr ⟨lw_p88, List.forall_mem_cons.mpr ⟨lw_p89, List.forall_mem_cons.mpr ⟨lw_p90, List.forall_mem_cons.mpr ⟨lw_p91, List.forall_mem_cons.mpr ⟨lw_p92, List.forall_mem_cons.mpr ⟨lw_p93, List.forall_mem_cons.mpr ⟨lw_p94, fun _ h => absurd h List.not_mem_nil⟩⟩⟩⟩⟩⟩⟩⟩⟩⟩⟩⟩⟩⟩⟩
def lw_privs : List (MethodName × Nat) := lw_privs_1 ++ (lw_privs_2 ++ (lw_privs_3 ++ (lw_privs_4 ++ (lw_privs_5 ++ (lw_privs_6)))))
def lw_tbl : List Cond := k2_sels lw_privs ++ tables_1
theorem lw_privs_ok : ∀ q ∈ lw_privs, lw_okq q := by
  show ∀ q ∈ lw_privs_1 ++ (lw_privs_2 ++ (lw_privs_3 ++ (lw_privs_4 ++ (lw_privs_5 ++ (lw_privs_6))))), lw_okq q
  exact List.forall_mem_append.mpr ⟨lw_r1, List.forall_mem_append.mpr ⟨lw_r2, List.forall_mem_append.mpr ⟨lw_r3, List.forall_mem_append.mpr ⟨lw_r4, List.forall_mem_append.mpr ⟨lw_r5, lw_r6⟩⟩⟩⟩⟩
def RX0 : String := "WeylWords$Action"
def TX0 : u_T := fun k => match k with
  | 0 => ("WeylWords$Action", "falling", "[[I", true)
  | 1 => ("WeylWords$Action", "rows", "[[I", true)
  | _ => ("WeylWords$Action", "image", "[I", true)
def tyX0 : Nat → FieldType := fun k => match k with
  | 0 => .array (.array .int)
  | 1 => .array (.array .int)
  | _ => .array .int
theorem nmX0 : ∀ a, a < 3 → ∀ b, b < 3 → a ≠ b → (TX0 a).2.1 ≠ (TX0 b).2.1 := by decide +kernel
theorem tyX0_ok : ∀ k, k < 3 → parseFieldDescriptor (TX0 k).2.2.1 = some (tyX0 k) := by decide +kernel
abbrev cX0_init : ByteArray := prog_2_method_1_code
def yX0_init : MethodName := ⟨RX0, "<init>", "(LWeylWords$Algebra;)V"⟩
abbrev cX0_degree : ByteArray := prog_2_method_2_code
def yX0_degree : MethodName := ⟨RX0, "degree", "([I)I"⟩
abbrev cX0_fits : ByteArray := prog_2_method_3_code
def yX0_fits : MethodName := ⟨RX0, "fits", "(LWeylWords$Operator;[I)Z"⟩
abbrev cX0_apply : ByteArray := prog_2_method_4_code
def yX0_apply : MethodName := ⟨RX0, "apply", "(LWeylWords$Operator;[I)V"⟩
abbrev cX0_addImage : ByteArray := prog_2_method_5_code
def yX0_addImage : MethodName := ⟨RX0, "addImage", "([ILWeylWords$Operator;II)V"⟩
abbrev cX0_kernelDimension : ByteArray := prog_2_method_6_code
def yX0_kernelDimension : MethodName := ⟨RX0, "kernelDimension", "(LWeylWords$Operator;I)I"⟩
abbrev cX0_pivotRow : ByteArray := prog_2_method_7_code
def yX0_pivotRow : MethodName := ⟨RX0, "pivotRow", "(III)I"⟩
abbrev cX0_clearBelow : ByteArray := prog_2_method_8_code
def yX0_clearBelow : MethodName := ⟨RX0, "clearBelow", "(III)V"⟩
def RX1 : String := "WeylWords$Algebra"
def TX1 : u_T := fun k => match k with
  | 0 => ("WeylWords$Algebra", "choose", "[[I", true)
  | 1 => ("WeylWords$Algebra", "falling", "[[I", true)
  | _ => ("WeylWords$Algebra", "spare", "LWeylWords$Operator;", true)
def tyX1 : Nat → FieldType := fun k => match k with
  | 0 => .array (.array .int)
  | 1 => .array (.array .int)
  | _ => .object "WeylWords$Operator"
theorem nmX1 : ∀ a, a < 3 → ∀ b, b < 3 → a ≠ b → (TX1 a).2.1 ≠ (TX1 b).2.1 := by decide +kernel
theorem tyX1_ok : ∀ k, k < 3 → parseFieldDescriptor (TX1 k).2.2.1 = some (tyX1 k) := by decide +kernel
abbrev cX1_init : ByteArray := prog_3_method_1_code
def yX1_init : MethodName := ⟨RX1, "<init>", "()V"⟩
abbrev cX1_residue : ByteArray := prog_3_method_2_code
def yX1_residue : MethodName := ⟨RX1, "residue", "(I)I"⟩
abbrev cX1_balanced : ByteArray := prog_3_method_3_code
def yX1_balanced : MethodName := ⟨RX1, "balanced", "(I)I"⟩
abbrev cX1_inverse : ByteArray := prog_3_method_4_code
def yX1_inverse : MethodName := ⟨RX1, "inverse", "(I)I"⟩
abbrev cX1_productFits : ByteArray := prog_3_method_5_code
def yX1_productFits : MethodName := ⟨RX1, "productFits", "(LWeylWords$Operator;LWeylWords$Operator;)Z"⟩
abbrev cX1_powerFits : ByteArray := prog_3_method_6_code
def yX1_powerFits : MethodName := ⟨RX1, "powerFits", "(LWeylWords$Operator;I)Z"⟩
abbrev cX1_addProduct : ByteArray := prog_3_method_7_code
def yX1_addProduct : MethodName := ⟨RX1, "addProduct", "(LWeylWords$Operator;ILWeylWords$Operator;LWeylWords$Operator;)V"⟩
abbrev cX1_addWordProduct : ByteArray := prog_3_method_8_code
def yX1_addWordProduct : MethodName := ⟨RX1, "addWordProduct", "(LWeylWords$Operator;IILWeylWords$Operator;I)V"⟩
abbrev cX1_raise : ByteArray := prog_3_method_9_code
def yX1_raise : MethodName := ⟨RX1, "raise", "(LWeylWords$Operator;LWeylWords$Operator;I)V"⟩
abbrev cX1_adjoin : ByteArray := prog_3_method_10_code
def yX1_adjoin : MethodName := ⟨RX1, "adjoin", "(LWeylWords$Operator;LWeylWords$Operator;)V"⟩
def RX2 : String := "WeylWords$Basis"
def TX2 : u_T := fun k => match k with
  | 0 => ("WeylWords$Basis", "parts", "[LWeylWords$Operator;", true)
  | 1 => ("WeylWords$Basis", "leadXs", "[I", true)
  | 2 => ("WeylWords$Basis", "leadDs", "[I", true)
  | 3 => ("WeylWords$Basis", "source", "[I", true)
  | 4 => ("WeylWords$Basis", "sourceOrder", "I", false)
  | _ => ("WeylWords$Basis", "count", "I", false)
def tyX2 : Nat → FieldType := fun k => match k with
  | 0 => .array (.object "WeylWords$Operator")
  | 1 => .array .int
  | 2 => .array .int
  | 3 => .array .int
  | 4 => .int
  | _ => .int
theorem nmX2 : ∀ a, a < 6 → ∀ b, b < 6 → a ≠ b → (TX2 a).2.1 ≠ (TX2 b).2.1 := by decide +kernel
theorem tyX2_ok : ∀ k, k < 6 → parseFieldDescriptor (TX2 k).2.2.1 = some (tyX2 k) := by decide +kernel
abbrev cX2_init : ByteArray := prog_4_method_1_code
def yX2_init : MethodName := ⟨RX2, "<init>", "()V"⟩
abbrev cX2_covers : ByteArray := prog_4_method_2_code
def yX2_covers : MethodName := ⟨RX2, "covers", "(II)Z"⟩
abbrev cX2_isFor : ByteArray := prog_4_method_3_code
def yX2_isFor : MethodName := ⟨RX2, "isFor", "(LWeylWords$State;I)Z"⟩
abbrev cX2_begin : ByteArray := prog_4_method_4_code
def yX2_begin : MethodName := ⟨RX2, "begin", "(LWeylWords$State;I)V"⟩
abbrev cX2_add : ByteArray := prog_4_method_5_code
def yX2_add : MethodName := ⟨RX2, "add", "(LWeylWords$Operator;)V"⟩
abbrev cX2_sourceCell : ByteArray := prog_4_method_6_code
def yX2_sourceCell : MethodName := ⟨RX2, "sourceCell", "(LWeylWords$State;III)I"⟩
def RX3 : String := "WeylWords$Completion"
def TX3 : u_T := fun k => match k with
  | 0 => ("WeylWords$Completion", "algebra", "LWeylWords$Algebra;", true)
  | 1 => ("WeylWords$Completion", "divider", "LWeylWords$Divider;", true)
  | 2 => ("WeylWords$Completion", "bases", "[LWeylWords$Basis;", true)
  | 3 => ("WeylWords$Completion", "oldest", "I", false)
  | 4 => ("WeylWords$Completion", "rows", "[LWeylWords$Operator;", true)
  | 5 => ("WeylWords$Completion", "leadXs", "[I", true)
  | 6 => ("WeylWords$Completion", "leadDs", "[I", true)
  | 7 => ("WeylWords$Completion", "settled", "[Z", true)
  | 8 => ("WeylWords$Completion", "kept", "I", false)
  | 9 => ("WeylWords$Completion", "waiting", "I", false)
  | _ => ("WeylWords$Completion", "order", "I", false)
def tyX3 : Nat → FieldType := fun k => match k with
  | 0 => .object "WeylWords$Algebra"
  | 1 => .object "WeylWords$Divider"
  | 2 => .array (.object "WeylWords$Basis")
  | 3 => .int
  | 4 => .array (.object "WeylWords$Operator")
  | 5 => .array .int
  | 6 => .array .int
  | 7 => .array .boolean
  | 8 => .int
  | 9 => .int
  | _ => .int
theorem nmX3 : ∀ a, a < 11 → ∀ b, b < 11 → a ≠ b → (TX3 a).2.1 ≠ (TX3 b).2.1 := by decide +kernel
theorem tyX3_ok : ∀ k, k < 11 → parseFieldDescriptor (TX3 k).2.2.1 = some (tyX3 k) := by decide +kernel
abbrev cX3_init : ByteArray := prog_5_method_1_code
def yX3_init : MethodName := ⟨RX3, "<init>", "(LWeylWords$Algebra;LWeylWords$Divider;)V"⟩
abbrev cX3_find : ByteArray := prog_5_method_2_code
def yX3_find : MethodName := ⟨RX3, "find", "(LWeylWords$State;I)LWeylWords$Basis;"⟩
abbrev cX3_gather : ByteArray := prog_5_method_3_code
def yX3_gather : MethodName := ⟨RX3, "gather", "(LWeylWords$State;I)V"⟩
abbrev cX3_complete : ByteArray := prog_5_method_4_code
def yX3_complete : MethodName := ⟨RX3, "complete", "()V"⟩
abbrev cX3_absorb : ByteArray := prog_5_method_5_code
def yX3_absorb : MethodName := ⟨RX3, "absorb", "()V"⟩
abbrev cX3_dismiss : ByteArray := prog_5_method_6_code
def yX3_dismiss : MethodName := ⟨RX3, "dismiss", "(I)V"⟩
abbrev cX3_admit : ByteArray := prog_5_method_7_code
def yX3_admit : MethodName := ⟨RX3, "admit", "(II)V"⟩
abbrev cX3_unsettle : ByteArray := prog_5_method_8_code
def yX3_unsettle : MethodName := ⟨RX3, "unsettle", "(I)V"⟩
abbrev cX3_cheapestPair : ByteArray := prog_5_method_9_code
def yX3_cheapestPair : MethodName := ⟨RX3, "cheapestPair", "()I"⟩
abbrev cX3_cross : ByteArray := prog_5_method_10_code
def yX3_cross : MethodName := ⟨RX3, "cross", "(I)V"⟩
abbrev cX3_reduceTails : ByteArray := prog_5_method_11_code
def yX3_reduceTails : MethodName := ⟨RX3, "reduceTails", "()V"⟩
abbrev cX3_handOver : ByteArray := prog_5_method_12_code
def yX3_handOver : MethodName := ⟨RX3, "handOver", "(LWeylWords$Basis;)V"⟩
def RX4 : String := "WeylWords$Divider"
def TX4 : u_T := fun k => match k with
  | 0 => ("WeylWords$Divider", "algebra", "LWeylWords$Algebra;", true)
  | 1 => ("WeylWords$Divider", "divisors", "[LWeylWords$Operator;", true)
  | 2 => ("WeylWords$Divider", "leadXs", "[I", true)
  | 3 => ("WeylWords$Divider", "leadDs", "[I", true)
  | 4 => ("WeylWords$Divider", "inverses", "[I", true)
  | 5 => ("WeylWords$Divider", "extents", "[I", true)
  | 6 => ("WeylWords$Divider", "count", "I", false)
  | _ => ("WeylWords$Divider", "order", "I", false)
def tyX4 : Nat → FieldType := fun k => match k with
  | 0 => .object "WeylWords$Algebra"
  | 1 => .array (.object "WeylWords$Operator")
  | 2 => .array .int
  | 3 => .array .int
  | 4 => .array .int
  | 5 => .array .int
  | 6 => .int
  | _ => .int
theorem nmX4 : ∀ a, a < 8 → ∀ b, b < 8 → a ≠ b → (TX4 a).2.1 ≠ (TX4 b).2.1 := by decide +kernel
theorem tyX4_ok : ∀ k, k < 8 → parseFieldDescriptor (TX4 k).2.2.1 = some (tyX4 k) := by decide +kernel
abbrev cX4_init : ByteArray := prog_6_method_1_code
def yX4_init : MethodName := ⟨RX4, "<init>", "(LWeylWords$Algebra;)V"⟩
abbrev cX4_begin : ByteArray := prog_6_method_2_code
def yX4_begin : MethodName := ⟨RX4, "begin", "(I)V"⟩
abbrev cX4_take : ByteArray := prog_6_method_3_code
def yX4_take : MethodName := ⟨RX4, "take", "(LWeylWords$Operator;)V"⟩
abbrev cX4_reduce : ByteArray := prog_6_method_4_code
def yX4_reduce : MethodName := ⟨RX4, "reduce", "(LWeylWords$Operator;)V"⟩
abbrev cX4_cancel : ByteArray := prog_6_method_5_code
def yX4_cancel : MethodName := ⟨RX4, "cancel", "(LWeylWords$Operator;I)V"⟩
def RX5 : String := "WeylWords$History"
def TX5 : u_T := fun k => match k with
  | 0 => ("WeylWords$History", "slots", "[LWeylWords$State;", true)
  | 1 => ("WeylWords$History", "next", "I", false)
  | _ => ("WeylWords$History", "stored", "I", false)
def tyX5 : Nat → FieldType := fun k => match k with
  | 0 => .array (.object "WeylWords$State")
  | 1 => .int
  | _ => .int
theorem nmX5 : ∀ a, a < 3 → ∀ b, b < 3 → a ≠ b → (TX5 a).2.1 ≠ (TX5 b).2.1 := by decide +kernel
theorem tyX5_ok : ∀ k, k < 3 → parseFieldDescriptor (TX5 k).2.2.1 = some (tyX5 k) := by decide +kernel
abbrev cX5_init : ByteArray := prog_7_method_1_code
def yX5_init : MethodName := ⟨RX5, "<init>", "()V"⟩
abbrev cX5_keep : ByteArray := prog_7_method_2_code
def yX5_keep : MethodName := ⟨RX5, "keep", "(LWeylWords$State;)V"⟩
abbrev cX5_restore : ByteArray := prog_7_method_3_code
def yX5_restore : MethodName := ⟨RX5, "restore", "(LWeylWords$State;)V"⟩
def RX6 : String := "WeylWords$Operator"
def TX6 : u_T := fun k => match k with
  | _ => ("WeylWords$Operator", "cells", "[I", true)
def tyX6 : Nat → FieldType := fun k => match k with
  | _ => .array .int
theorem nmX6 : ∀ a, a < 1 → ∀ b, b < 1 → a ≠ b → (TX6 a).2.1 ≠ (TX6 b).2.1 := by decide +kernel
theorem tyX6_ok : ∀ k, k < 1 → parseFieldDescriptor (TX6 k).2.2.1 = some (tyX6 k) := by decide +kernel
abbrev cX6_init : ByteArray := prog_8_method_1_code
def yX6_init : MethodName := ⟨RX6, "<init>", "()V"⟩
abbrev cX6_isWord : ByteArray := prog_8_method_2_code
def yX6_isWord : MethodName := ⟨RX6, "isWord", "(II)Z"⟩
abbrev cX6_firstPlace : ByteArray := prog_8_method_3_code
def yX6_firstPlace : MethodName := ⟨RX6, "firstPlace", "(I)I"⟩
abbrev cX6_placeOf : ByteArray := prog_8_method_4_code
def yX6_placeOf : MethodName := ⟨RX6, "placeOf", "(II)I"⟩
abbrev cX6_degreeAt : ByteArray := prog_8_method_5_code
def yX6_degreeAt : MethodName := ⟨RX6, "degreeAt", "(I)I"⟩
abbrev cX6_rankedPlace : ByteArray := prog_8_method_6_code
def yX6_rankedPlace : MethodName := ⟨RX6, "rankedPlace", "(III)I"⟩
abbrev cX6_height : ByteArray := prog_8_method_7_code
def yX6_height : MethodName := ⟨RX6, "height", "(II)I"⟩
abbrev cX6_coefficient : ByteArray := prog_8_method_8_code
def yX6_coefficient : MethodName := ⟨RX6, "coefficient", "(II)I"⟩
abbrev cX6_setCoefficient : ByteArray := prog_8_method_9_code
def yX6_setCoefficient : MethodName := ⟨RX6, "setCoefficient", "(III)V"⟩
abbrev cX6_makeZero : ByteArray := prog_8_method_10_code
def yX6_makeZero : MethodName := ⟨RX6, "makeZero", "()V"⟩
abbrev cX6_makeNumber : ByteArray := prog_8_method_11_code
def yX6_makeNumber : MethodName := ⟨RX6, "makeNumber", "(I)V"⟩
abbrev cX6_copyFrom : ByteArray := prog_8_method_12_code
def yX6_copyFrom : MethodName := ⟨RX6, "copyFrom", "(LWeylWords$Operator;)V"⟩
abbrev cX6_addMultiple : ByteArray := prog_8_method_13_code
def yX6_addMultiple : MethodName := ⟨RX6, "addMultiple", "(LWeylWords$Operator;I)V"⟩
abbrev cX6_scale : ByteArray := prog_8_method_14_code
def yX6_scale : MethodName := ⟨RX6, "scale", "(I)V"⟩
abbrev cX6_countTerms : ByteArray := prog_8_method_15_code
def yX6_countTerms : MethodName := ⟨RX6, "countTerms", "()I"⟩
abbrev cX6_extent : ByteArray := prog_8_method_16_code
def yX6_extent : MethodName := ⟨RX6, "extent", "()I"⟩
abbrev cX6_isZero : ByteArray := prog_8_method_17_code
def yX6_isZero : MethodName := ⟨RX6, "isZero", "()Z"⟩
abbrev cX6_degree : ByteArray := prog_8_method_18_code
def yX6_degree : MethodName := ⟨RX6, "degree", "()I"⟩
abbrev cX6_leadPlace : ByteArray := prog_8_method_19_code
def yX6_leadPlace : MethodName := ⟨RX6, "leadPlace", "(I)I"⟩
abbrev cX6_property : ByteArray := prog_8_method_20_code
def yX6_property : MethodName := ⟨RX6, "property", "(II)I"⟩
abbrev cX6_greatest : ByteArray := prog_8_method_21_code
def yX6_greatest : MethodName := ⟨RX6, "greatest", "(I)I"⟩
abbrev cX6_measure : ByteArray := prog_8_method_22_code
def yX6_measure : MethodName := ⟨RX6, "measure", "(III)I"⟩
def RX7 : String := "WeylWords$Reader"
def TX7 : u_T := fun k => match k with
  | 0 => ("WeylWords$Reader", "algebra", "LWeylWords$Algebra;", true)
  | 1 => ("WeylWords$Reader", "text", "LWeylWords$Text;", true)
  | 2 => ("WeylWords$Reader", "totals", "[LWeylWords$Operator;", true)
  | 3 => ("WeylWords$Reader", "products", "[LWeylWords$Operator;", true)
  | 4 => ("WeylWords$Reader", "factor", "LWeylWords$Operator;", true)
  | 5 => ("WeylWords$Reader", "spare", "LWeylWords$Operator;", true)
  | _ => ("WeylWords$Reader", "at", "I", false)
def tyX7 : Nat → FieldType := fun k => match k with
  | 0 => .object "WeylWords$Algebra"
  | 1 => .object "WeylWords$Text"
  | 2 => .array (.object "WeylWords$Operator")
  | 3 => .array (.object "WeylWords$Operator")
  | 4 => .object "WeylWords$Operator"
  | 5 => .object "WeylWords$Operator"
  | _ => .int
theorem nmX7 : ∀ a, a < 7 → ∀ b, b < 7 → a ≠ b → (TX7 a).2.1 ≠ (TX7 b).2.1 := by decide +kernel
theorem tyX7_ok : ∀ k, k < 7 → parseFieldDescriptor (TX7 k).2.2.1 = some (tyX7 k) := by decide +kernel
abbrev cX7_init : ByteArray := prog_9_method_1_code
def yX7_init : MethodName := ⟨RX7, "<init>", "(LWeylWords$Algebra;LWeylWords$Text;)V"⟩
abbrev cX7_evaluate : ByteArray := prog_9_method_2_code
def yX7_evaluate : MethodName := ⟨RX7, "evaluate", "(LWeylWords$Operator;)Z"⟩
abbrev cX7_readExpression : ByteArray := prog_9_method_3_code
def yX7_readExpression : MethodName := ⟨RX7, "readExpression", "(I)Z"⟩
abbrev cX7_readTerm : ByteArray := prog_9_method_4_code
def yX7_readTerm : MethodName := ⟨RX7, "readTerm", "(I)Z"⟩
abbrev cX7_readFactor : ByteArray := prog_9_method_5_code
def yX7_readFactor : MethodName := ⟨RX7, "readFactor", "(I)Z"⟩
abbrev cX7_readNumber : ByteArray := prog_9_method_6_code
def yX7_readNumber : MethodName := ⟨RX7, "readNumber", "(I)I"⟩
abbrev cX7_peek : ByteArray := prog_9_method_7_code
def yX7_peek : MethodName := ⟨RX7, "peek", "()I"⟩
def RX8 : String := "WeylWords$State"
def TX8 : u_T := fun k => match k with
  | 0 => ("WeylWords$State", "operators", "[LWeylWords$Operator;", true)
  | 1 => ("WeylWords$State", "polynomials", "[[I", true)
  | _ => ("WeylWords$State", "order", "I", false)
def tyX8 : Nat → FieldType := fun k => match k with
  | 0 => .array (.object "WeylWords$Operator")
  | 1 => .array (.array .int)
  | _ => .int
theorem nmX8 : ∀ a, a < 3 → ∀ b, b < 3 → a ≠ b → (TX8 a).2.1 ≠ (TX8 b).2.1 := by decide +kernel
theorem tyX8_ok : ∀ k, k < 3 → parseFieldDescriptor (TX8 k).2.2.1 = some (tyX8 k) := by decide +kernel
abbrev cX8_init : ByteArray := prog_10_method_1_code
def yX8_init : MethodName := ⟨RX8, "<init>", "()V"⟩
abbrev cX8_copyFrom : ByteArray := prog_10_method_2_code
def yX8_copyFrom : MethodName := ⟨RX8, "copyFrom", "(LWeylWords$State;)V"⟩
def RX9 : String := "WeylWords$Text"
def TX9 : u_T := fun k => match k with
  | 0 => ("WeylWords$Text", "bytes", "[I", true)
  | 1 => ("WeylWords$Text", "length", "I", false)
  | 2 => ("WeylWords$Text", "mode", "I", false)
  | _ => ("WeylWords$Text", "open", "I", false)
def tyX9 : Nat → FieldType := fun k => match k with
  | 0 => .array .int
  | 1 => .int
  | 2 => .int
  | _ => .int
theorem nmX9 : ∀ a, a < 4 → ∀ b, b < 4 → a ≠ b → (TX9 a).2.1 ≠ (TX9 b).2.1 := by decide +kernel
theorem tyX9_ok : ∀ k, k < 4 → parseFieldDescriptor (TX9 k).2.2.1 = some (tyX9 k) := by decide +kernel
abbrev cX9_init : ByteArray := prog_11_method_1_code
def yX9_init : MethodName := ⟨RX9, "<init>", "()V"⟩
abbrev cX9_append : ByteArray := prog_11_method_2_code
def yX9_append : MethodName := ⟨RX9, "append", "(I)V"⟩
abbrev cX9_byteAt : ByteArray := prog_11_method_3_code
def yX9_byteAt : MethodName := ⟨RX9, "byteAt", "(I)I"⟩
abbrev cX9_isDigit : ByteArray := prog_11_method_4_code
def yX9_isDigit : MethodName := ⟨RX9, "isDigit", "(I)Z"⟩
abbrev cX9_fault : ByteArray := prog_11_method_5_code
def yX9_fault : MethodName := ⟨RX9, "fault", "()I"⟩
abbrev cX9_pass : ByteArray := prog_11_method_6_code
def yX9_pass : MethodName := ⟨RX9, "pass", "(I)I"⟩
abbrev cX9_passOperand : ByteArray := prog_11_method_7_code
def yX9_passOperand : MethodName := ⟨RX9, "passOperand", "(I)I"⟩
abbrev cX9_passExponent : ByteArray := prog_11_method_8_code
def yX9_passExponent : MethodName := ⟨RX9, "passExponent", "(I)I"⟩
abbrev cX9_passLink : ByteArray := prog_11_method_9_code
def yX9_passLink : MethodName := ⟨RX9, "passLink", "(I)I"⟩
abbrev cX9_countDigits : ByteArray := prog_11_method_10_code
def yX9_countDigits : MethodName := ⟨RX9, "countDigits", "(II)I"⟩
abbrev cX9_valueOf : ByteArray := prog_11_method_11_code
def yX9_valueOf : MethodName := ⟨RX9, "valueOf", "(II)I"⟩
def RX10 : String := "WeylWords$Writer"
def TX10 : u_T := fun k => match k with
  | 0 => ("WeylWords$Writer", "bytes", "[I", true)
  | _ => ("WeylWords$Writer", "length", "I", false)
def tyX10 : Nat → FieldType := fun k => match k with
  | 0 => .array .int
  | _ => .int
theorem nmX10 : ∀ a, a < 2 → ∀ b, b < 2 → a ≠ b → (TX10 a).2.1 ≠ (TX10 b).2.1 := by decide +kernel
theorem tyX10_ok : ∀ k, k < 2 → parseFieldDescriptor (TX10 k).2.2.1 = some (tyX10 k) := by decide +kernel
abbrev cX10_init : ByteArray := prog_12_method_1_code
def yX10_init : MethodName := ⟨RX10, "<init>", "()V"⟩
abbrev cX10_byteAt : ByteArray := prog_12_method_2_code
def yX10_byteAt : MethodName := ⟨RX10, "byteAt", "(LWeylWords$Operator;II)I"⟩
abbrev cX10_writeTerm : ByteArray := prog_12_method_3_code
def yX10_writeTerm : MethodName := ⟨RX10, "writeTerm", "(IIZ)V"⟩
abbrev cX10_writeLetter : ByteArray := prog_12_method_4_code
def yX10_writeLetter : MethodName := ⟨RX10, "writeLetter", "(IIZ)V"⟩
abbrev cX10_writeNumber : ByteArray := prog_12_method_5_code
def yX10_writeNumber : MethodName := ⟨RX10, "writeNumber", "(I)V"⟩
abbrev cX10_write : ByteArray := prog_12_method_6_code
def yX10_write : MethodName := ⟨RX10, "write", "(I)V"⟩
def RX11 : String := "WeylWords"
def TX11 : u_T := fun k => match k with
  | 0 => ("WeylWords", "state", "LWeylWords$State;", true)
  | 1 => ("WeylWords", "history", "LWeylWords$History;", true)
  | 2 => ("WeylWords", "text", "LWeylWords$Text;", true)
  | 3 => ("WeylWords", "algebra", "LWeylWords$Algebra;", true)
  | 4 => ("WeylWords", "divider", "LWeylWords$Divider;", true)
  | 5 => ("WeylWords", "completion", "LWeylWords$Completion;", true)
  | 6 => ("WeylWords", "action", "LWeylWords$Action;", true)
  | 7 => ("WeylWords", "reader", "LWeylWords$Reader;", true)
  | 8 => ("WeylWords", "writer", "LWeylWords$Writer;", true)
  | 9 => ("WeylWords", "result", "LWeylWords$Operator;", true)
  | 10 => ("WeylWords", "badCount", "I", false)
  | 11 => ("WeylWords", "noCount", "I", false)
  | _ => ("WeylWords", "fullCount", "I", false)
def tyX11 : Nat → FieldType := fun k => match k with
  | 0 => .object "WeylWords$State"
  | 1 => .object "WeylWords$History"
  | 2 => .object "WeylWords$Text"
  | 3 => .object "WeylWords$Algebra"
  | 4 => .object "WeylWords$Divider"
  | 5 => .object "WeylWords$Completion"
  | 6 => .object "WeylWords$Action"
  | 7 => .object "WeylWords$Reader"
  | 8 => .object "WeylWords$Writer"
  | 9 => .object "WeylWords$Operator"
  | 10 => .int
  | 11 => .int
  | _ => .int
theorem nmX11 : ∀ a, a < 13 → ∀ b, b < 13 → a ≠ b → (TX11 a).2.1 ≠ (TX11 b).2.1 := by decide +kernel
theorem tyX11_ok : ∀ k, k < 13 → parseFieldDescriptor (TX11 k).2.2.1 = some (tyX11 k) := by decide +kernel
abbrev cX11_init : ByteArray := prog_1_method_1_code
def yX11_init : MethodName := ⟨RX11, "<init>", "()V"⟩
abbrev cX11_sets : ByteArray := prog_1_method_2_code
def yX11_sets : MethodName := ⟨RX11, "sets", "(IIII)I"⟩
abbrev cX11_at : ByteArray := prog_1_method_3_code
def yX11_at : MethodName := ⟨RX11, "at", "(III)I"⟩
abbrev cX11_sums : ByteArray := prog_1_method_4_code
def yX11_sums : MethodName := ⟨RX11, "sums", "(IIIII)I"⟩
abbrev cX11_times : ByteArray := prog_1_method_5_code
def yX11_times : MethodName := ⟨RX11, "times", "(III)I"⟩
abbrev cX11_bracket : ByteArray := prog_1_method_6_code
def yX11_bracket : MethodName := ⟨RX11, "bracket", "(III)I"⟩
abbrev cX11_power : ByteArray := prog_1_method_7_code
def yX11_power : MethodName := ⟨RX11, "power", "(III)I"⟩
abbrev cX11_reversed : ByteArray := prog_1_method_8_code
def yX11_reversed : MethodName := ⟨RX11, "reversed", "(II)I"⟩
abbrev cX11_of : ByteArray := prog_1_method_9_code
def yX11_of : MethodName := ⟨RX11, "of", "(II)I"⟩
abbrev cX11_order : ByteArray := prog_1_method_10_code
def yX11_order : MethodName := ⟨RX11, "order", "(I)I"⟩
abbrev cX11_puts : ByteArray := prog_1_method_11_code
def yX11_puts : MethodName := ⟨RX11, "puts", "(III)I"⟩
abbrev cX11_rate : ByteArray := prog_1_method_12_code
def yX11_rate : MethodName := ⟨RX11, "rate", "(II)I"⟩
abbrev cX11_makes : ByteArray := prog_1_method_13_code
def yX11_makes : MethodName := ⟨RX11, "makes", "(III)I"⟩
abbrev cX11_kernel : ByteArray := prog_1_method_14_code
def yX11_kernel : MethodName := ⟨RX11, "kernel", "(II)I"⟩
abbrev cX11_kills : ByteArray := prog_1_method_15_code
def yX11_kills : MethodName := ⟨RX11, "kills", "(II)I"⟩
abbrev cX11_rest : ByteArray := prog_1_method_16_code
def yX11_rest : MethodName := ⟨RX11, "rest", "(III)I"⟩
abbrev cX11_basis : ByteArray := prog_1_method_17_code
def yX11_basis : MethodName := ⟨RX11, "basis", "(I)I"⟩
abbrev cX11_based : ByteArray := prog_1_method_18_code
def yX11_based : MethodName := ⟨RX11, "based", "(IIII)I"⟩
abbrev cX11_stairs : ByteArray := prog_1_method_19_code
def yX11_stairs : MethodName := ⟨RX11, "stairs", "(II)I"⟩
abbrev cX11_within : ByteArray := prog_1_method_20_code
def yX11_within : MethodName := ⟨RX11, "within", "(II)I"⟩
abbrev cX11_type : ByteArray := prog_1_method_21_code
def yX11_type : MethodName := ⟨RX11, "type", "(I)I"⟩
abbrev cX11_clear : ByteArray := prog_1_method_22_code
def yX11_clear : MethodName := ⟨RX11, "clear", "()I"⟩
abbrev cX11_reads : ByteArray := prog_1_method_23_code
def yX11_reads : MethodName := ⟨RX11, "reads", "(I)I"⟩
abbrev cX11_shown : ByteArray := prog_1_method_24_code
def yX11_shown : MethodName := ⟨RX11, "shown", "(II)I"⟩
abbrev cX11_back : ByteArray := prog_1_method_25_code
def yX11_back : MethodName := ⟨RX11, "back", "()I"⟩
abbrev cX11_told : ByteArray := prog_1_method_26_code
def yX11_told : MethodName := ⟨RX11, "told", "(I)I"⟩
abbrev cX11_digest : ByteArray := prog_1_method_27_code
def yX11_digest : MethodName := ⟨RX11, "digest", "()J"⟩
abbrev cX11_mixed : ByteArray := prog_1_method_28_code
def yX11_mixed : MethodName := ⟨RX11, "mixed", "(J[I)J"⟩
abbrev cX11_replaceOperator : ByteArray := prog_1_method_29_code
def yX11_replaceOperator : MethodName := ⟨RX11, "replaceOperator", "(I)I"⟩
abbrev cX11_bad : ByteArray := prog_1_method_30_code
def yX11_bad : MethodName := ⟨RX11, "bad", "()I"⟩
abbrev cX11_no : ByteArray := prog_1_method_31_code
def yX11_no : MethodName := ⟨RX11, "no", "()I"⟩
abbrev cX11_full : ByteArray := prog_1_method_32_code
def yX11_full : MethodName := ⟨RX11, "full", "()I"⟩
abbrev cX11_hasBasis : ByteArray := prog_1_method_33_code
def yX11_hasBasis : MethodName := ⟨RX11, "hasBasis", "(I)Z"⟩
abbrev cX11_isOperator : ByteArray := prog_1_method_34_code
def yX11_isOperator : MethodName := ⟨RX11, "isOperator", "(I)Z"⟩
abbrev cX11_isPolynomial : ByteArray := prog_1_method_35_code
def yX11_isPolynomial : MethodName := ⟨RX11, "isPolynomial", "(I)Z"⟩
abbrev cX11_isPower : ByteArray := prog_1_method_36_code
def yX11_isPower : MethodName := ⟨RX11, "isPower", "(I)Z"⟩
abbrev cX11_isSet : ByteArray := prog_1_method_37_code
def yX11_isSet : MethodName := ⟨RX11, "isSet", "(I)Z"⟩
abbrev cX11_isInSet : ByteArray := prog_1_method_38_code
def yX11_isInSet : MethodName := ⟨RX11, "isInSet", "(II)Z"⟩
def RX12 : String := "WeylWordsModel"
def TX12 : u_T := fun k => match k with
  | 0 => ("WeylWordsModel", "now", "[I", true)
  | 1 => ("WeylWordsModel", "past", "[I", true)
  | 2 => ("WeylWordsModel", "states", "I", false)
  | 3 => ("WeylWordsModel", "refused", "[I", true)
  | 4 => ("WeylWordsModel", "text", "[I", true)
  | 5 => ("WeylWordsModel", "bytes", "I", false)
  | 6 => ("WeylWordsModel", "work", "[I", true)
  | 7 => ("WeylWordsModel", "xs", "[I", true)
  | 8 => ("WeylWordsModel", "ds", "[I", true)
  | 9 => ("WeylWordsModel", "choose", "[I", true)
  | 10 => ("WeylWordsModel", "made", "[I", true)
  | 11 => ("WeylWordsModel", "matrix", "[I", true)
  | 12 => ("WeylWordsModel", "by", "[I", true)
  | 13 => ("WeylWordsModel", "byMany", "I", false)
  | 14 => ("WeylWordsModel", "leads", "[I", true)
  | 15 => ("WeylWordsModel", "parts", "[I", true)
  | 16 => ("WeylWordsModel", "rows", "I", false)
  | 17 => ("WeylWordsModel", "laid", "I", false)
  | 18 => ("WeylWordsModel", "spot", "I", false)
  | 19 => ("WeylWordsModel", "wrongAt", "I", false)
  | 20 => ("WeylWordsModel", "depth", "I", false)
  | 21 => ("WeylWordsModel", "lacks", "Z", false)
  | 22 => ("WeylWordsModel", "mayMinus", "Z", false)
  | 23 => ("WeylWordsModel", "works", "Z", false)
  | 24 => ("WeylWordsModel", "isFull", "Z", false)
  | 25 => ("WeylWordsModel", "isMinus", "[Z", true)
  | 26 => ("WeylWordsModel", "hasProduct", "[Z", true)
  | 27 => ("WeylWordsModel", "figures", "I", false)
  | 28 => ("WeylWordsModel", "line", "[I", true)
  | 29 => ("WeylWordsModel", "written", "I", false)
  | _ => ("WeylWordsModel", "hash", "J", false)
def tyX12 : Nat → FieldType := fun k => match k with
  | 0 => .array .int
  | 1 => .array .int
  | 2 => .int
  | 3 => .array .int
  | 4 => .array .int
  | 5 => .int
  | 6 => .array .int
  | 7 => .array .int
  | 8 => .array .int
  | 9 => .array .int
  | 10 => .array .int
  | 11 => .array .int
  | 12 => .array .int
  | 13 => .int
  | 14 => .array .int
  | 15 => .array .int
  | 16 => .int
  | 17 => .int
  | 18 => .int
  | 19 => .int
  | 20 => .int
  | 21 => .boolean
  | 22 => .boolean
  | 23 => .boolean
  | 24 => .boolean
  | 25 => .array .boolean
  | 26 => .array .boolean
  | 27 => .int
  | 28 => .array .int
  | 29 => .int
  | _ => .long
theorem nmX12 : ∀ a, a < 31 → ∀ b, b < 31 → a ≠ b → (TX12 a).2.1 ≠ (TX12 b).2.1 := by decide +kernel
theorem tyX12_ok : ∀ k, k < 31 → parseFieldDescriptor (TX12 k).2.2.1 = some (tyX12 k) := by decide +kernel
abbrev cX12_init : ByteArray := prog_14_method_1_code
def yX12_init : MethodName := ⟨RX12, "<init>", "()V"⟩
abbrev cX12_in : ByteArray := prog_14_method_3_code
def yX12_in : MethodName := ⟨RX12, "in", "(III)Z"⟩
abbrev cX12_wordAt : ByteArray := prog_14_method_4_code
def yX12_wordAt : MethodName := ⟨RX12, "wordAt", "(II)I"⟩
abbrev cX12_restOf : ByteArray := prog_14_method_5_code
def yX12_restOf : MethodName := ⟨RX12, "restOf", "(I)I"⟩
abbrev cX12_tell : ByteArray := prog_14_method_6_code
def yX12_tell : MethodName := ⟨RX12, "tell", "(I)I"⟩
abbrev cX12_bad : ByteArray := prog_14_method_7_code
def yX12_bad : MethodName := ⟨RX12, "bad", "()I"⟩
abbrev cX12_no : ByteArray := prog_14_method_8_code
def yX12_no : MethodName := ⟨RX12, "no", "()I"⟩
abbrev cX12_full : ByteArray := prog_14_method_9_code
def yX12_full : MethodName := ⟨RX12, "full", "()I"⟩
abbrev cX12_remembers : ByteArray := prog_14_method_10_code
def yX12_remembers : MethodName := ⟨RX12, "remembers", "()V"⟩
abbrev cX12_back : ByteArray := prog_14_method_11_code
def yX12_back : MethodName := ⟨RX12, "back", "()I"⟩
abbrev cX12_isOperator : ByteArray := prog_14_method_12_code
def yX12_isOperator : MethodName := ⟨RX12, "isOperator", "(I)Z"⟩
abbrev cX12_isWord : ByteArray := prog_14_method_13_code
def yX12_isWord : MethodName := ⟨RX12, "isWord", "(II)Z"⟩
abbrev cX12_wipe : ByteArray := prog_14_method_14_code
def yX12_wipe : MethodName := ⟨RX12, "wipe", "(I)V"⟩
abbrev cX12_copies : ByteArray := prog_14_method_15_code
def yX12_copies : MethodName := ⟨RX12, "copies", "(II)V"⟩
abbrev cX12_fetches : ByteArray := prog_14_method_16_code
def yX12_fetches : MethodName := ⟨RX12, "fetches", "(II)V"⟩
abbrev cX12_termsIn : ByteArray := prog_14_method_17_code
def yX12_termsIn : MethodName := ⟨RX12, "termsIn", "(I)I"⟩
abbrev cX12_keeps : ByteArray := prog_14_method_18_code
def yX12_keeps : MethodName := ⟨RX12, "keeps", "(II)I"⟩
abbrev cX12_degreeIn : ByteArray := prog_14_method_19_code
def yX12_degreeIn : MethodName := ⟨RX12, "degreeIn", "(I)I"⟩
abbrev cX12_wordBehind : ByteArray := prog_14_method_20_code
def yX12_wordBehind : MethodName := ⟨RX12, "wordBehind", "(II)I"⟩
abbrev cX12_leadIn : ByteArray := prog_14_method_21_code
def yX12_leadIn : MethodName := ⟨RX12, "leadIn", "(I)I"⟩
abbrev cX12_adds : ByteArray := prog_14_method_22_code
def yX12_adds : MethodName := ⟨RX12, "adds", "(IIIIII)V"⟩
abbrev cX12_addsBehind : ByteArray := prog_14_method_23_code
def yX12_addsBehind : MethodName := ⟨RX12, "addsBehind", "(IIIII)V"⟩
abbrev cX12_multiplies : ByteArray := prog_14_method_24_code
def yX12_multiplies : MethodName := ⟨RX12, "multiplies", "(III)V"⟩
abbrev cX12_isTooMuch : ByteArray := prog_14_method_25_code
def yX12_isTooMuch : MethodName := ⟨RX12, "isTooMuch", "(II)Z"⟩
abbrev cX12_isPowerTooMuch : ByteArray := prog_14_method_26_code
def yX12_isPowerTooMuch : MethodName := ⟨RX12, "isPowerTooMuch", "(II)Z"⟩
abbrev cX12_raises : ByteArray := prog_14_method_27_code
def yX12_raises : MethodName := ⟨RX12, "raises", "(I)V"⟩
abbrev cX12_mixes : ByteArray := prog_14_method_28_code
def yX12_mixes : MethodName := ⟨RX12, "mixes", "(IIIII)V"⟩
abbrev cX12_sets : ByteArray := prog_14_method_29_code
def yX12_sets : MethodName := ⟨RX12, "sets", "(IIII)I"⟩
abbrev cX12_at : ByteArray := prog_14_method_30_code
def yX12_at : MethodName := ⟨RX12, "at", "(III)I"⟩
abbrev cX12_sums : ByteArray := prog_14_method_31_code
def yX12_sums : MethodName := ⟨RX12, "sums", "(IIIII)I"⟩
abbrev cX12_times : ByteArray := prog_14_method_32_code
def yX12_times : MethodName := ⟨RX12, "times", "(III)I"⟩
abbrev cX12_bracket : ByteArray := prog_14_method_33_code
def yX12_bracket : MethodName := ⟨RX12, "bracket", "(III)I"⟩
abbrev cX12_power : ByteArray := prog_14_method_34_code
def yX12_power : MethodName := ⟨RX12, "power", "(III)I"⟩
abbrev cX12_reversed : ByteArray := prog_14_method_35_code
def yX12_reversed : MethodName := ⟨RX12, "reversed", "(II)I"⟩
abbrev cX12_greatest : ByteArray := prog_14_method_36_code
def yX12_greatest : MethodName := ⟨RX12, "greatest", "(III)I"⟩
abbrev cX12_ofLead : ByteArray := prog_14_method_37_code
def yX12_ofLead : MethodName := ⟨RX12, "ofLead", "(I)I"⟩
abbrev cX12_aboutOf : ByteArray := prog_14_method_38_code
def yX12_aboutOf : MethodName := ⟨RX12, "aboutOf", "(II)I"⟩
abbrev cX12_of : ByteArray := prog_14_method_39_code
def yX12_of : MethodName := ⟨RX12, "of", "(II)I"⟩
abbrev cX12_order : ByteArray := prog_14_method_40_code
def yX12_order : MethodName := ⟨RX12, "order", "(I)I"⟩
abbrev cX12_isPolynomial : ByteArray := prog_14_method_41_code
def yX12_isPolynomial : MethodName := ⟨RX12, "isPolynomial", "(I)Z"⟩
abbrev cX12_rateAt : ByteArray := prog_14_method_42_code
def yX12_rateAt : MethodName := ⟨RX12, "rateAt", "(II)I"⟩
abbrev cX12_puts : ByteArray := prog_14_method_43_code
def yX12_puts : MethodName := ⟨RX12, "puts", "(III)I"⟩
abbrev cX12_rate : ByteArray := prog_14_method_44_code
def yX12_rate : MethodName := ⟨RX12, "rate", "(II)I"⟩
abbrev cX12_falls : ByteArray := prog_14_method_45_code
def yX12_falls : MethodName := ⟨RX12, "falls", "(II)I"⟩
abbrev cX12_greatestPower : ByteArray := prog_14_method_46_code
def yX12_greatestPower : MethodName := ⟨RX12, "greatestPower", "(I)I"⟩
abbrev cX12_canMake : ByteArray := prog_14_method_47_code
def yX12_canMake : MethodName := ⟨RX12, "canMake", "(II)Z"⟩
abbrev cX12_makes : ByteArray := prog_14_method_48_code
def yX12_makes : MethodName := ⟨RX12, "makes", "(III)I"⟩
abbrev cX12_inverseOf : ByteArray := prog_14_method_49_code
def yX12_inverseOf : MethodName := ⟨RX12, "inverseOf", "(I)I"⟩
abbrev cX12_laysMatrix : ByteArray := prog_14_method_50_code
def yX12_laysMatrix : MethodName := ⟨RX12, "laysMatrix", "(II)V"⟩
abbrev cX12_addsRow : ByteArray := prog_14_method_51_code
def yX12_addsRow : MethodName := ⟨RX12, "addsRow", "(III)V"⟩
abbrev cX12_isFree : ByteArray := prog_14_method_52_code
def yX12_isFree : MethodName := ⟨RX12, "isFree", "(II)Z"⟩
abbrev cX12_kernel : ByteArray := prog_14_method_53_code
def yX12_kernel : MethodName := ⟨RX12, "kernel", "(II)I"⟩
abbrev cX12_kills : ByteArray := prog_14_method_54_code
def yX12_kills : MethodName := ⟨RX12, "kills", "(II)I"⟩
abbrev cX12_findsLeads : ByteArray := prog_14_method_55_code
def yX12_findsLeads : MethodName := ⟨RX12, "findsLeads", "()V"⟩
abbrev cX12_isBelow : ByteArray := prog_14_method_56_code
def yX12_isBelow : MethodName := ⟨RX12, "isBelow", "(II)Z"⟩
abbrev cX12_firstBelow : ByteArray := prog_14_method_57_code
def yX12_firstBelow : MethodName := ⟨RX12, "firstBelow", "(I)I"⟩
abbrev cX12_rests : ByteArray := prog_14_method_58_code
def yX12_rests : MethodName := ⟨RX12, "rests", "(I)V"⟩
abbrev cX12_isSet : ByteArray := prog_14_method_59_code
def yX12_isSet : MethodName := ⟨RX12, "isSet", "(I)Z"⟩
abbrev cX12_rest : ByteArray := prog_14_method_60_code
def yX12_rest : MethodName := ⟨RX12, "rest", "(III)I"⟩
abbrev cX12_evens : ByteArray := prog_14_method_61_code
def yX12_evens : MethodName := ⟨RX12, "evens", "(I)V"⟩
abbrev cX12_areAlike : ByteArray := prog_14_method_62_code
def yX12_areAlike : MethodName := ⟨RX12, "areAlike", "(II)Z"⟩
abbrev cX12_rowGoes : ByteArray := prog_14_method_63_code
def yX12_rowGoes : MethodName := ⟨RX12, "rowGoes", "(I)V"⟩
abbrev cX12_takesBy : ByteArray := prog_14_method_64_code
def yX12_takesBy : MethodName := ⟨RX12, "takesBy", "(I)V"⟩
abbrev cX12_tidies : ByteArray := prog_14_method_65_code
def yX12_tidies : MethodName := ⟨RX12, "tidies", "()V"⟩
abbrev cX12_isAhead : ByteArray := prog_14_method_66_code
def yX12_isAhead : MethodName := ⟨RX12, "isAhead", "(II)Z"⟩
abbrev cX12_exchanges : ByteArray := prog_14_method_67_code
def yX12_exchanges : MethodName := ⟨RX12, "exchanges", "(II)V"⟩
abbrev cX12_sorts : ByteArray := prog_14_method_68_code
def yX12_sorts : MethodName := ⟨RX12, "sorts", "(Z)V"⟩
abbrev cX12_crosses : ByteArray := prog_14_method_69_code
def yX12_crosses : MethodName := ⟨RX12, "crosses", "(II)V"⟩
abbrev cX12_isOneMore : ByteArray := prog_14_method_70_code
def yX12_isOneMore : MethodName := ⟨RX12, "isOneMore", "()Z"⟩
abbrev cX12_laysBasis : ByteArray := prog_14_method_71_code
def yX12_laysBasis : MethodName := ⟨RX12, "laysBasis", "(I)V"⟩
abbrev cX12_isSmall : ByteArray := prog_14_method_72_code
def yX12_isSmall : MethodName := ⟨RX12, "isSmall", "(I)Z"⟩
abbrev cX12_basis : ByteArray := prog_14_method_73_code
def yX12_basis : MethodName := ⟨RX12, "basis", "(I)I"⟩
abbrev cX12_based : ByteArray := prog_14_method_74_code
def yX12_based : MethodName := ⟨RX12, "based", "(IIII)I"⟩
abbrev cX12_stairs : ByteArray := prog_14_method_75_code
def yX12_stairs : MethodName := ⟨RX12, "stairs", "(II)I"⟩
abbrev cX12_within : ByteArray := prog_14_method_76_code
def yX12_within : MethodName := ⟨RX12, "within", "(II)I"⟩
abbrev cX12_type : ByteArray := prog_14_method_77_code
def yX12_type : MethodName := ⟨RX12, "type", "(I)I"⟩
abbrev cX12_clear : ByteArray := prog_14_method_78_code
def yX12_clear : MethodName := ⟨RX12, "clear", "()I"⟩
abbrev cX12_isAt : ByteArray := prog_14_method_79_code
def yX12_isAt : MethodName := ⟨RX12, "isAt", "(II)Z"⟩
abbrev cX12_blanks : ByteArray := prog_14_method_80_code
def yX12_blanks : MethodName := ⟨RX12, "blanks", "()V"⟩
abbrev cX12_fails : ByteArray := prog_14_method_81_code
def yX12_fails : MethodName := ⟨RX12, "fails", "(I)Z"⟩
abbrev cX12_opens : ByteArray := prog_14_method_82_code
def yX12_opens : MethodName := ⟨RX12, "opens", "()V"⟩
abbrev cX12_closes : ByteArray := prog_14_method_83_code
def yX12_closes : MethodName := ⟨RX12, "closes", "()V"⟩
abbrev cX12_takes : ByteArray := prog_14_method_84_code
def yX12_takes : MethodName := ⟨RX12, "takes", "(I)V"⟩
abbrev cX12_takesFigures : ByteArray := prog_14_method_85_code
def yX12_takesFigures : MethodName := ⟨RX12, "takesFigures", "(I)Z"⟩
abbrev cX12_takesPower : ByteArray := prog_14_method_86_code
def yX12_takesPower : MethodName := ⟨RX12, "takesPower", "()Z"⟩
abbrev cX12_values : ByteArray := prog_14_method_87_code
def yX12_values : MethodName := ⟨RX12, "values", "(III)V"⟩
abbrev cX12_takesFactor : ByteArray := prog_14_method_88_code
def yX12_takesFactor : MethodName := ⟨RX12, "takesFactor", "()Z"⟩
abbrev cX12_takesSign : ByteArray := prog_14_method_89_code
def yX12_takesSign : MethodName := ⟨RX12, "takesSign", "()Z"⟩
abbrev cX12_isRead : ByteArray := prog_14_method_90_code
def yX12_isRead : MethodName := ⟨RX12, "isRead", "(Z)Z"⟩
abbrev cX12_reads : ByteArray := prog_14_method_91_code
def yX12_reads : MethodName := ⟨RX12, "reads", "(I)I"⟩
abbrev cX12_writes : ByteArray := prog_14_method_92_code
def yX12_writes : MethodName := ⟨RX12, "writes", "(I)V"⟩
abbrev cX12_writesNumber : ByteArray := prog_14_method_93_code
def yX12_writesNumber : MethodName := ⟨RX12, "writesNumber", "(I)V"⟩
abbrev cX12_writesLetter : ByteArray := prog_14_method_94_code
def yX12_writesLetter : MethodName := ⟨RX12, "writesLetter", "(II)V"⟩
abbrev cX12_writesTerm : ByteArray := prog_14_method_95_code
def yX12_writesTerm : MethodName := ⟨RX12, "writesTerm", "(II)V"⟩
abbrev cX12_laysLine : ByteArray := prog_14_method_96_code
def yX12_laysLine : MethodName := ⟨RX12, "laysLine", "(I)V"⟩
abbrev cX12_shown : ByteArray := prog_14_method_97_code
def yX12_shown : MethodName := ⟨RX12, "shown", "(II)I"⟩
abbrev cX12_toldOf : ByteArray := prog_14_method_98_code
def yX12_toldOf : MethodName := ⟨RX12, "toldOf", "(I)I"⟩
abbrev cX12_told : ByteArray := prog_14_method_99_code
def yX12_told : MethodName := ⟨RX12, "told", "(I)I"⟩
abbrev cX12_mix : ByteArray := prog_14_method_100_code
def yX12_mix : MethodName := ⟨RX12, "mix", "(J)V"⟩
abbrev cX12_digest : ByteArray := prog_14_method_101_code
def yX12_digest : MethodName := ⟨RX12, "digest", "()J"⟩
def RJ9 : String := "java/lang/Math"
abbrev cJ9_floorMod_7cf53 : ByteArray := prog_15_method_50_code
def yJ9_floorMod_7cf53 : MethodName := ⟨RJ9, "floorMod", "(II)I"⟩
abbrev cJ9_abs_0f7a4 : ByteArray := prog_15_method_59_code
def yJ9_abs_0f7a4 : MethodName := ⟨RJ9, "abs", "(I)I"⟩
abbrev cJ9_max_7cf53 : ByteArray := prog_15_method_65_code
def yJ9_max_7cf53 : MethodName := ⟨RJ9, "max", "(II)I"⟩
abbrev cJ9_min_7cf53 : ByteArray := prog_15_method_69_code
def yJ9_min_7cf53 : MethodName := ⟨RJ9, "min", "(II)I"⟩
def RJ10 : String := "java/lang/System"
def RJ7 : String := "java/util/Arrays"
abbrev cJ7_fill_53178 : ByteArray := prog_17_method_103_code
def yJ7_fill_53178 : MethodName := ⟨RJ7, "fill", "([II)V"⟩
def RL : String := "WeylWordsLaw"
abbrev cL_law : ByteArray := code
def yL_law : MethodName := ⟨RL, "law", "([I)Z"⟩
abbrev vwCl : List vw_C := [(RX0, TX0, 3), (RX1, TX1, 3), (RX2, TX2, 6), (RX3, TX3, 11), (RX4, TX4, 8), (RX5, TX5, 3), (RX6, TX6, 1), (RX7, TX7, 7), (RX8, TX8, 3), (RX9, TX9, 4), (RX10, TX10, 2), (RX11, TX11, 13), (RX12, TX12, 31)]
end
section
/-! AN ABSTRACT MACHINE: numbers without wrap, references as places in a list of cells, control as a tree.
    What it computes, the machine does (part 04); all later reasoning is about it alone. -/
abbrev am_V : Type := Int ⊕ Option Nat ⊕ Int64 ⊕ Unit
abbrev vI (x : Int) : am_V := Sum.inl x
abbrev vR (a : Nat) : am_V := Sum.inr (Sum.inl (some a))
abbrev vN : am_V := Sum.inr (Sum.inl none)
abbrev vL (x : Int64) : am_V := Sum.inr (Sum.inr (Sum.inl x))
abbrev vU : am_V := Sum.inr (Sum.inr (Sum.inr ()))
/-- a cell: its kind (0 to 12: an object, 20 to 25: a row, 30: a row that is read only, 99: none), its length, what it holds -/
abbrev am_C : Type := Nat × Nat × (Nat → am_V)
abbrev am_H : Type := Nat × (Nat → am_C)
/-- names, stack, cells -/
abbrev am_S : Type := List am_V × List am_V × am_H
abbrev am_I : Type := Instr × Nat × Nat × Nat
abbrev am_G : Type := Nat → List am_V → am_H → Option (List am_V × am_H)
def au {α : Type} (f : Nat → α) (k : Nat) (v : α) : Nat → α := fun j => if j = k then v else f j
theorem au_s {α : Type} (f : Nat → α) (k : Nat) (v : α) : au f k v k = v := if_pos rfl
theorem au_n {α : Type} (f : Nat → α) {k j : Nat} (v : α) (h : j ≠ k) : au f k v j = f j := if_neg h
def lget : List am_V → Nat → am_V
  | [], _ => vU
  | a :: _, 0 => a
  | _ :: l, n + 1 => lget l n
abbrev inR (x : Int) : Prop := -2147483648 ≤ x ∧ x ≤ 2147483647
def am_cat (v : am_V) : Nat := match v with
  | .inr (.inr (.inl _)) => 2
  | _ => 1
def am_cats : List am_V → Nat
  | [] => 0
  | v :: r => am_cat v + am_cats r
def defV : FieldType → am_V
  | .int => vI 0
  | .boolean => vI 0
  | .long => vL 0
  | .object _ => vN
  | .array _ => vN
  | _ => vU
def am_ty (c : Nat) : Nat → FieldType := match c with
  | 0 => tyX0 | 1 => tyX1 | 2 => tyX2 | 3 => tyX3 | 4 => tyX4 | 5 => tyX5 | 6 => tyX6 | 7 => tyX7 | 8 => tyX8 | 9 => tyX9 | 10 => tyX10 | 11 => tyX11 | _ => tyX12
def am_n (c : Nat) : Nat := match c with
  | 0 => 3 | 1 => 3 | 2 => 6 | 3 => 11 | 4 => 8 | 5 => 3 | 6 => 1 | 7 => 7 | 8 => 3 | 9 => 4 | 10 => 2 | 11 => 13 | _ => 31
/-- which kind of value a field takes: 0 int, 1 boolean, 2 long, 3 a reference -/
def am_fk : FieldType → Nat
  | .int => 0
  | .boolean => 1
  | .long => 2
  | .object _ => 3
  | .array _ => 3
  | _ => 9
def am_fit (k : Nat) (v : am_V) : Bool := match k, v with
  | 0, .inl _ => true
  | 1, .inl x => decide (x = 0 ∨ x = 1)
  | 2, .inr (.inr (.inl _)) => true
  | 3, .inr (.inl (some _)) => true
  | _, _ => false
/-- the kind of what a row of references holds -/
def am_el (t : Nat) : Nat := match t with
  | 22 => 20 | 23 => 6 | 24 => 8 | 25 => 2 | _ => 99
def am_st (ls : List am_V) (i : Nat) (v : am_V) : Option (List am_V) := match i with
  | 0 => some (ls.set 0 v)
  | j + 1 => if am_cat (lget ls j) = 1 then some (ls.set (j + 1) v) else none
def am_put (h : am_H) (a : Nat) (c : am_C) : am_H := (h.1, au h.2 a c)
def am_new (h : am_H) (c : am_C) : am_H := (h.1 + 1, au h.2 h.1 c)
/-- a row of n rows of k ints, all new: the row first -/
def am_rows (n k : Nat) (h : am_H) : am_H := (h.1 + 1 + n, fun j => if j = h.1 then (22, n, fun i => vR (h.1 + 1 + i)) else if h.1 + 1 ≤ j ∧ j < h.1 + 1 + n then (20, k, fun _ => vI 0) else h.2 j)
/-- whether what is called is an object of that kind -/
def am_rc (c : Nat) (h : am_H) (as : List am_V) : Bool := match as with
  | .inr (.inl (some a)) :: _ => decide ((h.2 a).1 = c)
  | _ => false
def am_inv (G : am_G) (r : Bool) (k n c : Nat) (x : am_S) : Option am_S :=
  if n ≤ x.2.1.length ∧ am_cats (x.2.1.drop n) ≤ 8 ∧ (r = true → am_rc c x.2.2 (x.2.1.take n).reverse = true) then
    (G k (x.2.1.take n).reverse x.2.2).map fun q => (x.1, q.1 ++ x.2.1.drop n, q.2)
  else none
def am_cpy (f g : Nat → am_V) (sp dp n : Nat) : Nat → am_V := fun j => if dp ≤ j ∧ j < dp + n then f (sp + (j - dp)) else g j
/-- System.arraycopy over rows of ints -/
def am_copy (x : am_S) : Option am_S := match x with
  | (ls, .inl n :: .inl dp :: .inr (.inl (some d)) :: .inl sp :: .inr (.inl (some s)) :: st, h) =>
    if (h.2 s).1 = 20 ∧ (h.2 d).1 = 20 ∧ 0 ≤ sp ∧ 0 ≤ dp ∧ 0 ≤ n ∧ sp + n ≤ (h.2 s).2.1 ∧ dp + n ≤ (h.2 d).2.1 ∧ (h.2 s).2.1 ≤ 100000 ∧ (h.2 d).2.1 ≤ 100000 ∧ am_cats st ≤ 8 then
      some (ls, st, am_put h d (20, (h.2 d).2.1, am_cpy (h.2 s).2.2 (h.2 d).2.2 sp.toNat dp.toNat n.toNat))
    else none
  | _ => none
def am_ldi (i : Nat) (x : am_S) : Option am_S := match lget x.1 i with
  | .inl v => some (x.1, vI v :: x.2.1, x.2.2)
  | _ => none
def am_lda (i : Nat) (x : am_S) : Option am_S := match lget x.1 i with
  | .inr (.inl (some v)) => some (x.1, vR v :: x.2.1, x.2.2)
  | _ => none
def am_ldl (i : Nat) (x : am_S) : Option am_S := match lget x.1 i with
  | .inr (.inr (.inl v)) => some (x.1, vL v :: x.2.1, x.2.2)
  | _ => none
def am_sti (i : Nat) (x : am_S) : Option am_S := match x with
  | (ls, .inl v :: st, h) => (am_st ls i (vI v)).map fun q => (q, st, h)
  | _ => none
def am_sta (i : Nat) (x : am_S) : Option am_S := match x with
  | (ls, .inr (.inl (some v)) :: st, h) => (am_st ls i (vR v)).map fun q => (q, st, h)
  | _ => none
def am_stl (i : Nat) (x : am_S) : Option am_S := match x with
  | (ls, .inr (.inr (.inl v)) :: st, h) => (am_st ls i (vL v)).map fun q => (q.set (i + 1) vU, st, h)
  | _ => none
def am_b2 (f : Int → Int → Int) (x : am_S) : Option am_S := match x with
  | (ls, .inl b :: .inl a :: st, h) => some (ls, vI (f a b) :: st, h)
  | _ => none
/-- division, rest, shift, mask: where the numbers must be in their range -/
def am_b3 (ok : Int → Int → Bool) (f : Int → Int → Int) (x : am_S) : Option am_S := match x with
  | (ls, .inl b :: .inl a :: st, h) => if inR a ∧ inR b ∧ ok a b = true then some (ls, vI (f a b) :: st, h) else none
  | _ => none
def am_aload (t : Nat → Bool) (x : am_S) : Option am_S := match x with
  | (ls, .inl i :: .inr (.inl (some a)) :: st, h) => if t (h.2 a).1 = true ∧ 0 ≤ i ∧ i < (h.2 a).2.1 ∧ (h.2 a).2.1 ≤ 100000 then some (ls, (h.2 a).2.2 i.toNat :: st, h) else none
  | _ => none
def am_I1 (G : am_G) (ai : am_I) (x : am_S) : Option am_S := match ai.1 with
  | .iconst n => some (x.1, vI n :: x.2.1, x.2.2)
  | .bipush n => some (x.1, vI n :: x.2.1, x.2.2)
  | .sipush n => some (x.1, vI n :: x.2.1, x.2.2)
  | .ldc _ => some (x.1, vI ai.2.1 :: x.2.1, x.2.2)
  | .ldc2_w _ => some (x.1, vL (Int64.ofNat ai.2.1) :: x.2.1, x.2.2)
  | .iload i => am_ldi i x
  | .iload_n i => am_ldi i.val x
  | .aload i => am_lda i x
  | .aload_n i => am_lda i.val x
  | .lload_n i => am_ldl i.val x
  | .istore i => am_sti i x
  | .istore_n i => am_sti i.val x
  | .astore i => am_sta i x
  | .astore_n i => am_sta i.val x
  | .lstore_n i => am_stl i.val x
  | .iinc i n => match lget x.1 i with
    | .inl v => (am_st x.1 i (vI (v + n))).map fun q => (q, x.2.1, x.2.2)
    | _ => none
  | .dup => match x with
    | (ls, v :: st, h) => if am_cat v = 1 then some (ls, v :: v :: st, h) else none
    | _ => none
  | .pop => match x with
    | (ls, v :: st, h) => if am_cat v = 1 then some (ls, st, h) else none
    | _ => none
  | .iadd => am_b2 (· + ·) x
  | .isub => am_b2 (· - ·) x
  | .imul => am_b2 (· * ·) x
  | .ineg => match x with
    | (ls, .inl a :: st, h) => some (ls, vI (- a) :: st, h)
    | _ => none
  | .idiv => am_b3 (fun _ b => decide (0 < b)) Int.tdiv x
  | .irem => am_b3 (fun _ b => decide (0 < b)) Int.tmod x
  | .ishr => am_b3 (fun _ b => decide (0 ≤ b ∧ b < 32)) (fun a b => a / 2 ^ b.toNat) x
  | .iand => am_b3 (fun _ b => decide (b = 1 ∨ b = 31)) (fun a b => a % (b + 1)) x
  | .ixor => am_b2 (fun a b => (Int32.ofInt a ^^^ Int32.ofInt b).toInt) x
  | .i2l => match x with
    | (ls, .inl a :: st, h) => if inR a then some (ls, vL (Int64.ofInt a) :: st, h) else none
    | _ => none
  | .ladd => match x with
    | (ls, .inr (.inr (.inl b)) :: .inr (.inr (.inl a)) :: st, h) => some (ls, vL (a + b) :: st, h)
    | _ => none
  | .lmul => match x with
    | (ls, .inr (.inr (.inl b)) :: .inr (.inr (.inl a)) :: st, h) => some (ls, vL (a * b) :: st, h)
    | _ => none
  | .lcmp => match x with
    | (ls, .inr (.inr (.inl b)) :: .inr (.inr (.inl a)) :: st, h) => some (ls, vI (lg_cmp a b).toInt :: st, h)
    | _ => none
  | .getfield _ => match x with
    | (ls, .inr (.inl (some a)) :: st, h) => if (h.2 a).1 = ai.2.1 then some (ls, (h.2 a).2.2 ai.2.2.1 :: st, h) else none
    | _ => none
  | .putfield _ => match x with
    | (ls, v :: .inr (.inl (some a)) :: st, h) => if (h.2 a).1 = ai.2.1 ∧ am_fit ai.2.2.2 v = true then some (ls, st, am_put h a (ai.2.1, (h.2 a).2.1, au (h.2 a).2.2 ai.2.2.1 v)) else none
    | _ => none
  | .getstatic _ => some (x.1, vR ai.2.1 :: x.2.1, x.2.2)
  | .iaload => am_aload (fun t => t == 20 || t == 30) x
  | .baload => am_aload (fun t => t == 21) x
  | .aaload => am_aload (fun t => decide (22 ≤ t ∧ t ≤ 25)) x
  | .iastore => match x with
    | (ls, .inl v :: .inl i :: .inr (.inl (some a)) :: st, h) => if (h.2 a).1 = 20 ∧ 0 ≤ i ∧ i < (h.2 a).2.1 ∧ (h.2 a).2.1 ≤ 100000 then some (ls, st, am_put h a (20, (h.2 a).2.1, au (h.2 a).2.2 i.toNat (vI v))) else none
    | _ => none
  | .bastore => match x with
    | (ls, .inl v :: .inl i :: .inr (.inl (some a)) :: st, h) => if (h.2 a).1 = 21 ∧ 0 ≤ i ∧ i < (h.2 a).2.1 ∧ (h.2 a).2.1 ≤ 100000 ∧ (v = 0 ∨ v = 1) then some (ls, st, am_put h a (21, (h.2 a).2.1, au (h.2 a).2.2 i.toNat (vI v))) else none
    | _ => none
  | .aastore => match x with
    | (ls, .inr (.inl (some v)) :: .inl i :: .inr (.inl (some a)) :: st, h) => if 22 ≤ (h.2 a).1 ∧ (h.2 a).1 ≤ 25 ∧ (h.2 v).1 = am_el (h.2 a).1 ∧ 0 ≤ i ∧ i < (h.2 a).2.1 ∧ (h.2 a).2.1 ≤ 100000 then some (ls, st, am_put h a ((h.2 a).1, (h.2 a).2.1, au (h.2 a).2.2 i.toNat (vR v))) else none
    | _ => none
  | .arraylength => match x with
    | (ls, .inr (.inl (some a)) :: st, h) => if (h.2 a).1 = 20 ∨ (h.2 a).1 = 30 then some (ls, vI (h.2 a).2.1 :: st, h) else none
    | _ => none
  | .newarray _ => match x with
    | (ls, .inl n :: st, h) => if 0 ≤ n ∧ n ≤ 100000 then some (ls, vR h.1 :: st, am_new h (ai.2.1, n.toNat, fun _ => vI 0)) else none
    | _ => none
  | .anewarray _ => match x with
    | (ls, .inl n :: st, h) => if 0 ≤ n ∧ n ≤ 100000 then some (ls, vR h.1 :: st, am_new h (ai.2.1, n.toNat, fun _ => vN)) else none
    | _ => none
  | .multianewarray _ _ => match x with
    | (ls, .inl k :: .inl n :: st, h) => if 0 < n ∧ n ≤ 1000 ∧ 0 ≤ k ∧ k ≤ 1000 then some (ls, vR h.1 :: st, am_rows n.toNat k.toNat h) else none
    | _ => none
  | .new _ => some (x.1, vR x.2.2.1 :: x.2.1, am_new x.2.2 (ai.2.1, am_n ai.2.1, fun k => defV (am_ty ai.2.1 k)))
  | .invokevirtual _ => am_inv G true ai.2.1 ai.2.2.1 ai.2.2.2 x
  | .invokespecial _ => if ai.2.1 = 998 then (match x with
    | (ls, .inr (.inl (some _)) :: st, h) => if am_cats st ≤ 8 then some (ls, st, h) else none
    | _ => none) else am_inv G true ai.2.1 ai.2.2.1 ai.2.2.2 x
  | .invokestatic _ => if ai.2.1 = 999 then am_copy x else am_inv G false ai.2.1 ai.2.2.1 ai.2.2.2 x
  | _ => none
def am_L (G : am_G) : List am_I → am_S → Option am_S
  | [], x => some x
  | i :: r, x => (am_I1 G i x).bind (am_L G r)
def am_cmp (c : Jvm.ClassFile.Cond) (a b : Int) : Bool := match c with
  | .eq => decide (a = b)
  | .ne => decide (a ≠ b)
  | .lt => decide (a < b)
  | .ge => decide (b ≤ a)
  | .gt => decide (b < a)
  | .le => decide (a ≤ b)
/-- what ends a stretch: 0 goes on behind it, 1 returns, t + 2 goes to t -/
def am_t (i : Instr) (ts : List Nat) (x : am_S) : Option (Nat × am_S) := match i with
  | .goto _ => some (ts.headD 0 + 2, x)
  | .ifCond c _ => match x with
    | (ls, .inl a :: st, h) => if inR a then some (if am_cmp c a 0 = true then ts.headD 0 + 2 else 0, ls, st, h) else none
    | _ => none
  | .if_icmp c _ => match x with
    | (ls, .inl b :: .inl a :: st, h) => if inR a ∧ inR b then some (if am_cmp c a b = true then ts.headD 0 + 2 else 0, ls, st, h) else none
    | _ => none
  | .tableswitch _ lo hi _ => match x with
    | (ls, .inl a :: st, h) => if inR a then some ((if lo ≤ a ∧ a ≤ hi then ts.getD ((a - lo).toNat + 1) 0 else ts.headD 0) + 2, ls, st, h) else none
    | _ => none
  | .ireturn => match x with
    | (ls, [.inl a], h) => if ts.headD 0 = 0 ∨ a = 0 ∨ a = 1 then some (1, ls, [vI a], h) else none
    | _ => none
  | .lreturn => match x with
    | (ls, [.inr (.inr (.inl a))], h) => some (1, ls, [vL a], h)
    | _ => none
  | .areturn => match x with
    | (ls, [.inr (.inl (some a))], h) => some (1, ls, [vR a], h)
    | _ => none
  | .return_ => match x with
    | (ls, [], h) => some (1, ls, [], h)
    | _ => none
  | _ => none
def am_lp (f : am_S → Option (Nat × am_S)) (L : Nat) : Nat → am_S → Option (Nat × am_S)
  | 0, _ => none
  | n + 1, x => (f x).bind fun r => if r.1 = L + 2 then am_lp f L n r.2 else some r
abbrev am_T : Type := Lean.RArray (List am_I × Option (Instr × List Nat))
/-- how often a loop may go round -/
abbrev am_F : Nat := 100000000
def am_ev (G : am_G) : am_T → am_S → Option (Nat × am_S)
  | .leaf q, x => (am_L G q.1 x).bind fun y => match q.2 with
    | none => some (0, y)
    | some r => am_t r.1 r.2 y
  | .branch 0 a b, x => (am_ev G a x).bind fun r => if r.1 = 0 then am_ev G b r.2 else some r
  | .branch (n + 1) a _, x => if n % 2 = 0 then (am_ev G a x).map fun r => if r.1 = n / 2 + 2 then (0, r.2) else r
    else am_lp (am_ev G a) (n / 2) am_F x
/-- a stretch; a stretch with its end; one behind another; one whose ways out to L end behind it; one whose ways to L go round -/
abbrev tS (is : List am_I) : am_T := .leaf (is, none)
abbrev tB (is : List am_I) (i : Instr) (ts : List Nat) : am_T := .leaf (is, some (i, ts))
abbrev tQ (a b : am_T) : am_T := .branch 0 a b
abbrev tK (L : Nat) (a : am_T) : am_T := .branch (2 * L + 1) a (.leaf ([], none))
abbrev tW (L : Nat) (a : am_T) : am_T := .branch (2 * L + 2) a (.leaf ([], none))
theorem ev_S (G : am_G) (is : List am_I) (x : am_S) : am_ev G (tS is) x = (am_L G is x).bind fun y => some (0, y) := rfl
theorem ev_B (G : am_G) (is : List am_I) (i : Instr) (ts : List Nat) (x : am_S) : am_ev G (tB is i ts) x = (am_L G is x).bind (am_t i ts) := rfl
theorem ev_Q (G : am_G) (a b : am_T) (x : am_S) : am_ev G (tQ a b) x = (am_ev G a x).bind fun r => if r.1 = 0 then am_ev G b r.2 else some r := rfl
theorem ev_K (G : am_G) (L : Nat) (a : am_T) (x : am_S) : am_ev G (tK L a) x = (am_ev G a x).map fun r => if r.1 = L + 2 then (0, r.2) else r := by
  show (if 2 * L % 2 = 0 then (am_ev G a x).map (fun r => if r.1 = 2 * L / 2 + 2 then (0, r.2) else r) else _) = _
  rw [if_pos (by omega), show 2 * L / 2 = L by omega]
theorem ev_W (G : am_G) (L : Nat) (a : am_T) (x : am_S) : am_ev G (tW L a) x = am_lp (am_ev G a) L am_F x := by
  show (if (2 * L + 1) % 2 = 0 then (am_ev G a x).map (fun r => if r.1 = (2 * L + 1) / 2 + 2 then (0, r.2) else r) else am_lp (am_ev G a) ((2 * L + 1) / 2) am_F x) = _
  rw [if_neg (by omega), show (2 * L + 1) / 2 = L by omega]
/-- a method: the name of what it belongs to, its own name, its bytes, how many names it has, what it returns, its tree -/
abbrev am_M : Type := String × MethodName × ByteArray × Nat × Option FieldType × am_T
def am_lay : List am_V → List am_V
  | [] => []
  | .inr (.inr (.inl v)) :: r => vL v :: vU :: am_lay r
  | v :: r => v :: am_lay r
def am_in (as : List am_V) (n : Nat) : List am_V := am_lay as ++ List.replicate (n - (am_lay as).length) vU
def am_run (tb : Nat → Option am_M) : Nat → am_G
  | 0 => fun _ _ _ => none
  | d + 1 => fun k as h => (tb k).bind fun q => if (am_lay as).length ≤ q.2.2.2.1 then
      (am_ev (am_run tb d) q.2.2.2.2.2 (am_in as q.2.2.2.1, [], h)).bind fun r => if r.1 = 1 then some (r.2.2.1, r.2.2.2) else none
    else none
end
section
/-! How the abstract machine's states stand for the machine's. -/
abbrev am_Z : Type := Nat × Nat × Nat × Nat
/-- the address of a place: three rows that are read only, then what is made, one behind another -/
def am_rho (z : am_Z) (k : Nat) : Nat := if k = 0 then z.1 else if k = 1 then z.2.1 else if k = 2 then z.2.2.1 else z.2.2.2 + (k - 3)
def am_rv (z : am_Z) (v : am_V) : Value := match v with
  | .inl x => .int (Int32.ofInt x)
  | .inr (.inl none) => .null
  | .inr (.inl (some k)) => .ref (am_rho z k)
  | .inr (.inr (.inl x)) => .long x
  | .inr (.inr (.inr _)) => .null
theorem am_rv_cat (z : am_Z) (v : am_V) : (am_rv z v).category = am_cat v := by
  rcases v with x | (_ | k) | x | x <;> rfl
theorem am_cats_eq (z : am_Z) (st : List am_V) : ((st.map (am_rv z)).map fun v => v.category).sum = am_cats st := by
  induction st with
  | nil => rfl
  | cons v r ih =>
    simp only [List.map_cons, List.sum_cons, am_cats, am_rv_cat]
    rw [ih]
theorem i32_of {x : Int} (h : inR x) : (Int32.ofInt x).toInt = x := Int32.toInt_ofInt_of_le (by have := h.1; omega) (by have := h.2; omega)
theorem i32_nat {x : Int} (h0 : 0 ≤ x) (h1 : x ≤ 2147483647) : (Int32.ofInt x).toNatClampNeg = x.toNat := by
  show (Int32.ofInt x).toInt.toNat = x.toNat
  rw [i32_of ⟨by omega, h1⟩]
theorem i32_eq {x y : Int} (hx : inR x) (hy : inR y) : Int32.ofInt x = Int32.ofInt y ↔ x = y := by
  rw [← Int32.toInt_inj, i32_of hx, i32_of hy]
theorem i32_le {x y : Int} (hx : inR x) (hy : inR y) : Int32.ofInt x ≤ Int32.ofInt y ↔ x ≤ y := by
  rw [Int32.le_iff_toInt_le, i32_of hx, i32_of hy]
theorem i32_lt {x y : Int} (hx : inR x) (hy : inR y) : Int32.ofInt x < Int32.ofInt y ↔ x < y := by
  rw [Int32.lt_iff_toInt_lt, i32_of hx, i32_of hy]
theorem i32_0 : (0 : Int32) = Int32.ofInt 0 := rfl
theorem inR_0 : inR 0 := by decide
theorem i32_idx {i : Int} {n : Nat} (h0 : 0 ≤ i) (h1 : i < n) (hn : n ≤ 100000) : ¬ (Int32.ofInt i < 0 ∨ n ≤ (Int32.ofInt i).toNatClampNeg) := by
  have hr : inR i := ⟨by omega, by omega⟩
  rw [i32_nat h0 (by omega), i32_0, i32_lt hr inR_0]
  omega
theorem i32_div {a b : Int} (ha : inR a) (hb : inR b) (h : 0 < b) : Int32.ofInt (Int.tdiv a b) = Int32.ofInt a / Int32.ofInt b :=
  Int32.ofInt_tdiv (by have := ha.1; show (-2147483648 : Int) ≤ a; omega) (by have := ha.2; show a ≤ (2147483647 : Int); omega) (by show (-2147483648 : Int) ≤ b; omega) (by have := hb.2; show b ≤ (2147483647 : Int); omega)
theorem i32_rem {a b : Int} (ha : inR a) (hb : inR b) (h : 0 < b) : Int32.ofInt a - Int32.ofInt a / Int32.ofInt b * Int32.ofInt b = Int32.ofInt (Int.tmod a b) := by
  rw [← i32_div ha hb h, ← Int32.ofInt_mul, ← Int32.ofInt_sub]
  congr 1
  have := Int.tmod_add_mul_tdiv a b
  rw [Int.mul_comm] at this
  omega
/-- the types of the rows -/
def am_at (t : Nat) : FieldType := match t with
  | 20 => .int | 21 => .boolean | 22 => .array .int | 23 => .object "WeylWords$Operator" | 24 => .object "WeylWords$State" | _ => .object "WeylWords$Basis"
/-- the name of what a row of references holds -/
def am_cn (t : Nat) : String := match t with
  | 22 => "[I" | 23 => "WeylWords$Operator" | 24 => "WeylWords$State" | _ => "WeylWords$Basis"
def am_KA (s : State) (t : Nat) (cA : ClassId) : Prop := s.vm.findClass ("[" ++ (am_at t).toString) = some cA ∧ ∃ (kA : Class) (comp : ClassId), s.vm.classes[cA]? = some kA ∧ kA.kind = .array comp (am_at t) ∧ (22 ≤ t → s.vm.findClass (am_cn t) = some comp)
abbrev am_D : Type := am_Z × (Nat → ClassId) × (Nat → Nat → Nat) × (Nat → ClassId)
/-- the words that aren't kept by themselves -/
def am_kw : Cond → Bool
  | .arrayOver (.object _) => true
  | .arrayOver (.array _) => true
  | .methodLinkNest .. => true
  | _ => false
def am_Kw (s : State) : Prop := ∀ w ∈ lw_tbl, am_kw w = true → va_Nw w s
def lw_good : List Cond := lw_tbl.filter goodWord
theorem lw_good_of {w : Cond} (h : w ∈ lw_tbl) (hg : goodWord w = true) : w ∈ lw_good := List.mem_filter.mpr ⟨h, hg⟩
theorem am_goodIn {w0 : Cond} (h : w0 ∈ lw_tbl) (hg : goodWord w0 = true) : GoodIn lw_good (w0 :: lw_good) := by
  intro w hw
  have hm : w ∈ lw_good := by
    rcases List.mem_cons.mp hw with q | q
    · rw [q]; exact lw_good_of h hg
    · exact q
  exact ⟨hm, good_of_word (List.mem_filter.mp hm).2⟩
theorem am_Kw.warm {s U : State} (hW : s.WarmedH U.vm) (h : am_Kw s) : am_Kw U := by
  intro w hw hk
  have h1 := h w hw hk
  cases w <;> try cases hk
  case arrayOver t =>
    cases t <;> try cases hk
    case object C => exact va_AO.moved hW.alike h1
    case array t => exact over_moved hW.alike h1
  case methodLinkNest a i x b => exact va_Nw.warmM hW h1
theorem am_Kw.same {s U : State} (hv : s.vm = U.vm) (h : am_Kw s) : am_Kw U := by
  intro w hw hk
  have h1 := h w hw hk
  have ha : s.vm.Alike U.vm := by rw [hv]; exact Vm.Alike.refl _
  cases w <;> try cases hk
  case arrayOver t =>
    cases t <;> try cases hk
    case object C => exact va_AO.moved ha h1
    case array t => exact over_moved ha h1
  case methodLinkNest a i x b => exact va_Nw.same rfl hv h1
def am_K (D : am_D) (s : State) : Prop := va_K (D.2.1, D.2.2.1) vwCl [] s ∧ (∀ t, 20 ≤ t → t ≤ 25 → am_KA s t (D.2.2.2 t)) ∧ am_Kw s
def am_ce (D : am_D) (s : State) (x : am_C) (r : Cell) : Prop :=
  (x.1 < 13 ∧ r.cls = D.2.1 x.1 ∧ r.vm = .none ∧ x.2.1 = am_n x.1 ∧ ∀ k, k < am_n x.1 → r.slots[D.2.2.1 x.1 k]? = some (am_rv D.1 (x.2.2 k)))
  ∨ (20 ≤ x.1 ∧ x.1 ≤ 25 ∧ r = arrV (D.2.2.2 x.1) x.2.1 (fun j => am_rv D.1 (x.2.2 j)) ∧ (x.1 = 20 → ∀ j, j < x.2.1 → ∃ v : Int, x.2.2 j = vI v))
  ∨ (x.1 = 30 ∧ s.isArrayOf r .int ∧ r.vm ≠ .unknown ∧ (x.2.1 ≤ r.slots.size ∧ r.slots.size.toInt32 = Int32.ofNat x.2.1) ∧ ∀ j, j < x.2.1 → r.slots[j]? = some (am_rv D.1 (x.2.2 j)))
def am_R (D : am_D) (s : State) (h : am_H) (H : Heap) : Prop :=
  3 ≤ h.1 ∧ H.size + 3 = D.1.2.2.2 + h.1 ∧ (D.1.1 < D.1.2.2.2 ∧ D.1.2.1 < D.1.2.2.2 ∧ D.1.2.2.1 < D.1.2.2.2)
  ∧ (∀ k, k < 3 → (h.2 k).1 = 30 ∨ (h.2 k).1 = 99)
  ∧ (∀ k, (h.2 k).1 ≠ 99 → k < h.1 ∧ ∃ r : Cell, H[am_rho D.1 k]? = some r ∧ am_ce D s (h.2 k) r)
  ∧ va_Z "WeylWords$Operator" "X_AT" "[I" (.ref D.1.2.1) (fun q => D.1.2.2.2 ≤ q) s H
  ∧ va_Z "WeylWords$Operator" "D_AT" "[I" (.ref D.1.2.2.1) (fun q => D.1.2.2.2 ≤ q) s H
theorem am_rho_ge {z : am_Z} {k : Nat} (h : 3 ≤ k) : am_rho z k = z.2.2.2 + (k - 3) := by
  unfold am_rho
  rw [if_neg (by omega), if_neg (by omega), if_neg (by omega)]
theorem am_rho_lt {D : am_D} {s : State} {h : am_H} {H : Heap} (hR : am_R D s h H) {k : Nat} (hk : k < 3) : am_rho D.1 k < D.1.2.2.2 := by
  obtain ⟨-, -, ⟨h0, h1, h2⟩, -⟩ := hR
  rcases (show k = 0 ∨ k = 1 ∨ k = 2 by omega) with rfl | rfl | rfl
  · exact h0
  · exact h1
  · exact h2
theorem am_rho_ne {D : am_D} {s : State} {h : am_H} {H : Heap} (hR : am_R D s h H) {k j : Nat} (hk : 3 ≤ k) (hj : j ≠ k) : am_rho D.1 j ≠ am_rho D.1 k := by
  by_cases h3 : j < 3
  · have h1 := am_rho_lt hR h3
    rw [am_rho_ge hk]
    omega
  · rw [am_rho_ge hk, am_rho_ge (by omega)]
    omega
theorem am_ce.moved {D : am_D} {u U : State} (hvm : u.vm.Alike U.vm) {x : am_C} {r : Cell} (h : am_ce D u x r) : am_ce D U x r := by
  rcases h with h | h | ⟨h1, h2, h3⟩
  · exact Or.inl h
  · exact Or.inr (Or.inl h)
  · exact Or.inr (Or.inr ⟨h1, State.isArrayOf_alike hvm h2, h3⟩)
theorem am_R.moved {D : am_D} {u U : State} (hvm : u.vm.Alike U.vm) {h : am_H} {H : Heap} (hR : am_R D u h H) : am_R D U h H := by
  obtain ⟨h1, h2, h3, h4, h5, h6, h7⟩ := hR
  exact ⟨h1, h2, h3, h4, fun k hk => ⟨(h5 k hk).1, by obtain ⟨r, q1, q2⟩ := (h5 k hk).2; exact ⟨r, q1, q2.moved hvm⟩⟩, h6.moved hvm, h7.moved hvm⟩
theorem am_KA.moved {u U : State} (hvm : u.vm.Alike U.vm) {t : Nat} {cA : ClassId} (h : am_KA u t cA) : am_KA U t cA := by
  obtain ⟨h1, kA, comp, h2, h3, h4⟩ := h
  obtain ⟨k', hk', he⟩ := hvm.2.2 _ _ h2
  exact ⟨by rw [hvm.findClass]; exact h1, k', comp, hk', by rw [he]; exact h3, fun h => by rw [hvm.findClass]; exact h4 h⟩
theorem am_K.warm {D : am_D} {u U : State} (hW : u.WarmedH U.vm) (h : am_K D u) : am_K D U := ⟨va_K.moved hW.alike h.1, fun t h1 h2 => (h.2.1 t h1 h2).moved hW.alike, h.2.2.warm hW⟩
theorem am_K.same {D : am_D} {u U : State} (hv : u.vm = U.vm) (h : am_K D u) : am_K D U := by
  have ha : u.vm.Alike U.vm := by rw [hv]; exact Vm.Alike.refl _
  exact ⟨va_K.moved ha h.1, fun t h1 h2 => (h.2.1 t h1 h2).moved ha, h.2.2.same hv⟩
/-- a cell that is no row of the three is behind the base -/
theorem am_R.ge {D : am_D} {s : State} {h : am_H} {H : Heap} (hR : am_R D s h H) {k : Nat} (h1 : (h.2 k).1 ≠ 99) (h2 : (h.2 k).1 ≠ 30) : 3 ≤ k := by
  obtain ⟨-, -, -, h4, -⟩ := hR
  by_cases h3 : k < 3
  · rcases h4 k h3 with q | q
    · exact absurd q h2
    · exact absurd q h1
  · omega
/-- one cell is written -/
theorem am_R.put {D : am_D} {s : State} {h : am_H} {H H' : Heap} (hR : am_R D s h H) {k : Nat} (hk : 3 ≤ k) (hl : k < h.1) {x : am_C} {r : Cell} (hx : x.1 ≠ 99) (hr : am_ce D s x r) (e1 : H'[am_rho D.1 k]? = some r) (e2 : H'.size = H.size) (e3 : ∀ q, q ≠ am_rho D.1 k → H'[q]? = H[q]?) : am_R D s (am_put h k x) H' := by
  have hR0 := hR
  obtain ⟨h1, h2, h3, h4, h5, h6, h7⟩ := hR
  have hb : D.1.2.2.2 ≤ am_rho D.1 k := by rw [am_rho_ge hk]; omega
  refine ⟨h1, by rw [e2]; exact h2, h3, fun j hj => ?_, fun j hj => ?_, h6.kept (fun a _ ha => e3 a (fun q => ha (by rw [q]; exact hb))), h7.kept (fun a _ ha => e3 a (fun q => ha (by rw [q]; exact hb)))⟩
  · show (au h.2 k x j).1 = 30 ∨ (au h.2 k x j).1 = 99
    rw [au_n _ _ (by omega)]
    exact h4 j hj
  · have hj : (au h.2 k x j).1 ≠ 99 := hj
    show j < h.1 ∧ ∃ r : Cell, H'[am_rho D.1 j]? = some r ∧ am_ce D s (au h.2 k x j) r
    by_cases hjk : j = k
    · subst hjk
      rw [au_s]
      exact ⟨hl, r, e1, hr⟩
    · rw [au_n _ _ hjk] at hj ⊢
      obtain ⟨q1, r', q2, q3⟩ := h5 j hj
      exact ⟨q1, r', by rw [e3 _ (am_rho_ne hR0 hk hjk)]; exact q2, q3⟩
/-- one cell is made -/
theorem am_R.new {D : am_D} {s : State} {h : am_H} {H H' : Heap} (hR : am_R D s h H) {x : am_C} {r : Cell} (hx : x.1 ≠ 99) (hr : am_ce D s x r) (e1 : H'[H.size]? = some r) (e2 : H'.size = H.size + 1) (e3 : ∀ q, q < H.size → H'[q]? = H[q]?) : am_R D s (am_new h x) H' := by
  have hR0 := hR
  obtain ⟨h1, h2, h3, h4, h5, h6, h7⟩ := hR
  have hz : am_rho D.1 h.1 = H.size := by rw [am_rho_ge h1]; omega
  refine ⟨by show 3 ≤ h.1 + 1; omega, by show H'.size + 3 = D.1.2.2.2 + (h.1 + 1); omega, h3, fun j hj => ?_, fun j hj => ?_, h6.kept (fun a ha _ => e3 a ha), h7.kept (fun a ha _ => e3 a ha)⟩
  · show (au h.2 h.1 x j).1 = 30 ∨ (au h.2 h.1 x j).1 = 99
    rw [au_n _ _ (by omega)]
    exact h4 j hj
  · have hj : (au h.2 h.1 x j).1 ≠ 99 := hj
    show j < h.1 + 1 ∧ ∃ r : Cell, H'[am_rho D.1 j]? = some r ∧ am_ce D s (au h.2 h.1 x j) r
    by_cases hjk : j = h.1
    · subst hjk
      rw [au_s]
      exact ⟨by omega, r, by rw [hz]; exact e1, hr⟩
    · rw [au_n _ _ hjk] at hj ⊢
      obtain ⟨q1, r', q2, q3⟩ := h5 j hj
      exact ⟨by omega, r', by rw [e3 _ (Array.getElem?_eq_some_iff.mp q2).1]; exact q2, q3⟩
/-- the names of a frame -/
def am_ls (z : am_Z) (nL : Nat) (A : List am_V) (ls : Array Slot) : Prop := A.length = nL ∧ lv_has ls nL [] ∧ ∀ i, lget A i ≠ vU → ls[i]? = some (.val (am_rv z (lget A i)))
theorem lget_set (A : List am_V) (i : Nat) (v : am_V) (hi : i < A.length) (j : Nat) : lget (A.set i v) j = if j = i then v else lget A j := by
  induction A generalizing i j with
  | nil => exact absurd hi (Nat.not_lt_zero _)
  | cons a r ih =>
    cases i with
    | zero => cases j with
      | zero => rfl
      | succ j => rw [if_neg (by omega)]; rfl
    | succ i => cases j with
      | zero => rw [if_neg (by omega)]; rfl
      | succ j =>
        show lget (r.set i v) j = _
        rw [ih i (by simpa using hi) j]
        by_cases h : j = i
        · rw [if_pos h, if_pos (by omega)]
        · rw [if_neg h, if_neg (by omega)]; rfl
theorem lget_lt {A : List am_V} {i : Nat} (h : lget A i ≠ vU) : i < A.length := by
  induction A generalizing i with
  | nil => exact absurd rfl h
  | cons a r ih =>
    cases i with
    | zero => simp
    | succ i => have := ih (i := i) h; simp; omega
theorem am_ls.at {z : am_Z} {nL : Nat} {A : List am_V} {ls : Array Slot} (h : am_ls z nL A ls) {i : Nat} {v : am_V} (hv : lget A i = v) (hn : v ≠ vU) : ls[i]? = some (.val (am_rv z v)) := by
  subst hv
  exact h.2.2 i hn
theorem am_ls.has {z : am_Z} {nL : Nat} {A : List am_V} {ls : Array Slot} (h : am_ls z nL A ls) (j : Nat) (hj : lget A j ≠ vU) : lv_has ls nL [(j, am_rv z (lget A j))] :=
  ⟨h.2.1.1, h.2.1.2.1, fun q hq => by rw [List.mem_singleton.mp hq]; exact h.2.2 j hj⟩
theorem am_st_eq {A B : List am_V} {i : Nat} {v : am_V} (h : am_st A i v = some B) : B = A.set i v ∧ ∀ j, j + 1 = i → am_cat (lget A j) = 1 := by
  unfold am_st at h
  cases i with
  | zero => exact ⟨(Option.some.inj h).symm, fun j hj => by omega⟩
  | succ i =>
    by_cases hc : am_cat (lget A i) = 1
    · simp only [hc, if_true] at h
      exact ⟨(Option.some.inj h).symm, fun j hj => by rw [show j = i by omega]; exact hc⟩
    · simp only [hc, if_false] at h
      cases h
theorem am_ls.st1 {z : am_Z} {nL : Nat} {A B : List am_V} {ls : Array Slot} (h : am_ls z nL A ls) {i : Nat} {v : am_V} (hi : i < nL) (hc : am_cat v = 1) (hs : am_st A i v = some B) : ∃ ls', storeLocals ls i (am_rv z v) = some ls' ∧ am_ls z nL B ls' := by
  obtain ⟨hB, hl⟩ := am_st_eq hs
  have hc' : (am_rv z v).category = 1 := by rw [am_rv_cat]; exact hc
  obtain ⟨ls', e', h'⟩ := lv_store1 (v := am_rv z v) h.2.1 hi hc'
  refine ⟨ls', e', ?_, ⟨h'.1, h'.2.1, fun q hq => absurd hq List.not_mem_nil⟩, fun j hj => ?_⟩
  · rw [hB, List.length_set]; exact h.1
  · rw [hB, lget_set _ _ _ (by rw [h.1]; exact hi)] at hj ⊢
    by_cases hji : j = i
    · rw [if_pos hji]
      rw [hji]
      exact h'.2.2 (i, am_rv z v) List.mem_cons_self
    · rw [if_neg hji] at hj ⊢
      obtain ⟨ls2, e2, h2⟩ := lv_store1 (v := am_rv z v) (h.has j hj) hi hc'
      cases e'.symm.trans e2
      refine h2.2.2 (j, am_rv z (lget A j)) (List.mem_cons_of_mem _ (List.mem_filter.mpr ⟨List.mem_singleton.mpr rfl, ?_⟩))
      have h3 : (j == i) = false := by simpa using hji
      have h4 : (j + 1 == i && (am_rv z (lget A j)).category == 2) = false := by
        by_cases q : j + 1 = i
        · rw [am_rv_cat, hl j q]; simp
        · simp [q]
      show (!(j == i) && !(j + 1 == i && (am_rv z (lget A j)).category == 2)) = true
      rw [h3, h4]; rfl
theorem am_ls.st2 {z : am_Z} {nL : Nat} {A B : List am_V} {ls : Array Slot} (h : am_ls z nL A ls) {i : Nat} {x : Int64} (hi : i + 1 < nL) (hs : am_st A i (vL x) = some B) : ∃ ls', storeLocals ls i (.long x) = some ls' ∧ am_ls z nL (B.set (i + 1) vU) ls' := by
  obtain ⟨hB, hl⟩ := am_st_eq hs
  obtain ⟨ls', e', h'⟩ := lv_store2 (v := .long x) h.2.1 hi rfl
  refine ⟨ls', e', ?_, ⟨h'.1, h'.2.1, fun q hq => absurd hq List.not_mem_nil⟩, fun j hj => ?_⟩
  · rw [hB, List.length_set, List.length_set]; exact h.1
  · rw [hB, lget_set _ _ _ (by rw [List.length_set, h.1]; exact hi), lget_set _ _ _ (by rw [h.1]; omega)] at hj ⊢
    by_cases hj1 : j = i + 1
    · rw [if_pos hj1] at hj; exact absurd rfl hj
    · rw [if_neg hj1] at hj ⊢
      by_cases hji : j = i
      · rw [if_pos hji]
        rw [hji]
        exact h'.2.2 (i, .long x) List.mem_cons_self
      · rw [if_neg hji] at hj ⊢
        obtain ⟨ls2, e2, h2⟩ := lv_store2 (v := .long x) (h.has j hj) hi rfl
        cases e'.symm.trans e2
        refine h2.2.2 (j, am_rv z (lget A j)) (List.mem_cons_of_mem _ (List.mem_filter.mpr ⟨List.mem_singleton.mpr rfl, ?_⟩))
        have h3 : (j == i) = false := by simpa using hji
        have h5 : (j == i + 1) = false := by simpa using hj1
        have h4 : (j + 1 == i && (am_rv z (lget A j)).category == 2) = false := by
          by_cases q : j + 1 = i
          · rw [am_rv_cat, hl j q]; simp
          · simp [q]
        show (!(j == i) && (!(j == i + 1) && !(j + 1 == i && (am_rv z (lget A j)).category == 2))) = true
        rw [h3, h4, h5]; rfl
end
section
/-! One step of the abstract machine is one of the machine: what needs no tables. -/
def am_sm (f : Nat → am_C) : Nat → Nat
  | 0 => 0
  | n + 1 => am_sm f n + (f n).2.1
def am_sl (h : am_H) : Nat := am_sm h.2 h.1
theorem am_sm_eq {f g : Nat → am_C} {n : Nat} (h : ∀ k, k < n → (f k).2.1 = (g k).2.1) : am_sm f n = am_sm g n := by
  induction n with
  | zero => rfl
  | succ n ih =>
    show am_sm f n + _ = am_sm g n + _
    rw [ih (fun k hk => h k (by omega)), h n (by omega)]
theorem am_sl_put {h : am_H} {a : Nat} {x : am_C} (hx : x.2.1 = (h.2 a).2.1) : am_sl (am_put h a x) = am_sl h := by
  refine am_sm_eq fun k _ => ?_
  show (au h.2 a x k).2.1 = _
  by_cases hk : k = a
  · rw [hk, au_s, hx]
  · rw [au_n _ _ hk]
theorem am_sl_new {h : am_H} {x : am_C} : am_sl (am_new h x) = am_sl h + x.2.1 := by
  show am_sm (au h.2 h.1 x) h.1 + (au h.2 h.1 x h.1).2.1 = _
  rw [au_s]
  congr 1
  exact am_sm_eq fun k hk => by rw [au_n _ _ (by omega)]
def am_q (c : Nat) : vw_C := match c with
  | 0 => (RX0, TX0, 3) | 1 => (RX1, TX1, 3) | 2 => (RX2, TX2, 6) | 3 => (RX3, TX3, 11) | 4 => (RX4, TX4, 8) | 5 => (RX5, TX5, 3) | 6 => (RX6, TX6, 1) | 7 => (RX7, TX7, 7) | 8 => (RX8, TX8, 3) | 9 => (RX9, TX9, 4) | 10 => (RX10, TX10, 2) | 11 => (RX11, TX11, 13) | _ => (RX12, TX12, 31)
def am_len : Instr → Nat
  | .iload _ => 2 | .aload _ => 2 | .istore _ => 2 | .astore _ => 2 | .bipush _ => 2 | .newarray _ => 2 | .ldc _ => 2
  | .sipush _ => 3 | .iinc _ _ => 3 | .getfield _ => 3 | .putfield _ => 3 | .getstatic _ => 3 | .ldc2_w _ => 3 | .new _ => 3 | .anewarray _ => 3
  | .invokevirtual _ => 3 | .invokespecial _ => 3 | .invokestatic _ => 3 | .goto _ => 3 | .ifCond _ _ => 3 | .if_icmp _ _ => 3 | .multianewarray _ _ => 4
  | _ => 1
def am_fl (own : String) (i c k : Nat) : Prop := c < 13 ∧ k < am_n c ∧ Cond.fieldLink own i ((am_q c).2.1 k).1 ((am_q c).2.1 k).2.1 ((am_q c).2.1 k).2.2.1 ∈ lw_tbl
def am_okm (q : am_M) (n : Nat) : Prop := Cond.code q.2.1 q.2.2.1 q.2.2.2.1 q.2.2.2.2.1 ∈ lw_tbl ∧ Cond.initialized q.2.1.cls ∈ lw_tbl ∧ (q.2.1.cls ≠ "java/lang/invoke/MethodHandle" ∧ q.2.1.cls ≠ "java/lang/invoke/VarHandle") ∧ (parseMethodDescriptor q.2.1.desc).map (fun d => d.parameters.length) = some n ∧ q.2.2.2.1 ≤ 60
def am_lk (own : String) (i : Nat) (y : MethodName) : Prop := Cond.methodLink own i y ∈ lw_tbl ∨ ∃ host, Cond.methodLinkNest own i y host ∈ lw_tbl
def am_ok1 (tb : Nat → Option am_M) (own : String) (ini : Bool) (nL : Nat) (ai : am_I) : Prop := match ai.1 with
  | .bipush n => -128 ≤ n ∧ n ≤ 127
  | .sipush n => -32768 ≤ n ∧ n ≤ 32767
  | .ldc i => Cond.constant own i (Int32.ofInt ai.2.1) ∈ lw_tbl
  | .ldc2_w i => Cond.constantLong own i (Int64.ofNat ai.2.1) ∈ lw_tbl
  | .istore i => i < nL
  | .istore_n i => i.val < nL
  | .astore i => i < nL
  | .astore_n i => i.val < nL
  | .lstore_n i => i.val + 1 < nL
  | .iinc i _ => i < nL
  | .getfield i => am_fl own i ai.2.1 ai.2.2.1
  | .putfield i => am_fl own i ai.2.1 ai.2.2.1 ∧ am_fk (am_ty ai.2.1 ai.2.2.1) = ai.2.2.2 ∧ (((am_q ai.2.1).2.1 ai.2.2.1).2.2.2 = false ∨ (ini = true ∧ ((am_q ai.2.1).2.1 ai.2.2.1).2.2.2 = true ∧ ((am_q ai.2.1).2.1 ai.2.2.1).1 = own))
  | .getstatic i => (ai.2.1 = 1 ∧ Cond.fieldLink own i "WeylWords$Operator" "X_AT" "[I" ∈ lw_tbl) ∨ (ai.2.1 = 2 ∧ Cond.fieldLink own i "WeylWords$Operator" "D_AT" "[I" ∈ lw_tbl)
  | .newarray t => (t = .int ∧ ai.2.1 = 20) ∨ (t = .boolean ∧ ai.2.1 = 21)
  | .anewarray i => 23 ≤ ai.2.1 ∧ ai.2.1 ≤ 25 ∧ Cond.classLink own i (am_cn ai.2.1) ∈ lw_tbl
  | .multianewarray i d => d = 2 ∧ Cond.classLink own i "[[I" ∈ lw_tbl
  | .new i => ai.2.1 < 13 ∧ Cond.classLink own i (am_q ai.2.1).1 ∈ lw_tbl
  | .invokevirtual i => ∃ q, tb ai.2.1 = some q ∧ ai.2.2.2 < 13 ∧ q.2.1.cls = (am_q ai.2.2.2).1 ∧ am_okm q (ai.2.2.1 - 1) ∧ 1 ≤ ai.2.2.1 ∧ Cond.methodLink own i q.2.1 ∈ lw_tbl ∧ Cond.instanceMethod q.2.1 ∈ lw_tbl ∧ Cond.selects (am_q ai.2.2.2).1 q.2.1 q.2.1 ∈ lw_tbl
  | .invokespecial i => if ai.2.1 = 998 then Cond.methodLink own i Lib.objectInit ∈ lw_tbl else
      ∃ q, tb ai.2.1 = some q ∧ am_okm q (ai.2.2.1 - 1) ∧ 1 ≤ ai.2.2.1 ∧ am_lk own i q.2.1 ∧ Cond.instanceMethod q.2.1 ∈ lw_tbl ∧ q.2.1.name = "<init>" ∧ q.2.2.2.2.1 = none
  | .invokestatic i => if ai.2.1 = 999 then Cond.methodLink own i arraycopyName ∈ lw_tbl else
      ∃ q, tb ai.2.1 = some q ∧ am_okm q ai.2.2.1 ∧ am_lk own i q.2.1 ∧ Cond.static q.2.1 ∈ lw_tbl
  | _ => True
/-- what a frame of the machine is, at its method's beginning -/
def am_Fx (p : Program) (R : Room) (s : State) (m : MethodId) (args : Array Value) (meth : Method) (c : Code) (cc : ByteArray) (nL : Nat) (own : String) (ini : Bool) (D : am_D) : Prop :=
  p.tables.exec = Jvm.exec ∧ c.code = cc ∧ c.maxLocals = nL ∧ s.vm.findClass own = some m.cls ∧ (∀ w ∈ lw_good, w.before args s = true) ∧ am_K D s ∧ 1 ≤ R.frames ∧ 100 ≤ R.locals ∧ (ini = true → meth.name = "<init>")
def am_At (p : Program) (l : Launch) (e : Env) (R : Room) (s : State) (m : MethodId) (args : Array Value) (below : List Frame) (meth : Method) (c : Code) (Q : State → Prop) (D : am_D) (nL : Nat) (h0 : am_H) (x : am_S) (pc : Nat) : Prop :=
  ∀ (LS : Array Slot) (H : Heap) (locs : List Loc), am_ls D.1 nL x.1 LS → am_R D s x.2.2 H → (∀ q ∈ locs, D.1.2.2.2 ≤ q.base) → W p l e R s m args below meth c H locs (x.2.2.1 - h0.1) (am_sl x.2.2 - am_sl h0) Q (F0 m pc LS (x.2.1.map (am_rv D.1)))
section INS
variable {p : Program} {l : Launch} {e : Env} {R : Room} {s : State} {m : MethodId} {args : Array Value} {below : List Frame} {meth : Method} {c : Code} {Q : State → Prop} {cc : ByteArray} {nL : Nat} {own : String} {ini : Bool} {D : am_D} {h0 : am_H}
theorem at_b2 {f : Int → Int → Int} {g : Int32 → Int32 → Int32} {pc : Nat} (hr : ∀ a b : Int, Int32.ofInt (f a b) = g (Int32.ofInt a) (Int32.ofInt b))
    (row : ∀ {H : Heap} {locs : List Loc} {cells slots : Nat} {LS : Array Slot} {rest : List Value} {a b : Int32}, W p l e R s m args below meth c H locs cells slots Q (F0 m (pc + 1) LS (.int (g a b) :: rest)) → W p l e R s m args below meth c H locs cells slots Q (F0 m pc LS (.int b :: .int a :: rest)))
    {x y : am_S} (hev : am_b2 f x = some y) (k : am_At p l e R s m args below meth c Q D nL h0 y (pc + 1)) : am_At p l e R s m args below meth c Q D nL h0 x pc := by
  obtain ⟨ls, st, h⟩ := x
  rcases st with _ | ⟨b | b, _ | ⟨a | a, st⟩⟩ <;> try cases hev
  intro LS H locs hl hR hf
  refine row ?_
  have := k LS H locs hl hR hf
  simp only [List.map_cons, am_rv, hr] at this
  exact this
theorem at_b3 {ok : Int → Int → Bool} {f : Int → Int → Int} {g : Int32 → Int32 → Int32} {pc : Nat} {C : Int32 → Prop} (hr : ∀ a b : Int, inR a → inR b → ok a b = true → g (Int32.ofInt a) (Int32.ofInt b) = Int32.ofInt (f a b) ∧ C (Int32.ofInt b))
    (row : ∀ {H : Heap} {locs : List Loc} {cells slots : Nat} {LS : Array Slot} {rest : List Value} {a b : Int32}, C b → W p l e R s m args below meth c H locs cells slots Q (F0 m (pc + 1) LS (.int (g a b) :: rest)) → W p l e R s m args below meth c H locs cells slots Q (F0 m pc LS (.int b :: .int a :: rest)))
    {x y : am_S} (hev : am_b3 ok f x = some y) (k : am_At p l e R s m args below meth c Q D nL h0 y (pc + 1)) : am_At p l e R s m args below meth c Q D nL h0 x pc := by
  obtain ⟨ls, st, h⟩ := x
  rcases st with _ | ⟨b | b, _ | ⟨a | a, st⟩⟩ <;> try cases hev
  by_cases hc : inR a ∧ inR b ∧ ok a b = true
  · simp only [am_b3, if_pos hc] at hev
    cases hev
    intro LS H locs hl hR hf
    obtain ⟨e1, e2⟩ := hr a b hc.1 hc.2.1 hc.2.2
    refine row e2 ?_
    rw [e1]
    exact k LS H locs hl hR hf
  · simp only [am_b3, if_neg hc] at hev
    cases hev
theorem i32_ne0 {b : Int} (hb : inR b) (h : 0 < b) : ¬ Int32.ofInt b = 0 := by
  rw [i32_0, i32_eq hb inR_0]; omega
/-- a constant -/
theorem at_push {v : am_V} {pc n : Nat} {x : am_S} (row : ∀ {H : Heap} {locs : List Loc} {cells slots : Nat} {LS : Array Slot} {rest : List Value}, W p l e R s m args below meth c H locs cells slots Q (F0 m (pc + n) LS (am_rv D.1 v :: rest)) → W p l e R s m args below meth c H locs cells slots Q (F0 m pc LS rest))
    (k : am_At p l e R s m args below meth c Q D nL h0 (x.1, v :: x.2.1, x.2.2) (pc + n)) : am_At p l e R s m args below meth c Q D nL h0 x pc :=
  fun LS H locs hl hR hf => row (k LS H locs hl hR hf)
theorem at_ldi {i pc n : Nat} {x y : am_S} (row : ∀ {H : Heap} {locs : List Loc} {cells slots : Nat} {LS : Array Slot} {rest : List Value} {v : Int32}, LS[i]? = some (.val (.int v)) → W p l e R s m args below meth c H locs cells slots Q (F0 m (pc + n) LS (.int v :: rest)) → W p l e R s m args below meth c H locs cells slots Q (F0 m pc LS rest))
    (hev : am_ldi i x = some y) (k : am_At p l e R s m args below meth c Q D nL h0 y (pc + n)) : am_At p l e R s m args below meth c Q D nL h0 x pc := by
  intro LS H locs hl hR hf
  cases hv : lget x.1 i with
  | inl v =>
    simp only [am_ldi, hv] at hev
    cases hev
    exact row (hl.at hv (by intro q; cases q)) (k LS H locs hl hR hf)
  | inr v => simp only [am_ldi, hv] at hev; cases hev
theorem at_lda {i pc n : Nat} {x y : am_S} (row : ∀ {H : Heap} {locs : List Loc} {cells slots : Nat} {LS : Array Slot} {rest : List Value} {v : Nat}, LS[i]? = some (.val (.ref v)) → W p l e R s m args below meth c H locs cells slots Q (F0 m (pc + n) LS (.ref v :: rest)) → W p l e R s m args below meth c H locs cells slots Q (F0 m pc LS rest))
    (hev : am_lda i x = some y) (k : am_At p l e R s m args below meth c Q D nL h0 y (pc + n)) : am_At p l e R s m args below meth c Q D nL h0 x pc := by
  intro LS H locs hl hR hf
  rcases hv : lget x.1 i with v | (_ | v) | v | v <;> simp only [am_lda, hv] at hev <;> cases hev
  exact row (v := am_rho D.1 v) (hl.at hv (by intro q; cases q)) (k LS H locs hl hR hf)
theorem at_ldl {i pc n : Nat} {x y : am_S} (row : ∀ {H : Heap} {locs : List Loc} {cells slots : Nat} {LS : Array Slot} {rest : List Value} {v : Int64}, LS[i]? = some (.val (.long v)) → W p l e R s m args below meth c H locs cells slots Q (F0 m (pc + n) LS (.long v :: rest)) → W p l e R s m args below meth c H locs cells slots Q (F0 m pc LS rest))
    (hev : am_ldl i x = some y) (k : am_At p l e R s m args below meth c Q D nL h0 y (pc + n)) : am_At p l e R s m args below meth c Q D nL h0 x pc := by
  intro LS H locs hl hR hf
  rcases hv : lget x.1 i with v | (_ | v) | v | v <;> simp only [am_ldl, hv] at hev <;> cases hev
  exact row (v := v) (hl.at hv (by intro q; cases q)) (k LS H locs hl hR hf)
/-- a store of one slot: the machine's step is a row whose new names are those of storeLocals -/
theorem at_st {v : am_V} {i pc n : Nat} {ls B : List am_V} {st : List am_V} {h : am_H} (hi : i < nL) (hc : am_cat v = 1) (hs : am_st ls i v = some B)
    (row : ∀ {H : Heap} {locs : List Loc} {cells slots : Nat} {LS LS' : Array Slot} {rest : List Value}, storeLocals LS i (am_rv D.1 v) = some LS' → W p l e R s m args below meth c H locs cells slots Q (F0 m (pc + n) LS' rest) → W p l e R s m args below meth c H locs cells slots Q (F0 m pc LS (am_rv D.1 v :: rest)))
    (k : am_At p l e R s m args below meth c Q D nL h0 (B, st, h) (pc + n)) : am_At p l e R s m args below meth c Q D nL h0 (ls, v :: st, h) pc := by
  intro LS H locs hl hR hf
  obtain ⟨ls', e', h'⟩ := hl.st1 hi hc hs
  exact row e' (k ls' H locs h' hR hf)
variable {H : Heap} {locs : List Loc} {cells slots : Nat} {LS LS' : Array Slot} {rest : List Value} {pc : Nat}
theorem W.ist (hexec : p.tables.exec = Jvm.exec) (hb : c.code = cc) {i n : Nat} {v : Int32} (hdg : (∃ k : Fin 4, k.val = i ∧ n = 1 ∧ decode cc pc = .ok (.istore_n k, 1)) ∨ (n = 2 ∧ decode cc pc = .ok (.istore i, 2))) (hs : storeLocals LS i (.int v) = some LS') (kk : W p l e R s m args below meth c H locs cells slots Q (F0 m (pc + n) LS' rest)) : W p l e R s m args below meth c H locs cells slots Q (F0 m pc LS (.int v :: rest)) := by
  intro T hT X
  obtain ⟨t, a, b⟩ := kk T hT X
  refine ⟨t, ?_, b⟩
  rcases hdg with ⟨k, rfl, rfl, hdg⟩ | ⟨rfl, hdg⟩
  · jvm_step X.here [X.here.top, ↓top_set X.here.top, hexec, hb, hdg, hs]
    exact a
  · jvm_step X.here [X.here.top, ↓top_set X.here.top, hexec, hb, hdg, hs]
    exact a
theorem W.ast (hexec : p.tables.exec = Jvm.exec) (hb : c.code = cc) {i n : Nat} {v : Nat} (hdg : (∃ k : Fin 4, k.val = i ∧ n = 1 ∧ decode cc pc = .ok (.astore_n k, 1)) ∨ (n = 2 ∧ decode cc pc = .ok (.astore i, 2))) (hs : storeLocals LS i (.ref v) = some LS') (kk : W p l e R s m args below meth c H locs cells slots Q (F0 m (pc + n) LS' rest)) : W p l e R s m args below meth c H locs cells slots Q (F0 m pc LS (.ref v :: rest)) := by
  intro T hT X
  obtain ⟨t, a, b⟩ := kk T hT X
  refine ⟨t, ?_, b⟩
  rcases hdg with ⟨k, rfl, rfl, hdg⟩ | ⟨rfl, hdg⟩
  · jvm_step X.here [X.here.top, ↓top_set X.here.top, hexec, hb, hdg, hs, Value.isRef]
    exact a
  · jvm_step X.here [X.here.top, ↓top_set X.here.top, hexec, hb, hdg, hs, Value.isRef]
    exact a
theorem W.lst (hexec : p.tables.exec = Jvm.exec) (hb : c.code = cc) {k : Fin 4} {v : Int64} (hdg : decode cc pc = .ok (.lstore_n k, 1)) (hs : storeLocals LS k.val (.long v) = some LS') (kk : W p l e R s m args below meth c H locs cells slots Q (F0 m (pc + 1) LS' rest)) : W p l e R s m args below meth c H locs cells slots Q (F0 m pc LS (.long v :: rest)) := by
  intro T hT X
  obtain ⟨t, a, b⟩ := kk T hT X
  refine ⟨t, ?_, b⟩
  jvm_step X.here [X.here.top, ↓top_set X.here.top, hexec, hb, hdg, hs]
  exact a
theorem W.inc (hexec : p.tables.exec = Jvm.exec) (hb : c.code = cc) {i : Nat} {n : Int} {v : Int32} (hdg : decode cc pc = .ok (.iinc i n, 3)) (hg : LS[i]? = some (.val (.int v))) (hs : storeLocals LS i (.int (v + Int32.ofInt n)) = some LS') (kk : W p l e R s m args below meth c H locs cells slots Q (F0 m (pc + 3) LS' rest)) : W p l e R s m args below meth c H locs cells slots Q (F0 m pc LS rest) := by
  intro T hT X
  obtain ⟨t, a, b⟩ := kk T hT X
  refine ⟨t, ?_, b⟩
  jvm_step X.here [X.here.top, ↓top_set X.here.top, hexec, hb, hdg, hg, hs]
  exact a
end INS
end
section
/-! The words of the tables that all methods use, by their places. -/
theorem am_in9 {w : Cond} (i : Nat) (h : lw_tbl[i]? = some w) : w ∈ lw_tbl := List.mem_of_getElem? h
theorem am_pl9 {ws : List Cond} (ps : List Nat) (h : ws = ps.filterMap (fun i => lw_tbl[i]?)) : ∀ w ∈ ws, w ∈ lw_tbl := by
  subst h
  intro w hw
  obtain ⟨i, -, hi⟩ := List.mem_filterMap.mp hw
  exact List.mem_of_getElem? hi
theorem tb_l0 : ∀ w ∈ u_ws RX0 TX0 3, w ∈ lw_tbl := am_pl9 [344, 346, 348] (by decide +kernel)
theorem tb_i0 : Cond.instantiable RX0 3 ∈ lw_tbl := am_in9 334 (by decide +kernel)
theorem tb_j0 : Cond.initialized RX0 ∈ lw_tbl := am_in9 106 (by decide +kernel)
theorem tb_l1 : ∀ w ∈ u_ws RX1 TX1 3, w ∈ lw_tbl := am_pl9 [221, 223, 225] (by decide +kernel)
theorem tb_i1 : Cond.instantiable RX1 3 ∈ lw_tbl := am_in9 206 (by decide +kernel)
theorem tb_j1 : Cond.initialized RX1 ∈ lw_tbl := am_in9 101 (by decide +kernel)
theorem tb_l2 : ∀ w ∈ u_ws RX2 TX2 6, w ∈ lw_tbl := am_pl9 [284, 286, 288, 290, 292, 294] (by decide +kernel)
theorem tb_i2 : Cond.instantiable RX2 6 ∈ lw_tbl := am_in9 269 (by decide +kernel)
theorem tb_j2 : Cond.initialized RX2 ∈ lw_tbl := am_in9 105 (by decide +kernel)
theorem tb_l3 : ∀ w ∈ u_ws RX3 TX3 11, w ∈ lw_tbl := am_pl9 [310, 312, 314, 316, 318, 320, 322, 324, 326, 328, 330] (by decide +kernel)
theorem tb_i3 : Cond.instantiable RX3 11 ∈ lw_tbl := am_in9 261 (by decide +kernel)
theorem tb_j3 : Cond.initialized RX3 ∈ lw_tbl := am_in9 104 (by decide +kernel)
theorem tb_l4 : ∀ w ∈ u_ws RX4 TX4 8, w ∈ lw_tbl := am_pl9 [243, 245, 247, 249, 251, 253, 255, 257] (by decide +kernel)
theorem tb_i4 : Cond.instantiable RX4 8 ∈ lw_tbl := am_in9 229 (by decide +kernel)
theorem tb_j4 : Cond.initialized RX4 ∈ lw_tbl := am_in9 103 (by decide +kernel)
theorem tb_l5 : ∀ w ∈ u_ws RX5 TX5 3, w ∈ lw_tbl := am_pl9 [177, 179, 181] (by decide +kernel)
theorem tb_i5 : Cond.instantiable RX5 3 ∈ lw_tbl := am_in9 165 (by decide +kernel)
theorem tb_j5 : Cond.initialized RX5 ∈ lw_tbl := am_in9 99 (by decide +kernel)
theorem tb_l6 : ∀ w ∈ u_ws RX6 TX6 1, w ∈ lw_tbl := am_pl9 [143] (by decide +kernel)
theorem tb_i6 : Cond.instantiable RX6 1 ∈ lw_tbl := am_in9 130 (by decide +kernel)
theorem tb_j6 : Cond.initialized RX6 ∈ lw_tbl := am_in9 98 (by decide +kernel)
theorem tb_l7 : ∀ w ∈ u_ws RX7 TX7 7, w ∈ lw_tbl := am_pl9 [366, 368, 370, 372, 374, 376, 378] (by decide +kernel)
theorem tb_i7 : Cond.instantiable RX7 7 ∈ lw_tbl := am_in9 352 (by decide +kernel)
theorem tb_j7 : Cond.initialized RX7 ∈ lw_tbl := am_in9 107 (by decide +kernel)
theorem tb_l8 : ∀ w ∈ u_ws RX8 TX8 3, w ∈ lw_tbl := am_pl9 [157, 159, 161] (by decide +kernel)
theorem tb_i8 : Cond.instantiable RX8 3 ∈ lw_tbl := am_in9 121 (by decide +kernel)
theorem tb_j8 : Cond.initialized RX8 ∈ lw_tbl := am_in9 97 (by decide +kernel)
theorem tb_l9 : ∀ w ∈ u_ws RX9 TX9 4, w ∈ lw_tbl := am_pl9 [196, 198, 200, 202] (by decide +kernel)
theorem tb_i9 : Cond.instantiable RX9 4 ∈ lw_tbl := am_in9 185 (by decide +kernel)
theorem tb_j9 : Cond.initialized RX9 ∈ lw_tbl := am_in9 100 (by decide +kernel)
theorem tb_l10 : ∀ w ∈ u_ws RX10 TX10 2, w ∈ lw_tbl := am_pl9 [389, 391] (by decide +kernel)
theorem tb_i10 : Cond.instantiable RX10 2 ∈ lw_tbl := am_in9 382 (by decide +kernel)
theorem tb_j10 : Cond.initialized RX10 ∈ lw_tbl := am_in9 108 (by decide +kernel)
theorem tb_l11 : ∀ w ∈ u_ws RX11 TX11 13, w ∈ lw_tbl := am_pl9 [409, 411, 413, 415, 417, 419, 421, 423, 425, 427, 429, 431, 433] (by decide +kernel)
theorem tb_i11 : Cond.instantiable RX11 13 ∈ lw_tbl := am_in9 113 (by decide +kernel)
theorem tb_j11 : Cond.initialized RX11 ∈ lw_tbl := am_in9 96 (by decide +kernel)
theorem tb_l12 : ∀ w ∈ u_ws RX12 TX12 31, w ∈ lw_tbl := am_pl9 [1021, 1023, 1025, 1027, 1029, 1031, 1033, 1035, 1037, 1039, 1041, 1043, 1045, 1047, 1049, 1051, 1053, 1055, 1057, 1059, 1061, 1063, 1065, 1067, 1069, 1071, 1073, 1075, 1077, 1079, 1081] (by decide +kernel)
theorem tb_i12 : Cond.instantiable RX12 31 ∈ lw_tbl := am_in9 982 (by decide +kernel)
theorem tb_j12 : Cond.initialized RX12 ∈ lw_tbl := am_in9 109 (by decide +kernel)
theorem tb_q : ∀ c, c < 13 → vwCl[c]? = some (am_q c) ∧ (am_q c).2.2 = am_n c
  | 0, _ => ⟨rfl, rfl⟩
  | 1, _ => ⟨rfl, rfl⟩
  | 2, _ => ⟨rfl, rfl⟩
  | 3, _ => ⟨rfl, rfl⟩
  | 4, _ => ⟨rfl, rfl⟩
  | 5, _ => ⟨rfl, rfl⟩
  | 6, _ => ⟨rfl, rfl⟩
  | 7, _ => ⟨rfl, rfl⟩
  | 8, _ => ⟨rfl, rfl⟩
  | 9, _ => ⟨rfl, rfl⟩
  | 10, _ => ⟨rfl, rfl⟩
  | 11, _ => ⟨rfl, rfl⟩
  | 12, _ => ⟨rfl, rfl⟩
  | n + 13, h => absurd h (by omega)
theorem tb_lay : ∀ c, c < 13 → ∀ w ∈ u_ws (am_q c).1 (am_q c).2.1 (am_n c), w ∈ lw_tbl
  | 0, _ => tb_l0
  | 1, _ => tb_l1
  | 2, _ => tb_l2
  | 3, _ => tb_l3
  | 4, _ => tb_l4
  | 5, _ => tb_l5
  | 6, _ => tb_l6
  | 7, _ => tb_l7
  | 8, _ => tb_l8
  | 9, _ => tb_l9
  | 10, _ => tb_l10
  | 11, _ => tb_l11
  | 12, _ => tb_l12
  | n + 13, h => absurd h (by omega)
theorem tb_nm : ∀ c, c < 13 → ∀ a, a < am_n c → ∀ b, b < am_n c → a ≠ b → ((am_q c).2.1 a).2.1 ≠ ((am_q c).2.1 b).2.1
  | 0, _ => nmX0
  | 1, _ => nmX1
  | 2, _ => nmX2
  | 3, _ => nmX3
  | 4, _ => nmX4
  | 5, _ => nmX5
  | 6, _ => nmX6
  | 7, _ => nmX7
  | 8, _ => nmX8
  | 9, _ => nmX9
  | 10, _ => nmX10
  | 11, _ => nmX11
  | 12, _ => nmX12
  | n + 13, h => absurd h (by omega)
theorem tb_ty : ∀ c, c < 13 → ∀ k, k < am_n c → parseFieldDescriptor ((am_q c).2.1 k).2.2.1 = some (am_ty c k)
  | 0, _ => tyX0_ok
  | 1, _ => tyX1_ok
  | 2, _ => tyX2_ok
  | 3, _ => tyX3_ok
  | 4, _ => tyX4_ok
  | 5, _ => tyX5_ok
  | 6, _ => tyX6_ok
  | 7, _ => tyX7_ok
  | 8, _ => tyX8_ok
  | 9, _ => tyX9_ok
  | 10, _ => tyX10_ok
  | 11, _ => tyX11_ok
  | 12, _ => tyX12_ok
  | n + 13, h => absurd h (by omega)
theorem tb_inst : ∀ c, c < 13 → Cond.instantiable (am_q c).1 (am_n c) ∈ lw_tbl
  | 0, _ => tb_i0
  | 1, _ => tb_i1
  | 2, _ => tb_i2
  | 3, _ => tb_i3
  | 4, _ => tb_i4
  | 5, _ => tb_i5
  | 6, _ => tb_i6
  | 7, _ => tb_i7
  | 8, _ => tb_i8
  | 9, _ => tb_i9
  | 10, _ => tb_i10
  | 11, _ => tb_i11
  | 12, _ => tb_i12
  | n + 13, h => absurd h (by omega)
theorem tb_ini : ∀ c, c < 13 → Cond.initialized (am_q c).1 ∈ lw_tbl
  | 0, _ => tb_j0
  | 1, _ => tb_j1
  | 2, _ => tb_j2
  | 3, _ => tb_j3
  | 4, _ => tb_j4
  | 5, _ => tb_j5
  | 6, _ => tb_j6
  | 7, _ => tb_j7
  | 8, _ => tb_j8
  | 9, _ => tb_j9
  | 10, _ => tb_j10
  | 11, _ => tb_j11
  | 12, _ => tb_j12
  | n + 13, h => absurd h (by omega)
theorem tb_ai : Cond.arrayClass .int ∈ lw_tbl := am_in9 146 (by decide +kernel)
theorem tb_ab : Cond.arrayClass .boolean ∈ lw_tbl := am_in9 297 (by decide +kernel)
theorem tb_aa : Cond.arrayOver (.array .int) ∈ lw_tbl := am_in9 129 (by decide +kernel)
theorem tb_ao23 : Cond.arrayOver (.object "WeylWords$Operator") ∈ lw_tbl := am_in9 127 (by decide +kernel)
theorem tb_ao24 : Cond.arrayOver (.object "WeylWords$State") ∈ lw_tbl := am_in9 171 (by decide +kernel)
theorem tb_ao25 : Cond.arrayOver (.object "WeylWords$Basis") ∈ lw_tbl := am_in9 267 (by decide +kernel)
theorem tb_ao : ∀ t, 23 ≤ t → t ≤ 25 → Cond.arrayOver (.object (am_cn t)) ∈ lw_tbl := by
  intro t h1 h2
  rcases (show t = 23 ∨ t = 24 ∨ t = 25 by omega) with rfl | rfl | rfl
  · exact tb_ao23
  · exact tb_ao24
  · exact tb_ao25
theorem tb_oi : Cond.instanceMethod Lib.objectInit ∈ lw_tbl := am_in9 118 (by decide +kernel)
theorem tb_oc : Cond.code Lib.objectInit ⟨#[0xb1]⟩ 1 none ∈ lw_tbl := am_in9 119 rfl
theorem tb_cn : Cond.native arraycopyName ∈ lw_tbl := am_in9 464 (by decide +kernel)
theorem tb_cs : Cond.static arraycopyName ∈ lw_tbl := am_in9 463 (by decide +kernel)
theorem tb_ci : Cond.initialized "java/lang/System" ∈ lw_tbl := am_in9 110 (by decide +kernel)
end
section
/-! One step of the abstract machine is one of the machine: fields, rows, what is made. -/
def am_B (R : Room) (h0 h : am_H) : Prop := h0.1 ≤ h.1 ∧ am_sl h0 ≤ am_sl h ∧ h.1 - h0.1 ≤ R.cells ∧ am_sl h - am_sl h0 ≤ R.slots
theorem lay_good {C : String} {T : u_T} {k : Nat} : goodWord (u_lay C T k) = true := by
  unfold u_lay
  split <;> rfl
theorem tb_layg {c : Nat} (hc : c < 13) : ∀ w ∈ u_ws (am_q c).1 (am_q c).2.1 (am_n c), w ∈ lw_good := by
  intro w hw
  refine lw_good_of (tb_lay c hc w hw) ?_
  obtain ⟨k, -, rfl⟩ := List.mem_map.mp hw
  exact lay_good
section HEAP
variable {p : Program} {l : Launch} {e : Env} {R : Room} {s : State} {m : MethodId} {args : Array Value} {below : List Frame} {meth : Method} {c : Code} {Q : State → Prop} {cc : ByteArray} {nL : Nat} {own : String} {ini : Bool} {D : am_D} {h0 : am_H}
theorem am_Fx.w (X : am_Fx p R s m args meth c cc nL own ini D) {w : Cond} (h : w ∈ lw_tbl) (hg : goodWord w = true) : w.before args s = true := X.2.2.2.2.1 _ (lw_good_of h hg)
/-- an object: its cell -/
theorem am_R.obj {h : am_H} {H : Heap} (hR : am_R D s h H) {a k : Nat} (hk : k < 13) (ht : (h.2 a).1 = k) : 3 ≤ a ∧ a < h.1 ∧ ∃ r : Cell, H[am_rho D.1 a]? = some r ∧ r.cls = D.2.1 k ∧ r.vm = .none ∧ (h.2 a).2.1 = am_n k ∧ ∀ j, j < am_n k → r.slots[D.2.2.1 k j]? = some (am_rv D.1 ((h.2 a).2.2 j)) := by
  have h3 := hR.ge (k := a) (by omega) (by omega)
  obtain ⟨hl, r, q1, q2⟩ := hR.2.2.2.2.1 a (by omega)
  subst ht
  rcases q2 with ⟨-, q3, q4, q5, q6⟩ | ⟨q3, -⟩ | ⟨q3, -⟩
  · exact ⟨h3, hl, r, q1, q3, q4, q5, q6⟩
  · omega
  · omega
theorem am_R.arr {h : am_H} {H : Heap} (hR : am_R D s h H) {a t : Nat} (h20 : 20 ≤ t) (h25 : t ≤ 25) (ht : (h.2 a).1 = t) : 3 ≤ a ∧ a < h.1 ∧ H[am_rho D.1 a]? = some (arrV (D.2.2.2 t) (h.2 a).2.1 (fun j => am_rv D.1 ((h.2 a).2.2 j))) ∧ (t = 20 → ∀ j, j < (h.2 a).2.1 → ∃ v : Int, (h.2 a).2.2 j = vI v) := by
  have h3 := hR.ge (k := a) (by omega) (by omega)
  obtain ⟨hl, r, q1, q2⟩ := hR.2.2.2.2.1 a (by omega)
  subst ht
  rcases q2 with ⟨q3, -⟩ | ⟨-, -, q3, q4⟩ | ⟨q3, -⟩
  · omega
  · exact ⟨h3, hl, by rw [← q3]; exact q1, q4⟩
  · omega
theorem am_KA.of {t : Nat} {cA : ClassId} (h : am_KA s t cA) (n : Nat) (f : Nat → Value) : s.isArrayOf (arrV cA n f) (am_at t) := by
  obtain ⟨-, kA, comp, h2, h3, -⟩ := h
  exact ⟨fun k q => (by cases q), kA, h2, comp, h3⟩
theorem at_get (X : am_Fx p R s m args meth c cc nL own ini D) {G : am_G} {i k j z pc : Nat} (hl : am_fl own i k j) {x y : am_S} (hd : decode cc pc = .ok (.getfield i, 3)) (hev : am_I1 G (.getfield i, k, j, z) x = some y) (kk : am_At p l e R s m args below meth c Q D nL h0 y (pc + 3)) : am_At p l e R s m args below meth c Q D nL h0 x pc := by
  obtain ⟨hc, hj, hw⟩ := hl
  obtain ⟨ls, st, h⟩ := x
  rcases st with _ | ⟨v | (_ | a) | v | v, st⟩ <;> simp only [am_I1] at hev <;> try cases hev
  by_cases ht : (h.2 a).1 = k
  · simp only [if_pos ht] at hev
    cases hev
    intro LS H locs hls hR hf
    obtain ⟨-, -, r, q1, q2, q3, q4, q5⟩ := hR.obj hc ht
    obtain ⟨hS, hfc, kC, hkC, hkind⟩ := X.2.2.2.2.2.1.1.1 k _ (tb_q k hc).1
    rw [(tb_q k hc).2] at hS
    obtain ⟨cf, kf, fi, f, hi, hsl⟩ := hS j hj
    have hst := (u_facts hfc hkC (u_lays X.2.2.2.2.1 (tb_layg hc) hj) hi).1
    exact W.getf (v := am_rv D.1 ((h.2 a).2.2 j)) X.1 X.2.1 X.2.2.2.1 (X.w hw rfl) hi hst q1 (by rw [q3]; exact fun q => by cases q) (by rw [hsl]; exact q5 j hj) rfl rfl hd (kk LS H locs hls hR hf)
  · simp only [if_neg ht] at hev
    cases hev
theorem am_fit_ok {ty : FieldType} {v : am_V} (h : am_fit (am_fk ty) v = true) : narrow ty (am_rv D.1 v) = am_rv D.1 v ∧ fits ty (am_rv D.1 v) = true := by
  cases ty <;> rcases v with x | (_ | x) | x | x <;> simp only [am_fk, am_fit] at h <;> first | (cases h; done) | exact ⟨rfl, rfl⟩ | skip
  all_goals
    rcases of_decide_eq_true h with rfl | rfl <;> exact ⟨rfl, rfl⟩
theorem at_put (X : am_Fx p R s m args meth c cc nL own ini D) {G : am_G} {i k j z pc : Nat} (hl : am_fl own i k j) (hfk : am_fk (am_ty k j) = z) (hfin : ((am_q k).2.1 j).2.2.2 = false ∨ (ini = true ∧ ((am_q k).2.1 j).2.2.2 = true ∧ ((am_q k).2.1 j).1 = own)) {x y : am_S} (hd : decode cc pc = .ok (.putfield i, 3)) (hev : am_I1 G (.putfield i, k, j, z) x = some y) (kk : am_At p l e R s m args below meth c Q D nL h0 y (pc + 3)) : am_At p l e R s m args below meth c Q D nL h0 x pc := by
  obtain ⟨hc, hj, hw⟩ := hl
  obtain ⟨ls, st, h⟩ := x
  rcases st with _ | ⟨v, _ | ⟨a | (_ | a) | a | a, st⟩⟩ <;> simp only [am_I1] at hev <;> try cases hev
  by_cases ht : (h.2 a).1 = k ∧ am_fit z v = true
  · simp only [if_pos ht] at hev
    cases hev
    intro LS H locs hls hR hf
    obtain ⟨h3, hlt, r, q1, q2, q3, q4, q5⟩ := hR.obj hc ht.1
    have hap := va_apart (own := own) X.2.2.2.2.1 (tb_layg hc) (am_ty k) (tb_ty k hc) (tb_nm k hc) X.2.2.2.2.2.1.1 (by rw [(tb_q k hc).1, ← (tb_q k hc).2])
    obtain ⟨hS, hfc, kC, hkC, hkind⟩ := X.2.2.2.2.2.1.1.1 k _ (tb_q k hc).1
    rw [(tb_q k hc).2] at hS
    obtain ⟨cf, kf, fi, f, hi, hsl⟩ := hS j hj
    have hst := (u_facts hfc hkC (u_lays X.2.2.2.2.1 (tb_layg hc) hj) hi).1
    have hfit := am_fit_ok (D := D) (ty := am_ty k j) (v := v) (by rw [hfk]; exact ht.2)
    have hlay := X.2.2.2.2.1 _ (tb_layg hc _ (u_in_lay hj))
    unfold u_lay at hlay
    have hdone : ∀ H' : Heap, H'[am_rho D.1 a]? = some (r.setSlot f.slot (am_rv D.1 v)) → H'.size = H.size → (∀ q, q ≠ am_rho D.1 a → H'[q]? = H[q]?) → W p l e R s m args below meth c H' (locs ++ [⟨am_rho D.1 a, f.slot⟩]) (h.1 - h0.1) (am_sl h - am_sl h0) Q (F0 m (pc + 3) LS (st.map (am_rv D.1))) := by
      intro H' e1 e2 e3
      have hR' : am_R D s (am_put h a (k, (h.2 a).2.1, au (h.2 a).2.2 j v)) H' := by
        refine hR.put h3 hlt (r := r.setSlot f.slot (am_rv D.1 v)) (by show k ≠ 99; omega) (Or.inl ⟨hc, q2, q3, q4, fun i hi => ?_⟩) e1 e2 e3
        have := t_set (V := fun i => am_rv D.1 ((h.2 a).2.2 i)) q5 hap hj (am_rv D.1 v) i hi
        rw [hsl]
        rw [this]
        show some (updV _ _ _ _) = some (am_rv D.1 (au (h.2 a).2.2 j v i))
        by_cases hij : i = j
        · subst hij; rw [au_s]; simp [updV]
        · rw [au_n _ _ hij]; simp [updV, hij]
      have := kk LS H' (locs ++ [⟨am_rho D.1 a, f.slot⟩]) hls hR' (fun q hq => by
        rcases List.mem_append.mp hq with g | g
        · exact hf q g
        · rw [List.mem_singleton.mp g]; show D.1.2.2.2 ≤ am_rho D.1 a; rw [am_rho_ge h3]; omega)
      rw [show am_sl (ls, st, am_put h a (k, (h.2 a).2.1, au (h.2 a).2.2 j v)).2.2 = am_sl h from am_sl_put rfl] at this
      exact this
    rcases hfin with hfin | ⟨hi1, hi2, hi3⟩
    · rw [if_neg (by rw [hfin]; decide)] at hlay
      have h6 := u_store hfc hkC hkind hlay hi (tb_ty k hc j hj) hfit.1 hfit.2
      exact W.putK X.1 X.2.1 (f := f) ⟨X.2.2.2.1, X.w hw rfl, ⟨_, _, _, hi⟩, hst⟩ (by rw [q2]; exact h6) q1 q3 (by rw [hsl]; exact k2_hasslot (q5 j hj)) rfl rfl hd hdone
    · rw [if_pos hi2] at hlay
      have hcf : m.cls = cf := by
        obtain ⟨_, _, c', _, _, _, -, -, hf', -, -, -, hown2, -⟩ := Cond.laysFinal_spec hlay
        have e1 : c' = cf := by have := hi.symm.trans hf'; simp at this; exact this.1.symm
        rw [hi3] at hown2
        rw [← e1]; exact Option.some.inj (X.2.2.2.1.symm.trans hown2)
      have h6 := u_fits hfc hkC hkind (Or.inr hlay) hi (tb_ty k hc j hj) hfit.1 hfit.2
      exact W.putFinK X.1 X.2.1 X.2.2.2.1 (X.w hw rfl) hi hst hcf (X.2.2.2.2.2.2.2.2 hi1) (by rw [q2]; exact h6) q1 q3 (by rw [hsl]; exact k2_hasslot (q5 j hj)) rfl rfl hd hdone
  · simp only [if_neg ht] at hev
    cases hev
theorem at_gets (X : am_Fx p R s m args meth c cc nL own ini D) {G : am_G} {i k j z pc : Nat} (hl : (k = 1 ∧ Cond.fieldLink own i "WeylWords$Operator" "X_AT" "[I" ∈ lw_tbl) ∨ (k = 2 ∧ Cond.fieldLink own i "WeylWords$Operator" "D_AT" "[I" ∈ lw_tbl)) {x y : am_S} (hd : decode cc pc = .ok (.getstatic i, 3)) (hev : am_I1 G (.getstatic i, k, j, z) x = some y) (kk : am_At p l e R s m args below meth c Q D nL h0 y (pc + 3)) : am_At p l e R s m args below meth c Q D nL h0 x pc := by
  simp only [am_I1] at hev
  cases hev
  intro LS H locs hls hR hf
  rcases hl with ⟨rfl, hw⟩ | ⟨rfl, hw⟩
  · obtain ⟨cf, kf, fi, f, a, cell, g1, g2, g3, g4, g5, g6, g7, g8⟩ := hR.2.2.2.2.2.1
    exact W.gets X.1 X.2.1 X.2.2.2.1 (X.w hw rfl) g1 g2 g3 g4 g5 (fun q => by rw [q] at g6; cases g6) g7 rfl hd (kk LS H locs hls hR hf)
  · obtain ⟨cf, kf, fi, f, a, cell, g1, g2, g3, g4, g5, g6, g7, g8⟩ := hR.2.2.2.2.2.2
    exact W.gets X.1 X.2.1 X.2.2.2.1 (X.w hw rfl) g1 g2 g3 g4 g5 (fun q => by rw [q] at g6; cases g6) g7 rfl hd (kk LS H locs hls hR hf)
theorem am_aload_eq {t : Nat → Bool} {x y : am_S} (hev : am_aload t x = some y) : ∃ ls st h i a, x = (ls, vI i :: vR a :: st, h) ∧ t (h.2 a).1 = true ∧ 0 ≤ i ∧ i < (h.2 a).2.1 ∧ (h.2 a).2.1 ≤ 100000 ∧ y = (ls, (h.2 a).2.2 i.toNat :: st, h) := by
  obtain ⟨ls, st, h⟩ := x
  rcases st with _ | ⟨i | i, _ | ⟨a | (_ | a) | a | a, st⟩⟩ <;> simp only [am_aload] at hev <;> try cases hev
  by_cases hc : t (h.2 a).1 = true ∧ 0 ≤ i ∧ i < (h.2 a).2.1 ∧ (h.2 a).2.1 ≤ 100000
  · simp only [if_pos hc] at hev
    cases hev
    exact ⟨ls, st, h, i, a, rfl, hc.1, hc.2.1, hc.2.2.1, hc.2.2.2, rfl⟩
  · simp only [if_neg hc] at hev
    cases hev
theorem at_iald (X : am_Fx p R s m args meth c cc nL own ini D) {pc : Nat} {x y : am_S} (hd : decode cc pc = .ok (.iaload, 1)) (hev : am_aload (fun t => t == 20 || t == 30) x = some y) (kk : am_At p l e R s m args below meth c Q D nL h0 y (pc + 1)) : am_At p l e R s m args below meth c Q D nL h0 x pc := by
  obtain ⟨ls, st, h, i, a, rfl, ht, h1, h2, h3, rfl⟩ := am_aload_eq hev
  intro LS H locs hls hR hf
  have hR : am_R D s h H := hR
  have hn := i32_nat h1 (show i ≤ 2147483647 by omega)
  have ht : (h.2 a).1 = 20 ∨ (h.2 a).1 = 30 := by simpa using ht
  rcases ht with ht | ht
  · obtain ⟨-, -, q1, -⟩ := hR.arr (t := 20) (by omega) (by omega) ht
    refine W.iald (v := am_rv D.1 ((h.2 a).2.2 i.toNat)) X.1 X.2.1 q1 ((X.2.2.2.2.2.1.2.1 20 (by omega) (by omega)).of _ _) (fun q => by cases q) (by rw [arrV_size]; exact i32_idx h1 h2 h3) (by rw [hn, arrV_read _ _ (by omega)]) rfl rfl hd (kk LS H locs hls hR hf)
  · obtain ⟨-, r, q1, q2⟩ := hR.2.2.2.2.1 a (by omega)
    rcases q2 with ⟨q3, -⟩ | ⟨q3, q4, -⟩ | ⟨-, q3, q4, q5, q6⟩
    · omega
    · omega
    · exact W.iald (v := am_rv D.1 ((h.2 a).2.2 i.toNat)) X.1 X.2.1 q1 q3 q4 (fun w => i32_idx h1 h2 h3 (by rcases w with w | w; exact Or.inl w; exact Or.inr (Nat.le_trans q5.1 w))) (by rw [hn]; exact q6 _ (by omega)) rfl rfl hd (kk LS H locs hls hR hf)
theorem at_bald (X : am_Fx p R s m args meth c cc nL own ini D) {pc : Nat} {x y : am_S} (hd : decode cc pc = .ok (.baload, 1)) (hev : am_aload (fun t => t == 21) x = some y) (kk : am_At p l e R s m args below meth c Q D nL h0 y (pc + 1)) : am_At p l e R s m args below meth c Q D nL h0 x pc := by
  obtain ⟨ls, st, h, i, a, rfl, ht, h1, h2, h3, rfl⟩ := am_aload_eq hev
  intro LS H locs hls hR hf
  have hR : am_R D s h H := hR
  have hn := i32_nat h1 (show i ≤ 2147483647 by omega)
  have ht : (h.2 a).1 = 21 := by simpa using ht
  obtain ⟨-, -, q1, -⟩ := hR.arr (t := 21) (by omega) (by omega) ht
  refine W.zald (v := am_rv D.1 ((h.2 a).2.2 i.toNat)) X.1 X.2.1 q1 ((X.2.2.2.2.2.1.2.1 21 (by omega) (by omega)).of _ _) (fun q => by cases q) (by rw [arrV_size]; exact i32_idx h1 h2 h3) (by rw [hn, arrV_read _ _ (by omega)]) rfl rfl hd (kk LS H locs hls hR hf)
theorem am_at_ref {t : Nat} (h1 : 22 ≤ t) (h2 : t ≤ 25) : (am_at t).isReference = true := by
  rcases (show t = 22 ∨ t = 23 ∨ t = 24 ∨ t = 25 by omega) with rfl | rfl | rfl | rfl <;> rfl
theorem at_aald (X : am_Fx p R s m args meth c cc nL own ini D) {pc : Nat} {x y : am_S} (hd : decode cc pc = .ok (.aaload, 1)) (hev : am_aload (fun t => decide (22 ≤ t ∧ t ≤ 25)) x = some y) (kk : am_At p l e R s m args below meth c Q D nL h0 y (pc + 1)) : am_At p l e R s m args below meth c Q D nL h0 x pc := by
  obtain ⟨ls, st, h, i, a, rfl, ht, h1, h2, h3, rfl⟩ := am_aload_eq hev
  intro LS H locs hls hR hf
  have hR : am_R D s h H := hR
  have hn := i32_nat h1 (show i ≤ 2147483647 by omega)
  have ht : 22 ≤ (h.2 a).1 ∧ (h.2 a).1 ≤ 25 := of_decide_eq_true ht
  obtain ⟨-, -, q1, -⟩ := hR.arr (by omega) ht.2 rfl
  refine W.aald (v := am_rv D.1 ((h.2 a).2.2 i.toNat)) X.1 X.2.1 q1 ((X.2.2.2.2.2.1.2.1 _ (by omega) ht.2).of _ _) (am_at_ref ht.1 ht.2) (fun q => by cases q) (by rw [arrV_size]; exact i32_idx h1 h2 h3) (by rw [hn, arrV_read _ _ (by omega)]) rfl rfl hd (kk LS H locs hls hR hf)
/-- behind a store into a row -/
theorem am_R.store {h : am_H} {H H' : Heap} (hR : am_R D s h H) {a t i : Nat} (h20 : 20 ≤ t) (h25 : t ≤ 25) (ht : (h.2 a).1 = t) {v : am_V} (hv : t = 20 → ∃ z : Int, v = vI z) (hi : i < (h.2 a).2.1)
    (e1 : H'[am_rho D.1 a]? = some ((arrV (D.2.2.2 t) (h.2 a).2.1 (fun j => am_rv D.1 ((h.2 a).2.2 j))).setSlot i (am_rv D.1 v))) (e2 : H'.size = H.size) (e3 : ∀ q, q ≠ am_rho D.1 a → H'[q]? = H[q]?) : am_R D s (am_put h a (t, (h.2 a).2.1, au (h.2 a).2.2 i v)) H' := by
  obtain ⟨h3, hl, q1, q2⟩ := hR.arr h20 h25 ht
  refine hR.put h3 hl (by show t ≠ 99; omega) (Or.inr (Or.inl ⟨h20, h25, ?_, fun h j hj => ?_⟩)) e1 e2 e3
  · rw [arrV_store]
    congr 1
    funext j
    show updV _ _ _ _ = am_rv D.1 (au (h.2 a).2.2 i v j)
    by_cases hij : j = i
    · subst hij; rw [au_s]; simp [updV]
    · rw [au_n _ _ hij]; simp [updV, hij]
  · have h : t = 20 := h
    show ∃ z : Int, au (_) i v j = vI z
    by_cases hij : j = i
    · subst hij; rw [au_s]; exact hv h
    · rw [au_n _ _ hij]; exact q2 h j hj
theorem am_store_at {h : am_H} {H' : Heap} {locs : List Loc} {a t i : Nat} {v : am_V} {LS : Array Slot} {ls st : List am_V} {pc : Nat} (hls : am_ls D.1 nL ls LS) (h3 : 3 ≤ a) (hR : am_R D s (am_put h a (t, (h.2 a).2.1, au (h.2 a).2.2 i v)) H') (hf : ∀ q ∈ locs, D.1.2.2.2 ≤ q.base)
    (kk : am_At p l e R s m args below meth c Q D nL h0 (ls, st, am_put h a (t, (h.2 a).2.1, au (h.2 a).2.2 i v)) pc) : W p l e R s m args below meth c H' (locs ++ [⟨am_rho D.1 a, i⟩]) (h.1 - h0.1) (am_sl h - am_sl h0) Q (F0 m pc LS (st.map (am_rv D.1))) := by
  have := kk LS H' (locs ++ [⟨am_rho D.1 a, i⟩]) hls hR (fun q hq => by
    rcases List.mem_append.mp hq with g | g
    · exact hf q g
    · rw [List.mem_singleton.mp g]; show D.1.2.2.2 ≤ am_rho D.1 a; rw [am_rho_ge h3]; omega)
  rw [show am_sl (ls, st, am_put h a (t, (h.2 a).2.1, au (h.2 a).2.2 i v)).2.2 = am_sl h from am_sl_put rfl] at this
  exact this
theorem at_iast (X : am_Fx p R s m args meth c cc nL own ini D) {G : am_G} {z : Nat × Nat × Nat} {pc : Nat} {x y : am_S} (hd : decode cc pc = .ok (.iastore, 1)) (hev : am_I1 G (.iastore, z) x = some y) (kk : am_At p l e R s m args below meth c Q D nL h0 y (pc + 1)) : am_At p l e R s m args below meth c Q D nL h0 x pc := by
  obtain ⟨ls, st, h⟩ := x
  rcases st with _ | ⟨v | v, _ | ⟨i | i, _ | ⟨a | (_ | a) | a | a, st⟩⟩⟩ <;> simp only [am_I1] at hev <;> try cases hev
  by_cases hc : (h.2 a).1 = 20 ∧ 0 ≤ i ∧ i < (h.2 a).2.1 ∧ (h.2 a).2.1 ≤ 100000
  · simp only [if_pos hc] at hev
    cases hev
    obtain ⟨ht, h1, h2, h3⟩ := hc
    intro LS H locs hls hR hf
    have hR : am_R D s h H := hR
    have hn := i32_nat h1 (show i ≤ 2147483647 by omega)
    obtain ⟨g3, -, q1, -⟩ := hR.arr (t := 20) (by omega) (by omega) ht
    refine W.iast X.1 X.2.1 q1 ((X.2.2.2.2.2.1.2.1 20 (by omega) (by omega)).of _ _) (fun q => by cases q) (by rw [arrV_size]; exact i32_idx h1 h2 h3) rfl rfl hd fun H' e1 e2 e3 => ?_
    rw [hn] at e1 ⊢
    exact am_store_at hls g3 (hR.store (by omega) (by omega) ht (v := vI v) (fun _ => ⟨v, rfl⟩) (by omega) e1 e2 e3) hf kk
  · simp only [if_neg hc] at hev
    cases hev
theorem at_bast (X : am_Fx p R s m args meth c cc nL own ini D) {G : am_G} {z : Nat × Nat × Nat} {pc : Nat} {x y : am_S} (hd : decode cc pc = .ok (.bastore, 1)) (hev : am_I1 G (.bastore, z) x = some y) (kk : am_At p l e R s m args below meth c Q D nL h0 y (pc + 1)) : am_At p l e R s m args below meth c Q D nL h0 x pc := by
  obtain ⟨ls, st, h⟩ := x
  rcases st with _ | ⟨v | v, _ | ⟨i | i, _ | ⟨a | (_ | a) | a | a, st⟩⟩⟩ <;> simp only [am_I1] at hev <;> try cases hev
  by_cases hc : (h.2 a).1 = 21 ∧ 0 ≤ i ∧ i < (h.2 a).2.1 ∧ (h.2 a).2.1 ≤ 100000 ∧ (v = 0 ∨ v = 1)
  · simp only [if_pos hc] at hev
    cases hev
    obtain ⟨ht, h1, h2, h3, h4⟩ := hc
    intro LS H locs hls hR hf
    have hR : am_R D s h H := hR
    have hn := i32_nat h1 (show i ≤ 2147483647 by omega)
    obtain ⟨g3, -, q1, -⟩ := hR.arr (t := 21) (by omega) (by omega) ht
    refine W.zast X.1 X.2.1 q1 ((X.2.2.2.2.2.1.2.1 21 (by omega) (by omega)).of _ _) (fun q => by cases q) (by rw [arrV_size]; exact i32_idx h1 h2 h3) rfl rfl hd fun H' e1 e2 e3 => ?_
    rw [show narrow .boolean (.int (Int32.ofInt v)) = am_rv D.1 (vI v) by rcases h4 with rfl | rfl <;> rfl, hn] at e1
    rw [hn]
    exact am_store_at hls g3 (hR.store (by omega) (by omega) ht (v := vI v) (fun q => by omega) (by omega) e1 e2 e3) hf kk
  · simp only [if_neg hc] at hev
    cases hev
end HEAP
end
section
/-! One step of the abstract machine is one of the machine: rows of references, lengths, what is made, arraycopy. -/
section HEAP2
variable {p : Program} {l : Launch} {e : Env} {R : Room} {s : State} {m : MethodId} {args : Array Value} {below : List Frame} {meth : Method} {c : Code} {Q : State → Prop} {cc : ByteArray} {nL : Nat} {own : String} {ini : Bool} {D : am_D} {h0 : am_H}
theorem am_assign (vm : Vm) (c : ClassId) : vm.assignable c c = true := by
  show vm.assignableAux (255 + 1) c c = true
  unfold Vm.assignableAux
  simp
/-- what a row of references takes: the cell's own number is that of the row's component -/
theorem am_el_cls (hK : am_K D s) {h : am_H} {H : Heap} (hR : am_R D s h H) {t v : Nat} (h1 : 22 ≤ t) (h2 : t ≤ 25) (hv : (h.2 v).1 = am_el t) : ∃ (kA kC : Class) (comp : ClassId) (cv : Cell), s.vm.classes[D.2.2.2 t]? = some kA ∧ kA.kind = .array comp (am_at t) ∧ H[am_rho D.1 v]? = some cv ∧ cv.cls = comp ∧ (∀ q, cv.vm ≠ .statics q) ∧ s.vm.classes[comp]? = some kC := by
  obtain ⟨-, kA, comp, k1, k2, k3⟩ := hK.2.1 t (by omega) h2
  have k3 := k3 h1
  by_cases h22 : t = 22
  · subst h22
    obtain ⟨g1, kI, ci, g2, g3, -⟩ := hK.2.1 20 (by omega) (by omega)
    have hc : comp = D.2.2.2 20 := Option.some.inj (k3.symm.trans g1)
    subst hc
    obtain ⟨-, -, q1, -⟩ := hR.arr (t := 20) (by omega) (by omega) hv
    exact ⟨kA, kI, _, _, k1, k2, q1, rfl, fun q w => (by cases w), g2⟩
  · have hel : am_el t < 13 ∧ (am_q (am_el t)).1 = am_cn t := by
      rcases (show t = 23 ∨ t = 24 ∨ t = 25 by omega) with rfl | rfl | rfl <;> exact ⟨by decide, rfl⟩
    obtain ⟨-, -, r, q1, q2, q3, -⟩ := hR.obj hel.1 hv
    obtain ⟨-, hfc, kC, hkC, -⟩ := hK.1.1 (am_el t) _ (tb_q _ hel.1).1
    rw [hel.2] at hfc
    have hc : comp = D.2.1 (am_el t) := Option.some.inj (k3.symm.trans hfc)
    subst hc
    exact ⟨kA, kC, _, r, k1, k2, q1, q2, fun q w => (by rw [q3] at w; cases w), hkC⟩
theorem at_aast (X : am_Fx p R s m args meth c cc nL own ini D) {G : am_G} {z : Nat × Nat × Nat} {pc : Nat} {x y : am_S} (hd : decode cc pc = .ok (.aastore, 1)) (hev : am_I1 G (.aastore, z) x = some y) (kk : am_At p l e R s m args below meth c Q D nL h0 y (pc + 1)) : am_At p l e R s m args below meth c Q D nL h0 x pc := by
  obtain ⟨ls, st, h⟩ := x
  rcases st with _ | ⟨v | (_ | v) | v | v, _ | ⟨i | i, _ | ⟨a | (_ | a) | a | a, st⟩⟩⟩ <;> simp only [am_I1] at hev <;> try cases hev
  by_cases hc : 22 ≤ (h.2 a).1 ∧ (h.2 a).1 ≤ 25 ∧ (h.2 v).1 = am_el (h.2 a).1 ∧ 0 ≤ i ∧ i < (h.2 a).2.1 ∧ (h.2 a).2.1 ≤ 100000
  · simp only [if_pos hc] at hev
    cases hev
    obtain ⟨t1, t2, t3, h1, h2, h3⟩ := hc
    intro LS H locs hls hR hf
    have hR : am_R D s h H := hR
    have hn := i32_nat h1 (show i ≤ 2147483647 by omega)
    obtain ⟨g3, -, q1, -⟩ := hR.arr (by omega) t2 rfl
    obtain ⟨kA, kC, comp, cv, w1, w2, w3, w4, w5, w6⟩ := am_el_cls X.2.2.2.2.2.1 hR t1 t2 t3
    have hin := i32_idx h1 h2 h3
    refine W.aast X.1 X.2.1 q1 (fun q w => by cases w) (fun w => by cases w) w1 w2 (am_at_ref t1 t2) w6 ⟨fun w => hin (Or.inl w), by rw [arrV_size]; exact Nat.not_le.mp fun w => hin (Or.inr w)⟩ w3 w5 (by rw [w4]; exact w6) (by rw [w4]; exact am_assign _ _) rfl rfl hd fun H' e1 e2 e3 => ?_
    rw [hn] at e1 ⊢
    exact am_store_at hls g3 (hR.store (by omega) t2 rfl (v := vR v) (fun q => by omega) (by omega) e1 e2 e3) hf kk
  · simp only [if_neg hc] at hev
    cases hev
theorem at_alen (X : am_Fx p R s m args meth c cc nL own ini D) {G : am_G} {z : Nat × Nat × Nat} {pc : Nat} {x y : am_S} (hd : decode cc pc = .ok (.arraylength, 1)) (hev : am_I1 G (.arraylength, z) x = some y) (kk : am_At p l e R s m args below meth c Q D nL h0 y (pc + 1)) : am_At p l e R s m args below meth c Q D nL h0 x pc := by
  obtain ⟨ls, st, h⟩ := x
  rcases st with _ | ⟨a | (_ | a) | a | a, st⟩ <;> simp only [am_I1] at hev <;> try cases hev
  by_cases hc : (h.2 a).1 = 20 ∨ (h.2 a).1 = 30
  · simp only [if_pos hc] at hev
    cases hev
    intro LS H locs hls hR hf
    have hR : am_R D s h H := hR
    rcases hc with ht | ht
    · obtain ⟨-, -, q1, -⟩ := hR.arr (t := 20) (by omega) (by omega) ht
      exact W.alen (n := Int32.ofInt (h.2 a).2.1) X.1 X.2.1 q1 ((X.2.2.2.2.2.1.2.1 20 (by omega) (by omega)).of _ _) (by rw [arrV_size]; rfl) rfl rfl hd (kk LS H locs hls hR hf)
    · obtain ⟨-, r, q1, q2⟩ := hR.2.2.2.2.1 a (by omega)
      rcases q2 with ⟨q3, -⟩ | ⟨q3, q4, -⟩ | ⟨-, q3, q4, q5, q6⟩
      · omega
      · omega
      · exact W.alen (n := Int32.ofInt (h.2 a).2.1) X.1 X.2.1 q1 q3 (by rw [q5.2]; rfl) rfl rfl hd (kk LS H locs hls hR hf)
  · simp only [if_neg hc] at hev
    cases hev
/-- behind what is made -/
theorem am_new_at {h : am_H} {H' : Heap} {locs : List Loc} {x : am_C} {LS : Array Slot} {ls st : List am_V} {pc n : Nat} (hB : am_B R h0 h) (hn : x.2.1 = n) (hls : am_ls D.1 nL ls LS) (hR : am_R D s (am_new h x) H') (hf : ∀ q ∈ locs, D.1.2.2.2 ≤ q.base)
    (kk : am_At p l e R s m args below meth c Q D nL h0 (ls, vR h.1 :: st, am_new h x) pc) {a : Nat} (ha : am_rho D.1 h.1 = a) : W p l e R s m args below meth c H' locs (h.1 - h0.1 + 1) (am_sl h - am_sl h0 + n) Q (F0 m pc LS (.ref a :: st.map (am_rv D.1))) := by
  have := kk LS H' locs hls hR hf
  have e1 : (am_new h x).1 - h0.1 = h.1 - h0.1 + 1 := by show h.1 + 1 - h0.1 = _; have := hB.1; omega
  have e2 : am_sl (am_new h x) - am_sl h0 = am_sl h - am_sl h0 + n := by rw [am_sl_new, hn]; have := hB.2.1; omega
  rw [show (ls, vR h.1 :: st, am_new h x).2.2 = am_new h x from rfl, e1, e2] at this
  rw [← ha]
  exact this
theorem am_B.room {h : am_H} {x : am_C} (hB : am_B R h0 h) (hB' : am_B R h0 (am_new h x)) : h.1 - h0.1 + 1 ≤ R.cells ∧ am_sl h - am_sl h0 + x.2.1 ≤ R.slots := by
  obtain ⟨h1, h2, -, -⟩ := hB
  obtain ⟨-, -, h3, h4⟩ := hB'
  rw [am_sl_new] at h4
  have h3 : h.1 + 1 - h0.1 ≤ R.cells := h3
  exact ⟨by omega, by omega⟩
theorem am_rho_size {h : am_H} {H : Heap} (hR : am_R D s h H) : am_rho D.1 h.1 = H.size := by
  rw [am_rho_ge hR.1]
  have := hR.2.1
  have := hR.1
  omega
theorem at_newa (X : am_Fx p R s m args meth c cc nL own ini D) {G : am_G} {t : ArrayType} {k j z pc : Nat} (hl : (t = .int ∧ k = 20) ∨ (t = .boolean ∧ k = 21)) {x y : am_S} (hB : am_B R h0 x.2.2) (hB' : am_B R h0 y.2.2) (hd : decode cc pc = .ok (.newarray t, 2)) (hev : am_I1 G (.newarray t, k, j, z) x = some y) (kk : am_At p l e R s m args below meth c Q D nL h0 y (pc + 2)) : am_At p l e R s m args below meth c Q D nL h0 x pc := by
  obtain ⟨ls, st, h⟩ := x
  rcases st with _ | ⟨n | n, st⟩ <;> simp only [am_I1] at hev <;> try cases hev
  by_cases hc : 0 ≤ n ∧ n ≤ 100000
  · simp only [if_pos hc] at hev
    cases hev
    intro LS H locs hls hR hf
    have hR : am_R D s h H := hR
    have hB : am_B R h0 h := hB
    have hn := i32_nat hc.1 (show n ≤ 2147483647 by omega)
    have h0' : ¬ Int32.ofInt n < 0 := by rw [i32_0, i32_lt ⟨by omega, by omega⟩ inR_0]; omega
    obtain ⟨r1, r2⟩ := hB.room hB'
    have hk : 20 ≤ k ∧ k ≤ 25 ∧ newarray.typeOf t = am_at k ∧ (Cond.arrayClass (newarray.typeOf t)).before args s = true ∧ defaultValue (newarray.typeOf t) = .int 0 ∧ componentBytes (newarray.typeOf t) ≤ 4 := by
      rcases hl with ⟨rfl, rfl⟩ | ⟨rfl, rfl⟩
      · exact ⟨by omega, by omega, rfl, X.w tb_ai rfl, rfl, by decide⟩
      · exact ⟨by omega, by omega, rfl, X.w tb_ab rfl, rfl, by decide⟩
    refine W.newa (n := Int32.ofInt n) X.1 X.2.1 hk.2.2.2.1 rfl hd rfl h0' (by rw [hn]; have := Nat.mul_le_mul (show n.toNat ≤ 100000 by omega) hk.2.2.2.2.2; omega) r1 (by rw [hn]; exact r2) fun cA kA comp f1 f2 f3 => ?_
    have hcA : cA = D.2.2.2 k := by
      have g := (X.2.2.2.2.2.1.2.1 k hk.1 hk.2.1).1
      rw [← hk.2.2.1] at g
      exact Option.some.inj (f1.symm.trans g)
    subst hcA
    rw [hn]
    refine am_new_at hB rfl hls (hR.new (r := arrV (D.2.2.2 k) n.toNat (fun _ => .int 0)) (by show k ≠ 99; omega) (Or.inr (Or.inl ⟨hk.1, hk.2.1, rfl, fun _ _ _ => ⟨0, rfl⟩⟩)) ?_ ?_ ?_) hf kk (am_rho_size hR)
    · rw [hk.2.2.2.2.1, Array.getElem?_push_size, ← arrV_new]
    · rw [Array.size_push]
    · exact fun q hq => by rw [Array.getElem?_push, if_neg (Nat.ne_of_lt hq)]
  · simp only [if_neg hc] at hev
    cases hev
theorem at_anew (X : am_Fx p R s m args meth c cc nL own ini D) {G : am_G} {i k j z pc : Nat} (hl : 23 ≤ k ∧ k ≤ 25 ∧ Cond.classLink own i (am_cn k) ∈ lw_tbl) {x y : am_S} (hB : am_B R h0 x.2.2) (hB' : am_B R h0 y.2.2) (hd : decode cc pc = .ok (.anewarray i, 3)) (hev : am_I1 G (.anewarray i, k, j, z) x = some y) (kk : am_At p l e R s m args below meth c Q D nL h0 y (pc + 3)) : am_At p l e R s m args below meth c Q D nL h0 x pc := by
  obtain ⟨ls, st, h⟩ := x
  rcases st with _ | ⟨n | n, st⟩ <;> simp only [am_I1] at hev <;> try cases hev
  by_cases hc : 0 ≤ n ∧ n ≤ 100000
  · simp only [if_pos hc] at hev
    cases hev
    intro LS H locs hls hR hf
    have hR : am_R D s h H := hR
    have hB : am_B R h0 h := hB
    have hn := i32_nat hc.1 (show n ≤ 2147483647 by omega)
    have h0' : ¬ Int32.ofInt n < 0 := by rw [i32_0, i32_lt ⟨by omega, by omega⟩ inR_0]; omega
    obtain ⟨r1, r2⟩ := hB.room hB'
    have hat : am_at k = .object (am_cn k) := by
      rcases (show k = 23 ∨ k = 24 ∨ k = 25 by omega) with rfl | rfl | rfl <;> rfl
    refine W.anew (n := Int32.ofInt n) X.1 X.2.1 X.2.2.2.1 (X.w hl.2.2 rfl) (X.2.2.2.2.2.1.2.2 _ (tb_ao k hl.1 hl.2.1) rfl) rfl hd rfl h0' (by rw [hn]; omega) r1 (by rw [hn]; exact r2) fun cA kA comp f1 f2 f3 f4 => ?_
    have hcA : cA = D.2.2.2 k := by
      have g := (X.2.2.2.2.2.1.2.1 k (by omega) hl.2.1).1
      rw [hat] at g
      exact Option.some.inj (f1.symm.trans g)
    subst hcA
    rw [hn]
    refine am_new_at hB rfl hls (hR.new (r := arrV (D.2.2.2 k) n.toNat (fun _ => .null)) (by show k ≠ 99; omega) (Or.inr (Or.inl ⟨by show 20 ≤ k; omega, hl.2.1, rfl, fun w => by have w : k = 20 := w; omega⟩)) ?_ ?_ ?_) hf kk (am_rho_size hR)
    · rw [Array.getElem?_push_size, ← arrV_new]
    · rw [Array.size_push]
    · exact fun q hq => by rw [Array.getElem?_push, if_neg (Nat.ne_of_lt hq)]
  · simp only [if_neg hc] at hev
    cases hev
theorem am_def {ty : FieldType} (h : am_fk ty ≠ 9) : defaultValue ty = am_rv D.1 (defV ty) := by
  cases ty <;> first | rfl | exact absurd rfl h
theorem am_fks : ∀ c, c < 13 → ∀ k, k < am_n c → am_fk (am_ty c k) ≠ 9 := by decide +kernel
theorem at_new (X : am_Fx p R s m args meth c cc nL own ini D) {G : am_G} {i k j z pc : Nat} (hl : k < 13 ∧ Cond.classLink own i (am_q k).1 ∈ lw_tbl) {x y : am_S} (hB : am_B R h0 x.2.2) (hB' : am_B R h0 y.2.2) (hd : decode cc pc = .ok (.new i, 3)) (hev : am_I1 G (.new i, k, j, z) x = some y) (kk : am_At p l e R s m args below meth c Q D nL h0 y (pc + 3)) : am_At p l e R s m args below meth c Q D nL h0 x pc := by
  obtain ⟨ls, st, h⟩ := x
  simp only [am_I1] at hev
  cases hev
  intro LS H locs hls hR hf
  have hR : am_R D s h H := hR
  have hB : am_B R h0 h := hB
  obtain ⟨r1, r2⟩ := hB.room hB'
  have hKn := X.2.2.2.2.2.1.1.1 k _ (tb_q k hl.1).1
  rw [(tb_q k hl.1).2] at hKn
  refine W.newcK (n := am_n k) X.1 X.2.1 X.2.2.2.1 (X.w hl.2 rfl) (X.w (tb_inst k hl.1) rfl) (X.w (tb_ini k hl.1) rfl) rfl hd r1 r2 hKn.2.1 rfl fun H1 kC hkC e1 z1 o1 => ?_
  obtain ⟨cell, b1, b2, b3, b4⟩ := u_born (am_ty k) X.2.2.2.2.1 (tb_layg hl.1) hKn hkC e1 (tb_ty k hl.1)
  exact am_new_at hB rfl hls (hR.new (r := cell) (by show k ≠ 99; have := hl.1; omega) (Or.inl ⟨hl.1, b2, b3, rfl, fun j hj => (b4 j hj).trans (congrArg some (am_def (am_fks k hl.1 j hj)))⟩) b1 z1 o1) hf kk (am_rho_size hR)
theorem at_oini (X : am_Fx p R s m args meth c cc nL own ini D) {G : am_G} {i j z pc : Nat} (hl : Cond.methodLink own i Lib.objectInit ∈ lw_tbl) {x y : am_S} (hd : decode cc pc = .ok (.invokespecial i, 3)) (hev : am_I1 G (.invokespecial i, 998, j, z) x = some y) (kk : am_At p l e R s m args below meth c Q D nL h0 y (pc + 3)) : am_At p l e R s m args below meth c Q D nL h0 x pc := by
  obtain ⟨ls, st, h⟩ := x
  rcases st with _ | ⟨a | (_ | a) | a | a, st⟩ <;> simp only [am_I1, if_true] at hev <;> try cases hev
  by_cases hc : am_cats st ≤ 8
  · simp only [if_pos hc] at hev
    cases hev
    intro LS H locs hls hR hf
    exact W.objInit X.1 X.2.1 X.2.2.2.1 (X.w hl rfl) (X.w tb_oi rfl) (X.w tb_oc rfl) rfl (by rw [X.2.2.1]; exact hls.2.1.1) rfl hd X.2.2.2.2.2.2.1 (by show 2 * 0 + _ + 12 ≤ _; rw [am_cats_eq]; have := X.2.2.2.2.2.2.2.1; omega) (kk LS H locs hls hR hf)
  · simp only [if_neg hc] at hev
    cases hev
theorem at_copy (X : am_Fx p R s m args meth c cc nL own ini D) {i pc : Nat} (hl : Cond.methodLink own i arraycopyName ∈ lw_tbl) {x y : am_S} (hd : decode cc pc = .ok (.invokestatic i, 3)) (hev : am_copy x = some y) (kk : am_At p l e R s m args below meth c Q D nL h0 y (pc + 3)) : am_At p l e R s m args below meth c Q D nL h0 x pc := by
  obtain ⟨ls, st, h⟩ := x
  rcases st with _ | ⟨n | n, _ | ⟨dp | dp, _ | ⟨d | (_ | d) | d | d, _ | ⟨sp | sp, _ | ⟨a | (_ | a) | a | a, st⟩⟩⟩⟩⟩ <;> simp only [am_copy] at hev <;> try cases hev
  by_cases hc : (h.2 a).1 = 20 ∧ (h.2 d).1 = 20 ∧ 0 ≤ sp ∧ 0 ≤ dp ∧ 0 ≤ n ∧ sp + n ≤ (h.2 a).2.1 ∧ dp + n ≤ (h.2 d).2.1 ∧ (h.2 a).2.1 ≤ 100000 ∧ (h.2 d).2.1 ≤ 100000 ∧ am_cats st ≤ 8
  · simp only [if_pos hc] at hev
    cases hev
    obtain ⟨ta, td, c1, c2, c3, c4, c5, c6, c7, c8⟩ := hc
    intro LS H locs hls hR hf
    have hR : am_R D s h H := hR
    have n1 := i32_nat c1 (show sp ≤ 2147483647 by omega)
    have n2 := i32_nat c2 (show dp ≤ 2147483647 by omega)
    have n3 := i32_nat c3 (show n ≤ 2147483647 by omega)
    have i1 : (Int32.ofInt sp).toInt = sp := i32_of ⟨by omega, by omega⟩
    have i2 : (Int32.ofInt dp).toInt = dp := i32_of ⟨by omega, by omega⟩
    have i3 : (Int32.ofInt n).toInt = n := i32_of ⟨by omega, by omega⟩
    obtain ⟨a3, al, qa, va⟩ := hR.arr (t := 20) (by omega) (by omega) ta
    obtain ⟨d3, dl, qd, vd⟩ := hR.arr (t := 20) (by omega) (by omega) td
    obtain ⟨-, kI, ci, k1, k2, -⟩ := X.2.2.2.2.2.1.2.1 20 (by omega) (by omega)
    have neg : ∀ v : Int, 0 ≤ v → v ≤ 100000 → ¬ Int32.ofInt v < 0 := fun v w1 w2 => by rw [i32_0, i32_lt ⟨by omega, by omega⟩ inR_0]; omega
    intro T hT Y
    obtain ⟨vm', Y', step⟩ := Y.arraycopy X.1 X.2.2.2.1 (X.w hl rfl) (X.w tb_cn rfl) (X.w tb_cs rfl) (X.w tb_ci rfl) (src := am_rho D.1 a) (dst := am_rho D.1 d) (cs := arrV (D.2.2.2 20) (h.2 a).2.1 (fun j => am_rv D.1 ((h.2 a).2.2 j))) (cd := arrV (D.2.2.2 20) (h.2 d).2.1 (fun j => am_rv D.1 ((h.2 d).2.2 j))) (srcPos := Int32.ofInt sp) (destPos := Int32.ofInt dp) (n := Int32.ofInt n) (by rw [hT]; exact qa) (by rw [hT]; exact qd)
      (fun _ w => by cases w) (fun _ w => by cases w) (fun w => by cases w) (fun w => by cases w) k1 k1 k2 k2 (by decide) (neg sp c1 (by omega)) (neg dp c2 (by omega)) (neg n c3 (by omega))
      (by rw [i1, i3, arrV_size]; omega) (by rw [i2, i3, arrV_size]; omega)
      (fun vm₁ _ j hj => by
        rw [n3] at hj
        have e : (arrV (D.2.2.2 20) (h.2 a).2.1 (fun j => am_rv D.1 ((h.2 a).2.2 j))).slots.getD ((Int32.ofInt sp).toNatClampNeg + j) .null = am_rv D.1 ((h.2 a).2.2 (sp.toNat + j)) := by
          rw [n1, Array.getD_eq_getD_getElem?, arrV_read _ _ (by omega)]
          rfl
        obtain ⟨w, hw⟩ := va rfl (sp.toNat + j) (by omega)
        rw [e, hw]
        exact ⟨rfl, trivial⟩)
      (g := F0 m pc LS (.int (Int32.ofInt n) :: .int (Int32.ofInt dp) :: .ref (am_rho D.1 d) :: .int (Int32.ofInt sp) :: .ref (am_rho D.1 a) :: st.map (am_rv D.1))) rfl (by rw [X.2.2.1]; exact hls.2.1.1) (rest := st.map (am_rv D.1)) rfl (by rw [X.2.1]; exact hd) X.2.2.2.2.2.2.1 (by show 2 * 0 + _ + _ ≤ _; rw [am_cats_eq]; have := X.2.2.2.2.2.2.2.1; show 2 * 0 + _ + (5 + 2 + 11) ≤ _; omega)
    have e1 : copied (arrV (D.2.2.2 20) (h.2 a).2.1 (fun j => am_rv D.1 ((h.2 a).2.2 j))) (arrV (D.2.2.2 20) (h.2 d).2.1 (fun j => am_rv D.1 ((h.2 d).2.2 j))) (Int32.ofInt sp) (Int32.ofInt dp) (Int32.ofInt n) = arrV (D.2.2.2 20) (h.2 d).2.1 (fun j => am_rv D.1 (am_cpy (h.2 a).2.2 (h.2 d).2.2 sp.toNat dp.toNat n.toNat j)) := by
      have := va_copied (fun z => am_rv D.1 z) (D.2.2.2 20) (D.2.2.2 20) (n0 := (h.2 a).2.1) (n1 := (h.2 d).2.1) (sp := sp.toNat) (dp := dp.toNat) (n := n.toNat) (h.2 a).2.2 (h.2 d).2.2 (by omega)
      rw [← n1, ← n2, ← n3] at this
      rw [← n1, ← n2, ← n3]
      exact this
    rw [e1] at Y' step
    have hlt : am_rho D.1 d < H.size := (Array.getElem?_eq_some_iff.mp qd).1
    generalize hH1 : H.setIfInBounds (am_rho D.1 d) (arrV (D.2.2.2 20) (h.2 d).2.1 (fun j => am_rv D.1 (am_cpy (h.2 a).2.2 (h.2 d).2.2 sp.toNat dp.toNat n.toNat j))) = H1
    have hR' : am_R D s (am_put h d (20, (h.2 d).2.1, am_cpy (h.2 a).2.2 (h.2 d).2.2 sp.toNat dp.toNat n.toNat)) H1 := by
      refine hR.put d3 dl (r := arrV (D.2.2.2 20) (h.2 d).2.1 (fun j => am_rv D.1 (am_cpy (h.2 a).2.2 (h.2 d).2.2 sp.toNat dp.toNat n.toNat j))) (by show (20 : Nat) ≠ 99; decide) (Or.inr (Or.inl ⟨by show 20 ≤ 20; omega, by show 20 ≤ 25; omega, rfl, fun _ j hj => ?_⟩)) ?_ ?_ ?_
      · show ∃ v : Int, am_cpy _ _ _ _ _ j = vI v
        unfold am_cpy
        split
        · exact va rfl _ (by omega)
        · exact vd rfl _ hj
      · rw [← hH1]; simp [Array.getElem?_setIfInBounds, hlt]
      · rw [← hH1]; simp
      · intro q hq
        rw [← hH1]; simp [Array.getElem?_setIfInBounds, Ne.symm hq]
    have hk := kk LS H1 (locs ++ ((arrV (D.2.2.2 20) (h.2 a).2.1 (fun j => am_rv D.1 ((h.2 a).2.2 j))).stretch (Int32.ofInt sp).toNatClampNeg (Int32.ofInt n).toNatClampNeg).zipIdx.map fun q => ⟨am_rho D.1 d, (Int32.ofInt dp).toNatClampNeg + q.2⟩) hls hR' (fun q hq => by
      rcases List.mem_append.mp hq with g | g
      · exact hf q g
      · obtain ⟨w, -, hw⟩ := List.mem_map.mp g
        rw [← hw]; show D.1.2.2.2 ≤ am_rho D.1 d; rw [am_rho_ge d3]; omega)
    rw [show am_sl (ls, st, am_put h d (20, (h.2 d).2.1, am_cpy (h.2 a).2.2 (h.2 d).2.2 sp.toNat dp.toNat n.toNat)).2.2 = am_sl h from am_sl_put rfl] at hk
    obtain ⟨t, a1, b1⟩ := hk _ (show ((T.setVm vm').setCell (am_rho D.1 d) _).heap = H1 by rw [← hH1, ← hT]; rfl) Y'
    exact ⟨t, step t a1, b1⟩
  · simp only [if_neg hc] at hev
    cases hev
end HEAP2
end
section
/-! A row of rows of ints: multianewarray of two dimensions. -/
section MULTI
variable {E : CtlPost} {e : Env} {d : Bool} {acts : List Action} {s : State}
theorem mu_newA {c : ClassId} {n : Nat} {k : Class} {comp : ClassId} {ty : FieldType} {v : Value} {Qn : Addr → Pre} (hk : s.vm.classes[c]? = some k) (hkind : k.kind = .array comp ty) (hv : fits ty v = true)
    (hlimit : ¬ n > e.platform.arrayLengthLimit) (hheap : ¬ n * componentBytes ty > e.platform.maxHeapBytes) (h1 : s.heap.size < e.platform.maxCells) (h2 : s.slotsUsed + n ≤ e.platform.maxSlots)
    (hq : ∀ d' acts', Qn s.heap.size d' acts' (s.pushCell { cls := c, slots := Array.replicate n v, vm := .none })) : wp (Jvm.newArray c n v) Qn E e d acts s := by
  have hfit : ∀ i w, (Array.replicate n v)[i]? = some w → s.fitsSlot c .none i w = true := by
    intro i w hw
    simp only [Array.getElem?_replicate] at hw
    split at hw
    · cases hw; simp [State.fitsSlot, State.slotType?, hk, hkind, hv]
    · cases hw
  simp only [Jvm.newArray, Jvm.arrayFits, wp_bind', W.ask, W.ite, hlimit, if_false, wp_pure', W.theClass, hk, hkind, hheap, W.alloc, W.stop, Option.some.injEq, exists_eq_left']
  rw [if_neg (by omega)]
  exact ⟨h1, by simpa using h2, hfit, hq _ _⟩
theorem mu_make1 {c : ClassId} {n : Int32} {k : Class} {comp : ClassId} {ty : FieldType} {Qn : Addr → Pre} (hn : ¬ n < 0) (hk : s.vm.classes[c]? = some k) (hkind : k.kind = .array comp ty) (hv : fits ty (defaultValue ty) = true)
    (hlimit : ¬ n.toNatClampNeg > e.platform.arrayLengthLimit) (hheap : ¬ n.toNatClampNeg * componentBytes ty > e.platform.maxHeapBytes) (h1 : s.heap.size < e.platform.maxCells) (h2 : s.slotsUsed + n.toNatClampNeg ≤ e.platform.maxSlots)
    (hq : ∀ d' acts', Qn s.heap.size d' acts' (s.pushCell { cls := c, slots := Array.replicate n.toNatClampNeg (defaultValue ty), vm := .none })) : wp (multianewarray.make c [n]) Qn E e d acts s := by
  simp only [multianewarray.make, wp_bind', W.ite, hn, if_false, wp_pure', W.theClass, hk, hkind, Option.some.injEq, exists_eq_left']
  exact mu_newA hk hkind hv hlimit hheap h1 h2 hq
end MULTI
section MULTI2
variable {E : CtlPost} {e : Env} {d : Bool} {acts : List Action} {s : State}
theorem mu_make2 {c : ClassId} {n k : Int32} {kc : Class} {comp : ClassId} {Qn : Addr → Pre} (I : Nat → State → Prop) (hn : ¬ n < 0) (hn0 : ¬ n.toNatClampNeg = 0) (hk0 : ¬ k < 0) (hk : s.vm.classes[c]? = some kc) (hkind : kc.kind = .array comp (.array .int))
    (hlimit : ¬ n.toNatClampNeg > e.platform.arrayLengthLimit) (hheap : ¬ n.toNatClampNeg * 4 > e.platform.maxHeapBytes) (h1 : s.heap.size < e.platform.maxCells) (h2 : s.slotsUsed + n.toNatClampNeg ≤ e.platform.maxSlots)
    (h0 : I 0 (s.pushCell { cls := c, slots := Array.replicate n.toNatClampNeg .null, vm := .none }))
    (hstep : ∀ i s' d' acts' (Q' : ForInStep PUnit → Pre), i < n.toNatClampNeg → I i s' → (∀ s'' d'' acts'', I (i + 1) s'' → Q' (ForInStep.yield PUnit.unit) d'' acts'' s'') → wp (do let a ← multianewarray.make comp [k]; Jvm.writeLoc s.heap.size i (.ref a); Pure.pure (ForInStep.yield PUnit.unit)) Q' E e d' acts' s')
    (hq : ∀ s' d' acts', I n.toNatClampNeg s' → Qn s.heap.size d' acts' s') : wp (multianewarray.make c [n, k]) Qn E e d acts s := by
  rw [multianewarray.make]
  simp only [wp_bind', W.ite, hn, if_false, wp_pure', W.theClass, hk, hkind, Option.some.injEq, exists_eq_left']
  refine mu_newA hk hkind rfl hlimit hheap h1 h2 fun d' acts' => ?_
  have hz : (n == 0) = false := by
    rw [beq_eq_false_iff_ne]
    intro q
    subst q
    exact hn0 rfl
  simp only [hz, Bool.false_eq_true, if_false, wp_bind', wp_pure', Std.Legacy.Range.forIn_eq_forIn_range', Std.Legacy.Range.size]
  refine wp_forIn_inv (fun rest s' => ∃ i, i ≤ n.toNatClampNeg ∧ rest = List.range' i (n.toNatClampNeg - i) ∧ I i s') _ _ ⟨0, Nat.zero_le _, by simp, h0⟩ ?_ ?_
  · rintro x rest s' d2 acts2 Q' ⟨i, hi, hr, hI⟩ hQ
    by_cases hlt : i < n.toNatClampNeg
    · rw [show n.toNatClampNeg - i = (n.toNatClampNeg - (i + 1)) + 1 by omega, List.range'_succ] at hr
      obtain ⟨rfl, rfl⟩ := List.cons.inj hr
      exact hstep _ s' d2 acts2 Q' hlt hI fun s'' d'' acts'' h => hQ s'' d'' acts'' ⟨_, hlt, rfl, h⟩
    · rw [show n.toNatClampNeg - i = 0 by omega] at hr
      cases hr
  · rintro s' d2 acts2 ⟨i, hi, hr, hI⟩
    have hi' : i = n.toNatClampNeg := by
      by_cases hlt : i < n.toNatClampNeg
      · rw [show n.toNatClampNeg - i = (n.toNatClampNeg - (i + 1)) + 1 by omega, List.range'_succ] at hr
        cases hr
      · omega
    subst hi'
    exact hq s' d2 acts2 hI
end MULTI2
def muT (T : State) (cA cI : ClassId) (n k : Nat) : Nat → State
  | 0 => T.pushCell { cls := cA, slots := Array.replicate n .null, vm := .none }
  | i + 1 => ((muT T cA cI n k i).pushCell { cls := cI, slots := Array.replicate k (.int 0), vm := .none }).setCell T.heap.size ((arrV cA n (fun j => if j < i then .ref (T.heap.size + 1 + j) else .null)).setSlot i (.ref (T.heap.size + 1 + i)))
section MULTI3
variable {p : Program} {l : Launch} {e : Env} {R : Room} {s : State} {m : MethodId} {args : Array Value} {below : List Frame} {meth : Method} {c : Code} {T : State} {locs : List Loc} {cells slots : Nat}
theorem mu_vm (T : State) (cA cI : ClassId) (n k i : Nat) : (muT T cA cI n k i).vm = T.vm := by
  induction i with
  | zero => rfl
  | succ i ih => exact ih
theorem mu_facts (T : State) (cA cI : ClassId) (n k : Nat) : ∀ i, i ≤ n → (muT T cA cI n k i).heap.size = T.heap.size + 1 + i ∧ (muT T cA cI n k i).heap[T.heap.size]? = some (arrV cA n (fun j => if j < i then .ref (T.heap.size + 1 + j) else .null))
    ∧ (∀ j, j < i → (muT T cA cI n k i).heap[T.heap.size + 1 + j]? = some (arrV cI k (fun _ => .int 0))) ∧ ∀ q, q < T.heap.size → (muT T cA cI n k i).heap[q]? = T.heap[q]? := by
  intro i
  induction i with
  | zero =>
    intro _
    refine ⟨by simp [muT, State.pushCell], ?_, fun j hj => absurd hj (by omega), fun q hq => ?_⟩
    · show (T.heap.push _)[T.heap.size]? = _
      rw [Array.getElem?_push_size, arrV_new]
      rfl
    · show (T.heap.push _)[q]? = _
      rw [Array.getElem?_push, if_neg (Nat.ne_of_lt hq)]
  | succ i ih =>
    intro hi
    obtain ⟨h1, h2, h3, h4⟩ := ih (by omega)
    generalize hU : muT T cA cI n k i = U at h1 h2 h3 h4
    have e : (muT T cA cI n k (i + 1)).heap = (U.heap.push { cls := cI, slots := Array.replicate k (.int 0), vm := .none }).setIfInBounds T.heap.size ((arrV cA n (fun j => if j < i then .ref (T.heap.size + 1 + j) else .null)).setSlot i (.ref (T.heap.size + 1 + i))) := by
      rw [← hU]; rfl
    rw [e]
    refine ⟨by rw [Array.size_setIfInBounds, Array.size_push, h1]; omega, ?_, fun j hj => ?_, fun q hq => ?_⟩
    · rw [Array.getElem?_setIfInBounds, if_pos rfl, if_pos (by rw [Array.size_push, h1]; omega), arrV_store]
      congr 2
      funext j
      show updV _ _ _ _ = _
      unfold updV
      by_cases hji : j = i
      · subst hji; simp
      · rw [if_neg hji]
        show (if j < i then Value.ref (T.heap.size + 1 + j) else Value.null) = _
        by_cases hlt : j < i
        · rw [if_pos hlt, if_pos (by omega)]
        · rw [if_neg hlt, if_neg (by omega)]
    · rw [Array.getElem?_setIfInBounds, if_neg (by omega), Array.getElem?_push]
      by_cases hji : j = i
      · subst hji
        rw [if_pos (by omega), arrV_new]
      · rw [if_neg (by omega)]
        exact h3 j (by omega)
    · rw [Array.getElem?_setIfInBounds, if_neg (by omega), Array.getElem?_push, if_neg (by omega)]
      exact h4 q hq
theorem mu_stand (X : Stand p l e R s m args below meth c T locs cells slots) (cA cI : ClassId) (n k : Nat) : ∀ i, i ≤ n → ∃ L : List Loc, (∀ q ∈ L, q.base = T.heap.size) ∧ Stand p l e R s m args below meth c (muT T cA cI n k i) (locs ++ L) (cells + 1 + i) (slots + n + i * k) := by
  intro i
  induction i with
  | zero =>
    intro _
    refine ⟨[], fun q hq => absurd hq List.not_mem_nil, ?_⟩
    have := X.pushed { cls := cA, slots := Array.replicate n .null, vm := .none }
    simpa [muT] using this
  | succ i ih =>
    intro hi
    obtain ⟨L, hL, X1⟩ := ih (by omega)
    obtain ⟨h1, h2, -, -⟩ := mu_facts T cA cI n k i (by omega)
    have X2 := X1.pushed { cls := cI, slots := Array.replicate k (.int 0), vm := .none }
    have hc : ((muT T cA cI n k i).pushCell { cls := cI, slots := Array.replicate k (.int 0), vm := .none }).heap[T.heap.size]? = some (arrV cA n (fun j => if j < i then .ref (T.heap.size + 1 + j) else .null)) := by
      show ((muT T cA cI n k i).heap.push _)[T.heap.size]? = _
      rw [Array.getElem?_push, if_neg (by omega)]
      exact h2
    have X3 := X2.stored hc i (.ref (T.heap.size + 1 + i))
    refine ⟨L ++ [⟨T.heap.size, i⟩], fun q hq => ?_, ?_⟩
    · rcases List.mem_append.mp hq with g | g
      · exact hL q g
      · rw [List.mem_singleton.mp g]
    · have e1 : cells + 1 + i + 1 = cells + 1 + (i + 1) := by omega
      have e2 : slots + n + i * k + (Array.replicate k (Value.int 0)).size = slots + n + (i + 1) * k := by rw [Array.size_replicate, Nat.succ_mul]; omega
      rw [← List.append_assoc, ← e1, ← e2]
      exact X3
theorem mu_cold {E : CtlPost} {d : Bool} {acts : List Action} {Qn : Unit → Pre} {f : JFrame} {index c : Nat} {vm' : Vm} (hs : s.topJava?.isSome) (hg : (Jvm.resolveClass f.method.cls index).Gives e.toSetting s.vm (.ok c) vm') (hr : vm'.classReady f.method.cls index c)
    (hsz : vm'.classes.size ≤ s.vm.classes.size := by no_record) :
    wp (multianewarray.sem index 2) Qn E e d acts (s.setTop f) ↔ wp (multianewarray.sem index 2) Qn E e d acts ((s.setVm vm').setTop f) := by
  simp only [multianewarray.sem, wp_bind']
  exact W.resolveClassAt_transfer (s := s.setTop f) (State.method?_setTop f hs) hg hr
theorem mu_row (X : Stand p l e R s m args below meth c T locs cells slots) (hexec : p.tables.exec = Jvm.exec) {own : String} {index : Nat}
    (hown : s.vm.findClass own = some m.cls) (hclink : (Cond.classLink own index "[[I").before args s = true) {cA comp ci : ClassId} {kA kI : Class} (hA : s.vm.findClass "[[I" = some cA) (hkA : s.vm.classes[cA]? = some kA) (hkindA : kA.kind = .array comp (.array .int)) (hkI : s.vm.classes[comp]? = some kI) (hkindI : kI.kind = .array ci .int)
    {g : JFrame} (hg : g.method = m) (hdg : decode c.code g.pc = .ok (.multianewarray index 2, 4)) {n k : Int32} {rest : List Value} (hstack : g.stack = .int k :: .int n :: rest) (hn : ¬ n < 0) (hn0 : ¬ n.toNatClampNeg = 0) (hk : ¬ k < 0) (hnb : n.toNatClampNeg ≤ 1000) (hkb : k.toNatClampNeg ≤ 1000)
    (hcells : cells + 1 + n.toNatClampNeg ≤ R.cells) (hslots : slots + n.toNatClampNeg + n.toNatClampNeg * k.toNatClampNeg ≤ R.slots) :
    ∃ vm₁ : Vm, s.WarmedH vm₁ ∧ ∀ target, Steps p.tables e below ((muT (T.setVm vm₁) cA comp n.toNatClampNeg k.toNatClampNeg n.toNatClampNeg).setTop { g with pc := g.pc + 4, stack := .ref T.heap.size :: rest }) target → Steps p.tables e below (T.setTop g) target := by
  subst hg
  have hpl : e.platform.magicAccessors = ({} : Platform).magicAccessors := by rw [X.admits.platform]
  obtain ⟨cc, hfcc, hcl⟩ := Cond.classLink_spec hown hclink e.platform hpl
  cases hA.symm.trans hfcc
  obtain ⟨hg₁, hwarm₁, hready₁⟩ := State.classEntry (e := e) X.warmed hcl
  generalize T.vm.noted g.method.cls index (.cls cA) = vm₁ at hg₁ hwarm₁ hready₁
  have hal : s.vm.Alike vm₁ := hwarm₁.alike
  refine ⟨vm₁, hwarm₁, fun target hrest => ?_⟩
  refine Steps.instr (c := _) (by simpa using X.here) ?_
  simp [jvm, wpRun, exec, X.here.top, hexec, hdg]
  rw [mu_cold (e := e) (s := T) (f := g) X.here.top hg₁ hready₁]
  have htop : (T.setVm vm₁).topJava?.isSome := X.here.top
  simp only [multianewarray.sem, wp_bind', W.resolveClassAt_ready (State.method?_setTop g htop) hready₁, popN, W.pop, State.topJava?_setTop' _ htop, Option.some.injEq, exists_eq_left', hstack, List.cons.injEq, exists_cons_eq, State.setTop_setTop, wp_pure', List.nil_append, List.cons_append, List.mapM_cons, List.mapM_nil]
  obtain ⟨kA₁, hkA₁, heA⟩ := hal.2.2 _ _ hkA
  have hkindA₁ : kA₁.kind = .array comp (.array .int) := by rw [heA]; exact hkindA
  obtain ⟨kI₁, hkI₁, heI⟩ := hal.2.2 _ _ hkI
  have hkindI₁ : kI₁.kind = .array ci .int := by rw [heI]; exact hkindI
  have X₁ := X.noted hwarm₁
  have lim : ∀ q : Nat, q ≤ 1000 → ¬ q > e.platform.arrayLengthLimit := fun q hq => by rw [Launch.admits_arrayLengthLimit X.admits]; omega
  have lim2 : ∀ q : Nat, q ≤ 1000 → ¬ q * 4 > e.platform.maxHeapBytes := fun q hq => by rw [Launch.admits_maxHeapBytes X.admits]; omega
  obtain ⟨r1, r2⟩ := X₁.roomAbove (a := 1) (b := n.toNatClampNeg) (by omega) (by omega)
  generalize hT1 : T.setVm vm₁ = T1 at htop X₁ r1 r2 ⊢
  have hT1h : T1.heap = T.heap := by rw [← hT1]; rfl
  have hT1v : T1.vm = vm₁ := by rw [← hT1]; rfl
  refine mu_make2 (fun i s' => s' = (muT T1 cA comp n.toNatClampNeg k.toNatClampNeg i).setTop { g with stack := rest }) hn hn0 hk (kc := kA₁) (by show T1.vm.classes[cA]? = _; rw [hT1v]; exact hkA₁) hkindA₁ (lim _ hnb) (lim2 _ hnb) (by show T1.heap.size < _; omega) (by show T1.slotsUsed + _ ≤ _; exact r2) ?_ ?_ ?_
  · rfl
  · rintro i s' d' acts' Q' hi rfl hQ
    obtain ⟨f1, f2, f3, f4⟩ := mu_facts T1 cA comp n.toNatClampNeg k.toNatClampNeg i (by omega)
    obtain ⟨L, -, Xi⟩ := mu_stand X₁ cA comp n.toNatClampNeg k.toNatClampNeg i (by omega)
    have hvm := mu_vm T1 cA comp n.toNatClampNeg k.toNatClampNeg i
    have hmul : i * k.toNatClampNeg + k.toNatClampNeg ≤ n.toNatClampNeg * k.toNatClampNeg := by
      rw [← Nat.succ_mul]; exact Nat.mul_le_mul_right _ hi
    obtain ⟨g1, g2⟩ := Xi.roomAbove (a := 1) (b := k.toNatClampNeg) (by omega) (by omega)
    generalize hU : muT T1 cA comp n.toNatClampNeg k.toNatClampNeg i = U at f1 f2 f3 f4 Xi hvm g1 g2 ⊢
    simp only [wp_bind']
    refine mu_make1 (k := kI₁) hk (by show U.vm.classes[comp]? = _; rw [hvm, hT1v]; exact hkI₁) hkindI₁ rfl (lim _ hkb) (lim2 _ hkb) (by show U.heap.size < _; omega) (by show U.slotsUsed + _ ≤ _; exact g2) fun d2 acts2 => ?_
    simp only [wp_bind', W.writeLoc, wp_pure']
    refine ⟨arrV cA n.toNatClampNeg (fun j => if j < i then .ref (T1.heap.size + 1 + j) else .null), ?_, fun q => (by cases q), (by rw [arrV_size]; exact hi), ?_, hQ _ _ _ ?_⟩
    · show (U.heap.push _)[T1.heap.size]? = _
      rw [Array.getElem?_push, if_neg (by omega)]
      exact f2
    · show ((U.setTop _).pushCell _).fitsSlot cA .none i _ = true
      have : ((U.setTop { g with stack := rest }).pushCell { cls := comp, slots := Array.replicate k.toNatClampNeg (defaultValue .int), vm := .none }).vm.classes[cA]? = some kA₁ := by show U.vm.classes[cA]? = _; rw [hvm, hT1v]; exact hkA₁
      simp [State.fitsSlot, State.slotType?, hvm, hT1v, hkA₁, hkindA₁]
      rfl
    · show _ = (muT T1 cA comp n.toNatClampNeg k.toNatClampNeg (i + 1)).setTop _
      show _ = (((muT T1 cA comp n.toNatClampNeg k.toNatClampNeg i).pushCell { cls := comp, slots := Array.replicate k.toNatClampNeg (.int 0), vm := .none }).setCell T1.heap.size ((arrV cA n.toNatClampNeg (fun j => if j < i then .ref (T1.heap.size + 1 + j) else .null)).setSlot i (.ref (T1.heap.size + 1 + i)))).setTop _
      rw [hU, ← f1]
      rfl
  · rintro s' d' acts' rfl
    have htop2 : (muT T1 cA comp n.toNatClampNeg k.toNatClampNeg n.toNatClampNeg).topJava?.isSome := by
      obtain ⟨L, -, Xn⟩ := mu_stand X₁ cA comp n.toNatClampNeg k.toNatClampNeg n.toNatClampNeg (by omega)
      exact Xn.here.top
    simp only [wp_bind', W.mark, W.pushRef, State.topJava?_setTop' _ htop2, Option.some.injEq, exists_eq_left', State.setTop_setTop]
    intro acts
    rw [hT1] at hrest
    rw [← hT1h] at hrest
    simpa [jvm] using hrest
end MULTI3
end
section
/-! One step of the abstract machine is one of the machine: rows of rows, calls. -/
theorem am_sm_add (f : Nat → am_C) (a b : Nat) : am_sm f (a + b) = am_sm f a + am_sm (fun j => f (a + j)) b := by
  induction b with
  | zero => rfl
  | succ b ih =>
    show am_sm f (a + b) + (f (a + b)).2.1 = am_sm f a + (am_sm (fun j => f (a + j)) b + (f (a + b)).2.1)
    rw [ih, Nat.add_assoc]
theorem am_sm_const (f : Nat → am_C) (n k : Nat) (h : ∀ j, j < n → (f j).2.1 = k) : am_sm f n = n * k := by
  induction n with
  | zero => simp [am_sm]
  | succ n ih =>
    show am_sm f n + (f n).2.1 = _
    rw [ih (fun j hj => h j (by omega)), h n (by omega), Nat.succ_mul]
theorem am_sl_rows (n k : Nat) (h : am_H) : am_sl (am_rows n k h) = am_sl h + n + n * k := by
  show am_sm (am_rows n k h).2 (h.1 + 1 + n) = _
  rw [am_sm_add, am_sm_const _ n k (fun j hj => ?_)]
  · show am_sm (am_rows n k h).2 h.1 + ((am_rows n k h).2 h.1).2.1 + n * k = _
    have e1 : ((am_rows n k h).2 h.1).2.1 = n := by
      show (if h.1 = h.1 then _ else _ : am_C).2.1 = n
      rw [if_pos rfl]
    have e2 : am_sm (am_rows n k h).2 h.1 = am_sl h := am_sm_eq fun j hj => by
      show (if j = h.1 then _ else if h.1 + 1 ≤ j ∧ j < h.1 + 1 + n then _ else h.2 j : am_C).2.1 = _
      rw [if_neg (by omega), if_neg (by omega)]
    rw [e1, e2]
  · show (if h.1 + 1 + j = h.1 then _ else if h.1 + 1 ≤ h.1 + 1 + j ∧ h.1 + 1 + j < h.1 + 1 + n then _ else _ : am_C).2.1 = k
    rw [if_neg (by omega), if_pos (by omega)]
def am_Pc (D : am_D) (as : List am_V) (h : am_H) : Array Value → State → Prop := fun a U => a = (as.map (am_rv D.1)).toArray ∧ am_R D U h U.heap ∧ am_K D U
def am_Qc (D : am_D) (v : List am_V) (h : am_H) : Array Value → State → Outcome → State → Prop := fun _ _ o t => o = .returned (v.map (am_rv D.1)).head? ∧ v.length ≤ 1 ∧ am_R D t h t.heap
def am_rm (d mc ms : Nat) : Room := { frames := d, cells := mc, slots := ms, locals := 100 * d }
/-- what a table of methods computes, the machine's methods do, in so many frames -/
def am_Snd (l : Launch) (D : am_D) (tb : Nat → Option am_M) (d : Nat) (G : am_G) : Prop := ∀ (k : Nat) (q : am_M) (as : List am_V) (h : am_H) (v : List am_V) (h' : am_H), tb k = some q → G k as h = some (v, h') →
  (h.1 ≤ h'.1 ∧ am_sl h ≤ am_sl h') ∧ v.length ≤ 1 ∧ Met l q.2.1 (Cond.code q.2.1 q.2.2.1 q.2.2.2.1 q.2.2.2.2.1 :: lw_good) (am_rm d (h'.1 - h.1) (am_sl h' - am_sl h)) (am_Pc D as h) (am_Qc D v h') (h'.1 - h.1) (am_sl h' - am_sl h) (fun a => D.1.2.2.2 ≤ a)
section CALL
variable {p : Program} {l : Launch} {e : Env} {R : Room} {s : State} {m : MethodId} {args : Array Value} {below : List Frame} {meth : Method} {c : Code} {Q : State → Prop} {cc : ByteArray} {nL : Nat} {own : String} {ini : Bool} {D : am_D} {h0 : am_H}
theorem am_R.rows {h : am_H} {H H' : Heap} {n k : Nat} (hR : am_R D s h H) (f1 : H'.size = H.size + 1 + n) (f2 : H'[H.size]? = some (arrV (D.2.2.2 22) n (fun j => .ref (H.size + 1 + j)))) (f3 : ∀ j, j < n → H'[H.size + 1 + j]? = some (arrV (D.2.2.2 20) k (fun _ => .int 0))) (f4 : ∀ q, q < H.size → H'[q]? = H[q]?) : am_R D s (am_rows n k h) H' := by
  have hR0 := hR
  obtain ⟨h1, h2, h3, h4, h5, h6, h7⟩ := hR
  have hz : ∀ j, am_rho D.1 (h.1 + j) = H.size + j := fun j => by rw [am_rho_ge (by omega)]; omega
  refine ⟨by show 3 ≤ h.1 + 1 + n; omega, by show H'.size + 3 = D.1.2.2.2 + (h.1 + 1 + n); omega, h3, fun j hj => ?_, fun j hj => ?_, h6.kept (fun a ha _ => f4 a ha), h7.kept (fun a ha _ => f4 a ha)⟩
  · show (if j = h.1 then _ else if h.1 + 1 ≤ j ∧ j < h.1 + 1 + n then _ else h.2 j : am_C).1 = 30 ∨ (if j = h.1 then _ else if h.1 + 1 ≤ j ∧ j < h.1 + 1 + n then _ else h.2 j : am_C).1 = 99
    rw [if_neg (by omega), if_neg (by omega)]
    exact h4 j hj
  · have hj : (if j = h.1 then (22, n, fun i => vR (h.1 + 1 + i)) else if h.1 + 1 ≤ j ∧ j < h.1 + 1 + n then (20, k, fun _ => vI 0) else h.2 j : am_C).1 ≠ 99 := hj
    show j < h.1 + 1 + n ∧ ∃ r : Cell, H'[am_rho D.1 j]? = some r ∧ am_ce D s (if j = h.1 then (22, n, fun i => vR (h.1 + 1 + i)) else if h.1 + 1 ≤ j ∧ j < h.1 + 1 + n then (20, k, fun _ => vI 0) else h.2 j : am_C) r
    by_cases e1 : j = h.1
    · rw [if_pos e1]
      refine ⟨by omega, _, by rw [e1, show h.1 = h.1 + 0 from rfl, hz]; exact f2, Or.inr (Or.inl ⟨by show 20 ≤ 22; omega, by show 22 ≤ 25; omega, ?_, fun w => absurd w (by show ¬ 22 = 20; omega)⟩)⟩
      congr 1
      funext i
      show Value.ref _ = Value.ref (am_rho D.1 (h.1 + 1 + i))
      rw [show h.1 + 1 + i = h.1 + (1 + i) by omega, hz, Nat.add_assoc]
    · rw [if_neg e1] at hj ⊢
      by_cases e2 : h.1 + 1 ≤ j ∧ j < h.1 + 1 + n
      · rw [if_pos e2]
        refine ⟨e2.2, _, ?_, Or.inr (Or.inl ⟨by show 20 ≤ 20; omega, by show 20 ≤ 25; omega, rfl, fun _ _ _ => ⟨0, rfl⟩⟩)⟩
        have := f3 (j - (h.1 + 1)) (by omega)
        rw [show am_rho D.1 j = H.size + 1 + (j - (h.1 + 1)) by rw [show j = h.1 + (j - h.1) by omega, hz]; omega]
        exact this
      · rw [if_neg e2] at hj ⊢
        obtain ⟨q1, r', q2, q3⟩ := h5 j hj
        exact ⟨by omega, r', by rw [f4 _ (Array.getElem?_eq_some_iff.mp q2).1]; exact q2, q3⟩
theorem at_multi (X : am_Fx p R s m args meth c cc nL own ini D) {G : am_G} {i d k j z pc : Nat} (hl : d = 2 ∧ Cond.classLink own i "[[I" ∈ lw_tbl) {x y : am_S} (hB : am_B R h0 x.2.2) (hB' : am_B R h0 y.2.2) (hd : decode cc pc = .ok (.multianewarray i d, 4)) (hev : am_I1 G (.multianewarray i d, k, j, z) x = some y) (kk : am_At p l e R s m args below meth c Q D nL h0 y (pc + 4)) : am_At p l e R s m args below meth c Q D nL h0 x pc := by
  obtain ⟨rfl, hl⟩ := hl
  obtain ⟨ls, st, h⟩ := x
  rcases st with _ | ⟨k | k, _ | ⟨n | n, st⟩⟩ <;> simp only [am_I1] at hev <;> try cases hev
  by_cases hc : 0 < n ∧ n ≤ 1000 ∧ 0 ≤ k ∧ k ≤ 1000
  · simp only [if_pos hc] at hev
    cases hev
    intro LS H locs hls hR hf
    have hR : am_R D s h H := hR
    have hB : am_B R h0 h := hB
    have hB' : am_B R h0 (am_rows n.toNat k.toNat h) := hB'
    have hn := i32_nat (show 0 ≤ n by omega) (show n ≤ 2147483647 by omega)
    have hk := i32_nat hc.2.2.1 (show k ≤ 2147483647 by omega)
    have neg : ∀ v : Int, 0 ≤ v → v ≤ 1000 → ¬ Int32.ofInt v < 0 := fun v w1 w2 => by rw [i32_0, i32_lt ⟨by omega, by omega⟩ inR_0]; omega
    obtain ⟨g1, kA, comp, g2, g3, g4⟩ := X.2.2.2.2.2.1.2.1 22 (by omega) (by omega)
    obtain ⟨w1, kI, ci, w2, w3, -⟩ := X.2.2.2.2.2.1.2.1 20 (by omega) (by omega)
    have hcomp : comp = D.2.2.2 20 := Option.some.inj ((g4 (by omega)).symm.trans w1)
    subst hcomp
    obtain ⟨b1, b2, b3, b4⟩ := hB
    obtain ⟨-, -, b5, b6⟩ := hB'
    rw [am_sl_rows] at b6
    have b5 : h.1 + 1 + n.toNat - h0.1 ≤ R.cells := b5
    intro T hT Y
    obtain ⟨vm₁, hW, step⟩ := mu_row Y X.1 X.2.2.2.1 (X.w hl rfl) g1 g2 g3 w2 w3 (g := F0 m pc LS (.int (Int32.ofInt k) :: .int (Int32.ofInt n) :: st.map (am_rv D.1))) rfl (by rw [X.2.1]; exact hd) (n := Int32.ofInt n) (k := Int32.ofInt k) (rest := st.map (am_rv D.1)) rfl (neg n (by omega) hc.2.1) (by rw [hn]; omega) (neg k hc.2.2.1 hc.2.2.2) (by rw [hn]; omega) (by rw [hk]; omega) (by rw [hn]; show h.1 - h0.1 + 1 + _ ≤ _; omega) (by rw [hn, hk]; show am_sl h - am_sl h0 + _ + _ ≤ _; omega)
    obtain ⟨L, hL, Y'⟩ := mu_stand (Y.noted hW) (D.2.2.2 22) (D.2.2.2 20) (Int32.ofInt n).toNatClampNeg (Int32.ofInt k).toNatClampNeg (Int32.ofInt n).toNatClampNeg (by omega)
    obtain ⟨f1, f2, f3, f4⟩ := mu_facts (T.setVm vm₁) (D.2.2.2 22) (D.2.2.2 20) (Int32.ofInt n).toNatClampNeg (Int32.ofInt k).toNatClampNeg (Int32.ofInt n).toNatClampNeg (by omega)
    rw [hn, hk] at Y' f1 f2 f3 f4 step
    have hh : (T.setVm vm₁).heap = H := hT
    rw [hh] at f1 f2 f3 f4 hL
    generalize muT (T.setVm vm₁) (D.2.2.2 22) (D.2.2.2 20) n.toNat k.toNat n.toNat = T' at Y' f1 f2 f3 f4 step
    have hR' : am_R D s (am_rows n.toNat k.toNat h) T'.heap := by
      refine hR.rows f1 ?_ f3 f4
      rw [f2]
      unfold arrV
      congr 2
      apply congrArg
      funext j
      exact if_pos j.isLt
    have hk2 := kk LS T'.heap (locs ++ L) hls hR' (fun q hq => by
      rcases List.mem_append.mp hq with g | g
      · exact hf q g
      · rw [hL q g]
        have := hR.2.1
        have := hR.1
        omega)
    have e1 : (am_rows n.toNat k.toNat h).1 - h0.1 = h.1 - h0.1 + 1 + n.toNat := by show h.1 + 1 + n.toNat - h0.1 = _; omega
    have e2 : am_sl (am_rows n.toNat k.toNat h) - am_sl h0 = am_sl h - am_sl h0 + n.toNat + n.toNat * k.toNat := by rw [am_sl_rows]; omega
    rw [show (ls, vR h.1 :: st, am_rows n.toNat k.toNat h).2.2 = am_rows n.toNat k.toNat h from rfl, e1, e2] at hk2
    obtain ⟨t, a1, c1⟩ := hk2 T' rfl Y'
    refine ⟨t, step t ?_, c1⟩
    have e3 : am_rho D.1 h.1 = T.heap.size := by rw [am_rho_size hR, hT]
    rw [← e3]
    exact a1
  · simp only [if_neg hc] at hev
    cases hev
theorem am_inv_eq {G : am_G} {r : Bool} {k n c0 : Nat} {x y : am_S} (h : am_inv G r k n c0 x = some y) : n ≤ x.2.1.length ∧ am_cats (x.2.1.drop n) ≤ 8 ∧ (r = true → am_rc c0 x.2.2 (x.2.1.take n).reverse = true) ∧ ∃ v h', G k (x.2.1.take n).reverse x.2.2 = some (v, h') ∧ y = (x.1, v ++ x.2.1.drop n, h') := by
  unfold am_inv at h
  split at h
  case isTrue hc =>
    obtain ⟨⟨v, h'⟩, h1, h2⟩ := Option.map_eq_some_iff.mp h
    exact ⟨hc.1, hc.2.1, hc.2.2, v, h', h1, h2.symm⟩
  case isFalse hc => cases h
theorem am_Pc.blind {as : List am_V} {h : am_H} : FrameBlind (am_Pc D as h) := by
  rintro a U g mk ⟨h1, h2, h3⟩
  exact ⟨h1, am_R.moved (u := U) (U := U.calling g mk a) (Vm.Alike.refl U.vm) h2, am_K.same (u := U) (U := U.calling g mk a) rfl h3⟩
/-- behind a call -/
theorem at_call {k n d pc : Nat} {G : am_G} {tb : Nat → Option am_M} {q : am_M} (X : am_Fx p R s m args meth c cc nL own ini D) (hS : am_Snd l D tb d G) (hq : tb k = some q) {ls st : List am_V} {h : am_H} {v : List am_V} {h' : am_H} (hg : G k (st.take n).reverse h = some (v, h')) (hB : am_B R h0 h) (hB' : am_B R h0 h')
    (hrun : ∀ (LS : Array Slot) (H : Heap) (locs : List Loc), am_ls D.1 nL ls LS → am_R D s h H → va_Run p l e R s m args below meth c H locs (h.1 - h0.1) (am_sl h - am_sl h0) (h'.1 - h.1) (am_sl h' - am_sl h) (F0 m pc LS (st.map (am_rv D.1))) ((st.drop n).map (am_rv D.1)) (am_Qc D v h' (((st.take n).reverse.map (am_rv D.1)).toArray)) (fun a => D.1.2.2.2 ≤ a))
    (kk : am_At p l e R s m args below meth c Q D nL h0 (ls, v ++ st.drop n, h') (pc + 3)) : am_At p l e R s m args below meth c Q D nL h0 (ls, st, h) pc := by
  intro LS H locs hls hR hf T hT Y
  obtain ⟨⟨m1, m2⟩, hv, -⟩ := hS k q _ _ _ _ hq hg
  obtain ⟨r, st₀, t, T', L, g0, Y', hL, e1, e2, ⟨o1, -, o2⟩, step⟩ := hrun LS H locs hls hR T hT Y
  have hr : r = (v.map (am_rv D.1)).head? := Outcome.returned.inj o1
  subst hr
  have hal : s.vm.Alike t.vm := by rw [← e2]; exact Y'.warmed.alike
  have hR' : am_R D s h' T'.heap := by rw [e1]; exact am_R.moved hal.symm o2
  have k1 : h'.1 - h0.1 = h.1 - h0.1 + (h'.1 - h.1) := by have := hB.1; omega
  have k2 : am_sl h' - am_sl h0 = am_sl h - am_sl h0 + (am_sl h' - am_sl h) := by have := hB.2.1; omega
  have hk := kk LS T'.heap (locs ++ L) hls hR' (fun q hq => by
    rcases List.mem_append.mp hq with g | g
    · exact hf q g
    · exact hL q g)
  rw [show (ls, v ++ st.drop n, h').2.2 = h' from rfl, k1, k2] at hk
  obtain ⟨t2, a1, b1⟩ := hk T' rfl Y'
  refine ⟨t2, step t2 ?_, b1⟩
  have ev : (v.map (am_rv D.1)).head?.toList ++ (st.drop n).map (am_rv D.1) = (v ++ st.drop n).map (am_rv D.1) := by
    rw [List.map_append]
    congr 1
    rcases v with _ | ⟨a, _ | ⟨b, w⟩⟩
    · rfl
    · rfl
    · simp at hv
  rw [ev]
  exact a1
theorem am_okm.code {q : am_M} {n : Nat} (h : am_okm q n) : Cond.code q.2.1 q.2.2.1 q.2.2.2.1 q.2.2.2.2.1 ∈ lw_tbl := h.1
theorem am_params {y : MethodName} {n : Nat} (h : (parseMethodDescriptor y.desc).map (fun d => d.parameters.length) = some n) : ∀ sig, parseMethodDescriptor y.desc = some sig → n = sig.parameters.length := by
  intro sig hs
  rw [hs] at h
  exact (Option.some.inj h).symm
/-- the room and the words of a call -/
theorem am_callB {q : am_M} {n d mc ms : Nat} (X : am_Fx p R s m args meth c cc nL own ini D) (hd1 : d + 1 ≤ R.frames) (hd2 : 100 * d + 100 ≤ R.locals) (hok : am_okm q n) :
    (am_rm d mc ms).cells = mc ∧ (am_rm d mc ms).slots = ms ∧ (am_rm d mc ms).frames + 1 ≤ R.frames ∧ 8 + (q.2.2.2.1 + 11) + (am_rm d mc ms).locals ≤ R.locals ∧ (∀ w ∈ (Cond.code q.2.1 q.2.2.1 q.2.2.2.1 q.2.2.2.2.1 :: lw_good), ∀ (a' : Array Value) (U : State), s.WarmedH U.vm → w.before a' U = true) ∧ Cond.code q.2.1 q.2.2.1 q.2.2.2.1 q.2.2.2.2.1 ∈ (Cond.code q.2.1 q.2.2.1 q.2.2.2.1 q.2.2.2.2.1 :: lw_good) ∧
    (Cond.code q.2.1 q.2.2.1 q.2.2.2.1 q.2.2.2.2.1).before args s = true ∧ (Cond.initialized q.2.1.cls).before args s = true ∧ (q.2.1.cls ≠ "java/lang/invoke/MethodHandle" ∧ q.2.1.cls ≠ "java/lang/invoke/VarHandle") ∧ (∀ sig, parseMethodDescriptor q.2.1.desc = some sig → n = sig.parameters.length) := by
  obtain ⟨h1, h2, h3, h4, h5⟩ := hok
  refine ⟨rfl, rfl, hd1, ?_, pay_in X.2.2.2.2.1 (am_goodIn h1 rfl), List.mem_cons_self, X.w h1 rfl, X.w h2 rfl, h3, am_params h4⟩
  show 8 + (q.2.2.2.1 + 11) + 100 * d ≤ R.locals
  omega
theorem am_pre (X : am_Fx p R s m args meth c cc nL own ini D) {as : List am_V} {h : am_H} {H : Heap} (hR : am_R D s h H) : ∀ U : State, U.heap = H → s.WarmedH U.vm → am_Pc D as h (as.map (am_rv D.1)).toArray U :=
  fun U hU hW => ⟨rfl, by rw [hU]; exact am_R.moved hW.alike hR, X.2.2.2.2.2.1.warm hW⟩
theorem at_invV (X : am_Fx p R s m args meth c cc nL own ini D) {G : am_G} {tb : Nat → Option am_M} {i k n c0 d pc : Nat} (hS : am_Snd l D tb d G) (hd1 : d + 1 ≤ R.frames) (hd2 : 100 * d + 100 ≤ R.locals)
    (hok : ∃ q, tb k = some q ∧ c0 < 13 ∧ q.2.1.cls = (am_q c0).1 ∧ am_okm q (n - 1) ∧ 1 ≤ n ∧ Cond.methodLink own i q.2.1 ∈ lw_tbl ∧ Cond.instanceMethod q.2.1 ∈ lw_tbl ∧ Cond.selects (am_q c0).1 q.2.1 q.2.1 ∈ lw_tbl)
    {x y : am_S} (hB : am_B R h0 x.2.2) (hB' : am_B R h0 y.2.2) (hd : decode cc pc = .ok (.invokevirtual i, 3)) (hev : am_inv G true k n c0 x = some y) (kk : am_At p l e R s m args below meth c Q D nL h0 y (pc + 3)) : am_At p l e R s m args below meth c Q D nL h0 x pc := by
  obtain ⟨q, hq, hc0, hcls, hokm, hn1, hlk, hin, hsel⟩ := hok
  obtain ⟨ls, st, h⟩ := x
  obtain ⟨i1, i2, i3, v, h', hg, rfl⟩ := am_inv_eq hev
  have i3 : am_rc c0 h (st.take n).reverse = true := i3 rfl
  have i1 : n ≤ st.length := i1
  have hB : am_B R h0 h := hB
  have hB' : am_B R h0 h' := hB'
  have hg : G k (st.take n).reverse h = some (v, h') := hg
  have kk : am_At p l e R s m args below meth c Q D nL h0 (ls, v ++ st.drop n, h') (pc + 3) := kk
  obtain ⟨⟨m1, m2⟩, -, hM⟩ := hS k q _ _ _ _ hq hg
  refine at_call X hS hq hg hB hB' (fun LS H locs hls hR => ?_) kk
  rcases hrev : (st.take n).reverse with _ | ⟨a, as⟩
  · rw [hrev] at i3; cases i3
  · rw [hrev] at i3 hM
    rcases a with a | (_ | a) | a | a <;> try cases i3
    have ht : (h.2 a).1 = c0 := of_decide_eq_true i3
    obtain ⟨-, -, r, q1, q2, q3, -⟩ := hR.obj hc0 ht
    obtain ⟨-, hfc, -⟩ := X.2.2.2.2.2.1.1.1 c0 _ (tb_q c0 hc0).1
    have hst : st = as.reverse ++ vR a :: st.drop n := by
      have := congrArg List.reverse hrev
      rw [List.reverse_reverse, List.reverse_cons] at this
      have e := List.take_append_drop n st
      rw [this] at e
      simpa using e.symm
    have hlen : as.length = n - 1 := by
      have := congrArg List.length hrev
      rw [List.length_reverse, List.length_take] at this
      simp at this
      omega
    obtain ⟨b1, b2, b3, b4, b5, b6, b7, b8, b9, b10⟩ := am_callB (mc := h'.1 - h.1) (ms := am_sl h' - am_sl h) X hd1 hd2 hokm
    have hstk : (F0 m pc LS (st.map (am_rv D.1))).stack = (as.map (am_rv D.1)).reverse ++ .ref (am_rho D.1 a) :: (st.drop n).map (am_rv D.1) := by
      show st.map (am_rv D.1) = _
      exact (congrArg (List.map (am_rv D.1)) hst).trans (by rw [List.map_append, List.map_cons, List.map_reverse]; rfl)
    refine va_runV (As := as.map (am_rv D.1)) (C := (am_q c0).1) (bytes := q.2.2.1) (maxL := q.2.2.2.1) (ret := q.2.2.2.2.1) (n := n - 1) ⟨X.1, X.2.1, X.2.2.1, X.2.2.2.1, X.2.2.2.2.1⟩ hM ⟨⟨b1, b2, b3, b4, b5, b6, b7, b8, b9, b10, X.w hlk rfl⟩, X.w hin rfl, X.w hsel rfl⟩ ⟨am_Pc.blind, ⟨r, q1, by rw [q3]; rfl, by rw [q2]; exact hfc⟩, am_pre X hR⟩ rfl (by rw [List.length_map]; exact hlen) hls.2.1.1 hstk (lv_room (by rw [am_cats_eq]; exact i2)) hd ⟨?_, ?_⟩
    · have := hB'.2.2.1; have := hB.1; omega
    · have := hB'.2.2.2; have := hB.2.1; omega
theorem at_invS (X : am_Fx p R s m args meth c cc nL own ini D) {G : am_G} {tb : Nat → Option am_M} {i k n c0 d pc : Nat} (hS : am_Snd l D tb d G) (hd1 : d + 1 ≤ R.frames) (hd2 : 100 * d + 100 ≤ R.locals)
    (hok : ∃ q, tb k = some q ∧ am_okm q n ∧ am_lk own i q.2.1 ∧ Cond.static q.2.1 ∈ lw_tbl)
    {x y : am_S} (hB : am_B R h0 x.2.2) (hB' : am_B R h0 y.2.2) (hd : decode cc pc = .ok (.invokestatic i, 3)) (hev : am_inv G false k n c0 x = some y) (kk : am_At p l e R s m args below meth c Q D nL h0 y (pc + 3)) : am_At p l e R s m args below meth c Q D nL h0 x pc := by
  obtain ⟨q, hq, hokm, hlk, hsta⟩ := hok
  obtain ⟨ls, st, h⟩ := x
  obtain ⟨i1, i2, -, v, h', hg, rfl⟩ := am_inv_eq hev
  have i1 : n ≤ st.length := i1
  have hB : am_B R h0 h := hB
  have hB' : am_B R h0 h' := hB'
  have hg : G k (st.take n).reverse h = some (v, h') := hg
  have kk : am_At p l e R s m args below meth c Q D nL h0 (ls, v ++ st.drop n, h') (pc + 3) := kk
  obtain ⟨⟨m1, m2⟩, -, hM⟩ := hS k q _ _ _ _ hq hg
  refine at_call X hS hq hg hB hB' (fun LS H locs hls hR => ?_) kk
  obtain ⟨b1, b2, b3, b4, b5, b6, b7, b8, b9, b10⟩ := am_callB (mc := h'.1 - h.1) (ms := am_sl h' - am_sl h) X hd1 hd2 hokm
  have hstk : (F0 m pc LS (st.map (am_rv D.1))).stack = ((st.take n).reverse.map (am_rv D.1)).reverse ++ (st.drop n).map (am_rv D.1) := by
    show st.map (am_rv D.1) = _
    rw [List.map_reverse, List.reverse_reverse, ← List.map_append, List.take_append_drop]
  have hlen : ((st.take n).reverse.map (am_rv D.1)).length = n := by
    rw [List.length_map, List.length_reverse, List.length_take]; omega
  have hroom : h.1 - h0.1 + (h'.1 - h.1) ≤ R.cells ∧ am_sl h - am_sl h0 + (am_sl h' - am_sl h) ≤ R.slots := by
    have := hB'.2.2.1; have := hB.1; have := hB'.2.2.2; have := hB.2.1
    exact ⟨by omega, by omega⟩
  rcases hlk with hlk | ⟨host, hlk⟩
  · exact va_runS (bytes := q.2.2.1) (maxL := q.2.2.2.1) (ret := q.2.2.2.2.1) (n := n) ⟨X.1, X.2.1, X.2.2.1, X.2.2.2.1, X.2.2.2.2.1⟩ hM ⟨⟨b1, b2, b3, b4, b5, b6, b7, b8, b9, b10, X.w hlk rfl⟩, X.w hsta rfl⟩ ⟨am_Pc.blind, am_pre X hR⟩ rfl hlen hls.2.1.1 hstk (lv_room (by rw [am_cats_eq]; exact i2)) hd hroom
  · exact va_runSN (bytes := q.2.2.1) (maxL := q.2.2.2.1) (ret := q.2.2.2.2.1) (n := n) (host := host) ⟨X.1, X.2.1, X.2.2.1, X.2.2.2.1, X.2.2.2.2.1⟩ hM ⟨⟨⟨b1, b2, b3, b4, b5, b6⟩, b7, b8, b9, b10, va_Nw.use rfl (X.2.2.2.2.2.1.2.2 _ hlk rfl)⟩, X.w hsta rfl, trivial⟩ ⟨am_Pc.blind, am_pre X hR⟩ rfl hlen hls.2.1.1 hstk (lv_room (by rw [am_cats_eq]; exact i2)) hd hroom
theorem at_invI (X : am_Fx p R s m args meth c cc nL own ini D) {G : am_G} {tb : Nat → Option am_M} {i k n c0 d pc : Nat} (hS : am_Snd l D tb d G) (hd1 : d + 1 ≤ R.frames) (hd2 : 100 * d + 100 ≤ R.locals)
    (hok : ∃ q, tb k = some q ∧ am_okm q (n - 1) ∧ 1 ≤ n ∧ am_lk own i q.2.1 ∧ Cond.instanceMethod q.2.1 ∈ lw_tbl ∧ q.2.1.name = "<init>" ∧ q.2.2.2.2.1 = none)
    {x y : am_S} (hB : am_B R h0 x.2.2) (hB' : am_B R h0 y.2.2) (hd : decode cc pc = .ok (.invokespecial i, 3)) (hev : am_inv G true k n c0 x = some y) (kk : am_At p l e R s m args below meth c Q D nL h0 y (pc + 3)) : am_At p l e R s m args below meth c Q D nL h0 x pc := by
  obtain ⟨q, hq, hokm, hn1, hlk, hin, hnm, hret⟩ := hok
  obtain ⟨ls, st, h⟩ := x
  obtain ⟨i1, i2, i3, v, h', hg, rfl⟩ := am_inv_eq hev
  have i3 : am_rc c0 h (st.take n).reverse = true := i3 rfl
  have i1 : n ≤ st.length := i1
  have hB : am_B R h0 h := hB
  have hB' : am_B R h0 h' := hB'
  have hg : G k (st.take n).reverse h = some (v, h') := hg
  have kk : am_At p l e R s m args below meth c Q D nL h0 (ls, v ++ st.drop n, h') (pc + 3) := kk
  obtain ⟨⟨m1, m2⟩, -, hM⟩ := hS k q _ _ _ _ hq hg
  refine at_call X hS hq hg hB hB' (fun LS H locs hls hR => ?_) kk
  rcases hrev : (st.take n).reverse with _ | ⟨a, as⟩
  · rw [hrev] at i3; cases i3
  · rw [hrev] at i3 hM
    rcases a with a | (_ | a) | a | a <;> try cases i3
    have hst : st = as.reverse ++ vR a :: st.drop n := by
      have := congrArg List.reverse hrev
      rw [List.reverse_reverse, List.reverse_cons] at this
      have e := List.take_append_drop n st
      rw [this] at e
      simpa using e.symm
    have hlen : (as.map (am_rv D.1)).length = n - 1 := by
      have := congrArg List.length hrev
      rw [List.length_reverse, List.length_take] at this
      simp at this
      rw [List.length_map]
      omega
    obtain ⟨b1, b2, b3, b4, b5, b6, b7, b8, b9, b10⟩ := am_callB (mc := h'.1 - h.1) (ms := am_sl h' - am_sl h) X hd1 hd2 hokm
    rw [hret] at hM b5 b6 b7
    have hstk : (F0 m pc LS (st.map (am_rv D.1))).stack = (as.map (am_rv D.1)).reverse ++ .ref (am_rho D.1 a) :: (st.drop n).map (am_rv D.1) := by
      show st.map (am_rv D.1) = _
      exact (congrArg (List.map (am_rv D.1)) hst).trans (by rw [List.map_append, List.map_cons, List.map_reverse]; rfl)
    have hroom : h.1 - h0.1 + (h'.1 - h.1) ≤ R.cells ∧ am_sl h - am_sl h0 + (am_sl h' - am_sl h) ≤ R.slots := by
      have := hB'.2.2.1; have := hB.1; have := hB'.2.2.2; have := hB.2.1
      exact ⟨by omega, by omega⟩
    rcases hlk with hlk | ⟨host, hlk⟩
    · exact va_runI (As := as.map (am_rv D.1)) (bytes := q.2.2.1) (maxL := q.2.2.2.1) (n := n - 1) ⟨X.1, X.2.1, X.2.2.1, X.2.2.2.1, X.2.2.2.2.1⟩ hM ⟨⟨b1, b2, b3, b4, b5, b6, b7, b8, b9, b10, X.w hlk rfl⟩, hnm, X.w hin rfl⟩ ⟨am_Pc.blind, am_pre X hR⟩ rfl hlen hls.2.1.1 hstk (lv_room (by rw [am_cats_eq]; exact i2)) hd hroom
    · exact va_runIN (As := as.map (am_rv D.1)) (bytes := q.2.2.1) (maxL := q.2.2.2.1) (n := n - 1) (host := host) ⟨X.1, X.2.1, X.2.2.1, X.2.2.2.1, X.2.2.2.2.1⟩ hM ⟨⟨⟨b1, b2, b3, b4, b5, b6⟩, b7, b8, b9, b10, va_Nw.use rfl (X.2.2.2.2.2.1.2.2 _ hlk rfl)⟩, hnm, X.w hin rfl⟩ ⟨am_Pc.blind, am_pre X hR⟩ rfl hlen hls.2.1.1 hstk (lv_room (by rw [am_cats_eq]; exact i2)) hd hroom
end CALL
end
section
/-! What the abstract machine computes, the machine does: one step, a stretch, a tree, a table of methods. -/
def am_le (h h' : am_H) : Prop := h.1 ≤ h'.1 ∧ am_sl h ≤ am_sl h'
theorem am_le.rf (h : am_H) : am_le h h := ⟨Nat.le_refl _, Nat.le_refl _⟩
theorem am_le.tr {a b c : am_H} (h1 : am_le a b) (h2 : am_le b c) : am_le a c := ⟨Nat.le_trans h1.1 h2.1, Nat.le_trans h1.2 h2.2⟩
theorem am_B.mid {R : Room} {h0 a b c : am_H} (h1 : am_B R h0 a) (h2 : am_B R h0 c) (h3 : am_le a b) (h4 : am_le b c) : am_B R h0 b := by
  obtain ⟨p1, p2, -, -⟩ := h1
  obtain ⟨q1, q2, q3, q4⟩ := h2
  obtain ⟨r1, r2⟩ := h3
  obtain ⟨s1, s2⟩ := h4
  exact ⟨by omega, by omega, by omega, by omega⟩
theorem i32_shn : ∀ n : Nat, n < 32 → (Int32.ofInt (n : Int) &&& 31).toBitVec.smod 32#32 = BitVec.ofNat 32 n := by decide +kernel
theorem int_div_in {a c : Int} (ha : inR a) (hc : 0 < c) : inR (a / c) := by
  obtain ⟨h1, h2⟩ := ha
  by_cases h : 0 ≤ a
  · have := Int.ediv_le_self c h
    have := Int.ediv_nonneg h (Int.le_of_lt hc)
    exact ⟨by omega, by omega⟩
  · have h3 := Int.ediv_neg_of_neg_of_pos (by omega : a < 0) hc
    have h4 : a ≤ a / c := Int.le_ediv_of_mul_le hc (by
      have := Int.mul_le_mul_of_nonpos_left (a := a) (b := c) (c := 1) (by omega) (by omega)
      omega)
    exact ⟨by omega, by omega⟩
theorem i32_shr {a b : Int} (ha : inR a) (hb : 0 ≤ b ∧ b < 32) : Int32.ofInt a >>> (Int32.ofInt b &&& 31) = Int32.ofInt (a / 2 ^ b.toNat) := by
  obtain ⟨n, rfl⟩ : ∃ n : Nat, b = n := ⟨b.toNat, by omega⟩
  have hn : n < 32 := by omega
  apply Int32.toInt_inj.mp
  have hp : (0 : Int) < 2 ^ n := Int.pow_pos (by decide)
  rw [Int.toNat_natCast, i32_of (int_div_in ha hp)]
  show ((Int32.ofInt a).toBitVec.sshiftRight' ((Int32.ofInt (n : Int) &&& 31).toBitVec.smod 32#32)).toInt = _
  rw [i32_shn n hn]
  show ((Int32.ofInt a).toBitVec.sshiftRight (BitVec.ofNat 32 n).toNat).toInt = _
  rw [BitVec.toInt_sshiftRight, show (Int32.ofInt a).toBitVec.toInt = a from i32_of ha, BitVec.toNat_ofNat, Nat.mod_eq_of_lt (by omega), Int.shiftRight_eq_div_pow]
  simp
theorem i32_and {a b : Int} (ha : inR a) (hb : b = 1 ∨ b = 31) : Int32.ofInt a &&& Int32.ofInt b = Int32.ofInt (a % (b + 1)) := by
  apply Int32.toBitVec_inj.mp
  rcases hb with rfl | rfl
  · show BitVec.ofInt 32 a &&& 1#32 = BitVec.ofInt 32 (a % 2)
    apply BitVec.eq_of_toNat_eq
    rw [BitVec.toNat_and, BitVec.toNat_ofInt, BitVec.toNat_ofInt, show (1#32).toNat = 2 ^ 1 - 1 from rfl, Nat.and_two_pow_sub_one_eq_mod]
    omega
  · show BitVec.ofInt 32 a &&& 31#32 = BitVec.ofInt 32 (a % 32)
    apply BitVec.eq_of_toNat_eq
    rw [BitVec.toNat_and, BitVec.toNat_ofInt, BitVec.toNat_ofInt, show (31#32).toNat = 2 ^ 5 - 1 from rfl, Nat.and_two_pow_sub_one_eq_mod]
    omega
section SOUND
variable {p : Program} {l : Launch} {e : Env} {R : Room} {s : State} {m : MethodId} {args : Array Value} {below : List Frame} {meth : Method} {c : Code} {Q : State → Prop} {cc : ByteArray} {nL : Nat} {own : String} {ini : Bool} {D : am_D} {h0 : am_H}
variable {tb : Nat → Option am_M} {d : Nat} {G : am_G}
/-- what a step does to the size -/
theorem am_I1_le (hS : am_Snd l D tb d G) {ai : am_I} (hok : am_ok1 tb own ini nL ai) {x y : am_S} (hev : am_I1 G ai x = some y) : am_le x.2.2 y.2.2 := by
  have inv : ∀ {r : Bool} {k n c0 : Nat}, (∃ q, tb k = some q) → am_inv G r k n c0 x = some y → am_le x.2.2 y.2.2 := by
    intro r k n c0 ⟨q, hq⟩ h
    obtain ⟨-, -, -, v, h', hg, rfl⟩ := am_inv_eq h
    exact (hS k q _ _ _ _ hq hg).1
  have same : y.2.2 = x.2.2 → am_le x.2.2 y.2.2 := fun h => by rw [h]; exact am_le.rf _
  have sb2 : ∀ {f : Int → Int → Int}, am_b2 f x = some y → am_le x.2.2 y.2.2 := by
    intro f h
    unfold am_b2 at h
    split at h <;> cases h
    exact am_le.rf _
  have sb3 : ∀ {ok : Int → Int → Bool} {f : Int → Int → Int}, am_b3 ok f x = some y → am_le x.2.2 y.2.2 := by
    intro ok f h
    unfold am_b3 at h
    split at h
    · split at h <;> cases h
      exact am_le.rf _
    · cases h
  have sal : ∀ {t : Nat → Bool}, am_aload t x = some y → am_le x.2.2 y.2.2 := by
    intro t h
    obtain ⟨ls, st, h', i, a, rfl, -, -, -, -, rfl⟩ := am_aload_eq h
    exact am_le.rf _
  have sput : ∀ {h : am_H} {a : Nat} {q : am_C}, q.2.1 = (h.2 a).2.1 → am_le h (am_put h a q) := fun hq => ⟨Nat.le_refl _, by rw [am_sl_put hq]; exact Nat.le_refl _⟩
  have snew : ∀ {h : am_H} {q : am_C}, am_le h (am_new h q) := fun {h q} => ⟨Nat.le_succ _, by rw [am_sl_new]; exact Nat.le_add_right _ _⟩
  have srows : ∀ (h : am_H) (n k : Nat), am_le h (am_rows n k h) := fun h n k => ⟨by show h.1 ≤ h.1 + 1 + n; omega, by rw [am_sl_rows]; omega⟩
  obtain ⟨i, a1, a2, a3⟩ := ai
  cases i <;> simp only [am_I1] at hev <;> try (cases hev; done)
  case iconst => cases hev; exact am_le.rf _
  case bipush => cases hev; exact am_le.rf _
  case sipush => cases hev; exact am_le.rf _
  case ldc => cases hev; exact am_le.rf _
  case ldc2_w => cases hev; exact am_le.rf _
  case getstatic => cases hev; exact am_le.rf _
  case iload => unfold am_ldi at hev; split at hev <;> cases hev; exact am_le.rf _
  case iload_n => unfold am_ldi at hev; split at hev <;> cases hev; exact am_le.rf _
  case aload => unfold am_lda at hev; split at hev <;> cases hev; exact am_le.rf _
  case aload_n => unfold am_lda at hev; split at hev <;> cases hev; exact am_le.rf _
  case lload_n => unfold am_ldl at hev; split at hev <;> cases hev; exact am_le.rf _
  case istore =>
    unfold am_sti at hev
    split at hev
    · obtain ⟨_, -, rfl⟩ := Option.map_eq_some_iff.mp hev; exact am_le.rf _
    · cases hev
  case istore_n =>
    unfold am_sti at hev
    split at hev
    · obtain ⟨_, -, rfl⟩ := Option.map_eq_some_iff.mp hev; exact am_le.rf _
    · cases hev
  case astore =>
    unfold am_sta at hev
    split at hev
    · obtain ⟨_, -, rfl⟩ := Option.map_eq_some_iff.mp hev; exact am_le.rf _
    · cases hev
  case astore_n =>
    unfold am_sta at hev
    split at hev
    · obtain ⟨_, -, rfl⟩ := Option.map_eq_some_iff.mp hev; exact am_le.rf _
    · cases hev
  case lstore_n =>
    unfold am_stl at hev
    split at hev
    · obtain ⟨_, -, rfl⟩ := Option.map_eq_some_iff.mp hev; exact am_le.rf _
    · cases hev
  case iinc =>
    split at hev
    · obtain ⟨_, -, rfl⟩ := Option.map_eq_some_iff.mp hev; exact am_le.rf _
    · cases hev
  case dup =>
    split at hev
    · split at hev <;> cases hev; exact am_le.rf _
    · cases hev
  case pop =>
    split at hev
    · split at hev <;> cases hev; exact am_le.rf _
    · cases hev
  case iadd => exact sb2 hev
  case isub => exact sb2 hev
  case imul => exact sb2 hev
  case ixor => exact sb2 hev
  case idiv => exact sb3 hev
  case irem => exact sb3 hev
  case ishr => exact sb3 hev
  case iand => exact sb3 hev
  case ineg => split at hev <;> cases hev; exact am_le.rf _
  case i2l =>
    split at hev
    · split at hev <;> cases hev; exact am_le.rf _
    · cases hev
  case ladd => split at hev <;> cases hev; exact am_le.rf _
  case lmul => split at hev <;> cases hev; exact am_le.rf _
  case lcmp => split at hev <;> cases hev; exact am_le.rf _
  case getfield =>
    split at hev
    · split at hev <;> cases hev; exact am_le.rf _
    · cases hev
  case putfield =>
    split at hev
    · split at hev <;> cases hev; exact sput rfl
    · cases hev
  case iaload => exact sal hev
  case baload => exact sal hev
  case aaload => exact sal hev
  case iastore =>
    split at hev
    · split at hev <;> cases hev; exact sput rfl
    · cases hev
  case bastore =>
    split at hev
    · split at hev <;> cases hev; exact sput rfl
    · cases hev
  case aastore =>
    split at hev
    · split at hev <;> cases hev; exact sput rfl
    · cases hev
  case arraylength =>
    split at hev
    · split at hev <;> cases hev; exact am_le.rf _
    · cases hev
  case newarray =>
    split at hev
    · split at hev <;> cases hev; exact snew
    · cases hev
  case anewarray =>
    split at hev
    · split at hev <;> cases hev; exact snew
    · cases hev
  case multianewarray =>
    split at hev
    · split at hev <;> cases hev; exact srows _ _ _
    · cases hev
  case new => cases hev; exact snew
  case invokevirtual => obtain ⟨q, hq, -⟩ := hok; exact inv ⟨q, hq⟩ hev
  case invokespecial =>
    have hok : (if a1 = 998 then _ else _ : Prop) := hok
    by_cases h998 : a1 = 998
    · simp only [if_pos h998] at hev
      split at hev
      · split at hev <;> cases hev; exact am_le.rf _
      · cases hev
    · simp only [if_neg h998] at hev hok
      obtain ⟨q, hq, -⟩ := hok; exact inv ⟨q, hq⟩ hev
  case invokestatic =>
    have hok : (if a1 = 999 then _ else _ : Prop) := hok
    by_cases h999 : a1 = 999
    · simp only [if_pos h999] at hev
      unfold am_copy at hev
      split at hev
      · split at hev <;> cases hev; exact sput rfl
      · cases hev
    · simp only [if_neg h999] at hev hok
      obtain ⟨q, hq, -⟩ := hok; exact inv ⟨q, hq⟩ hev
/-- one step -/
theorem am_I1_ok (X : am_Fx p R s m args meth c cc nL own ini D) (hS : am_Snd l D tb d G) (hd1 : d + 1 ≤ R.frames) (hd2 : 100 * d + 100 ≤ R.locals) {ai : am_I} (hok : am_ok1 tb own ini nL ai) {pc : Nat} (hd : decode cc pc = .ok (ai.1, am_len ai.1)) {x y : am_S} (hev : am_I1 G ai x = some y) (hB : am_B R h0 x.2.2) (hB' : am_B R h0 y.2.2)
    (kk : am_At p l e R s m args below meth c Q D nL h0 y (pc + am_len ai.1)) : am_At p l e R s m args below meth c Q D nL h0 x pc := by
  have hx := X.1
  have hb := X.2.1
  obtain ⟨i, a1, a2, a3⟩ := ai
  cases i <;> try (simp only [am_I1] at hev; cases hev; done)
  case iconst n =>
    simp only [am_I1] at hev; cases hev
    exact at_push (v := vI n) (fun k => lv_iconst hx hb hd rfl k) kk
  case bipush n =>
    simp only [am_I1] at hev; cases hev
    have hok : -128 ≤ n ∧ n ≤ 127 := hok
    exact at_push (v := vI n) (fun k => lv_bipush hx hb hd (Int8.toInt32_ofInt (by show (-128 : Int) ≤ n; omega) (by show n ≤ (127 : Int); omega)) k) kk
  case sipush n =>
    simp only [am_I1] at hev; cases hev
    have hok : -32768 ≤ n ∧ n ≤ 32767 := hok
    exact at_push (v := vI n) (fun k => lv_sipush hx hb hd (Int16.toInt32_ofInt (by show (-32768 : Int) ≤ n; omega) (by show n ≤ (32767 : Int); omega)) k) kk
  case ldc n =>
    simp only [am_I1] at hev; cases hev
    exact at_push (v := vI a1) (fun k => lv_ldc hx hb X.2.2.2.1 (X.w hok rfl) hd k) kk
  case ldc2_w n =>
    simp only [am_I1] at hev; cases hev
    exact at_push (v := vL (Int64.ofNat a1)) (fun k => lv_ldc2 hx hb X.2.2.2.1 (X.w hok rfl) hd k) kk
  case iload i => exact at_ldi (fun h k => lv_iload hx hb hd h k) hev kk
  case iload_n i => exact at_ldi (fun h k => lv_iload_n hx hb hd rfl h k) hev kk
  case aload i => exact at_lda (fun h k => lv_aload hx hb hd h k) hev kk
  case aload_n i => exact at_lda (fun h k => lv_aload_n hx hb hd rfl h k) hev kk
  case lload_n i => exact at_ldl (fun h k => lv_lload_n hx hb hd rfl h k) hev kk
  case istore i =>
    simp only [am_I1, am_sti] at hev
    split at hev
    · obtain ⟨B, hB1, rfl⟩ := Option.map_eq_some_iff.mp hev
      exact at_st (v := vI _) hok rfl hB1 (fun h k => W.ist hx hb (Or.inr ⟨rfl, hd⟩) h k) kk
    · cases hev
  case istore_n i =>
    simp only [am_I1, am_sti] at hev
    split at hev
    · obtain ⟨B, hB1, rfl⟩ := Option.map_eq_some_iff.mp hev
      exact at_st (v := vI _) hok rfl hB1 (fun h k => W.ist hx hb (Or.inl ⟨i, rfl, rfl, hd⟩) h k) kk
    · cases hev
  case astore i =>
    simp only [am_I1, am_sta] at hev
    split at hev
    · obtain ⟨B, hB1, rfl⟩ := Option.map_eq_some_iff.mp hev
      exact at_st (v := vR _) hok rfl hB1 (fun h k => W.ast hx hb (Or.inr ⟨rfl, hd⟩) h k) kk
    · cases hev
  case astore_n i =>
    simp only [am_I1, am_sta] at hev
    split at hev
    · obtain ⟨B, hB1, rfl⟩ := Option.map_eq_some_iff.mp hev
      exact at_st (v := vR _) hok rfl hB1 (fun h k => W.ast hx hb (Or.inl ⟨i, rfl, rfl, hd⟩) h k) kk
    · cases hev
  case lstore_n i =>
    simp only [am_I1, am_stl] at hev
    split at hev
    · obtain ⟨B, hB1, rfl⟩ := Option.map_eq_some_iff.mp hev
      intro LS H locs hl hR hf
      obtain ⟨ls', e', h'⟩ := am_ls.st2 hl hok hB1
      exact W.lst hx hb hd e' (kk ls' H locs h' hR hf)
    · cases hev
  case iinc i n =>
    simp only [am_I1] at hev
    cases hv : lget x.1 i with
    | inl v =>
      simp only [hv] at hev
      obtain ⟨B, hB1, rfl⟩ := Option.map_eq_some_iff.mp hev
      intro LS H locs hl hR hf
      obtain ⟨ls', e', h'⟩ := am_ls.st1 hl (v := vI (v + n)) hok rfl hB1
      refine W.inc hx hb hd (hl.at hv (by intro q; cases q)) ?_ (kk ls' H locs h' hR hf)
      rw [← Int32.ofInt_add]
      exact e'
    | inr v => simp only [hv] at hev; cases hev
  case dup =>
    simp only [am_I1] at hev
    split at hev
    · split at hev <;> cases hev
      rename_i hc
      exact fun LS H locs hl hR hf => lv_dup hx hb hd (by rw [am_rv_cat]; exact hc) (kk LS H locs hl hR hf)
    · cases hev
  case pop =>
    simp only [am_I1] at hev
    split at hev
    · split at hev <;> cases hev
      rename_i hc
      exact fun LS H locs hl hR hf => lv_pop hx hb hd (by rw [am_rv_cat]; exact hc) (kk LS H locs hl hR hf)
    · cases hev
  case iadd => exact at_b2 (g := (· + ·)) (fun a b => Int32.ofInt_add a b) (fun k => lv_iadd hx hb hd k) hev kk
  case isub => exact at_b2 (g := (· - ·)) (fun a b => Int32.ofInt_sub a b) (fun k => lv_isub hx hb hd k) hev kk
  case imul => exact at_b2 (g := (· * ·)) (fun a b => Int32.ofInt_mul a b) (fun k => lv_imul hx hb hd k) hev kk
  case ixor => exact at_b2 (g := (· ^^^ ·)) (fun a b => Int32.ofInt_toInt _) (fun k => lv_ixor hx hb hd k) hev kk
  case ineg =>
    simp only [am_I1] at hev
    split at hev <;> cases hev
    intro LS H locs hl hR hf
    refine lv_ineg hx hb hd ?_
    rw [← Int32.ofInt_neg]
    exact kk LS H locs hl hR hf
  case idiv => exact at_b3 (g := (· / ·)) (C := fun b => ¬ b = 0) (fun a b ha hb2 h => ⟨(i32_div ha hb2 (of_decide_eq_true h)).symm, i32_ne0 hb2 (of_decide_eq_true h)⟩) (fun h k => lv_idiv hx hb hd h k) hev kk
  case irem => exact at_b3 (g := fun a b => a - a / b * b) (C := fun b => ¬ b = 0) (fun a b ha hb2 h => ⟨i32_rem ha hb2 (of_decide_eq_true h), i32_ne0 hb2 (of_decide_eq_true h)⟩) (fun h k => lv_irem hx hb hd h k) hev kk
  case ishr => exact at_b3 (g := fun a b => a >>> (b &&& 31)) (C := fun _ => True) (fun a b ha hb2 h => ⟨i32_shr ha (of_decide_eq_true h), trivial⟩) (fun _ k => lv_ishr hx hb hd k) hev kk
  case iand => exact at_b3 (g := fun a b => a &&& b) (C := fun _ => True) (fun a b ha hb2 h => ⟨i32_and ha (of_decide_eq_true h), trivial⟩) (fun _ k => lv_iand hx hb hd k) hev kk
  case i2l =>
    simp only [am_I1] at hev
    split at hev
    · split at hev <;> cases hev
      rename_i hc
      exact fun LS H locs hl hR hf => lv_i2l hx hb hd (Int32.toInt64_ofInt (by have := hc.1; show (-2147483648 : Int) ≤ _; omega) (by have := hc.2; show _ ≤ (2147483647 : Int); omega)) (kk LS H locs hl hR hf)
    · cases hev
  case ladd =>
    simp only [am_I1] at hev
    split at hev <;> cases hev
    exact fun LS H locs hl hR hf => lv_ladd hx hb hd (kk LS H locs hl hR hf)
  case lmul =>
    simp only [am_I1] at hev
    split at hev <;> cases hev
    exact fun LS H locs hl hR hf => lv_lmul hx hb hd (kk LS H locs hl hR hf)
  case lcmp =>
    simp only [am_I1] at hev
    split at hev <;> cases hev
    intro LS H locs hl hR hf
    refine W.lcmp hx hb hd ?_
    have := kk LS H locs hl hR hf
    simp only [List.map_cons, am_rv, Int32.ofInt_toInt] at this
    exact this
  case getfield i => exact at_get X hok hd hev kk
  case putfield i => exact at_put X hok.1 hok.2.1 hok.2.2 hd hev kk
  case getstatic i => exact at_gets X hok hd hev kk
  case iaload => exact at_iald X hd hev kk
  case baload => exact at_bald X hd hev kk
  case aaload => exact at_aald X hd hev kk
  case iastore => exact at_iast X hd hev kk
  case bastore => exact at_bast X hd hev kk
  case aastore => exact at_aast X hd hev kk
  case arraylength => exact at_alen X hd hev kk
  case newarray t => exact at_newa X hok hB hB' hd hev kk
  case anewarray i => exact at_anew X hok hB hB' hd hev kk
  case multianewarray i dd => exact at_multi X hok hB hB' hd hev kk
  case new i => exact at_new X hok hB hB' hd hev kk
  case invokevirtual i => exact at_invV X hS hd1 hd2 hok hB hB' hd hev kk
  case invokespecial i =>
    have hok : (if a1 = 998 then _ else _ : Prop) := hok
    by_cases h998 : a1 = 998
    · subst h998
      rw [if_pos rfl] at hok
      exact at_oini X hok hd hev kk
    · rw [if_neg h998] at hok
      simp only [am_I1, if_neg h998] at hev
      exact at_invI X hS hd1 hd2 hok hB hB' hd hev kk
  case invokestatic i =>
    have hok : (if a1 = 999 then _ else _ : Prop) := hok
    by_cases h999 : a1 = 999
    · subst h999
      rw [if_pos rfl] at hok
      simp only [am_I1, if_true] at hev
      exact at_copy X hok hd hev kk
    · rw [if_neg h999] at hok
      simp only [am_I1, if_neg h999] at hev
      exact at_invS X hS hd1 hd2 hok hB hB' hd hev kk
end SOUND
end
section
/-! Stretches, their ends, trees, tables of methods. -/
def am_okL (tb : Nat → Option am_M) (own : String) (ini : Bool) (nL : Nat) (cc : ByteArray) : List am_I → Nat → Nat → Prop
  | [], pc, pc' => pc' = pc
  | i :: r, pc, pc' => am_ok1 tb own ini nL i ∧ decode cc pc = .ok (i.1, am_len i.1) ∧ am_okL tb own ini nL cc r (pc + am_len i.1) pc'
def am_okt (cc : ByteArray) (ret : Option FieldType) (i : Instr) (ts : List Nat) (pc pc' : Nat) : Prop := match i with
  | .goto off => decode cc pc = .ok (.goto off, 3) ∧ pc' = pc + 3 ∧ (pc : Int) + off = ((ts.headD 0 : Nat) : Int)
  | .ifCond c off => decode cc pc = .ok (.ifCond c off, 3) ∧ pc' = pc + 3 ∧ (pc : Int) + off = ((ts.headD 0 : Nat) : Int)
  | .if_icmp c off => decode cc pc = .ok (.if_icmp c off, 3) ∧ pc' = pc + 3 ∧ (pc : Int) + off = ((ts.headD 0 : Nat) : Int)
  | .tableswitch dd lo hi offs => ∃ n, decode cc pc = .ok (.tableswitch dd lo hi offs, n) ∧ pc' = pc + n ∧ (pc : Int) + dd = ((ts.headD 0 : Nat) : Int) ∧ (∀ j : Nat, (j : Int) ≤ hi - lo → ∃ off, offs[j]? = some off ∧ (pc : Int) + off = ((ts.getD (j + 1) 0 : Nat) : Int))
  | .ireturn => decode cc pc = .ok (.ireturn, 1) ∧ pc' = pc + 1 ∧ ((ts.headD 0 = 0 ∧ ret = some .int) ∨ (ts.headD 0 = 1 ∧ ret = some .boolean))
  | .lreturn => decode cc pc = .ok (.lreturn, 1) ∧ pc' = pc + 1 ∧ ret = some .long
  | .areturn => decode cc pc = .ok (.areturn, 1) ∧ pc' = pc + 1 ∧ ∃ n, ret = some (.object n)
  | .return_ => decode cc pc = .ok (.return_, 1) ∧ pc' = pc + 1 ∧ ret = none
  | _ => False
def am_okT (tb : Nat → Option am_M) (own : String) (ini : Bool) (nL : Nat) (cc : ByteArray) (ret : Option FieldType) : am_T → Nat → Nat → Prop
  | .leaf q, pc, pc' => match q.2 with
    | none => am_okL tb own ini nL cc q.1 pc pc'
    | some r => ∃ pc1, am_okL tb own ini nL cc q.1 pc pc1 ∧ am_okt cc ret r.1 r.2 pc1 pc'
  | .branch 0 a b, pc, pc' => ∃ pc1, am_okT tb own ini nL cc ret a pc pc1 ∧ am_okT tb own ini nL cc ret b pc1 pc'
  | .branch (n + 1) a _, pc, pc' => am_okT tb own ini nL cc ret a pc pc' ∧ (if n % 2 = 0 then n / 2 = pc' else n / 2 = pc)
section TREE
variable {p : Program} {l : Launch} {e : Env} {R : Room} {s : State} {m : MethodId} {args : Array Value} {below : List Frame} {meth : Method} {c : Code} {Q : State → Prop} {cc : ByteArray} {nL : Nat} {own : String} {ini : Bool} {D : am_D} {h0 : am_H}
variable {tb : Nat → Option am_M} {d : Nat} {G : am_G} {ret : Option FieldType}
theorem am_L_le (hS : am_Snd l D tb d G) : ∀ (is : List am_I) {pc pc' : Nat}, am_okL tb own ini nL cc is pc pc' → ∀ {x y : am_S}, am_L G is x = some y → am_le x.2.2 y.2.2
  | [], _, _, _, x, y, h => by cases h; exact am_le.rf _
  | i :: r, pc, pc', hok, x, y, h => by
    obtain ⟨z, h1, h2⟩ := Option.bind_eq_some_iff.mp h
    exact (am_I1_le hS hok.1 h1).tr (am_L_le hS r hok.2.2 h2)
theorem am_L_ok (X : am_Fx p R s m args meth c cc nL own ini D) (hS : am_Snd l D tb d G) (hd1 : d + 1 ≤ R.frames) (hd2 : 100 * d + 100 ≤ R.locals) : ∀ (is : List am_I) {pc pc' : Nat}, am_okL tb own ini nL cc is pc pc' → ∀ {x y : am_S}, am_L G is x = some y → am_B R h0 x.2.2 → am_B R h0 y.2.2 → am_At p l e R s m args below meth c Q D nL h0 y pc' → am_At p l e R s m args below meth c Q D nL h0 x pc
  | [], _, _, hok, x, y, h, _, _, kk => by
    cases h
    have hok : _ = _ := hok
    rw [← hok]
    exact kk
  | i :: r, pc, pc', hok, x, y, h, hB, hB', kk => by
    obtain ⟨z, h1, h2⟩ := Option.bind_eq_some_iff.mp h
    have l1 := am_I1_le hS hok.1 h1
    have l2 := am_L_le hS r hok.2.2 h2
    have hBz := hB.mid hB' l1 l2
    exact am_I1_ok X hS hd1 hd2 hok.1 hok.2.1 h1 hB hBz (am_L_ok X hS hd1 hd2 r hok.2.2 h2 hBz hB' kk)
variable {H : Heap} {locs : List Loc} {cells slots : Nat} {LS : Array Slot} {rest : List Value} {pc : Nat}
theorem W.ifc (hx : p.tables.exec = Jvm.exec) (hb : c.code = cc) {cd : Jvm.ClassFile.Cond} {a off : Int} {tgt : Nat} (ha : inR a) (hd : decode cc pc = .ok (.ifCond cd off, 3)) (ht : (pc : Int) + off = (tgt : Int))
    (k : W p l e R s m args below meth c H locs cells slots Q (F0 m (if am_cmp cd a 0 = true then tgt else pc + 3) LS rest)) : W p l e R s m args below meth c H locs cells slots Q (F0 m pc LS (.int (Int32.ofInt a) :: rest)) := by
  cases cd
  · refine lv_if_eq hx hb hd ht (fun h => ?_) (fun h => ?_) <;> rw [i32_0, i32_eq ha inR_0] at h <;> simpa [am_cmp, h] using k
  · refine lv_if_ne hx hb hd ht (fun h => ?_) (fun h => ?_) <;> rw [i32_0, i32_eq ha inR_0] at h <;> simpa [am_cmp, h] using k
  · refine lv_if_lt hx hb hd ht (fun h => ?_) (fun h => ?_) <;> rw [i32_0, i32_lt ha inR_0] at h <;> simpa [am_cmp, h] using k
  · refine lv_if_ge hx hb hd ht (fun h => ?_) (fun h => ?_) <;> rw [i32_0, i32_le inR_0 ha] at h <;> simpa [am_cmp, h] using k
  · refine lv_if_gt hx hb hd ht (fun h => ?_) (fun h => ?_) <;> rw [i32_0, i32_lt inR_0 ha] at h <;> simpa [am_cmp, h] using k
  · refine lv_if_le hx hb hd ht (fun h => ?_) (fun h => ?_) <;> rw [i32_0, i32_le ha inR_0] at h <;> simpa [am_cmp, h] using k
theorem W.icmp (hx : p.tables.exec = Jvm.exec) (hb : c.code = cc) {cd : Jvm.ClassFile.Cond} {a b off : Int} {tgt : Nat} (ha : inR a) (hb2 : inR b) (hd : decode cc pc = .ok (.if_icmp cd off, 3)) (ht : (pc : Int) + off = (tgt : Int))
    (k : W p l e R s m args below meth c H locs cells slots Q (F0 m (if am_cmp cd a b = true then tgt else pc + 3) LS rest)) : W p l e R s m args below meth c H locs cells slots Q (F0 m pc LS (.int (Int32.ofInt b) :: .int (Int32.ofInt a) :: rest)) := by
  cases cd
  · refine lv_icmp_eq hx hb hd ht (fun h => ?_) (fun h => ?_) <;> rw [i32_eq ha hb2] at h <;> simpa [am_cmp, h] using k
  · refine lv_icmp_ne hx hb hd ht (fun h => ?_) (fun h => ?_) <;> rw [i32_eq ha hb2] at h <;> simpa [am_cmp, h] using k
  · refine lv_icmp_lt hx hb hd ht (fun h => ?_) (fun h => ?_) <;> rw [i32_lt ha hb2] at h <;> simpa [am_cmp, h] using k
  · refine lv_icmp_ge hx hb hd ht (fun h => ?_) (fun h => ?_) <;> rw [i32_le hb2 ha] at h <;> simpa [am_cmp, h] using k
  · refine lv_icmp_gt hx hb hd ht (fun h => ?_) (fun h => ?_) <;> rw [i32_lt hb2 ha] at h <;> simpa [am_cmp, h] using k
  · refine lv_icmp_le hx hb hd ht (fun h => ?_) (fun h => ?_) <;> rw [i32_le ha hb2] at h <;> simpa [am_cmp, h] using k
/-- what is wanted behind a stretch, by the way it ends -/
def am_Way (p : Program) (l : Launch) (e : Env) (R : Room) (s : State) (m : MethodId) (args : Array Value) (below : List Frame) (meth : Method) (c : Code) (Q : State → Prop) (D : am_D) (nL : Nat) (h0 : am_H) (cc : ByteArray) (ret : Option FieldType) (pc' o : Nat) (y : am_S) : Prop :=
  (o = 0 → am_At p l e R s m args below meth c Q D nL h0 y pc') ∧ (∀ t, o = t + 2 → am_At p l e R s m args below meth c Q D nL h0 y t) ∧ (o = 1 → ∀ i ts pcx pcy, am_okt cc ret i ts pcx pcy → am_t i ts y = some (1, y) → am_At p l e R s m args below meth c Q D nL h0 y pcx)
theorem am_t_le {i : Instr} {ts : List Nat} {x y : am_S} {o : Nat} (h : am_t i ts x = some (o, y)) : y.2.2 = x.2.2 := by
  unfold am_t at h
  split at h
  · cases h; rfl
  · split at h
    · split at h <;> cases h; rfl
    · cases h
  · split at h
    · split at h <;> cases h; rfl
    · cases h
  · split at h
    · split at h <;> cases h; rfl
    · cases h
  · split at h
    · split at h <;> cases h; rfl
    · cases h
  · split at h <;> cases h; rfl
  · split at h <;> cases h; rfl
  · split at h <;> cases h; rfl
  · cases h
theorem am_t_ok (X : am_Fx p R s m args meth c cc nL own ini D) {i : Instr} {ts : List Nat} {pc pc' o : Nat} (hok : am_okt cc ret i ts pc pc') {x y : am_S} (hev : am_t i ts x = some (o, y)) (K : am_Way p l e R s m args below meth c Q D nL h0 cc ret pc' o y) : am_At p l e R s m args below meth c Q D nL h0 x pc := by
  have hx := X.1
  have hb := X.2.1
  have hev0 := hev
  unfold am_t at hev
  split at hev
  · obtain ⟨o1, o2, o3⟩ := hok
    cases hev
    exact fun LS H locs hl hR hf => lv_goto hx hb o1 o3 (K.2.1 _ rfl LS H locs hl hR hf)
  · obtain ⟨o1, o2, o3⟩ := hok
    split at hev
    · split at hev
      · rename_i cd off _ ls a st h hin
        cases hev
        intro LS H locs hl hR hf
        refine W.ifc hx hb hin o1 o3 ?_
        by_cases hc : am_cmp cd a 0 = true
        · rw [if_pos hc]
          exact K.2.1 _ (by rw [if_pos hc]) LS H locs hl hR hf
        · rw [if_neg hc, ← o2]
          exact K.1 (by rw [if_neg hc]) LS H locs hl hR hf
      · cases hev
    · cases hev
  · obtain ⟨o1, o2, o3⟩ := hok
    split at hev
    · split at hev
      · rename_i cd off _ ls b a st h hin
        cases hev
        intro LS H locs hl hR hf
        refine W.icmp hx hb hin.1 hin.2 o1 o3 ?_
        by_cases hc : am_cmp cd a b = true
        · rw [if_pos hc]
          exact K.2.1 _ (by rw [if_pos hc]) LS H locs hl hR hf
        · rw [if_neg hc, ← o2]
          exact K.1 (by rw [if_neg hc]) LS H locs hl hR hf
      · cases hev
    · cases hev
  · obtain ⟨n, o1, o2, o3, o4⟩ := hok
    split at hev
    · split at hev
      · rename_i dd lo hi offs _ ls a st h hin
        cases hev
        intro LS H locs hl hR hf
        have ha := i32_of hin
        by_cases hc : lo ≤ a ∧ a ≤ hi
        · obtain ⟨off, q1, q2⟩ := o4 (a - lo).toNat (by omega)
          refine lv_tableIn hx hb o1 (by rw [ha]; omega) (by rw [ha]; omega) (by rw [ha]; exact q1) q2 ?_
          exact K.2.1 _ (by rw [if_pos hc]) LS H locs hl hR hf
        · refine lv_tableOut hx hb o1 (by rw [ha]; omega) o3 ?_
          exact K.2.1 _ (by rw [if_neg hc]) LS H locs hl hR hf
      · cases hev
    · cases hev
  · split at hev
    · split at hev
      · cases hev; exact K.2.2 rfl _ _ _ _ hok hev0
      · cases hev
    · cases hev
  · split at hev
    · cases hev; exact K.2.2 rfl _ _ _ _ hok hev0
    · cases hev
  · split at hev
    · cases hev; exact K.2.2 rfl _ _ _ _ hok hev0
    · cases hev
  · split at hev
    · cases hev; exact K.2.2 rfl _ _ _ _ hok hev0
    · cases hev
  · cases hev
theorem am_lp_le {f : am_S → Option (Nat × am_S)} {L : Nat} (hf : ∀ x o y, f x = some (o, y) → am_le x.2.2 y.2.2) : ∀ (n : Nat) {x y : am_S} {o : Nat}, am_lp f L n x = some (o, y) → am_le x.2.2 y.2.2
  | 0, _, _, _, h => by cases h
  | n + 1, x, y, o, h => by
    obtain ⟨⟨o1, z⟩, h1, h2⟩ := Option.bind_eq_some_iff.mp h
    split at h2
    · exact (hf _ _ _ h1).tr (am_lp_le hf n h2)
    · cases h2; exact hf _ _ _ h1
theorem am_ev_le (hS : am_Snd l D tb d G) : ∀ (t : am_T) {pc pc' : Nat}, am_okT tb own ini nL cc ret t pc pc' → ∀ {x y : am_S} {o : Nat}, am_ev G t x = some (o, y) → am_le x.2.2 y.2.2
  | .leaf (is, none), pc, pc', hok, x, y, o, h => by
    obtain ⟨z, h1, h2⟩ := Option.bind_eq_some_iff.mp h
    cases h2
    exact am_L_le hS is hok h1
  | .leaf (is, some r), pc, pc', hok, x, y, o, h => by
    obtain ⟨z, h1, h2⟩ := Option.bind_eq_some_iff.mp h
    obtain ⟨pc1, k1, k2⟩ := hok
    rw [am_t_le h2]
    exact am_L_le hS is k1 h1
  | .branch 0 a b, pc, pc', hok, x, y, o, h => by
    obtain ⟨pc1, k1, k2⟩ := hok
    obtain ⟨⟨o1, z⟩, h1, h2⟩ := Option.bind_eq_some_iff.mp h
    split at h2
    · exact (am_ev_le hS a k1 h1).tr (am_ev_le hS b k2 h2)
    · cases h2; exact am_ev_le hS a k1 h1
  | .branch (n + 1) a _, pc, pc', hok, x, y, o, h => by
    unfold am_ev at h
    split at h
    · obtain ⟨⟨o1, z⟩, h1, h2⟩ := Option.map_eq_some_iff.mp h
      have := am_ev_le hS a hok.1 h1
      split at h2 <;> cases h2 <;> exact this
    · exact am_lp_le (fun x o y h => am_ev_le hS a hok.1 h) am_F h
theorem am_ev_ok (X : am_Fx p R s m args meth c cc nL own ini D) (hS : am_Snd l D tb d G) (hd1 : d + 1 ≤ R.frames) (hd2 : 100 * d + 100 ≤ R.locals) : ∀ (t : am_T) {pc pc' : Nat}, am_okT tb own ini nL cc ret t pc pc' → ∀ {x y : am_S} {o : Nat}, am_ev G t x = some (o, y) → am_B R h0 x.2.2 → am_B R h0 y.2.2 → am_Way p l e R s m args below meth c Q D nL h0 cc ret pc' o y → am_At p l e R s m args below meth c Q D nL h0 x pc
  | .leaf (is, none), pc, pc', hok, x, y, o, h, hB, hB', K => by
    obtain ⟨z, h1, h2⟩ := Option.bind_eq_some_iff.mp h
    cases h2
    exact am_L_ok X hS hd1 hd2 is hok h1 hB hB' (K.1 rfl)
  | .leaf (is, some r), pc, pc', hok, x, y, o, h, hB, hB', K => by
    obtain ⟨z, h1, h2⟩ := Option.bind_eq_some_iff.mp h
    obtain ⟨pc1, k1, k2⟩ := hok
    exact am_L_ok X hS hd1 hd2 is k1 h1 hB (by rw [← am_t_le h2]; exact hB') (am_t_ok X k2 h2 K)
  | .branch 0 a b, pc, pc', hok, x, y, o, h, hB, hB', K => by
    obtain ⟨pc1, k1, k2⟩ := hok
    obtain ⟨⟨o1, z⟩, h1, h2⟩ := Option.bind_eq_some_iff.mp h
    split at h2
    · rename_i ho
      have ho : o1 = 0 := ho
      subst ho
      have hBz := hB.mid hB' (am_ev_le hS a k1 h1) (am_ev_le hS b k2 h2)
      exact am_ev_ok X hS hd1 hd2 a k1 h1 hB hBz ⟨fun _ => am_ev_ok X hS hd1 hd2 b k2 h2 hBz hB' K, fun t ht => by omega, fun ht => by omega⟩
    · rename_i ho
      cases h2
      exact am_ev_ok X hS hd1 hd2 a k1 h1 hB hB' ⟨fun q => absurd q ho, K.2.1, K.2.2⟩
  | .branch (n + 1) a _, pc, pc', hok, x, y, o, h, hB, hB', K => by
    obtain ⟨k1, k2⟩ := hok
    unfold am_ev at h
    split at h
    · rename_i hn
      rw [if_pos hn] at k2
      obtain ⟨⟨o1, z⟩, h1, h2⟩ := Option.map_eq_some_iff.mp h
      split at h2
      · rename_i ho
        have ho : o1 = n / 2 + 2 := ho
        cases h2
        refine am_ev_ok X hS hd1 hd2 a k1 h1 hB hB' ⟨fun q => by omega, fun t ht => ?_, fun q => by omega⟩
        rw [show t = pc' by omega]
        exact K.1 rfl
      · cases h2
        exact am_ev_ok X hS hd1 hd2 a k1 h1 hB hB' K
    · rename_i hn
      rw [if_neg hn] at k2
      have hle : ∀ x o y, am_ev G a x = some (o, y) → am_le x.2.2 y.2.2 := fun x o y h => am_ev_le hS a k1 h
      have loop : ∀ (j : Nat) {x y : am_S} {o : Nat}, am_lp (am_ev G a) (n / 2) j x = some (o, y) → am_B R h0 x.2.2 → am_B R h0 y.2.2 → am_Way p l e R s m args below meth c Q D nL h0 cc ret pc' o y → am_At p l e R s m args below meth c Q D nL h0 x pc := by
        intro j
        induction j with
        | zero => intro x y o h; cases h
        | succ j ih =>
          intro x y o h hB hB' K
          obtain ⟨⟨o1, z⟩, h1, h2⟩ := Option.bind_eq_some_iff.mp h
          split at h2
          · rename_i ho
            have ho : o1 = n / 2 + 2 := ho
            have hBz := hB.mid hB' (hle _ _ _ h1) (am_lp_le hle j h2)
            refine am_ev_ok X hS hd1 hd2 a k1 h1 hB hBz ⟨fun q => by omega, fun t ht => ?_, fun q => by omega⟩
            rw [show t = pc by omega]
            exact ih h2 hBz hB' K
          · cases h2
            exact am_ev_ok X hS hd1 hd2 a k1 h1 hB hB' K
      exact loop am_F h hB hB' K
end TREE
end
section
/-! A table of methods: what its run computes, the machine's methods do. -/
theorem lget_nil (n : Nat) : ∀ i, lget (List.replicate n vU) i = vU := by
  induction n with
  | zero => intro i; rfl
  | succ n ih =>
    intro i
    cases i with
    | zero => rfl
    | succ i => exact ih i
theorem lget_app (A : List am_V) (n : Nat) : ∀ i, lget (A ++ List.replicate n vU) i = lget A i := by
  induction A with
  | nil => intro i; exact lget_nil n i
  | cons a r ih =>
    intro i
    cases i with
    | zero => rfl
    | succ i => exact ih i
theorem am_lay_sl (z : am_Z) : ∀ as : List am_V, (lg_sl (as.map (am_rv z))).length = (am_lay as).length ∧ ∀ i, lget (am_lay as) i ≠ vU → (lg_sl (as.map (am_rv z)))[i]? = some (.val (am_rv z (lget (am_lay as) i)))
  | [] => ⟨rfl, fun i h => absurd rfl h⟩
  | v :: r => by
    obtain ⟨h1, h2⟩ := am_lay_sl z r
    have one : ∀ w : Value, w.category = 1 → w = am_rv z v → am_lay (v :: r) = v :: am_lay r → (lg_sl ((v :: r).map (am_rv z))).length = (am_lay (v :: r)).length ∧ ∀ i, lget (am_lay (v :: r)) i ≠ vU → (lg_sl ((v :: r).map (am_rv z)))[i]? = some (.val (am_rv z (lget (am_lay (v :: r)) i))) := by
      intro w hw e1 e2
      have e3 : lg_sl ((v :: r).map (am_rv z)) = .val (am_rv z v) :: lg_sl (r.map (am_rv z)) := by
        have hc : ¬ (am_rv z v).category = 2 := by rw [← e1, hw]; decide
        simp only [List.map_cons, lg_sl, List.flatMap_cons, if_neg hc]
        rfl
      rw [e2, e3]
      refine ⟨by simp [h1], fun i hi => ?_⟩
      cases i with
      | zero => rfl
      | succ i => exact h2 i hi
    rcases v with x | (_ | x) | x | x
    · exact one (.int (Int32.ofInt x)) rfl rfl rfl
    · exact one .null rfl rfl rfl
    · exact one (.ref (am_rho z x)) rfl rfl rfl
    · refine ⟨?_, fun i hi => ?_⟩
      · show (lg_sl (r.map (am_rv z))).length + 1 + 1 = (am_lay r).length + 1 + 1
        rw [h1]
      · rcases i with _ | _ | i
        · rfl
        · exact absurd rfl hi
        · exact h2 i hi
    · exact one .null rfl rfl rfl
theorem am_in_ls (z : am_Z) (as : List am_V) (n : Nat) (h : (am_lay as).length ≤ n) : am_ls z n (am_in as n) ((lg_sl (as.map (am_rv z)) ++ List.replicate (n - (lg_sl (as.map (am_rv z))).length) Slot.unset).toArray) := by
  obtain ⟨h1, h2⟩ := am_lay_sl z as
  have h3 := lv_entry (as.map (am_rv z)) (n := n) (by rw [h1]; exact h)
  refine ⟨?_, ⟨h3.1, h3.2.1, fun q hq => absurd hq List.not_mem_nil⟩, fun i hi => ?_⟩
  · unfold am_in
    rw [List.length_append, List.length_replicate]
    omega
  · unfold am_in at hi ⊢
    rw [lget_app] at hi ⊢
    have h4 := h2 i hi
    rw [List.getElem?_toArray, List.getElem?_append_left (List.getElem?_eq_some_iff.mp h4).1]
    exact h4
theorem am_t_ret {i : Instr} {ts : List Nat} {x y : am_S} (h : am_t i ts x = some (1, y)) : y.2.1.length ≤ 1 := by
  unfold am_t at h
  split at h
  · cases h
  · split at h
    · split at h
      · split at h <;> cases h
      · cases h
    · cases h
  · split at h
    · split at h
      · split at h <;> cases h
      · cases h
    · cases h
  · split at h
    · split at h <;> cases h
    · cases h
  · split at h
    · split at h <;> cases h; exact Nat.le_refl 1
    · cases h
  · split at h <;> cases h; exact Nat.le_refl 1
  · split at h <;> cases h; exact Nat.le_refl 1
  · split at h <;> cases h; exact Nat.zero_le 1
  · cases h
theorem am_lp_ret {f : am_S → Option (Nat × am_S)} {L : Nat} (hf : ∀ x y, f x = some (1, y) → y.2.1.length ≤ 1) : ∀ (n : Nat) {x y : am_S}, am_lp f L n x = some (1, y) → y.2.1.length ≤ 1
  | 0, _, _, h => by cases h
  | n + 1, x, y, h => by
    obtain ⟨⟨o1, z⟩, h1, h2⟩ := Option.bind_eq_some_iff.mp h
    split at h2
    · exact am_lp_ret hf n h2
    · cases h2; exact hf _ _ h1
theorem am_ev_ret {G : am_G} : ∀ (t : am_T) {x y : am_S}, am_ev G t x = some (1, y) → y.2.1.length ≤ 1
  | .leaf (is, none), x, y, h => by
    obtain ⟨z, h1, h2⟩ := Option.bind_eq_some_iff.mp h
    cases h2
  | .leaf (is, some r), x, y, h => by
    obtain ⟨z, h1, h2⟩ := Option.bind_eq_some_iff.mp h
    exact am_t_ret h2
  | .branch 0 a b, x, y, h => by
    obtain ⟨⟨o1, z⟩, h1, h2⟩ := Option.bind_eq_some_iff.mp h
    split at h2
    · exact am_ev_ret b h2
    · cases h2; exact am_ev_ret a h1
  | .branch (n + 1) a _, x, y, h => by
    unfold am_ev at h
    split at h
    · obtain ⟨⟨o1, z⟩, h1, h2⟩ := Option.map_eq_some_iff.mp h
      split at h2 <;> cases h2
      exact am_ev_ret a h1
    · exact am_lp_ret (fun x y h => am_ev_ret a h) am_F h
def am_okM (tb : Nat → Option am_M) (q : am_M) : Prop := plainFor q.2.1 = true ∧ ∃ pc', am_okT tb q.2.1.cls (q.2.1.name == "<init>") q.2.2.2.1 q.2.2.1 q.2.2.2.2.1 q.2.2.2.2.2 0 pc'
theorem am_run_eq {tb : Nat → Option am_M} {d k : Nat} {q : am_M} {as : List am_V} {h : am_H} {v : List am_V} {h' : am_H} (hq : tb k = some q) (hg : am_run tb (d + 1) k as h = some (v, h')) : (am_lay as).length ≤ q.2.2.2.1 ∧ ∃ ls', am_ev (am_run tb d) q.2.2.2.2.2 (am_in as q.2.2.2.1, [], h) = some (1, ls', v, h') := by
  have hg : (tb k).bind (fun q => if (am_lay as).length ≤ q.2.2.2.1 then (am_ev (am_run tb d) q.2.2.2.2.2 (am_in as q.2.2.2.1, [], h)).bind fun r => if r.1 = 1 then some (r.2.2.1, r.2.2.2) else none else none) = some (v, h') := hg
  rw [hq, Option.bind_some] at hg
  split at hg
  · rename_i hl
    obtain ⟨⟨o, ls', st', h2⟩, e1, e2⟩ := Option.bind_eq_some_iff.mp hg
    split at e2
    · rename_i ho
      have ho : o = 1 := ho
      subst ho
      cases e2
      exact ⟨hl, ls', e1⟩
    · cases e2
  · cases hg
theorem Met.ofWF {l : Launch} {y : MethodName} {ws ws' : List Cond} {rm : Room} {Pc : Array Value → State → Prop} {Qc : Array Value → State → Outcome → State → Prop} {mc ms : Nat} {free : Addr → Prop} {cc : ByteArray} {maxL : Nat} {ret : Option FieldType}
    (hy : plainFor y = true) (hw : ws = Cond.code y cc maxL ret :: ws')
    (body : ∀ p e s m args below meth c s₁, BodyLoose p l y (headSpec ws rm) cc maxL ret e s m args below meth c s₁ → c.maxLocals = maxL → Pc args s →
      W p l e (headSpec ws rm).room s m args below meth c s.heap [] 0 0 (MQ below Qc args s mc ms free) (entryFrame m args maxL)) : Met l y ws rm Pc Qc mc ms free := by
  refine MetFree.of_bodySF (code := cc) (maxLocals := maxL) (ret := ret) hy ?_ ?_
  · intro args s m h hn
    obtain ⟨meth, c, h1, h2, h3, h4, h5, h6, -, -⟩ := Cond.code_spec hn (atoms_spec (ws := ws) h _ (by rw [hw]; exact List.mem_cons_self))
    exact ⟨meth, c, h1, h2, h3, h4, h5, h6⟩
  · intro p e s m args below meth c s₁ B hml hP _
    have hh0 : s₁.heap = s.heap := by rw [B.state]; rfl
    obtain ⟨t, a1, o, b1, b2, b3⟩ := body p e s m args below meth c s₁ B hml hP s₁ hh0 (Stand.of_body B)
    exact ⟨t, o, a1, b1, b2, ⟨b3.1, b3.2⟩⟩
theorem am_run_ok (l : Launch) (D : am_D) (tb : Nat → Option am_M) (htb : ∀ k q, tb k = some q → am_okM tb q) : ∀ d, am_Snd l D tb d (am_run tb d) := by
  intro d
  induction d with
  | zero => intro k q as h v h' _ hg; cases hg
  | succ d ih =>
    intro k q as h v h' hq hg
    obtain ⟨hlen, ls', hev⟩ := am_run_eq hq hg
    obtain ⟨hpl, pcE, hok⟩ := htb k q hq
    have hle : am_le h h' := am_ev_le ih _ hok hev
    refine ⟨hle, am_ev_ret _ hev, ?_⟩
    refine Met.ofWF (cc := q.2.2.1) (maxL := q.2.2.2.1) (ret := q.2.2.2.2.1) hpl rfl ?_
    intro p e s m args below meth c s₁ B hml hv
    obtain ⟨rfl, hR, hK⟩ := hv
    have hlocks : meth.locks = false := B.notSynchronized
    have hts := atoms_spec (ws := Cond.code q.2.1 q.2.2.1 q.2.2.2.1 q.2.2.2.2.1 :: lw_good) B.pre
    have X : am_Fx p (am_rm (d + 1) (h'.1 - h.1) (am_sl h' - am_sl h)) s m (as.map (am_rv D.1)).toArray meth c q.2.2.1 q.2.2.2.1 q.2.1.cls (q.2.1.name == "<init>") D :=
      ⟨B.exec, B.bytes, hml, findClass_of_methodNamed B.named, fun w hw => hts w (List.mem_cons_of_mem _ hw), hK, by show 1 ≤ d + 1; omega, by show 100 ≤ 100 * (d + 1); omega, fun hi => by rw [(name_of_methodNamed B.named B.method).1]; exact eq_of_beq hi⟩
    have hB : am_B (am_rm (d + 1) (h'.1 - h.1) (am_sl h' - am_sl h)) h h := ⟨Nat.le_refl _, Nat.le_refl _, by show h.1 - h.1 ≤ h'.1 - h.1; omega, by show am_sl h - am_sl h ≤ am_sl h' - am_sl h; omega⟩
    have hB' : am_B (am_rm (d + 1) (h'.1 - h.1) (am_sl h' - am_sl h)) h h' := ⟨hle.1, hle.2, Nat.le_refl _, Nat.le_refl _⟩
    have hret := B.returns
    have main : am_At p l e (am_rm (d + 1) (h'.1 - h.1) (am_sl h' - am_sl h)) s m (as.map (am_rv D.1)).toArray below meth c (MQ below (am_Qc D v h') (as.map (am_rv D.1)).toArray s (h'.1 - h.1) (am_sl h' - am_sl h) (fun a => D.1.2.2.2 ≤ a)) D q.2.2.2.1 h (am_in as q.2.2.2.1, [], h) 0 := by
      refine am_ev_ok X ih (by show d + 1 ≤ d + 1; omega) (by show 100 * d + 100 ≤ 100 * (d + 1); omega) _ hok hev hB hB' ⟨fun q => by omega, fun t ht => by omega, fun _ i ts pcx pcy hokt ht => ?_⟩
      intro LS H locs hl hR hf
      have post : ∀ t : State, t.heap = H → s.WarmedH t.vm → am_Qc D v h' (as.map (am_rv D.1)).toArray s (.returned (v.map (am_rv D.1)).head?) t := fun t ht hW => ⟨rfl, am_ev_ret _ hev, by rw [ht]; exact am_R.moved hW.alike hR⟩
      show W p l e _ s m _ below meth c H locs (h'.1 - h.1) (am_sl h' - am_sl h) _ (F0 m pcx LS (v.map (am_rv D.1)))
      unfold am_t at ht
      split at ht
      · exact absurd (congrArg Prod.fst (Option.some.inj ht)) (by show ¬ _ + 2 = 1; omega)
      · split at ht
        · split at ht
          · have := congrArg Prod.fst (Option.some.inj ht); split at this <;> cases this
          · cases ht
        · cases ht
      · split at ht
        · split at ht
          · have := congrArg Prod.fst (Option.some.inj ht); split at this <;> cases this
          · cases ht
        · cases ht
      · split at ht
        · split at ht
          · exact absurd (congrArg Prod.fst (Option.some.inj ht)) (by show ¬ _ + 2 = 1; omega)
          · cases ht
        · cases ht
      · obtain ⟨o1, -, o2⟩ := hokt
        split at ht
        · rename_i ls1 a h1 he
          cases he
          split at ht
          · rename_i hz
            rcases o2 with ⟨-, o2⟩ | ⟨o3, o2⟩
            · exact W.iret (v := Int32.ofInt a) X.1 X.2.1 (hret.trans o2) post hf o1
            · have hz : a = 0 ∨ a = 1 := by rcases hz with hz | hz | hz <;> omega
              refine W.zret (v := Int32.ofInt a) (ty := .boolean) X.1 X.2.1 (hret.trans o2) ?_ post hf o1
              rcases hz with rfl | rfl <;> rfl
          · cases ht
        · cases ht
      · obtain ⟨o1, -, o2⟩ := hokt
        split at ht
        · rename_i ls1 a h1 he
          cases he
          exact W.lret (v := a) X.1 X.2.1 (hret.trans o2) post hf o1
        · cases ht
      · obtain ⟨o1, -, n, o2⟩ := hokt
        split at ht
        · rename_i ls1 a h1 he
          cases he
          exact W.aret (v := .ref (am_rho D.1 a)) X.1 X.2.1 (hret.trans o2) (Or.inl ⟨n, rfl⟩) (Or.inr ⟨_, rfl⟩) post hf o1
        · cases ht
      · obtain ⟨o1, -, o2⟩ := hokt
        split at ht
        · rename_i ls1 h1 he
          cases he
          exact W.vret X.1 X.2.1 (hret.trans o2) post hf o1
        · cases ht
      · cases ht
    have fin := main _ s.heap [] (am_in_ls D.1 as q.2.2.2.1 hlen) hR (fun q hq => absurd hq List.not_mem_nil)
    rw [show (am_in as q.2.2.2.1, ([] : List am_V), h).2.2 = h from rfl, Nat.sub_self, Nat.sub_self] at fin
    rw [lg_entry_eq]
    exact fin
end
section
/-! The program: its methods as trees. Written by wip/whole/gen_prog.py. -/
-- WeylWords$Action.<init>(LWeylWords$Algebra;)V
def tX0_init : am_T := tB [(.aload_n 0, 0, 0, 0), (.invokespecial 3, 998, 1, 0), (.aload_n 0, 0, 0, 0), (.bipush 16, 0, 0, 0), (.bipush 31, 0, 0, 0), (.multianewarray 9 2, 0, 0, 0), (.putfield 11, 0, 1, 3), (.aload_n 0, 0, 0, 0), (.bipush 31, 0, 0, 0), (.newarray .int, 20, 0, 0), (.putfield 16, 0, 2, 3), (.aload_n 0, 0, 0, 0), (.aload_n 1, 0, 0, 0), (.getfield 20, 1, 1, 0), (.putfield 25, 0, 0, 3)] (.return_) []
def qX0_init : am_M := (RX0, yX0_init, cX0_init, 2, none, tX0_init)
-- WeylWords$Action.degree([I)I
def wX0_degree_5 : am_T := tQ (tB [(.iload_n 1, 0, 0, 0)] (.ifCond .lt 17) [23]) (tQ (tS [(.aload_n 0, 0, 0, 0), (.iload_n 1, 0, 0, 0), (.iaload, 0, 0, 0)]) (tQ (tK 17 (tQ (tB [] (.ifCond .eq 5) [17]) (tB [(.iload_n 1, 0, 0, 0)] (.ireturn) [0]))) (tB [(.iinc 1 (-1), 0, 0, 0)] (.goto (-15)) [5])))
def tX0_degree : am_T := tQ (tS [(.aload_n 0, 0, 0, 0), (.arraylength, 0, 0, 0), (.iconst 1, 0, 0, 0), (.isub, 0, 0, 0), (.istore_n 1, 0, 0, 0)]) (tQ (tK 23 (tW 5 wX0_degree_5)) (tB [(.iconst (-1), 0, 0, 0)] (.ireturn) [0]))
def qX0_degree : am_M := (RX0, yX0_degree, cX0_degree, 2, (some .int), tX0_degree)
-- WeylWords$Action.fits(LWeylWords$Operator;[I)Z
def wX0_fits_8 : am_T := tQ (tB [(.iload 4, 0, 0, 0), (.bipush 91, 0, 0, 0)] (.if_icmp .ge 51) [63]) (tQ (tS [(.getstatic 30, 2, 0, 0), (.iload 4, 0, 0, 0), (.iaload, 0, 0, 0), (.istore 5, 0, 0, 0), (.aload_n 1, 0, 0, 0), (.getfield 35, 6, 0, 0), (.iload 4, 0, 0, 0), (.iaload, 0, 0, 0)]) (tQ (tK 57 (tQ (tB [] (.ifCond .eq 27) [57]) (tQ (tB [(.iload 5, 0, 0, 0), (.iload_n 3, 0, 0, 0)] (.if_icmp .gt 21) [57]) (tQ (tB [(.iload_n 3, 0, 0, 0), (.iload 5, 0, 0, 0), (.isub, 0, 0, 0), (.getstatic 38, 1, 0, 0), (.iload 4, 0, 0, 0), (.iaload, 0, 0, 0), (.iadd, 0, 0, 0), (.bipush 30, 0, 0, 0)] (.if_icmp .le 5) [57]) (tB [(.iconst 0, 0, 0, 0)] (.ireturn) [1]))))) (tB [(.iinc 4 1, 0, 0, 0)] (.goto (-52)) [8])))
def tX0_fits : am_T := tQ (tS [(.aload_n 2, 0, 0, 0), (.invokestatic 26, 1, 1, 0), (.istore_n 3, 0, 0, 0), (.iconst 0, 0, 0, 0), (.istore 4, 0, 0, 0)]) (tQ (tK 63 (tW 8 wX0_fits_8)) (tB [(.iconst 1, 0, 0, 0)] (.ireturn) [1]))
def qX0_fits : am_M := (RX0, yX0_fits, cX0_fits, 6, (some .boolean), tX0_fits)
-- WeylWords$Action.apply(LWeylWords$Operator;[I)V
def wX0_apply_16 : am_T := tQ (tB [(.iload 4, 0, 0, 0), (.iload_n 3, 0, 0, 0)] (.if_icmp .gt 31) [50]) (tQ (tS [(.aload_n 2, 0, 0, 0), (.iload 4, 0, 0, 0), (.iaload, 0, 0, 0)]) (tQ (tK 44 (tQ (tB [] (.ifCond .eq 18) [44]) (tS [(.aload_n 0, 0, 0, 0), (.aload_n 0, 0, 0, 0), (.getfield 16, 0, 2, 0), (.aload_n 1, 0, 0, 0), (.aload_n 2, 0, 0, 0), (.iload 4, 0, 0, 0), (.iaload, 0, 0, 0), (.iload 4, 0, 0, 0), (.invokevirtual 47, 4, 5, 0)]))) (tB [(.iinc 4 1, 0, 0, 0)] (.goto (-31)) [16])))
def tX0_apply : am_T := tQ (tS [(.aload_n 0, 0, 0, 0), (.getfield 16, 0, 2, 0), (.iconst 0, 0, 0, 0), (.invokestatic 41, 234, 2, 0), (.aload_n 2, 0, 0, 0), (.invokestatic 26, 1, 1, 0), (.istore_n 3, 0, 0, 0), (.iconst 0, 0, 0, 0), (.istore 4, 0, 0, 0)]) (tQ (tK 50 (tW 16 wX0_apply_16)) (tB [] (.return_) []))
def qX0_apply : am_M := (RX0, yX0_apply, cX0_apply, 5, none, tX0_apply)
-- WeylWords$Action.addImage([ILWeylWords$Operator;II)V
def wX0_addImage_13 : am_T := tQ (tB [(.iload 6, 0, 0, 0), (.iload 5, 0, 0, 0)] (.if_icmp .gt 96) [113]) (tQ (tB [(.iload 6, 0, 0, 0), (.iload 4, 0, 0, 0)] (.if_icmp .gt 89) [113]) (tQ (tS [(.aload_n 2, 0, 0, 0), (.getfield 35, 6, 0, 0), (.iload 5, 0, 0, 0), (.invokestatic 51, 46, 1, 0), (.iload 6, 0, 0, 0), (.iadd, 0, 0, 0), (.iaload, 0, 0, 0), (.istore 7, 0, 0, 0), (.iload 4, 0, 0, 0), (.iload 6, 0, 0, 0), (.isub, 0, 0, 0), (.iload 5, 0, 0, 0), (.iadd, 0, 0, 0), (.iload 6, 0, 0, 0), (.isub, 0, 0, 0), (.istore 8, 0, 0, 0), (.iload 7, 0, 0, 0)]) (tQ (tK 107 (tQ (tB [] (.ifCond .eq 50) [107]) (tQ (tB [(.iload 8, 0, 0, 0), (.bipush 30, 0, 0, 0)] (.if_icmp .gt 43) [107]) (tS [(.iload_n 3, 0, 0, 0), (.iload 7, 0, 0, 0), (.aload_n 0, 0, 0, 0), (.getfield 25, 0, 0, 0), (.iload 4, 0, 0, 0), (.aaload, 0, 0, 0), (.iload 6, 0, 0, 0), (.iaload, 0, 0, 0), (.imul, 0, 0, 0), (.sipush 10007, 0, 0, 0), (.irem, 0, 0, 0), (.imul, 0, 0, 0), (.sipush 10007, 0, 0, 0), (.irem, 0, 0, 0), (.istore 9, 0, 0, 0), (.aload_n 1, 0, 0, 0), (.iload 8, 0, 0, 0), (.aload_n 1, 0, 0, 0), (.iload 8, 0, 0, 0), (.iaload, 0, 0, 0), (.iload 9, 0, 0, 0), (.iadd, 0, 0, 0), (.sipush 10007, 0, 0, 0), (.irem, 0, 0, 0), (.iastore, 0, 0, 0)])))) (tB [(.iinc 6 1, 0, 0, 0)] (.goto (-97)) [13]))))
def wX0_addImage_3 : am_T := tQ (tB [(.iload 5, 0, 0, 0), (.bipush 12, 0, 0, 0)] (.if_icmp .gt 112) [119]) (tQ (tS [(.iconst 0, 0, 0, 0), (.istore 6, 0, 0, 0)]) (tQ (tK 113 (tW 13 wX0_addImage_13)) (tB [(.iinc 5 1, 0, 0, 0)] (.goto (-113)) [3])))
def tX0_addImage : am_T := tQ (tS [(.iconst 0, 0, 0, 0), (.istore 5, 0, 0, 0)]) (tQ (tK 119 (tW 3 wX0_addImage_3)) (tB [] (.return_) []))
def qX0_addImage : am_M := (RX0, yX0_addImage, cX0_addImage, 10, none, tX0_addImage)
-- WeylWords$Action.kernelDimension(LWeylWords$Operator;I)I
def wX0_kernelDimension_12 : am_T := tQ (tB [(.iload 4, 0, 0, 0), (.iload_n 3, 0, 0, 0)] (.if_icmp .ge 35) [50]) (tB [(.aload_n 0, 0, 0, 0), (.getfield 11, 0, 1, 0), (.iload 4, 0, 0, 0), (.aaload, 0, 0, 0), (.iconst 0, 0, 0, 0), (.invokestatic 41, 234, 2, 0), (.aload_n 0, 0, 0, 0), (.aload_n 0, 0, 0, 0), (.getfield 11, 0, 1, 0), (.iload 4, 0, 0, 0), (.aaload, 0, 0, 0), (.aload_n 1, 0, 0, 0), (.iconst 1, 0, 0, 0), (.iload 4, 0, 0, 0), (.invokevirtual 47, 4, 5, 0), (.iinc 4 1, 0, 0, 0)] (.goto (-35)) [12])
def wX0_kernelDimension_56 : am_T := tQ (tB [(.iload 5, 0, 0, 0), (.bipush 28, 0, 0, 0)] (.if_icmp .ge 75) [135]) (tQ (tB [(.iload 4, 0, 0, 0), (.iload_n 3, 0, 0, 0)] (.if_icmp .ge 69) [135]) (tQ (tS [(.aload_n 0, 0, 0, 0), (.iload 4, 0, 0, 0), (.iload_n 3, 0, 0, 0), (.iload 5, 0, 0, 0), (.invokevirtual 61, 6, 4, 0), (.istore 6, 0, 0, 0), (.iload 6, 0, 0, 0)]) (tQ (tK 129 (tQ (tB [] (.ifCond .lt 47) [129]) (tS [(.aload_n 0, 0, 0, 0), (.getfield 11, 0, 1, 0), (.iload 6, 0, 0, 0), (.aaload, 0, 0, 0), (.astore 7, 0, 0, 0), (.aload_n 0, 0, 0, 0), (.getfield 11, 0, 1, 0), (.iload 6, 0, 0, 0), (.aload_n 0, 0, 0, 0), (.getfield 11, 0, 1, 0), (.iload 4, 0, 0, 0), (.aaload, 0, 0, 0), (.aastore, 0, 0, 0), (.aload_n 0, 0, 0, 0), (.getfield 11, 0, 1, 0), (.iload 4, 0, 0, 0), (.aload 7, 0, 0, 0), (.aastore, 0, 0, 0), (.aload_n 0, 0, 0, 0), (.iload 4, 0, 0, 0), (.iload_n 3, 0, 0, 0), (.iload 5, 0, 0, 0), (.invokevirtual 65, 7, 4, 0), (.iinc 4 1, 0, 0, 0)]))) (tB [(.iinc 5 1, 0, 0, 0)] (.goto (-76)) [56]))))
def tX0_kernelDimension : am_T := tQ (tS [(.iload_n 2, 0, 0, 0), (.bipush 15, 0, 0, 0), (.invokestatic 55, 233, 2, 0), (.iconst 1, 0, 0, 0), (.iadd, 0, 0, 0), (.istore_n 3, 0, 0, 0), (.iconst 0, 0, 0, 0), (.istore 4, 0, 0, 0)]) (tQ (tK 50 (tW 12 wX0_kernelDimension_12)) (tQ (tS [(.iconst 0, 0, 0, 0), (.istore 4, 0, 0, 0), (.iconst 0, 0, 0, 0), (.istore 5, 0, 0, 0)]) (tQ (tK 135 (tW 56 wX0_kernelDimension_56)) (tB [(.iload_n 3, 0, 0, 0), (.iload 4, 0, 0, 0), (.isub, 0, 0, 0)] (.ireturn) [0]))))
def qX0_kernelDimension : am_M := (RX0, yX0_kernelDimension, cX0_kernelDimension, 8, (some .int), tX0_kernelDimension)
-- WeylWords$Action.pivotRow(III)I
def wX0_pivotRow_3 : am_T := tQ (tB [(.iload 4, 0, 0, 0), (.iload_n 2, 0, 0, 0)] (.if_icmp .ge 24) [30]) (tQ (tS [(.aload_n 0, 0, 0, 0), (.getfield 11, 0, 1, 0), (.iload 4, 0, 0, 0), (.aaload, 0, 0, 0), (.iload_n 3, 0, 0, 0), (.iaload, 0, 0, 0)]) (tQ (tK 24 (tQ (tB [] (.ifCond .eq 6) [24]) (tB [(.iload 4, 0, 0, 0)] (.ireturn) [0]))) (tB [(.iinc 4 1, 0, 0, 0)] (.goto (-24)) [3])))
def tX0_pivotRow : am_T := tQ (tS [(.iload_n 1, 0, 0, 0), (.istore 4, 0, 0, 0)]) (tQ (tK 30 (tW 3 wX0_pivotRow_3)) (tB [(.iconst (-1), 0, 0, 0)] (.ireturn) [0]))
def qX0_pivotRow : am_M := (RX0, yX0_pivotRow, cX0_pivotRow, 5, (some .int), tX0_pivotRow)
-- WeylWords$Action.clearBelow(III)V
def wX0_clearBelow_54 : am_T := tQ (tB [(.iload 7, 0, 0, 0), (.bipush 28, 0, 0, 0)] (.if_icmp .ge 46) [104]) (tB [(.aload_n 0, 0, 0, 0), (.getfield 11, 0, 1, 0), (.iload 5, 0, 0, 0), (.aaload, 0, 0, 0), (.iload 7, 0, 0, 0), (.aload_n 0, 0, 0, 0), (.getfield 11, 0, 1, 0), (.iload 5, 0, 0, 0), (.aaload, 0, 0, 0), (.iload 7, 0, 0, 0), (.iaload, 0, 0, 0), (.iload 6, 0, 0, 0), (.aload_n 0, 0, 0, 0), (.getfield 11, 0, 1, 0), (.iload_n 1, 0, 0, 0), (.aaload, 0, 0, 0), (.iload 7, 0, 0, 0), (.iaload, 0, 0, 0), (.imul, 0, 0, 0), (.iadd, 0, 0, 0), (.sipush 10007, 0, 0, 0), (.irem, 0, 0, 0), (.iastore, 0, 0, 0), (.iinc 7 1, 0, 0, 0)] (.goto (-47)) [54])
def wX0_clearBelow_18 : am_T := tQ (tB [(.iload 5, 0, 0, 0), (.iload_n 2, 0, 0, 0)] (.if_icmp .ge 89) [110]) (tQ (tS [(.sipush 10007, 0, 0, 0), (.aload_n 0, 0, 0, 0), (.getfield 11, 0, 1, 0), (.iload 5, 0, 0, 0), (.aaload, 0, 0, 0), (.iload_n 3, 0, 0, 0), (.iaload, 0, 0, 0), (.isub, 0, 0, 0), (.iload 4, 0, 0, 0), (.imul, 0, 0, 0), (.sipush 10007, 0, 0, 0), (.irem, 0, 0, 0), (.istore 6, 0, 0, 0), (.iload 6, 0, 0, 0)]) (tQ (tK 104 (tQ (tB [] (.ifCond .eq 56) [104]) (tQ (tS [(.iload_n 3, 0, 0, 0), (.istore 7, 0, 0, 0)]) (tW 54 wX0_clearBelow_54)))) (tB [(.iinc 5 1, 0, 0, 0)] (.goto (-89)) [18])))
def tX0_clearBelow : am_T := tQ (tS [(.aload_n 0, 0, 0, 0), (.getfield 11, 0, 1, 0), (.iload_n 1, 0, 0, 0), (.aaload, 0, 0, 0), (.iload_n 3, 0, 0, 0), (.iaload, 0, 0, 0), (.invokestatic 69, 11, 1, 0), (.istore 4, 0, 0, 0), (.iload_n 1, 0, 0, 0), (.iconst 1, 0, 0, 0), (.iadd, 0, 0, 0), (.istore 5, 0, 0, 0)]) (tQ (tK 110 (tW 18 wX0_clearBelow_18)) (tB [] (.return_) []))
def qX0_clearBelow : am_M := (RX0, yX0_clearBelow, cX0_clearBelow, 8, none, tX0_clearBelow)
-- WeylWords$Algebra.<init>()V
def wX1_init_58 : am_T := tQ (tB [(.iload_n 2, 0, 0, 0), (.iload_n 1, 0, 0, 0)] (.if_icmp .gt 44) [104]) (tB [(.aload_n 0, 0, 0, 0), (.getfield 11, 1, 0, 0), (.iload_n 1, 0, 0, 0), (.aaload, 0, 0, 0), (.iload_n 2, 0, 0, 0), (.aload_n 0, 0, 0, 0), (.getfield 11, 1, 0, 0), (.iload_n 1, 0, 0, 0), (.iconst 1, 0, 0, 0), (.isub, 0, 0, 0), (.aaload, 0, 0, 0), (.iload_n 2, 0, 0, 0), (.iconst 1, 0, 0, 0), (.isub, 0, 0, 0), (.iaload, 0, 0, 0), (.aload_n 0, 0, 0, 0), (.getfield 11, 1, 0, 0), (.iload_n 1, 0, 0, 0), (.iconst 1, 0, 0, 0), (.isub, 0, 0, 0), (.aaload, 0, 0, 0), (.iload_n 2, 0, 0, 0), (.iaload, 0, 0, 0), (.iadd, 0, 0, 0), (.sipush 10007, 0, 0, 0), (.irem, 0, 0, 0), (.iastore, 0, 0, 0), (.iinc 2 1, 0, 0, 0)] (.goto (-43)) [58])
def wX1_init_41 : am_T := tQ (tB [(.iload_n 1, 0, 0, 0), (.bipush 12, 0, 0, 0)] (.if_icmp .gt 66) [110]) (tQ (tS [(.aload_n 0, 0, 0, 0), (.getfield 11, 1, 0, 0), (.iload_n 1, 0, 0, 0), (.aaload, 0, 0, 0), (.iconst 0, 0, 0, 0), (.iconst 1, 0, 0, 0), (.iastore, 0, 0, 0), (.iconst 1, 0, 0, 0), (.istore_n 2, 0, 0, 0)]) (tQ (tK 104 (tW 58 wX1_init_58)) (tB [(.iinc 1 1, 0, 0, 0)] (.goto (-66)) [41])))
def wX1_init_129 : am_T := tQ (tB [(.iload_n 2, 0, 0, 0), (.iload_n 1, 0, 0, 0), (.bipush 12, 0, 0, 0), (.invokestatic 26, 233, 2, 0)] (.if_icmp .gt 37) [173]) (tB [(.aload_n 0, 0, 0, 0), (.getfield 16, 1, 1, 0), (.iload_n 1, 0, 0, 0), (.aaload, 0, 0, 0), (.iload_n 2, 0, 0, 0), (.aload_n 0, 0, 0, 0), (.getfield 16, 1, 1, 0), (.iload_n 1, 0, 0, 0), (.aaload, 0, 0, 0), (.iload_n 2, 0, 0, 0), (.iconst 1, 0, 0, 0), (.isub, 0, 0, 0), (.iaload, 0, 0, 0), (.iload_n 1, 0, 0, 0), (.iload_n 2, 0, 0, 0), (.isub, 0, 0, 0), (.iconst 1, 0, 0, 0), (.iadd, 0, 0, 0), (.imul, 0, 0, 0), (.sipush 10007, 0, 0, 0), (.irem, 0, 0, 0), (.iastore, 0, 0, 0), (.iinc 2 1, 0, 0, 0)] (.goto (-41)) [129])
def wX1_init_112 : am_T := tQ (tB [(.iload_n 1, 0, 0, 0), (.bipush 30, 0, 0, 0)] (.if_icmp .gt 64) [179]) (tQ (tS [(.aload_n 0, 0, 0, 0), (.getfield 16, 1, 1, 0), (.iload_n 1, 0, 0, 0), (.aaload, 0, 0, 0), (.iconst 0, 0, 0, 0), (.iconst 1, 0, 0, 0), (.iastore, 0, 0, 0), (.iconst 1, 0, 0, 0), (.istore_n 2, 0, 0, 0)]) (tQ (tK 173 (tW 129 wX1_init_129)) (tB [(.iinc 1 1, 0, 0, 0)] (.goto (-64)) [112])))
def tX1_init : am_T := tQ (tS [(.aload_n 0, 0, 0, 0), (.invokespecial 3, 998, 1, 0), (.aload_n 0, 0, 0, 0), (.bipush 13, 0, 0, 0), (.bipush 13, 0, 0, 0), (.multianewarray 9 2, 0, 0, 0), (.putfield 11, 1, 0, 3), (.aload_n 0, 0, 0, 0), (.bipush 31, 0, 0, 0), (.bipush 13, 0, 0, 0), (.multianewarray 9 2, 0, 0, 0), (.putfield 16, 1, 1, 3), (.aload_n 0, 0, 0, 0), (.new 19, 6, 0, 0), (.dup, 0, 0, 0), (.invokespecial 21, 44, 1, 6), (.putfield 22, 1, 2, 3), (.iconst 0, 0, 0, 0), (.istore_n 1, 0, 0, 0)]) (tQ (tK 110 (tW 41 wX1_init_41)) (tQ (tS [(.iconst 0, 0, 0, 0), (.istore_n 1, 0, 0, 0)]) (tQ (tK 179 (tW 112 wX1_init_112)) (tB [] (.return_) []))))
def qX1_init : am_M := (RX1, yX1_init, cX1_init, 3, none, tX1_init)
-- WeylWords$Algebra.residue(I)I
def tX1_residue : am_T := tB [(.iload_n 0, 0, 0, 0), (.sipush 10007, 0, 0, 0), (.invokestatic 32, 230, 2, 0)] (.ireturn) [0]
def qX1_residue : am_M := (RX1, yX1_residue, cX1_residue, 1, (some .int), tX1_residue)
-- WeylWords$Algebra.balanced(I)I
def tX1_balanced : am_T := tQ (tS [(.iload_n 0, 0, 0, 0), (.sipush 5003, 0, 0, 0)]) (tQ (tK 16 (tQ (tK 15 (tQ (tB [] (.if_icmp .le 11) [15]) (tB [(.iload_n 0, 0, 0, 0), (.sipush 10007, 0, 0, 0), (.isub, 0, 0, 0)] (.goto 4) [16]))) (tS [(.iload_n 0, 0, 0, 0)]))) (tB [] (.ireturn) [0]))
def qX1_balanced : am_M := (RX1, yX1_balanced, cX1_balanced, 1, (some .int), tX1_balanced)
-- WeylWords$Algebra.inverse(I)I
def wX1_inverse_8 : am_T := tQ (tB [(.iload_n 3, 0, 0, 0)] (.ifCond .le 33) [42]) (tQ (tS [(.iload_n 3, 0, 0, 0), (.iconst 1, 0, 0, 0), (.iand, 0, 0, 0), (.iconst 1, 0, 0, 0)]) (tQ (tK 27 (tQ (tB [] (.if_icmp .ne 11) [27]) (tS [(.iload_n 1, 0, 0, 0), (.iload_n 2, 0, 0, 0), (.imul, 0, 0, 0), (.sipush 10007, 0, 0, 0), (.irem, 0, 0, 0), (.istore_n 1, 0, 0, 0)]))) (tB [(.iload_n 2, 0, 0, 0), (.iload_n 2, 0, 0, 0), (.imul, 0, 0, 0), (.sipush 10007, 0, 0, 0), (.irem, 0, 0, 0), (.istore_n 2, 0, 0, 0), (.iload_n 3, 0, 0, 0), (.iconst 1, 0, 0, 0), (.ishr, 0, 0, 0), (.istore_n 3, 0, 0, 0)] (.goto (-31)) [8])))
def tX1_inverse : am_T := tQ (tS [(.iconst 1, 0, 0, 0), (.istore_n 1, 0, 0, 0), (.iload_n 0, 0, 0, 0), (.istore_n 2, 0, 0, 0), (.sipush 10005, 0, 0, 0), (.istore_n 3, 0, 0, 0)]) (tQ (tK 42 (tW 8 wX1_inverse_8)) (tB [(.iload_n 1, 0, 0, 0)] (.ireturn) [0]))
def qX1_inverse : am_M := (RX1, yX1_inverse, cX1_inverse, 4, (some .int), tX1_inverse)
-- WeylWords$Algebra.productFits(LWeylWords$Operator;LWeylWords$Operator;)Z
def tX1_productFits : am_T := tQ (tS [(.aload_n 0, 0, 0, 0), (.invokevirtual 35, 60, 1, 6)]) (tQ (tK 33 (tQ (tK 32 (tQ (tK 28 (tQ (tB [] (.ifCond .ne 24) [28]) (tQ (tB [(.aload_n 1, 0, 0, 0), (.invokevirtual 35, 60, 1, 6)] (.ifCond .ne 17) [28]) (tB [(.aload_n 0, 0, 0, 0), (.invokevirtual 39, 61, 1, 6), (.aload_n 1, 0, 0, 0), (.invokevirtual 39, 61, 1, 6), (.iadd, 0, 0, 0), (.bipush 12, 0, 0, 0)] (.if_icmp .gt 7) [32])))) (tB [(.iconst 1, 0, 0, 0)] (.goto 4) [33]))) (tS [(.iconst 0, 0, 0, 0)]))) (tB [] (.ireturn) [1]))
def qX1_productFits : am_M := (RX1, yX1_productFits, cX1_productFits, 2, (some .boolean), tX1_productFits)
-- WeylWords$Algebra.powerFits(LWeylWords$Operator;I)Z
def tX1_powerFits : am_T := tQ (tS [(.aload_n 0, 0, 0, 0), (.invokevirtual 35, 60, 1, 6)]) (tQ (tK 23 (tQ (tK 22 (tQ (tK 18 (tQ (tB [] (.ifCond .ne 14) [18]) (tB [(.aload_n 0, 0, 0, 0), (.invokevirtual 39, 61, 1, 6), (.iload_n 1, 0, 0, 0), (.imul, 0, 0, 0), (.bipush 12, 0, 0, 0)] (.if_icmp .gt 7) [22]))) (tB [(.iconst 1, 0, 0, 0)] (.goto 4) [23]))) (tS [(.iconst 0, 0, 0, 0)]))) (tB [] (.ireturn) [1]))
def qX1_powerFits : am_M := (RX1, yX1_powerFits, cX1_powerFits, 2, (some .boolean), tX1_powerFits)
-- WeylWords$Algebra.addProduct(LWeylWords$Operator;ILWeylWords$Operator;LWeylWords$Operator;)V
def wX1_addProduct_16 : am_T := tQ (tB [(.iload 7, 0, 0, 0), (.iload 5, 0, 0, 0)] (.if_icmp .ge 42) [62]) (tQ (tS [(.aload_n 3, 0, 0, 0), (.getfield 46, 6, 0, 0), (.iload 7, 0, 0, 0), (.iaload, 0, 0, 0), (.istore 8, 0, 0, 0), (.iload 8, 0, 0, 0)]) (tQ (tK 56 (tQ (tB [] (.ifCond .eq 22) [56]) (tS [(.aload_n 0, 0, 0, 0), (.aload_n 1, 0, 0, 0), (.iload_n 2, 0, 0, 0), (.iload 8, 0, 0, 0), (.imul, 0, 0, 0), (.sipush 10007, 0, 0, 0), (.irem, 0, 0, 0), (.iload 7, 0, 0, 0), (.aload 4, 0, 0, 0), (.iload 6, 0, 0, 0), (.invokevirtual 50, 15, 6, 1)]))) (tB [(.iinc 7 1, 0, 0, 0)] (.goto (-43)) [16])))
def tX1_addProduct : am_T := tQ (tS [(.aload_n 3, 0, 0, 0), (.invokevirtual 43, 59, 1, 6), (.istore 5, 0, 0, 0), (.aload 4, 0, 0, 0), (.invokevirtual 43, 59, 1, 6), (.istore 6, 0, 0, 0), (.iconst 0, 0, 0, 0), (.istore 7, 0, 0, 0)]) (tQ (tK 62 (tW 16 wX1_addProduct_16)) (tB [] (.return_) []))
def qX1_addProduct : am_M := (RX1, yX1_addProduct, cX1_addProduct, 9, none, tX1_addProduct)
-- WeylWords$Algebra.addWordProduct(LWeylWords$Operator;IILWeylWords$Operator;I)V
def wX1_addWordProduct_93 : am_T := tQ (tB [(.iload 13, 0, 0, 0), (.iload 12, 0, 0, 0)] (.if_icmp .gt 96) [193]) (tB [(.iload 6, 0, 0, 0), (.iload 9, 0, 0, 0), (.iadd, 0, 0, 0), (.iload 10, 0, 0, 0), (.iadd, 0, 0, 0), (.iconst 2, 0, 0, 0), (.iload 13, 0, 0, 0), (.imul, 0, 0, 0), (.isub, 0, 0, 0), (.istore 14, 0, 0, 0), (.iload 14, 0, 0, 0), (.iload 14, 0, 0, 0), (.iconst 1, 0, 0, 0), (.iadd, 0, 0, 0), (.imul, 0, 0, 0), (.iconst 2, 0, 0, 0), (.idiv, 0, 0, 0), (.iload 10, 0, 0, 0), (.iadd, 0, 0, 0), (.iload 13, 0, 0, 0), (.isub, 0, 0, 0), (.istore 15, 0, 0, 0), (.iload 11, 0, 0, 0), (.aload_n 0, 0, 0, 0), (.getfield 11, 1, 0, 0), (.iload 7, 0, 0, 0), (.aaload, 0, 0, 0), (.iload 13, 0, 0, 0), (.iaload, 0, 0, 0), (.aload_n 0, 0, 0, 0), (.getfield 16, 1, 1, 0), (.iload 9, 0, 0, 0), (.aaload, 0, 0, 0), (.iload 13, 0, 0, 0), (.iaload, 0, 0, 0), (.imul, 0, 0, 0), (.sipush 10007, 0, 0, 0), (.irem, 0, 0, 0), (.imul, 0, 0, 0), (.sipush 10007, 0, 0, 0), (.irem, 0, 0, 0), (.istore 16, 0, 0, 0), (.aload_n 1, 0, 0, 0), (.getfield 46, 6, 0, 0), (.iload 15, 0, 0, 0), (.aload_n 1, 0, 0, 0), (.getfield 46, 6, 0, 0), (.iload 15, 0, 0, 0), (.iaload, 0, 0, 0), (.iload 16, 0, 0, 0), (.iadd, 0, 0, 0), (.sipush 10007, 0, 0, 0), (.irem, 0, 0, 0), (.iastore, 0, 0, 0), (.iinc 13 1, 0, 0, 0)] (.goto (-97)) [93])
def wX1_addWordProduct_17 : am_T := tQ (tB [(.iload 8, 0, 0, 0), (.iload 5, 0, 0, 0)] (.if_icmp .ge 178) [199]) (tQ (tS [(.getstatic 54, 1, 0, 0), (.iload 8, 0, 0, 0), (.iaload, 0, 0, 0), (.istore 9, 0, 0, 0), (.iload 7, 0, 0, 0), (.getstatic 57, 2, 0, 0), (.iload 8, 0, 0, 0), (.iaload, 0, 0, 0), (.iadd, 0, 0, 0), (.istore 10, 0, 0, 0), (.iload_n 2, 0, 0, 0), (.aload 4, 0, 0, 0), (.getfield 46, 6, 0, 0), (.iload 8, 0, 0, 0), (.iaload, 0, 0, 0), (.imul, 0, 0, 0), (.sipush 10007, 0, 0, 0), (.irem, 0, 0, 0), (.istore 11, 0, 0, 0), (.iload 11, 0, 0, 0)]) (tQ (tK 88 (tQ (tK 81 (tQ (tK 77 (tQ (tB [] (.ifCond .eq 16) [77]) (tB [(.iload 6, 0, 0, 0), (.iload 9, 0, 0, 0), (.iadd, 0, 0, 0), (.iload 10, 0, 0, 0), (.iadd, 0, 0, 0), (.bipush 12, 0, 0, 0)] (.if_icmp .le 7) [81]))) (tB [(.iconst (-1), 0, 0, 0)] (.goto 10) [88]))) (tS [(.iload 7, 0, 0, 0), (.iload 9, 0, 0, 0), (.invokestatic 26, 233, 2, 0)]))) (tQ (tS [(.istore 12, 0, 0, 0), (.iconst 0, 0, 0, 0), (.istore 13, 0, 0, 0)]) (tQ (tK 193 (tW 93 wX1_addWordProduct_93)) (tB [(.iinc 8 1, 0, 0, 0)] (.goto (-179)) [17])))))
def tX1_addWordProduct : am_T := tQ (tS [(.getstatic 54, 1, 0, 0), (.iload_n 3, 0, 0, 0), (.iaload, 0, 0, 0), (.istore 6, 0, 0, 0), (.getstatic 57, 2, 0, 0), (.iload_n 3, 0, 0, 0), (.iaload, 0, 0, 0), (.istore 7, 0, 0, 0), (.iconst 0, 0, 0, 0), (.istore 8, 0, 0, 0)]) (tQ (tK 199 (tW 17 wX1_addWordProduct_17)) (tB [] (.return_) []))
def qX1_addWordProduct : am_M := (RX1, yX1_addWordProduct, cX1_addWordProduct, 17, none, tX1_addWordProduct)
-- WeylWords$Algebra.raise(LWeylWords$Operator;LWeylWords$Operator;I)V
def wX1_raise_8 : am_T := tQ (tB [(.iload 4, 0, 0, 0), (.iload_n 3, 0, 0, 0)] (.if_icmp .ge 35) [46]) (tB [(.aload_n 0, 0, 0, 0), (.getfield 22, 1, 2, 0), (.invokevirtual 64, 53, 1, 6), (.aload_n 0, 0, 0, 0), (.aload_n 0, 0, 0, 0), (.getfield 22, 1, 2, 0), (.iconst 1, 0, 0, 0), (.aload_n 2, 0, 0, 0), (.aload_n 1, 0, 0, 0), (.invokevirtual 67, 14, 5, 1), (.aload_n 1, 0, 0, 0), (.aload_n 0, 0, 0, 0), (.getfield 22, 1, 2, 0), (.invokevirtual 71, 55, 2, 6), (.iinc 4 1, 0, 0, 0)] (.goto (-35)) [8])
def tX1_raise : am_T := tQ (tS [(.aload_n 1, 0, 0, 0), (.iconst 1, 0, 0, 0), (.invokevirtual 60, 54, 2, 6), (.iconst 0, 0, 0, 0), (.istore 4, 0, 0, 0)]) (tQ (tK 46 (tW 8 wX1_raise_8)) (tB [] (.return_) []))
def qX1_raise : am_M := (RX1, yX1_raise, cX1_raise, 5, none, tX1_raise)
-- WeylWords$Algebra.adjoin(LWeylWords$Operator;LWeylWords$Operator;)V
def wX1_adjoin_22 : am_T := tQ (tB [(.iload 4, 0, 0, 0), (.iload_n 3, 0, 0, 0), (.iadd, 0, 0, 0), (.bipush 12, 0, 0, 0)] (.if_icmp .gt 26) [54]) (tB [(.aload_n 0, 0, 0, 0), (.getfield 22, 1, 2, 0), (.iload 4, 0, 0, 0), (.iconst 0, 0, 0, 0), (.aload_n 2, 0, 0, 0), (.iload 4, 0, 0, 0), (.iload_n 3, 0, 0, 0), (.invokevirtual 75, 51, 3, 6), (.invokevirtual 78, 52, 4, 6), (.iinc 4 1, 0, 0, 0)] (.goto (-29)) [22])
def wX1_adjoin_6 : am_T := tQ (tB [(.iload_n 3, 0, 0, 0), (.bipush 12, 0, 0, 0)] (.if_icmp .gt 89) [98]) (tQ (tS [(.aload_n 0, 0, 0, 0), (.getfield 22, 1, 2, 0), (.invokevirtual 64, 53, 1, 6), (.iconst 0, 0, 0, 0), (.istore 4, 0, 0, 0)]) (tQ (tK 54 (tW 22 wX1_adjoin_22)) (tQ (tS [(.iload_n 3, 0, 0, 0), (.iconst 2, 0, 0, 0), (.irem, 0, 0, 0)]) (tQ (tK 67 (tQ (tK 64 (tQ (tB [] (.ifCond .ne 7) [64]) (tB [(.iconst 1, 0, 0, 0)] (.goto 6) [67]))) (tS [(.sipush 10006, 0, 0, 0)]))) (tB [(.istore 4, 0, 0, 0), (.aload_n 0, 0, 0, 0), (.aload_n 1, 0, 0, 0), (.iload 4, 0, 0, 0), (.iconst 0, 0, 0, 0), (.iload_n 3, 0, 0, 0), (.invokestatic 82, 47, 2, 0), (.aload_n 0, 0, 0, 0), (.getfield 22, 1, 2, 0), (.aload_n 0, 0, 0, 0), (.getfield 22, 1, 2, 0), (.invokevirtual 43, 59, 1, 6), (.invokevirtual 50, 15, 6, 1), (.iinc 3 1, 0, 0, 0)] (.goto (-89)) [6])))))
def tX1_adjoin : am_T := tQ (tS [(.aload_n 1, 0, 0, 0), (.invokevirtual 64, 53, 1, 6), (.iconst 0, 0, 0, 0), (.istore_n 3, 0, 0, 0)]) (tQ (tK 98 (tW 6 wX1_adjoin_6)) (tB [] (.return_) []))
def qX1_adjoin : am_M := (RX1, yX1_adjoin, cX1_adjoin, 5, none, tX1_adjoin)
-- WeylWords$Basis.<init>()V
def wX2_init_46 : am_T := tQ (tB [(.iload_n 1, 0, 0, 0), (.iconst 4, 0, 0, 0)] (.if_icmp .ge 22) [70]) (tB [(.aload_n 0, 0, 0, 0), (.getfield 13, 2, 0, 0), (.iload_n 1, 0, 0, 0), (.new 11, 6, 0, 0), (.dup, 0, 0, 0), (.invokespecial 34, 44, 1, 6), (.aastore, 0, 0, 0), (.iinc 1 1, 0, 0, 0)] (.goto (-21)) [46])
def tX2_init : am_T := tQ (tS [(.aload_n 0, 0, 0, 0), (.invokespecial 3, 998, 1, 0), (.aload_n 0, 0, 0, 0), (.iconst 4, 0, 0, 0), (.anewarray 11, 23, 0, 0), (.putfield 13, 2, 0, 3), (.aload_n 0, 0, 0, 0), (.iconst 4, 0, 0, 0), (.newarray .int, 20, 0, 0), (.putfield 17, 2, 1, 3), (.aload_n 0, 0, 0, 0), (.iconst 4, 0, 0, 0), (.newarray .int, 20, 0, 0), (.putfield 21, 2, 2, 3), (.aload_n 0, 0, 0, 0), (.bipush 60, 0, 0, 0), (.newarray .int, 20, 0, 0), (.putfield 24, 2, 3, 3), (.aload_n 0, 0, 0, 0), (.iconst (-1), 0, 0, 0), (.putfield 27, 2, 4, 0), (.aload_n 0, 0, 0, 0), (.iconst 0, 0, 0, 0), (.putfield 31, 2, 5, 0), (.iconst 0, 0, 0, 0), (.istore_n 1, 0, 0, 0)]) (tQ (tK 70 (tW 46 wX2_init_46)) (tB [] (.return_) []))
def qX2_init : am_M := (RX2, yX2_init, cX2_init, 2, none, tX2_init)
-- WeylWords$Basis.covers(II)Z
def wX2_covers_2 : am_T := tQ (tB [(.iload_n 3, 0, 0, 0), (.aload_n 0, 0, 0, 0), (.getfield 31, 2, 5, 0)] (.if_icmp .ge 31) [38]) (tQ (tS [(.aload_n 0, 0, 0, 0), (.getfield 17, 2, 1, 0), (.iload_n 3, 0, 0, 0), (.iaload, 0, 0, 0), (.iload_n 1, 0, 0, 0)]) (tQ (tK 32 (tQ (tB [] (.if_icmp .gt 15) [32]) (tQ (tB [(.aload_n 0, 0, 0, 0), (.getfield 21, 2, 2, 0), (.iload_n 3, 0, 0, 0), (.iaload, 0, 0, 0), (.iload_n 2, 0, 0, 0)] (.if_icmp .gt 5) [32]) (tB [(.iconst 1, 0, 0, 0)] (.ireturn) [1])))) (tB [(.iinc 3 1, 0, 0, 0)] (.goto (-33)) [2])))
def tX2_covers : am_T := tQ (tS [(.iconst 0, 0, 0, 0), (.istore_n 3, 0, 0, 0)]) (tQ (tK 38 (tW 2 wX2_covers_2)) (tB [(.iconst 0, 0, 0, 0)] (.ireturn) [1]))
def qX2_covers : am_M := (RX2, yX2_covers, cX2_covers, 4, (some .boolean), tX2_covers)
-- WeylWords$Basis.isFor(LWeylWords$State;I)Z
def wX2_isFor_24 : am_T := tQ (tB [(.iload 4, 0, 0, 0), (.bipush 10, 0, 0, 0)] (.if_icmp .ge 34) [62]) (tQ (tS [(.aload_n 0, 0, 0, 0), (.getfield 24, 2, 3, 0), (.iload_n 3, 0, 0, 0), (.bipush 10, 0, 0, 0), (.imul, 0, 0, 0), (.iload 4, 0, 0, 0), (.iadd, 0, 0, 0), (.iaload, 0, 0, 0), (.aload_n 1, 0, 0, 0), (.iload_n 2, 0, 0, 0), (.iload_n 3, 0, 0, 0), (.iload 4, 0, 0, 0), (.invokestatic 40, 23, 4, 0)]) (tQ (tK 56 (tQ (tB [] (.if_icmp .eq 5) [56]) (tB [(.iconst 0, 0, 0, 0)] (.ireturn) [1]))) (tB [(.iinc 4 1, 0, 0, 0)] (.goto (-35)) [24])))
def wX2_isFor_15 : am_T := tQ (tB [(.iload_n 3, 0, 0, 0), (.bipush 6, 0, 0, 0)] (.if_icmp .ge 50) [68]) (tQ (tS [(.iconst 0, 0, 0, 0), (.istore 4, 0, 0, 0)]) (tQ (tK 62 (tW 24 wX2_isFor_24)) (tB [(.iinc 3 1, 0, 0, 0)] (.goto (-50)) [15])))
def tX2_isFor : am_T := tQ (tS [(.aload_n 0, 0, 0, 0), (.getfield 27, 2, 4, 0), (.aload_n 1, 0, 0, 0), (.getfield 35, 8, 2, 0)]) (tQ (tK 13 (tQ (tB [] (.if_icmp .eq 5) [13]) (tB [(.iconst 0, 0, 0, 0)] (.ireturn) [1]))) (tQ (tS [(.iconst 0, 0, 0, 0), (.istore_n 3, 0, 0, 0)]) (tQ (tK 68 (tW 15 wX2_isFor_15)) (tB [(.iconst 1, 0, 0, 0)] (.ireturn) [1]))))
def qX2_isFor : am_M := (RX2, yX2_isFor, cX2_isFor, 5, (some .boolean), tX2_isFor)
-- WeylWords$Basis.begin(LWeylWords$State;I)V
def wX2_begin_24 : am_T := tQ (tB [(.iload 4, 0, 0, 0), (.bipush 10, 0, 0, 0)] (.if_icmp .ge 29) [57]) (tB [(.aload_n 0, 0, 0, 0), (.getfield 24, 2, 3, 0), (.iload_n 3, 0, 0, 0), (.bipush 10, 0, 0, 0), (.imul, 0, 0, 0), (.iload 4, 0, 0, 0), (.iadd, 0, 0, 0), (.aload_n 1, 0, 0, 0), (.iload_n 2, 0, 0, 0), (.iload_n 3, 0, 0, 0), (.iload 4, 0, 0, 0), (.invokestatic 40, 23, 4, 0), (.iastore, 0, 0, 0), (.iinc 4 1, 0, 0, 0)] (.goto (-30)) [24])
def wX2_begin_15 : am_T := tQ (tB [(.iload_n 3, 0, 0, 0), (.bipush 6, 0, 0, 0)] (.if_icmp .ge 45) [63]) (tQ (tS [(.iconst 0, 0, 0, 0), (.istore 4, 0, 0, 0)]) (tQ (tK 57 (tW 24 wX2_begin_24)) (tB [(.iinc 3 1, 0, 0, 0)] (.goto (-45)) [15])))
def tX2_begin : am_T := tQ (tS [(.aload_n 0, 0, 0, 0), (.aload_n 1, 0, 0, 0), (.getfield 35, 8, 2, 0), (.putfield 27, 2, 4, 0), (.aload_n 0, 0, 0, 0), (.iconst 0, 0, 0, 0), (.putfield 31, 2, 5, 0), (.iconst 0, 0, 0, 0), (.istore_n 3, 0, 0, 0)]) (tQ (tK 63 (tW 15 wX2_begin_15)) (tB [] (.return_) []))
def qX2_begin : am_M := (RX2, yX2_begin, cX2_begin, 5, none, tX2_begin)
-- WeylWords$Basis.add(LWeylWords$Operator;)V
def tX2_add : am_T := tQ (tS [(.aload_n 1, 0, 0, 0), (.aload_n 0, 0, 0, 0), (.getfield 27, 2, 4, 0), (.invokevirtual 44, 62, 2, 6), (.istore_n 2, 0, 0, 0), (.iload_n 2, 0, 0, 0)]) (tQ (tK 22 (tQ (tK 21 (tQ (tB [] (.ifCond .lt 11) [21]) (tB [(.aload_n 0, 0, 0, 0), (.getfield 31, 2, 5, 0), (.iconst 4, 0, 0, 0)] (.if_icmp .lt 4) [22]))) (tB [] (.return_) []))) (tB [(.aload_n 0, 0, 0, 0), (.getfield 13, 2, 0, 0), (.aload_n 0, 0, 0, 0), (.getfield 31, 2, 5, 0), (.aaload, 0, 0, 0), (.aload_n 1, 0, 0, 0), (.invokevirtual 48, 55, 2, 6), (.aload_n 0, 0, 0, 0), (.getfield 17, 2, 1, 0), (.aload_n 0, 0, 0, 0), (.getfield 31, 2, 5, 0), (.getstatic 52, 1, 0, 0), (.iload_n 2, 0, 0, 0), (.iaload, 0, 0, 0), (.iastore, 0, 0, 0), (.aload_n 0, 0, 0, 0), (.getfield 21, 2, 2, 0), (.aload_n 0, 0, 0, 0), (.getfield 31, 2, 5, 0), (.getstatic 55, 2, 0, 0), (.iload_n 2, 0, 0, 0), (.iaload, 0, 0, 0), (.iastore, 0, 0, 0), (.aload_n 0, 0, 0, 0), (.dup, 0, 0, 0), (.getfield 31, 2, 5, 0), (.iconst 1, 0, 0, 0), (.iadd, 0, 0, 0), (.putfield 31, 2, 5, 0)] (.return_) []))
def qX2_add : am_M := (RX2, yX2_add, cX2_add, 3, none, tX2_add)
-- WeylWords$Basis.sourceCell(LWeylWords$State;III)I
def tX2_sourceCell : am_T := tQ (tS [(.iload_n 1, 0, 0, 0), (.iload_n 2, 0, 0, 0), (.invokestatic 58, 129, 2, 0)]) (tQ (tK 23 (tQ (tK 22 (tQ (tB [] (.ifCond .eq 17) [22]) (tB [(.aload_n 0, 0, 0, 0), (.getfield 62, 8, 0, 0), (.iload_n 2, 0, 0, 0), (.aaload, 0, 0, 0), (.getfield 65, 6, 0, 0), (.iload_n 3, 0, 0, 0), (.iaload, 0, 0, 0)] (.goto 4) [23]))) (tS [(.iconst 0, 0, 0, 0)]))) (tB [] (.ireturn) [0]))
def qX2_sourceCell : am_M := (RX2, yX2_sourceCell, cX2_sourceCell, 4, (some .int), tX2_sourceCell)
-- WeylWords$Completion.<init>(LWeylWords$Algebra;LWeylWords$Divider;)V
def wX3_init_77 : am_T := tQ (tB [(.iload_n 3, 0, 0, 0), (.iconst 4, 0, 0, 0)] (.if_icmp .ge 22) [101]) (tB [(.aload_n 0, 0, 0, 0), (.getfield 13, 3, 2, 0), (.iload_n 3, 0, 0, 0), (.new 11, 2, 0, 0), (.dup, 0, 0, 0), (.invokespecial 55, 18, 1, 2), (.aastore, 0, 0, 0), (.iinc 3 1, 0, 0, 0)] (.goto (-21)) [77])
def wX3_init_103 : am_T := tQ (tB [(.iload_n 3, 0, 0, 0), (.bipush 6, 0, 0, 0)] (.if_icmp .ge 22) [128]) (tB [(.aload_n 0, 0, 0, 0), (.getfield 23, 3, 4, 0), (.iload_n 3, 0, 0, 0), (.new 21, 6, 0, 0), (.dup, 0, 0, 0), (.invokespecial 56, 44, 1, 6), (.aastore, 0, 0, 0), (.iinc 3 1, 0, 0, 0)] (.goto (-22)) [103])
def tX3_init : am_T := tQ (tS [(.aload_n 0, 0, 0, 0), (.invokespecial 3, 998, 1, 0), (.aload_n 0, 0, 0, 0), (.iconst 4, 0, 0, 0), (.anewarray 11, 25, 0, 0), (.putfield 13, 3, 2, 3), (.aload_n 0, 0, 0, 0), (.iconst 0, 0, 0, 0), (.putfield 17, 3, 3, 0), (.aload_n 0, 0, 0, 0), (.bipush 6, 0, 0, 0), (.anewarray 21, 23, 0, 0), (.putfield 23, 3, 4, 3), (.aload_n 0, 0, 0, 0), (.bipush 6, 0, 0, 0), (.newarray .int, 20, 0, 0), (.putfield 27, 3, 5, 3), (.aload_n 0, 0, 0, 0), (.bipush 6, 0, 0, 0), (.newarray .int, 20, 0, 0), (.putfield 31, 3, 6, 3), (.aload_n 0, 0, 0, 0), (.bipush 6, 0, 0, 0), (.newarray .boolean, 21, 0, 0), (.putfield 34, 3, 7, 3), (.aload_n 0, 0, 0, 0), (.iconst 0, 0, 0, 0), (.putfield 38, 3, 8, 0), (.aload_n 0, 0, 0, 0), (.iconst 0, 0, 0, 0), (.putfield 41, 3, 9, 0), (.aload_n 0, 0, 0, 0), (.iconst 0, 0, 0, 0), (.putfield 44, 3, 10, 0), (.aload_n 0, 0, 0, 0), (.aload_n 1, 0, 0, 0), (.putfield 47, 3, 0, 3), (.aload_n 0, 0, 0, 0), (.aload_n 2, 0, 0, 0), (.putfield 51, 3, 1, 3), (.iconst 0, 0, 0, 0), (.istore_n 3, 0, 0, 0)]) (tQ (tK 101 (tW 77 wX3_init_77)) (tQ (tS [(.iconst 0, 0, 0, 0), (.istore_n 3, 0, 0, 0)]) (tQ (tK 128 (tW 103 wX3_init_103)) (tB [] (.return_) []))))
def qX3_init : am_M := (RX3, yX3_init, cX3_init, 4, none, tX3_init)
-- WeylWords$Completion.find(LWeylWords$State;I)LWeylWords$Basis;
def wX3_find_2 : am_T := tQ (tB [(.iload_n 3, 0, 0, 0), (.iconst 4, 0, 0, 0)] (.if_icmp .ge 30) [34]) (tQ (tS [(.aload_n 0, 0, 0, 0), (.getfield 13, 3, 2, 0), (.iload_n 3, 0, 0, 0), (.aaload, 0, 0, 0), (.aload_n 1, 0, 0, 0), (.iload_n 2, 0, 0, 0), (.invokevirtual 57, 20, 3, 2)]) (tQ (tK 28 (tQ (tB [] (.ifCond .eq 10) [28]) (tB [(.aload_n 0, 0, 0, 0), (.getfield 13, 3, 2, 0), (.iload_n 3, 0, 0, 0), (.aaload, 0, 0, 0)] (.areturn) []))) (tB [(.iinc 3 1, 0, 0, 0)] (.goto (-29)) [2])))
def tX3_find : am_T := tQ (tS [(.iconst 0, 0, 0, 0), (.istore_n 3, 0, 0, 0)]) (tQ (tK 34 (tW 2 wX3_find_2)) (tB [(.aload_n 0, 0, 0, 0), (.getfield 13, 3, 2, 0), (.aload_n 0, 0, 0, 0), (.getfield 17, 3, 3, 0), (.aaload, 0, 0, 0), (.astore_n 3, 0, 0, 0), (.aload_n 0, 0, 0, 0), (.aload_n 0, 0, 0, 0), (.getfield 17, 3, 3, 0), (.iconst 1, 0, 0, 0), (.iadd, 0, 0, 0), (.iconst 4, 0, 0, 0), (.irem, 0, 0, 0), (.putfield 17, 3, 3, 0), (.aload_n 0, 0, 0, 0), (.aload_n 1, 0, 0, 0), (.iload_n 2, 0, 0, 0), (.invokevirtual 61, 26, 3, 3), (.aload_n 0, 0, 0, 0), (.invokevirtual 65, 27, 1, 3), (.aload_n 0, 0, 0, 0), (.invokevirtual 68, 34, 1, 3), (.aload_n 3, 0, 0, 0), (.aload_n 1, 0, 0, 0), (.iload_n 2, 0, 0, 0), (.invokevirtual 71, 21, 3, 2), (.aload_n 0, 0, 0, 0), (.aload_n 3, 0, 0, 0), (.invokevirtual 74, 35, 2, 3), (.aload_n 3, 0, 0, 0)] (.areturn) []))
def qX3_find : am_M := (RX3, yX3_find, cX3_find, 4, (some (.object "WeylWords$Basis")), tX3_find)
-- WeylWords$Completion.gather(LWeylWords$State;I)V
def wX3_gather_20 : am_T := tQ (tB [(.iload_n 3, 0, 0, 0), (.bipush 6, 0, 0, 0)] (.if_icmp .ge 45) [68]) (tQ (tS [(.iload_n 2, 0, 0, 0), (.iload_n 3, 0, 0, 0), (.invokestatic 81, 129, 2, 0)]) (tQ (tK 62 (tQ (tB [] (.ifCond .eq 31) [62]) (tS [(.aload_n 0, 0, 0, 0), (.getfield 23, 3, 4, 0), (.aload_n 0, 0, 0, 0), (.getfield 41, 3, 9, 0), (.aaload, 0, 0, 0), (.aload_n 1, 0, 0, 0), (.getfield 85, 8, 0, 0), (.iload_n 3, 0, 0, 0), (.aaload, 0, 0, 0), (.invokevirtual 88, 55, 2, 6), (.aload_n 0, 0, 0, 0), (.dup, 0, 0, 0), (.getfield 41, 3, 9, 0), (.iconst 1, 0, 0, 0), (.iadd, 0, 0, 0), (.putfield 41, 3, 9, 0)]))) (tB [(.iinc 3 1, 0, 0, 0)] (.goto (-45)) [20])))
def tX3_gather : am_T := tQ (tS [(.aload_n 0, 0, 0, 0), (.aload_n 1, 0, 0, 0), (.getfield 78, 8, 2, 0), (.putfield 44, 3, 10, 0), (.aload_n 0, 0, 0, 0), (.iconst 0, 0, 0, 0), (.putfield 38, 3, 8, 0), (.aload_n 0, 0, 0, 0), (.iconst 0, 0, 0, 0), (.putfield 41, 3, 9, 0), (.iconst 0, 0, 0, 0), (.istore_n 3, 0, 0, 0)]) (tQ (tK 68 (tW 20 wX3_gather_20)) (tB [] (.return_) []))
def qX3_gather : am_M := (RX3, yX3_gather, cX3_gather, 4, none, tX3_gather)
-- WeylWords$Completion.complete()V
def wX3_complete_2 : am_T := tQ (tB [(.iload_n 1, 0, 0, 0), (.ldc 92, 100000, 0, 0)] (.if_icmp .ge 45) [50]) (tQ (tS [(.aload_n 0, 0, 0, 0), (.getfield 41, 3, 9, 0)]) (tQ (tK 44 (tQ (tK 22 (tQ (tB [] (.ifCond .le 10) [22]) (tB [(.aload_n 0, 0, 0, 0), (.invokevirtual 93, 28, 1, 3)] (.goto 25) [44]))) (tQ (tS [(.aload_n 0, 0, 0, 0), (.invokevirtual 96, 32, 1, 3), (.istore_n 2, 0, 0, 0), (.iload_n 2, 0, 0, 0)]) (tQ (tK 32 (tQ (tB [] (.ifCond .ge 4) [32]) (tB [] (.return_) []))) (tS [(.aload_n 0, 0, 0, 0), (.getfield 34, 3, 7, 0), (.iload_n 2, 0, 0, 0), (.iconst 1, 0, 0, 0), (.bastore, 0, 0, 0), (.aload_n 0, 0, 0, 0), (.iload_n 2, 0, 0, 0), (.invokevirtual 100, 33, 2, 3)]))))) (tB [(.iinc 1 1, 0, 0, 0)] (.goto (-45)) [2])))
def tX3_complete : am_T := tQ (tS [(.iconst 0, 0, 0, 0), (.istore_n 1, 0, 0, 0)]) (tQ (tK 50 (tW 2 wX3_complete_2)) (tB [] (.return_) []))
def qX3_complete : am_M := (RX3, yX3_complete, cX3_complete, 3, none, tX3_complete)
-- WeylWords$Completion.absorb()V
def wX3_absorb_23 : am_T := tQ (tB [(.iload_n 2, 0, 0, 0), (.aload_n 0, 0, 0, 0), (.getfield 38, 3, 8, 0)] (.if_icmp .ge 22) [50]) (tB [(.aload_n 0, 0, 0, 0), (.getfield 51, 3, 1, 0), (.aload_n 0, 0, 0, 0), (.getfield 23, 3, 4, 0), (.iload_n 2, 0, 0, 0), (.aaload, 0, 0, 0), (.invokevirtual 108, 38, 2, 4), (.iinc 2 1, 0, 0, 0)] (.goto (-24)) [23])
def wX3_absorb_158 : am_T := tQ (tB [(.iload 5, 0, 0, 0)] (.ifCond .lt 38) [198]) (tQ (tS [(.iload_n 3, 0, 0, 0), (.aload_n 0, 0, 0, 0), (.getfield 27, 3, 5, 0), (.iload 5, 0, 0, 0), (.iaload, 0, 0, 0)]) (tQ (tK 192 (tQ (tB [] (.if_icmp .gt 21) [192]) (tQ (tB [(.iload 4, 0, 0, 0), (.aload_n 0, 0, 0, 0), (.getfield 31, 3, 6, 0), (.iload 5, 0, 0, 0), (.iaload, 0, 0, 0)] (.if_icmp .gt 9) [192]) (tS [(.aload_n 0, 0, 0, 0), (.iload 5, 0, 0, 0), (.invokevirtual 135, 29, 2, 3)])))) (tB [(.iinc 5 (-1), 0, 0, 0)] (.goto (-37)) [158])))
def tX3_absorb : am_T := tQ (tS [(.aload_n 0, 0, 0, 0), (.getfield 23, 3, 4, 0), (.aload_n 0, 0, 0, 0), (.getfield 38, 3, 8, 0), (.aaload, 0, 0, 0), (.astore_n 1, 0, 0, 0), (.aload_n 0, 0, 0, 0), (.getfield 51, 3, 1, 0), (.aload_n 0, 0, 0, 0), (.getfield 44, 3, 10, 0), (.invokevirtual 104, 37, 2, 4), (.iconst 0, 0, 0, 0), (.istore_n 2, 0, 0, 0)]) (tQ (tK 50 (tW 23 wX3_absorb_23)) (tQ (tS [(.aload_n 0, 0, 0, 0), (.getfield 51, 3, 1, 0), (.aload_n 1, 0, 0, 0), (.invokevirtual 111, 39, 2, 4), (.aload_n 1, 0, 0, 0), (.aload_n 0, 0, 0, 0), (.getfield 44, 3, 10, 0), (.invokevirtual 114, 62, 2, 6), (.istore_n 2, 0, 0, 0), (.iload_n 2, 0, 0, 0)]) (tQ (tK 124 (tQ (tB [] (.ifCond .ge 56) [124]) (tB [(.aload_n 0, 0, 0, 0), (.getfield 23, 3, 4, 0), (.aload_n 0, 0, 0, 0), (.getfield 38, 3, 8, 0), (.aload_n 0, 0, 0, 0), (.getfield 23, 3, 4, 0), (.aload_n 0, 0, 0, 0), (.getfield 38, 3, 8, 0), (.aload_n 0, 0, 0, 0), (.getfield 41, 3, 9, 0), (.iadd, 0, 0, 0), (.iconst 1, 0, 0, 0), (.isub, 0, 0, 0), (.aaload, 0, 0, 0), (.aastore, 0, 0, 0), (.aload_n 0, 0, 0, 0), (.getfield 23, 3, 4, 0), (.aload_n 0, 0, 0, 0), (.getfield 38, 3, 8, 0), (.aload_n 0, 0, 0, 0), (.getfield 41, 3, 9, 0), (.iadd, 0, 0, 0), (.iconst 1, 0, 0, 0), (.isub, 0, 0, 0), (.aload_n 1, 0, 0, 0), (.aastore, 0, 0, 0), (.aload_n 0, 0, 0, 0), (.dup, 0, 0, 0), (.getfield 41, 3, 9, 0), (.iconst 1, 0, 0, 0), (.isub, 0, 0, 0), (.putfield 41, 3, 9, 0)] (.return_) []))) (tQ (tS [(.aload_n 1, 0, 0, 0), (.aload_n 1, 0, 0, 0), (.getfield 118, 6, 0, 0), (.iload_n 2, 0, 0, 0), (.iaload, 0, 0, 0), (.invokestatic 121, 11, 1, 0), (.invokevirtual 126, 57, 2, 6), (.getstatic 129, 1, 0, 0), (.iload_n 2, 0, 0, 0), (.iaload, 0, 0, 0), (.istore_n 3, 0, 0, 0), (.getstatic 132, 2, 0, 0), (.iload_n 2, 0, 0, 0), (.iaload, 0, 0, 0), (.istore 4, 0, 0, 0), (.aload_n 0, 0, 0, 0), (.getfield 38, 3, 8, 0), (.iconst 1, 0, 0, 0), (.isub, 0, 0, 0), (.istore 5, 0, 0, 0)]) (tQ (tK 198 (tW 158 wX3_absorb_158)) (tB [(.aload_n 0, 0, 0, 0), (.iload_n 3, 0, 0, 0), (.iload 4, 0, 0, 0), (.invokevirtual 138, 30, 3, 3)] (.return_) []))))))
def qX3_absorb : am_M := (RX3, yX3_absorb, cX3_absorb, 6, none, tX3_absorb)
-- WeylWords$Completion.dismiss(I)V
def wX3_dismiss_9 : am_T := tQ (tB [(.iload_n 3, 0, 0, 0), (.aload_n 0, 0, 0, 0), (.getfield 38, 3, 8, 0)] (.if_icmp .ge 65) [79]) (tB [(.aload_n 0, 0, 0, 0), (.getfield 23, 3, 4, 0), (.iload_n 3, 0, 0, 0), (.aload_n 0, 0, 0, 0), (.getfield 23, 3, 4, 0), (.iload_n 3, 0, 0, 0), (.iconst 1, 0, 0, 0), (.iadd, 0, 0, 0), (.aaload, 0, 0, 0), (.aastore, 0, 0, 0), (.aload_n 0, 0, 0, 0), (.getfield 27, 3, 5, 0), (.iload_n 3, 0, 0, 0), (.aload_n 0, 0, 0, 0), (.getfield 27, 3, 5, 0), (.iload_n 3, 0, 0, 0), (.iconst 1, 0, 0, 0), (.iadd, 0, 0, 0), (.iaload, 0, 0, 0), (.iastore, 0, 0, 0), (.aload_n 0, 0, 0, 0), (.getfield 31, 3, 6, 0), (.iload_n 3, 0, 0, 0), (.aload_n 0, 0, 0, 0), (.getfield 31, 3, 6, 0), (.iload_n 3, 0, 0, 0), (.iconst 1, 0, 0, 0), (.iadd, 0, 0, 0), (.iaload, 0, 0, 0), (.iastore, 0, 0, 0), (.aload_n 0, 0, 0, 0), (.getfield 34, 3, 7, 0), (.iload_n 3, 0, 0, 0), (.aload_n 0, 0, 0, 0), (.getfield 34, 3, 7, 0), (.iload_n 3, 0, 0, 0), (.iconst 1, 0, 0, 0), (.iadd, 0, 0, 0), (.baload, 0, 0, 0), (.bastore, 0, 0, 0), (.iinc 3 1, 0, 0, 0)] (.goto (-67)) [9])
def tX3_dismiss : am_T := tQ (tS [(.aload_n 0, 0, 0, 0), (.getfield 23, 3, 4, 0), (.iload_n 1, 0, 0, 0), (.aaload, 0, 0, 0), (.astore_n 2, 0, 0, 0), (.iload_n 1, 0, 0, 0), (.istore_n 3, 0, 0, 0)]) (tQ (tK 79 (tW 9 wX3_dismiss_9)) (tB [(.aload_n 0, 0, 0, 0), (.getfield 23, 3, 4, 0), (.aload_n 0, 0, 0, 0), (.getfield 38, 3, 8, 0), (.aload_n 2, 0, 0, 0), (.aastore, 0, 0, 0), (.aload_n 0, 0, 0, 0), (.dup, 0, 0, 0), (.getfield 38, 3, 8, 0), (.iconst 1, 0, 0, 0), (.isub, 0, 0, 0), (.putfield 38, 3, 8, 0), (.aload_n 0, 0, 0, 0), (.dup, 0, 0, 0), (.getfield 41, 3, 9, 0), (.iconst 1, 0, 0, 0), (.iadd, 0, 0, 0), (.putfield 41, 3, 9, 0), (.aload_n 0, 0, 0, 0), (.iload_n 1, 0, 0, 0), (.iconst 1, 0, 0, 0), (.isub, 0, 0, 0), (.invokevirtual 142, 31, 2, 3)] (.return_) []))
def qX3_dismiss : am_M := (RX3, yX3_dismiss, cX3_dismiss, 4, none, tX3_dismiss)
-- WeylWords$Completion.admit(II)V
def wX3_admit_16 : am_T := tQ (tB [(.iload 4, 0, 0, 0)] (.ifCond .le 86) [104]) (tQ (tB [(.aload_n 0, 0, 0, 0), (.getfield 27, 3, 5, 0), (.iload 4, 0, 0, 0), (.iconst 1, 0, 0, 0), (.isub, 0, 0, 0), (.iaload, 0, 0, 0), (.iload_n 1, 0, 0, 0)] (.if_icmp .ge 73) [104]) (tB [(.aload_n 0, 0, 0, 0), (.getfield 23, 3, 4, 0), (.iload 4, 0, 0, 0), (.aload_n 0, 0, 0, 0), (.getfield 23, 3, 4, 0), (.iload 4, 0, 0, 0), (.iconst 1, 0, 0, 0), (.isub, 0, 0, 0), (.aaload, 0, 0, 0), (.aastore, 0, 0, 0), (.aload_n 0, 0, 0, 0), (.getfield 27, 3, 5, 0), (.iload 4, 0, 0, 0), (.aload_n 0, 0, 0, 0), (.getfield 27, 3, 5, 0), (.iload 4, 0, 0, 0), (.iconst 1, 0, 0, 0), (.isub, 0, 0, 0), (.iaload, 0, 0, 0), (.iastore, 0, 0, 0), (.aload_n 0, 0, 0, 0), (.getfield 31, 3, 6, 0), (.iload 4, 0, 0, 0), (.aload_n 0, 0, 0, 0), (.getfield 31, 3, 6, 0), (.iload 4, 0, 0, 0), (.iconst 1, 0, 0, 0), (.isub, 0, 0, 0), (.iaload, 0, 0, 0), (.iastore, 0, 0, 0), (.aload_n 0, 0, 0, 0), (.getfield 34, 3, 7, 0), (.iload 4, 0, 0, 0), (.aload_n 0, 0, 0, 0), (.getfield 34, 3, 7, 0), (.iload 4, 0, 0, 0), (.iconst 1, 0, 0, 0), (.isub, 0, 0, 0), (.baload, 0, 0, 0), (.bastore, 0, 0, 0), (.iinc 4 (-1), 0, 0, 0)] (.goto (-85)) [16]))
def tX3_admit : am_T := tQ (tS [(.aload_n 0, 0, 0, 0), (.getfield 23, 3, 4, 0), (.aload_n 0, 0, 0, 0), (.getfield 38, 3, 8, 0), (.aaload, 0, 0, 0), (.astore_n 3, 0, 0, 0), (.aload_n 0, 0, 0, 0), (.getfield 38, 3, 8, 0), (.istore 4, 0, 0, 0)]) (tQ (tK 104 (tW 16 wX3_admit_16)) (tB [(.aload_n 0, 0, 0, 0), (.getfield 23, 3, 4, 0), (.iload 4, 0, 0, 0), (.aload_n 3, 0, 0, 0), (.aastore, 0, 0, 0), (.aload_n 0, 0, 0, 0), (.getfield 27, 3, 5, 0), (.iload 4, 0, 0, 0), (.iload_n 1, 0, 0, 0), (.iastore, 0, 0, 0), (.aload_n 0, 0, 0, 0), (.getfield 31, 3, 6, 0), (.iload 4, 0, 0, 0), (.iload_n 2, 0, 0, 0), (.iastore, 0, 0, 0), (.aload_n 0, 0, 0, 0), (.dup, 0, 0, 0), (.getfield 38, 3, 8, 0), (.iconst 1, 0, 0, 0), (.iadd, 0, 0, 0), (.putfield 38, 3, 8, 0), (.aload_n 0, 0, 0, 0), (.dup, 0, 0, 0), (.getfield 41, 3, 9, 0), (.iconst 1, 0, 0, 0), (.isub, 0, 0, 0), (.putfield 41, 3, 9, 0), (.aload_n 0, 0, 0, 0), (.iload 4, 0, 0, 0), (.invokevirtual 142, 31, 2, 3), (.aload_n 0, 0, 0, 0), (.iload 4, 0, 0, 0), (.iconst 1, 0, 0, 0), (.isub, 0, 0, 0), (.invokevirtual 142, 31, 2, 3)] (.return_) []))
def qX3_admit : am_M := (RX3, yX3_admit, cX3_admit, 5, none, tX3_admit)
-- WeylWords$Completion.unsettle(I)V
def tX3_unsettle : am_T := tQ (tS [(.iload_n 1, 0, 0, 0)]) (tQ (tK 11 (tQ (tB [] (.ifCond .lt 10) [11]) (tS [(.aload_n 0, 0, 0, 0), (.getfield 34, 3, 7, 0), (.iload_n 1, 0, 0, 0), (.iconst 0, 0, 0, 0), (.bastore, 0, 0, 0)]))) (tB [] (.return_) []))
def qX3_unsettle : am_M := (RX3, yX3_unsettle, cX3_unsettle, 2, none, tX3_unsettle)
-- WeylWords$Completion.cheapestPair()I
def wX3_cheapestPair_7 : am_T := tQ (tB [(.iload_n 3, 0, 0, 0), (.iconst 1, 0, 0, 0), (.iadd, 0, 0, 0), (.aload_n 0, 0, 0, 0), (.getfield 38, 3, 8, 0)] (.if_icmp .ge 46) [60]) (tQ (tS [(.aload_n 0, 0, 0, 0), (.getfield 27, 3, 5, 0), (.iload_n 3, 0, 0, 0), (.iaload, 0, 0, 0), (.aload_n 0, 0, 0, 0), (.getfield 31, 3, 6, 0), (.iload_n 3, 0, 0, 0), (.iconst 1, 0, 0, 0), (.iadd, 0, 0, 0), (.iaload, 0, 0, 0), (.iadd, 0, 0, 0), (.istore 4, 0, 0, 0), (.aload_n 0, 0, 0, 0), (.getfield 34, 3, 7, 0), (.iload_n 3, 0, 0, 0), (.baload, 0, 0, 0)]) (tQ (tK 54 (tQ (tB [] (.ifCond .ne 14) [54]) (tQ (tB [(.iload 4, 0, 0, 0), (.iload_n 2, 0, 0, 0)] (.if_icmp .ge 8) [54]) (tS [(.iload_n 3, 0, 0, 0), (.istore_n 1, 0, 0, 0), (.iload 4, 0, 0, 0), (.istore_n 2, 0, 0, 0)])))) (tB [(.iinc 3 1, 0, 0, 0)] (.goto (-50)) [7])))
def tX3_cheapestPair : am_T := tQ (tS [(.iconst (-1), 0, 0, 0), (.istore_n 1, 0, 0, 0), (.bipush 13, 0, 0, 0), (.istore_n 2, 0, 0, 0), (.iconst 0, 0, 0, 0), (.istore_n 3, 0, 0, 0)]) (tQ (tK 60 (tW 7 wX3_cheapestPair_7)) (tB [(.iload_n 1, 0, 0, 0)] (.ireturn) [0]))
def qX3_cheapestPair : am_M := (RX3, yX3_cheapestPair, cX3_cheapestPair, 5, (some .int), tX3_cheapestPair)
-- WeylWords$Completion.cross(I)V
def tX3_cross : am_T := tQ (tS [(.aload_n 0, 0, 0, 0), (.getfield 38, 3, 8, 0), (.bipush 6, 0, 0, 0)]) (tQ (tK 10 (tQ (tB [] (.if_icmp .lt 4) [10]) (tB [] (.return_) []))) (tB [(.aload_n 0, 0, 0, 0), (.getfield 23, 3, 4, 0), (.aload_n 0, 0, 0, 0), (.getfield 38, 3, 8, 0), (.aaload, 0, 0, 0), (.astore_n 2, 0, 0, 0), (.aload_n 0, 0, 0, 0), (.getfield 23, 3, 4, 0), (.iload_n 1, 0, 0, 0), (.aaload, 0, 0, 0), (.astore_n 3, 0, 0, 0), (.aload_n 0, 0, 0, 0), (.getfield 23, 3, 4, 0), (.iload_n 1, 0, 0, 0), (.iconst 1, 0, 0, 0), (.iadd, 0, 0, 0), (.aaload, 0, 0, 0), (.astore 4, 0, 0, 0), (.iconst 0, 0, 0, 0), (.aload_n 0, 0, 0, 0), (.getfield 31, 3, 6, 0), (.iload_n 1, 0, 0, 0), (.iconst 1, 0, 0, 0), (.iadd, 0, 0, 0), (.iaload, 0, 0, 0), (.aload_n 0, 0, 0, 0), (.getfield 31, 3, 6, 0), (.iload_n 1, 0, 0, 0), (.iaload, 0, 0, 0), (.isub, 0, 0, 0), (.invokestatic 145, 47, 2, 0), (.istore 5, 0, 0, 0), (.aload_n 0, 0, 0, 0), (.getfield 27, 3, 5, 0), (.iload_n 1, 0, 0, 0), (.iaload, 0, 0, 0), (.aload_n 0, 0, 0, 0), (.getfield 27, 3, 5, 0), (.iload_n 1, 0, 0, 0), (.iconst 1, 0, 0, 0), (.iadd, 0, 0, 0), (.iaload, 0, 0, 0), (.isub, 0, 0, 0), (.iconst 0, 0, 0, 0), (.invokestatic 145, 47, 2, 0), (.istore 6, 0, 0, 0), (.aload_n 2, 0, 0, 0), (.invokevirtual 149, 53, 1, 6), (.aload_n 0, 0, 0, 0), (.getfield 47, 3, 0, 0), (.aload_n 2, 0, 0, 0), (.iconst 1, 0, 0, 0), (.iload 5, 0, 0, 0), (.aload_n 3, 0, 0, 0), (.aload_n 3, 0, 0, 0), (.invokevirtual 152, 59, 1, 6), (.invokevirtual 155, 15, 6, 1), (.aload_n 0, 0, 0, 0), (.getfield 47, 3, 0, 0), (.aload_n 2, 0, 0, 0), (.sipush 10006, 0, 0, 0), (.iload 6, 0, 0, 0), (.aload 4, 0, 0, 0), (.aload 4, 0, 0, 0), (.invokevirtual 152, 59, 1, 6), (.invokevirtual 155, 15, 6, 1), (.aload_n 0, 0, 0, 0), (.iconst 1, 0, 0, 0), (.putfield 41, 3, 9, 0)] (.return_) []))
def qX3_cross : am_M := (RX3, yX3_cross, cX3_cross, 7, none, tX3_cross)
-- WeylWords$Completion.reduceTails()V
def wX3_reduceTails_23 : am_T := tQ (tB [(.iload_n 2, 0, 0, 0), (.aload_n 0, 0, 0, 0), (.getfield 38, 3, 8, 0)] (.if_icmp .ge 27) [55]) (tQ (tS [(.iload_n 2, 0, 0, 0), (.iload_n 1, 0, 0, 0)]) (tQ (tK 49 (tQ (tB [] (.if_icmp .eq 16) [49]) (tS [(.aload_n 0, 0, 0, 0), (.getfield 51, 3, 1, 0), (.aload_n 0, 0, 0, 0), (.getfield 23, 3, 4, 0), (.iload_n 2, 0, 0, 0), (.aaload, 0, 0, 0), (.invokevirtual 108, 38, 2, 4)]))) (tB [(.iinc 2 1, 0, 0, 0)] (.goto (-29)) [23])))
def wX3_reduceTails_2 : am_T := tQ (tB [(.iload_n 1, 0, 0, 0), (.aload_n 0, 0, 0, 0), (.getfield 38, 3, 8, 0)] (.if_icmp .ge 67) [74]) (tQ (tS [(.aload_n 0, 0, 0, 0), (.getfield 51, 3, 1, 0), (.aload_n 0, 0, 0, 0), (.getfield 44, 3, 10, 0), (.invokevirtual 104, 37, 2, 4), (.iconst 0, 0, 0, 0), (.istore_n 2, 0, 0, 0)]) (tQ (tK 55 (tW 23 wX3_reduceTails_23)) (tB [(.aload_n 0, 0, 0, 0), (.getfield 51, 3, 1, 0), (.aload_n 0, 0, 0, 0), (.getfield 23, 3, 4, 0), (.iload_n 1, 0, 0, 0), (.aaload, 0, 0, 0), (.invokevirtual 111, 39, 2, 4), (.iinc 1 1, 0, 0, 0)] (.goto (-69)) [2])))
def tX3_reduceTails : am_T := tQ (tS [(.iconst 0, 0, 0, 0), (.istore_n 1, 0, 0, 0)]) (tQ (tK 74 (tW 2 wX3_reduceTails_2)) (tB [] (.return_) []))
def qX3_reduceTails : am_M := (RX3, yX3_reduceTails, cX3_reduceTails, 3, none, tX3_reduceTails)
-- WeylWords$Completion.handOver(LWeylWords$Basis;)V
def wX3_handOver_22 : am_T := tQ (tB [(.iload 6, 0, 0, 0), (.aload_n 0, 0, 0, 0), (.getfield 38, 3, 8, 0)] (.if_icmp .ge 56) [84]) (tQ (tS [(.aload_n 0, 0, 0, 0), (.getfield 44, 3, 10, 0), (.aload_n 0, 0, 0, 0), (.getfield 27, 3, 5, 0), (.iload 6, 0, 0, 0), (.iaload, 0, 0, 0), (.aload_n 0, 0, 0, 0), (.getfield 31, 3, 6, 0), (.iload 6, 0, 0, 0), (.iaload, 0, 0, 0), (.invokestatic 145, 47, 2, 0), (.invokestatic 159, 50, 2, 0), (.istore 7, 0, 0, 0), (.iload 7, 0, 0, 0), (.iload_n 2, 0, 0, 0)]) (tQ (tK 78 (tQ (tB [] (.if_icmp .le 18) [78]) (tQ (tB [(.iload 7, 0, 0, 0), (.iload 5, 0, 0, 0)] (.if_icmp .ge 11) [78]) (tS [(.iload 6, 0, 0, 0), (.istore 4, 0, 0, 0), (.iload 7, 0, 0, 0), (.istore 5, 0, 0, 0)])))) (tB [(.iinc 6 1, 0, 0, 0)] (.goto (-59)) [22])))
def wX3_handOver_4 : am_T := tQ (tB [(.iload_n 3, 0, 0, 0), (.aload_n 0, 0, 0, 0), (.getfield 38, 3, 8, 0)] (.if_icmp .ge 100) [109]) (tQ (tS [(.iconst (-1), 0, 0, 0), (.istore 4, 0, 0, 0), (.bipush 91, 0, 0, 0), (.istore 5, 0, 0, 0), (.iconst 0, 0, 0, 0), (.istore 6, 0, 0, 0)]) (tQ (tK 84 (tW 22 wX3_handOver_22)) (tQ (tS [(.iload 4, 0, 0, 0)]) (tQ (tK 100 (tQ (tB [] (.ifCond .lt 14) [100]) (tS [(.aload_n 1, 0, 0, 0), (.aload_n 0, 0, 0, 0), (.getfield 23, 3, 4, 0), (.iload 4, 0, 0, 0), (.aaload, 0, 0, 0), (.invokevirtual 162, 22, 2, 2)]))) (tB [(.iload 5, 0, 0, 0), (.istore_n 2, 0, 0, 0), (.iinc 3 1, 0, 0, 0)] (.goto (-102)) [4])))))
def tX3_handOver : am_T := tQ (tS [(.iconst (-1), 0, 0, 0), (.istore_n 2, 0, 0, 0), (.iconst 0, 0, 0, 0), (.istore_n 3, 0, 0, 0)]) (tQ (tK 109 (tW 4 wX3_handOver_4)) (tB [] (.return_) []))
def qX3_handOver : am_M := (RX3, yX3_handOver, cX3_handOver, 8, none, tX3_handOver)
-- WeylWords$Divider.<init>(LWeylWords$Algebra;)V
def tX4_init : am_T := tB [(.aload_n 0, 0, 0, 0), (.invokespecial 3, 998, 1, 0), (.aload_n 0, 0, 0, 0), (.bipush 6, 0, 0, 0), (.anewarray 9, 23, 0, 0), (.putfield 11, 4, 1, 3), (.aload_n 0, 0, 0, 0), (.bipush 6, 0, 0, 0), (.newarray .int, 20, 0, 0), (.putfield 17, 4, 2, 3), (.aload_n 0, 0, 0, 0), (.bipush 6, 0, 0, 0), (.newarray .int, 20, 0, 0), (.putfield 21, 4, 3, 3), (.aload_n 0, 0, 0, 0), (.bipush 6, 0, 0, 0), (.newarray .int, 20, 0, 0), (.putfield 24, 4, 4, 3), (.aload_n 0, 0, 0, 0), (.bipush 6, 0, 0, 0), (.newarray .int, 20, 0, 0), (.putfield 27, 4, 5, 3), (.aload_n 0, 0, 0, 0), (.iconst 0, 0, 0, 0), (.putfield 30, 4, 6, 0), (.aload_n 0, 0, 0, 0), (.iconst 0, 0, 0, 0), (.putfield 34, 4, 7, 0), (.aload_n 0, 0, 0, 0), (.aload_n 1, 0, 0, 0), (.putfield 37, 4, 0, 3)] (.return_) []
def qX4_init : am_M := (RX4, yX4_init, cX4_init, 2, none, tX4_init)
-- WeylWords$Divider.begin(I)V
def tX4_begin : am_T := tB [(.aload_n 0, 0, 0, 0), (.iload_n 1, 0, 0, 0), (.putfield 34, 4, 7, 0), (.aload_n 0, 0, 0, 0), (.iconst 0, 0, 0, 0), (.putfield 30, 4, 6, 0)] (.return_) []
def qX4_begin : am_M := (RX4, yX4_begin, cX4_begin, 2, none, tX4_begin)
-- WeylWords$Divider.take(LWeylWords$Operator;)V
def tX4_take : am_T := tQ (tS [(.aload_n 1, 0, 0, 0), (.aload_n 0, 0, 0, 0), (.getfield 34, 4, 7, 0), (.invokevirtual 41, 62, 2, 6), (.istore_n 2, 0, 0, 0), (.iload_n 2, 0, 0, 0)]) (tQ (tK 23 (tQ (tK 22 (tQ (tB [] (.ifCond .lt 12) [22]) (tB [(.aload_n 0, 0, 0, 0), (.getfield 30, 4, 6, 0), (.bipush 6, 0, 0, 0)] (.if_icmp .lt 4) [23]))) (tB [] (.return_) []))) (tB [(.aload_n 0, 0, 0, 0), (.getfield 11, 4, 1, 0), (.aload_n 0, 0, 0, 0), (.getfield 30, 4, 6, 0), (.aload_n 1, 0, 0, 0), (.aastore, 0, 0, 0), (.aload_n 0, 0, 0, 0), (.getfield 17, 4, 2, 0), (.aload_n 0, 0, 0, 0), (.getfield 30, 4, 6, 0), (.getstatic 45, 1, 0, 0), (.iload_n 2, 0, 0, 0), (.iaload, 0, 0, 0), (.iastore, 0, 0, 0), (.aload_n 0, 0, 0, 0), (.getfield 21, 4, 3, 0), (.aload_n 0, 0, 0, 0), (.getfield 30, 4, 6, 0), (.getstatic 48, 2, 0, 0), (.iload_n 2, 0, 0, 0), (.iaload, 0, 0, 0), (.iastore, 0, 0, 0), (.aload_n 0, 0, 0, 0), (.getfield 24, 4, 4, 0), (.aload_n 0, 0, 0, 0), (.getfield 30, 4, 6, 0), (.aload_n 1, 0, 0, 0), (.getfield 51, 6, 0, 0), (.iload_n 2, 0, 0, 0), (.iaload, 0, 0, 0), (.invokestatic 54, 11, 1, 0), (.iastore, 0, 0, 0), (.aload_n 0, 0, 0, 0), (.getfield 27, 4, 5, 0), (.aload_n 0, 0, 0, 0), (.getfield 30, 4, 6, 0), (.aload_n 1, 0, 0, 0), (.invokevirtual 59, 59, 1, 6), (.iastore, 0, 0, 0), (.aload_n 0, 0, 0, 0), (.dup, 0, 0, 0), (.getfield 30, 4, 6, 0), (.iconst 1, 0, 0, 0), (.iadd, 0, 0, 0), (.putfield 30, 4, 6, 0)] (.return_) []))
def qX4_take : am_M := (RX4, yX4_take, cX4_take, 3, none, tX4_take)
-- WeylWords$Divider.reduce(LWeylWords$Operator;)V
def wX4_reduce_11 : am_T := tQ (tB [(.iload_n 3, 0, 0, 0), (.iload_n 2, 0, 0, 0)] (.if_icmp .gt 37) [50]) (tQ (tS [(.aload_n 0, 0, 0, 0), (.getfield 34, 4, 7, 0), (.iload_n 2, 0, 0, 0), (.iload_n 3, 0, 0, 0), (.invokestatic 66, 49, 3, 0), (.istore 4, 0, 0, 0), (.aload_n 1, 0, 0, 0), (.getfield 51, 6, 0, 0), (.iload 4, 0, 0, 0), (.iaload, 0, 0, 0)]) (tQ (tK 44 (tQ (tB [] (.ifCond .eq 10) [44]) (tS [(.aload_n 0, 0, 0, 0), (.aload_n 1, 0, 0, 0), (.iload 4, 0, 0, 0), (.invokevirtual 70, 40, 3, 4)]))) (tB [(.iinc 3 1, 0, 0, 0)] (.goto (-36)) [11])))
def wX4_reduce_5 : am_T := tQ (tB [(.iload_n 2, 0, 0, 0)] (.ifCond .lt 50) [56]) (tQ (tS [(.iconst 0, 0, 0, 0), (.istore_n 3, 0, 0, 0)]) (tQ (tK 50 (tW 11 wX4_reduce_11)) (tB [(.iinc 2 (-1), 0, 0, 0)] (.goto (-48)) [5])))
def tX4_reduce : am_T := tQ (tS [(.aload_n 1, 0, 0, 0), (.invokevirtual 63, 61, 1, 6), (.istore_n 2, 0, 0, 0)]) (tQ (tK 56 (tW 5 wX4_reduce_5)) (tB [] (.return_) []))
def qX4_reduce : am_M := (RX4, yX4_reduce, cX4_reduce, 5, none, tX4_reduce)
-- WeylWords$Divider.cancel(LWeylWords$Operator;I)V
def wX4_cancel_16 : am_T := tQ (tB [(.iload 5, 0, 0, 0), (.aload_n 0, 0, 0, 0), (.getfield 30, 4, 6, 0)] (.if_icmp .ge 107) [129]) (tQ (tS [(.aload_n 0, 0, 0, 0), (.getfield 17, 4, 2, 0), (.iload 5, 0, 0, 0), (.iaload, 0, 0, 0), (.iload_n 3, 0, 0, 0)]) (tQ (tK 123 (tQ (tB [] (.if_icmp .gt 90) [123]) (tQ (tB [(.aload_n 0, 0, 0, 0), (.getfield 21, 4, 3, 0), (.iload 5, 0, 0, 0), (.iaload, 0, 0, 0), (.iload 4, 0, 0, 0)] (.if_icmp .gt 78) [123]) (tB [(.sipush 10007, 0, 0, 0), (.aload_n 1, 0, 0, 0), (.getfield 51, 6, 0, 0), (.iload_n 2, 0, 0, 0), (.iaload, 0, 0, 0), (.isub, 0, 0, 0), (.aload_n 0, 0, 0, 0), (.getfield 24, 4, 4, 0), (.iload 5, 0, 0, 0), (.iaload, 0, 0, 0), (.imul, 0, 0, 0), (.sipush 10007, 0, 0, 0), (.irem, 0, 0, 0), (.istore 6, 0, 0, 0), (.iload_n 3, 0, 0, 0), (.aload_n 0, 0, 0, 0), (.getfield 17, 4, 2, 0), (.iload 5, 0, 0, 0), (.iaload, 0, 0, 0), (.isub, 0, 0, 0), (.iload 4, 0, 0, 0), (.aload_n 0, 0, 0, 0), (.getfield 21, 4, 3, 0), (.iload 5, 0, 0, 0), (.iaload, 0, 0, 0), (.isub, 0, 0, 0), (.invokestatic 74, 47, 2, 0), (.istore 7, 0, 0, 0), (.aload_n 0, 0, 0, 0), (.getfield 37, 4, 0, 0), (.aload_n 1, 0, 0, 0), (.iload 6, 0, 0, 0), (.iload 7, 0, 0, 0), (.aload_n 0, 0, 0, 0), (.getfield 11, 4, 1, 0), (.iload 5, 0, 0, 0), (.aaload, 0, 0, 0), (.aload_n 0, 0, 0, 0), (.getfield 27, 4, 5, 0), (.iload 5, 0, 0, 0), (.iaload, 0, 0, 0), (.invokevirtual 78, 15, 6, 1)] (.return_) [])))) (tB [(.iinc 5 1, 0, 0, 0)] (.goto (-110)) [16])))
def tX4_cancel : am_T := tQ (tS [(.getstatic 45, 1, 0, 0), (.iload_n 2, 0, 0, 0), (.iaload, 0, 0, 0), (.istore_n 3, 0, 0, 0), (.getstatic 48, 2, 0, 0), (.iload_n 2, 0, 0, 0), (.iaload, 0, 0, 0), (.istore 4, 0, 0, 0), (.iconst 0, 0, 0, 0), (.istore 5, 0, 0, 0)]) (tQ (tK 129 (tW 16 wX4_cancel_16)) (tB [] (.return_) []))
def qX4_cancel : am_M := (RX4, yX4_cancel, cX4_cancel, 8, none, tX4_cancel)
-- WeylWords$History.<init>()V
def wX5_init_24 : am_T := tQ (tB [(.iload_n 1, 0, 0, 0), (.iconst 5, 0, 0, 0)] (.if_icmp .ge 22) [48]) (tB [(.aload_n 0, 0, 0, 0), (.getfield 11, 5, 0, 0), (.iload_n 1, 0, 0, 0), (.new 9, 8, 0, 0), (.dup, 0, 0, 0), (.invokespecial 24, 73, 1, 8), (.aastore, 0, 0, 0), (.iinc 1 1, 0, 0, 0)] (.goto (-21)) [24])
def tX5_init : am_T := tQ (tS [(.aload_n 0, 0, 0, 0), (.invokespecial 3, 998, 1, 0), (.aload_n 0, 0, 0, 0), (.iconst 5, 0, 0, 0), (.anewarray 9, 24, 0, 0), (.putfield 11, 5, 0, 3), (.aload_n 0, 0, 0, 0), (.iconst 0, 0, 0, 0), (.putfield 17, 5, 1, 0), (.aload_n 0, 0, 0, 0), (.iconst 0, 0, 0, 0), (.putfield 21, 5, 2, 0), (.iconst 0, 0, 0, 0), (.istore_n 1, 0, 0, 0)]) (tQ (tK 48 (tW 24 wX5_init_24)) (tB [] (.return_) []))
def qX5_init : am_M := (RX5, yX5_init, cX5_init, 2, none, tX5_init)
-- WeylWords$History.keep(LWeylWords$State;)V
def tX5_keep : am_T := tB [(.aload_n 0, 0, 0, 0), (.getfield 11, 5, 0, 0), (.aload_n 0, 0, 0, 0), (.getfield 17, 5, 1, 0), (.aaload, 0, 0, 0), (.aload_n 1, 0, 0, 0), (.invokevirtual 25, 74, 2, 8), (.aload_n 0, 0, 0, 0), (.aload_n 0, 0, 0, 0), (.getfield 17, 5, 1, 0), (.iconst 1, 0, 0, 0), (.iadd, 0, 0, 0), (.iconst 5, 0, 0, 0), (.irem, 0, 0, 0), (.putfield 17, 5, 1, 0), (.aload_n 0, 0, 0, 0), (.aload_n 0, 0, 0, 0), (.getfield 21, 5, 2, 0), (.iconst 1, 0, 0, 0), (.iadd, 0, 0, 0), (.iconst 5, 0, 0, 0), (.invokestatic 29, 233, 2, 0), (.putfield 21, 5, 2, 0)] (.return_) []
def qX5_keep : am_M := (RX5, yX5_keep, cX5_keep, 2, none, tX5_keep)
-- WeylWords$History.restore(LWeylWords$State;)V
def tX5_restore : am_T := tQ (tS [(.aload_n 0, 0, 0, 0), (.getfield 21, 5, 2, 0)]) (tQ (tK 44 (tQ (tB [] (.ifCond .le 40) [44]) (tS [(.aload_n 0, 0, 0, 0), (.aload_n 0, 0, 0, 0), (.getfield 17, 5, 1, 0), (.iconst 5, 0, 0, 0), (.iadd, 0, 0, 0), (.iconst 1, 0, 0, 0), (.isub, 0, 0, 0), (.iconst 5, 0, 0, 0), (.irem, 0, 0, 0), (.putfield 17, 5, 1, 0), (.aload_n 0, 0, 0, 0), (.dup, 0, 0, 0), (.getfield 21, 5, 2, 0), (.iconst 1, 0, 0, 0), (.isub, 0, 0, 0), (.putfield 21, 5, 2, 0), (.aload_n 1, 0, 0, 0), (.aload_n 0, 0, 0, 0), (.getfield 11, 5, 0, 0), (.aload_n 0, 0, 0, 0), (.getfield 17, 5, 1, 0), (.aaload, 0, 0, 0), (.invokevirtual 25, 74, 2, 8)]))) (tB [] (.return_) []))
def qX5_restore : am_M := (RX5, yX5_restore, cX5_restore, 2, none, tX5_restore)
-- WeylWords$Operator.<init>()V
def tX6_init : am_T := tB [(.aload_n 0, 0, 0, 0), (.invokespecial 3, 998, 1, 0), (.aload_n 0, 0, 0, 0), (.bipush 91, 0, 0, 0), (.newarray .int, 20, 0, 0), (.putfield 9, 6, 0, 3)] (.return_) []
def qX6_init : am_M := (RX6, yX6_init, cX6_init, 1, none, tX6_init)
-- WeylWords$Operator.isWord(II)Z
def tX6_isWord : am_T := tQ (tS [(.iload_n 0, 0, 0, 0)]) (tQ (tK 33 (tQ (tK 32 (tQ (tB [] (.ifCond .lt 31) [32]) (tQ (tB [(.iload_n 1, 0, 0, 0)] (.ifCond .lt 27) [32]) (tQ (tB [(.iload_n 0, 0, 0, 0), (.bipush 12, 0, 0, 0)] (.if_icmp .gt 21) [32]) (tQ (tB [(.iload_n 1, 0, 0, 0), (.bipush 12, 0, 0, 0)] (.if_icmp .gt 15) [32]) (tQ (tB [(.iload_n 0, 0, 0, 0), (.iload_n 1, 0, 0, 0), (.iadd, 0, 0, 0), (.bipush 12, 0, 0, 0)] (.if_icmp .gt 7) [32]) (tB [(.iconst 1, 0, 0, 0)] (.goto 4) [33]))))))) (tS [(.iconst 0, 0, 0, 0)]))) (tB [] (.ireturn) [1]))
def qX6_isWord : am_M := (RX6, yX6_isWord, cX6_isWord, 2, (some .boolean), tX6_isWord)
-- WeylWords$Operator.firstPlace(I)I
def tX6_firstPlace : am_T := tB [(.iload_n 0, 0, 0, 0), (.iload_n 0, 0, 0, 0), (.iconst 1, 0, 0, 0), (.iadd, 0, 0, 0), (.imul, 0, 0, 0), (.iconst 2, 0, 0, 0), (.idiv, 0, 0, 0)] (.ireturn) [0]
def qX6_firstPlace : am_M := (RX6, yX6_firstPlace, cX6_firstPlace, 1, (some .int), tX6_firstPlace)
-- WeylWords$Operator.placeOf(II)I
def tX6_placeOf : am_T := tB [(.iload_n 0, 0, 0, 0), (.iload_n 1, 0, 0, 0), (.iadd, 0, 0, 0), (.invokestatic 15, 46, 1, 0), (.iload_n 1, 0, 0, 0), (.iadd, 0, 0, 0)] (.ireturn) [0]
def qX6_placeOf : am_M := (RX6, yX6_placeOf, cX6_placeOf, 2, (some .int), tX6_placeOf)
-- WeylWords$Operator.degreeAt(I)I
def tX6_degreeAt : am_T := tB [(.getstatic 19, 1, 0, 0), (.iload_n 0, 0, 0, 0), (.iaload, 0, 0, 0), (.getstatic 22, 2, 0, 0), (.iload_n 0, 0, 0, 0), (.iaload, 0, 0, 0), (.iadd, 0, 0, 0)] (.ireturn) [0]
def qX6_degreeAt : am_M := (RX6, yX6_degreeAt, cX6_degreeAt, 1, (some .int), tX6_degreeAt)
-- WeylWords$Operator.rankedPlace(III)I
def tX6_rankedPlace : am_T := tQ (tS [(.iload_n 1, 0, 0, 0), (.invokestatic 15, 46, 1, 0), (.iload_n 0, 0, 0, 0)]) (tQ (tK 15 (tQ (tK 14 (tQ (tB [] (.ifCond .ne 9) [14]) (tB [(.iload_n 1, 0, 0, 0), (.iload_n 2, 0, 0, 0), (.isub, 0, 0, 0)] (.goto 4) [15]))) (tS [(.iload_n 2, 0, 0, 0)]))) (tB [(.iadd, 0, 0, 0)] (.ireturn) [0]))
def qX6_rankedPlace : am_M := (RX6, yX6_rankedPlace, cX6_rankedPlace, 3, (some .int), tX6_rankedPlace)
-- WeylWords$Operator.height(II)I
def tX6_height : am_T := tQ (tS [(.iload_n 1, 0, 0, 0), (.invokestatic 25, 48, 1, 0), (.invokestatic 15, 46, 1, 0), (.iload_n 0, 0, 0, 0)]) (tQ (tK 24 (tQ (tK 19 (tQ (tB [] (.ifCond .ne 11) [19]) (tB [(.getstatic 22, 2, 0, 0), (.iload_n 1, 0, 0, 0), (.iaload, 0, 0, 0)] (.goto 8) [24]))) (tS [(.getstatic 19, 1, 0, 0), (.iload_n 1, 0, 0, 0), (.iaload, 0, 0, 0)]))) (tB [(.iadd, 0, 0, 0)] (.ireturn) [0]))
def qX6_height : am_M := (RX6, yX6_height, cX6_height, 2, (some .int), tX6_height)
-- WeylWords$Operator.coefficient(II)I
def tX6_coefficient : am_T := tQ (tS [(.iload_n 1, 0, 0, 0), (.iload_n 2, 0, 0, 0), (.invokestatic 28, 45, 2, 0)]) (tQ (tK 22 (tQ (tK 21 (tQ (tB [] (.ifCond .eq 16) [21]) (tB [(.aload_n 0, 0, 0, 0), (.getfield 9, 6, 0, 0), (.iload_n 1, 0, 0, 0), (.iload_n 2, 0, 0, 0), (.invokestatic 32, 47, 2, 0), (.iaload, 0, 0, 0)] (.goto 4) [22]))) (tS [(.iconst 0, 0, 0, 0)]))) (tB [] (.ireturn) [0]))
def qX6_coefficient : am_M := (RX6, yX6_coefficient, cX6_coefficient, 3, (some .int), tX6_coefficient)
-- WeylWords$Operator.setCoefficient(III)V
def tX6_setCoefficient : am_T := tQ (tS [(.iload_n 1, 0, 0, 0), (.iload_n 2, 0, 0, 0), (.invokestatic 28, 45, 2, 0)]) (tQ (tK 19 (tQ (tB [] (.ifCond .eq 14) [19]) (tS [(.aload_n 0, 0, 0, 0), (.getfield 9, 6, 0, 0), (.iload_n 1, 0, 0, 0), (.iload_n 2, 0, 0, 0), (.invokestatic 32, 47, 2, 0), (.iload_n 3, 0, 0, 0), (.iastore, 0, 0, 0)]))) (tB [] (.return_) []))
def qX6_setCoefficient : am_M := (RX6, yX6_setCoefficient, cX6_setCoefficient, 4, none, tX6_setCoefficient)
-- WeylWords$Operator.makeZero()V
def tX6_makeZero : am_T := tB [(.aload_n 0, 0, 0, 0), (.getfield 9, 6, 0, 0), (.iconst 0, 0, 0, 0), (.invokestatic 36, 234, 2, 0)] (.return_) []
def qX6_makeZero : am_M := (RX6, yX6_makeZero, cX6_makeZero, 1, none, tX6_makeZero)
-- WeylWords$Operator.makeNumber(I)V
def tX6_makeNumber : am_T := tB [(.aload_n 0, 0, 0, 0), (.invokevirtual 42, 53, 1, 6), (.aload_n 0, 0, 0, 0), (.getfield 9, 6, 0, 0), (.iconst 0, 0, 0, 0), (.iload_n 1, 0, 0, 0), (.iastore, 0, 0, 0)] (.return_) []
def qX6_makeNumber : am_M := (RX6, yX6_makeNumber, cX6_makeNumber, 2, none, tX6_makeNumber)
-- WeylWords$Operator.copyFrom(LWeylWords$Operator;)V
def tX6_copyFrom : am_T := tB [(.aload_n 1, 0, 0, 0), (.getfield 9, 6, 0, 0), (.iconst 0, 0, 0, 0), (.aload_n 0, 0, 0, 0), (.getfield 9, 6, 0, 0), (.iconst 0, 0, 0, 0), (.bipush 91, 0, 0, 0), (.invokestatic 45, 999, 5, 0)] (.return_) []
def qX6_copyFrom : am_M := (RX6, yX6_copyFrom, cX6_copyFrom, 2, none, tX6_copyFrom)
-- WeylWords$Operator.addMultiple(LWeylWords$Operator;I)V
def wX6_addMultiple_2 : am_T := tQ (tB [(.iload_n 3, 0, 0, 0), (.bipush 91, 0, 0, 0)] (.if_icmp .ge 34) [39]) (tB [(.aload_n 0, 0, 0, 0), (.getfield 9, 6, 0, 0), (.iload_n 3, 0, 0, 0), (.aload_n 0, 0, 0, 0), (.getfield 9, 6, 0, 0), (.iload_n 3, 0, 0, 0), (.iaload, 0, 0, 0), (.iload_n 2, 0, 0, 0), (.aload_n 1, 0, 0, 0), (.getfield 9, 6, 0, 0), (.iload_n 3, 0, 0, 0), (.iaload, 0, 0, 0), (.imul, 0, 0, 0), (.iadd, 0, 0, 0), (.sipush 10007, 0, 0, 0), (.irem, 0, 0, 0), (.iastore, 0, 0, 0), (.iinc 3 1, 0, 0, 0)] (.goto (-34)) [2])
def tX6_addMultiple : am_T := tQ (tS [(.iconst 0, 0, 0, 0), (.istore_n 3, 0, 0, 0)]) (tQ (tK 39 (tW 2 wX6_addMultiple_2)) (tB [] (.return_) []))
def qX6_addMultiple : am_M := (RX6, yX6_addMultiple, cX6_addMultiple, 4, none, tX6_addMultiple)
-- WeylWords$Operator.scale(I)V
def wX6_scale_2 : am_T := tQ (tB [(.iload_n 2, 0, 0, 0), (.bipush 91, 0, 0, 0)] (.if_icmp .ge 27) [32]) (tB [(.aload_n 0, 0, 0, 0), (.getfield 9, 6, 0, 0), (.iload_n 2, 0, 0, 0), (.aload_n 0, 0, 0, 0), (.getfield 9, 6, 0, 0), (.iload_n 2, 0, 0, 0), (.iaload, 0, 0, 0), (.iload_n 1, 0, 0, 0), (.imul, 0, 0, 0), (.sipush 10007, 0, 0, 0), (.irem, 0, 0, 0), (.iastore, 0, 0, 0), (.iinc 2 1, 0, 0, 0)] (.goto (-27)) [2])
def tX6_scale : am_T := tQ (tS [(.iconst 0, 0, 0, 0), (.istore_n 2, 0, 0, 0)]) (tQ (tK 32 (tW 2 wX6_scale_2)) (tB [] (.return_) []))
def qX6_scale : am_M := (RX6, yX6_scale, cX6_scale, 3, none, tX6_scale)
-- WeylWords$Operator.countTerms()I
def wX6_countTerms_13 : am_T := tQ (tB [(.iload 4, 0, 0, 0), (.iload_n 3, 0, 0, 0)] (.if_icmp .ge 23) [39]) (tQ (tS [(.aload_n 2, 0, 0, 0), (.iload 4, 0, 0, 0), (.iaload, 0, 0, 0), (.istore 5, 0, 0, 0), (.iload 5, 0, 0, 0)]) (tQ (tK 33 (tQ (tB [] (.ifCond .eq 6) [33]) (tS [(.iinc 1 1, 0, 0, 0)]))) (tB [(.iinc 4 1, 0, 0, 0)] (.goto (-23)) [13])))
def tX6_countTerms : am_T := tQ (tS [(.iconst 0, 0, 0, 0), (.istore_n 1, 0, 0, 0), (.aload_n 0, 0, 0, 0), (.getfield 9, 6, 0, 0), (.astore_n 2, 0, 0, 0), (.aload_n 2, 0, 0, 0), (.arraylength, 0, 0, 0), (.istore_n 3, 0, 0, 0), (.iconst 0, 0, 0, 0), (.istore 4, 0, 0, 0)]) (tQ (tK 39 (tW 13 wX6_countTerms_13)) (tB [(.iload_n 1, 0, 0, 0)] (.ireturn) [0]))
def qX6_countTerms : am_M := (RX6, yX6_countTerms, cX6_countTerms, 6, (some .int), tX6_countTerms)
-- WeylWords$Operator.extent()I
def wX6_extent_3 : am_T := tQ (tB [(.iload_n 1, 0, 0, 0)] (.ifCond .lt 22) [26]) (tQ (tS [(.aload_n 0, 0, 0, 0), (.getfield 9, 6, 0, 0), (.iload_n 1, 0, 0, 0), (.iaload, 0, 0, 0)]) (tQ (tK 20 (tQ (tB [] (.ifCond .eq 7) [20]) (tB [(.iload_n 1, 0, 0, 0), (.iconst 1, 0, 0, 0), (.iadd, 0, 0, 0)] (.ireturn) [0]))) (tB [(.iinc 1 (-1), 0, 0, 0)] (.goto (-20)) [3])))
def tX6_extent : am_T := tQ (tS [(.bipush 90, 0, 0, 0), (.istore_n 1, 0, 0, 0)]) (tQ (tK 26 (tW 3 wX6_extent_3)) (tB [(.iconst 0, 0, 0, 0)] (.ireturn) [0]))
def qX6_extent : am_M := (RX6, yX6_extent, cX6_extent, 2, (some .int), tX6_extent)
-- WeylWords$Operator.isZero()Z
def tX6_isZero : am_T := tQ (tS [(.aload_n 0, 0, 0, 0), (.invokevirtual 51, 59, 1, 6)]) (tQ (tK 12 (tQ (tK 11 (tQ (tB [] (.ifCond .ne 7) [11]) (tB [(.iconst 1, 0, 0, 0)] (.goto 4) [12]))) (tS [(.iconst 0, 0, 0, 0)]))) (tB [] (.ireturn) [1]))
def qX6_isZero : am_M := (RX6, yX6_isZero, cX6_isZero, 1, (some .boolean), tX6_isZero)
-- WeylWords$Operator.degree()I
def tX6_degree : am_T := tQ (tS [(.aload_n 0, 0, 0, 0), (.invokevirtual 51, 59, 1, 6), (.istore_n 1, 0, 0, 0), (.iload_n 1, 0, 0, 0)]) (tQ (tK 19 (tQ (tK 13 (tQ (tB [] (.ifCond .ne 7) [13]) (tB [(.iconst (-1), 0, 0, 0)] (.goto 9) [19]))) (tS [(.iload_n 1, 0, 0, 0), (.iconst 1, 0, 0, 0), (.isub, 0, 0, 0), (.invokestatic 25, 48, 1, 0)]))) (tB [] (.ireturn) [0]))
def qX6_degree : am_M := (RX6, yX6_degree, cX6_degree, 2, (some .int), tX6_degree)
-- WeylWords$Operator.leadPlace(I)I
def wX6_leadPlace_7 : am_T := tQ (tB [(.iload_n 3, 0, 0, 0), (.iload_n 2, 0, 0, 0)] (.if_icmp .gt 30) [39]) (tQ (tS [(.iload_n 1, 0, 0, 0), (.iload_n 2, 0, 0, 0), (.iload_n 3, 0, 0, 0), (.invokestatic 58, 49, 3, 0), (.istore 4, 0, 0, 0), (.aload_n 0, 0, 0, 0), (.getfield 9, 6, 0, 0), (.iload 4, 0, 0, 0), (.iaload, 0, 0, 0)]) (tQ (tK 33 (tQ (tB [] (.ifCond .eq 6) [33]) (tB [(.iload 4, 0, 0, 0)] (.ireturn) [0]))) (tB [(.iinc 3 1, 0, 0, 0)] (.goto (-29)) [7])))
def tX6_leadPlace : am_T := tQ (tS [(.aload_n 0, 0, 0, 0), (.invokevirtual 55, 61, 1, 6), (.istore_n 2, 0, 0, 0), (.iconst 0, 0, 0, 0), (.istore_n 3, 0, 0, 0)]) (tQ (tK 39 (tW 7 wX6_leadPlace_7)) (tB [(.iconst (-1), 0, 0, 0)] (.ireturn) [0]))
def qX6_leadPlace : am_M := (RX6, yX6_leadPlace, cX6_leadPlace, 5, (some .int), tX6_leadPlace)
-- WeylWords$Operator.property(II)I
def tX6_property : am_T := tQ (tS [(.iload_n 1, 0, 0, 0)]) (tQ (tK 9 (tQ (tB [] (.ifCond .ne 8) [9]) (tB [(.aload_n 0, 0, 0, 0), (.invokevirtual 62, 58, 1, 6)] (.ireturn) [0]))) (tQ (tS [(.aload_n 0, 0, 0, 0), (.iload_n 2, 0, 0, 0), (.invokevirtual 65, 62, 2, 6), (.istore_n 3, 0, 0, 0), (.iload_n 3, 0, 0, 0)]) (tQ (tK 33 (tQ (tB [] (.ifCond .ge 17) [33]) (tQ (tS [(.iload_n 1, 0, 0, 0), (.bipush 8, 0, 0, 0)]) (tQ (tK 32 (tQ (tK 29 (tQ (tB [] (.if_icmp .ne 7) [29]) (tB [(.iconst 0, 0, 0, 0)] (.goto 6) [32]))) (tS [(.sipush (-20001), 0, 0, 0)]))) (tB [] (.ireturn) [0]))))) (tQ (tS [(.iload_n 1, 0, 0, 0)]) (tQ (tK 107 (tQ (tK 97 (tQ (tK 91 (tQ (tK 85 (tQ (tK 80 (tB [] (.tableswitch 73 1 8 #[46, 73, 73, 73, 73, 51, 57, 63]) [107, 80, 107, 107, 107, 107, 85, 91, 97])) (tB [(.iload_n 3, 0, 0, 0), (.invokestatic 25, 48, 1, 0)] (.ireturn) [0]))) (tB [(.getstatic 19, 1, 0, 0), (.iload_n 3, 0, 0, 0), (.iaload, 0, 0, 0)] (.ireturn) [0]))) (tB [(.getstatic 22, 2, 0, 0), (.iload_n 3, 0, 0, 0), (.iaload, 0, 0, 0)] (.ireturn) [0]))) (tB [(.aload_n 0, 0, 0, 0), (.getfield 9, 6, 0, 0), (.iload_n 3, 0, 0, 0), (.iaload, 0, 0, 0), (.invokestatic 68, 10, 1, 0)] (.ireturn) [0]))) (tQ (tS [(.iload_n 1, 0, 0, 0), (.iconst 5, 0, 0, 0)]) (tQ (tK 126 (tQ (tK 121 (tQ (tB [] (.if_icmp .ne 12) [121]) (tB [(.aload_n 0, 0, 0, 0), (.iconst 5, 0, 0, 0), (.invokevirtual 73, 64, 2, 6), (.ineg, 0, 0, 0)] (.goto 8) [126]))) (tS [(.aload_n 0, 0, 0, 0), (.iload_n 1, 0, 0, 0), (.invokevirtual 73, 64, 2, 6)]))) (tB [] (.ireturn) [0]))))))))
def qX6_property : am_M := (RX6, yX6_property, cX6_property, 4, (some .int), tX6_property)
-- WeylWords$Operator.greatest(I)I
def wX6_greatest_14 : am_T := tQ (tB [(.iload 4, 0, 0, 0), (.iload_n 3, 0, 0, 0)] (.if_icmp .gt 39) [56]) (tQ (tS [(.aload_n 0, 0, 0, 0), (.getfield 9, 6, 0, 0), (.iload_n 3, 0, 0, 0), (.invokestatic 15, 46, 1, 0), (.iload 4, 0, 0, 0), (.iadd, 0, 0, 0), (.iaload, 0, 0, 0)]) (tQ (tK 50 (tQ (tB [] (.ifCond .eq 18) [50]) (tS [(.iload_n 2, 0, 0, 0), (.iload_n 1, 0, 0, 0), (.iload_n 3, 0, 0, 0), (.iload 4, 0, 0, 0), (.isub, 0, 0, 0), (.iload 4, 0, 0, 0), (.invokestatic 76, 65, 3, 0), (.invokestatic 79, 232, 2, 0), (.istore_n 2, 0, 0, 0)]))) (tB [(.iinc 4 1, 0, 0, 0)] (.goto (-39)) [14])))
def wX6_greatest_5 : am_T := tQ (tB [(.iload_n 3, 0, 0, 0), (.bipush 12, 0, 0, 0)] (.if_icmp .gt 54) [62]) (tQ (tS [(.iconst 0, 0, 0, 0), (.istore 4, 0, 0, 0)]) (tQ (tK 56 (tW 14 wX6_greatest_14)) (tB [(.iinc 3 1, 0, 0, 0)] (.goto (-54)) [5])))
def tX6_greatest : am_T := tQ (tS [(.bipush (-12), 0, 0, 0), (.istore_n 2, 0, 0, 0), (.iconst 0, 0, 0, 0), (.istore_n 3, 0, 0, 0)]) (tQ (tK 62 (tW 5 wX6_greatest_5)) (tB [(.iload_n 2, 0, 0, 0)] (.ireturn) [0]))
def qX6_greatest : am_M := (RX6, yX6_greatest, cX6_greatest, 5, (some .int), tX6_greatest)
-- WeylWords$Operator.measure(III)I
def tX6_measure : am_T := tQ (tS [(.iload_n 0, 0, 0, 0)]) (tQ (tK 36 (tQ (tK 32 (tQ (tK 30 (tQ (tK 28 (tB [] (.tableswitch 35 2 4 #[27, 29, 31]) [36, 28, 30, 32])) (tB [(.iload_n 1, 0, 0, 0)] (.ireturn) [0]))) (tB [(.iload_n 2, 0, 0, 0)] (.ireturn) [0]))) (tB [(.iload_n 2, 0, 0, 0), (.iload_n 1, 0, 0, 0), (.isub, 0, 0, 0)] (.ireturn) [0]))) (tB [(.iload_n 1, 0, 0, 0), (.iload_n 2, 0, 0, 0), (.isub, 0, 0, 0)] (.ireturn) [0]))
def qX6_measure : am_M := (RX6, yX6_measure, cX6_measure, 3, (some .int), tX6_measure)
-- WeylWords$Reader.<init>(LWeylWords$Algebra;LWeylWords$Text;)V
def wX7_init_61 : am_T := tQ (tB [(.iload_n 3, 0, 0, 0), (.bipush 8, 0, 0, 0)] (.if_icmp .gt 35) [99]) (tB [(.aload_n 0, 0, 0, 0), (.getfield 11, 7, 2, 0), (.iload_n 3, 0, 0, 0), (.new 9, 6, 0, 0), (.dup, 0, 0, 0), (.invokespecial 20, 44, 1, 6), (.aastore, 0, 0, 0), (.aload_n 0, 0, 0, 0), (.getfield 17, 7, 3, 0), (.iload_n 3, 0, 0, 0), (.new 9, 6, 0, 0), (.dup, 0, 0, 0), (.invokespecial 20, 44, 1, 6), (.aastore, 0, 0, 0), (.iinc 3 1, 0, 0, 0)] (.goto (-35)) [61])
def tX7_init : am_T := tQ (tS [(.aload_n 0, 0, 0, 0), (.invokespecial 3, 998, 1, 0), (.aload_n 0, 0, 0, 0), (.bipush 9, 0, 0, 0), (.anewarray 9, 23, 0, 0), (.putfield 11, 7, 2, 3), (.aload_n 0, 0, 0, 0), (.bipush 9, 0, 0, 0), (.anewarray 9, 23, 0, 0), (.putfield 17, 7, 3, 3), (.aload_n 0, 0, 0, 0), (.new 9, 6, 0, 0), (.dup, 0, 0, 0), (.invokespecial 20, 44, 1, 6), (.putfield 21, 7, 4, 3), (.aload_n 0, 0, 0, 0), (.new 9, 6, 0, 0), (.dup, 0, 0, 0), (.invokespecial 20, 44, 1, 6), (.putfield 25, 7, 5, 3), (.aload_n 0, 0, 0, 0), (.iconst 0, 0, 0, 0), (.putfield 28, 7, 6, 0), (.aload_n 0, 0, 0, 0), (.aload_n 1, 0, 0, 0), (.putfield 32, 7, 0, 3), (.aload_n 0, 0, 0, 0), (.aload_n 2, 0, 0, 0), (.putfield 36, 7, 1, 3), (.iconst 0, 0, 0, 0), (.istore_n 3, 0, 0, 0)]) (tQ (tK 99 (tW 61 wX7_init_61)) (tB [] (.return_) []))
def qX7_init : am_M := (RX7, yX7_init, cX7_init, 4, none, tX7_init)
-- WeylWords$Reader.evaluate(LWeylWords$Operator;)Z
def tX7_evaluate : am_T := tQ (tS [(.aload_n 0, 0, 0, 0), (.iconst 0, 0, 0, 0), (.putfield 28, 7, 6, 0), (.aload_n 0, 0, 0, 0), (.iconst 0, 0, 0, 0), (.invokevirtual 40, 68, 2, 7)]) (tQ (tK 15 (tQ (tB [] (.ifCond .ne 5) [15]) (tB [(.iconst 0, 0, 0, 0)] (.ireturn) [1]))) (tB [(.aload_n 1, 0, 0, 0), (.aload_n 0, 0, 0, 0), (.getfield 11, 7, 2, 0), (.iconst 0, 0, 0, 0), (.aaload, 0, 0, 0), (.invokevirtual 44, 55, 2, 6), (.iconst 1, 0, 0, 0)] (.ireturn) [1]))
def qX7_evaluate : am_M := (RX7, yX7_evaluate, cX7_evaluate, 2, (some .boolean), tX7_evaluate)
-- WeylWords$Reader.readExpression(I)Z
def wX7_readExpression_51 : am_T := tQ (tB [(.iload_n 3, 0, 0, 0), (.bipush 120, 0, 0, 0)] (.if_icmp .ge 82) [136]) (tQ (tS [(.aload_n 0, 0, 0, 0), (.iload_n 1, 0, 0, 0), (.invokevirtual 55, 69, 2, 7)]) (tQ (tK 67 (tQ (tB [] (.ifCond .ne 5) [67]) (tB [(.iconst 0, 0, 0, 0)] (.ireturn) [1]))) (tQ (tS [(.aload_n 0, 0, 0, 0), (.getfield 11, 7, 2, 0), (.iload_n 1, 0, 0, 0), (.aaload, 0, 0, 0), (.aload_n 0, 0, 0, 0), (.getfield 17, 7, 3, 0), (.iload_n 1, 0, 0, 0), (.aaload, 0, 0, 0), (.iload_n 2, 0, 0, 0), (.invokevirtual 58, 56, 3, 6), (.aload_n 0, 0, 0, 0), (.invokevirtual 51, 72, 1, 7), (.istore 4, 0, 0, 0), (.iload 4, 0, 0, 0), (.bipush 43, 0, 0, 0)]) (tQ (tK 105 (tQ (tB [] (.if_icmp .eq 12) [105]) (tQ (tB [(.iload 4, 0, 0, 0), (.bipush 45, 0, 0, 0)] (.if_icmp .eq 5) [105]) (tB [(.iconst 1, 0, 0, 0)] (.ireturn) [1])))) (tQ (tS [(.iload 4, 0, 0, 0), (.bipush 45, 0, 0, 0)]) (tQ (tK 119 (tQ (tK 118 (tQ (tB [] (.if_icmp .ne 9) [118]) (tB [(.sipush 10006, 0, 0, 0)] (.goto 4) [119]))) (tS [(.iconst 1, 0, 0, 0)]))) (tB [(.istore_n 2, 0, 0, 0), (.aload_n 0, 0, 0, 0), (.dup, 0, 0, 0), (.getfield 28, 7, 6, 0), (.iconst 1, 0, 0, 0), (.iadd, 0, 0, 0), (.putfield 28, 7, 6, 0), (.iinc 3 1, 0, 0, 0)] (.goto (-82)) [51])))))))
def tX7_readExpression : am_T := tQ (tS [(.iload_n 1, 0, 0, 0), (.bipush 8, 0, 0, 0)]) (tQ (tK 8 (tQ (tB [] (.if_icmp .le 5) [8]) (tB [(.iconst 0, 0, 0, 0)] (.ireturn) [1]))) (tQ (tS [(.aload_n 0, 0, 0, 0), (.getfield 11, 7, 2, 0), (.iload_n 1, 0, 0, 0), (.aaload, 0, 0, 0), (.invokevirtual 48, 53, 1, 6), (.aload_n 0, 0, 0, 0), (.invokevirtual 51, 72, 1, 7), (.bipush 45, 0, 0, 0)]) (tQ (tK 33 (tQ (tK 32 (tQ (tB [] (.if_icmp .ne 9) [32]) (tB [(.sipush 10006, 0, 0, 0)] (.goto 4) [33]))) (tS [(.iconst 1, 0, 0, 0)]))) (tQ (tS [(.istore_n 2, 0, 0, 0), (.iload_n 2, 0, 0, 0), (.iconst 1, 0, 0, 0)]) (tQ (tK 49 (tQ (tB [] (.if_icmp .eq 13) [49]) (tS [(.aload_n 0, 0, 0, 0), (.dup, 0, 0, 0), (.getfield 28, 7, 6, 0), (.iconst 1, 0, 0, 0), (.iadd, 0, 0, 0), (.putfield 28, 7, 6, 0)]))) (tQ (tS [(.iconst 0, 0, 0, 0), (.istore_n 3, 0, 0, 0)]) (tQ (tK 136 (tW 51 wX7_readExpression_51)) (tB [(.iconst 1, 0, 0, 0)] (.ireturn) [1]))))))))
def qX7_readExpression : am_M := (RX7, yX7_readExpression, cX7_readExpression, 5, (some .boolean), tX7_readExpression)
-- WeylWords$Reader.readTerm(I)Z
def wX7_readTerm_14 : am_T := tQ (tB [(.iload_n 3, 0, 0, 0), (.bipush 120, 0, 0, 0)] (.if_icmp .ge 83) [100]) (tQ (tS [(.aload_n 0, 0, 0, 0), (.iload_n 1, 0, 0, 0), (.invokevirtual 66, 70, 2, 7)]) (tQ (tK 41 (tQ (tK 39 (tQ (tB [] (.ifCond .eq 14) [39]) (tB [(.aload_n 2, 0, 0, 0), (.aload_n 0, 0, 0, 0), (.getfield 21, 7, 4, 0), (.invokestatic 69, 12, 2, 0)] (.ifCond .ne 5) [41]))) (tB [(.iconst 0, 0, 0, 0)] (.ireturn) [1]))) (tQ (tS [(.aload_n 0, 0, 0, 0), (.getfield 25, 7, 5, 0), (.invokevirtual 48, 53, 1, 6), (.aload_n 0, 0, 0, 0), (.getfield 32, 7, 0, 0), (.aload_n 0, 0, 0, 0), (.getfield 25, 7, 5, 0), (.iconst 1, 0, 0, 0), (.aload_n 2, 0, 0, 0), (.aload_n 0, 0, 0, 0), (.getfield 21, 7, 4, 0), (.invokevirtual 75, 14, 5, 1), (.aload_n 2, 0, 0, 0), (.aload_n 0, 0, 0, 0), (.getfield 25, 7, 5, 0), (.invokevirtual 44, 55, 2, 6), (.aload_n 0, 0, 0, 0), (.invokevirtual 51, 72, 1, 7), (.bipush 42, 0, 0, 0)]) (tQ (tK 84 (tQ (tB [] (.if_icmp .eq 5) [84]) (tB [(.iconst 1, 0, 0, 0)] (.ireturn) [1]))) (tB [(.aload_n 0, 0, 0, 0), (.dup, 0, 0, 0), (.getfield 28, 7, 6, 0), (.iconst 1, 0, 0, 0), (.iadd, 0, 0, 0), (.putfield 28, 7, 6, 0), (.iinc 3 1, 0, 0, 0)] (.goto (-83)) [14])))))
def tX7_readTerm : am_T := tQ (tS [(.aload_n 0, 0, 0, 0), (.getfield 17, 7, 3, 0), (.iload_n 1, 0, 0, 0), (.aaload, 0, 0, 0), (.astore_n 2, 0, 0, 0), (.aload_n 2, 0, 0, 0), (.iconst 1, 0, 0, 0), (.invokevirtual 62, 54, 2, 6), (.iconst 0, 0, 0, 0), (.istore_n 3, 0, 0, 0)]) (tQ (tK 100 (tW 14 wX7_readTerm_14)) (tB [(.iconst 1, 0, 0, 0)] (.ireturn) [1]))
def qX7_readTerm : am_M := (RX7, yX7_readTerm, cX7_readTerm, 4, (some .boolean), tX7_readTerm)
-- WeylWords$Reader.readFactor(I)Z
def tX7_readFactor : am_T := tQ (tS [(.aload_n 0, 0, 0, 0), (.invokevirtual 51, 72, 1, 7), (.istore_n 2, 0, 0, 0), (.iload_n 2, 0, 0, 0), (.bipush 40, 0, 0, 0)]) (tQ (tK 140 (tQ (tK 66 (tQ (tB [] (.if_icmp .ne 58) [66]) (tQ (tS [(.aload_n 0, 0, 0, 0), (.dup, 0, 0, 0), (.getfield 28, 7, 6, 0), (.iconst 1, 0, 0, 0), (.iadd, 0, 0, 0), (.putfield 28, 7, 6, 0), (.aload_n 0, 0, 0, 0), (.iload_n 1, 0, 0, 0), (.iconst 1, 0, 0, 0), (.iadd, 0, 0, 0), (.invokevirtual 40, 68, 2, 7)]) (tQ (tK 33 (tQ (tB [] (.ifCond .ne 5) [33]) (tB [(.iconst 0, 0, 0, 0)] (.ireturn) [1]))) (tB [(.aload_n 0, 0, 0, 0), (.invokevirtual 51, 72, 1, 7), (.pop, 0, 0, 0), (.aload_n 0, 0, 0, 0), (.dup, 0, 0, 0), (.getfield 28, 7, 6, 0), (.iconst 1, 0, 0, 0), (.iadd, 0, 0, 0), (.putfield 28, 7, 6, 0), (.aload_n 0, 0, 0, 0), (.getfield 21, 7, 4, 0), (.aload_n 0, 0, 0, 0), (.getfield 11, 7, 2, 0), (.iload_n 1, 0, 0, 0), (.iconst 1, 0, 0, 0), (.iadd, 0, 0, 0), (.aaload, 0, 0, 0), (.invokevirtual 44, 55, 2, 6)] (.goto 77) [140]))))) (tQ (tS [(.iload_n 2, 0, 0, 0), (.bipush 120, 0, 0, 0)]) (tQ (tK 128 (tQ (tK 78 (tQ (tB [] (.if_icmp .eq 9) [78]) (tB [(.iload_n 2, 0, 0, 0), (.bipush 100, 0, 0, 0)] (.if_icmp .ne 53) [128]))) (tQ (tS [(.aload_n 0, 0, 0, 0), (.dup, 0, 0, 0), (.getfield 28, 7, 6, 0), (.iconst 1, 0, 0, 0), (.iadd, 0, 0, 0), (.putfield 28, 7, 6, 0), (.aload_n 0, 0, 0, 0), (.getfield 21, 7, 4, 0), (.invokevirtual 48, 53, 1, 6), (.aload_n 0, 0, 0, 0), (.getfield 21, 7, 4, 0), (.iload_n 2, 0, 0, 0), (.bipush 120, 0, 0, 0)]) (tQ (tK 110 (tQ (tK 109 (tQ (tB [] (.if_icmp .ne 7) [109]) (tB [(.iconst 1, 0, 0, 0)] (.goto 4) [110]))) (tS [(.iconst 0, 0, 0, 0)]))) (tQ (tS [(.iload_n 2, 0, 0, 0), (.bipush 100, 0, 0, 0)]) (tQ (tK 121 (tQ (tK 120 (tQ (tB [] (.if_icmp .ne 7) [120]) (tB [(.iconst 1, 0, 0, 0)] (.goto 4) [121]))) (tS [(.iconst 0, 0, 0, 0)]))) (tB [(.iconst 1, 0, 0, 0), (.invokevirtual 79, 52, 4, 6)] (.goto 15) [140]))))))) (tS [(.aload_n 0, 0, 0, 0), (.getfield 21, 7, 4, 0), (.aload_n 0, 0, 0, 0), (.iconst 4, 0, 0, 0), (.invokevirtual 83, 71, 2, 7), (.invokevirtual 62, 54, 2, 6)]))))) (tQ (tS [(.aload_n 0, 0, 0, 0), (.invokevirtual 51, 72, 1, 7), (.bipush 94, 0, 0, 0)]) (tQ (tK 151 (tQ (tB [] (.if_icmp .eq 5) [151]) (tB [(.iconst 1, 0, 0, 0)] (.ireturn) [1]))) (tQ (tS [(.aload_n 0, 0, 0, 0), (.dup, 0, 0, 0), (.getfield 28, 7, 6, 0), (.iconst 1, 0, 0, 0), (.iadd, 0, 0, 0), (.putfield 28, 7, 6, 0), (.aload_n 0, 0, 0, 0), (.invokevirtual 51, 72, 1, 7), (.pop, 0, 0, 0), (.aload_n 0, 0, 0, 0), (.iconst 2, 0, 0, 0), (.invokevirtual 83, 71, 2, 7), (.istore_n 3, 0, 0, 0), (.aload_n 0, 0, 0, 0), (.getfield 21, 7, 4, 0), (.iload_n 3, 0, 0, 0), (.invokestatic 87, 13, 2, 0)]) (tQ (tK 185 (tQ (tB [] (.ifCond .ne 5) [185]) (tB [(.iconst 0, 0, 0, 0)] (.ireturn) [1]))) (tB [(.aload_n 0, 0, 0, 0), (.getfield 32, 7, 0, 0), (.aload_n 0, 0, 0, 0), (.getfield 25, 7, 5, 0), (.aload_n 0, 0, 0, 0), (.getfield 21, 7, 4, 0), (.iload_n 3, 0, 0, 0), (.invokevirtual 91, 16, 4, 1), (.aload_n 0, 0, 0, 0), (.getfield 21, 7, 4, 0), (.aload_n 0, 0, 0, 0), (.getfield 25, 7, 5, 0), (.invokevirtual 44, 55, 2, 6), (.iconst 1, 0, 0, 0)] (.ireturn) [1]))))))
def qX7_readFactor : am_M := (RX7, yX7_readFactor, cX7_readFactor, 4, (some .boolean), tX7_readFactor)
-- WeylWords$Reader.readNumber(I)I
def tX7_readNumber : am_T := tB [(.aload_n 0, 0, 0, 0), (.getfield 36, 7, 1, 0), (.aload_n 0, 0, 0, 0), (.getfield 28, 7, 6, 0), (.iload_n 1, 0, 0, 0), (.invokevirtual 95, 84, 3, 9), (.istore_n 2, 0, 0, 0), (.aload_n 0, 0, 0, 0), (.getfield 36, 7, 1, 0), (.aload_n 0, 0, 0, 0), (.getfield 28, 7, 6, 0), (.iload_n 2, 0, 0, 0), (.invokevirtual 101, 85, 3, 9), (.istore_n 3, 0, 0, 0), (.aload_n 0, 0, 0, 0), (.dup, 0, 0, 0), (.getfield 28, 7, 6, 0), (.iload_n 2, 0, 0, 0), (.iadd, 0, 0, 0), (.putfield 28, 7, 6, 0), (.iload_n 3, 0, 0, 0)] (.ireturn) [0]
def qX7_readNumber : am_M := (RX7, yX7_readNumber, cX7_readNumber, 4, (some .int), tX7_readNumber)
-- WeylWords$Reader.peek()I
def wX7_peek_0 : am_T := tQ (tB [(.aload_n 0, 0, 0, 0), (.getfield 28, 7, 6, 0), (.aload_n 0, 0, 0, 0), (.getfield 36, 7, 1, 0), (.getfield 104, 9, 1, 0)] (.if_icmp .ge 32) [43]) (tQ (tB [(.aload_n 0, 0, 0, 0), (.getfield 36, 7, 1, 0), (.aload_n 0, 0, 0, 0), (.getfield 28, 7, 6, 0), (.invokevirtual 107, 77, 2, 9), (.bipush 32, 0, 0, 0)] (.if_icmp .ne 16) [43]) (tB [(.aload_n 0, 0, 0, 0), (.dup, 0, 0, 0), (.getfield 28, 7, 6, 0), (.iconst 1, 0, 0, 0), (.iadd, 0, 0, 0), (.putfield 28, 7, 6, 0)] (.goto (-40)) [0]))
def tX7_peek : am_T := tQ (tK 43 (tW 0 wX7_peek_0)) (tB [(.aload_n 0, 0, 0, 0), (.getfield 36, 7, 1, 0), (.aload_n 0, 0, 0, 0), (.getfield 28, 7, 6, 0), (.invokevirtual 107, 77, 2, 9)] (.ireturn) [0])
def qX7_peek : am_M := (RX7, yX7_peek, cX7_peek, 1, (some .int), tX7_peek)
-- WeylWords$State.<init>()V
def wX8_init_31 : am_T := tQ (tB [(.iload_n 1, 0, 0, 0), (.bipush 6, 0, 0, 0)] (.if_icmp .ge 22) [56]) (tB [(.aload_n 0, 0, 0, 0), (.getfield 11, 8, 0, 0), (.iload_n 1, 0, 0, 0), (.new 9, 6, 0, 0), (.dup, 0, 0, 0), (.invokespecial 26, 44, 1, 6), (.aastore, 0, 0, 0), (.iinc 1 1, 0, 0, 0)] (.goto (-22)) [31])
def tX8_init : am_T := tQ (tS [(.aload_n 0, 0, 0, 0), (.invokespecial 3, 998, 1, 0), (.aload_n 0, 0, 0, 0), (.bipush 6, 0, 0, 0), (.anewarray 9, 23, 0, 0), (.putfield 11, 8, 0, 3), (.aload_n 0, 0, 0, 0), (.iconst 2, 0, 0, 0), (.bipush 31, 0, 0, 0), (.multianewarray 17 2, 0, 0, 0), (.putfield 19, 8, 1, 3), (.aload_n 0, 0, 0, 0), (.iconst 0, 0, 0, 0), (.putfield 22, 8, 2, 0), (.iconst 0, 0, 0, 0), (.istore_n 1, 0, 0, 0)]) (tQ (tK 56 (tW 31 wX8_init_31)) (tB [] (.return_) []))
def qX8_init : am_M := (RX8, yX8_init, cX8_init, 2, none, tX8_init)
-- WeylWords$State.copyFrom(LWeylWords$State;)V
def wX8_copyFrom_2 : am_T := tQ (tB [(.iload_n 2, 0, 0, 0), (.bipush 6, 0, 0, 0)] (.if_icmp .ge 24) [29]) (tB [(.aload_n 0, 0, 0, 0), (.getfield 11, 8, 0, 0), (.iload_n 2, 0, 0, 0), (.aaload, 0, 0, 0), (.aload_n 1, 0, 0, 0), (.getfield 11, 8, 0, 0), (.iload_n 2, 0, 0, 0), (.aaload, 0, 0, 0), (.invokevirtual 27, 55, 2, 6), (.iinc 2 1, 0, 0, 0)] (.goto (-24)) [2])
def wX8_copyFrom_31 : am_T := tQ (tB [(.iload_n 2, 0, 0, 0), (.iconst 2, 0, 0, 0)] (.if_icmp .ge 28) [61]) (tB [(.aload_n 1, 0, 0, 0), (.getfield 19, 8, 1, 0), (.iload_n 2, 0, 0, 0), (.aaload, 0, 0, 0), (.iconst 0, 0, 0, 0), (.aload_n 0, 0, 0, 0), (.getfield 19, 8, 1, 0), (.iload_n 2, 0, 0, 0), (.aaload, 0, 0, 0), (.iconst 0, 0, 0, 0), (.bipush 31, 0, 0, 0), (.invokestatic 31, 999, 5, 0), (.iinc 2 1, 0, 0, 0)] (.goto (-27)) [31])
def tX8_copyFrom : am_T := tQ (tS [(.iconst 0, 0, 0, 0), (.istore_n 2, 0, 0, 0)]) (tQ (tK 29 (tW 2 wX8_copyFrom_2)) (tQ (tS [(.iconst 0, 0, 0, 0), (.istore_n 2, 0, 0, 0)]) (tQ (tK 61 (tW 31 wX8_copyFrom_31)) (tB [(.aload_n 0, 0, 0, 0), (.aload_n 1, 0, 0, 0), (.getfield 22, 8, 2, 0), (.putfield 22, 8, 2, 0)] (.return_) []))))
def qX8_copyFrom : am_M := (RX8, yX8_copyFrom, cX8_copyFrom, 3, none, tX8_copyFrom)
-- WeylWords$Text.<init>()V
def tX9_init : am_T := tB [(.aload_n 0, 0, 0, 0), (.invokespecial 3, 998, 1, 0), (.aload_n 0, 0, 0, 0), (.bipush 120, 0, 0, 0), (.newarray .int, 20, 0, 0), (.putfield 9, 9, 0, 3), (.aload_n 0, 0, 0, 0), (.iconst 0, 0, 0, 0), (.putfield 15, 9, 1, 0), (.aload_n 0, 0, 0, 0), (.iconst 0, 0, 0, 0), (.putfield 19, 9, 2, 0), (.aload_n 0, 0, 0, 0), (.iconst 0, 0, 0, 0), (.putfield 22, 9, 3, 0)] (.return_) []
def qX9_init : am_M := (RX9, yX9_init, cX9_init, 1, none, tX9_init)
-- WeylWords$Text.append(I)V
def tX9_append : am_T := tQ (tS [(.aload_n 0, 0, 0, 0), (.getfield 15, 9, 1, 0), (.bipush 120, 0, 0, 0)]) (tQ (tK 29 (tQ (tB [] (.if_icmp .ge 23) [29]) (tS [(.aload_n 0, 0, 0, 0), (.getfield 9, 9, 0, 0), (.aload_n 0, 0, 0, 0), (.getfield 15, 9, 1, 0), (.iload_n 1, 0, 0, 0), (.iastore, 0, 0, 0), (.aload_n 0, 0, 0, 0), (.dup, 0, 0, 0), (.getfield 15, 9, 1, 0), (.iconst 1, 0, 0, 0), (.iadd, 0, 0, 0), (.putfield 15, 9, 1, 0)]))) (tB [] (.return_) []))
def qX9_append : am_M := (RX9, yX9_append, cX9_append, 2, none, tX9_append)
-- WeylWords$Text.byteAt(I)I
def tX9_byteAt : am_T := tQ (tS [(.iload_n 1, 0, 0, 0)]) (tQ (tK 28 (tQ (tK 27 (tQ (tB [] (.ifCond .lt 26) [27]) (tQ (tB [(.iload_n 1, 0, 0, 0), (.aload_n 0, 0, 0, 0), (.getfield 15, 9, 1, 0)] (.if_icmp .ge 18) [27]) (tQ (tB [(.iload_n 1, 0, 0, 0), (.bipush 120, 0, 0, 0)] (.if_icmp .ge 12) [27]) (tB [(.aload_n 0, 0, 0, 0), (.getfield 9, 9, 0, 0), (.iload_n 1, 0, 0, 0), (.iaload, 0, 0, 0)] (.goto 4) [28]))))) (tS [(.iconst (-1), 0, 0, 0)]))) (tB [] (.ireturn) [0]))
def qX9_byteAt : am_M := (RX9, yX9_byteAt, cX9_byteAt, 2, (some .int), tX9_byteAt)
-- WeylWords$Text.isDigit(I)Z
def tX9_isDigit : am_T := tQ (tS [(.aload_n 0, 0, 0, 0), (.iload_n 1, 0, 0, 0), (.invokevirtual 25, 77, 2, 9), (.istore_n 2, 0, 0, 0), (.iload_n 2, 0, 0, 0), (.bipush 48, 0, 0, 0)]) (tQ (tK 23 (tQ (tK 22 (tQ (tB [] (.if_icmp .lt 13) [22]) (tQ (tB [(.iload_n 2, 0, 0, 0), (.bipush 57, 0, 0, 0)] (.if_icmp .gt 7) [22]) (tB [(.iconst 1, 0, 0, 0)] (.goto 4) [23])))) (tS [(.iconst 0, 0, 0, 0)]))) (tB [] (.ireturn) [1]))
def qX9_isDigit : am_M := (RX9, yX9_isDigit, cX9_isDigit, 3, (some .boolean), tX9_isDigit)
-- WeylWords$Text.fault()I
def wX9_fault_14 : am_T := tQ (tB [(.iload_n 2, 0, 0, 0), (.bipush 120, 0, 0, 0)] (.if_icmp .ge 49) [66]) (tQ (tB [(.iload_n 1, 0, 0, 0), (.aload_n 0, 0, 0, 0), (.getfield 15, 9, 1, 0)] (.if_icmp .ge 41) [66]) (tQ (tS [(.aload_n 0, 0, 0, 0), (.iload_n 1, 0, 0, 0), (.invokevirtual 25, 77, 2, 9), (.bipush 32, 0, 0, 0)]) (tQ (tK 49 (tQ (tK 44 (tQ (tB [] (.if_icmp .ne 9) [44]) (tB [(.iload_n 1, 0, 0, 0), (.iconst 1, 0, 0, 0), (.iadd, 0, 0, 0)] (.goto 8) [49]))) (tS [(.aload_n 0, 0, 0, 0), (.iload_n 1, 0, 0, 0), (.invokevirtual 29, 80, 2, 9)]))) (tQ (tS [(.istore_n 3, 0, 0, 0), (.iload_n 3, 0, 0, 0)]) (tQ (tK 58 (tQ (tB [] (.ifCond .ge 7) [58]) (tB [(.iconst (-1), 0, 0, 0), (.iload_n 3, 0, 0, 0), (.isub, 0, 0, 0)] (.ireturn) [0]))) (tB [(.iload_n 3, 0, 0, 0), (.istore_n 1, 0, 0, 0), (.iinc 2 1, 0, 0, 0)] (.goto (-49)) [14]))))))
def tX9_fault : am_T := tQ (tS [(.aload_n 0, 0, 0, 0), (.iconst 0, 0, 0, 0), (.putfield 19, 9, 2, 0), (.aload_n 0, 0, 0, 0), (.iconst 0, 0, 0, 0), (.putfield 22, 9, 3, 0), (.iconst 0, 0, 0, 0), (.istore_n 1, 0, 0, 0), (.iconst 0, 0, 0, 0), (.istore_n 2, 0, 0, 0)]) (tQ (tK 66 (tW 14 wX9_fault_14)) (tQ (tS [(.aload_n 0, 0, 0, 0), (.getfield 19, 9, 2, 0), (.iconst 2, 0, 0, 0)]) (tQ (tK 94 (tQ (tK 93 (tQ (tK 82 (tQ (tB [] (.if_icmp .eq 11) [82]) (tB [(.aload_n 0, 0, 0, 0), (.getfield 19, 9, 2, 0), (.iconst 4, 0, 0, 0)] (.if_icmp .ne 14) [93]))) (tQ (tB [(.aload_n 0, 0, 0, 0), (.getfield 22, 9, 3, 0)] (.ifCond .ne 7) [93]) (tB [(.iconst 1, 0, 0, 0)] (.goto 4) [94])))) (tS [(.iconst 0, 0, 0, 0)]))) (tQ (tS [(.istore_n 2, 0, 0, 0), (.iload_n 2, 0, 0, 0)]) (tQ (tK 107 (tQ (tK 103 (tQ (tB [] (.ifCond .eq 7) [103]) (tB [(.iconst (-1), 0, 0, 0)] (.goto 7) [107]))) (tS [(.aload_n 0, 0, 0, 0), (.getfield 15, 9, 1, 0)]))) (tB [] (.ireturn) [0]))))))
def qX9_fault : am_M := (RX9, yX9_fault, cX9_fault, 4, (some .int), tX9_fault)
-- WeylWords$Text.pass(I)I
def tX9_pass : am_T := tQ (tS [(.aload_n 0, 0, 0, 0), (.getfield 19, 9, 2, 0)]) (tQ (tK 73 (tQ (tK 67 (tQ (tK 61 (tQ (tK 36 (tB [] (.tableswitch 69 0 3 #[32, 57, 69, 63]) [73, 36, 61, 73, 67])) (tQ (tS [(.aload_n 0, 0, 0, 0), (.iload_n 1, 0, 0, 0), (.invokevirtual 25, 77, 2, 9), (.bipush 45, 0, 0, 0)]) (tQ (tK 55 (tQ (tB [] (.if_icmp .ne 12) [55]) (tB [(.aload_n 0, 0, 0, 0), (.iconst 1, 0, 0, 0), (.putfield 19, 9, 2, 0), (.iload_n 1, 0, 0, 0), (.iconst 1, 0, 0, 0), (.iadd, 0, 0, 0)] (.ireturn) [0]))) (tB [(.aload_n 0, 0, 0, 0), (.iload_n 1, 0, 0, 0), (.invokevirtual 32, 81, 2, 9)] (.ireturn) [0]))))) (tB [(.aload_n 0, 0, 0, 0), (.iload_n 1, 0, 0, 0), (.invokevirtual 32, 81, 2, 9)] (.ireturn) [0]))) (tB [(.aload_n 0, 0, 0, 0), (.iload_n 1, 0, 0, 0), (.invokevirtual 35, 82, 2, 9)] (.ireturn) [0]))) (tB [(.aload_n 0, 0, 0, 0), (.iload_n 1, 0, 0, 0), (.invokevirtual 38, 83, 2, 9)] (.ireturn) [0]))
def qX9_pass : am_M := (RX9, yX9_pass, cX9_pass, 2, (some .int), tX9_pass)
-- WeylWords$Text.passOperand(I)I
def tX9_passOperand : am_T := tQ (tS [(.aload_n 0, 0, 0, 0), (.iload_n 1, 0, 0, 0), (.invokevirtual 25, 77, 2, 9), (.istore_n 2, 0, 0, 0), (.iload_n 2, 0, 0, 0), (.bipush 40, 0, 0, 0)]) (tQ (tK 44 (tQ (tB [] (.if_icmp .ne 35) [44]) (tQ (tS [(.aload_n 0, 0, 0, 0), (.getfield 22, 9, 3, 0), (.bipush 8, 0, 0, 0)]) (tQ (tK 25 (tQ (tB [] (.if_icmp .lt 7) [25]) (tB [(.iconst (-1), 0, 0, 0), (.iload_n 1, 0, 0, 0), (.isub, 0, 0, 0)] (.ireturn) [0]))) (tB [(.aload_n 0, 0, 0, 0), (.dup, 0, 0, 0), (.getfield 22, 9, 3, 0), (.iconst 1, 0, 0, 0), (.iadd, 0, 0, 0), (.putfield 22, 9, 3, 0), (.aload_n 0, 0, 0, 0), (.iconst 0, 0, 0, 0), (.putfield 19, 9, 2, 0), (.iload_n 1, 0, 0, 0), (.iconst 1, 0, 0, 0), (.iadd, 0, 0, 0)] (.ireturn) [0]))))) (tQ (tS [(.iload_n 2, 0, 0, 0), (.bipush 120, 0, 0, 0)]) (tQ (tK 65 (tQ (tK 56 (tQ (tB [] (.if_icmp .eq 9) [56]) (tB [(.iload_n 2, 0, 0, 0), (.bipush 100, 0, 0, 0)] (.if_icmp .ne 12) [65]))) (tB [(.aload_n 0, 0, 0, 0), (.iconst 2, 0, 0, 0), (.putfield 19, 9, 2, 0), (.iload_n 1, 0, 0, 0), (.iconst 1, 0, 0, 0), (.iadd, 0, 0, 0)] (.ireturn) [0]))) (tQ (tS [(.aload_n 0, 0, 0, 0), (.iload_n 1, 0, 0, 0), (.iconst 5, 0, 0, 0), (.invokevirtual 41, 84, 3, 9), (.istore_n 3, 0, 0, 0), (.iload_n 3, 0, 0, 0)]) (tQ (tK 80 (tQ (tB [] (.ifCond .ne 7) [80]) (tB [(.iconst (-1), 0, 0, 0), (.iload_n 1, 0, 0, 0), (.isub, 0, 0, 0)] (.ireturn) [0]))) (tQ (tS [(.iload_n 3, 0, 0, 0), (.iconst 5, 0, 0, 0)]) (tQ (tK 91 (tQ (tB [] (.if_icmp .ne 9) [91]) (tB [(.iconst (-1), 0, 0, 0), (.iload_n 1, 0, 0, 0), (.iconst 4, 0, 0, 0), (.iadd, 0, 0, 0), (.isub, 0, 0, 0)] (.ireturn) [0]))) (tB [(.aload_n 0, 0, 0, 0), (.iconst 2, 0, 0, 0), (.putfield 19, 9, 2, 0), (.iload_n 1, 0, 0, 0), (.iload_n 3, 0, 0, 0), (.iadd, 0, 0, 0)] (.ireturn) [0]))))))))
def qX9_passOperand : am_M := (RX9, yX9_passOperand, cX9_passOperand, 4, (some .int), tX9_passOperand)
-- WeylWords$Text.passExponent(I)I
def tX9_passExponent : am_T := tQ (tS [(.aload_n 0, 0, 0, 0), (.iload_n 1, 0, 0, 0), (.iconst 3, 0, 0, 0), (.invokevirtual 41, 84, 3, 9), (.istore_n 2, 0, 0, 0), (.iload_n 2, 0, 0, 0)]) (tQ (tK 15 (tQ (tB [] (.ifCond .ne 7) [15]) (tB [(.iconst (-1), 0, 0, 0), (.iload_n 1, 0, 0, 0), (.isub, 0, 0, 0)] (.ireturn) [0]))) (tQ (tS [(.iload_n 2, 0, 0, 0), (.iconst 3, 0, 0, 0)]) (tQ (tK 26 (tQ (tB [] (.if_icmp .ne 9) [26]) (tB [(.iconst (-1), 0, 0, 0), (.iload_n 1, 0, 0, 0), (.iconst 2, 0, 0, 0), (.iadd, 0, 0, 0), (.isub, 0, 0, 0)] (.ireturn) [0]))) (tQ (tS [(.aload_n 0, 0, 0, 0), (.iload_n 1, 0, 0, 0), (.iload_n 2, 0, 0, 0), (.invokevirtual 45, 85, 3, 9), (.bipush 12, 0, 0, 0)]) (tQ (tK 41 (tQ (tB [] (.if_icmp .le 7) [41]) (tB [(.iconst (-1), 0, 0, 0), (.iload_n 1, 0, 0, 0), (.isub, 0, 0, 0)] (.ireturn) [0]))) (tB [(.aload_n 0, 0, 0, 0), (.iconst 4, 0, 0, 0), (.putfield 19, 9, 2, 0), (.iload_n 1, 0, 0, 0), (.iload_n 2, 0, 0, 0), (.iadd, 0, 0, 0)] (.ireturn) [0]))))))
def qX9_passExponent : am_M := (RX9, yX9_passExponent, cX9_passExponent, 3, (some .int), tX9_passExponent)
-- WeylWords$Text.passLink(I)I
def tX9_passLink : am_T := tQ (tS [(.aload_n 0, 0, 0, 0), (.iload_n 1, 0, 0, 0), (.invokevirtual 25, 77, 2, 9), (.istore_n 2, 0, 0, 0), (.iload_n 2, 0, 0, 0), (.bipush 94, 0, 0, 0)]) (tQ (tK 89 (tQ (tK 28 (tQ (tB [] (.if_icmp .ne 19) [28]) (tQ (tB [(.aload_n 0, 0, 0, 0), (.getfield 19, 9, 2, 0), (.iconst 2, 0, 0, 0)] (.if_icmp .ne 11) [28]) (tB [(.aload_n 0, 0, 0, 0), (.iconst 3, 0, 0, 0), (.putfield 19, 9, 2, 0)] (.goto 64) [89])))) (tQ (tS [(.iload_n 2, 0, 0, 0), (.bipush 43, 0, 0, 0)]) (tQ (tK 54 (tQ (tK 46 (tQ (tB [] (.if_icmp .eq 15) [46]) (tQ (tB [(.iload_n 2, 0, 0, 0), (.bipush 45, 0, 0, 0)] (.if_icmp .eq 9) [46]) (tB [(.iload_n 2, 0, 0, 0), (.bipush 42, 0, 0, 0)] (.if_icmp .ne 11) [54])))) (tB [(.aload_n 0, 0, 0, 0), (.iconst 1, 0, 0, 0), (.putfield 19, 9, 2, 0)] (.goto 38) [89]))) (tQ (tS [(.iload_n 2, 0, 0, 0), (.bipush 41, 0, 0, 0)]) (tQ (tK 85 (tQ (tB [] (.if_icmp .ne 28) [85]) (tQ (tB [(.aload_n 0, 0, 0, 0), (.getfield 22, 9, 3, 0)] (.ifCond .le 21) [85]) (tB [(.aload_n 0, 0, 0, 0), (.dup, 0, 0, 0), (.getfield 22, 9, 3, 0), (.iconst 1, 0, 0, 0), (.isub, 0, 0, 0), (.putfield 22, 9, 3, 0), (.aload_n 0, 0, 0, 0), (.iconst 2, 0, 0, 0), (.putfield 19, 9, 2, 0)] (.goto 7) [89])))) (tB [(.iconst (-1), 0, 0, 0), (.iload_n 1, 0, 0, 0), (.isub, 0, 0, 0)] (.ireturn) [0]))))))) (tB [(.iload_n 1, 0, 0, 0), (.iconst 1, 0, 0, 0), (.iadd, 0, 0, 0)] (.ireturn) [0]))
def qX9_passLink : am_M := (RX9, yX9_passLink, cX9_passLink, 3, (some .int), tX9_passLink)
-- WeylWords$Text.countDigits(II)I
def wX9_countDigits_2 : am_T := tQ (tB [(.iload_n 3, 0, 0, 0), (.iload_n 2, 0, 0, 0)] (.if_icmp .ge 19) [23]) (tQ (tB [(.aload_n 0, 0, 0, 0), (.iload_n 1, 0, 0, 0), (.iload_n 3, 0, 0, 0), (.iadd, 0, 0, 0), (.invokevirtual 48, 78, 2, 9)] (.ifCond .eq 9) [23]) (tB [(.iinc 3 1, 0, 0, 0)] (.goto (-18)) [2]))
def tX9_countDigits : am_T := tQ (tS [(.iconst 0, 0, 0, 0), (.istore_n 3, 0, 0, 0)]) (tQ (tK 23 (tW 2 wX9_countDigits_2)) (tB [(.iload_n 3, 0, 0, 0)] (.ireturn) [0]))
def qX9_countDigits : am_M := (RX9, yX9_countDigits, cX9_countDigits, 4, (some .int), tX9_countDigits)
-- WeylWords$Text.valueOf(II)I
def wX9_valueOf_5 : am_T := tQ (tB [(.iload 4, 0, 0, 0), (.iload_n 2, 0, 0, 0)] (.if_icmp .ge 26) [34]) (tB [(.iload_n 3, 0, 0, 0), (.bipush 10, 0, 0, 0), (.imul, 0, 0, 0), (.aload_n 0, 0, 0, 0), (.iload_n 1, 0, 0, 0), (.iload 4, 0, 0, 0), (.iadd, 0, 0, 0), (.invokevirtual 25, 77, 2, 9), (.bipush 48, 0, 0, 0), (.isub, 0, 0, 0), (.iadd, 0, 0, 0), (.istore_n 3, 0, 0, 0), (.iinc 4 1, 0, 0, 0)] (.goto (-26)) [5])
def tX9_valueOf : am_T := tQ (tS [(.iconst 0, 0, 0, 0), (.istore_n 3, 0, 0, 0), (.iconst 0, 0, 0, 0), (.istore 4, 0, 0, 0)]) (tQ (tK 34 (tW 5 wX9_valueOf_5)) (tB [(.iload_n 3, 0, 0, 0)] (.ireturn) [0]))
def qX9_valueOf : am_M := (RX9, yX9_valueOf, cX9_valueOf, 5, (some .int), tX9_valueOf)
-- WeylWords$Writer.<init>()V
def tX10_init : am_T := tB [(.aload_n 0, 0, 0, 0), (.invokespecial 3, 998, 1, 0), (.aload_n 0, 0, 0, 0), (.bipush 20, 0, 0, 0), (.newarray .int, 20, 0, 0), (.putfield 9, 10, 0, 3), (.aload_n 0, 0, 0, 0), (.iconst 0, 0, 0, 0), (.putfield 15, 10, 1, 0)] (.return_) []
def qX10_init : am_M := (RX10, yX10_init, cX10_init, 1, none, tX10_init)
-- WeylWords$Writer.byteAt(LWeylWords$Operator;II)I
def wX10_byteAt_39 : am_T := tQ (tB [(.iload 7, 0, 0, 0), (.iload 6, 0, 0, 0)] (.if_icmp .gt 85) [128]) (tQ (tS [(.iload_n 2, 0, 0, 0), (.iload 6, 0, 0, 0), (.iload 7, 0, 0, 0), (.invokestatic 25, 49, 3, 0), (.istore 8, 0, 0, 0), (.aload_n 1, 0, 0, 0), (.getfield 29, 6, 0, 0), (.iload 8, 0, 0, 0), (.iaload, 0, 0, 0)]) (tQ (tK 122 (tQ (tB [] (.ifCond .eq 59) [122]) (tQ (tS [(.aload_n 0, 0, 0, 0), (.aload_n 1, 0, 0, 0), (.getfield 29, 6, 0, 0), (.iload 8, 0, 0, 0), (.iaload, 0, 0, 0), (.invokestatic 32, 10, 1, 0), (.iload 8, 0, 0, 0), (.iload 5, 0, 0, 0)]) (tQ (tK 89 (tQ (tK 88 (tQ (tB [] (.ifCond .ne 7) [88]) (tB [(.iconst 1, 0, 0, 0)] (.goto 4) [89]))) (tS [(.iconst 0, 0, 0, 0)]))) (tQ (tS [(.invokevirtual 38, 88, 4, 10), (.iload_n 3, 0, 0, 0), (.iload 5, 0, 0, 0), (.isub, 0, 0, 0), (.aload_n 0, 0, 0, 0), (.getfield 15, 10, 1, 0)]) (tQ (tK 113 (tQ (tB [] (.if_icmp .ge 13) [113]) (tB [(.aload_n 0, 0, 0, 0), (.getfield 9, 10, 0, 0), (.iload_n 3, 0, 0, 0), (.iload 5, 0, 0, 0), (.isub, 0, 0, 0), (.iaload, 0, 0, 0)] (.ireturn) [0]))) (tS [(.iload 5, 0, 0, 0), (.aload_n 0, 0, 0, 0), (.getfield 15, 10, 1, 0), (.iadd, 0, 0, 0), (.istore 5, 0, 0, 0)]))))))) (tB [(.iinc 7 1, 0, 0, 0)] (.goto (-86)) [39])))
def wX10_byteAt_31 : am_T := tQ (tB [(.iload 6, 0, 0, 0)] (.ifCond .lt 101) [134]) (tQ (tS [(.iconst 0, 0, 0, 0), (.istore 7, 0, 0, 0)]) (tQ (tK 128 (tW 39 wX10_byteAt_39)) (tB [(.iinc 6 (-1), 0, 0, 0)] (.goto (-100)) [31])))
def tX10_byteAt : am_T := tQ (tS [(.aload_n 1, 0, 0, 0), (.invokevirtual 19, 61, 1, 6), (.istore 4, 0, 0, 0), (.iload 4, 0, 0, 0)]) (tQ (tK 24 (tQ (tB [] (.ifCond .ge 16) [24]) (tQ (tS [(.iload_n 3, 0, 0, 0)]) (tQ (tK 23 (tQ (tK 20 (tQ (tB [] (.ifCond .ne 8) [20]) (tB [(.bipush 48, 0, 0, 0)] (.goto 6) [23]))) (tS [(.sipush (-20001), 0, 0, 0)]))) (tB [] (.ireturn) [0]))))) (tQ (tS [(.iconst 0, 0, 0, 0), (.istore 5, 0, 0, 0), (.iload 4, 0, 0, 0), (.istore 6, 0, 0, 0)]) (tQ (tK 134 (tW 31 wX10_byteAt_31)) (tB [(.sipush (-20001), 0, 0, 0)] (.ireturn) [0]))))
def qX10_byteAt : am_M := (RX10, yX10_byteAt, cX10_byteAt, 9, (some .int), tX10_byteAt)
-- WeylWords$Writer.writeTerm(IIZ)V
def tX10_writeTerm : am_T := tQ (tS [(.aload_n 0, 0, 0, 0), (.iconst 0, 0, 0, 0), (.putfield 15, 10, 1, 0), (.iload_n 1, 0, 0, 0)]) (tQ (tK 28 (tQ (tK 18 (tQ (tB [] (.ifCond .ge 12) [18]) (tB [(.aload_n 0, 0, 0, 0), (.bipush 45, 0, 0, 0), (.invokevirtual 42, 91, 2, 10)] (.goto 13) [28]))) (tQ (tB [(.iload_n 3, 0, 0, 0)] (.ifCond .ne 9) [28]) (tS [(.aload_n 0, 0, 0, 0), (.bipush 43, 0, 0, 0), (.invokevirtual 42, 91, 2, 10)])))) (tQ (tS [(.iload_n 1, 0, 0, 0), (.invokestatic 46, 231, 1, 0), (.istore 4, 0, 0, 0), (.iload 4, 0, 0, 0), (.iconst 1, 0, 0, 0)]) (tQ (tK 49 (tQ (tK 48 (tQ (tK 44 (tQ (tB [] (.if_icmp .ne 7) [44]) (tB [(.iload_n 2, 0, 0, 0)] (.ifCond .ne 7) [48]))) (tB [(.iconst 1, 0, 0, 0)] (.goto 4) [49]))) (tS [(.iconst 0, 0, 0, 0)]))) (tQ (tS [(.istore 5, 0, 0, 0), (.iload 5, 0, 0, 0)]) (tQ (tK 62 (tQ (tB [] (.ifCond .eq 9) [62]) (tS [(.aload_n 0, 0, 0, 0), (.iload 4, 0, 0, 0), (.invokevirtual 51, 90, 2, 10)]))) (tQ (tS [(.getstatic 54, 1, 0, 0), (.iload_n 2, 0, 0, 0), (.iaload, 0, 0, 0), (.istore 6, 0, 0, 0), (.getstatic 57, 2, 0, 0), (.iload_n 2, 0, 0, 0), (.iaload, 0, 0, 0), (.istore 7, 0, 0, 0), (.aload_n 0, 0, 0, 0), (.bipush 120, 0, 0, 0), (.iload 6, 0, 0, 0), (.iload 5, 0, 0, 0), (.invokevirtual 60, 89, 4, 10), (.aload_n 0, 0, 0, 0), (.bipush 100, 0, 0, 0), (.iload 7, 0, 0, 0), (.iload 5, 0, 0, 0)]) (tQ (tK 106 (tQ (tK 105 (tQ (tK 101 (tQ (tB [] (.ifCond .ne 8) [101]) (tB [(.iload 6, 0, 0, 0)] (.ifCond .le 7) [105]))) (tB [(.iconst 1, 0, 0, 0)] (.goto 4) [106]))) (tS [(.iconst 0, 0, 0, 0)]))) (tB [(.invokevirtual 60, 89, 4, 10)] (.return_) []))))))))
def qX10_writeTerm : am_M := (RX10, yX10_writeTerm, cX10_writeTerm, 8, none, tX10_writeTerm)
-- WeylWords$Writer.writeLetter(IIZ)V
def tX10_writeLetter : am_T := tQ (tS [(.iload_n 2, 0, 0, 0)]) (tQ (tK 5 (tQ (tB [] (.ifCond .ne 4) [5]) (tB [] (.return_) []))) (tQ (tS [(.iload_n 3, 0, 0, 0)]) (tQ (tK 15 (tQ (tB [] (.ifCond .eq 9) [15]) (tS [(.aload_n 0, 0, 0, 0), (.bipush 42, 0, 0, 0), (.invokevirtual 42, 91, 2, 10)]))) (tQ (tS [(.aload_n 0, 0, 0, 0), (.iload_n 1, 0, 0, 0), (.invokevirtual 42, 91, 2, 10), (.iload_n 2, 0, 0, 0), (.iconst 1, 0, 0, 0)]) (tQ (tK 36 (tQ (tB [] (.if_icmp .le 14) [36]) (tS [(.aload_n 0, 0, 0, 0), (.bipush 94, 0, 0, 0), (.invokevirtual 42, 91, 2, 10), (.aload_n 0, 0, 0, 0), (.iload_n 2, 0, 0, 0), (.invokevirtual 51, 90, 2, 10)]))) (tB [] (.return_) []))))))
def qX10_writeLetter : am_M := (RX10, yX10_writeLetter, cX10_writeLetter, 4, none, tX10_writeLetter)
-- WeylWords$Writer.writeNumber(I)V
def wX10_writeNumber_6 : am_T := tQ (tB [(.iload_n 3, 0, 0, 0)] (.ifCond .le 47) [54]) (tQ (tS [(.iload_n 1, 0, 0, 0), (.iload_n 3, 0, 0, 0), (.idiv, 0, 0, 0), (.bipush 10, 0, 0, 0), (.irem, 0, 0, 0), (.istore 4, 0, 0, 0), (.iload_n 2, 0, 0, 0)]) (tQ (tK 32 (tQ (tK 31 (tQ (tK 27 (tQ (tB [] (.ifCond .ne 8) [27]) (tB [(.iload 4, 0, 0, 0)] (.ifCond .le 7) [31]))) (tB [(.iconst 1, 0, 0, 0)] (.goto 4) [32]))) (tS [(.iconst 0, 0, 0, 0)]))) (tQ (tS [(.istore_n 2, 0, 0, 0), (.iload_n 2, 0, 0, 0)]) (tQ (tK 46 (tQ (tB [] (.ifCond .eq 12) [46]) (tS [(.aload_n 0, 0, 0, 0), (.bipush 48, 0, 0, 0), (.iload 4, 0, 0, 0), (.iadd, 0, 0, 0), (.invokevirtual 42, 91, 2, 10)]))) (tB [(.iload_n 3, 0, 0, 0), (.bipush 10, 0, 0, 0), (.idiv, 0, 0, 0), (.istore_n 3, 0, 0, 0)] (.goto (-45)) [6])))))
def tX10_writeNumber : am_T := tQ (tS [(.iconst 0, 0, 0, 0), (.istore_n 2, 0, 0, 0), (.sipush 1000, 0, 0, 0), (.istore_n 3, 0, 0, 0)]) (tQ (tK 54 (tW 6 wX10_writeNumber_6)) (tB [] (.return_) []))
def qX10_writeNumber : am_M := (RX10, yX10_writeNumber, cX10_writeNumber, 5, none, tX10_writeNumber)
-- WeylWords$Writer.write(I)V
def tX10_write : am_T := tQ (tS [(.aload_n 0, 0, 0, 0), (.getfield 15, 10, 1, 0), (.aload_n 0, 0, 0, 0), (.getfield 9, 10, 0, 0), (.arraylength, 0, 0, 0)]) (tQ (tK 32 (tQ (tB [] (.if_icmp .ge 23) [32]) (tS [(.aload_n 0, 0, 0, 0), (.getfield 9, 10, 0, 0), (.aload_n 0, 0, 0, 0), (.getfield 15, 10, 1, 0), (.iload_n 1, 0, 0, 0), (.iastore, 0, 0, 0), (.aload_n 0, 0, 0, 0), (.dup, 0, 0, 0), (.getfield 15, 10, 1, 0), (.iconst 1, 0, 0, 0), (.iadd, 0, 0, 0), (.putfield 15, 10, 1, 0)]))) (tB [] (.return_) []))
def qX10_write : am_M := (RX10, yX10_write, cX10_write, 2, none, tX10_write)
-- WeylWords.<init>()V
def tX11_init : am_T := tB [(.aload_n 0, 0, 0, 0), (.invokespecial 1, 998, 1, 0), (.aload_n 0, 0, 0, 0), (.new 7, 8, 0, 0), (.dup, 0, 0, 0), (.invokespecial 9, 73, 1, 8), (.putfield 10, 11, 0, 3), (.aload_n 0, 0, 0, 0), (.new 16, 5, 0, 0), (.dup, 0, 0, 0), (.invokespecial 18, 41, 1, 5), (.putfield 19, 11, 1, 3), (.aload_n 0, 0, 0, 0), (.new 23, 9, 0, 0), (.dup, 0, 0, 0), (.invokespecial 25, 75, 1, 9), (.putfield 26, 11, 2, 3), (.aload_n 0, 0, 0, 0), (.new 30, 1, 0, 0), (.dup, 0, 0, 0), (.invokespecial 32, 8, 1, 1), (.putfield 33, 11, 3, 3), (.aload_n 0, 0, 0, 0), (.new 37, 4, 0, 0), (.dup, 0, 0, 0), (.aload_n 0, 0, 0, 0), (.getfield 33, 11, 3, 0), (.invokespecial 39, 36, 2, 4), (.putfield 42, 11, 4, 3), (.aload_n 0, 0, 0, 0), (.new 46, 3, 0, 0), (.dup, 0, 0, 0), (.aload_n 0, 0, 0, 0), (.getfield 33, 11, 3, 0), (.aload_n 0, 0, 0, 0), (.getfield 42, 11, 4, 0), (.invokespecial 48, 24, 3, 3), (.putfield 51, 11, 5, 3), (.aload_n 0, 0, 0, 0), (.new 55, 0, 0, 0), (.dup, 0, 0, 0), (.aload_n 0, 0, 0, 0), (.getfield 33, 11, 3, 0), (.invokespecial 57, 0, 2, 0), (.putfield 58, 11, 6, 3), (.aload_n 0, 0, 0, 0), (.new 62, 7, 0, 0), (.dup, 0, 0, 0), (.aload_n 0, 0, 0, 0), (.getfield 33, 11, 3, 0), (.aload_n 0, 0, 0, 0), (.getfield 26, 11, 2, 0), (.invokespecial 64, 66, 3, 7), (.putfield 67, 11, 7, 3), (.aload_n 0, 0, 0, 0), (.new 71, 10, 0, 0), (.dup, 0, 0, 0), (.invokespecial 73, 86, 1, 10), (.putfield 74, 11, 8, 3), (.aload_n 0, 0, 0, 0), (.new 78, 6, 0, 0), (.dup, 0, 0, 0), (.invokespecial 80, 44, 1, 6), (.putfield 81, 11, 9, 3), (.aload_n 0, 0, 0, 0), (.iconst 0, 0, 0, 0), (.putfield 85, 11, 10, 0), (.aload_n 0, 0, 0, 0), (.iconst 0, 0, 0, 0), (.putfield 89, 11, 11, 0), (.aload_n 0, 0, 0, 0), (.iconst 0, 0, 0, 0), (.putfield 92, 11, 12, 0)] (.return_) []
def qX11_init : am_M := (RX11, yX11_init, cX11_init, 1, none, tX11_init)
-- WeylWords.sets(IIII)I
def tX11_sets : am_T := tQ (tS [(.iload_n 1, 0, 0, 0), (.invokestatic 95, 125, 1, 0)]) (tQ (tK 20 (tQ (tK 15 (tQ (tB [] (.ifCond .eq 11) [15]) (tB [(.iload_n 2, 0, 0, 0), (.iload_n 3, 0, 0, 0), (.invokestatic 99, 45, 2, 0)] (.ifCond .ne 8) [20]))) (tB [(.aload_n 0, 0, 0, 0), (.invokevirtual 103, 121, 1, 11)] (.ireturn) [0]))) (tB [(.aload_n 0, 0, 0, 0), (.getfield 19, 11, 1, 0), (.aload_n 0, 0, 0, 0), (.getfield 10, 11, 0, 0), (.invokevirtual 107, 42, 2, 5), (.aload_n 0, 0, 0, 0), (.getfield 10, 11, 0, 0), (.getfield 111, 8, 0, 0), (.iload_n 1, 0, 0, 0), (.aaload, 0, 0, 0), (.astore 5, 0, 0, 0), (.aload 5, 0, 0, 0), (.iload_n 2, 0, 0, 0), (.iload_n 3, 0, 0, 0), (.invokevirtual 115, 51, 3, 6), (.istore 6, 0, 0, 0), (.aload 5, 0, 0, 0), (.iload_n 2, 0, 0, 0), (.iload_n 3, 0, 0, 0), (.iload 4, 0, 0, 0), (.invokestatic 119, 9, 1, 0), (.invokevirtual 123, 52, 4, 6), (.iload 6, 0, 0, 0), (.invokestatic 127, 10, 1, 0)] (.ireturn) [0]))
def qX11_sets : am_M := (RX11, yX11_sets, cX11_sets, 7, (some .int), tX11_sets)
-- WeylWords.at(III)I
def tX11_at : am_T := tQ (tS [(.iload_n 1, 0, 0, 0), (.invokestatic 95, 125, 1, 0)]) (tQ (tK 20 (tQ (tK 15 (tQ (tB [] (.ifCond .eq 11) [15]) (tB [(.iload_n 2, 0, 0, 0), (.iload_n 3, 0, 0, 0), (.invokestatic 99, 45, 2, 0)] (.ifCond .ne 8) [20]))) (tB [(.aload_n 0, 0, 0, 0), (.invokevirtual 103, 121, 1, 11)] (.ireturn) [0]))) (tB [(.aload_n 0, 0, 0, 0), (.getfield 10, 11, 0, 0), (.getfield 111, 8, 0, 0), (.iload_n 1, 0, 0, 0), (.aaload, 0, 0, 0), (.iload_n 2, 0, 0, 0), (.iload_n 3, 0, 0, 0), (.invokevirtual 115, 51, 3, 6), (.invokestatic 127, 10, 1, 0)] (.ireturn) [0]))
def qX11_at : am_M := (RX11, yX11_at, cX11_at, 4, (some .int), tX11_at)
-- WeylWords.sums(IIIII)I
def tX11_sums : am_T := tQ (tS [(.iload_n 1, 0, 0, 0), (.invokestatic 95, 125, 1, 0)]) (tQ (tK 27 (tQ (tK 22 (tQ (tB [] (.ifCond .eq 18) [22]) (tQ (tB [(.iload_n 2, 0, 0, 0), (.invokestatic 95, 125, 1, 0)] (.ifCond .eq 11) [22]) (tB [(.iload 4, 0, 0, 0), (.invokestatic 95, 125, 1, 0)] (.ifCond .ne 8) [27])))) (tB [(.aload_n 0, 0, 0, 0), (.invokevirtual 103, 121, 1, 11)] (.ireturn) [0]))) (tB [(.aload_n 0, 0, 0, 0), (.getfield 81, 11, 9, 0), (.invokevirtual 130, 53, 1, 6), (.aload_n 0, 0, 0, 0), (.getfield 81, 11, 9, 0), (.aload_n 0, 0, 0, 0), (.getfield 10, 11, 0, 0), (.getfield 111, 8, 0, 0), (.iload_n 2, 0, 0, 0), (.aaload, 0, 0, 0), (.iload_n 3, 0, 0, 0), (.invokestatic 119, 9, 1, 0), (.invokevirtual 133, 56, 3, 6), (.aload_n 0, 0, 0, 0), (.getfield 81, 11, 9, 0), (.aload_n 0, 0, 0, 0), (.getfield 10, 11, 0, 0), (.getfield 111, 8, 0, 0), (.iload 4, 0, 0, 0), (.aaload, 0, 0, 0), (.iload 5, 0, 0, 0), (.invokestatic 119, 9, 1, 0), (.invokevirtual 133, 56, 3, 6), (.aload_n 0, 0, 0, 0), (.iload_n 1, 0, 0, 0), (.invokevirtual 137, 120, 2, 11)] (.ireturn) [0]))
def qX11_sums : am_M := (RX11, yX11_sums, cX11_sums, 6, (some .int), tX11_sums)
-- WeylWords.times(III)I
def tX11_times : am_T := tQ (tS [(.iload_n 1, 0, 0, 0), (.invokestatic 95, 125, 1, 0)]) (tQ (tK 26 (tQ (tK 21 (tQ (tB [] (.ifCond .eq 17) [21]) (tQ (tB [(.iload_n 2, 0, 0, 0), (.invokestatic 95, 125, 1, 0)] (.ifCond .eq 10) [21]) (tB [(.iload_n 3, 0, 0, 0), (.invokestatic 95, 125, 1, 0)] (.ifCond .ne 8) [26])))) (tB [(.aload_n 0, 0, 0, 0), (.invokevirtual 103, 121, 1, 11)] (.ireturn) [0]))) (tQ (tS [(.aload_n 0, 0, 0, 0), (.getfield 10, 11, 0, 0), (.getfield 111, 8, 0, 0), (.iload_n 2, 0, 0, 0), (.aaload, 0, 0, 0), (.astore 4, 0, 0, 0), (.aload_n 0, 0, 0, 0), (.getfield 10, 11, 0, 0), (.getfield 111, 8, 0, 0), (.iload_n 3, 0, 0, 0), (.aaload, 0, 0, 0), (.astore 5, 0, 0, 0), (.aload 4, 0, 0, 0), (.aload 5, 0, 0, 0), (.invokestatic 140, 12, 2, 0)]) (tQ (tK 63 (tQ (tB [] (.ifCond .ne 8) [63]) (tB [(.aload_n 0, 0, 0, 0), (.invokevirtual 144, 123, 1, 11)] (.ireturn) [0]))) (tB [(.aload_n 0, 0, 0, 0), (.getfield 81, 11, 9, 0), (.invokevirtual 130, 53, 1, 6), (.aload_n 0, 0, 0, 0), (.getfield 33, 11, 3, 0), (.aload_n 0, 0, 0, 0), (.getfield 81, 11, 9, 0), (.iconst 1, 0, 0, 0), (.aload 4, 0, 0, 0), (.aload 5, 0, 0, 0), (.invokevirtual 147, 14, 5, 1), (.aload_n 0, 0, 0, 0), (.iload_n 1, 0, 0, 0), (.invokevirtual 137, 120, 2, 11)] (.ireturn) [0]))))
def qX11_times : am_M := (RX11, yX11_times, cX11_times, 6, (some .int), tX11_times)
-- WeylWords.bracket(III)I
def tX11_bracket : am_T := tQ (tS [(.iload_n 1, 0, 0, 0), (.invokestatic 95, 125, 1, 0)]) (tQ (tK 26 (tQ (tK 21 (tQ (tB [] (.ifCond .eq 17) [21]) (tQ (tB [(.iload_n 2, 0, 0, 0), (.invokestatic 95, 125, 1, 0)] (.ifCond .eq 10) [21]) (tB [(.iload_n 3, 0, 0, 0), (.invokestatic 95, 125, 1, 0)] (.ifCond .ne 8) [26])))) (tB [(.aload_n 0, 0, 0, 0), (.invokevirtual 103, 121, 1, 11)] (.ireturn) [0]))) (tQ (tS [(.aload_n 0, 0, 0, 0), (.getfield 10, 11, 0, 0), (.getfield 111, 8, 0, 0), (.iload_n 2, 0, 0, 0), (.aaload, 0, 0, 0), (.astore 4, 0, 0, 0), (.aload_n 0, 0, 0, 0), (.getfield 10, 11, 0, 0), (.getfield 111, 8, 0, 0), (.iload_n 3, 0, 0, 0), (.aaload, 0, 0, 0), (.astore 5, 0, 0, 0), (.aload 4, 0, 0, 0), (.aload 5, 0, 0, 0), (.invokestatic 140, 12, 2, 0)]) (tQ (tK 63 (tQ (tB [] (.ifCond .ne 8) [63]) (tB [(.aload_n 0, 0, 0, 0), (.invokevirtual 144, 123, 1, 11)] (.ireturn) [0]))) (tB [(.aload_n 0, 0, 0, 0), (.getfield 81, 11, 9, 0), (.invokevirtual 130, 53, 1, 6), (.aload_n 0, 0, 0, 0), (.getfield 33, 11, 3, 0), (.aload_n 0, 0, 0, 0), (.getfield 81, 11, 9, 0), (.iconst 1, 0, 0, 0), (.aload 4, 0, 0, 0), (.aload 5, 0, 0, 0), (.invokevirtual 147, 14, 5, 1), (.aload_n 0, 0, 0, 0), (.getfield 33, 11, 3, 0), (.aload_n 0, 0, 0, 0), (.getfield 81, 11, 9, 0), (.sipush 10006, 0, 0, 0), (.aload 5, 0, 0, 0), (.aload 4, 0, 0, 0), (.invokevirtual 147, 14, 5, 1), (.aload_n 0, 0, 0, 0), (.iload_n 1, 0, 0, 0), (.invokevirtual 137, 120, 2, 11)] (.ireturn) [0]))))
def qX11_bracket : am_M := (RX11, yX11_bracket, cX11_bracket, 6, (some .int), tX11_bracket)
-- WeylWords.power(III)I
def tX11_power : am_T := tQ (tS [(.iload_n 1, 0, 0, 0), (.invokestatic 95, 125, 1, 0)]) (tQ (tK 29 (tQ (tK 24 (tQ (tB [] (.ifCond .eq 20) [24]) (tQ (tB [(.iload_n 2, 0, 0, 0), (.invokestatic 95, 125, 1, 0)] (.ifCond .eq 13) [24]) (tQ (tB [(.iload_n 3, 0, 0, 0)] (.ifCond .lt 9) [24]) (tB [(.iload_n 3, 0, 0, 0), (.bipush 12, 0, 0, 0)] (.if_icmp .le 8) [29]))))) (tB [(.aload_n 0, 0, 0, 0), (.invokevirtual 103, 121, 1, 11)] (.ireturn) [0]))) (tQ (tS [(.aload_n 0, 0, 0, 0), (.getfield 10, 11, 0, 0), (.getfield 111, 8, 0, 0), (.iload_n 2, 0, 0, 0), (.aaload, 0, 0, 0), (.astore 4, 0, 0, 0), (.aload 4, 0, 0, 0), (.iload_n 3, 0, 0, 0), (.invokestatic 151, 13, 2, 0)]) (tQ (tK 54 (tQ (tB [] (.ifCond .ne 8) [54]) (tB [(.aload_n 0, 0, 0, 0), (.invokevirtual 144, 123, 1, 11)] (.ireturn) [0]))) (tB [(.aload_n 0, 0, 0, 0), (.getfield 33, 11, 3, 0), (.aload_n 0, 0, 0, 0), (.getfield 81, 11, 9, 0), (.aload 4, 0, 0, 0), (.iload_n 3, 0, 0, 0), (.invokevirtual 155, 16, 4, 1), (.aload_n 0, 0, 0, 0), (.iload_n 1, 0, 0, 0), (.invokevirtual 137, 120, 2, 11)] (.ireturn) [0]))))
def qX11_power : am_M := (RX11, yX11_power, cX11_power, 5, (some .int), tX11_power)
-- WeylWords.reversed(II)I
def tX11_reversed : am_T := tQ (tS [(.iload_n 1, 0, 0, 0), (.invokestatic 95, 125, 1, 0)]) (tQ (tK 19 (tQ (tK 14 (tQ (tB [] (.ifCond .eq 10) [14]) (tB [(.iload_n 2, 0, 0, 0), (.invokestatic 95, 125, 1, 0)] (.ifCond .ne 8) [19]))) (tB [(.aload_n 0, 0, 0, 0), (.invokevirtual 103, 121, 1, 11)] (.ireturn) [0]))) (tB [(.aload_n 0, 0, 0, 0), (.getfield 33, 11, 3, 0), (.aload_n 0, 0, 0, 0), (.getfield 81, 11, 9, 0), (.aload_n 0, 0, 0, 0), (.getfield 10, 11, 0, 0), (.getfield 111, 8, 0, 0), (.iload_n 2, 0, 0, 0), (.aaload, 0, 0, 0), (.invokevirtual 159, 17, 3, 1), (.aload_n 0, 0, 0, 0), (.iload_n 1, 0, 0, 0), (.invokevirtual 137, 120, 2, 11)] (.ireturn) [0]))
def qX11_reversed : am_M := (RX11, yX11_reversed, cX11_reversed, 3, (some .int), tX11_reversed)
-- WeylWords.of(II)I
def tX11_of : am_T := tQ (tS [(.iload_n 1, 0, 0, 0), (.invokestatic 95, 125, 1, 0)]) (tQ (tK 22 (tQ (tK 17 (tQ (tB [] (.ifCond .eq 13) [17]) (tQ (tB [(.iload_n 2, 0, 0, 0)] (.ifCond .lt 9) [17]) (tB [(.iload_n 2, 0, 0, 0), (.bipush 8, 0, 0, 0)] (.if_icmp .le 8) [22])))) (tB [(.aload_n 0, 0, 0, 0), (.invokevirtual 103, 121, 1, 11)] (.ireturn) [0]))) (tB [(.aload_n 0, 0, 0, 0), (.getfield 10, 11, 0, 0), (.getfield 111, 8, 0, 0), (.iload_n 1, 0, 0, 0), (.aaload, 0, 0, 0), (.iload_n 2, 0, 0, 0), (.aload_n 0, 0, 0, 0), (.getfield 10, 11, 0, 0), (.getfield 163, 8, 2, 0), (.invokevirtual 166, 63, 3, 6)] (.ireturn) [0]))
def qX11_of : am_M := (RX11, yX11_of, cX11_of, 3, (some .int), tX11_of)
-- WeylWords.order(I)I
def tX11_order : am_T := tQ (tS [(.iload_n 1, 0, 0, 0)]) (tQ (tK 14 (tQ (tB [] (.ifCond .eq 13) [14]) (tQ (tB [(.iload_n 1, 0, 0, 0), (.iconst 1, 0, 0, 0)] (.if_icmp .eq 8) [14]) (tB [(.aload_n 0, 0, 0, 0), (.invokevirtual 103, 121, 1, 11)] (.ireturn) [0])))) (tB [(.aload_n 0, 0, 0, 0), (.getfield 19, 11, 1, 0), (.aload_n 0, 0, 0, 0), (.getfield 10, 11, 0, 0), (.invokevirtual 107, 42, 2, 5), (.aload_n 0, 0, 0, 0), (.getfield 10, 11, 0, 0), (.getfield 163, 8, 2, 0), (.istore_n 2, 0, 0, 0), (.aload_n 0, 0, 0, 0), (.getfield 10, 11, 0, 0), (.iload_n 1, 0, 0, 0), (.putfield 163, 8, 2, 0), (.iload_n 2, 0, 0, 0)] (.ireturn) [0]))
def qX11_order : am_M := (RX11, yX11_order, cX11_order, 3, (some .int), tX11_order)
-- WeylWords.puts(III)I
def tX11_puts : am_T := tQ (tS [(.iload_n 1, 0, 0, 0), (.invokestatic 169, 126, 1, 0)]) (tQ (tK 19 (tQ (tK 14 (tQ (tB [] (.ifCond .eq 10) [14]) (tB [(.iload_n 2, 0, 0, 0), (.invokestatic 172, 127, 1, 0)] (.ifCond .ne 8) [19]))) (tB [(.aload_n 0, 0, 0, 0), (.invokevirtual 103, 121, 1, 11)] (.ireturn) [0]))) (tB [(.aload_n 0, 0, 0, 0), (.getfield 19, 11, 1, 0), (.aload_n 0, 0, 0, 0), (.getfield 10, 11, 0, 0), (.invokevirtual 107, 42, 2, 5), (.aload_n 0, 0, 0, 0), (.getfield 10, 11, 0, 0), (.getfield 175, 8, 1, 0), (.iload_n 1, 0, 0, 0), (.aaload, 0, 0, 0), (.iload_n 2, 0, 0, 0), (.iaload, 0, 0, 0), (.istore 4, 0, 0, 0), (.aload_n 0, 0, 0, 0), (.getfield 10, 11, 0, 0), (.getfield 175, 8, 1, 0), (.iload_n 1, 0, 0, 0), (.aaload, 0, 0, 0), (.iload_n 2, 0, 0, 0), (.iload_n 3, 0, 0, 0), (.invokestatic 119, 9, 1, 0), (.iastore, 0, 0, 0), (.iload 4, 0, 0, 0), (.invokestatic 127, 10, 1, 0)] (.ireturn) [0]))
def qX11_puts : am_M := (RX11, yX11_puts, cX11_puts, 5, (some .int), tX11_puts)
-- WeylWords.rate(II)I
def tX11_rate : am_T := tQ (tS [(.iload_n 1, 0, 0, 0), (.invokestatic 169, 126, 1, 0)]) (tQ (tK 19 (tQ (tK 14 (tQ (tB [] (.ifCond .eq 10) [14]) (tB [(.iload_n 2, 0, 0, 0), (.invokestatic 172, 127, 1, 0)] (.ifCond .ne 8) [19]))) (tB [(.aload_n 0, 0, 0, 0), (.invokevirtual 103, 121, 1, 11)] (.ireturn) [0]))) (tB [(.aload_n 0, 0, 0, 0), (.getfield 10, 11, 0, 0), (.getfield 175, 8, 1, 0), (.iload_n 1, 0, 0, 0), (.aaload, 0, 0, 0), (.iload_n 2, 0, 0, 0), (.iaload, 0, 0, 0), (.invokestatic 127, 10, 1, 0)] (.ireturn) [0]))
def qX11_rate : am_M := (RX11, yX11_rate, cX11_rate, 3, (some .int), tX11_rate)
-- WeylWords.makes(III)I
def tX11_makes : am_T := tQ (tS [(.iload_n 1, 0, 0, 0), (.invokestatic 169, 126, 1, 0)]) (tQ (tK 26 (tQ (tK 21 (tQ (tB [] (.ifCond .eq 17) [21]) (tQ (tB [(.iload_n 2, 0, 0, 0), (.invokestatic 95, 125, 1, 0)] (.ifCond .eq 10) [21]) (tB [(.iload_n 3, 0, 0, 0), (.invokestatic 169, 126, 1, 0)] (.ifCond .ne 8) [26])))) (tB [(.aload_n 0, 0, 0, 0), (.invokevirtual 103, 121, 1, 11)] (.ireturn) [0]))) (tQ (tS [(.aload_n 0, 0, 0, 0), (.getfield 10, 11, 0, 0), (.getfield 111, 8, 0, 0), (.iload_n 2, 0, 0, 0), (.aaload, 0, 0, 0), (.astore 4, 0, 0, 0), (.aload_n 0, 0, 0, 0), (.getfield 10, 11, 0, 0), (.getfield 175, 8, 1, 0), (.iload_n 3, 0, 0, 0), (.aaload, 0, 0, 0), (.astore 5, 0, 0, 0), (.aload_n 0, 0, 0, 0), (.getfield 58, 11, 6, 0), (.aload 4, 0, 0, 0), (.aload 5, 0, 0, 0), (.invokevirtual 179, 2, 3, 0)]) (tQ (tK 67 (tQ (tB [] (.ifCond .ne 8) [67]) (tB [(.aload_n 0, 0, 0, 0), (.invokevirtual 144, 123, 1, 11)] (.ireturn) [0]))) (tQ (tS [(.aload_n 0, 0, 0, 0), (.getfield 58, 11, 6, 0), (.aload 4, 0, 0, 0), (.aload 5, 0, 0, 0), (.invokevirtual 183, 3, 3, 0), (.aload_n 0, 0, 0, 0), (.getfield 19, 11, 1, 0), (.aload_n 0, 0, 0, 0), (.getfield 10, 11, 0, 0), (.invokevirtual 107, 42, 2, 5), (.aload_n 0, 0, 0, 0), (.getfield 58, 11, 6, 0), (.getfield 187, 0, 2, 0), (.iconst 0, 0, 0, 0), (.aload_n 0, 0, 0, 0), (.getfield 10, 11, 0, 0), (.getfield 175, 8, 1, 0), (.iload_n 1, 0, 0, 0), (.aaload, 0, 0, 0), (.iconst 0, 0, 0, 0), (.bipush 31, 0, 0, 0), (.invokestatic 191, 999, 5, 0), (.aload_n 0, 0, 0, 0), (.getfield 58, 11, 6, 0), (.getfield 187, 0, 2, 0), (.invokestatic 197, 1, 1, 0), (.istore 6, 0, 0, 0), (.iload 6, 0, 0, 0)]) (tQ (tK 137 (tQ (tK 135 (tQ (tB [] (.ifCond .ge 9) [135]) (tB [(.sipush (-20001), 0, 0, 0)] (.goto 5) [137]))) (tS [(.iload 6, 0, 0, 0)]))) (tB [] (.ireturn) [0]))))))
def qX11_makes : am_M := (RX11, yX11_makes, cX11_makes, 7, (some .int), tX11_makes)
-- WeylWords.kernel(II)I
def tX11_kernel : am_T := tQ (tS [(.iload_n 1, 0, 0, 0), (.invokestatic 95, 125, 1, 0)]) (tQ (tK 22 (tQ (tK 17 (tQ (tB [] (.ifCond .eq 13) [17]) (tQ (tB [(.iload_n 2, 0, 0, 0)] (.ifCond .lt 9) [17]) (tB [(.iload_n 2, 0, 0, 0), (.bipush 15, 0, 0, 0)] (.if_icmp .le 8) [22])))) (tB [(.aload_n 0, 0, 0, 0), (.invokevirtual 103, 121, 1, 11)] (.ireturn) [0]))) (tB [(.aload_n 0, 0, 0, 0), (.getfield 58, 11, 6, 0), (.aload_n 0, 0, 0, 0), (.getfield 10, 11, 0, 0), (.getfield 111, 8, 0, 0), (.iload_n 1, 0, 0, 0), (.aaload, 0, 0, 0), (.iload_n 2, 0, 0, 0), (.invokevirtual 201, 5, 3, 0)] (.ireturn) [0]))
def qX11_kernel : am_M := (RX11, yX11_kernel, cX11_kernel, 3, (some .int), tX11_kernel)
-- WeylWords.kills(II)I
def wX11_kills_67 : am_T := tQ (tB [(.iload 5, 0, 0, 0), (.bipush 11, 0, 0, 0)] (.if_icmp .gt 51) [122]) (tQ (tS [(.aload_n 0, 0, 0, 0), (.getfield 81, 11, 9, 0), (.iload 5, 0, 0, 0), (.iconst 1, 0, 0, 0), (.aload_n 3, 0, 0, 0), (.iload 5, 0, 0, 0), (.iaload, 0, 0, 0), (.invokevirtual 123, 52, 4, 6), (.iload 5, 0, 0, 0)]) (tQ (tK 116 (tQ (tB [] (.ifCond .le 26) [116]) (tS [(.aload_n 0, 0, 0, 0), (.getfield 81, 11, 9, 0), (.iload 5, 0, 0, 0), (.iconst 1, 0, 0, 0), (.isub, 0, 0, 0), (.iconst 0, 0, 0, 0), (.iload 5, 0, 0, 0), (.ineg, 0, 0, 0), (.aload_n 3, 0, 0, 0), (.iload 5, 0, 0, 0), (.iaload, 0, 0, 0), (.imul, 0, 0, 0), (.invokestatic 119, 9, 1, 0), (.invokevirtual 123, 52, 4, 6)]))) (tB [(.iinc 5 1, 0, 0, 0)] (.goto (-52)) [67])))
def tX11_kills : am_T := tQ (tS [(.iload_n 1, 0, 0, 0), (.invokestatic 95, 125, 1, 0)]) (tQ (tK 19 (tQ (tK 14 (tQ (tB [] (.ifCond .eq 10) [14]) (tB [(.iload_n 2, 0, 0, 0), (.invokestatic 169, 126, 1, 0)] (.ifCond .ne 8) [19]))) (tB [(.aload_n 0, 0, 0, 0), (.invokevirtual 103, 121, 1, 11)] (.ireturn) [0]))) (tQ (tS [(.aload_n 0, 0, 0, 0), (.getfield 10, 11, 0, 0), (.getfield 175, 8, 1, 0), (.iload_n 2, 0, 0, 0), (.aaload, 0, 0, 0), (.astore_n 3, 0, 0, 0), (.aload_n 3, 0, 0, 0), (.invokestatic 197, 1, 1, 0), (.istore 4, 0, 0, 0), (.iload 4, 0, 0, 0)]) (tQ (tK 45 (tQ (tB [] (.ifCond .ge 8) [45]) (tB [(.aload_n 0, 0, 0, 0), (.invokevirtual 205, 122, 1, 11)] (.ireturn) [0]))) (tQ (tS [(.iload 4, 0, 0, 0), (.bipush 11, 0, 0, 0)]) (tQ (tK 57 (tQ (tB [] (.if_icmp .le 8) [57]) (tB [(.aload_n 0, 0, 0, 0), (.invokevirtual 144, 123, 1, 11)] (.ireturn) [0]))) (tQ (tS [(.aload_n 0, 0, 0, 0), (.getfield 81, 11, 9, 0), (.invokevirtual 130, 53, 1, 6), (.iconst 0, 0, 0, 0), (.istore 5, 0, 0, 0)]) (tQ (tK 122 (tW 67 wX11_kills_67)) (tB [(.aload_n 0, 0, 0, 0), (.iload_n 1, 0, 0, 0), (.invokevirtual 137, 120, 2, 11)] (.ireturn) [0]))))))))
def qX11_kills : am_M := (RX11, yX11_kills, cX11_kills, 6, (some .int), tX11_kills)
-- WeylWords.rest(III)I
def wX11_rest_29 : am_T := tQ (tB [(.iload 4, 0, 0, 0), (.bipush 6, 0, 0, 0)] (.if_icmp .ge 39) [72]) (tQ (tS [(.iload_n 3, 0, 0, 0), (.iload 4, 0, 0, 0), (.invokestatic 211, 129, 2, 0)]) (tQ (tK 66 (tQ (tB [] (.ifCond .eq 24) [66]) (tQ (tB [(.aload_n 0, 0, 0, 0), (.getfield 10, 11, 0, 0), (.getfield 111, 8, 0, 0), (.iload 4, 0, 0, 0), (.aaload, 0, 0, 0), (.invokevirtual 214, 60, 1, 6)] (.ifCond .eq 8) [66]) (tB [(.aload_n 0, 0, 0, 0), (.invokevirtual 205, 122, 1, 11)] (.ireturn) [0])))) (tB [(.iinc 4 1, 0, 0, 0)] (.goto (-40)) [29])))
def wX11_rest_89 : am_T := tQ (tB [(.iload 4, 0, 0, 0), (.bipush 6, 0, 0, 0)] (.if_icmp .ge 35) [128]) (tQ (tS [(.iload_n 3, 0, 0, 0), (.iload 4, 0, 0, 0), (.invokestatic 211, 129, 2, 0)]) (tQ (tK 122 (tQ (tB [] (.ifCond .eq 20) [122]) (tS [(.aload_n 0, 0, 0, 0), (.getfield 42, 11, 4, 0), (.aload_n 0, 0, 0, 0), (.getfield 10, 11, 0, 0), (.getfield 111, 8, 0, 0), (.iload 4, 0, 0, 0), (.aaload, 0, 0, 0), (.invokevirtual 222, 38, 2, 4)]))) (tB [(.iinc 4 1, 0, 0, 0)] (.goto (-36)) [89])))
def tX11_rest : am_T := tQ (tS [(.iload_n 1, 0, 0, 0), (.invokestatic 95, 125, 1, 0)]) (tQ (tK 26 (tQ (tK 21 (tQ (tB [] (.ifCond .eq 17) [21]) (tQ (tB [(.iload_n 2, 0, 0, 0), (.invokestatic 95, 125, 1, 0)] (.ifCond .eq 10) [21]) (tB [(.iload_n 3, 0, 0, 0), (.invokestatic 208, 128, 1, 0)] (.ifCond .ne 8) [26])))) (tB [(.aload_n 0, 0, 0, 0), (.invokevirtual 103, 121, 1, 11)] (.ireturn) [0]))) (tQ (tS [(.iconst 0, 0, 0, 0), (.istore 4, 0, 0, 0)]) (tQ (tK 72 (tW 29 wX11_rest_29)) (tQ (tS [(.aload_n 0, 0, 0, 0), (.getfield 42, 11, 4, 0), (.aload_n 0, 0, 0, 0), (.getfield 10, 11, 0, 0), (.getfield 163, 8, 2, 0), (.invokevirtual 218, 37, 2, 4), (.iconst 0, 0, 0, 0), (.istore 4, 0, 0, 0)]) (tQ (tK 128 (tW 89 wX11_rest_89)) (tB [(.aload_n 0, 0, 0, 0), (.getfield 81, 11, 9, 0), (.aload_n 0, 0, 0, 0), (.getfield 10, 11, 0, 0), (.getfield 111, 8, 0, 0), (.iload_n 2, 0, 0, 0), (.aaload, 0, 0, 0), (.invokevirtual 226, 55, 2, 6), (.aload_n 0, 0, 0, 0), (.getfield 42, 11, 4, 0), (.aload_n 0, 0, 0, 0), (.getfield 81, 11, 9, 0), (.invokevirtual 229, 39, 2, 4), (.aload_n 0, 0, 0, 0), (.iload_n 1, 0, 0, 0), (.invokevirtual 137, 120, 2, 11)] (.ireturn) [0]))))))
def qX11_rest : am_M := (RX11, yX11_rest, cX11_rest, 5, (some .int), tX11_rest)
-- WeylWords.basis(I)I
def tX11_basis : am_T := tQ (tS [(.iload_n 1, 0, 0, 0), (.invokestatic 208, 128, 1, 0)]) (tQ (tK 12 (tQ (tB [] (.ifCond .ne 8) [12]) (tB [(.aload_n 0, 0, 0, 0), (.invokevirtual 103, 121, 1, 11)] (.ireturn) [0]))) (tQ (tS [(.aload_n 0, 0, 0, 0), (.iload_n 1, 0, 0, 0), (.invokevirtual 232, 124, 2, 11)]) (tQ (tK 25 (tQ (tB [] (.ifCond .ne 8) [25]) (tB [(.aload_n 0, 0, 0, 0), (.invokevirtual 205, 122, 1, 11)] (.ireturn) [0]))) (tB [(.aload_n 0, 0, 0, 0), (.getfield 51, 11, 5, 0), (.aload_n 0, 0, 0, 0), (.getfield 10, 11, 0, 0), (.iload_n 1, 0, 0, 0), (.invokevirtual 235, 25, 3, 3), (.getfield 239, 2, 5, 0)] (.ireturn) [0]))))
def qX11_basis : am_M := (RX11, yX11_basis, cX11_basis, 2, (some .int), tX11_basis)
-- WeylWords.based(IIII)I
def tX11_based : am_T := tQ (tS [(.iload_n 3, 0, 0, 0)]) (tQ (tK 27 (tQ (tK 26 (tQ (tB [] (.ifCond .lt 25) [26]) (tQ (tB [(.iload_n 3, 0, 0, 0), (.bipush 15, 0, 0, 0)] (.if_icmp .gt 19) [26]) (tQ (tB [(.iload 4, 0, 0, 0)] (.ifCond .lt 14) [26]) (tQ (tB [(.iload 4, 0, 0, 0), (.bipush 15, 0, 0, 0)] (.if_icmp .gt 7) [26]) (tB [(.iconst 1, 0, 0, 0)] (.goto 4) [27])))))) (tS [(.iconst 0, 0, 0, 0)]))) (tQ (tS [(.istore 5, 0, 0, 0), (.iload_n 1, 0, 0, 0), (.invokestatic 208, 128, 1, 0)]) (tQ (tK 50 (tQ (tK 45 (tQ (tB [] (.ifCond .eq 12) [45]) (tQ (tB [(.iload_n 2, 0, 0, 0)] (.ifCond .lt 8) [45]) (tB [(.iload 5, 0, 0, 0)] (.ifCond .ne 8) [50])))) (tB [(.aload_n 0, 0, 0, 0), (.invokevirtual 103, 121, 1, 11)] (.ireturn) [0]))) (tQ (tS [(.aload_n 0, 0, 0, 0), (.iload_n 1, 0, 0, 0), (.invokevirtual 232, 124, 2, 11)]) (tQ (tK 63 (tQ (tB [] (.ifCond .ne 8) [63]) (tB [(.aload_n 0, 0, 0, 0), (.invokevirtual 205, 122, 1, 11)] (.ireturn) [0]))) (tQ (tS [(.aload_n 0, 0, 0, 0), (.getfield 51, 11, 5, 0), (.aload_n 0, 0, 0, 0), (.getfield 10, 11, 0, 0), (.iload_n 1, 0, 0, 0), (.invokevirtual 235, 25, 3, 3), (.astore 6, 0, 0, 0), (.iload_n 2, 0, 0, 0), (.aload 6, 0, 0, 0), (.getfield 239, 2, 5, 0)]) (tQ (tK 106 (tQ (tK 105 (tQ (tB [] (.if_icmp .ge 22) [105]) (tB [(.aload 6, 0, 0, 0), (.getfield 244, 2, 0, 0), (.iload_n 2, 0, 0, 0), (.aaload, 0, 0, 0), (.iload_n 3, 0, 0, 0), (.iload 4, 0, 0, 0), (.invokevirtual 115, 51, 3, 6), (.invokestatic 127, 10, 1, 0)] (.goto 4) [106]))) (tS [(.iconst 0, 0, 0, 0)]))) (tB [] (.ireturn) [0]))))))))
def qX11_based : am_M := (RX11, yX11_based, cX11_based, 7, (some .int), tX11_based)
-- WeylWords.stairs(II)I
def wX11_stairs_54 : am_T := tQ (tB [(.iload 5, 0, 0, 0), (.iload_n 2, 0, 0, 0)] (.if_icmp .gt 25) [82]) (tQ (tS [(.aload_n 3, 0, 0, 0), (.iload_n 2, 0, 0, 0), (.iload 5, 0, 0, 0), (.isub, 0, 0, 0), (.iload 5, 0, 0, 0), (.invokevirtual 247, 19, 3, 2)]) (tQ (tK 76 (tQ (tB [] (.ifCond .ne 6) [76]) (tS [(.iinc 4 1, 0, 0, 0)]))) (tB [(.iinc 5 1, 0, 0, 0)] (.goto (-25)) [54])))
def tX11_stairs : am_T := tQ (tS [(.iload_n 1, 0, 0, 0), (.invokestatic 208, 128, 1, 0)]) (tQ (tK 22 (tQ (tK 17 (tQ (tB [] (.ifCond .eq 13) [17]) (tQ (tB [(.iload_n 2, 0, 0, 0)] (.ifCond .lt 9) [17]) (tB [(.iload_n 2, 0, 0, 0), (.bipush 20, 0, 0, 0)] (.if_icmp .le 8) [22])))) (tB [(.aload_n 0, 0, 0, 0), (.invokevirtual 103, 121, 1, 11)] (.ireturn) [0]))) (tQ (tS [(.aload_n 0, 0, 0, 0), (.iload_n 1, 0, 0, 0), (.invokevirtual 232, 124, 2, 11)]) (tQ (tK 35 (tQ (tB [] (.ifCond .ne 8) [35]) (tB [(.aload_n 0, 0, 0, 0), (.invokevirtual 205, 122, 1, 11)] (.ireturn) [0]))) (tQ (tS [(.aload_n 0, 0, 0, 0), (.getfield 51, 11, 5, 0), (.aload_n 0, 0, 0, 0), (.getfield 10, 11, 0, 0), (.iload_n 1, 0, 0, 0), (.invokevirtual 235, 25, 3, 3), (.astore_n 3, 0, 0, 0), (.iconst 0, 0, 0, 0), (.istore 4, 0, 0, 0), (.iconst 0, 0, 0, 0), (.istore 5, 0, 0, 0)]) (tQ (tK 82 (tW 54 wX11_stairs_54)) (tB [(.iload 4, 0, 0, 0)] (.ireturn) [0]))))))
def qX11_stairs : am_M := (RX11, yX11_stairs, cX11_stairs, 6, (some .int), tX11_stairs)
-- WeylWords.within(II)I
def wX11_within_62 : am_T := tQ (tB [(.iload 4, 0, 0, 0), (.aload_n 3, 0, 0, 0), (.getfield 239, 2, 5, 0)] (.if_icmp .ge 23) [91]) (tB [(.aload_n 0, 0, 0, 0), (.getfield 42, 11, 4, 0), (.aload_n 3, 0, 0, 0), (.getfield 244, 2, 0, 0), (.iload 4, 0, 0, 0), (.aaload, 0, 0, 0), (.invokevirtual 222, 38, 2, 4), (.iinc 4 1, 0, 0, 0)] (.goto (-26)) [62])
def tX11_within : am_T := tQ (tS [(.iload_n 1, 0, 0, 0), (.invokestatic 95, 125, 1, 0)]) (tQ (tK 19 (tQ (tK 14 (tQ (tB [] (.ifCond .eq 10) [14]) (tB [(.iload_n 2, 0, 0, 0), (.invokestatic 208, 128, 1, 0)] (.ifCond .ne 8) [19]))) (tB [(.aload_n 0, 0, 0, 0), (.invokevirtual 103, 121, 1, 11)] (.ireturn) [0]))) (tQ (tS [(.aload_n 0, 0, 0, 0), (.iload_n 2, 0, 0, 0), (.invokevirtual 232, 124, 2, 11)]) (tQ (tK 32 (tQ (tB [] (.ifCond .ne 8) [32]) (tB [(.aload_n 0, 0, 0, 0), (.invokevirtual 205, 122, 1, 11)] (.ireturn) [0]))) (tQ (tS [(.aload_n 0, 0, 0, 0), (.getfield 51, 11, 5, 0), (.aload_n 0, 0, 0, 0), (.getfield 10, 11, 0, 0), (.iload_n 2, 0, 0, 0), (.invokevirtual 235, 25, 3, 3), (.astore_n 3, 0, 0, 0), (.aload_n 0, 0, 0, 0), (.getfield 42, 11, 4, 0), (.aload_n 0, 0, 0, 0), (.getfield 10, 11, 0, 0), (.getfield 163, 8, 2, 0), (.invokevirtual 218, 37, 2, 4), (.iconst 0, 0, 0, 0), (.istore 4, 0, 0, 0)]) (tQ (tK 91 (tW 62 wX11_within_62)) (tQ (tS [(.aload_n 0, 0, 0, 0), (.getfield 81, 11, 9, 0), (.aload_n 0, 0, 0, 0), (.getfield 10, 11, 0, 0), (.getfield 111, 8, 0, 0), (.iload_n 1, 0, 0, 0), (.aaload, 0, 0, 0), (.invokevirtual 226, 55, 2, 6), (.aload_n 0, 0, 0, 0), (.getfield 42, 11, 4, 0), (.aload_n 0, 0, 0, 0), (.getfield 81, 11, 9, 0), (.invokevirtual 229, 39, 2, 4), (.aload_n 0, 0, 0, 0), (.getfield 81, 11, 9, 0), (.invokevirtual 214, 60, 1, 6)]) (tQ (tK 133 (tQ (tK 132 (tQ (tB [] (.ifCond .eq 7) [132]) (tB [(.iconst 1, 0, 0, 0)] (.goto 4) [133]))) (tS [(.iconst 0, 0, 0, 0)]))) (tB [] (.ireturn) [0]))))))))
def qX11_within : am_M := (RX11, yX11_within, cX11_within, 5, (some .int), tX11_within)
-- WeylWords.type(I)I
def tX11_type : am_T := tQ (tS [(.iload_n 1, 0, 0, 0)]) (tQ (tK 15 (tQ (tK 10 (tQ (tB [] (.ifCond .lt 9) [10]) (tB [(.iload_n 1, 0, 0, 0), (.bipush 127, 0, 0, 0)] (.if_icmp .le 8) [15]))) (tB [(.aload_n 0, 0, 0, 0), (.invokevirtual 103, 121, 1, 11)] (.ireturn) [0]))) (tQ (tS [(.aload_n 0, 0, 0, 0), (.getfield 26, 11, 2, 0), (.getfield 250, 9, 1, 0), (.bipush 120, 0, 0, 0)]) (tQ (tK 32 (tQ (tB [] (.if_icmp .lt 8) [32]) (tB [(.aload_n 0, 0, 0, 0), (.invokevirtual 144, 123, 1, 11)] (.ireturn) [0]))) (tB [(.aload_n 0, 0, 0, 0), (.getfield 26, 11, 2, 0), (.iload_n 1, 0, 0, 0), (.invokevirtual 253, 76, 2, 9), (.aload_n 0, 0, 0, 0), (.getfield 26, 11, 2, 0), (.getfield 250, 9, 1, 0)] (.ireturn) [0]))))
def qX11_type : am_M := (RX11, yX11_type, cX11_type, 2, (some .int), tX11_type)
-- WeylWords.clear()I
def tX11_clear : am_T := tB [(.aload_n 0, 0, 0, 0), (.getfield 26, 11, 2, 0), (.getfield 250, 9, 1, 0), (.istore_n 1, 0, 0, 0), (.aload_n 0, 0, 0, 0), (.getfield 26, 11, 2, 0), (.iconst 0, 0, 0, 0), (.putfield 250, 9, 1, 0), (.iload_n 1, 0, 0, 0)] (.ireturn) [0]
def qX11_clear : am_M := (RX11, yX11_clear, cX11_clear, 2, (some .int), tX11_clear)
-- WeylWords.reads(I)I
def tX11_reads : am_T := tQ (tS [(.iload_n 1, 0, 0, 0), (.invokestatic 95, 125, 1, 0)]) (tQ (tK 12 (tQ (tB [] (.ifCond .ne 8) [12]) (tB [(.aload_n 0, 0, 0, 0), (.invokevirtual 103, 121, 1, 11)] (.ireturn) [0]))) (tQ (tS [(.aload_n 0, 0, 0, 0), (.getfield 26, 11, 2, 0), (.invokevirtual 256, 79, 1, 9), (.istore_n 2, 0, 0, 0), (.iload_n 2, 0, 0, 0)]) (tQ (tK 30 (tQ (tB [] (.ifCond .lt 9) [30]) (tB [(.sipush (-30000), 0, 0, 0), (.iload_n 2, 0, 0, 0), (.isub, 0, 0, 0)] (.ireturn) [0]))) (tQ (tS [(.aload_n 0, 0, 0, 0), (.getfield 67, 11, 7, 0), (.aload_n 0, 0, 0, 0), (.getfield 81, 11, 9, 0), (.invokevirtual 259, 67, 2, 7)]) (tQ (tK 49 (tQ (tB [] (.ifCond .ne 8) [49]) (tB [(.aload_n 0, 0, 0, 0), (.invokevirtual 144, 123, 1, 11)] (.ireturn) [0]))) (tB [(.aload_n 0, 0, 0, 0), (.iload_n 1, 0, 0, 0), (.invokevirtual 137, 120, 2, 11)] (.ireturn) [0]))))))
def qX11_reads : am_M := (RX11, yX11_reads, cX11_reads, 3, (some .int), tX11_reads)
-- WeylWords.shown(II)I
def tX11_shown : am_T := tQ (tS [(.iload_n 1, 0, 0, 0), (.invokestatic 95, 125, 1, 0)]) (tQ (tK 16 (tQ (tK 11 (tQ (tB [] (.ifCond .eq 7) [11]) (tB [(.iload_n 2, 0, 0, 0)] (.ifCond .ge 8) [16]))) (tB [(.aload_n 0, 0, 0, 0), (.invokevirtual 103, 121, 1, 11)] (.ireturn) [0]))) (tB [(.aload_n 0, 0, 0, 0), (.getfield 74, 11, 8, 0), (.aload_n 0, 0, 0, 0), (.getfield 10, 11, 0, 0), (.getfield 111, 8, 0, 0), (.iload_n 1, 0, 0, 0), (.aaload, 0, 0, 0), (.aload_n 0, 0, 0, 0), (.getfield 10, 11, 0, 0), (.getfield 163, 8, 2, 0), (.iload_n 2, 0, 0, 0), (.invokevirtual 263, 87, 4, 10)] (.ireturn) [0]))
def qX11_shown : am_M := (RX11, yX11_shown, cX11_shown, 3, (some .int), tX11_shown)
-- WeylWords.back()I
def tX11_back : am_T := tQ (tS [(.aload_n 0, 0, 0, 0), (.getfield 19, 11, 1, 0), (.getfield 267, 5, 2, 0)]) (tQ (tK 15 (tQ (tB [] (.ifCond .ne 8) [15]) (tB [(.aload_n 0, 0, 0, 0), (.invokevirtual 205, 122, 1, 11)] (.ireturn) [0]))) (tB [(.aload_n 0, 0, 0, 0), (.getfield 19, 11, 1, 0), (.aload_n 0, 0, 0, 0), (.getfield 10, 11, 0, 0), (.invokevirtual 270, 43, 2, 5), (.aload_n 0, 0, 0, 0), (.getfield 19, 11, 1, 0), (.getfield 267, 5, 2, 0)] (.ireturn) [0]))
def qX11_back : am_M := (RX11, yX11_back, cX11_back, 1, (some .int), tX11_back)
-- WeylWords.told(I)I
def tX11_told : am_T := tQ (tS [(.iload_n 1, 0, 0, 0)]) (tQ (tK 79 (tQ (tK 71 (tQ (tK 63 (tQ (tK 55 (tQ (tK 50 (tQ (tK 45 (tQ (tK 40 (tB [] (.tableswitch 78 0 5 #[39, 44, 49, 54, 62, 70]) [79, 40, 45, 50, 55, 63, 71])) (tB [(.aload_n 0, 0, 0, 0), (.getfield 85, 11, 10, 0)] (.ireturn) [0]))) (tB [(.aload_n 0, 0, 0, 0), (.getfield 89, 11, 11, 0)] (.ireturn) [0]))) (tB [(.aload_n 0, 0, 0, 0), (.getfield 92, 11, 12, 0)] (.ireturn) [0]))) (tB [(.aload_n 0, 0, 0, 0), (.getfield 26, 11, 2, 0), (.getfield 250, 9, 1, 0)] (.ireturn) [0]))) (tB [(.aload_n 0, 0, 0, 0), (.getfield 10, 11, 0, 0), (.getfield 163, 8, 2, 0)] (.ireturn) [0]))) (tB [(.aload_n 0, 0, 0, 0), (.getfield 19, 11, 1, 0), (.getfield 267, 5, 2, 0)] (.ireturn) [0]))) (tB [(.aload_n 0, 0, 0, 0), (.invokevirtual 103, 121, 1, 11)] (.ireturn) [0]))
def qX11_told : am_M := (RX11, yX11_told, cX11_told, 2, (some .int), tX11_told)
-- WeylWords.digest()J
def wX11_digest_6 : am_T := tQ (tB [(.iload_n 3, 0, 0, 0), (.iconst 5, 0, 0, 0)] (.if_icmp .gt 22) [30]) (tB [(.ldc2_w 275, 31, 0, 0), (.lload_n 1, 0, 0, 0), (.lmul, 0, 0, 0), (.aload_n 0, 0, 0, 0), (.iload_n 3, 0, 0, 0), (.invokevirtual 277, 117, 2, 11), (.i2l, 0, 0, 0), (.ladd, 0, 0, 0), (.lstore_n 1, 0, 0, 0), (.iinc 3 1, 0, 0, 0)] (.goto (-21)) [6])
def wX11_digest_52 : am_T := tQ (tB [(.iload 5, 0, 0, 0), (.bipush 8, 0, 0, 0)] (.if_icmp .gt 31) [87]) (tB [(.ldc2_w 275, 31, 0, 0), (.lload_n 1, 0, 0, 0), (.lmul, 0, 0, 0), (.aload 4, 0, 0, 0), (.iload 5, 0, 0, 0), (.aload_n 0, 0, 0, 0), (.getfield 10, 11, 0, 0), (.getfield 163, 8, 2, 0), (.invokevirtual 166, 63, 3, 6), (.i2l, 0, 0, 0), (.ladd, 0, 0, 0), (.lstore_n 1, 0, 0, 0), (.iinc 5 1, 0, 0, 0)] (.goto (-32)) [52])
def wX11_digest_32 : am_T := tQ (tB [(.iload_n 3, 0, 0, 0), (.bipush 6, 0, 0, 0)] (.if_icmp .ge 68) [103]) (tQ (tS [(.aload_n 0, 0, 0, 0), (.getfield 10, 11, 0, 0), (.getfield 111, 8, 0, 0), (.iload_n 3, 0, 0, 0), (.aaload, 0, 0, 0), (.astore 4, 0, 0, 0), (.iconst 0, 0, 0, 0), (.istore 5, 0, 0, 0)]) (tQ (tK 87 (tW 52 wX11_digest_52)) (tB [(.lload_n 1, 0, 0, 0), (.aload 4, 0, 0, 0), (.getfield 280, 6, 0, 0), (.invokestatic 283, 119, 2, 0), (.lstore_n 1, 0, 0, 0), (.iinc 3 1, 0, 0, 0)] (.goto (-68)) [32])))
def wX11_digest_105 : am_T := tQ (tB [(.iload_n 3, 0, 0, 0), (.iconst 2, 0, 0, 0)] (.if_icmp .ge 23) [130]) (tB [(.lload_n 1, 0, 0, 0), (.aload_n 0, 0, 0, 0), (.getfield 10, 11, 0, 0), (.getfield 175, 8, 1, 0), (.iload_n 3, 0, 0, 0), (.aaload, 0, 0, 0), (.invokestatic 283, 119, 2, 0), (.lstore_n 1, 0, 0, 0), (.iinc 3 1, 0, 0, 0)] (.goto (-22)) [105])
def tX11_digest : am_T := tQ (tS [(.ldc2_w 273, 2339, 0, 0), (.lstore_n 1, 0, 0, 0), (.iconst 0, 0, 0, 0), (.istore_n 3, 0, 0, 0)]) (tQ (tK 30 (tW 6 wX11_digest_6)) (tQ (tS [(.iconst 0, 0, 0, 0), (.istore_n 3, 0, 0, 0)]) (tQ (tK 103 (tW 32 wX11_digest_32)) (tQ (tS [(.iconst 0, 0, 0, 0), (.istore_n 3, 0, 0, 0)]) (tQ (tK 130 (tW 105 wX11_digest_105)) (tB [(.lload_n 1, 0, 0, 0)] (.lreturn) []))))))
def qX11_digest : am_M := (RX11, yX11_digest, cX11_digest, 6, (some .long), tX11_digest)
-- WeylWords.mixed(J[I)J
def wX11_mixed_13 : am_T := tQ (tB [(.iload 7, 0, 0, 0), (.iload 6, 0, 0, 0)] (.if_icmp .ge 29) [46]) (tB [(.aload 5, 0, 0, 0), (.iload 7, 0, 0, 0), (.iaload, 0, 0, 0), (.istore 8, 0, 0, 0), (.ldc2_w 275, 31, 0, 0), (.lload_n 3, 0, 0, 0), (.lmul, 0, 0, 0), (.iload 8, 0, 0, 0), (.invokestatic 127, 10, 1, 0), (.i2l, 0, 0, 0), (.ladd, 0, 0, 0), (.lstore_n 3, 0, 0, 0), (.iinc 7 1, 0, 0, 0)] (.goto (-30)) [13])
def tX11_mixed : am_T := tQ (tS [(.lload_n 0, 0, 0, 0), (.lstore_n 3, 0, 0, 0), (.aload_n 2, 0, 0, 0), (.astore 5, 0, 0, 0), (.aload 5, 0, 0, 0), (.arraylength, 0, 0, 0), (.istore 6, 0, 0, 0), (.iconst 0, 0, 0, 0), (.istore 7, 0, 0, 0)]) (tQ (tK 46 (tW 13 wX11_mixed_13)) (tB [(.lload_n 3, 0, 0, 0)] (.lreturn) []))
def qX11_mixed : am_M := (RX11, yX11_mixed, cX11_mixed, 9, (some .long), tX11_mixed)
-- WeylWords.replaceOperator(I)I
def tX11_replaceOperator : am_T := tB [(.aload_n 0, 0, 0, 0), (.getfield 19, 11, 1, 0), (.aload_n 0, 0, 0, 0), (.getfield 10, 11, 0, 0), (.invokevirtual 107, 42, 2, 5), (.aload_n 0, 0, 0, 0), (.getfield 10, 11, 0, 0), (.getfield 111, 8, 0, 0), (.iload_n 1, 0, 0, 0), (.aaload, 0, 0, 0), (.aload_n 0, 0, 0, 0), (.getfield 81, 11, 9, 0), (.invokevirtual 226, 55, 2, 6), (.aload_n 0, 0, 0, 0), (.getfield 81, 11, 9, 0), (.invokevirtual 287, 58, 1, 6)] (.ireturn) [0]
def qX11_replaceOperator : am_M := (RX11, yX11_replaceOperator, cX11_replaceOperator, 2, (some .int), tX11_replaceOperator)
-- WeylWords.bad()I
def tX11_bad : am_T := tB [(.aload_n 0, 0, 0, 0), (.dup, 0, 0, 0), (.getfield 85, 11, 10, 0), (.iconst 1, 0, 0, 0), (.iadd, 0, 0, 0), (.putfield 85, 11, 10, 0), (.sipush (-20002), 0, 0, 0)] (.ireturn) [0]
def qX11_bad : am_M := (RX11, yX11_bad, cX11_bad, 1, (some .int), tX11_bad)
-- WeylWords.no()I
def tX11_no : am_T := tB [(.aload_n 0, 0, 0, 0), (.dup, 0, 0, 0), (.getfield 89, 11, 11, 0), (.iconst 1, 0, 0, 0), (.iadd, 0, 0, 0), (.putfield 89, 11, 11, 0), (.sipush (-20003), 0, 0, 0)] (.ireturn) [0]
def qX11_no : am_M := (RX11, yX11_no, cX11_no, 1, (some .int), tX11_no)
-- WeylWords.full()I
def tX11_full : am_T := tB [(.aload_n 0, 0, 0, 0), (.dup, 0, 0, 0), (.getfield 92, 11, 12, 0), (.iconst 1, 0, 0, 0), (.iadd, 0, 0, 0), (.putfield 92, 11, 12, 0), (.sipush (-20004), 0, 0, 0)] (.ireturn) [0]
def qX11_full : am_M := (RX11, yX11_full, cX11_full, 1, (some .int), tX11_full)
-- WeylWords.hasBasis(I)Z
def wX11_hasBasis_2 : am_T := tQ (tB [(.iload_n 2, 0, 0, 0), (.bipush 6, 0, 0, 0)] (.if_icmp .ge 35) [40]) (tQ (tS [(.iload_n 1, 0, 0, 0), (.iload_n 2, 0, 0, 0), (.invokestatic 211, 129, 2, 0)]) (tQ (tK 34 (tQ (tB [] (.ifCond .eq 21) [34]) (tQ (tB [(.aload_n 0, 0, 0, 0), (.getfield 10, 11, 0, 0), (.getfield 111, 8, 0, 0), (.iload_n 2, 0, 0, 0), (.aaload, 0, 0, 0), (.invokevirtual 290, 61, 1, 6), (.iconst 3, 0, 0, 0)] (.if_icmp .le 5) [34]) (tB [(.iconst 0, 0, 0, 0)] (.ireturn) [1])))) (tB [(.iinc 2 1, 0, 0, 0)] (.goto (-35)) [2])))
def tX11_hasBasis : am_T := tQ (tS [(.iconst 0, 0, 0, 0), (.istore_n 2, 0, 0, 0)]) (tQ (tK 40 (tW 2 wX11_hasBasis_2)) (tB [(.iconst 1, 0, 0, 0)] (.ireturn) [1]))
def qX11_hasBasis : am_M := (RX11, yX11_hasBasis, cX11_hasBasis, 3, (some .boolean), tX11_hasBasis)
-- WeylWords.isOperator(I)Z
def tX11_isOperator : am_T := tQ (tS [(.iload_n 0, 0, 0, 0)]) (tQ (tK 15 (tQ (tK 14 (tQ (tB [] (.ifCond .lt 13) [14]) (tQ (tB [(.iload_n 0, 0, 0, 0), (.bipush 6, 0, 0, 0)] (.if_icmp .ge 7) [14]) (tB [(.iconst 1, 0, 0, 0)] (.goto 4) [15])))) (tS [(.iconst 0, 0, 0, 0)]))) (tB [] (.ireturn) [1]))
def qX11_isOperator : am_M := (RX11, yX11_isOperator, cX11_isOperator, 1, (some .boolean), tX11_isOperator)
-- WeylWords.isPolynomial(I)Z
def tX11_isPolynomial : am_T := tQ (tS [(.iload_n 0, 0, 0, 0)]) (tQ (tK 14 (tQ (tK 13 (tQ (tB [] (.ifCond .lt 12) [13]) (tQ (tB [(.iload_n 0, 0, 0, 0), (.iconst 2, 0, 0, 0)] (.if_icmp .ge 7) [13]) (tB [(.iconst 1, 0, 0, 0)] (.goto 4) [14])))) (tS [(.iconst 0, 0, 0, 0)]))) (tB [] (.ireturn) [1]))
def qX11_isPolynomial : am_M := (RX11, yX11_isPolynomial, cX11_isPolynomial, 1, (some .boolean), tX11_isPolynomial)
-- WeylWords.isPower(I)Z
def tX11_isPower : am_T := tQ (tS [(.iload_n 0, 0, 0, 0)]) (tQ (tK 15 (tQ (tK 14 (tQ (tB [] (.ifCond .lt 13) [14]) (tQ (tB [(.iload_n 0, 0, 0, 0), (.bipush 30, 0, 0, 0)] (.if_icmp .gt 7) [14]) (tB [(.iconst 1, 0, 0, 0)] (.goto 4) [15])))) (tS [(.iconst 0, 0, 0, 0)]))) (tB [] (.ireturn) [1]))
def qX11_isPower : am_M := (RX11, yX11_isPower, cX11_isPower, 1, (some .boolean), tX11_isPower)
-- WeylWords.isSet(I)Z
def tX11_isSet : am_T := tQ (tS [(.iload_n 0, 0, 0, 0)]) (tQ (tK 15 (tQ (tK 14 (tQ (tB [] (.ifCond .le 13) [14]) (tQ (tB [(.iload_n 0, 0, 0, 0), (.bipush 64, 0, 0, 0)] (.if_icmp .ge 7) [14]) (tB [(.iconst 1, 0, 0, 0)] (.goto 4) [15])))) (tS [(.iconst 0, 0, 0, 0)]))) (tB [] (.ireturn) [1]))
def qX11_isSet : am_M := (RX11, yX11_isSet, cX11_isSet, 1, (some .boolean), tX11_isSet)
-- WeylWords.isInSet(II)Z
def tX11_isInSet : am_T := tQ (tS [(.iload_n 0, 0, 0, 0), (.iload_n 1, 0, 0, 0), (.ishr, 0, 0, 0), (.iconst 1, 0, 0, 0), (.iand, 0, 0, 0), (.iconst 1, 0, 0, 0)]) (tQ (tK 14 (tQ (tK 13 (tQ (tB [] (.if_icmp .ne 7) [13]) (tB [(.iconst 1, 0, 0, 0)] (.goto 4) [14]))) (tS [(.iconst 0, 0, 0, 0)]))) (tB [] (.ireturn) [1]))
def qX11_isInSet : am_M := (RX11, yX11_isInSet, cX11_isInSet, 2, (some .boolean), tX11_isInSet)
-- WeylWordsModel.<init>()V
def wX12_init_149 : am_T := tQ (tB [(.iload_n 2, 0, 0, 0), (.iload_n 1, 0, 0, 0)] (.if_icmp .gt 89) [240]) (tQ (tS [(.aload_n 0, 0, 0, 0), (.getfield 25, 12, 7, 0), (.iload_n 1, 0, 0, 0), (.iload_n 2, 0, 0, 0), (.isub, 0, 0, 0), (.iload_n 2, 0, 0, 0), (.invokestatic 59, 132, 2, 0), (.iload_n 1, 0, 0, 0), (.iload_n 2, 0, 0, 0), (.isub, 0, 0, 0), (.iastore, 0, 0, 0), (.aload_n 0, 0, 0, 0), (.getfield 28, 12, 8, 0), (.iload_n 1, 0, 0, 0), (.iload_n 2, 0, 0, 0), (.isub, 0, 0, 0), (.iload_n 2, 0, 0, 0), (.invokestatic 59, 132, 2, 0), (.iload_n 2, 0, 0, 0), (.iastore, 0, 0, 0), (.aload_n 0, 0, 0, 0), (.getfield 31, 12, 9, 0), (.bipush 31, 0, 0, 0), (.iload_n 1, 0, 0, 0), (.imul, 0, 0, 0), (.iload_n 2, 0, 0, 0), (.iadd, 0, 0, 0), (.iload_n 2, 0, 0, 0)]) (tQ (tK 233 (tQ (tK 200 (tQ (tB [] (.ifCond .ne 7) [200]) (tB [(.iconst 1, 0, 0, 0)] (.goto 36) [233]))) (tS [(.aload_n 0, 0, 0, 0), (.getfield 31, 12, 9, 0), (.bipush 31, 0, 0, 0), (.iload_n 1, 0, 0, 0), (.imul, 0, 0, 0), (.iload_n 2, 0, 0, 0), (.iadd, 0, 0, 0), (.bipush 31, 0, 0, 0), (.isub, 0, 0, 0), (.iaload, 0, 0, 0), (.aload_n 0, 0, 0, 0), (.getfield 31, 12, 9, 0), (.bipush 31, 0, 0, 0), (.iload_n 1, 0, 0, 0), (.imul, 0, 0, 0), (.iload_n 2, 0, 0, 0), (.iadd, 0, 0, 0), (.bipush 32, 0, 0, 0), (.isub, 0, 0, 0), (.iaload, 0, 0, 0), (.iadd, 0, 0, 0), (.sipush 10007, 0, 0, 0), (.irem, 0, 0, 0)]))) (tB [(.iastore, 0, 0, 0), (.iinc 2 1, 0, 0, 0)] (.goto (-88)) [149])))
def wX12_init_141 : am_T := tQ (tB [(.iload_n 1, 0, 0, 0), (.bipush 30, 0, 0, 0)] (.if_icmp .gt 102) [246]) (tQ (tS [(.iconst 0, 0, 0, 0), (.istore_n 2, 0, 0, 0)]) (tQ (tK 240 (tW 149 wX12_init_149)) (tB [(.iinc 1 1, 0, 0, 0)] (.goto (-102)) [141])))
def tX12_init : am_T := tQ (tS [(.aload_n 0, 0, 0, 0), (.invokespecial 1, 998, 1, 0), (.aload_n 0, 0, 0, 0), (.sipush 609, 0, 0, 0), (.newarray .int, 20, 0, 0), (.putfield 7, 12, 0, 3), (.aload_n 0, 0, 0, 0), (.sipush 3045, 0, 0, 0), (.newarray .int, 20, 0, 0), (.putfield 13, 12, 1, 3), (.aload_n 0, 0, 0, 0), (.iconst 3, 0, 0, 0), (.newarray .int, 20, 0, 0), (.putfield 16, 12, 3, 3), (.aload_n 0, 0, 0, 0), (.bipush 120, 0, 0, 0), (.newarray .int, 20, 0, 0), (.putfield 19, 12, 4, 3), (.aload_n 0, 0, 0, 0), (.sipush 22816, 0, 0, 0), (.newarray .int, 20, 0, 0), (.putfield 22, 12, 6, 3), (.aload_n 0, 0, 0, 0), (.sipush 496, 0, 0, 0), (.newarray .int, 20, 0, 0), (.putfield 25, 12, 7, 3), (.aload_n 0, 0, 0, 0), (.sipush 496, 0, 0, 0), (.newarray .int, 20, 0, 0), (.putfield 28, 12, 8, 3), (.aload_n 0, 0, 0, 0), (.sipush 961, 0, 0, 0), (.newarray .int, 20, 0, 0), (.putfield 31, 12, 9, 3), (.aload_n 0, 0, 0, 0), (.bipush 31, 0, 0, 0), (.newarray .int, 20, 0, 0), (.putfield 34, 12, 10, 3), (.aload_n 0, 0, 0, 0), (.sipush 448, 0, 0, 0), (.newarray .int, 20, 0, 0), (.putfield 37, 12, 11, 3), (.aload_n 0, 0, 0, 0), (.bipush 24, 0, 0, 0), (.newarray .int, 20, 0, 0), (.putfield 40, 12, 12, 3), (.aload_n 0, 0, 0, 0), (.bipush 24, 0, 0, 0), (.newarray .int, 20, 0, 0), (.putfield 43, 12, 14, 3), (.aload_n 0, 0, 0, 0), (.bipush 24, 0, 0, 0), (.newarray .int, 20, 0, 0), (.putfield 46, 12, 15, 3), (.aload_n 0, 0, 0, 0), (.bipush 9, 0, 0, 0), (.newarray .boolean, 21, 0, 0), (.putfield 49, 12, 25, 3), (.aload_n 0, 0, 0, 0), (.bipush 9, 0, 0, 0), (.newarray .boolean, 21, 0, 0), (.putfield 53, 12, 26, 3), (.aload_n 0, 0, 0, 0), (.sipush 1500, 0, 0, 0), (.newarray .int, 20, 0, 0), (.putfield 56, 12, 28, 3), (.iconst 0, 0, 0, 0), (.istore_n 1, 0, 0, 0)]) (tQ (tK 246 (tW 141 wX12_init_141)) (tB [] (.return_) []))
def qX12_init : am_M := (RX12, yX12_init, cX12_init, 3, none, tX12_init)
-- WeylWordsModel.in(III)Z
def tX12_in : am_T := tQ (tS [(.iload_n 0, 0, 0, 0), (.iload_n 1, 0, 0, 0)]) (tQ (tK 15 (tQ (tK 14 (tQ (tB [] (.if_icmp .lt 12) [14]) (tQ (tB [(.iload_n 0, 0, 0, 0), (.iload_n 2, 0, 0, 0)] (.if_icmp .gt 7) [14]) (tB [(.iconst 1, 0, 0, 0)] (.goto 4) [15])))) (tS [(.iconst 0, 0, 0, 0)]))) (tB [] (.ireturn) [1]))
def qX12_in : am_M := (RX12, yX12_in, cX12_in, 3, (some .boolean), tX12_in)
-- WeylWordsModel.wordAt(II)I
def tX12_wordAt : am_T := tB [(.iload_n 0, 0, 0, 0), (.iload_n 1, 0, 0, 0), (.iadd, 0, 0, 0), (.iload_n 0, 0, 0, 0), (.iload_n 1, 0, 0, 0), (.iadd, 0, 0, 0), (.iconst 1, 0, 0, 0), (.iadd, 0, 0, 0), (.imul, 0, 0, 0), (.iconst 2, 0, 0, 0), (.idiv, 0, 0, 0), (.iload_n 1, 0, 0, 0), (.iadd, 0, 0, 0)] (.ireturn) [0]
def qX12_wordAt : am_M := (RX12, yX12_wordAt, cX12_wordAt, 2, (some .int), tX12_wordAt)
-- WeylWordsModel.restOf(I)I
def tX12_restOf : am_T := tQ (tS [(.iload_n 0, 0, 0, 0), (.sipush 10007, 0, 0, 0), (.irem, 0, 0, 0), (.istore_n 1, 0, 0, 0), (.iload_n 1, 0, 0, 0)]) (tQ (tK 19 (tQ (tK 18 (tQ (tB [] (.ifCond .ge 11) [18]) (tB [(.iload_n 1, 0, 0, 0), (.sipush 10007, 0, 0, 0), (.iadd, 0, 0, 0)] (.goto 4) [19]))) (tS [(.iload_n 1, 0, 0, 0)]))) (tB [] (.ireturn) [0]))
def qX12_restOf : am_M := (RX12, yX12_restOf, cX12_restOf, 2, (some .int), tX12_restOf)
-- WeylWordsModel.tell(I)I
def tX12_tell : am_T := tQ (tS [(.iload_n 0, 0, 0, 0), (.sipush 5003, 0, 0, 0)]) (tQ (tK 16 (tQ (tK 15 (tQ (tB [] (.if_icmp .le 11) [15]) (tB [(.iload_n 0, 0, 0, 0), (.sipush 10007, 0, 0, 0), (.isub, 0, 0, 0)] (.goto 4) [16]))) (tS [(.iload_n 0, 0, 0, 0)]))) (tB [] (.ireturn) [0]))
def qX12_tell : am_M := (RX12, yX12_tell, cX12_tell, 1, (some .int), tX12_tell)
-- WeylWordsModel.bad()I
def tX12_bad : am_T := tB [(.aload_n 0, 0, 0, 0), (.getfield 16, 12, 3, 0), (.iconst 0, 0, 0, 0), (.dup2, 0, 0, 0), (.iaload, 0, 0, 0), (.iconst 1, 0, 0, 0), (.iadd, 0, 0, 0), (.iastore, 0, 0, 0), (.sipush (-20002), 0, 0, 0)] (.ireturn) [0]
def qX12_bad : am_M := (RX12, yX12_bad, cX12_bad, 1, (some .int), tX12_bad)
-- WeylWordsModel.no()I
def tX12_no : am_T := tB [(.aload_n 0, 0, 0, 0), (.getfield 16, 12, 3, 0), (.iconst 1, 0, 0, 0), (.dup2, 0, 0, 0), (.iaload, 0, 0, 0), (.iconst 1, 0, 0, 0), (.iadd, 0, 0, 0), (.iastore, 0, 0, 0), (.sipush (-20003), 0, 0, 0)] (.ireturn) [0]
def qX12_no : am_M := (RX12, yX12_no, cX12_no, 1, (some .int), tX12_no)
-- WeylWordsModel.full()I
def tX12_full : am_T := tB [(.aload_n 0, 0, 0, 0), (.getfield 16, 12, 3, 0), (.iconst 2, 0, 0, 0), (.dup2, 0, 0, 0), (.iaload, 0, 0, 0), (.iconst 1, 0, 0, 0), (.iadd, 0, 0, 0), (.iastore, 0, 0, 0), (.sipush (-20004), 0, 0, 0)] (.ireturn) [0]
def qX12_full : am_M := (RX12, yX12_full, cX12_full, 1, (some .int), tX12_full)
-- WeylWordsModel.remembers()V
def wX12_remembers_15 : am_T := tQ (tB [(.iload_n 1, 0, 0, 0), (.sipush 2436, 0, 0, 0)] (.if_icmp .ge 25) [44]) (tB [(.aload_n 0, 0, 0, 0), (.getfield 13, 12, 1, 0), (.iload_n 1, 0, 0, 0), (.aload_n 0, 0, 0, 0), (.getfield 13, 12, 1, 0), (.iload_n 1, 0, 0, 0), (.sipush 609, 0, 0, 0), (.iadd, 0, 0, 0), (.iaload, 0, 0, 0), (.iastore, 0, 0, 0), (.iinc 1 1, 0, 0, 0)] (.goto (-26)) [15])
def wX12_remembers_56 : am_T := tQ (tB [(.iload_n 1, 0, 0, 0), (.sipush 609, 0, 0, 0)] (.if_icmp .ge 30) [90]) (tB [(.aload_n 0, 0, 0, 0), (.getfield 13, 12, 1, 0), (.sipush 609, 0, 0, 0), (.aload_n 0, 0, 0, 0), (.getfield 67, 12, 2, 0), (.imul, 0, 0, 0), (.iload_n 1, 0, 0, 0), (.iadd, 0, 0, 0), (.aload_n 0, 0, 0, 0), (.getfield 7, 12, 0, 0), (.iload_n 1, 0, 0, 0), (.iaload, 0, 0, 0), (.iastore, 0, 0, 0), (.iinc 1 1, 0, 0, 0)] (.goto (-31)) [56])
def tX12_remembers : am_T := tQ (tS [(.aload_n 0, 0, 0, 0), (.iconst 0, 0, 0, 0), (.putfield 63, 12, 17, 0), (.aload_n 0, 0, 0, 0), (.getfield 67, 12, 2, 0), (.iconst 5, 0, 0, 0)]) (tQ (tK 54 (tQ (tB [] (.if_icmp .ne 44) [54]) (tQ (tS [(.iconst 0, 0, 0, 0), (.istore_n 1, 0, 0, 0)]) (tQ (tK 44 (tW 15 wX12_remembers_15)) (tS [(.aload_n 0, 0, 0, 0), (.dup, 0, 0, 0), (.getfield 67, 12, 2, 0), (.iconst 1, 0, 0, 0), (.isub, 0, 0, 0), (.putfield 67, 12, 2, 0)]))))) (tQ (tS [(.iconst 0, 0, 0, 0), (.istore_n 1, 0, 0, 0)]) (tQ (tK 90 (tW 56 wX12_remembers_56)) (tB [(.aload_n 0, 0, 0, 0), (.dup, 0, 0, 0), (.getfield 67, 12, 2, 0), (.iconst 1, 0, 0, 0), (.iadd, 0, 0, 0), (.putfield 67, 12, 2, 0)] (.return_) []))))
def qX12_remembers : am_M := (RX12, yX12_remembers, cX12_remembers, 2, none, tX12_remembers)
-- WeylWordsModel.back()I
def wX12_back_29 : am_T := tQ (tB [(.iload_n 1, 0, 0, 0), (.sipush 609, 0, 0, 0)] (.if_icmp .ge 30) [63]) (tB [(.aload_n 0, 0, 0, 0), (.getfield 7, 12, 0, 0), (.iload_n 1, 0, 0, 0), (.aload_n 0, 0, 0, 0), (.getfield 13, 12, 1, 0), (.sipush 609, 0, 0, 0), (.aload_n 0, 0, 0, 0), (.getfield 67, 12, 2, 0), (.imul, 0, 0, 0), (.iload_n 1, 0, 0, 0), (.iadd, 0, 0, 0), (.iaload, 0, 0, 0), (.iastore, 0, 0, 0), (.iinc 1 1, 0, 0, 0)] (.goto (-31)) [29])
def tX12_back : am_T := tQ (tS [(.aload_n 0, 0, 0, 0), (.getfield 67, 12, 2, 0)]) (tQ (tK 12 (tQ (tB [] (.ifCond .ne 8) [12]) (tB [(.aload_n 0, 0, 0, 0), (.invokevirtual 70, 136, 1, 12)] (.ireturn) [0]))) (tQ (tS [(.aload_n 0, 0, 0, 0), (.dup, 0, 0, 0), (.getfield 67, 12, 2, 0), (.iconst 1, 0, 0, 0), (.isub, 0, 0, 0), (.putfield 67, 12, 2, 0), (.aload_n 0, 0, 0, 0), (.iconst 0, 0, 0, 0), (.putfield 63, 12, 17, 0), (.iconst 0, 0, 0, 0), (.istore_n 1, 0, 0, 0)]) (tQ (tK 63 (tW 29 wX12_back_29)) (tB [(.aload_n 0, 0, 0, 0), (.getfield 67, 12, 2, 0)] (.ireturn) [0]))))
def qX12_back : am_M := (RX12, yX12_back, cX12_back, 2, (some .int), tX12_back)
-- WeylWordsModel.isOperator(I)Z
def tX12_isOperator : am_T := tB [(.iload_n 0, 0, 0, 0), (.iconst 0, 0, 0, 0), (.iconst 5, 0, 0, 0), (.invokestatic 74, 131, 3, 0)] (.ireturn) [1]
def qX12_isOperator : am_M := (RX12, yX12_isOperator, cX12_isOperator, 1, (some .boolean), tX12_isOperator)
-- WeylWordsModel.isWord(II)Z
def tX12_isWord : am_T := tQ (tS [(.iload_n 0, 0, 0, 0), (.iconst 0, 0, 0, 0), (.bipush 12, 0, 0, 0), (.invokestatic 74, 131, 3, 0)]) (tQ (tK 27 (tQ (tK 26 (tQ (tB [] (.ifCond .eq 19) [26]) (tQ (tB [(.iload_n 1, 0, 0, 0), (.iconst 0, 0, 0, 0), (.bipush 12, 0, 0, 0), (.iload_n 0, 0, 0, 0), (.isub, 0, 0, 0), (.invokestatic 74, 131, 3, 0)] (.ifCond .eq 7) [26]) (tB [(.iconst 1, 0, 0, 0)] (.goto 4) [27])))) (tS [(.iconst 0, 0, 0, 0)]))) (tB [] (.ireturn) [1]))
def qX12_isWord : am_M := (RX12, yX12_isWord, cX12_isWord, 2, (some .boolean), tX12_isWord)
-- WeylWordsModel.wipe(I)V
def wX12_wipe_2 : am_T := tQ (tB [(.iload_n 2, 0, 0, 0), (.sipush 496, 0, 0, 0)] (.if_icmp .ge 22) [28]) (tB [(.aload_n 0, 0, 0, 0), (.getfield 22, 12, 6, 0), (.sipush 496, 0, 0, 0), (.iload_n 1, 0, 0, 0), (.imul, 0, 0, 0), (.iload_n 2, 0, 0, 0), (.iadd, 0, 0, 0), (.iconst 0, 0, 0, 0), (.iastore, 0, 0, 0), (.iinc 2 1, 0, 0, 0)] (.goto (-23)) [2])
def tX12_wipe : am_T := tQ (tS [(.iconst 0, 0, 0, 0), (.istore_n 2, 0, 0, 0)]) (tQ (tK 28 (tW 2 wX12_wipe_2)) (tB [] (.return_) []))
def qX12_wipe : am_M := (RX12, yX12_wipe, cX12_wipe, 3, none, tX12_wipe)
-- WeylWordsModel.copies(II)V
def wX12_copies_2 : am_T := tQ (tB [(.iload_n 3, 0, 0, 0), (.sipush 496, 0, 0, 0)] (.if_icmp .ge 33) [39]) (tB [(.aload_n 0, 0, 0, 0), (.getfield 22, 12, 6, 0), (.sipush 496, 0, 0, 0), (.iload_n 2, 0, 0, 0), (.imul, 0, 0, 0), (.iload_n 3, 0, 0, 0), (.iadd, 0, 0, 0), (.aload_n 0, 0, 0, 0), (.getfield 22, 12, 6, 0), (.sipush 496, 0, 0, 0), (.iload_n 1, 0, 0, 0), (.imul, 0, 0, 0), (.iload_n 3, 0, 0, 0), (.iadd, 0, 0, 0), (.iaload, 0, 0, 0), (.iastore, 0, 0, 0), (.iinc 3 1, 0, 0, 0)] (.goto (-34)) [2])
def tX12_copies : am_T := tQ (tS [(.iconst 0, 0, 0, 0), (.istore_n 3, 0, 0, 0)]) (tQ (tK 39 (tW 2 wX12_copies_2)) (tB [] (.return_) []))
def qX12_copies : am_M := (RX12, yX12_copies, cX12_copies, 4, none, tX12_copies)
-- WeylWordsModel.fetches(II)V
def wX12_fetches_7 : am_T := tQ (tB [(.iload_n 3, 0, 0, 0), (.bipush 91, 0, 0, 0)] (.if_icmp .ge 32) [42]) (tB [(.aload_n 0, 0, 0, 0), (.getfield 22, 12, 6, 0), (.sipush 496, 0, 0, 0), (.iload_n 2, 0, 0, 0), (.imul, 0, 0, 0), (.iload_n 3, 0, 0, 0), (.iadd, 0, 0, 0), (.aload_n 0, 0, 0, 0), (.getfield 7, 12, 0, 0), (.bipush 91, 0, 0, 0), (.iload_n 1, 0, 0, 0), (.imul, 0, 0, 0), (.iload_n 3, 0, 0, 0), (.iadd, 0, 0, 0), (.iaload, 0, 0, 0), (.iastore, 0, 0, 0), (.iinc 3 1, 0, 0, 0)] (.goto (-32)) [7])
def tX12_fetches : am_T := tQ (tS [(.aload_n 0, 0, 0, 0), (.iload_n 2, 0, 0, 0), (.invokevirtual 78, 142, 2, 12), (.iconst 0, 0, 0, 0), (.istore_n 3, 0, 0, 0)]) (tQ (tK 42 (tW 7 wX12_fetches_7)) (tB [] (.return_) []))
def qX12_fetches : am_M := (RX12, yX12_fetches, cX12_fetches, 4, none, tX12_fetches)
-- WeylWordsModel.termsIn(I)I
def wX12_termsIn_4 : am_T := tQ (tB [(.iload_n 3, 0, 0, 0), (.sipush 496, 0, 0, 0)] (.if_icmp .ge 32) [40]) (tQ (tS [(.iload_n 2, 0, 0, 0), (.aload_n 0, 0, 0, 0), (.getfield 22, 12, 6, 0), (.sipush 496, 0, 0, 0), (.iload_n 1, 0, 0, 0), (.imul, 0, 0, 0), (.iload_n 3, 0, 0, 0), (.iadd, 0, 0, 0), (.iaload, 0, 0, 0)]) (tQ (tK 32 (tQ (tK 31 (tQ (tB [] (.ifCond .ne 7) [31]) (tB [(.iconst 0, 0, 0, 0)] (.goto 4) [32]))) (tS [(.iconst 1, 0, 0, 0)]))) (tB [(.iadd, 0, 0, 0), (.istore_n 2, 0, 0, 0), (.iinc 3 1, 0, 0, 0)] (.goto (-33)) [4])))
def tX12_termsIn : am_T := tQ (tS [(.iconst 0, 0, 0, 0), (.istore_n 2, 0, 0, 0), (.iconst 0, 0, 0, 0), (.istore_n 3, 0, 0, 0)]) (tQ (tK 40 (tW 4 wX12_termsIn_4)) (tB [(.iload_n 2, 0, 0, 0)] (.ireturn) [0]))
def qX12_termsIn : am_M := (RX12, yX12_termsIn, cX12_termsIn, 4, (some .int), tX12_termsIn)
-- WeylWordsModel.keeps(II)I
def wX12_keeps_6 : am_T := tQ (tB [(.iload_n 3, 0, 0, 0), (.bipush 91, 0, 0, 0)] (.if_icmp .ge 32) [41]) (tB [(.aload_n 0, 0, 0, 0), (.getfield 7, 12, 0, 0), (.bipush 91, 0, 0, 0), (.iload_n 1, 0, 0, 0), (.imul, 0, 0, 0), (.iload_n 3, 0, 0, 0), (.iadd, 0, 0, 0), (.aload_n 0, 0, 0, 0), (.getfield 22, 12, 6, 0), (.sipush 496, 0, 0, 0), (.iload_n 2, 0, 0, 0), (.imul, 0, 0, 0), (.iload_n 3, 0, 0, 0), (.iadd, 0, 0, 0), (.iaload, 0, 0, 0), (.iastore, 0, 0, 0), (.iinc 3 1, 0, 0, 0)] (.goto (-32)) [6])
def tX12_keeps : am_T := tQ (tS [(.aload_n 0, 0, 0, 0), (.invokevirtual 82, 138, 1, 12), (.iconst 0, 0, 0, 0), (.istore_n 3, 0, 0, 0)]) (tQ (tK 41 (tW 6 wX12_keeps_6)) (tB [(.aload_n 0, 0, 0, 0), (.iload_n 2, 0, 0, 0), (.invokevirtual 85, 145, 2, 12)] (.ireturn) [0]))
def qX12_keeps : am_M := (RX12, yX12_keeps, cX12_keeps, 4, (some .int), tX12_keeps)
-- WeylWordsModel.degreeIn(I)I
def wX12_degreeIn_4 : am_T := tQ (tB [(.iload_n 2, 0, 0, 0)] (.ifCond .lt 24) [29]) (tQ (tB [(.aload_n 0, 0, 0, 0), (.getfield 22, 12, 6, 0), (.sipush 496, 0, 0, 0), (.iload_n 1, 0, 0, 0), (.imul, 0, 0, 0), (.iload_n 2, 0, 0, 0), (.iadd, 0, 0, 0), (.iaload, 0, 0, 0)] (.ifCond .ne 9) [29]) (tB [(.iinc 2 (-1), 0, 0, 0)] (.goto (-22)) [4]))
def tX12_degreeIn : am_T := tQ (tS [(.sipush 495, 0, 0, 0), (.istore_n 2, 0, 0, 0)]) (tQ (tK 29 (tW 4 wX12_degreeIn_4)) (tQ (tS [(.iload_n 2, 0, 0, 0)]) (tQ (tK 50 (tQ (tK 37 (tQ (tB [] (.ifCond .ge 7) [37]) (tB [(.iconst (-1), 0, 0, 0)] (.goto 16) [50]))) (tS [(.aload_n 0, 0, 0, 0), (.getfield 25, 12, 7, 0), (.iload_n 2, 0, 0, 0), (.iaload, 0, 0, 0), (.aload_n 0, 0, 0, 0), (.getfield 28, 12, 8, 0), (.iload_n 2, 0, 0, 0), (.iaload, 0, 0, 0), (.iadd, 0, 0, 0)]))) (tB [] (.ireturn) [0]))))
def qX12_degreeIn : am_M := (RX12, yX12_degreeIn, cX12_degreeIn, 3, (some .int), tX12_degreeIn)
-- WeylWordsModel.wordBehind(II)I
def tX12_wordBehind : am_T := tQ (tS [(.aload_n 0, 0, 0, 0), (.getfield 7, 12, 0, 0), (.sipush 608, 0, 0, 0), (.iaload, 0, 0, 0)]) (tQ (tK 28 (tQ (tK 21 (tQ (tB [] (.ifCond .ne 13) [21]) (tB [(.iload_n 2, 0, 0, 0), (.iload_n 1, 0, 0, 0), (.iload_n 2, 0, 0, 0), (.isub, 0, 0, 0), (.invokestatic 59, 132, 2, 0)] (.goto 10) [28]))) (tS [(.iload_n 1, 0, 0, 0), (.iload_n 2, 0, 0, 0), (.isub, 0, 0, 0), (.iload_n 2, 0, 0, 0), (.invokestatic 59, 132, 2, 0)]))) (tB [] (.ireturn) [0]))
def qX12_wordBehind : am_M := (RX12, yX12_wordBehind, cX12_wordBehind, 3, (some .int), tX12_wordBehind)
-- WeylWordsModel.leadIn(I)I
def wX12_leadIn_8 : am_T := tQ (tB [(.iload_n 3, 0, 0, 0), (.iload_n 2, 0, 0, 0)] (.if_icmp .gt 36) [46]) (tQ (tS [(.aload_n 0, 0, 0, 0), (.iload_n 2, 0, 0, 0), (.iload_n 3, 0, 0, 0), (.invokevirtual 92, 148, 3, 12), (.istore 4, 0, 0, 0), (.aload_n 0, 0, 0, 0), (.getfield 22, 12, 6, 0), (.sipush 496, 0, 0, 0), (.iload_n 1, 0, 0, 0), (.imul, 0, 0, 0), (.iload 4, 0, 0, 0), (.iadd, 0, 0, 0), (.iaload, 0, 0, 0)]) (tQ (tK 40 (tQ (tB [] (.ifCond .eq 6) [40]) (tB [(.iload 4, 0, 0, 0)] (.ireturn) [0]))) (tB [(.iinc 3 1, 0, 0, 0)] (.goto (-35)) [8])))
def tX12_leadIn : am_T := tQ (tS [(.aload_n 0, 0, 0, 0), (.iload_n 1, 0, 0, 0), (.invokevirtual 89, 147, 2, 12), (.istore_n 2, 0, 0, 0), (.iconst 0, 0, 0, 0), (.istore_n 3, 0, 0, 0)]) (tQ (tK 46 (tW 8 wX12_leadIn_8)) (tB [(.iconst (-1), 0, 0, 0)] (.ireturn) [0]))
def qX12_leadIn : am_M := (RX12, yX12_leadIn, cX12_leadIn, 5, (some .int), tX12_leadIn)
-- WeylWordsModel.adds(IIIIII)V
def wX12_adds_7 : am_T := tQ (tB [(.iload 8, 0, 0, 0), (.iload_n 3, 0, 0, 0)] (.if_icmp .gt 87) [97]) (tQ (tB [(.iload 8, 0, 0, 0), (.iload_n 2, 0, 0, 0)] (.if_icmp .gt 81) [97]) (tB [(.sipush 496, 0, 0, 0), (.iload 6, 0, 0, 0), (.imul, 0, 0, 0), (.iload_n 1, 0, 0, 0), (.iload_n 3, 0, 0, 0), (.iadd, 0, 0, 0), (.iload 8, 0, 0, 0), (.isub, 0, 0, 0), (.iload_n 2, 0, 0, 0), (.iload 8, 0, 0, 0), (.isub, 0, 0, 0), (.iload 4, 0, 0, 0), (.iadd, 0, 0, 0), (.invokestatic 59, 132, 2, 0), (.iadd, 0, 0, 0), (.istore 9, 0, 0, 0), (.aload_n 0, 0, 0, 0), (.getfield 22, 12, 6, 0), (.iload 9, 0, 0, 0), (.aload_n 0, 0, 0, 0), (.getfield 22, 12, 6, 0), (.iload 9, 0, 0, 0), (.iaload, 0, 0, 0), (.aload_n 0, 0, 0, 0), (.getfield 31, 12, 9, 0), (.bipush 31, 0, 0, 0), (.iload_n 2, 0, 0, 0), (.imul, 0, 0, 0), (.iload 8, 0, 0, 0), (.iadd, 0, 0, 0), (.iaload, 0, 0, 0), (.iload 7, 0, 0, 0), (.imul, 0, 0, 0), (.iadd, 0, 0, 0), (.sipush 10007, 0, 0, 0), (.irem, 0, 0, 0), (.iastore, 0, 0, 0), (.iload 7, 0, 0, 0), (.iload_n 3, 0, 0, 0), (.iload 8, 0, 0, 0), (.isub, 0, 0, 0), (.imul, 0, 0, 0), (.sipush 10007, 0, 0, 0), (.irem, 0, 0, 0), (.istore 7, 0, 0, 0), (.iinc 8 1, 0, 0, 0)] (.goto (-87)) [7]))
def tX12_adds : am_T := tQ (tS [(.iload 5, 0, 0, 0), (.istore 7, 0, 0, 0), (.iconst 0, 0, 0, 0), (.istore 8, 0, 0, 0)]) (tQ (tK 97 (tW 7 wX12_adds_7)) (tB [] (.return_) []))
def qX12_adds : am_M := (RX12, yX12_adds, cX12_adds, 10, none, tX12_adds)
-- WeylWordsModel.addsBehind(IIIII)V
def wX12_addsBehind_11 : am_T := tQ (tB [(.iload 7, 0, 0, 0), (.iload 6, 0, 0, 0), (.iconst 1, 0, 0, 0), (.iadd, 0, 0, 0), (.iload 6, 0, 0, 0), (.iconst 2, 0, 0, 0), (.iadd, 0, 0, 0), (.imul, 0, 0, 0), (.iconst 2, 0, 0, 0), (.idiv, 0, 0, 0)] (.if_icmp .ge 60) [84]) (tQ (tS [(.aload_n 0, 0, 0, 0), (.getfield 22, 12, 6, 0), (.sipush 496, 0, 0, 0), (.iload 4, 0, 0, 0), (.imul, 0, 0, 0), (.iload 7, 0, 0, 0), (.iadd, 0, 0, 0), (.iaload, 0, 0, 0), (.istore 8, 0, 0, 0), (.iload 8, 0, 0, 0)]) (tQ (tK 78 (tQ (tB [] (.ifCond .eq 33) [78]) (tS [(.aload_n 0, 0, 0, 0), (.iload_n 1, 0, 0, 0), (.iload_n 2, 0, 0, 0), (.aload_n 0, 0, 0, 0), (.getfield 25, 12, 7, 0), (.iload 7, 0, 0, 0), (.iaload, 0, 0, 0), (.aload_n 0, 0, 0, 0), (.getfield 28, 12, 8, 0), (.iload 7, 0, 0, 0), (.iaload, 0, 0, 0), (.iload_n 3, 0, 0, 0), (.iload 8, 0, 0, 0), (.imul, 0, 0, 0), (.sipush 10007, 0, 0, 0), (.irem, 0, 0, 0), (.iload 5, 0, 0, 0), (.invokevirtual 95, 150, 7, 12)]))) (tB [(.iinc 7 1, 0, 0, 0)] (.goto (-70)) [11])))
def tX12_addsBehind : am_T := tQ (tS [(.aload_n 0, 0, 0, 0), (.iload 4, 0, 0, 0), (.invokevirtual 89, 147, 2, 12), (.istore 6, 0, 0, 0), (.iconst 0, 0, 0, 0), (.istore 7, 0, 0, 0)]) (tQ (tK 84 (tW 11 wX12_addsBehind_11)) (tB [] (.return_) []))
def qX12_addsBehind : am_M := (RX12, yX12_addsBehind, cX12_addsBehind, 9, none, tX12_addsBehind)
-- WeylWordsModel.multiplies(III)V
def wX12_multiplies_15 : am_T := tQ (tB [(.iload 5, 0, 0, 0), (.iload 4, 0, 0, 0), (.iconst 1, 0, 0, 0), (.iadd, 0, 0, 0), (.iload 4, 0, 0, 0), (.iconst 2, 0, 0, 0), (.iadd, 0, 0, 0), (.imul, 0, 0, 0), (.iconst 2, 0, 0, 0), (.idiv, 0, 0, 0)] (.if_icmp .ge 51) [79]) (tQ (tS [(.aload_n 0, 0, 0, 0), (.getfield 22, 12, 6, 0), (.sipush 496, 0, 0, 0), (.iload_n 1, 0, 0, 0), (.imul, 0, 0, 0), (.iload 5, 0, 0, 0), (.iadd, 0, 0, 0), (.iaload, 0, 0, 0), (.istore 6, 0, 0, 0), (.iload 6, 0, 0, 0)]) (tQ (tK 73 (tQ (tB [] (.ifCond .eq 25) [73]) (tS [(.aload_n 0, 0, 0, 0), (.aload_n 0, 0, 0, 0), (.getfield 25, 12, 7, 0), (.iload 5, 0, 0, 0), (.iaload, 0, 0, 0), (.aload_n 0, 0, 0, 0), (.getfield 28, 12, 8, 0), (.iload 5, 0, 0, 0), (.iaload, 0, 0, 0), (.iload 6, 0, 0, 0), (.iload_n 2, 0, 0, 0), (.iload_n 3, 0, 0, 0), (.invokevirtual 99, 151, 6, 12)]))) (tB [(.iinc 5 1, 0, 0, 0)] (.goto (-61)) [15])))
def tX12_multiplies : am_T := tQ (tS [(.aload_n 0, 0, 0, 0), (.iload_n 3, 0, 0, 0), (.invokevirtual 78, 142, 2, 12), (.aload_n 0, 0, 0, 0), (.iload_n 1, 0, 0, 0), (.invokevirtual 89, 147, 2, 12), (.istore 4, 0, 0, 0), (.iconst 0, 0, 0, 0), (.istore 5, 0, 0, 0)]) (tQ (tK 79 (tW 15 wX12_multiplies_15)) (tB [] (.return_) []))
def qX12_multiplies : am_M := (RX12, yX12_multiplies, cX12_multiplies, 7, none, tX12_multiplies)
-- WeylWordsModel.isTooMuch(II)Z
def tX12_isTooMuch : am_T := tQ (tS [(.aload_n 0, 0, 0, 0), (.iload_n 1, 0, 0, 0), (.invokevirtual 89, 147, 2, 12), (.istore_n 3, 0, 0, 0), (.aload_n 0, 0, 0, 0), (.iload_n 2, 0, 0, 0), (.invokevirtual 89, 147, 2, 12), (.istore 4, 0, 0, 0), (.iload_n 3, 0, 0, 0)]) (tQ (tK 36 (tQ (tK 35 (tQ (tB [] (.ifCond .lt 21) [35]) (tQ (tB [(.iload 4, 0, 0, 0)] (.ifCond .lt 16) [35]) (tQ (tB [(.iload_n 3, 0, 0, 0), (.iload 4, 0, 0, 0), (.iadd, 0, 0, 0), (.bipush 12, 0, 0, 0)] (.if_icmp .le 7) [35]) (tB [(.iconst 1, 0, 0, 0)] (.goto 4) [36]))))) (tS [(.iconst 0, 0, 0, 0)]))) (tB [] (.ireturn) [1]))
def qX12_isTooMuch : am_M := (RX12, yX12_isTooMuch, cX12_isTooMuch, 5, (some .boolean), tX12_isTooMuch)
-- WeylWordsModel.isPowerTooMuch(II)Z
def tX12_isPowerTooMuch : am_T := tQ (tS [(.iload_n 2, 0, 0, 0), (.aload_n 0, 0, 0, 0), (.iload_n 1, 0, 0, 0), (.invokevirtual 89, 147, 2, 12), (.imul, 0, 0, 0), (.bipush 12, 0, 0, 0)]) (tQ (tK 17 (tQ (tK 16 (tQ (tB [] (.if_icmp .le 7) [16]) (tB [(.iconst 1, 0, 0, 0)] (.goto 4) [17]))) (tS [(.iconst 0, 0, 0, 0)]))) (tB [] (.ireturn) [1]))
def qX12_isPowerTooMuch : am_M := (RX12, yX12_isPowerTooMuch, cX12_isPowerTooMuch, 3, (some .boolean), tX12_isPowerTooMuch)
-- WeylWordsModel.raises(I)V
def wX12_raises_25 : am_T := tQ (tB [(.iload_n 2, 0, 0, 0), (.iload_n 1, 0, 0, 0)] (.if_icmp .ge 27) [54]) (tB [(.aload_n 0, 0, 0, 0), (.bipush 27, 0, 0, 0), (.bipush 26, 0, 0, 0), (.bipush 25, 0, 0, 0), (.invokevirtual 107, 152, 4, 12), (.aload_n 0, 0, 0, 0), (.bipush 25, 0, 0, 0), (.bipush 27, 0, 0, 0), (.invokevirtual 103, 143, 3, 12), (.iinc 2 1, 0, 0, 0)] (.goto (-26)) [25])
def tX12_raises : am_T := tQ (tS [(.aload_n 0, 0, 0, 0), (.bipush 27, 0, 0, 0), (.bipush 26, 0, 0, 0), (.invokevirtual 103, 143, 3, 12), (.aload_n 0, 0, 0, 0), (.bipush 27, 0, 0, 0), (.invokevirtual 78, 142, 2, 12), (.aload_n 0, 0, 0, 0), (.getfield 22, 12, 6, 0), (.sipush 13392, 0, 0, 0), (.iconst 1, 0, 0, 0), (.iastore, 0, 0, 0), (.iconst 0, 0, 0, 0), (.istore_n 2, 0, 0, 0)]) (tQ (tK 54 (tW 25 wX12_raises_25)) (tB [] (.return_) []))
def qX12_raises : am_M := (RX12, yX12_raises, cX12_raises, 3, none, tX12_raises)
-- WeylWordsModel.mixes(IIIII)V
def wX12_mixes_3 : am_T := tQ (tB [(.iload 6, 0, 0, 0), (.sipush 496, 0, 0, 0)] (.if_icmp .ge 59) [67]) (tB [(.aload_n 0, 0, 0, 0), (.getfield 22, 12, 6, 0), (.sipush 496, 0, 0, 0), (.iload 5, 0, 0, 0), (.imul, 0, 0, 0), (.iload 6, 0, 0, 0), (.iadd, 0, 0, 0), (.iload_n 2, 0, 0, 0), (.aload_n 0, 0, 0, 0), (.getfield 22, 12, 6, 0), (.sipush 496, 0, 0, 0), (.iload_n 1, 0, 0, 0), (.imul, 0, 0, 0), (.iload 6, 0, 0, 0), (.iadd, 0, 0, 0), (.iaload, 0, 0, 0), (.imul, 0, 0, 0), (.iload 4, 0, 0, 0), (.aload_n 0, 0, 0, 0), (.getfield 22, 12, 6, 0), (.sipush 496, 0, 0, 0), (.iload_n 3, 0, 0, 0), (.imul, 0, 0, 0), (.iload 6, 0, 0, 0), (.iadd, 0, 0, 0), (.iaload, 0, 0, 0), (.imul, 0, 0, 0), (.iadd, 0, 0, 0), (.sipush 10007, 0, 0, 0), (.irem, 0, 0, 0), (.iastore, 0, 0, 0), (.iinc 6 1, 0, 0, 0)] (.goto (-61)) [3])
def tX12_mixes : am_T := tQ (tS [(.iconst 0, 0, 0, 0), (.istore 6, 0, 0, 0)]) (tQ (tK 67 (tW 3 wX12_mixes_3)) (tB [] (.return_) []))
def qX12_mixes : am_M := (RX12, yX12_mixes, cX12_mixes, 7, none, tX12_mixes)
-- WeylWordsModel.sets(IIII)I
def tX12_sets : am_T := tQ (tS [(.iload_n 1, 0, 0, 0), (.invokestatic 111, 140, 1, 0)]) (tQ (tK 20 (tQ (tK 15 (tQ (tB [] (.ifCond .eq 11) [15]) (tB [(.iload_n 2, 0, 0, 0), (.iload_n 3, 0, 0, 0), (.invokestatic 115, 141, 2, 0)] (.ifCond .ne 8) [20]))) (tB [(.aload_n 0, 0, 0, 0), (.invokevirtual 119, 135, 1, 12)] (.ireturn) [0]))) (tB [(.aload_n 0, 0, 0, 0), (.invokevirtual 82, 138, 1, 12), (.bipush 91, 0, 0, 0), (.iload_n 1, 0, 0, 0), (.imul, 0, 0, 0), (.iload_n 2, 0, 0, 0), (.iload_n 3, 0, 0, 0), (.invokestatic 59, 132, 2, 0), (.iadd, 0, 0, 0), (.istore 5, 0, 0, 0), (.aload_n 0, 0, 0, 0), (.getfield 7, 12, 0, 0), (.iload 5, 0, 0, 0), (.iaload, 0, 0, 0), (.istore 6, 0, 0, 0), (.aload_n 0, 0, 0, 0), (.getfield 7, 12, 0, 0), (.iload 5, 0, 0, 0), (.iload 4, 0, 0, 0), (.invokestatic 122, 133, 1, 0), (.iastore, 0, 0, 0), (.iload 6, 0, 0, 0), (.invokestatic 125, 134, 1, 0)] (.ireturn) [0]))
def qX12_sets : am_M := (RX12, yX12_sets, cX12_sets, 7, (some .int), tX12_sets)
-- WeylWordsModel.at(III)I
def tX12_at : am_T := tQ (tS [(.iload_n 1, 0, 0, 0), (.invokestatic 111, 140, 1, 0)]) (tQ (tK 40 (tQ (tK 36 (tQ (tB [] (.ifCond .eq 32) [36]) (tQ (tB [(.iload_n 2, 0, 0, 0), (.iload_n 3, 0, 0, 0), (.invokestatic 115, 141, 2, 0)] (.ifCond .eq 24) [36]) (tB [(.aload_n 0, 0, 0, 0), (.getfield 7, 12, 0, 0), (.bipush 91, 0, 0, 0), (.iload_n 1, 0, 0, 0), (.imul, 0, 0, 0), (.iload_n 2, 0, 0, 0), (.iload_n 3, 0, 0, 0), (.invokestatic 59, 132, 2, 0), (.iadd, 0, 0, 0), (.iaload, 0, 0, 0), (.invokestatic 125, 134, 1, 0)] (.goto 7) [40])))) (tS [(.aload_n 0, 0, 0, 0), (.invokevirtual 119, 135, 1, 12)]))) (tB [] (.ireturn) [0]))
def qX12_at : am_M := (RX12, yX12_at, cX12_at, 4, (some .int), tX12_at)
-- WeylWordsModel.sums(IIIII)I
def tX12_sums : am_T := tQ (tS [(.iload_n 1, 0, 0, 0), (.invokestatic 111, 140, 1, 0)]) (tQ (tK 27 (tQ (tK 22 (tQ (tB [] (.ifCond .eq 18) [22]) (tQ (tB [(.iload_n 2, 0, 0, 0), (.invokestatic 111, 140, 1, 0)] (.ifCond .eq 11) [22]) (tB [(.iload 4, 0, 0, 0), (.invokestatic 111, 140, 1, 0)] (.ifCond .ne 8) [27])))) (tB [(.aload_n 0, 0, 0, 0), (.invokevirtual 119, 135, 1, 12)] (.ireturn) [0]))) (tB [(.aload_n 0, 0, 0, 0), (.iload_n 2, 0, 0, 0), (.bipush 24, 0, 0, 0), (.invokevirtual 128, 144, 3, 12), (.aload_n 0, 0, 0, 0), (.iload 4, 0, 0, 0), (.bipush 26, 0, 0, 0), (.invokevirtual 128, 144, 3, 12), (.aload_n 0, 0, 0, 0), (.bipush 24, 0, 0, 0), (.iload_n 3, 0, 0, 0), (.invokestatic 122, 133, 1, 0), (.bipush 26, 0, 0, 0), (.iload 5, 0, 0, 0), (.invokestatic 122, 133, 1, 0), (.bipush 25, 0, 0, 0), (.invokevirtual 131, 156, 6, 12), (.aload_n 0, 0, 0, 0), (.iload_n 1, 0, 0, 0), (.bipush 25, 0, 0, 0), (.invokevirtual 134, 146, 3, 12)] (.ireturn) [0]))
def qX12_sums : am_M := (RX12, yX12_sums, cX12_sums, 6, (some .int), tX12_sums)
-- WeylWordsModel.times(III)I
def tX12_times : am_T := tQ (tS [(.iload_n 1, 0, 0, 0), (.invokestatic 111, 140, 1, 0)]) (tQ (tK 26 (tQ (tK 21 (tQ (tB [] (.ifCond .eq 17) [21]) (tQ (tB [(.iload_n 2, 0, 0, 0), (.invokestatic 111, 140, 1, 0)] (.ifCond .eq 10) [21]) (tB [(.iload_n 3, 0, 0, 0), (.invokestatic 111, 140, 1, 0)] (.ifCond .ne 8) [26])))) (tB [(.aload_n 0, 0, 0, 0), (.invokevirtual 119, 135, 1, 12)] (.ireturn) [0]))) (tQ (tS [(.aload_n 0, 0, 0, 0), (.iload_n 2, 0, 0, 0), (.bipush 24, 0, 0, 0), (.invokevirtual 128, 144, 3, 12), (.aload_n 0, 0, 0, 0), (.iload_n 3, 0, 0, 0), (.bipush 26, 0, 0, 0), (.invokevirtual 128, 144, 3, 12), (.aload_n 0, 0, 0, 0), (.bipush 24, 0, 0, 0), (.bipush 26, 0, 0, 0), (.invokevirtual 137, 153, 3, 12)]) (tQ (tK 56 (tQ (tB [] (.ifCond .eq 8) [56]) (tB [(.aload_n 0, 0, 0, 0), (.invokevirtual 140, 137, 1, 12)] (.ireturn) [0]))) (tB [(.aload_n 0, 0, 0, 0), (.bipush 24, 0, 0, 0), (.bipush 26, 0, 0, 0), (.bipush 25, 0, 0, 0), (.invokevirtual 107, 152, 4, 12), (.aload_n 0, 0, 0, 0), (.iload_n 1, 0, 0, 0), (.bipush 25, 0, 0, 0), (.invokevirtual 134, 146, 3, 12)] (.ireturn) [0]))))
def qX12_times : am_M := (RX12, yX12_times, cX12_times, 4, (some .int), tX12_times)
-- WeylWordsModel.bracket(III)I
def tX12_bracket : am_T := tQ (tS [(.iload_n 1, 0, 0, 0), (.invokestatic 111, 140, 1, 0)]) (tQ (tK 26 (tQ (tK 21 (tQ (tB [] (.ifCond .eq 17) [21]) (tQ (tB [(.iload_n 2, 0, 0, 0), (.invokestatic 111, 140, 1, 0)] (.ifCond .eq 10) [21]) (tB [(.iload_n 3, 0, 0, 0), (.invokestatic 111, 140, 1, 0)] (.ifCond .ne 8) [26])))) (tB [(.aload_n 0, 0, 0, 0), (.invokevirtual 119, 135, 1, 12)] (.ireturn) [0]))) (tQ (tS [(.aload_n 0, 0, 0, 0), (.iload_n 2, 0, 0, 0), (.bipush 24, 0, 0, 0), (.invokevirtual 128, 144, 3, 12), (.aload_n 0, 0, 0, 0), (.iload_n 3, 0, 0, 0), (.bipush 26, 0, 0, 0), (.invokevirtual 128, 144, 3, 12), (.aload_n 0, 0, 0, 0), (.bipush 24, 0, 0, 0), (.bipush 26, 0, 0, 0), (.invokevirtual 137, 153, 3, 12)]) (tQ (tK 56 (tQ (tB [] (.ifCond .eq 8) [56]) (tB [(.aload_n 0, 0, 0, 0), (.invokevirtual 140, 137, 1, 12)] (.ireturn) [0]))) (tB [(.aload_n 0, 0, 0, 0), (.bipush 24, 0, 0, 0), (.bipush 26, 0, 0, 0), (.bipush 25, 0, 0, 0), (.invokevirtual 107, 152, 4, 12), (.aload_n 0, 0, 0, 0), (.bipush 26, 0, 0, 0), (.bipush 24, 0, 0, 0), (.bipush 27, 0, 0, 0), (.invokevirtual 107, 152, 4, 12), (.aload_n 0, 0, 0, 0), (.bipush 25, 0, 0, 0), (.iconst 1, 0, 0, 0), (.bipush 27, 0, 0, 0), (.sipush 10006, 0, 0, 0), (.bipush 28, 0, 0, 0), (.invokevirtual 131, 156, 6, 12), (.aload_n 0, 0, 0, 0), (.iload_n 1, 0, 0, 0), (.bipush 28, 0, 0, 0), (.invokevirtual 134, 146, 3, 12)] (.ireturn) [0]))))
def qX12_bracket : am_M := (RX12, yX12_bracket, cX12_bracket, 4, (some .int), tX12_bracket)
-- WeylWordsModel.power(III)I
def tX12_power : am_T := tQ (tS [(.iload_n 1, 0, 0, 0), (.invokestatic 111, 140, 1, 0)]) (tQ (tK 29 (tQ (tK 24 (tQ (tB [] (.ifCond .eq 20) [24]) (tQ (tB [(.iload_n 2, 0, 0, 0), (.invokestatic 111, 140, 1, 0)] (.ifCond .eq 13) [24]) (tB [(.iload_n 3, 0, 0, 0), (.iconst 0, 0, 0, 0), (.bipush 12, 0, 0, 0), (.invokestatic 74, 131, 3, 0)] (.ifCond .ne 8) [29])))) (tB [(.aload_n 0, 0, 0, 0), (.invokevirtual 119, 135, 1, 12)] (.ireturn) [0]))) (tQ (tS [(.aload_n 0, 0, 0, 0), (.iload_n 2, 0, 0, 0), (.bipush 27, 0, 0, 0), (.invokevirtual 128, 144, 3, 12), (.aload_n 0, 0, 0, 0), (.bipush 27, 0, 0, 0), (.iload_n 3, 0, 0, 0), (.invokevirtual 143, 154, 3, 12)]) (tQ (tK 51 (tQ (tB [] (.ifCond .eq 8) [51]) (tB [(.aload_n 0, 0, 0, 0), (.invokevirtual 140, 137, 1, 12)] (.ireturn) [0]))) (tB [(.aload_n 0, 0, 0, 0), (.iload_n 3, 0, 0, 0), (.invokevirtual 146, 155, 2, 12), (.aload_n 0, 0, 0, 0), (.iload_n 1, 0, 0, 0), (.bipush 27, 0, 0, 0), (.invokevirtual 134, 146, 3, 12)] (.ireturn) [0]))))
def qX12_power : am_M := (RX12, yX12_power, cX12_power, 4, (some .int), tX12_power)
-- WeylWordsModel.reversed(II)I
def wX12_reversed_27 : am_T := tQ (tB [(.iload_n 3, 0, 0, 0), (.bipush 91, 0, 0, 0)] (.if_icmp .ge 70) [100]) (tQ (tS [(.aload_n 0, 0, 0, 0), (.getfield 7, 12, 0, 0), (.bipush 91, 0, 0, 0), (.iload_n 2, 0, 0, 0), (.imul, 0, 0, 0), (.iload_n 3, 0, 0, 0), (.iadd, 0, 0, 0), (.iaload, 0, 0, 0), (.istore 4, 0, 0, 0), (.iload 4, 0, 0, 0)]) (tQ (tK 94 (tQ (tB [] (.ifCond .eq 46) [94]) (tQ (tS [(.aload_n 0, 0, 0, 0), (.iconst 0, 0, 0, 0), (.aload_n 0, 0, 0, 0), (.getfield 28, 12, 8, 0), (.iload_n 3, 0, 0, 0), (.iaload, 0, 0, 0), (.aload_n 0, 0, 0, 0), (.getfield 25, 12, 7, 0), (.iload_n 3, 0, 0, 0), (.iaload, 0, 0, 0), (.iconst 0, 0, 0, 0), (.aload_n 0, 0, 0, 0), (.getfield 28, 12, 8, 0), (.iload_n 3, 0, 0, 0), (.iaload, 0, 0, 0), (.iconst 2, 0, 0, 0), (.irem, 0, 0, 0), (.iconst 1, 0, 0, 0)]) (tQ (tK 89 (tQ (tK 87 (tQ (tB [] (.if_icmp .ne 12) [87]) (tB [(.sipush 10007, 0, 0, 0), (.iload 4, 0, 0, 0), (.isub, 0, 0, 0)] (.goto 5) [89]))) (tS [(.iload 4, 0, 0, 0)]))) (tS [(.bipush 25, 0, 0, 0), (.invokevirtual 95, 150, 7, 12)]))))) (tB [(.iinc 3 1, 0, 0, 0)] (.goto (-70)) [27])))
def tX12_reversed : am_T := tQ (tS [(.iload_n 1, 0, 0, 0), (.invokestatic 111, 140, 1, 0)]) (tQ (tK 19 (tQ (tK 14 (tQ (tB [] (.ifCond .eq 10) [14]) (tB [(.iload_n 2, 0, 0, 0), (.invokestatic 111, 140, 1, 0)] (.ifCond .ne 8) [19]))) (tB [(.aload_n 0, 0, 0, 0), (.invokevirtual 119, 135, 1, 12)] (.ireturn) [0]))) (tQ (tS [(.aload_n 0, 0, 0, 0), (.bipush 25, 0, 0, 0), (.invokevirtual 78, 142, 2, 12), (.iconst 0, 0, 0, 0), (.istore_n 3, 0, 0, 0)]) (tQ (tK 100 (tW 27 wX12_reversed_27)) (tB [(.aload_n 0, 0, 0, 0), (.iload_n 1, 0, 0, 0), (.bipush 25, 0, 0, 0), (.invokevirtual 134, 146, 3, 12)] (.ireturn) [0]))))
def qX12_reversed : am_M := (RX12, yX12_reversed, cX12_reversed, 5, (some .int), tX12_reversed)
-- WeylWordsModel.greatest(III)I
def wX12_greatest_7 : am_T := tQ (tB [(.iload 5, 0, 0, 0), (.bipush 91, 0, 0, 0)] (.if_icmp .ge 61) [72]) (tQ (tS [(.iload_n 2, 0, 0, 0), (.aload_n 0, 0, 0, 0), (.getfield 25, 12, 7, 0), (.iload 5, 0, 0, 0), (.iaload, 0, 0, 0), (.imul, 0, 0, 0), (.iload_n 3, 0, 0, 0), (.aload_n 0, 0, 0, 0), (.getfield 28, 12, 8, 0), (.iload 5, 0, 0, 0), (.iaload, 0, 0, 0), (.imul, 0, 0, 0), (.iadd, 0, 0, 0), (.istore 6, 0, 0, 0), (.aload_n 0, 0, 0, 0), (.getfield 7, 12, 0, 0), (.bipush 91, 0, 0, 0), (.iload_n 1, 0, 0, 0), (.imul, 0, 0, 0), (.iload 5, 0, 0, 0), (.iadd, 0, 0, 0), (.iaload, 0, 0, 0)]) (tQ (tK 64 (tQ (tK 62 (tQ (tB [] (.ifCond .eq 15) [62]) (tQ (tB [(.iload 6, 0, 0, 0), (.iload 4, 0, 0, 0)] (.if_icmp .le 8) [62]) (tB [(.iload 6, 0, 0, 0)] (.goto 5) [64])))) (tS [(.iload 4, 0, 0, 0)]))) (tB [(.istore 4, 0, 0, 0), (.iinc 5 1, 0, 0, 0)] (.goto (-62)) [7])))
def tX12_greatest : am_T := tQ (tS [(.bipush (-99), 0, 0, 0), (.istore 4, 0, 0, 0), (.iconst 0, 0, 0, 0), (.istore 5, 0, 0, 0)]) (tQ (tK 72 (tW 7 wX12_greatest_7)) (tB [(.iload 4, 0, 0, 0)] (.ireturn) [0]))
def qX12_greatest : am_M := (RX12, yX12_greatest, cX12_greatest, 7, (some .int), tX12_greatest)
-- WeylWordsModel.ofLead(I)I
def tX12_ofLead : am_T := tQ (tS [(.aload_n 0, 0, 0, 0), (.bipush 24, 0, 0, 0), (.invokevirtual 149, 149, 2, 12), (.istore_n 2, 0, 0, 0), (.iload_n 1, 0, 0, 0), (.bipush 6, 0, 0, 0)]) (tQ (tK 50 (tQ (tK 22 (tQ (tB [] (.if_icmp .ne 12) [22]) (tB [(.aload_n 0, 0, 0, 0), (.getfield 25, 12, 7, 0), (.iload_n 2, 0, 0, 0), (.iaload, 0, 0, 0)] (.goto 31) [50]))) (tQ (tS [(.iload_n 1, 0, 0, 0), (.bipush 7, 0, 0, 0)]) (tQ (tK 37 (tQ (tB [] (.if_icmp .ne 12) [37]) (tB [(.aload_n 0, 0, 0, 0), (.getfield 28, 12, 8, 0), (.iload_n 2, 0, 0, 0), (.iaload, 0, 0, 0)] (.goto 16) [50]))) (tS [(.aload_n 0, 0, 0, 0), (.getfield 22, 12, 6, 0), (.sipush 11904, 0, 0, 0), (.iload_n 2, 0, 0, 0), (.iadd, 0, 0, 0), (.iaload, 0, 0, 0), (.invokestatic 125, 134, 1, 0)]))))) (tB [] (.ireturn) [0]))
def qX12_ofLead : am_M := (RX12, yX12_ofLead, cX12_ofLead, 3, (some .int), tX12_ofLead)
-- WeylWordsModel.aboutOf(II)I
def tX12_aboutOf : am_T := tQ (tS [(.aload_n 0, 0, 0, 0), (.iload_n 1, 0, 0, 0), (.bipush 24, 0, 0, 0), (.invokevirtual 128, 144, 3, 12), (.aload_n 0, 0, 0, 0), (.bipush 24, 0, 0, 0), (.invokevirtual 85, 145, 2, 12), (.istore_n 3, 0, 0, 0), (.iload_n 2, 0, 0, 0)]) (tQ (tK 40 (tQ (tK 22 (tQ (tB [] (.ifCond .eq 7) [22]) (tB [(.iload_n 3, 0, 0, 0)] (.ifCond .ne 21) [40]))) (tQ (tS [(.iload_n 2, 0, 0, 0)]) (tQ (tK 39 (tQ (tK 36 (tQ (tK 32 (tQ (tB [] (.ifCond .eq 9) [32]) (tB [(.iload_n 2, 0, 0, 0), (.bipush 8, 0, 0, 0)] (.if_icmp .ne 7) [36]))) (tB [(.iload_n 3, 0, 0, 0)] (.goto 6) [39]))) (tS [(.sipush (-20001), 0, 0, 0)]))) (tB [] (.ireturn) [0]))))) (tQ (tS [(.iload_n 2, 0, 0, 0)]) (tQ (tK 116 (tQ (tK 107 (tQ (tK 99 (tQ (tK 91 (tQ (tK 83 (tQ (tK 76 (tB [] (.tableswitch 75 1 5 #[35, 42, 50, 58, 66]) [116, 76, 83, 91, 99, 107])) (tB [(.aload_n 0, 0, 0, 0), (.bipush 24, 0, 0, 0), (.invokevirtual 89, 147, 2, 12)] (.ireturn) [0]))) (tB [(.aload_n 0, 0, 0, 0), (.iload_n 1, 0, 0, 0), (.iconst 1, 0, 0, 0), (.iconst 0, 0, 0, 0), (.invokevirtual 152, 164, 4, 12)] (.ireturn) [0]))) (tB [(.aload_n 0, 0, 0, 0), (.iload_n 1, 0, 0, 0), (.iconst 0, 0, 0, 0), (.iconst 1, 0, 0, 0), (.invokevirtual 152, 164, 4, 12)] (.ireturn) [0]))) (tB [(.aload_n 0, 0, 0, 0), (.iload_n 1, 0, 0, 0), (.iconst (-1), 0, 0, 0), (.iconst 1, 0, 0, 0), (.invokevirtual 152, 164, 4, 12)] (.ireturn) [0]))) (tB [(.aload_n 0, 0, 0, 0), (.iload_n 1, 0, 0, 0), (.iconst 1, 0, 0, 0), (.iconst (-1), 0, 0, 0), (.invokevirtual 152, 164, 4, 12), (.ineg, 0, 0, 0)] (.ireturn) [0]))) (tB [(.aload_n 0, 0, 0, 0), (.iload_n 2, 0, 0, 0), (.invokevirtual 156, 165, 2, 12)] (.ireturn) [0]))))
def qX12_aboutOf : am_M := (RX12, yX12_aboutOf, cX12_aboutOf, 4, (some .int), tX12_aboutOf)
-- WeylWordsModel.of(II)I
def tX12_of : am_T := tQ (tS [(.iload_n 1, 0, 0, 0), (.invokestatic 111, 140, 1, 0)]) (tQ (tK 30 (tQ (tK 26 (tQ (tB [] (.ifCond .eq 22) [26]) (tQ (tB [(.iload_n 2, 0, 0, 0), (.iconst 0, 0, 0, 0), (.bipush 8, 0, 0, 0), (.invokestatic 74, 131, 3, 0)] (.ifCond .eq 12) [26]) (tB [(.aload_n 0, 0, 0, 0), (.iload_n 1, 0, 0, 0), (.iload_n 2, 0, 0, 0), (.invokevirtual 159, 166, 3, 12)] (.goto 7) [30])))) (tS [(.aload_n 0, 0, 0, 0), (.invokevirtual 119, 135, 1, 12)]))) (tB [] (.ireturn) [0]))
def qX12_of : am_M := (RX12, yX12_of, cX12_of, 3, (some .int), tX12_of)
-- WeylWordsModel.order(I)I
def tX12_order : am_T := tQ (tS [(.iload_n 1, 0, 0, 0), (.iconst 0, 0, 0, 0), (.iconst 1, 0, 0, 0), (.invokestatic 74, 131, 3, 0)]) (tQ (tK 14 (tQ (tB [] (.ifCond .ne 8) [14]) (tB [(.aload_n 0, 0, 0, 0), (.invokevirtual 119, 135, 1, 12)] (.ireturn) [0]))) (tB [(.aload_n 0, 0, 0, 0), (.invokevirtual 82, 138, 1, 12), (.aload_n 0, 0, 0, 0), (.getfield 7, 12, 0, 0), (.sipush 608, 0, 0, 0), (.iaload, 0, 0, 0), (.istore_n 2, 0, 0, 0), (.aload_n 0, 0, 0, 0), (.getfield 7, 12, 0, 0), (.sipush 608, 0, 0, 0), (.iload_n 1, 0, 0, 0), (.iastore, 0, 0, 0), (.iload_n 2, 0, 0, 0)] (.ireturn) [0]))
def qX12_order : am_M := (RX12, yX12_order, cX12_order, 3, (some .int), tX12_order)
-- WeylWordsModel.isPolynomial(I)Z
def tX12_isPolynomial : am_T := tB [(.iload_n 0, 0, 0, 0), (.iconst 0, 0, 0, 0), (.iconst 1, 0, 0, 0), (.invokestatic 74, 131, 3, 0)] (.ireturn) [1]
def qX12_isPolynomial : am_M := (RX12, yX12_isPolynomial, cX12_isPolynomial, 1, (some .boolean), tX12_isPolynomial)
-- WeylWordsModel.rateAt(II)I
def tX12_rateAt : am_T := tB [(.sipush 546, 0, 0, 0), (.bipush 31, 0, 0, 0), (.iload_n 0, 0, 0, 0), (.imul, 0, 0, 0), (.iadd, 0, 0, 0), (.iload_n 1, 0, 0, 0), (.iadd, 0, 0, 0)] (.ireturn) [0]
def qX12_rateAt : am_M := (RX12, yX12_rateAt, cX12_rateAt, 2, (some .int), tX12_rateAt)
-- WeylWordsModel.puts(III)I
def tX12_puts : am_T := tQ (tS [(.iload_n 1, 0, 0, 0), (.invokestatic 162, 169, 1, 0)]) (tQ (tK 22 (tQ (tK 17 (tQ (tB [] (.ifCond .eq 13) [17]) (tB [(.iload_n 2, 0, 0, 0), (.iconst 0, 0, 0, 0), (.bipush 30, 0, 0, 0), (.invokestatic 74, 131, 3, 0)] (.ifCond .ne 8) [22]))) (tB [(.aload_n 0, 0, 0, 0), (.invokevirtual 119, 135, 1, 12)] (.ireturn) [0]))) (tB [(.aload_n 0, 0, 0, 0), (.invokevirtual 82, 138, 1, 12), (.aload_n 0, 0, 0, 0), (.getfield 7, 12, 0, 0), (.iload_n 1, 0, 0, 0), (.iload_n 2, 0, 0, 0), (.invokestatic 165, 170, 2, 0), (.iaload, 0, 0, 0), (.istore 4, 0, 0, 0), (.aload_n 0, 0, 0, 0), (.getfield 7, 12, 0, 0), (.iload_n 1, 0, 0, 0), (.iload_n 2, 0, 0, 0), (.invokestatic 165, 170, 2, 0), (.iload_n 3, 0, 0, 0), (.invokestatic 122, 133, 1, 0), (.iastore, 0, 0, 0), (.iload 4, 0, 0, 0), (.invokestatic 125, 134, 1, 0)] (.ireturn) [0]))
def qX12_puts : am_M := (RX12, yX12_puts, cX12_puts, 5, (some .int), tX12_puts)
-- WeylWordsModel.rate(II)I
def tX12_rate : am_T := tQ (tS [(.iload_n 1, 0, 0, 0), (.invokestatic 162, 169, 1, 0)]) (tQ (tK 37 (tQ (tK 33 (tQ (tB [] (.ifCond .eq 29) [33]) (tQ (tB [(.iload_n 2, 0, 0, 0), (.iconst 0, 0, 0, 0), (.bipush 30, 0, 0, 0), (.invokestatic 74, 131, 3, 0)] (.ifCond .eq 19) [33]) (tB [(.aload_n 0, 0, 0, 0), (.getfield 7, 12, 0, 0), (.iload_n 1, 0, 0, 0), (.iload_n 2, 0, 0, 0), (.invokestatic 165, 170, 2, 0), (.iaload, 0, 0, 0), (.invokestatic 125, 134, 1, 0)] (.goto 7) [37])))) (tS [(.aload_n 0, 0, 0, 0), (.invokevirtual 119, 135, 1, 12)]))) (tB [] (.ireturn) [0]))
def qX12_rate : am_M := (RX12, yX12_rate, cX12_rate, 3, (some .int), tX12_rate)
-- WeylWordsModel.falls(II)I
def wX12_falls_4 : am_T := tQ (tB [(.iload_n 3, 0, 0, 0), (.iload_n 1, 0, 0, 0)] (.if_icmp .ge 19) [25]) (tB [(.iload_n 2, 0, 0, 0), (.iload_n 0, 0, 0, 0), (.iload_n 3, 0, 0, 0), (.isub, 0, 0, 0), (.imul, 0, 0, 0), (.sipush 10007, 0, 0, 0), (.irem, 0, 0, 0), (.istore_n 2, 0, 0, 0), (.iinc 3 1, 0, 0, 0)] (.goto (-18)) [4])
def tX12_falls : am_T := tQ (tS [(.iconst 1, 0, 0, 0), (.istore_n 2, 0, 0, 0), (.iconst 0, 0, 0, 0), (.istore_n 3, 0, 0, 0)]) (tQ (tK 25 (tW 4 wX12_falls_4)) (tB [(.iload_n 2, 0, 0, 0)] (.ireturn) [0]))
def qX12_falls : am_M := (RX12, yX12_falls, cX12_falls, 4, (some .int), tX12_falls)
-- WeylWordsModel.greatestPower(I)I
def wX12_greatestPower_3 : am_T := tQ (tB [(.iload_n 2, 0, 0, 0)] (.ifCond .lt 22) [26]) (tQ (tB [(.aload_n 0, 0, 0, 0), (.getfield 7, 12, 0, 0), (.iload_n 1, 0, 0, 0), (.iload_n 2, 0, 0, 0), (.invokestatic 165, 170, 2, 0), (.iaload, 0, 0, 0)] (.ifCond .ne 9) [26]) (tB [(.iinc 2 (-1), 0, 0, 0)] (.goto (-20)) [3]))
def tX12_greatestPower : am_T := tQ (tS [(.bipush 30, 0, 0, 0), (.istore_n 2, 0, 0, 0)]) (tQ (tK 26 (tW 3 wX12_greatestPower_3)) (tB [(.iload_n 2, 0, 0, 0)] (.ireturn) [0]))
def qX12_greatestPower : am_M := (RX12, yX12_greatestPower, cX12_greatestPower, 3, (some .int), tX12_greatestPower)
-- WeylWordsModel.canMake(II)Z
def wX12_canMake_2 : am_T := tQ (tB [(.iload_n 3, 0, 0, 0), (.bipush 31, 0, 0, 0)] (.if_icmp .ge 16) [21]) (tB [(.aload_n 0, 0, 0, 0), (.getfield 34, 12, 10, 0), (.iload_n 3, 0, 0, 0), (.iconst 0, 0, 0, 0), (.iastore, 0, 0, 0), (.iinc 3 1, 0, 0, 0)] (.goto (-16)) [2])
def wX12_canMake_26 : am_T := tQ (tB [(.iload 4, 0, 0, 0), (.sipush 2821, 0, 0, 0)] (.if_icmp .ge 145) [176]) (tQ (tS [(.iload 4, 0, 0, 0), (.bipush 31, 0, 0, 0), (.idiv, 0, 0, 0), (.istore 5, 0, 0, 0), (.iload 4, 0, 0, 0), (.bipush 31, 0, 0, 0), (.irem, 0, 0, 0), (.istore 6, 0, 0, 0), (.aload_n 0, 0, 0, 0), (.getfield 7, 12, 0, 0), (.bipush 91, 0, 0, 0), (.iload_n 1, 0, 0, 0), (.imul, 0, 0, 0), (.iload 5, 0, 0, 0), (.iadd, 0, 0, 0), (.iaload, 0, 0, 0), (.aload_n 0, 0, 0, 0), (.getfield 7, 12, 0, 0), (.iload_n 2, 0, 0, 0), (.iload 6, 0, 0, 0), (.invokestatic 165, 170, 2, 0), (.iaload, 0, 0, 0), (.imul, 0, 0, 0), (.sipush 10007, 0, 0, 0), (.irem, 0, 0, 0), (.istore 7, 0, 0, 0), (.iload 7, 0, 0, 0)]) (tQ (tK 170 (tQ (tB [] (.ifCond .eq 90) [170]) (tQ (tB [(.iload 6, 0, 0, 0), (.aload_n 0, 0, 0, 0), (.getfield 28, 12, 8, 0), (.iload 5, 0, 0, 0), (.iaload, 0, 0, 0)] (.if_icmp .lt 78) [170]) (tQ (tS [(.iload 6, 0, 0, 0), (.aload_n 0, 0, 0, 0), (.getfield 28, 12, 8, 0), (.iload 5, 0, 0, 0), (.iaload, 0, 0, 0), (.isub, 0, 0, 0), (.aload_n 0, 0, 0, 0), (.getfield 25, 12, 7, 0), (.iload 5, 0, 0, 0), (.iaload, 0, 0, 0), (.iadd, 0, 0, 0), (.istore 8, 0, 0, 0), (.iload_n 3, 0, 0, 0)]) (tQ (tK 131 (tQ (tK 130 (tQ (tB [] (.ifCond .eq 14) [130]) (tQ (tB [(.iload 8, 0, 0, 0), (.bipush 31, 0, 0, 0)] (.if_icmp .ge 7) [130]) (tB [(.iconst 1, 0, 0, 0)] (.goto 4) [131])))) (tS [(.iconst 0, 0, 0, 0)]))) (tQ (tB [(.istore_n 3, 0, 0, 0), (.iload_n 3, 0, 0, 0)] (.ifCond .eq 37) [170]) (tS [(.aload_n 0, 0, 0, 0), (.getfield 34, 12, 10, 0), (.iload 8, 0, 0, 0), (.aload_n 0, 0, 0, 0), (.getfield 34, 12, 10, 0), (.iload 8, 0, 0, 0), (.iaload, 0, 0, 0), (.iload 7, 0, 0, 0), (.iload 6, 0, 0, 0), (.aload_n 0, 0, 0, 0), (.getfield 28, 12, 8, 0), (.iload 5, 0, 0, 0), (.iaload, 0, 0, 0), (.invokestatic 168, 173, 2, 0), (.imul, 0, 0, 0), (.iadd, 0, 0, 0), (.sipush 10007, 0, 0, 0), (.irem, 0, 0, 0), (.iastore, 0, 0, 0)]))))))) (tB [(.iinc 4 1, 0, 0, 0)] (.goto (-147)) [26])))
def tX12_canMake : am_T := tQ (tS [(.iconst 0, 0, 0, 0), (.istore_n 3, 0, 0, 0)]) (tQ (tK 21 (tW 2 wX12_canMake_2)) (tQ (tS [(.iconst 1, 0, 0, 0), (.istore_n 3, 0, 0, 0), (.iconst 0, 0, 0, 0), (.istore 4, 0, 0, 0)]) (tQ (tK 176 (tW 26 wX12_canMake_26)) (tB [(.iload_n 3, 0, 0, 0)] (.ireturn) [1]))))
def qX12_canMake : am_M := (RX12, yX12_canMake, cX12_canMake, 9, (some .boolean), tX12_canMake)
-- WeylWordsModel.makes(III)I
def wX12_makes_47 : am_T := tQ (tB [(.iload 4, 0, 0, 0), (.bipush 31, 0, 0, 0)] (.if_icmp .ge 27) [78]) (tB [(.aload_n 0, 0, 0, 0), (.getfield 7, 12, 0, 0), (.iload_n 1, 0, 0, 0), (.iload 4, 0, 0, 0), (.invokestatic 165, 170, 2, 0), (.aload_n 0, 0, 0, 0), (.getfield 34, 12, 10, 0), (.iload 4, 0, 0, 0), (.iaload, 0, 0, 0), (.iastore, 0, 0, 0), (.iinc 4 1, 0, 0, 0)] (.goto (-28)) [47])
def tX12_makes : am_T := tQ (tS [(.iload_n 1, 0, 0, 0), (.invokestatic 162, 169, 1, 0)]) (tQ (tK 26 (tQ (tK 21 (tQ (tB [] (.ifCond .eq 17) [21]) (tQ (tB [(.iload_n 2, 0, 0, 0), (.invokestatic 111, 140, 1, 0)] (.ifCond .eq 10) [21]) (tB [(.iload_n 3, 0, 0, 0), (.invokestatic 162, 169, 1, 0)] (.ifCond .ne 8) [26])))) (tB [(.aload_n 0, 0, 0, 0), (.invokevirtual 119, 135, 1, 12)] (.ireturn) [0]))) (tQ (tS [(.aload_n 0, 0, 0, 0), (.iload_n 2, 0, 0, 0), (.iload_n 3, 0, 0, 0), (.invokevirtual 171, 175, 3, 12)]) (tQ (tK 40 (tQ (tB [] (.ifCond .ne 8) [40]) (tB [(.aload_n 0, 0, 0, 0), (.invokevirtual 140, 137, 1, 12)] (.ireturn) [0]))) (tQ (tS [(.aload_n 0, 0, 0, 0), (.invokevirtual 82, 138, 1, 12), (.iconst 0, 0, 0, 0), (.istore 4, 0, 0, 0)]) (tQ (tK 78 (tW 47 wX12_makes_47)) (tQ (tS [(.aload_n 0, 0, 0, 0), (.iload_n 1, 0, 0, 0), (.invokevirtual 174, 174, 2, 12), (.istore 4, 0, 0, 0), (.iload 4, 0, 0, 0)]) (tQ (tK 98 (tQ (tK 96 (tQ (tB [] (.ifCond .ge 9) [96]) (tB [(.sipush (-20001), 0, 0, 0)] (.goto 5) [98]))) (tS [(.iload 4, 0, 0, 0)]))) (tB [] (.ireturn) [0]))))))))
def qX12_makes : am_M := (RX12, yX12_makes, cX12_makes, 5, (some .int), tX12_makes)
-- WeylWordsModel.inverseOf(I)I
def wX12_inverseOf_8 : am_T := tQ (tB [(.iload_n 3, 0, 0, 0)] (.ifCond .le 37) [46]) (tQ (tS [(.iload_n 3, 0, 0, 0), (.iconst 2, 0, 0, 0), (.irem, 0, 0, 0), (.iconst 1, 0, 0, 0)]) (tQ (tK 30 (tQ (tK 29 (tQ (tB [] (.if_icmp .ne 13) [29]) (tB [(.iload_n 1, 0, 0, 0), (.iload_n 2, 0, 0, 0), (.imul, 0, 0, 0), (.sipush 10007, 0, 0, 0), (.irem, 0, 0, 0)] (.goto 4) [30]))) (tS [(.iload_n 1, 0, 0, 0)]))) (tB [(.istore_n 1, 0, 0, 0), (.iload_n 2, 0, 0, 0), (.iload_n 2, 0, 0, 0), (.imul, 0, 0, 0), (.sipush 10007, 0, 0, 0), (.irem, 0, 0, 0), (.istore_n 2, 0, 0, 0), (.iload_n 3, 0, 0, 0), (.iconst 2, 0, 0, 0), (.idiv, 0, 0, 0), (.istore_n 3, 0, 0, 0)] (.goto (-35)) [8])))
def tX12_inverseOf : am_T := tQ (tS [(.iconst 1, 0, 0, 0), (.istore_n 1, 0, 0, 0), (.iload_n 0, 0, 0, 0), (.istore_n 2, 0, 0, 0), (.sipush 10005, 0, 0, 0), (.istore_n 3, 0, 0, 0)]) (tQ (tK 46 (tW 8 wX12_inverseOf_8)) (tB [(.iload_n 1, 0, 0, 0)] (.ireturn) [0]))
def qX12_inverseOf : am_M := (RX12, yX12_inverseOf, cX12_inverseOf, 4, (some .int), tX12_inverseOf)
-- WeylWordsModel.laysMatrix(II)V
def wX12_laysMatrix_2 : am_T := tQ (tB [(.iload_n 3, 0, 0, 0), (.bipush 28, 0, 0, 0), (.iload_n 2, 0, 0, 0), (.imul, 0, 0, 0)] (.if_icmp .ge 16) [23]) (tB [(.aload_n 0, 0, 0, 0), (.getfield 37, 12, 11, 0), (.iload_n 3, 0, 0, 0), (.iconst 0, 0, 0, 0), (.iastore, 0, 0, 0), (.iinc 3 1, 0, 0, 0)] (.goto (-18)) [2])
def wX12_laysMatrix_25 : am_T := tQ (tB [(.iload_n 3, 0, 0, 0), (.bipush 91, 0, 0, 0), (.iload_n 2, 0, 0, 0), (.imul, 0, 0, 0)] (.if_icmp .ge 110) [140]) (tQ (tS [(.iload_n 3, 0, 0, 0), (.iload_n 2, 0, 0, 0), (.idiv, 0, 0, 0), (.istore 4, 0, 0, 0), (.iload_n 3, 0, 0, 0), (.iload_n 2, 0, 0, 0), (.irem, 0, 0, 0), (.istore 5, 0, 0, 0), (.aload_n 0, 0, 0, 0), (.getfield 7, 12, 0, 0), (.bipush 91, 0, 0, 0), (.iload_n 1, 0, 0, 0), (.imul, 0, 0, 0), (.iload 4, 0, 0, 0), (.iadd, 0, 0, 0), (.iaload, 0, 0, 0), (.istore 6, 0, 0, 0), (.iload 6, 0, 0, 0)]) (tQ (tK 134 (tQ (tB [] (.ifCond .eq 75) [134]) (tQ (tB [(.iload 5, 0, 0, 0), (.aload_n 0, 0, 0, 0), (.getfield 28, 12, 8, 0), (.iload 4, 0, 0, 0), (.iaload, 0, 0, 0)] (.if_icmp .lt 63) [134]) (tS [(.bipush 28, 0, 0, 0), (.iload 5, 0, 0, 0), (.imul, 0, 0, 0), (.iload 5, 0, 0, 0), (.iadd, 0, 0, 0), (.aload_n 0, 0, 0, 0), (.getfield 28, 12, 8, 0), (.iload 4, 0, 0, 0), (.iaload, 0, 0, 0), (.isub, 0, 0, 0), (.aload_n 0, 0, 0, 0), (.getfield 25, 12, 7, 0), (.iload 4, 0, 0, 0), (.iaload, 0, 0, 0), (.iadd, 0, 0, 0), (.istore 7, 0, 0, 0), (.aload_n 0, 0, 0, 0), (.getfield 37, 12, 11, 0), (.iload 7, 0, 0, 0), (.aload_n 0, 0, 0, 0), (.getfield 37, 12, 11, 0), (.iload 7, 0, 0, 0), (.iaload, 0, 0, 0), (.iload 6, 0, 0, 0), (.iload 5, 0, 0, 0), (.aload_n 0, 0, 0, 0), (.getfield 28, 12, 8, 0), (.iload 4, 0, 0, 0), (.iaload, 0, 0, 0), (.invokestatic 168, 173, 2, 0), (.imul, 0, 0, 0), (.iadd, 0, 0, 0), (.sipush 10007, 0, 0, 0), (.irem, 0, 0, 0), (.iastore, 0, 0, 0)])))) (tB [(.iinc 3 1, 0, 0, 0)] (.goto (-112)) [25])))
def tX12_laysMatrix : am_T := tQ (tS [(.iconst 0, 0, 0, 0), (.istore_n 3, 0, 0, 0)]) (tQ (tK 23 (tW 2 wX12_laysMatrix_2)) (tQ (tS [(.iconst 0, 0, 0, 0), (.istore_n 3, 0, 0, 0)]) (tQ (tK 140 (tW 25 wX12_laysMatrix_25)) (tB [] (.return_) []))))
def qX12_laysMatrix : am_M := (RX12, yX12_laysMatrix, cX12_laysMatrix, 8, none, tX12_laysMatrix)
-- WeylWordsModel.addsRow(III)V
def wX12_addsRow_3 : am_T := tQ (tB [(.iload 4, 0, 0, 0), (.bipush 28, 0, 0, 0)] (.if_icmp .ge 52) [59]) (tB [(.aload_n 0, 0, 0, 0), (.getfield 37, 12, 11, 0), (.bipush 28, 0, 0, 0), (.iload_n 3, 0, 0, 0), (.imul, 0, 0, 0), (.iload 4, 0, 0, 0), (.iadd, 0, 0, 0), (.aload_n 0, 0, 0, 0), (.getfield 37, 12, 11, 0), (.bipush 28, 0, 0, 0), (.iload_n 3, 0, 0, 0), (.imul, 0, 0, 0), (.iload 4, 0, 0, 0), (.iadd, 0, 0, 0), (.iaload, 0, 0, 0), (.iload_n 2, 0, 0, 0), (.aload_n 0, 0, 0, 0), (.getfield 37, 12, 11, 0), (.bipush 28, 0, 0, 0), (.iload_n 1, 0, 0, 0), (.imul, 0, 0, 0), (.iload 4, 0, 0, 0), (.iadd, 0, 0, 0), (.iaload, 0, 0, 0), (.imul, 0, 0, 0), (.iadd, 0, 0, 0), (.sipush 10007, 0, 0, 0), (.irem, 0, 0, 0), (.iastore, 0, 0, 0), (.iinc 4 1, 0, 0, 0)] (.goto (-53)) [3])
def tX12_addsRow : am_T := tQ (tS [(.iconst 0, 0, 0, 0), (.istore 4, 0, 0, 0)]) (tQ (tK 59 (tW 3 wX12_addsRow_3)) (tB [] (.return_) []))
def qX12_addsRow : am_M := (RX12, yX12_addsRow, cX12_addsRow, 5, none, tX12_addsRow)
-- WeylWordsModel.isFree(II)Z
def wX12_isFree_2 : am_T := tQ (tB [(.iload_n 3, 0, 0, 0), (.bipush 28, 0, 0, 0)] (.if_icmp .ge 23) [28]) (tQ (tB [(.aload_n 0, 0, 0, 0), (.getfield 37, 12, 11, 0), (.bipush 28, 0, 0, 0), (.iload_n 1, 0, 0, 0), (.imul, 0, 0, 0), (.iload_n 3, 0, 0, 0), (.iadd, 0, 0, 0), (.iaload, 0, 0, 0)] (.ifCond .ne 9) [28]) (tB [(.iinc 3 1, 0, 0, 0)] (.goto (-23)) [2]))
def wX12_isFree_57 : am_T := tQ (tB [(.iload 5, 0, 0, 0), (.iload_n 2, 0, 0, 0)] (.if_icmp .ge 52) [112]) (tQ (tS [(.aload_n 0, 0, 0, 0), (.getfield 37, 12, 11, 0), (.bipush 28, 0, 0, 0), (.iload 5, 0, 0, 0), (.imul, 0, 0, 0), (.iload_n 3, 0, 0, 0), (.iadd, 0, 0, 0), (.iaload, 0, 0, 0), (.iload 4, 0, 0, 0), (.imul, 0, 0, 0), (.sipush 10007, 0, 0, 0), (.irem, 0, 0, 0), (.istore 6, 0, 0, 0), (.aload_n 0, 0, 0, 0), (.iload_n 1, 0, 0, 0), (.iload 6, 0, 0, 0)]) (tQ (tK 101 (tQ (tK 95 (tQ (tB [] (.ifCond .ne 7) [95]) (tB [(.iconst 0, 0, 0, 0)] (.goto 9) [101]))) (tS [(.sipush 10007, 0, 0, 0), (.iload 6, 0, 0, 0), (.isub, 0, 0, 0)]))) (tB [(.iload 5, 0, 0, 0), (.invokevirtual 180, 179, 4, 12), (.iinc 5 1, 0, 0, 0)] (.goto (-52)) [57])))
def tX12_isFree : am_T := tQ (tS [(.iconst 0, 0, 0, 0), (.istore_n 3, 0, 0, 0)]) (tQ (tK 28 (tW 2 wX12_isFree_2)) (tQ (tS [(.iload_n 3, 0, 0, 0), (.bipush 28, 0, 0, 0)]) (tQ (tK 36 (tQ (tB [] (.if_icmp .ne 5) [36]) (tB [(.iconst 0, 0, 0, 0)] (.ireturn) [1]))) (tQ (tS [(.aload_n 0, 0, 0, 0), (.getfield 37, 12, 11, 0), (.bipush 28, 0, 0, 0), (.iload_n 1, 0, 0, 0), (.imul, 0, 0, 0), (.iload_n 3, 0, 0, 0), (.iadd, 0, 0, 0), (.iaload, 0, 0, 0), (.invokestatic 177, 177, 1, 0), (.istore 4, 0, 0, 0), (.iload_n 1, 0, 0, 0), (.iconst 1, 0, 0, 0), (.iadd, 0, 0, 0), (.istore 5, 0, 0, 0)]) (tQ (tK 112 (tW 57 wX12_isFree_57)) (tB [(.iconst 1, 0, 0, 0)] (.ireturn) [1]))))))
def qX12_isFree : am_M := (RX12, yX12_isFree, cX12_isFree, 7, (some .boolean), tX12_isFree)
-- WeylWordsModel.kernel(II)I
def wX12_kernel_35 : am_T := tQ (tB [(.iload 4, 0, 0, 0), (.iload_n 2, 0, 0, 0)] (.if_icmp .gt 29) [67]) (tQ (tS [(.iload_n 3, 0, 0, 0), (.aload_n 0, 0, 0, 0), (.iload 4, 0, 0, 0), (.iload_n 2, 0, 0, 0), (.iconst 1, 0, 0, 0), (.iadd, 0, 0, 0), (.invokevirtual 186, 180, 3, 12)]) (tQ (tK 59 (tQ (tK 58 (tQ (tB [] (.ifCond .eq 7) [58]) (tB [(.iconst 0, 0, 0, 0)] (.goto 4) [59]))) (tS [(.iconst 1, 0, 0, 0)]))) (tB [(.iadd, 0, 0, 0), (.istore_n 3, 0, 0, 0), (.iinc 4 1, 0, 0, 0)] (.goto (-29)) [35])))
def tX12_kernel : am_T := tQ (tS [(.iload_n 1, 0, 0, 0), (.invokestatic 111, 140, 1, 0)]) (tQ (tK 22 (tQ (tK 17 (tQ (tB [] (.ifCond .eq 13) [17]) (tB [(.iload_n 2, 0, 0, 0), (.iconst 0, 0, 0, 0), (.bipush 15, 0, 0, 0), (.invokestatic 74, 131, 3, 0)] (.ifCond .ne 8) [22]))) (tB [(.aload_n 0, 0, 0, 0), (.invokevirtual 119, 135, 1, 12)] (.ireturn) [0]))) (tQ (tS [(.aload_n 0, 0, 0, 0), (.iload_n 1, 0, 0, 0), (.iload_n 2, 0, 0, 0), (.iconst 1, 0, 0, 0), (.iadd, 0, 0, 0), (.invokevirtual 183, 178, 3, 12), (.iconst 0, 0, 0, 0), (.istore_n 3, 0, 0, 0), (.iconst 0, 0, 0, 0), (.istore 4, 0, 0, 0)]) (tQ (tK 67 (tW 35 wX12_kernel_35)) (tB [(.iload_n 3, 0, 0, 0)] (.ireturn) [0]))))
def qX12_kernel : am_M := (RX12, yX12_kernel, cX12_kernel, 5, (some .int), tX12_kernel)
-- WeylWordsModel.kills(II)I
def wX12_kills_54 : am_T := tQ (tB [(.iload 4, 0, 0, 0), (.iload_n 3, 0, 0, 0)] (.if_icmp .gt 102) [159]) (tQ (tS [(.aload_n 0, 0, 0, 0), (.getfield 7, 12, 0, 0), (.iload_n 2, 0, 0, 0), (.iload 4, 0, 0, 0), (.invokestatic 165, 170, 2, 0), (.iaload, 0, 0, 0), (.istore 5, 0, 0, 0), (.sipush 12400, 0, 0, 0), (.iload 4, 0, 0, 0), (.iconst 1, 0, 0, 0), (.invokestatic 59, 132, 2, 0), (.iadd, 0, 0, 0), (.istore 6, 0, 0, 0), (.aload_n 0, 0, 0, 0), (.getfield 22, 12, 6, 0), (.iload 6, 0, 0, 0), (.aload_n 0, 0, 0, 0), (.getfield 22, 12, 6, 0), (.iload 6, 0, 0, 0), (.iaload, 0, 0, 0), (.iload 5, 0, 0, 0), (.iadd, 0, 0, 0), (.sipush 10007, 0, 0, 0), (.irem, 0, 0, 0), (.iastore, 0, 0, 0), (.iload 4, 0, 0, 0)]) (tQ (tK 153 (tQ (tB [] (.ifCond .le 45) [153]) (tS [(.sipush 12400, 0, 0, 0), (.iload 4, 0, 0, 0), (.iconst 1, 0, 0, 0), (.isub, 0, 0, 0), (.iconst 0, 0, 0, 0), (.invokestatic 59, 132, 2, 0), (.iadd, 0, 0, 0), (.istore 6, 0, 0, 0), (.aload_n 0, 0, 0, 0), (.getfield 22, 12, 6, 0), (.iload 6, 0, 0, 0), (.aload_n 0, 0, 0, 0), (.getfield 22, 12, 6, 0), (.iload 6, 0, 0, 0), (.iaload, 0, 0, 0), (.sipush 10007, 0, 0, 0), (.iload 5, 0, 0, 0), (.isub, 0, 0, 0), (.iload 4, 0, 0, 0), (.imul, 0, 0, 0), (.iadd, 0, 0, 0), (.sipush 10007, 0, 0, 0), (.irem, 0, 0, 0), (.iastore, 0, 0, 0)]))) (tB [(.iinc 4 1, 0, 0, 0)] (.goto (-102)) [54])))
def tX12_kills : am_T := tQ (tS [(.iload_n 1, 0, 0, 0), (.invokestatic 111, 140, 1, 0)]) (tQ (tK 19 (tQ (tK 14 (tQ (tB [] (.ifCond .eq 10) [14]) (tB [(.iload_n 2, 0, 0, 0), (.invokestatic 162, 169, 1, 0)] (.ifCond .ne 8) [19]))) (tB [(.aload_n 0, 0, 0, 0), (.invokevirtual 119, 135, 1, 12)] (.ireturn) [0]))) (tQ (tS [(.aload_n 0, 0, 0, 0), (.iload_n 2, 0, 0, 0), (.invokevirtual 174, 174, 2, 12), (.istore_n 3, 0, 0, 0), (.iload_n 3, 0, 0, 0)]) (tQ (tK 34 (tQ (tB [] (.ifCond .ge 8) [34]) (tB [(.aload_n 0, 0, 0, 0), (.invokevirtual 70, 136, 1, 12)] (.ireturn) [0]))) (tQ (tS [(.iload_n 3, 0, 0, 0), (.bipush 11, 0, 0, 0)]) (tQ (tK 45 (tQ (tB [] (.if_icmp .le 8) [45]) (tB [(.aload_n 0, 0, 0, 0), (.invokevirtual 140, 137, 1, 12)] (.ireturn) [0]))) (tQ (tS [(.aload_n 0, 0, 0, 0), (.bipush 25, 0, 0, 0), (.invokevirtual 78, 142, 2, 12), (.iconst 0, 0, 0, 0), (.istore 4, 0, 0, 0)]) (tQ (tK 159 (tW 54 wX12_kills_54)) (tB [(.aload_n 0, 0, 0, 0), (.iload_n 1, 0, 0, 0), (.bipush 25, 0, 0, 0), (.invokevirtual 134, 146, 3, 12)] (.ireturn) [0]))))))))
def qX12_kills : am_M := (RX12, yX12_kills, cX12_kills, 7, (some .int), tX12_kills)
-- WeylWordsModel.findsLeads()V
def wX12_findsLeads_2 : am_T := tQ (tB [(.iload_n 1, 0, 0, 0), (.aload_n 0, 0, 0, 0), (.getfield 189, 12, 13, 0)] (.if_icmp .ge 56) [63]) (tB [(.aload_n 0, 0, 0, 0), (.getfield 43, 12, 14, 0), (.iload_n 1, 0, 0, 0), (.aload_n 0, 0, 0, 0), (.aload_n 0, 0, 0, 0), (.getfield 40, 12, 12, 0), (.iload_n 1, 0, 0, 0), (.iaload, 0, 0, 0), (.invokevirtual 149, 149, 2, 12), (.iastore, 0, 0, 0), (.aload_n 0, 0, 0, 0), (.getfield 46, 12, 15, 0), (.iload_n 1, 0, 0, 0), (.aload_n 0, 0, 0, 0), (.getfield 22, 12, 6, 0), (.sipush 496, 0, 0, 0), (.aload_n 0, 0, 0, 0), (.getfield 40, 12, 12, 0), (.iload_n 1, 0, 0, 0), (.iaload, 0, 0, 0), (.imul, 0, 0, 0), (.aload_n 0, 0, 0, 0), (.getfield 43, 12, 14, 0), (.iload_n 1, 0, 0, 0), (.iaload, 0, 0, 0), (.iadd, 0, 0, 0), (.iaload, 0, 0, 0), (.invokestatic 177, 177, 1, 0), (.iastore, 0, 0, 0), (.iinc 1 1, 0, 0, 0)] (.goto (-58)) [2])
def tX12_findsLeads : am_T := tQ (tS [(.iconst 0, 0, 0, 0), (.istore_n 1, 0, 0, 0)]) (tQ (tK 63 (tW 2 wX12_findsLeads_2)) (tB [] (.return_) []))
def qX12_findsLeads : am_M := (RX12, yX12_findsLeads, cX12_findsLeads, 2, none, tX12_findsLeads)
-- WeylWordsModel.isBelow(II)Z
def tX12_isBelow : am_T := tQ (tS [(.aload_n 0, 0, 0, 0), (.getfield 25, 12, 7, 0), (.iload_n 1, 0, 0, 0), (.iaload, 0, 0, 0), (.aload_n 0, 0, 0, 0), (.getfield 25, 12, 7, 0), (.iload_n 2, 0, 0, 0), (.iaload, 0, 0, 0)]) (tQ (tK 35 (tQ (tK 34 (tQ (tB [] (.if_icmp .gt 22) [34]) (tQ (tB [(.aload_n 0, 0, 0, 0), (.getfield 28, 12, 8, 0), (.iload_n 1, 0, 0, 0), (.iaload, 0, 0, 0), (.aload_n 0, 0, 0, 0), (.getfield 28, 12, 8, 0), (.iload_n 2, 0, 0, 0), (.iaload, 0, 0, 0)] (.if_icmp .gt 7) [34]) (tB [(.iconst 1, 0, 0, 0)] (.goto 4) [35])))) (tS [(.iconst 0, 0, 0, 0)]))) (tB [] (.ireturn) [1]))
def qX12_isBelow : am_M := (RX12, yX12_isBelow, cX12_isBelow, 3, (some .boolean), tX12_isBelow)
-- WeylWordsModel.firstBelow(I)I
def wX12_firstBelow_2 : am_T := tQ (tB [(.iload_n 2, 0, 0, 0), (.aload_n 0, 0, 0, 0), (.getfield 189, 12, 13, 0)] (.if_icmp .ge 23) [30]) (tQ (tB [(.aload_n 0, 0, 0, 0), (.aload_n 0, 0, 0, 0), (.getfield 43, 12, 14, 0), (.iload_n 2, 0, 0, 0), (.iaload, 0, 0, 0), (.iload_n 1, 0, 0, 0), (.invokevirtual 192, 184, 3, 12)] (.ifCond .ne 9) [30]) (tB [(.iinc 2 1, 0, 0, 0)] (.goto (-25)) [2]))
def tX12_firstBelow : am_T := tQ (tS [(.iconst 0, 0, 0, 0), (.istore_n 2, 0, 0, 0)]) (tQ (tK 30 (tW 2 wX12_firstBelow_2)) (tB [(.iload_n 2, 0, 0, 0)] (.ireturn) [0]))
def qX12_firstBelow : am_M := (RX12, yX12_firstBelow, cX12_firstBelow, 3, (some .int), tX12_firstBelow)
-- WeylWordsModel.rests(I)V
def wX12_rests_16 : am_T := tQ (tB [(.iload_n 2, 0, 0, 0)] (.ifCond .lt 139) [156]) (tQ (tS [(.aload_n 0, 0, 0, 0), (.getfield 22, 12, 6, 0), (.sipush 11904, 0, 0, 0), (.iload_n 2, 0, 0, 0), (.iadd, 0, 0, 0), (.iaload, 0, 0, 0), (.istore_n 3, 0, 0, 0), (.aload_n 0, 0, 0, 0), (.iload_n 2, 0, 0, 0), (.invokevirtual 198, 185, 2, 12), (.istore 4, 0, 0, 0), (.iload 4, 0, 0, 0), (.aload_n 0, 0, 0, 0), (.getfield 189, 12, 13, 0)]) (tQ (tK 146 (tQ (tK 122 (tQ (tB [] (.if_icmp .ge 78) [122]) (tB [(.iload_n 3, 0, 0, 0), (.aload_n 0, 0, 0, 0), (.getfield 46, 12, 15, 0), (.iload 4, 0, 0, 0), (.iaload, 0, 0, 0), (.imul, 0, 0, 0), (.sipush 10007, 0, 0, 0), (.irem, 0, 0, 0), (.istore 5, 0, 0, 0), (.aload_n 0, 0, 0, 0), (.aload_n 0, 0, 0, 0), (.getfield 25, 12, 7, 0), (.iload_n 2, 0, 0, 0), (.iaload, 0, 0, 0), (.aload_n 0, 0, 0, 0), (.getfield 25, 12, 7, 0), (.aload_n 0, 0, 0, 0), (.getfield 43, 12, 14, 0), (.iload 4, 0, 0, 0), (.iaload, 0, 0, 0), (.iaload, 0, 0, 0), (.isub, 0, 0, 0), (.aload_n 0, 0, 0, 0), (.getfield 28, 12, 8, 0), (.iload_n 2, 0, 0, 0), (.iaload, 0, 0, 0), (.aload_n 0, 0, 0, 0), (.getfield 28, 12, 8, 0), (.aload_n 0, 0, 0, 0), (.getfield 43, 12, 14, 0), (.iload 4, 0, 0, 0), (.iaload, 0, 0, 0), (.iaload, 0, 0, 0), (.isub, 0, 0, 0), (.sipush 10007, 0, 0, 0), (.iload 5, 0, 0, 0), (.isub, 0, 0, 0), (.aload_n 0, 0, 0, 0), (.getfield 40, 12, 12, 0), (.iload 4, 0, 0, 0), (.iaload, 0, 0, 0), (.bipush 24, 0, 0, 0), (.invokevirtual 99, 151, 6, 12)] (.goto 27) [146]))) (tS [(.aload_n 0, 0, 0, 0), (.getfield 22, 12, 6, 0), (.sipush 496, 0, 0, 0), (.iload_n 1, 0, 0, 0), (.imul, 0, 0, 0), (.iload_n 2, 0, 0, 0), (.iadd, 0, 0, 0), (.iload_n 3, 0, 0, 0), (.iastore, 0, 0, 0), (.aload_n 0, 0, 0, 0), (.getfield 22, 12, 6, 0), (.sipush 11904, 0, 0, 0), (.iload_n 2, 0, 0, 0), (.iadd, 0, 0, 0), (.iconst 0, 0, 0, 0), (.iastore, 0, 0, 0)]))) (tB [(.aload_n 0, 0, 0, 0), (.bipush 24, 0, 0, 0), (.invokevirtual 149, 149, 2, 12), (.istore_n 2, 0, 0, 0)] (.goto (-137)) [16])))
def tX12_rests : am_T := tQ (tS [(.aload_n 0, 0, 0, 0), (.invokevirtual 195, 183, 1, 12), (.aload_n 0, 0, 0, 0), (.iload_n 1, 0, 0, 0), (.invokevirtual 78, 142, 2, 12), (.aload_n 0, 0, 0, 0), (.bipush 24, 0, 0, 0), (.invokevirtual 149, 149, 2, 12), (.istore_n 2, 0, 0, 0)]) (tQ (tK 156 (tW 16 wX12_rests_16)) (tB [] (.return_) []))
def qX12_rests : am_M := (RX12, yX12_rests, cX12_rests, 6, none, tX12_rests)
-- WeylWordsModel.isSet(I)Z
def tX12_isSet : am_T := tB [(.iload_n 0, 0, 0, 0), (.iconst 1, 0, 0, 0), (.bipush 63, 0, 0, 0), (.invokestatic 74, 131, 3, 0)] (.ireturn) [1]
def qX12_isSet : am_M := (RX12, yX12_isSet, cX12_isSet, 1, (some .boolean), tX12_isSet)
-- WeylWordsModel.rest(III)I
def wX12_rest_39 : am_T := tQ (tB [(.iload 4, 0, 0, 0), (.bipush 6, 0, 0, 0)] (.if_icmp .ge 52) [95]) (tQ (tS [(.iload_n 3, 0, 0, 0), (.iload 4, 0, 0, 0), (.ishr, 0, 0, 0), (.iconst 1, 0, 0, 0), (.iand, 0, 0, 0), (.iconst 1, 0, 0, 0)]) (tQ (tK 89 (tQ (tB [] (.if_icmp .ne 36) [89]) (tS [(.aload_n 0, 0, 0, 0), (.iload 4, 0, 0, 0), (.aload_n 0, 0, 0, 0), (.getfield 189, 12, 13, 0), (.invokevirtual 128, 144, 3, 12), (.aload_n 0, 0, 0, 0), (.getfield 40, 12, 12, 0), (.aload_n 0, 0, 0, 0), (.getfield 189, 12, 13, 0), (.aload_n 0, 0, 0, 0), (.getfield 189, 12, 13, 0), (.iastore, 0, 0, 0), (.aload_n 0, 0, 0, 0), (.dup, 0, 0, 0), (.getfield 189, 12, 13, 0), (.iconst 1, 0, 0, 0), (.iadd, 0, 0, 0), (.putfield 189, 12, 13, 0)]))) (tB [(.iinc 4 1, 0, 0, 0)] (.goto (-53)) [39])))
def wX12_rest_98 : am_T := tQ (tB [(.iload 4, 0, 0, 0), (.aload_n 0, 0, 0, 0), (.getfield 189, 12, 13, 0)] (.if_icmp .ge 28) [132]) (tQ (tS [(.aload_n 0, 0, 0, 0), (.aload_n 0, 0, 0, 0), (.getfield 40, 12, 12, 0), (.iload 4, 0, 0, 0), (.iaload, 0, 0, 0), (.invokevirtual 89, 147, 2, 12)]) (tQ (tK 126 (tQ (tB [] (.ifCond .ge 8) [126]) (tB [(.aload_n 0, 0, 0, 0), (.invokevirtual 70, 136, 1, 12)] (.ireturn) [0]))) (tB [(.iinc 4 1, 0, 0, 0)] (.goto (-31)) [98])))
def tX12_rest : am_T := tQ (tS [(.iload_n 1, 0, 0, 0), (.invokestatic 111, 140, 1, 0)]) (tQ (tK 26 (tQ (tK 21 (tQ (tB [] (.ifCond .eq 17) [21]) (tQ (tB [(.iload_n 2, 0, 0, 0), (.invokestatic 111, 140, 1, 0)] (.ifCond .eq 10) [21]) (tB [(.iload_n 3, 0, 0, 0), (.invokestatic 201, 187, 1, 0)] (.ifCond .ne 8) [26])))) (tB [(.aload_n 0, 0, 0, 0), (.invokevirtual 119, 135, 1, 12)] (.ireturn) [0]))) (tQ (tS [(.aload_n 0, 0, 0, 0), (.iconst 0, 0, 0, 0), (.putfield 189, 12, 13, 0), (.aload_n 0, 0, 0, 0), (.iconst 0, 0, 0, 0), (.putfield 63, 12, 17, 0), (.iconst 0, 0, 0, 0), (.istore 4, 0, 0, 0)]) (tQ (tK 95 (tW 39 wX12_rest_39)) (tQ (tS [(.iconst 0, 0, 0, 0), (.istore 4, 0, 0, 0)]) (tQ (tK 132 (tW 98 wX12_rest_98)) (tB [(.aload_n 0, 0, 0, 0), (.iload_n 2, 0, 0, 0), (.bipush 24, 0, 0, 0), (.invokevirtual 128, 144, 3, 12), (.aload_n 0, 0, 0, 0), (.bipush 25, 0, 0, 0), (.invokevirtual 204, 186, 2, 12), (.aload_n 0, 0, 0, 0), (.iload_n 1, 0, 0, 0), (.bipush 25, 0, 0, 0), (.invokevirtual 134, 146, 3, 12)] (.ireturn) [0]))))))
def qX12_rest : am_M := (RX12, yX12_rest, cX12_rest, 5, (some .int), tX12_rest)
-- WeylWordsModel.evens(I)V
def wX12_evens_22 : am_T := tQ (tB [(.iload_n 3, 0, 0, 0), (.sipush 496, 0, 0, 0)] (.if_icmp .ge 39) [65]) (tB [(.aload_n 0, 0, 0, 0), (.getfield 22, 12, 6, 0), (.sipush 496, 0, 0, 0), (.iload_n 1, 0, 0, 0), (.imul, 0, 0, 0), (.iload_n 3, 0, 0, 0), (.iadd, 0, 0, 0), (.aload_n 0, 0, 0, 0), (.getfield 22, 12, 6, 0), (.sipush 496, 0, 0, 0), (.iload_n 1, 0, 0, 0), (.imul, 0, 0, 0), (.iload_n 3, 0, 0, 0), (.iadd, 0, 0, 0), (.iaload, 0, 0, 0), (.iload_n 2, 0, 0, 0), (.imul, 0, 0, 0), (.sipush 10007, 0, 0, 0), (.irem, 0, 0, 0), (.iastore, 0, 0, 0), (.iinc 3 1, 0, 0, 0)] (.goto (-40)) [22])
def tX12_evens : am_T := tQ (tS [(.aload_n 0, 0, 0, 0), (.getfield 22, 12, 6, 0), (.sipush 496, 0, 0, 0), (.iload_n 1, 0, 0, 0), (.imul, 0, 0, 0), (.aload_n 0, 0, 0, 0), (.iload_n 1, 0, 0, 0), (.invokevirtual 149, 149, 2, 12), (.iadd, 0, 0, 0), (.iaload, 0, 0, 0), (.invokestatic 177, 177, 1, 0), (.istore_n 2, 0, 0, 0), (.iconst 0, 0, 0, 0), (.istore_n 3, 0, 0, 0)]) (tQ (tK 65 (tW 22 wX12_evens_22)) (tB [] (.return_) []))
def qX12_evens : am_M := (RX12, yX12_evens, cX12_evens, 4, none, tX12_evens)
-- WeylWordsModel.areAlike(II)Z
def wX12_areAlike_5 : am_T := tQ (tB [(.iload 4, 0, 0, 0), (.sipush 496, 0, 0, 0)] (.if_icmp .ge 48) [58]) (tQ (tS [(.iload_n 3, 0, 0, 0)]) (tQ (tK 51 (tQ (tK 50 (tQ (tB [] (.ifCond .eq 36) [50]) (tQ (tB [(.aload_n 0, 0, 0, 0), (.getfield 22, 12, 6, 0), (.sipush 496, 0, 0, 0), (.iload_n 1, 0, 0, 0), (.imul, 0, 0, 0), (.iload 4, 0, 0, 0), (.iadd, 0, 0, 0), (.iaload, 0, 0, 0), (.aload_n 0, 0, 0, 0), (.getfield 22, 12, 6, 0), (.sipush 496, 0, 0, 0), (.iload_n 2, 0, 0, 0), (.imul, 0, 0, 0), (.iload 4, 0, 0, 0), (.iadd, 0, 0, 0), (.iaload, 0, 0, 0)] (.if_icmp .ne 7) [50]) (tB [(.iconst 1, 0, 0, 0)] (.goto 4) [51])))) (tS [(.iconst 0, 0, 0, 0)]))) (tB [(.istore_n 3, 0, 0, 0), (.iinc 4 1, 0, 0, 0)] (.goto (-50)) [5])))
def tX12_areAlike : am_T := tQ (tS [(.iconst 1, 0, 0, 0), (.istore_n 3, 0, 0, 0), (.iconst 0, 0, 0, 0), (.istore 4, 0, 0, 0)]) (tQ (tK 58 (tW 5 wX12_areAlike_5)) (tB [(.iload_n 3, 0, 0, 0)] (.ireturn) [1]))
def qX12_areAlike : am_M := (RX12, yX12_areAlike, cX12_areAlike, 5, (some .boolean), tX12_areAlike)
-- WeylWordsModel.rowGoes(I)V
def wX12_rowGoes_12 : am_T := tQ (tB [(.iload_n 2, 0, 0, 0), (.aload_n 0, 0, 0, 0), (.getfield 207, 12, 16, 0)] (.if_icmp .ge 17) [34]) (tB [(.aload_n 0, 0, 0, 0), (.iload_n 2, 0, 0, 0), (.iconst 1, 0, 0, 0), (.iadd, 0, 0, 0), (.iload_n 2, 0, 0, 0), (.invokevirtual 103, 143, 3, 12), (.iinc 2 1, 0, 0, 0)] (.goto (-19)) [12])
def tX12_rowGoes : am_T := tQ (tS [(.aload_n 0, 0, 0, 0), (.dup, 0, 0, 0), (.getfield 207, 12, 16, 0), (.iconst 1, 0, 0, 0), (.isub, 0, 0, 0), (.putfield 207, 12, 16, 0), (.iload_n 1, 0, 0, 0), (.istore_n 2, 0, 0, 0)]) (tQ (tK 34 (tW 12 wX12_rowGoes_12)) (tB [] (.return_) []))
def qX12_rowGoes : am_M := (RX12, yX12_rowGoes, cX12_rowGoes, 3, none, tX12_rowGoes)
-- WeylWordsModel.takesBy(I)V
def wX12_takesBy_7 : am_T := tQ (tB [(.iload_n 2, 0, 0, 0), (.aload_n 0, 0, 0, 0), (.getfield 207, 12, 16, 0)] (.if_icmp .ge 34) [46]) (tQ (tS [(.iload_n 2, 0, 0, 0), (.iload_n 1, 0, 0, 0)]) (tQ (tK 40 (tQ (tB [] (.if_icmp .eq 23) [40]) (tS [(.aload_n 0, 0, 0, 0), (.getfield 40, 12, 12, 0), (.aload_n 0, 0, 0, 0), (.getfield 189, 12, 13, 0), (.iload_n 2, 0, 0, 0), (.iastore, 0, 0, 0), (.aload_n 0, 0, 0, 0), (.dup, 0, 0, 0), (.getfield 189, 12, 13, 0), (.iconst 1, 0, 0, 0), (.iadd, 0, 0, 0), (.putfield 189, 12, 13, 0)]))) (tB [(.iinc 2 1, 0, 0, 0)] (.goto (-36)) [7])))
def tX12_takesBy : am_T := tQ (tS [(.aload_n 0, 0, 0, 0), (.iconst 0, 0, 0, 0), (.putfield 189, 12, 13, 0), (.iconst 0, 0, 0, 0), (.istore_n 2, 0, 0, 0)]) (tQ (tK 46 (tW 7 wX12_takesBy_7)) (tB [] (.return_) []))
def qX12_takesBy : am_M := (RX12, yX12_takesBy, cX12_takesBy, 3, none, tX12_takesBy)
-- WeylWordsModel.tidies()V
def wX12_tidies_15 : am_T := tQ (tB [(.iload_n 2, 0, 0, 0)] (.ifCond .lt 79) [95]) (tQ (tS [(.aload_n 0, 0, 0, 0), (.iload_n 2, 0, 0, 0), (.invokevirtual 210, 192, 2, 12), (.aload_n 0, 0, 0, 0), (.iload_n 2, 0, 0, 0), (.bipush 24, 0, 0, 0), (.invokevirtual 103, 143, 3, 12), (.aload_n 0, 0, 0, 0), (.bipush 25, 0, 0, 0), (.invokevirtual 204, 186, 2, 12), (.aload_n 0, 0, 0, 0), (.bipush 25, 0, 0, 0), (.invokevirtual 89, 147, 2, 12)]) (tQ (tK 89 (tQ (tK 56 (tQ (tB [] (.ifCond .ge 13) [56]) (tB [(.aload_n 0, 0, 0, 0), (.iload_n 2, 0, 0, 0), (.invokevirtual 213, 191, 2, 12), (.iconst 1, 0, 0, 0), (.istore_n 1, 0, 0, 0)] (.goto 36) [89]))) (tQ (tS [(.aload_n 0, 0, 0, 0), (.bipush 25, 0, 0, 0), (.invokevirtual 216, 189, 2, 12), (.iload_n 1, 0, 0, 0)]) (tQ (tK 81 (tQ (tK 80 (tQ (tK 76 (tQ (tB [] (.ifCond .ne 13) [76]) (tB [(.aload_n 0, 0, 0, 0), (.bipush 25, 0, 0, 0), (.iload_n 2, 0, 0, 0), (.invokevirtual 219, 190, 3, 12)] (.ifCond .ne 7) [80]))) (tB [(.iconst 1, 0, 0, 0)] (.goto 4) [81]))) (tS [(.iconst 0, 0, 0, 0)]))) (tS [(.istore_n 1, 0, 0, 0), (.aload_n 0, 0, 0, 0), (.bipush 25, 0, 0, 0), (.iload_n 2, 0, 0, 0), (.invokevirtual 103, 143, 3, 12)]))))) (tB [(.iinc 2 (-1), 0, 0, 0)] (.goto (-77)) [15])))
def wX12_tidies_2 : am_T := tQ (tB [(.iload_n 1, 0, 0, 0)] (.ifCond .eq 95) [98]) (tQ (tS [(.iconst 0, 0, 0, 0), (.istore_n 1, 0, 0, 0), (.aload_n 0, 0, 0, 0), (.getfield 207, 12, 16, 0), (.iconst 1, 0, 0, 0), (.isub, 0, 0, 0), (.istore_n 2, 0, 0, 0)]) (tQ (tK 95 (tW 15 wX12_tidies_15)) (tB [] (.goto (-93)) [2])))
def tX12_tidies : am_T := tQ (tS [(.iconst 1, 0, 0, 0), (.istore_n 1, 0, 0, 0)]) (tQ (tK 98 (tW 2 wX12_tidies_2)) (tB [] (.return_) []))
def qX12_tidies : am_M := (RX12, yX12_tidies, cX12_tidies, 3, none, tX12_tidies)
-- WeylWordsModel.isAhead(II)Z
def tX12_isAhead : am_T := tQ (tS [(.aload_n 0, 0, 0, 0), (.getfield 25, 12, 7, 0), (.iload_n 1, 0, 0, 0), (.iaload, 0, 0, 0), (.aload_n 0, 0, 0, 0), (.getfield 28, 12, 8, 0), (.iload_n 1, 0, 0, 0), (.iaload, 0, 0, 0), (.iadd, 0, 0, 0), (.istore_n 3, 0, 0, 0), (.aload_n 0, 0, 0, 0), (.getfield 25, 12, 7, 0), (.iload_n 2, 0, 0, 0), (.iaload, 0, 0, 0), (.aload_n 0, 0, 0, 0), (.getfield 28, 12, 8, 0), (.iload_n 2, 0, 0, 0), (.iaload, 0, 0, 0), (.iadd, 0, 0, 0), (.istore 4, 0, 0, 0), (.iload_n 3, 0, 0, 0), (.iload 4, 0, 0, 0)]) (tQ (tK 90 (tQ (tK 89 (tQ (tK 85 (tQ (tB [] (.if_icmp .gt 53) [85]) (tQ (tB [(.iload_n 3, 0, 0, 0), (.iload 4, 0, 0, 0)] (.if_icmp .ne 51) [89]) (tQ (tS [(.aload_n 0, 0, 0, 0), (.getfield 7, 12, 0, 0), (.sipush 608, 0, 0, 0), (.iaload, 0, 0, 0)]) (tQ (tK 70 (tQ (tB [] (.ifCond .ne 21) [70]) (tQ (tB [(.aload_n 0, 0, 0, 0), (.getfield 28, 12, 8, 0), (.iload_n 1, 0, 0, 0), (.iaload, 0, 0, 0), (.aload_n 0, 0, 0, 0), (.getfield 28, 12, 8, 0), (.iload_n 2, 0, 0, 0), (.iaload, 0, 0, 0)] (.if_icmp .le 25) [89]) (tB [] (.goto 18) [85])))) (tB [(.aload_n 0, 0, 0, 0), (.getfield 25, 12, 7, 0), (.iload_n 1, 0, 0, 0), (.iaload, 0, 0, 0), (.aload_n 0, 0, 0, 0), (.getfield 25, 12, 7, 0), (.iload_n 2, 0, 0, 0), (.iaload, 0, 0, 0)] (.if_icmp .le 7) [89])))))) (tB [(.iconst 1, 0, 0, 0)] (.goto 4) [90]))) (tS [(.iconst 0, 0, 0, 0)]))) (tB [] (.ireturn) [1]))
def qX12_isAhead : am_M := (RX12, yX12_isAhead, cX12_isAhead, 5, (some .boolean), tX12_isAhead)
-- WeylWordsModel.exchanges(II)V
def tX12_exchanges : am_T := tB [(.aload_n 0, 0, 0, 0), (.iload_n 1, 0, 0, 0), (.bipush 26, 0, 0, 0), (.invokevirtual 103, 143, 3, 12), (.aload_n 0, 0, 0, 0), (.iload_n 2, 0, 0, 0), (.iload_n 1, 0, 0, 0), (.invokevirtual 103, 143, 3, 12), (.aload_n 0, 0, 0, 0), (.bipush 26, 0, 0, 0), (.iload_n 2, 0, 0, 0), (.invokevirtual 103, 143, 3, 12)] (.return_) []
def qX12_exchanges : am_M := (RX12, yX12_exchanges, cX12_exchanges, 3, none, tX12_exchanges)
-- WeylWordsModel.sorts(Z)V
def wX12_sorts_12 : am_T := tQ (tB [(.iload_n 3, 0, 0, 0)] (.ifCond .le 68) [81]) (tQ (tS [(.aload_n 0, 0, 0, 0), (.iload_n 3, 0, 0, 0), (.iconst 1, 0, 0, 0), (.isub, 0, 0, 0), (.invokevirtual 149, 149, 2, 12), (.istore 4, 0, 0, 0), (.aload_n 0, 0, 0, 0), (.iload_n 3, 0, 0, 0), (.invokevirtual 149, 149, 2, 12), (.istore 5, 0, 0, 0), (.iload_n 1, 0, 0, 0)]) (tQ (tK 75 (tQ (tK 67 (tQ (tK 56 (tQ (tB [] (.ifCond .eq 23) [56]) (tQ (tB [(.aload_n 0, 0, 0, 0), (.getfield 25, 12, 7, 0), (.iload 4, 0, 0, 0), (.iaload, 0, 0, 0), (.aload_n 0, 0, 0, 0), (.getfield 25, 12, 7, 0), (.iload 5, 0, 0, 0), (.iaload, 0, 0, 0)] (.if_icmp .le 25) [75]) (tB [] (.goto 14) [67])))) (tB [(.aload_n 0, 0, 0, 0), (.iload 4, 0, 0, 0), (.iload 5, 0, 0, 0), (.invokevirtual 222, 194, 3, 12)] (.ifCond .eq 11) [75]))) (tS [(.aload_n 0, 0, 0, 0), (.iload_n 3, 0, 0, 0), (.iconst 1, 0, 0, 0), (.isub, 0, 0, 0), (.iload_n 3, 0, 0, 0), (.invokevirtual 225, 195, 3, 12)]))) (tB [(.iinc 3 (-1), 0, 0, 0)] (.goto (-66)) [12])))
def wX12_sorts_2 : am_T := tQ (tB [(.iload_n 2, 0, 0, 0), (.aload_n 0, 0, 0, 0), (.getfield 207, 12, 16, 0)] (.if_icmp .ge 80) [87]) (tQ (tS [(.iload_n 2, 0, 0, 0), (.istore_n 3, 0, 0, 0)]) (tQ (tK 81 (tW 12 wX12_sorts_12)) (tB [(.iinc 2 1, 0, 0, 0)] (.goto (-82)) [2])))
def tX12_sorts : am_T := tQ (tS [(.iconst 1, 0, 0, 0), (.istore_n 2, 0, 0, 0)]) (tQ (tK 87 (tW 2 wX12_sorts_2)) (tB [] (.return_) []))
def qX12_sorts : am_M := (RX12, yX12_sorts, cX12_sorts, 6, none, tX12_sorts)
-- WeylWordsModel.crosses(II)V
def tX12_crosses : am_T := tQ (tS [(.aload_n 0, 0, 0, 0), (.iload_n 1, 0, 0, 0), (.invokevirtual 149, 149, 2, 12), (.istore_n 3, 0, 0, 0), (.aload_n 0, 0, 0, 0), (.iload_n 2, 0, 0, 0), (.invokevirtual 149, 149, 2, 12), (.istore 4, 0, 0, 0), (.aload_n 0, 0, 0, 0), (.getfield 25, 12, 7, 0), (.iload_n 3, 0, 0, 0), (.iaload, 0, 0, 0), (.aload_n 0, 0, 0, 0), (.getfield 25, 12, 7, 0), (.iload 4, 0, 0, 0), (.iaload, 0, 0, 0)]) (tQ (tK 45 (tQ (tK 38 (tQ (tB [] (.if_icmp .le 12) [38]) (tB [(.aload_n 0, 0, 0, 0), (.getfield 25, 12, 7, 0), (.iload_n 3, 0, 0, 0), (.iaload, 0, 0, 0)] (.goto 10) [45]))) (tS [(.aload_n 0, 0, 0, 0), (.getfield 25, 12, 7, 0), (.iload 4, 0, 0, 0), (.iaload, 0, 0, 0)]))) (tQ (tS [(.istore 5, 0, 0, 0), (.aload_n 0, 0, 0, 0), (.getfield 28, 12, 8, 0), (.iload_n 3, 0, 0, 0), (.iaload, 0, 0, 0), (.aload_n 0, 0, 0, 0), (.getfield 28, 12, 8, 0), (.iload 4, 0, 0, 0), (.iaload, 0, 0, 0)]) (tQ (tK 79 (tQ (tK 72 (tQ (tB [] (.if_icmp .le 12) [72]) (tB [(.aload_n 0, 0, 0, 0), (.getfield 28, 12, 8, 0), (.iload_n 3, 0, 0, 0), (.iaload, 0, 0, 0)] (.goto 10) [79]))) (tS [(.aload_n 0, 0, 0, 0), (.getfield 28, 12, 8, 0), (.iload 4, 0, 0, 0), (.iaload, 0, 0, 0)]))) (tB [(.istore 6, 0, 0, 0), (.aload_n 0, 0, 0, 0), (.bipush 24, 0, 0, 0), (.invokevirtual 78, 142, 2, 12), (.aload_n 0, 0, 0, 0), (.iload 5, 0, 0, 0), (.aload_n 0, 0, 0, 0), (.getfield 25, 12, 7, 0), (.iload_n 3, 0, 0, 0), (.iaload, 0, 0, 0), (.isub, 0, 0, 0), (.iload 6, 0, 0, 0), (.aload_n 0, 0, 0, 0), (.getfield 28, 12, 8, 0), (.iload_n 3, 0, 0, 0), (.iaload, 0, 0, 0), (.isub, 0, 0, 0), (.iconst 1, 0, 0, 0), (.iload_n 1, 0, 0, 0), (.bipush 24, 0, 0, 0), (.invokevirtual 99, 151, 6, 12), (.aload_n 0, 0, 0, 0), (.iload 5, 0, 0, 0), (.aload_n 0, 0, 0, 0), (.getfield 25, 12, 7, 0), (.iload 4, 0, 0, 0), (.iaload, 0, 0, 0), (.isub, 0, 0, 0), (.iload 6, 0, 0, 0), (.aload_n 0, 0, 0, 0), (.getfield 28, 12, 8, 0), (.iload 4, 0, 0, 0), (.iaload, 0, 0, 0), (.isub, 0, 0, 0), (.sipush 10006, 0, 0, 0), (.iload_n 2, 0, 0, 0), (.bipush 24, 0, 0, 0), (.invokevirtual 99, 151, 6, 12)] (.return_) []))))
def qX12_crosses : am_M := (RX12, yX12_crosses, cX12_crosses, 7, none, tX12_crosses)
-- WeylWordsModel.isOneMore()Z
def wX12_isOneMore_14 : am_T := tQ (tB [(.iload_n 1, 0, 0, 0), (.aload_n 0, 0, 0, 0), (.getfield 207, 12, 16, 0)] (.if_icmp .ge 60) [79]) (tQ (tS [(.aload_n 0, 0, 0, 0), (.iload_n 1, 0, 0, 0), (.iconst 1, 0, 0, 0), (.isub, 0, 0, 0), (.iload_n 1, 0, 0, 0), (.invokevirtual 232, 197, 3, 12), (.aload_n 0, 0, 0, 0), (.bipush 25, 0, 0, 0), (.invokevirtual 204, 186, 2, 12), (.aload_n 0, 0, 0, 0), (.bipush 25, 0, 0, 0), (.invokevirtual 89, 147, 2, 12)]) (tQ (tK 73 (tQ (tB [] (.ifCond .lt 31) [73]) (tB [(.aload_n 0, 0, 0, 0), (.bipush 25, 0, 0, 0), (.invokevirtual 216, 189, 2, 12), (.aload_n 0, 0, 0, 0), (.bipush 25, 0, 0, 0), (.aload_n 0, 0, 0, 0), (.getfield 207, 12, 16, 0), (.invokevirtual 103, 143, 3, 12), (.aload_n 0, 0, 0, 0), (.dup, 0, 0, 0), (.getfield 207, 12, 16, 0), (.iconst 1, 0, 0, 0), (.iadd, 0, 0, 0), (.putfield 207, 12, 16, 0), (.iconst 1, 0, 0, 0)] (.ireturn) [1]))) (tB [(.iinc 1 1, 0, 0, 0)] (.goto (-62)) [14])))
def tX12_isOneMore : am_T := tQ (tS [(.aload_n 0, 0, 0, 0), (.iconst 1, 0, 0, 0), (.invokevirtual 228, 196, 2, 12), (.aload_n 0, 0, 0, 0), (.sipush (-20001), 0, 0, 0), (.invokevirtual 210, 192, 2, 12), (.iconst 1, 0, 0, 0), (.istore_n 1, 0, 0, 0)]) (tQ (tK 79 (tW 14 wX12_isOneMore_14)) (tB [(.iconst 0, 0, 0, 0)] (.ireturn) [1]))
def qX12_isOneMore : am_M := (RX12, yX12_isOneMore, cX12_isOneMore, 2, (some .boolean), tX12_isOneMore)
-- WeylWordsModel.laysBasis(I)V
def wX12_laysBasis_16 : am_T := tQ (tB [(.iload_n 2, 0, 0, 0), (.bipush 6, 0, 0, 0)] (.if_icmp .ge 52) [71]) (tQ (tS [(.iload_n 1, 0, 0, 0), (.iload_n 2, 0, 0, 0), (.ishr, 0, 0, 0), (.iconst 1, 0, 0, 0), (.iand, 0, 0, 0), (.iconst 1, 0, 0, 0)]) (tQ (tK 65 (tQ (tB [] (.if_icmp .ne 37) [65]) (tQ (tS [(.aload_n 0, 0, 0, 0), (.iload_n 2, 0, 0, 0), (.aload_n 0, 0, 0, 0), (.getfield 207, 12, 16, 0), (.invokevirtual 128, 144, 3, 12), (.aload_n 0, 0, 0, 0), (.dup, 0, 0, 0), (.getfield 207, 12, 16, 0), (.aload_n 0, 0, 0, 0), (.aload_n 0, 0, 0, 0), (.getfield 207, 12, 16, 0), (.invokevirtual 89, 147, 2, 12)]) (tQ (tK 61 (tQ (tK 60 (tQ (tB [] (.ifCond .ge 7) [60]) (tB [(.iconst 0, 0, 0, 0)] (.goto 4) [61]))) (tS [(.iconst 1, 0, 0, 0)]))) (tS [(.iadd, 0, 0, 0), (.putfield 207, 12, 16, 0)]))))) (tB [(.iinc 2 1, 0, 0, 0)] (.goto (-52)) [16])))
def wX12_laysBasis_75 : am_T := tQ (tB [(.aload_n 0, 0, 0, 0), (.invokevirtual 238, 198, 1, 12)] (.ifCond .eq 10) [89]) (tB [(.aload_n 0, 0, 0, 0), (.invokevirtual 235, 193, 1, 12)] (.goto (-11)) [75])
def tX12_laysBasis : am_T := tQ (tS [(.aload_n 0, 0, 0, 0), (.getfield 63, 12, 17, 0), (.iload_n 1, 0, 0, 0)]) (tQ (tK 9 (tQ (tB [] (.if_icmp .ne 4) [9]) (tB [] (.return_) []))) (tQ (tS [(.aload_n 0, 0, 0, 0), (.iconst 0, 0, 0, 0), (.putfield 207, 12, 16, 0), (.iconst 0, 0, 0, 0), (.istore_n 2, 0, 0, 0)]) (tQ (tK 71 (tW 16 wX12_laysBasis_16)) (tQ (tS [(.aload_n 0, 0, 0, 0), (.invokevirtual 235, 193, 1, 12)]) (tQ (tK 89 (tW 75 wX12_laysBasis_75)) (tB [(.aload_n 0, 0, 0, 0), (.iconst 0, 0, 0, 0), (.invokevirtual 228, 196, 2, 12), (.aload_n 0, 0, 0, 0), (.iload_n 1, 0, 0, 0), (.putfield 63, 12, 17, 0)] (.return_) []))))))
def qX12_laysBasis : am_M := (RX12, yX12_laysBasis, cX12_laysBasis, 3, none, tX12_laysBasis)
-- WeylWordsModel.isSmall(I)Z
def wX12_isSmall_4 : am_T := tQ (tB [(.iload_n 3, 0, 0, 0), (.bipush 6, 0, 0, 0)] (.if_icmp .ge 44) [51]) (tQ (tS [(.aload_n 0, 0, 0, 0), (.iload_n 3, 0, 0, 0), (.bipush 24, 0, 0, 0), (.invokevirtual 128, 144, 3, 12), (.iload_n 2, 0, 0, 0)]) (tQ (tK 44 (tQ (tK 43 (tQ (tB [] (.ifCond .eq 25) [43]) (tQ (tS [(.iload_n 1, 0, 0, 0), (.iload_n 3, 0, 0, 0), (.ishr, 0, 0, 0), (.iconst 1, 0, 0, 0), (.iand, 0, 0, 0)]) (tQ (tK 39 (tQ (tB [] (.ifCond .eq 13) [39]) (tB [(.aload_n 0, 0, 0, 0), (.bipush 24, 0, 0, 0), (.invokevirtual 89, 147, 2, 12), (.iconst 3, 0, 0, 0)] (.if_icmp .gt 7) [43]))) (tB [(.iconst 1, 0, 0, 0)] (.goto 4) [44]))))) (tS [(.iconst 0, 0, 0, 0)]))) (tB [(.istore_n 2, 0, 0, 0), (.iinc 3 1, 0, 0, 0)] (.goto (-44)) [4])))
def tX12_isSmall : am_T := tQ (tS [(.iconst 1, 0, 0, 0), (.istore_n 2, 0, 0, 0), (.iconst 0, 0, 0, 0), (.istore_n 3, 0, 0, 0)]) (tQ (tK 51 (tW 4 wX12_isSmall_4)) (tB [(.iload_n 2, 0, 0, 0)] (.ireturn) [1]))
def qX12_isSmall : am_M := (RX12, yX12_isSmall, cX12_isSmall, 4, (some .boolean), tX12_isSmall)
-- WeylWordsModel.basis(I)I
def tX12_basis : am_T := tQ (tS [(.iload_n 1, 0, 0, 0), (.invokestatic 201, 187, 1, 0)]) (tQ (tK 12 (tQ (tB [] (.ifCond .ne 8) [12]) (tB [(.aload_n 0, 0, 0, 0), (.invokevirtual 119, 135, 1, 12)] (.ireturn) [0]))) (tQ (tS [(.aload_n 0, 0, 0, 0), (.iload_n 1, 0, 0, 0), (.invokevirtual 242, 200, 2, 12)]) (tQ (tK 25 (tQ (tB [] (.ifCond .ne 8) [25]) (tB [(.aload_n 0, 0, 0, 0), (.invokevirtual 70, 136, 1, 12)] (.ireturn) [0]))) (tB [(.aload_n 0, 0, 0, 0), (.iload_n 1, 0, 0, 0), (.invokevirtual 245, 199, 2, 12), (.aload_n 0, 0, 0, 0), (.getfield 207, 12, 16, 0)] (.ireturn) [0]))))
def qX12_basis : am_M := (RX12, yX12_basis, cX12_basis, 2, (some .int), tX12_basis)
-- WeylWordsModel.based(IIII)I
def tX12_based : am_T := tQ (tS [(.iload_n 1, 0, 0, 0), (.invokestatic 201, 187, 1, 0)]) (tQ (tK 37 (tQ (tK 32 (tQ (tB [] (.ifCond .eq 28) [32]) (tQ (tB [(.iload_n 2, 0, 0, 0)] (.ifCond .lt 24) [32]) (tQ (tB [(.iload_n 3, 0, 0, 0), (.iconst 0, 0, 0, 0), (.bipush 15, 0, 0, 0), (.invokestatic 74, 131, 3, 0)] (.ifCond .eq 14) [32]) (tB [(.iload 4, 0, 0, 0), (.iconst 0, 0, 0, 0), (.bipush 15, 0, 0, 0), (.invokestatic 74, 131, 3, 0)] (.ifCond .ne 8) [37]))))) (tB [(.aload_n 0, 0, 0, 0), (.invokevirtual 119, 135, 1, 12)] (.ireturn) [0]))) (tQ (tS [(.aload_n 0, 0, 0, 0), (.iload_n 1, 0, 0, 0), (.invokevirtual 242, 200, 2, 12)]) (tQ (tK 50 (tQ (tB [] (.ifCond .ne 8) [50]) (tB [(.aload_n 0, 0, 0, 0), (.invokevirtual 70, 136, 1, 12)] (.ireturn) [0]))) (tQ (tS [(.aload_n 0, 0, 0, 0), (.iload_n 1, 0, 0, 0), (.invokevirtual 245, 199, 2, 12), (.iload_n 2, 0, 0, 0), (.aload_n 0, 0, 0, 0), (.getfield 207, 12, 16, 0)]) (tQ (tK 87 (tQ (tK 86 (tQ (tB [] (.if_icmp .ge 26) [86]) (tB [(.aload_n 0, 0, 0, 0), (.getfield 22, 12, 6, 0), (.sipush 496, 0, 0, 0), (.iload_n 2, 0, 0, 0), (.imul, 0, 0, 0), (.iload_n 3, 0, 0, 0), (.iload 4, 0, 0, 0), (.invokestatic 59, 132, 2, 0), (.iadd, 0, 0, 0), (.iaload, 0, 0, 0), (.invokestatic 125, 134, 1, 0)] (.goto 4) [87]))) (tS [(.iconst 0, 0, 0, 0)]))) (tB [] (.ireturn) [0]))))))
def qX12_based : am_M := (RX12, yX12_based, cX12_based, 5, (some .int), tX12_based)
-- WeylWordsModel.stairs(II)I
def wX12_stairs_56 : am_T := tQ (tB [(.iload 4, 0, 0, 0), (.iload_n 2, 0, 0, 0)] (.if_icmp .gt 37) [96]) (tQ (tS [(.iload_n 3, 0, 0, 0), (.aload_n 0, 0, 0, 0), (.iload_n 2, 0, 0, 0), (.iload 4, 0, 0, 0), (.isub, 0, 0, 0), (.iload 4, 0, 0, 0), (.invokestatic 59, 132, 2, 0), (.invokevirtual 198, 185, 2, 12), (.aload_n 0, 0, 0, 0), (.getfield 189, 12, 13, 0)]) (tQ (tK 88 (tQ (tK 87 (tQ (tB [] (.if_icmp .ne 7) [87]) (tB [(.iconst 1, 0, 0, 0)] (.goto 4) [88]))) (tS [(.iconst 0, 0, 0, 0)]))) (tB [(.iadd, 0, 0, 0), (.istore_n 3, 0, 0, 0), (.iinc 4 1, 0, 0, 0)] (.goto (-37)) [56])))
def tX12_stairs : am_T := tQ (tS [(.iload_n 1, 0, 0, 0), (.invokestatic 201, 187, 1, 0)]) (tQ (tK 22 (tQ (tK 17 (tQ (tB [] (.ifCond .eq 13) [17]) (tB [(.iload_n 2, 0, 0, 0), (.iconst 0, 0, 0, 0), (.bipush 20, 0, 0, 0), (.invokestatic 74, 131, 3, 0)] (.ifCond .ne 8) [22]))) (tB [(.aload_n 0, 0, 0, 0), (.invokevirtual 119, 135, 1, 12)] (.ireturn) [0]))) (tQ (tS [(.aload_n 0, 0, 0, 0), (.iload_n 1, 0, 0, 0), (.invokevirtual 242, 200, 2, 12)]) (tQ (tK 35 (tQ (tB [] (.ifCond .ne 8) [35]) (tB [(.aload_n 0, 0, 0, 0), (.invokevirtual 70, 136, 1, 12)] (.ireturn) [0]))) (tQ (tS [(.aload_n 0, 0, 0, 0), (.iload_n 1, 0, 0, 0), (.invokevirtual 245, 199, 2, 12), (.aload_n 0, 0, 0, 0), (.sipush (-20001), 0, 0, 0), (.invokevirtual 210, 192, 2, 12), (.aload_n 0, 0, 0, 0), (.invokevirtual 195, 183, 1, 12), (.iconst 0, 0, 0, 0), (.istore_n 3, 0, 0, 0), (.iconst 0, 0, 0, 0), (.istore 4, 0, 0, 0)]) (tQ (tK 96 (tW 56 wX12_stairs_56)) (tB [(.iload_n 3, 0, 0, 0)] (.ireturn) [0]))))))
def qX12_stairs : am_M := (RX12, yX12_stairs, cX12_stairs, 5, (some .int), tX12_stairs)
-- WeylWordsModel.within(II)I
def tX12_within : am_T := tQ (tS [(.iload_n 1, 0, 0, 0), (.invokestatic 111, 140, 1, 0)]) (tQ (tK 19 (tQ (tK 14 (tQ (tB [] (.ifCond .eq 10) [14]) (tB [(.iload_n 2, 0, 0, 0), (.invokestatic 201, 187, 1, 0)] (.ifCond .ne 8) [19]))) (tB [(.aload_n 0, 0, 0, 0), (.invokevirtual 119, 135, 1, 12)] (.ireturn) [0]))) (tQ (tS [(.aload_n 0, 0, 0, 0), (.iload_n 2, 0, 0, 0), (.invokevirtual 242, 200, 2, 12)]) (tQ (tK 32 (tQ (tB [] (.ifCond .ne 8) [32]) (tB [(.aload_n 0, 0, 0, 0), (.invokevirtual 70, 136, 1, 12)] (.ireturn) [0]))) (tQ (tS [(.aload_n 0, 0, 0, 0), (.iload_n 2, 0, 0, 0), (.invokevirtual 245, 199, 2, 12), (.aload_n 0, 0, 0, 0), (.sipush (-20001), 0, 0, 0), (.invokevirtual 210, 192, 2, 12), (.aload_n 0, 0, 0, 0), (.iload_n 1, 0, 0, 0), (.bipush 24, 0, 0, 0), (.invokevirtual 128, 144, 3, 12), (.aload_n 0, 0, 0, 0), (.bipush 25, 0, 0, 0), (.invokevirtual 204, 186, 2, 12), (.aload_n 0, 0, 0, 0), (.bipush 25, 0, 0, 0), (.invokevirtual 89, 147, 2, 12)]) (tQ (tK 71 (tQ (tK 70 (tQ (tB [] (.ifCond .ge 7) [70]) (tB [(.iconst 1, 0, 0, 0)] (.goto 4) [71]))) (tS [(.iconst 0, 0, 0, 0)]))) (tB [] (.ireturn) [0]))))))
def qX12_within : am_M := (RX12, yX12_within, cX12_within, 3, (some .int), tX12_within)
-- WeylWordsModel.type(I)I
def tX12_type : am_T := tQ (tS [(.iload_n 1, 0, 0, 0), (.iconst 0, 0, 0, 0), (.bipush 127, 0, 0, 0), (.invokestatic 74, 131, 3, 0)]) (tQ (tK 15 (tQ (tB [] (.ifCond .ne 8) [15]) (tB [(.aload_n 0, 0, 0, 0), (.invokevirtual 119, 135, 1, 12)] (.ireturn) [0]))) (tQ (tS [(.aload_n 0, 0, 0, 0), (.getfield 248, 12, 5, 0), (.bipush 120, 0, 0, 0)]) (tQ (tK 29 (tQ (tB [] (.if_icmp .ne 8) [29]) (tB [(.aload_n 0, 0, 0, 0), (.invokevirtual 140, 137, 1, 12)] (.ireturn) [0]))) (tB [(.aload_n 0, 0, 0, 0), (.getfield 19, 12, 4, 0), (.aload_n 0, 0, 0, 0), (.getfield 248, 12, 5, 0), (.iload_n 1, 0, 0, 0), (.iastore, 0, 0, 0), (.aload_n 0, 0, 0, 0), (.dup, 0, 0, 0), (.getfield 248, 12, 5, 0), (.iconst 1, 0, 0, 0), (.iadd, 0, 0, 0), (.putfield 248, 12, 5, 0), (.aload_n 0, 0, 0, 0), (.getfield 248, 12, 5, 0)] (.ireturn) [0]))))
def qX12_type : am_M := (RX12, yX12_type, cX12_type, 2, (some .int), tX12_type)
-- WeylWordsModel.clear()I
def tX12_clear : am_T := tB [(.aload_n 0, 0, 0, 0), (.getfield 248, 12, 5, 0), (.istore_n 1, 0, 0, 0), (.aload_n 0, 0, 0, 0), (.iconst 0, 0, 0, 0), (.putfield 248, 12, 5, 0), (.iload_n 1, 0, 0, 0)] (.ireturn) [0]
def qX12_clear : am_M := (RX12, yX12_clear, cX12_clear, 2, (some .int), tX12_clear)
-- WeylWordsModel.isAt(II)Z
def tX12_isAt : am_T := tQ (tS [(.aload_n 0, 0, 0, 0), (.getfield 251, 12, 18, 0), (.aload_n 0, 0, 0, 0), (.getfield 248, 12, 5, 0)]) (tQ (tK 33 (tQ (tK 32 (tQ (tB [] (.if_icmp .ge 24) [32]) (tQ (tB [(.aload_n 0, 0, 0, 0), (.getfield 19, 12, 4, 0), (.aload_n 0, 0, 0, 0), (.getfield 251, 12, 18, 0), (.iaload, 0, 0, 0), (.iload_n 1, 0, 0, 0), (.iload_n 2, 0, 0, 0), (.invokestatic 74, 131, 3, 0)] (.ifCond .eq 7) [32]) (tB [(.iconst 1, 0, 0, 0)] (.goto 4) [33])))) (tS [(.iconst 0, 0, 0, 0)]))) (tB [] (.ireturn) [1]))
def qX12_isAt : am_M := (RX12, yX12_isAt, cX12_isAt, 3, (some .boolean), tX12_isAt)
-- WeylWordsModel.blanks()V
def wX12_blanks_0 : am_T := tQ (tB [(.aload_n 0, 0, 0, 0), (.bipush 32, 0, 0, 0), (.bipush 32, 0, 0, 0), (.invokevirtual 254, 207, 3, 12)] (.ifCond .eq 16) [24]) (tB [(.aload_n 0, 0, 0, 0), (.dup, 0, 0, 0), (.getfield 251, 12, 18, 0), (.iconst 1, 0, 0, 0), (.iadd, 0, 0, 0), (.putfield 251, 12, 18, 0)] (.goto (-21)) [0])
def tX12_blanks : am_T := tQ (tK 24 (tW 0 wX12_blanks_0)) (tB [] (.return_) [])
def qX12_blanks : am_M := (RX12, yX12_blanks, cX12_blanks, 1, none, tX12_blanks)
-- WeylWordsModel.fails(I)Z
def tX12_fails : am_T := tB [(.aload_n 0, 0, 0, 0), (.iload_n 1, 0, 0, 0), (.putfield 257, 12, 19, 0), (.iconst 0, 0, 0, 0)] (.ireturn) [1]
def qX12_fails : am_M := (RX12, yX12_fails, cX12_fails, 2, (some .boolean), tX12_fails)
-- WeylWordsModel.opens()V
def tX12_opens : am_T := tB [(.aload_n 0, 0, 0, 0), (.iconst 1, 0, 0, 0), (.putfield 260, 12, 21, 1), (.aload_n 0, 0, 0, 0), (.iconst 1, 0, 0, 0), (.putfield 264, 12, 22, 1), (.aload_n 0, 0, 0, 0), (.getfield 49, 12, 25, 0), (.aload_n 0, 0, 0, 0), (.getfield 267, 12, 20, 0), (.iconst 0, 0, 0, 0), (.bastore, 0, 0, 0), (.aload_n 0, 0, 0, 0), (.getfield 53, 12, 26, 0), (.aload_n 0, 0, 0, 0), (.getfield 267, 12, 20, 0), (.iconst 0, 0, 0, 0), (.bastore, 0, 0, 0), (.aload_n 0, 0, 0, 0), (.bipush 28, 0, 0, 0), (.aload_n 0, 0, 0, 0), (.getfield 267, 12, 20, 0), (.iadd, 0, 0, 0), (.invokevirtual 78, 142, 2, 12)] (.return_) []
def qX12_opens : am_M := (RX12, yX12_opens, cX12_opens, 1, none, tX12_opens)
-- WeylWordsModel.closes()V
def tX12_closes : am_T := tQ (tS [(.aload_n 0, 0, 0, 0), (.getfield 270, 12, 23, 0)]) (tQ (tK 67 (tQ (tB [] (.ifCond .eq 63) [67]) (tQ (tB [(.aload_n 0, 0, 0, 0), (.getfield 273, 12, 24, 0)] (.ifCond .ne 56) [67]) (tQ (tS [(.aload_n 0, 0, 0, 0), (.bipush 28, 0, 0, 0), (.aload_n 0, 0, 0, 0), (.getfield 267, 12, 20, 0), (.iadd, 0, 0, 0), (.iconst 1, 0, 0, 0), (.bipush 37, 0, 0, 0), (.aload_n 0, 0, 0, 0), (.getfield 267, 12, 20, 0), (.iadd, 0, 0, 0), (.aload_n 0, 0, 0, 0), (.getfield 49, 12, 25, 0), (.aload_n 0, 0, 0, 0), (.getfield 267, 12, 20, 0), (.baload, 0, 0, 0)]) (tQ (tK 49 (tQ (tK 48 (tQ (tB [] (.ifCond .eq 9) [48]) (tB [(.sipush 10006, 0, 0, 0)] (.goto 4) [49]))) (tS [(.iconst 1, 0, 0, 0)]))) (tS [(.bipush 25, 0, 0, 0), (.invokevirtual 131, 156, 6, 12), (.aload_n 0, 0, 0, 0), (.bipush 25, 0, 0, 0), (.bipush 28, 0, 0, 0), (.aload_n 0, 0, 0, 0), (.getfield 267, 12, 20, 0), (.iadd, 0, 0, 0), (.invokevirtual 103, 143, 3, 12)])))))) (tB [(.aload_n 0, 0, 0, 0), (.getfield 53, 12, 26, 0), (.aload_n 0, 0, 0, 0), (.getfield 267, 12, 20, 0), (.iconst 0, 0, 0, 0), (.bastore, 0, 0, 0)] (.return_) []))
def qX12_closes : am_M := (RX12, yX12_closes, cX12_closes, 1, none, tX12_closes)
-- WeylWordsModel.takes(I)V
def tX12_takes : am_T := tQ (tS [(.aload_n 0, 0, 0, 0), (.getfield 270, 12, 23, 0)]) (tQ (tK 25 (tQ (tB [] (.ifCond .eq 21) [25]) (tQ (tB [(.aload_n 0, 0, 0, 0), (.getfield 273, 12, 24, 0)] (.ifCond .ne 14) [25]) (tS [(.aload_n 0, 0, 0, 0), (.aload_n 0, 0, 0, 0), (.bipush 27, 0, 0, 0), (.iload_n 1, 0, 0, 0), (.invokevirtual 143, 154, 3, 12), (.putfield 273, 12, 24, 1)])))) (tQ (tS [(.aload_n 0, 0, 0, 0), (.getfield 270, 12, 23, 0)]) (tQ (tK 81 (tQ (tB [] (.ifCond .eq 52) [81]) (tQ (tB [(.aload_n 0, 0, 0, 0), (.getfield 273, 12, 24, 0)] (.ifCond .ne 45) [81]) (tQ (tS [(.aload_n 0, 0, 0, 0), (.iload_n 1, 0, 0, 0), (.invokevirtual 146, 155, 2, 12), (.aload_n 0, 0, 0, 0), (.aload_n 0, 0, 0, 0), (.getfield 53, 12, 26, 0), (.aload_n 0, 0, 0, 0), (.getfield 267, 12, 20, 0), (.baload, 0, 0, 0)]) (tQ (tK 78 (tQ (tK 77 (tQ (tB [] (.ifCond .eq 23) [77]) (tQ (tB [(.aload_n 0, 0, 0, 0), (.bipush 37, 0, 0, 0), (.aload_n 0, 0, 0, 0), (.getfield 267, 12, 20, 0), (.iadd, 0, 0, 0), (.bipush 27, 0, 0, 0), (.invokevirtual 137, 153, 3, 12)] (.ifCond .eq 7) [77]) (tB [(.iconst 1, 0, 0, 0)] (.goto 4) [78])))) (tS [(.iconst 0, 0, 0, 0)]))) (tS [(.putfield 273, 12, 24, 1)])))))) (tQ (tS [(.aload_n 0, 0, 0, 0), (.getfield 270, 12, 23, 0)]) (tQ (tK 151 (tQ (tB [] (.ifCond .eq 66) [151]) (tQ (tB [(.aload_n 0, 0, 0, 0), (.getfield 273, 12, 24, 0)] (.ifCond .ne 59) [151]) (tQ (tS [(.aload_n 0, 0, 0, 0), (.getfield 53, 12, 26, 0), (.aload_n 0, 0, 0, 0), (.getfield 267, 12, 20, 0), (.baload, 0, 0, 0)]) (tQ (tK 138 (tQ (tB [] (.ifCond .eq 34) [138]) (tB [(.aload_n 0, 0, 0, 0), (.bipush 37, 0, 0, 0), (.aload_n 0, 0, 0, 0), (.getfield 267, 12, 20, 0), (.iadd, 0, 0, 0), (.bipush 27, 0, 0, 0), (.bipush 25, 0, 0, 0), (.invokevirtual 107, 152, 4, 12), (.aload_n 0, 0, 0, 0), (.bipush 25, 0, 0, 0), (.bipush 37, 0, 0, 0), (.aload_n 0, 0, 0, 0), (.getfield 267, 12, 20, 0), (.iadd, 0, 0, 0), (.invokevirtual 103, 143, 3, 12)] (.goto 16) [151]))) (tS [(.aload_n 0, 0, 0, 0), (.bipush 27, 0, 0, 0), (.bipush 37, 0, 0, 0), (.aload_n 0, 0, 0, 0), (.getfield 267, 12, 20, 0), (.iadd, 0, 0, 0), (.invokevirtual 103, 143, 3, 12)])))))) (tB [(.aload_n 0, 0, 0, 0), (.getfield 53, 12, 26, 0), (.aload_n 0, 0, 0, 0), (.getfield 267, 12, 20, 0), (.iconst 1, 0, 0, 0), (.bastore, 0, 0, 0)] (.return_) []))))))
def qX12_takes : am_M := (RX12, yX12_takes, cX12_takes, 2, none, tX12_takes)
-- WeylWordsModel.takesFigures(I)Z
def wX12_takesFigures_10 : am_T := tQ (tB [(.aload_n 0, 0, 0, 0), (.bipush 48, 0, 0, 0), (.bipush 57, 0, 0, 0), (.invokevirtual 254, 207, 3, 12)] (.ifCond .eq 59) [77]) (tQ (tS [(.aload_n 0, 0, 0, 0), (.getfield 251, 12, 18, 0), (.iload_n 2, 0, 0, 0), (.iload_n 1, 0, 0, 0), (.iadd, 0, 0, 0)]) (tQ (tK 40 (tQ (tB [] (.if_icmp .ne 12) [40]) (tB [(.aload_n 0, 0, 0, 0), (.aload_n 0, 0, 0, 0), (.getfield 251, 12, 18, 0), (.invokevirtual 279, 209, 2, 12)] (.ireturn) [1]))) (tB [(.aload_n 0, 0, 0, 0), (.bipush 10, 0, 0, 0), (.aload_n 0, 0, 0, 0), (.getfield 276, 12, 27, 0), (.imul, 0, 0, 0), (.aload_n 0, 0, 0, 0), (.getfield 19, 12, 4, 0), (.aload_n 0, 0, 0, 0), (.getfield 251, 12, 18, 0), (.iaload, 0, 0, 0), (.iadd, 0, 0, 0), (.bipush 48, 0, 0, 0), (.isub, 0, 0, 0), (.putfield 276, 12, 27, 0), (.aload_n 0, 0, 0, 0), (.dup, 0, 0, 0), (.getfield 251, 12, 18, 0), (.iconst 1, 0, 0, 0), (.iadd, 0, 0, 0), (.putfield 251, 12, 18, 0)] (.goto (-64)) [10])))
def tX12_takesFigures : am_T := tQ (tS [(.aload_n 0, 0, 0, 0), (.getfield 251, 12, 18, 0), (.istore_n 2, 0, 0, 0), (.aload_n 0, 0, 0, 0), (.iconst 0, 0, 0, 0), (.putfield 276, 12, 27, 0)]) (tQ (tK 77 (tW 10 wX12_takesFigures_10)) (tQ (tS [(.aload_n 0, 0, 0, 0), (.getfield 251, 12, 18, 0), (.iload_n 2, 0, 0, 0)]) (tQ (tK 101 (tQ (tK 100 (tQ (tK 96 (tQ (tB [] (.if_icmp .gt 14) [96]) (tB [(.aload_n 0, 0, 0, 0), (.aload_n 0, 0, 0, 0), (.getfield 251, 12, 18, 0), (.invokevirtual 279, 209, 2, 12)] (.ifCond .eq 7) [100]))) (tB [(.iconst 1, 0, 0, 0)] (.goto 4) [101]))) (tS [(.iconst 0, 0, 0, 0)]))) (tB [] (.ireturn) [1]))))
def qX12_takesFigures : am_M := (RX12, yX12_takesFigures, cX12_takesFigures, 3, (some .boolean), tX12_takesFigures)
-- WeylWordsModel.takesPower()Z
def tX12_takesPower : am_T := tQ (tS [(.iconst 1, 0, 0, 0), (.istore_n 1, 0, 0, 0), (.aload_n 0, 0, 0, 0), (.invokevirtual 282, 208, 1, 12), (.aload_n 0, 0, 0, 0), (.bipush 94, 0, 0, 0), (.bipush 94, 0, 0, 0), (.invokevirtual 254, 207, 3, 12)]) (tQ (tK 66 (tQ (tB [] (.ifCond .eq 52) [66]) (tQ (tS [(.aload_n 0, 0, 0, 0), (.dup, 0, 0, 0), (.getfield 251, 12, 18, 0), (.iconst 1, 0, 0, 0), (.iadd, 0, 0, 0), (.putfield 251, 12, 18, 0), (.aload_n 0, 0, 0, 0), (.invokevirtual 282, 208, 1, 12), (.aload_n 0, 0, 0, 0), (.getfield 251, 12, 18, 0), (.istore_n 2, 0, 0, 0), (.aload_n 0, 0, 0, 0), (.iconst 2, 0, 0, 0), (.invokevirtual 285, 213, 2, 12)]) (tQ (tK 46 (tQ (tB [] (.ifCond .ne 5) [46]) (tB [(.iconst 0, 0, 0, 0)] (.ireturn) [1]))) (tQ (tS [(.aload_n 0, 0, 0, 0), (.getfield 276, 12, 27, 0), (.bipush 12, 0, 0, 0)]) (tQ (tK 61 (tQ (tB [] (.if_icmp .le 9) [61]) (tB [(.aload_n 0, 0, 0, 0), (.iload_n 2, 0, 0, 0), (.invokevirtual 279, 209, 2, 12)] (.ireturn) [1]))) (tS [(.aload_n 0, 0, 0, 0), (.getfield 276, 12, 27, 0), (.istore_n 1, 0, 0, 0)]))))))) (tB [(.aload_n 0, 0, 0, 0), (.iconst 0, 0, 0, 0), (.putfield 260, 12, 21, 1), (.aload_n 0, 0, 0, 0), (.iload_n 1, 0, 0, 0), (.invokevirtual 288, 212, 2, 12), (.iconst 1, 0, 0, 0)] (.ireturn) [1]))
def qX12_takesPower : am_M := (RX12, yX12_takesPower, cX12_takesPower, 3, (some .boolean), tX12_takesPower)
-- WeylWordsModel.values(III)V
def tX12_values : am_T := tB [(.aload_n 0, 0, 0, 0), (.bipush 27, 0, 0, 0), (.invokevirtual 78, 142, 2, 12), (.aload_n 0, 0, 0, 0), (.getfield 22, 12, 6, 0), (.sipush 13392, 0, 0, 0), (.iload_n 1, 0, 0, 0), (.iload_n 2, 0, 0, 0), (.invokestatic 59, 132, 2, 0), (.iadd, 0, 0, 0), (.iload_n 3, 0, 0, 0), (.iastore, 0, 0, 0)] (.return_) []
def qX12_values : am_M := (RX12, yX12_values, cX12_values, 4, none, tX12_values)
-- WeylWordsModel.takesFactor()Z
def tX12_takesFactor : am_T := tQ (tS [(.aload_n 0, 0, 0, 0), (.bipush 45, 0, 0, 0), (.bipush 45, 0, 0, 0), (.invokevirtual 254, 207, 3, 12)]) (tQ (tK 45 (tQ (tB [] (.ifCond .eq 37) [45]) (tQ (tB [(.aload_n 0, 0, 0, 0), (.getfield 264, 12, 22, 0)] (.ifCond .eq 30) [45]) (tB [(.aload_n 0, 0, 0, 0), (.iconst 0, 0, 0, 0), (.putfield 264, 12, 22, 1), (.aload_n 0, 0, 0, 0), (.getfield 49, 12, 25, 0), (.aload_n 0, 0, 0, 0), (.getfield 267, 12, 20, 0), (.iconst 1, 0, 0, 0), (.bastore, 0, 0, 0), (.aload_n 0, 0, 0, 0), (.dup, 0, 0, 0), (.getfield 251, 12, 18, 0), (.iconst 1, 0, 0, 0), (.iadd, 0, 0, 0), (.putfield 251, 12, 18, 0), (.iconst 1, 0, 0, 0)] (.ireturn) [1])))) (tQ (tS [(.aload_n 0, 0, 0, 0), (.bipush 40, 0, 0, 0), (.bipush 40, 0, 0, 0), (.invokevirtual 254, 207, 3, 12)]) (tQ (tK 100 (tQ (tB [] (.ifCond .eq 47) [100]) (tQ (tS [(.aload_n 0, 0, 0, 0), (.getfield 267, 12, 20, 0), (.bipush 8, 0, 0, 0)]) (tQ (tK 74 (tQ (tB [] (.if_icmp .ne 12) [74]) (tB [(.aload_n 0, 0, 0, 0), (.aload_n 0, 0, 0, 0), (.getfield 251, 12, 18, 0), (.invokevirtual 279, 209, 2, 12)] (.ireturn) [1]))) (tB [(.aload_n 0, 0, 0, 0), (.dup, 0, 0, 0), (.getfield 267, 12, 20, 0), (.iconst 1, 0, 0, 0), (.iadd, 0, 0, 0), (.putfield 267, 12, 20, 0), (.aload_n 0, 0, 0, 0), (.dup, 0, 0, 0), (.getfield 251, 12, 18, 0), (.iconst 1, 0, 0, 0), (.iadd, 0, 0, 0), (.putfield 251, 12, 18, 0), (.aload_n 0, 0, 0, 0), (.invokevirtual 291, 210, 1, 12), (.iconst 1, 0, 0, 0)] (.ireturn) [1]))))) (tQ (tS [(.aload_n 0, 0, 0, 0), (.bipush 48, 0, 0, 0), (.bipush 57, 0, 0, 0), (.invokevirtual 254, 207, 3, 12)]) (tQ (tK 139 (tQ (tB [] (.ifCond .eq 31) [139]) (tQ (tS [(.aload_n 0, 0, 0, 0), (.iconst 4, 0, 0, 0), (.invokevirtual 285, 213, 2, 12)]) (tQ (tK 121 (tQ (tB [] (.ifCond .ne 5) [121]) (tB [(.iconst 0, 0, 0, 0)] (.ireturn) [1]))) (tB [(.aload_n 0, 0, 0, 0), (.iconst 0, 0, 0, 0), (.iconst 0, 0, 0, 0), (.aload_n 0, 0, 0, 0), (.getfield 276, 12, 27, 0), (.invokestatic 122, 133, 1, 0), (.invokevirtual 294, 215, 4, 12), (.aload_n 0, 0, 0, 0), (.invokevirtual 297, 214, 1, 12)] (.ireturn) [1]))))) (tQ (tS [(.aload_n 0, 0, 0, 0), (.bipush 120, 0, 0, 0), (.bipush 120, 0, 0, 0), (.invokevirtual 254, 207, 3, 12)]) (tQ (tK 170 (tQ (tB [] (.ifCond .ne 23) [170]) (tQ (tB [(.aload_n 0, 0, 0, 0), (.bipush 100, 0, 0, 0), (.bipush 100, 0, 0, 0), (.invokevirtual 254, 207, 3, 12)] (.ifCond .ne 12) [170]) (tB [(.aload_n 0, 0, 0, 0), (.aload_n 0, 0, 0, 0), (.getfield 251, 12, 18, 0), (.invokevirtual 279, 209, 2, 12)] (.ireturn) [1])))) (tQ (tS [(.aload_n 0, 0, 0, 0), (.getfield 19, 12, 4, 0), (.aload_n 0, 0, 0, 0), (.getfield 251, 12, 18, 0), (.iaload, 0, 0, 0), (.bipush 120, 0, 0, 0)]) (tQ (tK 189 (tQ (tK 188 (tQ (tB [] (.if_icmp .ne 7) [188]) (tB [(.iconst 1, 0, 0, 0)] (.goto 4) [189]))) (tS [(.iconst 0, 0, 0, 0)]))) (tQ (tS [(.istore_n 1, 0, 0, 0), (.aload_n 0, 0, 0, 0), (.iload_n 1, 0, 0, 0)]) (tQ (tK 200 (tQ (tK 199 (tQ (tB [] (.ifCond .eq 7) [199]) (tB [(.iconst 1, 0, 0, 0)] (.goto 4) [200]))) (tS [(.iconst 0, 0, 0, 0)]))) (tQ (tS [(.iload_n 1, 0, 0, 0)]) (tQ (tK 209 (tQ (tK 208 (tQ (tB [] (.ifCond .eq 7) [208]) (tB [(.iconst 0, 0, 0, 0)] (.goto 4) [209]))) (tS [(.iconst 1, 0, 0, 0)]))) (tB [(.iconst 1, 0, 0, 0), (.invokevirtual 294, 215, 4, 12), (.aload_n 0, 0, 0, 0), (.dup, 0, 0, 0), (.getfield 251, 12, 18, 0), (.iconst 1, 0, 0, 0), (.iadd, 0, 0, 0), (.putfield 251, 12, 18, 0), (.aload_n 0, 0, 0, 0), (.invokevirtual 297, 214, 1, 12)] (.ireturn) [1]))))))))))))))
def qX12_takesFactor : am_M := (RX12, yX12_takesFactor, cX12_takesFactor, 2, (some .boolean), tX12_takesFactor)
-- WeylWordsModel.takesSign()Z
def tX12_takesSign : am_T := tQ (tS [(.aload_n 0, 0, 0, 0), (.bipush 42, 0, 0, 0), (.bipush 42, 0, 0, 0), (.invokevirtual 254, 207, 3, 12)]) (tQ (tK 33 (tQ (tB [] (.ifCond .eq 25) [33]) (tB [(.aload_n 0, 0, 0, 0), (.dup, 0, 0, 0), (.getfield 251, 12, 18, 0), (.iconst 1, 0, 0, 0), (.iadd, 0, 0, 0), (.putfield 251, 12, 18, 0), (.aload_n 0, 0, 0, 0), (.iconst 1, 0, 0, 0), (.putfield 260, 12, 21, 1), (.aload_n 0, 0, 0, 0), (.iconst 0, 0, 0, 0), (.putfield 264, 12, 22, 1), (.iconst 1, 0, 0, 0)] (.ireturn) [1]))) (tQ (tS [(.aload_n 0, 0, 0, 0), (.bipush 43, 0, 0, 0), (.bipush 43, 0, 0, 0), (.invokevirtual 254, 207, 3, 12)]) (tQ (tK 109 (tQ (tK 55 (tQ (tB [] (.ifCond .ne 14) [55]) (tB [(.aload_n 0, 0, 0, 0), (.bipush 45, 0, 0, 0), (.bipush 45, 0, 0, 0), (.invokevirtual 254, 207, 3, 12)] (.ifCond .eq 57) [109]))) (tQ (tS [(.aload_n 0, 0, 0, 0), (.invokevirtual 300, 211, 1, 12), (.aload_n 0, 0, 0, 0), (.getfield 49, 12, 25, 0), (.aload_n 0, 0, 0, 0), (.getfield 267, 12, 20, 0), (.aload_n 0, 0, 0, 0), (.getfield 19, 12, 4, 0), (.aload_n 0, 0, 0, 0), (.getfield 251, 12, 18, 0), (.iaload, 0, 0, 0), (.bipush 45, 0, 0, 0)]) (tQ (tK 86 (tQ (tK 85 (tQ (tB [] (.if_icmp .ne 7) [85]) (tB [(.iconst 1, 0, 0, 0)] (.goto 4) [86]))) (tS [(.iconst 0, 0, 0, 0)]))) (tB [(.bastore, 0, 0, 0), (.aload_n 0, 0, 0, 0), (.dup, 0, 0, 0), (.getfield 251, 12, 18, 0), (.iconst 1, 0, 0, 0), (.iadd, 0, 0, 0), (.putfield 251, 12, 18, 0), (.aload_n 0, 0, 0, 0), (.iconst 1, 0, 0, 0), (.putfield 260, 12, 21, 1), (.aload_n 0, 0, 0, 0), (.iconst 0, 0, 0, 0), (.putfield 264, 12, 22, 1), (.iconst 1, 0, 0, 0)] (.ireturn) [1]))))) (tQ (tS [(.aload_n 0, 0, 0, 0), (.bipush 41, 0, 0, 0), (.bipush 41, 0, 0, 0), (.invokevirtual 254, 207, 3, 12)]) (tQ (tK 136 (tQ (tK 127 (tQ (tB [] (.ifCond .eq 10) [127]) (tB [(.aload_n 0, 0, 0, 0), (.getfield 267, 12, 20, 0)] (.ifCond .ne 12) [136]))) (tB [(.aload_n 0, 0, 0, 0), (.aload_n 0, 0, 0, 0), (.getfield 251, 12, 18, 0), (.invokevirtual 279, 209, 2, 12)] (.ireturn) [1]))) (tB [(.aload_n 0, 0, 0, 0), (.invokevirtual 300, 211, 1, 12), (.aload_n 0, 0, 0, 0), (.bipush 28, 0, 0, 0), (.aload_n 0, 0, 0, 0), (.getfield 267, 12, 20, 0), (.iadd, 0, 0, 0), (.bipush 27, 0, 0, 0), (.invokevirtual 103, 143, 3, 12), (.aload_n 0, 0, 0, 0), (.dup, 0, 0, 0), (.getfield 267, 12, 20, 0), (.iconst 1, 0, 0, 0), (.isub, 0, 0, 0), (.putfield 267, 12, 20, 0), (.aload_n 0, 0, 0, 0), (.dup, 0, 0, 0), (.getfield 251, 12, 18, 0), (.iconst 1, 0, 0, 0), (.iadd, 0, 0, 0), (.putfield 251, 12, 18, 0), (.aload_n 0, 0, 0, 0), (.invokevirtual 297, 214, 1, 12)] (.ireturn) [1]))))))
def qX12_takesSign : am_M := (RX12, yX12_takesSign, cX12_takesSign, 1, (some .boolean), tX12_takesSign)
-- WeylWordsModel.isRead(Z)Z
def wX12_isRead_28 : am_T := tQ (tB [(.aload_n 0, 0, 0, 0), (.getfield 251, 12, 18, 0), (.aload_n 0, 0, 0, 0), (.getfield 248, 12, 5, 0)] (.if_icmp .ge 36) [72]) (tQ (tS [(.aload_n 0, 0, 0, 0), (.getfield 260, 12, 21, 0)]) (tQ (tK 65 (tQ (tK 63 (tQ (tK 56 (tQ (tB [] (.ifCond .eq 13) [56]) (tQ (tB [(.aload_n 0, 0, 0, 0), (.invokevirtual 303, 216, 1, 12)] (.ifCond .eq 13) [63]) (tB [] (.goto 12) [65])))) (tB [(.aload_n 0, 0, 0, 0), (.invokevirtual 306, 217, 1, 12)] (.ifCond .ne 5) [65]))) (tB [(.iconst 0, 0, 0, 0)] (.ireturn) [1]))) (tB [(.aload_n 0, 0, 0, 0), (.invokevirtual 282, 208, 1, 12)] (.goto (-41)) [28])))
def tX12_isRead : am_T := tQ (tS [(.aload_n 0, 0, 0, 0), (.iload_n 1, 0, 0, 0), (.putfield 270, 12, 23, 1), (.aload_n 0, 0, 0, 0), (.iconst 0, 0, 0, 0), (.putfield 273, 12, 24, 1), (.aload_n 0, 0, 0, 0), (.iconst 0, 0, 0, 0), (.putfield 251, 12, 18, 0), (.aload_n 0, 0, 0, 0), (.iconst 0, 0, 0, 0), (.putfield 267, 12, 20, 0), (.aload_n 0, 0, 0, 0), (.invokevirtual 291, 210, 1, 12), (.aload_n 0, 0, 0, 0), (.invokevirtual 282, 208, 1, 12)]) (tQ (tK 72 (tW 28 wX12_isRead_28)) (tQ (tS [(.aload_n 0, 0, 0, 0), (.getfield 260, 12, 21, 0)]) (tQ (tK 95 (tQ (tK 86 (tQ (tB [] (.ifCond .ne 10) [86]) (tB [(.aload_n 0, 0, 0, 0), (.getfield 267, 12, 20, 0)] (.ifCond .le 12) [95]))) (tB [(.aload_n 0, 0, 0, 0), (.aload_n 0, 0, 0, 0), (.getfield 248, 12, 5, 0), (.invokevirtual 279, 209, 2, 12)] (.ireturn) [1]))) (tB [(.aload_n 0, 0, 0, 0), (.invokevirtual 300, 211, 1, 12), (.iconst 1, 0, 0, 0)] (.ireturn) [1]))))
def qX12_isRead : am_M := (RX12, yX12_isRead, cX12_isRead, 2, (some .boolean), tX12_isRead)
-- WeylWordsModel.reads(I)I
def tX12_reads : am_T := tQ (tS [(.iload_n 1, 0, 0, 0), (.invokestatic 111, 140, 1, 0)]) (tQ (tK 12 (tQ (tB [] (.ifCond .ne 8) [12]) (tB [(.aload_n 0, 0, 0, 0), (.invokevirtual 119, 135, 1, 12)] (.ireturn) [0]))) (tQ (tS [(.aload_n 0, 0, 0, 0), (.iconst 0, 0, 0, 0), (.invokevirtual 309, 218, 2, 12)]) (tQ (tK 29 (tQ (tB [] (.ifCond .ne 12) [29]) (tB [(.sipush (-30000), 0, 0, 0), (.aload_n 0, 0, 0, 0), (.getfield 257, 12, 19, 0), (.isub, 0, 0, 0)] (.ireturn) [0]))) (tQ (tS [(.aload_n 0, 0, 0, 0), (.iconst 1, 0, 0, 0), (.invokevirtual 309, 218, 2, 12), (.istore_n 2, 0, 0, 0), (.iload_n 2, 0, 0, 0)]) (tQ (tK 60 (tQ (tK 53 (tQ (tB [] (.ifCond .eq 17) [53]) (tQ (tB [(.aload_n 0, 0, 0, 0), (.getfield 273, 12, 24, 0)] (.ifCond .eq 10) [53]) (tB [(.aload_n 0, 0, 0, 0), (.invokevirtual 140, 137, 1, 12)] (.goto 10) [60])))) (tS [(.aload_n 0, 0, 0, 0), (.iload_n 1, 0, 0, 0), (.bipush 28, 0, 0, 0), (.invokevirtual 134, 146, 3, 12)]))) (tB [] (.ireturn) [0]))))))
def qX12_reads : am_M := (RX12, yX12_reads, cX12_reads, 3, (some .int), tX12_reads)
-- WeylWordsModel.writes(I)V
def tX12_writes : am_T := tB [(.aload_n 0, 0, 0, 0), (.getfield 56, 12, 28, 0), (.aload_n 0, 0, 0, 0), (.getfield 313, 12, 29, 0), (.iload_n 1, 0, 0, 0), (.iastore, 0, 0, 0), (.aload_n 0, 0, 0, 0), (.dup, 0, 0, 0), (.getfield 313, 12, 29, 0), (.iconst 1, 0, 0, 0), (.iadd, 0, 0, 0), (.putfield 313, 12, 29, 0)] (.return_) []
def qX12_writes : am_M := (RX12, yX12_writes, cX12_writes, 2, none, tX12_writes)
-- WeylWordsModel.writesNumber(I)V
def wX12_writesNumber_2 : am_T := tQ (tB [(.iload_n 2, 0, 0, 0), (.bipush 10, 0, 0, 0), (.imul, 0, 0, 0), (.iload_n 1, 0, 0, 0)] (.if_icmp .gt 11) [18]) (tB [(.iload_n 2, 0, 0, 0), (.bipush 10, 0, 0, 0), (.imul, 0, 0, 0), (.istore_n 2, 0, 0, 0)] (.goto (-13)) [2])
def wX12_writesNumber_20 : am_T := tQ (tB [(.iload_n 3, 0, 0, 0)] (.ifCond .le 24) [45]) (tB [(.aload_n 0, 0, 0, 0), (.bipush 48, 0, 0, 0), (.iload_n 1, 0, 0, 0), (.iload_n 3, 0, 0, 0), (.idiv, 0, 0, 0), (.bipush 10, 0, 0, 0), (.irem, 0, 0, 0), (.iadd, 0, 0, 0), (.invokevirtual 316, 220, 2, 12), (.iload_n 3, 0, 0, 0), (.bipush 10, 0, 0, 0), (.idiv, 0, 0, 0), (.istore_n 3, 0, 0, 0)] (.goto (-22)) [20])
def tX12_writesNumber : am_T := tQ (tS [(.iconst 1, 0, 0, 0), (.istore_n 2, 0, 0, 0)]) (tQ (tK 18 (tW 2 wX12_writesNumber_2)) (tQ (tS [(.iload_n 2, 0, 0, 0), (.istore_n 3, 0, 0, 0)]) (tQ (tK 45 (tW 20 wX12_writesNumber_20)) (tB [] (.return_) []))))
def qX12_writesNumber : am_M := (RX12, yX12_writesNumber, cX12_writesNumber, 4, none, tX12_writesNumber)
-- WeylWordsModel.writesLetter(II)V
def tX12_writesLetter : am_T := tQ (tS [(.aload_n 0, 0, 0, 0), (.iload_n 1, 0, 0, 0), (.invokevirtual 316, 220, 2, 12), (.iload_n 2, 0, 0, 0), (.iconst 1, 0, 0, 0)]) (tQ (tK 21 (tQ (tB [] (.if_icmp .le 14) [21]) (tS [(.aload_n 0, 0, 0, 0), (.bipush 94, 0, 0, 0), (.invokevirtual 316, 220, 2, 12), (.aload_n 0, 0, 0, 0), (.iload_n 2, 0, 0, 0), (.invokevirtual 319, 221, 2, 12)]))) (tB [] (.return_) []))
def qX12_writesLetter : am_M := (RX12, yX12_writesLetter, cX12_writesLetter, 3, none, tX12_writesLetter)
-- WeylWordsModel.writesTerm(II)V
def tX12_writesTerm : am_T := tQ (tS [(.iload_n 2, 0, 0, 0)]) (tQ (tK 26 (tQ (tK 11 (tQ (tB [] (.ifCond .lt 10) [11]) (tB [(.aload_n 0, 0, 0, 0), (.getfield 313, 12, 29, 0)] (.ifCond .le 18) [26]))) (tQ (tS [(.aload_n 0, 0, 0, 0), (.iload_n 2, 0, 0, 0)]) (tQ (tK 23 (tQ (tK 21 (tQ (tB [] (.ifCond .ge 8) [21]) (tB [(.bipush 45, 0, 0, 0)] (.goto 5) [23]))) (tS [(.bipush 43, 0, 0, 0)]))) (tS [(.invokevirtual 316, 220, 2, 12)]))))) (tQ (tS [(.iload_n 2, 0, 0, 0)]) (tQ (tK 36 (tQ (tK 35 (tQ (tB [] (.ifCond .ge 8) [35]) (tB [(.iload_n 2, 0, 0, 0), (.ineg, 0, 0, 0)] (.goto 4) [36]))) (tS [(.iload_n 2, 0, 0, 0)]))) (tQ (tS [(.istore_n 3, 0, 0, 0), (.iload_n 3, 0, 0, 0), (.iconst 1, 0, 0, 0)]) (tQ (tK 51 (tQ (tK 50 (tQ (tK 46 (tQ (tB [] (.if_icmp .ne 7) [46]) (tB [(.iload_n 1, 0, 0, 0)] (.ifCond .ne 7) [50]))) (tB [(.iconst 1, 0, 0, 0)] (.goto 4) [51]))) (tS [(.iconst 0, 0, 0, 0)]))) (tQ (tS [(.istore 4, 0, 0, 0), (.iload 4, 0, 0, 0)]) (tQ (tK 63 (tQ (tB [] (.ifCond .eq 8) [63]) (tS [(.aload_n 0, 0, 0, 0), (.iload_n 3, 0, 0, 0), (.invokevirtual 319, 221, 2, 12)]))) (tQ (tS [(.aload_n 0, 0, 0, 0), (.getfield 25, 12, 7, 0), (.iload_n 1, 0, 0, 0), (.iaload, 0, 0, 0)]) (tQ (tK 95 (tQ (tB [] (.ifCond .le 26) [95]) (tQ (tS [(.iload 4, 0, 0, 0)]) (tQ (tK 83 (tQ (tB [] (.ifCond .eq 9) [83]) (tS [(.aload_n 0, 0, 0, 0), (.bipush 42, 0, 0, 0), (.invokevirtual 316, 220, 2, 12)]))) (tS [(.aload_n 0, 0, 0, 0), (.bipush 120, 0, 0, 0), (.aload_n 0, 0, 0, 0), (.getfield 25, 12, 7, 0), (.iload_n 1, 0, 0, 0), (.iaload, 0, 0, 0), (.invokevirtual 322, 222, 3, 12)]))))) (tQ (tS [(.aload_n 0, 0, 0, 0), (.getfield 28, 12, 8, 0), (.iload_n 1, 0, 0, 0), (.iaload, 0, 0, 0)]) (tQ (tK 136 (tQ (tB [] (.ifCond .le 35) [136]) (tQ (tS [(.iload 4, 0, 0, 0)]) (tQ (tK 124 (tQ (tK 118 (tQ (tB [] (.ifCond .ne 12) [118]) (tB [(.aload_n 0, 0, 0, 0), (.getfield 25, 12, 7, 0), (.iload_n 1, 0, 0, 0), (.iaload, 0, 0, 0)] (.ifCond .le 9) [124]))) (tS [(.aload_n 0, 0, 0, 0), (.bipush 42, 0, 0, 0), (.invokevirtual 316, 220, 2, 12)]))) (tS [(.aload_n 0, 0, 0, 0), (.bipush 100, 0, 0, 0), (.aload_n 0, 0, 0, 0), (.getfield 28, 12, 8, 0), (.iload_n 1, 0, 0, 0), (.iaload, 0, 0, 0), (.invokevirtual 322, 222, 3, 12)]))))) (tB [] (.return_) []))))))))))))
def qX12_writesTerm : am_M := (RX12, yX12_writesTerm, cX12_writesTerm, 5, none, tX12_writesTerm)
-- WeylWordsModel.laysLine(I)V
def wX12_laysLine_14 : am_T := tQ (tB [(.iload_n 3, 0, 0, 0), (.iload_n 2, 0, 0, 0)] (.if_icmp .gt 47) [63]) (tQ (tS [(.aload_n 0, 0, 0, 0), (.iload_n 2, 0, 0, 0), (.iload_n 3, 0, 0, 0), (.invokevirtual 92, 148, 3, 12), (.istore 4, 0, 0, 0), (.aload_n 0, 0, 0, 0), (.getfield 7, 12, 0, 0), (.bipush 91, 0, 0, 0), (.iload_n 1, 0, 0, 0), (.imul, 0, 0, 0), (.iload 4, 0, 0, 0), (.iadd, 0, 0, 0), (.iaload, 0, 0, 0), (.istore 5, 0, 0, 0), (.iload 5, 0, 0, 0)]) (tQ (tK 57 (tQ (tB [] (.ifCond .eq 14) [57]) (tS [(.aload_n 0, 0, 0, 0), (.iload 4, 0, 0, 0), (.iload 5, 0, 0, 0), (.invokestatic 125, 134, 1, 0), (.invokevirtual 325, 223, 3, 12)]))) (tB [(.iinc 3 1, 0, 0, 0)] (.goto (-46)) [14])))
def wX12_laysLine_8 : am_T := tQ (tB [(.iload_n 2, 0, 0, 0)] (.ifCond .lt 60) [69]) (tQ (tS [(.iconst 0, 0, 0, 0), (.istore_n 3, 0, 0, 0)]) (tQ (tK 63 (tW 14 wX12_laysLine_14)) (tB [(.iinc 2 (-1), 0, 0, 0)] (.goto (-58)) [8])))
def tX12_laysLine : am_T := tQ (tS [(.aload_n 0, 0, 0, 0), (.iconst 0, 0, 0, 0), (.putfield 313, 12, 29, 0), (.bipush 12, 0, 0, 0), (.istore_n 2, 0, 0, 0)]) (tQ (tK 69 (tW 8 wX12_laysLine_8)) (tQ (tS [(.aload_n 0, 0, 0, 0), (.getfield 313, 12, 29, 0)]) (tQ (tK 82 (tQ (tB [] (.ifCond .ne 9) [82]) (tS [(.aload_n 0, 0, 0, 0), (.bipush 48, 0, 0, 0), (.invokevirtual 316, 220, 2, 12)]))) (tB [] (.return_) []))))
def qX12_laysLine : am_M := (RX12, yX12_laysLine, cX12_laysLine, 6, none, tX12_laysLine)
-- WeylWordsModel.shown(II)I
def tX12_shown : am_T := tQ (tS [(.iload_n 1, 0, 0, 0), (.invokestatic 111, 140, 1, 0)]) (tQ (tK 16 (tQ (tK 11 (tQ (tB [] (.ifCond .eq 7) [11]) (tB [(.iload_n 2, 0, 0, 0)] (.ifCond .ge 8) [16]))) (tB [(.aload_n 0, 0, 0, 0), (.invokevirtual 119, 135, 1, 12)] (.ireturn) [0]))) (tQ (tS [(.aload_n 0, 0, 0, 0), (.iload_n 1, 0, 0, 0), (.invokevirtual 328, 224, 2, 12), (.iload_n 2, 0, 0, 0), (.aload_n 0, 0, 0, 0), (.getfield 313, 12, 29, 0)]) (tQ (tK 41 (tQ (tK 38 (tQ (tB [] (.if_icmp .ge 12) [38]) (tB [(.aload_n 0, 0, 0, 0), (.getfield 56, 12, 28, 0), (.iload_n 2, 0, 0, 0), (.iaload, 0, 0, 0)] (.goto 6) [41]))) (tS [(.sipush (-20001), 0, 0, 0)]))) (tB [] (.ireturn) [0]))))
def qX12_shown : am_M := (RX12, yX12_shown, cX12_shown, 3, (some .int), tX12_shown)
-- WeylWordsModel.toldOf(I)I
def tX12_toldOf : am_T := tQ (tS [(.iload_n 1, 0, 0, 0), (.iconst 3, 0, 0, 0)]) (tQ (tK 46 (tQ (tK 14 (tQ (tB [] (.if_icmp .ge 12) [14]) (tB [(.aload_n 0, 0, 0, 0), (.getfield 16, 12, 3, 0), (.iload_n 1, 0, 0, 0), (.iaload, 0, 0, 0)] (.goto 35) [46]))) (tQ (tS [(.iload_n 1, 0, 0, 0), (.iconst 3, 0, 0, 0)]) (tQ (tK 26 (tQ (tB [] (.if_icmp .ne 10) [26]) (tB [(.aload_n 0, 0, 0, 0), (.getfield 248, 12, 5, 0)] (.goto 23) [46]))) (tQ (tS [(.iload_n 1, 0, 0, 0), (.iconst 4, 0, 0, 0)]) (tQ (tK 42 (tQ (tB [] (.if_icmp .ne 14) [42]) (tB [(.aload_n 0, 0, 0, 0), (.getfield 7, 12, 0, 0), (.sipush 608, 0, 0, 0), (.iaload, 0, 0, 0)] (.goto 7) [46]))) (tS [(.aload_n 0, 0, 0, 0), (.getfield 67, 12, 2, 0)]))))))) (tB [] (.ireturn) [0]))
def qX12_toldOf : am_M := (RX12, yX12_toldOf, cX12_toldOf, 2, (some .int), tX12_toldOf)
-- WeylWordsModel.told(I)I
def tX12_told : am_T := tQ (tS [(.iload_n 1, 0, 0, 0), (.iconst 0, 0, 0, 0), (.iconst 5, 0, 0, 0), (.invokestatic 74, 131, 3, 0)]) (tQ (tK 21 (tQ (tK 17 (tQ (tB [] (.ifCond .eq 11) [17]) (tB [(.aload_n 0, 0, 0, 0), (.iload_n 1, 0, 0, 0), (.invokevirtual 331, 226, 2, 12)] (.goto 7) [21]))) (tS [(.aload_n 0, 0, 0, 0), (.invokevirtual 119, 135, 1, 12)]))) (tB [] (.ireturn) [0]))
def qX12_told : am_M := (RX12, yX12_told, cX12_told, 2, (some .int), tX12_told)
-- WeylWordsModel.mix(J)V
def tX12_mix : am_T := tB [(.aload_n 0, 0, 0, 0), (.ldc2_w 334, 31, 0, 0), (.aload_n 0, 0, 0, 0), (.getfield 336, 12, 30, 0), (.lmul, 0, 0, 0), (.lload_n 1, 0, 0, 0), (.ladd, 0, 0, 0), (.putfield 336, 12, 30, 2)] (.return_) []
def qX12_mix : am_M := (RX12, yX12_mix, cX12_mix, 3, none, tX12_mix)
-- WeylWordsModel.digest()J
def wX12_digest_9 : am_T := tQ (tB [(.iload_n 1, 0, 0, 0), (.bipush 6, 0, 0, 0)] (.if_icmp .ge 19) [31]) (tB [(.aload_n 0, 0, 0, 0), (.aload_n 0, 0, 0, 0), (.iload_n 1, 0, 0, 0), (.invokevirtual 331, 226, 2, 12), (.i2l, 0, 0, 0), (.invokevirtual 342, 228, 2, 12), (.iinc 1 1, 0, 0, 0)] (.goto (-19)) [9])
def wX12_digest_41 : am_T := tQ (tB [(.iload_n 2, 0, 0, 0), (.bipush 9, 0, 0, 0)] (.if_icmp .ge 20) [64]) (tB [(.aload_n 0, 0, 0, 0), (.aload_n 0, 0, 0, 0), (.iload_n 1, 0, 0, 0), (.iload_n 2, 0, 0, 0), (.invokevirtual 159, 166, 3, 12), (.i2l, 0, 0, 0), (.invokevirtual 342, 228, 2, 12), (.iinc 2 1, 0, 0, 0)] (.goto (-20)) [41])
def wX12_digest_66 : am_T := tQ (tB [(.iload_n 2, 0, 0, 0), (.bipush 91, 0, 0, 0)] (.if_icmp .ge 28) [97]) (tB [(.aload_n 0, 0, 0, 0), (.aload_n 0, 0, 0, 0), (.getfield 7, 12, 0, 0), (.bipush 91, 0, 0, 0), (.iload_n 1, 0, 0, 0), (.imul, 0, 0, 0), (.iload_n 2, 0, 0, 0), (.iadd, 0, 0, 0), (.iaload, 0, 0, 0), (.invokestatic 125, 134, 1, 0), (.i2l, 0, 0, 0), (.invokevirtual 342, 228, 2, 12), (.iinc 2 1, 0, 0, 0)] (.goto (-28)) [66])
def wX12_digest_33 : am_T := tQ (tB [(.iload_n 1, 0, 0, 0), (.bipush 6, 0, 0, 0)] (.if_icmp .ge 67) [103]) (tQ (tS [(.iconst 0, 0, 0, 0), (.istore_n 2, 0, 0, 0)]) (tQ (tK 64 (tW 41 wX12_digest_41)) (tQ (tS [(.iconst 0, 0, 0, 0), (.istore_n 2, 0, 0, 0)]) (tQ (tK 97 (tW 66 wX12_digest_66)) (tB [(.iinc 1 1, 0, 0, 0)] (.goto (-67)) [33])))))
def wX12_digest_105 : am_T := tQ (tB [(.iload_n 1, 0, 0, 0), (.bipush 62, 0, 0, 0)] (.if_icmp .ge 27) [135]) (tB [(.aload_n 0, 0, 0, 0), (.aload_n 0, 0, 0, 0), (.getfield 7, 12, 0, 0), (.sipush 546, 0, 0, 0), (.iload_n 1, 0, 0, 0), (.iadd, 0, 0, 0), (.iaload, 0, 0, 0), (.invokestatic 125, 134, 1, 0), (.i2l, 0, 0, 0), (.invokevirtual 342, 228, 2, 12), (.iinc 1 1, 0, 0, 0)] (.goto (-27)) [105])
def tX12_digest : am_T := tQ (tS [(.aload_n 0, 0, 0, 0), (.ldc2_w 340, 2339, 0, 0), (.putfield 336, 12, 30, 2), (.iconst 0, 0, 0, 0), (.istore_n 1, 0, 0, 0)]) (tQ (tK 31 (tW 9 wX12_digest_9)) (tQ (tS [(.iconst 0, 0, 0, 0), (.istore_n 1, 0, 0, 0)]) (tQ (tK 103 (tW 33 wX12_digest_33)) (tQ (tS [(.iconst 0, 0, 0, 0), (.istore_n 1, 0, 0, 0)]) (tQ (tK 135 (tW 105 wX12_digest_105)) (tB [(.aload_n 0, 0, 0, 0), (.getfield 336, 12, 30, 0)] (.lreturn) []))))))
def qX12_digest : am_M := (RX12, yX12_digest, cX12_digest, 3, (some .long), tX12_digest)
-- java/lang/Math.floorMod(II)I
def tJ9_floorMod_7cf53 : am_T := tQ (tS [(.iload_n 0, 0, 0, 0), (.iload_n 1, 0, 0, 0), (.irem, 0, 0, 0), (.istore_n 2, 0, 0, 0), (.iload_n 0, 0, 0, 0), (.iload_n 1, 0, 0, 0), (.ixor, 0, 0, 0)]) (tQ (tK 18 (tQ (tB [] (.ifCond .ge 11) [18]) (tQ (tB [(.iload_n 2, 0, 0, 0)] (.ifCond .eq 7) [18]) (tB [(.iload_n 2, 0, 0, 0), (.iload_n 1, 0, 0, 0), (.iadd, 0, 0, 0)] (.ireturn) [0])))) (tB [(.iload_n 2, 0, 0, 0)] (.ireturn) [0]))
def qJ9_floorMod_7cf53 : am_M := (RJ9, yJ9_floorMod_7cf53, cJ9_floorMod_7cf53, 3, (some .int), tJ9_floorMod_7cf53)
-- java/lang/Math.abs(I)I
def tJ9_abs_0f7a4 : am_T := tQ (tS [(.iload_n 0, 0, 0, 0)]) (tQ (tK 10 (tQ (tK 9 (tQ (tB [] (.ifCond .ge 8) [9]) (tB [(.iload_n 0, 0, 0, 0), (.ineg, 0, 0, 0)] (.goto 4) [10]))) (tS [(.iload_n 0, 0, 0, 0)]))) (tB [] (.ireturn) [0]))
def qJ9_abs_0f7a4 : am_M := (RJ9, yJ9_abs_0f7a4, cJ9_abs_0f7a4, 1, (some .int), tJ9_abs_0f7a4)
-- java/lang/Math.max(II)I
def tJ9_max_7cf53 : am_T := tQ (tS [(.iload_n 0, 0, 0, 0), (.iload_n 1, 0, 0, 0)]) (tQ (tK 10 (tQ (tK 9 (tQ (tB [] (.if_icmp .lt 7) [9]) (tB [(.iload_n 0, 0, 0, 0)] (.goto 4) [10]))) (tS [(.iload_n 1, 0, 0, 0)]))) (tB [] (.ireturn) [0]))
def qJ9_max_7cf53 : am_M := (RJ9, yJ9_max_7cf53, cJ9_max_7cf53, 2, (some .int), tJ9_max_7cf53)
-- java/lang/Math.min(II)I
def tJ9_min_7cf53 : am_T := tQ (tS [(.iload_n 0, 0, 0, 0), (.iload_n 1, 0, 0, 0)]) (tQ (tK 10 (tQ (tK 9 (tQ (tB [] (.if_icmp .gt 7) [9]) (tB [(.iload_n 0, 0, 0, 0)] (.goto 4) [10]))) (tS [(.iload_n 1, 0, 0, 0)]))) (tB [] (.ireturn) [0]))
def qJ9_min_7cf53 : am_M := (RJ9, yJ9_min_7cf53, cJ9_min_7cf53, 2, (some .int), tJ9_min_7cf53)
-- java/util/Arrays.fill([II)V
def wJ7_fill_53178_5 : am_T := tQ (tB [(.iload_n 2, 0, 0, 0), (.iload_n 3, 0, 0, 0)] (.if_icmp .ge 13) [20]) (tB [(.aload_n 0, 0, 0, 0), (.iload_n 2, 0, 0, 0), (.iload_n 1, 0, 0, 0), (.iastore, 0, 0, 0), (.iinc 2 1, 0, 0, 0)] (.goto (-12)) [5])
def tJ7_fill_53178 : am_T := tQ (tS [(.iconst 0, 0, 0, 0), (.istore_n 2, 0, 0, 0), (.aload_n 0, 0, 0, 0), (.arraylength, 0, 0, 0), (.istore_n 3, 0, 0, 0)]) (tQ (tK 20 (tW 5 wJ7_fill_53178_5)) (tB [] (.return_) []))
def qJ7_fill_53178 : am_M := (RJ7, yJ7_fill_53178, cJ7_fill_53178, 4, none, tJ7_fill_53178)
def pL_law_33 : am_T := tB [] (.tableswitch 1008 0 25 #[119, 172, 215, 278, 321, 364, 407, 440, 473, 496, 539, 572, 615, 648, 681, 724, 747, 800, 833, 866, 889, 902, 925, 958, 971, 994]) [1041, 152, 205, 248, 311, 354, 397, 440, 473, 506, 529, 572, 605, 648, 681, 714, 757, 780, 833, 866, 899, 922, 935, 958, 991, 1004, 1027]
def pL_law_152 : am_T := tB [(.aload_n 1, 0, 0, 0), (.aload_n 0, 0, 0, 0), (.iload_n 3, 0, 0, 0), (.iconst 1, 0, 0, 0), (.iadd, 0, 0, 0), (.iaload, 0, 0, 0), (.aload_n 0, 0, 0, 0), (.iload_n 3, 0, 0, 0), (.iconst 2, 0, 0, 0), (.iadd, 0, 0, 0), (.iaload, 0, 0, 0), (.aload_n 0, 0, 0, 0), (.iload_n 3, 0, 0, 0), (.iconst 3, 0, 0, 0), (.iadd, 0, 0, 0), (.iaload, 0, 0, 0), (.aload_n 0, 0, 0, 0), (.iload_n 3, 0, 0, 0), (.iconst 4, 0, 0, 0), (.iadd, 0, 0, 0), (.iaload, 0, 0, 0), (.invokevirtual 13, 93, 5, 11), (.aload_n 2, 0, 0, 0), (.aload_n 0, 0, 0, 0), (.iload_n 3, 0, 0, 0), (.iconst 1, 0, 0, 0), (.iadd, 0, 0, 0), (.iaload, 0, 0, 0), (.aload_n 0, 0, 0, 0), (.iload_n 3, 0, 0, 0), (.iconst 2, 0, 0, 0), (.iadd, 0, 0, 0), (.iaload, 0, 0, 0), (.aload_n 0, 0, 0, 0), (.iload_n 3, 0, 0, 0), (.iconst 3, 0, 0, 0), (.iadd, 0, 0, 0), (.iaload, 0, 0, 0), (.aload_n 0, 0, 0, 0), (.iload_n 3, 0, 0, 0), (.iconst 4, 0, 0, 0), (.iadd, 0, 0, 0), (.iaload, 0, 0, 0), (.invokevirtual 17, 157, 5, 12)] (.if_icmp .eq 841) [1041]
def pL_law_203 : am_T := tB [(.iconst 0, 0, 0, 0)] (.ireturn) [1]
def pL_law_205 : am_T := tB [(.aload_n 1, 0, 0, 0), (.aload_n 0, 0, 0, 0), (.iload_n 3, 0, 0, 0), (.iconst 1, 0, 0, 0), (.iadd, 0, 0, 0), (.iaload, 0, 0, 0), (.aload_n 0, 0, 0, 0), (.iload_n 3, 0, 0, 0), (.iconst 2, 0, 0, 0), (.iadd, 0, 0, 0), (.iaload, 0, 0, 0), (.aload_n 0, 0, 0, 0), (.iload_n 3, 0, 0, 0), (.iconst 3, 0, 0, 0), (.iadd, 0, 0, 0), (.iaload, 0, 0, 0), (.invokevirtual 18, 94, 4, 11), (.aload_n 2, 0, 0, 0), (.aload_n 0, 0, 0, 0), (.iload_n 3, 0, 0, 0), (.iconst 1, 0, 0, 0), (.iadd, 0, 0, 0), (.iaload, 0, 0, 0), (.aload_n 0, 0, 0, 0), (.iload_n 3, 0, 0, 0), (.iconst 2, 0, 0, 0), (.iadd, 0, 0, 0), (.iaload, 0, 0, 0), (.aload_n 0, 0, 0, 0), (.iload_n 3, 0, 0, 0), (.iconst 3, 0, 0, 0), (.iadd, 0, 0, 0), (.iaload, 0, 0, 0), (.invokevirtual 22, 158, 4, 12)] (.if_icmp .eq 798) [1041]
def pL_law_246 : am_T := tB [(.iconst 0, 0, 0, 0)] (.ireturn) [1]
def pL_law_248 : am_T := tB [(.aload_n 1, 0, 0, 0), (.aload_n 0, 0, 0, 0), (.iload_n 3, 0, 0, 0), (.iconst 1, 0, 0, 0), (.iadd, 0, 0, 0), (.iaload, 0, 0, 0), (.aload_n 0, 0, 0, 0), (.iload_n 3, 0, 0, 0), (.iconst 2, 0, 0, 0), (.iadd, 0, 0, 0), (.iaload, 0, 0, 0), (.aload_n 0, 0, 0, 0), (.iload_n 3, 0, 0, 0), (.iconst 3, 0, 0, 0), (.iadd, 0, 0, 0), (.iaload, 0, 0, 0), (.aload_n 0, 0, 0, 0), (.iload_n 3, 0, 0, 0), (.iconst 4, 0, 0, 0), (.iadd, 0, 0, 0), (.iaload, 0, 0, 0), (.aload_n 0, 0, 0, 0), (.iload_n 3, 0, 0, 0), (.iconst 5, 0, 0, 0), (.iadd, 0, 0, 0), (.iaload, 0, 0, 0), (.invokevirtual 23, 95, 6, 11), (.aload_n 2, 0, 0, 0), (.aload_n 0, 0, 0, 0), (.iload_n 3, 0, 0, 0), (.iconst 1, 0, 0, 0), (.iadd, 0, 0, 0), (.iaload, 0, 0, 0), (.aload_n 0, 0, 0, 0), (.iload_n 3, 0, 0, 0), (.iconst 2, 0, 0, 0), (.iadd, 0, 0, 0), (.iaload, 0, 0, 0), (.aload_n 0, 0, 0, 0), (.iload_n 3, 0, 0, 0), (.iconst 3, 0, 0, 0), (.iadd, 0, 0, 0), (.iaload, 0, 0, 0), (.aload_n 0, 0, 0, 0), (.iload_n 3, 0, 0, 0), (.iconst 4, 0, 0, 0), (.iadd, 0, 0, 0), (.iaload, 0, 0, 0), (.aload_n 0, 0, 0, 0), (.iload_n 3, 0, 0, 0), (.iconst 5, 0, 0, 0), (.iadd, 0, 0, 0), (.iaload, 0, 0, 0), (.invokevirtual 27, 159, 6, 12)] (.if_icmp .eq 735) [1041]
def pL_law_309 : am_T := tB [(.iconst 0, 0, 0, 0)] (.ireturn) [1]
def pL_law_311 : am_T := tB [(.aload_n 1, 0, 0, 0), (.aload_n 0, 0, 0, 0), (.iload_n 3, 0, 0, 0), (.iconst 1, 0, 0, 0), (.iadd, 0, 0, 0), (.iaload, 0, 0, 0), (.aload_n 0, 0, 0, 0), (.iload_n 3, 0, 0, 0), (.iconst 2, 0, 0, 0), (.iadd, 0, 0, 0), (.iaload, 0, 0, 0), (.aload_n 0, 0, 0, 0), (.iload_n 3, 0, 0, 0), (.iconst 3, 0, 0, 0), (.iadd, 0, 0, 0), (.iaload, 0, 0, 0), (.invokevirtual 28, 96, 4, 11), (.aload_n 2, 0, 0, 0), (.aload_n 0, 0, 0, 0), (.iload_n 3, 0, 0, 0), (.iconst 1, 0, 0, 0), (.iadd, 0, 0, 0), (.iaload, 0, 0, 0), (.aload_n 0, 0, 0, 0), (.iload_n 3, 0, 0, 0), (.iconst 2, 0, 0, 0), (.iadd, 0, 0, 0), (.iaload, 0, 0, 0), (.aload_n 0, 0, 0, 0), (.iload_n 3, 0, 0, 0), (.iconst 3, 0, 0, 0), (.iadd, 0, 0, 0), (.iaload, 0, 0, 0), (.invokevirtual 31, 160, 4, 12)] (.if_icmp .eq 692) [1041]
def pL_law_352 : am_T := tB [(.iconst 0, 0, 0, 0)] (.ireturn) [1]
def pL_law_354 : am_T := tB [(.aload_n 1, 0, 0, 0), (.aload_n 0, 0, 0, 0), (.iload_n 3, 0, 0, 0), (.iconst 1, 0, 0, 0), (.iadd, 0, 0, 0), (.iaload, 0, 0, 0), (.aload_n 0, 0, 0, 0), (.iload_n 3, 0, 0, 0), (.iconst 2, 0, 0, 0), (.iadd, 0, 0, 0), (.iaload, 0, 0, 0), (.aload_n 0, 0, 0, 0), (.iload_n 3, 0, 0, 0), (.iconst 3, 0, 0, 0), (.iadd, 0, 0, 0), (.iaload, 0, 0, 0), (.invokevirtual 32, 97, 4, 11), (.aload_n 2, 0, 0, 0), (.aload_n 0, 0, 0, 0), (.iload_n 3, 0, 0, 0), (.iconst 1, 0, 0, 0), (.iadd, 0, 0, 0), (.iaload, 0, 0, 0), (.aload_n 0, 0, 0, 0), (.iload_n 3, 0, 0, 0), (.iconst 2, 0, 0, 0), (.iadd, 0, 0, 0), (.iaload, 0, 0, 0), (.aload_n 0, 0, 0, 0), (.iload_n 3, 0, 0, 0), (.iconst 3, 0, 0, 0), (.iadd, 0, 0, 0), (.iaload, 0, 0, 0), (.invokevirtual 35, 161, 4, 12)] (.if_icmp .eq 649) [1041]
def pL_law_395 : am_T := tB [(.iconst 0, 0, 0, 0)] (.ireturn) [1]
def pL_law_397 : am_T := tB [(.aload_n 1, 0, 0, 0), (.aload_n 0, 0, 0, 0), (.iload_n 3, 0, 0, 0), (.iconst 1, 0, 0, 0), (.iadd, 0, 0, 0), (.iaload, 0, 0, 0), (.aload_n 0, 0, 0, 0), (.iload_n 3, 0, 0, 0), (.iconst 2, 0, 0, 0), (.iadd, 0, 0, 0), (.iaload, 0, 0, 0), (.aload_n 0, 0, 0, 0), (.iload_n 3, 0, 0, 0), (.iconst 3, 0, 0, 0), (.iadd, 0, 0, 0), (.iaload, 0, 0, 0), (.invokevirtual 36, 98, 4, 11), (.aload_n 2, 0, 0, 0), (.aload_n 0, 0, 0, 0), (.iload_n 3, 0, 0, 0), (.iconst 1, 0, 0, 0), (.iadd, 0, 0, 0), (.iaload, 0, 0, 0), (.aload_n 0, 0, 0, 0), (.iload_n 3, 0, 0, 0), (.iconst 2, 0, 0, 0), (.iadd, 0, 0, 0), (.iaload, 0, 0, 0), (.aload_n 0, 0, 0, 0), (.iload_n 3, 0, 0, 0), (.iconst 3, 0, 0, 0), (.iadd, 0, 0, 0), (.iaload, 0, 0, 0), (.invokevirtual 39, 162, 4, 12)] (.if_icmp .eq 606) [1041]
def pL_law_438 : am_T := tB [(.iconst 0, 0, 0, 0)] (.ireturn) [1]
def pL_law_440 : am_T := tB [(.aload_n 1, 0, 0, 0), (.aload_n 0, 0, 0, 0), (.iload_n 3, 0, 0, 0), (.iconst 1, 0, 0, 0), (.iadd, 0, 0, 0), (.iaload, 0, 0, 0), (.aload_n 0, 0, 0, 0), (.iload_n 3, 0, 0, 0), (.iconst 2, 0, 0, 0), (.iadd, 0, 0, 0), (.iaload, 0, 0, 0), (.invokevirtual 40, 99, 3, 11), (.aload_n 2, 0, 0, 0), (.aload_n 0, 0, 0, 0), (.iload_n 3, 0, 0, 0), (.iconst 1, 0, 0, 0), (.iadd, 0, 0, 0), (.iaload, 0, 0, 0), (.aload_n 0, 0, 0, 0), (.iload_n 3, 0, 0, 0), (.iconst 2, 0, 0, 0), (.iadd, 0, 0, 0), (.iaload, 0, 0, 0), (.invokevirtual 44, 163, 3, 12)] (.if_icmp .eq 573) [1041]
def pL_law_471 : am_T := tB [(.iconst 0, 0, 0, 0)] (.ireturn) [1]
def pL_law_473 : am_T := tB [(.aload_n 1, 0, 0, 0), (.aload_n 0, 0, 0, 0), (.iload_n 3, 0, 0, 0), (.iconst 1, 0, 0, 0), (.iadd, 0, 0, 0), (.iaload, 0, 0, 0), (.aload_n 0, 0, 0, 0), (.iload_n 3, 0, 0, 0), (.iconst 2, 0, 0, 0), (.iadd, 0, 0, 0), (.iaload, 0, 0, 0), (.invokevirtual 45, 100, 3, 11), (.aload_n 2, 0, 0, 0), (.aload_n 0, 0, 0, 0), (.iload_n 3, 0, 0, 0), (.iconst 1, 0, 0, 0), (.iadd, 0, 0, 0), (.iaload, 0, 0, 0), (.aload_n 0, 0, 0, 0), (.iload_n 3, 0, 0, 0), (.iconst 2, 0, 0, 0), (.iadd, 0, 0, 0), (.iaload, 0, 0, 0), (.invokevirtual 48, 167, 3, 12)] (.if_icmp .eq 540) [1041]
def pL_law_504 : am_T := tB [(.iconst 0, 0, 0, 0)] (.ireturn) [1]
def pL_law_506 : am_T := tB [(.aload_n 1, 0, 0, 0), (.aload_n 0, 0, 0, 0), (.iload_n 3, 0, 0, 0), (.iconst 1, 0, 0, 0), (.iadd, 0, 0, 0), (.iaload, 0, 0, 0), (.invokevirtual 49, 101, 2, 11), (.aload_n 2, 0, 0, 0), (.aload_n 0, 0, 0, 0), (.iload_n 3, 0, 0, 0), (.iconst 1, 0, 0, 0), (.iadd, 0, 0, 0), (.iaload, 0, 0, 0), (.invokevirtual 53, 168, 2, 12)] (.if_icmp .eq 517) [1041]
def pL_law_527 : am_T := tB [(.iconst 0, 0, 0, 0)] (.ireturn) [1]
def pL_law_529 : am_T := tB [(.aload_n 1, 0, 0, 0), (.aload_n 0, 0, 0, 0), (.iload_n 3, 0, 0, 0), (.iconst 1, 0, 0, 0), (.iadd, 0, 0, 0), (.iaload, 0, 0, 0), (.aload_n 0, 0, 0, 0), (.iload_n 3, 0, 0, 0), (.iconst 2, 0, 0, 0), (.iadd, 0, 0, 0), (.iaload, 0, 0, 0), (.aload_n 0, 0, 0, 0), (.iload_n 3, 0, 0, 0), (.iconst 3, 0, 0, 0), (.iadd, 0, 0, 0), (.iaload, 0, 0, 0), (.invokevirtual 54, 102, 4, 11), (.aload_n 2, 0, 0, 0), (.aload_n 0, 0, 0, 0), (.iload_n 3, 0, 0, 0), (.iconst 1, 0, 0, 0), (.iadd, 0, 0, 0), (.iaload, 0, 0, 0), (.aload_n 0, 0, 0, 0), (.iload_n 3, 0, 0, 0), (.iconst 2, 0, 0, 0), (.iadd, 0, 0, 0), (.iaload, 0, 0, 0), (.aload_n 0, 0, 0, 0), (.iload_n 3, 0, 0, 0), (.iconst 3, 0, 0, 0), (.iadd, 0, 0, 0), (.iaload, 0, 0, 0), (.invokevirtual 57, 171, 4, 12)] (.if_icmp .eq 474) [1041]
def pL_law_570 : am_T := tB [(.iconst 0, 0, 0, 0)] (.ireturn) [1]
def pL_law_572 : am_T := tB [(.aload_n 1, 0, 0, 0), (.aload_n 0, 0, 0, 0), (.iload_n 3, 0, 0, 0), (.iconst 1, 0, 0, 0), (.iadd, 0, 0, 0), (.iaload, 0, 0, 0), (.aload_n 0, 0, 0, 0), (.iload_n 3, 0, 0, 0), (.iconst 2, 0, 0, 0), (.iadd, 0, 0, 0), (.iaload, 0, 0, 0), (.invokevirtual 58, 103, 3, 11), (.aload_n 2, 0, 0, 0), (.aload_n 0, 0, 0, 0), (.iload_n 3, 0, 0, 0), (.iconst 1, 0, 0, 0), (.iadd, 0, 0, 0), (.iaload, 0, 0, 0), (.aload_n 0, 0, 0, 0), (.iload_n 3, 0, 0, 0), (.iconst 2, 0, 0, 0), (.iadd, 0, 0, 0), (.iaload, 0, 0, 0), (.invokevirtual 61, 172, 3, 12)] (.if_icmp .eq 441) [1041]
def pL_law_603 : am_T := tB [(.iconst 0, 0, 0, 0)] (.ireturn) [1]
def pL_law_605 : am_T := tB [(.aload_n 1, 0, 0, 0), (.aload_n 0, 0, 0, 0), (.iload_n 3, 0, 0, 0), (.iconst 1, 0, 0, 0), (.iadd, 0, 0, 0), (.iaload, 0, 0, 0), (.aload_n 0, 0, 0, 0), (.iload_n 3, 0, 0, 0), (.iconst 2, 0, 0, 0), (.iadd, 0, 0, 0), (.iaload, 0, 0, 0), (.aload_n 0, 0, 0, 0), (.iload_n 3, 0, 0, 0), (.iconst 3, 0, 0, 0), (.iadd, 0, 0, 0), (.iaload, 0, 0, 0), (.invokevirtual 62, 104, 4, 11), (.aload_n 2, 0, 0, 0), (.aload_n 0, 0, 0, 0), (.iload_n 3, 0, 0, 0), (.iconst 1, 0, 0, 0), (.iadd, 0, 0, 0), (.iaload, 0, 0, 0), (.aload_n 0, 0, 0, 0), (.iload_n 3, 0, 0, 0), (.iconst 2, 0, 0, 0), (.iadd, 0, 0, 0), (.iaload, 0, 0, 0), (.aload_n 0, 0, 0, 0), (.iload_n 3, 0, 0, 0), (.iconst 3, 0, 0, 0), (.iadd, 0, 0, 0), (.iaload, 0, 0, 0), (.invokevirtual 65, 176, 4, 12)] (.if_icmp .eq 398) [1041]
def pL_law_646 : am_T := tB [(.iconst 0, 0, 0, 0)] (.ireturn) [1]
def pL_law_648 : am_T := tB [(.aload_n 1, 0, 0, 0), (.aload_n 0, 0, 0, 0), (.iload_n 3, 0, 0, 0), (.iconst 1, 0, 0, 0), (.iadd, 0, 0, 0), (.iaload, 0, 0, 0), (.aload_n 0, 0, 0, 0), (.iload_n 3, 0, 0, 0), (.iconst 2, 0, 0, 0), (.iadd, 0, 0, 0), (.iaload, 0, 0, 0), (.invokevirtual 66, 105, 3, 11), (.aload_n 2, 0, 0, 0), (.aload_n 0, 0, 0, 0), (.iload_n 3, 0, 0, 0), (.iconst 1, 0, 0, 0), (.iadd, 0, 0, 0), (.iaload, 0, 0, 0), (.aload_n 0, 0, 0, 0), (.iload_n 3, 0, 0, 0), (.iconst 2, 0, 0, 0), (.iadd, 0, 0, 0), (.iaload, 0, 0, 0), (.invokevirtual 69, 181, 3, 12)] (.if_icmp .eq 365) [1041]
def pL_law_679 : am_T := tB [(.iconst 0, 0, 0, 0)] (.ireturn) [1]
def pL_law_681 : am_T := tB [(.aload_n 1, 0, 0, 0), (.aload_n 0, 0, 0, 0), (.iload_n 3, 0, 0, 0), (.iconst 1, 0, 0, 0), (.iadd, 0, 0, 0), (.iaload, 0, 0, 0), (.aload_n 0, 0, 0, 0), (.iload_n 3, 0, 0, 0), (.iconst 2, 0, 0, 0), (.iadd, 0, 0, 0), (.iaload, 0, 0, 0), (.invokevirtual 70, 106, 3, 11), (.aload_n 2, 0, 0, 0), (.aload_n 0, 0, 0, 0), (.iload_n 3, 0, 0, 0), (.iconst 1, 0, 0, 0), (.iadd, 0, 0, 0), (.iaload, 0, 0, 0), (.aload_n 0, 0, 0, 0), (.iload_n 3, 0, 0, 0), (.iconst 2, 0, 0, 0), (.iadd, 0, 0, 0), (.iaload, 0, 0, 0), (.invokevirtual 73, 182, 3, 12)] (.if_icmp .eq 332) [1041]
def pL_law_712 : am_T := tB [(.iconst 0, 0, 0, 0)] (.ireturn) [1]
def pL_law_714 : am_T := tB [(.aload_n 1, 0, 0, 0), (.aload_n 0, 0, 0, 0), (.iload_n 3, 0, 0, 0), (.iconst 1, 0, 0, 0), (.iadd, 0, 0, 0), (.iaload, 0, 0, 0), (.aload_n 0, 0, 0, 0), (.iload_n 3, 0, 0, 0), (.iconst 2, 0, 0, 0), (.iadd, 0, 0, 0), (.iaload, 0, 0, 0), (.aload_n 0, 0, 0, 0), (.iload_n 3, 0, 0, 0), (.iconst 3, 0, 0, 0), (.iadd, 0, 0, 0), (.iaload, 0, 0, 0), (.invokevirtual 74, 107, 4, 11), (.aload_n 2, 0, 0, 0), (.aload_n 0, 0, 0, 0), (.iload_n 3, 0, 0, 0), (.iconst 1, 0, 0, 0), (.iadd, 0, 0, 0), (.iaload, 0, 0, 0), (.aload_n 0, 0, 0, 0), (.iload_n 3, 0, 0, 0), (.iconst 2, 0, 0, 0), (.iadd, 0, 0, 0), (.iaload, 0, 0, 0), (.aload_n 0, 0, 0, 0), (.iload_n 3, 0, 0, 0), (.iconst 3, 0, 0, 0), (.iadd, 0, 0, 0), (.iaload, 0, 0, 0), (.invokevirtual 77, 188, 4, 12)] (.if_icmp .eq 289) [1041]
def pL_law_755 : am_T := tB [(.iconst 0, 0, 0, 0)] (.ireturn) [1]
def pL_law_757 : am_T := tB [(.aload_n 1, 0, 0, 0), (.aload_n 0, 0, 0, 0), (.iload_n 3, 0, 0, 0), (.iconst 1, 0, 0, 0), (.iadd, 0, 0, 0), (.iaload, 0, 0, 0), (.invokevirtual 78, 108, 2, 11), (.aload_n 2, 0, 0, 0), (.aload_n 0, 0, 0, 0), (.iload_n 3, 0, 0, 0), (.iconst 1, 0, 0, 0), (.iadd, 0, 0, 0), (.iaload, 0, 0, 0), (.invokevirtual 81, 201, 2, 12)] (.if_icmp .eq 266) [1041]
def pL_law_778 : am_T := tB [(.iconst 0, 0, 0, 0)] (.ireturn) [1]
def pL_law_780 : am_T := tB [(.aload_n 1, 0, 0, 0), (.aload_n 0, 0, 0, 0), (.iload_n 3, 0, 0, 0), (.iconst 1, 0, 0, 0), (.iadd, 0, 0, 0), (.iaload, 0, 0, 0), (.aload_n 0, 0, 0, 0), (.iload_n 3, 0, 0, 0), (.iconst 2, 0, 0, 0), (.iadd, 0, 0, 0), (.iaload, 0, 0, 0), (.aload_n 0, 0, 0, 0), (.iload_n 3, 0, 0, 0), (.iconst 3, 0, 0, 0), (.iadd, 0, 0, 0), (.iaload, 0, 0, 0), (.aload_n 0, 0, 0, 0), (.iload_n 3, 0, 0, 0), (.iconst 4, 0, 0, 0), (.iadd, 0, 0, 0), (.iaload, 0, 0, 0), (.invokevirtual 82, 109, 5, 11), (.aload_n 2, 0, 0, 0), (.aload_n 0, 0, 0, 0), (.iload_n 3, 0, 0, 0), (.iconst 1, 0, 0, 0), (.iadd, 0, 0, 0), (.iaload, 0, 0, 0), (.aload_n 0, 0, 0, 0), (.iload_n 3, 0, 0, 0), (.iconst 2, 0, 0, 0), (.iadd, 0, 0, 0), (.iaload, 0, 0, 0), (.aload_n 0, 0, 0, 0), (.iload_n 3, 0, 0, 0), (.iconst 3, 0, 0, 0), (.iadd, 0, 0, 0), (.iaload, 0, 0, 0), (.aload_n 0, 0, 0, 0), (.iload_n 3, 0, 0, 0), (.iconst 4, 0, 0, 0), (.iadd, 0, 0, 0), (.iaload, 0, 0, 0), (.invokevirtual 85, 202, 5, 12)] (.if_icmp .eq 213) [1041]
def pL_law_831 : am_T := tB [(.iconst 0, 0, 0, 0)] (.ireturn) [1]
def pL_law_833 : am_T := tB [(.aload_n 1, 0, 0, 0), (.aload_n 0, 0, 0, 0), (.iload_n 3, 0, 0, 0), (.iconst 1, 0, 0, 0), (.iadd, 0, 0, 0), (.iaload, 0, 0, 0), (.aload_n 0, 0, 0, 0), (.iload_n 3, 0, 0, 0), (.iconst 2, 0, 0, 0), (.iadd, 0, 0, 0), (.iaload, 0, 0, 0), (.invokevirtual 86, 110, 3, 11), (.aload_n 2, 0, 0, 0), (.aload_n 0, 0, 0, 0), (.iload_n 3, 0, 0, 0), (.iconst 1, 0, 0, 0), (.iadd, 0, 0, 0), (.iaload, 0, 0, 0), (.aload_n 0, 0, 0, 0), (.iload_n 3, 0, 0, 0), (.iconst 2, 0, 0, 0), (.iadd, 0, 0, 0), (.iaload, 0, 0, 0), (.invokevirtual 89, 203, 3, 12)] (.if_icmp .eq 180) [1041]
def pL_law_864 : am_T := tB [(.iconst 0, 0, 0, 0)] (.ireturn) [1]
def pL_law_866 : am_T := tB [(.aload_n 1, 0, 0, 0), (.aload_n 0, 0, 0, 0), (.iload_n 3, 0, 0, 0), (.iconst 1, 0, 0, 0), (.iadd, 0, 0, 0), (.iaload, 0, 0, 0), (.aload_n 0, 0, 0, 0), (.iload_n 3, 0, 0, 0), (.iconst 2, 0, 0, 0), (.iadd, 0, 0, 0), (.iaload, 0, 0, 0), (.invokevirtual 90, 111, 3, 11), (.aload_n 2, 0, 0, 0), (.aload_n 0, 0, 0, 0), (.iload_n 3, 0, 0, 0), (.iconst 1, 0, 0, 0), (.iadd, 0, 0, 0), (.iaload, 0, 0, 0), (.aload_n 0, 0, 0, 0), (.iload_n 3, 0, 0, 0), (.iconst 2, 0, 0, 0), (.iadd, 0, 0, 0), (.iaload, 0, 0, 0), (.invokevirtual 93, 204, 3, 12)] (.if_icmp .eq 147) [1041]
def pL_law_897 : am_T := tB [(.iconst 0, 0, 0, 0)] (.ireturn) [1]
def pL_law_899 : am_T := tB [(.aload_n 1, 0, 0, 0), (.aload_n 0, 0, 0, 0), (.iload_n 3, 0, 0, 0), (.iconst 1, 0, 0, 0), (.iadd, 0, 0, 0), (.iaload, 0, 0, 0), (.invokevirtual 94, 112, 2, 11), (.aload_n 2, 0, 0, 0), (.aload_n 0, 0, 0, 0), (.iload_n 3, 0, 0, 0), (.iconst 1, 0, 0, 0), (.iadd, 0, 0, 0), (.iaload, 0, 0, 0), (.invokevirtual 97, 205, 2, 12)] (.if_icmp .eq 124) [1041]
def pL_law_920 : am_T := tB [(.iconst 0, 0, 0, 0)] (.ireturn) [1]
def pL_law_922 : am_T := tB [(.aload_n 1, 0, 0, 0), (.invokevirtual 98, 113, 1, 11), (.aload_n 2, 0, 0, 0), (.invokevirtual 102, 206, 1, 12)] (.if_icmp .eq 111) [1041]
def pL_law_933 : am_T := tB [(.iconst 0, 0, 0, 0)] (.ireturn) [1]
def pL_law_935 : am_T := tB [(.aload_n 1, 0, 0, 0), (.aload_n 0, 0, 0, 0), (.iload_n 3, 0, 0, 0), (.iconst 1, 0, 0, 0), (.iadd, 0, 0, 0), (.iaload, 0, 0, 0), (.invokevirtual 103, 114, 2, 11), (.aload_n 2, 0, 0, 0), (.aload_n 0, 0, 0, 0), (.iload_n 3, 0, 0, 0), (.iconst 1, 0, 0, 0), (.iadd, 0, 0, 0), (.iaload, 0, 0, 0), (.invokevirtual 106, 219, 2, 12)] (.if_icmp .eq 88) [1041]
def pL_law_956 : am_T := tB [(.iconst 0, 0, 0, 0)] (.ireturn) [1]
def pL_law_958 : am_T := tB [(.aload_n 1, 0, 0, 0), (.aload_n 0, 0, 0, 0), (.iload_n 3, 0, 0, 0), (.iconst 1, 0, 0, 0), (.iadd, 0, 0, 0), (.iaload, 0, 0, 0), (.aload_n 0, 0, 0, 0), (.iload_n 3, 0, 0, 0), (.iconst 2, 0, 0, 0), (.iadd, 0, 0, 0), (.iaload, 0, 0, 0), (.invokevirtual 107, 115, 3, 11), (.aload_n 2, 0, 0, 0), (.aload_n 0, 0, 0, 0), (.iload_n 3, 0, 0, 0), (.iconst 1, 0, 0, 0), (.iadd, 0, 0, 0), (.iaload, 0, 0, 0), (.aload_n 0, 0, 0, 0), (.iload_n 3, 0, 0, 0), (.iconst 2, 0, 0, 0), (.iadd, 0, 0, 0), (.iaload, 0, 0, 0), (.invokevirtual 110, 225, 3, 12)] (.if_icmp .eq 55) [1041]
def pL_law_989 : am_T := tB [(.iconst 0, 0, 0, 0)] (.ireturn) [1]
def pL_law_991 : am_T := tB [(.aload_n 1, 0, 0, 0), (.invokevirtual 111, 116, 1, 11), (.aload_n 2, 0, 0, 0), (.invokevirtual 114, 139, 1, 12)] (.if_icmp .eq 42) [1041]
def pL_law_1002 : am_T := tB [(.iconst 0, 0, 0, 0)] (.ireturn) [1]
def pL_law_1004 : am_T := tB [(.aload_n 1, 0, 0, 0), (.aload_n 0, 0, 0, 0), (.iload_n 3, 0, 0, 0), (.iconst 1, 0, 0, 0), (.iadd, 0, 0, 0), (.iaload, 0, 0, 0), (.invokevirtual 115, 117, 2, 11), (.aload_n 2, 0, 0, 0), (.aload_n 0, 0, 0, 0), (.iload_n 3, 0, 0, 0), (.iconst 1, 0, 0, 0), (.iadd, 0, 0, 0), (.iaload, 0, 0, 0), (.invokevirtual 118, 227, 2, 12)] (.if_icmp .eq 19) [1041]
def pL_law_1025 : am_T := tB [(.iconst 0, 0, 0, 0)] (.ireturn) [1]
def pL_law_1027 : am_T := tB [(.aload_n 1, 0, 0, 0), (.invokevirtual 119, 118, 1, 11), (.aload_n 2, 0, 0, 0), (.invokevirtual 123, 229, 1, 12), (.lcmp, 0, 0, 0)] (.ifCond .eq 5) [1041]
def pL_law_1039 : am_T := tB [(.iconst 0, 0, 0, 0)] (.ireturn) [1]
def pL_law_18 : am_T := tB [(.iload_n 3, 0, 0, 0), (.aload_n 0, 0, 0, 0), (.arraylength, 0, 0, 0), (.bipush 6, 0, 0, 0), (.isub, 0, 0, 0)] (.if_icmp .gt 1023) [1047]
def pL_law_27 : am_T := tS [(.aload_n 0, 0, 0, 0), (.iload_n 3, 0, 0, 0), (.iaload, 0, 0, 0), (.bipush 31, 0, 0, 0), (.iand, 0, 0, 0)]
def pL_law_1041 : am_T := tB [(.iinc 3 6, 0, 0, 0)] (.goto (-1026)) [18]
def wL_law_18 : am_T := tQ (pL_law_18) (tQ (pL_law_27) (tQ (tK 1041 (tQ (tK 1027 (tQ (tK 1004 (tQ (tK 991 (tQ (tK 958 (tQ (tK 935 (tQ (tK 922 (tQ (tK 899 (tQ (tK 866 (tQ (tK 833 (tQ (tK 780 (tQ (tK 757 (tQ (tK 714 (tQ (tK 681 (tQ (tK 648 (tQ (tK 605 (tQ (tK 572 (tQ (tK 529 (tQ (tK 506 (tQ (tK 473 (tQ (tK 440 (tQ (tK 397 (tQ (tK 354 (tQ (tK 311 (tQ (tK 248 (tQ (tK 205 (tQ (tK 152 (pL_law_33)) (tQ (pL_law_152) (pL_law_203)))) (tQ (pL_law_205) (pL_law_246)))) (tQ (pL_law_248) (pL_law_309)))) (tQ (pL_law_311) (pL_law_352)))) (tQ (pL_law_354) (pL_law_395)))) (tQ (pL_law_397) (pL_law_438)))) (tQ (pL_law_440) (pL_law_471)))) (tQ (pL_law_473) (pL_law_504)))) (tQ (pL_law_506) (pL_law_527)))) (tQ (pL_law_529) (pL_law_570)))) (tQ (pL_law_572) (pL_law_603)))) (tQ (pL_law_605) (pL_law_646)))) (tQ (pL_law_648) (pL_law_679)))) (tQ (pL_law_681) (pL_law_712)))) (tQ (pL_law_714) (pL_law_755)))) (tQ (pL_law_757) (pL_law_778)))) (tQ (pL_law_780) (pL_law_831)))) (tQ (pL_law_833) (pL_law_864)))) (tQ (pL_law_866) (pL_law_897)))) (tQ (pL_law_899) (pL_law_920)))) (tQ (pL_law_922) (pL_law_933)))) (tQ (pL_law_935) (pL_law_956)))) (tQ (pL_law_958) (pL_law_989)))) (tQ (pL_law_991) (pL_law_1002)))) (tQ (pL_law_1004) (pL_law_1025)))) (tQ (pL_law_1027) (pL_law_1039)))) (pL_law_1041)))
def pL_law_0 : am_T := tS [(.new 7, 11, 0, 0), (.dup, 0, 0, 0), (.invokespecial 9, 92, 1, 11), (.astore_n 1, 0, 0, 0), (.new 10, 12, 0, 0), (.dup, 0, 0, 0), (.invokespecial 12, 130, 1, 12), (.astore_n 2, 0, 0, 0), (.iconst 0, 0, 0, 0), (.istore_n 3, 0, 0, 0)]
def pL_law_1047 : am_T := tB [(.iconst 1, 0, 0, 0)] (.ireturn) [1]
def tL_law : am_T := tQ (pL_law_0) (tQ (tK 1047 (tW 18 wL_law_18)) (pL_law_1047))
def am_tbl0 : List am_M := [qX0_init, qX0_degree, qX0_fits, qX0_apply, qX0_addImage, qX0_kernelDimension, qX0_pivotRow, qX0_clearBelow, qX1_init, qX1_residue, qX1_balanced, qX1_inverse, qX1_productFits, qX1_powerFits, qX1_addProduct, qX1_addWordProduct, qX1_raise, qX1_adjoin, qX2_init, qX2_covers, qX2_isFor, qX2_begin, qX2_add, qX2_sourceCell, qX3_init, qX3_find, qX3_gather, qX3_complete, qX3_absorb, qX3_dismiss, qX3_admit, qX3_unsettle, qX3_cheapestPair, qX3_cross, qX3_reduceTails, qX3_handOver, qX4_init, qX4_begin, qX4_take, qX4_reduce]
def am_tbl1 : List am_M := [qX4_cancel, qX5_init, qX5_keep, qX5_restore, qX6_init, qX6_isWord, qX6_firstPlace, qX6_placeOf, qX6_degreeAt, qX6_rankedPlace, qX6_height, qX6_coefficient, qX6_setCoefficient, qX6_makeZero, qX6_makeNumber, qX6_copyFrom, qX6_addMultiple, qX6_scale, qX6_countTerms, qX6_extent, qX6_isZero, qX6_degree, qX6_leadPlace, qX6_property, qX6_greatest, qX6_measure, qX7_init, qX7_evaluate, qX7_readExpression, qX7_readTerm, qX7_readFactor, qX7_readNumber, qX7_peek, qX8_init, qX8_copyFrom, qX9_init, qX9_append, qX9_byteAt, qX9_isDigit, qX9_fault]
def am_tbl2 : List am_M := [qX9_pass, qX9_passOperand, qX9_passExponent, qX9_passLink, qX9_countDigits, qX9_valueOf, qX10_init, qX10_byteAt, qX10_writeTerm, qX10_writeLetter, qX10_writeNumber, qX10_write, qX11_init, qX11_sets, qX11_at, qX11_sums, qX11_times, qX11_bracket, qX11_power, qX11_reversed, qX11_of, qX11_order, qX11_puts, qX11_rate, qX11_makes, qX11_kernel, qX11_kills, qX11_rest, qX11_basis, qX11_based, qX11_stairs, qX11_within, qX11_type, qX11_clear, qX11_reads, qX11_shown, qX11_back, qX11_told, qX11_digest, qX11_mixed]
def am_tbl3 : List am_M := [qX11_replaceOperator, qX11_bad, qX11_no, qX11_full, qX11_hasBasis, qX11_isOperator, qX11_isPolynomial, qX11_isPower, qX11_isSet, qX11_isInSet, qX12_init, qX12_in, qX12_wordAt, qX12_restOf, qX12_tell, qX12_bad, qX12_no, qX12_full, qX12_remembers, qX12_back, qX12_isOperator, qX12_isWord, qX12_wipe, qX12_copies, qX12_fetches, qX12_termsIn, qX12_keeps, qX12_degreeIn, qX12_wordBehind, qX12_leadIn, qX12_adds, qX12_addsBehind, qX12_multiplies, qX12_isTooMuch, qX12_isPowerTooMuch, qX12_raises, qX12_mixes, qX12_sets, qX12_at, qX12_sums]
def am_tbl4 : List am_M := [qX12_times, qX12_bracket, qX12_power, qX12_reversed, qX12_greatest, qX12_ofLead, qX12_aboutOf, qX12_of, qX12_order, qX12_isPolynomial, qX12_rateAt, qX12_puts, qX12_rate, qX12_falls, qX12_greatestPower, qX12_canMake, qX12_makes, qX12_inverseOf, qX12_laysMatrix, qX12_addsRow, qX12_isFree, qX12_kernel, qX12_kills, qX12_findsLeads, qX12_isBelow, qX12_firstBelow, qX12_rests, qX12_isSet, qX12_rest, qX12_evens, qX12_areAlike, qX12_rowGoes, qX12_takesBy, qX12_tidies, qX12_isAhead, qX12_exchanges, qX12_sorts, qX12_crosses, qX12_isOneMore, qX12_laysBasis]
def am_tbl5 : List am_M := [qX12_isSmall, qX12_basis, qX12_based, qX12_stairs, qX12_within, qX12_type, qX12_clear, qX12_isAt, qX12_blanks, qX12_fails, qX12_opens, qX12_closes, qX12_takes, qX12_takesFigures, qX12_takesPower, qX12_values, qX12_takesFactor, qX12_takesSign, qX12_isRead, qX12_reads, qX12_writes, qX12_writesNumber, qX12_writesLetter, qX12_writesTerm, qX12_laysLine, qX12_shown, qX12_toldOf, qX12_told, qX12_mix, qX12_digest, qJ9_floorMod_7cf53, qJ9_abs_0f7a4, qJ9_max_7cf53, qJ9_min_7cf53, qJ7_fill_53178]
def am_tbl : List am_M := am_tbl0 ++ (am_tbl1 ++ (am_tbl2 ++ (am_tbl3 ++ (am_tbl4 ++ (am_tbl5)))))
def am_tb (k : Nat) : Option am_M := am_tbl[k]?
theorem tb_X0_init : am_tb 0 = some qX0_init := rfl
theorem tb_X0_degree : am_tb 1 = some qX0_degree := rfl
theorem tb_X0_fits : am_tb 2 = some qX0_fits := rfl
theorem tb_X0_apply : am_tb 3 = some qX0_apply := rfl
theorem tb_X0_addImage : am_tb 4 = some qX0_addImage := rfl
theorem tb_X0_kernelDimension : am_tb 5 = some qX0_kernelDimension := rfl
theorem tb_X0_pivotRow : am_tb 6 = some qX0_pivotRow := rfl
theorem tb_X0_clearBelow : am_tb 7 = some qX0_clearBelow := rfl
theorem tb_X1_init : am_tb 8 = some qX1_init := rfl
theorem tb_X1_residue : am_tb 9 = some qX1_residue := rfl
theorem tb_X1_balanced : am_tb 10 = some qX1_balanced := rfl
theorem tb_X1_inverse : am_tb 11 = some qX1_inverse := rfl
theorem tb_X1_productFits : am_tb 12 = some qX1_productFits := rfl
theorem tb_X1_powerFits : am_tb 13 = some qX1_powerFits := rfl
theorem tb_X1_addProduct : am_tb 14 = some qX1_addProduct := rfl
theorem tb_X1_addWordProduct : am_tb 15 = some qX1_addWordProduct := rfl
theorem tb_X1_raise : am_tb 16 = some qX1_raise := rfl
theorem tb_X1_adjoin : am_tb 17 = some qX1_adjoin := rfl
theorem tb_X2_init : am_tb 18 = some qX2_init := rfl
theorem tb_X2_covers : am_tb 19 = some qX2_covers := rfl
theorem tb_X2_isFor : am_tb 20 = some qX2_isFor := rfl
theorem tb_X2_begin : am_tb 21 = some qX2_begin := rfl
theorem tb_X2_add : am_tb 22 = some qX2_add := rfl
theorem tb_X2_sourceCell : am_tb 23 = some qX2_sourceCell := rfl
theorem tb_X3_init : am_tb 24 = some qX3_init := rfl
theorem tb_X3_find : am_tb 25 = some qX3_find := rfl
theorem tb_X3_gather : am_tb 26 = some qX3_gather := rfl
theorem tb_X3_complete : am_tb 27 = some qX3_complete := rfl
theorem tb_X3_absorb : am_tb 28 = some qX3_absorb := rfl
theorem tb_X3_dismiss : am_tb 29 = some qX3_dismiss := rfl
theorem tb_X3_admit : am_tb 30 = some qX3_admit := rfl
theorem tb_X3_unsettle : am_tb 31 = some qX3_unsettle := rfl
theorem tb_X3_cheapestPair : am_tb 32 = some qX3_cheapestPair := rfl
theorem tb_X3_cross : am_tb 33 = some qX3_cross := rfl
theorem tb_X3_reduceTails : am_tb 34 = some qX3_reduceTails := rfl
theorem tb_X3_handOver : am_tb 35 = some qX3_handOver := rfl
theorem tb_X4_init : am_tb 36 = some qX4_init := rfl
theorem tb_X4_begin : am_tb 37 = some qX4_begin := rfl
theorem tb_X4_take : am_tb 38 = some qX4_take := rfl
theorem tb_X4_reduce : am_tb 39 = some qX4_reduce := rfl
theorem tb_X4_cancel : am_tb 40 = some qX4_cancel := rfl
theorem tb_X5_init : am_tb 41 = some qX5_init := rfl
theorem tb_X5_keep : am_tb 42 = some qX5_keep := rfl
theorem tb_X5_restore : am_tb 43 = some qX5_restore := rfl
theorem tb_X6_init : am_tb 44 = some qX6_init := rfl
theorem tb_X6_isWord : am_tb 45 = some qX6_isWord := rfl
theorem tb_X6_firstPlace : am_tb 46 = some qX6_firstPlace := rfl
theorem tb_X6_placeOf : am_tb 47 = some qX6_placeOf := rfl
theorem tb_X6_degreeAt : am_tb 48 = some qX6_degreeAt := rfl
theorem tb_X6_rankedPlace : am_tb 49 = some qX6_rankedPlace := rfl
theorem tb_X6_height : am_tb 50 = some qX6_height := rfl
theorem tb_X6_coefficient : am_tb 51 = some qX6_coefficient := rfl
theorem tb_X6_setCoefficient : am_tb 52 = some qX6_setCoefficient := rfl
theorem tb_X6_makeZero : am_tb 53 = some qX6_makeZero := rfl
theorem tb_X6_makeNumber : am_tb 54 = some qX6_makeNumber := rfl
theorem tb_X6_copyFrom : am_tb 55 = some qX6_copyFrom := rfl
theorem tb_X6_addMultiple : am_tb 56 = some qX6_addMultiple := rfl
theorem tb_X6_scale : am_tb 57 = some qX6_scale := rfl
theorem tb_X6_countTerms : am_tb 58 = some qX6_countTerms := rfl
theorem tb_X6_extent : am_tb 59 = some qX6_extent := rfl
theorem tb_X6_isZero : am_tb 60 = some qX6_isZero := rfl
theorem tb_X6_degree : am_tb 61 = some qX6_degree := rfl
theorem tb_X6_leadPlace : am_tb 62 = some qX6_leadPlace := rfl
theorem tb_X6_property : am_tb 63 = some qX6_property := rfl
theorem tb_X6_greatest : am_tb 64 = some qX6_greatest := rfl
theorem tb_X6_measure : am_tb 65 = some qX6_measure := rfl
theorem tb_X7_init : am_tb 66 = some qX7_init := rfl
theorem tb_X7_evaluate : am_tb 67 = some qX7_evaluate := rfl
theorem tb_X7_readExpression : am_tb 68 = some qX7_readExpression := rfl
theorem tb_X7_readTerm : am_tb 69 = some qX7_readTerm := rfl
theorem tb_X7_readFactor : am_tb 70 = some qX7_readFactor := rfl
theorem tb_X7_readNumber : am_tb 71 = some qX7_readNumber := rfl
theorem tb_X7_peek : am_tb 72 = some qX7_peek := rfl
theorem tb_X8_init : am_tb 73 = some qX8_init := rfl
theorem tb_X8_copyFrom : am_tb 74 = some qX8_copyFrom := rfl
theorem tb_X9_init : am_tb 75 = some qX9_init := rfl
theorem tb_X9_append : am_tb 76 = some qX9_append := rfl
theorem tb_X9_byteAt : am_tb 77 = some qX9_byteAt := rfl
theorem tb_X9_isDigit : am_tb 78 = some qX9_isDigit := rfl
theorem tb_X9_fault : am_tb 79 = some qX9_fault := rfl
theorem tb_X9_pass : am_tb 80 = some qX9_pass := rfl
theorem tb_X9_passOperand : am_tb 81 = some qX9_passOperand := rfl
theorem tb_X9_passExponent : am_tb 82 = some qX9_passExponent := rfl
theorem tb_X9_passLink : am_tb 83 = some qX9_passLink := rfl
theorem tb_X9_countDigits : am_tb 84 = some qX9_countDigits := rfl
theorem tb_X9_valueOf : am_tb 85 = some qX9_valueOf := rfl
theorem tb_X10_init : am_tb 86 = some qX10_init := rfl
theorem tb_X10_byteAt : am_tb 87 = some qX10_byteAt := rfl
theorem tb_X10_writeTerm : am_tb 88 = some qX10_writeTerm := rfl
theorem tb_X10_writeLetter : am_tb 89 = some qX10_writeLetter := rfl
theorem tb_X10_writeNumber : am_tb 90 = some qX10_writeNumber := rfl
theorem tb_X10_write : am_tb 91 = some qX10_write := rfl
theorem tb_X11_init : am_tb 92 = some qX11_init := rfl
theorem tb_X11_sets : am_tb 93 = some qX11_sets := rfl
theorem tb_X11_at : am_tb 94 = some qX11_at := rfl
theorem tb_X11_sums : am_tb 95 = some qX11_sums := rfl
theorem tb_X11_times : am_tb 96 = some qX11_times := rfl
theorem tb_X11_bracket : am_tb 97 = some qX11_bracket := rfl
theorem tb_X11_power : am_tb 98 = some qX11_power := rfl
theorem tb_X11_reversed : am_tb 99 = some qX11_reversed := rfl
theorem tb_X11_of : am_tb 100 = some qX11_of := rfl
theorem tb_X11_order : am_tb 101 = some qX11_order := rfl
theorem tb_X11_puts : am_tb 102 = some qX11_puts := rfl
theorem tb_X11_rate : am_tb 103 = some qX11_rate := rfl
theorem tb_X11_makes : am_tb 104 = some qX11_makes := rfl
theorem tb_X11_kernel : am_tb 105 = some qX11_kernel := rfl
theorem tb_X11_kills : am_tb 106 = some qX11_kills := rfl
theorem tb_X11_rest : am_tb 107 = some qX11_rest := rfl
theorem tb_X11_basis : am_tb 108 = some qX11_basis := rfl
theorem tb_X11_based : am_tb 109 = some qX11_based := rfl
theorem tb_X11_stairs : am_tb 110 = some qX11_stairs := rfl
theorem tb_X11_within : am_tb 111 = some qX11_within := rfl
theorem tb_X11_type : am_tb 112 = some qX11_type := rfl
theorem tb_X11_clear : am_tb 113 = some qX11_clear := rfl
theorem tb_X11_reads : am_tb 114 = some qX11_reads := rfl
theorem tb_X11_shown : am_tb 115 = some qX11_shown := rfl
theorem tb_X11_back : am_tb 116 = some qX11_back := rfl
theorem tb_X11_told : am_tb 117 = some qX11_told := rfl
theorem tb_X11_digest : am_tb 118 = some qX11_digest := rfl
theorem tb_X11_mixed : am_tb 119 = some qX11_mixed := rfl
theorem tb_X11_replaceOperator : am_tb 120 = some qX11_replaceOperator := rfl
theorem tb_X11_bad : am_tb 121 = some qX11_bad := rfl
theorem tb_X11_no : am_tb 122 = some qX11_no := rfl
theorem tb_X11_full : am_tb 123 = some qX11_full := rfl
theorem tb_X11_hasBasis : am_tb 124 = some qX11_hasBasis := rfl
theorem tb_X11_isOperator : am_tb 125 = some qX11_isOperator := rfl
theorem tb_X11_isPolynomial : am_tb 126 = some qX11_isPolynomial := rfl
theorem tb_X11_isPower : am_tb 127 = some qX11_isPower := rfl
theorem tb_X11_isSet : am_tb 128 = some qX11_isSet := rfl
theorem tb_X11_isInSet : am_tb 129 = some qX11_isInSet := rfl
theorem tb_X12_init : am_tb 130 = some qX12_init := rfl
theorem tb_X12_in : am_tb 131 = some qX12_in := rfl
theorem tb_X12_wordAt : am_tb 132 = some qX12_wordAt := rfl
theorem tb_X12_restOf : am_tb 133 = some qX12_restOf := rfl
theorem tb_X12_tell : am_tb 134 = some qX12_tell := rfl
theorem tb_X12_bad : am_tb 135 = some qX12_bad := rfl
theorem tb_X12_no : am_tb 136 = some qX12_no := rfl
theorem tb_X12_full : am_tb 137 = some qX12_full := rfl
theorem tb_X12_remembers : am_tb 138 = some qX12_remembers := rfl
theorem tb_X12_back : am_tb 139 = some qX12_back := rfl
theorem tb_X12_isOperator : am_tb 140 = some qX12_isOperator := rfl
theorem tb_X12_isWord : am_tb 141 = some qX12_isWord := rfl
theorem tb_X12_wipe : am_tb 142 = some qX12_wipe := rfl
theorem tb_X12_copies : am_tb 143 = some qX12_copies := rfl
theorem tb_X12_fetches : am_tb 144 = some qX12_fetches := rfl
theorem tb_X12_termsIn : am_tb 145 = some qX12_termsIn := rfl
theorem tb_X12_keeps : am_tb 146 = some qX12_keeps := rfl
theorem tb_X12_degreeIn : am_tb 147 = some qX12_degreeIn := rfl
theorem tb_X12_wordBehind : am_tb 148 = some qX12_wordBehind := rfl
theorem tb_X12_leadIn : am_tb 149 = some qX12_leadIn := rfl
theorem tb_X12_adds : am_tb 150 = some qX12_adds := rfl
theorem tb_X12_addsBehind : am_tb 151 = some qX12_addsBehind := rfl
theorem tb_X12_multiplies : am_tb 152 = some qX12_multiplies := rfl
theorem tb_X12_isTooMuch : am_tb 153 = some qX12_isTooMuch := rfl
theorem tb_X12_isPowerTooMuch : am_tb 154 = some qX12_isPowerTooMuch := rfl
theorem tb_X12_raises : am_tb 155 = some qX12_raises := rfl
theorem tb_X12_mixes : am_tb 156 = some qX12_mixes := rfl
theorem tb_X12_sets : am_tb 157 = some qX12_sets := rfl
theorem tb_X12_at : am_tb 158 = some qX12_at := rfl
theorem tb_X12_sums : am_tb 159 = some qX12_sums := rfl
theorem tb_X12_times : am_tb 160 = some qX12_times := rfl
theorem tb_X12_bracket : am_tb 161 = some qX12_bracket := rfl
theorem tb_X12_power : am_tb 162 = some qX12_power := rfl
theorem tb_X12_reversed : am_tb 163 = some qX12_reversed := rfl
theorem tb_X12_greatest : am_tb 164 = some qX12_greatest := rfl
theorem tb_X12_ofLead : am_tb 165 = some qX12_ofLead := rfl
theorem tb_X12_aboutOf : am_tb 166 = some qX12_aboutOf := rfl
theorem tb_X12_of : am_tb 167 = some qX12_of := rfl
theorem tb_X12_order : am_tb 168 = some qX12_order := rfl
theorem tb_X12_isPolynomial : am_tb 169 = some qX12_isPolynomial := rfl
theorem tb_X12_rateAt : am_tb 170 = some qX12_rateAt := rfl
theorem tb_X12_puts : am_tb 171 = some qX12_puts := rfl
theorem tb_X12_rate : am_tb 172 = some qX12_rate := rfl
theorem tb_X12_falls : am_tb 173 = some qX12_falls := rfl
theorem tb_X12_greatestPower : am_tb 174 = some qX12_greatestPower := rfl
theorem tb_X12_canMake : am_tb 175 = some qX12_canMake := rfl
theorem tb_X12_makes : am_tb 176 = some qX12_makes := rfl
theorem tb_X12_inverseOf : am_tb 177 = some qX12_inverseOf := rfl
theorem tb_X12_laysMatrix : am_tb 178 = some qX12_laysMatrix := rfl
theorem tb_X12_addsRow : am_tb 179 = some qX12_addsRow := rfl
theorem tb_X12_isFree : am_tb 180 = some qX12_isFree := rfl
theorem tb_X12_kernel : am_tb 181 = some qX12_kernel := rfl
theorem tb_X12_kills : am_tb 182 = some qX12_kills := rfl
theorem tb_X12_findsLeads : am_tb 183 = some qX12_findsLeads := rfl
theorem tb_X12_isBelow : am_tb 184 = some qX12_isBelow := rfl
theorem tb_X12_firstBelow : am_tb 185 = some qX12_firstBelow := rfl
theorem tb_X12_rests : am_tb 186 = some qX12_rests := rfl
theorem tb_X12_isSet : am_tb 187 = some qX12_isSet := rfl
theorem tb_X12_rest : am_tb 188 = some qX12_rest := rfl
theorem tb_X12_evens : am_tb 189 = some qX12_evens := rfl
theorem tb_X12_areAlike : am_tb 190 = some qX12_areAlike := rfl
theorem tb_X12_rowGoes : am_tb 191 = some qX12_rowGoes := rfl
theorem tb_X12_takesBy : am_tb 192 = some qX12_takesBy := rfl
theorem tb_X12_tidies : am_tb 193 = some qX12_tidies := rfl
theorem tb_X12_isAhead : am_tb 194 = some qX12_isAhead := rfl
theorem tb_X12_exchanges : am_tb 195 = some qX12_exchanges := rfl
theorem tb_X12_sorts : am_tb 196 = some qX12_sorts := rfl
theorem tb_X12_crosses : am_tb 197 = some qX12_crosses := rfl
theorem tb_X12_isOneMore : am_tb 198 = some qX12_isOneMore := rfl
theorem tb_X12_laysBasis : am_tb 199 = some qX12_laysBasis := rfl
theorem tb_X12_isSmall : am_tb 200 = some qX12_isSmall := rfl
theorem tb_X12_basis : am_tb 201 = some qX12_basis := rfl
theorem tb_X12_based : am_tb 202 = some qX12_based := rfl
theorem tb_X12_stairs : am_tb 203 = some qX12_stairs := rfl
theorem tb_X12_within : am_tb 204 = some qX12_within := rfl
theorem tb_X12_type : am_tb 205 = some qX12_type := rfl
theorem tb_X12_clear : am_tb 206 = some qX12_clear := rfl
theorem tb_X12_isAt : am_tb 207 = some qX12_isAt := rfl
theorem tb_X12_blanks : am_tb 208 = some qX12_blanks := rfl
theorem tb_X12_fails : am_tb 209 = some qX12_fails := rfl
theorem tb_X12_opens : am_tb 210 = some qX12_opens := rfl
theorem tb_X12_closes : am_tb 211 = some qX12_closes := rfl
theorem tb_X12_takes : am_tb 212 = some qX12_takes := rfl
theorem tb_X12_takesFigures : am_tb 213 = some qX12_takesFigures := rfl
theorem tb_X12_takesPower : am_tb 214 = some qX12_takesPower := rfl
theorem tb_X12_values : am_tb 215 = some qX12_values := rfl
theorem tb_X12_takesFactor : am_tb 216 = some qX12_takesFactor := rfl
theorem tb_X12_takesSign : am_tb 217 = some qX12_takesSign := rfl
theorem tb_X12_isRead : am_tb 218 = some qX12_isRead := rfl
theorem tb_X12_reads : am_tb 219 = some qX12_reads := rfl
theorem tb_X12_writes : am_tb 220 = some qX12_writes := rfl
theorem tb_X12_writesNumber : am_tb 221 = some qX12_writesNumber := rfl
theorem tb_X12_writesLetter : am_tb 222 = some qX12_writesLetter := rfl
theorem tb_X12_writesTerm : am_tb 223 = some qX12_writesTerm := rfl
theorem tb_X12_laysLine : am_tb 224 = some qX12_laysLine := rfl
theorem tb_X12_shown : am_tb 225 = some qX12_shown := rfl
theorem tb_X12_toldOf : am_tb 226 = some qX12_toldOf := rfl
theorem tb_X12_told : am_tb 227 = some qX12_told := rfl
theorem tb_X12_mix : am_tb 228 = some qX12_mix := rfl
theorem tb_X12_digest : am_tb 229 = some qX12_digest := rfl
theorem tb_J9_floorMod_7cf53 : am_tb 230 = some qJ9_floorMod_7cf53 := rfl
theorem tb_J9_abs_0f7a4 : am_tb 231 = some qJ9_abs_0f7a4 := rfl
theorem tb_J9_max_7cf53 : am_tb 232 = some qJ9_max_7cf53 := rfl
theorem tb_J9_min_7cf53 : am_tb 233 = some qJ9_min_7cf53 := rfl
theorem tb_J7_fill_53178 : am_tb 234 = some qJ7_fill_53178 := rfl
end
section
/-! The links of the program, by their places in the tables. Written by wip/whole/gen_prog.py. -/
def am_own (o : Nat) : String := match o with
  | 0 => RX0
  | 1 => RX1
  | 2 => RX2
  | 3 => RX3
  | 4 => RX4
  | 5 => RX5
  | 6 => RX6
  | 7 => RX7
  | 8 => RX8
  | 9 => RX9
  | 10 => RX10
  | 11 => RX11
  | 12 => RX12
  | 13 => RJ9
  | 14 => RJ7
  | _ => RL
theorem am_in8 {w : Cond} (h : w ∈ tables_1) : w ∈ lw_tbl := List.mem_append_right _ h
theorem am_in8_1 {w : Cond} (i : Nat) (h : tables_1_1[i]? = some w) : w ∈ lw_tbl := am_in8 (List.mem_append_left _ (List.mem_of_getElem? h))
theorem am_in8_2 {w : Cond} (i : Nat) (h : tables_1_2[i]? = some w) : w ∈ lw_tbl := am_in8 (List.mem_append_right _ (List.mem_append_left _ (List.mem_of_getElem? h)))
theorem am_in8_3 {w : Cond} (i : Nat) (h : tables_1_3[i]? = some w) : w ∈ lw_tbl := am_in8 (List.mem_append_right _ (List.mem_append_right _ (List.mem_append_left _ (List.mem_of_getElem? h))))
theorem am_in8_4 {w : Cond} (i : Nat) (h : tables_1_4[i]? = some w) : w ∈ lw_tbl := am_in8 (List.mem_append_right _ (List.mem_append_right _ (List.mem_append_right _ (List.mem_append_left _ (List.mem_of_getElem? h)))))
theorem am_in8_5 {w : Cond} (i : Nat) (h : tables_1_5[i]? = some w) : w ∈ lw_tbl := am_in8 (List.mem_append_right _ (List.mem_append_right _ (List.mem_append_right _ (List.mem_append_right _ (List.mem_append_left _ (List.mem_of_getElem? h))))))
theorem am_in8_6 {w : Cond} (i : Nat) (h : tables_1_6[i]? = some w) : w ∈ lw_tbl := am_in8 (List.mem_append_right _ (List.mem_append_right _ (List.mem_append_right _ (List.mem_append_right _ (List.mem_append_right _ (List.mem_of_getElem? h))))))
theorem mo_X0_init : am_okm qX0_init 1 := ⟨am_in8_2 2 rfl, am_in9 106 (by decide +kernel), ⟨by decide +kernel, by decide +kernel⟩, by decide +kernel, by decide +kernel⟩
theorem mi_X0_init : Cond.instanceMethod yX0_init ∈ lw_tbl := am_in9 336 (by decide +kernel)
theorem mo_X0_degree : am_okm qX0_degree 1 := ⟨am_in8_3 75 rfl, am_in9 106 (by decide +kernel), ⟨by decide +kernel, by decide +kernel⟩, by decide +kernel, by decide +kernel⟩
theorem mt_X0_degree : Cond.static yX0_degree ∈ lw_tbl := am_in9 649 (by decide +kernel)
theorem mo_X0_fits : am_okm qX0_fits 2 := ⟨am_in8_3 72 rfl, am_in9 106 (by decide +kernel), ⟨by decide +kernel, by decide +kernel⟩, by decide +kernel, by decide +kernel⟩
theorem mi_X0_fits : Cond.instanceMethod yX0_fits ∈ lw_tbl := am_in9 645 (by decide +kernel)
theorem ms_X0_fits : Cond.selects RX0 yX0_fits yX0_fits ∈ lw_tbl := am_in9 646 (by decide +kernel)
theorem mo_X0_apply : am_okm qX0_apply 2 := ⟨am_in8_3 81 rfl, am_in9 106 (by decide +kernel), ⟨by decide +kernel, by decide +kernel⟩, by decide +kernel, by decide +kernel⟩
theorem mi_X0_apply : Cond.instanceMethod yX0_apply ∈ lw_tbl := am_in9 654 (by decide +kernel)
theorem ms_X0_apply : Cond.selects RX0 yX0_apply yX0_apply ∈ lw_tbl := am_in9 655 (by decide +kernel)
theorem mo_X0_addImage : am_okm qX0_addImage 4 := ⟨am_in8_3 86 rfl, am_in9 106 (by decide +kernel), ⟨by decide +kernel, by decide +kernel⟩, by decide +kernel, by decide +kernel⟩
theorem mi_X0_addImage : Cond.instanceMethod yX0_addImage ∈ lw_tbl := am_in9 660 (by decide +kernel)
theorem ms_X0_addImage : Cond.selects RX0 yX0_addImage yX0_addImage ∈ lw_tbl := am_in9 4 (by decide +kernel)
theorem mo_X0_kernelDimension : am_okm qX0_kernelDimension 2 := ⟨am_in8_3 97 rfl, am_in9 106 (by decide +kernel), ⟨by decide +kernel, by decide +kernel⟩, by decide +kernel, by decide +kernel⟩
theorem mi_X0_kernelDimension : Cond.instanceMethod yX0_kernelDimension ∈ lw_tbl := am_in9 670 (by decide +kernel)
theorem ms_X0_kernelDimension : Cond.selects RX0 yX0_kernelDimension yX0_kernelDimension ∈ lw_tbl := am_in9 671 (by decide +kernel)
theorem mo_X0_pivotRow : am_okm qX0_pivotRow 3 := ⟨am_in8_3 102 rfl, am_in9 106 (by decide +kernel), ⟨by decide +kernel, by decide +kernel⟩, by decide +kernel, by decide +kernel⟩
theorem mi_X0_pivotRow : Cond.instanceMethod yX0_pivotRow ∈ lw_tbl := am_in9 676 (by decide +kernel)
theorem ms_X0_pivotRow : Cond.selects RX0 yX0_pivotRow yX0_pivotRow ∈ lw_tbl := am_in9 5 (by decide +kernel)
theorem mo_X0_clearBelow : am_okm qX0_clearBelow 3 := ⟨am_in8_3 106 rfl, am_in9 106 (by decide +kernel), ⟨by decide +kernel, by decide +kernel⟩, by decide +kernel, by decide +kernel⟩
theorem mi_X0_clearBelow : Cond.instanceMethod yX0_clearBelow ∈ lw_tbl := am_in9 680 (by decide +kernel)
theorem ms_X0_clearBelow : Cond.selects RX0 yX0_clearBelow yX0_clearBelow ∈ lw_tbl := am_in9 6 (by decide +kernel)
theorem mo_X1_init : am_okm qX1_init 0 := ⟨am_in8_1 114 rfl, am_in9 101 (by decide +kernel), ⟨by decide +kernel, by decide +kernel⟩, by decide +kernel, by decide +kernel⟩
theorem mi_X1_init : Cond.instanceMethod yX1_init ∈ lw_tbl := am_in9 208 (by decide +kernel)
theorem mo_X1_residue : am_okm qX1_residue 1 := ⟨am_in8_2 145 rfl, am_in9 101 (by decide +kernel), ⟨by decide +kernel, by decide +kernel⟩, by decide +kernel, by decide +kernel⟩
theorem mt_X1_residue : Cond.static yX1_residue ∈ lw_tbl := am_in9 479 (by decide +kernel)
theorem mo_X1_balanced : am_okm qX1_balanced 1 := ⟨am_in8_2 155 rfl, am_in9 101 (by decide +kernel), ⟨by decide +kernel, by decide +kernel⟩, by decide +kernel, by decide +kernel⟩
theorem mt_X1_balanced : Cond.static yX1_balanced ∈ lw_tbl := am_in9 489 (by decide +kernel)
theorem mo_X1_inverse : am_okm qX1_inverse 1 := ⟨am_in8_3 109 rfl, am_in9 101 (by decide +kernel), ⟨by decide +kernel, by decide +kernel⟩, by decide +kernel, by decide +kernel⟩
theorem mt_X1_inverse : Cond.static yX1_inverse ∈ lw_tbl := am_in9 683 (by decide +kernel)
theorem mo_X1_productFits : am_okm qX1_productFits 2 := ⟨am_in8_2 190 rfl, am_in9 101 (by decide +kernel), ⟨by decide +kernel, by decide +kernel⟩, by decide +kernel, by decide +kernel⟩
theorem mt_X1_productFits : Cond.static yX1_productFits ∈ lw_tbl := am_in9 524 (by decide +kernel)
theorem mo_X1_powerFits : am_okm qX1_powerFits 2 := ⟨am_in8_2 235 rfl, am_in9 101 (by decide +kernel), ⟨by decide +kernel, by decide +kernel⟩, by decide +kernel, by decide +kernel⟩
theorem mt_X1_powerFits : Cond.static yX1_powerFits ∈ lw_tbl := am_in9 569 (by decide +kernel)
theorem mo_X1_addProduct : am_okm qX1_addProduct 4 := ⟨am_in8_2 217 rfl, am_in9 101 (by decide +kernel), ⟨by decide +kernel, by decide +kernel⟩, by decide +kernel, by decide +kernel⟩
theorem mi_X1_addProduct : Cond.instanceMethod yX1_addProduct ∈ lw_tbl := am_in9 550 (by decide +kernel)
theorem ms_X1_addProduct : Cond.selects RX1 yX1_addProduct yX1_addProduct ∈ lw_tbl := am_in9 551 (by decide +kernel)
theorem mo_X1_addWordProduct : am_okm qX1_addWordProduct 5 := ⟨am_in8_2 222 rfl, am_in9 101 (by decide +kernel), ⟨by decide +kernel, by decide +kernel⟩, by decide +kernel, by decide +kernel⟩
theorem mi_X1_addWordProduct : Cond.instanceMethod yX1_addWordProduct ∈ lw_tbl := am_in9 555 (by decide +kernel)
theorem ms_X1_addWordProduct : Cond.selects RX1 yX1_addWordProduct yX1_addWordProduct ∈ lw_tbl := am_in9 556 (by decide +kernel)
theorem mo_X1_raise : am_okm qX1_raise 3 := ⟨am_in8_2 239 rfl, am_in9 101 (by decide +kernel), ⟨by decide +kernel, by decide +kernel⟩, by decide +kernel, by decide +kernel⟩
theorem mi_X1_raise : Cond.instanceMethod yX1_raise ∈ lw_tbl := am_in9 572 (by decide +kernel)
theorem ms_X1_raise : Cond.selects RX1 yX1_raise yX1_raise ∈ lw_tbl := am_in9 573 (by decide +kernel)
theorem mo_X1_adjoin : am_okm qX1_adjoin 2 := ⟨am_in8_3 15 rfl, am_in9 101 (by decide +kernel), ⟨by decide +kernel, by decide +kernel⟩, by decide +kernel, by decide +kernel⟩
theorem mi_X1_adjoin : Cond.instanceMethod yX1_adjoin ∈ lw_tbl := am_in9 588 (by decide +kernel)
theorem ms_X1_adjoin : Cond.selects RX1 yX1_adjoin yX1_adjoin ∈ lw_tbl := am_in9 589 (by decide +kernel)
theorem mo_X2_init : am_okm qX2_init 0 := ⟨am_in8_1 177 rfl, am_in9 105 (by decide +kernel), ⟨by decide +kernel, by decide +kernel⟩, by decide +kernel, by decide +kernel⟩
theorem mi_X2_init : Cond.instanceMethod yX2_init ∈ lw_tbl := am_in9 271 (by decide +kernel)
theorem mo_X2_covers : am_okm qX2_covers 2 := ⟨am_in8_4 19 rfl, am_in9 105 (by decide +kernel), ⟨by decide +kernel, by decide +kernel⟩, by decide +kernel, by decide +kernel⟩
theorem mi_X2_covers : Cond.instanceMethod yX2_covers ∈ lw_tbl := am_in9 832 (by decide +kernel)
theorem ms_X2_covers : Cond.selects RX2 yX2_covers yX2_covers ∈ lw_tbl := am_in9 833 (by decide +kernel)
theorem mo_X2_isFor : am_okm qX2_isFor 2 := ⟨am_in8_3 170 rfl, am_in9 105 (by decide +kernel), ⟨by decide +kernel, by decide +kernel⟩, by decide +kernel, by decide +kernel⟩
theorem mi_X2_isFor : Cond.instanceMethod yX2_isFor ∈ lw_tbl := am_in9 743 (by decide +kernel)
theorem ms_X2_isFor : Cond.selects RX2 yX2_isFor yX2_isFor ∈ lw_tbl := am_in9 744 (by decide +kernel)
theorem mo_X2_begin : am_okm qX2_begin 2 := ⟨am_in8_3 232 rfl, am_in9 105 (by decide +kernel), ⟨by decide +kernel, by decide +kernel⟩, by decide +kernel, by decide +kernel⟩
theorem mi_X2_begin : Cond.instanceMethod yX2_begin ∈ lw_tbl := am_in9 805 (by decide +kernel)
theorem ms_X2_begin : Cond.selects RX2 yX2_begin yX2_begin ∈ lw_tbl := am_in9 806 (by decide +kernel)
theorem mo_X2_add : am_okm qX2_add 1 := ⟨am_in8_4 3 rfl, am_in9 105 (by decide +kernel), ⟨by decide +kernel, by decide +kernel⟩, by decide +kernel, by decide +kernel⟩
theorem mi_X2_add : Cond.instanceMethod yX2_add ∈ lw_tbl := am_in9 816 (by decide +kernel)
theorem ms_X2_add : Cond.selects RX2 yX2_add yX2_add ∈ lw_tbl := am_in9 817 (by decide +kernel)
theorem mo_X2_sourceCell : am_okm qX2_sourceCell 4 := ⟨am_in8_3 173 rfl, am_in9 105 (by decide +kernel), ⟨by decide +kernel, by decide +kernel⟩, by decide +kernel, by decide +kernel⟩
theorem mt_X2_sourceCell : Cond.static yX2_sourceCell ∈ lw_tbl := am_in9 747 (by decide +kernel)
theorem mo_X3_init : am_okm qX3_init 2 := ⟨am_in8_1 169 rfl, am_in9 104 (by decide +kernel), ⟨by decide +kernel, by decide +kernel⟩, by decide +kernel, by decide +kernel⟩
theorem mi_X3_init : Cond.instanceMethod yX3_init ∈ lw_tbl := am_in9 263 (by decide +kernel)
theorem mo_X3_find : am_okm qX3_find 2 := ⟨am_in8_3 166 rfl, am_in9 104 (by decide +kernel), ⟨by decide +kernel, by decide +kernel⟩, by decide +kernel, by decide +kernel⟩
theorem mi_X3_find : Cond.instanceMethod yX3_find ∈ lw_tbl := am_in9 739 (by decide +kernel)
theorem ms_X3_find : Cond.selects RX3 yX3_find yX3_find ∈ lw_tbl := am_in9 740 (by decide +kernel)
theorem mo_X3_gather : am_okm qX3_gather 2 := ⟨am_in8_3 178 rfl, am_in9 104 (by decide +kernel), ⟨by decide +kernel, by decide +kernel⟩, by decide +kernel, by decide +kernel⟩
theorem mi_X3_gather : Cond.instanceMethod yX3_gather ∈ lw_tbl := am_in9 752 (by decide +kernel)
theorem ms_X3_gather : Cond.selects RX3 yX3_gather yX3_gather ∈ lw_tbl := am_in9 10 (by decide +kernel)
theorem mo_X3_complete : am_okm qX3_complete 0 := ⟨am_in8_3 184 rfl, am_in9 104 (by decide +kernel), ⟨by decide +kernel, by decide +kernel⟩, by decide +kernel, by decide +kernel⟩
theorem mi_X3_complete : Cond.instanceMethod yX3_complete ∈ lw_tbl := am_in9 758 (by decide +kernel)
theorem ms_X3_complete : Cond.selects RX3 yX3_complete yX3_complete ∈ lw_tbl := am_in9 11 (by decide +kernel)
theorem mo_X3_absorb : am_okm qX3_absorb 0 := ⟨am_in8_3 189 rfl, am_in9 104 (by decide +kernel), ⟨by decide +kernel, by decide +kernel⟩, by decide +kernel, by decide +kernel⟩
theorem mi_X3_absorb : Cond.instanceMethod yX3_absorb ∈ lw_tbl := am_in9 763 (by decide +kernel)
theorem ms_X3_absorb : Cond.selects RX3 yX3_absorb yX3_absorb ∈ lw_tbl := am_in9 12 (by decide +kernel)
theorem mo_X3_dismiss : am_okm qX3_dismiss 1 := ⟨am_in8_3 204 rfl, am_in9 104 (by decide +kernel), ⟨by decide +kernel, by decide +kernel⟩, by decide +kernel, by decide +kernel⟩
theorem mi_X3_dismiss : Cond.instanceMethod yX3_dismiss ∈ lw_tbl := am_in9 778 (by decide +kernel)
theorem ms_X3_dismiss : Cond.selects RX3 yX3_dismiss yX3_dismiss ∈ lw_tbl := am_in9 13 (by decide +kernel)
theorem mo_X3_admit : am_okm qX3_admit 2 := ⟨am_in8_3 212 rfl, am_in9 104 (by decide +kernel), ⟨by decide +kernel, by decide +kernel⟩, by decide +kernel, by decide +kernel⟩
theorem mi_X3_admit : Cond.instanceMethod yX3_admit ∈ lw_tbl := am_in9 786 (by decide +kernel)
theorem ms_X3_admit : Cond.selects RX3 yX3_admit yX3_admit ∈ lw_tbl := am_in9 15 (by decide +kernel)
theorem mo_X3_unsettle : am_okm qX3_unsettle 1 := ⟨am_in8_3 208 rfl, am_in9 104 (by decide +kernel), ⟨by decide +kernel, by decide +kernel⟩, by decide +kernel, by decide +kernel⟩
theorem mi_X3_unsettle : Cond.instanceMethod yX3_unsettle ∈ lw_tbl := am_in9 782 (by decide +kernel)
theorem ms_X3_unsettle : Cond.selects RX3 yX3_unsettle yX3_unsettle ∈ lw_tbl := am_in9 14 (by decide +kernel)
theorem mo_X3_cheapestPair : am_okm qX3_cheapestPair 0 := ⟨am_in8_3 216 rfl, am_in9 104 (by decide +kernel), ⟨by decide +kernel, by decide +kernel⟩, by decide +kernel, by decide +kernel⟩
theorem mi_X3_cheapestPair : Cond.instanceMethod yX3_cheapestPair ∈ lw_tbl := am_in9 790 (by decide +kernel)
theorem ms_X3_cheapestPair : Cond.selects RX3 yX3_cheapestPair yX3_cheapestPair ∈ lw_tbl := am_in9 16 (by decide +kernel)
theorem mo_X3_cross : am_okm qX3_cross 1 := ⟨am_in8_3 220 rfl, am_in9 104 (by decide +kernel), ⟨by decide +kernel, by decide +kernel⟩, by decide +kernel, by decide +kernel⟩
theorem mi_X3_cross : Cond.instanceMethod yX3_cross ∈ lw_tbl := am_in9 794 (by decide +kernel)
theorem ms_X3_cross : Cond.selects RX3 yX3_cross yX3_cross ∈ lw_tbl := am_in9 17 (by decide +kernel)
theorem mo_X3_reduceTails : am_okm qX3_reduceTails 0 := ⟨am_in8_3 228 rfl, am_in9 104 (by decide +kernel), ⟨by decide +kernel, by decide +kernel⟩, by decide +kernel, by decide +kernel⟩
theorem mi_X3_reduceTails : Cond.instanceMethod yX3_reduceTails ∈ lw_tbl := am_in9 802 (by decide +kernel)
theorem ms_X3_reduceTails : Cond.selects RX3 yX3_reduceTails yX3_reduceTails ∈ lw_tbl := am_in9 18 (by decide +kernel)
theorem mo_X3_handOver : am_okm qX3_handOver 1 := ⟨am_in8_3 236 rfl, am_in9 104 (by decide +kernel), ⟨by decide +kernel, by decide +kernel⟩, by decide +kernel, by decide +kernel⟩
theorem mi_X3_handOver : Cond.instanceMethod yX3_handOver ∈ lw_tbl := am_in9 810 (by decide +kernel)
theorem ms_X3_handOver : Cond.selects RX3 yX3_handOver yX3_handOver ∈ lw_tbl := am_in9 19 (by decide +kernel)
theorem mo_X4_init : am_okm qX4_init 1 := ⟨am_in8_1 137 rfl, am_in9 103 (by decide +kernel), ⟨by decide +kernel, by decide +kernel⟩, by decide +kernel, by decide +kernel⟩
theorem mi_X4_init : Cond.instanceMethod yX4_init ∈ lw_tbl := am_in9 231 (by decide +kernel)
theorem mo_X4_begin : am_okm qX4_begin 1 := ⟨am_in8_3 132 rfl, am_in9 103 (by decide +kernel), ⟨by decide +kernel, by decide +kernel⟩, by decide +kernel, by decide +kernel⟩
theorem mi_X4_begin : Cond.instanceMethod yX4_begin ∈ lw_tbl := am_in9 705 (by decide +kernel)
theorem ms_X4_begin : Cond.selects RX4 yX4_begin yX4_begin ∈ lw_tbl := am_in9 706 (by decide +kernel)
theorem mo_X4_take : am_okm qX4_take 1 := ⟨am_in8_3 136 rfl, am_in9 103 (by decide +kernel), ⟨by decide +kernel, by decide +kernel⟩, by decide +kernel, by decide +kernel⟩
theorem mi_X4_take : Cond.instanceMethod yX4_take ∈ lw_tbl := am_in9 709 (by decide +kernel)
theorem ms_X4_take : Cond.selects RX4 yX4_take yX4_take ∈ lw_tbl := am_in9 710 (by decide +kernel)
theorem mo_X4_reduce : am_okm qX4_reduce 1 := ⟨am_in8_3 145 rfl, am_in9 103 (by decide +kernel), ⟨by decide +kernel, by decide +kernel⟩, by decide +kernel, by decide +kernel⟩
theorem mi_X4_reduce : Cond.instanceMethod yX4_reduce ∈ lw_tbl := am_in9 718 (by decide +kernel)
theorem ms_X4_reduce : Cond.selects RX4 yX4_reduce yX4_reduce ∈ lw_tbl := am_in9 719 (by decide +kernel)
theorem mo_X4_cancel : am_okm qX4_cancel 2 := ⟨am_in8_3 151 rfl, am_in9 103 (by decide +kernel), ⟨by decide +kernel, by decide +kernel⟩, by decide +kernel, by decide +kernel⟩
theorem mi_X4_cancel : Cond.instanceMethod yX4_cancel ∈ lw_tbl := am_in9 725 (by decide +kernel)
theorem ms_X4_cancel : Cond.selects RX4 yX4_cancel yX4_cancel ∈ lw_tbl := am_in9 8 (by decide +kernel)
theorem mo_X5_init : am_okm qX5_init 0 := ⟨am_in8_1 73 rfl, am_in9 99 (by decide +kernel), ⟨by decide +kernel, by decide +kernel⟩, by decide +kernel, by decide +kernel⟩
theorem mi_X5_init : Cond.instanceMethod yX5_init ∈ lw_tbl := am_in9 167 (by decide +kernel)
theorem mo_X5_keep : am_okm qX5_keep 1 := ⟨am_in8_2 118 rfl, am_in9 99 (by decide +kernel), ⟨by decide +kernel, by decide +kernel⟩, by decide +kernel, by decide +kernel⟩
theorem mi_X5_keep : Cond.instanceMethod yX5_keep ∈ lw_tbl := am_in9 451 (by decide +kernel)
theorem ms_X5_keep : Cond.selects RX5 yX5_keep yX5_keep ∈ lw_tbl := am_in9 452 (by decide +kernel)
theorem mo_X5_restore : am_okm qX5_restore 1 := ⟨am_in8_4 151 rfl, am_in9 99 (by decide +kernel), ⟨by decide +kernel, by decide +kernel⟩, by decide +kernel, by decide +kernel⟩
theorem mi_X5_restore : Cond.instanceMethod yX5_restore ∈ lw_tbl := am_in9 964 (by decide +kernel)
theorem ms_X5_restore : Cond.selects RX5 yX5_restore yX5_restore ∈ lw_tbl := am_in9 965 (by decide +kernel)
theorem mo_X6_init : am_okm qX6_init 0 := ⟨am_in8_1 38 rfl, am_in9 98 (by decide +kernel), ⟨by decide +kernel, by decide +kernel⟩, by decide +kernel, by decide +kernel⟩
theorem mi_X6_init : Cond.instanceMethod yX6_init ∈ lw_tbl := am_in9 132 (by decide +kernel)
theorem mo_X6_isWord : am_okm qX6_isWord 2 := ⟨am_in8_2 110 rfl, am_in9 98 (by decide +kernel), ⟨by decide +kernel, by decide +kernel⟩, by decide +kernel, by decide +kernel⟩
theorem mt_X6_isWord : Cond.static yX6_isWord ∈ lw_tbl := am_in9 444 (by decide +kernel)
theorem mo_X6_firstPlace : am_okm qX6_firstPlace 1 := ⟨am_in8_2 142 rfl, am_in9 98 (by decide +kernel), ⟨by decide +kernel, by decide +kernel⟩, by decide +kernel, by decide +kernel⟩
theorem mt_X6_firstPlace : Cond.static yX6_firstPlace ∈ lw_tbl := am_in9 476 (by decide +kernel)
theorem mo_X6_placeOf : am_okm qX6_placeOf 2 := ⟨am_in8_2 139 rfl, am_in9 98 (by decide +kernel), ⟨by decide +kernel, by decide +kernel⟩, by decide +kernel, by decide +kernel⟩
theorem mt_X6_placeOf : Cond.static yX6_placeOf ∈ lw_tbl := am_in9 473 (by decide +kernel)
theorem mo_X6_degreeAt : am_okm qX6_degreeAt 1 := ⟨am_in8_2 205 rfl, am_in9 98 (by decide +kernel), ⟨by decide +kernel, by decide +kernel⟩, by decide +kernel, by decide +kernel⟩
theorem mt_X6_degreeAt : Cond.static yX6_degreeAt ∈ lw_tbl := am_in9 539 (by decide +kernel)
theorem mo_X6_rankedPlace : am_okm qX6_rankedPlace 3 := ⟨am_in8_3 35 rfl, am_in9 98 (by decide +kernel), ⟨by decide +kernel, by decide +kernel⟩, by decide +kernel, by decide +kernel⟩
theorem mt_X6_rankedPlace : Cond.static yX6_rankedPlace ∈ lw_tbl := am_in9 609 (by decide +kernel)
theorem mo_X6_height : am_okm qX6_height 2 := ⟨am_in8_3 239 rfl, am_in9 98 (by decide +kernel), ⟨by decide +kernel, by decide +kernel⟩, by decide +kernel, by decide +kernel⟩
theorem mt_X6_height : Cond.static yX6_height ∈ lw_tbl := am_in9 813 (by decide +kernel)
theorem mo_X6_coefficient : am_okm qX6_coefficient 2 := ⟨am_in8_2 135 rfl, am_in9 98 (by decide +kernel), ⟨by decide +kernel, by decide +kernel⟩, by decide +kernel, by decide +kernel⟩
theorem mi_X6_coefficient : Cond.instanceMethod yX6_coefficient ∈ lw_tbl := am_in9 468 (by decide +kernel)
theorem ms_X6_coefficient : Cond.selects RX6 yX6_coefficient yX6_coefficient ∈ lw_tbl := am_in9 469 (by decide +kernel)
theorem mo_X6_setCoefficient : am_okm qX6_setCoefficient 3 := ⟨am_in8_2 152 rfl, am_in9 98 (by decide +kernel), ⟨by decide +kernel, by decide +kernel⟩, by decide +kernel, by decide +kernel⟩
theorem mi_X6_setCoefficient : Cond.instanceMethod yX6_setCoefficient ∈ lw_tbl := am_in9 485 (by decide +kernel)
theorem ms_X6_setCoefficient : Cond.selects RX6 yX6_setCoefficient yX6_setCoefficient ∈ lw_tbl := am_in9 486 (by decide +kernel)
theorem mo_X6_makeZero : am_okm qX6_makeZero 0 := ⟨am_in8_2 167 rfl, am_in9 98 (by decide +kernel), ⟨by decide +kernel, by decide +kernel⟩, by decide +kernel, by decide +kernel⟩
theorem mi_X6_makeZero : Cond.instanceMethod yX6_makeZero ∈ lw_tbl := am_in9 500 (by decide +kernel)
theorem ms_X6_makeZero : Cond.selects RX6 yX6_makeZero yX6_makeZero ∈ lw_tbl := am_in9 501 (by decide +kernel)
theorem mo_X6_makeNumber : am_okm qX6_makeNumber 1 := ⟨am_in8_3 3 rfl, am_in9 98 (by decide +kernel), ⟨by decide +kernel, by decide +kernel⟩, by decide +kernel, by decide +kernel⟩
theorem mi_X6_makeNumber : Cond.instanceMethod yX6_makeNumber ∈ lw_tbl := am_in9 576 (by decide +kernel)
theorem ms_X6_makeNumber : Cond.selects RX6 yX6_makeNumber yX6_makeNumber ∈ lw_tbl := am_in9 577 (by decide +kernel)
theorem mo_X6_copyFrom : am_okm qX6_copyFrom 1 := ⟨am_in8_2 126 rfl, am_in9 98 (by decide +kernel), ⟨by decide +kernel, by decide +kernel⟩, by decide +kernel, by decide +kernel⟩
theorem mi_X6_copyFrom : Cond.instanceMethod yX6_copyFrom ∈ lw_tbl := am_in9 459 (by decide +kernel)
theorem ms_X6_copyFrom : Cond.selects RX6 yX6_copyFrom yX6_copyFrom ∈ lw_tbl := am_in9 460 (by decide +kernel)
theorem mo_X6_addMultiple : am_okm qX6_addMultiple 2 := ⟨am_in8_2 174 rfl, am_in9 98 (by decide +kernel), ⟨by decide +kernel, by decide +kernel⟩, by decide +kernel, by decide +kernel⟩
theorem mi_X6_addMultiple : Cond.instanceMethod yX6_addMultiple ∈ lw_tbl := am_in9 507 (by decide +kernel)
theorem ms_X6_addMultiple : Cond.selects RX6 yX6_addMultiple yX6_addMultiple ∈ lw_tbl := am_in9 508 (by decide +kernel)
theorem mo_X6_scale : am_okm qX6_scale 1 := ⟨am_in8_3 198 rfl, am_in9 98 (by decide +kernel), ⟨by decide +kernel, by decide +kernel⟩, by decide +kernel, by decide +kernel⟩
theorem mi_X6_scale : Cond.instanceMethod yX6_scale ∈ lw_tbl := am_in9 771 (by decide +kernel)
theorem ms_X6_scale : Cond.selects RX6 yX6_scale yX6_scale ∈ lw_tbl := am_in9 772 (by decide +kernel)
theorem mo_X6_countTerms : am_okm qX6_countTerms 0 := ⟨am_in8_2 183 rfl, am_in9 98 (by decide +kernel), ⟨by decide +kernel, by decide +kernel⟩, by decide +kernel, by decide +kernel⟩
theorem mi_X6_countTerms : Cond.instanceMethod yX6_countTerms ∈ lw_tbl := am_in9 516 (by decide +kernel)
theorem ms_X6_countTerms : Cond.selects RX6 yX6_countTerms yX6_countTerms ∈ lw_tbl := am_in9 517 (by decide +kernel)
theorem mo_X6_extent : am_okm qX6_extent 0 := ⟨am_in8_2 198 rfl, am_in9 98 (by decide +kernel), ⟨by decide +kernel, by decide +kernel⟩, by decide +kernel, by decide +kernel⟩
theorem mi_X6_extent : Cond.instanceMethod yX6_extent ∈ lw_tbl := am_in9 531 (by decide +kernel)
theorem ms_X6_extent : Cond.selects RX6 yX6_extent yX6_extent ∈ lw_tbl := am_in9 532 (by decide +kernel)
theorem mo_X6_isZero : am_okm qX6_isZero 0 := ⟨am_in8_2 194 rfl, am_in9 98 (by decide +kernel), ⟨by decide +kernel, by decide +kernel⟩, by decide +kernel, by decide +kernel⟩
theorem mi_X6_isZero : Cond.instanceMethod yX6_isZero ∈ lw_tbl := am_in9 527 (by decide +kernel)
theorem ms_X6_isZero : Cond.selects RX6 yX6_isZero yX6_isZero ∈ lw_tbl := am_in9 528 (by decide +kernel)
theorem mo_X6_degree : am_okm qX6_degree 0 := ⟨am_in8_2 202 rfl, am_in9 98 (by decide +kernel), ⟨by decide +kernel, by decide +kernel⟩, by decide +kernel, by decide +kernel⟩
theorem mi_X6_degree : Cond.instanceMethod yX6_degree ∈ lw_tbl := am_in9 535 (by decide +kernel)
theorem ms_X6_degree : Cond.selects RX6 yX6_degree yX6_degree ∈ lw_tbl := am_in9 536 (by decide +kernel)
theorem mo_X6_leadPlace : am_okm qX6_leadPlace 1 := ⟨am_in8_3 31 rfl, am_in9 98 (by decide +kernel), ⟨by decide +kernel, by decide +kernel⟩, by decide +kernel, by decide +kernel⟩
theorem mi_X6_leadPlace : Cond.instanceMethod yX6_leadPlace ∈ lw_tbl := am_in9 604 (by decide +kernel)
theorem ms_X6_leadPlace : Cond.selects RX6 yX6_leadPlace yX6_leadPlace ∈ lw_tbl := am_in9 605 (by decide +kernel)
theorem mo_X6_property : am_okm qX6_property 2 := ⟨am_in8_3 26 rfl, am_in9 98 (by decide +kernel), ⟨by decide +kernel, by decide +kernel⟩, by decide +kernel, by decide +kernel⟩
theorem mi_X6_property : Cond.instanceMethod yX6_property ∈ lw_tbl := am_in9 599 (by decide +kernel)
theorem ms_X6_property : Cond.selects RX6 yX6_property yX6_property ∈ lw_tbl := am_in9 600 (by decide +kernel)
theorem mo_X6_greatest : am_okm qX6_greatest 1 := ⟨am_in8_3 40 rfl, am_in9 98 (by decide +kernel), ⟨by decide +kernel, by decide +kernel⟩, by decide +kernel, by decide +kernel⟩
theorem mi_X6_greatest : Cond.instanceMethod yX6_greatest ∈ lw_tbl := am_in9 614 (by decide +kernel)
theorem ms_X6_greatest : Cond.selects RX6 yX6_greatest yX6_greatest ∈ lw_tbl := am_in9 3 (by decide +kernel)
theorem mo_X6_measure : am_okm qX6_measure 3 := ⟨am_in8_3 43 rfl, am_in9 98 (by decide +kernel), ⟨by decide +kernel, by decide +kernel⟩, by decide +kernel, by decide +kernel⟩
theorem mt_X6_measure : Cond.static yX6_measure ∈ lw_tbl := am_in9 617 (by decide +kernel)
theorem mo_X7_init : am_okm qX7_init 2 := ⟨am_in8_2 20 rfl, am_in9 107 (by decide +kernel), ⟨by decide +kernel, by decide +kernel⟩, by decide +kernel, by decide +kernel⟩
theorem mi_X7_init : Cond.instanceMethod yX7_init ∈ lw_tbl := am_in9 354 (by decide +kernel)
theorem mo_X7_evaluate : am_okm qX7_evaluate 1 := ⟨am_in8_4 79 rfl, am_in9 107 (by decide +kernel), ⟨by decide +kernel, by decide +kernel⟩, by decide +kernel, by decide +kernel⟩
theorem mi_X7_evaluate : Cond.instanceMethod yX7_evaluate ∈ lw_tbl := am_in9 892 (by decide +kernel)
theorem ms_X7_evaluate : Cond.selects RX7 yX7_evaluate yX7_evaluate ∈ lw_tbl := am_in9 893 (by decide +kernel)
theorem mo_X7_readExpression : am_okm qX7_readExpression 1 := ⟨am_in8_4 83 rfl, am_in9 107 (by decide +kernel), ⟨by decide +kernel, by decide +kernel⟩, by decide +kernel, by decide +kernel⟩
theorem mi_X7_readExpression : Cond.instanceMethod yX7_readExpression ∈ lw_tbl := am_in9 897 (by decide +kernel)
theorem ms_X7_readExpression : Cond.selects RX7 yX7_readExpression yX7_readExpression ∈ lw_tbl := am_in9 24 (by decide +kernel)
theorem mo_X7_readTerm : am_okm qX7_readTerm 1 := ⟨am_in8_4 93 rfl, am_in9 107 (by decide +kernel), ⟨by decide +kernel, by decide +kernel⟩, by decide +kernel, by decide +kernel⟩
theorem mi_X7_readTerm : Cond.instanceMethod yX7_readTerm ∈ lw_tbl := am_in9 907 (by decide +kernel)
theorem ms_X7_readTerm : Cond.selects RX7 yX7_readTerm yX7_readTerm ∈ lw_tbl := am_in9 26 (by decide +kernel)
theorem mo_X7_readFactor : am_okm qX7_readFactor 1 := ⟨am_in8_4 98 rfl, am_in9 107 (by decide +kernel), ⟨by decide +kernel, by decide +kernel⟩, by decide +kernel, by decide +kernel⟩
theorem mi_X7_readFactor : Cond.instanceMethod yX7_readFactor ∈ lw_tbl := am_in9 912 (by decide +kernel)
theorem ms_X7_readFactor : Cond.selects RX7 yX7_readFactor yX7_readFactor ∈ lw_tbl := am_in9 27 (by decide +kernel)
theorem mo_X7_readNumber : am_okm qX7_readNumber 1 := ⟨am_in8_4 104 rfl, am_in9 107 (by decide +kernel), ⟨by decide +kernel, by decide +kernel⟩, by decide +kernel, by decide +kernel⟩
theorem mi_X7_readNumber : Cond.instanceMethod yX7_readNumber ∈ lw_tbl := am_in9 918 (by decide +kernel)
theorem ms_X7_readNumber : Cond.selects RX7 yX7_readNumber yX7_readNumber ∈ lw_tbl := am_in9 28 (by decide +kernel)
theorem mo_X7_peek : am_okm qX7_peek 0 := ⟨am_in8_4 88 rfl, am_in9 107 (by decide +kernel), ⟨by decide +kernel, by decide +kernel⟩, by decide +kernel, by decide +kernel⟩
theorem mi_X7_peek : Cond.instanceMethod yX7_peek ∈ lw_tbl := am_in9 902 (by decide +kernel)
theorem ms_X7_peek : Cond.selects RX7 yX7_peek yX7_peek ∈ lw_tbl := am_in9 25 (by decide +kernel)
theorem mo_X8_init : am_okm qX8_init 0 := ⟨am_in8_1 29 rfl, am_in9 97 (by decide +kernel), ⟨by decide +kernel, by decide +kernel⟩, by decide +kernel, by decide +kernel⟩
theorem mi_X8_init : Cond.instanceMethod yX8_init ∈ lw_tbl := am_in9 123 (by decide +kernel)
theorem mo_X8_copyFrom : am_okm qX8_copyFrom 1 := ⟨am_in8_2 122 rfl, am_in9 97 (by decide +kernel), ⟨by decide +kernel, by decide +kernel⟩, by decide +kernel, by decide +kernel⟩
theorem mi_X8_copyFrom : Cond.instanceMethod yX8_copyFrom ∈ lw_tbl := am_in9 455 (by decide +kernel)
theorem ms_X8_copyFrom : Cond.selects RX8 yX8_copyFrom yX8_copyFrom ∈ lw_tbl := am_in9 456 (by decide +kernel)
theorem mo_X9_init : am_okm qX9_init 0 := ⟨am_in8_1 93 rfl, am_in9 100 (by decide +kernel), ⟨by decide +kernel, by decide +kernel⟩, by decide +kernel, by decide +kernel⟩
theorem mi_X9_init : Cond.instanceMethod yX9_init ∈ lw_tbl := am_in9 187 (by decide +kernel)
theorem mo_X9_append : am_okm qX9_append 1 := ⟨am_in8_4 31 rfl, am_in9 100 (by decide +kernel), ⟨by decide +kernel, by decide +kernel⟩, by decide +kernel, by decide +kernel⟩
theorem mi_X9_append : Cond.instanceMethod yX9_append ∈ lw_tbl := am_in9 844 (by decide +kernel)
theorem ms_X9_append : Cond.selects RX9 yX9_append yX9_append ∈ lw_tbl := am_in9 845 (by decide +kernel)
theorem mo_X9_byteAt : am_okm qX9_byteAt 1 := ⟨am_in8_4 47 rfl, am_in9 100 (by decide +kernel), ⟨by decide +kernel, by decide +kernel⟩, by decide +kernel, by decide +kernel⟩
theorem mi_X9_byteAt : Cond.instanceMethod yX9_byteAt ∈ lw_tbl := am_in9 860 (by decide +kernel)
theorem ms_X9_byteAt : Cond.selects RX9 yX9_byteAt yX9_byteAt ∈ lw_tbl := am_in9 861 (by decide +kernel)
theorem mo_X9_isDigit : am_okm qX9_isDigit 1 := ⟨am_in8_4 63 rfl, am_in9 100 (by decide +kernel), ⟨by decide +kernel, by decide +kernel⟩, by decide +kernel, by decide +kernel⟩
theorem mi_X9_isDigit : Cond.instanceMethod yX9_isDigit ∈ lw_tbl := am_in9 876 (by decide +kernel)
theorem ms_X9_isDigit : Cond.selects RX9 yX9_isDigit yX9_isDigit ∈ lw_tbl := am_in9 877 (by decide +kernel)
theorem mo_X9_fault : am_okm qX9_fault 0 := ⟨am_in8_4 43 rfl, am_in9 100 (by decide +kernel), ⟨by decide +kernel, by decide +kernel⟩, by decide +kernel, by decide +kernel⟩
theorem mi_X9_fault : Cond.instanceMethod yX9_fault ∈ lw_tbl := am_in9 856 (by decide +kernel)
theorem ms_X9_fault : Cond.selects RX9 yX9_fault yX9_fault ∈ lw_tbl := am_in9 857 (by decide +kernel)
theorem mo_X9_pass : am_okm qX9_pass 1 := ⟨am_in8_4 51 rfl, am_in9 100 (by decide +kernel), ⟨by decide +kernel, by decide +kernel⟩, by decide +kernel, by decide +kernel⟩
theorem mi_X9_pass : Cond.instanceMethod yX9_pass ∈ lw_tbl := am_in9 865 (by decide +kernel)
theorem ms_X9_pass : Cond.selects RX9 yX9_pass yX9_pass ∈ lw_tbl := am_in9 20 (by decide +kernel)
theorem mo_X9_passOperand : am_okm qX9_passOperand 1 := ⟨am_in8_4 55 rfl, am_in9 100 (by decide +kernel), ⟨by decide +kernel, by decide +kernel⟩, by decide +kernel, by decide +kernel⟩
theorem mi_X9_passOperand : Cond.instanceMethod yX9_passOperand ∈ lw_tbl := am_in9 869 (by decide +kernel)
theorem ms_X9_passOperand : Cond.selects RX9 yX9_passOperand yX9_passOperand ∈ lw_tbl := am_in9 21 (by decide +kernel)
theorem mo_X9_passExponent : am_okm qX9_passExponent 1 := ⟨am_in8_4 67 rfl, am_in9 100 (by decide +kernel), ⟨by decide +kernel, by decide +kernel⟩, by decide +kernel, by decide +kernel⟩
theorem mi_X9_passExponent : Cond.instanceMethod yX9_passExponent ∈ lw_tbl := am_in9 881 (by decide +kernel)
theorem ms_X9_passExponent : Cond.selects RX9 yX9_passExponent yX9_passExponent ∈ lw_tbl := am_in9 22 (by decide +kernel)
theorem mo_X9_passLink : am_okm qX9_passLink 1 := ⟨am_in8_4 75 rfl, am_in9 100 (by decide +kernel), ⟨by decide +kernel, by decide +kernel⟩, by decide +kernel, by decide +kernel⟩
theorem mi_X9_passLink : Cond.instanceMethod yX9_passLink ∈ lw_tbl := am_in9 889 (by decide +kernel)
theorem ms_X9_passLink : Cond.selects RX9 yX9_passLink yX9_passLink ∈ lw_tbl := am_in9 23 (by decide +kernel)
theorem mo_X9_countDigits : am_okm qX9_countDigits 2 := ⟨am_in8_4 59 rfl, am_in9 100 (by decide +kernel), ⟨by decide +kernel, by decide +kernel⟩, by decide +kernel, by decide +kernel⟩
theorem mi_X9_countDigits : Cond.instanceMethod yX9_countDigits ∈ lw_tbl := am_in9 872 (by decide +kernel)
theorem ms_X9_countDigits : Cond.selects RX9 yX9_countDigits yX9_countDigits ∈ lw_tbl := am_in9 873 (by decide +kernel)
theorem mo_X9_valueOf : am_okm qX9_valueOf 2 := ⟨am_in8_4 71 rfl, am_in9 100 (by decide +kernel), ⟨by decide +kernel, by decide +kernel⟩, by decide +kernel, by decide +kernel⟩
theorem mi_X9_valueOf : Cond.instanceMethod yX9_valueOf ∈ lw_tbl := am_in9 884 (by decide +kernel)
theorem ms_X9_valueOf : Cond.selects RX9 yX9_valueOf yX9_valueOf ∈ lw_tbl := am_in9 885 (by decide +kernel)
theorem mo_X10_init : am_okm qX10_init 0 := ⟨am_in8_2 50 rfl, am_in9 108 (by decide +kernel), ⟨by decide +kernel, by decide +kernel⟩, by decide +kernel, by decide +kernel⟩
theorem mi_X10_init : Cond.instanceMethod yX10_init ∈ lw_tbl := am_in9 384 (by decide +kernel)
theorem mo_X10_byteAt : am_okm qX10_byteAt 3 := ⟨am_in8_4 119 rfl, am_in9 108 (by decide +kernel), ⟨by decide +kernel, by decide +kernel⟩, by decide +kernel, by decide +kernel⟩
theorem mi_X10_byteAt : Cond.instanceMethod yX10_byteAt ∈ lw_tbl := am_in9 932 (by decide +kernel)
theorem ms_X10_byteAt : Cond.selects RX10 yX10_byteAt yX10_byteAt ∈ lw_tbl := am_in9 933 (by decide +kernel)
theorem mo_X10_writeTerm : am_okm qX10_writeTerm 3 := ⟨am_in8_4 126 rfl, am_in9 108 (by decide +kernel), ⟨by decide +kernel, by decide +kernel⟩, by decide +kernel, by decide +kernel⟩
theorem mi_X10_writeTerm : Cond.instanceMethod yX10_writeTerm ∈ lw_tbl := am_in9 940 (by decide +kernel)
theorem ms_X10_writeTerm : Cond.selects RX10 yX10_writeTerm yX10_writeTerm ∈ lw_tbl := am_in9 29 (by decide +kernel)
theorem mo_X10_writeLetter : am_okm qX10_writeLetter 3 := ⟨am_in8_4 143 rfl, am_in9 108 (by decide +kernel), ⟨by decide +kernel, by decide +kernel⟩, by decide +kernel, by decide +kernel⟩
theorem mi_X10_writeLetter : Cond.instanceMethod yX10_writeLetter ∈ lw_tbl := am_in9 957 (by decide +kernel)
theorem ms_X10_writeLetter : Cond.selects RX10 yX10_writeLetter yX10_writeLetter ∈ lw_tbl := am_in9 32 (by decide +kernel)
theorem mo_X10_writeNumber : am_okm qX10_writeNumber 1 := ⟨am_in8_4 137 rfl, am_in9 108 (by decide +kernel), ⟨by decide +kernel, by decide +kernel⟩, by decide +kernel, by decide +kernel⟩
theorem mi_X10_writeNumber : Cond.instanceMethod yX10_writeNumber ∈ lw_tbl := am_in9 951 (by decide +kernel)
theorem ms_X10_writeNumber : Cond.selects RX10 yX10_writeNumber yX10_writeNumber ∈ lw_tbl := am_in9 31 (by decide +kernel)
theorem mo_X10_write : am_okm qX10_write 1 := ⟨am_in8_4 130 rfl, am_in9 108 (by decide +kernel), ⟨by decide +kernel, by decide +kernel⟩, by decide +kernel, by decide +kernel⟩
theorem mi_X10_write : Cond.instanceMethod yX10_write ∈ lw_tbl := am_in9 944 (by decide +kernel)
theorem ms_X10_write : Cond.selects RX10 yX10_write yX10_write ∈ lw_tbl := am_in9 30 (by decide +kernel)
theorem mo_X11_init : am_okm qX11_init 0 := ⟨am_in8_1 21 rfl, am_in9 96 (by decide +kernel), ⟨by decide +kernel, by decide +kernel⟩, by decide +kernel, by decide +kernel⟩
theorem mi_X11_init : Cond.instanceMethod yX11_init ∈ lw_tbl := am_in9 115 (by decide +kernel)
theorem mo_X11_sets : am_okm qX11_sets 4 := ⟨am_in8_2 104 rfl, am_in9 96 (by decide +kernel), ⟨by decide +kernel, by decide +kernel⟩, by decide +kernel, by decide +kernel⟩
theorem mi_X11_sets : Cond.instanceMethod yX11_sets ∈ lw_tbl := am_in9 437 (by decide +kernel)
theorem ms_X11_sets : Cond.selects RX11 yX11_sets yX11_sets ∈ lw_tbl := am_in9 438 (by decide +kernel)
theorem mo_X11_at : am_okm qX11_at 3 := ⟨am_in8_2 159 rfl, am_in9 96 (by decide +kernel), ⟨by decide +kernel, by decide +kernel⟩, by decide +kernel, by decide +kernel⟩
theorem mi_X11_at : Cond.instanceMethod yX11_at ∈ lw_tbl := am_in9 492 (by decide +kernel)
theorem ms_X11_at : Cond.selects RX11 yX11_at yX11_at ∈ lw_tbl := am_in9 493 (by decide +kernel)
theorem mo_X11_sums : am_okm qX11_sums 5 := ⟨am_in8_2 163 rfl, am_in9 96 (by decide +kernel), ⟨by decide +kernel, by decide +kernel⟩, by decide +kernel, by decide +kernel⟩
theorem mi_X11_sums : Cond.instanceMethod yX11_sums ∈ lw_tbl := am_in9 496 (by decide +kernel)
theorem ms_X11_sums : Cond.selects RX11 yX11_sums yX11_sums ∈ lw_tbl := am_in9 497 (by decide +kernel)
theorem mo_X11_times : am_okm qX11_times 3 := ⟨am_in8_2 187 rfl, am_in9 96 (by decide +kernel), ⟨by decide +kernel, by decide +kernel⟩, by decide +kernel, by decide +kernel⟩
theorem mi_X11_times : Cond.instanceMethod yX11_times ∈ lw_tbl := am_in9 520 (by decide +kernel)
theorem ms_X11_times : Cond.selects RX11 yX11_times yX11_times ∈ lw_tbl := am_in9 521 (by decide +kernel)
theorem mo_X11_bracket : am_okm qX11_bracket 3 := ⟨am_in8_2 228 rfl, am_in9 96 (by decide +kernel), ⟨by decide +kernel, by decide +kernel⟩, by decide +kernel, by decide +kernel⟩
theorem mi_X11_bracket : Cond.instanceMethod yX11_bracket ∈ lw_tbl := am_in9 561 (by decide +kernel)
theorem ms_X11_bracket : Cond.selects RX11 yX11_bracket yX11_bracket ∈ lw_tbl := am_in9 562 (by decide +kernel)
theorem mo_X11_power : am_okm qX11_power 3 := ⟨am_in8_2 232 rfl, am_in9 96 (by decide +kernel), ⟨by decide +kernel, by decide +kernel⟩, by decide +kernel, by decide +kernel⟩
theorem mi_X11_power : Cond.instanceMethod yX11_power ∈ lw_tbl := am_in9 565 (by decide +kernel)
theorem ms_X11_power : Cond.selects RX11 yX11_power yX11_power ∈ lw_tbl := am_in9 566 (by decide +kernel)
theorem mo_X11_reversed : am_okm qX11_reversed 2 := ⟨am_in8_3 11 rfl, am_in9 96 (by decide +kernel), ⟨by decide +kernel, by decide +kernel⟩, by decide +kernel, by decide +kernel⟩
theorem mi_X11_reversed : Cond.instanceMethod yX11_reversed ∈ lw_tbl := am_in9 584 (by decide +kernel)
theorem ms_X11_reversed : Cond.selects RX11 yX11_reversed yX11_reversed ∈ lw_tbl := am_in9 585 (by decide +kernel)
theorem mo_X11_of : am_okm qX11_of 2 := ⟨am_in8_3 22 rfl, am_in9 96 (by decide +kernel), ⟨by decide +kernel, by decide +kernel⟩, by decide +kernel, by decide +kernel⟩
theorem mi_X11_of : Cond.instanceMethod yX11_of ∈ lw_tbl := am_in9 595 (by decide +kernel)
theorem ms_X11_of : Cond.selects RX11 yX11_of yX11_of ∈ lw_tbl := am_in9 596 (by decide +kernel)
theorem mo_X11_order : am_okm qX11_order 1 := ⟨am_in8_3 50 rfl, am_in9 96 (by decide +kernel), ⟨by decide +kernel, by decide +kernel⟩, by decide +kernel, by decide +kernel⟩
theorem mi_X11_order : Cond.instanceMethod yX11_order ∈ lw_tbl := am_in9 623 (by decide +kernel)
theorem ms_X11_order : Cond.selects RX11 yX11_order yX11_order ∈ lw_tbl := am_in9 624 (by decide +kernel)
theorem mo_X11_puts : am_okm qX11_puts 3 := ⟨am_in8_3 54 rfl, am_in9 96 (by decide +kernel), ⟨by decide +kernel, by decide +kernel⟩, by decide +kernel, by decide +kernel⟩
theorem mi_X11_puts : Cond.instanceMethod yX11_puts ∈ lw_tbl := am_in9 627 (by decide +kernel)
theorem ms_X11_puts : Cond.selects RX11 yX11_puts yX11_puts ∈ lw_tbl := am_in9 628 (by decide +kernel)
theorem mo_X11_rate : am_okm qX11_rate 2 := ⟨am_in8_3 64 rfl, am_in9 96 (by decide +kernel), ⟨by decide +kernel, by decide +kernel⟩, by decide +kernel, by decide +kernel⟩
theorem mi_X11_rate : Cond.instanceMethod yX11_rate ∈ lw_tbl := am_in9 637 (by decide +kernel)
theorem ms_X11_rate : Cond.selects RX11 yX11_rate yX11_rate ∈ lw_tbl := am_in9 638 (by decide +kernel)
theorem mo_X11_makes : am_okm qX11_makes 3 := ⟨am_in8_3 68 rfl, am_in9 96 (by decide +kernel), ⟨by decide +kernel, by decide +kernel⟩, by decide +kernel, by decide +kernel⟩
theorem mi_X11_makes : Cond.instanceMethod yX11_makes ∈ lw_tbl := am_in9 641 (by decide +kernel)
theorem ms_X11_makes : Cond.selects RX11 yX11_makes yX11_makes ∈ lw_tbl := am_in9 642 (by decide +kernel)
theorem mo_X11_kernel : am_okm qX11_kernel 2 := ⟨am_in8_3 93 rfl, am_in9 96 (by decide +kernel), ⟨by decide +kernel, by decide +kernel⟩, by decide +kernel, by decide +kernel⟩
theorem mi_X11_kernel : Cond.instanceMethod yX11_kernel ∈ lw_tbl := am_in9 666 (by decide +kernel)
theorem ms_X11_kernel : Cond.selects RX11 yX11_kernel yX11_kernel ∈ lw_tbl := am_in9 667 (by decide +kernel)
theorem mo_X11_kills : am_okm qX11_kills 2 := ⟨am_in8_3 113 rfl, am_in9 96 (by decide +kernel), ⟨by decide +kernel, by decide +kernel⟩, by decide +kernel, by decide +kernel⟩
theorem mi_X11_kills : Cond.instanceMethod yX11_kills ∈ lw_tbl := am_in9 686 (by decide +kernel)
theorem ms_X11_kills : Cond.selects RX11 yX11_kills yX11_kills ∈ lw_tbl := am_in9 687 (by decide +kernel)
theorem mo_X11_rest : am_okm qX11_rest 3 := ⟨am_in8_3 121 rfl, am_in9 96 (by decide +kernel), ⟨by decide +kernel, by decide +kernel⟩, by decide +kernel, by decide +kernel⟩
theorem mi_X11_rest : Cond.instanceMethod yX11_rest ∈ lw_tbl := am_in9 694 (by decide +kernel)
theorem ms_X11_rest : Cond.selects RX11 yX11_rest yX11_rest ∈ lw_tbl := am_in9 695 (by decide +kernel)
theorem mo_X11_basis : am_okm qX11_basis 1 := ⟨am_in8_3 157 rfl, am_in9 96 (by decide +kernel), ⟨by decide +kernel, by decide +kernel⟩, by decide +kernel, by decide +kernel⟩
theorem mi_X11_basis : Cond.instanceMethod yX11_basis ∈ lw_tbl := am_in9 730 (by decide +kernel)
theorem ms_X11_basis : Cond.selects RX11 yX11_basis yX11_basis ∈ lw_tbl := am_in9 731 (by decide +kernel)
theorem mo_X11_based : am_okm qX11_based 4 := ⟨am_in8_4 11 rfl, am_in9 96 (by decide +kernel), ⟨by decide +kernel, by decide +kernel⟩, by decide +kernel, by decide +kernel⟩
theorem mi_X11_based : Cond.instanceMethod yX11_based ∈ lw_tbl := am_in9 824 (by decide +kernel)
theorem ms_X11_based : Cond.selects RX11 yX11_based yX11_based ∈ lw_tbl := am_in9 825 (by decide +kernel)
theorem mo_X11_stairs : am_okm qX11_stairs 2 := ⟨am_in8_4 15 rfl, am_in9 96 (by decide +kernel), ⟨by decide +kernel, by decide +kernel⟩, by decide +kernel, by decide +kernel⟩
theorem mi_X11_stairs : Cond.instanceMethod yX11_stairs ∈ lw_tbl := am_in9 828 (by decide +kernel)
theorem ms_X11_stairs : Cond.selects RX11 yX11_stairs yX11_stairs ∈ lw_tbl := am_in9 829 (by decide +kernel)
theorem mo_X11_within : am_okm qX11_within 2 := ⟨am_in8_4 23 rfl, am_in9 96 (by decide +kernel), ⟨by decide +kernel, by decide +kernel⟩, by decide +kernel, by decide +kernel⟩
theorem mi_X11_within : Cond.instanceMethod yX11_within ∈ lw_tbl := am_in9 836 (by decide +kernel)
theorem ms_X11_within : Cond.selects RX11 yX11_within yX11_within ∈ lw_tbl := am_in9 837 (by decide +kernel)
theorem mo_X11_type : am_okm qX11_type 1 := ⟨am_in8_4 27 rfl, am_in9 96 (by decide +kernel), ⟨by decide +kernel, by decide +kernel⟩, by decide +kernel, by decide +kernel⟩
theorem mi_X11_type : Cond.instanceMethod yX11_type ∈ lw_tbl := am_in9 840 (by decide +kernel)
theorem ms_X11_type : Cond.selects RX11 yX11_type yX11_type ∈ lw_tbl := am_in9 841 (by decide +kernel)
theorem mo_X11_clear : am_okm qX11_clear 0 := ⟨am_in8_4 35 rfl, am_in9 96 (by decide +kernel), ⟨by decide +kernel, by decide +kernel⟩, by decide +kernel, by decide +kernel⟩
theorem mi_X11_clear : Cond.instanceMethod yX11_clear ∈ lw_tbl := am_in9 848 (by decide +kernel)
theorem ms_X11_clear : Cond.selects RX11 yX11_clear yX11_clear ∈ lw_tbl := am_in9 849 (by decide +kernel)
theorem mo_X11_reads : am_okm qX11_reads 1 := ⟨am_in8_4 39 rfl, am_in9 96 (by decide +kernel), ⟨by decide +kernel, by decide +kernel⟩, by decide +kernel, by decide +kernel⟩
theorem mi_X11_reads : Cond.instanceMethod yX11_reads ∈ lw_tbl := am_in9 852 (by decide +kernel)
theorem ms_X11_reads : Cond.selects RX11 yX11_reads yX11_reads ∈ lw_tbl := am_in9 853 (by decide +kernel)
theorem mo_X11_shown : am_okm qX11_shown 2 := ⟨am_in8_4 115 rfl, am_in9 96 (by decide +kernel), ⟨by decide +kernel, by decide +kernel⟩, by decide +kernel, by decide +kernel⟩
theorem mi_X11_shown : Cond.instanceMethod yX11_shown ∈ lw_tbl := am_in9 928 (by decide +kernel)
theorem ms_X11_shown : Cond.selects RX11 yX11_shown yX11_shown ∈ lw_tbl := am_in9 929 (by decide +kernel)
theorem mo_X11_back : am_okm qX11_back 0 := ⟨am_in8_4 147 rfl, am_in9 96 (by decide +kernel), ⟨by decide +kernel, by decide +kernel⟩, by decide +kernel, by decide +kernel⟩
theorem mi_X11_back : Cond.instanceMethod yX11_back ∈ lw_tbl := am_in9 960 (by decide +kernel)
theorem ms_X11_back : Cond.selects RX11 yX11_back yX11_back ∈ lw_tbl := am_in9 961 (by decide +kernel)
theorem mo_X11_told : am_okm qX11_told 1 := ⟨am_in8_4 155 rfl, am_in9 96 (by decide +kernel), ⟨by decide +kernel, by decide +kernel⟩, by decide +kernel, by decide +kernel⟩
theorem mi_X11_told : Cond.instanceMethod yX11_told ∈ lw_tbl := am_in9 968 (by decide +kernel)
theorem ms_X11_told : Cond.selects RX11 yX11_told yX11_told ∈ lw_tbl := am_in9 969 (by decide +kernel)
theorem mo_X11_digest : am_okm qX11_digest 0 := ⟨am_in8_4 159 rfl, am_in9 96 (by decide +kernel), ⟨by decide +kernel, by decide +kernel⟩, by decide +kernel, by decide +kernel⟩
theorem mi_X11_digest : Cond.instanceMethod yX11_digest ∈ lw_tbl := am_in9 972 (by decide +kernel)
theorem ms_X11_digest : Cond.selects RX11 yX11_digest yX11_digest ∈ lw_tbl := am_in9 973 (by decide +kernel)
theorem mo_X11_mixed : am_okm qX11_mixed 2 := ⟨am_in8_4 165 rfl, am_in9 96 (by decide +kernel), ⟨by decide +kernel, by decide +kernel⟩, by decide +kernel, by decide +kernel⟩
theorem mt_X11_mixed : Cond.static yX11_mixed ∈ lw_tbl := am_in9 979 (by decide +kernel)
theorem mo_X11_replaceOperator : am_okm qX11_replaceOperator 1 := ⟨am_in8_2 178 rfl, am_in9 96 (by decide +kernel), ⟨by decide +kernel, by decide +kernel⟩, by decide +kernel, by decide +kernel⟩
theorem mi_X11_replaceOperator : Cond.instanceMethod yX11_replaceOperator ∈ lw_tbl := am_in9 512 (by decide +kernel)
theorem ms_X11_replaceOperator : Cond.selects RX11 yX11_replaceOperator yX11_replaceOperator ∈ lw_tbl := am_in9 1 (by decide +kernel)
theorem mo_X11_bad : am_okm qX11_bad 0 := ⟨am_in8_2 114 rfl, am_in9 96 (by decide +kernel), ⟨by decide +kernel, by decide +kernel⟩, by decide +kernel, by decide +kernel⟩
theorem mi_X11_bad : Cond.instanceMethod yX11_bad ∈ lw_tbl := am_in9 448 (by decide +kernel)
theorem ms_X11_bad : Cond.selects RX11 yX11_bad yX11_bad ∈ lw_tbl := am_in9 0 (by decide +kernel)
theorem mo_X11_no : am_okm qX11_no 0 := ⟨am_in8_3 117 rfl, am_in9 96 (by decide +kernel), ⟨by decide +kernel, by decide +kernel⟩, by decide +kernel, by decide +kernel⟩
theorem mi_X11_no : Cond.instanceMethod yX11_no ∈ lw_tbl := am_in9 691 (by decide +kernel)
theorem ms_X11_no : Cond.selects RX11 yX11_no yX11_no ∈ lw_tbl := am_in9 7 (by decide +kernel)
theorem mo_X11_full : am_okm qX11_full 0 := ⟨am_in8_2 213 rfl, am_in9 96 (by decide +kernel), ⟨by decide +kernel, by decide +kernel⟩, by decide +kernel, by decide +kernel⟩
theorem mi_X11_full : Cond.instanceMethod yX11_full ∈ lw_tbl := am_in9 547 (by decide +kernel)
theorem ms_X11_full : Cond.selects RX11 yX11_full yX11_full ∈ lw_tbl := am_in9 2 (by decide +kernel)
theorem mo_X11_hasBasis : am_okm qX11_hasBasis 1 := ⟨am_in8_3 161 rfl, am_in9 96 (by decide +kernel), ⟨by decide +kernel, by decide +kernel⟩, by decide +kernel, by decide +kernel⟩
theorem mi_X11_hasBasis : Cond.instanceMethod yX11_hasBasis ∈ lw_tbl := am_in9 735 (by decide +kernel)
theorem ms_X11_hasBasis : Cond.selects RX11 yX11_hasBasis yX11_hasBasis ∈ lw_tbl := am_in9 9 (by decide +kernel)
theorem mo_X11_isOperator : am_okm qX11_isOperator 1 := ⟨am_in8_2 107 rfl, am_in9 96 (by decide +kernel), ⟨by decide +kernel, by decide +kernel⟩, by decide +kernel, by decide +kernel⟩
theorem mt_X11_isOperator : Cond.static yX11_isOperator ∈ lw_tbl := am_in9 441 (by decide +kernel)
theorem mo_X11_isPolynomial : am_okm qX11_isPolynomial 1 := ⟨am_in8_3 57 rfl, am_in9 96 (by decide +kernel), ⟨by decide +kernel, by decide +kernel⟩, by decide +kernel, by decide +kernel⟩
theorem mt_X11_isPolynomial : Cond.static yX11_isPolynomial ∈ lw_tbl := am_in9 631 (by decide +kernel)
theorem mo_X11_isPower : am_okm qX11_isPower 1 := ⟨am_in8_3 60 rfl, am_in9 96 (by decide +kernel), ⟨by decide +kernel, by decide +kernel⟩, by decide +kernel, by decide +kernel⟩
theorem mt_X11_isPower : Cond.static yX11_isPower ∈ lw_tbl := am_in9 634 (by decide +kernel)
theorem mo_X11_isSet : am_okm qX11_isSet 1 := ⟨am_in8_3 124 rfl, am_in9 96 (by decide +kernel), ⟨by decide +kernel, by decide +kernel⟩, by decide +kernel, by decide +kernel⟩
theorem mt_X11_isSet : Cond.static yX11_isSet ∈ lw_tbl := am_in9 698 (by decide +kernel)
theorem mo_X11_isInSet : am_okm qX11_isInSet 2 := ⟨am_in8_3 127 rfl, am_in9 96 (by decide +kernel), ⟨by decide +kernel, by decide +kernel⟩, by decide +kernel, by decide +kernel⟩
theorem mt_X11_isInSet : Cond.static yX11_isInSet ∈ lw_tbl := am_in9 701 (by decide +kernel)
theorem mo_X12_init : am_okm qX12_init 0 := ⟨am_in8_4 170 rfl, am_in9 109 (by decide +kernel), ⟨by decide +kernel, by decide +kernel⟩, by decide +kernel, by decide +kernel⟩
theorem mi_X12_init : Cond.instanceMethod yX12_init ∈ lw_tbl := am_in9 984 (by decide +kernel)
theorem mo_X12_in : am_okm qX12_in 3 := ⟨am_in8_5 46 rfl, am_in9 109 (by decide +kernel), ⟨by decide +kernel, by decide +kernel⟩, by decide +kernel, by decide +kernel⟩
theorem mt_X12_in : Cond.static yX12_in ∈ lw_tbl := am_in9 1100 (by decide +kernel)
theorem mo_X12_wordAt : am_okm qX12_wordAt 2 := ⟨am_in8_4 174 rfl, am_in9 109 (by decide +kernel), ⟨by decide +kernel, by decide +kernel⟩, by decide +kernel, by decide +kernel⟩
theorem mt_X12_wordAt : Cond.static yX12_wordAt ∈ lw_tbl := am_in9 988 (by decide +kernel)
theorem mo_X12_restOf : am_okm qX12_restOf 1 := ⟨am_in8_5 60 rfl, am_in9 109 (by decide +kernel), ⟨by decide +kernel, by decide +kernel⟩, by decide +kernel, by decide +kernel⟩
theorem mt_X12_restOf : Cond.static yX12_restOf ∈ lw_tbl := am_in9 1114 (by decide +kernel)
theorem mo_X12_tell : am_okm qX12_tell 1 := ⟨am_in8_5 63 rfl, am_in9 109 (by decide +kernel), ⟨by decide +kernel, by decide +kernel⟩, by decide +kernel, by decide +kernel⟩
theorem mt_X12_tell : Cond.static yX12_tell ∈ lw_tbl := am_in9 1117 (by decide +kernel)
theorem mo_X12_bad : am_okm qX12_bad 0 := ⟨am_in8_5 53 rfl, am_in9 109 (by decide +kernel), ⟨by decide +kernel, by decide +kernel⟩, by decide +kernel, by decide +kernel⟩
theorem mi_X12_bad : Cond.instanceMethod yX12_bad ∈ lw_tbl := am_in9 1107 (by decide +kernel)
theorem ms_X12_bad : Cond.selects RX12 yX12_bad yX12_bad ∈ lw_tbl := am_in9 34 (by decide +kernel)
theorem mo_X12_no : am_okm qX12_no 0 := ⟨am_in8_5 36 rfl, am_in9 109 (by decide +kernel), ⟨by decide +kernel, by decide +kernel⟩, by decide +kernel, by decide +kernel⟩
theorem mi_X12_no : Cond.instanceMethod yX12_no ∈ lw_tbl := am_in9 1090 (by decide +kernel)
theorem ms_X12_no : Cond.selects RX12 yX12_no yX12_no ∈ lw_tbl := am_in9 33 (by decide +kernel)
theorem mo_X12_full : am_okm qX12_full 0 := ⟨am_in8_5 107 rfl, am_in9 109 (by decide +kernel), ⟨by decide +kernel, by decide +kernel⟩, by decide +kernel, by decide +kernel⟩
theorem mi_X12_full : Cond.instanceMethod yX12_full ∈ lw_tbl := am_in9 1161 (by decide +kernel)
theorem ms_X12_full : Cond.selects RX12 yX12_full yX12_full ∈ lw_tbl := am_in9 43 (by decide +kernel)
theorem mo_X12_remembers : am_okm qX12_remembers 0 := ⟨am_in8_5 57 rfl, am_in9 109 (by decide +kernel), ⟨by decide +kernel, by decide +kernel⟩, by decide +kernel, by decide +kernel⟩
theorem mi_X12_remembers : Cond.instanceMethod yX12_remembers ∈ lw_tbl := am_in9 1111 (by decide +kernel)
theorem ms_X12_remembers : Cond.selects RX12 yX12_remembers yX12_remembers ∈ lw_tbl := am_in9 35 (by decide +kernel)
theorem mo_X12_back : am_okm qX12_back 0 := ⟨am_in8_5 32 rfl, am_in9 109 (by decide +kernel), ⟨by decide +kernel, by decide +kernel⟩, by decide +kernel, by decide +kernel⟩
theorem mi_X12_back : Cond.instanceMethod yX12_back ∈ lw_tbl := am_in9 1085 (by decide +kernel)
theorem ms_X12_back : Cond.selects RX12 yX12_back yX12_back ∈ lw_tbl := am_in9 1086 (by decide +kernel)
theorem mo_X12_isOperator : am_okm qX12_isOperator 1 := ⟨am_in8_5 43 rfl, am_in9 109 (by decide +kernel), ⟨by decide +kernel, by decide +kernel⟩, by decide +kernel, by decide +kernel⟩
theorem mt_X12_isOperator : Cond.static yX12_isOperator ∈ lw_tbl := am_in9 1097 (by decide +kernel)
theorem mo_X12_isWord : am_okm qX12_isWord 2 := ⟨am_in8_5 49 rfl, am_in9 109 (by decide +kernel), ⟨by decide +kernel, by decide +kernel⟩, by decide +kernel, by decide +kernel⟩
theorem mt_X12_isWord : Cond.static yX12_isWord ∈ lw_tbl := am_in9 1103 (by decide +kernel)
theorem mo_X12_wipe : am_okm qX12_wipe 1 := ⟨am_in8_5 79 rfl, am_in9 109 (by decide +kernel), ⟨by decide +kernel, by decide +kernel⟩, by decide +kernel, by decide +kernel⟩
theorem mi_X12_wipe : Cond.instanceMethod yX12_wipe ∈ lw_tbl := am_in9 1133 (by decide +kernel)
theorem ms_X12_wipe : Cond.selects RX12 yX12_wipe yX12_wipe ∈ lw_tbl := am_in9 37 (by decide +kernel)
theorem mo_X12_copies : am_okm qX12_copies 2 := ⟨am_in8_5 139 rfl, am_in9 109 (by decide +kernel), ⟨by decide +kernel, by decide +kernel⟩, by decide +kernel, by decide +kernel⟩
theorem mi_X12_copies : Cond.instanceMethod yX12_copies ∈ lw_tbl := am_in9 1193 (by decide +kernel)
theorem ms_X12_copies : Cond.selects RX12 yX12_copies yX12_copies ∈ lw_tbl := am_in9 49 (by decide +kernel)
theorem mo_X12_fetches : am_okm qX12_fetches 2 := ⟨am_in8_5 75 rfl, am_in9 109 (by decide +kernel), ⟨by decide +kernel, by decide +kernel⟩, by decide +kernel, by decide +kernel⟩
theorem mi_X12_fetches : Cond.instanceMethod yX12_fetches ∈ lw_tbl := am_in9 1129 (by decide +kernel)
theorem ms_X12_fetches : Cond.selects RX12 yX12_fetches yX12_fetches ∈ lw_tbl := am_in9 36 (by decide +kernel)
theorem mo_X12_termsIn : am_okm qX12_termsIn 1 := ⟨am_in8_5 91 rfl, am_in9 109 (by decide +kernel), ⟨by decide +kernel, by decide +kernel⟩, by decide +kernel, by decide +kernel⟩
theorem mi_X12_termsIn : Cond.instanceMethod yX12_termsIn ∈ lw_tbl := am_in9 1145 (by decide +kernel)
theorem ms_X12_termsIn : Cond.selects RX12 yX12_termsIn yX12_termsIn ∈ lw_tbl := am_in9 40 (by decide +kernel)
theorem mo_X12_keeps : am_okm qX12_keeps 2 := ⟨am_in8_5 87 rfl, am_in9 109 (by decide +kernel), ⟨by decide +kernel, by decide +kernel⟩, by decide +kernel, by decide +kernel⟩
theorem mi_X12_keeps : Cond.instanceMethod yX12_keeps ∈ lw_tbl := am_in9 1141 (by decide +kernel)
theorem ms_X12_keeps : Cond.selects RX12 yX12_keeps yX12_keeps ∈ lw_tbl := am_in9 39 (by decide +kernel)
theorem mo_X12_degreeIn : am_okm qX12_degreeIn 1 := ⟨am_in8_5 103 rfl, am_in9 109 (by decide +kernel), ⟨by decide +kernel, by decide +kernel⟩, by decide +kernel, by decide +kernel⟩
theorem mi_X12_degreeIn : Cond.instanceMethod yX12_degreeIn ∈ lw_tbl := am_in9 1157 (by decide +kernel)
theorem ms_X12_degreeIn : Cond.selects RX12 yX12_degreeIn yX12_degreeIn ∈ lw_tbl := am_in9 42 (by decide +kernel)
theorem mo_X12_wordBehind : am_okm qX12_wordBehind 2 := ⟨am_in8_5 167 rfl, am_in9 109 (by decide +kernel), ⟨by decide +kernel, by decide +kernel⟩, by decide +kernel, by decide +kernel⟩
theorem mi_X12_wordBehind : Cond.instanceMethod yX12_wordBehind ∈ lw_tbl := am_in9 1221 (by decide +kernel)
theorem ms_X12_wordBehind : Cond.selects RX12 yX12_wordBehind yX12_wordBehind ∈ lw_tbl := am_in9 54 (by decide +kernel)
theorem mo_X12_leadIn : am_okm qX12_leadIn 1 := ⟨am_in8_5 163 rfl, am_in9 109 (by decide +kernel), ⟨by decide +kernel, by decide +kernel⟩, by decide +kernel, by decide +kernel⟩
theorem mi_X12_leadIn : Cond.instanceMethod yX12_leadIn ∈ lw_tbl := am_in9 1217 (by decide +kernel)
theorem ms_X12_leadIn : Cond.selects RX12 yX12_leadIn yX12_leadIn ∈ lw_tbl := am_in9 53 (by decide +kernel)
theorem mo_X12_adds : am_okm qX12_adds 6 := ⟨am_in8_5 119 rfl, am_in9 109 (by decide +kernel), ⟨by decide +kernel, by decide +kernel⟩, by decide +kernel, by decide +kernel⟩
theorem mi_X12_adds : Cond.instanceMethod yX12_adds ∈ lw_tbl := am_in9 1173 (by decide +kernel)
theorem ms_X12_adds : Cond.selects RX12 yX12_adds yX12_adds ∈ lw_tbl := am_in9 46 (by decide +kernel)
theorem mo_X12_addsBehind : am_okm qX12_addsBehind 5 := ⟨am_in8_5 115 rfl, am_in9 109 (by decide +kernel), ⟨by decide +kernel, by decide +kernel⟩, by decide +kernel, by decide +kernel⟩
theorem mi_X12_addsBehind : Cond.instanceMethod yX12_addsBehind ∈ lw_tbl := am_in9 1169 (by decide +kernel)
theorem ms_X12_addsBehind : Cond.selects RX12 yX12_addsBehind yX12_addsBehind ∈ lw_tbl := am_in9 45 (by decide +kernel)
theorem mo_X12_multiplies : am_okm qX12_multiplies 3 := ⟨am_in8_5 111 rfl, am_in9 109 (by decide +kernel), ⟨by decide +kernel, by decide +kernel⟩, by decide +kernel, by decide +kernel⟩
theorem mi_X12_multiplies : Cond.instanceMethod yX12_multiplies ∈ lw_tbl := am_in9 1165 (by decide +kernel)
theorem ms_X12_multiplies : Cond.selects RX12 yX12_multiplies yX12_multiplies ∈ lw_tbl := am_in9 44 (by decide +kernel)
theorem mo_X12_isTooMuch : am_okm qX12_isTooMuch 2 := ⟨am_in8_5 99 rfl, am_in9 109 (by decide +kernel), ⟨by decide +kernel, by decide +kernel⟩, by decide +kernel, by decide +kernel⟩
theorem mi_X12_isTooMuch : Cond.instanceMethod yX12_isTooMuch ∈ lw_tbl := am_in9 1153 (by decide +kernel)
theorem ms_X12_isTooMuch : Cond.selects RX12 yX12_isTooMuch yX12_isTooMuch ∈ lw_tbl := am_in9 41 (by decide +kernel)
theorem mo_X12_isPowerTooMuch : am_okm qX12_isPowerTooMuch 2 := ⟨am_in8_5 131 rfl, am_in9 109 (by decide +kernel), ⟨by decide +kernel, by decide +kernel⟩, by decide +kernel, by decide +kernel⟩
theorem mi_X12_isPowerTooMuch : Cond.instanceMethod yX12_isPowerTooMuch ∈ lw_tbl := am_in9 1185 (by decide +kernel)
theorem ms_X12_isPowerTooMuch : Cond.selects RX12 yX12_isPowerTooMuch yX12_isPowerTooMuch ∈ lw_tbl := am_in9 47 (by decide +kernel)
theorem mo_X12_raises : am_okm qX12_raises 1 := ⟨am_in8_5 135 rfl, am_in9 109 (by decide +kernel), ⟨by decide +kernel, by decide +kernel⟩, by decide +kernel, by decide +kernel⟩
theorem mi_X12_raises : Cond.instanceMethod yX12_raises ∈ lw_tbl := am_in9 1189 (by decide +kernel)
theorem ms_X12_raises : Cond.selects RX12 yX12_raises yX12_raises ∈ lw_tbl := am_in9 48 (by decide +kernel)
theorem mo_X12_mixes : am_okm qX12_mixes 5 := ⟨am_in8_5 83 rfl, am_in9 109 (by decide +kernel), ⟨by decide +kernel, by decide +kernel⟩, by decide +kernel, by decide +kernel⟩
theorem mi_X12_mixes : Cond.instanceMethod yX12_mixes ∈ lw_tbl := am_in9 1137 (by decide +kernel)
theorem ms_X12_mixes : Cond.selects RX12 yX12_mixes yX12_mixes ∈ lw_tbl := am_in9 38 (by decide +kernel)
theorem mo_X12_sets : am_okm qX12_sets 4 := ⟨am_in8_5 40 rfl, am_in9 109 (by decide +kernel), ⟨by decide +kernel, by decide +kernel⟩, by decide +kernel, by decide +kernel⟩
theorem mi_X12_sets : Cond.instanceMethod yX12_sets ∈ lw_tbl := am_in9 1093 (by decide +kernel)
theorem ms_X12_sets : Cond.selects RX12 yX12_sets yX12_sets ∈ lw_tbl := am_in9 1094 (by decide +kernel)
theorem mo_X12_at : am_okm qX12_at 3 := ⟨am_in8_5 67 rfl, am_in9 109 (by decide +kernel), ⟨by decide +kernel, by decide +kernel⟩, by decide +kernel, by decide +kernel⟩
theorem mi_X12_at : Cond.instanceMethod yX12_at ∈ lw_tbl := am_in9 1120 (by decide +kernel)
theorem ms_X12_at : Cond.selects RX12 yX12_at yX12_at ∈ lw_tbl := am_in9 1121 (by decide +kernel)
theorem mo_X12_sums : am_okm qX12_sums 5 := ⟨am_in8_5 71 rfl, am_in9 109 (by decide +kernel), ⟨by decide +kernel, by decide +kernel⟩, by decide +kernel, by decide +kernel⟩
theorem mi_X12_sums : Cond.instanceMethod yX12_sums ∈ lw_tbl := am_in9 1124 (by decide +kernel)
theorem ms_X12_sums : Cond.selects RX12 yX12_sums yX12_sums ∈ lw_tbl := am_in9 1125 (by decide +kernel)
theorem mo_X12_times : am_okm qX12_times 3 := ⟨am_in8_5 95 rfl, am_in9 109 (by decide +kernel), ⟨by decide +kernel, by decide +kernel⟩, by decide +kernel, by decide +kernel⟩
theorem mi_X12_times : Cond.instanceMethod yX12_times ∈ lw_tbl := am_in9 1148 (by decide +kernel)
theorem ms_X12_times : Cond.selects RX12 yX12_times yX12_times ∈ lw_tbl := am_in9 1149 (by decide +kernel)
theorem mo_X12_bracket : am_okm qX12_bracket 3 := ⟨am_in8_5 123 rfl, am_in9 109 (by decide +kernel), ⟨by decide +kernel, by decide +kernel⟩, by decide +kernel, by decide +kernel⟩
theorem mi_X12_bracket : Cond.instanceMethod yX12_bracket ∈ lw_tbl := am_in9 1176 (by decide +kernel)
theorem ms_X12_bracket : Cond.selects RX12 yX12_bracket yX12_bracket ∈ lw_tbl := am_in9 1177 (by decide +kernel)
theorem mo_X12_power : am_okm qX12_power 3 := ⟨am_in8_5 127 rfl, am_in9 109 (by decide +kernel), ⟨by decide +kernel, by decide +kernel⟩, by decide +kernel, by decide +kernel⟩
theorem mi_X12_power : Cond.instanceMethod yX12_power ∈ lw_tbl := am_in9 1180 (by decide +kernel)
theorem ms_X12_power : Cond.selects RX12 yX12_power yX12_power ∈ lw_tbl := am_in9 1181 (by decide +kernel)
theorem mo_X12_reversed : am_okm qX12_reversed 2 := ⟨am_in8_5 143 rfl, am_in9 109 (by decide +kernel), ⟨by decide +kernel, by decide +kernel⟩, by decide +kernel, by decide +kernel⟩
theorem mi_X12_reversed : Cond.instanceMethod yX12_reversed ∈ lw_tbl := am_in9 1196 (by decide +kernel)
theorem ms_X12_reversed : Cond.selects RX12 yX12_reversed yX12_reversed ∈ lw_tbl := am_in9 1197 (by decide +kernel)
theorem mo_X12_greatest : am_okm qX12_greatest 3 := ⟨am_in8_5 155 rfl, am_in9 109 (by decide +kernel), ⟨by decide +kernel, by decide +kernel⟩, by decide +kernel, by decide +kernel⟩
theorem mi_X12_greatest : Cond.instanceMethod yX12_greatest ∈ lw_tbl := am_in9 1209 (by decide +kernel)
theorem ms_X12_greatest : Cond.selects RX12 yX12_greatest yX12_greatest ∈ lw_tbl := am_in9 51 (by decide +kernel)
theorem mo_X12_ofLead : am_okm qX12_ofLead 1 := ⟨am_in8_5 159 rfl, am_in9 109 (by decide +kernel), ⟨by decide +kernel, by decide +kernel⟩, by decide +kernel, by decide +kernel⟩
theorem mi_X12_ofLead : Cond.instanceMethod yX12_ofLead ∈ lw_tbl := am_in9 1213 (by decide +kernel)
theorem ms_X12_ofLead : Cond.selects RX12 yX12_ofLead yX12_ofLead ∈ lw_tbl := am_in9 52 (by decide +kernel)
theorem mo_X12_aboutOf : am_okm qX12_aboutOf 2 := ⟨am_in8_5 151 rfl, am_in9 109 (by decide +kernel), ⟨by decide +kernel, by decide +kernel⟩, by decide +kernel, by decide +kernel⟩
theorem mi_X12_aboutOf : Cond.instanceMethod yX12_aboutOf ∈ lw_tbl := am_in9 1205 (by decide +kernel)
theorem ms_X12_aboutOf : Cond.selects RX12 yX12_aboutOf yX12_aboutOf ∈ lw_tbl := am_in9 50 (by decide +kernel)
theorem mo_X12_of : am_okm qX12_of 2 := ⟨am_in8_5 147 rfl, am_in9 109 (by decide +kernel), ⟨by decide +kernel, by decide +kernel⟩, by decide +kernel, by decide +kernel⟩
theorem mi_X12_of : Cond.instanceMethod yX12_of ∈ lw_tbl := am_in9 1200 (by decide +kernel)
theorem ms_X12_of : Cond.selects RX12 yX12_of yX12_of ∈ lw_tbl := am_in9 1201 (by decide +kernel)
theorem mo_X12_order : am_okm qX12_order 1 := ⟨am_in8_5 171 rfl, am_in9 109 (by decide +kernel), ⟨by decide +kernel, by decide +kernel⟩, by decide +kernel, by decide +kernel⟩
theorem mi_X12_order : Cond.instanceMethod yX12_order ∈ lw_tbl := am_in9 1224 (by decide +kernel)
theorem ms_X12_order : Cond.selects RX12 yX12_order yX12_order ∈ lw_tbl := am_in9 1225 (by decide +kernel)
theorem mo_X12_isPolynomial : am_okm qX12_isPolynomial 1 := ⟨am_in8_5 178 rfl, am_in9 109 (by decide +kernel), ⟨by decide +kernel, by decide +kernel⟩, by decide +kernel, by decide +kernel⟩
theorem mt_X12_isPolynomial : Cond.static yX12_isPolynomial ∈ lw_tbl := am_in9 1232 (by decide +kernel)
theorem mo_X12_rateAt : am_okm qX12_rateAt 2 := ⟨am_in8_5 181 rfl, am_in9 109 (by decide +kernel), ⟨by decide +kernel, by decide +kernel⟩, by decide +kernel, by decide +kernel⟩
theorem mt_X12_rateAt : Cond.static yX12_rateAt ∈ lw_tbl := am_in9 1235 (by decide +kernel)
theorem mo_X12_puts : am_okm qX12_puts 3 := ⟨am_in8_5 175 rfl, am_in9 109 (by decide +kernel), ⟨by decide +kernel, by decide +kernel⟩, by decide +kernel, by decide +kernel⟩
theorem mi_X12_puts : Cond.instanceMethod yX12_puts ∈ lw_tbl := am_in9 1228 (by decide +kernel)
theorem ms_X12_puts : Cond.selects RX12 yX12_puts yX12_puts ∈ lw_tbl := am_in9 1229 (by decide +kernel)
theorem mo_X12_rate : am_okm qX12_rate 2 := ⟨am_in8_5 185 rfl, am_in9 109 (by decide +kernel), ⟨by decide +kernel, by decide +kernel⟩, by decide +kernel, by decide +kernel⟩
theorem mi_X12_rate : Cond.instanceMethod yX12_rate ∈ lw_tbl := am_in9 1238 (by decide +kernel)
theorem ms_X12_rate : Cond.selects RX12 yX12_rate yX12_rate ∈ lw_tbl := am_in9 1239 (by decide +kernel)
theorem mo_X12_falls : am_okm qX12_falls 2 := ⟨am_in8_5 196 rfl, am_in9 109 (by decide +kernel), ⟨by decide +kernel, by decide +kernel⟩, by decide +kernel, by decide +kernel⟩
theorem mt_X12_falls : Cond.static yX12_falls ∈ lw_tbl := am_in9 1250 (by decide +kernel)
theorem mo_X12_greatestPower : am_okm qX12_greatestPower 1 := ⟨am_in8_5 200 rfl, am_in9 109 (by decide +kernel), ⟨by decide +kernel, by decide +kernel⟩, by decide +kernel, by decide +kernel⟩
theorem mi_X12_greatestPower : Cond.instanceMethod yX12_greatestPower ∈ lw_tbl := am_in9 1254 (by decide +kernel)
theorem ms_X12_greatestPower : Cond.selects RX12 yX12_greatestPower yX12_greatestPower ∈ lw_tbl := am_in9 56 (by decide +kernel)
theorem mo_X12_canMake : am_okm qX12_canMake 2 := ⟨am_in8_5 193 rfl, am_in9 109 (by decide +kernel), ⟨by decide +kernel, by decide +kernel⟩, by decide +kernel, by decide +kernel⟩
theorem mi_X12_canMake : Cond.instanceMethod yX12_canMake ∈ lw_tbl := am_in9 1247 (by decide +kernel)
theorem ms_X12_canMake : Cond.selects RX12 yX12_canMake yX12_canMake ∈ lw_tbl := am_in9 55 (by decide +kernel)
theorem mo_X12_makes : am_okm qX12_makes 3 := ⟨am_in8_5 189 rfl, am_in9 109 (by decide +kernel), ⟨by decide +kernel, by decide +kernel⟩, by decide +kernel, by decide +kernel⟩
theorem mi_X12_makes : Cond.instanceMethod yX12_makes ∈ lw_tbl := am_in9 1242 (by decide +kernel)
theorem ms_X12_makes : Cond.selects RX12 yX12_makes yX12_makes ∈ lw_tbl := am_in9 1243 (by decide +kernel)
theorem mo_X12_inverseOf : am_okm qX12_inverseOf 1 := ⟨am_in8_5 215 rfl, am_in9 109 (by decide +kernel), ⟨by decide +kernel, by decide +kernel⟩, by decide +kernel, by decide +kernel⟩
theorem mt_X12_inverseOf : Cond.static yX12_inverseOf ∈ lw_tbl := am_in9 1269 (by decide +kernel)
theorem mo_X12_laysMatrix : am_okm qX12_laysMatrix 2 := ⟨am_in8_5 208 rfl, am_in9 109 (by decide +kernel), ⟨by decide +kernel, by decide +kernel⟩, by decide +kernel, by decide +kernel⟩
theorem mi_X12_laysMatrix : Cond.instanceMethod yX12_laysMatrix ∈ lw_tbl := am_in9 1262 (by decide +kernel)
theorem ms_X12_laysMatrix : Cond.selects RX12 yX12_laysMatrix yX12_laysMatrix ∈ lw_tbl := am_in9 57 (by decide +kernel)
theorem mo_X12_addsRow : am_okm qX12_addsRow 3 := ⟨am_in8_5 219 rfl, am_in9 109 (by decide +kernel), ⟨by decide +kernel, by decide +kernel⟩, by decide +kernel, by decide +kernel⟩
theorem mi_X12_addsRow : Cond.instanceMethod yX12_addsRow ∈ lw_tbl := am_in9 1273 (by decide +kernel)
theorem ms_X12_addsRow : Cond.selects RX12 yX12_addsRow yX12_addsRow ∈ lw_tbl := am_in9 59 (by decide +kernel)
theorem mo_X12_isFree : am_okm qX12_isFree 2 := ⟨am_in8_5 212 rfl, am_in9 109 (by decide +kernel), ⟨by decide +kernel, by decide +kernel⟩, by decide +kernel, by decide +kernel⟩
theorem mi_X12_isFree : Cond.instanceMethod yX12_isFree ∈ lw_tbl := am_in9 1266 (by decide +kernel)
theorem ms_X12_isFree : Cond.selects RX12 yX12_isFree yX12_isFree ∈ lw_tbl := am_in9 58 (by decide +kernel)
theorem mo_X12_kernel : am_okm qX12_kernel 2 := ⟨am_in8_5 204 rfl, am_in9 109 (by decide +kernel), ⟨by decide +kernel, by decide +kernel⟩, by decide +kernel, by decide +kernel⟩
theorem mi_X12_kernel : Cond.instanceMethod yX12_kernel ∈ lw_tbl := am_in9 1257 (by decide +kernel)
theorem ms_X12_kernel : Cond.selects RX12 yX12_kernel yX12_kernel ∈ lw_tbl := am_in9 1258 (by decide +kernel)
theorem mo_X12_kills : am_okm qX12_kills 2 := ⟨am_in8_5 223 rfl, am_in9 109 (by decide +kernel), ⟨by decide +kernel, by decide +kernel⟩, by decide +kernel, by decide +kernel⟩
theorem mi_X12_kills : Cond.instanceMethod yX12_kills ∈ lw_tbl := am_in9 1276 (by decide +kernel)
theorem ms_X12_kills : Cond.selects RX12 yX12_kills yX12_kills ∈ lw_tbl := am_in9 1277 (by decide +kernel)
theorem mo_X12_findsLeads : am_okm qX12_findsLeads 0 := ⟨am_in8_5 238 rfl, am_in9 109 (by decide +kernel), ⟨by decide +kernel, by decide +kernel⟩, by decide +kernel, by decide +kernel⟩
theorem mi_X12_findsLeads : Cond.instanceMethod yX12_findsLeads ∈ lw_tbl := am_in9 1292 (by decide +kernel)
theorem ms_X12_findsLeads : Cond.selects RX12 yX12_findsLeads yX12_findsLeads ∈ lw_tbl := am_in9 61 (by decide +kernel)
theorem mo_X12_isBelow : am_okm qX12_isBelow 2 := ⟨am_in8_6 6 rfl, am_in9 109 (by decide +kernel), ⟨by decide +kernel, by decide +kernel⟩, by decide +kernel, by decide +kernel⟩
theorem mi_X12_isBelow : Cond.instanceMethod yX12_isBelow ∈ lw_tbl := am_in9 1300 (by decide +kernel)
theorem ms_X12_isBelow : Cond.selects RX12 yX12_isBelow yX12_isBelow ∈ lw_tbl := am_in9 63 (by decide +kernel)
theorem mo_X12_firstBelow : am_okm qX12_firstBelow 1 := ⟨am_in8_6 2 rfl, am_in9 109 (by decide +kernel), ⟨by decide +kernel, by decide +kernel⟩, by decide +kernel, by decide +kernel⟩
theorem mi_X12_firstBelow : Cond.instanceMethod yX12_firstBelow ∈ lw_tbl := am_in9 1296 (by decide +kernel)
theorem ms_X12_firstBelow : Cond.selects RX12 yX12_firstBelow yX12_firstBelow ∈ lw_tbl := am_in9 62 (by decide +kernel)
theorem mo_X12_rests : am_okm qX12_rests 1 := ⟨am_in8_5 234 rfl, am_in9 109 (by decide +kernel), ⟨by decide +kernel, by decide +kernel⟩, by decide +kernel, by decide +kernel⟩
theorem mi_X12_rests : Cond.instanceMethod yX12_rests ∈ lw_tbl := am_in9 1288 (by decide +kernel)
theorem ms_X12_rests : Cond.selects RX12 yX12_rests yX12_rests ∈ lw_tbl := am_in9 60 (by decide +kernel)
theorem mo_X12_isSet : am_okm qX12_isSet 1 := ⟨am_in8_5 230 rfl, am_in9 109 (by decide +kernel), ⟨by decide +kernel, by decide +kernel⟩, by decide +kernel, by decide +kernel⟩
theorem mt_X12_isSet : Cond.static yX12_isSet ∈ lw_tbl := am_in9 1284 (by decide +kernel)
theorem mo_X12_rest : am_okm qX12_rest 3 := ⟨am_in8_5 227 rfl, am_in9 109 (by decide +kernel), ⟨by decide +kernel, by decide +kernel⟩, by decide +kernel, by decide +kernel⟩
theorem mi_X12_rest : Cond.instanceMethod yX12_rest ∈ lw_tbl := am_in9 1280 (by decide +kernel)
theorem ms_X12_rest : Cond.selects RX12 yX12_rest yX12_rest ∈ lw_tbl := am_in9 1281 (by decide +kernel)
theorem mo_X12_evens : am_okm qX12_evens 1 := ⟨am_in8_6 34 rfl, am_in9 109 (by decide +kernel), ⟨by decide +kernel, by decide +kernel⟩, by decide +kernel, by decide +kernel⟩
theorem mi_X12_evens : Cond.instanceMethod yX12_evens ∈ lw_tbl := am_in9 1328 (by decide +kernel)
theorem ms_X12_evens : Cond.selects RX12 yX12_evens yX12_evens ∈ lw_tbl := am_in9 69 (by decide +kernel)
theorem mo_X12_areAlike : am_okm qX12_areAlike 2 := ⟨am_in8_6 38 rfl, am_in9 109 (by decide +kernel), ⟨by decide +kernel, by decide +kernel⟩, by decide +kernel, by decide +kernel⟩
theorem mi_X12_areAlike : Cond.instanceMethod yX12_areAlike ∈ lw_tbl := am_in9 1332 (by decide +kernel)
theorem ms_X12_areAlike : Cond.selects RX12 yX12_areAlike yX12_areAlike ∈ lw_tbl := am_in9 70 (by decide +kernel)
theorem mo_X12_rowGoes : am_okm qX12_rowGoes 1 := ⟨am_in8_6 30 rfl, am_in9 109 (by decide +kernel), ⟨by decide +kernel, by decide +kernel⟩, by decide +kernel, by decide +kernel⟩
theorem mi_X12_rowGoes : Cond.instanceMethod yX12_rowGoes ∈ lw_tbl := am_in9 1324 (by decide +kernel)
theorem ms_X12_rowGoes : Cond.selects RX12 yX12_rowGoes yX12_rowGoes ∈ lw_tbl := am_in9 68 (by decide +kernel)
theorem mo_X12_takesBy : am_okm qX12_takesBy 1 := ⟨am_in8_6 26 rfl, am_in9 109 (by decide +kernel), ⟨by decide +kernel, by decide +kernel⟩, by decide +kernel, by decide +kernel⟩
theorem mi_X12_takesBy : Cond.instanceMethod yX12_takesBy ∈ lw_tbl := am_in9 1320 (by decide +kernel)
theorem ms_X12_takesBy : Cond.selects RX12 yX12_takesBy yX12_takesBy ∈ lw_tbl := am_in9 67 (by decide +kernel)
theorem mo_X12_tidies : am_okm qX12_tidies 0 := ⟨am_in8_6 22 rfl, am_in9 109 (by decide +kernel), ⟨by decide +kernel, by decide +kernel⟩, by decide +kernel, by decide +kernel⟩
theorem mi_X12_tidies : Cond.instanceMethod yX12_tidies ∈ lw_tbl := am_in9 1316 (by decide +kernel)
theorem ms_X12_tidies : Cond.selects RX12 yX12_tidies yX12_tidies ∈ lw_tbl := am_in9 66 (by decide +kernel)
theorem mo_X12_isAhead : am_okm qX12_isAhead 2 := ⟨am_in8_6 50 rfl, am_in9 109 (by decide +kernel), ⟨by decide +kernel, by decide +kernel⟩, by decide +kernel, by decide +kernel⟩
theorem mi_X12_isAhead : Cond.instanceMethod yX12_isAhead ∈ lw_tbl := am_in9 1344 (by decide +kernel)
theorem ms_X12_isAhead : Cond.selects RX12 yX12_isAhead yX12_isAhead ∈ lw_tbl := am_in9 73 (by decide +kernel)
theorem mo_X12_exchanges : am_okm qX12_exchanges 2 := ⟨am_in8_6 54 rfl, am_in9 109 (by decide +kernel), ⟨by decide +kernel, by decide +kernel⟩, by decide +kernel, by decide +kernel⟩
theorem mi_X12_exchanges : Cond.instanceMethod yX12_exchanges ∈ lw_tbl := am_in9 1348 (by decide +kernel)
theorem ms_X12_exchanges : Cond.selects RX12 yX12_exchanges yX12_exchanges ∈ lw_tbl := am_in9 74 (by decide +kernel)
theorem mo_X12_sorts : am_okm qX12_sorts 1 := ⟨am_in8_6 46 rfl, am_in9 109 (by decide +kernel), ⟨by decide +kernel, by decide +kernel⟩, by decide +kernel, by decide +kernel⟩
theorem mi_X12_sorts : Cond.instanceMethod yX12_sorts ∈ lw_tbl := am_in9 1340 (by decide +kernel)
theorem ms_X12_sorts : Cond.selects RX12 yX12_sorts yX12_sorts ∈ lw_tbl := am_in9 72 (by decide +kernel)
theorem mo_X12_crosses : am_okm qX12_crosses 2 := ⟨am_in8_6 58 rfl, am_in9 109 (by decide +kernel), ⟨by decide +kernel, by decide +kernel⟩, by decide +kernel, by decide +kernel⟩
theorem mi_X12_crosses : Cond.instanceMethod yX12_crosses ∈ lw_tbl := am_in9 1352 (by decide +kernel)
theorem ms_X12_crosses : Cond.selects RX12 yX12_crosses yX12_crosses ∈ lw_tbl := am_in9 75 (by decide +kernel)
theorem mo_X12_isOneMore : am_okm qX12_isOneMore 0 := ⟨am_in8_6 42 rfl, am_in9 109 (by decide +kernel), ⟨by decide +kernel, by decide +kernel⟩, by decide +kernel, by decide +kernel⟩
theorem mi_X12_isOneMore : Cond.instanceMethod yX12_isOneMore ∈ lw_tbl := am_in9 1336 (by decide +kernel)
theorem ms_X12_isOneMore : Cond.selects RX12 yX12_isOneMore yX12_isOneMore ∈ lw_tbl := am_in9 71 (by decide +kernel)
theorem mo_X12_laysBasis : am_okm qX12_laysBasis 1 := ⟨am_in8_6 18 rfl, am_in9 109 (by decide +kernel), ⟨by decide +kernel, by decide +kernel⟩, by decide +kernel, by decide +kernel⟩
theorem mi_X12_laysBasis : Cond.instanceMethod yX12_laysBasis ∈ lw_tbl := am_in9 1312 (by decide +kernel)
theorem ms_X12_laysBasis : Cond.selects RX12 yX12_laysBasis yX12_laysBasis ∈ lw_tbl := am_in9 65 (by decide +kernel)
theorem mo_X12_isSmall : am_okm qX12_isSmall 1 := ⟨am_in8_6 14 rfl, am_in9 109 (by decide +kernel), ⟨by decide +kernel, by decide +kernel⟩, by decide +kernel, by decide +kernel⟩
theorem mi_X12_isSmall : Cond.instanceMethod yX12_isSmall ∈ lw_tbl := am_in9 1308 (by decide +kernel)
theorem ms_X12_isSmall : Cond.selects RX12 yX12_isSmall yX12_isSmall ∈ lw_tbl := am_in9 64 (by decide +kernel)
theorem mo_X12_basis : am_okm qX12_basis 1 := ⟨am_in8_6 10 rfl, am_in9 109 (by decide +kernel), ⟨by decide +kernel, by decide +kernel⟩, by decide +kernel, by decide +kernel⟩
theorem mi_X12_basis : Cond.instanceMethod yX12_basis ∈ lw_tbl := am_in9 1303 (by decide +kernel)
theorem ms_X12_basis : Cond.selects RX12 yX12_basis yX12_basis ∈ lw_tbl := am_in9 1304 (by decide +kernel)
theorem mo_X12_based : am_okm qX12_based 4 := ⟨am_in8_6 62 rfl, am_in9 109 (by decide +kernel), ⟨by decide +kernel, by decide +kernel⟩, by decide +kernel, by decide +kernel⟩
theorem mi_X12_based : Cond.instanceMethod yX12_based ∈ lw_tbl := am_in9 1355 (by decide +kernel)
theorem ms_X12_based : Cond.selects RX12 yX12_based yX12_based ∈ lw_tbl := am_in9 1356 (by decide +kernel)
theorem mo_X12_stairs : am_okm qX12_stairs 2 := ⟨am_in8_6 66 rfl, am_in9 109 (by decide +kernel), ⟨by decide +kernel, by decide +kernel⟩, by decide +kernel, by decide +kernel⟩
theorem mi_X12_stairs : Cond.instanceMethod yX12_stairs ∈ lw_tbl := am_in9 1359 (by decide +kernel)
theorem ms_X12_stairs : Cond.selects RX12 yX12_stairs yX12_stairs ∈ lw_tbl := am_in9 1360 (by decide +kernel)
theorem mo_X12_within : am_okm qX12_within 2 := ⟨am_in8_6 70 rfl, am_in9 109 (by decide +kernel), ⟨by decide +kernel, by decide +kernel⟩, by decide +kernel, by decide +kernel⟩
theorem mi_X12_within : Cond.instanceMethod yX12_within ∈ lw_tbl := am_in9 1363 (by decide +kernel)
theorem ms_X12_within : Cond.selects RX12 yX12_within yX12_within ∈ lw_tbl := am_in9 1364 (by decide +kernel)
theorem mo_X12_type : am_okm qX12_type 1 := ⟨am_in8_6 74 rfl, am_in9 109 (by decide +kernel), ⟨by decide +kernel, by decide +kernel⟩, by decide +kernel, by decide +kernel⟩
theorem mi_X12_type : Cond.instanceMethod yX12_type ∈ lw_tbl := am_in9 1367 (by decide +kernel)
theorem ms_X12_type : Cond.selects RX12 yX12_type yX12_type ∈ lw_tbl := am_in9 1368 (by decide +kernel)
theorem mo_X12_clear : am_okm qX12_clear 0 := ⟨am_in8_6 78 rfl, am_in9 109 (by decide +kernel), ⟨by decide +kernel, by decide +kernel⟩, by decide +kernel, by decide +kernel⟩
theorem mi_X12_clear : Cond.instanceMethod yX12_clear ∈ lw_tbl := am_in9 1371 (by decide +kernel)
theorem ms_X12_clear : Cond.selects RX12 yX12_clear yX12_clear ∈ lw_tbl := am_in9 1372 (by decide +kernel)
theorem mo_X12_isAt : am_okm qX12_isAt 2 := ⟨am_in8_6 98 rfl, am_in9 109 (by decide +kernel), ⟨by decide +kernel, by decide +kernel⟩, by decide +kernel, by decide +kernel⟩
theorem mi_X12_isAt : Cond.instanceMethod yX12_isAt ∈ lw_tbl := am_in9 1392 (by decide +kernel)
theorem ms_X12_isAt : Cond.selects RX12 yX12_isAt yX12_isAt ∈ lw_tbl := am_in9 79 (by decide +kernel)
theorem mo_X12_blanks : am_okm qX12_blanks 0 := ⟨am_in8_6 94 rfl, am_in9 109 (by decide +kernel), ⟨by decide +kernel, by decide +kernel⟩, by decide +kernel, by decide +kernel⟩
theorem mi_X12_blanks : Cond.instanceMethod yX12_blanks ∈ lw_tbl := am_in9 1388 (by decide +kernel)
theorem ms_X12_blanks : Cond.selects RX12 yX12_blanks yX12_blanks ∈ lw_tbl := am_in9 78 (by decide +kernel)
theorem mo_X12_fails : am_okm qX12_fails 1 := ⟨am_in8_6 106 rfl, am_in9 109 (by decide +kernel), ⟨by decide +kernel, by decide +kernel⟩, by decide +kernel, by decide +kernel⟩
theorem mi_X12_fails : Cond.instanceMethod yX12_fails ∈ lw_tbl := am_in9 1400 (by decide +kernel)
theorem ms_X12_fails : Cond.selects RX12 yX12_fails yX12_fails ∈ lw_tbl := am_in9 81 (by decide +kernel)
theorem mo_X12_opens : am_okm qX12_opens 0 := ⟨am_in8_6 90 rfl, am_in9 109 (by decide +kernel), ⟨by decide +kernel, by decide +kernel⟩, by decide +kernel, by decide +kernel⟩
theorem mi_X12_opens : Cond.instanceMethod yX12_opens ∈ lw_tbl := am_in9 1384 (by decide +kernel)
theorem ms_X12_opens : Cond.selects RX12 yX12_opens yX12_opens ∈ lw_tbl := am_in9 77 (by decide +kernel)
theorem mo_X12_closes : am_okm qX12_closes 0 := ⟨am_in8_6 130 rfl, am_in9 109 (by decide +kernel), ⟨by decide +kernel, by decide +kernel⟩, by decide +kernel, by decide +kernel⟩
theorem mi_X12_closes : Cond.instanceMethod yX12_closes ∈ lw_tbl := am_in9 1424 (by decide +kernel)
theorem ms_X12_closes : Cond.selects RX12 yX12_closes yX12_closes ∈ lw_tbl := am_in9 87 (by decide +kernel)
theorem mo_X12_takes : am_okm qX12_takes 1 := ⟨am_in8_6 122 rfl, am_in9 109 (by decide +kernel), ⟨by decide +kernel, by decide +kernel⟩, by decide +kernel, by decide +kernel⟩
theorem mi_X12_takes : Cond.instanceMethod yX12_takes ∈ lw_tbl := am_in9 1416 (by decide +kernel)
theorem ms_X12_takes : Cond.selects RX12 yX12_takes yX12_takes ∈ lw_tbl := am_in9 85 (by decide +kernel)
theorem mo_X12_takesFigures : am_okm qX12_takesFigures 1 := ⟨am_in8_6 110 rfl, am_in9 109 (by decide +kernel), ⟨by decide +kernel, by decide +kernel⟩, by decide +kernel, by decide +kernel⟩
theorem mi_X12_takesFigures : Cond.instanceMethod yX12_takesFigures ∈ lw_tbl := am_in9 1404 (by decide +kernel)
theorem ms_X12_takesFigures : Cond.selects RX12 yX12_takesFigures yX12_takesFigures ∈ lw_tbl := am_in9 82 (by decide +kernel)
theorem mo_X12_takesPower : am_okm qX12_takesPower 0 := ⟨am_in8_6 118 rfl, am_in9 109 (by decide +kernel), ⟨by decide +kernel, by decide +kernel⟩, by decide +kernel, by decide +kernel⟩
theorem mi_X12_takesPower : Cond.instanceMethod yX12_takesPower ∈ lw_tbl := am_in9 1412 (by decide +kernel)
theorem ms_X12_takesPower : Cond.selects RX12 yX12_takesPower yX12_takesPower ∈ lw_tbl := am_in9 84 (by decide +kernel)
theorem mo_X12_values : am_okm qX12_values 3 := ⟨am_in8_6 114 rfl, am_in9 109 (by decide +kernel), ⟨by decide +kernel, by decide +kernel⟩, by decide +kernel, by decide +kernel⟩
theorem mi_X12_values : Cond.instanceMethod yX12_values ∈ lw_tbl := am_in9 1408 (by decide +kernel)
theorem ms_X12_values : Cond.selects RX12 yX12_values yX12_values ∈ lw_tbl := am_in9 83 (by decide +kernel)
theorem mo_X12_takesFactor : am_okm qX12_takesFactor 0 := ⟨am_in8_6 102 rfl, am_in9 109 (by decide +kernel), ⟨by decide +kernel, by decide +kernel⟩, by decide +kernel, by decide +kernel⟩
theorem mi_X12_takesFactor : Cond.instanceMethod yX12_takesFactor ∈ lw_tbl := am_in9 1396 (by decide +kernel)
theorem ms_X12_takesFactor : Cond.selects RX12 yX12_takesFactor yX12_takesFactor ∈ lw_tbl := am_in9 80 (by decide +kernel)
theorem mo_X12_takesSign : am_okm qX12_takesSign 0 := ⟨am_in8_6 126 rfl, am_in9 109 (by decide +kernel), ⟨by decide +kernel, by decide +kernel⟩, by decide +kernel, by decide +kernel⟩
theorem mi_X12_takesSign : Cond.instanceMethod yX12_takesSign ∈ lw_tbl := am_in9 1420 (by decide +kernel)
theorem ms_X12_takesSign : Cond.selects RX12 yX12_takesSign yX12_takesSign ∈ lw_tbl := am_in9 86 (by decide +kernel)
theorem mo_X12_isRead : am_okm qX12_isRead 1 := ⟨am_in8_6 86 rfl, am_in9 109 (by decide +kernel), ⟨by decide +kernel, by decide +kernel⟩, by decide +kernel, by decide +kernel⟩
theorem mi_X12_isRead : Cond.instanceMethod yX12_isRead ∈ lw_tbl := am_in9 1380 (by decide +kernel)
theorem ms_X12_isRead : Cond.selects RX12 yX12_isRead yX12_isRead ∈ lw_tbl := am_in9 76 (by decide +kernel)
theorem mo_X12_reads : am_okm qX12_reads 1 := ⟨am_in8_6 82 rfl, am_in9 109 (by decide +kernel), ⟨by decide +kernel, by decide +kernel⟩, by decide +kernel, by decide +kernel⟩
theorem mi_X12_reads : Cond.instanceMethod yX12_reads ∈ lw_tbl := am_in9 1375 (by decide +kernel)
theorem ms_X12_reads : Cond.selects RX12 yX12_reads yX12_reads ∈ lw_tbl := am_in9 1376 (by decide +kernel)
theorem mo_X12_writes : am_okm qX12_writes 1 := ⟨am_in8_6 146 rfl, am_in9 109 (by decide +kernel), ⟨by decide +kernel, by decide +kernel⟩, by decide +kernel, by decide +kernel⟩
theorem mi_X12_writes : Cond.instanceMethod yX12_writes ∈ lw_tbl := am_in9 1440 (by decide +kernel)
theorem ms_X12_writes : Cond.selects RX12 yX12_writes yX12_writes ∈ lw_tbl := am_in9 90 (by decide +kernel)
theorem mo_X12_writesNumber : am_okm qX12_writesNumber 1 := ⟨am_in8_6 150 rfl, am_in9 109 (by decide +kernel), ⟨by decide +kernel, by decide +kernel⟩, by decide +kernel, by decide +kernel⟩
theorem mi_X12_writesNumber : Cond.instanceMethod yX12_writesNumber ∈ lw_tbl := am_in9 1444 (by decide +kernel)
theorem ms_X12_writesNumber : Cond.selects RX12 yX12_writesNumber yX12_writesNumber ∈ lw_tbl := am_in9 91 (by decide +kernel)
theorem mo_X12_writesLetter : am_okm qX12_writesLetter 2 := ⟨am_in8_6 154 rfl, am_in9 109 (by decide +kernel), ⟨by decide +kernel, by decide +kernel⟩, by decide +kernel, by decide +kernel⟩
theorem mi_X12_writesLetter : Cond.instanceMethod yX12_writesLetter ∈ lw_tbl := am_in9 1448 (by decide +kernel)
theorem ms_X12_writesLetter : Cond.selects RX12 yX12_writesLetter yX12_writesLetter ∈ lw_tbl := am_in9 92 (by decide +kernel)
theorem mo_X12_writesTerm : am_okm qX12_writesTerm 2 := ⟨am_in8_6 142 rfl, am_in9 109 (by decide +kernel), ⟨by decide +kernel, by decide +kernel⟩, by decide +kernel, by decide +kernel⟩
theorem mi_X12_writesTerm : Cond.instanceMethod yX12_writesTerm ∈ lw_tbl := am_in9 1436 (by decide +kernel)
theorem ms_X12_writesTerm : Cond.selects RX12 yX12_writesTerm yX12_writesTerm ∈ lw_tbl := am_in9 89 (by decide +kernel)
theorem mo_X12_laysLine : am_okm qX12_laysLine 1 := ⟨am_in8_6 138 rfl, am_in9 109 (by decide +kernel), ⟨by decide +kernel, by decide +kernel⟩, by decide +kernel, by decide +kernel⟩
theorem mi_X12_laysLine : Cond.instanceMethod yX12_laysLine ∈ lw_tbl := am_in9 1432 (by decide +kernel)
theorem ms_X12_laysLine : Cond.selects RX12 yX12_laysLine yX12_laysLine ∈ lw_tbl := am_in9 88 (by decide +kernel)
theorem mo_X12_shown : am_okm qX12_shown 2 := ⟨am_in8_6 134 rfl, am_in9 109 (by decide +kernel), ⟨by decide +kernel, by decide +kernel⟩, by decide +kernel, by decide +kernel⟩
theorem mi_X12_shown : Cond.instanceMethod yX12_shown ∈ lw_tbl := am_in9 1427 (by decide +kernel)
theorem ms_X12_shown : Cond.selects RX12 yX12_shown yX12_shown ∈ lw_tbl := am_in9 1428 (by decide +kernel)
theorem mo_X12_toldOf : am_okm qX12_toldOf 1 := ⟨am_in8_6 162 rfl, am_in9 109 (by decide +kernel), ⟨by decide +kernel, by decide +kernel⟩, by decide +kernel, by decide +kernel⟩
theorem mi_X12_toldOf : Cond.instanceMethod yX12_toldOf ∈ lw_tbl := am_in9 1456 (by decide +kernel)
theorem ms_X12_toldOf : Cond.selects RX12 yX12_toldOf yX12_toldOf ∈ lw_tbl := am_in9 93 (by decide +kernel)
theorem mo_X12_told : am_okm qX12_told 1 := ⟨am_in8_6 158 rfl, am_in9 109 (by decide +kernel), ⟨by decide +kernel, by decide +kernel⟩, by decide +kernel, by decide +kernel⟩
theorem mi_X12_told : Cond.instanceMethod yX12_told ∈ lw_tbl := am_in9 1451 (by decide +kernel)
theorem ms_X12_told : Cond.selects RX12 yX12_told yX12_told ∈ lw_tbl := am_in9 1452 (by decide +kernel)
theorem mo_X12_mix : am_okm qX12_mix 1 := ⟨am_in8_6 171 rfl, am_in9 109 (by decide +kernel), ⟨by decide +kernel, by decide +kernel⟩, by decide +kernel, by decide +kernel⟩
theorem mi_X12_mix : Cond.instanceMethod yX12_mix ∈ lw_tbl := am_in9 1465 (by decide +kernel)
theorem ms_X12_mix : Cond.selects RX12 yX12_mix yX12_mix ∈ lw_tbl := am_in9 94 (by decide +kernel)
theorem mo_X12_digest : am_okm qX12_digest 0 := ⟨am_in8_6 166 rfl, am_in9 109 (by decide +kernel), ⟨by decide +kernel, by decide +kernel⟩, by decide +kernel, by decide +kernel⟩
theorem mi_X12_digest : Cond.instanceMethod yX12_digest ∈ lw_tbl := am_in9 1459 (by decide +kernel)
theorem ms_X12_digest : Cond.selects RX12 yX12_digest yX12_digest ∈ lw_tbl := am_in9 1460 (by decide +kernel)
theorem mo_J9_floorMod_7cf53 : am_okm qJ9_floorMod_7cf53 2 := ⟨am_in8_2 148 rfl, am_in9 102 (by decide +kernel), ⟨by decide +kernel, by decide +kernel⟩, by decide +kernel, by decide +kernel⟩
theorem mt_J9_floorMod_7cf53 : Cond.static yJ9_floorMod_7cf53 ∈ lw_tbl := am_in9 482 (by decide +kernel)
theorem mo_J9_abs_0f7a4 : am_okm qJ9_abs_0f7a4 1 := ⟨am_in8_4 133 rfl, am_in9 102 (by decide +kernel), ⟨by decide +kernel, by decide +kernel⟩, by decide +kernel, by decide +kernel⟩
theorem mt_J9_abs_0f7a4 : Cond.static yJ9_abs_0f7a4 ∈ lw_tbl := am_in9 947 (by decide +kernel)
theorem mo_J9_max_7cf53 : am_okm qJ9_max_7cf53 2 := ⟨am_in8_3 46 rfl, am_in9 102 (by decide +kernel), ⟨by decide +kernel, by decide +kernel⟩, by decide +kernel, by decide +kernel⟩
theorem mt_J9_max_7cf53 : Cond.static yJ9_max_7cf53 ∈ lw_tbl := am_in9 620 (by decide +kernel)
theorem mo_J9_min_7cf53 : am_okm qJ9_min_7cf53 2 := ⟨am_in8_1 121 rfl, am_in9 102 (by decide +kernel), ⟨by decide +kernel, by decide +kernel⟩, by decide +kernel, by decide +kernel⟩
theorem mt_J9_min_7cf53 : Cond.static yJ9_min_7cf53 ∈ lw_tbl := am_in9 215 (by decide +kernel)
theorem mo_J7_fill_53178 : am_okm qJ7_fill_53178 2 := ⟨am_in8_2 170 rfl, am_in9 111 (by decide +kernel), ⟨by decide +kernel, by decide +kernel⟩, by decide +kernel, by decide +kernel⟩
theorem mt_J7_fill_53178 : Cond.static yJ7_fill_53178 ∈ lw_tbl := am_in9 504 (by decide +kernel)
end
section
/-! The links of the program: what each list of links says. Written by wip/whole/gen_prog.py. -/
def lk_fl (o : Nat) : List (Nat × Nat × Nat) := match o with
  | 0 => [(11, 0, 1), (16, 0, 2), (20, 1, 1), (25, 0, 0), (35, 6, 0)]
  | 1 => [(11, 1, 0), (16, 1, 1), (22, 1, 2), (46, 6, 0)]
  | 2 => [(13, 2, 0), (17, 2, 1), (21, 2, 2), (24, 2, 3), (27, 2, 4), (31, 2, 5), (35, 8, 2), (62, 8, 0), (65, 6, 0)]
  | 3 => [(13, 3, 2), (17, 3, 3), (23, 3, 4), (27, 3, 5), (31, 3, 6), (34, 3, 7), (38, 3, 8), (41, 3, 9), (44, 3, 10), (47, 3, 0), (51, 3, 1), (78, 8, 2), (85, 8, 0), (118, 6, 0)]
  | 4 => [(11, 4, 1), (17, 4, 2), (21, 4, 3), (24, 4, 4), (27, 4, 5), (30, 4, 6), (34, 4, 7), (37, 4, 0), (51, 6, 0)]
  | 5 => [(11, 5, 0), (17, 5, 1), (21, 5, 2)]
  | 6 => [(9, 6, 0)]
  | 7 => [(11, 7, 2), (17, 7, 3), (21, 7, 4), (25, 7, 5), (28, 7, 6), (32, 7, 0), (36, 7, 1), (104, 9, 1)]
  | 8 => [(11, 8, 0), (19, 8, 1), (22, 8, 2)]
  | 9 => [(9, 9, 0), (15, 9, 1), (19, 9, 2), (22, 9, 3)]
  | 10 => [(9, 10, 0), (15, 10, 1), (29, 6, 0)]
  | 11 => [(10, 11, 0), (19, 11, 1), (26, 11, 2), (33, 11, 3), (42, 11, 4), (51, 11, 5), (58, 11, 6), (67, 11, 7), (74, 11, 8), (81, 11, 9), (85, 11, 10), (89, 11, 11), (92, 11, 12), (111, 8, 0), (163, 8, 2), (175, 8, 1), (187, 0, 2), (239, 2, 5), (244, 2, 0), (250, 9, 1), (267, 5, 2), (280, 6, 0)]
  | 12 => [(7, 12, 0), (13, 12, 1), (16, 12, 3), (19, 12, 4), (22, 12, 6), (25, 12, 7), (28, 12, 8), (31, 12, 9), (34, 12, 10), (37, 12, 11), (40, 12, 12), (43, 12, 14), (46, 12, 15), (49, 12, 25), (53, 12, 26), (56, 12, 28), (63, 12, 17), (67, 12, 2), (189, 12, 13), (207, 12, 16), (248, 12, 5), (251, 12, 18), (257, 12, 19), (260, 12, 21), (264, 12, 22), (267, 12, 20), (270, 12, 23), (273, 12, 24), (276, 12, 27), (313, 12, 29), (336, 12, 30)]
  | _ => []
theorem lk_fl_0_0 : (fun e : Nat × Nat × Nat => am_fl (am_own 0) e.1 e.2.1 e.2.2) (11, 0, 1) := ⟨by decide, by decide, am_in9 341 (by decide +kernel)⟩
theorem lk_fl_0_1 : (fun e : Nat × Nat × Nat => am_fl (am_own 0) e.1 e.2.1 e.2.2) (16, 0, 2) := ⟨by decide, by decide, am_in9 342 (by decide +kernel)⟩
theorem lk_fl_0_2 : (fun e : Nat × Nat × Nat => am_fl (am_own 0) e.1 e.2.1 e.2.2) (20, 1, 1) := ⟨by decide, by decide, am_in9 219 (by decide +kernel)⟩
theorem lk_fl_0_3 : (fun e : Nat × Nat × Nat => am_fl (am_own 0) e.1 e.2.1 e.2.2) (25, 0, 0) := ⟨by decide, by decide, am_in9 340 (by decide +kernel)⟩
theorem lk_fl_0_4 : (fun e : Nat × Nat × Nat => am_fl (am_own 0) e.1 e.2.1 e.2.2) (35, 6, 0) := ⟨by decide, by decide, am_in9 137 (by decide +kernel)⟩
theorem lk_fl_0 : ∀ e ∈ lk_fl 0, am_fl (am_own 0) e.1 e.2.1 e.2.2 := List.forall_mem_cons.mpr ⟨lk_fl_0_0, List.forall_mem_cons.mpr ⟨lk_fl_0_1, List.forall_mem_cons.mpr ⟨lk_fl_0_2, List.forall_mem_cons.mpr ⟨lk_fl_0_3, List.forall_mem_cons.mpr ⟨lk_fl_0_4, fun _ h => absurd h List.not_mem_nil⟩⟩⟩⟩⟩
theorem lk_fl_1_0 : (fun e : Nat × Nat × Nat => am_fl (am_own 1) e.1 e.2.1 e.2.2) (11, 1, 0) := ⟨by decide, by decide, am_in9 217 (by decide +kernel)⟩
theorem lk_fl_1_1 : (fun e : Nat × Nat × Nat => am_fl (am_own 1) e.1 e.2.1 e.2.2) (16, 1, 1) := ⟨by decide, by decide, am_in9 218 (by decide +kernel)⟩
theorem lk_fl_1_2 : (fun e : Nat × Nat × Nat => am_fl (am_own 1) e.1 e.2.1 e.2.2) (22, 1, 2) := ⟨by decide, by decide, am_in9 220 (by decide +kernel)⟩
theorem lk_fl_1_3 : (fun e : Nat × Nat × Nat => am_fl (am_own 1) e.1 e.2.1 e.2.2) (46, 6, 0) := ⟨by decide, by decide, am_in9 141 (by decide +kernel)⟩
theorem lk_fl_1 : ∀ e ∈ lk_fl 1, am_fl (am_own 1) e.1 e.2.1 e.2.2 := List.forall_mem_cons.mpr ⟨lk_fl_1_0, List.forall_mem_cons.mpr ⟨lk_fl_1_1, List.forall_mem_cons.mpr ⟨lk_fl_1_2, List.forall_mem_cons.mpr ⟨lk_fl_1_3, fun _ h => absurd h List.not_mem_nil⟩⟩⟩⟩
theorem lk_fl_2_0 : (fun e : Nat × Nat × Nat => am_fl (am_own 2) e.1 e.2.1 e.2.2) (13, 2, 0) := ⟨by decide, by decide, am_in9 276 (by decide +kernel)⟩
theorem lk_fl_2_1 : (fun e : Nat × Nat × Nat => am_fl (am_own 2) e.1 e.2.1 e.2.2) (17, 2, 1) := ⟨by decide, by decide, am_in9 278 (by decide +kernel)⟩
theorem lk_fl_2_2 : (fun e : Nat × Nat × Nat => am_fl (am_own 2) e.1 e.2.1 e.2.2) (21, 2, 2) := ⟨by decide, by decide, am_in9 279 (by decide +kernel)⟩
theorem lk_fl_2_3 : (fun e : Nat × Nat × Nat => am_fl (am_own 2) e.1 e.2.1 e.2.2) (24, 2, 3) := ⟨by decide, by decide, am_in9 280 (by decide +kernel)⟩
theorem lk_fl_2_4 : (fun e : Nat × Nat × Nat => am_fl (am_own 2) e.1 e.2.1 e.2.2) (27, 2, 4) := ⟨by decide, by decide, am_in9 281 (by decide +kernel)⟩
theorem lk_fl_2_5 : (fun e : Nat × Nat × Nat => am_fl (am_own 2) e.1 e.2.1 e.2.2) (31, 2, 5) := ⟨by decide, by decide, am_in9 282 (by decide +kernel)⟩
theorem lk_fl_2_6 : (fun e : Nat × Nat × Nat => am_fl (am_own 2) e.1 e.2.1 e.2.2) (35, 8, 2) := ⟨by decide, by decide, am_in9 155 (by decide +kernel)⟩
theorem lk_fl_2_7 : (fun e : Nat × Nat × Nat => am_fl (am_own 2) e.1 e.2.1 e.2.2) (62, 8, 0) := ⟨by decide, by decide, am_in9 150 (by decide +kernel)⟩
theorem lk_fl_2_8 : (fun e : Nat × Nat × Nat => am_fl (am_own 2) e.1 e.2.1 e.2.2) (65, 6, 0) := ⟨by decide, by decide, am_in9 140 (by decide +kernel)⟩
theorem lk_fl_2 : ∀ e ∈ lk_fl 2, am_fl (am_own 2) e.1 e.2.1 e.2.2 := List.forall_mem_cons.mpr ⟨lk_fl_2_0, List.forall_mem_cons.mpr ⟨lk_fl_2_1, List.forall_mem_cons.mpr ⟨lk_fl_2_2, List.forall_mem_cons.mpr ⟨lk_fl_2_3, List.forall_mem_cons.mpr ⟨lk_fl_2_4, List.forall_mem_cons.mpr ⟨lk_fl_2_5, List.forall_mem_cons.mpr ⟨lk_fl_2_6, List.forall_mem_cons.mpr ⟨lk_fl_2_7, List.forall_mem_cons.mpr ⟨lk_fl_2_8, fun _ h => absurd h List.not_mem_nil⟩⟩⟩⟩⟩⟩⟩⟩⟩
theorem lk_fl_3_0 : (fun e : Nat × Nat × Nat => am_fl (am_own 3) e.1 e.2.1 e.2.2) (13, 3, 2) := ⟨by decide, by decide, am_in9 301 (by decide +kernel)⟩
theorem lk_fl_3_1 : (fun e : Nat × Nat × Nat => am_fl (am_own 3) e.1 e.2.1 e.2.2) (17, 3, 3) := ⟨by decide, by decide, am_in9 302 (by decide +kernel)⟩
theorem lk_fl_3_2 : (fun e : Nat × Nat × Nat => am_fl (am_own 3) e.1 e.2.1 e.2.2) (23, 3, 4) := ⟨by decide, by decide, am_in9 303 (by decide +kernel)⟩
theorem lk_fl_3_3 : (fun e : Nat × Nat × Nat => am_fl (am_own 3) e.1 e.2.1 e.2.2) (27, 3, 5) := ⟨by decide, by decide, am_in9 304 (by decide +kernel)⟩
theorem lk_fl_3_4 : (fun e : Nat × Nat × Nat => am_fl (am_own 3) e.1 e.2.1 e.2.2) (31, 3, 6) := ⟨by decide, by decide, am_in9 305 (by decide +kernel)⟩
theorem lk_fl_3_5 : (fun e : Nat × Nat × Nat => am_fl (am_own 3) e.1 e.2.1 e.2.2) (34, 3, 7) := ⟨by decide, by decide, am_in9 306 (by decide +kernel)⟩
theorem lk_fl_3_6 : (fun e : Nat × Nat × Nat => am_fl (am_own 3) e.1 e.2.1 e.2.2) (38, 3, 8) := ⟨by decide, by decide, am_in9 307 (by decide +kernel)⟩
theorem lk_fl_3_7 : (fun e : Nat × Nat × Nat => am_fl (am_own 3) e.1 e.2.1 e.2.2) (41, 3, 9) := ⟨by decide, by decide, am_in9 308 (by decide +kernel)⟩
theorem lk_fl_3_8 : (fun e : Nat × Nat × Nat => am_fl (am_own 3) e.1 e.2.1 e.2.2) (44, 3, 10) := ⟨by decide, by decide, am_in9 309 (by decide +kernel)⟩
theorem lk_fl_3_9 : (fun e : Nat × Nat × Nat => am_fl (am_own 3) e.1 e.2.1 e.2.2) (47, 3, 0) := ⟨by decide, by decide, am_in9 299 (by decide +kernel)⟩
theorem lk_fl_3_10 : (fun e : Nat × Nat × Nat => am_fl (am_own 3) e.1 e.2.1 e.2.2) (51, 3, 1) := ⟨by decide, by decide, am_in9 300 (by decide +kernel)⟩
theorem lk_fl_3_11 : (fun e : Nat × Nat × Nat => am_fl (am_own 3) e.1 e.2.1 e.2.2) (78, 8, 2) := ⟨by decide, by decide, am_in9 154 (by decide +kernel)⟩
theorem lk_fl_3_12 : (fun e : Nat × Nat × Nat => am_fl (am_own 3) e.1 e.2.1 e.2.2) (85, 8, 0) := ⟨by decide, by decide, am_in9 149 (by decide +kernel)⟩
theorem lk_fl_3_13 : (fun e : Nat × Nat × Nat => am_fl (am_own 3) e.1 e.2.1 e.2.2) (118, 6, 0) := ⟨by decide, by decide, am_in9 139 (by decide +kernel)⟩
theorem lk_fl_3 : ∀ e ∈ lk_fl 3, am_fl (am_own 3) e.1 e.2.1 e.2.2 := List.forall_mem_cons.mpr ⟨lk_fl_3_0, List.forall_mem_cons.mpr ⟨lk_fl_3_1, List.forall_mem_cons.mpr ⟨lk_fl_3_2, List.forall_mem_cons.mpr ⟨lk_fl_3_3, List.forall_mem_cons.mpr ⟨lk_fl_3_4, List.forall_mem_cons.mpr ⟨lk_fl_3_5, List.forall_mem_cons.mpr ⟨lk_fl_3_6, List.forall_mem_cons.mpr ⟨lk_fl_3_7, List.forall_mem_cons.mpr ⟨lk_fl_3_8, List.forall_mem_cons.mpr ⟨lk_fl_3_9, List.forall_mem_cons.mpr ⟨lk_fl_3_10, List.forall_mem_cons.mpr ⟨lk_fl_3_11, List.forall_mem_cons.mpr ⟨lk_fl_3_12, List.forall_mem_cons.mpr ⟨lk_fl_3_13, fun _ h => absurd h List.not_mem_nil⟩⟩⟩⟩⟩⟩⟩⟩⟩⟩⟩⟩⟩⟩
theorem lk_fl_4_0 : (fun e : Nat × Nat × Nat => am_fl (am_own 4) e.1 e.2.1 e.2.2) (11, 4, 1) := ⟨by decide, by decide, am_in9 236 (by decide +kernel)⟩
theorem lk_fl_4_1 : (fun e : Nat × Nat × Nat => am_fl (am_own 4) e.1 e.2.1 e.2.2) (17, 4, 2) := ⟨by decide, by decide, am_in9 237 (by decide +kernel)⟩
theorem lk_fl_4_2 : (fun e : Nat × Nat × Nat => am_fl (am_own 4) e.1 e.2.1 e.2.2) (21, 4, 3) := ⟨by decide, by decide, am_in9 238 (by decide +kernel)⟩
theorem lk_fl_4_3 : (fun e : Nat × Nat × Nat => am_fl (am_own 4) e.1 e.2.1 e.2.2) (24, 4, 4) := ⟨by decide, by decide, am_in9 239 (by decide +kernel)⟩
theorem lk_fl_4_4 : (fun e : Nat × Nat × Nat => am_fl (am_own 4) e.1 e.2.1 e.2.2) (27, 4, 5) := ⟨by decide, by decide, am_in9 240 (by decide +kernel)⟩
theorem lk_fl_4_5 : (fun e : Nat × Nat × Nat => am_fl (am_own 4) e.1 e.2.1 e.2.2) (30, 4, 6) := ⟨by decide, by decide, am_in9 241 (by decide +kernel)⟩
theorem lk_fl_4_6 : (fun e : Nat × Nat × Nat => am_fl (am_own 4) e.1 e.2.1 e.2.2) (34, 4, 7) := ⟨by decide, by decide, am_in9 242 (by decide +kernel)⟩
theorem lk_fl_4_7 : (fun e : Nat × Nat × Nat => am_fl (am_own 4) e.1 e.2.1 e.2.2) (37, 4, 0) := ⟨by decide, by decide, am_in9 235 (by decide +kernel)⟩
theorem lk_fl_4_8 : (fun e : Nat × Nat × Nat => am_fl (am_own 4) e.1 e.2.1 e.2.2) (51, 6, 0) := ⟨by decide, by decide, am_in9 138 (by decide +kernel)⟩
theorem lk_fl_4 : ∀ e ∈ lk_fl 4, am_fl (am_own 4) e.1 e.2.1 e.2.2 := List.forall_mem_cons.mpr ⟨lk_fl_4_0, List.forall_mem_cons.mpr ⟨lk_fl_4_1, List.forall_mem_cons.mpr ⟨lk_fl_4_2, List.forall_mem_cons.mpr ⟨lk_fl_4_3, List.forall_mem_cons.mpr ⟨lk_fl_4_4, List.forall_mem_cons.mpr ⟨lk_fl_4_5, List.forall_mem_cons.mpr ⟨lk_fl_4_6, List.forall_mem_cons.mpr ⟨lk_fl_4_7, List.forall_mem_cons.mpr ⟨lk_fl_4_8, fun _ h => absurd h List.not_mem_nil⟩⟩⟩⟩⟩⟩⟩⟩⟩
theorem lk_fl_5_0 : (fun e : Nat × Nat × Nat => am_fl (am_own 5) e.1 e.2.1 e.2.2) (11, 5, 0) := ⟨by decide, by decide, am_in9 173 (by decide +kernel)⟩
theorem lk_fl_5_1 : (fun e : Nat × Nat × Nat => am_fl (am_own 5) e.1 e.2.1 e.2.2) (17, 5, 1) := ⟨by decide, by decide, am_in9 174 (by decide +kernel)⟩
theorem lk_fl_5_2 : (fun e : Nat × Nat × Nat => am_fl (am_own 5) e.1 e.2.1 e.2.2) (21, 5, 2) := ⟨by decide, by decide, am_in9 175 (by decide +kernel)⟩
theorem lk_fl_5 : ∀ e ∈ lk_fl 5, am_fl (am_own 5) e.1 e.2.1 e.2.2 := List.forall_mem_cons.mpr ⟨lk_fl_5_0, List.forall_mem_cons.mpr ⟨lk_fl_5_1, List.forall_mem_cons.mpr ⟨lk_fl_5_2, fun _ h => absurd h List.not_mem_nil⟩⟩⟩
theorem lk_fl_6_0 : (fun e : Nat × Nat × Nat => am_fl (am_own 6) e.1 e.2.1 e.2.2) (9, 6, 0) := ⟨by decide, by decide, am_in9 135 (by decide +kernel)⟩
theorem lk_fl_6 : ∀ e ∈ lk_fl 6, am_fl (am_own 6) e.1 e.2.1 e.2.2 := List.forall_mem_cons.mpr ⟨lk_fl_6_0, fun _ h => absurd h List.not_mem_nil⟩
theorem lk_fl_7_0 : (fun e : Nat × Nat × Nat => am_fl (am_own 7) e.1 e.2.1 e.2.2) (11, 7, 2) := ⟨by decide, by decide, am_in9 361 (by decide +kernel)⟩
theorem lk_fl_7_1 : (fun e : Nat × Nat × Nat => am_fl (am_own 7) e.1 e.2.1 e.2.2) (17, 7, 3) := ⟨by decide, by decide, am_in9 362 (by decide +kernel)⟩
theorem lk_fl_7_2 : (fun e : Nat × Nat × Nat => am_fl (am_own 7) e.1 e.2.1 e.2.2) (21, 7, 4) := ⟨by decide, by decide, am_in9 363 (by decide +kernel)⟩
theorem lk_fl_7_3 : (fun e : Nat × Nat × Nat => am_fl (am_own 7) e.1 e.2.1 e.2.2) (25, 7, 5) := ⟨by decide, by decide, am_in9 364 (by decide +kernel)⟩
theorem lk_fl_7_4 : (fun e : Nat × Nat × Nat => am_fl (am_own 7) e.1 e.2.1 e.2.2) (28, 7, 6) := ⟨by decide, by decide, am_in9 365 (by decide +kernel)⟩
theorem lk_fl_7_5 : (fun e : Nat × Nat × Nat => am_fl (am_own 7) e.1 e.2.1 e.2.2) (32, 7, 0) := ⟨by decide, by decide, am_in9 359 (by decide +kernel)⟩
theorem lk_fl_7_6 : (fun e : Nat × Nat × Nat => am_fl (am_own 7) e.1 e.2.1 e.2.2) (36, 7, 1) := ⟨by decide, by decide, am_in9 360 (by decide +kernel)⟩
theorem lk_fl_7_7 : (fun e : Nat × Nat × Nat => am_fl (am_own 7) e.1 e.2.1 e.2.2) (104, 9, 1) := ⟨by decide, by decide, am_in9 192 (by decide +kernel)⟩
theorem lk_fl_7 : ∀ e ∈ lk_fl 7, am_fl (am_own 7) e.1 e.2.1 e.2.2 := List.forall_mem_cons.mpr ⟨lk_fl_7_0, List.forall_mem_cons.mpr ⟨lk_fl_7_1, List.forall_mem_cons.mpr ⟨lk_fl_7_2, List.forall_mem_cons.mpr ⟨lk_fl_7_3, List.forall_mem_cons.mpr ⟨lk_fl_7_4, List.forall_mem_cons.mpr ⟨lk_fl_7_5, List.forall_mem_cons.mpr ⟨lk_fl_7_6, List.forall_mem_cons.mpr ⟨lk_fl_7_7, fun _ h => absurd h List.not_mem_nil⟩⟩⟩⟩⟩⟩⟩⟩
theorem lk_fl_8_0 : (fun e : Nat × Nat × Nat => am_fl (am_own 8) e.1 e.2.1 e.2.2) (11, 8, 0) := ⟨by decide, by decide, am_in9 147 (by decide +kernel)⟩
theorem lk_fl_8_1 : (fun e : Nat × Nat × Nat => am_fl (am_own 8) e.1 e.2.1 e.2.2) (19, 8, 1) := ⟨by decide, by decide, am_in9 151 (by decide +kernel)⟩
theorem lk_fl_8_2 : (fun e : Nat × Nat × Nat => am_fl (am_own 8) e.1 e.2.1 e.2.2) (22, 8, 2) := ⟨by decide, by decide, am_in9 153 (by decide +kernel)⟩
theorem lk_fl_8 : ∀ e ∈ lk_fl 8, am_fl (am_own 8) e.1 e.2.1 e.2.2 := List.forall_mem_cons.mpr ⟨lk_fl_8_0, List.forall_mem_cons.mpr ⟨lk_fl_8_1, List.forall_mem_cons.mpr ⟨lk_fl_8_2, fun _ h => absurd h List.not_mem_nil⟩⟩⟩
theorem lk_fl_9_0 : (fun e : Nat × Nat × Nat => am_fl (am_own 9) e.1 e.2.1 e.2.2) (9, 9, 0) := ⟨by decide, by decide, am_in9 190 (by decide +kernel)⟩
theorem lk_fl_9_1 : (fun e : Nat × Nat × Nat => am_fl (am_own 9) e.1 e.2.1 e.2.2) (15, 9, 1) := ⟨by decide, by decide, am_in9 191 (by decide +kernel)⟩
theorem lk_fl_9_2 : (fun e : Nat × Nat × Nat => am_fl (am_own 9) e.1 e.2.1 e.2.2) (19, 9, 2) := ⟨by decide, by decide, am_in9 194 (by decide +kernel)⟩
theorem lk_fl_9_3 : (fun e : Nat × Nat × Nat => am_fl (am_own 9) e.1 e.2.1 e.2.2) (22, 9, 3) := ⟨by decide, by decide, am_in9 195 (by decide +kernel)⟩
theorem lk_fl_9 : ∀ e ∈ lk_fl 9, am_fl (am_own 9) e.1 e.2.1 e.2.2 := List.forall_mem_cons.mpr ⟨lk_fl_9_0, List.forall_mem_cons.mpr ⟨lk_fl_9_1, List.forall_mem_cons.mpr ⟨lk_fl_9_2, List.forall_mem_cons.mpr ⟨lk_fl_9_3, fun _ h => absurd h List.not_mem_nil⟩⟩⟩⟩
theorem lk_fl_10_0 : (fun e : Nat × Nat × Nat => am_fl (am_own 10) e.1 e.2.1 e.2.2) (9, 10, 0) := ⟨by decide, by decide, am_in9 387 (by decide +kernel)⟩
theorem lk_fl_10_1 : (fun e : Nat × Nat × Nat => am_fl (am_own 10) e.1 e.2.1 e.2.2) (15, 10, 1) := ⟨by decide, by decide, am_in9 388 (by decide +kernel)⟩
theorem lk_fl_10_2 : (fun e : Nat × Nat × Nat => am_fl (am_own 10) e.1 e.2.1 e.2.2) (29, 6, 0) := ⟨by decide, by decide, am_in9 136 (by decide +kernel)⟩
theorem lk_fl_10 : ∀ e ∈ lk_fl 10, am_fl (am_own 10) e.1 e.2.1 e.2.2 := List.forall_mem_cons.mpr ⟨lk_fl_10_0, List.forall_mem_cons.mpr ⟨lk_fl_10_1, List.forall_mem_cons.mpr ⟨lk_fl_10_2, fun _ h => absurd h List.not_mem_nil⟩⟩⟩
theorem lk_fl_11_0 : (fun e : Nat × Nat × Nat => am_fl (am_own 11) e.1 e.2.1 e.2.2) (10, 11, 0) := ⟨by decide, by decide, am_in9 396 (by decide +kernel)⟩
theorem lk_fl_11_1 : (fun e : Nat × Nat × Nat => am_fl (am_own 11) e.1 e.2.1 e.2.2) (19, 11, 1) := ⟨by decide, by decide, am_in9 397 (by decide +kernel)⟩
theorem lk_fl_11_2 : (fun e : Nat × Nat × Nat => am_fl (am_own 11) e.1 e.2.1 e.2.2) (26, 11, 2) := ⟨by decide, by decide, am_in9 398 (by decide +kernel)⟩
theorem lk_fl_11_3 : (fun e : Nat × Nat × Nat => am_fl (am_own 11) e.1 e.2.1 e.2.2) (33, 11, 3) := ⟨by decide, by decide, am_in9 399 (by decide +kernel)⟩
theorem lk_fl_11_4 : (fun e : Nat × Nat × Nat => am_fl (am_own 11) e.1 e.2.1 e.2.2) (42, 11, 4) := ⟨by decide, by decide, am_in9 400 (by decide +kernel)⟩
theorem lk_fl_11_5 : (fun e : Nat × Nat × Nat => am_fl (am_own 11) e.1 e.2.1 e.2.2) (51, 11, 5) := ⟨by decide, by decide, am_in9 401 (by decide +kernel)⟩
theorem lk_fl_11_6 : (fun e : Nat × Nat × Nat => am_fl (am_own 11) e.1 e.2.1 e.2.2) (58, 11, 6) := ⟨by decide, by decide, am_in9 402 (by decide +kernel)⟩
theorem lk_fl_11_7 : (fun e : Nat × Nat × Nat => am_fl (am_own 11) e.1 e.2.1 e.2.2) (67, 11, 7) := ⟨by decide, by decide, am_in9 403 (by decide +kernel)⟩
theorem lk_fl_11_8 : (fun e : Nat × Nat × Nat => am_fl (am_own 11) e.1 e.2.1 e.2.2) (74, 11, 8) := ⟨by decide, by decide, am_in9 404 (by decide +kernel)⟩
theorem lk_fl_11_9 : (fun e : Nat × Nat × Nat => am_fl (am_own 11) e.1 e.2.1 e.2.2) (81, 11, 9) := ⟨by decide, by decide, am_in9 405 (by decide +kernel)⟩
theorem lk_fl_11_10 : (fun e : Nat × Nat × Nat => am_fl (am_own 11) e.1 e.2.1 e.2.2) (85, 11, 10) := ⟨by decide, by decide, am_in9 406 (by decide +kernel)⟩
theorem lk_fl_11_11 : (fun e : Nat × Nat × Nat => am_fl (am_own 11) e.1 e.2.1 e.2.2) (89, 11, 11) := ⟨by decide, by decide, am_in9 407 (by decide +kernel)⟩
theorem lk_fl_11_12 : (fun e : Nat × Nat × Nat => am_fl (am_own 11) e.1 e.2.1 e.2.2) (92, 11, 12) := ⟨by decide, by decide, am_in9 408 (by decide +kernel)⟩
theorem lk_fl_11_13 : (fun e : Nat × Nat × Nat => am_fl (am_own 11) e.1 e.2.1 e.2.2) (111, 8, 0) := ⟨by decide, by decide, am_in9 148 (by decide +kernel)⟩
theorem lk_fl_11_14 : (fun e : Nat × Nat × Nat => am_fl (am_own 11) e.1 e.2.1 e.2.2) (163, 8, 2) := ⟨by decide, by decide, am_in9 156 (by decide +kernel)⟩
theorem lk_fl_11_15 : (fun e : Nat × Nat × Nat => am_fl (am_own 11) e.1 e.2.1 e.2.2) (175, 8, 1) := ⟨by decide, by decide, am_in9 152 (by decide +kernel)⟩
theorem lk_fl_11_16 : (fun e : Nat × Nat × Nat => am_fl (am_own 11) e.1 e.2.1 e.2.2) (187, 0, 2) := ⟨by decide, by decide, am_in9 343 (by decide +kernel)⟩
theorem lk_fl_11_17 : (fun e : Nat × Nat × Nat => am_fl (am_own 11) e.1 e.2.1 e.2.2) (239, 2, 5) := ⟨by decide, by decide, am_in9 283 (by decide +kernel)⟩
theorem lk_fl_11_18 : (fun e : Nat × Nat × Nat => am_fl (am_own 11) e.1 e.2.1 e.2.2) (244, 2, 0) := ⟨by decide, by decide, am_in9 277 (by decide +kernel)⟩
theorem lk_fl_11_19 : (fun e : Nat × Nat × Nat => am_fl (am_own 11) e.1 e.2.1 e.2.2) (250, 9, 1) := ⟨by decide, by decide, am_in9 193 (by decide +kernel)⟩
theorem lk_fl_11_20 : (fun e : Nat × Nat × Nat => am_fl (am_own 11) e.1 e.2.1 e.2.2) (267, 5, 2) := ⟨by decide, by decide, am_in9 176 (by decide +kernel)⟩
theorem lk_fl_11_21 : (fun e : Nat × Nat × Nat => am_fl (am_own 11) e.1 e.2.1 e.2.2) (280, 6, 0) := ⟨by decide, by decide, am_in9 142 (by decide +kernel)⟩
theorem lk_fl_11 : ∀ e ∈ lk_fl 11, am_fl (am_own 11) e.1 e.2.1 e.2.2 := List.forall_mem_cons.mpr ⟨lk_fl_11_0, List.forall_mem_cons.mpr ⟨lk_fl_11_1, List.forall_mem_cons.mpr ⟨lk_fl_11_2, List.forall_mem_cons.mpr ⟨lk_fl_11_3, List.forall_mem_cons.mpr ⟨lk_fl_11_4, List.forall_mem_cons.mpr ⟨lk_fl_11_5, List.forall_mem_cons.mpr ⟨lk_fl_11_6, List.forall_mem_cons.mpr ⟨lk_fl_11_7, List.forall_mem_cons.mpr ⟨lk_fl_11_8, List.forall_mem_cons.mpr ⟨lk_fl_11_9, List.forall_mem_cons.mpr ⟨lk_fl_11_10, List.forall_mem_cons.mpr ⟨lk_fl_11_11, List.forall_mem_cons.mpr ⟨lk_fl_11_12, List.forall_mem_cons.mpr ⟨lk_fl_11_13, List.forall_mem_cons.mpr ⟨lk_fl_11_14, List.forall_mem_cons.mpr ⟨lk_fl_11_15, List.forall_mem_cons.mpr ⟨lk_fl_11_16, List.forall_mem_cons.mpr ⟨lk_fl_11_17, List.forall_mem_cons.mpr ⟨lk_fl_11_18, List.forall_mem_cons.mpr ⟨lk_fl_11_19, List.forall_mem_cons.mpr ⟨lk_fl_11_20, List.forall_mem_cons.mpr ⟨lk_fl_11_21, fun _ h => absurd h List.not_mem_nil⟩⟩⟩⟩⟩⟩⟩⟩⟩⟩⟩⟩⟩⟩⟩⟩⟩⟩⟩⟩⟩⟩
theorem lk_fl_12_0 : (fun e : Nat × Nat × Nat => am_fl (am_own 12) e.1 e.2.1 e.2.2) (7, 12, 0) := ⟨by decide, by decide, am_in9 990 (by decide +kernel)⟩
theorem lk_fl_12_1 : (fun e : Nat × Nat × Nat => am_fl (am_own 12) e.1 e.2.1 e.2.2) (13, 12, 1) := ⟨by decide, by decide, am_in9 991 (by decide +kernel)⟩
theorem lk_fl_12_2 : (fun e : Nat × Nat × Nat => am_fl (am_own 12) e.1 e.2.1 e.2.2) (16, 12, 3) := ⟨by decide, by decide, am_in9 993 (by decide +kernel)⟩
theorem lk_fl_12_3 : (fun e : Nat × Nat × Nat => am_fl (am_own 12) e.1 e.2.1 e.2.2) (19, 12, 4) := ⟨by decide, by decide, am_in9 994 (by decide +kernel)⟩
theorem lk_fl_12_4 : (fun e : Nat × Nat × Nat => am_fl (am_own 12) e.1 e.2.1 e.2.2) (22, 12, 6) := ⟨by decide, by decide, am_in9 996 (by decide +kernel)⟩
theorem lk_fl_12_5 : (fun e : Nat × Nat × Nat => am_fl (am_own 12) e.1 e.2.1 e.2.2) (25, 12, 7) := ⟨by decide, by decide, am_in9 997 (by decide +kernel)⟩
theorem lk_fl_12_6 : (fun e : Nat × Nat × Nat => am_fl (am_own 12) e.1 e.2.1 e.2.2) (28, 12, 8) := ⟨by decide, by decide, am_in9 998 (by decide +kernel)⟩
theorem lk_fl_12_7 : (fun e : Nat × Nat × Nat => am_fl (am_own 12) e.1 e.2.1 e.2.2) (31, 12, 9) := ⟨by decide, by decide, am_in9 999 (by decide +kernel)⟩
theorem lk_fl_12_8 : (fun e : Nat × Nat × Nat => am_fl (am_own 12) e.1 e.2.1 e.2.2) (34, 12, 10) := ⟨by decide, by decide, am_in9 1000 (by decide +kernel)⟩
theorem lk_fl_12_9 : (fun e : Nat × Nat × Nat => am_fl (am_own 12) e.1 e.2.1 e.2.2) (37, 12, 11) := ⟨by decide, by decide, am_in9 1001 (by decide +kernel)⟩
theorem lk_fl_12_10 : (fun e : Nat × Nat × Nat => am_fl (am_own 12) e.1 e.2.1 e.2.2) (40, 12, 12) := ⟨by decide, by decide, am_in9 1002 (by decide +kernel)⟩
theorem lk_fl_12_11 : (fun e : Nat × Nat × Nat => am_fl (am_own 12) e.1 e.2.1 e.2.2) (43, 12, 14) := ⟨by decide, by decide, am_in9 1004 (by decide +kernel)⟩
theorem lk_fl_12_12 : (fun e : Nat × Nat × Nat => am_fl (am_own 12) e.1 e.2.1 e.2.2) (46, 12, 15) := ⟨by decide, by decide, am_in9 1005 (by decide +kernel)⟩
theorem lk_fl_12_13 : (fun e : Nat × Nat × Nat => am_fl (am_own 12) e.1 e.2.1 e.2.2) (49, 12, 25) := ⟨by decide, by decide, am_in9 1015 (by decide +kernel)⟩
theorem lk_fl_12_14 : (fun e : Nat × Nat × Nat => am_fl (am_own 12) e.1 e.2.1 e.2.2) (53, 12, 26) := ⟨by decide, by decide, am_in9 1016 (by decide +kernel)⟩
theorem lk_fl_12_15 : (fun e : Nat × Nat × Nat => am_fl (am_own 12) e.1 e.2.1 e.2.2) (56, 12, 28) := ⟨by decide, by decide, am_in9 1018 (by decide +kernel)⟩
theorem lk_fl_12_16 : (fun e : Nat × Nat × Nat => am_fl (am_own 12) e.1 e.2.1 e.2.2) (63, 12, 17) := ⟨by decide, by decide, am_in9 1007 (by decide +kernel)⟩
theorem lk_fl_12_17 : (fun e : Nat × Nat × Nat => am_fl (am_own 12) e.1 e.2.1 e.2.2) (67, 12, 2) := ⟨by decide, by decide, am_in9 992 (by decide +kernel)⟩
theorem lk_fl_12_18 : (fun e : Nat × Nat × Nat => am_fl (am_own 12) e.1 e.2.1 e.2.2) (189, 12, 13) := ⟨by decide, by decide, am_in9 1003 (by decide +kernel)⟩
theorem lk_fl_12_19 : (fun e : Nat × Nat × Nat => am_fl (am_own 12) e.1 e.2.1 e.2.2) (207, 12, 16) := ⟨by decide, by decide, am_in9 1006 (by decide +kernel)⟩
theorem lk_fl_12_20 : (fun e : Nat × Nat × Nat => am_fl (am_own 12) e.1 e.2.1 e.2.2) (248, 12, 5) := ⟨by decide, by decide, am_in9 995 (by decide +kernel)⟩
theorem lk_fl_12_21 : (fun e : Nat × Nat × Nat => am_fl (am_own 12) e.1 e.2.1 e.2.2) (251, 12, 18) := ⟨by decide, by decide, am_in9 1008 (by decide +kernel)⟩
theorem lk_fl_12_22 : (fun e : Nat × Nat × Nat => am_fl (am_own 12) e.1 e.2.1 e.2.2) (257, 12, 19) := ⟨by decide, by decide, am_in9 1009 (by decide +kernel)⟩
theorem lk_fl_12_23 : (fun e : Nat × Nat × Nat => am_fl (am_own 12) e.1 e.2.1 e.2.2) (260, 12, 21) := ⟨by decide, by decide, am_in9 1011 (by decide +kernel)⟩
theorem lk_fl_12_24 : (fun e : Nat × Nat × Nat => am_fl (am_own 12) e.1 e.2.1 e.2.2) (264, 12, 22) := ⟨by decide, by decide, am_in9 1012 (by decide +kernel)⟩
theorem lk_fl_12_25 : (fun e : Nat × Nat × Nat => am_fl (am_own 12) e.1 e.2.1 e.2.2) (267, 12, 20) := ⟨by decide, by decide, am_in9 1010 (by decide +kernel)⟩
theorem lk_fl_12_26 : (fun e : Nat × Nat × Nat => am_fl (am_own 12) e.1 e.2.1 e.2.2) (270, 12, 23) := ⟨by decide, by decide, am_in9 1013 (by decide +kernel)⟩
theorem lk_fl_12_27 : (fun e : Nat × Nat × Nat => am_fl (am_own 12) e.1 e.2.1 e.2.2) (273, 12, 24) := ⟨by decide, by decide, am_in9 1014 (by decide +kernel)⟩
theorem lk_fl_12_28 : (fun e : Nat × Nat × Nat => am_fl (am_own 12) e.1 e.2.1 e.2.2) (276, 12, 27) := ⟨by decide, by decide, am_in9 1017 (by decide +kernel)⟩
theorem lk_fl_12_29 : (fun e : Nat × Nat × Nat => am_fl (am_own 12) e.1 e.2.1 e.2.2) (313, 12, 29) := ⟨by decide, by decide, am_in9 1019 (by decide +kernel)⟩
theorem lk_fl_12_30 : (fun e : Nat × Nat × Nat => am_fl (am_own 12) e.1 e.2.1 e.2.2) (336, 12, 30) := ⟨by decide, by decide, am_in9 1020 (by decide +kernel)⟩
theorem lk_fl_12 : ∀ e ∈ lk_fl 12, am_fl (am_own 12) e.1 e.2.1 e.2.2 := List.forall_mem_cons.mpr ⟨lk_fl_12_0, List.forall_mem_cons.mpr ⟨lk_fl_12_1, List.forall_mem_cons.mpr ⟨lk_fl_12_2, List.forall_mem_cons.mpr ⟨lk_fl_12_3, List.forall_mem_cons.mpr ⟨lk_fl_12_4, List.forall_mem_cons.mpr ⟨lk_fl_12_5, List.forall_mem_cons.mpr ⟨lk_fl_12_6, List.forall_mem_cons.mpr ⟨lk_fl_12_7, List.forall_mem_cons.mpr ⟨lk_fl_12_8, List.forall_mem_cons.mpr ⟨lk_fl_12_9, List.forall_mem_cons.mpr ⟨lk_fl_12_10, List.forall_mem_cons.mpr ⟨lk_fl_12_11, List.forall_mem_cons.mpr ⟨lk_fl_12_12, List.forall_mem_cons.mpr ⟨lk_fl_12_13, List.forall_mem_cons.mpr ⟨lk_fl_12_14, List.forall_mem_cons.mpr ⟨lk_fl_12_15, List.forall_mem_cons.mpr ⟨lk_fl_12_16, List.forall_mem_cons.mpr ⟨lk_fl_12_17, List.forall_mem_cons.mpr ⟨lk_fl_12_18, List.forall_mem_cons.mpr ⟨lk_fl_12_19, List.forall_mem_cons.mpr ⟨lk_fl_12_20, List.forall_mem_cons.mpr ⟨lk_fl_12_21, List.forall_mem_cons.mpr ⟨lk_fl_12_22, List.forall_mem_cons.mpr ⟨lk_fl_12_23, List.forall_mem_cons.mpr ⟨lk_fl_12_24, List.forall_mem_cons.mpr ⟨lk_fl_12_25, List.forall_mem_cons.mpr ⟨lk_fl_12_26, List.forall_mem_cons.mpr ⟨lk_fl_12_27, List.forall_mem_cons.mpr ⟨lk_fl_12_28, List.forall_mem_cons.mpr ⟨lk_fl_12_29, List.forall_mem_cons.mpr ⟨lk_fl_12_30, fun _ h => absurd h List.not_mem_nil⟩⟩⟩⟩⟩⟩⟩⟩⟩⟩⟩⟩⟩⟩⟩⟩⟩⟩⟩⟩⟩⟩⟩⟩⟩⟩⟩⟩⟩⟩⟩
theorem lk_fl_ok : ∀ o, ∀ e ∈ lk_fl o, am_fl (am_own o) e.1 e.2.1 e.2.2 := by
  intro o e he
  unfold lk_fl at he
  split at he
  · exact lk_fl_0 e he
  · exact lk_fl_1 e he
  · exact lk_fl_2 e he
  · exact lk_fl_3 e he
  · exact lk_fl_4 e he
  · exact lk_fl_5 e he
  · exact lk_fl_6 e he
  · exact lk_fl_7 e he
  · exact lk_fl_8 e he
  · exact lk_fl_9 e he
  · exact lk_fl_10 e he
  · exact lk_fl_11 e he
  · exact lk_fl_12 e he
  · cases he
def lk_gs (o : Nat) : List (Nat × Nat) := match o with
  | 0 => [(30, 2), (38, 1)]
  | 1 => [(54, 1), (57, 2)]
  | 2 => [(52, 1), (55, 2)]
  | 3 => [(129, 1), (132, 2)]
  | 4 => [(45, 1), (48, 2)]
  | 6 => [(19, 1), (22, 2)]
  | 10 => [(54, 1), (57, 2)]
  | _ => []
theorem lk_gs_0_0 : (fun e : Nat × Nat => (e.2 = 1 ∧ Cond.fieldLink (am_own 0) e.1 "WeylWords$Operator" "X_AT" "[I" ∈ lw_tbl) ∨ (e.2 = 2 ∧ Cond.fieldLink (am_own 0) e.1 "WeylWords$Operator" "D_AT" "[I" ∈ lw_tbl)) (30, 2) := Or.inr ⟨rfl, am_in9 651 (by decide +kernel)⟩
theorem lk_gs_0_1 : (fun e : Nat × Nat => (e.2 = 1 ∧ Cond.fieldLink (am_own 0) e.1 "WeylWords$Operator" "X_AT" "[I" ∈ lw_tbl) ∨ (e.2 = 2 ∧ Cond.fieldLink (am_own 0) e.1 "WeylWords$Operator" "D_AT" "[I" ∈ lw_tbl)) (38, 1) := Or.inl ⟨rfl, am_in9 652 (by decide +kernel)⟩
theorem lk_gs_0 : ∀ e ∈ lk_gs 0, (e.2 = 1 ∧ Cond.fieldLink (am_own 0) e.1 "WeylWords$Operator" "X_AT" "[I" ∈ lw_tbl) ∨ (e.2 = 2 ∧ Cond.fieldLink (am_own 0) e.1 "WeylWords$Operator" "D_AT" "[I" ∈ lw_tbl) := List.forall_mem_cons.mpr ⟨lk_gs_0_0, List.forall_mem_cons.mpr ⟨lk_gs_0_1, fun _ h => absurd h List.not_mem_nil⟩⟩
theorem lk_gs_1_0 : (fun e : Nat × Nat => (e.2 = 1 ∧ Cond.fieldLink (am_own 1) e.1 "WeylWords$Operator" "X_AT" "[I" ∈ lw_tbl) ∨ (e.2 = 2 ∧ Cond.fieldLink (am_own 1) e.1 "WeylWords$Operator" "D_AT" "[I" ∈ lw_tbl)) (54, 1) := Or.inl ⟨rfl, am_in9 558 (by decide +kernel)⟩
theorem lk_gs_1_1 : (fun e : Nat × Nat => (e.2 = 1 ∧ Cond.fieldLink (am_own 1) e.1 "WeylWords$Operator" "X_AT" "[I" ∈ lw_tbl) ∨ (e.2 = 2 ∧ Cond.fieldLink (am_own 1) e.1 "WeylWords$Operator" "D_AT" "[I" ∈ lw_tbl)) (57, 2) := Or.inr ⟨rfl, am_in9 559 (by decide +kernel)⟩
theorem lk_gs_1 : ∀ e ∈ lk_gs 1, (e.2 = 1 ∧ Cond.fieldLink (am_own 1) e.1 "WeylWords$Operator" "X_AT" "[I" ∈ lw_tbl) ∨ (e.2 = 2 ∧ Cond.fieldLink (am_own 1) e.1 "WeylWords$Operator" "D_AT" "[I" ∈ lw_tbl) := List.forall_mem_cons.mpr ⟨lk_gs_1_0, List.forall_mem_cons.mpr ⟨lk_gs_1_1, fun _ h => absurd h List.not_mem_nil⟩⟩
theorem lk_gs_2_0 : (fun e : Nat × Nat => (e.2 = 1 ∧ Cond.fieldLink (am_own 2) e.1 "WeylWords$Operator" "X_AT" "[I" ∈ lw_tbl) ∨ (e.2 = 2 ∧ Cond.fieldLink (am_own 2) e.1 "WeylWords$Operator" "D_AT" "[I" ∈ lw_tbl)) (52, 1) := Or.inl ⟨rfl, am_in9 821 (by decide +kernel)⟩
theorem lk_gs_2_1 : (fun e : Nat × Nat => (e.2 = 1 ∧ Cond.fieldLink (am_own 2) e.1 "WeylWords$Operator" "X_AT" "[I" ∈ lw_tbl) ∨ (e.2 = 2 ∧ Cond.fieldLink (am_own 2) e.1 "WeylWords$Operator" "D_AT" "[I" ∈ lw_tbl)) (55, 2) := Or.inr ⟨rfl, am_in9 822 (by decide +kernel)⟩
theorem lk_gs_2 : ∀ e ∈ lk_gs 2, (e.2 = 1 ∧ Cond.fieldLink (am_own 2) e.1 "WeylWords$Operator" "X_AT" "[I" ∈ lw_tbl) ∨ (e.2 = 2 ∧ Cond.fieldLink (am_own 2) e.1 "WeylWords$Operator" "D_AT" "[I" ∈ lw_tbl) := List.forall_mem_cons.mpr ⟨lk_gs_2_0, List.forall_mem_cons.mpr ⟨lk_gs_2_1, fun _ h => absurd h List.not_mem_nil⟩⟩
theorem lk_gs_3_0 : (fun e : Nat × Nat => (e.2 = 1 ∧ Cond.fieldLink (am_own 3) e.1 "WeylWords$Operator" "X_AT" "[I" ∈ lw_tbl) ∨ (e.2 = 2 ∧ Cond.fieldLink (am_own 3) e.1 "WeylWords$Operator" "D_AT" "[I" ∈ lw_tbl)) (129, 1) := Or.inl ⟨rfl, am_in9 774 (by decide +kernel)⟩
theorem lk_gs_3_1 : (fun e : Nat × Nat => (e.2 = 1 ∧ Cond.fieldLink (am_own 3) e.1 "WeylWords$Operator" "X_AT" "[I" ∈ lw_tbl) ∨ (e.2 = 2 ∧ Cond.fieldLink (am_own 3) e.1 "WeylWords$Operator" "D_AT" "[I" ∈ lw_tbl)) (132, 2) := Or.inr ⟨rfl, am_in9 775 (by decide +kernel)⟩
theorem lk_gs_3 : ∀ e ∈ lk_gs 3, (e.2 = 1 ∧ Cond.fieldLink (am_own 3) e.1 "WeylWords$Operator" "X_AT" "[I" ∈ lw_tbl) ∨ (e.2 = 2 ∧ Cond.fieldLink (am_own 3) e.1 "WeylWords$Operator" "D_AT" "[I" ∈ lw_tbl) := List.forall_mem_cons.mpr ⟨lk_gs_3_0, List.forall_mem_cons.mpr ⟨lk_gs_3_1, fun _ h => absurd h List.not_mem_nil⟩⟩
theorem lk_gs_4_0 : (fun e : Nat × Nat => (e.2 = 1 ∧ Cond.fieldLink (am_own 4) e.1 "WeylWords$Operator" "X_AT" "[I" ∈ lw_tbl) ∨ (e.2 = 2 ∧ Cond.fieldLink (am_own 4) e.1 "WeylWords$Operator" "D_AT" "[I" ∈ lw_tbl)) (45, 1) := Or.inl ⟨rfl, am_in9 713 (by decide +kernel)⟩
theorem lk_gs_4_1 : (fun e : Nat × Nat => (e.2 = 1 ∧ Cond.fieldLink (am_own 4) e.1 "WeylWords$Operator" "X_AT" "[I" ∈ lw_tbl) ∨ (e.2 = 2 ∧ Cond.fieldLink (am_own 4) e.1 "WeylWords$Operator" "D_AT" "[I" ∈ lw_tbl)) (48, 2) := Or.inr ⟨rfl, am_in9 714 (by decide +kernel)⟩
theorem lk_gs_4 : ∀ e ∈ lk_gs 4, (e.2 = 1 ∧ Cond.fieldLink (am_own 4) e.1 "WeylWords$Operator" "X_AT" "[I" ∈ lw_tbl) ∨ (e.2 = 2 ∧ Cond.fieldLink (am_own 4) e.1 "WeylWords$Operator" "D_AT" "[I" ∈ lw_tbl) := List.forall_mem_cons.mpr ⟨lk_gs_4_0, List.forall_mem_cons.mpr ⟨lk_gs_4_1, fun _ h => absurd h List.not_mem_nil⟩⟩
theorem lk_gs_6_0 : (fun e : Nat × Nat => (e.2 = 1 ∧ Cond.fieldLink (am_own 6) e.1 "WeylWords$Operator" "X_AT" "[I" ∈ lw_tbl) ∨ (e.2 = 2 ∧ Cond.fieldLink (am_own 6) e.1 "WeylWords$Operator" "D_AT" "[I" ∈ lw_tbl)) (19, 1) := Or.inl ⟨rfl, am_in9 541 (by decide +kernel)⟩
theorem lk_gs_6_1 : (fun e : Nat × Nat => (e.2 = 1 ∧ Cond.fieldLink (am_own 6) e.1 "WeylWords$Operator" "X_AT" "[I" ∈ lw_tbl) ∨ (e.2 = 2 ∧ Cond.fieldLink (am_own 6) e.1 "WeylWords$Operator" "D_AT" "[I" ∈ lw_tbl)) (22, 2) := Or.inr ⟨rfl, am_in9 543 (by decide +kernel)⟩
theorem lk_gs_6 : ∀ e ∈ lk_gs 6, (e.2 = 1 ∧ Cond.fieldLink (am_own 6) e.1 "WeylWords$Operator" "X_AT" "[I" ∈ lw_tbl) ∨ (e.2 = 2 ∧ Cond.fieldLink (am_own 6) e.1 "WeylWords$Operator" "D_AT" "[I" ∈ lw_tbl) := List.forall_mem_cons.mpr ⟨lk_gs_6_0, List.forall_mem_cons.mpr ⟨lk_gs_6_1, fun _ h => absurd h List.not_mem_nil⟩⟩
theorem lk_gs_10_0 : (fun e : Nat × Nat => (e.2 = 1 ∧ Cond.fieldLink (am_own 10) e.1 "WeylWords$Operator" "X_AT" "[I" ∈ lw_tbl) ∨ (e.2 = 2 ∧ Cond.fieldLink (am_own 10) e.1 "WeylWords$Operator" "D_AT" "[I" ∈ lw_tbl)) (54, 1) := Or.inl ⟨rfl, am_in9 953 (by decide +kernel)⟩
theorem lk_gs_10_1 : (fun e : Nat × Nat => (e.2 = 1 ∧ Cond.fieldLink (am_own 10) e.1 "WeylWords$Operator" "X_AT" "[I" ∈ lw_tbl) ∨ (e.2 = 2 ∧ Cond.fieldLink (am_own 10) e.1 "WeylWords$Operator" "D_AT" "[I" ∈ lw_tbl)) (57, 2) := Or.inr ⟨rfl, am_in9 954 (by decide +kernel)⟩
theorem lk_gs_10 : ∀ e ∈ lk_gs 10, (e.2 = 1 ∧ Cond.fieldLink (am_own 10) e.1 "WeylWords$Operator" "X_AT" "[I" ∈ lw_tbl) ∨ (e.2 = 2 ∧ Cond.fieldLink (am_own 10) e.1 "WeylWords$Operator" "D_AT" "[I" ∈ lw_tbl) := List.forall_mem_cons.mpr ⟨lk_gs_10_0, List.forall_mem_cons.mpr ⟨lk_gs_10_1, fun _ h => absurd h List.not_mem_nil⟩⟩
theorem lk_gs_ok : ∀ o, ∀ e ∈ lk_gs o, (e.2 = 1 ∧ Cond.fieldLink (am_own o) e.1 "WeylWords$Operator" "X_AT" "[I" ∈ lw_tbl) ∨ (e.2 = 2 ∧ Cond.fieldLink (am_own o) e.1 "WeylWords$Operator" "D_AT" "[I" ∈ lw_tbl) := by
  intro o e he
  unfold lk_gs at he
  split at he
  · exact lk_gs_0 e he
  · exact lk_gs_1 e he
  · exact lk_gs_2 e he
  · exact lk_gs_3 e he
  · exact lk_gs_4 e he
  · exact lk_gs_6 e he
  · exact lk_gs_10 e he
  · cases he
def lk_ld (o : Nat) : List (Nat × Nat) := match o with
  | 3 => [(92, 100000)]
  | _ => []
theorem lk_ld_3_0 : (fun e : Nat × Nat => Cond.constant (am_own 3) e.1 (Int32.ofInt e.2) ∈ lw_tbl) (92, 100000) := am_in9 760 (by decide +kernel)
theorem lk_ld_3 : ∀ e ∈ lk_ld 3, Cond.constant (am_own 3) e.1 (Int32.ofInt e.2) ∈ lw_tbl := List.forall_mem_cons.mpr ⟨lk_ld_3_0, fun _ h => absurd h List.not_mem_nil⟩
theorem lk_ld_ok : ∀ o, ∀ e ∈ lk_ld o, Cond.constant (am_own o) e.1 (Int32.ofInt e.2) ∈ lw_tbl := by
  intro o e he
  unfold lk_ld at he
  split at he
  · exact lk_ld_3 e he
  · cases he
def lk_l2 (o : Nat) : List (Nat × Nat) := match o with
  | 11 => [(273, 2339), (275, 31)]
  | 12 => [(334, 31), (340, 2339)]
  | _ => []
theorem lk_l2_11_0 : (fun e : Nat × Nat => Cond.constantLong (am_own 11) e.1 (Int64.ofNat e.2) ∈ lw_tbl) (273, 2339) := am_in9 975 (by decide +kernel)
theorem lk_l2_11_1 : (fun e : Nat × Nat => Cond.constantLong (am_own 11) e.1 (Int64.ofNat e.2) ∈ lw_tbl) (275, 31) := am_in9 976 (by decide +kernel)
theorem lk_l2_11 : ∀ e ∈ lk_l2 11, Cond.constantLong (am_own 11) e.1 (Int64.ofNat e.2) ∈ lw_tbl := List.forall_mem_cons.mpr ⟨lk_l2_11_0, List.forall_mem_cons.mpr ⟨lk_l2_11_1, fun _ h => absurd h List.not_mem_nil⟩⟩
theorem lk_l2_12_0 : (fun e : Nat × Nat => Cond.constantLong (am_own 12) e.1 (Int64.ofNat e.2) ∈ lw_tbl) (334, 31) := am_in9 1467 (by decide +kernel)
theorem lk_l2_12_1 : (fun e : Nat × Nat => Cond.constantLong (am_own 12) e.1 (Int64.ofNat e.2) ∈ lw_tbl) (340, 2339) := am_in9 1462 (by decide +kernel)
theorem lk_l2_12 : ∀ e ∈ lk_l2 12, Cond.constantLong (am_own 12) e.1 (Int64.ofNat e.2) ∈ lw_tbl := List.forall_mem_cons.mpr ⟨lk_l2_12_0, List.forall_mem_cons.mpr ⟨lk_l2_12_1, fun _ h => absurd h List.not_mem_nil⟩⟩
theorem lk_l2_ok : ∀ o, ∀ e ∈ lk_l2 o, Cond.constantLong (am_own o) e.1 (Int64.ofNat e.2) ∈ lw_tbl := by
  intro o e he
  unfold lk_l2 at he
  split at he
  · exact lk_l2_11 e he
  · exact lk_l2_12 e he
  · cases he
def lk_mu (o : Nat) : List (Nat) := match o with
  | 0 => [9]
  | 1 => [9]
  | 8 => [17]
  | _ => []
theorem lk_mu_0_0 : (fun e : Nat => Cond.classLink (am_own 0) e "[[I" ∈ lw_tbl) 9 := am_in9 339 (by decide +kernel)
theorem lk_mu_0 : ∀ e ∈ lk_mu 0, Cond.classLink (am_own 0) e "[[I" ∈ lw_tbl := List.forall_mem_cons.mpr ⟨lk_mu_0_0, fun _ h => absurd h List.not_mem_nil⟩
theorem lk_mu_1_0 : (fun e : Nat => Cond.classLink (am_own 1) e "[[I" ∈ lw_tbl) 9 := am_in9 211 (by decide +kernel)
theorem lk_mu_1 : ∀ e ∈ lk_mu 1, Cond.classLink (am_own 1) e "[[I" ∈ lw_tbl := List.forall_mem_cons.mpr ⟨lk_mu_1_0, fun _ h => absurd h List.not_mem_nil⟩
theorem lk_mu_8_0 : (fun e : Nat => Cond.classLink (am_own 8) e "[[I" ∈ lw_tbl) 17 := am_in9 128 (by decide +kernel)
theorem lk_mu_8 : ∀ e ∈ lk_mu 8, Cond.classLink (am_own 8) e "[[I" ∈ lw_tbl := List.forall_mem_cons.mpr ⟨lk_mu_8_0, fun _ h => absurd h List.not_mem_nil⟩
theorem lk_mu_ok : ∀ o, ∀ e ∈ lk_mu o, Cond.classLink (am_own o) e "[[I" ∈ lw_tbl := by
  intro o e he
  unfold lk_mu at he
  split at he
  · exact lk_mu_0 e he
  · exact lk_mu_1 e he
  · exact lk_mu_8 e he
  · cases he
def lk_nw (o : Nat) : List (Nat × Nat) := match o with
  | 1 => [(19, 6)]
  | 2 => [(11, 6)]
  | 3 => [(11, 2), (21, 6)]
  | 4 => [(9, 6)]
  | 5 => [(9, 8)]
  | 7 => [(9, 6)]
  | 8 => [(9, 6)]
  | 11 => [(7, 8), (16, 5), (23, 9), (30, 1), (37, 4), (46, 3), (55, 0), (62, 7), (71, 10), (78, 6)]
  | 15 => [(7, 11), (10, 12)]
  | _ => []
theorem lk_nw_1_0 : (fun e : Nat × Nat => e.2 < 13 ∧ Cond.classLink (am_own 1) e.1 (am_q e.2).1 ∈ lw_tbl) (19, 6) := ⟨by decide, am_in9 212 (by decide +kernel)⟩
theorem lk_nw_1 : ∀ e ∈ lk_nw 1, e.2 < 13 ∧ Cond.classLink (am_own 1) e.1 (am_q e.2).1 ∈ lw_tbl := List.forall_mem_cons.mpr ⟨lk_nw_1_0, fun _ h => absurd h List.not_mem_nil⟩
theorem lk_nw_2_0 : (fun e : Nat × Nat => e.2 < 13 ∧ Cond.classLink (am_own 2) e.1 (am_q e.2).1 ∈ lw_tbl) (11, 6) := ⟨by decide, am_in9 274 (by decide +kernel)⟩
theorem lk_nw_2 : ∀ e ∈ lk_nw 2, e.2 < 13 ∧ Cond.classLink (am_own 2) e.1 (am_q e.2).1 ∈ lw_tbl := List.forall_mem_cons.mpr ⟨lk_nw_2_0, fun _ h => absurd h List.not_mem_nil⟩
theorem lk_nw_3_0 : (fun e : Nat × Nat => e.2 < 13 ∧ Cond.classLink (am_own 3) e.1 (am_q e.2).1 ∈ lw_tbl) (11, 2) := ⟨by decide, am_in9 266 (by decide +kernel)⟩
theorem lk_nw_3_1 : (fun e : Nat × Nat => e.2 < 13 ∧ Cond.classLink (am_own 3) e.1 (am_q e.2).1 ∈ lw_tbl) (21, 6) := ⟨by decide, am_in9 268 (by decide +kernel)⟩
theorem lk_nw_3 : ∀ e ∈ lk_nw 3, e.2 < 13 ∧ Cond.classLink (am_own 3) e.1 (am_q e.2).1 ∈ lw_tbl := List.forall_mem_cons.mpr ⟨lk_nw_3_0, List.forall_mem_cons.mpr ⟨lk_nw_3_1, fun _ h => absurd h List.not_mem_nil⟩⟩
theorem lk_nw_4_0 : (fun e : Nat × Nat => e.2 < 13 ∧ Cond.classLink (am_own 4) e.1 (am_q e.2).1 ∈ lw_tbl) (9, 6) := ⟨by decide, am_in9 234 (by decide +kernel)⟩
theorem lk_nw_4 : ∀ e ∈ lk_nw 4, e.2 < 13 ∧ Cond.classLink (am_own 4) e.1 (am_q e.2).1 ∈ lw_tbl := List.forall_mem_cons.mpr ⟨lk_nw_4_0, fun _ h => absurd h List.not_mem_nil⟩
theorem lk_nw_5_0 : (fun e : Nat × Nat => e.2 < 13 ∧ Cond.classLink (am_own 5) e.1 (am_q e.2).1 ∈ lw_tbl) (9, 8) := ⟨by decide, am_in9 170 (by decide +kernel)⟩
theorem lk_nw_5 : ∀ e ∈ lk_nw 5, e.2 < 13 ∧ Cond.classLink (am_own 5) e.1 (am_q e.2).1 ∈ lw_tbl := List.forall_mem_cons.mpr ⟨lk_nw_5_0, fun _ h => absurd h List.not_mem_nil⟩
theorem lk_nw_7_0 : (fun e : Nat × Nat => e.2 < 13 ∧ Cond.classLink (am_own 7) e.1 (am_q e.2).1 ∈ lw_tbl) (9, 6) := ⟨by decide, am_in9 357 (by decide +kernel)⟩
theorem lk_nw_7 : ∀ e ∈ lk_nw 7, e.2 < 13 ∧ Cond.classLink (am_own 7) e.1 (am_q e.2).1 ∈ lw_tbl := List.forall_mem_cons.mpr ⟨lk_nw_7_0, fun _ h => absurd h List.not_mem_nil⟩
theorem lk_nw_8_0 : (fun e : Nat × Nat => e.2 < 13 ∧ Cond.classLink (am_own 8) e.1 (am_q e.2).1 ∈ lw_tbl) (9, 6) := ⟨by decide, am_in9 126 (by decide +kernel)⟩
theorem lk_nw_8 : ∀ e ∈ lk_nw 8, e.2 < 13 ∧ Cond.classLink (am_own 8) e.1 (am_q e.2).1 ∈ lw_tbl := List.forall_mem_cons.mpr ⟨lk_nw_8_0, fun _ h => absurd h List.not_mem_nil⟩
theorem lk_nw_11_0 : (fun e : Nat × Nat => e.2 < 13 ∧ Cond.classLink (am_own 11) e.1 (am_q e.2).1 ∈ lw_tbl) (7, 8) := ⟨by decide, am_in9 120 (by decide +kernel)⟩
theorem lk_nw_11_1 : (fun e : Nat × Nat => e.2 < 13 ∧ Cond.classLink (am_own 11) e.1 (am_q e.2).1 ∈ lw_tbl) (16, 5) := ⟨by decide, am_in9 164 (by decide +kernel)⟩
theorem lk_nw_11_2 : (fun e : Nat × Nat => e.2 < 13 ∧ Cond.classLink (am_own 11) e.1 (am_q e.2).1 ∈ lw_tbl) (23, 9) := ⟨by decide, am_in9 184 (by decide +kernel)⟩
theorem lk_nw_11_3 : (fun e : Nat × Nat => e.2 < 13 ∧ Cond.classLink (am_own 11) e.1 (am_q e.2).1 ∈ lw_tbl) (30, 1) := ⟨by decide, am_in9 205 (by decide +kernel)⟩
theorem lk_nw_11_4 : (fun e : Nat × Nat => e.2 < 13 ∧ Cond.classLink (am_own 11) e.1 (am_q e.2).1 ∈ lw_tbl) (37, 4) := ⟨by decide, am_in9 228 (by decide +kernel)⟩
theorem lk_nw_11_5 : (fun e : Nat × Nat => e.2 < 13 ∧ Cond.classLink (am_own 11) e.1 (am_q e.2).1 ∈ lw_tbl) (46, 3) := ⟨by decide, am_in9 260 (by decide +kernel)⟩
theorem lk_nw_11_6 : (fun e : Nat × Nat => e.2 < 13 ∧ Cond.classLink (am_own 11) e.1 (am_q e.2).1 ∈ lw_tbl) (55, 0) := ⟨by decide, am_in9 333 (by decide +kernel)⟩
theorem lk_nw_11_7 : (fun e : Nat × Nat => e.2 < 13 ∧ Cond.classLink (am_own 11) e.1 (am_q e.2).1 ∈ lw_tbl) (62, 7) := ⟨by decide, am_in9 351 (by decide +kernel)⟩
theorem lk_nw_11_8 : (fun e : Nat × Nat => e.2 < 13 ∧ Cond.classLink (am_own 11) e.1 (am_q e.2).1 ∈ lw_tbl) (71, 10) := ⟨by decide, am_in9 381 (by decide +kernel)⟩
theorem lk_nw_11_9 : (fun e : Nat × Nat => e.2 < 13 ∧ Cond.classLink (am_own 11) e.1 (am_q e.2).1 ∈ lw_tbl) (78, 6) := ⟨by decide, am_in9 394 (by decide +kernel)⟩
theorem lk_nw_11 : ∀ e ∈ lk_nw 11, e.2 < 13 ∧ Cond.classLink (am_own 11) e.1 (am_q e.2).1 ∈ lw_tbl := List.forall_mem_cons.mpr ⟨lk_nw_11_0, List.forall_mem_cons.mpr ⟨lk_nw_11_1, List.forall_mem_cons.mpr ⟨lk_nw_11_2, List.forall_mem_cons.mpr ⟨lk_nw_11_3, List.forall_mem_cons.mpr ⟨lk_nw_11_4, List.forall_mem_cons.mpr ⟨lk_nw_11_5, List.forall_mem_cons.mpr ⟨lk_nw_11_6, List.forall_mem_cons.mpr ⟨lk_nw_11_7, List.forall_mem_cons.mpr ⟨lk_nw_11_8, List.forall_mem_cons.mpr ⟨lk_nw_11_9, fun _ h => absurd h List.not_mem_nil⟩⟩⟩⟩⟩⟩⟩⟩⟩⟩
theorem lk_nw_15_0 : (fun e : Nat × Nat => e.2 < 13 ∧ Cond.classLink (am_own 15) e.1 (am_q e.2).1 ∈ lw_tbl) (7, 11) := ⟨by decide, am_in9 112 (by decide +kernel)⟩
theorem lk_nw_15_1 : (fun e : Nat × Nat => e.2 < 13 ∧ Cond.classLink (am_own 15) e.1 (am_q e.2).1 ∈ lw_tbl) (10, 12) := ⟨by decide, am_in9 981 (by decide +kernel)⟩
theorem lk_nw_15 : ∀ e ∈ lk_nw 15, e.2 < 13 ∧ Cond.classLink (am_own 15) e.1 (am_q e.2).1 ∈ lw_tbl := List.forall_mem_cons.mpr ⟨lk_nw_15_0, List.forall_mem_cons.mpr ⟨lk_nw_15_1, fun _ h => absurd h List.not_mem_nil⟩⟩
theorem lk_nw_ok : ∀ o, ∀ e ∈ lk_nw o, e.2 < 13 ∧ Cond.classLink (am_own o) e.1 (am_q e.2).1 ∈ lw_tbl := by
  intro o e he
  unfold lk_nw at he
  split at he
  · exact lk_nw_1 e he
  · exact lk_nw_2 e he
  · exact lk_nw_3 e he
  · exact lk_nw_4 e he
  · exact lk_nw_5 e he
  · exact lk_nw_7 e he
  · exact lk_nw_8 e he
  · exact lk_nw_11 e he
  · exact lk_nw_15 e he
  · cases he
def lk_an (o : Nat) : List (Nat × Nat) := match o with
  | 1 => [(19, 23)]
  | 2 => [(11, 23)]
  | 3 => [(11, 25), (21, 23)]
  | 4 => [(9, 23)]
  | 5 => [(9, 24)]
  | 7 => [(9, 23)]
  | 8 => [(9, 23)]
  | 11 => [(7, 24), (78, 23)]
  | _ => []
theorem lk_an_1_0 : (fun e : Nat × Nat => 23 ≤ e.2 ∧ e.2 ≤ 25 ∧ Cond.classLink (am_own 1) e.1 (am_cn e.2) ∈ lw_tbl) (19, 23) := ⟨by decide, by decide, am_in9 212 (by decide +kernel)⟩
theorem lk_an_1 : ∀ e ∈ lk_an 1, 23 ≤ e.2 ∧ e.2 ≤ 25 ∧ Cond.classLink (am_own 1) e.1 (am_cn e.2) ∈ lw_tbl := List.forall_mem_cons.mpr ⟨lk_an_1_0, fun _ h => absurd h List.not_mem_nil⟩
theorem lk_an_2_0 : (fun e : Nat × Nat => 23 ≤ e.2 ∧ e.2 ≤ 25 ∧ Cond.classLink (am_own 2) e.1 (am_cn e.2) ∈ lw_tbl) (11, 23) := ⟨by decide, by decide, am_in9 274 (by decide +kernel)⟩
theorem lk_an_2 : ∀ e ∈ lk_an 2, 23 ≤ e.2 ∧ e.2 ≤ 25 ∧ Cond.classLink (am_own 2) e.1 (am_cn e.2) ∈ lw_tbl := List.forall_mem_cons.mpr ⟨lk_an_2_0, fun _ h => absurd h List.not_mem_nil⟩
theorem lk_an_3_0 : (fun e : Nat × Nat => 23 ≤ e.2 ∧ e.2 ≤ 25 ∧ Cond.classLink (am_own 3) e.1 (am_cn e.2) ∈ lw_tbl) (11, 25) := ⟨by decide, by decide, am_in9 266 (by decide +kernel)⟩
theorem lk_an_3_1 : (fun e : Nat × Nat => 23 ≤ e.2 ∧ e.2 ≤ 25 ∧ Cond.classLink (am_own 3) e.1 (am_cn e.2) ∈ lw_tbl) (21, 23) := ⟨by decide, by decide, am_in9 268 (by decide +kernel)⟩
theorem lk_an_3 : ∀ e ∈ lk_an 3, 23 ≤ e.2 ∧ e.2 ≤ 25 ∧ Cond.classLink (am_own 3) e.1 (am_cn e.2) ∈ lw_tbl := List.forall_mem_cons.mpr ⟨lk_an_3_0, List.forall_mem_cons.mpr ⟨lk_an_3_1, fun _ h => absurd h List.not_mem_nil⟩⟩
theorem lk_an_4_0 : (fun e : Nat × Nat => 23 ≤ e.2 ∧ e.2 ≤ 25 ∧ Cond.classLink (am_own 4) e.1 (am_cn e.2) ∈ lw_tbl) (9, 23) := ⟨by decide, by decide, am_in9 234 (by decide +kernel)⟩
theorem lk_an_4 : ∀ e ∈ lk_an 4, 23 ≤ e.2 ∧ e.2 ≤ 25 ∧ Cond.classLink (am_own 4) e.1 (am_cn e.2) ∈ lw_tbl := List.forall_mem_cons.mpr ⟨lk_an_4_0, fun _ h => absurd h List.not_mem_nil⟩
theorem lk_an_5_0 : (fun e : Nat × Nat => 23 ≤ e.2 ∧ e.2 ≤ 25 ∧ Cond.classLink (am_own 5) e.1 (am_cn e.2) ∈ lw_tbl) (9, 24) := ⟨by decide, by decide, am_in9 170 (by decide +kernel)⟩
theorem lk_an_5 : ∀ e ∈ lk_an 5, 23 ≤ e.2 ∧ e.2 ≤ 25 ∧ Cond.classLink (am_own 5) e.1 (am_cn e.2) ∈ lw_tbl := List.forall_mem_cons.mpr ⟨lk_an_5_0, fun _ h => absurd h List.not_mem_nil⟩
theorem lk_an_7_0 : (fun e : Nat × Nat => 23 ≤ e.2 ∧ e.2 ≤ 25 ∧ Cond.classLink (am_own 7) e.1 (am_cn e.2) ∈ lw_tbl) (9, 23) := ⟨by decide, by decide, am_in9 357 (by decide +kernel)⟩
theorem lk_an_7 : ∀ e ∈ lk_an 7, 23 ≤ e.2 ∧ e.2 ≤ 25 ∧ Cond.classLink (am_own 7) e.1 (am_cn e.2) ∈ lw_tbl := List.forall_mem_cons.mpr ⟨lk_an_7_0, fun _ h => absurd h List.not_mem_nil⟩
theorem lk_an_8_0 : (fun e : Nat × Nat => 23 ≤ e.2 ∧ e.2 ≤ 25 ∧ Cond.classLink (am_own 8) e.1 (am_cn e.2) ∈ lw_tbl) (9, 23) := ⟨by decide, by decide, am_in9 126 (by decide +kernel)⟩
theorem lk_an_8 : ∀ e ∈ lk_an 8, 23 ≤ e.2 ∧ e.2 ≤ 25 ∧ Cond.classLink (am_own 8) e.1 (am_cn e.2) ∈ lw_tbl := List.forall_mem_cons.mpr ⟨lk_an_8_0, fun _ h => absurd h List.not_mem_nil⟩
theorem lk_an_11_0 : (fun e : Nat × Nat => 23 ≤ e.2 ∧ e.2 ≤ 25 ∧ Cond.classLink (am_own 11) e.1 (am_cn e.2) ∈ lw_tbl) (7, 24) := ⟨by decide, by decide, am_in9 120 (by decide +kernel)⟩
theorem lk_an_11_1 : (fun e : Nat × Nat => 23 ≤ e.2 ∧ e.2 ≤ 25 ∧ Cond.classLink (am_own 11) e.1 (am_cn e.2) ∈ lw_tbl) (78, 23) := ⟨by decide, by decide, am_in9 394 (by decide +kernel)⟩
theorem lk_an_11 : ∀ e ∈ lk_an 11, 23 ≤ e.2 ∧ e.2 ≤ 25 ∧ Cond.classLink (am_own 11) e.1 (am_cn e.2) ∈ lw_tbl := List.forall_mem_cons.mpr ⟨lk_an_11_0, List.forall_mem_cons.mpr ⟨lk_an_11_1, fun _ h => absurd h List.not_mem_nil⟩⟩
theorem lk_an_ok : ∀ o, ∀ e ∈ lk_an o, 23 ≤ e.2 ∧ e.2 ≤ 25 ∧ Cond.classLink (am_own o) e.1 (am_cn e.2) ∈ lw_tbl := by
  intro o e he
  unfold lk_an at he
  split at he
  · exact lk_an_1 e he
  · exact lk_an_2 e he
  · exact lk_an_3 e he
  · exact lk_an_4 e he
  · exact lk_an_5 e he
  · exact lk_an_7 e he
  · exact lk_an_8 e he
  · exact lk_an_11 e he
  · cases he
def lk_oi (o : Nat) : List (Nat) := match o with
  | 0 => [3]
  | 1 => [3]
  | 2 => [3]
  | 3 => [3]
  | 4 => [3]
  | 5 => [3]
  | 6 => [3]
  | 7 => [3]
  | 8 => [3]
  | 9 => [3]
  | 10 => [3]
  | 11 => [1]
  | 12 => [1]
  | _ => []
theorem lk_oi_0_0 : (fun e : Nat => Cond.methodLink (am_own 0) e Lib.objectInit ∈ lw_tbl) 3 := am_in9 338 (by decide +kernel)
theorem lk_oi_0 : ∀ e ∈ lk_oi 0, Cond.methodLink (am_own 0) e Lib.objectInit ∈ lw_tbl := List.forall_mem_cons.mpr ⟨lk_oi_0_0, fun _ h => absurd h List.not_mem_nil⟩
theorem lk_oi_1_0 : (fun e : Nat => Cond.methodLink (am_own 1) e Lib.objectInit ∈ lw_tbl) 3 := am_in9 210 (by decide +kernel)
theorem lk_oi_1 : ∀ e ∈ lk_oi 1, Cond.methodLink (am_own 1) e Lib.objectInit ∈ lw_tbl := List.forall_mem_cons.mpr ⟨lk_oi_1_0, fun _ h => absurd h List.not_mem_nil⟩
theorem lk_oi_2_0 : (fun e : Nat => Cond.methodLink (am_own 2) e Lib.objectInit ∈ lw_tbl) 3 := am_in9 273 (by decide +kernel)
theorem lk_oi_2 : ∀ e ∈ lk_oi 2, Cond.methodLink (am_own 2) e Lib.objectInit ∈ lw_tbl := List.forall_mem_cons.mpr ⟨lk_oi_2_0, fun _ h => absurd h List.not_mem_nil⟩
theorem lk_oi_3_0 : (fun e : Nat => Cond.methodLink (am_own 3) e Lib.objectInit ∈ lw_tbl) 3 := am_in9 265 (by decide +kernel)
theorem lk_oi_3 : ∀ e ∈ lk_oi 3, Cond.methodLink (am_own 3) e Lib.objectInit ∈ lw_tbl := List.forall_mem_cons.mpr ⟨lk_oi_3_0, fun _ h => absurd h List.not_mem_nil⟩
theorem lk_oi_4_0 : (fun e : Nat => Cond.methodLink (am_own 4) e Lib.objectInit ∈ lw_tbl) 3 := am_in9 233 (by decide +kernel)
theorem lk_oi_4 : ∀ e ∈ lk_oi 4, Cond.methodLink (am_own 4) e Lib.objectInit ∈ lw_tbl := List.forall_mem_cons.mpr ⟨lk_oi_4_0, fun _ h => absurd h List.not_mem_nil⟩
theorem lk_oi_5_0 : (fun e : Nat => Cond.methodLink (am_own 5) e Lib.objectInit ∈ lw_tbl) 3 := am_in9 169 (by decide +kernel)
theorem lk_oi_5 : ∀ e ∈ lk_oi 5, Cond.methodLink (am_own 5) e Lib.objectInit ∈ lw_tbl := List.forall_mem_cons.mpr ⟨lk_oi_5_0, fun _ h => absurd h List.not_mem_nil⟩
theorem lk_oi_6_0 : (fun e : Nat => Cond.methodLink (am_own 6) e Lib.objectInit ∈ lw_tbl) 3 := am_in9 134 (by decide +kernel)
theorem lk_oi_6 : ∀ e ∈ lk_oi 6, Cond.methodLink (am_own 6) e Lib.objectInit ∈ lw_tbl := List.forall_mem_cons.mpr ⟨lk_oi_6_0, fun _ h => absurd h List.not_mem_nil⟩
theorem lk_oi_7_0 : (fun e : Nat => Cond.methodLink (am_own 7) e Lib.objectInit ∈ lw_tbl) 3 := am_in9 356 (by decide +kernel)
theorem lk_oi_7 : ∀ e ∈ lk_oi 7, Cond.methodLink (am_own 7) e Lib.objectInit ∈ lw_tbl := List.forall_mem_cons.mpr ⟨lk_oi_7_0, fun _ h => absurd h List.not_mem_nil⟩
theorem lk_oi_8_0 : (fun e : Nat => Cond.methodLink (am_own 8) e Lib.objectInit ∈ lw_tbl) 3 := am_in9 125 (by decide +kernel)
theorem lk_oi_8 : ∀ e ∈ lk_oi 8, Cond.methodLink (am_own 8) e Lib.objectInit ∈ lw_tbl := List.forall_mem_cons.mpr ⟨lk_oi_8_0, fun _ h => absurd h List.not_mem_nil⟩
theorem lk_oi_9_0 : (fun e : Nat => Cond.methodLink (am_own 9) e Lib.objectInit ∈ lw_tbl) 3 := am_in9 189 (by decide +kernel)
theorem lk_oi_9 : ∀ e ∈ lk_oi 9, Cond.methodLink (am_own 9) e Lib.objectInit ∈ lw_tbl := List.forall_mem_cons.mpr ⟨lk_oi_9_0, fun _ h => absurd h List.not_mem_nil⟩
theorem lk_oi_10_0 : (fun e : Nat => Cond.methodLink (am_own 10) e Lib.objectInit ∈ lw_tbl) 3 := am_in9 386 (by decide +kernel)
theorem lk_oi_10 : ∀ e ∈ lk_oi 10, Cond.methodLink (am_own 10) e Lib.objectInit ∈ lw_tbl := List.forall_mem_cons.mpr ⟨lk_oi_10_0, fun _ h => absurd h List.not_mem_nil⟩
theorem lk_oi_11_0 : (fun e : Nat => Cond.methodLink (am_own 11) e Lib.objectInit ∈ lw_tbl) 1 := am_in9 117 (by decide +kernel)
theorem lk_oi_11 : ∀ e ∈ lk_oi 11, Cond.methodLink (am_own 11) e Lib.objectInit ∈ lw_tbl := List.forall_mem_cons.mpr ⟨lk_oi_11_0, fun _ h => absurd h List.not_mem_nil⟩
theorem lk_oi_12_0 : (fun e : Nat => Cond.methodLink (am_own 12) e Lib.objectInit ∈ lw_tbl) 1 := am_in9 986 (by decide +kernel)
theorem lk_oi_12 : ∀ e ∈ lk_oi 12, Cond.methodLink (am_own 12) e Lib.objectInit ∈ lw_tbl := List.forall_mem_cons.mpr ⟨lk_oi_12_0, fun _ h => absurd h List.not_mem_nil⟩
theorem lk_oi_ok : ∀ o, ∀ e ∈ lk_oi o, Cond.methodLink (am_own o) e Lib.objectInit ∈ lw_tbl := by
  intro o e he
  unfold lk_oi at he
  split at he
  · exact lk_oi_0 e he
  · exact lk_oi_1 e he
  · exact lk_oi_2 e he
  · exact lk_oi_3 e he
  · exact lk_oi_4 e he
  · exact lk_oi_5 e he
  · exact lk_oi_6 e he
  · exact lk_oi_7 e he
  · exact lk_oi_8 e he
  · exact lk_oi_9 e he
  · exact lk_oi_10 e he
  · exact lk_oi_11 e he
  · exact lk_oi_12 e he
  · cases he
def lk_ac (o : Nat) : List (Nat) := match o with
  | 6 => [45]
  | 8 => [31]
  | 11 => [191]
  | _ => []
theorem lk_ac_6_0 : (fun e : Nat => Cond.methodLink (am_own 6) e arraycopyName ∈ lw_tbl) 45 := am_in9 462 (by decide +kernel)
theorem lk_ac_6 : ∀ e ∈ lk_ac 6, Cond.methodLink (am_own 6) e arraycopyName ∈ lw_tbl := List.forall_mem_cons.mpr ⟨lk_ac_6_0, fun _ h => absurd h List.not_mem_nil⟩
theorem lk_ac_8_0 : (fun e : Nat => Cond.methodLink (am_own 8) e arraycopyName ∈ lw_tbl) 31 := am_in9 465 (by decide +kernel)
theorem lk_ac_8 : ∀ e ∈ lk_ac 8, Cond.methodLink (am_own 8) e arraycopyName ∈ lw_tbl := List.forall_mem_cons.mpr ⟨lk_ac_8_0, fun _ h => absurd h List.not_mem_nil⟩
theorem lk_ac_11_0 : (fun e : Nat => Cond.methodLink (am_own 11) e arraycopyName ∈ lw_tbl) 191 := am_in9 663 (by decide +kernel)
theorem lk_ac_11 : ∀ e ∈ lk_ac 11, Cond.methodLink (am_own 11) e arraycopyName ∈ lw_tbl := List.forall_mem_cons.mpr ⟨lk_ac_11_0, fun _ h => absurd h List.not_mem_nil⟩
theorem lk_ac_ok : ∀ o, ∀ e ∈ lk_ac o, Cond.methodLink (am_own o) e arraycopyName ∈ lw_tbl := by
  intro o e he
  unfold lk_ac at he
  split at he
  · exact lk_ac_6 e he
  · exact lk_ac_8 e he
  · exact lk_ac_11 e he
  · cases he
def lk_iv (o : Nat) : List (Nat × Nat × Nat × Nat) := match o with
  | 0 => [(47, 4, 5, 0), (61, 6, 4, 0), (65, 7, 4, 0)]
  | 1 => [(35, 60, 1, 6), (39, 61, 1, 6), (43, 59, 1, 6), (50, 15, 6, 1), (60, 54, 2, 6), (64, 53, 1, 6), (67, 14, 5, 1), (71, 55, 2, 6), (75, 51, 3, 6), (78, 52, 4, 6)]
  | 2 => [(44, 62, 2, 6), (48, 55, 2, 6)]
  | 3 => [(57, 20, 3, 2), (61, 26, 3, 3), (65, 27, 1, 3), (68, 34, 1, 3), (71, 21, 3, 2), (74, 35, 2, 3), (88, 55, 2, 6), (93, 28, 1, 3), (96, 32, 1, 3), (100, 33, 2, 3), (104, 37, 2, 4), (108, 38, 2, 4), (111, 39, 2, 4), (114, 62, 2, 6), (126, 57, 2, 6), (135, 29, 2, 3), (138, 30, 3, 3), (142, 31, 2, 3), (149, 53, 1, 6), (152, 59, 1, 6), (155, 15, 6, 1), (162, 22, 2, 2)]
  | 4 => [(41, 62, 2, 6), (59, 59, 1, 6), (63, 61, 1, 6), (70, 40, 3, 4), (78, 15, 6, 1)]
  | 5 => [(25, 74, 2, 8)]
  | 6 => [(42, 53, 1, 6), (51, 59, 1, 6), (55, 61, 1, 6), (62, 58, 1, 6), (65, 62, 2, 6), (73, 64, 2, 6)]
  | 7 => [(40, 68, 2, 7), (44, 55, 2, 6), (48, 53, 1, 6), (51, 72, 1, 7), (55, 69, 2, 7), (58, 56, 3, 6), (62, 54, 2, 6), (66, 70, 2, 7), (75, 14, 5, 1), (79, 52, 4, 6), (83, 71, 2, 7), (91, 16, 4, 1), (95, 84, 3, 9), (101, 85, 3, 9), (107, 77, 2, 9)]
  | 8 => [(27, 55, 2, 6)]
  | 9 => [(25, 77, 2, 9), (29, 80, 2, 9), (32, 81, 2, 9), (35, 82, 2, 9), (38, 83, 2, 9), (41, 84, 3, 9), (45, 85, 3, 9), (48, 78, 2, 9)]
  | 10 => [(19, 61, 1, 6), (38, 88, 4, 10), (42, 91, 2, 10), (51, 90, 2, 10), (60, 89, 4, 10)]
  | 11 => [(103, 121, 1, 11), (107, 42, 2, 5), (115, 51, 3, 6), (123, 52, 4, 6), (130, 53, 1, 6), (133, 56, 3, 6), (137, 120, 2, 11), (144, 123, 1, 11), (147, 14, 5, 1), (155, 16, 4, 1), (159, 17, 3, 1), (166, 63, 3, 6), (179, 2, 3, 0), (183, 3, 3, 0), (201, 5, 3, 0), (205, 122, 1, 11), (214, 60, 1, 6), (218, 37, 2, 4), (222, 38, 2, 4), (226, 55, 2, 6), (229, 39, 2, 4), (232, 124, 2, 11), (235, 25, 3, 3), (247, 19, 3, 2), (253, 76, 2, 9), (256, 79, 1, 9), (259, 67, 2, 7), (263, 87, 4, 10), (270, 43, 2, 5), (277, 117, 2, 11), (287, 58, 1, 6), (290, 61, 1, 6)]
  | 12 => [(70, 136, 1, 12), (78, 142, 2, 12), (82, 138, 1, 12), (85, 145, 2, 12), (89, 147, 2, 12), (92, 148, 3, 12), (95, 150, 7, 12), (99, 151, 6, 12), (103, 143, 3, 12), (107, 152, 4, 12), (119, 135, 1, 12), (128, 144, 3, 12), (131, 156, 6, 12), (134, 146, 3, 12), (137, 153, 3, 12), (140, 137, 1, 12), (143, 154, 3, 12), (146, 155, 2, 12), (149, 149, 2, 12), (152, 164, 4, 12), (156, 165, 2, 12), (159, 166, 3, 12), (171, 175, 3, 12), (174, 174, 2, 12), (180, 179, 4, 12), (183, 178, 3, 12), (186, 180, 3, 12), (192, 184, 3, 12), (195, 183, 1, 12), (198, 185, 2, 12), (204, 186, 2, 12), (210, 192, 2, 12), (213, 191, 2, 12), (216, 189, 2, 12), (219, 190, 3, 12), (222, 194, 3, 12), (225, 195, 3, 12), (228, 196, 2, 12), (232, 197, 3, 12), (235, 193, 1, 12), (238, 198, 1, 12), (242, 200, 2, 12), (245, 199, 2, 12), (254, 207, 3, 12), (279, 209, 2, 12), (282, 208, 1, 12), (285, 213, 2, 12), (288, 212, 2, 12), (291, 210, 1, 12), (294, 215, 4, 12), (297, 214, 1, 12), (300, 211, 1, 12), (303, 216, 1, 12), (306, 217, 1, 12), (309, 218, 2, 12), (316, 220, 2, 12), (319, 221, 2, 12), (322, 222, 3, 12), (325, 223, 3, 12), (328, 224, 2, 12), (331, 226, 2, 12), (342, 228, 2, 12)]
  | 15 => [(13, 93, 5, 11), (17, 157, 5, 12), (18, 94, 4, 11), (22, 158, 4, 12), (23, 95, 6, 11), (27, 159, 6, 12), (28, 96, 4, 11), (31, 160, 4, 12), (32, 97, 4, 11), (35, 161, 4, 12), (36, 98, 4, 11), (39, 162, 4, 12), (40, 99, 3, 11), (44, 163, 3, 12), (45, 100, 3, 11), (48, 167, 3, 12), (49, 101, 2, 11), (53, 168, 2, 12), (54, 102, 4, 11), (57, 171, 4, 12), (58, 103, 3, 11), (61, 172, 3, 12), (62, 104, 4, 11), (65, 176, 4, 12), (66, 105, 3, 11), (69, 181, 3, 12), (70, 106, 3, 11), (73, 182, 3, 12), (74, 107, 4, 11), (77, 188, 4, 12), (78, 108, 2, 11), (81, 201, 2, 12), (82, 109, 5, 11), (85, 202, 5, 12), (86, 110, 3, 11), (89, 203, 3, 12), (90, 111, 3, 11), (93, 204, 3, 12), (94, 112, 2, 11), (97, 205, 2, 12), (98, 113, 1, 11), (102, 206, 1, 12), (103, 114, 2, 11), (106, 219, 2, 12), (107, 115, 3, 11), (110, 225, 3, 12), (111, 116, 1, 11), (114, 139, 1, 12), (115, 117, 2, 11), (118, 227, 2, 12), (119, 118, 1, 11), (123, 229, 1, 12)]
  | _ => []
theorem lk_iv_0_0 : (fun e : Nat × Nat × Nat × Nat => ∃ q, am_tb e.2.1 = some q ∧ e.2.2.2 < 13 ∧ q.2.1.cls = (am_q e.2.2.2).1 ∧ am_okm q (e.2.2.1 - 1) ∧ 1 ≤ e.2.2.1 ∧ Cond.methodLink (am_own 0) e.1 q.2.1 ∈ lw_tbl ∧ Cond.instanceMethod q.2.1 ∈ lw_tbl ∧ Cond.selects (am_q e.2.2.2).1 q.2.1 q.2.1 ∈ lw_tbl) (47, 4, 5, 0) := ⟨qX0_addImage, tb_X0_addImage, by decide, rfl, mo_X0_addImage, by decide, am_in9 658 (by decide +kernel), mi_X0_addImage, ms_X0_addImage⟩
theorem lk_iv_0_1 : (fun e : Nat × Nat × Nat × Nat => ∃ q, am_tb e.2.1 = some q ∧ e.2.2.2 < 13 ∧ q.2.1.cls = (am_q e.2.2.2).1 ∧ am_okm q (e.2.2.1 - 1) ∧ 1 ≤ e.2.2.1 ∧ Cond.methodLink (am_own 0) e.1 q.2.1 ∈ lw_tbl ∧ Cond.instanceMethod q.2.1 ∈ lw_tbl ∧ Cond.selects (am_q e.2.2.2).1 q.2.1 q.2.1 ∈ lw_tbl) (61, 6, 4, 0) := ⟨qX0_pivotRow, tb_X0_pivotRow, by decide, rfl, mo_X0_pivotRow, by decide, am_in9 674 (by decide +kernel), mi_X0_pivotRow, ms_X0_pivotRow⟩
theorem lk_iv_0_2 : (fun e : Nat × Nat × Nat × Nat => ∃ q, am_tb e.2.1 = some q ∧ e.2.2.2 < 13 ∧ q.2.1.cls = (am_q e.2.2.2).1 ∧ am_okm q (e.2.2.1 - 1) ∧ 1 ≤ e.2.2.1 ∧ Cond.methodLink (am_own 0) e.1 q.2.1 ∈ lw_tbl ∧ Cond.instanceMethod q.2.1 ∈ lw_tbl ∧ Cond.selects (am_q e.2.2.2).1 q.2.1 q.2.1 ∈ lw_tbl) (65, 7, 4, 0) := ⟨qX0_clearBelow, tb_X0_clearBelow, by decide, rfl, mo_X0_clearBelow, by decide, am_in9 678 (by decide +kernel), mi_X0_clearBelow, ms_X0_clearBelow⟩
theorem lk_iv_0 : ∀ e ∈ lk_iv 0, ∃ q, am_tb e.2.1 = some q ∧ e.2.2.2 < 13 ∧ q.2.1.cls = (am_q e.2.2.2).1 ∧ am_okm q (e.2.2.1 - 1) ∧ 1 ≤ e.2.2.1 ∧ Cond.methodLink (am_own 0) e.1 q.2.1 ∈ lw_tbl ∧ Cond.instanceMethod q.2.1 ∈ lw_tbl ∧ Cond.selects (am_q e.2.2.2).1 q.2.1 q.2.1 ∈ lw_tbl := List.forall_mem_cons.mpr ⟨lk_iv_0_0, List.forall_mem_cons.mpr ⟨lk_iv_0_1, List.forall_mem_cons.mpr ⟨lk_iv_0_2, fun _ h => absurd h List.not_mem_nil⟩⟩⟩
theorem lk_iv_1_0 : (fun e : Nat × Nat × Nat × Nat => ∃ q, am_tb e.2.1 = some q ∧ e.2.2.2 < 13 ∧ q.2.1.cls = (am_q e.2.2.2).1 ∧ am_okm q (e.2.2.1 - 1) ∧ 1 ≤ e.2.2.1 ∧ Cond.methodLink (am_own 1) e.1 q.2.1 ∈ lw_tbl ∧ Cond.instanceMethod q.2.1 ∈ lw_tbl ∧ Cond.selects (am_q e.2.2.2).1 q.2.1 q.2.1 ∈ lw_tbl) (35, 60, 1, 6) := ⟨qX6_isZero, tb_X6_isZero, by decide, rfl, mo_X6_isZero, by decide, am_in9 526 (by decide +kernel), mi_X6_isZero, ms_X6_isZero⟩
theorem lk_iv_1_1 : (fun e : Nat × Nat × Nat × Nat => ∃ q, am_tb e.2.1 = some q ∧ e.2.2.2 < 13 ∧ q.2.1.cls = (am_q e.2.2.2).1 ∧ am_okm q (e.2.2.1 - 1) ∧ 1 ≤ e.2.2.1 ∧ Cond.methodLink (am_own 1) e.1 q.2.1 ∈ lw_tbl ∧ Cond.instanceMethod q.2.1 ∈ lw_tbl ∧ Cond.selects (am_q e.2.2.2).1 q.2.1 q.2.1 ∈ lw_tbl) (39, 61, 1, 6) := ⟨qX6_degree, tb_X6_degree, by decide, rfl, mo_X6_degree, by decide, am_in9 534 (by decide +kernel), mi_X6_degree, ms_X6_degree⟩
theorem lk_iv_1_2 : (fun e : Nat × Nat × Nat × Nat => ∃ q, am_tb e.2.1 = some q ∧ e.2.2.2 < 13 ∧ q.2.1.cls = (am_q e.2.2.2).1 ∧ am_okm q (e.2.2.1 - 1) ∧ 1 ≤ e.2.2.1 ∧ Cond.methodLink (am_own 1) e.1 q.2.1 ∈ lw_tbl ∧ Cond.instanceMethod q.2.1 ∈ lw_tbl ∧ Cond.selects (am_q e.2.2.2).1 q.2.1 q.2.1 ∈ lw_tbl) (43, 59, 1, 6) := ⟨qX6_extent, tb_X6_extent, by decide, rfl, mo_X6_extent, by decide, am_in9 553 (by decide +kernel), mi_X6_extent, ms_X6_extent⟩
theorem lk_iv_1_3 : (fun e : Nat × Nat × Nat × Nat => ∃ q, am_tb e.2.1 = some q ∧ e.2.2.2 < 13 ∧ q.2.1.cls = (am_q e.2.2.2).1 ∧ am_okm q (e.2.2.1 - 1) ∧ 1 ≤ e.2.2.1 ∧ Cond.methodLink (am_own 1) e.1 q.2.1 ∈ lw_tbl ∧ Cond.instanceMethod q.2.1 ∈ lw_tbl ∧ Cond.selects (am_q e.2.2.2).1 q.2.1 q.2.1 ∈ lw_tbl) (50, 15, 6, 1) := ⟨qX1_addWordProduct, tb_X1_addWordProduct, by decide, rfl, mo_X1_addWordProduct, by decide, am_in9 554 (by decide +kernel), mi_X1_addWordProduct, ms_X1_addWordProduct⟩
theorem lk_iv_1_4 : (fun e : Nat × Nat × Nat × Nat => ∃ q, am_tb e.2.1 = some q ∧ e.2.2.2 < 13 ∧ q.2.1.cls = (am_q e.2.2.2).1 ∧ am_okm q (e.2.2.1 - 1) ∧ 1 ≤ e.2.2.1 ∧ Cond.methodLink (am_own 1) e.1 q.2.1 ∈ lw_tbl ∧ Cond.instanceMethod q.2.1 ∈ lw_tbl ∧ Cond.selects (am_q e.2.2.2).1 q.2.1 q.2.1 ∈ lw_tbl) (60, 54, 2, 6) := ⟨qX6_makeNumber, tb_X6_makeNumber, by decide, rfl, mo_X6_makeNumber, by decide, am_in9 575 (by decide +kernel), mi_X6_makeNumber, ms_X6_makeNumber⟩
theorem lk_iv_1_5 : (fun e : Nat × Nat × Nat × Nat => ∃ q, am_tb e.2.1 = some q ∧ e.2.2.2 < 13 ∧ q.2.1.cls = (am_q e.2.2.2).1 ∧ am_okm q (e.2.2.1 - 1) ∧ 1 ≤ e.2.2.1 ∧ Cond.methodLink (am_own 1) e.1 q.2.1 ∈ lw_tbl ∧ Cond.instanceMethod q.2.1 ∈ lw_tbl ∧ Cond.selects (am_q e.2.2.2).1 q.2.1 q.2.1 ∈ lw_tbl) (64, 53, 1, 6) := ⟨qX6_makeZero, tb_X6_makeZero, by decide, rfl, mo_X6_makeZero, by decide, am_in9 580 (by decide +kernel), mi_X6_makeZero, ms_X6_makeZero⟩
theorem lk_iv_1_6 : (fun e : Nat × Nat × Nat × Nat => ∃ q, am_tb e.2.1 = some q ∧ e.2.2.2 < 13 ∧ q.2.1.cls = (am_q e.2.2.2).1 ∧ am_okm q (e.2.2.1 - 1) ∧ 1 ≤ e.2.2.1 ∧ Cond.methodLink (am_own 1) e.1 q.2.1 ∈ lw_tbl ∧ Cond.instanceMethod q.2.1 ∈ lw_tbl ∧ Cond.selects (am_q e.2.2.2).1 q.2.1 q.2.1 ∈ lw_tbl) (67, 14, 5, 1) := ⟨qX1_addProduct, tb_X1_addProduct, by decide, rfl, mo_X1_addProduct, by decide, am_in9 581 (by decide +kernel), mi_X1_addProduct, ms_X1_addProduct⟩
theorem lk_iv_1_7 : (fun e : Nat × Nat × Nat × Nat => ∃ q, am_tb e.2.1 = some q ∧ e.2.2.2 < 13 ∧ q.2.1.cls = (am_q e.2.2.2).1 ∧ am_okm q (e.2.2.1 - 1) ∧ 1 ≤ e.2.2.1 ∧ Cond.methodLink (am_own 1) e.1 q.2.1 ∈ lw_tbl ∧ Cond.instanceMethod q.2.1 ∈ lw_tbl ∧ Cond.selects (am_q e.2.2.2).1 q.2.1 q.2.1 ∈ lw_tbl) (71, 55, 2, 6) := ⟨qX6_copyFrom, tb_X6_copyFrom, by decide, rfl, mo_X6_copyFrom, by decide, am_in9 582 (by decide +kernel), mi_X6_copyFrom, ms_X6_copyFrom⟩
theorem lk_iv_1_8 : (fun e : Nat × Nat × Nat × Nat => ∃ q, am_tb e.2.1 = some q ∧ e.2.2.2 < 13 ∧ q.2.1.cls = (am_q e.2.2.2).1 ∧ am_okm q (e.2.2.1 - 1) ∧ 1 ≤ e.2.2.1 ∧ Cond.methodLink (am_own 1) e.1 q.2.1 ∈ lw_tbl ∧ Cond.instanceMethod q.2.1 ∈ lw_tbl ∧ Cond.selects (am_q e.2.2.2).1 q.2.1 q.2.1 ∈ lw_tbl) (75, 51, 3, 6) := ⟨qX6_coefficient, tb_X6_coefficient, by decide, rfl, mo_X6_coefficient, by decide, am_in9 591 (by decide +kernel), mi_X6_coefficient, ms_X6_coefficient⟩
theorem lk_iv_1_9 : (fun e : Nat × Nat × Nat × Nat => ∃ q, am_tb e.2.1 = some q ∧ e.2.2.2 < 13 ∧ q.2.1.cls = (am_q e.2.2.2).1 ∧ am_okm q (e.2.2.1 - 1) ∧ 1 ≤ e.2.2.1 ∧ Cond.methodLink (am_own 1) e.1 q.2.1 ∈ lw_tbl ∧ Cond.instanceMethod q.2.1 ∈ lw_tbl ∧ Cond.selects (am_q e.2.2.2).1 q.2.1 q.2.1 ∈ lw_tbl) (78, 52, 4, 6) := ⟨qX6_setCoefficient, tb_X6_setCoefficient, by decide, rfl, mo_X6_setCoefficient, by decide, am_in9 592 (by decide +kernel), mi_X6_setCoefficient, ms_X6_setCoefficient⟩
theorem lk_iv_1 : ∀ e ∈ lk_iv 1, ∃ q, am_tb e.2.1 = some q ∧ e.2.2.2 < 13 ∧ q.2.1.cls = (am_q e.2.2.2).1 ∧ am_okm q (e.2.2.1 - 1) ∧ 1 ≤ e.2.2.1 ∧ Cond.methodLink (am_own 1) e.1 q.2.1 ∈ lw_tbl ∧ Cond.instanceMethod q.2.1 ∈ lw_tbl ∧ Cond.selects (am_q e.2.2.2).1 q.2.1 q.2.1 ∈ lw_tbl := List.forall_mem_cons.mpr ⟨lk_iv_1_0, List.forall_mem_cons.mpr ⟨lk_iv_1_1, List.forall_mem_cons.mpr ⟨lk_iv_1_2, List.forall_mem_cons.mpr ⟨lk_iv_1_3, List.forall_mem_cons.mpr ⟨lk_iv_1_4, List.forall_mem_cons.mpr ⟨lk_iv_1_5, List.forall_mem_cons.mpr ⟨lk_iv_1_6, List.forall_mem_cons.mpr ⟨lk_iv_1_7, List.forall_mem_cons.mpr ⟨lk_iv_1_8, List.forall_mem_cons.mpr ⟨lk_iv_1_9, fun _ h => absurd h List.not_mem_nil⟩⟩⟩⟩⟩⟩⟩⟩⟩⟩
theorem lk_iv_2_0 : (fun e : Nat × Nat × Nat × Nat => ∃ q, am_tb e.2.1 = some q ∧ e.2.2.2 < 13 ∧ q.2.1.cls = (am_q e.2.2.2).1 ∧ am_okm q (e.2.2.1 - 1) ∧ 1 ≤ e.2.2.1 ∧ Cond.methodLink (am_own 2) e.1 q.2.1 ∈ lw_tbl ∧ Cond.instanceMethod q.2.1 ∈ lw_tbl ∧ Cond.selects (am_q e.2.2.2).1 q.2.1 q.2.1 ∈ lw_tbl) (44, 62, 2, 6) := ⟨qX6_leadPlace, tb_X6_leadPlace, by decide, rfl, mo_X6_leadPlace, by decide, am_in9 819 (by decide +kernel), mi_X6_leadPlace, ms_X6_leadPlace⟩
theorem lk_iv_2_1 : (fun e : Nat × Nat × Nat × Nat => ∃ q, am_tb e.2.1 = some q ∧ e.2.2.2 < 13 ∧ q.2.1.cls = (am_q e.2.2.2).1 ∧ am_okm q (e.2.2.1 - 1) ∧ 1 ≤ e.2.2.1 ∧ Cond.methodLink (am_own 2) e.1 q.2.1 ∈ lw_tbl ∧ Cond.instanceMethod q.2.1 ∈ lw_tbl ∧ Cond.selects (am_q e.2.2.2).1 q.2.1 q.2.1 ∈ lw_tbl) (48, 55, 2, 6) := ⟨qX6_copyFrom, tb_X6_copyFrom, by decide, rfl, mo_X6_copyFrom, by decide, am_in9 820 (by decide +kernel), mi_X6_copyFrom, ms_X6_copyFrom⟩
theorem lk_iv_2 : ∀ e ∈ lk_iv 2, ∃ q, am_tb e.2.1 = some q ∧ e.2.2.2 < 13 ∧ q.2.1.cls = (am_q e.2.2.2).1 ∧ am_okm q (e.2.2.1 - 1) ∧ 1 ≤ e.2.2.1 ∧ Cond.methodLink (am_own 2) e.1 q.2.1 ∈ lw_tbl ∧ Cond.instanceMethod q.2.1 ∈ lw_tbl ∧ Cond.selects (am_q e.2.2.2).1 q.2.1 q.2.1 ∈ lw_tbl := List.forall_mem_cons.mpr ⟨lk_iv_2_0, List.forall_mem_cons.mpr ⟨lk_iv_2_1, fun _ h => absurd h List.not_mem_nil⟩⟩
theorem lk_iv_3_0 : (fun e : Nat × Nat × Nat × Nat => ∃ q, am_tb e.2.1 = some q ∧ e.2.2.2 < 13 ∧ q.2.1.cls = (am_q e.2.2.2).1 ∧ am_okm q (e.2.2.1 - 1) ∧ 1 ≤ e.2.2.1 ∧ Cond.methodLink (am_own 3) e.1 q.2.1 ∈ lw_tbl ∧ Cond.instanceMethod q.2.1 ∈ lw_tbl ∧ Cond.selects (am_q e.2.2.2).1 q.2.1 q.2.1 ∈ lw_tbl) (57, 20, 3, 2) := ⟨qX2_isFor, tb_X2_isFor, by decide, rfl, mo_X2_isFor, by decide, am_in9 742 (by decide +kernel), mi_X2_isFor, ms_X2_isFor⟩
theorem lk_iv_3_1 : (fun e : Nat × Nat × Nat × Nat => ∃ q, am_tb e.2.1 = some q ∧ e.2.2.2 < 13 ∧ q.2.1.cls = (am_q e.2.2.2).1 ∧ am_okm q (e.2.2.1 - 1) ∧ 1 ≤ e.2.2.1 ∧ Cond.methodLink (am_own 3) e.1 q.2.1 ∈ lw_tbl ∧ Cond.instanceMethod q.2.1 ∈ lw_tbl ∧ Cond.selects (am_q e.2.2.2).1 q.2.1 q.2.1 ∈ lw_tbl) (61, 26, 3, 3) := ⟨qX3_gather, tb_X3_gather, by decide, rfl, mo_X3_gather, by decide, am_in9 750 (by decide +kernel), mi_X3_gather, ms_X3_gather⟩
theorem lk_iv_3_2 : (fun e : Nat × Nat × Nat × Nat => ∃ q, am_tb e.2.1 = some q ∧ e.2.2.2 < 13 ∧ q.2.1.cls = (am_q e.2.2.2).1 ∧ am_okm q (e.2.2.1 - 1) ∧ 1 ≤ e.2.2.1 ∧ Cond.methodLink (am_own 3) e.1 q.2.1 ∈ lw_tbl ∧ Cond.instanceMethod q.2.1 ∈ lw_tbl ∧ Cond.selects (am_q e.2.2.2).1 q.2.1 q.2.1 ∈ lw_tbl) (65, 27, 1, 3) := ⟨qX3_complete, tb_X3_complete, by decide, rfl, mo_X3_complete, by decide, am_in9 756 (by decide +kernel), mi_X3_complete, ms_X3_complete⟩
theorem lk_iv_3_3 : (fun e : Nat × Nat × Nat × Nat => ∃ q, am_tb e.2.1 = some q ∧ e.2.2.2 < 13 ∧ q.2.1.cls = (am_q e.2.2.2).1 ∧ am_okm q (e.2.2.1 - 1) ∧ 1 ≤ e.2.2.1 ∧ Cond.methodLink (am_own 3) e.1 q.2.1 ∈ lw_tbl ∧ Cond.instanceMethod q.2.1 ∈ lw_tbl ∧ Cond.selects (am_q e.2.2.2).1 q.2.1 q.2.1 ∈ lw_tbl) (68, 34, 1, 3) := ⟨qX3_reduceTails, tb_X3_reduceTails, by decide, rfl, mo_X3_reduceTails, by decide, am_in9 800 (by decide +kernel), mi_X3_reduceTails, ms_X3_reduceTails⟩
theorem lk_iv_3_4 : (fun e : Nat × Nat × Nat × Nat => ∃ q, am_tb e.2.1 = some q ∧ e.2.2.2 < 13 ∧ q.2.1.cls = (am_q e.2.2.2).1 ∧ am_okm q (e.2.2.1 - 1) ∧ 1 ≤ e.2.2.1 ∧ Cond.methodLink (am_own 3) e.1 q.2.1 ∈ lw_tbl ∧ Cond.instanceMethod q.2.1 ∈ lw_tbl ∧ Cond.selects (am_q e.2.2.2).1 q.2.1 q.2.1 ∈ lw_tbl) (71, 21, 3, 2) := ⟨qX2_begin, tb_X2_begin, by decide, rfl, mo_X2_begin, by decide, am_in9 804 (by decide +kernel), mi_X2_begin, ms_X2_begin⟩
theorem lk_iv_3_5 : (fun e : Nat × Nat × Nat × Nat => ∃ q, am_tb e.2.1 = some q ∧ e.2.2.2 < 13 ∧ q.2.1.cls = (am_q e.2.2.2).1 ∧ am_okm q (e.2.2.1 - 1) ∧ 1 ≤ e.2.2.1 ∧ Cond.methodLink (am_own 3) e.1 q.2.1 ∈ lw_tbl ∧ Cond.instanceMethod q.2.1 ∈ lw_tbl ∧ Cond.selects (am_q e.2.2.2).1 q.2.1 q.2.1 ∈ lw_tbl) (74, 35, 2, 3) := ⟨qX3_handOver, tb_X3_handOver, by decide, rfl, mo_X3_handOver, by decide, am_in9 808 (by decide +kernel), mi_X3_handOver, ms_X3_handOver⟩
theorem lk_iv_3_6 : (fun e : Nat × Nat × Nat × Nat => ∃ q, am_tb e.2.1 = some q ∧ e.2.2.2 < 13 ∧ q.2.1.cls = (am_q e.2.2.2).1 ∧ am_okm q (e.2.2.1 - 1) ∧ 1 ≤ e.2.2.1 ∧ Cond.methodLink (am_own 3) e.1 q.2.1 ∈ lw_tbl ∧ Cond.instanceMethod q.2.1 ∈ lw_tbl ∧ Cond.selects (am_q e.2.2.2).1 q.2.1 q.2.1 ∈ lw_tbl) (88, 55, 2, 6) := ⟨qX6_copyFrom, tb_X6_copyFrom, by decide, rfl, mo_X6_copyFrom, by decide, am_in9 755 (by decide +kernel), mi_X6_copyFrom, ms_X6_copyFrom⟩
theorem lk_iv_3_7 : (fun e : Nat × Nat × Nat × Nat => ∃ q, am_tb e.2.1 = some q ∧ e.2.2.2 < 13 ∧ q.2.1.cls = (am_q e.2.2.2).1 ∧ am_okm q (e.2.2.1 - 1) ∧ 1 ≤ e.2.2.1 ∧ Cond.methodLink (am_own 3) e.1 q.2.1 ∈ lw_tbl ∧ Cond.instanceMethod q.2.1 ∈ lw_tbl ∧ Cond.selects (am_q e.2.2.2).1 q.2.1 q.2.1 ∈ lw_tbl) (93, 28, 1, 3) := ⟨qX3_absorb, tb_X3_absorb, by decide, rfl, mo_X3_absorb, by decide, am_in9 761 (by decide +kernel), mi_X3_absorb, ms_X3_absorb⟩
theorem lk_iv_3_8 : (fun e : Nat × Nat × Nat × Nat => ∃ q, am_tb e.2.1 = some q ∧ e.2.2.2 < 13 ∧ q.2.1.cls = (am_q e.2.2.2).1 ∧ am_okm q (e.2.2.1 - 1) ∧ 1 ≤ e.2.2.1 ∧ Cond.methodLink (am_own 3) e.1 q.2.1 ∈ lw_tbl ∧ Cond.instanceMethod q.2.1 ∈ lw_tbl ∧ Cond.selects (am_q e.2.2.2).1 q.2.1 q.2.1 ∈ lw_tbl) (96, 32, 1, 3) := ⟨qX3_cheapestPair, tb_X3_cheapestPair, by decide, rfl, mo_X3_cheapestPair, by decide, am_in9 788 (by decide +kernel), mi_X3_cheapestPair, ms_X3_cheapestPair⟩
theorem lk_iv_3_9 : (fun e : Nat × Nat × Nat × Nat => ∃ q, am_tb e.2.1 = some q ∧ e.2.2.2 < 13 ∧ q.2.1.cls = (am_q e.2.2.2).1 ∧ am_okm q (e.2.2.1 - 1) ∧ 1 ≤ e.2.2.1 ∧ Cond.methodLink (am_own 3) e.1 q.2.1 ∈ lw_tbl ∧ Cond.instanceMethod q.2.1 ∈ lw_tbl ∧ Cond.selects (am_q e.2.2.2).1 q.2.1 q.2.1 ∈ lw_tbl) (100, 33, 2, 3) := ⟨qX3_cross, tb_X3_cross, by decide, rfl, mo_X3_cross, by decide, am_in9 792 (by decide +kernel), mi_X3_cross, ms_X3_cross⟩
theorem lk_iv_3_10 : (fun e : Nat × Nat × Nat × Nat => ∃ q, am_tb e.2.1 = some q ∧ e.2.2.2 < 13 ∧ q.2.1.cls = (am_q e.2.2.2).1 ∧ am_okm q (e.2.2.1 - 1) ∧ 1 ≤ e.2.2.1 ∧ Cond.methodLink (am_own 3) e.1 q.2.1 ∈ lw_tbl ∧ Cond.instanceMethod q.2.1 ∈ lw_tbl ∧ Cond.selects (am_q e.2.2.2).1 q.2.1 q.2.1 ∈ lw_tbl) (104, 37, 2, 4) := ⟨qX4_begin, tb_X4_begin, by decide, rfl, mo_X4_begin, by decide, am_in9 765 (by decide +kernel), mi_X4_begin, ms_X4_begin⟩
theorem lk_iv_3_11 : (fun e : Nat × Nat × Nat × Nat => ∃ q, am_tb e.2.1 = some q ∧ e.2.2.2 < 13 ∧ q.2.1.cls = (am_q e.2.2.2).1 ∧ am_okm q (e.2.2.1 - 1) ∧ 1 ≤ e.2.2.1 ∧ Cond.methodLink (am_own 3) e.1 q.2.1 ∈ lw_tbl ∧ Cond.instanceMethod q.2.1 ∈ lw_tbl ∧ Cond.selects (am_q e.2.2.2).1 q.2.1 q.2.1 ∈ lw_tbl) (108, 38, 2, 4) := ⟨qX4_take, tb_X4_take, by decide, rfl, mo_X4_take, by decide, am_in9 766 (by decide +kernel), mi_X4_take, ms_X4_take⟩
theorem lk_iv_3_12 : (fun e : Nat × Nat × Nat × Nat => ∃ q, am_tb e.2.1 = some q ∧ e.2.2.2 < 13 ∧ q.2.1.cls = (am_q e.2.2.2).1 ∧ am_okm q (e.2.2.1 - 1) ∧ 1 ≤ e.2.2.1 ∧ Cond.methodLink (am_own 3) e.1 q.2.1 ∈ lw_tbl ∧ Cond.instanceMethod q.2.1 ∈ lw_tbl ∧ Cond.selects (am_q e.2.2.2).1 q.2.1 q.2.1 ∈ lw_tbl) (111, 39, 2, 4) := ⟨qX4_reduce, tb_X4_reduce, by decide, rfl, mo_X4_reduce, by decide, am_in9 767 (by decide +kernel), mi_X4_reduce, ms_X4_reduce⟩
theorem lk_iv_3_13 : (fun e : Nat × Nat × Nat × Nat => ∃ q, am_tb e.2.1 = some q ∧ e.2.2.2 < 13 ∧ q.2.1.cls = (am_q e.2.2.2).1 ∧ am_okm q (e.2.2.1 - 1) ∧ 1 ≤ e.2.2.1 ∧ Cond.methodLink (am_own 3) e.1 q.2.1 ∈ lw_tbl ∧ Cond.instanceMethod q.2.1 ∈ lw_tbl ∧ Cond.selects (am_q e.2.2.2).1 q.2.1 q.2.1 ∈ lw_tbl) (114, 62, 2, 6) := ⟨qX6_leadPlace, tb_X6_leadPlace, by decide, rfl, mo_X6_leadPlace, by decide, am_in9 768 (by decide +kernel), mi_X6_leadPlace, ms_X6_leadPlace⟩
theorem lk_iv_3_14 : (fun e : Nat × Nat × Nat × Nat => ∃ q, am_tb e.2.1 = some q ∧ e.2.2.2 < 13 ∧ q.2.1.cls = (am_q e.2.2.2).1 ∧ am_okm q (e.2.2.1 - 1) ∧ 1 ≤ e.2.2.1 ∧ Cond.methodLink (am_own 3) e.1 q.2.1 ∈ lw_tbl ∧ Cond.instanceMethod q.2.1 ∈ lw_tbl ∧ Cond.selects (am_q e.2.2.2).1 q.2.1 q.2.1 ∈ lw_tbl) (126, 57, 2, 6) := ⟨qX6_scale, tb_X6_scale, by decide, rfl, mo_X6_scale, by decide, am_in9 770 (by decide +kernel), mi_X6_scale, ms_X6_scale⟩
theorem lk_iv_3_15 : (fun e : Nat × Nat × Nat × Nat => ∃ q, am_tb e.2.1 = some q ∧ e.2.2.2 < 13 ∧ q.2.1.cls = (am_q e.2.2.2).1 ∧ am_okm q (e.2.2.1 - 1) ∧ 1 ≤ e.2.2.1 ∧ Cond.methodLink (am_own 3) e.1 q.2.1 ∈ lw_tbl ∧ Cond.instanceMethod q.2.1 ∈ lw_tbl ∧ Cond.selects (am_q e.2.2.2).1 q.2.1 q.2.1 ∈ lw_tbl) (135, 29, 2, 3) := ⟨qX3_dismiss, tb_X3_dismiss, by decide, rfl, mo_X3_dismiss, by decide, am_in9 776 (by decide +kernel), mi_X3_dismiss, ms_X3_dismiss⟩
theorem lk_iv_3_16 : (fun e : Nat × Nat × Nat × Nat => ∃ q, am_tb e.2.1 = some q ∧ e.2.2.2 < 13 ∧ q.2.1.cls = (am_q e.2.2.2).1 ∧ am_okm q (e.2.2.1 - 1) ∧ 1 ≤ e.2.2.1 ∧ Cond.methodLink (am_own 3) e.1 q.2.1 ∈ lw_tbl ∧ Cond.instanceMethod q.2.1 ∈ lw_tbl ∧ Cond.selects (am_q e.2.2.2).1 q.2.1 q.2.1 ∈ lw_tbl) (138, 30, 3, 3) := ⟨qX3_admit, tb_X3_admit, by decide, rfl, mo_X3_admit, by decide, am_in9 784 (by decide +kernel), mi_X3_admit, ms_X3_admit⟩
theorem lk_iv_3_17 : (fun e : Nat × Nat × Nat × Nat => ∃ q, am_tb e.2.1 = some q ∧ e.2.2.2 < 13 ∧ q.2.1.cls = (am_q e.2.2.2).1 ∧ am_okm q (e.2.2.1 - 1) ∧ 1 ≤ e.2.2.1 ∧ Cond.methodLink (am_own 3) e.1 q.2.1 ∈ lw_tbl ∧ Cond.instanceMethod q.2.1 ∈ lw_tbl ∧ Cond.selects (am_q e.2.2.2).1 q.2.1 q.2.1 ∈ lw_tbl) (142, 31, 2, 3) := ⟨qX3_unsettle, tb_X3_unsettle, by decide, rfl, mo_X3_unsettle, by decide, am_in9 780 (by decide +kernel), mi_X3_unsettle, ms_X3_unsettle⟩
theorem lk_iv_3_18 : (fun e : Nat × Nat × Nat × Nat => ∃ q, am_tb e.2.1 = some q ∧ e.2.2.2 < 13 ∧ q.2.1.cls = (am_q e.2.2.2).1 ∧ am_okm q (e.2.2.1 - 1) ∧ 1 ≤ e.2.2.1 ∧ Cond.methodLink (am_own 3) e.1 q.2.1 ∈ lw_tbl ∧ Cond.instanceMethod q.2.1 ∈ lw_tbl ∧ Cond.selects (am_q e.2.2.2).1 q.2.1 q.2.1 ∈ lw_tbl) (149, 53, 1, 6) := ⟨qX6_makeZero, tb_X6_makeZero, by decide, rfl, mo_X6_makeZero, by decide, am_in9 797 (by decide +kernel), mi_X6_makeZero, ms_X6_makeZero⟩
theorem lk_iv_3_19 : (fun e : Nat × Nat × Nat × Nat => ∃ q, am_tb e.2.1 = some q ∧ e.2.2.2 < 13 ∧ q.2.1.cls = (am_q e.2.2.2).1 ∧ am_okm q (e.2.2.1 - 1) ∧ 1 ≤ e.2.2.1 ∧ Cond.methodLink (am_own 3) e.1 q.2.1 ∈ lw_tbl ∧ Cond.instanceMethod q.2.1 ∈ lw_tbl ∧ Cond.selects (am_q e.2.2.2).1 q.2.1 q.2.1 ∈ lw_tbl) (152, 59, 1, 6) := ⟨qX6_extent, tb_X6_extent, by decide, rfl, mo_X6_extent, by decide, am_in9 798 (by decide +kernel), mi_X6_extent, ms_X6_extent⟩
theorem lk_iv_3_20 : (fun e : Nat × Nat × Nat × Nat => ∃ q, am_tb e.2.1 = some q ∧ e.2.2.2 < 13 ∧ q.2.1.cls = (am_q e.2.2.2).1 ∧ am_okm q (e.2.2.1 - 1) ∧ 1 ≤ e.2.2.1 ∧ Cond.methodLink (am_own 3) e.1 q.2.1 ∈ lw_tbl ∧ Cond.instanceMethod q.2.1 ∈ lw_tbl ∧ Cond.selects (am_q e.2.2.2).1 q.2.1 q.2.1 ∈ lw_tbl) (155, 15, 6, 1) := ⟨qX1_addWordProduct, tb_X1_addWordProduct, by decide, rfl, mo_X1_addWordProduct, by decide, am_in9 799 (by decide +kernel), mi_X1_addWordProduct, ms_X1_addWordProduct⟩
theorem lk_iv_3_21 : (fun e : Nat × Nat × Nat × Nat => ∃ q, am_tb e.2.1 = some q ∧ e.2.2.2 < 13 ∧ q.2.1.cls = (am_q e.2.2.2).1 ∧ am_okm q (e.2.2.1 - 1) ∧ 1 ≤ e.2.2.1 ∧ Cond.methodLink (am_own 3) e.1 q.2.1 ∈ lw_tbl ∧ Cond.instanceMethod q.2.1 ∈ lw_tbl ∧ Cond.selects (am_q e.2.2.2).1 q.2.1 q.2.1 ∈ lw_tbl) (162, 22, 2, 2) := ⟨qX2_add, tb_X2_add, by decide, rfl, mo_X2_add, by decide, am_in9 815 (by decide +kernel), mi_X2_add, ms_X2_add⟩
theorem lk_iv_3 : ∀ e ∈ lk_iv 3, ∃ q, am_tb e.2.1 = some q ∧ e.2.2.2 < 13 ∧ q.2.1.cls = (am_q e.2.2.2).1 ∧ am_okm q (e.2.2.1 - 1) ∧ 1 ≤ e.2.2.1 ∧ Cond.methodLink (am_own 3) e.1 q.2.1 ∈ lw_tbl ∧ Cond.instanceMethod q.2.1 ∈ lw_tbl ∧ Cond.selects (am_q e.2.2.2).1 q.2.1 q.2.1 ∈ lw_tbl := List.forall_mem_cons.mpr ⟨lk_iv_3_0, List.forall_mem_cons.mpr ⟨lk_iv_3_1, List.forall_mem_cons.mpr ⟨lk_iv_3_2, List.forall_mem_cons.mpr ⟨lk_iv_3_3, List.forall_mem_cons.mpr ⟨lk_iv_3_4, List.forall_mem_cons.mpr ⟨lk_iv_3_5, List.forall_mem_cons.mpr ⟨lk_iv_3_6, List.forall_mem_cons.mpr ⟨lk_iv_3_7, List.forall_mem_cons.mpr ⟨lk_iv_3_8, List.forall_mem_cons.mpr ⟨lk_iv_3_9, List.forall_mem_cons.mpr ⟨lk_iv_3_10, List.forall_mem_cons.mpr ⟨lk_iv_3_11, List.forall_mem_cons.mpr ⟨lk_iv_3_12, List.forall_mem_cons.mpr ⟨lk_iv_3_13, List.forall_mem_cons.mpr ⟨lk_iv_3_14, List.forall_mem_cons.mpr ⟨lk_iv_3_15, List.forall_mem_cons.mpr ⟨lk_iv_3_16, List.forall_mem_cons.mpr ⟨lk_iv_3_17, List.forall_mem_cons.mpr ⟨lk_iv_3_18, List.forall_mem_cons.mpr ⟨lk_iv_3_19, List.forall_mem_cons.mpr ⟨lk_iv_3_20, List.forall_mem_cons.mpr ⟨lk_iv_3_21, fun _ h => absurd h List.not_mem_nil⟩⟩⟩⟩⟩⟩⟩⟩⟩⟩⟩⟩⟩⟩⟩⟩⟩⟩⟩⟩⟩⟩
theorem lk_iv_4_0 : (fun e : Nat × Nat × Nat × Nat => ∃ q, am_tb e.2.1 = some q ∧ e.2.2.2 < 13 ∧ q.2.1.cls = (am_q e.2.2.2).1 ∧ am_okm q (e.2.2.1 - 1) ∧ 1 ≤ e.2.2.1 ∧ Cond.methodLink (am_own 4) e.1 q.2.1 ∈ lw_tbl ∧ Cond.instanceMethod q.2.1 ∈ lw_tbl ∧ Cond.selects (am_q e.2.2.2).1 q.2.1 q.2.1 ∈ lw_tbl) (41, 62, 2, 6) := ⟨qX6_leadPlace, tb_X6_leadPlace, by decide, rfl, mo_X6_leadPlace, by decide, am_in9 712 (by decide +kernel), mi_X6_leadPlace, ms_X6_leadPlace⟩
theorem lk_iv_4_1 : (fun e : Nat × Nat × Nat × Nat => ∃ q, am_tb e.2.1 = some q ∧ e.2.2.2 < 13 ∧ q.2.1.cls = (am_q e.2.2.2).1 ∧ am_okm q (e.2.2.1 - 1) ∧ 1 ≤ e.2.2.1 ∧ Cond.methodLink (am_own 4) e.1 q.2.1 ∈ lw_tbl ∧ Cond.instanceMethod q.2.1 ∈ lw_tbl ∧ Cond.selects (am_q e.2.2.2).1 q.2.1 q.2.1 ∈ lw_tbl) (59, 59, 1, 6) := ⟨qX6_extent, tb_X6_extent, by decide, rfl, mo_X6_extent, by decide, am_in9 716 (by decide +kernel), mi_X6_extent, ms_X6_extent⟩
theorem lk_iv_4_2 : (fun e : Nat × Nat × Nat × Nat => ∃ q, am_tb e.2.1 = some q ∧ e.2.2.2 < 13 ∧ q.2.1.cls = (am_q e.2.2.2).1 ∧ am_okm q (e.2.2.1 - 1) ∧ 1 ≤ e.2.2.1 ∧ Cond.methodLink (am_own 4) e.1 q.2.1 ∈ lw_tbl ∧ Cond.instanceMethod q.2.1 ∈ lw_tbl ∧ Cond.selects (am_q e.2.2.2).1 q.2.1 q.2.1 ∈ lw_tbl) (63, 61, 1, 6) := ⟨qX6_degree, tb_X6_degree, by decide, rfl, mo_X6_degree, by decide, am_in9 721 (by decide +kernel), mi_X6_degree, ms_X6_degree⟩
theorem lk_iv_4_3 : (fun e : Nat × Nat × Nat × Nat => ∃ q, am_tb e.2.1 = some q ∧ e.2.2.2 < 13 ∧ q.2.1.cls = (am_q e.2.2.2).1 ∧ am_okm q (e.2.2.1 - 1) ∧ 1 ≤ e.2.2.1 ∧ Cond.methodLink (am_own 4) e.1 q.2.1 ∈ lw_tbl ∧ Cond.instanceMethod q.2.1 ∈ lw_tbl ∧ Cond.selects (am_q e.2.2.2).1 q.2.1 q.2.1 ∈ lw_tbl) (70, 40, 3, 4) := ⟨qX4_cancel, tb_X4_cancel, by decide, rfl, mo_X4_cancel, by decide, am_in9 723 (by decide +kernel), mi_X4_cancel, ms_X4_cancel⟩
theorem lk_iv_4_4 : (fun e : Nat × Nat × Nat × Nat => ∃ q, am_tb e.2.1 = some q ∧ e.2.2.2 < 13 ∧ q.2.1.cls = (am_q e.2.2.2).1 ∧ am_okm q (e.2.2.1 - 1) ∧ 1 ≤ e.2.2.1 ∧ Cond.methodLink (am_own 4) e.1 q.2.1 ∈ lw_tbl ∧ Cond.instanceMethod q.2.1 ∈ lw_tbl ∧ Cond.selects (am_q e.2.2.2).1 q.2.1 q.2.1 ∈ lw_tbl) (78, 15, 6, 1) := ⟨qX1_addWordProduct, tb_X1_addWordProduct, by decide, rfl, mo_X1_addWordProduct, by decide, am_in9 728 (by decide +kernel), mi_X1_addWordProduct, ms_X1_addWordProduct⟩
theorem lk_iv_4 : ∀ e ∈ lk_iv 4, ∃ q, am_tb e.2.1 = some q ∧ e.2.2.2 < 13 ∧ q.2.1.cls = (am_q e.2.2.2).1 ∧ am_okm q (e.2.2.1 - 1) ∧ 1 ≤ e.2.2.1 ∧ Cond.methodLink (am_own 4) e.1 q.2.1 ∈ lw_tbl ∧ Cond.instanceMethod q.2.1 ∈ lw_tbl ∧ Cond.selects (am_q e.2.2.2).1 q.2.1 q.2.1 ∈ lw_tbl := List.forall_mem_cons.mpr ⟨lk_iv_4_0, List.forall_mem_cons.mpr ⟨lk_iv_4_1, List.forall_mem_cons.mpr ⟨lk_iv_4_2, List.forall_mem_cons.mpr ⟨lk_iv_4_3, List.forall_mem_cons.mpr ⟨lk_iv_4_4, fun _ h => absurd h List.not_mem_nil⟩⟩⟩⟩⟩
theorem lk_iv_5_0 : (fun e : Nat × Nat × Nat × Nat => ∃ q, am_tb e.2.1 = some q ∧ e.2.2.2 < 13 ∧ q.2.1.cls = (am_q e.2.2.2).1 ∧ am_okm q (e.2.2.1 - 1) ∧ 1 ≤ e.2.2.1 ∧ Cond.methodLink (am_own 5) e.1 q.2.1 ∈ lw_tbl ∧ Cond.instanceMethod q.2.1 ∈ lw_tbl ∧ Cond.selects (am_q e.2.2.2).1 q.2.1 q.2.1 ∈ lw_tbl) (25, 74, 2, 8) := ⟨qX8_copyFrom, tb_X8_copyFrom, by decide, rfl, mo_X8_copyFrom, by decide, am_in9 454 (by decide +kernel), mi_X8_copyFrom, ms_X8_copyFrom⟩
theorem lk_iv_5 : ∀ e ∈ lk_iv 5, ∃ q, am_tb e.2.1 = some q ∧ e.2.2.2 < 13 ∧ q.2.1.cls = (am_q e.2.2.2).1 ∧ am_okm q (e.2.2.1 - 1) ∧ 1 ≤ e.2.2.1 ∧ Cond.methodLink (am_own 5) e.1 q.2.1 ∈ lw_tbl ∧ Cond.instanceMethod q.2.1 ∈ lw_tbl ∧ Cond.selects (am_q e.2.2.2).1 q.2.1 q.2.1 ∈ lw_tbl := List.forall_mem_cons.mpr ⟨lk_iv_5_0, fun _ h => absurd h List.not_mem_nil⟩
theorem lk_iv_6_0 : (fun e : Nat × Nat × Nat × Nat => ∃ q, am_tb e.2.1 = some q ∧ e.2.2.2 < 13 ∧ q.2.1.cls = (am_q e.2.2.2).1 ∧ am_okm q (e.2.2.1 - 1) ∧ 1 ≤ e.2.2.1 ∧ Cond.methodLink (am_own 6) e.1 q.2.1 ∈ lw_tbl ∧ Cond.instanceMethod q.2.1 ∈ lw_tbl ∧ Cond.selects (am_q e.2.2.2).1 q.2.1 q.2.1 ∈ lw_tbl) (42, 53, 1, 6) := ⟨qX6_makeZero, tb_X6_makeZero, by decide, rfl, mo_X6_makeZero, by decide, am_in9 579 (by decide +kernel), mi_X6_makeZero, ms_X6_makeZero⟩
theorem lk_iv_6_1 : (fun e : Nat × Nat × Nat × Nat => ∃ q, am_tb e.2.1 = some q ∧ e.2.2.2 < 13 ∧ q.2.1.cls = (am_q e.2.2.2).1 ∧ am_okm q (e.2.2.1 - 1) ∧ 1 ≤ e.2.2.1 ∧ Cond.methodLink (am_own 6) e.1 q.2.1 ∈ lw_tbl ∧ Cond.instanceMethod q.2.1 ∈ lw_tbl ∧ Cond.selects (am_q e.2.2.2).1 q.2.1 q.2.1 ∈ lw_tbl) (51, 59, 1, 6) := ⟨qX6_extent, tb_X6_extent, by decide, rfl, mo_X6_extent, by decide, am_in9 530 (by decide +kernel), mi_X6_extent, ms_X6_extent⟩
theorem lk_iv_6_2 : (fun e : Nat × Nat × Nat × Nat => ∃ q, am_tb e.2.1 = some q ∧ e.2.2.2 < 13 ∧ q.2.1.cls = (am_q e.2.2.2).1 ∧ am_okm q (e.2.2.1 - 1) ∧ 1 ≤ e.2.2.1 ∧ Cond.methodLink (am_own 6) e.1 q.2.1 ∈ lw_tbl ∧ Cond.instanceMethod q.2.1 ∈ lw_tbl ∧ Cond.selects (am_q e.2.2.2).1 q.2.1 q.2.1 ∈ lw_tbl) (55, 61, 1, 6) := ⟨qX6_degree, tb_X6_degree, by decide, rfl, mo_X6_degree, by decide, am_in9 607 (by decide +kernel), mi_X6_degree, ms_X6_degree⟩
theorem lk_iv_6_3 : (fun e : Nat × Nat × Nat × Nat => ∃ q, am_tb e.2.1 = some q ∧ e.2.2.2 < 13 ∧ q.2.1.cls = (am_q e.2.2.2).1 ∧ am_okm q (e.2.2.1 - 1) ∧ 1 ≤ e.2.2.1 ∧ Cond.methodLink (am_own 6) e.1 q.2.1 ∈ lw_tbl ∧ Cond.instanceMethod q.2.1 ∈ lw_tbl ∧ Cond.selects (am_q e.2.2.2).1 q.2.1 q.2.1 ∈ lw_tbl) (62, 58, 1, 6) := ⟨qX6_countTerms, tb_X6_countTerms, by decide, rfl, mo_X6_countTerms, by decide, am_in9 602 (by decide +kernel), mi_X6_countTerms, ms_X6_countTerms⟩
theorem lk_iv_6_4 : (fun e : Nat × Nat × Nat × Nat => ∃ q, am_tb e.2.1 = some q ∧ e.2.2.2 < 13 ∧ q.2.1.cls = (am_q e.2.2.2).1 ∧ am_okm q (e.2.2.1 - 1) ∧ 1 ≤ e.2.2.1 ∧ Cond.methodLink (am_own 6) e.1 q.2.1 ∈ lw_tbl ∧ Cond.instanceMethod q.2.1 ∈ lw_tbl ∧ Cond.selects (am_q e.2.2.2).1 q.2.1 q.2.1 ∈ lw_tbl) (65, 62, 2, 6) := ⟨qX6_leadPlace, tb_X6_leadPlace, by decide, rfl, mo_X6_leadPlace, by decide, am_in9 603 (by decide +kernel), mi_X6_leadPlace, ms_X6_leadPlace⟩
theorem lk_iv_6_5 : (fun e : Nat × Nat × Nat × Nat => ∃ q, am_tb e.2.1 = some q ∧ e.2.2.2 < 13 ∧ q.2.1.cls = (am_q e.2.2.2).1 ∧ am_okm q (e.2.2.1 - 1) ∧ 1 ≤ e.2.2.1 ∧ Cond.methodLink (am_own 6) e.1 q.2.1 ∈ lw_tbl ∧ Cond.instanceMethod q.2.1 ∈ lw_tbl ∧ Cond.selects (am_q e.2.2.2).1 q.2.1 q.2.1 ∈ lw_tbl) (73, 64, 2, 6) := ⟨qX6_greatest, tb_X6_greatest, by decide, rfl, mo_X6_greatest, by decide, am_in9 612 (by decide +kernel), mi_X6_greatest, ms_X6_greatest⟩
theorem lk_iv_6 : ∀ e ∈ lk_iv 6, ∃ q, am_tb e.2.1 = some q ∧ e.2.2.2 < 13 ∧ q.2.1.cls = (am_q e.2.2.2).1 ∧ am_okm q (e.2.2.1 - 1) ∧ 1 ≤ e.2.2.1 ∧ Cond.methodLink (am_own 6) e.1 q.2.1 ∈ lw_tbl ∧ Cond.instanceMethod q.2.1 ∈ lw_tbl ∧ Cond.selects (am_q e.2.2.2).1 q.2.1 q.2.1 ∈ lw_tbl := List.forall_mem_cons.mpr ⟨lk_iv_6_0, List.forall_mem_cons.mpr ⟨lk_iv_6_1, List.forall_mem_cons.mpr ⟨lk_iv_6_2, List.forall_mem_cons.mpr ⟨lk_iv_6_3, List.forall_mem_cons.mpr ⟨lk_iv_6_4, List.forall_mem_cons.mpr ⟨lk_iv_6_5, fun _ h => absurd h List.not_mem_nil⟩⟩⟩⟩⟩⟩
theorem lk_iv_7_0 : (fun e : Nat × Nat × Nat × Nat => ∃ q, am_tb e.2.1 = some q ∧ e.2.2.2 < 13 ∧ q.2.1.cls = (am_q e.2.2.2).1 ∧ am_okm q (e.2.2.1 - 1) ∧ 1 ≤ e.2.2.1 ∧ Cond.methodLink (am_own 7) e.1 q.2.1 ∈ lw_tbl ∧ Cond.instanceMethod q.2.1 ∈ lw_tbl ∧ Cond.selects (am_q e.2.2.2).1 q.2.1 q.2.1 ∈ lw_tbl) (40, 68, 2, 7) := ⟨qX7_readExpression, tb_X7_readExpression, by decide, rfl, mo_X7_readExpression, by decide, am_in9 895 (by decide +kernel), mi_X7_readExpression, ms_X7_readExpression⟩
theorem lk_iv_7_1 : (fun e : Nat × Nat × Nat × Nat => ∃ q, am_tb e.2.1 = some q ∧ e.2.2.2 < 13 ∧ q.2.1.cls = (am_q e.2.2.2).1 ∧ am_okm q (e.2.2.1 - 1) ∧ 1 ≤ e.2.2.1 ∧ Cond.methodLink (am_own 7) e.1 q.2.1 ∈ lw_tbl ∧ Cond.instanceMethod q.2.1 ∈ lw_tbl ∧ Cond.selects (am_q e.2.2.2).1 q.2.1 q.2.1 ∈ lw_tbl) (44, 55, 2, 6) := ⟨qX6_copyFrom, tb_X6_copyFrom, by decide, rfl, mo_X6_copyFrom, by decide, am_in9 914 (by decide +kernel), mi_X6_copyFrom, ms_X6_copyFrom⟩
theorem lk_iv_7_2 : (fun e : Nat × Nat × Nat × Nat => ∃ q, am_tb e.2.1 = some q ∧ e.2.2.2 < 13 ∧ q.2.1.cls = (am_q e.2.2.2).1 ∧ am_okm q (e.2.2.1 - 1) ∧ 1 ≤ e.2.2.1 ∧ Cond.methodLink (am_own 7) e.1 q.2.1 ∈ lw_tbl ∧ Cond.instanceMethod q.2.1 ∈ lw_tbl ∧ Cond.selects (am_q e.2.2.2).1 q.2.1 q.2.1 ∈ lw_tbl) (48, 53, 1, 6) := ⟨qX6_makeZero, tb_X6_makeZero, by decide, rfl, mo_X6_makeZero, by decide, am_in9 899 (by decide +kernel), mi_X6_makeZero, ms_X6_makeZero⟩
theorem lk_iv_7_3 : (fun e : Nat × Nat × Nat × Nat => ∃ q, am_tb e.2.1 = some q ∧ e.2.2.2 < 13 ∧ q.2.1.cls = (am_q e.2.2.2).1 ∧ am_okm q (e.2.2.1 - 1) ∧ 1 ≤ e.2.2.1 ∧ Cond.methodLink (am_own 7) e.1 q.2.1 ∈ lw_tbl ∧ Cond.instanceMethod q.2.1 ∈ lw_tbl ∧ Cond.selects (am_q e.2.2.2).1 q.2.1 q.2.1 ∈ lw_tbl) (51, 72, 1, 7) := ⟨qX7_peek, tb_X7_peek, by decide, rfl, mo_X7_peek, by decide, am_in9 900 (by decide +kernel), mi_X7_peek, ms_X7_peek⟩
theorem lk_iv_7_4 : (fun e : Nat × Nat × Nat × Nat => ∃ q, am_tb e.2.1 = some q ∧ e.2.2.2 < 13 ∧ q.2.1.cls = (am_q e.2.2.2).1 ∧ am_okm q (e.2.2.1 - 1) ∧ 1 ≤ e.2.2.1 ∧ Cond.methodLink (am_own 7) e.1 q.2.1 ∈ lw_tbl ∧ Cond.instanceMethod q.2.1 ∈ lw_tbl ∧ Cond.selects (am_q e.2.2.2).1 q.2.1 q.2.1 ∈ lw_tbl) (55, 69, 2, 7) := ⟨qX7_readTerm, tb_X7_readTerm, by decide, rfl, mo_X7_readTerm, by decide, am_in9 905 (by decide +kernel), mi_X7_readTerm, ms_X7_readTerm⟩
theorem lk_iv_7_5 : (fun e : Nat × Nat × Nat × Nat => ∃ q, am_tb e.2.1 = some q ∧ e.2.2.2 < 13 ∧ q.2.1.cls = (am_q e.2.2.2).1 ∧ am_okm q (e.2.2.1 - 1) ∧ 1 ≤ e.2.2.1 ∧ Cond.methodLink (am_own 7) e.1 q.2.1 ∈ lw_tbl ∧ Cond.instanceMethod q.2.1 ∈ lw_tbl ∧ Cond.selects (am_q e.2.2.2).1 q.2.1 q.2.1 ∈ lw_tbl) (58, 56, 3, 6) := ⟨qX6_addMultiple, tb_X6_addMultiple, by decide, rfl, mo_X6_addMultiple, by decide, am_in9 926 (by decide +kernel), mi_X6_addMultiple, ms_X6_addMultiple⟩
theorem lk_iv_7_6 : (fun e : Nat × Nat × Nat × Nat => ∃ q, am_tb e.2.1 = some q ∧ e.2.2.2 < 13 ∧ q.2.1.cls = (am_q e.2.2.2).1 ∧ am_okm q (e.2.2.1 - 1) ∧ 1 ≤ e.2.2.1 ∧ Cond.methodLink (am_own 7) e.1 q.2.1 ∈ lw_tbl ∧ Cond.instanceMethod q.2.1 ∈ lw_tbl ∧ Cond.selects (am_q e.2.2.2).1 q.2.1 q.2.1 ∈ lw_tbl) (62, 54, 2, 6) := ⟨qX6_makeNumber, tb_X6_makeNumber, by decide, rfl, mo_X6_makeNumber, by decide, am_in9 909 (by decide +kernel), mi_X6_makeNumber, ms_X6_makeNumber⟩
theorem lk_iv_7_7 : (fun e : Nat × Nat × Nat × Nat => ∃ q, am_tb e.2.1 = some q ∧ e.2.2.2 < 13 ∧ q.2.1.cls = (am_q e.2.2.2).1 ∧ am_okm q (e.2.2.1 - 1) ∧ 1 ≤ e.2.2.1 ∧ Cond.methodLink (am_own 7) e.1 q.2.1 ∈ lw_tbl ∧ Cond.instanceMethod q.2.1 ∈ lw_tbl ∧ Cond.selects (am_q e.2.2.2).1 q.2.1 q.2.1 ∈ lw_tbl) (66, 70, 2, 7) := ⟨qX7_readFactor, tb_X7_readFactor, by decide, rfl, mo_X7_readFactor, by decide, am_in9 910 (by decide +kernel), mi_X7_readFactor, ms_X7_readFactor⟩
theorem lk_iv_7_8 : (fun e : Nat × Nat × Nat × Nat => ∃ q, am_tb e.2.1 = some q ∧ e.2.2.2 < 13 ∧ q.2.1.cls = (am_q e.2.2.2).1 ∧ am_okm q (e.2.2.1 - 1) ∧ 1 ≤ e.2.2.1 ∧ Cond.methodLink (am_own 7) e.1 q.2.1 ∈ lw_tbl ∧ Cond.instanceMethod q.2.1 ∈ lw_tbl ∧ Cond.selects (am_q e.2.2.2).1 q.2.1 q.2.1 ∈ lw_tbl) (75, 14, 5, 1) := ⟨qX1_addProduct, tb_X1_addProduct, by decide, rfl, mo_X1_addProduct, by decide, am_in9 925 (by decide +kernel), mi_X1_addProduct, ms_X1_addProduct⟩
theorem lk_iv_7_9 : (fun e : Nat × Nat × Nat × Nat => ∃ q, am_tb e.2.1 = some q ∧ e.2.2.2 < 13 ∧ q.2.1.cls = (am_q e.2.2.2).1 ∧ am_okm q (e.2.2.1 - 1) ∧ 1 ≤ e.2.2.1 ∧ Cond.methodLink (am_own 7) e.1 q.2.1 ∈ lw_tbl ∧ Cond.instanceMethod q.2.1 ∈ lw_tbl ∧ Cond.selects (am_q e.2.2.2).1 q.2.1 q.2.1 ∈ lw_tbl) (79, 52, 4, 6) := ⟨qX6_setCoefficient, tb_X6_setCoefficient, by decide, rfl, mo_X6_setCoefficient, by decide, am_in9 915 (by decide +kernel), mi_X6_setCoefficient, ms_X6_setCoefficient⟩
theorem lk_iv_7_10 : (fun e : Nat × Nat × Nat × Nat => ∃ q, am_tb e.2.1 = some q ∧ e.2.2.2 < 13 ∧ q.2.1.cls = (am_q e.2.2.2).1 ∧ am_okm q (e.2.2.1 - 1) ∧ 1 ≤ e.2.2.1 ∧ Cond.methodLink (am_own 7) e.1 q.2.1 ∈ lw_tbl ∧ Cond.instanceMethod q.2.1 ∈ lw_tbl ∧ Cond.selects (am_q e.2.2.2).1 q.2.1 q.2.1 ∈ lw_tbl) (83, 71, 2, 7) := ⟨qX7_readNumber, tb_X7_readNumber, by decide, rfl, mo_X7_readNumber, by decide, am_in9 916 (by decide +kernel), mi_X7_readNumber, ms_X7_readNumber⟩
theorem lk_iv_7_11 : (fun e : Nat × Nat × Nat × Nat => ∃ q, am_tb e.2.1 = some q ∧ e.2.2.2 < 13 ∧ q.2.1.cls = (am_q e.2.2.2).1 ∧ am_okm q (e.2.2.1 - 1) ∧ 1 ≤ e.2.2.1 ∧ Cond.methodLink (am_own 7) e.1 q.2.1 ∈ lw_tbl ∧ Cond.instanceMethod q.2.1 ∈ lw_tbl ∧ Cond.selects (am_q e.2.2.2).1 q.2.1 q.2.1 ∈ lw_tbl) (91, 16, 4, 1) := ⟨qX1_raise, tb_X1_raise, by decide, rfl, mo_X1_raise, by decide, am_in9 923 (by decide +kernel), mi_X1_raise, ms_X1_raise⟩
theorem lk_iv_7_12 : (fun e : Nat × Nat × Nat × Nat => ∃ q, am_tb e.2.1 = some q ∧ e.2.2.2 < 13 ∧ q.2.1.cls = (am_q e.2.2.2).1 ∧ am_okm q (e.2.2.1 - 1) ∧ 1 ≤ e.2.2.1 ∧ Cond.methodLink (am_own 7) e.1 q.2.1 ∈ lw_tbl ∧ Cond.instanceMethod q.2.1 ∈ lw_tbl ∧ Cond.selects (am_q e.2.2.2).1 q.2.1 q.2.1 ∈ lw_tbl) (95, 84, 3, 9) := ⟨qX9_countDigits, tb_X9_countDigits, by decide, rfl, mo_X9_countDigits, by decide, am_in9 920 (by decide +kernel), mi_X9_countDigits, ms_X9_countDigits⟩
theorem lk_iv_7_13 : (fun e : Nat × Nat × Nat × Nat => ∃ q, am_tb e.2.1 = some q ∧ e.2.2.2 < 13 ∧ q.2.1.cls = (am_q e.2.2.2).1 ∧ am_okm q (e.2.2.1 - 1) ∧ 1 ≤ e.2.2.1 ∧ Cond.methodLink (am_own 7) e.1 q.2.1 ∈ lw_tbl ∧ Cond.instanceMethod q.2.1 ∈ lw_tbl ∧ Cond.selects (am_q e.2.2.2).1 q.2.1 q.2.1 ∈ lw_tbl) (101, 85, 3, 9) := ⟨qX9_valueOf, tb_X9_valueOf, by decide, rfl, mo_X9_valueOf, by decide, am_in9 921 (by decide +kernel), mi_X9_valueOf, ms_X9_valueOf⟩
theorem lk_iv_7_14 : (fun e : Nat × Nat × Nat × Nat => ∃ q, am_tb e.2.1 = some q ∧ e.2.2.2 < 13 ∧ q.2.1.cls = (am_q e.2.2.2).1 ∧ am_okm q (e.2.2.1 - 1) ∧ 1 ≤ e.2.2.1 ∧ Cond.methodLink (am_own 7) e.1 q.2.1 ∈ lw_tbl ∧ Cond.instanceMethod q.2.1 ∈ lw_tbl ∧ Cond.selects (am_q e.2.2.2).1 q.2.1 q.2.1 ∈ lw_tbl) (107, 77, 2, 9) := ⟨qX9_byteAt, tb_X9_byteAt, by decide, rfl, mo_X9_byteAt, by decide, am_in9 904 (by decide +kernel), mi_X9_byteAt, ms_X9_byteAt⟩
theorem lk_iv_7 : ∀ e ∈ lk_iv 7, ∃ q, am_tb e.2.1 = some q ∧ e.2.2.2 < 13 ∧ q.2.1.cls = (am_q e.2.2.2).1 ∧ am_okm q (e.2.2.1 - 1) ∧ 1 ≤ e.2.2.1 ∧ Cond.methodLink (am_own 7) e.1 q.2.1 ∈ lw_tbl ∧ Cond.instanceMethod q.2.1 ∈ lw_tbl ∧ Cond.selects (am_q e.2.2.2).1 q.2.1 q.2.1 ∈ lw_tbl := List.forall_mem_cons.mpr ⟨lk_iv_7_0, List.forall_mem_cons.mpr ⟨lk_iv_7_1, List.forall_mem_cons.mpr ⟨lk_iv_7_2, List.forall_mem_cons.mpr ⟨lk_iv_7_3, List.forall_mem_cons.mpr ⟨lk_iv_7_4, List.forall_mem_cons.mpr ⟨lk_iv_7_5, List.forall_mem_cons.mpr ⟨lk_iv_7_6, List.forall_mem_cons.mpr ⟨lk_iv_7_7, List.forall_mem_cons.mpr ⟨lk_iv_7_8, List.forall_mem_cons.mpr ⟨lk_iv_7_9, List.forall_mem_cons.mpr ⟨lk_iv_7_10, List.forall_mem_cons.mpr ⟨lk_iv_7_11, List.forall_mem_cons.mpr ⟨lk_iv_7_12, List.forall_mem_cons.mpr ⟨lk_iv_7_13, List.forall_mem_cons.mpr ⟨lk_iv_7_14, fun _ h => absurd h List.not_mem_nil⟩⟩⟩⟩⟩⟩⟩⟩⟩⟩⟩⟩⟩⟩⟩
theorem lk_iv_8_0 : (fun e : Nat × Nat × Nat × Nat => ∃ q, am_tb e.2.1 = some q ∧ e.2.2.2 < 13 ∧ q.2.1.cls = (am_q e.2.2.2).1 ∧ am_okm q (e.2.2.1 - 1) ∧ 1 ≤ e.2.2.1 ∧ Cond.methodLink (am_own 8) e.1 q.2.1 ∈ lw_tbl ∧ Cond.instanceMethod q.2.1 ∈ lw_tbl ∧ Cond.selects (am_q e.2.2.2).1 q.2.1 q.2.1 ∈ lw_tbl) (27, 55, 2, 6) := ⟨qX6_copyFrom, tb_X6_copyFrom, by decide, rfl, mo_X6_copyFrom, by decide, am_in9 458 (by decide +kernel), mi_X6_copyFrom, ms_X6_copyFrom⟩
theorem lk_iv_8 : ∀ e ∈ lk_iv 8, ∃ q, am_tb e.2.1 = some q ∧ e.2.2.2 < 13 ∧ q.2.1.cls = (am_q e.2.2.2).1 ∧ am_okm q (e.2.2.1 - 1) ∧ 1 ≤ e.2.2.1 ∧ Cond.methodLink (am_own 8) e.1 q.2.1 ∈ lw_tbl ∧ Cond.instanceMethod q.2.1 ∈ lw_tbl ∧ Cond.selects (am_q e.2.2.2).1 q.2.1 q.2.1 ∈ lw_tbl := List.forall_mem_cons.mpr ⟨lk_iv_8_0, fun _ h => absurd h List.not_mem_nil⟩
theorem lk_iv_9_0 : (fun e : Nat × Nat × Nat × Nat => ∃ q, am_tb e.2.1 = some q ∧ e.2.2.2 < 13 ∧ q.2.1.cls = (am_q e.2.2.2).1 ∧ am_okm q (e.2.2.1 - 1) ∧ 1 ≤ e.2.2.1 ∧ Cond.methodLink (am_own 9) e.1 q.2.1 ∈ lw_tbl ∧ Cond.instanceMethod q.2.1 ∈ lw_tbl ∧ Cond.selects (am_q e.2.2.2).1 q.2.1 q.2.1 ∈ lw_tbl) (25, 77, 2, 9) := ⟨qX9_byteAt, tb_X9_byteAt, by decide, rfl, mo_X9_byteAt, by decide, am_in9 859 (by decide +kernel), mi_X9_byteAt, ms_X9_byteAt⟩
theorem lk_iv_9_1 : (fun e : Nat × Nat × Nat × Nat => ∃ q, am_tb e.2.1 = some q ∧ e.2.2.2 < 13 ∧ q.2.1.cls = (am_q e.2.2.2).1 ∧ am_okm q (e.2.2.1 - 1) ∧ 1 ≤ e.2.2.1 ∧ Cond.methodLink (am_own 9) e.1 q.2.1 ∈ lw_tbl ∧ Cond.instanceMethod q.2.1 ∈ lw_tbl ∧ Cond.selects (am_q e.2.2.2).1 q.2.1 q.2.1 ∈ lw_tbl) (29, 80, 2, 9) := ⟨qX9_pass, tb_X9_pass, by decide, rfl, mo_X9_pass, by decide, am_in9 863 (by decide +kernel), mi_X9_pass, ms_X9_pass⟩
theorem lk_iv_9_2 : (fun e : Nat × Nat × Nat × Nat => ∃ q, am_tb e.2.1 = some q ∧ e.2.2.2 < 13 ∧ q.2.1.cls = (am_q e.2.2.2).1 ∧ am_okm q (e.2.2.1 - 1) ∧ 1 ≤ e.2.2.1 ∧ Cond.methodLink (am_own 9) e.1 q.2.1 ∈ lw_tbl ∧ Cond.instanceMethod q.2.1 ∈ lw_tbl ∧ Cond.selects (am_q e.2.2.2).1 q.2.1 q.2.1 ∈ lw_tbl) (32, 81, 2, 9) := ⟨qX9_passOperand, tb_X9_passOperand, by decide, rfl, mo_X9_passOperand, by decide, am_in9 867 (by decide +kernel), mi_X9_passOperand, ms_X9_passOperand⟩
theorem lk_iv_9_3 : (fun e : Nat × Nat × Nat × Nat => ∃ q, am_tb e.2.1 = some q ∧ e.2.2.2 < 13 ∧ q.2.1.cls = (am_q e.2.2.2).1 ∧ am_okm q (e.2.2.1 - 1) ∧ 1 ≤ e.2.2.1 ∧ Cond.methodLink (am_own 9) e.1 q.2.1 ∈ lw_tbl ∧ Cond.instanceMethod q.2.1 ∈ lw_tbl ∧ Cond.selects (am_q e.2.2.2).1 q.2.1 q.2.1 ∈ lw_tbl) (35, 82, 2, 9) := ⟨qX9_passExponent, tb_X9_passExponent, by decide, rfl, mo_X9_passExponent, by decide, am_in9 879 (by decide +kernel), mi_X9_passExponent, ms_X9_passExponent⟩
theorem lk_iv_9_4 : (fun e : Nat × Nat × Nat × Nat => ∃ q, am_tb e.2.1 = some q ∧ e.2.2.2 < 13 ∧ q.2.1.cls = (am_q e.2.2.2).1 ∧ am_okm q (e.2.2.1 - 1) ∧ 1 ≤ e.2.2.1 ∧ Cond.methodLink (am_own 9) e.1 q.2.1 ∈ lw_tbl ∧ Cond.instanceMethod q.2.1 ∈ lw_tbl ∧ Cond.selects (am_q e.2.2.2).1 q.2.1 q.2.1 ∈ lw_tbl) (38, 83, 2, 9) := ⟨qX9_passLink, tb_X9_passLink, by decide, rfl, mo_X9_passLink, by decide, am_in9 887 (by decide +kernel), mi_X9_passLink, ms_X9_passLink⟩
theorem lk_iv_9_5 : (fun e : Nat × Nat × Nat × Nat => ∃ q, am_tb e.2.1 = some q ∧ e.2.2.2 < 13 ∧ q.2.1.cls = (am_q e.2.2.2).1 ∧ am_okm q (e.2.2.1 - 1) ∧ 1 ≤ e.2.2.1 ∧ Cond.methodLink (am_own 9) e.1 q.2.1 ∈ lw_tbl ∧ Cond.instanceMethod q.2.1 ∈ lw_tbl ∧ Cond.selects (am_q e.2.2.2).1 q.2.1 q.2.1 ∈ lw_tbl) (41, 84, 3, 9) := ⟨qX9_countDigits, tb_X9_countDigits, by decide, rfl, mo_X9_countDigits, by decide, am_in9 871 (by decide +kernel), mi_X9_countDigits, ms_X9_countDigits⟩
theorem lk_iv_9_6 : (fun e : Nat × Nat × Nat × Nat => ∃ q, am_tb e.2.1 = some q ∧ e.2.2.2 < 13 ∧ q.2.1.cls = (am_q e.2.2.2).1 ∧ am_okm q (e.2.2.1 - 1) ∧ 1 ≤ e.2.2.1 ∧ Cond.methodLink (am_own 9) e.1 q.2.1 ∈ lw_tbl ∧ Cond.instanceMethod q.2.1 ∈ lw_tbl ∧ Cond.selects (am_q e.2.2.2).1 q.2.1 q.2.1 ∈ lw_tbl) (45, 85, 3, 9) := ⟨qX9_valueOf, tb_X9_valueOf, by decide, rfl, mo_X9_valueOf, by decide, am_in9 883 (by decide +kernel), mi_X9_valueOf, ms_X9_valueOf⟩
theorem lk_iv_9_7 : (fun e : Nat × Nat × Nat × Nat => ∃ q, am_tb e.2.1 = some q ∧ e.2.2.2 < 13 ∧ q.2.1.cls = (am_q e.2.2.2).1 ∧ am_okm q (e.2.2.1 - 1) ∧ 1 ≤ e.2.2.1 ∧ Cond.methodLink (am_own 9) e.1 q.2.1 ∈ lw_tbl ∧ Cond.instanceMethod q.2.1 ∈ lw_tbl ∧ Cond.selects (am_q e.2.2.2).1 q.2.1 q.2.1 ∈ lw_tbl) (48, 78, 2, 9) := ⟨qX9_isDigit, tb_X9_isDigit, by decide, rfl, mo_X9_isDigit, by decide, am_in9 875 (by decide +kernel), mi_X9_isDigit, ms_X9_isDigit⟩
theorem lk_iv_9 : ∀ e ∈ lk_iv 9, ∃ q, am_tb e.2.1 = some q ∧ e.2.2.2 < 13 ∧ q.2.1.cls = (am_q e.2.2.2).1 ∧ am_okm q (e.2.2.1 - 1) ∧ 1 ≤ e.2.2.1 ∧ Cond.methodLink (am_own 9) e.1 q.2.1 ∈ lw_tbl ∧ Cond.instanceMethod q.2.1 ∈ lw_tbl ∧ Cond.selects (am_q e.2.2.2).1 q.2.1 q.2.1 ∈ lw_tbl := List.forall_mem_cons.mpr ⟨lk_iv_9_0, List.forall_mem_cons.mpr ⟨lk_iv_9_1, List.forall_mem_cons.mpr ⟨lk_iv_9_2, List.forall_mem_cons.mpr ⟨lk_iv_9_3, List.forall_mem_cons.mpr ⟨lk_iv_9_4, List.forall_mem_cons.mpr ⟨lk_iv_9_5, List.forall_mem_cons.mpr ⟨lk_iv_9_6, List.forall_mem_cons.mpr ⟨lk_iv_9_7, fun _ h => absurd h List.not_mem_nil⟩⟩⟩⟩⟩⟩⟩⟩
theorem lk_iv_10_0 : (fun e : Nat × Nat × Nat × Nat => ∃ q, am_tb e.2.1 = some q ∧ e.2.2.2 < 13 ∧ q.2.1.cls = (am_q e.2.2.2).1 ∧ am_okm q (e.2.2.1 - 1) ∧ 1 ≤ e.2.2.1 ∧ Cond.methodLink (am_own 10) e.1 q.2.1 ∈ lw_tbl ∧ Cond.instanceMethod q.2.1 ∈ lw_tbl ∧ Cond.selects (am_q e.2.2.2).1 q.2.1 q.2.1 ∈ lw_tbl) (19, 61, 1, 6) := ⟨qX6_degree, tb_X6_degree, by decide, rfl, mo_X6_degree, by decide, am_in9 935 (by decide +kernel), mi_X6_degree, ms_X6_degree⟩
theorem lk_iv_10_1 : (fun e : Nat × Nat × Nat × Nat => ∃ q, am_tb e.2.1 = some q ∧ e.2.2.2 < 13 ∧ q.2.1.cls = (am_q e.2.2.2).1 ∧ am_okm q (e.2.2.1 - 1) ∧ 1 ≤ e.2.2.1 ∧ Cond.methodLink (am_own 10) e.1 q.2.1 ∈ lw_tbl ∧ Cond.instanceMethod q.2.1 ∈ lw_tbl ∧ Cond.selects (am_q e.2.2.2).1 q.2.1 q.2.1 ∈ lw_tbl) (38, 88, 4, 10) := ⟨qX10_writeTerm, tb_X10_writeTerm, by decide, rfl, mo_X10_writeTerm, by decide, am_in9 938 (by decide +kernel), mi_X10_writeTerm, ms_X10_writeTerm⟩
theorem lk_iv_10_2 : (fun e : Nat × Nat × Nat × Nat => ∃ q, am_tb e.2.1 = some q ∧ e.2.2.2 < 13 ∧ q.2.1.cls = (am_q e.2.2.2).1 ∧ am_okm q (e.2.2.1 - 1) ∧ 1 ≤ e.2.2.1 ∧ Cond.methodLink (am_own 10) e.1 q.2.1 ∈ lw_tbl ∧ Cond.instanceMethod q.2.1 ∈ lw_tbl ∧ Cond.selects (am_q e.2.2.2).1 q.2.1 q.2.1 ∈ lw_tbl) (42, 91, 2, 10) := ⟨qX10_write, tb_X10_write, by decide, rfl, mo_X10_write, by decide, am_in9 942 (by decide +kernel), mi_X10_write, ms_X10_write⟩
theorem lk_iv_10_3 : (fun e : Nat × Nat × Nat × Nat => ∃ q, am_tb e.2.1 = some q ∧ e.2.2.2 < 13 ∧ q.2.1.cls = (am_q e.2.2.2).1 ∧ am_okm q (e.2.2.1 - 1) ∧ 1 ≤ e.2.2.1 ∧ Cond.methodLink (am_own 10) e.1 q.2.1 ∈ lw_tbl ∧ Cond.instanceMethod q.2.1 ∈ lw_tbl ∧ Cond.selects (am_q e.2.2.2).1 q.2.1 q.2.1 ∈ lw_tbl) (51, 90, 2, 10) := ⟨qX10_writeNumber, tb_X10_writeNumber, by decide, rfl, mo_X10_writeNumber, by decide, am_in9 949 (by decide +kernel), mi_X10_writeNumber, ms_X10_writeNumber⟩
theorem lk_iv_10_4 : (fun e : Nat × Nat × Nat × Nat => ∃ q, am_tb e.2.1 = some q ∧ e.2.2.2 < 13 ∧ q.2.1.cls = (am_q e.2.2.2).1 ∧ am_okm q (e.2.2.1 - 1) ∧ 1 ≤ e.2.2.1 ∧ Cond.methodLink (am_own 10) e.1 q.2.1 ∈ lw_tbl ∧ Cond.instanceMethod q.2.1 ∈ lw_tbl ∧ Cond.selects (am_q e.2.2.2).1 q.2.1 q.2.1 ∈ lw_tbl) (60, 89, 4, 10) := ⟨qX10_writeLetter, tb_X10_writeLetter, by decide, rfl, mo_X10_writeLetter, by decide, am_in9 955 (by decide +kernel), mi_X10_writeLetter, ms_X10_writeLetter⟩
theorem lk_iv_10 : ∀ e ∈ lk_iv 10, ∃ q, am_tb e.2.1 = some q ∧ e.2.2.2 < 13 ∧ q.2.1.cls = (am_q e.2.2.2).1 ∧ am_okm q (e.2.2.1 - 1) ∧ 1 ≤ e.2.2.1 ∧ Cond.methodLink (am_own 10) e.1 q.2.1 ∈ lw_tbl ∧ Cond.instanceMethod q.2.1 ∈ lw_tbl ∧ Cond.selects (am_q e.2.2.2).1 q.2.1 q.2.1 ∈ lw_tbl := List.forall_mem_cons.mpr ⟨lk_iv_10_0, List.forall_mem_cons.mpr ⟨lk_iv_10_1, List.forall_mem_cons.mpr ⟨lk_iv_10_2, List.forall_mem_cons.mpr ⟨lk_iv_10_3, List.forall_mem_cons.mpr ⟨lk_iv_10_4, fun _ h => absurd h List.not_mem_nil⟩⟩⟩⟩⟩
theorem lk_iv_11_0 : (fun e : Nat × Nat × Nat × Nat => ∃ q, am_tb e.2.1 = some q ∧ e.2.2.2 < 13 ∧ q.2.1.cls = (am_q e.2.2.2).1 ∧ am_okm q (e.2.2.1 - 1) ∧ 1 ≤ e.2.2.1 ∧ Cond.methodLink (am_own 11) e.1 q.2.1 ∈ lw_tbl ∧ Cond.instanceMethod q.2.1 ∈ lw_tbl ∧ Cond.selects (am_q e.2.2.2).1 q.2.1 q.2.1 ∈ lw_tbl) (103, 121, 1, 11) := ⟨qX11_bad, tb_X11_bad, by decide, rfl, mo_X11_bad, by decide, am_in9 446 (by decide +kernel), mi_X11_bad, ms_X11_bad⟩
theorem lk_iv_11_1 : (fun e : Nat × Nat × Nat × Nat => ∃ q, am_tb e.2.1 = some q ∧ e.2.2.2 < 13 ∧ q.2.1.cls = (am_q e.2.2.2).1 ∧ am_okm q (e.2.2.1 - 1) ∧ 1 ≤ e.2.2.1 ∧ Cond.methodLink (am_own 11) e.1 q.2.1 ∈ lw_tbl ∧ Cond.instanceMethod q.2.1 ∈ lw_tbl ∧ Cond.selects (am_q e.2.2.2).1 q.2.1 q.2.1 ∈ lw_tbl) (107, 42, 2, 5) := ⟨qX5_keep, tb_X5_keep, by decide, rfl, mo_X5_keep, by decide, am_in9 450 (by decide +kernel), mi_X5_keep, ms_X5_keep⟩
theorem lk_iv_11_2 : (fun e : Nat × Nat × Nat × Nat => ∃ q, am_tb e.2.1 = some q ∧ e.2.2.2 < 13 ∧ q.2.1.cls = (am_q e.2.2.2).1 ∧ am_okm q (e.2.2.1 - 1) ∧ 1 ≤ e.2.2.1 ∧ Cond.methodLink (am_own 11) e.1 q.2.1 ∈ lw_tbl ∧ Cond.instanceMethod q.2.1 ∈ lw_tbl ∧ Cond.selects (am_q e.2.2.2).1 q.2.1 q.2.1 ∈ lw_tbl) (115, 51, 3, 6) := ⟨qX6_coefficient, tb_X6_coefficient, by decide, rfl, mo_X6_coefficient, by decide, am_in9 467 (by decide +kernel), mi_X6_coefficient, ms_X6_coefficient⟩
theorem lk_iv_11_3 : (fun e : Nat × Nat × Nat × Nat => ∃ q, am_tb e.2.1 = some q ∧ e.2.2.2 < 13 ∧ q.2.1.cls = (am_q e.2.2.2).1 ∧ am_okm q (e.2.2.1 - 1) ∧ 1 ≤ e.2.2.1 ∧ Cond.methodLink (am_own 11) e.1 q.2.1 ∈ lw_tbl ∧ Cond.instanceMethod q.2.1 ∈ lw_tbl ∧ Cond.selects (am_q e.2.2.2).1 q.2.1 q.2.1 ∈ lw_tbl) (123, 52, 4, 6) := ⟨qX6_setCoefficient, tb_X6_setCoefficient, by decide, rfl, mo_X6_setCoefficient, by decide, am_in9 484 (by decide +kernel), mi_X6_setCoefficient, ms_X6_setCoefficient⟩
theorem lk_iv_11_4 : (fun e : Nat × Nat × Nat × Nat => ∃ q, am_tb e.2.1 = some q ∧ e.2.2.2 < 13 ∧ q.2.1.cls = (am_q e.2.2.2).1 ∧ am_okm q (e.2.2.1 - 1) ∧ 1 ≤ e.2.2.1 ∧ Cond.methodLink (am_own 11) e.1 q.2.1 ∈ lw_tbl ∧ Cond.instanceMethod q.2.1 ∈ lw_tbl ∧ Cond.selects (am_q e.2.2.2).1 q.2.1 q.2.1 ∈ lw_tbl) (130, 53, 1, 6) := ⟨qX6_makeZero, tb_X6_makeZero, by decide, rfl, mo_X6_makeZero, by decide, am_in9 499 (by decide +kernel), mi_X6_makeZero, ms_X6_makeZero⟩
theorem lk_iv_11_5 : (fun e : Nat × Nat × Nat × Nat => ∃ q, am_tb e.2.1 = some q ∧ e.2.2.2 < 13 ∧ q.2.1.cls = (am_q e.2.2.2).1 ∧ am_okm q (e.2.2.1 - 1) ∧ 1 ≤ e.2.2.1 ∧ Cond.methodLink (am_own 11) e.1 q.2.1 ∈ lw_tbl ∧ Cond.instanceMethod q.2.1 ∈ lw_tbl ∧ Cond.selects (am_q e.2.2.2).1 q.2.1 q.2.1 ∈ lw_tbl) (133, 56, 3, 6) := ⟨qX6_addMultiple, tb_X6_addMultiple, by decide, rfl, mo_X6_addMultiple, by decide, am_in9 506 (by decide +kernel), mi_X6_addMultiple, ms_X6_addMultiple⟩
theorem lk_iv_11_6 : (fun e : Nat × Nat × Nat × Nat => ∃ q, am_tb e.2.1 = some q ∧ e.2.2.2 < 13 ∧ q.2.1.cls = (am_q e.2.2.2).1 ∧ am_okm q (e.2.2.1 - 1) ∧ 1 ≤ e.2.2.1 ∧ Cond.methodLink (am_own 11) e.1 q.2.1 ∈ lw_tbl ∧ Cond.instanceMethod q.2.1 ∈ lw_tbl ∧ Cond.selects (am_q e.2.2.2).1 q.2.1 q.2.1 ∈ lw_tbl) (137, 120, 2, 11) := ⟨qX11_replaceOperator, tb_X11_replaceOperator, by decide, rfl, mo_X11_replaceOperator, by decide, am_in9 510 (by decide +kernel), mi_X11_replaceOperator, ms_X11_replaceOperator⟩
theorem lk_iv_11_7 : (fun e : Nat × Nat × Nat × Nat => ∃ q, am_tb e.2.1 = some q ∧ e.2.2.2 < 13 ∧ q.2.1.cls = (am_q e.2.2.2).1 ∧ am_okm q (e.2.2.1 - 1) ∧ 1 ≤ e.2.2.1 ∧ Cond.methodLink (am_own 11) e.1 q.2.1 ∈ lw_tbl ∧ Cond.instanceMethod q.2.1 ∈ lw_tbl ∧ Cond.selects (am_q e.2.2.2).1 q.2.1 q.2.1 ∈ lw_tbl) (144, 123, 1, 11) := ⟨qX11_full, tb_X11_full, by decide, rfl, mo_X11_full, by decide, am_in9 545 (by decide +kernel), mi_X11_full, ms_X11_full⟩
theorem lk_iv_11_8 : (fun e : Nat × Nat × Nat × Nat => ∃ q, am_tb e.2.1 = some q ∧ e.2.2.2 < 13 ∧ q.2.1.cls = (am_q e.2.2.2).1 ∧ am_okm q (e.2.2.1 - 1) ∧ 1 ≤ e.2.2.1 ∧ Cond.methodLink (am_own 11) e.1 q.2.1 ∈ lw_tbl ∧ Cond.instanceMethod q.2.1 ∈ lw_tbl ∧ Cond.selects (am_q e.2.2.2).1 q.2.1 q.2.1 ∈ lw_tbl) (147, 14, 5, 1) := ⟨qX1_addProduct, tb_X1_addProduct, by decide, rfl, mo_X1_addProduct, by decide, am_in9 549 (by decide +kernel), mi_X1_addProduct, ms_X1_addProduct⟩
theorem lk_iv_11_9 : (fun e : Nat × Nat × Nat × Nat => ∃ q, am_tb e.2.1 = some q ∧ e.2.2.2 < 13 ∧ q.2.1.cls = (am_q e.2.2.2).1 ∧ am_okm q (e.2.2.1 - 1) ∧ 1 ≤ e.2.2.1 ∧ Cond.methodLink (am_own 11) e.1 q.2.1 ∈ lw_tbl ∧ Cond.instanceMethod q.2.1 ∈ lw_tbl ∧ Cond.selects (am_q e.2.2.2).1 q.2.1 q.2.1 ∈ lw_tbl) (155, 16, 4, 1) := ⟨qX1_raise, tb_X1_raise, by decide, rfl, mo_X1_raise, by decide, am_in9 571 (by decide +kernel), mi_X1_raise, ms_X1_raise⟩
theorem lk_iv_11_10 : (fun e : Nat × Nat × Nat × Nat => ∃ q, am_tb e.2.1 = some q ∧ e.2.2.2 < 13 ∧ q.2.1.cls = (am_q e.2.2.2).1 ∧ am_okm q (e.2.2.1 - 1) ∧ 1 ≤ e.2.2.1 ∧ Cond.methodLink (am_own 11) e.1 q.2.1 ∈ lw_tbl ∧ Cond.instanceMethod q.2.1 ∈ lw_tbl ∧ Cond.selects (am_q e.2.2.2).1 q.2.1 q.2.1 ∈ lw_tbl) (159, 17, 3, 1) := ⟨qX1_adjoin, tb_X1_adjoin, by decide, rfl, mo_X1_adjoin, by decide, am_in9 587 (by decide +kernel), mi_X1_adjoin, ms_X1_adjoin⟩
theorem lk_iv_11_11 : (fun e : Nat × Nat × Nat × Nat => ∃ q, am_tb e.2.1 = some q ∧ e.2.2.2 < 13 ∧ q.2.1.cls = (am_q e.2.2.2).1 ∧ am_okm q (e.2.2.1 - 1) ∧ 1 ≤ e.2.2.1 ∧ Cond.methodLink (am_own 11) e.1 q.2.1 ∈ lw_tbl ∧ Cond.instanceMethod q.2.1 ∈ lw_tbl ∧ Cond.selects (am_q e.2.2.2).1 q.2.1 q.2.1 ∈ lw_tbl) (166, 63, 3, 6) := ⟨qX6_property, tb_X6_property, by decide, rfl, mo_X6_property, by decide, am_in9 598 (by decide +kernel), mi_X6_property, ms_X6_property⟩
theorem lk_iv_11_12 : (fun e : Nat × Nat × Nat × Nat => ∃ q, am_tb e.2.1 = some q ∧ e.2.2.2 < 13 ∧ q.2.1.cls = (am_q e.2.2.2).1 ∧ am_okm q (e.2.2.1 - 1) ∧ 1 ≤ e.2.2.1 ∧ Cond.methodLink (am_own 11) e.1 q.2.1 ∈ lw_tbl ∧ Cond.instanceMethod q.2.1 ∈ lw_tbl ∧ Cond.selects (am_q e.2.2.2).1 q.2.1 q.2.1 ∈ lw_tbl) (179, 2, 3, 0) := ⟨qX0_fits, tb_X0_fits, by decide, rfl, mo_X0_fits, by decide, am_in9 644 (by decide +kernel), mi_X0_fits, ms_X0_fits⟩
theorem lk_iv_11_13 : (fun e : Nat × Nat × Nat × Nat => ∃ q, am_tb e.2.1 = some q ∧ e.2.2.2 < 13 ∧ q.2.1.cls = (am_q e.2.2.2).1 ∧ am_okm q (e.2.2.1 - 1) ∧ 1 ≤ e.2.2.1 ∧ Cond.methodLink (am_own 11) e.1 q.2.1 ∈ lw_tbl ∧ Cond.instanceMethod q.2.1 ∈ lw_tbl ∧ Cond.selects (am_q e.2.2.2).1 q.2.1 q.2.1 ∈ lw_tbl) (183, 3, 3, 0) := ⟨qX0_apply, tb_X0_apply, by decide, rfl, mo_X0_apply, by decide, am_in9 653 (by decide +kernel), mi_X0_apply, ms_X0_apply⟩
theorem lk_iv_11_14 : (fun e : Nat × Nat × Nat × Nat => ∃ q, am_tb e.2.1 = some q ∧ e.2.2.2 < 13 ∧ q.2.1.cls = (am_q e.2.2.2).1 ∧ am_okm q (e.2.2.1 - 1) ∧ 1 ≤ e.2.2.1 ∧ Cond.methodLink (am_own 11) e.1 q.2.1 ∈ lw_tbl ∧ Cond.instanceMethod q.2.1 ∈ lw_tbl ∧ Cond.selects (am_q e.2.2.2).1 q.2.1 q.2.1 ∈ lw_tbl) (201, 5, 3, 0) := ⟨qX0_kernelDimension, tb_X0_kernelDimension, by decide, rfl, mo_X0_kernelDimension, by decide, am_in9 669 (by decide +kernel), mi_X0_kernelDimension, ms_X0_kernelDimension⟩
theorem lk_iv_11_15 : (fun e : Nat × Nat × Nat × Nat => ∃ q, am_tb e.2.1 = some q ∧ e.2.2.2 < 13 ∧ q.2.1.cls = (am_q e.2.2.2).1 ∧ am_okm q (e.2.2.1 - 1) ∧ 1 ≤ e.2.2.1 ∧ Cond.methodLink (am_own 11) e.1 q.2.1 ∈ lw_tbl ∧ Cond.instanceMethod q.2.1 ∈ lw_tbl ∧ Cond.selects (am_q e.2.2.2).1 q.2.1 q.2.1 ∈ lw_tbl) (205, 122, 1, 11) := ⟨qX11_no, tb_X11_no, by decide, rfl, mo_X11_no, by decide, am_in9 689 (by decide +kernel), mi_X11_no, ms_X11_no⟩
theorem lk_iv_11_16 : (fun e : Nat × Nat × Nat × Nat => ∃ q, am_tb e.2.1 = some q ∧ e.2.2.2 < 13 ∧ q.2.1.cls = (am_q e.2.2.2).1 ∧ am_okm q (e.2.2.1 - 1) ∧ 1 ≤ e.2.2.1 ∧ Cond.methodLink (am_own 11) e.1 q.2.1 ∈ lw_tbl ∧ Cond.instanceMethod q.2.1 ∈ lw_tbl ∧ Cond.selects (am_q e.2.2.2).1 q.2.1 q.2.1 ∈ lw_tbl) (214, 60, 1, 6) := ⟨qX6_isZero, tb_X6_isZero, by decide, rfl, mo_X6_isZero, by decide, am_in9 703 (by decide +kernel), mi_X6_isZero, ms_X6_isZero⟩
theorem lk_iv_11_17 : (fun e : Nat × Nat × Nat × Nat => ∃ q, am_tb e.2.1 = some q ∧ e.2.2.2 < 13 ∧ q.2.1.cls = (am_q e.2.2.2).1 ∧ am_okm q (e.2.2.1 - 1) ∧ 1 ≤ e.2.2.1 ∧ Cond.methodLink (am_own 11) e.1 q.2.1 ∈ lw_tbl ∧ Cond.instanceMethod q.2.1 ∈ lw_tbl ∧ Cond.selects (am_q e.2.2.2).1 q.2.1 q.2.1 ∈ lw_tbl) (218, 37, 2, 4) := ⟨qX4_begin, tb_X4_begin, by decide, rfl, mo_X4_begin, by decide, am_in9 704 (by decide +kernel), mi_X4_begin, ms_X4_begin⟩
theorem lk_iv_11_18 : (fun e : Nat × Nat × Nat × Nat => ∃ q, am_tb e.2.1 = some q ∧ e.2.2.2 < 13 ∧ q.2.1.cls = (am_q e.2.2.2).1 ∧ am_okm q (e.2.2.1 - 1) ∧ 1 ≤ e.2.2.1 ∧ Cond.methodLink (am_own 11) e.1 q.2.1 ∈ lw_tbl ∧ Cond.instanceMethod q.2.1 ∈ lw_tbl ∧ Cond.selects (am_q e.2.2.2).1 q.2.1 q.2.1 ∈ lw_tbl) (222, 38, 2, 4) := ⟨qX4_take, tb_X4_take, by decide, rfl, mo_X4_take, by decide, am_in9 708 (by decide +kernel), mi_X4_take, ms_X4_take⟩
theorem lk_iv_11_19 : (fun e : Nat × Nat × Nat × Nat => ∃ q, am_tb e.2.1 = some q ∧ e.2.2.2 < 13 ∧ q.2.1.cls = (am_q e.2.2.2).1 ∧ am_okm q (e.2.2.1 - 1) ∧ 1 ≤ e.2.2.1 ∧ Cond.methodLink (am_own 11) e.1 q.2.1 ∈ lw_tbl ∧ Cond.instanceMethod q.2.1 ∈ lw_tbl ∧ Cond.selects (am_q e.2.2.2).1 q.2.1 q.2.1 ∈ lw_tbl) (226, 55, 2, 6) := ⟨qX6_copyFrom, tb_X6_copyFrom, by decide, rfl, mo_X6_copyFrom, by decide, am_in9 514 (by decide +kernel), mi_X6_copyFrom, ms_X6_copyFrom⟩
theorem lk_iv_11_20 : (fun e : Nat × Nat × Nat × Nat => ∃ q, am_tb e.2.1 = some q ∧ e.2.2.2 < 13 ∧ q.2.1.cls = (am_q e.2.2.2).1 ∧ am_okm q (e.2.2.1 - 1) ∧ 1 ≤ e.2.2.1 ∧ Cond.methodLink (am_own 11) e.1 q.2.1 ∈ lw_tbl ∧ Cond.instanceMethod q.2.1 ∈ lw_tbl ∧ Cond.selects (am_q e.2.2.2).1 q.2.1 q.2.1 ∈ lw_tbl) (229, 39, 2, 4) := ⟨qX4_reduce, tb_X4_reduce, by decide, rfl, mo_X4_reduce, by decide, am_in9 717 (by decide +kernel), mi_X4_reduce, ms_X4_reduce⟩
theorem lk_iv_11_21 : (fun e : Nat × Nat × Nat × Nat => ∃ q, am_tb e.2.1 = some q ∧ e.2.2.2 < 13 ∧ q.2.1.cls = (am_q e.2.2.2).1 ∧ am_okm q (e.2.2.1 - 1) ∧ 1 ≤ e.2.2.1 ∧ Cond.methodLink (am_own 11) e.1 q.2.1 ∈ lw_tbl ∧ Cond.instanceMethod q.2.1 ∈ lw_tbl ∧ Cond.selects (am_q e.2.2.2).1 q.2.1 q.2.1 ∈ lw_tbl) (232, 124, 2, 11) := ⟨qX11_hasBasis, tb_X11_hasBasis, by decide, rfl, mo_X11_hasBasis, by decide, am_in9 733 (by decide +kernel), mi_X11_hasBasis, ms_X11_hasBasis⟩
theorem lk_iv_11_22 : (fun e : Nat × Nat × Nat × Nat => ∃ q, am_tb e.2.1 = some q ∧ e.2.2.2 < 13 ∧ q.2.1.cls = (am_q e.2.2.2).1 ∧ am_okm q (e.2.2.1 - 1) ∧ 1 ≤ e.2.2.1 ∧ Cond.methodLink (am_own 11) e.1 q.2.1 ∈ lw_tbl ∧ Cond.instanceMethod q.2.1 ∈ lw_tbl ∧ Cond.selects (am_q e.2.2.2).1 q.2.1 q.2.1 ∈ lw_tbl) (235, 25, 3, 3) := ⟨qX3_find, tb_X3_find, by decide, rfl, mo_X3_find, by decide, am_in9 738 (by decide +kernel), mi_X3_find, ms_X3_find⟩
theorem lk_iv_11_23 : (fun e : Nat × Nat × Nat × Nat => ∃ q, am_tb e.2.1 = some q ∧ e.2.2.2 < 13 ∧ q.2.1.cls = (am_q e.2.2.2).1 ∧ am_okm q (e.2.2.1 - 1) ∧ 1 ≤ e.2.2.1 ∧ Cond.methodLink (am_own 11) e.1 q.2.1 ∈ lw_tbl ∧ Cond.instanceMethod q.2.1 ∈ lw_tbl ∧ Cond.selects (am_q e.2.2.2).1 q.2.1 q.2.1 ∈ lw_tbl) (247, 19, 3, 2) := ⟨qX2_covers, tb_X2_covers, by decide, rfl, mo_X2_covers, by decide, am_in9 831 (by decide +kernel), mi_X2_covers, ms_X2_covers⟩
theorem lk_iv_11_24 : (fun e : Nat × Nat × Nat × Nat => ∃ q, am_tb e.2.1 = some q ∧ e.2.2.2 < 13 ∧ q.2.1.cls = (am_q e.2.2.2).1 ∧ am_okm q (e.2.2.1 - 1) ∧ 1 ≤ e.2.2.1 ∧ Cond.methodLink (am_own 11) e.1 q.2.1 ∈ lw_tbl ∧ Cond.instanceMethod q.2.1 ∈ lw_tbl ∧ Cond.selects (am_q e.2.2.2).1 q.2.1 q.2.1 ∈ lw_tbl) (253, 76, 2, 9) := ⟨qX9_append, tb_X9_append, by decide, rfl, mo_X9_append, by decide, am_in9 843 (by decide +kernel), mi_X9_append, ms_X9_append⟩
theorem lk_iv_11_25 : (fun e : Nat × Nat × Nat × Nat => ∃ q, am_tb e.2.1 = some q ∧ e.2.2.2 < 13 ∧ q.2.1.cls = (am_q e.2.2.2).1 ∧ am_okm q (e.2.2.1 - 1) ∧ 1 ≤ e.2.2.1 ∧ Cond.methodLink (am_own 11) e.1 q.2.1 ∈ lw_tbl ∧ Cond.instanceMethod q.2.1 ∈ lw_tbl ∧ Cond.selects (am_q e.2.2.2).1 q.2.1 q.2.1 ∈ lw_tbl) (256, 79, 1, 9) := ⟨qX9_fault, tb_X9_fault, by decide, rfl, mo_X9_fault, by decide, am_in9 855 (by decide +kernel), mi_X9_fault, ms_X9_fault⟩
theorem lk_iv_11_26 : (fun e : Nat × Nat × Nat × Nat => ∃ q, am_tb e.2.1 = some q ∧ e.2.2.2 < 13 ∧ q.2.1.cls = (am_q e.2.2.2).1 ∧ am_okm q (e.2.2.1 - 1) ∧ 1 ≤ e.2.2.1 ∧ Cond.methodLink (am_own 11) e.1 q.2.1 ∈ lw_tbl ∧ Cond.instanceMethod q.2.1 ∈ lw_tbl ∧ Cond.selects (am_q e.2.2.2).1 q.2.1 q.2.1 ∈ lw_tbl) (259, 67, 2, 7) := ⟨qX7_evaluate, tb_X7_evaluate, by decide, rfl, mo_X7_evaluate, by decide, am_in9 891 (by decide +kernel), mi_X7_evaluate, ms_X7_evaluate⟩
theorem lk_iv_11_27 : (fun e : Nat × Nat × Nat × Nat => ∃ q, am_tb e.2.1 = some q ∧ e.2.2.2 < 13 ∧ q.2.1.cls = (am_q e.2.2.2).1 ∧ am_okm q (e.2.2.1 - 1) ∧ 1 ≤ e.2.2.1 ∧ Cond.methodLink (am_own 11) e.1 q.2.1 ∈ lw_tbl ∧ Cond.instanceMethod q.2.1 ∈ lw_tbl ∧ Cond.selects (am_q e.2.2.2).1 q.2.1 q.2.1 ∈ lw_tbl) (263, 87, 4, 10) := ⟨qX10_byteAt, tb_X10_byteAt, by decide, rfl, mo_X10_byteAt, by decide, am_in9 931 (by decide +kernel), mi_X10_byteAt, ms_X10_byteAt⟩
theorem lk_iv_11_28 : (fun e : Nat × Nat × Nat × Nat => ∃ q, am_tb e.2.1 = some q ∧ e.2.2.2 < 13 ∧ q.2.1.cls = (am_q e.2.2.2).1 ∧ am_okm q (e.2.2.1 - 1) ∧ 1 ≤ e.2.2.1 ∧ Cond.methodLink (am_own 11) e.1 q.2.1 ∈ lw_tbl ∧ Cond.instanceMethod q.2.1 ∈ lw_tbl ∧ Cond.selects (am_q e.2.2.2).1 q.2.1 q.2.1 ∈ lw_tbl) (270, 43, 2, 5) := ⟨qX5_restore, tb_X5_restore, by decide, rfl, mo_X5_restore, by decide, am_in9 963 (by decide +kernel), mi_X5_restore, ms_X5_restore⟩
theorem lk_iv_11_29 : (fun e : Nat × Nat × Nat × Nat => ∃ q, am_tb e.2.1 = some q ∧ e.2.2.2 < 13 ∧ q.2.1.cls = (am_q e.2.2.2).1 ∧ am_okm q (e.2.2.1 - 1) ∧ 1 ≤ e.2.2.1 ∧ Cond.methodLink (am_own 11) e.1 q.2.1 ∈ lw_tbl ∧ Cond.instanceMethod q.2.1 ∈ lw_tbl ∧ Cond.selects (am_q e.2.2.2).1 q.2.1 q.2.1 ∈ lw_tbl) (277, 117, 2, 11) := ⟨qX11_told, tb_X11_told, by decide, rfl, mo_X11_told, by decide, am_in9 977 (by decide +kernel), mi_X11_told, ms_X11_told⟩
theorem lk_iv_11_30 : (fun e : Nat × Nat × Nat × Nat => ∃ q, am_tb e.2.1 = some q ∧ e.2.2.2 < 13 ∧ q.2.1.cls = (am_q e.2.2.2).1 ∧ am_okm q (e.2.2.1 - 1) ∧ 1 ≤ e.2.2.1 ∧ Cond.methodLink (am_own 11) e.1 q.2.1 ∈ lw_tbl ∧ Cond.instanceMethod q.2.1 ∈ lw_tbl ∧ Cond.selects (am_q e.2.2.2).1 q.2.1 q.2.1 ∈ lw_tbl) (287, 58, 1, 6) := ⟨qX6_countTerms, tb_X6_countTerms, by decide, rfl, mo_X6_countTerms, by decide, am_in9 515 (by decide +kernel), mi_X6_countTerms, ms_X6_countTerms⟩
theorem lk_iv_11_31 : (fun e : Nat × Nat × Nat × Nat => ∃ q, am_tb e.2.1 = some q ∧ e.2.2.2 < 13 ∧ q.2.1.cls = (am_q e.2.2.2).1 ∧ am_okm q (e.2.2.1 - 1) ∧ 1 ≤ e.2.2.1 ∧ Cond.methodLink (am_own 11) e.1 q.2.1 ∈ lw_tbl ∧ Cond.instanceMethod q.2.1 ∈ lw_tbl ∧ Cond.selects (am_q e.2.2.2).1 q.2.1 q.2.1 ∈ lw_tbl) (290, 61, 1, 6) := ⟨qX6_degree, tb_X6_degree, by decide, rfl, mo_X6_degree, by decide, am_in9 737 (by decide +kernel), mi_X6_degree, ms_X6_degree⟩
theorem lk_iv_11 : ∀ e ∈ lk_iv 11, ∃ q, am_tb e.2.1 = some q ∧ e.2.2.2 < 13 ∧ q.2.1.cls = (am_q e.2.2.2).1 ∧ am_okm q (e.2.2.1 - 1) ∧ 1 ≤ e.2.2.1 ∧ Cond.methodLink (am_own 11) e.1 q.2.1 ∈ lw_tbl ∧ Cond.instanceMethod q.2.1 ∈ lw_tbl ∧ Cond.selects (am_q e.2.2.2).1 q.2.1 q.2.1 ∈ lw_tbl := List.forall_mem_cons.mpr ⟨lk_iv_11_0, List.forall_mem_cons.mpr ⟨lk_iv_11_1, List.forall_mem_cons.mpr ⟨lk_iv_11_2, List.forall_mem_cons.mpr ⟨lk_iv_11_3, List.forall_mem_cons.mpr ⟨lk_iv_11_4, List.forall_mem_cons.mpr ⟨lk_iv_11_5, List.forall_mem_cons.mpr ⟨lk_iv_11_6, List.forall_mem_cons.mpr ⟨lk_iv_11_7, List.forall_mem_cons.mpr ⟨lk_iv_11_8, List.forall_mem_cons.mpr ⟨lk_iv_11_9, List.forall_mem_cons.mpr ⟨lk_iv_11_10, List.forall_mem_cons.mpr ⟨lk_iv_11_11, List.forall_mem_cons.mpr ⟨lk_iv_11_12, List.forall_mem_cons.mpr ⟨lk_iv_11_13, List.forall_mem_cons.mpr ⟨lk_iv_11_14, List.forall_mem_cons.mpr ⟨lk_iv_11_15, List.forall_mem_cons.mpr ⟨lk_iv_11_16, List.forall_mem_cons.mpr ⟨lk_iv_11_17, List.forall_mem_cons.mpr ⟨lk_iv_11_18, List.forall_mem_cons.mpr ⟨lk_iv_11_19, List.forall_mem_cons.mpr ⟨lk_iv_11_20, List.forall_mem_cons.mpr ⟨lk_iv_11_21, List.forall_mem_cons.mpr ⟨lk_iv_11_22, List.forall_mem_cons.mpr ⟨lk_iv_11_23, List.forall_mem_cons.mpr ⟨lk_iv_11_24, List.forall_mem_cons.mpr ⟨lk_iv_11_25, List.forall_mem_cons.mpr ⟨lk_iv_11_26, List.forall_mem_cons.mpr ⟨lk_iv_11_27, List.forall_mem_cons.mpr ⟨lk_iv_11_28, List.forall_mem_cons.mpr ⟨lk_iv_11_29, List.forall_mem_cons.mpr ⟨lk_iv_11_30, List.forall_mem_cons.mpr ⟨lk_iv_11_31, fun _ h => absurd h List.not_mem_nil⟩⟩⟩⟩⟩⟩⟩⟩⟩⟩⟩⟩⟩⟩⟩⟩⟩⟩⟩⟩⟩⟩⟩⟩⟩⟩⟩⟩⟩⟩⟩⟩
theorem lk_iv_12_0 : (fun e : Nat × Nat × Nat × Nat => ∃ q, am_tb e.2.1 = some q ∧ e.2.2.2 < 13 ∧ q.2.1.cls = (am_q e.2.2.2).1 ∧ am_okm q (e.2.2.1 - 1) ∧ 1 ≤ e.2.2.1 ∧ Cond.methodLink (am_own 12) e.1 q.2.1 ∈ lw_tbl ∧ Cond.instanceMethod q.2.1 ∈ lw_tbl ∧ Cond.selects (am_q e.2.2.2).1 q.2.1 q.2.1 ∈ lw_tbl) (70, 136, 1, 12) := ⟨qX12_no, tb_X12_no, by decide, rfl, mo_X12_no, by decide, am_in9 1088 (by decide +kernel), mi_X12_no, ms_X12_no⟩
theorem lk_iv_12_1 : (fun e : Nat × Nat × Nat × Nat => ∃ q, am_tb e.2.1 = some q ∧ e.2.2.2 < 13 ∧ q.2.1.cls = (am_q e.2.2.2).1 ∧ am_okm q (e.2.2.1 - 1) ∧ 1 ≤ e.2.2.1 ∧ Cond.methodLink (am_own 12) e.1 q.2.1 ∈ lw_tbl ∧ Cond.instanceMethod q.2.1 ∈ lw_tbl ∧ Cond.selects (am_q e.2.2.2).1 q.2.1 q.2.1 ∈ lw_tbl) (78, 142, 2, 12) := ⟨qX12_wipe, tb_X12_wipe, by decide, rfl, mo_X12_wipe, by decide, am_in9 1131 (by decide +kernel), mi_X12_wipe, ms_X12_wipe⟩
theorem lk_iv_12_2 : (fun e : Nat × Nat × Nat × Nat => ∃ q, am_tb e.2.1 = some q ∧ e.2.2.2 < 13 ∧ q.2.1.cls = (am_q e.2.2.2).1 ∧ am_okm q (e.2.2.1 - 1) ∧ 1 ≤ e.2.2.1 ∧ Cond.methodLink (am_own 12) e.1 q.2.1 ∈ lw_tbl ∧ Cond.instanceMethod q.2.1 ∈ lw_tbl ∧ Cond.selects (am_q e.2.2.2).1 q.2.1 q.2.1 ∈ lw_tbl) (82, 138, 1, 12) := ⟨qX12_remembers, tb_X12_remembers, by decide, rfl, mo_X12_remembers, by decide, am_in9 1109 (by decide +kernel), mi_X12_remembers, ms_X12_remembers⟩
theorem lk_iv_12_3 : (fun e : Nat × Nat × Nat × Nat => ∃ q, am_tb e.2.1 = some q ∧ e.2.2.2 < 13 ∧ q.2.1.cls = (am_q e.2.2.2).1 ∧ am_okm q (e.2.2.1 - 1) ∧ 1 ≤ e.2.2.1 ∧ Cond.methodLink (am_own 12) e.1 q.2.1 ∈ lw_tbl ∧ Cond.instanceMethod q.2.1 ∈ lw_tbl ∧ Cond.selects (am_q e.2.2.2).1 q.2.1 q.2.1 ∈ lw_tbl) (85, 145, 2, 12) := ⟨qX12_termsIn, tb_X12_termsIn, by decide, rfl, mo_X12_termsIn, by decide, am_in9 1143 (by decide +kernel), mi_X12_termsIn, ms_X12_termsIn⟩
theorem lk_iv_12_4 : (fun e : Nat × Nat × Nat × Nat => ∃ q, am_tb e.2.1 = some q ∧ e.2.2.2 < 13 ∧ q.2.1.cls = (am_q e.2.2.2).1 ∧ am_okm q (e.2.2.1 - 1) ∧ 1 ≤ e.2.2.1 ∧ Cond.methodLink (am_own 12) e.1 q.2.1 ∈ lw_tbl ∧ Cond.instanceMethod q.2.1 ∈ lw_tbl ∧ Cond.selects (am_q e.2.2.2).1 q.2.1 q.2.1 ∈ lw_tbl) (89, 147, 2, 12) := ⟨qX12_degreeIn, tb_X12_degreeIn, by decide, rfl, mo_X12_degreeIn, by decide, am_in9 1155 (by decide +kernel), mi_X12_degreeIn, ms_X12_degreeIn⟩
theorem lk_iv_12_5 : (fun e : Nat × Nat × Nat × Nat => ∃ q, am_tb e.2.1 = some q ∧ e.2.2.2 < 13 ∧ q.2.1.cls = (am_q e.2.2.2).1 ∧ am_okm q (e.2.2.1 - 1) ∧ 1 ≤ e.2.2.1 ∧ Cond.methodLink (am_own 12) e.1 q.2.1 ∈ lw_tbl ∧ Cond.instanceMethod q.2.1 ∈ lw_tbl ∧ Cond.selects (am_q e.2.2.2).1 q.2.1 q.2.1 ∈ lw_tbl) (92, 148, 3, 12) := ⟨qX12_wordBehind, tb_X12_wordBehind, by decide, rfl, mo_X12_wordBehind, by decide, am_in9 1219 (by decide +kernel), mi_X12_wordBehind, ms_X12_wordBehind⟩
theorem lk_iv_12_6 : (fun e : Nat × Nat × Nat × Nat => ∃ q, am_tb e.2.1 = some q ∧ e.2.2.2 < 13 ∧ q.2.1.cls = (am_q e.2.2.2).1 ∧ am_okm q (e.2.2.1 - 1) ∧ 1 ≤ e.2.2.1 ∧ Cond.methodLink (am_own 12) e.1 q.2.1 ∈ lw_tbl ∧ Cond.instanceMethod q.2.1 ∈ lw_tbl ∧ Cond.selects (am_q e.2.2.2).1 q.2.1 q.2.1 ∈ lw_tbl) (95, 150, 7, 12) := ⟨qX12_adds, tb_X12_adds, by decide, rfl, mo_X12_adds, by decide, am_in9 1171 (by decide +kernel), mi_X12_adds, ms_X12_adds⟩
theorem lk_iv_12_7 : (fun e : Nat × Nat × Nat × Nat => ∃ q, am_tb e.2.1 = some q ∧ e.2.2.2 < 13 ∧ q.2.1.cls = (am_q e.2.2.2).1 ∧ am_okm q (e.2.2.1 - 1) ∧ 1 ≤ e.2.2.1 ∧ Cond.methodLink (am_own 12) e.1 q.2.1 ∈ lw_tbl ∧ Cond.instanceMethod q.2.1 ∈ lw_tbl ∧ Cond.selects (am_q e.2.2.2).1 q.2.1 q.2.1 ∈ lw_tbl) (99, 151, 6, 12) := ⟨qX12_addsBehind, tb_X12_addsBehind, by decide, rfl, mo_X12_addsBehind, by decide, am_in9 1167 (by decide +kernel), mi_X12_addsBehind, ms_X12_addsBehind⟩
theorem lk_iv_12_8 : (fun e : Nat × Nat × Nat × Nat => ∃ q, am_tb e.2.1 = some q ∧ e.2.2.2 < 13 ∧ q.2.1.cls = (am_q e.2.2.2).1 ∧ am_okm q (e.2.2.1 - 1) ∧ 1 ≤ e.2.2.1 ∧ Cond.methodLink (am_own 12) e.1 q.2.1 ∈ lw_tbl ∧ Cond.instanceMethod q.2.1 ∈ lw_tbl ∧ Cond.selects (am_q e.2.2.2).1 q.2.1 q.2.1 ∈ lw_tbl) (103, 143, 3, 12) := ⟨qX12_copies, tb_X12_copies, by decide, rfl, mo_X12_copies, by decide, am_in9 1191 (by decide +kernel), mi_X12_copies, ms_X12_copies⟩
theorem lk_iv_12_9 : (fun e : Nat × Nat × Nat × Nat => ∃ q, am_tb e.2.1 = some q ∧ e.2.2.2 < 13 ∧ q.2.1.cls = (am_q e.2.2.2).1 ∧ am_okm q (e.2.2.1 - 1) ∧ 1 ≤ e.2.2.1 ∧ Cond.methodLink (am_own 12) e.1 q.2.1 ∈ lw_tbl ∧ Cond.instanceMethod q.2.1 ∈ lw_tbl ∧ Cond.selects (am_q e.2.2.2).1 q.2.1 q.2.1 ∈ lw_tbl) (107, 152, 4, 12) := ⟨qX12_multiplies, tb_X12_multiplies, by decide, rfl, mo_X12_multiplies, by decide, am_in9 1163 (by decide +kernel), mi_X12_multiplies, ms_X12_multiplies⟩
theorem lk_iv_12_10 : (fun e : Nat × Nat × Nat × Nat => ∃ q, am_tb e.2.1 = some q ∧ e.2.2.2 < 13 ∧ q.2.1.cls = (am_q e.2.2.2).1 ∧ am_okm q (e.2.2.1 - 1) ∧ 1 ≤ e.2.2.1 ∧ Cond.methodLink (am_own 12) e.1 q.2.1 ∈ lw_tbl ∧ Cond.instanceMethod q.2.1 ∈ lw_tbl ∧ Cond.selects (am_q e.2.2.2).1 q.2.1 q.2.1 ∈ lw_tbl) (119, 135, 1, 12) := ⟨qX12_bad, tb_X12_bad, by decide, rfl, mo_X12_bad, by decide, am_in9 1105 (by decide +kernel), mi_X12_bad, ms_X12_bad⟩
theorem lk_iv_12_11 : (fun e : Nat × Nat × Nat × Nat => ∃ q, am_tb e.2.1 = some q ∧ e.2.2.2 < 13 ∧ q.2.1.cls = (am_q e.2.2.2).1 ∧ am_okm q (e.2.2.1 - 1) ∧ 1 ≤ e.2.2.1 ∧ Cond.methodLink (am_own 12) e.1 q.2.1 ∈ lw_tbl ∧ Cond.instanceMethod q.2.1 ∈ lw_tbl ∧ Cond.selects (am_q e.2.2.2).1 q.2.1 q.2.1 ∈ lw_tbl) (128, 144, 3, 12) := ⟨qX12_fetches, tb_X12_fetches, by decide, rfl, mo_X12_fetches, by decide, am_in9 1127 (by decide +kernel), mi_X12_fetches, ms_X12_fetches⟩
theorem lk_iv_12_12 : (fun e : Nat × Nat × Nat × Nat => ∃ q, am_tb e.2.1 = some q ∧ e.2.2.2 < 13 ∧ q.2.1.cls = (am_q e.2.2.2).1 ∧ am_okm q (e.2.2.1 - 1) ∧ 1 ≤ e.2.2.1 ∧ Cond.methodLink (am_own 12) e.1 q.2.1 ∈ lw_tbl ∧ Cond.instanceMethod q.2.1 ∈ lw_tbl ∧ Cond.selects (am_q e.2.2.2).1 q.2.1 q.2.1 ∈ lw_tbl) (131, 156, 6, 12) := ⟨qX12_mixes, tb_X12_mixes, by decide, rfl, mo_X12_mixes, by decide, am_in9 1135 (by decide +kernel), mi_X12_mixes, ms_X12_mixes⟩
theorem lk_iv_12_13 : (fun e : Nat × Nat × Nat × Nat => ∃ q, am_tb e.2.1 = some q ∧ e.2.2.2 < 13 ∧ q.2.1.cls = (am_q e.2.2.2).1 ∧ am_okm q (e.2.2.1 - 1) ∧ 1 ≤ e.2.2.1 ∧ Cond.methodLink (am_own 12) e.1 q.2.1 ∈ lw_tbl ∧ Cond.instanceMethod q.2.1 ∈ lw_tbl ∧ Cond.selects (am_q e.2.2.2).1 q.2.1 q.2.1 ∈ lw_tbl) (134, 146, 3, 12) := ⟨qX12_keeps, tb_X12_keeps, by decide, rfl, mo_X12_keeps, by decide, am_in9 1139 (by decide +kernel), mi_X12_keeps, ms_X12_keeps⟩
theorem lk_iv_12_14 : (fun e : Nat × Nat × Nat × Nat => ∃ q, am_tb e.2.1 = some q ∧ e.2.2.2 < 13 ∧ q.2.1.cls = (am_q e.2.2.2).1 ∧ am_okm q (e.2.2.1 - 1) ∧ 1 ≤ e.2.2.1 ∧ Cond.methodLink (am_own 12) e.1 q.2.1 ∈ lw_tbl ∧ Cond.instanceMethod q.2.1 ∈ lw_tbl ∧ Cond.selects (am_q e.2.2.2).1 q.2.1 q.2.1 ∈ lw_tbl) (137, 153, 3, 12) := ⟨qX12_isTooMuch, tb_X12_isTooMuch, by decide, rfl, mo_X12_isTooMuch, by decide, am_in9 1151 (by decide +kernel), mi_X12_isTooMuch, ms_X12_isTooMuch⟩
theorem lk_iv_12_15 : (fun e : Nat × Nat × Nat × Nat => ∃ q, am_tb e.2.1 = some q ∧ e.2.2.2 < 13 ∧ q.2.1.cls = (am_q e.2.2.2).1 ∧ am_okm q (e.2.2.1 - 1) ∧ 1 ≤ e.2.2.1 ∧ Cond.methodLink (am_own 12) e.1 q.2.1 ∈ lw_tbl ∧ Cond.instanceMethod q.2.1 ∈ lw_tbl ∧ Cond.selects (am_q e.2.2.2).1 q.2.1 q.2.1 ∈ lw_tbl) (140, 137, 1, 12) := ⟨qX12_full, tb_X12_full, by decide, rfl, mo_X12_full, by decide, am_in9 1159 (by decide +kernel), mi_X12_full, ms_X12_full⟩
theorem lk_iv_12_16 : (fun e : Nat × Nat × Nat × Nat => ∃ q, am_tb e.2.1 = some q ∧ e.2.2.2 < 13 ∧ q.2.1.cls = (am_q e.2.2.2).1 ∧ am_okm q (e.2.2.1 - 1) ∧ 1 ≤ e.2.2.1 ∧ Cond.methodLink (am_own 12) e.1 q.2.1 ∈ lw_tbl ∧ Cond.instanceMethod q.2.1 ∈ lw_tbl ∧ Cond.selects (am_q e.2.2.2).1 q.2.1 q.2.1 ∈ lw_tbl) (143, 154, 3, 12) := ⟨qX12_isPowerTooMuch, tb_X12_isPowerTooMuch, by decide, rfl, mo_X12_isPowerTooMuch, by decide, am_in9 1183 (by decide +kernel), mi_X12_isPowerTooMuch, ms_X12_isPowerTooMuch⟩
theorem lk_iv_12_17 : (fun e : Nat × Nat × Nat × Nat => ∃ q, am_tb e.2.1 = some q ∧ e.2.2.2 < 13 ∧ q.2.1.cls = (am_q e.2.2.2).1 ∧ am_okm q (e.2.2.1 - 1) ∧ 1 ≤ e.2.2.1 ∧ Cond.methodLink (am_own 12) e.1 q.2.1 ∈ lw_tbl ∧ Cond.instanceMethod q.2.1 ∈ lw_tbl ∧ Cond.selects (am_q e.2.2.2).1 q.2.1 q.2.1 ∈ lw_tbl) (146, 155, 2, 12) := ⟨qX12_raises, tb_X12_raises, by decide, rfl, mo_X12_raises, by decide, am_in9 1187 (by decide +kernel), mi_X12_raises, ms_X12_raises⟩
theorem lk_iv_12_18 : (fun e : Nat × Nat × Nat × Nat => ∃ q, am_tb e.2.1 = some q ∧ e.2.2.2 < 13 ∧ q.2.1.cls = (am_q e.2.2.2).1 ∧ am_okm q (e.2.2.1 - 1) ∧ 1 ≤ e.2.2.1 ∧ Cond.methodLink (am_own 12) e.1 q.2.1 ∈ lw_tbl ∧ Cond.instanceMethod q.2.1 ∈ lw_tbl ∧ Cond.selects (am_q e.2.2.2).1 q.2.1 q.2.1 ∈ lw_tbl) (149, 149, 2, 12) := ⟨qX12_leadIn, tb_X12_leadIn, by decide, rfl, mo_X12_leadIn, by decide, am_in9 1215 (by decide +kernel), mi_X12_leadIn, ms_X12_leadIn⟩
theorem lk_iv_12_19 : (fun e : Nat × Nat × Nat × Nat => ∃ q, am_tb e.2.1 = some q ∧ e.2.2.2 < 13 ∧ q.2.1.cls = (am_q e.2.2.2).1 ∧ am_okm q (e.2.2.1 - 1) ∧ 1 ≤ e.2.2.1 ∧ Cond.methodLink (am_own 12) e.1 q.2.1 ∈ lw_tbl ∧ Cond.instanceMethod q.2.1 ∈ lw_tbl ∧ Cond.selects (am_q e.2.2.2).1 q.2.1 q.2.1 ∈ lw_tbl) (152, 164, 4, 12) := ⟨qX12_greatest, tb_X12_greatest, by decide, rfl, mo_X12_greatest, by decide, am_in9 1207 (by decide +kernel), mi_X12_greatest, ms_X12_greatest⟩
theorem lk_iv_12_20 : (fun e : Nat × Nat × Nat × Nat => ∃ q, am_tb e.2.1 = some q ∧ e.2.2.2 < 13 ∧ q.2.1.cls = (am_q e.2.2.2).1 ∧ am_okm q (e.2.2.1 - 1) ∧ 1 ≤ e.2.2.1 ∧ Cond.methodLink (am_own 12) e.1 q.2.1 ∈ lw_tbl ∧ Cond.instanceMethod q.2.1 ∈ lw_tbl ∧ Cond.selects (am_q e.2.2.2).1 q.2.1 q.2.1 ∈ lw_tbl) (156, 165, 2, 12) := ⟨qX12_ofLead, tb_X12_ofLead, by decide, rfl, mo_X12_ofLead, by decide, am_in9 1211 (by decide +kernel), mi_X12_ofLead, ms_X12_ofLead⟩
theorem lk_iv_12_21 : (fun e : Nat × Nat × Nat × Nat => ∃ q, am_tb e.2.1 = some q ∧ e.2.2.2 < 13 ∧ q.2.1.cls = (am_q e.2.2.2).1 ∧ am_okm q (e.2.2.1 - 1) ∧ 1 ≤ e.2.2.1 ∧ Cond.methodLink (am_own 12) e.1 q.2.1 ∈ lw_tbl ∧ Cond.instanceMethod q.2.1 ∈ lw_tbl ∧ Cond.selects (am_q e.2.2.2).1 q.2.1 q.2.1 ∈ lw_tbl) (159, 166, 3, 12) := ⟨qX12_aboutOf, tb_X12_aboutOf, by decide, rfl, mo_X12_aboutOf, by decide, am_in9 1203 (by decide +kernel), mi_X12_aboutOf, ms_X12_aboutOf⟩
theorem lk_iv_12_22 : (fun e : Nat × Nat × Nat × Nat => ∃ q, am_tb e.2.1 = some q ∧ e.2.2.2 < 13 ∧ q.2.1.cls = (am_q e.2.2.2).1 ∧ am_okm q (e.2.2.1 - 1) ∧ 1 ≤ e.2.2.1 ∧ Cond.methodLink (am_own 12) e.1 q.2.1 ∈ lw_tbl ∧ Cond.instanceMethod q.2.1 ∈ lw_tbl ∧ Cond.selects (am_q e.2.2.2).1 q.2.1 q.2.1 ∈ lw_tbl) (171, 175, 3, 12) := ⟨qX12_canMake, tb_X12_canMake, by decide, rfl, mo_X12_canMake, by decide, am_in9 1245 (by decide +kernel), mi_X12_canMake, ms_X12_canMake⟩
theorem lk_iv_12_23 : (fun e : Nat × Nat × Nat × Nat => ∃ q, am_tb e.2.1 = some q ∧ e.2.2.2 < 13 ∧ q.2.1.cls = (am_q e.2.2.2).1 ∧ am_okm q (e.2.2.1 - 1) ∧ 1 ≤ e.2.2.1 ∧ Cond.methodLink (am_own 12) e.1 q.2.1 ∈ lw_tbl ∧ Cond.instanceMethod q.2.1 ∈ lw_tbl ∧ Cond.selects (am_q e.2.2.2).1 q.2.1 q.2.1 ∈ lw_tbl) (174, 174, 2, 12) := ⟨qX12_greatestPower, tb_X12_greatestPower, by decide, rfl, mo_X12_greatestPower, by decide, am_in9 1252 (by decide +kernel), mi_X12_greatestPower, ms_X12_greatestPower⟩
theorem lk_iv_12_24 : (fun e : Nat × Nat × Nat × Nat => ∃ q, am_tb e.2.1 = some q ∧ e.2.2.2 < 13 ∧ q.2.1.cls = (am_q e.2.2.2).1 ∧ am_okm q (e.2.2.1 - 1) ∧ 1 ≤ e.2.2.1 ∧ Cond.methodLink (am_own 12) e.1 q.2.1 ∈ lw_tbl ∧ Cond.instanceMethod q.2.1 ∈ lw_tbl ∧ Cond.selects (am_q e.2.2.2).1 q.2.1 q.2.1 ∈ lw_tbl) (180, 179, 4, 12) := ⟨qX12_addsRow, tb_X12_addsRow, by decide, rfl, mo_X12_addsRow, by decide, am_in9 1271 (by decide +kernel), mi_X12_addsRow, ms_X12_addsRow⟩
theorem lk_iv_12_25 : (fun e : Nat × Nat × Nat × Nat => ∃ q, am_tb e.2.1 = some q ∧ e.2.2.2 < 13 ∧ q.2.1.cls = (am_q e.2.2.2).1 ∧ am_okm q (e.2.2.1 - 1) ∧ 1 ≤ e.2.2.1 ∧ Cond.methodLink (am_own 12) e.1 q.2.1 ∈ lw_tbl ∧ Cond.instanceMethod q.2.1 ∈ lw_tbl ∧ Cond.selects (am_q e.2.2.2).1 q.2.1 q.2.1 ∈ lw_tbl) (183, 178, 3, 12) := ⟨qX12_laysMatrix, tb_X12_laysMatrix, by decide, rfl, mo_X12_laysMatrix, by decide, am_in9 1260 (by decide +kernel), mi_X12_laysMatrix, ms_X12_laysMatrix⟩
theorem lk_iv_12_26 : (fun e : Nat × Nat × Nat × Nat => ∃ q, am_tb e.2.1 = some q ∧ e.2.2.2 < 13 ∧ q.2.1.cls = (am_q e.2.2.2).1 ∧ am_okm q (e.2.2.1 - 1) ∧ 1 ≤ e.2.2.1 ∧ Cond.methodLink (am_own 12) e.1 q.2.1 ∈ lw_tbl ∧ Cond.instanceMethod q.2.1 ∈ lw_tbl ∧ Cond.selects (am_q e.2.2.2).1 q.2.1 q.2.1 ∈ lw_tbl) (186, 180, 3, 12) := ⟨qX12_isFree, tb_X12_isFree, by decide, rfl, mo_X12_isFree, by decide, am_in9 1264 (by decide +kernel), mi_X12_isFree, ms_X12_isFree⟩
theorem lk_iv_12_27 : (fun e : Nat × Nat × Nat × Nat => ∃ q, am_tb e.2.1 = some q ∧ e.2.2.2 < 13 ∧ q.2.1.cls = (am_q e.2.2.2).1 ∧ am_okm q (e.2.2.1 - 1) ∧ 1 ≤ e.2.2.1 ∧ Cond.methodLink (am_own 12) e.1 q.2.1 ∈ lw_tbl ∧ Cond.instanceMethod q.2.1 ∈ lw_tbl ∧ Cond.selects (am_q e.2.2.2).1 q.2.1 q.2.1 ∈ lw_tbl) (192, 184, 3, 12) := ⟨qX12_isBelow, tb_X12_isBelow, by decide, rfl, mo_X12_isBelow, by decide, am_in9 1298 (by decide +kernel), mi_X12_isBelow, ms_X12_isBelow⟩
theorem lk_iv_12_28 : (fun e : Nat × Nat × Nat × Nat => ∃ q, am_tb e.2.1 = some q ∧ e.2.2.2 < 13 ∧ q.2.1.cls = (am_q e.2.2.2).1 ∧ am_okm q (e.2.2.1 - 1) ∧ 1 ≤ e.2.2.1 ∧ Cond.methodLink (am_own 12) e.1 q.2.1 ∈ lw_tbl ∧ Cond.instanceMethod q.2.1 ∈ lw_tbl ∧ Cond.selects (am_q e.2.2.2).1 q.2.1 q.2.1 ∈ lw_tbl) (195, 183, 1, 12) := ⟨qX12_findsLeads, tb_X12_findsLeads, by decide, rfl, mo_X12_findsLeads, by decide, am_in9 1290 (by decide +kernel), mi_X12_findsLeads, ms_X12_findsLeads⟩
theorem lk_iv_12_29 : (fun e : Nat × Nat × Nat × Nat => ∃ q, am_tb e.2.1 = some q ∧ e.2.2.2 < 13 ∧ q.2.1.cls = (am_q e.2.2.2).1 ∧ am_okm q (e.2.2.1 - 1) ∧ 1 ≤ e.2.2.1 ∧ Cond.methodLink (am_own 12) e.1 q.2.1 ∈ lw_tbl ∧ Cond.instanceMethod q.2.1 ∈ lw_tbl ∧ Cond.selects (am_q e.2.2.2).1 q.2.1 q.2.1 ∈ lw_tbl) (198, 185, 2, 12) := ⟨qX12_firstBelow, tb_X12_firstBelow, by decide, rfl, mo_X12_firstBelow, by decide, am_in9 1294 (by decide +kernel), mi_X12_firstBelow, ms_X12_firstBelow⟩
theorem lk_iv_12_30 : (fun e : Nat × Nat × Nat × Nat => ∃ q, am_tb e.2.1 = some q ∧ e.2.2.2 < 13 ∧ q.2.1.cls = (am_q e.2.2.2).1 ∧ am_okm q (e.2.2.1 - 1) ∧ 1 ≤ e.2.2.1 ∧ Cond.methodLink (am_own 12) e.1 q.2.1 ∈ lw_tbl ∧ Cond.instanceMethod q.2.1 ∈ lw_tbl ∧ Cond.selects (am_q e.2.2.2).1 q.2.1 q.2.1 ∈ lw_tbl) (204, 186, 2, 12) := ⟨qX12_rests, tb_X12_rests, by decide, rfl, mo_X12_rests, by decide, am_in9 1286 (by decide +kernel), mi_X12_rests, ms_X12_rests⟩
theorem lk_iv_12_31 : (fun e : Nat × Nat × Nat × Nat => ∃ q, am_tb e.2.1 = some q ∧ e.2.2.2 < 13 ∧ q.2.1.cls = (am_q e.2.2.2).1 ∧ am_okm q (e.2.2.1 - 1) ∧ 1 ≤ e.2.2.1 ∧ Cond.methodLink (am_own 12) e.1 q.2.1 ∈ lw_tbl ∧ Cond.instanceMethod q.2.1 ∈ lw_tbl ∧ Cond.selects (am_q e.2.2.2).1 q.2.1 q.2.1 ∈ lw_tbl) (210, 192, 2, 12) := ⟨qX12_takesBy, tb_X12_takesBy, by decide, rfl, mo_X12_takesBy, by decide, am_in9 1318 (by decide +kernel), mi_X12_takesBy, ms_X12_takesBy⟩
theorem lk_iv_12_32 : (fun e : Nat × Nat × Nat × Nat => ∃ q, am_tb e.2.1 = some q ∧ e.2.2.2 < 13 ∧ q.2.1.cls = (am_q e.2.2.2).1 ∧ am_okm q (e.2.2.1 - 1) ∧ 1 ≤ e.2.2.1 ∧ Cond.methodLink (am_own 12) e.1 q.2.1 ∈ lw_tbl ∧ Cond.instanceMethod q.2.1 ∈ lw_tbl ∧ Cond.selects (am_q e.2.2.2).1 q.2.1 q.2.1 ∈ lw_tbl) (213, 191, 2, 12) := ⟨qX12_rowGoes, tb_X12_rowGoes, by decide, rfl, mo_X12_rowGoes, by decide, am_in9 1322 (by decide +kernel), mi_X12_rowGoes, ms_X12_rowGoes⟩
theorem lk_iv_12_33 : (fun e : Nat × Nat × Nat × Nat => ∃ q, am_tb e.2.1 = some q ∧ e.2.2.2 < 13 ∧ q.2.1.cls = (am_q e.2.2.2).1 ∧ am_okm q (e.2.2.1 - 1) ∧ 1 ≤ e.2.2.1 ∧ Cond.methodLink (am_own 12) e.1 q.2.1 ∈ lw_tbl ∧ Cond.instanceMethod q.2.1 ∈ lw_tbl ∧ Cond.selects (am_q e.2.2.2).1 q.2.1 q.2.1 ∈ lw_tbl) (216, 189, 2, 12) := ⟨qX12_evens, tb_X12_evens, by decide, rfl, mo_X12_evens, by decide, am_in9 1326 (by decide +kernel), mi_X12_evens, ms_X12_evens⟩
theorem lk_iv_12_34 : (fun e : Nat × Nat × Nat × Nat => ∃ q, am_tb e.2.1 = some q ∧ e.2.2.2 < 13 ∧ q.2.1.cls = (am_q e.2.2.2).1 ∧ am_okm q (e.2.2.1 - 1) ∧ 1 ≤ e.2.2.1 ∧ Cond.methodLink (am_own 12) e.1 q.2.1 ∈ lw_tbl ∧ Cond.instanceMethod q.2.1 ∈ lw_tbl ∧ Cond.selects (am_q e.2.2.2).1 q.2.1 q.2.1 ∈ lw_tbl) (219, 190, 3, 12) := ⟨qX12_areAlike, tb_X12_areAlike, by decide, rfl, mo_X12_areAlike, by decide, am_in9 1330 (by decide +kernel), mi_X12_areAlike, ms_X12_areAlike⟩
theorem lk_iv_12_35 : (fun e : Nat × Nat × Nat × Nat => ∃ q, am_tb e.2.1 = some q ∧ e.2.2.2 < 13 ∧ q.2.1.cls = (am_q e.2.2.2).1 ∧ am_okm q (e.2.2.1 - 1) ∧ 1 ≤ e.2.2.1 ∧ Cond.methodLink (am_own 12) e.1 q.2.1 ∈ lw_tbl ∧ Cond.instanceMethod q.2.1 ∈ lw_tbl ∧ Cond.selects (am_q e.2.2.2).1 q.2.1 q.2.1 ∈ lw_tbl) (222, 194, 3, 12) := ⟨qX12_isAhead, tb_X12_isAhead, by decide, rfl, mo_X12_isAhead, by decide, am_in9 1342 (by decide +kernel), mi_X12_isAhead, ms_X12_isAhead⟩
theorem lk_iv_12_36 : (fun e : Nat × Nat × Nat × Nat => ∃ q, am_tb e.2.1 = some q ∧ e.2.2.2 < 13 ∧ q.2.1.cls = (am_q e.2.2.2).1 ∧ am_okm q (e.2.2.1 - 1) ∧ 1 ≤ e.2.2.1 ∧ Cond.methodLink (am_own 12) e.1 q.2.1 ∈ lw_tbl ∧ Cond.instanceMethod q.2.1 ∈ lw_tbl ∧ Cond.selects (am_q e.2.2.2).1 q.2.1 q.2.1 ∈ lw_tbl) (225, 195, 3, 12) := ⟨qX12_exchanges, tb_X12_exchanges, by decide, rfl, mo_X12_exchanges, by decide, am_in9 1346 (by decide +kernel), mi_X12_exchanges, ms_X12_exchanges⟩
theorem lk_iv_12_37 : (fun e : Nat × Nat × Nat × Nat => ∃ q, am_tb e.2.1 = some q ∧ e.2.2.2 < 13 ∧ q.2.1.cls = (am_q e.2.2.2).1 ∧ am_okm q (e.2.2.1 - 1) ∧ 1 ≤ e.2.2.1 ∧ Cond.methodLink (am_own 12) e.1 q.2.1 ∈ lw_tbl ∧ Cond.instanceMethod q.2.1 ∈ lw_tbl ∧ Cond.selects (am_q e.2.2.2).1 q.2.1 q.2.1 ∈ lw_tbl) (228, 196, 2, 12) := ⟨qX12_sorts, tb_X12_sorts, by decide, rfl, mo_X12_sorts, by decide, am_in9 1338 (by decide +kernel), mi_X12_sorts, ms_X12_sorts⟩
theorem lk_iv_12_38 : (fun e : Nat × Nat × Nat × Nat => ∃ q, am_tb e.2.1 = some q ∧ e.2.2.2 < 13 ∧ q.2.1.cls = (am_q e.2.2.2).1 ∧ am_okm q (e.2.2.1 - 1) ∧ 1 ≤ e.2.2.1 ∧ Cond.methodLink (am_own 12) e.1 q.2.1 ∈ lw_tbl ∧ Cond.instanceMethod q.2.1 ∈ lw_tbl ∧ Cond.selects (am_q e.2.2.2).1 q.2.1 q.2.1 ∈ lw_tbl) (232, 197, 3, 12) := ⟨qX12_crosses, tb_X12_crosses, by decide, rfl, mo_X12_crosses, by decide, am_in9 1350 (by decide +kernel), mi_X12_crosses, ms_X12_crosses⟩
theorem lk_iv_12_39 : (fun e : Nat × Nat × Nat × Nat => ∃ q, am_tb e.2.1 = some q ∧ e.2.2.2 < 13 ∧ q.2.1.cls = (am_q e.2.2.2).1 ∧ am_okm q (e.2.2.1 - 1) ∧ 1 ≤ e.2.2.1 ∧ Cond.methodLink (am_own 12) e.1 q.2.1 ∈ lw_tbl ∧ Cond.instanceMethod q.2.1 ∈ lw_tbl ∧ Cond.selects (am_q e.2.2.2).1 q.2.1 q.2.1 ∈ lw_tbl) (235, 193, 1, 12) := ⟨qX12_tidies, tb_X12_tidies, by decide, rfl, mo_X12_tidies, by decide, am_in9 1314 (by decide +kernel), mi_X12_tidies, ms_X12_tidies⟩
theorem lk_iv_12_40 : (fun e : Nat × Nat × Nat × Nat => ∃ q, am_tb e.2.1 = some q ∧ e.2.2.2 < 13 ∧ q.2.1.cls = (am_q e.2.2.2).1 ∧ am_okm q (e.2.2.1 - 1) ∧ 1 ≤ e.2.2.1 ∧ Cond.methodLink (am_own 12) e.1 q.2.1 ∈ lw_tbl ∧ Cond.instanceMethod q.2.1 ∈ lw_tbl ∧ Cond.selects (am_q e.2.2.2).1 q.2.1 q.2.1 ∈ lw_tbl) (238, 198, 1, 12) := ⟨qX12_isOneMore, tb_X12_isOneMore, by decide, rfl, mo_X12_isOneMore, by decide, am_in9 1334 (by decide +kernel), mi_X12_isOneMore, ms_X12_isOneMore⟩
theorem lk_iv_12_41 : (fun e : Nat × Nat × Nat × Nat => ∃ q, am_tb e.2.1 = some q ∧ e.2.2.2 < 13 ∧ q.2.1.cls = (am_q e.2.2.2).1 ∧ am_okm q (e.2.2.1 - 1) ∧ 1 ≤ e.2.2.1 ∧ Cond.methodLink (am_own 12) e.1 q.2.1 ∈ lw_tbl ∧ Cond.instanceMethod q.2.1 ∈ lw_tbl ∧ Cond.selects (am_q e.2.2.2).1 q.2.1 q.2.1 ∈ lw_tbl) (242, 200, 2, 12) := ⟨qX12_isSmall, tb_X12_isSmall, by decide, rfl, mo_X12_isSmall, by decide, am_in9 1306 (by decide +kernel), mi_X12_isSmall, ms_X12_isSmall⟩
theorem lk_iv_12_42 : (fun e : Nat × Nat × Nat × Nat => ∃ q, am_tb e.2.1 = some q ∧ e.2.2.2 < 13 ∧ q.2.1.cls = (am_q e.2.2.2).1 ∧ am_okm q (e.2.2.1 - 1) ∧ 1 ≤ e.2.2.1 ∧ Cond.methodLink (am_own 12) e.1 q.2.1 ∈ lw_tbl ∧ Cond.instanceMethod q.2.1 ∈ lw_tbl ∧ Cond.selects (am_q e.2.2.2).1 q.2.1 q.2.1 ∈ lw_tbl) (245, 199, 2, 12) := ⟨qX12_laysBasis, tb_X12_laysBasis, by decide, rfl, mo_X12_laysBasis, by decide, am_in9 1310 (by decide +kernel), mi_X12_laysBasis, ms_X12_laysBasis⟩
theorem lk_iv_12_43 : (fun e : Nat × Nat × Nat × Nat => ∃ q, am_tb e.2.1 = some q ∧ e.2.2.2 < 13 ∧ q.2.1.cls = (am_q e.2.2.2).1 ∧ am_okm q (e.2.2.1 - 1) ∧ 1 ≤ e.2.2.1 ∧ Cond.methodLink (am_own 12) e.1 q.2.1 ∈ lw_tbl ∧ Cond.instanceMethod q.2.1 ∈ lw_tbl ∧ Cond.selects (am_q e.2.2.2).1 q.2.1 q.2.1 ∈ lw_tbl) (254, 207, 3, 12) := ⟨qX12_isAt, tb_X12_isAt, by decide, rfl, mo_X12_isAt, by decide, am_in9 1390 (by decide +kernel), mi_X12_isAt, ms_X12_isAt⟩
theorem lk_iv_12_44 : (fun e : Nat × Nat × Nat × Nat => ∃ q, am_tb e.2.1 = some q ∧ e.2.2.2 < 13 ∧ q.2.1.cls = (am_q e.2.2.2).1 ∧ am_okm q (e.2.2.1 - 1) ∧ 1 ≤ e.2.2.1 ∧ Cond.methodLink (am_own 12) e.1 q.2.1 ∈ lw_tbl ∧ Cond.instanceMethod q.2.1 ∈ lw_tbl ∧ Cond.selects (am_q e.2.2.2).1 q.2.1 q.2.1 ∈ lw_tbl) (279, 209, 2, 12) := ⟨qX12_fails, tb_X12_fails, by decide, rfl, mo_X12_fails, by decide, am_in9 1398 (by decide +kernel), mi_X12_fails, ms_X12_fails⟩
theorem lk_iv_12_45 : (fun e : Nat × Nat × Nat × Nat => ∃ q, am_tb e.2.1 = some q ∧ e.2.2.2 < 13 ∧ q.2.1.cls = (am_q e.2.2.2).1 ∧ am_okm q (e.2.2.1 - 1) ∧ 1 ≤ e.2.2.1 ∧ Cond.methodLink (am_own 12) e.1 q.2.1 ∈ lw_tbl ∧ Cond.instanceMethod q.2.1 ∈ lw_tbl ∧ Cond.selects (am_q e.2.2.2).1 q.2.1 q.2.1 ∈ lw_tbl) (282, 208, 1, 12) := ⟨qX12_blanks, tb_X12_blanks, by decide, rfl, mo_X12_blanks, by decide, am_in9 1386 (by decide +kernel), mi_X12_blanks, ms_X12_blanks⟩
theorem lk_iv_12_46 : (fun e : Nat × Nat × Nat × Nat => ∃ q, am_tb e.2.1 = some q ∧ e.2.2.2 < 13 ∧ q.2.1.cls = (am_q e.2.2.2).1 ∧ am_okm q (e.2.2.1 - 1) ∧ 1 ≤ e.2.2.1 ∧ Cond.methodLink (am_own 12) e.1 q.2.1 ∈ lw_tbl ∧ Cond.instanceMethod q.2.1 ∈ lw_tbl ∧ Cond.selects (am_q e.2.2.2).1 q.2.1 q.2.1 ∈ lw_tbl) (285, 213, 2, 12) := ⟨qX12_takesFigures, tb_X12_takesFigures, by decide, rfl, mo_X12_takesFigures, by decide, am_in9 1402 (by decide +kernel), mi_X12_takesFigures, ms_X12_takesFigures⟩
theorem lk_iv_12_47 : (fun e : Nat × Nat × Nat × Nat => ∃ q, am_tb e.2.1 = some q ∧ e.2.2.2 < 13 ∧ q.2.1.cls = (am_q e.2.2.2).1 ∧ am_okm q (e.2.2.1 - 1) ∧ 1 ≤ e.2.2.1 ∧ Cond.methodLink (am_own 12) e.1 q.2.1 ∈ lw_tbl ∧ Cond.instanceMethod q.2.1 ∈ lw_tbl ∧ Cond.selects (am_q e.2.2.2).1 q.2.1 q.2.1 ∈ lw_tbl) (288, 212, 2, 12) := ⟨qX12_takes, tb_X12_takes, by decide, rfl, mo_X12_takes, by decide, am_in9 1414 (by decide +kernel), mi_X12_takes, ms_X12_takes⟩
theorem lk_iv_12_48 : (fun e : Nat × Nat × Nat × Nat => ∃ q, am_tb e.2.1 = some q ∧ e.2.2.2 < 13 ∧ q.2.1.cls = (am_q e.2.2.2).1 ∧ am_okm q (e.2.2.1 - 1) ∧ 1 ≤ e.2.2.1 ∧ Cond.methodLink (am_own 12) e.1 q.2.1 ∈ lw_tbl ∧ Cond.instanceMethod q.2.1 ∈ lw_tbl ∧ Cond.selects (am_q e.2.2.2).1 q.2.1 q.2.1 ∈ lw_tbl) (291, 210, 1, 12) := ⟨qX12_opens, tb_X12_opens, by decide, rfl, mo_X12_opens, by decide, am_in9 1382 (by decide +kernel), mi_X12_opens, ms_X12_opens⟩
theorem lk_iv_12_49 : (fun e : Nat × Nat × Nat × Nat => ∃ q, am_tb e.2.1 = some q ∧ e.2.2.2 < 13 ∧ q.2.1.cls = (am_q e.2.2.2).1 ∧ am_okm q (e.2.2.1 - 1) ∧ 1 ≤ e.2.2.1 ∧ Cond.methodLink (am_own 12) e.1 q.2.1 ∈ lw_tbl ∧ Cond.instanceMethod q.2.1 ∈ lw_tbl ∧ Cond.selects (am_q e.2.2.2).1 q.2.1 q.2.1 ∈ lw_tbl) (294, 215, 4, 12) := ⟨qX12_values, tb_X12_values, by decide, rfl, mo_X12_values, by decide, am_in9 1406 (by decide +kernel), mi_X12_values, ms_X12_values⟩
theorem lk_iv_12_50 : (fun e : Nat × Nat × Nat × Nat => ∃ q, am_tb e.2.1 = some q ∧ e.2.2.2 < 13 ∧ q.2.1.cls = (am_q e.2.2.2).1 ∧ am_okm q (e.2.2.1 - 1) ∧ 1 ≤ e.2.2.1 ∧ Cond.methodLink (am_own 12) e.1 q.2.1 ∈ lw_tbl ∧ Cond.instanceMethod q.2.1 ∈ lw_tbl ∧ Cond.selects (am_q e.2.2.2).1 q.2.1 q.2.1 ∈ lw_tbl) (297, 214, 1, 12) := ⟨qX12_takesPower, tb_X12_takesPower, by decide, rfl, mo_X12_takesPower, by decide, am_in9 1410 (by decide +kernel), mi_X12_takesPower, ms_X12_takesPower⟩
theorem lk_iv_12_51 : (fun e : Nat × Nat × Nat × Nat => ∃ q, am_tb e.2.1 = some q ∧ e.2.2.2 < 13 ∧ q.2.1.cls = (am_q e.2.2.2).1 ∧ am_okm q (e.2.2.1 - 1) ∧ 1 ≤ e.2.2.1 ∧ Cond.methodLink (am_own 12) e.1 q.2.1 ∈ lw_tbl ∧ Cond.instanceMethod q.2.1 ∈ lw_tbl ∧ Cond.selects (am_q e.2.2.2).1 q.2.1 q.2.1 ∈ lw_tbl) (300, 211, 1, 12) := ⟨qX12_closes, tb_X12_closes, by decide, rfl, mo_X12_closes, by decide, am_in9 1422 (by decide +kernel), mi_X12_closes, ms_X12_closes⟩
theorem lk_iv_12_52 : (fun e : Nat × Nat × Nat × Nat => ∃ q, am_tb e.2.1 = some q ∧ e.2.2.2 < 13 ∧ q.2.1.cls = (am_q e.2.2.2).1 ∧ am_okm q (e.2.2.1 - 1) ∧ 1 ≤ e.2.2.1 ∧ Cond.methodLink (am_own 12) e.1 q.2.1 ∈ lw_tbl ∧ Cond.instanceMethod q.2.1 ∈ lw_tbl ∧ Cond.selects (am_q e.2.2.2).1 q.2.1 q.2.1 ∈ lw_tbl) (303, 216, 1, 12) := ⟨qX12_takesFactor, tb_X12_takesFactor, by decide, rfl, mo_X12_takesFactor, by decide, am_in9 1394 (by decide +kernel), mi_X12_takesFactor, ms_X12_takesFactor⟩
theorem lk_iv_12_53 : (fun e : Nat × Nat × Nat × Nat => ∃ q, am_tb e.2.1 = some q ∧ e.2.2.2 < 13 ∧ q.2.1.cls = (am_q e.2.2.2).1 ∧ am_okm q (e.2.2.1 - 1) ∧ 1 ≤ e.2.2.1 ∧ Cond.methodLink (am_own 12) e.1 q.2.1 ∈ lw_tbl ∧ Cond.instanceMethod q.2.1 ∈ lw_tbl ∧ Cond.selects (am_q e.2.2.2).1 q.2.1 q.2.1 ∈ lw_tbl) (306, 217, 1, 12) := ⟨qX12_takesSign, tb_X12_takesSign, by decide, rfl, mo_X12_takesSign, by decide, am_in9 1418 (by decide +kernel), mi_X12_takesSign, ms_X12_takesSign⟩
theorem lk_iv_12_54 : (fun e : Nat × Nat × Nat × Nat => ∃ q, am_tb e.2.1 = some q ∧ e.2.2.2 < 13 ∧ q.2.1.cls = (am_q e.2.2.2).1 ∧ am_okm q (e.2.2.1 - 1) ∧ 1 ≤ e.2.2.1 ∧ Cond.methodLink (am_own 12) e.1 q.2.1 ∈ lw_tbl ∧ Cond.instanceMethod q.2.1 ∈ lw_tbl ∧ Cond.selects (am_q e.2.2.2).1 q.2.1 q.2.1 ∈ lw_tbl) (309, 218, 2, 12) := ⟨qX12_isRead, tb_X12_isRead, by decide, rfl, mo_X12_isRead, by decide, am_in9 1378 (by decide +kernel), mi_X12_isRead, ms_X12_isRead⟩
theorem lk_iv_12_55 : (fun e : Nat × Nat × Nat × Nat => ∃ q, am_tb e.2.1 = some q ∧ e.2.2.2 < 13 ∧ q.2.1.cls = (am_q e.2.2.2).1 ∧ am_okm q (e.2.2.1 - 1) ∧ 1 ≤ e.2.2.1 ∧ Cond.methodLink (am_own 12) e.1 q.2.1 ∈ lw_tbl ∧ Cond.instanceMethod q.2.1 ∈ lw_tbl ∧ Cond.selects (am_q e.2.2.2).1 q.2.1 q.2.1 ∈ lw_tbl) (316, 220, 2, 12) := ⟨qX12_writes, tb_X12_writes, by decide, rfl, mo_X12_writes, by decide, am_in9 1438 (by decide +kernel), mi_X12_writes, ms_X12_writes⟩
theorem lk_iv_12_56 : (fun e : Nat × Nat × Nat × Nat => ∃ q, am_tb e.2.1 = some q ∧ e.2.2.2 < 13 ∧ q.2.1.cls = (am_q e.2.2.2).1 ∧ am_okm q (e.2.2.1 - 1) ∧ 1 ≤ e.2.2.1 ∧ Cond.methodLink (am_own 12) e.1 q.2.1 ∈ lw_tbl ∧ Cond.instanceMethod q.2.1 ∈ lw_tbl ∧ Cond.selects (am_q e.2.2.2).1 q.2.1 q.2.1 ∈ lw_tbl) (319, 221, 2, 12) := ⟨qX12_writesNumber, tb_X12_writesNumber, by decide, rfl, mo_X12_writesNumber, by decide, am_in9 1442 (by decide +kernel), mi_X12_writesNumber, ms_X12_writesNumber⟩
theorem lk_iv_12_57 : (fun e : Nat × Nat × Nat × Nat => ∃ q, am_tb e.2.1 = some q ∧ e.2.2.2 < 13 ∧ q.2.1.cls = (am_q e.2.2.2).1 ∧ am_okm q (e.2.2.1 - 1) ∧ 1 ≤ e.2.2.1 ∧ Cond.methodLink (am_own 12) e.1 q.2.1 ∈ lw_tbl ∧ Cond.instanceMethod q.2.1 ∈ lw_tbl ∧ Cond.selects (am_q e.2.2.2).1 q.2.1 q.2.1 ∈ lw_tbl) (322, 222, 3, 12) := ⟨qX12_writesLetter, tb_X12_writesLetter, by decide, rfl, mo_X12_writesLetter, by decide, am_in9 1446 (by decide +kernel), mi_X12_writesLetter, ms_X12_writesLetter⟩
theorem lk_iv_12_58 : (fun e : Nat × Nat × Nat × Nat => ∃ q, am_tb e.2.1 = some q ∧ e.2.2.2 < 13 ∧ q.2.1.cls = (am_q e.2.2.2).1 ∧ am_okm q (e.2.2.1 - 1) ∧ 1 ≤ e.2.2.1 ∧ Cond.methodLink (am_own 12) e.1 q.2.1 ∈ lw_tbl ∧ Cond.instanceMethod q.2.1 ∈ lw_tbl ∧ Cond.selects (am_q e.2.2.2).1 q.2.1 q.2.1 ∈ lw_tbl) (325, 223, 3, 12) := ⟨qX12_writesTerm, tb_X12_writesTerm, by decide, rfl, mo_X12_writesTerm, by decide, am_in9 1434 (by decide +kernel), mi_X12_writesTerm, ms_X12_writesTerm⟩
theorem lk_iv_12_59 : (fun e : Nat × Nat × Nat × Nat => ∃ q, am_tb e.2.1 = some q ∧ e.2.2.2 < 13 ∧ q.2.1.cls = (am_q e.2.2.2).1 ∧ am_okm q (e.2.2.1 - 1) ∧ 1 ≤ e.2.2.1 ∧ Cond.methodLink (am_own 12) e.1 q.2.1 ∈ lw_tbl ∧ Cond.instanceMethod q.2.1 ∈ lw_tbl ∧ Cond.selects (am_q e.2.2.2).1 q.2.1 q.2.1 ∈ lw_tbl) (328, 224, 2, 12) := ⟨qX12_laysLine, tb_X12_laysLine, by decide, rfl, mo_X12_laysLine, by decide, am_in9 1430 (by decide +kernel), mi_X12_laysLine, ms_X12_laysLine⟩
theorem lk_iv_12_60 : (fun e : Nat × Nat × Nat × Nat => ∃ q, am_tb e.2.1 = some q ∧ e.2.2.2 < 13 ∧ q.2.1.cls = (am_q e.2.2.2).1 ∧ am_okm q (e.2.2.1 - 1) ∧ 1 ≤ e.2.2.1 ∧ Cond.methodLink (am_own 12) e.1 q.2.1 ∈ lw_tbl ∧ Cond.instanceMethod q.2.1 ∈ lw_tbl ∧ Cond.selects (am_q e.2.2.2).1 q.2.1 q.2.1 ∈ lw_tbl) (331, 226, 2, 12) := ⟨qX12_toldOf, tb_X12_toldOf, by decide, rfl, mo_X12_toldOf, by decide, am_in9 1454 (by decide +kernel), mi_X12_toldOf, ms_X12_toldOf⟩
theorem lk_iv_12_61 : (fun e : Nat × Nat × Nat × Nat => ∃ q, am_tb e.2.1 = some q ∧ e.2.2.2 < 13 ∧ q.2.1.cls = (am_q e.2.2.2).1 ∧ am_okm q (e.2.2.1 - 1) ∧ 1 ≤ e.2.2.1 ∧ Cond.methodLink (am_own 12) e.1 q.2.1 ∈ lw_tbl ∧ Cond.instanceMethod q.2.1 ∈ lw_tbl ∧ Cond.selects (am_q e.2.2.2).1 q.2.1 q.2.1 ∈ lw_tbl) (342, 228, 2, 12) := ⟨qX12_mix, tb_X12_mix, by decide, rfl, mo_X12_mix, by decide, am_in9 1463 (by decide +kernel), mi_X12_mix, ms_X12_mix⟩
theorem lk_iv_12 : ∀ e ∈ lk_iv 12, ∃ q, am_tb e.2.1 = some q ∧ e.2.2.2 < 13 ∧ q.2.1.cls = (am_q e.2.2.2).1 ∧ am_okm q (e.2.2.1 - 1) ∧ 1 ≤ e.2.2.1 ∧ Cond.methodLink (am_own 12) e.1 q.2.1 ∈ lw_tbl ∧ Cond.instanceMethod q.2.1 ∈ lw_tbl ∧ Cond.selects (am_q e.2.2.2).1 q.2.1 q.2.1 ∈ lw_tbl := List.forall_mem_cons.mpr ⟨lk_iv_12_0, List.forall_mem_cons.mpr ⟨lk_iv_12_1, List.forall_mem_cons.mpr ⟨lk_iv_12_2, List.forall_mem_cons.mpr ⟨lk_iv_12_3, List.forall_mem_cons.mpr ⟨lk_iv_12_4, List.forall_mem_cons.mpr ⟨lk_iv_12_5, List.forall_mem_cons.mpr ⟨lk_iv_12_6, List.forall_mem_cons.mpr ⟨lk_iv_12_7, List.forall_mem_cons.mpr ⟨lk_iv_12_8, List.forall_mem_cons.mpr ⟨lk_iv_12_9, List.forall_mem_cons.mpr ⟨lk_iv_12_10, List.forall_mem_cons.mpr ⟨lk_iv_12_11, List.forall_mem_cons.mpr ⟨lk_iv_12_12, List.forall_mem_cons.mpr ⟨lk_iv_12_13, List.forall_mem_cons.mpr ⟨lk_iv_12_14, List.forall_mem_cons.mpr ⟨lk_iv_12_15, List.forall_mem_cons.mpr ⟨lk_iv_12_16, List.forall_mem_cons.mpr ⟨lk_iv_12_17, List.forall_mem_cons.mpr ⟨lk_iv_12_18, List.forall_mem_cons.mpr ⟨lk_iv_12_19, List.forall_mem_cons.mpr ⟨lk_iv_12_20, List.forall_mem_cons.mpr ⟨lk_iv_12_21, List.forall_mem_cons.mpr ⟨lk_iv_12_22, List.forall_mem_cons.mpr ⟨lk_iv_12_23, List.forall_mem_cons.mpr ⟨lk_iv_12_24, List.forall_mem_cons.mpr ⟨lk_iv_12_25, List.forall_mem_cons.mpr ⟨lk_iv_12_26, List.forall_mem_cons.mpr ⟨lk_iv_12_27, List.forall_mem_cons.mpr ⟨lk_iv_12_28, List.forall_mem_cons.mpr ⟨lk_iv_12_29, List.forall_mem_cons.mpr ⟨lk_iv_12_30, List.forall_mem_cons.mpr ⟨lk_iv_12_31, List.forall_mem_cons.mpr ⟨lk_iv_12_32, List.forall_mem_cons.mpr ⟨lk_iv_12_33, List.forall_mem_cons.mpr ⟨lk_iv_12_34, List.forall_mem_cons.mpr ⟨lk_iv_12_35, List.forall_mem_cons.mpr ⟨lk_iv_12_36, List.forall_mem_cons.mpr ⟨lk_iv_12_37, List.forall_mem_cons.mpr ⟨lk_iv_12_38, List.forall_mem_cons.mpr ⟨lk_iv_12_39, List.forall_mem_cons.mpr ⟨lk_iv_12_40, List.forall_mem_cons.mpr ⟨lk_iv_12_41, List.forall_mem_cons.mpr ⟨lk_iv_12_42, List.forall_mem_cons.mpr ⟨lk_iv_12_43, List.forall_mem_cons.mpr ⟨lk_iv_12_44, List.forall_mem_cons.mpr ⟨lk_iv_12_45, List.forall_mem_cons.mpr ⟨lk_iv_12_46, List.forall_mem_cons.mpr ⟨lk_iv_12_47, List.forall_mem_cons.mpr ⟨lk_iv_12_48, List.forall_mem_cons.mpr ⟨lk_iv_12_49, List.forall_mem_cons.mpr ⟨lk_iv_12_50, List.forall_mem_cons.mpr ⟨lk_iv_12_51, List.forall_mem_cons.mpr ⟨lk_iv_12_52, List.forall_mem_cons.mpr ⟨lk_iv_12_53, List.forall_mem_cons.mpr ⟨lk_iv_12_54, List.forall_mem_cons.mpr ⟨lk_iv_12_55, List.forall_mem_cons.mpr ⟨lk_iv_12_56, List.forall_mem_cons.mpr ⟨lk_iv_12_57, List.forall_mem_cons.mpr ⟨lk_iv_12_58, List.forall_mem_cons.mpr ⟨lk_iv_12_59, List.forall_mem_cons.mpr ⟨lk_iv_12_60, List.forall_mem_cons.mpr ⟨lk_iv_12_61, fun _ h => absurd h List.not_mem_nil⟩⟩⟩⟩⟩⟩⟩⟩⟩⟩⟩⟩⟩⟩⟩⟩⟩⟩⟩⟩⟩⟩⟩⟩⟩⟩⟩⟩⟩⟩⟩⟩⟩⟩⟩⟩⟩⟩⟩⟩⟩⟩⟩⟩⟩⟩⟩⟩⟩⟩⟩⟩⟩⟩⟩⟩⟩⟩⟩⟩⟩⟩
theorem lk_iv_15_0 : (fun e : Nat × Nat × Nat × Nat => ∃ q, am_tb e.2.1 = some q ∧ e.2.2.2 < 13 ∧ q.2.1.cls = (am_q e.2.2.2).1 ∧ am_okm q (e.2.2.1 - 1) ∧ 1 ≤ e.2.2.1 ∧ Cond.methodLink (am_own 15) e.1 q.2.1 ∈ lw_tbl ∧ Cond.instanceMethod q.2.1 ∈ lw_tbl ∧ Cond.selects (am_q e.2.2.2).1 q.2.1 q.2.1 ∈ lw_tbl) (13, 93, 5, 11) := ⟨qX11_sets, tb_X11_sets, by decide, rfl, mo_X11_sets, by decide, am_in9 436 (by decide +kernel), mi_X11_sets, ms_X11_sets⟩
theorem lk_iv_15_1 : (fun e : Nat × Nat × Nat × Nat => ∃ q, am_tb e.2.1 = some q ∧ e.2.2.2 < 13 ∧ q.2.1.cls = (am_q e.2.2.2).1 ∧ am_okm q (e.2.2.1 - 1) ∧ 1 ≤ e.2.2.1 ∧ Cond.methodLink (am_own 15) e.1 q.2.1 ∈ lw_tbl ∧ Cond.instanceMethod q.2.1 ∈ lw_tbl ∧ Cond.selects (am_q e.2.2.2).1 q.2.1 q.2.1 ∈ lw_tbl) (17, 157, 5, 12) := ⟨qX12_sets, tb_X12_sets, by decide, rfl, mo_X12_sets, by decide, am_in9 1092 (by decide +kernel), mi_X12_sets, ms_X12_sets⟩
theorem lk_iv_15_2 : (fun e : Nat × Nat × Nat × Nat => ∃ q, am_tb e.2.1 = some q ∧ e.2.2.2 < 13 ∧ q.2.1.cls = (am_q e.2.2.2).1 ∧ am_okm q (e.2.2.1 - 1) ∧ 1 ≤ e.2.2.1 ∧ Cond.methodLink (am_own 15) e.1 q.2.1 ∈ lw_tbl ∧ Cond.instanceMethod q.2.1 ∈ lw_tbl ∧ Cond.selects (am_q e.2.2.2).1 q.2.1 q.2.1 ∈ lw_tbl) (18, 94, 4, 11) := ⟨qX11_at, tb_X11_at, by decide, rfl, mo_X11_at, by decide, am_in9 491 (by decide +kernel), mi_X11_at, ms_X11_at⟩
theorem lk_iv_15_3 : (fun e : Nat × Nat × Nat × Nat => ∃ q, am_tb e.2.1 = some q ∧ e.2.2.2 < 13 ∧ q.2.1.cls = (am_q e.2.2.2).1 ∧ am_okm q (e.2.2.1 - 1) ∧ 1 ≤ e.2.2.1 ∧ Cond.methodLink (am_own 15) e.1 q.2.1 ∈ lw_tbl ∧ Cond.instanceMethod q.2.1 ∈ lw_tbl ∧ Cond.selects (am_q e.2.2.2).1 q.2.1 q.2.1 ∈ lw_tbl) (22, 158, 4, 12) := ⟨qX12_at, tb_X12_at, by decide, rfl, mo_X12_at, by decide, am_in9 1119 (by decide +kernel), mi_X12_at, ms_X12_at⟩
theorem lk_iv_15_4 : (fun e : Nat × Nat × Nat × Nat => ∃ q, am_tb e.2.1 = some q ∧ e.2.2.2 < 13 ∧ q.2.1.cls = (am_q e.2.2.2).1 ∧ am_okm q (e.2.2.1 - 1) ∧ 1 ≤ e.2.2.1 ∧ Cond.methodLink (am_own 15) e.1 q.2.1 ∈ lw_tbl ∧ Cond.instanceMethod q.2.1 ∈ lw_tbl ∧ Cond.selects (am_q e.2.2.2).1 q.2.1 q.2.1 ∈ lw_tbl) (23, 95, 6, 11) := ⟨qX11_sums, tb_X11_sums, by decide, rfl, mo_X11_sums, by decide, am_in9 495 (by decide +kernel), mi_X11_sums, ms_X11_sums⟩
theorem lk_iv_15_5 : (fun e : Nat × Nat × Nat × Nat => ∃ q, am_tb e.2.1 = some q ∧ e.2.2.2 < 13 ∧ q.2.1.cls = (am_q e.2.2.2).1 ∧ am_okm q (e.2.2.1 - 1) ∧ 1 ≤ e.2.2.1 ∧ Cond.methodLink (am_own 15) e.1 q.2.1 ∈ lw_tbl ∧ Cond.instanceMethod q.2.1 ∈ lw_tbl ∧ Cond.selects (am_q e.2.2.2).1 q.2.1 q.2.1 ∈ lw_tbl) (27, 159, 6, 12) := ⟨qX12_sums, tb_X12_sums, by decide, rfl, mo_X12_sums, by decide, am_in9 1123 (by decide +kernel), mi_X12_sums, ms_X12_sums⟩
theorem lk_iv_15_6 : (fun e : Nat × Nat × Nat × Nat => ∃ q, am_tb e.2.1 = some q ∧ e.2.2.2 < 13 ∧ q.2.1.cls = (am_q e.2.2.2).1 ∧ am_okm q (e.2.2.1 - 1) ∧ 1 ≤ e.2.2.1 ∧ Cond.methodLink (am_own 15) e.1 q.2.1 ∈ lw_tbl ∧ Cond.instanceMethod q.2.1 ∈ lw_tbl ∧ Cond.selects (am_q e.2.2.2).1 q.2.1 q.2.1 ∈ lw_tbl) (28, 96, 4, 11) := ⟨qX11_times, tb_X11_times, by decide, rfl, mo_X11_times, by decide, am_in9 519 (by decide +kernel), mi_X11_times, ms_X11_times⟩
theorem lk_iv_15_7 : (fun e : Nat × Nat × Nat × Nat => ∃ q, am_tb e.2.1 = some q ∧ e.2.2.2 < 13 ∧ q.2.1.cls = (am_q e.2.2.2).1 ∧ am_okm q (e.2.2.1 - 1) ∧ 1 ≤ e.2.2.1 ∧ Cond.methodLink (am_own 15) e.1 q.2.1 ∈ lw_tbl ∧ Cond.instanceMethod q.2.1 ∈ lw_tbl ∧ Cond.selects (am_q e.2.2.2).1 q.2.1 q.2.1 ∈ lw_tbl) (31, 160, 4, 12) := ⟨qX12_times, tb_X12_times, by decide, rfl, mo_X12_times, by decide, am_in9 1147 (by decide +kernel), mi_X12_times, ms_X12_times⟩
theorem lk_iv_15_8 : (fun e : Nat × Nat × Nat × Nat => ∃ q, am_tb e.2.1 = some q ∧ e.2.2.2 < 13 ∧ q.2.1.cls = (am_q e.2.2.2).1 ∧ am_okm q (e.2.2.1 - 1) ∧ 1 ≤ e.2.2.1 ∧ Cond.methodLink (am_own 15) e.1 q.2.1 ∈ lw_tbl ∧ Cond.instanceMethod q.2.1 ∈ lw_tbl ∧ Cond.selects (am_q e.2.2.2).1 q.2.1 q.2.1 ∈ lw_tbl) (32, 97, 4, 11) := ⟨qX11_bracket, tb_X11_bracket, by decide, rfl, mo_X11_bracket, by decide, am_in9 560 (by decide +kernel), mi_X11_bracket, ms_X11_bracket⟩
theorem lk_iv_15_9 : (fun e : Nat × Nat × Nat × Nat => ∃ q, am_tb e.2.1 = some q ∧ e.2.2.2 < 13 ∧ q.2.1.cls = (am_q e.2.2.2).1 ∧ am_okm q (e.2.2.1 - 1) ∧ 1 ≤ e.2.2.1 ∧ Cond.methodLink (am_own 15) e.1 q.2.1 ∈ lw_tbl ∧ Cond.instanceMethod q.2.1 ∈ lw_tbl ∧ Cond.selects (am_q e.2.2.2).1 q.2.1 q.2.1 ∈ lw_tbl) (35, 161, 4, 12) := ⟨qX12_bracket, tb_X12_bracket, by decide, rfl, mo_X12_bracket, by decide, am_in9 1175 (by decide +kernel), mi_X12_bracket, ms_X12_bracket⟩
theorem lk_iv_15_10 : (fun e : Nat × Nat × Nat × Nat => ∃ q, am_tb e.2.1 = some q ∧ e.2.2.2 < 13 ∧ q.2.1.cls = (am_q e.2.2.2).1 ∧ am_okm q (e.2.2.1 - 1) ∧ 1 ≤ e.2.2.1 ∧ Cond.methodLink (am_own 15) e.1 q.2.1 ∈ lw_tbl ∧ Cond.instanceMethod q.2.1 ∈ lw_tbl ∧ Cond.selects (am_q e.2.2.2).1 q.2.1 q.2.1 ∈ lw_tbl) (36, 98, 4, 11) := ⟨qX11_power, tb_X11_power, by decide, rfl, mo_X11_power, by decide, am_in9 564 (by decide +kernel), mi_X11_power, ms_X11_power⟩
theorem lk_iv_15_11 : (fun e : Nat × Nat × Nat × Nat => ∃ q, am_tb e.2.1 = some q ∧ e.2.2.2 < 13 ∧ q.2.1.cls = (am_q e.2.2.2).1 ∧ am_okm q (e.2.2.1 - 1) ∧ 1 ≤ e.2.2.1 ∧ Cond.methodLink (am_own 15) e.1 q.2.1 ∈ lw_tbl ∧ Cond.instanceMethod q.2.1 ∈ lw_tbl ∧ Cond.selects (am_q e.2.2.2).1 q.2.1 q.2.1 ∈ lw_tbl) (39, 162, 4, 12) := ⟨qX12_power, tb_X12_power, by decide, rfl, mo_X12_power, by decide, am_in9 1179 (by decide +kernel), mi_X12_power, ms_X12_power⟩
theorem lk_iv_15_12 : (fun e : Nat × Nat × Nat × Nat => ∃ q, am_tb e.2.1 = some q ∧ e.2.2.2 < 13 ∧ q.2.1.cls = (am_q e.2.2.2).1 ∧ am_okm q (e.2.2.1 - 1) ∧ 1 ≤ e.2.2.1 ∧ Cond.methodLink (am_own 15) e.1 q.2.1 ∈ lw_tbl ∧ Cond.instanceMethod q.2.1 ∈ lw_tbl ∧ Cond.selects (am_q e.2.2.2).1 q.2.1 q.2.1 ∈ lw_tbl) (40, 99, 3, 11) := ⟨qX11_reversed, tb_X11_reversed, by decide, rfl, mo_X11_reversed, by decide, am_in9 583 (by decide +kernel), mi_X11_reversed, ms_X11_reversed⟩
theorem lk_iv_15_13 : (fun e : Nat × Nat × Nat × Nat => ∃ q, am_tb e.2.1 = some q ∧ e.2.2.2 < 13 ∧ q.2.1.cls = (am_q e.2.2.2).1 ∧ am_okm q (e.2.2.1 - 1) ∧ 1 ≤ e.2.2.1 ∧ Cond.methodLink (am_own 15) e.1 q.2.1 ∈ lw_tbl ∧ Cond.instanceMethod q.2.1 ∈ lw_tbl ∧ Cond.selects (am_q e.2.2.2).1 q.2.1 q.2.1 ∈ lw_tbl) (44, 163, 3, 12) := ⟨qX12_reversed, tb_X12_reversed, by decide, rfl, mo_X12_reversed, by decide, am_in9 1195 (by decide +kernel), mi_X12_reversed, ms_X12_reversed⟩
theorem lk_iv_15_14 : (fun e : Nat × Nat × Nat × Nat => ∃ q, am_tb e.2.1 = some q ∧ e.2.2.2 < 13 ∧ q.2.1.cls = (am_q e.2.2.2).1 ∧ am_okm q (e.2.2.1 - 1) ∧ 1 ≤ e.2.2.1 ∧ Cond.methodLink (am_own 15) e.1 q.2.1 ∈ lw_tbl ∧ Cond.instanceMethod q.2.1 ∈ lw_tbl ∧ Cond.selects (am_q e.2.2.2).1 q.2.1 q.2.1 ∈ lw_tbl) (45, 100, 3, 11) := ⟨qX11_of, tb_X11_of, by decide, rfl, mo_X11_of, by decide, am_in9 594 (by decide +kernel), mi_X11_of, ms_X11_of⟩
theorem lk_iv_15_15 : (fun e : Nat × Nat × Nat × Nat => ∃ q, am_tb e.2.1 = some q ∧ e.2.2.2 < 13 ∧ q.2.1.cls = (am_q e.2.2.2).1 ∧ am_okm q (e.2.2.1 - 1) ∧ 1 ≤ e.2.2.1 ∧ Cond.methodLink (am_own 15) e.1 q.2.1 ∈ lw_tbl ∧ Cond.instanceMethod q.2.1 ∈ lw_tbl ∧ Cond.selects (am_q e.2.2.2).1 q.2.1 q.2.1 ∈ lw_tbl) (48, 167, 3, 12) := ⟨qX12_of, tb_X12_of, by decide, rfl, mo_X12_of, by decide, am_in9 1199 (by decide +kernel), mi_X12_of, ms_X12_of⟩
theorem lk_iv_15_16 : (fun e : Nat × Nat × Nat × Nat => ∃ q, am_tb e.2.1 = some q ∧ e.2.2.2 < 13 ∧ q.2.1.cls = (am_q e.2.2.2).1 ∧ am_okm q (e.2.2.1 - 1) ∧ 1 ≤ e.2.2.1 ∧ Cond.methodLink (am_own 15) e.1 q.2.1 ∈ lw_tbl ∧ Cond.instanceMethod q.2.1 ∈ lw_tbl ∧ Cond.selects (am_q e.2.2.2).1 q.2.1 q.2.1 ∈ lw_tbl) (49, 101, 2, 11) := ⟨qX11_order, tb_X11_order, by decide, rfl, mo_X11_order, by decide, am_in9 622 (by decide +kernel), mi_X11_order, ms_X11_order⟩
theorem lk_iv_15_17 : (fun e : Nat × Nat × Nat × Nat => ∃ q, am_tb e.2.1 = some q ∧ e.2.2.2 < 13 ∧ q.2.1.cls = (am_q e.2.2.2).1 ∧ am_okm q (e.2.2.1 - 1) ∧ 1 ≤ e.2.2.1 ∧ Cond.methodLink (am_own 15) e.1 q.2.1 ∈ lw_tbl ∧ Cond.instanceMethod q.2.1 ∈ lw_tbl ∧ Cond.selects (am_q e.2.2.2).1 q.2.1 q.2.1 ∈ lw_tbl) (53, 168, 2, 12) := ⟨qX12_order, tb_X12_order, by decide, rfl, mo_X12_order, by decide, am_in9 1223 (by decide +kernel), mi_X12_order, ms_X12_order⟩
theorem lk_iv_15_18 : (fun e : Nat × Nat × Nat × Nat => ∃ q, am_tb e.2.1 = some q ∧ e.2.2.2 < 13 ∧ q.2.1.cls = (am_q e.2.2.2).1 ∧ am_okm q (e.2.2.1 - 1) ∧ 1 ≤ e.2.2.1 ∧ Cond.methodLink (am_own 15) e.1 q.2.1 ∈ lw_tbl ∧ Cond.instanceMethod q.2.1 ∈ lw_tbl ∧ Cond.selects (am_q e.2.2.2).1 q.2.1 q.2.1 ∈ lw_tbl) (54, 102, 4, 11) := ⟨qX11_puts, tb_X11_puts, by decide, rfl, mo_X11_puts, by decide, am_in9 626 (by decide +kernel), mi_X11_puts, ms_X11_puts⟩
theorem lk_iv_15_19 : (fun e : Nat × Nat × Nat × Nat => ∃ q, am_tb e.2.1 = some q ∧ e.2.2.2 < 13 ∧ q.2.1.cls = (am_q e.2.2.2).1 ∧ am_okm q (e.2.2.1 - 1) ∧ 1 ≤ e.2.2.1 ∧ Cond.methodLink (am_own 15) e.1 q.2.1 ∈ lw_tbl ∧ Cond.instanceMethod q.2.1 ∈ lw_tbl ∧ Cond.selects (am_q e.2.2.2).1 q.2.1 q.2.1 ∈ lw_tbl) (57, 171, 4, 12) := ⟨qX12_puts, tb_X12_puts, by decide, rfl, mo_X12_puts, by decide, am_in9 1227 (by decide +kernel), mi_X12_puts, ms_X12_puts⟩
theorem lk_iv_15_20 : (fun e : Nat × Nat × Nat × Nat => ∃ q, am_tb e.2.1 = some q ∧ e.2.2.2 < 13 ∧ q.2.1.cls = (am_q e.2.2.2).1 ∧ am_okm q (e.2.2.1 - 1) ∧ 1 ≤ e.2.2.1 ∧ Cond.methodLink (am_own 15) e.1 q.2.1 ∈ lw_tbl ∧ Cond.instanceMethod q.2.1 ∈ lw_tbl ∧ Cond.selects (am_q e.2.2.2).1 q.2.1 q.2.1 ∈ lw_tbl) (58, 103, 3, 11) := ⟨qX11_rate, tb_X11_rate, by decide, rfl, mo_X11_rate, by decide, am_in9 636 (by decide +kernel), mi_X11_rate, ms_X11_rate⟩
theorem lk_iv_15_21 : (fun e : Nat × Nat × Nat × Nat => ∃ q, am_tb e.2.1 = some q ∧ e.2.2.2 < 13 ∧ q.2.1.cls = (am_q e.2.2.2).1 ∧ am_okm q (e.2.2.1 - 1) ∧ 1 ≤ e.2.2.1 ∧ Cond.methodLink (am_own 15) e.1 q.2.1 ∈ lw_tbl ∧ Cond.instanceMethod q.2.1 ∈ lw_tbl ∧ Cond.selects (am_q e.2.2.2).1 q.2.1 q.2.1 ∈ lw_tbl) (61, 172, 3, 12) := ⟨qX12_rate, tb_X12_rate, by decide, rfl, mo_X12_rate, by decide, am_in9 1237 (by decide +kernel), mi_X12_rate, ms_X12_rate⟩
theorem lk_iv_15_22 : (fun e : Nat × Nat × Nat × Nat => ∃ q, am_tb e.2.1 = some q ∧ e.2.2.2 < 13 ∧ q.2.1.cls = (am_q e.2.2.2).1 ∧ am_okm q (e.2.2.1 - 1) ∧ 1 ≤ e.2.2.1 ∧ Cond.methodLink (am_own 15) e.1 q.2.1 ∈ lw_tbl ∧ Cond.instanceMethod q.2.1 ∈ lw_tbl ∧ Cond.selects (am_q e.2.2.2).1 q.2.1 q.2.1 ∈ lw_tbl) (62, 104, 4, 11) := ⟨qX11_makes, tb_X11_makes, by decide, rfl, mo_X11_makes, by decide, am_in9 640 (by decide +kernel), mi_X11_makes, ms_X11_makes⟩
theorem lk_iv_15_23 : (fun e : Nat × Nat × Nat × Nat => ∃ q, am_tb e.2.1 = some q ∧ e.2.2.2 < 13 ∧ q.2.1.cls = (am_q e.2.2.2).1 ∧ am_okm q (e.2.2.1 - 1) ∧ 1 ≤ e.2.2.1 ∧ Cond.methodLink (am_own 15) e.1 q.2.1 ∈ lw_tbl ∧ Cond.instanceMethod q.2.1 ∈ lw_tbl ∧ Cond.selects (am_q e.2.2.2).1 q.2.1 q.2.1 ∈ lw_tbl) (65, 176, 4, 12) := ⟨qX12_makes, tb_X12_makes, by decide, rfl, mo_X12_makes, by decide, am_in9 1241 (by decide +kernel), mi_X12_makes, ms_X12_makes⟩
theorem lk_iv_15_24 : (fun e : Nat × Nat × Nat × Nat => ∃ q, am_tb e.2.1 = some q ∧ e.2.2.2 < 13 ∧ q.2.1.cls = (am_q e.2.2.2).1 ∧ am_okm q (e.2.2.1 - 1) ∧ 1 ≤ e.2.2.1 ∧ Cond.methodLink (am_own 15) e.1 q.2.1 ∈ lw_tbl ∧ Cond.instanceMethod q.2.1 ∈ lw_tbl ∧ Cond.selects (am_q e.2.2.2).1 q.2.1 q.2.1 ∈ lw_tbl) (66, 105, 3, 11) := ⟨qX11_kernel, tb_X11_kernel, by decide, rfl, mo_X11_kernel, by decide, am_in9 665 (by decide +kernel), mi_X11_kernel, ms_X11_kernel⟩
theorem lk_iv_15_25 : (fun e : Nat × Nat × Nat × Nat => ∃ q, am_tb e.2.1 = some q ∧ e.2.2.2 < 13 ∧ q.2.1.cls = (am_q e.2.2.2).1 ∧ am_okm q (e.2.2.1 - 1) ∧ 1 ≤ e.2.2.1 ∧ Cond.methodLink (am_own 15) e.1 q.2.1 ∈ lw_tbl ∧ Cond.instanceMethod q.2.1 ∈ lw_tbl ∧ Cond.selects (am_q e.2.2.2).1 q.2.1 q.2.1 ∈ lw_tbl) (69, 181, 3, 12) := ⟨qX12_kernel, tb_X12_kernel, by decide, rfl, mo_X12_kernel, by decide, am_in9 1256 (by decide +kernel), mi_X12_kernel, ms_X12_kernel⟩
theorem lk_iv_15_26 : (fun e : Nat × Nat × Nat × Nat => ∃ q, am_tb e.2.1 = some q ∧ e.2.2.2 < 13 ∧ q.2.1.cls = (am_q e.2.2.2).1 ∧ am_okm q (e.2.2.1 - 1) ∧ 1 ≤ e.2.2.1 ∧ Cond.methodLink (am_own 15) e.1 q.2.1 ∈ lw_tbl ∧ Cond.instanceMethod q.2.1 ∈ lw_tbl ∧ Cond.selects (am_q e.2.2.2).1 q.2.1 q.2.1 ∈ lw_tbl) (70, 106, 3, 11) := ⟨qX11_kills, tb_X11_kills, by decide, rfl, mo_X11_kills, by decide, am_in9 685 (by decide +kernel), mi_X11_kills, ms_X11_kills⟩
theorem lk_iv_15_27 : (fun e : Nat × Nat × Nat × Nat => ∃ q, am_tb e.2.1 = some q ∧ e.2.2.2 < 13 ∧ q.2.1.cls = (am_q e.2.2.2).1 ∧ am_okm q (e.2.2.1 - 1) ∧ 1 ≤ e.2.2.1 ∧ Cond.methodLink (am_own 15) e.1 q.2.1 ∈ lw_tbl ∧ Cond.instanceMethod q.2.1 ∈ lw_tbl ∧ Cond.selects (am_q e.2.2.2).1 q.2.1 q.2.1 ∈ lw_tbl) (73, 182, 3, 12) := ⟨qX12_kills, tb_X12_kills, by decide, rfl, mo_X12_kills, by decide, am_in9 1275 (by decide +kernel), mi_X12_kills, ms_X12_kills⟩
theorem lk_iv_15_28 : (fun e : Nat × Nat × Nat × Nat => ∃ q, am_tb e.2.1 = some q ∧ e.2.2.2 < 13 ∧ q.2.1.cls = (am_q e.2.2.2).1 ∧ am_okm q (e.2.2.1 - 1) ∧ 1 ≤ e.2.2.1 ∧ Cond.methodLink (am_own 15) e.1 q.2.1 ∈ lw_tbl ∧ Cond.instanceMethod q.2.1 ∈ lw_tbl ∧ Cond.selects (am_q e.2.2.2).1 q.2.1 q.2.1 ∈ lw_tbl) (74, 107, 4, 11) := ⟨qX11_rest, tb_X11_rest, by decide, rfl, mo_X11_rest, by decide, am_in9 693 (by decide +kernel), mi_X11_rest, ms_X11_rest⟩
theorem lk_iv_15_29 : (fun e : Nat × Nat × Nat × Nat => ∃ q, am_tb e.2.1 = some q ∧ e.2.2.2 < 13 ∧ q.2.1.cls = (am_q e.2.2.2).1 ∧ am_okm q (e.2.2.1 - 1) ∧ 1 ≤ e.2.2.1 ∧ Cond.methodLink (am_own 15) e.1 q.2.1 ∈ lw_tbl ∧ Cond.instanceMethod q.2.1 ∈ lw_tbl ∧ Cond.selects (am_q e.2.2.2).1 q.2.1 q.2.1 ∈ lw_tbl) (77, 188, 4, 12) := ⟨qX12_rest, tb_X12_rest, by decide, rfl, mo_X12_rest, by decide, am_in9 1279 (by decide +kernel), mi_X12_rest, ms_X12_rest⟩
theorem lk_iv_15_30 : (fun e : Nat × Nat × Nat × Nat => ∃ q, am_tb e.2.1 = some q ∧ e.2.2.2 < 13 ∧ q.2.1.cls = (am_q e.2.2.2).1 ∧ am_okm q (e.2.2.1 - 1) ∧ 1 ≤ e.2.2.1 ∧ Cond.methodLink (am_own 15) e.1 q.2.1 ∈ lw_tbl ∧ Cond.instanceMethod q.2.1 ∈ lw_tbl ∧ Cond.selects (am_q e.2.2.2).1 q.2.1 q.2.1 ∈ lw_tbl) (78, 108, 2, 11) := ⟨qX11_basis, tb_X11_basis, by decide, rfl, mo_X11_basis, by decide, am_in9 729 (by decide +kernel), mi_X11_basis, ms_X11_basis⟩
theorem lk_iv_15_31 : (fun e : Nat × Nat × Nat × Nat => ∃ q, am_tb e.2.1 = some q ∧ e.2.2.2 < 13 ∧ q.2.1.cls = (am_q e.2.2.2).1 ∧ am_okm q (e.2.2.1 - 1) ∧ 1 ≤ e.2.2.1 ∧ Cond.methodLink (am_own 15) e.1 q.2.1 ∈ lw_tbl ∧ Cond.instanceMethod q.2.1 ∈ lw_tbl ∧ Cond.selects (am_q e.2.2.2).1 q.2.1 q.2.1 ∈ lw_tbl) (81, 201, 2, 12) := ⟨qX12_basis, tb_X12_basis, by decide, rfl, mo_X12_basis, by decide, am_in9 1302 (by decide +kernel), mi_X12_basis, ms_X12_basis⟩
theorem lk_iv_15_32 : (fun e : Nat × Nat × Nat × Nat => ∃ q, am_tb e.2.1 = some q ∧ e.2.2.2 < 13 ∧ q.2.1.cls = (am_q e.2.2.2).1 ∧ am_okm q (e.2.2.1 - 1) ∧ 1 ≤ e.2.2.1 ∧ Cond.methodLink (am_own 15) e.1 q.2.1 ∈ lw_tbl ∧ Cond.instanceMethod q.2.1 ∈ lw_tbl ∧ Cond.selects (am_q e.2.2.2).1 q.2.1 q.2.1 ∈ lw_tbl) (82, 109, 5, 11) := ⟨qX11_based, tb_X11_based, by decide, rfl, mo_X11_based, by decide, am_in9 823 (by decide +kernel), mi_X11_based, ms_X11_based⟩
theorem lk_iv_15_33 : (fun e : Nat × Nat × Nat × Nat => ∃ q, am_tb e.2.1 = some q ∧ e.2.2.2 < 13 ∧ q.2.1.cls = (am_q e.2.2.2).1 ∧ am_okm q (e.2.2.1 - 1) ∧ 1 ≤ e.2.2.1 ∧ Cond.methodLink (am_own 15) e.1 q.2.1 ∈ lw_tbl ∧ Cond.instanceMethod q.2.1 ∈ lw_tbl ∧ Cond.selects (am_q e.2.2.2).1 q.2.1 q.2.1 ∈ lw_tbl) (85, 202, 5, 12) := ⟨qX12_based, tb_X12_based, by decide, rfl, mo_X12_based, by decide, am_in9 1354 (by decide +kernel), mi_X12_based, ms_X12_based⟩
theorem lk_iv_15_34 : (fun e : Nat × Nat × Nat × Nat => ∃ q, am_tb e.2.1 = some q ∧ e.2.2.2 < 13 ∧ q.2.1.cls = (am_q e.2.2.2).1 ∧ am_okm q (e.2.2.1 - 1) ∧ 1 ≤ e.2.2.1 ∧ Cond.methodLink (am_own 15) e.1 q.2.1 ∈ lw_tbl ∧ Cond.instanceMethod q.2.1 ∈ lw_tbl ∧ Cond.selects (am_q e.2.2.2).1 q.2.1 q.2.1 ∈ lw_tbl) (86, 110, 3, 11) := ⟨qX11_stairs, tb_X11_stairs, by decide, rfl, mo_X11_stairs, by decide, am_in9 827 (by decide +kernel), mi_X11_stairs, ms_X11_stairs⟩
theorem lk_iv_15_35 : (fun e : Nat × Nat × Nat × Nat => ∃ q, am_tb e.2.1 = some q ∧ e.2.2.2 < 13 ∧ q.2.1.cls = (am_q e.2.2.2).1 ∧ am_okm q (e.2.2.1 - 1) ∧ 1 ≤ e.2.2.1 ∧ Cond.methodLink (am_own 15) e.1 q.2.1 ∈ lw_tbl ∧ Cond.instanceMethod q.2.1 ∈ lw_tbl ∧ Cond.selects (am_q e.2.2.2).1 q.2.1 q.2.1 ∈ lw_tbl) (89, 203, 3, 12) := ⟨qX12_stairs, tb_X12_stairs, by decide, rfl, mo_X12_stairs, by decide, am_in9 1358 (by decide +kernel), mi_X12_stairs, ms_X12_stairs⟩
theorem lk_iv_15_36 : (fun e : Nat × Nat × Nat × Nat => ∃ q, am_tb e.2.1 = some q ∧ e.2.2.2 < 13 ∧ q.2.1.cls = (am_q e.2.2.2).1 ∧ am_okm q (e.2.2.1 - 1) ∧ 1 ≤ e.2.2.1 ∧ Cond.methodLink (am_own 15) e.1 q.2.1 ∈ lw_tbl ∧ Cond.instanceMethod q.2.1 ∈ lw_tbl ∧ Cond.selects (am_q e.2.2.2).1 q.2.1 q.2.1 ∈ lw_tbl) (90, 111, 3, 11) := ⟨qX11_within, tb_X11_within, by decide, rfl, mo_X11_within, by decide, am_in9 835 (by decide +kernel), mi_X11_within, ms_X11_within⟩
theorem lk_iv_15_37 : (fun e : Nat × Nat × Nat × Nat => ∃ q, am_tb e.2.1 = some q ∧ e.2.2.2 < 13 ∧ q.2.1.cls = (am_q e.2.2.2).1 ∧ am_okm q (e.2.2.1 - 1) ∧ 1 ≤ e.2.2.1 ∧ Cond.methodLink (am_own 15) e.1 q.2.1 ∈ lw_tbl ∧ Cond.instanceMethod q.2.1 ∈ lw_tbl ∧ Cond.selects (am_q e.2.2.2).1 q.2.1 q.2.1 ∈ lw_tbl) (93, 204, 3, 12) := ⟨qX12_within, tb_X12_within, by decide, rfl, mo_X12_within, by decide, am_in9 1362 (by decide +kernel), mi_X12_within, ms_X12_within⟩
theorem lk_iv_15_38 : (fun e : Nat × Nat × Nat × Nat => ∃ q, am_tb e.2.1 = some q ∧ e.2.2.2 < 13 ∧ q.2.1.cls = (am_q e.2.2.2).1 ∧ am_okm q (e.2.2.1 - 1) ∧ 1 ≤ e.2.2.1 ∧ Cond.methodLink (am_own 15) e.1 q.2.1 ∈ lw_tbl ∧ Cond.instanceMethod q.2.1 ∈ lw_tbl ∧ Cond.selects (am_q e.2.2.2).1 q.2.1 q.2.1 ∈ lw_tbl) (94, 112, 2, 11) := ⟨qX11_type, tb_X11_type, by decide, rfl, mo_X11_type, by decide, am_in9 839 (by decide +kernel), mi_X11_type, ms_X11_type⟩
theorem lk_iv_15_39 : (fun e : Nat × Nat × Nat × Nat => ∃ q, am_tb e.2.1 = some q ∧ e.2.2.2 < 13 ∧ q.2.1.cls = (am_q e.2.2.2).1 ∧ am_okm q (e.2.2.1 - 1) ∧ 1 ≤ e.2.2.1 ∧ Cond.methodLink (am_own 15) e.1 q.2.1 ∈ lw_tbl ∧ Cond.instanceMethod q.2.1 ∈ lw_tbl ∧ Cond.selects (am_q e.2.2.2).1 q.2.1 q.2.1 ∈ lw_tbl) (97, 205, 2, 12) := ⟨qX12_type, tb_X12_type, by decide, rfl, mo_X12_type, by decide, am_in9 1366 (by decide +kernel), mi_X12_type, ms_X12_type⟩
theorem lk_iv_15_40 : (fun e : Nat × Nat × Nat × Nat => ∃ q, am_tb e.2.1 = some q ∧ e.2.2.2 < 13 ∧ q.2.1.cls = (am_q e.2.2.2).1 ∧ am_okm q (e.2.2.1 - 1) ∧ 1 ≤ e.2.2.1 ∧ Cond.methodLink (am_own 15) e.1 q.2.1 ∈ lw_tbl ∧ Cond.instanceMethod q.2.1 ∈ lw_tbl ∧ Cond.selects (am_q e.2.2.2).1 q.2.1 q.2.1 ∈ lw_tbl) (98, 113, 1, 11) := ⟨qX11_clear, tb_X11_clear, by decide, rfl, mo_X11_clear, by decide, am_in9 847 (by decide +kernel), mi_X11_clear, ms_X11_clear⟩
theorem lk_iv_15_41 : (fun e : Nat × Nat × Nat × Nat => ∃ q, am_tb e.2.1 = some q ∧ e.2.2.2 < 13 ∧ q.2.1.cls = (am_q e.2.2.2).1 ∧ am_okm q (e.2.2.1 - 1) ∧ 1 ≤ e.2.2.1 ∧ Cond.methodLink (am_own 15) e.1 q.2.1 ∈ lw_tbl ∧ Cond.instanceMethod q.2.1 ∈ lw_tbl ∧ Cond.selects (am_q e.2.2.2).1 q.2.1 q.2.1 ∈ lw_tbl) (102, 206, 1, 12) := ⟨qX12_clear, tb_X12_clear, by decide, rfl, mo_X12_clear, by decide, am_in9 1370 (by decide +kernel), mi_X12_clear, ms_X12_clear⟩
theorem lk_iv_15_42 : (fun e : Nat × Nat × Nat × Nat => ∃ q, am_tb e.2.1 = some q ∧ e.2.2.2 < 13 ∧ q.2.1.cls = (am_q e.2.2.2).1 ∧ am_okm q (e.2.2.1 - 1) ∧ 1 ≤ e.2.2.1 ∧ Cond.methodLink (am_own 15) e.1 q.2.1 ∈ lw_tbl ∧ Cond.instanceMethod q.2.1 ∈ lw_tbl ∧ Cond.selects (am_q e.2.2.2).1 q.2.1 q.2.1 ∈ lw_tbl) (103, 114, 2, 11) := ⟨qX11_reads, tb_X11_reads, by decide, rfl, mo_X11_reads, by decide, am_in9 851 (by decide +kernel), mi_X11_reads, ms_X11_reads⟩
theorem lk_iv_15_43 : (fun e : Nat × Nat × Nat × Nat => ∃ q, am_tb e.2.1 = some q ∧ e.2.2.2 < 13 ∧ q.2.1.cls = (am_q e.2.2.2).1 ∧ am_okm q (e.2.2.1 - 1) ∧ 1 ≤ e.2.2.1 ∧ Cond.methodLink (am_own 15) e.1 q.2.1 ∈ lw_tbl ∧ Cond.instanceMethod q.2.1 ∈ lw_tbl ∧ Cond.selects (am_q e.2.2.2).1 q.2.1 q.2.1 ∈ lw_tbl) (106, 219, 2, 12) := ⟨qX12_reads, tb_X12_reads, by decide, rfl, mo_X12_reads, by decide, am_in9 1374 (by decide +kernel), mi_X12_reads, ms_X12_reads⟩
theorem lk_iv_15_44 : (fun e : Nat × Nat × Nat × Nat => ∃ q, am_tb e.2.1 = some q ∧ e.2.2.2 < 13 ∧ q.2.1.cls = (am_q e.2.2.2).1 ∧ am_okm q (e.2.2.1 - 1) ∧ 1 ≤ e.2.2.1 ∧ Cond.methodLink (am_own 15) e.1 q.2.1 ∈ lw_tbl ∧ Cond.instanceMethod q.2.1 ∈ lw_tbl ∧ Cond.selects (am_q e.2.2.2).1 q.2.1 q.2.1 ∈ lw_tbl) (107, 115, 3, 11) := ⟨qX11_shown, tb_X11_shown, by decide, rfl, mo_X11_shown, by decide, am_in9 927 (by decide +kernel), mi_X11_shown, ms_X11_shown⟩
theorem lk_iv_15_45 : (fun e : Nat × Nat × Nat × Nat => ∃ q, am_tb e.2.1 = some q ∧ e.2.2.2 < 13 ∧ q.2.1.cls = (am_q e.2.2.2).1 ∧ am_okm q (e.2.2.1 - 1) ∧ 1 ≤ e.2.2.1 ∧ Cond.methodLink (am_own 15) e.1 q.2.1 ∈ lw_tbl ∧ Cond.instanceMethod q.2.1 ∈ lw_tbl ∧ Cond.selects (am_q e.2.2.2).1 q.2.1 q.2.1 ∈ lw_tbl) (110, 225, 3, 12) := ⟨qX12_shown, tb_X12_shown, by decide, rfl, mo_X12_shown, by decide, am_in9 1426 (by decide +kernel), mi_X12_shown, ms_X12_shown⟩
theorem lk_iv_15_46 : (fun e : Nat × Nat × Nat × Nat => ∃ q, am_tb e.2.1 = some q ∧ e.2.2.2 < 13 ∧ q.2.1.cls = (am_q e.2.2.2).1 ∧ am_okm q (e.2.2.1 - 1) ∧ 1 ≤ e.2.2.1 ∧ Cond.methodLink (am_own 15) e.1 q.2.1 ∈ lw_tbl ∧ Cond.instanceMethod q.2.1 ∈ lw_tbl ∧ Cond.selects (am_q e.2.2.2).1 q.2.1 q.2.1 ∈ lw_tbl) (111, 116, 1, 11) := ⟨qX11_back, tb_X11_back, by decide, rfl, mo_X11_back, by decide, am_in9 959 (by decide +kernel), mi_X11_back, ms_X11_back⟩
theorem lk_iv_15_47 : (fun e : Nat × Nat × Nat × Nat => ∃ q, am_tb e.2.1 = some q ∧ e.2.2.2 < 13 ∧ q.2.1.cls = (am_q e.2.2.2).1 ∧ am_okm q (e.2.2.1 - 1) ∧ 1 ≤ e.2.2.1 ∧ Cond.methodLink (am_own 15) e.1 q.2.1 ∈ lw_tbl ∧ Cond.instanceMethod q.2.1 ∈ lw_tbl ∧ Cond.selects (am_q e.2.2.2).1 q.2.1 q.2.1 ∈ lw_tbl) (114, 139, 1, 12) := ⟨qX12_back, tb_X12_back, by decide, rfl, mo_X12_back, by decide, am_in9 1084 (by decide +kernel), mi_X12_back, ms_X12_back⟩
theorem lk_iv_15_48 : (fun e : Nat × Nat × Nat × Nat => ∃ q, am_tb e.2.1 = some q ∧ e.2.2.2 < 13 ∧ q.2.1.cls = (am_q e.2.2.2).1 ∧ am_okm q (e.2.2.1 - 1) ∧ 1 ≤ e.2.2.1 ∧ Cond.methodLink (am_own 15) e.1 q.2.1 ∈ lw_tbl ∧ Cond.instanceMethod q.2.1 ∈ lw_tbl ∧ Cond.selects (am_q e.2.2.2).1 q.2.1 q.2.1 ∈ lw_tbl) (115, 117, 2, 11) := ⟨qX11_told, tb_X11_told, by decide, rfl, mo_X11_told, by decide, am_in9 967 (by decide +kernel), mi_X11_told, ms_X11_told⟩
theorem lk_iv_15_49 : (fun e : Nat × Nat × Nat × Nat => ∃ q, am_tb e.2.1 = some q ∧ e.2.2.2 < 13 ∧ q.2.1.cls = (am_q e.2.2.2).1 ∧ am_okm q (e.2.2.1 - 1) ∧ 1 ≤ e.2.2.1 ∧ Cond.methodLink (am_own 15) e.1 q.2.1 ∈ lw_tbl ∧ Cond.instanceMethod q.2.1 ∈ lw_tbl ∧ Cond.selects (am_q e.2.2.2).1 q.2.1 q.2.1 ∈ lw_tbl) (118, 227, 2, 12) := ⟨qX12_told, tb_X12_told, by decide, rfl, mo_X12_told, by decide, am_in9 1450 (by decide +kernel), mi_X12_told, ms_X12_told⟩
theorem lk_iv_15_50 : (fun e : Nat × Nat × Nat × Nat => ∃ q, am_tb e.2.1 = some q ∧ e.2.2.2 < 13 ∧ q.2.1.cls = (am_q e.2.2.2).1 ∧ am_okm q (e.2.2.1 - 1) ∧ 1 ≤ e.2.2.1 ∧ Cond.methodLink (am_own 15) e.1 q.2.1 ∈ lw_tbl ∧ Cond.instanceMethod q.2.1 ∈ lw_tbl ∧ Cond.selects (am_q e.2.2.2).1 q.2.1 q.2.1 ∈ lw_tbl) (119, 118, 1, 11) := ⟨qX11_digest, tb_X11_digest, by decide, rfl, mo_X11_digest, by decide, am_in9 971 (by decide +kernel), mi_X11_digest, ms_X11_digest⟩
theorem lk_iv_15_51 : (fun e : Nat × Nat × Nat × Nat => ∃ q, am_tb e.2.1 = some q ∧ e.2.2.2 < 13 ∧ q.2.1.cls = (am_q e.2.2.2).1 ∧ am_okm q (e.2.2.1 - 1) ∧ 1 ≤ e.2.2.1 ∧ Cond.methodLink (am_own 15) e.1 q.2.1 ∈ lw_tbl ∧ Cond.instanceMethod q.2.1 ∈ lw_tbl ∧ Cond.selects (am_q e.2.2.2).1 q.2.1 q.2.1 ∈ lw_tbl) (123, 229, 1, 12) := ⟨qX12_digest, tb_X12_digest, by decide, rfl, mo_X12_digest, by decide, am_in9 1458 (by decide +kernel), mi_X12_digest, ms_X12_digest⟩
theorem lk_iv_15 : ∀ e ∈ lk_iv 15, ∃ q, am_tb e.2.1 = some q ∧ e.2.2.2 < 13 ∧ q.2.1.cls = (am_q e.2.2.2).1 ∧ am_okm q (e.2.2.1 - 1) ∧ 1 ≤ e.2.2.1 ∧ Cond.methodLink (am_own 15) e.1 q.2.1 ∈ lw_tbl ∧ Cond.instanceMethod q.2.1 ∈ lw_tbl ∧ Cond.selects (am_q e.2.2.2).1 q.2.1 q.2.1 ∈ lw_tbl := List.forall_mem_cons.mpr ⟨lk_iv_15_0, List.forall_mem_cons.mpr ⟨lk_iv_15_1, List.forall_mem_cons.mpr ⟨lk_iv_15_2, List.forall_mem_cons.mpr ⟨lk_iv_15_3, List.forall_mem_cons.mpr ⟨lk_iv_15_4, List.forall_mem_cons.mpr ⟨lk_iv_15_5, List.forall_mem_cons.mpr ⟨lk_iv_15_6, List.forall_mem_cons.mpr ⟨lk_iv_15_7, List.forall_mem_cons.mpr ⟨lk_iv_15_8, List.forall_mem_cons.mpr ⟨lk_iv_15_9, List.forall_mem_cons.mpr ⟨lk_iv_15_10, List.forall_mem_cons.mpr ⟨lk_iv_15_11, List.forall_mem_cons.mpr ⟨lk_iv_15_12, List.forall_mem_cons.mpr ⟨lk_iv_15_13, List.forall_mem_cons.mpr ⟨lk_iv_15_14, List.forall_mem_cons.mpr ⟨lk_iv_15_15, List.forall_mem_cons.mpr ⟨lk_iv_15_16, List.forall_mem_cons.mpr ⟨lk_iv_15_17, List.forall_mem_cons.mpr ⟨lk_iv_15_18, List.forall_mem_cons.mpr ⟨lk_iv_15_19, List.forall_mem_cons.mpr ⟨lk_iv_15_20, List.forall_mem_cons.mpr ⟨lk_iv_15_21, List.forall_mem_cons.mpr ⟨lk_iv_15_22, List.forall_mem_cons.mpr ⟨lk_iv_15_23, List.forall_mem_cons.mpr ⟨lk_iv_15_24, List.forall_mem_cons.mpr ⟨lk_iv_15_25, List.forall_mem_cons.mpr ⟨lk_iv_15_26, List.forall_mem_cons.mpr ⟨lk_iv_15_27, List.forall_mem_cons.mpr ⟨lk_iv_15_28, List.forall_mem_cons.mpr ⟨lk_iv_15_29, List.forall_mem_cons.mpr ⟨lk_iv_15_30, List.forall_mem_cons.mpr ⟨lk_iv_15_31, List.forall_mem_cons.mpr ⟨lk_iv_15_32, List.forall_mem_cons.mpr ⟨lk_iv_15_33, List.forall_mem_cons.mpr ⟨lk_iv_15_34, List.forall_mem_cons.mpr ⟨lk_iv_15_35, List.forall_mem_cons.mpr ⟨lk_iv_15_36, List.forall_mem_cons.mpr ⟨lk_iv_15_37, List.forall_mem_cons.mpr ⟨lk_iv_15_38, List.forall_mem_cons.mpr ⟨lk_iv_15_39, List.forall_mem_cons.mpr ⟨lk_iv_15_40, List.forall_mem_cons.mpr ⟨lk_iv_15_41, List.forall_mem_cons.mpr ⟨lk_iv_15_42, List.forall_mem_cons.mpr ⟨lk_iv_15_43, List.forall_mem_cons.mpr ⟨lk_iv_15_44, List.forall_mem_cons.mpr ⟨lk_iv_15_45, List.forall_mem_cons.mpr ⟨lk_iv_15_46, List.forall_mem_cons.mpr ⟨lk_iv_15_47, List.forall_mem_cons.mpr ⟨lk_iv_15_48, List.forall_mem_cons.mpr ⟨lk_iv_15_49, List.forall_mem_cons.mpr ⟨lk_iv_15_50, List.forall_mem_cons.mpr ⟨lk_iv_15_51, fun _ h => absurd h List.not_mem_nil⟩⟩⟩⟩⟩⟩⟩⟩⟩⟩⟩⟩⟩⟩⟩⟩⟩⟩⟩⟩⟩⟩⟩⟩⟩⟩⟩⟩⟩⟩⟩⟩⟩⟩⟩⟩⟩⟩⟩⟩⟩⟩⟩⟩⟩⟩⟩⟩⟩⟩⟩⟩
theorem lk_iv_ok : ∀ o, ∀ e ∈ lk_iv o, ∃ q, am_tb e.2.1 = some q ∧ e.2.2.2 < 13 ∧ q.2.1.cls = (am_q e.2.2.2).1 ∧ am_okm q (e.2.2.1 - 1) ∧ 1 ≤ e.2.2.1 ∧ Cond.methodLink (am_own o) e.1 q.2.1 ∈ lw_tbl ∧ Cond.instanceMethod q.2.1 ∈ lw_tbl ∧ Cond.selects (am_q e.2.2.2).1 q.2.1 q.2.1 ∈ lw_tbl := by
  intro o e he
  unfold lk_iv at he
  split at he
  · exact lk_iv_0 e he
  · exact lk_iv_1 e he
  · exact lk_iv_2 e he
  · exact lk_iv_3 e he
  · exact lk_iv_4 e he
  · exact lk_iv_5 e he
  · exact lk_iv_6 e he
  · exact lk_iv_7 e he
  · exact lk_iv_8 e he
  · exact lk_iv_9 e he
  · exact lk_iv_10 e he
  · exact lk_iv_11 e he
  · exact lk_iv_12 e he
  · exact lk_iv_15 e he
  · cases he
def lk_is (o : Nat) : List (Nat × Nat × Nat) := match o with
  | 1 => [(21, 44, 1)]
  | 2 => [(34, 44, 1)]
  | 3 => [(55, 18, 1), (56, 44, 1)]
  | 5 => [(24, 73, 1)]
  | 7 => [(20, 44, 1)]
  | 8 => [(26, 44, 1)]
  | 11 => [(9, 73, 1), (18, 41, 1), (25, 75, 1), (32, 8, 1), (39, 36, 2), (48, 24, 3), (57, 0, 2), (64, 66, 3), (73, 86, 1), (80, 44, 1)]
  | 15 => [(9, 92, 1), (12, 130, 1)]
  | _ => []
theorem lk_is_1_0 : (fun e : Nat × Nat × Nat => e.2.1 ≠ 998 ∧ ∃ q, am_tb e.2.1 = some q ∧ am_okm q (e.2.2 - 1) ∧ 1 ≤ e.2.2 ∧ am_lk (am_own 1) e.1 q.2.1 ∧ Cond.instanceMethod q.2.1 ∈ lw_tbl ∧ q.2.1.name = "<init>" ∧ q.2.2.2.2.1 = none) (21, 44, 1) := ⟨by decide, qX6_init, tb_X6_init, mo_X6_init, by decide, Or.inr ⟨"WeylWords", am_in9 213 (by decide +kernel)⟩, mi_X6_init, rfl, rfl⟩
theorem lk_is_1 : ∀ e ∈ lk_is 1, e.2.1 ≠ 998 ∧ ∃ q, am_tb e.2.1 = some q ∧ am_okm q (e.2.2 - 1) ∧ 1 ≤ e.2.2 ∧ am_lk (am_own 1) e.1 q.2.1 ∧ Cond.instanceMethod q.2.1 ∈ lw_tbl ∧ q.2.1.name = "<init>" ∧ q.2.2.2.2.1 = none := List.forall_mem_cons.mpr ⟨lk_is_1_0, fun _ h => absurd h List.not_mem_nil⟩
theorem lk_is_2_0 : (fun e : Nat × Nat × Nat => e.2.1 ≠ 998 ∧ ∃ q, am_tb e.2.1 = some q ∧ am_okm q (e.2.2 - 1) ∧ 1 ≤ e.2.2 ∧ am_lk (am_own 2) e.1 q.2.1 ∧ Cond.instanceMethod q.2.1 ∈ lw_tbl ∧ q.2.1.name = "<init>" ∧ q.2.2.2.2.1 = none) (34, 44, 1) := ⟨by decide, qX6_init, tb_X6_init, mo_X6_init, by decide, Or.inr ⟨"WeylWords", am_in9 275 (by decide +kernel)⟩, mi_X6_init, rfl, rfl⟩
theorem lk_is_2 : ∀ e ∈ lk_is 2, e.2.1 ≠ 998 ∧ ∃ q, am_tb e.2.1 = some q ∧ am_okm q (e.2.2 - 1) ∧ 1 ≤ e.2.2 ∧ am_lk (am_own 2) e.1 q.2.1 ∧ Cond.instanceMethod q.2.1 ∈ lw_tbl ∧ q.2.1.name = "<init>" ∧ q.2.2.2.2.1 = none := List.forall_mem_cons.mpr ⟨lk_is_2_0, fun _ h => absurd h List.not_mem_nil⟩
theorem lk_is_3_0 : (fun e : Nat × Nat × Nat => e.2.1 ≠ 998 ∧ ∃ q, am_tb e.2.1 = some q ∧ am_okm q (e.2.2 - 1) ∧ 1 ≤ e.2.2 ∧ am_lk (am_own 3) e.1 q.2.1 ∧ Cond.instanceMethod q.2.1 ∈ lw_tbl ∧ q.2.1.name = "<init>" ∧ q.2.2.2.2.1 = none) (55, 18, 1) := ⟨by decide, qX2_init, tb_X2_init, mo_X2_init, by decide, Or.inl (am_in9 270 (by decide +kernel)), mi_X2_init, rfl, rfl⟩
theorem lk_is_3_1 : (fun e : Nat × Nat × Nat => e.2.1 ≠ 998 ∧ ∃ q, am_tb e.2.1 = some q ∧ am_okm q (e.2.2 - 1) ∧ 1 ≤ e.2.2 ∧ am_lk (am_own 3) e.1 q.2.1 ∧ Cond.instanceMethod q.2.1 ∈ lw_tbl ∧ q.2.1.name = "<init>" ∧ q.2.2.2.2.1 = none) (56, 44, 1) := ⟨by decide, qX6_init, tb_X6_init, mo_X6_init, by decide, Or.inr ⟨"WeylWords", am_in9 298 (by decide +kernel)⟩, mi_X6_init, rfl, rfl⟩
theorem lk_is_3 : ∀ e ∈ lk_is 3, e.2.1 ≠ 998 ∧ ∃ q, am_tb e.2.1 = some q ∧ am_okm q (e.2.2 - 1) ∧ 1 ≤ e.2.2 ∧ am_lk (am_own 3) e.1 q.2.1 ∧ Cond.instanceMethod q.2.1 ∈ lw_tbl ∧ q.2.1.name = "<init>" ∧ q.2.2.2.2.1 = none := List.forall_mem_cons.mpr ⟨lk_is_3_0, List.forall_mem_cons.mpr ⟨lk_is_3_1, fun _ h => absurd h List.not_mem_nil⟩⟩
theorem lk_is_5_0 : (fun e : Nat × Nat × Nat => e.2.1 ≠ 998 ∧ ∃ q, am_tb e.2.1 = some q ∧ am_okm q (e.2.2 - 1) ∧ 1 ≤ e.2.2 ∧ am_lk (am_own 5) e.1 q.2.1 ∧ Cond.instanceMethod q.2.1 ∈ lw_tbl ∧ q.2.1.name = "<init>" ∧ q.2.2.2.2.1 = none) (24, 73, 1) := ⟨by decide, qX8_init, tb_X8_init, mo_X8_init, by decide, Or.inl (am_in9 172 (by decide +kernel)), mi_X8_init, rfl, rfl⟩
theorem lk_is_5 : ∀ e ∈ lk_is 5, e.2.1 ≠ 998 ∧ ∃ q, am_tb e.2.1 = some q ∧ am_okm q (e.2.2 - 1) ∧ 1 ≤ e.2.2 ∧ am_lk (am_own 5) e.1 q.2.1 ∧ Cond.instanceMethod q.2.1 ∈ lw_tbl ∧ q.2.1.name = "<init>" ∧ q.2.2.2.2.1 = none := List.forall_mem_cons.mpr ⟨lk_is_5_0, fun _ h => absurd h List.not_mem_nil⟩
theorem lk_is_7_0 : (fun e : Nat × Nat × Nat => e.2.1 ≠ 998 ∧ ∃ q, am_tb e.2.1 = some q ∧ am_okm q (e.2.2 - 1) ∧ 1 ≤ e.2.2 ∧ am_lk (am_own 7) e.1 q.2.1 ∧ Cond.instanceMethod q.2.1 ∈ lw_tbl ∧ q.2.1.name = "<init>" ∧ q.2.2.2.2.1 = none) (20, 44, 1) := ⟨by decide, qX6_init, tb_X6_init, mo_X6_init, by decide, Or.inr ⟨"WeylWords", am_in9 358 (by decide +kernel)⟩, mi_X6_init, rfl, rfl⟩
theorem lk_is_7 : ∀ e ∈ lk_is 7, e.2.1 ≠ 998 ∧ ∃ q, am_tb e.2.1 = some q ∧ am_okm q (e.2.2 - 1) ∧ 1 ≤ e.2.2 ∧ am_lk (am_own 7) e.1 q.2.1 ∧ Cond.instanceMethod q.2.1 ∈ lw_tbl ∧ q.2.1.name = "<init>" ∧ q.2.2.2.2.1 = none := List.forall_mem_cons.mpr ⟨lk_is_7_0, fun _ h => absurd h List.not_mem_nil⟩
theorem lk_is_8_0 : (fun e : Nat × Nat × Nat => e.2.1 ≠ 998 ∧ ∃ q, am_tb e.2.1 = some q ∧ am_okm q (e.2.2 - 1) ∧ 1 ≤ e.2.2 ∧ am_lk (am_own 8) e.1 q.2.1 ∧ Cond.instanceMethod q.2.1 ∈ lw_tbl ∧ q.2.1.name = "<init>" ∧ q.2.2.2.2.1 = none) (26, 44, 1) := ⟨by decide, qX6_init, tb_X6_init, mo_X6_init, by decide, Or.inr ⟨"WeylWords", am_in9 131 (by decide +kernel)⟩, mi_X6_init, rfl, rfl⟩
theorem lk_is_8 : ∀ e ∈ lk_is 8, e.2.1 ≠ 998 ∧ ∃ q, am_tb e.2.1 = some q ∧ am_okm q (e.2.2 - 1) ∧ 1 ≤ e.2.2 ∧ am_lk (am_own 8) e.1 q.2.1 ∧ Cond.instanceMethod q.2.1 ∈ lw_tbl ∧ q.2.1.name = "<init>" ∧ q.2.2.2.2.1 = none := List.forall_mem_cons.mpr ⟨lk_is_8_0, fun _ h => absurd h List.not_mem_nil⟩
theorem lk_is_11_0 : (fun e : Nat × Nat × Nat => e.2.1 ≠ 998 ∧ ∃ q, am_tb e.2.1 = some q ∧ am_okm q (e.2.2 - 1) ∧ 1 ≤ e.2.2 ∧ am_lk (am_own 11) e.1 q.2.1 ∧ Cond.instanceMethod q.2.1 ∈ lw_tbl ∧ q.2.1.name = "<init>" ∧ q.2.2.2.2.1 = none) (9, 73, 1) := ⟨by decide, qX8_init, tb_X8_init, mo_X8_init, by decide, Or.inl (am_in9 122 (by decide +kernel)), mi_X8_init, rfl, rfl⟩
theorem lk_is_11_1 : (fun e : Nat × Nat × Nat => e.2.1 ≠ 998 ∧ ∃ q, am_tb e.2.1 = some q ∧ am_okm q (e.2.2 - 1) ∧ 1 ≤ e.2.2 ∧ am_lk (am_own 11) e.1 q.2.1 ∧ Cond.instanceMethod q.2.1 ∈ lw_tbl ∧ q.2.1.name = "<init>" ∧ q.2.2.2.2.1 = none) (18, 41, 1) := ⟨by decide, qX5_init, tb_X5_init, mo_X5_init, by decide, Or.inl (am_in9 166 (by decide +kernel)), mi_X5_init, rfl, rfl⟩
theorem lk_is_11_2 : (fun e : Nat × Nat × Nat => e.2.1 ≠ 998 ∧ ∃ q, am_tb e.2.1 = some q ∧ am_okm q (e.2.2 - 1) ∧ 1 ≤ e.2.2 ∧ am_lk (am_own 11) e.1 q.2.1 ∧ Cond.instanceMethod q.2.1 ∈ lw_tbl ∧ q.2.1.name = "<init>" ∧ q.2.2.2.2.1 = none) (25, 75, 1) := ⟨by decide, qX9_init, tb_X9_init, mo_X9_init, by decide, Or.inr ⟨"WeylWords", am_in9 186 (by decide +kernel)⟩, mi_X9_init, rfl, rfl⟩
theorem lk_is_11_3 : (fun e : Nat × Nat × Nat => e.2.1 ≠ 998 ∧ ∃ q, am_tb e.2.1 = some q ∧ am_okm q (e.2.2 - 1) ∧ 1 ≤ e.2.2 ∧ am_lk (am_own 11) e.1 q.2.1 ∧ Cond.instanceMethod q.2.1 ∈ lw_tbl ∧ q.2.1.name = "<init>" ∧ q.2.2.2.2.1 = none) (32, 8, 1) := ⟨by decide, qX1_init, tb_X1_init, mo_X1_init, by decide, Or.inl (am_in9 207 (by decide +kernel)), mi_X1_init, rfl, rfl⟩
theorem lk_is_11_4 : (fun e : Nat × Nat × Nat => e.2.1 ≠ 998 ∧ ∃ q, am_tb e.2.1 = some q ∧ am_okm q (e.2.2 - 1) ∧ 1 ≤ e.2.2 ∧ am_lk (am_own 11) e.1 q.2.1 ∧ Cond.instanceMethod q.2.1 ∈ lw_tbl ∧ q.2.1.name = "<init>" ∧ q.2.2.2.2.1 = none) (39, 36, 2) := ⟨by decide, qX4_init, tb_X4_init, mo_X4_init, by decide, Or.inl (am_in9 230 (by decide +kernel)), mi_X4_init, rfl, rfl⟩
theorem lk_is_11_5 : (fun e : Nat × Nat × Nat => e.2.1 ≠ 998 ∧ ∃ q, am_tb e.2.1 = some q ∧ am_okm q (e.2.2 - 1) ∧ 1 ≤ e.2.2 ∧ am_lk (am_own 11) e.1 q.2.1 ∧ Cond.instanceMethod q.2.1 ∈ lw_tbl ∧ q.2.1.name = "<init>" ∧ q.2.2.2.2.1 = none) (48, 24, 3) := ⟨by decide, qX3_init, tb_X3_init, mo_X3_init, by decide, Or.inl (am_in9 262 (by decide +kernel)), mi_X3_init, rfl, rfl⟩
theorem lk_is_11_6 : (fun e : Nat × Nat × Nat => e.2.1 ≠ 998 ∧ ∃ q, am_tb e.2.1 = some q ∧ am_okm q (e.2.2 - 1) ∧ 1 ≤ e.2.2 ∧ am_lk (am_own 11) e.1 q.2.1 ∧ Cond.instanceMethod q.2.1 ∈ lw_tbl ∧ q.2.1.name = "<init>" ∧ q.2.2.2.2.1 = none) (57, 0, 2) := ⟨by decide, qX0_init, tb_X0_init, mo_X0_init, by decide, Or.inl (am_in9 335 (by decide +kernel)), mi_X0_init, rfl, rfl⟩
theorem lk_is_11_7 : (fun e : Nat × Nat × Nat => e.2.1 ≠ 998 ∧ ∃ q, am_tb e.2.1 = some q ∧ am_okm q (e.2.2 - 1) ∧ 1 ≤ e.2.2 ∧ am_lk (am_own 11) e.1 q.2.1 ∧ Cond.instanceMethod q.2.1 ∈ lw_tbl ∧ q.2.1.name = "<init>" ∧ q.2.2.2.2.1 = none) (64, 66, 3) := ⟨by decide, qX7_init, tb_X7_init, mo_X7_init, by decide, Or.inl (am_in9 353 (by decide +kernel)), mi_X7_init, rfl, rfl⟩
theorem lk_is_11_8 : (fun e : Nat × Nat × Nat => e.2.1 ≠ 998 ∧ ∃ q, am_tb e.2.1 = some q ∧ am_okm q (e.2.2 - 1) ∧ 1 ≤ e.2.2 ∧ am_lk (am_own 11) e.1 q.2.1 ∧ Cond.instanceMethod q.2.1 ∈ lw_tbl ∧ q.2.1.name = "<init>" ∧ q.2.2.2.2.1 = none) (73, 86, 1) := ⟨by decide, qX10_init, tb_X10_init, mo_X10_init, by decide, Or.inr ⟨"WeylWords", am_in9 383 (by decide +kernel)⟩, mi_X10_init, rfl, rfl⟩
theorem lk_is_11_9 : (fun e : Nat × Nat × Nat => e.2.1 ≠ 998 ∧ ∃ q, am_tb e.2.1 = some q ∧ am_okm q (e.2.2 - 1) ∧ 1 ≤ e.2.2 ∧ am_lk (am_own 11) e.1 q.2.1 ∧ Cond.instanceMethod q.2.1 ∈ lw_tbl ∧ q.2.1.name = "<init>" ∧ q.2.2.2.2.1 = none) (80, 44, 1) := ⟨by decide, qX6_init, tb_X6_init, mo_X6_init, by decide, Or.inr ⟨"WeylWords", am_in9 395 (by decide +kernel)⟩, mi_X6_init, rfl, rfl⟩
theorem lk_is_11 : ∀ e ∈ lk_is 11, e.2.1 ≠ 998 ∧ ∃ q, am_tb e.2.1 = some q ∧ am_okm q (e.2.2 - 1) ∧ 1 ≤ e.2.2 ∧ am_lk (am_own 11) e.1 q.2.1 ∧ Cond.instanceMethod q.2.1 ∈ lw_tbl ∧ q.2.1.name = "<init>" ∧ q.2.2.2.2.1 = none := List.forall_mem_cons.mpr ⟨lk_is_11_0, List.forall_mem_cons.mpr ⟨lk_is_11_1, List.forall_mem_cons.mpr ⟨lk_is_11_2, List.forall_mem_cons.mpr ⟨lk_is_11_3, List.forall_mem_cons.mpr ⟨lk_is_11_4, List.forall_mem_cons.mpr ⟨lk_is_11_5, List.forall_mem_cons.mpr ⟨lk_is_11_6, List.forall_mem_cons.mpr ⟨lk_is_11_7, List.forall_mem_cons.mpr ⟨lk_is_11_8, List.forall_mem_cons.mpr ⟨lk_is_11_9, fun _ h => absurd h List.not_mem_nil⟩⟩⟩⟩⟩⟩⟩⟩⟩⟩
theorem lk_is_15_0 : (fun e : Nat × Nat × Nat => e.2.1 ≠ 998 ∧ ∃ q, am_tb e.2.1 = some q ∧ am_okm q (e.2.2 - 1) ∧ 1 ≤ e.2.2 ∧ am_lk (am_own 15) e.1 q.2.1 ∧ Cond.instanceMethod q.2.1 ∈ lw_tbl ∧ q.2.1.name = "<init>" ∧ q.2.2.2.2.1 = none) (9, 92, 1) := ⟨by decide, qX11_init, tb_X11_init, mo_X11_init, by decide, Or.inl (am_in9 114 (by decide +kernel)), mi_X11_init, rfl, rfl⟩
theorem lk_is_15_1 : (fun e : Nat × Nat × Nat => e.2.1 ≠ 998 ∧ ∃ q, am_tb e.2.1 = some q ∧ am_okm q (e.2.2 - 1) ∧ 1 ≤ e.2.2 ∧ am_lk (am_own 15) e.1 q.2.1 ∧ Cond.instanceMethod q.2.1 ∈ lw_tbl ∧ q.2.1.name = "<init>" ∧ q.2.2.2.2.1 = none) (12, 130, 1) := ⟨by decide, qX12_init, tb_X12_init, mo_X12_init, by decide, Or.inl (am_in9 983 (by decide +kernel)), mi_X12_init, rfl, rfl⟩
theorem lk_is_15 : ∀ e ∈ lk_is 15, e.2.1 ≠ 998 ∧ ∃ q, am_tb e.2.1 = some q ∧ am_okm q (e.2.2 - 1) ∧ 1 ≤ e.2.2 ∧ am_lk (am_own 15) e.1 q.2.1 ∧ Cond.instanceMethod q.2.1 ∈ lw_tbl ∧ q.2.1.name = "<init>" ∧ q.2.2.2.2.1 = none := List.forall_mem_cons.mpr ⟨lk_is_15_0, List.forall_mem_cons.mpr ⟨lk_is_15_1, fun _ h => absurd h List.not_mem_nil⟩⟩
theorem lk_is_ok : ∀ o, ∀ e ∈ lk_is o, e.2.1 ≠ 998 ∧ ∃ q, am_tb e.2.1 = some q ∧ am_okm q (e.2.2 - 1) ∧ 1 ≤ e.2.2 ∧ am_lk (am_own o) e.1 q.2.1 ∧ Cond.instanceMethod q.2.1 ∈ lw_tbl ∧ q.2.1.name = "<init>" ∧ q.2.2.2.2.1 = none := by
  intro o e he
  unfold lk_is at he
  split at he
  · exact lk_is_1 e he
  · exact lk_is_2 e he
  · exact lk_is_3 e he
  · exact lk_is_5 e he
  · exact lk_is_7 e he
  · exact lk_is_8 e he
  · exact lk_is_11 e he
  · exact lk_is_15 e he
  · cases he
def lk_st (o : Nat) : List (Nat × Nat × Nat) := match o with
  | 0 => [(26, 1, 1), (41, 234, 2), (51, 46, 1), (55, 233, 2), (69, 11, 1)]
  | 1 => [(26, 233, 2), (32, 230, 2), (82, 47, 2)]
  | 2 => [(40, 23, 4), (58, 129, 2)]
  | 3 => [(81, 129, 2), (121, 11, 1), (145, 47, 2), (159, 50, 2)]
  | 4 => [(54, 11, 1), (66, 49, 3), (74, 47, 2)]
  | 5 => [(29, 233, 2)]
  | 6 => [(15, 46, 1), (25, 48, 1), (28, 45, 2), (32, 47, 2), (36, 234, 2), (58, 49, 3), (68, 10, 1), (76, 65, 3), (79, 232, 2)]
  | 7 => [(69, 12, 2), (87, 13, 2)]
  | 10 => [(25, 49, 3), (32, 10, 1), (46, 231, 1)]
  | 11 => [(95, 125, 1), (99, 45, 2), (119, 9, 1), (127, 10, 1), (140, 12, 2), (151, 13, 2), (169, 126, 1), (172, 127, 1), (197, 1, 1), (208, 128, 1), (211, 129, 2), (283, 119, 2)]
  | 12 => [(59, 132, 2), (74, 131, 3), (111, 140, 1), (115, 141, 2), (122, 133, 1), (125, 134, 1), (162, 169, 1), (165, 170, 2), (168, 173, 2), (177, 177, 1), (201, 187, 1)]
  | _ => []
theorem lk_st_0_0 : (fun e : Nat × Nat × Nat => e.2.1 ≠ 999 ∧ ∃ q, am_tb e.2.1 = some q ∧ am_okm q e.2.2 ∧ am_lk (am_own 0) e.1 q.2.1 ∧ Cond.static q.2.1 ∈ lw_tbl) (26, 1, 1) := ⟨by decide, qX0_degree, tb_X0_degree, mo_X0_degree, Or.inl (am_in9 648 (by decide +kernel)), mt_X0_degree⟩
theorem lk_st_0_1 : (fun e : Nat × Nat × Nat => e.2.1 ≠ 999 ∧ ∃ q, am_tb e.2.1 = some q ∧ am_okm q e.2.2 ∧ am_lk (am_own 0) e.1 q.2.1 ∧ Cond.static q.2.1 ∈ lw_tbl) (41, 234, 2) := ⟨by decide, qJ7_fill_53178, tb_J7_fill_53178, mo_J7_fill_53178, Or.inl (am_in9 657 (by decide +kernel)), mt_J7_fill_53178⟩
theorem lk_st_0_2 : (fun e : Nat × Nat × Nat => e.2.1 ≠ 999 ∧ ∃ q, am_tb e.2.1 = some q ∧ am_okm q e.2.2 ∧ am_lk (am_own 0) e.1 q.2.1 ∧ Cond.static q.2.1 ∈ lw_tbl) (51, 46, 1) := ⟨by decide, qX6_firstPlace, tb_X6_firstPlace, mo_X6_firstPlace, Or.inl (am_in9 662 (by decide +kernel)), mt_X6_firstPlace⟩
theorem lk_st_0_3 : (fun e : Nat × Nat × Nat => e.2.1 ≠ 999 ∧ ∃ q, am_tb e.2.1 = some q ∧ am_okm q e.2.2 ∧ am_lk (am_own 0) e.1 q.2.1 ∧ Cond.static q.2.1 ∈ lw_tbl) (55, 233, 2) := ⟨by decide, qJ9_min_7cf53, tb_J9_min_7cf53, mo_J9_min_7cf53, Or.inl (am_in9 673 (by decide +kernel)), mt_J9_min_7cf53⟩
theorem lk_st_0_4 : (fun e : Nat × Nat × Nat => e.2.1 ≠ 999 ∧ ∃ q, am_tb e.2.1 = some q ∧ am_okm q e.2.2 ∧ am_lk (am_own 0) e.1 q.2.1 ∧ Cond.static q.2.1 ∈ lw_tbl) (69, 11, 1) := ⟨by decide, qX1_inverse, tb_X1_inverse, mo_X1_inverse, Or.inl (am_in9 682 (by decide +kernel)), mt_X1_inverse⟩
theorem lk_st_0 : ∀ e ∈ lk_st 0, e.2.1 ≠ 999 ∧ ∃ q, am_tb e.2.1 = some q ∧ am_okm q e.2.2 ∧ am_lk (am_own 0) e.1 q.2.1 ∧ Cond.static q.2.1 ∈ lw_tbl := List.forall_mem_cons.mpr ⟨lk_st_0_0, List.forall_mem_cons.mpr ⟨lk_st_0_1, List.forall_mem_cons.mpr ⟨lk_st_0_2, List.forall_mem_cons.mpr ⟨lk_st_0_3, List.forall_mem_cons.mpr ⟨lk_st_0_4, fun _ h => absurd h List.not_mem_nil⟩⟩⟩⟩⟩
theorem lk_st_1_0 : (fun e : Nat × Nat × Nat => e.2.1 ≠ 999 ∧ ∃ q, am_tb e.2.1 = some q ∧ am_okm q e.2.2 ∧ am_lk (am_own 1) e.1 q.2.1 ∧ Cond.static q.2.1 ∈ lw_tbl) (26, 233, 2) := ⟨by decide, qJ9_min_7cf53, tb_J9_min_7cf53, mo_J9_min_7cf53, Or.inl (am_in9 214 (by decide +kernel)), mt_J9_min_7cf53⟩
theorem lk_st_1_1 : (fun e : Nat × Nat × Nat => e.2.1 ≠ 999 ∧ ∃ q, am_tb e.2.1 = some q ∧ am_okm q e.2.2 ∧ am_lk (am_own 1) e.1 q.2.1 ∧ Cond.static q.2.1 ∈ lw_tbl) (32, 230, 2) := ⟨by decide, qJ9_floorMod_7cf53, tb_J9_floorMod_7cf53, mo_J9_floorMod_7cf53, Or.inl (am_in9 481 (by decide +kernel)), mt_J9_floorMod_7cf53⟩
theorem lk_st_1_2 : (fun e : Nat × Nat × Nat => e.2.1 ≠ 999 ∧ ∃ q, am_tb e.2.1 = some q ∧ am_okm q e.2.2 ∧ am_lk (am_own 1) e.1 q.2.1 ∧ Cond.static q.2.1 ∈ lw_tbl) (82, 47, 2) := ⟨by decide, qX6_placeOf, tb_X6_placeOf, mo_X6_placeOf, Or.inl (am_in9 593 (by decide +kernel)), mt_X6_placeOf⟩
theorem lk_st_1 : ∀ e ∈ lk_st 1, e.2.1 ≠ 999 ∧ ∃ q, am_tb e.2.1 = some q ∧ am_okm q e.2.2 ∧ am_lk (am_own 1) e.1 q.2.1 ∧ Cond.static q.2.1 ∈ lw_tbl := List.forall_mem_cons.mpr ⟨lk_st_1_0, List.forall_mem_cons.mpr ⟨lk_st_1_1, List.forall_mem_cons.mpr ⟨lk_st_1_2, fun _ h => absurd h List.not_mem_nil⟩⟩⟩
theorem lk_st_2_0 : (fun e : Nat × Nat × Nat => e.2.1 ≠ 999 ∧ ∃ q, am_tb e.2.1 = some q ∧ am_okm q e.2.2 ∧ am_lk (am_own 2) e.1 q.2.1 ∧ Cond.static q.2.1 ∈ lw_tbl) (40, 23, 4) := ⟨by decide, qX2_sourceCell, tb_X2_sourceCell, mo_X2_sourceCell, Or.inl (am_in9 746 (by decide +kernel)), mt_X2_sourceCell⟩
theorem lk_st_2_1 : (fun e : Nat × Nat × Nat => e.2.1 ≠ 999 ∧ ∃ q, am_tb e.2.1 = some q ∧ am_okm q e.2.2 ∧ am_lk (am_own 2) e.1 q.2.1 ∧ Cond.static q.2.1 ∈ lw_tbl) (58, 129, 2) := ⟨by decide, qX11_isInSet, tb_X11_isInSet, mo_X11_isInSet, Or.inr ⟨"WeylWords", am_in9 749 (by decide +kernel)⟩, mt_X11_isInSet⟩
theorem lk_st_2 : ∀ e ∈ lk_st 2, e.2.1 ≠ 999 ∧ ∃ q, am_tb e.2.1 = some q ∧ am_okm q e.2.2 ∧ am_lk (am_own 2) e.1 q.2.1 ∧ Cond.static q.2.1 ∈ lw_tbl := List.forall_mem_cons.mpr ⟨lk_st_2_0, List.forall_mem_cons.mpr ⟨lk_st_2_1, fun _ h => absurd h List.not_mem_nil⟩⟩
theorem lk_st_3_0 : (fun e : Nat × Nat × Nat => e.2.1 ≠ 999 ∧ ∃ q, am_tb e.2.1 = some q ∧ am_okm q e.2.2 ∧ am_lk (am_own 3) e.1 q.2.1 ∧ Cond.static q.2.1 ∈ lw_tbl) (81, 129, 2) := ⟨by decide, qX11_isInSet, tb_X11_isInSet, mo_X11_isInSet, Or.inr ⟨"WeylWords", am_in9 754 (by decide +kernel)⟩, mt_X11_isInSet⟩
theorem lk_st_3_1 : (fun e : Nat × Nat × Nat => e.2.1 ≠ 999 ∧ ∃ q, am_tb e.2.1 = some q ∧ am_okm q e.2.2 ∧ am_lk (am_own 3) e.1 q.2.1 ∧ Cond.static q.2.1 ∈ lw_tbl) (121, 11, 1) := ⟨by decide, qX1_inverse, tb_X1_inverse, mo_X1_inverse, Or.inl (am_in9 769 (by decide +kernel)), mt_X1_inverse⟩
theorem lk_st_3_2 : (fun e : Nat × Nat × Nat => e.2.1 ≠ 999 ∧ ∃ q, am_tb e.2.1 = some q ∧ am_okm q e.2.2 ∧ am_lk (am_own 3) e.1 q.2.1 ∧ Cond.static q.2.1 ∈ lw_tbl) (145, 47, 2) := ⟨by decide, qX6_placeOf, tb_X6_placeOf, mo_X6_placeOf, Or.inl (am_in9 796 (by decide +kernel)), mt_X6_placeOf⟩
theorem lk_st_3_3 : (fun e : Nat × Nat × Nat => e.2.1 ≠ 999 ∧ ∃ q, am_tb e.2.1 = some q ∧ am_okm q e.2.2 ∧ am_lk (am_own 3) e.1 q.2.1 ∧ Cond.static q.2.1 ∈ lw_tbl) (159, 50, 2) := ⟨by decide, qX6_height, tb_X6_height, mo_X6_height, Or.inl (am_in9 812 (by decide +kernel)), mt_X6_height⟩
theorem lk_st_3 : ∀ e ∈ lk_st 3, e.2.1 ≠ 999 ∧ ∃ q, am_tb e.2.1 = some q ∧ am_okm q e.2.2 ∧ am_lk (am_own 3) e.1 q.2.1 ∧ Cond.static q.2.1 ∈ lw_tbl := List.forall_mem_cons.mpr ⟨lk_st_3_0, List.forall_mem_cons.mpr ⟨lk_st_3_1, List.forall_mem_cons.mpr ⟨lk_st_3_2, List.forall_mem_cons.mpr ⟨lk_st_3_3, fun _ h => absurd h List.not_mem_nil⟩⟩⟩⟩
theorem lk_st_4_0 : (fun e : Nat × Nat × Nat => e.2.1 ≠ 999 ∧ ∃ q, am_tb e.2.1 = some q ∧ am_okm q e.2.2 ∧ am_lk (am_own 4) e.1 q.2.1 ∧ Cond.static q.2.1 ∈ lw_tbl) (54, 11, 1) := ⟨by decide, qX1_inverse, tb_X1_inverse, mo_X1_inverse, Or.inl (am_in9 715 (by decide +kernel)), mt_X1_inverse⟩
theorem lk_st_4_1 : (fun e : Nat × Nat × Nat => e.2.1 ≠ 999 ∧ ∃ q, am_tb e.2.1 = some q ∧ am_okm q e.2.2 ∧ am_lk (am_own 4) e.1 q.2.1 ∧ Cond.static q.2.1 ∈ lw_tbl) (66, 49, 3) := ⟨by decide, qX6_rankedPlace, tb_X6_rankedPlace, mo_X6_rankedPlace, Or.inl (am_in9 722 (by decide +kernel)), mt_X6_rankedPlace⟩
theorem lk_st_4_2 : (fun e : Nat × Nat × Nat => e.2.1 ≠ 999 ∧ ∃ q, am_tb e.2.1 = some q ∧ am_okm q e.2.2 ∧ am_lk (am_own 4) e.1 q.2.1 ∧ Cond.static q.2.1 ∈ lw_tbl) (74, 47, 2) := ⟨by decide, qX6_placeOf, tb_X6_placeOf, mo_X6_placeOf, Or.inl (am_in9 727 (by decide +kernel)), mt_X6_placeOf⟩
theorem lk_st_4 : ∀ e ∈ lk_st 4, e.2.1 ≠ 999 ∧ ∃ q, am_tb e.2.1 = some q ∧ am_okm q e.2.2 ∧ am_lk (am_own 4) e.1 q.2.1 ∧ Cond.static q.2.1 ∈ lw_tbl := List.forall_mem_cons.mpr ⟨lk_st_4_0, List.forall_mem_cons.mpr ⟨lk_st_4_1, List.forall_mem_cons.mpr ⟨lk_st_4_2, fun _ h => absurd h List.not_mem_nil⟩⟩⟩
theorem lk_st_5_0 : (fun e : Nat × Nat × Nat => e.2.1 ≠ 999 ∧ ∃ q, am_tb e.2.1 = some q ∧ am_okm q e.2.2 ∧ am_lk (am_own 5) e.1 q.2.1 ∧ Cond.static q.2.1 ∈ lw_tbl) (29, 233, 2) := ⟨by decide, qJ9_min_7cf53, tb_J9_min_7cf53, mo_J9_min_7cf53, Or.inl (am_in9 466 (by decide +kernel)), mt_J9_min_7cf53⟩
theorem lk_st_5 : ∀ e ∈ lk_st 5, e.2.1 ≠ 999 ∧ ∃ q, am_tb e.2.1 = some q ∧ am_okm q e.2.2 ∧ am_lk (am_own 5) e.1 q.2.1 ∧ Cond.static q.2.1 ∈ lw_tbl := List.forall_mem_cons.mpr ⟨lk_st_5_0, fun _ h => absurd h List.not_mem_nil⟩
theorem lk_st_6_0 : (fun e : Nat × Nat × Nat => e.2.1 ≠ 999 ∧ ∃ q, am_tb e.2.1 = some q ∧ am_okm q e.2.2 ∧ am_lk (am_own 6) e.1 q.2.1 ∧ Cond.static q.2.1 ∈ lw_tbl) (15, 46, 1) := ⟨by decide, qX6_firstPlace, tb_X6_firstPlace, mo_X6_firstPlace, Or.inl (am_in9 475 (by decide +kernel)), mt_X6_firstPlace⟩
theorem lk_st_6_1 : (fun e : Nat × Nat × Nat => e.2.1 ≠ 999 ∧ ∃ q, am_tb e.2.1 = some q ∧ am_okm q e.2.2 ∧ am_lk (am_own 6) e.1 q.2.1 ∧ Cond.static q.2.1 ∈ lw_tbl) (25, 48, 1) := ⟨by decide, qX6_degreeAt, tb_X6_degreeAt, mo_X6_degreeAt, Or.inl (am_in9 538 (by decide +kernel)), mt_X6_degreeAt⟩
theorem lk_st_6_2 : (fun e : Nat × Nat × Nat => e.2.1 ≠ 999 ∧ ∃ q, am_tb e.2.1 = some q ∧ am_okm q e.2.2 ∧ am_lk (am_own 6) e.1 q.2.1 ∧ Cond.static q.2.1 ∈ lw_tbl) (28, 45, 2) := ⟨by decide, qX6_isWord, tb_X6_isWord, mo_X6_isWord, Or.inl (am_in9 471 (by decide +kernel)), mt_X6_isWord⟩
theorem lk_st_6_3 : (fun e : Nat × Nat × Nat => e.2.1 ≠ 999 ∧ ∃ q, am_tb e.2.1 = some q ∧ am_okm q e.2.2 ∧ am_lk (am_own 6) e.1 q.2.1 ∧ Cond.static q.2.1 ∈ lw_tbl) (32, 47, 2) := ⟨by decide, qX6_placeOf, tb_X6_placeOf, mo_X6_placeOf, Or.inl (am_in9 472 (by decide +kernel)), mt_X6_placeOf⟩
theorem lk_st_6_4 : (fun e : Nat × Nat × Nat => e.2.1 ≠ 999 ∧ ∃ q, am_tb e.2.1 = some q ∧ am_okm q e.2.2 ∧ am_lk (am_own 6) e.1 q.2.1 ∧ Cond.static q.2.1 ∈ lw_tbl) (36, 234, 2) := ⟨by decide, qJ7_fill_53178, tb_J7_fill_53178, mo_J7_fill_53178, Or.inl (am_in9 503 (by decide +kernel)), mt_J7_fill_53178⟩
theorem lk_st_6_5 : (fun e : Nat × Nat × Nat => e.2.1 ≠ 999 ∧ ∃ q, am_tb e.2.1 = some q ∧ am_okm q e.2.2 ∧ am_lk (am_own 6) e.1 q.2.1 ∧ Cond.static q.2.1 ∈ lw_tbl) (58, 49, 3) := ⟨by decide, qX6_rankedPlace, tb_X6_rankedPlace, mo_X6_rankedPlace, Or.inl (am_in9 608 (by decide +kernel)), mt_X6_rankedPlace⟩
theorem lk_st_6_6 : (fun e : Nat × Nat × Nat => e.2.1 ≠ 999 ∧ ∃ q, am_tb e.2.1 = some q ∧ am_okm q e.2.2 ∧ am_lk (am_own 6) e.1 q.2.1 ∧ Cond.static q.2.1 ∈ lw_tbl) (68, 10, 1) := ⟨by decide, qX1_balanced, tb_X1_balanced, mo_X1_balanced, Or.inl (am_in9 611 (by decide +kernel)), mt_X1_balanced⟩
theorem lk_st_6_7 : (fun e : Nat × Nat × Nat => e.2.1 ≠ 999 ∧ ∃ q, am_tb e.2.1 = some q ∧ am_okm q e.2.2 ∧ am_lk (am_own 6) e.1 q.2.1 ∧ Cond.static q.2.1 ∈ lw_tbl) (76, 65, 3) := ⟨by decide, qX6_measure, tb_X6_measure, mo_X6_measure, Or.inl (am_in9 616 (by decide +kernel)), mt_X6_measure⟩
theorem lk_st_6_8 : (fun e : Nat × Nat × Nat => e.2.1 ≠ 999 ∧ ∃ q, am_tb e.2.1 = some q ∧ am_okm q e.2.2 ∧ am_lk (am_own 6) e.1 q.2.1 ∧ Cond.static q.2.1 ∈ lw_tbl) (79, 232, 2) := ⟨by decide, qJ9_max_7cf53, tb_J9_max_7cf53, mo_J9_max_7cf53, Or.inl (am_in9 619 (by decide +kernel)), mt_J9_max_7cf53⟩
theorem lk_st_6 : ∀ e ∈ lk_st 6, e.2.1 ≠ 999 ∧ ∃ q, am_tb e.2.1 = some q ∧ am_okm q e.2.2 ∧ am_lk (am_own 6) e.1 q.2.1 ∧ Cond.static q.2.1 ∈ lw_tbl := List.forall_mem_cons.mpr ⟨lk_st_6_0, List.forall_mem_cons.mpr ⟨lk_st_6_1, List.forall_mem_cons.mpr ⟨lk_st_6_2, List.forall_mem_cons.mpr ⟨lk_st_6_3, List.forall_mem_cons.mpr ⟨lk_st_6_4, List.forall_mem_cons.mpr ⟨lk_st_6_5, List.forall_mem_cons.mpr ⟨lk_st_6_6, List.forall_mem_cons.mpr ⟨lk_st_6_7, List.forall_mem_cons.mpr ⟨lk_st_6_8, fun _ h => absurd h List.not_mem_nil⟩⟩⟩⟩⟩⟩⟩⟩⟩
theorem lk_st_7_0 : (fun e : Nat × Nat × Nat => e.2.1 ≠ 999 ∧ ∃ q, am_tb e.2.1 = some q ∧ am_okm q e.2.2 ∧ am_lk (am_own 7) e.1 q.2.1 ∧ Cond.static q.2.1 ∈ lw_tbl) (69, 12, 2) := ⟨by decide, qX1_productFits, tb_X1_productFits, mo_X1_productFits, Or.inl (am_in9 924 (by decide +kernel)), mt_X1_productFits⟩
theorem lk_st_7_1 : (fun e : Nat × Nat × Nat => e.2.1 ≠ 999 ∧ ∃ q, am_tb e.2.1 = some q ∧ am_okm q e.2.2 ∧ am_lk (am_own 7) e.1 q.2.1 ∧ Cond.static q.2.1 ∈ lw_tbl) (87, 13, 2) := ⟨by decide, qX1_powerFits, tb_X1_powerFits, mo_X1_powerFits, Or.inl (am_in9 922 (by decide +kernel)), mt_X1_powerFits⟩
theorem lk_st_7 : ∀ e ∈ lk_st 7, e.2.1 ≠ 999 ∧ ∃ q, am_tb e.2.1 = some q ∧ am_okm q e.2.2 ∧ am_lk (am_own 7) e.1 q.2.1 ∧ Cond.static q.2.1 ∈ lw_tbl := List.forall_mem_cons.mpr ⟨lk_st_7_0, List.forall_mem_cons.mpr ⟨lk_st_7_1, fun _ h => absurd h List.not_mem_nil⟩⟩
theorem lk_st_10_0 : (fun e : Nat × Nat × Nat => e.2.1 ≠ 999 ∧ ∃ q, am_tb e.2.1 = some q ∧ am_okm q e.2.2 ∧ am_lk (am_own 10) e.1 q.2.1 ∧ Cond.static q.2.1 ∈ lw_tbl) (25, 49, 3) := ⟨by decide, qX6_rankedPlace, tb_X6_rankedPlace, mo_X6_rankedPlace, Or.inl (am_in9 936 (by decide +kernel)), mt_X6_rankedPlace⟩
theorem lk_st_10_1 : (fun e : Nat × Nat × Nat => e.2.1 ≠ 999 ∧ ∃ q, am_tb e.2.1 = some q ∧ am_okm q e.2.2 ∧ am_lk (am_own 10) e.1 q.2.1 ∧ Cond.static q.2.1 ∈ lw_tbl) (32, 10, 1) := ⟨by decide, qX1_balanced, tb_X1_balanced, mo_X1_balanced, Or.inl (am_in9 937 (by decide +kernel)), mt_X1_balanced⟩
theorem lk_st_10_2 : (fun e : Nat × Nat × Nat => e.2.1 ≠ 999 ∧ ∃ q, am_tb e.2.1 = some q ∧ am_okm q e.2.2 ∧ am_lk (am_own 10) e.1 q.2.1 ∧ Cond.static q.2.1 ∈ lw_tbl) (46, 231, 1) := ⟨by decide, qJ9_abs_0f7a4, tb_J9_abs_0f7a4, mo_J9_abs_0f7a4, Or.inl (am_in9 946 (by decide +kernel)), mt_J9_abs_0f7a4⟩
theorem lk_st_10 : ∀ e ∈ lk_st 10, e.2.1 ≠ 999 ∧ ∃ q, am_tb e.2.1 = some q ∧ am_okm q e.2.2 ∧ am_lk (am_own 10) e.1 q.2.1 ∧ Cond.static q.2.1 ∈ lw_tbl := List.forall_mem_cons.mpr ⟨lk_st_10_0, List.forall_mem_cons.mpr ⟨lk_st_10_1, List.forall_mem_cons.mpr ⟨lk_st_10_2, fun _ h => absurd h List.not_mem_nil⟩⟩⟩
theorem lk_st_11_0 : (fun e : Nat × Nat × Nat => e.2.1 ≠ 999 ∧ ∃ q, am_tb e.2.1 = some q ∧ am_okm q e.2.2 ∧ am_lk (am_own 11) e.1 q.2.1 ∧ Cond.static q.2.1 ∈ lw_tbl) (95, 125, 1) := ⟨by decide, qX11_isOperator, tb_X11_isOperator, mo_X11_isOperator, Or.inl (am_in9 440 (by decide +kernel)), mt_X11_isOperator⟩
theorem lk_st_11_1 : (fun e : Nat × Nat × Nat => e.2.1 ≠ 999 ∧ ∃ q, am_tb e.2.1 = some q ∧ am_okm q e.2.2 ∧ am_lk (am_own 11) e.1 q.2.1 ∧ Cond.static q.2.1 ∈ lw_tbl) (99, 45, 2) := ⟨by decide, qX6_isWord, tb_X6_isWord, mo_X6_isWord, Or.inl (am_in9 443 (by decide +kernel)), mt_X6_isWord⟩
theorem lk_st_11_2 : (fun e : Nat × Nat × Nat => e.2.1 ≠ 999 ∧ ∃ q, am_tb e.2.1 = some q ∧ am_okm q e.2.2 ∧ am_lk (am_own 11) e.1 q.2.1 ∧ Cond.static q.2.1 ∈ lw_tbl) (119, 9, 1) := ⟨by decide, qX1_residue, tb_X1_residue, mo_X1_residue, Or.inl (am_in9 478 (by decide +kernel)), mt_X1_residue⟩
theorem lk_st_11_3 : (fun e : Nat × Nat × Nat => e.2.1 ≠ 999 ∧ ∃ q, am_tb e.2.1 = some q ∧ am_okm q e.2.2 ∧ am_lk (am_own 11) e.1 q.2.1 ∧ Cond.static q.2.1 ∈ lw_tbl) (127, 10, 1) := ⟨by decide, qX1_balanced, tb_X1_balanced, mo_X1_balanced, Or.inl (am_in9 488 (by decide +kernel)), mt_X1_balanced⟩
theorem lk_st_11_4 : (fun e : Nat × Nat × Nat => e.2.1 ≠ 999 ∧ ∃ q, am_tb e.2.1 = some q ∧ am_okm q e.2.2 ∧ am_lk (am_own 11) e.1 q.2.1 ∧ Cond.static q.2.1 ∈ lw_tbl) (140, 12, 2) := ⟨by decide, qX1_productFits, tb_X1_productFits, mo_X1_productFits, Or.inl (am_in9 523 (by decide +kernel)), mt_X1_productFits⟩
theorem lk_st_11_5 : (fun e : Nat × Nat × Nat => e.2.1 ≠ 999 ∧ ∃ q, am_tb e.2.1 = some q ∧ am_okm q e.2.2 ∧ am_lk (am_own 11) e.1 q.2.1 ∧ Cond.static q.2.1 ∈ lw_tbl) (151, 13, 2) := ⟨by decide, qX1_powerFits, tb_X1_powerFits, mo_X1_powerFits, Or.inl (am_in9 568 (by decide +kernel)), mt_X1_powerFits⟩
theorem lk_st_11_6 : (fun e : Nat × Nat × Nat => e.2.1 ≠ 999 ∧ ∃ q, am_tb e.2.1 = some q ∧ am_okm q e.2.2 ∧ am_lk (am_own 11) e.1 q.2.1 ∧ Cond.static q.2.1 ∈ lw_tbl) (169, 126, 1) := ⟨by decide, qX11_isPolynomial, tb_X11_isPolynomial, mo_X11_isPolynomial, Or.inl (am_in9 630 (by decide +kernel)), mt_X11_isPolynomial⟩
theorem lk_st_11_7 : (fun e : Nat × Nat × Nat => e.2.1 ≠ 999 ∧ ∃ q, am_tb e.2.1 = some q ∧ am_okm q e.2.2 ∧ am_lk (am_own 11) e.1 q.2.1 ∧ Cond.static q.2.1 ∈ lw_tbl) (172, 127, 1) := ⟨by decide, qX11_isPower, tb_X11_isPower, mo_X11_isPower, Or.inl (am_in9 633 (by decide +kernel)), mt_X11_isPower⟩
theorem lk_st_11_8 : (fun e : Nat × Nat × Nat => e.2.1 ≠ 999 ∧ ∃ q, am_tb e.2.1 = some q ∧ am_okm q e.2.2 ∧ am_lk (am_own 11) e.1 q.2.1 ∧ Cond.static q.2.1 ∈ lw_tbl) (197, 1, 1) := ⟨by decide, qX0_degree, tb_X0_degree, mo_X0_degree, Or.inl (am_in9 664 (by decide +kernel)), mt_X0_degree⟩
theorem lk_st_11_9 : (fun e : Nat × Nat × Nat => e.2.1 ≠ 999 ∧ ∃ q, am_tb e.2.1 = some q ∧ am_okm q e.2.2 ∧ am_lk (am_own 11) e.1 q.2.1 ∧ Cond.static q.2.1 ∈ lw_tbl) (208, 128, 1) := ⟨by decide, qX11_isSet, tb_X11_isSet, mo_X11_isSet, Or.inl (am_in9 697 (by decide +kernel)), mt_X11_isSet⟩
theorem lk_st_11_10 : (fun e : Nat × Nat × Nat => e.2.1 ≠ 999 ∧ ∃ q, am_tb e.2.1 = some q ∧ am_okm q e.2.2 ∧ am_lk (am_own 11) e.1 q.2.1 ∧ Cond.static q.2.1 ∈ lw_tbl) (211, 129, 2) := ⟨by decide, qX11_isInSet, tb_X11_isInSet, mo_X11_isInSet, Or.inl (am_in9 700 (by decide +kernel)), mt_X11_isInSet⟩
theorem lk_st_11_11 : (fun e : Nat × Nat × Nat => e.2.1 ≠ 999 ∧ ∃ q, am_tb e.2.1 = some q ∧ am_okm q e.2.2 ∧ am_lk (am_own 11) e.1 q.2.1 ∧ Cond.static q.2.1 ∈ lw_tbl) (283, 119, 2) := ⟨by decide, qX11_mixed, tb_X11_mixed, mo_X11_mixed, Or.inl (am_in9 978 (by decide +kernel)), mt_X11_mixed⟩
theorem lk_st_11 : ∀ e ∈ lk_st 11, e.2.1 ≠ 999 ∧ ∃ q, am_tb e.2.1 = some q ∧ am_okm q e.2.2 ∧ am_lk (am_own 11) e.1 q.2.1 ∧ Cond.static q.2.1 ∈ lw_tbl := List.forall_mem_cons.mpr ⟨lk_st_11_0, List.forall_mem_cons.mpr ⟨lk_st_11_1, List.forall_mem_cons.mpr ⟨lk_st_11_2, List.forall_mem_cons.mpr ⟨lk_st_11_3, List.forall_mem_cons.mpr ⟨lk_st_11_4, List.forall_mem_cons.mpr ⟨lk_st_11_5, List.forall_mem_cons.mpr ⟨lk_st_11_6, List.forall_mem_cons.mpr ⟨lk_st_11_7, List.forall_mem_cons.mpr ⟨lk_st_11_8, List.forall_mem_cons.mpr ⟨lk_st_11_9, List.forall_mem_cons.mpr ⟨lk_st_11_10, List.forall_mem_cons.mpr ⟨lk_st_11_11, fun _ h => absurd h List.not_mem_nil⟩⟩⟩⟩⟩⟩⟩⟩⟩⟩⟩⟩
theorem lk_st_12_0 : (fun e : Nat × Nat × Nat => e.2.1 ≠ 999 ∧ ∃ q, am_tb e.2.1 = some q ∧ am_okm q e.2.2 ∧ am_lk (am_own 12) e.1 q.2.1 ∧ Cond.static q.2.1 ∈ lw_tbl) (59, 132, 2) := ⟨by decide, qX12_wordAt, tb_X12_wordAt, mo_X12_wordAt, Or.inl (am_in9 987 (by decide +kernel)), mt_X12_wordAt⟩
theorem lk_st_12_1 : (fun e : Nat × Nat × Nat => e.2.1 ≠ 999 ∧ ∃ q, am_tb e.2.1 = some q ∧ am_okm q e.2.2 ∧ am_lk (am_own 12) e.1 q.2.1 ∧ Cond.static q.2.1 ∈ lw_tbl) (74, 131, 3) := ⟨by decide, qX12_in, tb_X12_in, mo_X12_in, Or.inl (am_in9 1099 (by decide +kernel)), mt_X12_in⟩
theorem lk_st_12_2 : (fun e : Nat × Nat × Nat => e.2.1 ≠ 999 ∧ ∃ q, am_tb e.2.1 = some q ∧ am_okm q e.2.2 ∧ am_lk (am_own 12) e.1 q.2.1 ∧ Cond.static q.2.1 ∈ lw_tbl) (111, 140, 1) := ⟨by decide, qX12_isOperator, tb_X12_isOperator, mo_X12_isOperator, Or.inl (am_in9 1096 (by decide +kernel)), mt_X12_isOperator⟩
theorem lk_st_12_3 : (fun e : Nat × Nat × Nat => e.2.1 ≠ 999 ∧ ∃ q, am_tb e.2.1 = some q ∧ am_okm q e.2.2 ∧ am_lk (am_own 12) e.1 q.2.1 ∧ Cond.static q.2.1 ∈ lw_tbl) (115, 141, 2) := ⟨by decide, qX12_isWord, tb_X12_isWord, mo_X12_isWord, Or.inl (am_in9 1102 (by decide +kernel)), mt_X12_isWord⟩
theorem lk_st_12_4 : (fun e : Nat × Nat × Nat => e.2.1 ≠ 999 ∧ ∃ q, am_tb e.2.1 = some q ∧ am_okm q e.2.2 ∧ am_lk (am_own 12) e.1 q.2.1 ∧ Cond.static q.2.1 ∈ lw_tbl) (122, 133, 1) := ⟨by decide, qX12_restOf, tb_X12_restOf, mo_X12_restOf, Or.inl (am_in9 1113 (by decide +kernel)), mt_X12_restOf⟩
theorem lk_st_12_5 : (fun e : Nat × Nat × Nat => e.2.1 ≠ 999 ∧ ∃ q, am_tb e.2.1 = some q ∧ am_okm q e.2.2 ∧ am_lk (am_own 12) e.1 q.2.1 ∧ Cond.static q.2.1 ∈ lw_tbl) (125, 134, 1) := ⟨by decide, qX12_tell, tb_X12_tell, mo_X12_tell, Or.inl (am_in9 1116 (by decide +kernel)), mt_X12_tell⟩
theorem lk_st_12_6 : (fun e : Nat × Nat × Nat => e.2.1 ≠ 999 ∧ ∃ q, am_tb e.2.1 = some q ∧ am_okm q e.2.2 ∧ am_lk (am_own 12) e.1 q.2.1 ∧ Cond.static q.2.1 ∈ lw_tbl) (162, 169, 1) := ⟨by decide, qX12_isPolynomial, tb_X12_isPolynomial, mo_X12_isPolynomial, Or.inl (am_in9 1231 (by decide +kernel)), mt_X12_isPolynomial⟩
theorem lk_st_12_7 : (fun e : Nat × Nat × Nat => e.2.1 ≠ 999 ∧ ∃ q, am_tb e.2.1 = some q ∧ am_okm q e.2.2 ∧ am_lk (am_own 12) e.1 q.2.1 ∧ Cond.static q.2.1 ∈ lw_tbl) (165, 170, 2) := ⟨by decide, qX12_rateAt, tb_X12_rateAt, mo_X12_rateAt, Or.inl (am_in9 1234 (by decide +kernel)), mt_X12_rateAt⟩
theorem lk_st_12_8 : (fun e : Nat × Nat × Nat => e.2.1 ≠ 999 ∧ ∃ q, am_tb e.2.1 = some q ∧ am_okm q e.2.2 ∧ am_lk (am_own 12) e.1 q.2.1 ∧ Cond.static q.2.1 ∈ lw_tbl) (168, 173, 2) := ⟨by decide, qX12_falls, tb_X12_falls, mo_X12_falls, Or.inl (am_in9 1249 (by decide +kernel)), mt_X12_falls⟩
theorem lk_st_12_9 : (fun e : Nat × Nat × Nat => e.2.1 ≠ 999 ∧ ∃ q, am_tb e.2.1 = some q ∧ am_okm q e.2.2 ∧ am_lk (am_own 12) e.1 q.2.1 ∧ Cond.static q.2.1 ∈ lw_tbl) (177, 177, 1) := ⟨by decide, qX12_inverseOf, tb_X12_inverseOf, mo_X12_inverseOf, Or.inl (am_in9 1268 (by decide +kernel)), mt_X12_inverseOf⟩
theorem lk_st_12_10 : (fun e : Nat × Nat × Nat => e.2.1 ≠ 999 ∧ ∃ q, am_tb e.2.1 = some q ∧ am_okm q e.2.2 ∧ am_lk (am_own 12) e.1 q.2.1 ∧ Cond.static q.2.1 ∈ lw_tbl) (201, 187, 1) := ⟨by decide, qX12_isSet, tb_X12_isSet, mo_X12_isSet, Or.inl (am_in9 1283 (by decide +kernel)), mt_X12_isSet⟩
theorem lk_st_12 : ∀ e ∈ lk_st 12, e.2.1 ≠ 999 ∧ ∃ q, am_tb e.2.1 = some q ∧ am_okm q e.2.2 ∧ am_lk (am_own 12) e.1 q.2.1 ∧ Cond.static q.2.1 ∈ lw_tbl := List.forall_mem_cons.mpr ⟨lk_st_12_0, List.forall_mem_cons.mpr ⟨lk_st_12_1, List.forall_mem_cons.mpr ⟨lk_st_12_2, List.forall_mem_cons.mpr ⟨lk_st_12_3, List.forall_mem_cons.mpr ⟨lk_st_12_4, List.forall_mem_cons.mpr ⟨lk_st_12_5, List.forall_mem_cons.mpr ⟨lk_st_12_6, List.forall_mem_cons.mpr ⟨lk_st_12_7, List.forall_mem_cons.mpr ⟨lk_st_12_8, List.forall_mem_cons.mpr ⟨lk_st_12_9, List.forall_mem_cons.mpr ⟨lk_st_12_10, fun _ h => absurd h List.not_mem_nil⟩⟩⟩⟩⟩⟩⟩⟩⟩⟩⟩
theorem lk_st_ok : ∀ o, ∀ e ∈ lk_st o, e.2.1 ≠ 999 ∧ ∃ q, am_tb e.2.1 = some q ∧ am_okm q e.2.2 ∧ am_lk (am_own o) e.1 q.2.1 ∧ Cond.static q.2.1 ∈ lw_tbl := by
  intro o e he
  unfold lk_st at he
  split at he
  · exact lk_st_0 e he
  · exact lk_st_1 e he
  · exact lk_st_2 e he
  · exact lk_st_3 e he
  · exact lk_st_4 e he
  · exact lk_st_5 e he
  · exact lk_st_6 e he
  · exact lk_st_7 e he
  · exact lk_st_10 e he
  · exact lk_st_11 e he
  · exact lk_st_12 e he
  · cases he
end
section
/-! A program that decides whether a tree is the code. -/
def ck1 (o nL : Nat) (ini : Bool) (ai : am_I) : Bool := match ai.1 with
  | .bipush n => decide (-128 ≤ n ∧ n ≤ 127)
  | .sipush n => decide (-32768 ≤ n ∧ n ≤ 32767)
  | .ldc i => (lk_ld o).contains (i, ai.2.1)
  | .ldc2_w i => (lk_l2 o).contains (i, ai.2.1)
  | .istore i => decide (i < nL)
  | .istore_n i => decide (i.val < nL)
  | .astore i => decide (i < nL)
  | .astore_n i => decide (i.val < nL)
  | .lstore_n i => decide (i.val + 1 < nL)
  | .iinc i _ => decide (i < nL)
  | .getfield i => (lk_fl o).contains (i, ai.2.1, ai.2.2.1)
  | .putfield i => (lk_fl o).contains (i, ai.2.1, ai.2.2.1) && (decide (am_fk (am_ty ai.2.1 ai.2.2.1) = ai.2.2.2) && (decide (((am_q ai.2.1).2.1 ai.2.2.1).2.2.2 = false) || (ini && (decide (((am_q ai.2.1).2.1 ai.2.2.1).2.2.2 = true) && decide (((am_q ai.2.1).2.1 ai.2.2.1).1 = am_own o)))))
  | .getstatic i => (lk_gs o).contains (i, ai.2.1)
  | .newarray t => decide ((t = .int ∧ ai.2.1 = 20) ∨ (t = .boolean ∧ ai.2.1 = 21))
  | .anewarray i => (lk_an o).contains (i, ai.2.1)
  | .multianewarray i d => decide (d = 2) && (lk_mu o).contains i
  | .new i => (lk_nw o).contains (i, ai.2.1)
  | .invokevirtual i => (lk_iv o).contains (i, ai.2.1, ai.2.2.1, ai.2.2.2)
  | .invokespecial i => if ai.2.1 = 998 then (lk_oi o).contains i else (lk_is o).contains (i, ai.2.1, ai.2.2.1)
  | .invokestatic i => if ai.2.1 = 999 then (lk_ac o).contains i else (lk_st o).contains (i, ai.2.1, ai.2.2.1)
  | _ => true
theorem ck1_ok {o nL : Nat} {ini : Bool} {ai : am_I} (h : ck1 o nL ini ai = true) : am_ok1 am_tb (am_own o) ini nL ai := by
  obtain ⟨i, a1, a2, a3⟩ := ai
  cases i <;> try exact trivial
  case bipush n => simp only [ck1, decide_eq_true_eq] at h; exact h
  case sipush n => simp only [ck1, decide_eq_true_eq] at h; exact h
  case ldc i => exact lk_ld_ok o (i, a1) (List.contains_iff_mem.mp h)
  case ldc2_w i => exact lk_l2_ok o (i, a1) (List.contains_iff_mem.mp h)
  case istore i => simp only [ck1, decide_eq_true_eq] at h; exact h
  case istore_n i => simp only [ck1, decide_eq_true_eq] at h; exact h
  case astore i => simp only [ck1, decide_eq_true_eq] at h; exact h
  case astore_n i => simp only [ck1, decide_eq_true_eq] at h; exact h
  case lstore_n i => simp only [ck1, decide_eq_true_eq] at h; exact h
  case iinc i n => simp only [ck1, decide_eq_true_eq] at h; exact h
  case getfield i => exact lk_fl_ok o (i, a1, a2) (List.contains_iff_mem.mp h)
  case putfield i =>
    simp only [ck1, Bool.and_eq_true, Bool.or_eq_true, decide_eq_true_eq] at h
    exact ⟨lk_fl_ok o (i, a1, a2) (List.contains_iff_mem.mp h.1), h.2.1, h.2.2⟩
  case getstatic i => exact lk_gs_ok o (i, a1) (List.contains_iff_mem.mp h)
  case newarray t => simp only [ck1, decide_eq_true_eq] at h; exact h
  case anewarray i => exact lk_an_ok o (i, a1) (List.contains_iff_mem.mp h)
  case multianewarray i d =>
    simp only [ck1, Bool.and_eq_true, decide_eq_true_eq] at h
    exact ⟨h.1, lk_mu_ok o i (List.contains_iff_mem.mp h.2)⟩
  case new i => exact lk_nw_ok o (i, a1) (List.contains_iff_mem.mp h)
  case invokevirtual i => exact lk_iv_ok o (i, a1, a2, a3) (List.contains_iff_mem.mp h)
  case invokespecial i =>
    simp only [ck1] at h
    show (if a1 = 998 then _ else _ : Prop)
    by_cases h998 : a1 = 998
    · rw [if_pos h998] at h ⊢
      exact lk_oi_ok o i (List.contains_iff_mem.mp h)
    · rw [if_neg h998] at h ⊢
      exact (lk_is_ok o (i, a1, a2) (List.contains_iff_mem.mp h)).2
  case invokestatic i =>
    simp only [ck1] at h
    show (if a1 = 999 then _ else _ : Prop)
    by_cases h999 : a1 = 999
    · rw [if_pos h999] at h ⊢
      exact lk_ac_ok o i (List.contains_iff_mem.mp h)
    · rw [if_neg h999] at h ⊢
      exact (lk_st_ok o (i, a1, a2) (List.contains_iff_mem.mp h)).2
def ckL (o nL : Nat) (ini : Bool) (cc : ByteArray) : List am_I → Nat → Option Nat
  | [], pc => some pc
  | i :: r, pc => if ck1 o nL ini i = true ∧ decode cc pc = .ok (i.1, am_len i.1) then ckL o nL ini cc r (pc + am_len i.1) else none
theorem ckL_ok {o nL : Nat} {ini : Bool} {cc : ByteArray} : ∀ (is : List am_I) {pc pc' : Nat}, ckL o nL ini cc is pc = some pc' → am_okL am_tb (am_own o) ini nL cc is pc pc'
  | [], pc, pc', h => (Option.some.inj h).symm
  | i :: r, pc, pc', h => by
    unfold ckL at h
    split at h
    · rename_i hc
      exact ⟨ck1_ok hc.1, hc.2, ckL_ok r h⟩
    · cases h
def ckt (cc : ByteArray) (ret : Option FieldType) (i : Instr) (ts : List Nat) (pc : Nat) : Option Nat := match i with
  | .goto off => if decode cc pc = .ok (.goto off, 3) ∧ (pc : Int) + off = ((ts.headD 0 : Nat) : Int) then some (pc + 3) else none
  | .ifCond c off => if decode cc pc = .ok (.ifCond c off, 3) ∧ (pc : Int) + off = ((ts.headD 0 : Nat) : Int) then some (pc + 3) else none
  | .if_icmp c off => if decode cc pc = .ok (.if_icmp c off, 3) ∧ (pc : Int) + off = ((ts.headD 0 : Nat) : Int) then some (pc + 3) else none
  | .tableswitch dd lo hi offs => match decode cc pc with
    | .ok (j, n) => if j = .tableswitch dd lo hi offs ∧ (pc : Int) + dd = ((ts.headD 0 : Nat) : Int) ∧ (List.range (hi - lo + 1).toNat).all (fun j => match offs[j]? with
        | some off => decide ((pc : Int) + off = ((ts.getD (j + 1) 0 : Nat) : Int))
        | none => false) = true then some (pc + n) else none
    | .error _ => none
  | .ireturn => if decode cc pc = .ok (.ireturn, 1) ∧ ((ts.headD 0 = 0 ∧ ret = some .int) ∨ (ts.headD 0 = 1 ∧ ret = some .boolean)) then some (pc + 1) else none
  | .lreturn => if decode cc pc = .ok (.lreturn, 1) ∧ ret = some .long then some (pc + 1) else none
  | .areturn => if decode cc pc = .ok (.areturn, 1) ∧ ret = some (.object "WeylWords$Basis") then some (pc + 1) else none
  | .return_ => if decode cc pc = .ok (.return_, 1) ∧ ret = none then some (pc + 1) else none
  | _ => none
theorem ckt_ok {cc : ByteArray} {ret : Option FieldType} {i : Instr} {ts : List Nat} {pc pc' : Nat} (h : ckt cc ret i ts pc = some pc') : am_okt cc ret i ts pc pc' := by
  cases i <;> simp only [ckt] at h <;> try (cases h; done)
  case goto off =>
    split at h
    · rename_i hc; cases h; exact ⟨hc.1, rfl, hc.2⟩
    · cases h
  case ifCond c off =>
    split at h
    · rename_i hc; cases h; exact ⟨hc.1, rfl, hc.2⟩
    · cases h
  case if_icmp c off =>
    split at h
    · rename_i hc; cases h; exact ⟨hc.1, rfl, hc.2⟩
    · cases h
  case tableswitch dd lo hi offs =>
    split at h
    · rename_i j n hd
      split at h
      · rename_i hc
        cases h
        obtain ⟨rfl, h2, h3⟩ := hc
        refine ⟨n, hd, rfl, h2, fun k hk => ?_⟩
        have h4 := List.all_eq_true.mp h3 k (List.mem_range.mpr (by omega))
        cases ho : offs[k]? with
        | none => simp only [ho] at h4; cases h4
        | some off => simp only [ho, decide_eq_true_eq] at h4; exact ⟨off, rfl, h4⟩
      · cases h
    · cases h
  case ireturn =>
    split at h
    · rename_i hc; cases h; exact ⟨hc.1, rfl, hc.2⟩
    · cases h
  case lreturn =>
    split at h
    · rename_i hc; cases h; exact ⟨hc.1, rfl, hc.2⟩
    · cases h
  case areturn =>
    split at h
    · rename_i hc; cases h; exact ⟨hc.1, rfl, _, hc.2⟩
    · cases h
  case return_ =>
    split at h
    · rename_i hc; cases h; exact ⟨hc.1, rfl, hc.2⟩
    · cases h
def ckT (o nL : Nat) (ini : Bool) (cc : ByteArray) (ret : Option FieldType) : am_T → Nat → Option Nat
  | .leaf q, pc => match q.2 with
    | none => ckL o nL ini cc q.1 pc
    | some r => (ckL o nL ini cc q.1 pc).bind (ckt cc ret r.1 r.2)
  | .branch 0 a b, pc => (ckT o nL ini cc ret a pc).bind (ckT o nL ini cc ret b)
  | .branch (n + 1) a _, pc => (ckT o nL ini cc ret a pc).bind fun pc' => if n % 2 = 0 then (if n / 2 = pc' then some pc' else none) else (if n / 2 = pc then some pc' else none)
theorem ckT_ok {o nL : Nat} {ini : Bool} {cc : ByteArray} {ret : Option FieldType} : ∀ (t : am_T) {pc pc' : Nat}, ckT o nL ini cc ret t pc = some pc' → am_okT am_tb (am_own o) ini nL cc ret t pc pc'
  | .leaf (is, none), pc, pc', h => ckL_ok is h
  | .leaf (is, some r), pc, pc', h => by
    obtain ⟨pc1, h1, h2⟩ := Option.bind_eq_some_iff.mp h
    exact ⟨pc1, ckL_ok is h1, ckt_ok h2⟩
  | .branch 0 a b, pc, pc', h => by
    obtain ⟨pc1, h1, h2⟩ := Option.bind_eq_some_iff.mp h
    exact ⟨pc1, ckT_ok a h1, ckT_ok b h2⟩
  | .branch (n + 1) a _, pc, pc', h => by
    obtain ⟨pc1, h1, h2⟩ := Option.bind_eq_some_iff.mp h
    by_cases hn : n % 2 = 0
    · rw [if_pos hn] at h2
      split at h2
      · rename_i he
        cases h2
        exact ⟨ckT_ok a h1, by rw [if_pos hn]; exact he⟩
      · cases h2
    · rw [if_neg hn] at h2
      split at h2
      · rename_i he
        cases h2
        exact ⟨ckT_ok a h1, by rw [if_neg hn]; exact he⟩
      · cases h2
end
section
/-! Each method is its tree. Written by wip/whole/gen_prog.py. -/
set_option maxRecDepth 100000 in
theorem ck_X0_init : ckT 0 2 true cX0_init none tX0_init 0 = some 33 := by decide +kernel
theorem ok_X0_init : am_okM am_tb qX0_init := ⟨by decide +kernel, 33, ckT_ok tX0_init ck_X0_init⟩
set_option maxRecDepth 100000 in
theorem ck_X0_degree : ckT 0 2 false cX0_degree (some .int) tX0_degree 0 = some 25 := by decide +kernel
theorem ok_X0_degree : am_okM am_tb qX0_degree := ⟨by decide +kernel, 25, ckT_ok tX0_degree ck_X0_degree⟩
set_option maxRecDepth 100000 in
theorem ck_X0_fits : ckT 0 6 false cX0_fits (some .boolean) tX0_fits 0 = some 65 := by decide +kernel
theorem ok_X0_fits : am_okM am_tb qX0_fits := ⟨by decide +kernel, 65, ckT_ok tX0_fits ck_X0_fits⟩
set_option maxRecDepth 100000 in
theorem ck_X0_apply : ckT 0 5 false cX0_apply none tX0_apply 0 = some 51 := by decide +kernel
theorem ok_X0_apply : am_okM am_tb qX0_apply := ⟨by decide +kernel, 51, ckT_ok tX0_apply ck_X0_apply⟩
set_option maxRecDepth 100000 in
theorem ck_X0_addImage : ckT 0 10 false cX0_addImage none tX0_addImage 0 = some 120 := by decide +kernel
theorem ok_X0_addImage : am_okM am_tb qX0_addImage := ⟨by decide +kernel, 120, ckT_ok tX0_addImage ck_X0_addImage⟩
set_option maxRecDepth 100000 in
theorem ck_X0_kernelDimension : ckT 0 8 false cX0_kernelDimension (some .int) tX0_kernelDimension 0 = some 140 := by decide +kernel
theorem ok_X0_kernelDimension : am_okM am_tb qX0_kernelDimension := ⟨by decide +kernel, 140, ckT_ok tX0_kernelDimension ck_X0_kernelDimension⟩
set_option maxRecDepth 100000 in
theorem ck_X0_pivotRow : ckT 0 5 false cX0_pivotRow (some .int) tX0_pivotRow 0 = some 32 := by decide +kernel
theorem ok_X0_pivotRow : am_okM am_tb qX0_pivotRow := ⟨by decide +kernel, 32, ckT_ok tX0_pivotRow ck_X0_pivotRow⟩
set_option maxRecDepth 100000 in
theorem ck_X0_clearBelow : ckT 0 8 false cX0_clearBelow none tX0_clearBelow 0 = some 111 := by decide +kernel
theorem ok_X0_clearBelow : am_okM am_tb qX0_clearBelow := ⟨by decide +kernel, 111, ckT_ok tX0_clearBelow ck_X0_clearBelow⟩
set_option maxRecDepth 100000 in
theorem ck_X1_init : ckT 1 3 true cX1_init none tX1_init 0 = some 180 := by decide +kernel
theorem ok_X1_init : am_okM am_tb qX1_init := ⟨by decide +kernel, 180, ckT_ok tX1_init ck_X1_init⟩
set_option maxRecDepth 100000 in
theorem ck_X1_residue : ckT 1 1 false cX1_residue (some .int) tX1_residue 0 = some 8 := by decide +kernel
theorem ok_X1_residue : am_okM am_tb qX1_residue := ⟨by decide +kernel, 8, ckT_ok tX1_residue ck_X1_residue⟩
set_option maxRecDepth 100000 in
theorem ck_X1_balanced : ckT 1 1 false cX1_balanced (some .int) tX1_balanced 0 = some 17 := by decide +kernel
theorem ok_X1_balanced : am_okM am_tb qX1_balanced := ⟨by decide +kernel, 17, ckT_ok tX1_balanced ck_X1_balanced⟩
set_option maxRecDepth 100000 in
theorem ck_X1_inverse : ckT 1 4 false cX1_inverse (some .int) tX1_inverse 0 = some 44 := by decide +kernel
theorem ok_X1_inverse : am_okM am_tb qX1_inverse := ⟨by decide +kernel, 44, ckT_ok tX1_inverse ck_X1_inverse⟩
set_option maxRecDepth 100000 in
theorem ck_X1_productFits : ckT 1 2 false cX1_productFits (some .boolean) tX1_productFits 0 = some 34 := by decide +kernel
theorem ok_X1_productFits : am_okM am_tb qX1_productFits := ⟨by decide +kernel, 34, ckT_ok tX1_productFits ck_X1_productFits⟩
set_option maxRecDepth 100000 in
theorem ck_X1_powerFits : ckT 1 2 false cX1_powerFits (some .boolean) tX1_powerFits 0 = some 24 := by decide +kernel
theorem ok_X1_powerFits : am_okM am_tb qX1_powerFits := ⟨by decide +kernel, 24, ckT_ok tX1_powerFits ck_X1_powerFits⟩
set_option maxRecDepth 100000 in
theorem ck_X1_addProduct : ckT 1 9 false cX1_addProduct none tX1_addProduct 0 = some 63 := by decide +kernel
theorem ok_X1_addProduct : am_okM am_tb qX1_addProduct := ⟨by decide +kernel, 63, ckT_ok tX1_addProduct ck_X1_addProduct⟩
set_option maxRecDepth 100000 in
theorem ck_X1_addWordProduct : ckT 1 17 false cX1_addWordProduct none tX1_addWordProduct 0 = some 200 := by decide +kernel
theorem ok_X1_addWordProduct : am_okM am_tb qX1_addWordProduct := ⟨by decide +kernel, 200, ckT_ok tX1_addWordProduct ck_X1_addWordProduct⟩
set_option maxRecDepth 100000 in
theorem ck_X1_raise : ckT 1 5 false cX1_raise none tX1_raise 0 = some 47 := by decide +kernel
theorem ok_X1_raise : am_okM am_tb qX1_raise := ⟨by decide +kernel, 47, ckT_ok tX1_raise ck_X1_raise⟩
set_option maxRecDepth 100000 in
theorem ck_X1_adjoin : ckT 1 5 false cX1_adjoin none tX1_adjoin 0 = some 99 := by decide +kernel
theorem ok_X1_adjoin : am_okM am_tb qX1_adjoin := ⟨by decide +kernel, 99, ckT_ok tX1_adjoin ck_X1_adjoin⟩
set_option maxRecDepth 100000 in
theorem ck_X2_init : ckT 2 2 true cX2_init none tX2_init 0 = some 71 := by decide +kernel
theorem ok_X2_init : am_okM am_tb qX2_init := ⟨by decide +kernel, 71, ckT_ok tX2_init ck_X2_init⟩
set_option maxRecDepth 100000 in
theorem ck_X2_covers : ckT 2 4 false cX2_covers (some .boolean) tX2_covers 0 = some 40 := by decide +kernel
theorem ok_X2_covers : am_okM am_tb qX2_covers := ⟨by decide +kernel, 40, ckT_ok tX2_covers ck_X2_covers⟩
set_option maxRecDepth 100000 in
theorem ck_X2_isFor : ckT 2 5 false cX2_isFor (some .boolean) tX2_isFor 0 = some 70 := by decide +kernel
theorem ok_X2_isFor : am_okM am_tb qX2_isFor := ⟨by decide +kernel, 70, ckT_ok tX2_isFor ck_X2_isFor⟩
set_option maxRecDepth 100000 in
theorem ck_X2_begin : ckT 2 5 false cX2_begin none tX2_begin 0 = some 64 := by decide +kernel
theorem ok_X2_begin : am_okM am_tb qX2_begin := ⟨by decide +kernel, 64, ckT_ok tX2_begin ck_X2_begin⟩
set_option maxRecDepth 100000 in
theorem ck_X2_add : ckT 2 3 false cX2_add none tX2_add 0 = some 74 := by decide +kernel
theorem ok_X2_add : am_okM am_tb qX2_add := ⟨by decide +kernel, 74, ckT_ok tX2_add ck_X2_add⟩
set_option maxRecDepth 100000 in
theorem ck_X2_sourceCell : ckT 2 4 false cX2_sourceCell (some .int) tX2_sourceCell 0 = some 24 := by decide +kernel
theorem ok_X2_sourceCell : am_okM am_tb qX2_sourceCell := ⟨by decide +kernel, 24, ckT_ok tX2_sourceCell ck_X2_sourceCell⟩
set_option maxRecDepth 100000 in
theorem ck_X3_init : ckT 3 4 true cX3_init none tX3_init 0 = some 129 := by decide +kernel
theorem ok_X3_init : am_okM am_tb qX3_init := ⟨by decide +kernel, 129, ckT_ok tX3_init ck_X3_init⟩
set_option maxRecDepth 100000 in
theorem ck_X3_find : ckT 3 4 false cX3_find (some (.object "WeylWords$Basis")) tX3_find 0 = some 83 := by decide +kernel
theorem ok_X3_find : am_okM am_tb qX3_find := ⟨by decide +kernel, 83, ckT_ok tX3_find ck_X3_find⟩
set_option maxRecDepth 100000 in
theorem ck_X3_gather : ckT 3 4 false cX3_gather none tX3_gather 0 = some 69 := by decide +kernel
theorem ok_X3_gather : am_okM am_tb qX3_gather := ⟨by decide +kernel, 69, ckT_ok tX3_gather ck_X3_gather⟩
set_option maxRecDepth 100000 in
theorem ck_X3_complete : ckT 3 3 false cX3_complete none tX3_complete 0 = some 51 := by decide +kernel
theorem ok_X3_complete : am_okM am_tb qX3_complete := ⟨by decide +kernel, 51, ckT_ok tX3_complete ck_X3_complete⟩
set_option maxRecDepth 100000 in
theorem ck_X3_absorb : ckT 3 6 false cX3_absorb none tX3_absorb 0 = some 206 := by decide +kernel
theorem ok_X3_absorb : am_okM am_tb qX3_absorb := ⟨by decide +kernel, 206, ckT_ok tX3_absorb ck_X3_absorb⟩
set_option maxRecDepth 100000 in
theorem ck_X3_dismiss : ckT 3 4 false cX3_dismiss none tX3_dismiss 0 = some 117 := by decide +kernel
theorem ok_X3_dismiss : am_okM am_tb qX3_dismiss := ⟨by decide +kernel, 117, ckT_ok tX3_dismiss ck_X3_dismiss⟩
set_option maxRecDepth 100000 in
theorem ck_X3_admit : ckT 3 5 false cX3_admit none tX3_admit 0 = some 163 := by decide +kernel
theorem ok_X3_admit : am_okM am_tb qX3_admit := ⟨by decide +kernel, 163, ckT_ok tX3_admit ck_X3_admit⟩
set_option maxRecDepth 100000 in
theorem ck_X3_unsettle : ckT 3 2 false cX3_unsettle none tX3_unsettle 0 = some 12 := by decide +kernel
theorem ok_X3_unsettle : am_okM am_tb qX3_unsettle := ⟨by decide +kernel, 12, ckT_ok tX3_unsettle ck_X3_unsettle⟩
set_option maxRecDepth 100000 in
theorem ck_X3_cheapestPair : ckT 3 5 false cX3_cheapestPair (some .int) tX3_cheapestPair 0 = some 62 := by decide +kernel
theorem ok_X3_cheapestPair : am_okM am_tb qX3_cheapestPair := ⟨by decide +kernel, 62, ckT_ok tX3_cheapestPair ck_X3_cheapestPair⟩
set_option maxRecDepth 100000 in
theorem ck_X3_cross : ckT 3 7 false cX3_cross none tX3_cross 0 = some 125 := by decide +kernel
theorem ok_X3_cross : am_okM am_tb qX3_cross := ⟨by decide +kernel, 125, ckT_ok tX3_cross ck_X3_cross⟩
set_option maxRecDepth 100000 in
theorem ck_X3_reduceTails : ckT 3 3 false cX3_reduceTails none tX3_reduceTails 0 = some 75 := by decide +kernel
theorem ok_X3_reduceTails : am_okM am_tb qX3_reduceTails := ⟨by decide +kernel, 75, ckT_ok tX3_reduceTails ck_X3_reduceTails⟩
set_option maxRecDepth 100000 in
theorem ck_X3_handOver : ckT 3 8 false cX3_handOver none tX3_handOver 0 = some 110 := by decide +kernel
theorem ok_X3_handOver : am_okM am_tb qX3_handOver := ⟨by decide +kernel, 110, ckT_ok tX3_handOver ck_X3_handOver⟩
set_option maxRecDepth 100000 in
theorem ck_X4_init : ckT 4 2 true cX4_init none tX4_init 0 = some 61 := by decide +kernel
theorem ok_X4_init : am_okM am_tb qX4_init := ⟨by decide +kernel, 61, ckT_ok tX4_init ck_X4_init⟩
set_option maxRecDepth 100000 in
theorem ck_X4_begin : ckT 4 2 false cX4_begin none tX4_begin 0 = some 11 := by decide +kernel
theorem ok_X4_begin : am_okM am_tb qX4_begin := ⟨by decide +kernel, 11, ckT_ok tX4_begin ck_X4_begin⟩
set_option maxRecDepth 100000 in
theorem ck_X4_take : ckT 4 3 false cX4_take none tX4_take 0 = some 103 := by decide +kernel
theorem ok_X4_take : am_okM am_tb qX4_take := ⟨by decide +kernel, 103, ckT_ok tX4_take ck_X4_take⟩
set_option maxRecDepth 100000 in
theorem ck_X4_reduce : ckT 4 5 false cX4_reduce none tX4_reduce 0 = some 57 := by decide +kernel
theorem ok_X4_reduce : am_okM am_tb qX4_reduce := ⟨by decide +kernel, 57, ckT_ok tX4_reduce ck_X4_reduce⟩
set_option maxRecDepth 100000 in
theorem ck_X4_cancel : ckT 4 8 false cX4_cancel none tX4_cancel 0 = some 130 := by decide +kernel
theorem ok_X4_cancel : am_okM am_tb qX4_cancel := ⟨by decide +kernel, 130, ckT_ok tX4_cancel ck_X4_cancel⟩
set_option maxRecDepth 100000 in
theorem ck_X5_init : ckT 5 2 true cX5_init none tX5_init 0 = some 49 := by decide +kernel
theorem ok_X5_init : am_okM am_tb qX5_init := ⟨by decide +kernel, 49, ckT_ok tX5_init ck_X5_init⟩
set_option maxRecDepth 100000 in
theorem ck_X5_keep : ckT 5 2 false cX5_keep none tX5_keep 0 = some 40 := by decide +kernel
theorem ok_X5_keep : am_okM am_tb qX5_keep := ⟨by decide +kernel, 40, ckT_ok tX5_keep ck_X5_keep⟩
set_option maxRecDepth 100000 in
theorem ck_X5_restore : ckT 5 2 false cX5_restore none tX5_restore 0 = some 45 := by decide +kernel
theorem ok_X5_restore : am_okM am_tb qX5_restore := ⟨by decide +kernel, 45, ckT_ok tX5_restore ck_X5_restore⟩
set_option maxRecDepth 100000 in
theorem ck_X6_init : ckT 6 1 true cX6_init none tX6_init 0 = some 13 := by decide +kernel
theorem ok_X6_init : am_okM am_tb qX6_init := ⟨by decide +kernel, 13, ckT_ok tX6_init ck_X6_init⟩
set_option maxRecDepth 100000 in
theorem ck_X6_isWord : ckT 6 2 false cX6_isWord (some .boolean) tX6_isWord 0 = some 34 := by decide +kernel
theorem ok_X6_isWord : am_okM am_tb qX6_isWord := ⟨by decide +kernel, 34, ckT_ok tX6_isWord ck_X6_isWord⟩
set_option maxRecDepth 100000 in
theorem ck_X6_firstPlace : ckT 6 1 false cX6_firstPlace (some .int) tX6_firstPlace 0 = some 8 := by decide +kernel
theorem ok_X6_firstPlace : am_okM am_tb qX6_firstPlace := ⟨by decide +kernel, 8, ckT_ok tX6_firstPlace ck_X6_firstPlace⟩
set_option maxRecDepth 100000 in
theorem ck_X6_placeOf : ckT 6 2 false cX6_placeOf (some .int) tX6_placeOf 0 = some 9 := by decide +kernel
theorem ok_X6_placeOf : am_okM am_tb qX6_placeOf := ⟨by decide +kernel, 9, ckT_ok tX6_placeOf ck_X6_placeOf⟩
set_option maxRecDepth 100000 in
theorem ck_X6_degreeAt : ckT 6 1 false cX6_degreeAt (some .int) tX6_degreeAt 0 = some 12 := by decide +kernel
theorem ok_X6_degreeAt : am_okM am_tb qX6_degreeAt := ⟨by decide +kernel, 12, ckT_ok tX6_degreeAt ck_X6_degreeAt⟩
set_option maxRecDepth 100000 in
theorem ck_X6_rankedPlace : ckT 6 3 false cX6_rankedPlace (some .int) tX6_rankedPlace 0 = some 17 := by decide +kernel
theorem ok_X6_rankedPlace : am_okM am_tb qX6_rankedPlace := ⟨by decide +kernel, 17, ckT_ok tX6_rankedPlace ck_X6_rankedPlace⟩
set_option maxRecDepth 100000 in
theorem ck_X6_height : ckT 6 2 false cX6_height (some .int) tX6_height 0 = some 26 := by decide +kernel
theorem ok_X6_height : am_okM am_tb qX6_height := ⟨by decide +kernel, 26, ckT_ok tX6_height ck_X6_height⟩
set_option maxRecDepth 100000 in
theorem ck_X6_coefficient : ckT 6 3 false cX6_coefficient (some .int) tX6_coefficient 0 = some 23 := by decide +kernel
theorem ok_X6_coefficient : am_okM am_tb qX6_coefficient := ⟨by decide +kernel, 23, ckT_ok tX6_coefficient ck_X6_coefficient⟩
set_option maxRecDepth 100000 in
theorem ck_X6_setCoefficient : ckT 6 4 false cX6_setCoefficient none tX6_setCoefficient 0 = some 20 := by decide +kernel
theorem ok_X6_setCoefficient : am_okM am_tb qX6_setCoefficient := ⟨by decide +kernel, 20, ckT_ok tX6_setCoefficient ck_X6_setCoefficient⟩
set_option maxRecDepth 100000 in
theorem ck_X6_makeZero : ckT 6 1 false cX6_makeZero none tX6_makeZero 0 = some 9 := by decide +kernel
theorem ok_X6_makeZero : am_okM am_tb qX6_makeZero := ⟨by decide +kernel, 9, ckT_ok tX6_makeZero ck_X6_makeZero⟩
set_option maxRecDepth 100000 in
theorem ck_X6_makeNumber : ckT 6 2 false cX6_makeNumber none tX6_makeNumber 0 = some 12 := by decide +kernel
theorem ok_X6_makeNumber : am_okM am_tb qX6_makeNumber := ⟨by decide +kernel, 12, ckT_ok tX6_makeNumber ck_X6_makeNumber⟩
set_option maxRecDepth 100000 in
theorem ck_X6_copyFrom : ckT 6 2 false cX6_copyFrom none tX6_copyFrom 0 = some 16 := by decide +kernel
theorem ok_X6_copyFrom : am_okM am_tb qX6_copyFrom := ⟨by decide +kernel, 16, ckT_ok tX6_copyFrom ck_X6_copyFrom⟩
set_option maxRecDepth 100000 in
theorem ck_X6_addMultiple : ckT 6 4 false cX6_addMultiple none tX6_addMultiple 0 = some 40 := by decide +kernel
theorem ok_X6_addMultiple : am_okM am_tb qX6_addMultiple := ⟨by decide +kernel, 40, ckT_ok tX6_addMultiple ck_X6_addMultiple⟩
set_option maxRecDepth 100000 in
theorem ck_X6_scale : ckT 6 3 false cX6_scale none tX6_scale 0 = some 33 := by decide +kernel
theorem ok_X6_scale : am_okM am_tb qX6_scale := ⟨by decide +kernel, 33, ckT_ok tX6_scale ck_X6_scale⟩
set_option maxRecDepth 100000 in
theorem ck_X6_countTerms : ckT 6 6 false cX6_countTerms (some .int) tX6_countTerms 0 = some 41 := by decide +kernel
theorem ok_X6_countTerms : am_okM am_tb qX6_countTerms := ⟨by decide +kernel, 41, ckT_ok tX6_countTerms ck_X6_countTerms⟩
set_option maxRecDepth 100000 in
theorem ck_X6_extent : ckT 6 2 false cX6_extent (some .int) tX6_extent 0 = some 28 := by decide +kernel
theorem ok_X6_extent : am_okM am_tb qX6_extent := ⟨by decide +kernel, 28, ckT_ok tX6_extent ck_X6_extent⟩
end
section
/-! Each method is its tree. Written by wip/whole/gen_prog.py. -/
set_option maxRecDepth 100000 in
theorem ck_X6_isZero : ckT 6 1 false cX6_isZero (some .boolean) tX6_isZero 0 = some 13 := by decide +kernel
theorem ok_X6_isZero : am_okM am_tb qX6_isZero := ⟨by decide +kernel, 13, ckT_ok tX6_isZero ck_X6_isZero⟩
set_option maxRecDepth 100000 in
theorem ck_X6_degree : ckT 6 2 false cX6_degree (some .int) tX6_degree 0 = some 20 := by decide +kernel
theorem ok_X6_degree : am_okM am_tb qX6_degree := ⟨by decide +kernel, 20, ckT_ok tX6_degree ck_X6_degree⟩
set_option maxRecDepth 100000 in
theorem ck_X6_leadPlace : ckT 6 5 false cX6_leadPlace (some .int) tX6_leadPlace 0 = some 41 := by decide +kernel
theorem ok_X6_leadPlace : am_okM am_tb qX6_leadPlace := ⟨by decide +kernel, 41, ckT_ok tX6_leadPlace ck_X6_leadPlace⟩
set_option maxRecDepth 100000 in
theorem ck_X6_property : ckT 6 4 false cX6_property (some .int) tX6_property 0 = some 127 := by decide +kernel
theorem ok_X6_property : am_okM am_tb qX6_property := ⟨by decide +kernel, 127, ckT_ok tX6_property ck_X6_property⟩
set_option maxRecDepth 100000 in
theorem ck_X6_greatest : ckT 6 5 false cX6_greatest (some .int) tX6_greatest 0 = some 64 := by decide +kernel
theorem ok_X6_greatest : am_okM am_tb qX6_greatest := ⟨by decide +kernel, 64, ckT_ok tX6_greatest ck_X6_greatest⟩
set_option maxRecDepth 100000 in
theorem ck_X6_measure : ckT 6 3 false cX6_measure (some .int) tX6_measure 0 = some 40 := by decide +kernel
theorem ok_X6_measure : am_okM am_tb qX6_measure := ⟨by decide +kernel, 40, ckT_ok tX6_measure ck_X6_measure⟩
set_option maxRecDepth 100000 in
theorem ck_X7_init : ckT 7 4 true cX7_init none tX7_init 0 = some 100 := by decide +kernel
theorem ok_X7_init : am_okM am_tb qX7_init := ⟨by decide +kernel, 100, ckT_ok tX7_init ck_X7_init⟩
set_option maxRecDepth 100000 in
theorem ck_X7_evaluate : ckT 7 2 false cX7_evaluate (some .boolean) tX7_evaluate 0 = some 27 := by decide +kernel
theorem ok_X7_evaluate : am_okM am_tb qX7_evaluate := ⟨by decide +kernel, 27, ckT_ok tX7_evaluate ck_X7_evaluate⟩
set_option maxRecDepth 100000 in
theorem ck_X7_readExpression : ckT 7 5 false cX7_readExpression (some .boolean) tX7_readExpression 0 = some 138 := by decide +kernel
theorem ok_X7_readExpression : am_okM am_tb qX7_readExpression := ⟨by decide +kernel, 138, ckT_ok tX7_readExpression ck_X7_readExpression⟩
set_option maxRecDepth 100000 in
theorem ck_X7_readTerm : ckT 7 4 false cX7_readTerm (some .boolean) tX7_readTerm 0 = some 102 := by decide +kernel
theorem ok_X7_readTerm : am_okM am_tb qX7_readTerm := ⟨by decide +kernel, 102, ckT_ok tX7_readTerm ck_X7_readTerm⟩
set_option maxRecDepth 100000 in
theorem ck_X7_readFactor : ckT 7 4 false cX7_readFactor (some .boolean) tX7_readFactor 0 = some 214 := by decide +kernel
theorem ok_X7_readFactor : am_okM am_tb qX7_readFactor := ⟨by decide +kernel, 214, ckT_ok tX7_readFactor ck_X7_readFactor⟩
set_option maxRecDepth 100000 in
theorem ck_X7_readNumber : ckT 7 4 false cX7_readNumber (some .int) tX7_readNumber 0 = some 38 := by decide +kernel
theorem ok_X7_readNumber : am_okM am_tb qX7_readNumber := ⟨by decide +kernel, 38, ckT_ok tX7_readNumber ck_X7_readNumber⟩
set_option maxRecDepth 100000 in
theorem ck_X7_peek : ckT 7 1 false cX7_peek (some .int) tX7_peek 0 = some 55 := by decide +kernel
theorem ok_X7_peek : am_okM am_tb qX7_peek := ⟨by decide +kernel, 55, ckT_ok tX7_peek ck_X7_peek⟩
set_option maxRecDepth 100000 in
theorem ck_X8_init : ckT 8 2 true cX8_init none tX8_init 0 = some 57 := by decide +kernel
theorem ok_X8_init : am_okM am_tb qX8_init := ⟨by decide +kernel, 57, ckT_ok tX8_init ck_X8_init⟩
set_option maxRecDepth 100000 in
theorem ck_X8_copyFrom : ckT 8 3 false cX8_copyFrom none tX8_copyFrom 0 = some 70 := by decide +kernel
theorem ok_X8_copyFrom : am_okM am_tb qX8_copyFrom := ⟨by decide +kernel, 70, ckT_ok tX8_copyFrom ck_X8_copyFrom⟩
set_option maxRecDepth 100000 in
theorem ck_X9_init : ckT 9 1 true cX9_init none tX9_init 0 = some 28 := by decide +kernel
theorem ok_X9_init : am_okM am_tb qX9_init := ⟨by decide +kernel, 28, ckT_ok tX9_init ck_X9_init⟩
set_option maxRecDepth 100000 in
theorem ck_X9_append : ckT 9 2 false cX9_append none tX9_append 0 = some 30 := by decide +kernel
theorem ok_X9_append : am_okM am_tb qX9_append := ⟨by decide +kernel, 30, ckT_ok tX9_append ck_X9_append⟩
set_option maxRecDepth 100000 in
theorem ck_X9_byteAt : ckT 9 2 false cX9_byteAt (some .int) tX9_byteAt 0 = some 29 := by decide +kernel
theorem ok_X9_byteAt : am_okM am_tb qX9_byteAt := ⟨by decide +kernel, 29, ckT_ok tX9_byteAt ck_X9_byteAt⟩
set_option maxRecDepth 100000 in
theorem ck_X9_isDigit : ckT 9 3 false cX9_isDigit (some .boolean) tX9_isDigit 0 = some 24 := by decide +kernel
theorem ok_X9_isDigit : am_okM am_tb qX9_isDigit := ⟨by decide +kernel, 24, ckT_ok tX9_isDigit ck_X9_isDigit⟩
set_option maxRecDepth 100000 in
theorem ck_X9_fault : ckT 9 4 false cX9_fault (some .int) tX9_fault 0 = some 108 := by decide +kernel
theorem ok_X9_fault : am_okM am_tb qX9_fault := ⟨by decide +kernel, 108, ckT_ok tX9_fault ck_X9_fault⟩
set_option maxRecDepth 100000 in
theorem ck_X9_pass : ckT 9 2 false cX9_pass (some .int) tX9_pass 0 = some 79 := by decide +kernel
theorem ok_X9_pass : am_okM am_tb qX9_pass := ⟨by decide +kernel, 79, ckT_ok tX9_pass ck_X9_pass⟩
set_option maxRecDepth 100000 in
theorem ck_X9_passOperand : ckT 9 4 false cX9_passOperand (some .int) tX9_passOperand 0 = some 100 := by decide +kernel
theorem ok_X9_passOperand : am_okM am_tb qX9_passOperand := ⟨by decide +kernel, 100, ckT_ok tX9_passOperand ck_X9_passOperand⟩
set_option maxRecDepth 100000 in
theorem ck_X9_passExponent : ckT 9 3 false cX9_passExponent (some .int) tX9_passExponent 0 = some 50 := by decide +kernel
theorem ok_X9_passExponent : am_okM am_tb qX9_passExponent := ⟨by decide +kernel, 50, ckT_ok tX9_passExponent ck_X9_passExponent⟩
set_option maxRecDepth 100000 in
theorem ck_X9_passLink : ckT 9 3 false cX9_passLink (some .int) tX9_passLink 0 = some 93 := by decide +kernel
theorem ok_X9_passLink : am_okM am_tb qX9_passLink := ⟨by decide +kernel, 93, ckT_ok tX9_passLink ck_X9_passLink⟩
set_option maxRecDepth 100000 in
theorem ck_X9_countDigits : ckT 9 4 false cX9_countDigits (some .int) tX9_countDigits 0 = some 25 := by decide +kernel
theorem ok_X9_countDigits : am_okM am_tb qX9_countDigits := ⟨by decide +kernel, 25, ckT_ok tX9_countDigits ck_X9_countDigits⟩
set_option maxRecDepth 100000 in
theorem ck_X9_valueOf : ckT 9 5 false cX9_valueOf (some .int) tX9_valueOf 0 = some 36 := by decide +kernel
theorem ok_X9_valueOf : am_okM am_tb qX9_valueOf := ⟨by decide +kernel, 36, ckT_ok tX9_valueOf ck_X9_valueOf⟩
set_option maxRecDepth 100000 in
theorem ck_X10_init : ckT 10 1 true cX10_init none tX10_init 0 = some 18 := by decide +kernel
theorem ok_X10_init : am_okM am_tb qX10_init := ⟨by decide +kernel, 18, ckT_ok tX10_init ck_X10_init⟩
set_option maxRecDepth 100000 in
theorem ck_X10_byteAt : ckT 10 9 false cX10_byteAt (some .int) tX10_byteAt 0 = some 138 := by decide +kernel
theorem ok_X10_byteAt : am_okM am_tb qX10_byteAt := ⟨by decide +kernel, 138, ckT_ok tX10_byteAt ck_X10_byteAt⟩
set_option maxRecDepth 100000 in
theorem ck_X10_writeTerm : ckT 10 8 false cX10_writeTerm none tX10_writeTerm 0 = some 110 := by decide +kernel
theorem ok_X10_writeTerm : am_okM am_tb qX10_writeTerm := ⟨by decide +kernel, 110, ckT_ok tX10_writeTerm ck_X10_writeTerm⟩
set_option maxRecDepth 100000 in
theorem ck_X10_writeLetter : ckT 10 4 false cX10_writeLetter none tX10_writeLetter 0 = some 37 := by decide +kernel
theorem ok_X10_writeLetter : am_okM am_tb qX10_writeLetter := ⟨by decide +kernel, 37, ckT_ok tX10_writeLetter ck_X10_writeLetter⟩
set_option maxRecDepth 100000 in
theorem ck_X10_writeNumber : ckT 10 5 false cX10_writeNumber none tX10_writeNumber 0 = some 55 := by decide +kernel
theorem ok_X10_writeNumber : am_okM am_tb qX10_writeNumber := ⟨by decide +kernel, 55, ckT_ok tX10_writeNumber ck_X10_writeNumber⟩
set_option maxRecDepth 100000 in
theorem ck_X10_write : ckT 10 2 false cX10_write none tX10_write 0 = some 33 := by decide +kernel
theorem ok_X10_write : am_okM am_tb qX10_write := ⟨by decide +kernel, 33, ckT_ok tX10_write ck_X10_write⟩
set_option maxRecDepth 100000 in
theorem ck_X11_init : ckT 11 1 true cX11_init none tX11_init 0 = some 154 := by decide +kernel
theorem ok_X11_init : am_okM am_tb qX11_init := ⟨by decide +kernel, 154, ckT_ok tX11_init ck_X11_init⟩
set_option maxRecDepth 100000 in
theorem ck_X11_sets : ckT 11 7 false cX11_sets (some .int) tX11_sets 0 = some 69 := by decide +kernel
theorem ok_X11_sets : am_okM am_tb qX11_sets := ⟨by decide +kernel, 69, ckT_ok tX11_sets ck_X11_sets⟩
set_option maxRecDepth 100000 in
theorem ck_X11_at : ckT 11 4 false cX11_at (some .int) tX11_at 0 = some 38 := by decide +kernel
theorem ok_X11_at : am_okM am_tb qX11_at := ⟨by decide +kernel, 38, ckT_ok tX11_at ck_X11_at⟩
set_option maxRecDepth 100000 in
theorem ck_X11_sums : ckT 11 6 false cX11_sums (some .int) tX11_sums 0 = some 82 := by decide +kernel
theorem ok_X11_sums : am_okM am_tb qX11_sums := ⟨by decide +kernel, 82, ckT_ok tX11_sums ck_X11_sums⟩
set_option maxRecDepth 100000 in
theorem ck_X11_times : ckT 11 6 false cX11_times (some .int) tX11_times 0 = some 92 := by decide +kernel
theorem ok_X11_times : am_okM am_tb qX11_times := ⟨by decide +kernel, 92, ckT_ok tX11_times ck_X11_times⟩
set_option maxRecDepth 100000 in
theorem ck_X11_bracket : ckT 11 6 false cX11_bracket (some .int) tX11_bracket 0 = some 110 := by decide +kernel
theorem ok_X11_bracket : am_okM am_tb qX11_bracket := ⟨by decide +kernel, 110, ckT_ok tX11_bracket ck_X11_bracket⟩
set_option maxRecDepth 100000 in
theorem ck_X11_power : ckT 11 5 false cX11_power (some .int) tX11_power 0 = some 74 := by decide +kernel
theorem ok_X11_power : am_okM am_tb qX11_power := ⟨by decide +kernel, 74, ckT_ok tX11_power ck_X11_power⟩
set_option maxRecDepth 100000 in
theorem ck_X11_reversed : ckT 11 3 false cX11_reversed (some .int) tX11_reversed 0 = some 45 := by decide +kernel
theorem ok_X11_reversed : am_okM am_tb qX11_reversed := ⟨by decide +kernel, 45, ckT_ok tX11_reversed ck_X11_reversed⟩
set_option maxRecDepth 100000 in
theorem ck_X11_of : ckT 11 3 false cX11_of (some .int) tX11_of 0 = some 43 := by decide +kernel
theorem ok_X11_of : am_okM am_tb qX11_of := ⟨by decide +kernel, 43, ckT_ok tX11_of ck_X11_of⟩
set_option maxRecDepth 100000 in
theorem ck_X11_order : ckT 11 3 false cX11_order (some .int) tX11_order 0 = some 43 := by decide +kernel
theorem ok_X11_order : am_okM am_tb qX11_order := ⟨by decide +kernel, 43, ckT_ok tX11_order ck_X11_order⟩
set_option maxRecDepth 100000 in
theorem ck_X11_puts : ckT 11 5 false cX11_puts (some .int) tX11_puts 0 = some 64 := by decide +kernel
theorem ok_X11_puts : am_okM am_tb qX11_puts := ⟨by decide +kernel, 64, ckT_ok tX11_puts ck_X11_puts⟩
set_option maxRecDepth 100000 in
theorem ck_X11_rate : ckT 11 3 false cX11_rate (some .int) tX11_rate 0 = some 34 := by decide +kernel
theorem ok_X11_rate : am_okM am_tb qX11_rate := ⟨by decide +kernel, 34, ckT_ok tX11_rate ck_X11_rate⟩
set_option maxRecDepth 100000 in
theorem ck_X11_makes : ckT 11 7 false cX11_makes (some .int) tX11_makes 0 = some 138 := by decide +kernel
theorem ok_X11_makes : am_okM am_tb qX11_makes := ⟨by decide +kernel, 138, ckT_ok tX11_makes ck_X11_makes⟩
set_option maxRecDepth 100000 in
theorem ck_X11_kernel : ckT 11 3 false cX11_kernel (some .int) tX11_kernel 0 = some 40 := by decide +kernel
theorem ok_X11_kernel : am_okM am_tb qX11_kernel := ⟨by decide +kernel, 40, ckT_ok tX11_kernel ck_X11_kernel⟩
set_option maxRecDepth 100000 in
theorem ck_X11_kills : ckT 11 6 false cX11_kills (some .int) tX11_kills 0 = some 128 := by decide +kernel
theorem ok_X11_kills : am_okM am_tb qX11_kills := ⟨by decide +kernel, 128, ckT_ok tX11_kills ck_X11_kills⟩
set_option maxRecDepth 100000 in
theorem ck_X11_rest : ckT 11 5 false cX11_rest (some .int) tX11_rest 0 = some 161 := by decide +kernel
theorem ok_X11_rest : am_okM am_tb qX11_rest := ⟨by decide +kernel, 161, ckT_ok tX11_rest ck_X11_rest⟩
set_option maxRecDepth 100000 in
theorem ck_X11_basis : ckT 11 2 false cX11_basis (some .int) tX11_basis 0 = some 41 := by decide +kernel
theorem ok_X11_basis : am_okM am_tb qX11_basis := ⟨by decide +kernel, 41, ckT_ok tX11_basis ck_X11_basis⟩
set_option maxRecDepth 100000 in
theorem ck_X11_based : ckT 11 7 false cX11_based (some .int) tX11_based 0 = some 107 := by decide +kernel
theorem ok_X11_based : am_okM am_tb qX11_based := ⟨by decide +kernel, 107, ckT_ok tX11_based ck_X11_based⟩
set_option maxRecDepth 100000 in
theorem ck_X11_stairs : ckT 11 6 false cX11_stairs (some .int) tX11_stairs 0 = some 85 := by decide +kernel
theorem ok_X11_stairs : am_okM am_tb qX11_stairs := ⟨by decide +kernel, 85, ckT_ok tX11_stairs ck_X11_stairs⟩
set_option maxRecDepth 100000 in
theorem ck_X11_within : ckT 11 5 false cX11_within (some .int) tX11_within 0 = some 134 := by decide +kernel
theorem ok_X11_within : am_okM am_tb qX11_within := ⟨by decide +kernel, 134, ckT_ok tX11_within ck_X11_within⟩
set_option maxRecDepth 100000 in
theorem ck_X11_type : ckT 11 2 false cX11_type (some .int) tX11_type 0 = some 48 := by decide +kernel
theorem ok_X11_type : am_okM am_tb qX11_type := ⟨by decide +kernel, 48, ckT_ok tX11_type ck_X11_type⟩
set_option maxRecDepth 100000 in
theorem ck_X11_clear : ckT 11 2 false cX11_clear (some .int) tX11_clear 0 = some 18 := by decide +kernel
theorem ok_X11_clear : am_okM am_tb qX11_clear := ⟨by decide +kernel, 18, ckT_ok tX11_clear ck_X11_clear⟩
set_option maxRecDepth 100000 in
theorem ck_X11_reads : ckT 11 3 false cX11_reads (some .int) tX11_reads 0 = some 55 := by decide +kernel
theorem ok_X11_reads : am_okM am_tb qX11_reads := ⟨by decide +kernel, 55, ckT_ok tX11_reads ck_X11_reads⟩
set_option maxRecDepth 100000 in
theorem ck_X11_shown : ckT 11 3 false cX11_shown (some .int) tX11_shown 0 = some 41 := by decide +kernel
theorem ok_X11_shown : am_okM am_tb qX11_shown := ⟨by decide +kernel, 41, ckT_ok tX11_shown ck_X11_shown⟩
set_option maxRecDepth 100000 in
theorem ck_X11_back : ckT 11 1 false cX11_back (some .int) tX11_back 0 = some 34 := by decide +kernel
theorem ok_X11_back : am_okM am_tb qX11_back := ⟨by decide +kernel, 34, ckT_ok tX11_back ck_X11_back⟩
set_option maxRecDepth 100000 in
theorem ck_X11_told : ckT 11 2 false cX11_told (some .int) tX11_told 0 = some 84 := by decide +kernel
theorem ok_X11_told : am_okM am_tb qX11_told := ⟨by decide +kernel, 84, ckT_ok tX11_told ck_X11_told⟩
set_option maxRecDepth 100000 in
theorem ck_X11_digest : ckT 11 6 false cX11_digest (some .long) tX11_digest 0 = some 132 := by decide +kernel
theorem ok_X11_digest : am_okM am_tb qX11_digest := ⟨by decide +kernel, 132, ckT_ok tX11_digest ck_X11_digest⟩
set_option maxRecDepth 100000 in
theorem ck_X11_mixed : ckT 11 9 false cX11_mixed (some .long) tX11_mixed 0 = some 48 := by decide +kernel
theorem ok_X11_mixed : am_okM am_tb qX11_mixed := ⟨by decide +kernel, 48, ckT_ok tX11_mixed ck_X11_mixed⟩
end
section
/-! Each method is its tree. Written by wip/whole/gen_prog.py. -/
set_option maxRecDepth 100000 in
theorem ck_X11_replaceOperator : ckT 11 2 false cX11_replaceOperator (some .int) tX11_replaceOperator 0 = some 35 := by decide +kernel
theorem ok_X11_replaceOperator : am_okM am_tb qX11_replaceOperator := ⟨by decide +kernel, 35, ckT_ok tX11_replaceOperator ck_X11_replaceOperator⟩
set_option maxRecDepth 100000 in
theorem ck_X11_bad : ckT 11 1 false cX11_bad (some .int) tX11_bad 0 = some 14 := by decide +kernel
theorem ok_X11_bad : am_okM am_tb qX11_bad := ⟨by decide +kernel, 14, ckT_ok tX11_bad ck_X11_bad⟩
set_option maxRecDepth 100000 in
theorem ck_X11_no : ckT 11 1 false cX11_no (some .int) tX11_no 0 = some 14 := by decide +kernel
theorem ok_X11_no : am_okM am_tb qX11_no := ⟨by decide +kernel, 14, ckT_ok tX11_no ck_X11_no⟩
set_option maxRecDepth 100000 in
theorem ck_X11_full : ckT 11 1 false cX11_full (some .int) tX11_full 0 = some 14 := by decide +kernel
theorem ok_X11_full : am_okM am_tb qX11_full := ⟨by decide +kernel, 14, ckT_ok tX11_full ck_X11_full⟩
set_option maxRecDepth 100000 in
theorem ck_X11_hasBasis : ckT 11 3 false cX11_hasBasis (some .boolean) tX11_hasBasis 0 = some 42 := by decide +kernel
theorem ok_X11_hasBasis : am_okM am_tb qX11_hasBasis := ⟨by decide +kernel, 42, ckT_ok tX11_hasBasis ck_X11_hasBasis⟩
set_option maxRecDepth 100000 in
theorem ck_X11_isOperator : ckT 11 1 false cX11_isOperator (some .boolean) tX11_isOperator 0 = some 16 := by decide +kernel
theorem ok_X11_isOperator : am_okM am_tb qX11_isOperator := ⟨by decide +kernel, 16, ckT_ok tX11_isOperator ck_X11_isOperator⟩
set_option maxRecDepth 100000 in
theorem ck_X11_isPolynomial : ckT 11 1 false cX11_isPolynomial (some .boolean) tX11_isPolynomial 0 = some 15 := by decide +kernel
theorem ok_X11_isPolynomial : am_okM am_tb qX11_isPolynomial := ⟨by decide +kernel, 15, ckT_ok tX11_isPolynomial ck_X11_isPolynomial⟩
set_option maxRecDepth 100000 in
theorem ck_X11_isPower : ckT 11 1 false cX11_isPower (some .boolean) tX11_isPower 0 = some 16 := by decide +kernel
theorem ok_X11_isPower : am_okM am_tb qX11_isPower := ⟨by decide +kernel, 16, ckT_ok tX11_isPower ck_X11_isPower⟩
set_option maxRecDepth 100000 in
theorem ck_X11_isSet : ckT 11 1 false cX11_isSet (some .boolean) tX11_isSet 0 = some 16 := by decide +kernel
theorem ok_X11_isSet : am_okM am_tb qX11_isSet := ⟨by decide +kernel, 16, ckT_ok tX11_isSet ck_X11_isSet⟩
set_option maxRecDepth 100000 in
theorem ck_X11_isInSet : ckT 11 2 false cX11_isInSet (some .boolean) tX11_isInSet 0 = some 15 := by decide +kernel
theorem ok_X11_isInSet : am_okM am_tb qX11_isInSet := ⟨by decide +kernel, 15, ckT_ok tX11_isInSet ck_X11_isInSet⟩
set_option maxRecDepth 100000 in
theorem ck_X12_init : ckT 12 3 true cX12_init none tX12_init 0 = some 247 := by decide +kernel
theorem ok_X12_init : am_okM am_tb qX12_init := ⟨by decide +kernel, 247, ckT_ok tX12_init ck_X12_init⟩
set_option maxRecDepth 100000 in
theorem ck_X12_in : ckT 12 3 false cX12_in (some .boolean) tX12_in 0 = some 16 := by decide +kernel
theorem ok_X12_in : am_okM am_tb qX12_in := ⟨by decide +kernel, 16, ckT_ok tX12_in ck_X12_in⟩
set_option maxRecDepth 100000 in
theorem ck_X12_wordAt : ckT 12 2 false cX12_wordAt (some .int) tX12_wordAt 0 = some 14 := by decide +kernel
theorem ok_X12_wordAt : am_okM am_tb qX12_wordAt := ⟨by decide +kernel, 14, ckT_ok tX12_wordAt ck_X12_wordAt⟩
set_option maxRecDepth 100000 in
theorem ck_X12_restOf : ckT 12 2 false cX12_restOf (some .int) tX12_restOf 0 = some 20 := by decide +kernel
theorem ok_X12_restOf : am_okM am_tb qX12_restOf := ⟨by decide +kernel, 20, ckT_ok tX12_restOf ck_X12_restOf⟩
set_option maxRecDepth 100000 in
theorem ck_X12_tell : ckT 12 1 false cX12_tell (some .int) tX12_tell 0 = some 17 := by decide +kernel
theorem ok_X12_tell : am_okM am_tb qX12_tell := ⟨by decide +kernel, 17, ckT_ok tX12_tell ck_X12_tell⟩
set_option maxRecDepth 100000 in
theorem ck_X12_bad : ckT 12 1 false cX12_bad (some .int) tX12_bad 0 = some 14 := by decide +kernel
theorem ok_X12_bad : am_okM am_tb qX12_bad := ⟨by decide +kernel, 14, ckT_ok tX12_bad ck_X12_bad⟩
set_option maxRecDepth 100000 in
theorem ck_X12_no : ckT 12 1 false cX12_no (some .int) tX12_no 0 = some 14 := by decide +kernel
theorem ok_X12_no : am_okM am_tb qX12_no := ⟨by decide +kernel, 14, ckT_ok tX12_no ck_X12_no⟩
set_option maxRecDepth 100000 in
theorem ck_X12_full : ckT 12 1 false cX12_full (some .int) tX12_full 0 = some 14 := by decide +kernel
theorem ok_X12_full : am_okM am_tb qX12_full := ⟨by decide +kernel, 14, ckT_ok tX12_full ck_X12_full⟩
set_option maxRecDepth 100000 in
theorem ck_X12_remembers : ckT 12 2 false cX12_remembers none tX12_remembers 0 = some 101 := by decide +kernel
theorem ok_X12_remembers : am_okM am_tb qX12_remembers := ⟨by decide +kernel, 101, ckT_ok tX12_remembers ck_X12_remembers⟩
set_option maxRecDepth 100000 in
theorem ck_X12_back : ckT 12 2 false cX12_back (some .int) tX12_back 0 = some 68 := by decide +kernel
theorem ok_X12_back : am_okM am_tb qX12_back := ⟨by decide +kernel, 68, ckT_ok tX12_back ck_X12_back⟩
set_option maxRecDepth 100000 in
theorem ck_X12_isOperator : ckT 12 1 false cX12_isOperator (some .boolean) tX12_isOperator 0 = some 7 := by decide +kernel
theorem ok_X12_isOperator : am_okM am_tb qX12_isOperator := ⟨by decide +kernel, 7, ckT_ok tX12_isOperator ck_X12_isOperator⟩
set_option maxRecDepth 100000 in
theorem ck_X12_isWord : ckT 12 2 false cX12_isWord (some .boolean) tX12_isWord 0 = some 28 := by decide +kernel
theorem ok_X12_isWord : am_okM am_tb qX12_isWord := ⟨by decide +kernel, 28, ckT_ok tX12_isWord ck_X12_isWord⟩
set_option maxRecDepth 100000 in
theorem ck_X12_wipe : ckT 12 3 false cX12_wipe none tX12_wipe 0 = some 29 := by decide +kernel
theorem ok_X12_wipe : am_okM am_tb qX12_wipe := ⟨by decide +kernel, 29, ckT_ok tX12_wipe ck_X12_wipe⟩
set_option maxRecDepth 100000 in
theorem ck_X12_copies : ckT 12 4 false cX12_copies none tX12_copies 0 = some 40 := by decide +kernel
theorem ok_X12_copies : am_okM am_tb qX12_copies := ⟨by decide +kernel, 40, ckT_ok tX12_copies ck_X12_copies⟩
set_option maxRecDepth 100000 in
theorem ck_X12_fetches : ckT 12 4 false cX12_fetches none tX12_fetches 0 = some 43 := by decide +kernel
theorem ok_X12_fetches : am_okM am_tb qX12_fetches := ⟨by decide +kernel, 43, ckT_ok tX12_fetches ck_X12_fetches⟩
set_option maxRecDepth 100000 in
theorem ck_X12_termsIn : ckT 12 4 false cX12_termsIn (some .int) tX12_termsIn 0 = some 42 := by decide +kernel
theorem ok_X12_termsIn : am_okM am_tb qX12_termsIn := ⟨by decide +kernel, 42, ckT_ok tX12_termsIn ck_X12_termsIn⟩
set_option maxRecDepth 100000 in
theorem ck_X12_keeps : ckT 12 4 false cX12_keeps (some .int) tX12_keeps 0 = some 47 := by decide +kernel
theorem ok_X12_keeps : am_okM am_tb qX12_keeps := ⟨by decide +kernel, 47, ckT_ok tX12_keeps ck_X12_keeps⟩
set_option maxRecDepth 100000 in
theorem ck_X12_degreeIn : ckT 12 3 false cX12_degreeIn (some .int) tX12_degreeIn 0 = some 51 := by decide +kernel
theorem ok_X12_degreeIn : am_okM am_tb qX12_degreeIn := ⟨by decide +kernel, 51, ckT_ok tX12_degreeIn ck_X12_degreeIn⟩
set_option maxRecDepth 100000 in
theorem ck_X12_wordBehind : ckT 12 3 false cX12_wordBehind (some .int) tX12_wordBehind 0 = some 29 := by decide +kernel
theorem ok_X12_wordBehind : am_okM am_tb qX12_wordBehind := ⟨by decide +kernel, 29, ckT_ok tX12_wordBehind ck_X12_wordBehind⟩
set_option maxRecDepth 100000 in
theorem ck_X12_leadIn : ckT 12 5 false cX12_leadIn (some .int) tX12_leadIn 0 = some 48 := by decide +kernel
theorem ok_X12_leadIn : am_okM am_tb qX12_leadIn := ⟨by decide +kernel, 48, ckT_ok tX12_leadIn ck_X12_leadIn⟩
set_option maxRecDepth 100000 in
theorem ck_X12_adds : ckT 12 10 false cX12_adds none tX12_adds 0 = some 98 := by decide +kernel
theorem ok_X12_adds : am_okM am_tb qX12_adds := ⟨by decide +kernel, 98, ckT_ok tX12_adds ck_X12_adds⟩
set_option maxRecDepth 100000 in
theorem ck_X12_addsBehind : ckT 12 9 false cX12_addsBehind none tX12_addsBehind 0 = some 85 := by decide +kernel
theorem ok_X12_addsBehind : am_okM am_tb qX12_addsBehind := ⟨by decide +kernel, 85, ckT_ok tX12_addsBehind ck_X12_addsBehind⟩
set_option maxRecDepth 100000 in
theorem ck_X12_multiplies : ckT 12 7 false cX12_multiplies none tX12_multiplies 0 = some 80 := by decide +kernel
theorem ok_X12_multiplies : am_okM am_tb qX12_multiplies := ⟨by decide +kernel, 80, ckT_ok tX12_multiplies ck_X12_multiplies⟩
set_option maxRecDepth 100000 in
theorem ck_X12_isTooMuch : ckT 12 5 false cX12_isTooMuch (some .boolean) tX12_isTooMuch 0 = some 37 := by decide +kernel
theorem ok_X12_isTooMuch : am_okM am_tb qX12_isTooMuch := ⟨by decide +kernel, 37, ckT_ok tX12_isTooMuch ck_X12_isTooMuch⟩
set_option maxRecDepth 100000 in
theorem ck_X12_isPowerTooMuch : ckT 12 3 false cX12_isPowerTooMuch (some .boolean) tX12_isPowerTooMuch 0 = some 18 := by decide +kernel
theorem ok_X12_isPowerTooMuch : am_okM am_tb qX12_isPowerTooMuch := ⟨by decide +kernel, 18, ckT_ok tX12_isPowerTooMuch ck_X12_isPowerTooMuch⟩
set_option maxRecDepth 100000 in
theorem ck_X12_raises : ckT 12 3 false cX12_raises none tX12_raises 0 = some 55 := by decide +kernel
theorem ok_X12_raises : am_okM am_tb qX12_raises := ⟨by decide +kernel, 55, ckT_ok tX12_raises ck_X12_raises⟩
set_option maxRecDepth 100000 in
theorem ck_X12_mixes : ckT 12 7 false cX12_mixes none tX12_mixes 0 = some 68 := by decide +kernel
theorem ok_X12_mixes : am_okM am_tb qX12_mixes := ⟨by decide +kernel, 68, ckT_ok tX12_mixes ck_X12_mixes⟩
set_option maxRecDepth 100000 in
theorem ck_X12_sets : ckT 12 7 false cX12_sets (some .int) tX12_sets 0 = some 63 := by decide +kernel
theorem ok_X12_sets : am_okM am_tb qX12_sets := ⟨by decide +kernel, 63, ckT_ok tX12_sets ck_X12_sets⟩
set_option maxRecDepth 100000 in
theorem ck_X12_at : ckT 12 4 false cX12_at (some .int) tX12_at 0 = some 41 := by decide +kernel
theorem ok_X12_at : am_okM am_tb qX12_at := ⟨by decide +kernel, 41, ckT_ok tX12_at ck_X12_at⟩
set_option maxRecDepth 100000 in
theorem ck_X12_sums : ckT 12 6 false cX12_sums (some .int) tX12_sums 0 = some 69 := by decide +kernel
theorem ok_X12_sums : am_okM am_tb qX12_sums := ⟨by decide +kernel, 69, ckT_ok tX12_sums ck_X12_sums⟩
set_option maxRecDepth 100000 in
theorem ck_X12_times : ckT 12 4 false cX12_times (some .int) tX12_times 0 = some 74 := by decide +kernel
theorem ok_X12_times : am_okM am_tb qX12_times := ⟨by decide +kernel, 74, ckT_ok tX12_times ck_X12_times⟩
set_option maxRecDepth 100000 in
theorem ck_X12_bracket : ckT 12 4 false cX12_bracket (some .int) tX12_bracket 0 = some 98 := by decide +kernel
theorem ok_X12_bracket : am_okM am_tb qX12_bracket := ⟨by decide +kernel, 98, ckT_ok tX12_bracket ck_X12_bracket⟩
set_option maxRecDepth 100000 in
theorem ck_X12_power : ckT 12 4 false cX12_power (some .int) tX12_power 0 = some 64 := by decide +kernel
theorem ok_X12_power : am_okM am_tb qX12_power := ⟨by decide +kernel, 64, ckT_ok tX12_power ck_X12_power⟩
set_option maxRecDepth 100000 in
theorem ck_X12_reversed : ckT 12 5 false cX12_reversed (some .int) tX12_reversed 0 = some 108 := by decide +kernel
theorem ok_X12_reversed : am_okM am_tb qX12_reversed := ⟨by decide +kernel, 108, ckT_ok tX12_reversed ck_X12_reversed⟩
set_option maxRecDepth 100000 in
theorem ck_X12_greatest : ckT 12 7 false cX12_greatest (some .int) tX12_greatest 0 = some 75 := by decide +kernel
theorem ok_X12_greatest : am_okM am_tb qX12_greatest := ⟨by decide +kernel, 75, ckT_ok tX12_greatest ck_X12_greatest⟩
set_option maxRecDepth 100000 in
theorem ck_X12_ofLead : ckT 12 3 false cX12_ofLead (some .int) tX12_ofLead 0 = some 51 := by decide +kernel
theorem ok_X12_ofLead : am_okM am_tb qX12_ofLead := ⟨by decide +kernel, 51, ckT_ok tX12_ofLead ck_X12_ofLead⟩
set_option maxRecDepth 100000 in
theorem ck_X12_aboutOf : ckT 12 4 false cX12_aboutOf (some .int) tX12_aboutOf 0 = some 122 := by decide +kernel
theorem ok_X12_aboutOf : am_okM am_tb qX12_aboutOf := ⟨by decide +kernel, 122, ckT_ok tX12_aboutOf ck_X12_aboutOf⟩
set_option maxRecDepth 100000 in
theorem ck_X12_of : ckT 12 3 false cX12_of (some .int) tX12_of 0 = some 31 := by decide +kernel
theorem ok_X12_of : am_okM am_tb qX12_of := ⟨by decide +kernel, 31, ckT_ok tX12_of ck_X12_of⟩
set_option maxRecDepth 100000 in
theorem ck_X12_order : ckT 12 3 false cX12_order (some .int) tX12_order 0 = some 38 := by decide +kernel
theorem ok_X12_order : am_okM am_tb qX12_order := ⟨by decide +kernel, 38, ckT_ok tX12_order ck_X12_order⟩
set_option maxRecDepth 100000 in
theorem ck_X12_isPolynomial : ckT 12 1 false cX12_isPolynomial (some .boolean) tX12_isPolynomial 0 = some 7 := by decide +kernel
theorem ok_X12_isPolynomial : am_okM am_tb qX12_isPolynomial := ⟨by decide +kernel, 7, ckT_ok tX12_isPolynomial ck_X12_isPolynomial⟩
set_option maxRecDepth 100000 in
theorem ck_X12_rateAt : ckT 12 2 false cX12_rateAt (some .int) tX12_rateAt 0 = some 11 := by decide +kernel
theorem ok_X12_rateAt : am_okM am_tb qX12_rateAt := ⟨by decide +kernel, 11, ckT_ok tX12_rateAt ck_X12_rateAt⟩
set_option maxRecDepth 100000 in
theorem ck_X12_puts : ckT 12 5 false cX12_puts (some .int) tX12_puts 0 = some 58 := by decide +kernel
theorem ok_X12_puts : am_okM am_tb qX12_puts := ⟨by decide +kernel, 58, ckT_ok tX12_puts ck_X12_puts⟩
set_option maxRecDepth 100000 in
theorem ck_X12_rate : ckT 12 3 false cX12_rate (some .int) tX12_rate 0 = some 38 := by decide +kernel
theorem ok_X12_rate : am_okM am_tb qX12_rate := ⟨by decide +kernel, 38, ckT_ok tX12_rate ck_X12_rate⟩
set_option maxRecDepth 100000 in
theorem ck_X12_falls : ckT 12 4 false cX12_falls (some .int) tX12_falls 0 = some 27 := by decide +kernel
theorem ok_X12_falls : am_okM am_tb qX12_falls := ⟨by decide +kernel, 27, ckT_ok tX12_falls ck_X12_falls⟩
set_option maxRecDepth 100000 in
theorem ck_X12_greatestPower : ckT 12 3 false cX12_greatestPower (some .int) tX12_greatestPower 0 = some 28 := by decide +kernel
theorem ok_X12_greatestPower : am_okM am_tb qX12_greatestPower := ⟨by decide +kernel, 28, ckT_ok tX12_greatestPower ck_X12_greatestPower⟩
set_option maxRecDepth 100000 in
theorem ck_X12_canMake : ckT 12 9 false cX12_canMake (some .boolean) tX12_canMake 0 = some 178 := by decide +kernel
theorem ok_X12_canMake : am_okM am_tb qX12_canMake := ⟨by decide +kernel, 178, ckT_ok tX12_canMake ck_X12_canMake⟩
set_option maxRecDepth 100000 in
theorem ck_X12_makes : ckT 12 5 false cX12_makes (some .int) tX12_makes 0 = some 99 := by decide +kernel
theorem ok_X12_makes : am_okM am_tb qX12_makes := ⟨by decide +kernel, 99, ckT_ok tX12_makes ck_X12_makes⟩
set_option maxRecDepth 100000 in
theorem ck_X12_inverseOf : ckT 12 4 false cX12_inverseOf (some .int) tX12_inverseOf 0 = some 48 := by decide +kernel
theorem ok_X12_inverseOf : am_okM am_tb qX12_inverseOf := ⟨by decide +kernel, 48, ckT_ok tX12_inverseOf ck_X12_inverseOf⟩
set_option maxRecDepth 100000 in
theorem ck_X12_laysMatrix : ckT 12 8 false cX12_laysMatrix none tX12_laysMatrix 0 = some 141 := by decide +kernel
theorem ok_X12_laysMatrix : am_okM am_tb qX12_laysMatrix := ⟨by decide +kernel, 141, ckT_ok tX12_laysMatrix ck_X12_laysMatrix⟩
set_option maxRecDepth 100000 in
theorem ck_X12_addsRow : ckT 12 5 false cX12_addsRow none tX12_addsRow 0 = some 60 := by decide +kernel
theorem ok_X12_addsRow : am_okM am_tb qX12_addsRow := ⟨by decide +kernel, 60, ckT_ok tX12_addsRow ck_X12_addsRow⟩
end
section
/-! Each method is its tree. Written by wip/whole/gen_prog.py. -/
set_option maxRecDepth 100000 in
theorem ck_X12_isFree : ckT 12 7 false cX12_isFree (some .boolean) tX12_isFree 0 = some 114 := by decide +kernel
theorem ok_X12_isFree : am_okM am_tb qX12_isFree := ⟨by decide +kernel, 114, ckT_ok tX12_isFree ck_X12_isFree⟩
set_option maxRecDepth 100000 in
theorem ck_X12_kernel : ckT 12 5 false cX12_kernel (some .int) tX12_kernel 0 = some 69 := by decide +kernel
theorem ok_X12_kernel : am_okM am_tb qX12_kernel := ⟨by decide +kernel, 69, ckT_ok tX12_kernel ck_X12_kernel⟩
set_option maxRecDepth 100000 in
theorem ck_X12_kills : ckT 12 7 false cX12_kills (some .int) tX12_kills 0 = some 167 := by decide +kernel
theorem ok_X12_kills : am_okM am_tb qX12_kills := ⟨by decide +kernel, 167, ckT_ok tX12_kills ck_X12_kills⟩
set_option maxRecDepth 100000 in
theorem ck_X12_findsLeads : ckT 12 2 false cX12_findsLeads none tX12_findsLeads 0 = some 64 := by decide +kernel
theorem ok_X12_findsLeads : am_okM am_tb qX12_findsLeads := ⟨by decide +kernel, 64, ckT_ok tX12_findsLeads ck_X12_findsLeads⟩
set_option maxRecDepth 100000 in
theorem ck_X12_isBelow : ckT 12 3 false cX12_isBelow (some .boolean) tX12_isBelow 0 = some 36 := by decide +kernel
theorem ok_X12_isBelow : am_okM am_tb qX12_isBelow := ⟨by decide +kernel, 36, ckT_ok tX12_isBelow ck_X12_isBelow⟩
set_option maxRecDepth 100000 in
theorem ck_X12_firstBelow : ckT 12 3 false cX12_firstBelow (some .int) tX12_firstBelow 0 = some 32 := by decide +kernel
theorem ok_X12_firstBelow : am_okM am_tb qX12_firstBelow := ⟨by decide +kernel, 32, ckT_ok tX12_firstBelow ck_X12_firstBelow⟩
set_option maxRecDepth 100000 in
theorem ck_X12_rests : ckT 12 6 false cX12_rests none tX12_rests 0 = some 157 := by decide +kernel
theorem ok_X12_rests : am_okM am_tb qX12_rests := ⟨by decide +kernel, 157, ckT_ok tX12_rests ck_X12_rests⟩
set_option maxRecDepth 100000 in
theorem ck_X12_isSet : ckT 12 1 false cX12_isSet (some .boolean) tX12_isSet 0 = some 8 := by decide +kernel
theorem ok_X12_isSet : am_okM am_tb qX12_isSet := ⟨by decide +kernel, 8, ckT_ok tX12_isSet ck_X12_isSet⟩
set_option maxRecDepth 100000 in
theorem ck_X12_rest : ckT 12 5 false cX12_rest (some .int) tX12_rest 0 = some 153 := by decide +kernel
theorem ok_X12_rest : am_okM am_tb qX12_rest := ⟨by decide +kernel, 153, ckT_ok tX12_rest ck_X12_rest⟩
set_option maxRecDepth 100000 in
theorem ck_X12_evens : ckT 12 4 false cX12_evens none tX12_evens 0 = some 66 := by decide +kernel
theorem ok_X12_evens : am_okM am_tb qX12_evens := ⟨by decide +kernel, 66, ckT_ok tX12_evens ck_X12_evens⟩
set_option maxRecDepth 100000 in
theorem ck_X12_areAlike : ckT 12 5 false cX12_areAlike (some .boolean) tX12_areAlike 0 = some 60 := by decide +kernel
theorem ok_X12_areAlike : am_okM am_tb qX12_areAlike := ⟨by decide +kernel, 60, ckT_ok tX12_areAlike ck_X12_areAlike⟩
set_option maxRecDepth 100000 in
theorem ck_X12_rowGoes : ckT 12 3 false cX12_rowGoes none tX12_rowGoes 0 = some 35 := by decide +kernel
theorem ok_X12_rowGoes : am_okM am_tb qX12_rowGoes := ⟨by decide +kernel, 35, ckT_ok tX12_rowGoes ck_X12_rowGoes⟩
set_option maxRecDepth 100000 in
theorem ck_X12_takesBy : ckT 12 3 false cX12_takesBy none tX12_takesBy 0 = some 47 := by decide +kernel
theorem ok_X12_takesBy : am_okM am_tb qX12_takesBy := ⟨by decide +kernel, 47, ckT_ok tX12_takesBy ck_X12_takesBy⟩
set_option maxRecDepth 100000 in
theorem ck_X12_tidies : ckT 12 3 false cX12_tidies none tX12_tidies 0 = some 99 := by decide +kernel
theorem ok_X12_tidies : am_okM am_tb qX12_tidies := ⟨by decide +kernel, 99, ckT_ok tX12_tidies ck_X12_tidies⟩
set_option maxRecDepth 100000 in
theorem ck_X12_isAhead : ckT 12 5 false cX12_isAhead (some .boolean) tX12_isAhead 0 = some 91 := by decide +kernel
theorem ok_X12_isAhead : am_okM am_tb qX12_isAhead := ⟨by decide +kernel, 91, ckT_ok tX12_isAhead ck_X12_isAhead⟩
set_option maxRecDepth 100000 in
theorem ck_X12_exchanges : ckT 12 3 false cX12_exchanges none tX12_exchanges 0 = some 21 := by decide +kernel
theorem ok_X12_exchanges : am_okM am_tb qX12_exchanges := ⟨by decide +kernel, 21, ckT_ok tX12_exchanges ck_X12_exchanges⟩
set_option maxRecDepth 100000 in
theorem ck_X12_sorts : ckT 12 6 false cX12_sorts none tX12_sorts 0 = some 88 := by decide +kernel
theorem ok_X12_sorts : am_okM am_tb qX12_sorts := ⟨by decide +kernel, 88, ckT_ok tX12_sorts ck_X12_sorts⟩
set_option maxRecDepth 100000 in
theorem ck_X12_crosses : ckT 12 7 false cX12_crosses none tX12_crosses 0 = some 144 := by decide +kernel
theorem ok_X12_crosses : am_okM am_tb qX12_crosses := ⟨by decide +kernel, 144, ckT_ok tX12_crosses ck_X12_crosses⟩
set_option maxRecDepth 100000 in
theorem ck_X12_isOneMore : ckT 12 2 false cX12_isOneMore (some .boolean) tX12_isOneMore 0 = some 81 := by decide +kernel
theorem ok_X12_isOneMore : am_okM am_tb qX12_isOneMore := ⟨by decide +kernel, 81, ckT_ok tX12_isOneMore ck_X12_isOneMore⟩
set_option maxRecDepth 100000 in
theorem ck_X12_laysBasis : ckT 12 3 false cX12_laysBasis none tX12_laysBasis 0 = some 100 := by decide +kernel
theorem ok_X12_laysBasis : am_okM am_tb qX12_laysBasis := ⟨by decide +kernel, 100, ckT_ok tX12_laysBasis ck_X12_laysBasis⟩
set_option maxRecDepth 100000 in
theorem ck_X12_isSmall : ckT 12 4 false cX12_isSmall (some .boolean) tX12_isSmall 0 = some 53 := by decide +kernel
theorem ok_X12_isSmall : am_okM am_tb qX12_isSmall := ⟨by decide +kernel, 53, ckT_ok tX12_isSmall ck_X12_isSmall⟩
set_option maxRecDepth 100000 in
theorem ck_X12_basis : ckT 12 2 false cX12_basis (some .int) tX12_basis 0 = some 35 := by decide +kernel
theorem ok_X12_basis : am_okM am_tb qX12_basis := ⟨by decide +kernel, 35, ckT_ok tX12_basis ck_X12_basis⟩
set_option maxRecDepth 100000 in
theorem ck_X12_based : ckT 12 5 false cX12_based (some .int) tX12_based 0 = some 88 := by decide +kernel
theorem ok_X12_based : am_okM am_tb qX12_based := ⟨by decide +kernel, 88, ckT_ok tX12_based ck_X12_based⟩
set_option maxRecDepth 100000 in
theorem ck_X12_stairs : ckT 12 5 false cX12_stairs (some .int) tX12_stairs 0 = some 98 := by decide +kernel
theorem ok_X12_stairs : am_okM am_tb qX12_stairs := ⟨by decide +kernel, 98, ckT_ok tX12_stairs ck_X12_stairs⟩
set_option maxRecDepth 100000 in
theorem ck_X12_within : ckT 12 3 false cX12_within (some .int) tX12_within 0 = some 72 := by decide +kernel
theorem ok_X12_within : am_okM am_tb qX12_within := ⟨by decide +kernel, 72, ckT_ok tX12_within ck_X12_within⟩
set_option maxRecDepth 100000 in
theorem ck_X12_type : ckT 12 2 false cX12_type (some .int) tX12_type 0 = some 54 := by decide +kernel
theorem ok_X12_type : am_okM am_tb qX12_type := ⟨by decide +kernel, 54, ckT_ok tX12_type ck_X12_type⟩
set_option maxRecDepth 100000 in
theorem ck_X12_clear : ckT 12 2 false cX12_clear (some .int) tX12_clear 0 = some 12 := by decide +kernel
theorem ok_X12_clear : am_okM am_tb qX12_clear := ⟨by decide +kernel, 12, ckT_ok tX12_clear ck_X12_clear⟩
set_option maxRecDepth 100000 in
theorem ck_X12_isAt : ckT 12 3 false cX12_isAt (some .boolean) tX12_isAt 0 = some 34 := by decide +kernel
theorem ok_X12_isAt : am_okM am_tb qX12_isAt := ⟨by decide +kernel, 34, ckT_ok tX12_isAt ck_X12_isAt⟩
set_option maxRecDepth 100000 in
theorem ck_X12_blanks : ckT 12 1 false cX12_blanks none tX12_blanks 0 = some 25 := by decide +kernel
theorem ok_X12_blanks : am_okM am_tb qX12_blanks := ⟨by decide +kernel, 25, ckT_ok tX12_blanks ck_X12_blanks⟩
set_option maxRecDepth 100000 in
theorem ck_X12_fails : ckT 12 2 false cX12_fails (some .boolean) tX12_fails 0 = some 7 := by decide +kernel
theorem ok_X12_fails : am_okM am_tb qX12_fails := ⟨by decide +kernel, 7, ckT_ok tX12_fails ck_X12_fails⟩
set_option maxRecDepth 100000 in
theorem ck_X12_opens : ckT 12 1 false cX12_opens none tX12_opens 0 = some 42 := by decide +kernel
theorem ok_X12_opens : am_okM am_tb qX12_opens := ⟨by decide +kernel, 42, ckT_ok tX12_opens ck_X12_opens⟩
set_option maxRecDepth 100000 in
theorem ck_X12_closes : ckT 12 1 false cX12_closes none tX12_closes 0 = some 78 := by decide +kernel
theorem ok_X12_closes : am_okM am_tb qX12_closes := ⟨by decide +kernel, 78, ckT_ok tX12_closes ck_X12_closes⟩
set_option maxRecDepth 100000 in
theorem ck_X12_takes : ckT 12 2 false cX12_takes none tX12_takes 0 = some 162 := by decide +kernel
theorem ok_X12_takes : am_okM am_tb qX12_takes := ⟨by decide +kernel, 162, ckT_ok tX12_takes ck_X12_takes⟩
set_option maxRecDepth 100000 in
theorem ck_X12_takesFigures : ckT 12 3 false cX12_takesFigures (some .boolean) tX12_takesFigures 0 = some 102 := by decide +kernel
theorem ok_X12_takesFigures : am_okM am_tb qX12_takesFigures := ⟨by decide +kernel, 102, ckT_ok tX12_takesFigures ck_X12_takesFigures⟩
set_option maxRecDepth 100000 in
theorem ck_X12_takesPower : ckT 12 3 false cX12_takesPower (some .boolean) tX12_takesPower 0 = some 78 := by decide +kernel
theorem ok_X12_takesPower : am_okM am_tb qX12_takesPower := ⟨by decide +kernel, 78, ckT_ok tX12_takesPower ck_X12_takesPower⟩
set_option maxRecDepth 100000 in
theorem ck_X12_values : ckT 12 4 false cX12_values none tX12_values 0 = some 22 := by decide +kernel
theorem ok_X12_values : am_okM am_tb qX12_values := ⟨by decide +kernel, 22, ckT_ok tX12_values ck_X12_values⟩
set_option maxRecDepth 100000 in
theorem ck_X12_takesFactor : ckT 12 2 false cX12_takesFactor (some .boolean) tX12_takesFactor 0 = some 228 := by decide +kernel
theorem ok_X12_takesFactor : am_okM am_tb qX12_takesFactor := ⟨by decide +kernel, 228, ckT_ok tX12_takesFactor ck_X12_takesFactor⟩
set_option maxRecDepth 100000 in
theorem ck_X12_takesSign : ckT 12 1 false cX12_takesSign (some .boolean) tX12_takesSign 0 = some 178 := by decide +kernel
theorem ok_X12_takesSign : am_okM am_tb qX12_takesSign := ⟨by decide +kernel, 178, ckT_ok tX12_takesSign ck_X12_takesSign⟩
set_option maxRecDepth 100000 in
theorem ck_X12_isRead : ckT 12 2 false cX12_isRead (some .boolean) tX12_isRead 0 = some 101 := by decide +kernel
theorem ok_X12_isRead : am_okM am_tb qX12_isRead := ⟨by decide +kernel, 101, ckT_ok tX12_isRead ck_X12_isRead⟩
set_option maxRecDepth 100000 in
theorem ck_X12_reads : ckT 12 3 false cX12_reads (some .int) tX12_reads 0 = some 61 := by decide +kernel
theorem ok_X12_reads : am_okM am_tb qX12_reads := ⟨by decide +kernel, 61, ckT_ok tX12_reads ck_X12_reads⟩
set_option maxRecDepth 100000 in
theorem ck_X12_writes : ckT 12 2 false cX12_writes none tX12_writes 0 = some 21 := by decide +kernel
theorem ok_X12_writes : am_okM am_tb qX12_writes := ⟨by decide +kernel, 21, ckT_ok tX12_writes ck_X12_writes⟩
set_option maxRecDepth 100000 in
theorem ck_X12_writesNumber : ckT 12 4 false cX12_writesNumber none tX12_writesNumber 0 = some 46 := by decide +kernel
theorem ok_X12_writesNumber : am_okM am_tb qX12_writesNumber := ⟨by decide +kernel, 46, ckT_ok tX12_writesNumber ck_X12_writesNumber⟩
set_option maxRecDepth 100000 in
theorem ck_X12_writesLetter : ckT 12 3 false cX12_writesLetter none tX12_writesLetter 0 = some 22 := by decide +kernel
theorem ok_X12_writesLetter : am_okM am_tb qX12_writesLetter := ⟨by decide +kernel, 22, ckT_ok tX12_writesLetter ck_X12_writesLetter⟩
set_option maxRecDepth 100000 in
theorem ck_X12_writesTerm : ckT 12 5 false cX12_writesTerm none tX12_writesTerm 0 = some 137 := by decide +kernel
theorem ok_X12_writesTerm : am_okM am_tb qX12_writesTerm := ⟨by decide +kernel, 137, ckT_ok tX12_writesTerm ck_X12_writesTerm⟩
set_option maxRecDepth 100000 in
theorem ck_X12_laysLine : ckT 12 6 false cX12_laysLine none tX12_laysLine 0 = some 83 := by decide +kernel
theorem ok_X12_laysLine : am_okM am_tb qX12_laysLine := ⟨by decide +kernel, 83, ckT_ok tX12_laysLine ck_X12_laysLine⟩
set_option maxRecDepth 100000 in
theorem ck_X12_shown : ckT 12 3 false cX12_shown (some .int) tX12_shown 0 = some 42 := by decide +kernel
theorem ok_X12_shown : am_okM am_tb qX12_shown := ⟨by decide +kernel, 42, ckT_ok tX12_shown ck_X12_shown⟩
set_option maxRecDepth 100000 in
theorem ck_X12_toldOf : ckT 12 2 false cX12_toldOf (some .int) tX12_toldOf 0 = some 47 := by decide +kernel
theorem ok_X12_toldOf : am_okM am_tb qX12_toldOf := ⟨by decide +kernel, 47, ckT_ok tX12_toldOf ck_X12_toldOf⟩
set_option maxRecDepth 100000 in
theorem ck_X12_told : ckT 12 2 false cX12_told (some .int) tX12_told 0 = some 22 := by decide +kernel
theorem ok_X12_told : am_okM am_tb qX12_told := ⟨by decide +kernel, 22, ckT_ok tX12_told ck_X12_told⟩
set_option maxRecDepth 100000 in
theorem ck_X12_mix : ckT 12 3 false cX12_mix none tX12_mix 0 = some 15 := by decide +kernel
theorem ok_X12_mix : am_okM am_tb qX12_mix := ⟨by decide +kernel, 15, ckT_ok tX12_mix ck_X12_mix⟩
set_option maxRecDepth 100000 in
theorem ck_X12_digest : ckT 12 3 false cX12_digest (some .long) tX12_digest 0 = some 140 := by decide +kernel
theorem ok_X12_digest : am_okM am_tb qX12_digest := ⟨by decide +kernel, 140, ckT_ok tX12_digest ck_X12_digest⟩
set_option maxRecDepth 100000 in
theorem ck_J9_floorMod_7cf53 : ckT 13 3 false cJ9_floorMod_7cf53 (some .int) tJ9_floorMod_7cf53 0 = some 20 := by decide +kernel
theorem ok_J9_floorMod_7cf53 : am_okM am_tb qJ9_floorMod_7cf53 := ⟨by decide +kernel, 20, ckT_ok tJ9_floorMod_7cf53 ck_J9_floorMod_7cf53⟩
set_option maxRecDepth 100000 in
theorem ck_J9_abs_0f7a4 : ckT 13 1 false cJ9_abs_0f7a4 (some .int) tJ9_abs_0f7a4 0 = some 11 := by decide +kernel
theorem ok_J9_abs_0f7a4 : am_okM am_tb qJ9_abs_0f7a4 := ⟨by decide +kernel, 11, ckT_ok tJ9_abs_0f7a4 ck_J9_abs_0f7a4⟩
set_option maxRecDepth 100000 in
theorem ck_J9_max_7cf53 : ckT 13 2 false cJ9_max_7cf53 (some .int) tJ9_max_7cf53 0 = some 11 := by decide +kernel
theorem ok_J9_max_7cf53 : am_okM am_tb qJ9_max_7cf53 := ⟨by decide +kernel, 11, ckT_ok tJ9_max_7cf53 ck_J9_max_7cf53⟩
set_option maxRecDepth 100000 in
theorem ck_J9_min_7cf53 : ckT 13 2 false cJ9_min_7cf53 (some .int) tJ9_min_7cf53 0 = some 11 := by decide +kernel
theorem ok_J9_min_7cf53 : am_okM am_tb qJ9_min_7cf53 := ⟨by decide +kernel, 11, ckT_ok tJ9_min_7cf53 ck_J9_min_7cf53⟩
set_option maxRecDepth 100000 in
theorem ck_J7_fill_53178 : ckT 14 4 false cJ7_fill_53178 none tJ7_fill_53178 0 = some 21 := by decide +kernel
theorem ok_J7_fill_53178 : am_okM am_tb qJ7_fill_53178 := ⟨by decide +kernel, 21, ckT_ok tJ7_fill_53178 ck_J7_fill_53178⟩
theorem ok_tbl0 : ∀ q ∈ am_tbl0, am_okM am_tb q := List.forall_mem_cons.mpr ⟨ok_X0_init, List.forall_mem_cons.mpr ⟨ok_X0_degree, List.forall_mem_cons.mpr ⟨ok_X0_fits, List.forall_mem_cons.mpr ⟨ok_X0_apply, List.forall_mem_cons.mpr ⟨ok_X0_addImage, List.forall_mem_cons.mpr ⟨ok_X0_kernelDimension, List.forall_mem_cons.mpr ⟨ok_X0_pivotRow, List.forall_mem_cons.mpr ⟨ok_X0_clearBelow, List.forall_mem_cons.mpr ⟨ok_X1_init, List.forall_mem_cons.mpr ⟨ok_X1_residue, List.forall_mem_cons.mpr ⟨ok_X1_balanced, List.forall_mem_cons.mpr ⟨ok_X1_inverse, List.forall_mem_cons.mpr ⟨ok_X1_productFits, List.forall_mem_cons.mpr ⟨ok_X1_powerFits, List.forall_mem_cons.mpr ⟨ok_X1_addProduct, List.forall_mem_cons.mpr ⟨ok_X1_addWordProduct, List.forall_mem_cons.mpr ⟨ok_X1_raise, List.forall_mem_cons.mpr ⟨ok_X1_adjoin, List.forall_mem_cons.mpr ⟨ok_X2_init, List.forall_mem_cons.mpr ⟨ok_X2_covers, List.forall_mem_cons.mpr ⟨ok_X2_isFor, List.forall_mem_cons.mpr ⟨ok_X2_begin, List.forall_mem_cons.mpr ⟨ok_X2_add, List.forall_mem_cons.mpr ⟨ok_X2_sourceCell, List.forall_mem_cons.mpr ⟨ok_X3_init, List.forall_mem_cons.mpr ⟨ok_X3_find, List.forall_mem_cons.mpr ⟨ok_X3_gather, List.forall_mem_cons.mpr ⟨ok_X3_complete, List.forall_mem_cons.mpr ⟨ok_X3_absorb, List.forall_mem_cons.mpr ⟨ok_X3_dismiss, List.forall_mem_cons.mpr ⟨ok_X3_admit, List.forall_mem_cons.mpr ⟨ok_X3_unsettle, List.forall_mem_cons.mpr ⟨ok_X3_cheapestPair, List.forall_mem_cons.mpr ⟨ok_X3_cross, List.forall_mem_cons.mpr ⟨ok_X3_reduceTails, List.forall_mem_cons.mpr ⟨ok_X3_handOver, List.forall_mem_cons.mpr ⟨ok_X4_init, List.forall_mem_cons.mpr ⟨ok_X4_begin, List.forall_mem_cons.mpr ⟨ok_X4_take, List.forall_mem_cons.mpr ⟨ok_X4_reduce, fun _ h => absurd h List.not_mem_nil⟩⟩⟩⟩⟩⟩⟩⟩⟩⟩⟩⟩⟩⟩⟩⟩⟩⟩⟩⟩⟩⟩⟩⟩⟩⟩⟩⟩⟩⟩⟩⟩⟩⟩⟩⟩⟩⟩⟩⟩
theorem ok_tbl1 : ∀ q ∈ am_tbl1, am_okM am_tb q := List.forall_mem_cons.mpr ⟨ok_X4_cancel, List.forall_mem_cons.mpr ⟨ok_X5_init, List.forall_mem_cons.mpr ⟨ok_X5_keep, List.forall_mem_cons.mpr ⟨ok_X5_restore, List.forall_mem_cons.mpr ⟨ok_X6_init, List.forall_mem_cons.mpr ⟨ok_X6_isWord, List.forall_mem_cons.mpr ⟨ok_X6_firstPlace, List.forall_mem_cons.mpr ⟨ok_X6_placeOf, List.forall_mem_cons.mpr ⟨ok_X6_degreeAt, List.forall_mem_cons.mpr ⟨ok_X6_rankedPlace, List.forall_mem_cons.mpr ⟨ok_X6_height, List.forall_mem_cons.mpr ⟨ok_X6_coefficient, List.forall_mem_cons.mpr ⟨ok_X6_setCoefficient, List.forall_mem_cons.mpr ⟨ok_X6_makeZero, List.forall_mem_cons.mpr ⟨ok_X6_makeNumber, List.forall_mem_cons.mpr ⟨ok_X6_copyFrom, List.forall_mem_cons.mpr ⟨ok_X6_addMultiple, List.forall_mem_cons.mpr ⟨ok_X6_scale, List.forall_mem_cons.mpr ⟨ok_X6_countTerms, List.forall_mem_cons.mpr ⟨ok_X6_extent, List.forall_mem_cons.mpr ⟨ok_X6_isZero, List.forall_mem_cons.mpr ⟨ok_X6_degree, List.forall_mem_cons.mpr ⟨ok_X6_leadPlace, List.forall_mem_cons.mpr ⟨ok_X6_property, List.forall_mem_cons.mpr ⟨ok_X6_greatest, List.forall_mem_cons.mpr ⟨ok_X6_measure, List.forall_mem_cons.mpr ⟨ok_X7_init, List.forall_mem_cons.mpr ⟨ok_X7_evaluate, List.forall_mem_cons.mpr ⟨ok_X7_readExpression, List.forall_mem_cons.mpr ⟨ok_X7_readTerm, List.forall_mem_cons.mpr ⟨ok_X7_readFactor, List.forall_mem_cons.mpr ⟨ok_X7_readNumber, List.forall_mem_cons.mpr ⟨ok_X7_peek, List.forall_mem_cons.mpr ⟨ok_X8_init, List.forall_mem_cons.mpr ⟨ok_X8_copyFrom, List.forall_mem_cons.mpr ⟨ok_X9_init, List.forall_mem_cons.mpr ⟨ok_X9_append, List.forall_mem_cons.mpr ⟨ok_X9_byteAt, List.forall_mem_cons.mpr ⟨ok_X9_isDigit, List.forall_mem_cons.mpr ⟨ok_X9_fault, fun _ h => absurd h List.not_mem_nil⟩⟩⟩⟩⟩⟩⟩⟩⟩⟩⟩⟩⟩⟩⟩⟩⟩⟩⟩⟩⟩⟩⟩⟩⟩⟩⟩⟩⟩⟩⟩⟩⟩⟩⟩⟩⟩⟩⟩⟩
theorem ok_tbl2 : ∀ q ∈ am_tbl2, am_okM am_tb q := List.forall_mem_cons.mpr ⟨ok_X9_pass, List.forall_mem_cons.mpr ⟨ok_X9_passOperand, List.forall_mem_cons.mpr ⟨ok_X9_passExponent, List.forall_mem_cons.mpr ⟨ok_X9_passLink, List.forall_mem_cons.mpr ⟨ok_X9_countDigits, List.forall_mem_cons.mpr ⟨ok_X9_valueOf, List.forall_mem_cons.mpr ⟨ok_X10_init, List.forall_mem_cons.mpr ⟨ok_X10_byteAt, List.forall_mem_cons.mpr ⟨ok_X10_writeTerm, List.forall_mem_cons.mpr ⟨ok_X10_writeLetter, List.forall_mem_cons.mpr ⟨ok_X10_writeNumber, List.forall_mem_cons.mpr ⟨ok_X10_write, List.forall_mem_cons.mpr ⟨ok_X11_init, List.forall_mem_cons.mpr ⟨ok_X11_sets, List.forall_mem_cons.mpr ⟨ok_X11_at, List.forall_mem_cons.mpr ⟨ok_X11_sums, List.forall_mem_cons.mpr ⟨ok_X11_times, List.forall_mem_cons.mpr ⟨ok_X11_bracket, List.forall_mem_cons.mpr ⟨ok_X11_power, List.forall_mem_cons.mpr ⟨ok_X11_reversed, List.forall_mem_cons.mpr ⟨ok_X11_of, List.forall_mem_cons.mpr ⟨ok_X11_order, List.forall_mem_cons.mpr ⟨ok_X11_puts, List.forall_mem_cons.mpr ⟨ok_X11_rate, List.forall_mem_cons.mpr ⟨ok_X11_makes, List.forall_mem_cons.mpr ⟨ok_X11_kernel, List.forall_mem_cons.mpr ⟨ok_X11_kills, List.forall_mem_cons.mpr ⟨ok_X11_rest, List.forall_mem_cons.mpr ⟨ok_X11_basis, List.forall_mem_cons.mpr ⟨ok_X11_based, List.forall_mem_cons.mpr ⟨ok_X11_stairs, List.forall_mem_cons.mpr ⟨ok_X11_within, List.forall_mem_cons.mpr ⟨ok_X11_type, List.forall_mem_cons.mpr ⟨ok_X11_clear, List.forall_mem_cons.mpr ⟨ok_X11_reads, List.forall_mem_cons.mpr ⟨ok_X11_shown, List.forall_mem_cons.mpr ⟨ok_X11_back, List.forall_mem_cons.mpr ⟨ok_X11_told, List.forall_mem_cons.mpr ⟨ok_X11_digest, List.forall_mem_cons.mpr ⟨ok_X11_mixed, fun _ h => absurd h List.not_mem_nil⟩⟩⟩⟩⟩⟩⟩⟩⟩⟩⟩⟩⟩⟩⟩⟩⟩⟩⟩⟩⟩⟩⟩⟩⟩⟩⟩⟩⟩⟩⟩⟩⟩⟩⟩⟩⟩⟩⟩⟩
theorem ok_tbl3 : ∀ q ∈ am_tbl3, am_okM am_tb q := List.forall_mem_cons.mpr ⟨ok_X11_replaceOperator, List.forall_mem_cons.mpr ⟨ok_X11_bad, List.forall_mem_cons.mpr ⟨ok_X11_no, List.forall_mem_cons.mpr ⟨ok_X11_full, List.forall_mem_cons.mpr ⟨ok_X11_hasBasis, List.forall_mem_cons.mpr ⟨ok_X11_isOperator, List.forall_mem_cons.mpr ⟨ok_X11_isPolynomial, List.forall_mem_cons.mpr ⟨ok_X11_isPower, List.forall_mem_cons.mpr ⟨ok_X11_isSet, List.forall_mem_cons.mpr ⟨ok_X11_isInSet, List.forall_mem_cons.mpr ⟨ok_X12_init, List.forall_mem_cons.mpr ⟨ok_X12_in, List.forall_mem_cons.mpr ⟨ok_X12_wordAt, List.forall_mem_cons.mpr ⟨ok_X12_restOf, List.forall_mem_cons.mpr ⟨ok_X12_tell, List.forall_mem_cons.mpr ⟨ok_X12_bad, List.forall_mem_cons.mpr ⟨ok_X12_no, List.forall_mem_cons.mpr ⟨ok_X12_full, List.forall_mem_cons.mpr ⟨ok_X12_remembers, List.forall_mem_cons.mpr ⟨ok_X12_back, List.forall_mem_cons.mpr ⟨ok_X12_isOperator, List.forall_mem_cons.mpr ⟨ok_X12_isWord, List.forall_mem_cons.mpr ⟨ok_X12_wipe, List.forall_mem_cons.mpr ⟨ok_X12_copies, List.forall_mem_cons.mpr ⟨ok_X12_fetches, List.forall_mem_cons.mpr ⟨ok_X12_termsIn, List.forall_mem_cons.mpr ⟨ok_X12_keeps, List.forall_mem_cons.mpr ⟨ok_X12_degreeIn, List.forall_mem_cons.mpr ⟨ok_X12_wordBehind, List.forall_mem_cons.mpr ⟨ok_X12_leadIn, List.forall_mem_cons.mpr ⟨ok_X12_adds, List.forall_mem_cons.mpr ⟨ok_X12_addsBehind, List.forall_mem_cons.mpr ⟨ok_X12_multiplies, List.forall_mem_cons.mpr ⟨ok_X12_isTooMuch, List.forall_mem_cons.mpr ⟨ok_X12_isPowerTooMuch, List.forall_mem_cons.mpr ⟨ok_X12_raises, List.forall_mem_cons.mpr ⟨ok_X12_mixes, List.forall_mem_cons.mpr ⟨ok_X12_sets, List.forall_mem_cons.mpr ⟨ok_X12_at, List.forall_mem_cons.mpr ⟨ok_X12_sums, fun _ h => absurd h List.not_mem_nil⟩⟩⟩⟩⟩⟩⟩⟩⟩⟩⟩⟩⟩⟩⟩⟩⟩⟩⟩⟩⟩⟩⟩⟩⟩⟩⟩⟩⟩⟩⟩⟩⟩⟩⟩⟩⟩⟩⟩⟩
theorem ok_tbl4 : ∀ q ∈ am_tbl4, am_okM am_tb q := List.forall_mem_cons.mpr ⟨ok_X12_times, List.forall_mem_cons.mpr ⟨ok_X12_bracket, List.forall_mem_cons.mpr ⟨ok_X12_power, List.forall_mem_cons.mpr ⟨ok_X12_reversed, List.forall_mem_cons.mpr ⟨ok_X12_greatest, List.forall_mem_cons.mpr ⟨ok_X12_ofLead, List.forall_mem_cons.mpr ⟨ok_X12_aboutOf, List.forall_mem_cons.mpr ⟨ok_X12_of, List.forall_mem_cons.mpr ⟨ok_X12_order, List.forall_mem_cons.mpr ⟨ok_X12_isPolynomial, List.forall_mem_cons.mpr ⟨ok_X12_rateAt, List.forall_mem_cons.mpr ⟨ok_X12_puts, List.forall_mem_cons.mpr ⟨ok_X12_rate, List.forall_mem_cons.mpr ⟨ok_X12_falls, List.forall_mem_cons.mpr ⟨ok_X12_greatestPower, List.forall_mem_cons.mpr ⟨ok_X12_canMake, List.forall_mem_cons.mpr ⟨ok_X12_makes, List.forall_mem_cons.mpr ⟨ok_X12_inverseOf, List.forall_mem_cons.mpr ⟨ok_X12_laysMatrix, List.forall_mem_cons.mpr ⟨ok_X12_addsRow, List.forall_mem_cons.mpr ⟨ok_X12_isFree, List.forall_mem_cons.mpr ⟨ok_X12_kernel, List.forall_mem_cons.mpr ⟨ok_X12_kills, List.forall_mem_cons.mpr ⟨ok_X12_findsLeads, List.forall_mem_cons.mpr ⟨ok_X12_isBelow, List.forall_mem_cons.mpr ⟨ok_X12_firstBelow, List.forall_mem_cons.mpr ⟨ok_X12_rests, List.forall_mem_cons.mpr ⟨ok_X12_isSet, List.forall_mem_cons.mpr ⟨ok_X12_rest, List.forall_mem_cons.mpr ⟨ok_X12_evens, List.forall_mem_cons.mpr ⟨ok_X12_areAlike, List.forall_mem_cons.mpr ⟨ok_X12_rowGoes, List.forall_mem_cons.mpr ⟨ok_X12_takesBy, List.forall_mem_cons.mpr ⟨ok_X12_tidies, List.forall_mem_cons.mpr ⟨ok_X12_isAhead, List.forall_mem_cons.mpr ⟨ok_X12_exchanges, List.forall_mem_cons.mpr ⟨ok_X12_sorts, List.forall_mem_cons.mpr ⟨ok_X12_crosses, List.forall_mem_cons.mpr ⟨ok_X12_isOneMore, List.forall_mem_cons.mpr ⟨ok_X12_laysBasis, fun _ h => absurd h List.not_mem_nil⟩⟩⟩⟩⟩⟩⟩⟩⟩⟩⟩⟩⟩⟩⟩⟩⟩⟩⟩⟩⟩⟩⟩⟩⟩⟩⟩⟩⟩⟩⟩⟩⟩⟩⟩⟩⟩⟩⟩⟩
theorem ok_tbl5 : ∀ q ∈ am_tbl5, am_okM am_tb q := List.forall_mem_cons.mpr ⟨ok_X12_isSmall, List.forall_mem_cons.mpr ⟨ok_X12_basis, List.forall_mem_cons.mpr ⟨ok_X12_based, List.forall_mem_cons.mpr ⟨ok_X12_stairs, List.forall_mem_cons.mpr ⟨ok_X12_within, List.forall_mem_cons.mpr ⟨ok_X12_type, List.forall_mem_cons.mpr ⟨ok_X12_clear, List.forall_mem_cons.mpr ⟨ok_X12_isAt, List.forall_mem_cons.mpr ⟨ok_X12_blanks, List.forall_mem_cons.mpr ⟨ok_X12_fails, List.forall_mem_cons.mpr ⟨ok_X12_opens, List.forall_mem_cons.mpr ⟨ok_X12_closes, List.forall_mem_cons.mpr ⟨ok_X12_takes, List.forall_mem_cons.mpr ⟨ok_X12_takesFigures, List.forall_mem_cons.mpr ⟨ok_X12_takesPower, List.forall_mem_cons.mpr ⟨ok_X12_values, List.forall_mem_cons.mpr ⟨ok_X12_takesFactor, List.forall_mem_cons.mpr ⟨ok_X12_takesSign, List.forall_mem_cons.mpr ⟨ok_X12_isRead, List.forall_mem_cons.mpr ⟨ok_X12_reads, List.forall_mem_cons.mpr ⟨ok_X12_writes, List.forall_mem_cons.mpr ⟨ok_X12_writesNumber, List.forall_mem_cons.mpr ⟨ok_X12_writesLetter, List.forall_mem_cons.mpr ⟨ok_X12_writesTerm, List.forall_mem_cons.mpr ⟨ok_X12_laysLine, List.forall_mem_cons.mpr ⟨ok_X12_shown, List.forall_mem_cons.mpr ⟨ok_X12_toldOf, List.forall_mem_cons.mpr ⟨ok_X12_told, List.forall_mem_cons.mpr ⟨ok_X12_mix, List.forall_mem_cons.mpr ⟨ok_X12_digest, List.forall_mem_cons.mpr ⟨ok_J9_floorMod_7cf53, List.forall_mem_cons.mpr ⟨ok_J9_abs_0f7a4, List.forall_mem_cons.mpr ⟨ok_J9_max_7cf53, List.forall_mem_cons.mpr ⟨ok_J9_min_7cf53, List.forall_mem_cons.mpr ⟨ok_J7_fill_53178, fun _ h => absurd h List.not_mem_nil⟩⟩⟩⟩⟩⟩⟩⟩⟩⟩⟩⟩⟩⟩⟩⟩⟩⟩⟩⟩⟩⟩⟩⟩⟩⟩⟩⟩⟩⟩⟩⟩⟩⟩⟩
theorem ok_tbl : ∀ q ∈ am_tbl, am_okM am_tb q := List.forall_mem_append.mpr ⟨ok_tbl0, List.forall_mem_append.mpr ⟨ok_tbl1, List.forall_mem_append.mpr ⟨ok_tbl2, List.forall_mem_append.mpr ⟨ok_tbl3, List.forall_mem_append.mpr ⟨ok_tbl4, ok_tbl5⟩⟩⟩⟩⟩
theorem ok_tb : ∀ k q, am_tb k = some q → am_okM am_tb q := fun k q h => ok_tbl q (List.mem_of_getElem? h)
end
section
/-! The law is its tree, piece by piece. Written by wip/whole/gen_prog.py. -/
set_option maxRecDepth 100000 in
theorem ck_pL_law_33 : ckT 15 4 false code (some .boolean) pL_law_33 33 = some 152 := by decide +kernel
set_option maxRecDepth 100000 in
theorem ck_pL_law_152 : ckT 15 4 false code (some .boolean) pL_law_152 152 = some 203 := by decide +kernel
set_option maxRecDepth 100000 in
theorem ck_pL_law_203 : ckT 15 4 false code (some .boolean) pL_law_203 203 = some 205 := by decide +kernel
set_option maxRecDepth 100000 in
theorem ck_pL_law_205 : ckT 15 4 false code (some .boolean) pL_law_205 205 = some 246 := by decide +kernel
set_option maxRecDepth 100000 in
theorem ck_pL_law_246 : ckT 15 4 false code (some .boolean) pL_law_246 246 = some 248 := by decide +kernel
set_option maxRecDepth 100000 in
theorem ck_pL_law_248 : ckT 15 4 false code (some .boolean) pL_law_248 248 = some 309 := by decide +kernel
set_option maxRecDepth 100000 in
theorem ck_pL_law_309 : ckT 15 4 false code (some .boolean) pL_law_309 309 = some 311 := by decide +kernel
set_option maxRecDepth 100000 in
theorem ck_pL_law_311 : ckT 15 4 false code (some .boolean) pL_law_311 311 = some 352 := by decide +kernel
set_option maxRecDepth 100000 in
theorem ck_pL_law_352 : ckT 15 4 false code (some .boolean) pL_law_352 352 = some 354 := by decide +kernel
set_option maxRecDepth 100000 in
theorem ck_pL_law_354 : ckT 15 4 false code (some .boolean) pL_law_354 354 = some 395 := by decide +kernel
set_option maxRecDepth 100000 in
theorem ck_pL_law_395 : ckT 15 4 false code (some .boolean) pL_law_395 395 = some 397 := by decide +kernel
set_option maxRecDepth 100000 in
theorem ck_pL_law_397 : ckT 15 4 false code (some .boolean) pL_law_397 397 = some 438 := by decide +kernel
set_option maxRecDepth 100000 in
theorem ck_pL_law_438 : ckT 15 4 false code (some .boolean) pL_law_438 438 = some 440 := by decide +kernel
set_option maxRecDepth 100000 in
theorem ck_pL_law_440 : ckT 15 4 false code (some .boolean) pL_law_440 440 = some 471 := by decide +kernel
set_option maxRecDepth 100000 in
theorem ck_pL_law_471 : ckT 15 4 false code (some .boolean) pL_law_471 471 = some 473 := by decide +kernel
set_option maxRecDepth 100000 in
theorem ck_pL_law_473 : ckT 15 4 false code (some .boolean) pL_law_473 473 = some 504 := by decide +kernel
set_option maxRecDepth 100000 in
theorem ck_pL_law_504 : ckT 15 4 false code (some .boolean) pL_law_504 504 = some 506 := by decide +kernel
set_option maxRecDepth 100000 in
theorem ck_pL_law_506 : ckT 15 4 false code (some .boolean) pL_law_506 506 = some 527 := by decide +kernel
set_option maxRecDepth 100000 in
theorem ck_pL_law_527 : ckT 15 4 false code (some .boolean) pL_law_527 527 = some 529 := by decide +kernel
set_option maxRecDepth 100000 in
theorem ck_pL_law_529 : ckT 15 4 false code (some .boolean) pL_law_529 529 = some 570 := by decide +kernel
end
section
/-! The law is its tree, piece by piece. Written by wip/whole/gen_prog.py. -/
set_option maxRecDepth 100000 in
theorem ck_pL_law_570 : ckT 15 4 false code (some .boolean) pL_law_570 570 = some 572 := by decide +kernel
set_option maxRecDepth 100000 in
theorem ck_pL_law_572 : ckT 15 4 false code (some .boolean) pL_law_572 572 = some 603 := by decide +kernel
set_option maxRecDepth 100000 in
theorem ck_pL_law_603 : ckT 15 4 false code (some .boolean) pL_law_603 603 = some 605 := by decide +kernel
set_option maxRecDepth 100000 in
theorem ck_pL_law_605 : ckT 15 4 false code (some .boolean) pL_law_605 605 = some 646 := by decide +kernel
set_option maxRecDepth 100000 in
theorem ck_pL_law_646 : ckT 15 4 false code (some .boolean) pL_law_646 646 = some 648 := by decide +kernel
set_option maxRecDepth 100000 in
theorem ck_pL_law_648 : ckT 15 4 false code (some .boolean) pL_law_648 648 = some 679 := by decide +kernel
set_option maxRecDepth 100000 in
theorem ck_pL_law_679 : ckT 15 4 false code (some .boolean) pL_law_679 679 = some 681 := by decide +kernel
set_option maxRecDepth 100000 in
theorem ck_pL_law_681 : ckT 15 4 false code (some .boolean) pL_law_681 681 = some 712 := by decide +kernel
set_option maxRecDepth 100000 in
theorem ck_pL_law_712 : ckT 15 4 false code (some .boolean) pL_law_712 712 = some 714 := by decide +kernel
set_option maxRecDepth 100000 in
theorem ck_pL_law_714 : ckT 15 4 false code (some .boolean) pL_law_714 714 = some 755 := by decide +kernel
set_option maxRecDepth 100000 in
theorem ck_pL_law_755 : ckT 15 4 false code (some .boolean) pL_law_755 755 = some 757 := by decide +kernel
set_option maxRecDepth 100000 in
theorem ck_pL_law_757 : ckT 15 4 false code (some .boolean) pL_law_757 757 = some 778 := by decide +kernel
set_option maxRecDepth 100000 in
theorem ck_pL_law_778 : ckT 15 4 false code (some .boolean) pL_law_778 778 = some 780 := by decide +kernel
set_option maxRecDepth 100000 in
theorem ck_pL_law_780 : ckT 15 4 false code (some .boolean) pL_law_780 780 = some 831 := by decide +kernel
set_option maxRecDepth 100000 in
theorem ck_pL_law_831 : ckT 15 4 false code (some .boolean) pL_law_831 831 = some 833 := by decide +kernel
set_option maxRecDepth 100000 in
theorem ck_pL_law_833 : ckT 15 4 false code (some .boolean) pL_law_833 833 = some 864 := by decide +kernel
set_option maxRecDepth 100000 in
theorem ck_pL_law_864 : ckT 15 4 false code (some .boolean) pL_law_864 864 = some 866 := by decide +kernel
set_option maxRecDepth 100000 in
theorem ck_pL_law_866 : ckT 15 4 false code (some .boolean) pL_law_866 866 = some 897 := by decide +kernel
set_option maxRecDepth 100000 in
theorem ck_pL_law_897 : ckT 15 4 false code (some .boolean) pL_law_897 897 = some 899 := by decide +kernel
set_option maxRecDepth 100000 in
theorem ck_pL_law_899 : ckT 15 4 false code (some .boolean) pL_law_899 899 = some 920 := by decide +kernel
end
section
/-! The law is its tree, piece by piece. Written by wip/whole/gen_prog.py. -/
set_option maxRecDepth 100000 in
theorem ck_pL_law_920 : ckT 15 4 false code (some .boolean) pL_law_920 920 = some 922 := by decide +kernel
set_option maxRecDepth 100000 in
theorem ck_pL_law_922 : ckT 15 4 false code (some .boolean) pL_law_922 922 = some 933 := by decide +kernel
set_option maxRecDepth 100000 in
theorem ck_pL_law_933 : ckT 15 4 false code (some .boolean) pL_law_933 933 = some 935 := by decide +kernel
set_option maxRecDepth 100000 in
theorem ck_pL_law_935 : ckT 15 4 false code (some .boolean) pL_law_935 935 = some 956 := by decide +kernel
set_option maxRecDepth 100000 in
theorem ck_pL_law_956 : ckT 15 4 false code (some .boolean) pL_law_956 956 = some 958 := by decide +kernel
set_option maxRecDepth 100000 in
theorem ck_pL_law_958 : ckT 15 4 false code (some .boolean) pL_law_958 958 = some 989 := by decide +kernel
set_option maxRecDepth 100000 in
theorem ck_pL_law_989 : ckT 15 4 false code (some .boolean) pL_law_989 989 = some 991 := by decide +kernel
set_option maxRecDepth 100000 in
theorem ck_pL_law_991 : ckT 15 4 false code (some .boolean) pL_law_991 991 = some 1002 := by decide +kernel
set_option maxRecDepth 100000 in
theorem ck_pL_law_1002 : ckT 15 4 false code (some .boolean) pL_law_1002 1002 = some 1004 := by decide +kernel
set_option maxRecDepth 100000 in
theorem ck_pL_law_1004 : ckT 15 4 false code (some .boolean) pL_law_1004 1004 = some 1025 := by decide +kernel
set_option maxRecDepth 100000 in
theorem ck_pL_law_1025 : ckT 15 4 false code (some .boolean) pL_law_1025 1025 = some 1027 := by decide +kernel
set_option maxRecDepth 100000 in
theorem ck_pL_law_1027 : ckT 15 4 false code (some .boolean) pL_law_1027 1027 = some 1039 := by decide +kernel
set_option maxRecDepth 100000 in
theorem ck_pL_law_1039 : ckT 15 4 false code (some .boolean) pL_law_1039 1039 = some 1041 := by decide +kernel
set_option maxRecDepth 100000 in
theorem ck_pL_law_18 : ckT 15 4 false code (some .boolean) pL_law_18 18 = some 27 := by decide +kernel
set_option maxRecDepth 100000 in
theorem ck_pL_law_27 : ckT 15 4 false code (some .boolean) pL_law_27 27 = some 33 := by decide +kernel
set_option maxRecDepth 100000 in
theorem ck_pL_law_1041 : ckT 15 4 false code (some .boolean) pL_law_1041 1041 = some 1047 := by decide +kernel
set_option maxRecDepth 100000 in
theorem ck_pL_law_0 : ckT 15 4 false code (some .boolean) pL_law_0 0 = some 18 := by decide +kernel
set_option maxRecDepth 100000 in
theorem ck_pL_law_1047 : ckT 15 4 false code (some .boolean) pL_law_1047 1047 = some 1049 := by decide +kernel
theorem okT_wL_law_18 : am_okT am_tb (am_own 15) false 4 code (some .boolean) wL_law_18 18 1047 := by
  unfold wL_law_18
  exact ⟨27, ckT_ok pL_law_18 ck_pL_law_18, ⟨33, ckT_ok pL_law_27 ck_pL_law_27, ⟨1041, ⟨⟨1027, ⟨⟨1004, ⟨⟨991, ⟨⟨958, ⟨⟨935, ⟨⟨922, ⟨⟨899, ⟨⟨866, ⟨⟨833, ⟨⟨780, ⟨⟨757, ⟨⟨714, ⟨⟨681, ⟨⟨648, ⟨⟨605, ⟨⟨572, ⟨⟨529, ⟨⟨506, ⟨⟨473, ⟨⟨440, ⟨⟨397, ⟨⟨354, ⟨⟨311, ⟨⟨248, ⟨⟨205, ⟨⟨152, ⟨ckT_ok pL_law_33 ck_pL_law_33, by decide⟩, ⟨203, ckT_ok pL_law_152 ck_pL_law_152, ckT_ok pL_law_203 ck_pL_law_203⟩⟩, by decide⟩, ⟨246, ckT_ok pL_law_205 ck_pL_law_205, ckT_ok pL_law_246 ck_pL_law_246⟩⟩, by decide⟩, ⟨309, ckT_ok pL_law_248 ck_pL_law_248, ckT_ok pL_law_309 ck_pL_law_309⟩⟩, by decide⟩, ⟨352, ckT_ok pL_law_311 ck_pL_law_311, ckT_ok pL_law_352 ck_pL_law_352⟩⟩, by decide⟩, ⟨395, ckT_ok pL_law_354 ck_pL_law_354, ckT_ok pL_law_395 ck_pL_law_395⟩⟩, by decide⟩, ⟨438, ckT_ok pL_law_397 ck_pL_law_397, ckT_ok pL_law_438 ck_pL_law_438⟩⟩, by decide⟩, ⟨471, ckT_ok pL_law_440 ck_pL_law_440, ckT_ok pL_law_471 ck_pL_law_471⟩⟩, by decide⟩, ⟨504, ckT_ok pL_law_473 ck_pL_law_473, ckT_ok pL_law_504 ck_pL_law_504⟩⟩, by decide⟩, ⟨527, ckT_ok pL_law_506 ck_pL_law_506, ckT_ok pL_law_527 ck_pL_law_527⟩⟩, by decide⟩, ⟨570, ckT_ok pL_law_529 ck_pL_law_529, ckT_ok pL_law_570 ck_pL_law_570⟩⟩, by decide⟩, ⟨603, ckT_ok pL_law_572 ck_pL_law_572, ckT_ok pL_law_603 ck_pL_law_603⟩⟩, by decide⟩, ⟨646, ckT_ok pL_law_605 ck_pL_law_605, ckT_ok pL_law_646 ck_pL_law_646⟩⟩, by decide⟩, ⟨679, ckT_ok pL_law_648 ck_pL_law_648, ckT_ok pL_law_679 ck_pL_law_679⟩⟩, by decide⟩, ⟨712, ckT_ok pL_law_681 ck_pL_law_681, ckT_ok pL_law_712 ck_pL_law_712⟩⟩, by decide⟩, ⟨755, ckT_ok pL_law_714 ck_pL_law_714, ckT_ok pL_law_755 ck_pL_law_755⟩⟩, by decide⟩, ⟨778, ckT_ok pL_law_757 ck_pL_law_757, ckT_ok pL_law_778 ck_pL_law_778⟩⟩, by decide⟩, ⟨831, ckT_ok pL_law_780 ck_pL_law_780, ckT_ok pL_law_831 ck_pL_law_831⟩⟩, by decide⟩, ⟨864, ckT_ok pL_law_833 ck_pL_law_833, ckT_ok pL_law_864 ck_pL_law_864⟩⟩, by decide⟩, ⟨897, ckT_ok pL_law_866 ck_pL_law_866, ckT_ok pL_law_897 ck_pL_law_897⟩⟩, by decide⟩, ⟨920, ckT_ok pL_law_899 ck_pL_law_899, ckT_ok pL_law_920 ck_pL_law_920⟩⟩, by decide⟩, ⟨933, ckT_ok pL_law_922 ck_pL_law_922, ckT_ok pL_law_933 ck_pL_law_933⟩⟩, by decide⟩, ⟨956, ckT_ok pL_law_935 ck_pL_law_935, ckT_ok pL_law_956 ck_pL_law_956⟩⟩, by decide⟩, ⟨989, ckT_ok pL_law_958 ck_pL_law_958, ckT_ok pL_law_989 ck_pL_law_989⟩⟩, by decide⟩, ⟨1002, ckT_ok pL_law_991 ck_pL_law_991, ckT_ok pL_law_1002 ck_pL_law_1002⟩⟩, by decide⟩, ⟨1025, ckT_ok pL_law_1004 ck_pL_law_1004, ckT_ok pL_law_1025 ck_pL_law_1025⟩⟩, by decide⟩, ⟨1039, ckT_ok pL_law_1027 ck_pL_law_1027, ckT_ok pL_law_1039 ck_pL_law_1039⟩⟩, by decide⟩, ckT_ok pL_law_1041 ck_pL_law_1041⟩⟩⟩
theorem okT_law : am_okT am_tb (am_own 15) false 4 code (some .boolean) tL_law 0 1049 := by
  unfold tL_law
  exact ⟨18, ckT_ok pL_law_0 ck_pL_law_0, ⟨1047, ⟨⟨okT_wL_law_18, by decide⟩, by decide⟩, ckT_ok pL_law_1047 ck_pL_law_1047⟩⟩
end
section
/-! THE CLAIM OUT OF ONE WALK OF THE LAW'S BODY. Your part is whole_start (and what it stands on); all else here is the same for every law, but numbers. -/
def R_law : String := "WeylWordsLaw"
def lw_P (b : Addr) (xs : List Int32) (args : Array Value) (s : State) : Prop := args = #[.ref b] ∧ s.IntsAt b xs ∧ xs.length ≤ 3072 ∧ (Jvm.Cond.and given_1 narrow_1).before args s = true
def lw_Q (_ : Array Value) (s : State) (o : Outcome) (t : State) : Prop := o = .returned (some (.int 1)) ∧ Framed s o t [] 600000 7302250
def lw_Z (below : List Frame) (a : Array Value) (s : State) : State → Prop := fun t => ∃ o, t.status = .running ∧ Ended t below o ∧ lw_Q a s o t
/-- the law's own end, with 1 on the stack, nothing written that was there before, its room as the claim has it -/
theorem lw_ret {p : Program} {l : Launch} {e : Env} {s : State} {m : MethodId} {below : List Frame} {meth : Method} {c : Code} {b : Nat} (hx : p.tables.exec = Jvm.exec) (hb : c.code = code) (hr : meth.sig.returnType = ret) (hlocks : meth.locks = false) {pc : Nat} {H : Heap} {ls : Array Slot} (hdg : decode code pc = .ok (.ireturn, 1)) : W p l e room_1 s m #[Value.ref b] below meth c H [] 600000 7302250 (lw_Z below #[Value.ref b] s) (F0 m pc ls [.int 1]) := by
  intro T hT X
  obtain ⟨fs, hret, hrun, hended, hW, hframe⟩ := X.leave (v := some (.int 1)) (hlocks := hlocks) (fun h => by rw [hr] at h; cases h)
  have hmeth' : T.vm.method? m = some meth := X.method'
  refine ⟨T.setFrames fs, ?_, .returned (some (.int 1)), hrun, hended, rfl, ⟨_, rfl⟩, hW, hframe⟩
  jvm_step X.here [X.here.top, hx, hb, hdg, hmeth', hr, ret, narrow_b1]
  (try refine ⟨rfl, ?_⟩); (try refine ⟨rfl, ?_⟩)
  first | (intro acts; rw [hret _ acts rfl rfl rfl]) | rw [hret _ _ rfl rfl rfl]
  exact Steps.refl _
/-- what holds at the law's entry: the machine, the code, the tables' words (any of lw_tbl by 'hts w (by decide +kernel)'), the script of L ints xs at the cell b, what the Statement gives of the start (any of its parts by flat_of_before) -/
def lw_At (p : Program) (s : State) (m : MethodId) (meth : Method) (c : Code) (b L : Nat) (xs : Nat → Int32) : Prop :=
  p.tables.exec = Jvm.exec ∧ c.code = code ∧ meth.sig.returnType = ret ∧ c.maxLocals = 4 ∧ s.vm.findClass R_law = some m.cls ∧ (∀ w ∈ lw_tbl, w.before #[Value.ref b] s = true) ∧ va_X b L xs s s.heap ∧ b < s.heap.size ∧ meth.locks = false ∧ (Jvm.Cond.and given_1 narrow_1).before #[Value.ref b] s = true
/-- the two rows of the class that are read only -/
def am_xl : List Nat := [0, 1, 0, 2, 1, 0, 3, 2, 1, 0, 4, 3, 2, 1, 0, 5, 4, 3, 2, 1, 0, 6, 5, 4, 3, 2, 1, 0, 7, 6, 5, 4, 3, 2, 1, 0, 8, 7, 6, 5, 4, 3, 2, 1, 0, 9, 8, 7, 6, 5, 4, 3, 2, 1, 0, 10, 9, 8, 7, 6, 5, 4, 3, 2, 1, 0, 11, 10, 9, 8, 7, 6, 5, 4, 3, 2, 1, 0, 12, 11, 10, 9, 8, 7, 6, 5, 4, 3, 2, 1, 0]
def am_dl : List Nat := [0, 0, 1, 0, 1, 2, 0, 1, 2, 3, 0, 1, 2, 3, 4, 0, 1, 2, 3, 4, 5, 0, 1, 2, 3, 4, 5, 6, 0, 1, 2, 3, 4, 5, 6, 7, 0, 1, 2, 3, 4, 5, 6, 7, 8, 0, 1, 2, 3, 4, 5, 6, 7, 8, 9, 0, 1, 2, 3, 4, 5, 6, 7, 8, 9, 10, 0, 1, 2, 3, 4, 5, 6, 7, 8, 9, 10, 11, 0, 1, 2, 3, 4, 5, 6, 7, 8, 9, 10, 11, 12]
def am_xat (j : Nat) : Nat := am_xl.getD j 0
def am_dat (j : Nat) : Nat := am_dl.getD j 0
theorem st_x : ∀ j, j < 91 → Cond.eq (.elem (.static "WeylWords$Operator" "X_AT" "[I") (.int (Int32.ofNat j))) (.int (Int32.ofNat (am_xat j))) ∈ flatC (Jvm.Cond.and given_1 narrow_1) := by decide +kernel
theorem st_d : ∀ j, j < 91 → Cond.eq (.elem (.static "WeylWords$Operator" "D_AT" "[I") (.int (Int32.ofNat j))) (.int (Int32.ofNat (am_dat j))) ∈ flatC (Jvm.Cond.and given_1 narrow_1) := by decide +kernel
/-- the cells at the start: the script, the two rows -/
def am_h0 (L : Nat) (xs : Nat → Int) : am_H := (3, fun k => if k = 0 then (30, L, fun j => vI (xs j)) else if k = 1 then (30, 91, fun j => vI (am_xat j)) else if k = 2 then (30, 91, fun j => vI (am_dat j)) else (99, 0, fun _ => vU))
/-- THE CLAIM, over the abstract machine alone -/
def am_Pure : Prop := ∀ (L : Nat) (xs : Nat → Int), L ≤ 3072 → (∀ j, inR (xs j)) → ∃ ls' h', am_ev (am_run am_tb 60) tL_law ([vR 0, vU, vU, vU], [], am_h0 L xs) = some (1, ls', [vI 1], h') ∧ h'.1 ≤ 600000 ∧ am_sl h' ≤ 7302250
theorem st_static {args : Array Value} {s : State} {n : String} {f : Nat → Nat} {A : Nat → Prop} (h : (Jvm.Cond.and given_1 narrow_1).before args s = true) (hl : (Cond.laysStatic "WeylWords$Operator" n "[I").before args s = true) (hini : (Cond.initialized "WeylWords$Operator").before args s = true)
    (h1 : Cond.arrayOf (.static "WeylWords$Operator" n "[I") .int ∈ flatC (Jvm.Cond.and given_1 narrow_1)) (h2 : Cond.eq (.length (.static "WeylWords$Operator" n "[I")) (.int 91) ∈ flatC (Jvm.Cond.and given_1 narrow_1)) (h3 : ∀ j, j < 91 → Cond.eq (.elem (.static "WeylWords$Operator" n "[I") (.int (Int32.ofNat j))) (.int (Int32.ofNat (f j))) ∈ flatC (Jvm.Cond.and given_1 narrow_1))
    (hA : ∀ a : Nat, a < s.heap.size → ¬ A a) : ∃ t : Nat, va_Z "WeylWords$Operator" n "[I" (.ref t) A s s.heap ∧ va_T .int t 91 (fun j => .int (Int32.ofNat (f j))) A s s.heap := by
  have hs := flat_of_before _ h
  obtain ⟨t, ht, hT⟩ := va_Tof (N := 91) (f := fun j => .int (Int32.ofNat (f j))) (by decide) (hs _ h1) (va_eqt (hs _ h2)) (fun j hj => va_eqt (hs _ (h3 j hj))) hA
  exact ⟨t, va_Zref hl hini ht hA, hT⟩
theorem am_arrs {args : Array Value} {s : State} (hts : ∀ w ∈ lw_tbl, w.before args s = true) : ∀ t, ∃ cA, 20 ≤ t → t ≤ 25 → am_KA s t cA := by
  intro t
  by_cases ht : 20 ≤ t ∧ t ≤ 25
  · rcases (show t = 20 ∨ t = 21 ∨ t = 22 ∨ t = 23 ∨ t = 24 ∨ t = 25 by omega) with rfl | rfl | rfl | rfl | rfl | rfl
    · obtain ⟨c, k, comp, g1, g2, g3⟩ := Cond.arrayClass_spec (hts _ tb_ai)
      exact ⟨c, fun _ _ => ⟨g1, k, comp, g2, g3, fun w => by omega⟩⟩
    · obtain ⟨c, k, comp, g1, g2, g3⟩ := Cond.arrayClass_spec (hts _ tb_ab)
      exact ⟨c, fun _ _ => ⟨g1, k, comp, g2, g3, fun w => by omega⟩⟩
    · obtain ⟨comp, c, k, g1, g2, g3, g4, g5⟩ := arrayOverA_spec (hts _ tb_aa)
      exact ⟨c, fun _ _ => ⟨g5, k, comp, g3, g4, fun _ => g1⟩⟩
    · obtain ⟨comp, c, k, g1, g2, g3, g4, g5⟩ := Cond.arrayOver_spec (hts _ tb_ao23)
      exact ⟨c, fun _ _ => ⟨g5, k, comp, g3, g4, fun _ => g1⟩⟩
    · obtain ⟨comp, c, k, g1, g2, g3, g4, g5⟩ := Cond.arrayOver_spec (hts _ tb_ao24)
      exact ⟨c, fun _ _ => ⟨g5, k, comp, g3, g4, fun _ => g1⟩⟩
    · obtain ⟨comp, c, k, g1, g2, g3, g4, g5⟩ := Cond.arrayOver_spec (hts _ tb_ao25)
      exact ⟨c, fun _ _ => ⟨g5, k, comp, g3, g4, fun _ => g1⟩⟩
  · exact ⟨0, fun h1 h2 => absurd ⟨h1, h2⟩ ht⟩
theorem am_clss {args : Array Value} {s : State} (hts : ∀ w ∈ lw_tbl, w.before args s = true) : ∀ c, ∃ q : ClassId × (Nat → Nat), c < 13 → u_Kn s (am_q c).1 (am_q c).2.1 (am_n c) q.1 q.2 := by
  intro c
  by_cases hc : c < 13
  · obtain ⟨cC, iS, h⟩ := u_known (ws := lw_tbl) hts (tb_lay c hc) (hts _ (tb_inst c hc))
    exact ⟨(cC, iS), fun _ => h⟩
  · exact ⟨(0, fun _ => 0), fun h => absurd h hc⟩
theorem am_kws {args : Array Value} {s : State} (hts : ∀ w ∈ lw_tbl, w.before args s = true) : am_Kw s := by
  intro w hw hk
  have h1 := hts w hw
  cases w <;> try cases hk
  case arrayOver t =>
    cases t <;> try cases hk
    case object C => exact h1
    case array t => exact h1
  case methodLinkNest a i x b => exact va_Nw.of rfl h1
theorem whole_of (hp : am_Pure) {p : Program} {e : Env} {s : State} {m : MethodId} {below : List Frame} {meth : Method} {c : Code} (l : Launch) {b L : Nat} {xs : Nat → Int32} (hL : L ≤ 3072) (C0 : lw_At p s m meth c b L xs) : W p l e room_1 s m #[Value.ref b] below meth c s.heap [] 0 0 (lw_Z below #[Value.ref b] s) (entryFrame m ([Value.ref b] : List Value).toArray 4) := by
  obtain ⟨hx, hb, hr, hml, hown, hts, hX, hbl, hlocks, hgv⟩ := C0
  have hA : ∀ a : Nat, a < s.heap.size → ¬ (s.heap.size ≤ a) := fun a ha => by omega
  obtain ⟨tX, zX, vX⟩ := st_static (n := "X_AT") (f := am_xat) (A := fun q => s.heap.size ≤ q) hgv (hts _ (am_in9 542 (by decide +kernel))) (hts _ (tb_ini 6 (by decide))) (by decide +kernel) (by decide +kernel) st_x hA
  obtain ⟨tD, zD, vD⟩ := st_static (n := "D_AT") (f := am_dat) (A := fun q => s.heap.size ≤ q) hgv (hts _ (am_in9 544 (by decide +kernel))) (hts _ (tb_ini 6 (by decide))) (by decide +kernel) (by decide +kernel) st_d hA
  have hcl := am_clss hts
  have har := am_arrs hts
  let D : am_D := ((b, tX, tD, s.heap.size), fun c => (Classical.choose (hcl c)).1, fun c => (Classical.choose (hcl c)).2, fun t => Classical.choose (har t))
  have hK : am_K D s := by
    refine ⟨⟨fun c q hq => ?_, fun k q hk => by simp at hk⟩, fun t h1 h2 => Classical.choose_spec (har t) h1 h2, am_kws hts⟩
    have hc : c < 13 := (List.getElem?_eq_some_iff.mp hq).1
    have hq' : q = am_q c := Option.some.inj (hq.symm.trans (tb_q c hc).1)
    subst hq'
    rw [(tb_q c hc).2]
    exact Classical.choose_spec (hcl c) hc
  obtain ⟨ls', h', hev, hB1, hB2⟩ := hp L (fun j => (xs j).toInt) hL (fun j => ⟨by have := (xs j).le_toInt; omega, by have := (xs j).toInt_lt; omega⟩)
  have X : am_Fx p room_1 s m #[Value.ref b] meth c code 4 (am_own 15) false D :=
    ⟨hx, hb, hml, hown, fun w hw => hts w (List.mem_filter.mp hw).1, hK, by decide, by decide, fun h => by cases h⟩
  have hS := am_run_ok l D am_tb ok_tb 60
  have hle := am_ev_le hS _ okT_law hev
  have hBB : am_B room_1 (am_h0 L fun j => (xs j).toInt) (am_h0 L fun j => (xs j).toInt) := ⟨Nat.le_refl _, Nat.le_refl _, by rw [Nat.sub_self]; exact Nat.zero_le _, by rw [Nat.sub_self]; exact Nat.zero_le _⟩
  have hBB' : am_B room_1 (am_h0 L fun j => (xs j).toInt) h' := ⟨hle.1, hle.2, Nat.le_trans (Nat.sub_le _ _) hB1, Nat.le_trans (Nat.sub_le _ _) hB2⟩
  have hR : am_R D s (am_h0 L fun j => (xs j).toInt) s.heap := by
    obtain ⟨scr, c1, c2, c3, c4, c5⟩ := hX
    obtain ⟨cx, x1, x2, x3, x4, x5, x6, -⟩ := vX
    obtain ⟨cd, d1, d2, d3, d4, d5, d6, -⟩ := vD
    refine ⟨Nat.le_refl 3, rfl, ⟨hbl, (Array.getElem?_eq_some_iff.mp x1).1, (Array.getElem?_eq_some_iff.mp d1).1⟩, fun k hk => ?_, fun k hk => ?_, zX, zD⟩
    · rcases (show k = 0 ∨ k = 1 ∨ k = 2 by omega) with rfl | rfl | rfl <;> exact Or.inl rfl
    · by_cases h0 : k = 0
      · subst h0
        exact ⟨by show 0 < 3; omega, scr, c1, Or.inr (Or.inr ⟨rfl, c2, c3, ⟨by rw [c4]; exact Nat.le_refl L, by rw [c4]; rfl⟩, fun j hj => by rw [c5 j hj]; show some (Value.int (xs j)) = some (Value.int (Int32.ofInt (xs j).toInt)); rw [Int32.ofInt_toInt]⟩)⟩
      · by_cases h1 : k = 1
        · subst h1
          exact ⟨by show 1 < 3; omega, cx, x1, Or.inr (Or.inr ⟨rfl, x2, x3, ⟨x4, x5⟩, fun j hj => x6 j hj⟩)⟩
        · by_cases h2 : k = 2
          · subst h2
            exact ⟨by show 2 < 3; omega, cd, d1, Or.inr (Or.inr ⟨rfl, d2, d3, ⟨d4, d5⟩, fun j hj => d6 j hj⟩)⟩
          · refine absurd ?_ hk
            show (if k = 0 then _ else if k = 1 then _ else if k = 2 then _ else (99, 0, fun _ => vU) : am_C).1 = 99
            rw [if_neg h0, if_neg h1, if_neg h2]
  have main : am_At p l e room_1 s m #[Value.ref b] below meth c (lw_Z below #[Value.ref b] s) D 4 (am_h0 L fun j => (xs j).toInt) ([vR 0, vU, vU, vU], [], am_h0 L fun j => (xs j).toInt) 0 := by
    refine am_ev_ok X hS (by decide) (by decide) _ okT_law hev hBB hBB' ⟨fun q => by omega, fun t ht => by omega, fun _ i ts pcx pcy hokt ht => ?_⟩
    intro LS H locs hl hR hf
    have fin : decode code pcx = .ok (.ireturn, 1) → W p l e room_1 s m #[Value.ref b] below meth c H locs (h'.1 - (am_h0 L fun j => (xs j).toInt).1) (am_sl h' - am_sl (am_h0 L fun j => (xs j).toInt)) (lw_Z below #[Value.ref b] s) (F0 m pcx LS [.int 1]) := fun hd => by
      refine va_forget hf ?_
      refine W.widen (k := 600000) (n := 7302250) hBB'.2.2.1 hBB'.2.2.2 ?_
      exact lw_ret hx hb hr hlocks hd
    cases i <;> simp only [am_t] at ht <;> try (cases ht; done)
    case ifCond cd off =>
      split at ht
      · have := congrArg Prod.fst (Option.some.inj ht); split at this <;> cases this
      · cases ht
    case ireturn => exact fin hokt.1
  have hen := main _ s.heap [] (am_in_ls D.1 [vR 0] 4 (by decide)) hR (fun q hq => absurd hq List.not_mem_nil)
  rw [show (([vR 0, vU, vU, vU] : List am_V), ([] : List am_V), am_h0 L fun j => (xs j).toInt).2.2 = am_h0 L fun j => (xs j).toInt from rfl, Nat.sub_self, Nat.sub_self] at hen
  rw [lg_entry_eq]
  exact hen
end
