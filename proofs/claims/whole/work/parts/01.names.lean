-- began as the skeleton's PART A and the printed NAMES of this claim
-- ===== PART A: goes FIRST, ahead of the names: the tables' words, and 'selects' of the private methods out of them =====
/-- the name of a private method, as the Statement's table has it -/
def lw_pmn : Option Cond → String
  | some (.privateMethod m) => m.name
  | _ => ""
def lw_pm3_210 : String := lw_pmn tables_1_3[210]?
/-- a private method of a class that the tables say can be made, by its rows of tables_1 -/
def lw_okq (q : MethodName × Nat) : Prop := (q.1.cls ≠ "java/lang/invoke/MethodHandle" ∧ q.1.cls ≠ "java/lang/invoke/VarHandle") ∧ Cond.instantiable q.1.cls q.2 ∈ tables_1 ∧ Cond.privateMethod q.1 ∈ tables_1 ∧ Cond.instanceMethod q.1 ∈ tables_1
theorem lw_p0 : lw_okq (⟨"WeylWords", "bad", "()I"⟩, 13) := ⟨⟨by decide +kernel, by decide +kernel⟩, List.mem_of_getElem? (i := 18) (by decide +kernel), List.mem_of_getElem? (i := 352) (by decide +kernel), List.mem_of_getElem? (i := 353) (by decide +kernel)⟩
theorem lw_p1 : lw_okq (⟨"WeylWords", "replaceOperator", "(I)I"⟩, 13) := ⟨⟨by decide +kernel, by decide +kernel⟩, List.mem_of_getElem? (i := 18) (by decide +kernel), List.mem_of_getElem? (i := 416) (by decide +kernel), List.mem_of_getElem? (i := 417) (by decide +kernel)⟩
theorem lw_p2 : lw_okq (⟨"WeylWords", "full", "()I"⟩, 13) := ⟨⟨by decide +kernel, by decide +kernel⟩, List.mem_of_getElem? (i := 18) (by decide +kernel), List.mem_of_getElem? (i := 451) (by decide +kernel), List.mem_of_getElem? (i := 452) (by decide +kernel)⟩
theorem lw_p3 : lw_okq (⟨"WeylWords$Operator", "greatest", "(I)I"⟩, 1) := ⟨⟨by decide +kernel, by decide +kernel⟩, List.mem_of_getElem? (i := 35) (by decide +kernel), List.mem_of_getElem? (i := 518) (by decide +kernel), List.mem_of_getElem? (i := 519) (by decide +kernel)⟩
theorem lw_p4 : lw_okq (⟨"WeylWords$Action", "addImage", "([ILWeylWords$Operator;II)V"⟩, 3) := ⟨⟨by decide +kernel, by decide +kernel⟩, List.mem_of_getElem? (i := 239) (by decide +kernel), List.mem_of_getElem? (i := 564) (by decide +kernel), List.mem_of_getElem? (i := 565) (by decide +kernel)⟩
theorem lw_p5 : lw_okq (⟨"WeylWords$Action", "pivotRow", "(III)I"⟩, 3) := ⟨⟨by decide +kernel, by decide +kernel⟩, List.mem_of_getElem? (i := 239) (by decide +kernel), List.mem_of_getElem? (i := 580) (by decide +kernel), List.mem_of_getElem? (i := 581) (by decide +kernel)⟩
theorem lw_p6 : lw_okq (⟨"WeylWords$Action", "clearBelow", "(III)V"⟩, 3) := ⟨⟨by decide +kernel, by decide +kernel⟩, List.mem_of_getElem? (i := 239) (by decide +kernel), List.mem_of_getElem? (i := 584) (by decide +kernel), List.mem_of_getElem? (i := 585) (by decide +kernel)⟩
theorem lw_p7 : lw_okq (⟨"WeylWords", "no", "()I"⟩, 13) := ⟨⟨by decide +kernel, by decide +kernel⟩, List.mem_of_getElem? (i := 18) (by decide +kernel), List.mem_of_getElem? (i := 595) (by decide +kernel), List.mem_of_getElem? (i := 596) (by decide +kernel)⟩
theorem lw_p8 : lw_okq (⟨"WeylWords$Divider", "cancel", "(LWeylWords$Operator;I)V"⟩, 8) := ⟨⟨by decide +kernel, by decide +kernel⟩, List.mem_of_getElem? (i := 134) (by decide +kernel), List.mem_of_getElem? (i := 629) (by decide +kernel), List.mem_of_getElem? (i := 630) (by decide +kernel)⟩
theorem lw_p9 : lw_okq (⟨"WeylWords", "hasBasis", "(I)Z"⟩, 13) := ⟨⟨by decide +kernel, by decide +kernel⟩, List.mem_of_getElem? (i := 18) (by decide +kernel), List.mem_of_getElem? (i := 639) (by decide +kernel), List.mem_of_getElem? (i := 640) (by decide +kernel)⟩
theorem lw_p10 : lw_okq (⟨"WeylWords$Completion", "gather", "(LWeylWords$State;I)V"⟩, 11) := ⟨⟨by decide +kernel, by decide +kernel⟩, List.mem_of_getElem? (i := 166) (by decide +kernel), List.mem_of_getElem? (i := 656) (by decide +kernel), List.mem_of_getElem? (i := 657) (by decide +kernel)⟩
theorem lw_p11 : lw_okq (⟨"WeylWords$Completion", "complete", "()V"⟩, 11) := ⟨⟨by decide +kernel, by decide +kernel⟩, List.mem_of_getElem? (i := 166) (by decide +kernel), List.mem_of_getElem? (i := 662) (by decide +kernel), List.mem_of_getElem? (i := 663) (by decide +kernel)⟩
theorem lw_p12 : lw_okq (⟨"WeylWords$Completion", "absorb", "()V"⟩, 11) := ⟨⟨by decide +kernel, by decide +kernel⟩, List.mem_of_getElem? (i := 166) (by decide +kernel), List.mem_of_getElem? (i := 667) (by decide +kernel), List.mem_of_getElem? (i := 668) (by decide +kernel)⟩
theorem lw_p13 : lw_okq (⟨"WeylWords$Completion", "dismiss", "(I)V"⟩, 11) := ⟨⟨by decide +kernel, by decide +kernel⟩, List.mem_of_getElem? (i := 166) (by decide +kernel), List.mem_of_getElem? (i := 682) (by decide +kernel), List.mem_of_getElem? (i := 683) (by decide +kernel)⟩
theorem lw_p14 : lw_okq (⟨"WeylWords$Completion", "unsettle", "(I)V"⟩, 11) := ⟨⟨by decide +kernel, by decide +kernel⟩, List.mem_of_getElem? (i := 166) (by decide +kernel), List.mem_of_getElem? (i := 686) (by decide +kernel), List.mem_of_getElem? (i := 687) (by decide +kernel)⟩
theorem lw_p15 : lw_okq (⟨"WeylWords$Completion", lw_pm3_210, "(II)V"⟩, 11) := ⟨⟨by decide +kernel, by decide +kernel⟩, List.mem_of_getElem? (i := 166) (by decide +kernel), List.mem_of_getElem? (i := 690) (by decide +kernel), List.mem_of_getElem? (i := 691) (by decide +kernel)⟩
def lw_privs_1 : List (MethodName × Nat) := [(⟨"WeylWords", "bad", "()I"⟩, 13), (⟨"WeylWords", "replaceOperator", "(I)I"⟩, 13), (⟨"WeylWords", "full", "()I"⟩, 13), (⟨"WeylWords$Operator", "greatest", "(I)I"⟩, 1), (⟨"WeylWords$Action", "addImage", "([ILWeylWords$Operator;II)V"⟩, 3), (⟨"WeylWords$Action", "pivotRow", "(III)I"⟩, 3), (⟨"WeylWords$Action", "clearBelow", "(III)V"⟩, 3), (⟨"WeylWords", "no", "()I"⟩, 13), (⟨"WeylWords$Divider", "cancel", "(LWeylWords$Operator;I)V"⟩, 8), (⟨"WeylWords", "hasBasis", "(I)Z"⟩, 13), (⟨"WeylWords$Completion", "gather", "(LWeylWords$State;I)V"⟩, 11), (⟨"WeylWords$Completion", "complete", "()V"⟩, 11), (⟨"WeylWords$Completion", "absorb", "()V"⟩, 11), (⟨"WeylWords$Completion", "dismiss", "(I)V"⟩, 11), (⟨"WeylWords$Completion", "unsettle", "(I)V"⟩, 11), (⟨"WeylWords$Completion", lw_pm3_210, "(II)V"⟩, 11)]
theorem lw_r1 : ∀ q ∈ lw_privs_1, lw_okq q := List.forall_mem_cons.mpr ⟨lw_p0, List.forall_mem_cons.mpr ⟨lw_p1, List.forall_mem_cons.mpr ⟨lw_p2, List.forall_mem_cons.mpr ⟨lw_p3, List.forall_mem_cons.mpr ⟨lw_p4, List.forall_mem_cons.mpr ⟨lw_p5, List.forall_mem_cons.mpr ⟨lw_p6, List.forall_mem_cons.mpr ⟨lw_p7, List.forall_mem_cons.mpr ⟨lw_p8, List.forall_mem_cons.mpr ⟨lw_p9, List.forall_mem_cons.mpr ⟨lw_p10, List.forall_mem_cons.mpr ⟨lw_p11, List.forall_mem_cons.mpr ⟨lw_p12, List.forall_mem_cons.mpr ⟨lw_p13, List.forall_mem_cons.mpr ⟨lw_p14, List.forall_mem_cons.mpr ⟨lw_p15, fun _ h => absurd h List.not_mem_nil⟩⟩⟩⟩⟩⟩⟩⟩⟩⟩⟩⟩⟩⟩⟩⟩
theorem lw_p16 : lw_okq (⟨"WeylWords$Completion", "cheapestPair", "()I"⟩, 11) := ⟨⟨by decide +kernel, by decide +kernel⟩, List.mem_of_getElem? (i := 166) (by decide +kernel), List.mem_of_getElem? (i := 694) (by decide +kernel), List.mem_of_getElem? (i := 695) (by decide +kernel)⟩
theorem lw_p17 : lw_okq (⟨"WeylWords$Completion", "cross", "(I)V"⟩, 11) := ⟨⟨by decide +kernel, by decide +kernel⟩, List.mem_of_getElem? (i := 166) (by decide +kernel), List.mem_of_getElem? (i := 698) (by decide +kernel), List.mem_of_getElem? (i := 699) (by decide +kernel)⟩
theorem lw_p18 : lw_okq (⟨"WeylWords$Completion", "reduceTails", "()V"⟩, 11) := ⟨⟨by decide +kernel, by decide +kernel⟩, List.mem_of_getElem? (i := 166) (by decide +kernel), List.mem_of_getElem? (i := 706) (by decide +kernel), List.mem_of_getElem? (i := 707) (by decide +kernel)⟩
theorem lw_p19 : lw_okq (⟨"WeylWords$Completion", "handOver", "(LWeylWords$Basis;)V"⟩, 11) := ⟨⟨by decide +kernel, by decide +kernel⟩, List.mem_of_getElem? (i := 166) (by decide +kernel), List.mem_of_getElem? (i := 714) (by decide +kernel), List.mem_of_getElem? (i := 715) (by decide +kernel)⟩
theorem lw_p20 : lw_okq (⟨"WeylWords$Text", "pass", "(I)I"⟩, 4) := ⟨⟨by decide +kernel, by decide +kernel⟩, List.mem_of_getElem? (i := 90) (by decide +kernel), List.mem_of_getElem? (i := 769) (by decide +kernel), List.mem_of_getElem? (i := 770) (by decide +kernel)⟩
theorem lw_p21 : lw_okq (⟨"WeylWords$Text", "passOperand", "(I)I"⟩, 4) := ⟨⟨by decide +kernel, by decide +kernel⟩, List.mem_of_getElem? (i := 90) (by decide +kernel), List.mem_of_getElem? (i := 773) (by decide +kernel), List.mem_of_getElem? (i := 774) (by decide +kernel)⟩
theorem lw_p22 : lw_okq (⟨"WeylWords$Text", "passExponent", "(I)I"⟩, 4) := ⟨⟨by decide +kernel, by decide +kernel⟩, List.mem_of_getElem? (i := 90) (by decide +kernel), List.mem_of_getElem? (i := 785) (by decide +kernel), List.mem_of_getElem? (i := 786) (by decide +kernel)⟩
theorem lw_p23 : lw_okq (⟨"WeylWords$Text", "passLink", "(I)I"⟩, 4) := ⟨⟨by decide +kernel, by decide +kernel⟩, List.mem_of_getElem? (i := 90) (by decide +kernel), List.mem_of_getElem? (i := 793) (by decide +kernel), List.mem_of_getElem? (i := 794) (by decide +kernel)⟩
theorem lw_p24 : lw_okq (⟨"WeylWords$Reader", "readExpression", "(I)Z"⟩, 7) := ⟨⟨by decide +kernel, by decide +kernel⟩, List.mem_of_getElem? (i := 257) (by decide +kernel), List.mem_of_getElem? (i := 801) (by decide +kernel), List.mem_of_getElem? (i := 802) (by decide +kernel)⟩
theorem lw_p25 : lw_okq (⟨"WeylWords$Reader", "peek", "()I"⟩, 7) := ⟨⟨by decide +kernel, by decide +kernel⟩, List.mem_of_getElem? (i := 257) (by decide +kernel), List.mem_of_getElem? (i := 806) (by decide +kernel), List.mem_of_getElem? (i := 807) (by decide +kernel)⟩
theorem lw_p26 : lw_okq (⟨"WeylWords$Reader", "readTerm", "(I)Z"⟩, 7) := ⟨⟨by decide +kernel, by decide +kernel⟩, List.mem_of_getElem? (i := 257) (by decide +kernel), List.mem_of_getElem? (i := 811) (by decide +kernel), List.mem_of_getElem? (i := 812) (by decide +kernel)⟩
theorem lw_p27 : lw_okq (⟨"WeylWords$Reader", "readFactor", "(I)Z"⟩, 7) := ⟨⟨by decide +kernel, by decide +kernel⟩, List.mem_of_getElem? (i := 257) (by decide +kernel), List.mem_of_getElem? (i := 816) (by decide +kernel), List.mem_of_getElem? (i := 817) (by decide +kernel)⟩
theorem lw_p28 : lw_okq (⟨"WeylWords$Reader", "readNumber", "(I)I"⟩, 7) := ⟨⟨by decide +kernel, by decide +kernel⟩, List.mem_of_getElem? (i := 257) (by decide +kernel), List.mem_of_getElem? (i := 822) (by decide +kernel), List.mem_of_getElem? (i := 823) (by decide +kernel)⟩
theorem lw_p29 : lw_okq (⟨"WeylWords$Writer", "writeTerm", "(IIZ)V"⟩, 2) := ⟨⟨by decide +kernel, by decide +kernel⟩, List.mem_of_getElem? (i := 287) (by decide +kernel), List.mem_of_getElem? (i := 844) (by decide +kernel), List.mem_of_getElem? (i := 845) (by decide +kernel)⟩
theorem lw_p30 : lw_okq (⟨"WeylWords$Writer", "write", "(I)V"⟩, 2) := ⟨⟨by decide +kernel, by decide +kernel⟩, List.mem_of_getElem? (i := 287) (by decide +kernel), List.mem_of_getElem? (i := 848) (by decide +kernel), List.mem_of_getElem? (i := 849) (by decide +kernel)⟩
theorem lw_p31 : lw_okq (⟨"WeylWords$Writer", "writeNumber", "(I)V"⟩, 2) := ⟨⟨by decide +kernel, by decide +kernel⟩, List.mem_of_getElem? (i := 287) (by decide +kernel), List.mem_of_getElem? (i := 855) (by decide +kernel), List.mem_of_getElem? (i := 856) (by decide +kernel)⟩
def lw_privs_2 : List (MethodName × Nat) := [(⟨"WeylWords$Completion", "cheapestPair", "()I"⟩, 11), (⟨"WeylWords$Completion", "cross", "(I)V"⟩, 11), (⟨"WeylWords$Completion", "reduceTails", "()V"⟩, 11), (⟨"WeylWords$Completion", "handOver", "(LWeylWords$Basis;)V"⟩, 11), (⟨"WeylWords$Text", "pass", "(I)I"⟩, 4), (⟨"WeylWords$Text", "passOperand", "(I)I"⟩, 4), (⟨"WeylWords$Text", "passExponent", "(I)I"⟩, 4), (⟨"WeylWords$Text", "passLink", "(I)I"⟩, 4), (⟨"WeylWords$Reader", "readExpression", "(I)Z"⟩, 7), (⟨"WeylWords$Reader", "peek", "()I"⟩, 7), (⟨"WeylWords$Reader", "readTerm", "(I)Z"⟩, 7), (⟨"WeylWords$Reader", "readFactor", "(I)Z"⟩, 7), (⟨"WeylWords$Reader", "readNumber", "(I)I"⟩, 7), (⟨"WeylWords$Writer", "writeTerm", "(IIZ)V"⟩, 2), (⟨"WeylWords$Writer", "write", "(I)V"⟩, 2), (⟨"WeylWords$Writer", "writeNumber", "(I)V"⟩, 2)]
theorem lw_r2 : ∀ q ∈ lw_privs_2, lw_okq q := List.forall_mem_cons.mpr ⟨lw_p16, List.forall_mem_cons.mpr ⟨lw_p17, List.forall_mem_cons.mpr ⟨lw_p18, List.forall_mem_cons.mpr ⟨lw_p19, List.forall_mem_cons.mpr ⟨lw_p20, List.forall_mem_cons.mpr ⟨lw_p21, List.forall_mem_cons.mpr ⟨lw_p22, List.forall_mem_cons.mpr ⟨lw_p23, List.forall_mem_cons.mpr ⟨lw_p24, List.forall_mem_cons.mpr ⟨lw_p25, List.forall_mem_cons.mpr ⟨lw_p26, List.forall_mem_cons.mpr ⟨lw_p27, List.forall_mem_cons.mpr ⟨lw_p28, List.forall_mem_cons.mpr ⟨lw_p29, List.forall_mem_cons.mpr ⟨lw_p30, List.forall_mem_cons.mpr ⟨lw_p31, fun _ h => absurd h List.not_mem_nil⟩⟩⟩⟩⟩⟩⟩⟩⟩⟩⟩⟩⟩⟩⟩⟩
theorem lw_p32 : lw_okq (⟨"WeylWords$Writer", "writeLetter", "(IIZ)V"⟩, 2) := ⟨⟨by decide +kernel, by decide +kernel⟩, List.mem_of_getElem? (i := 287) (by decide +kernel), List.mem_of_getElem? (i := 861) (by decide +kernel), List.mem_of_getElem? (i := 862) (by decide +kernel)⟩
theorem lw_p33 : lw_okq (⟨"WeylWordsModel", "no", "()I"⟩, 31) := ⟨⟨by decide +kernel, by decide +kernel⟩, List.mem_of_getElem? (i := 887) (by decide +kernel), List.mem_of_getElem? (i := 994) (by decide +kernel), List.mem_of_getElem? (i := 995) (by decide +kernel)⟩
theorem lw_p34 : lw_okq (⟨"WeylWordsModel", "bad", "()I"⟩, 31) := ⟨⟨by decide +kernel, by decide +kernel⟩, List.mem_of_getElem? (i := 887) (by decide +kernel), List.mem_of_getElem? (i := 1011) (by decide +kernel), List.mem_of_getElem? (i := 1012) (by decide +kernel)⟩
theorem lw_p35 : lw_okq (⟨"WeylWordsModel", "remembers", "()V"⟩, 31) := ⟨⟨by decide +kernel, by decide +kernel⟩, List.mem_of_getElem? (i := 887) (by decide +kernel), List.mem_of_getElem? (i := 1015) (by decide +kernel), List.mem_of_getElem? (i := 1016) (by decide +kernel)⟩
theorem lw_p36 : lw_okq (⟨"WeylWordsModel", "fetches", "(II)V"⟩, 31) := ⟨⟨by decide +kernel, by decide +kernel⟩, List.mem_of_getElem? (i := 887) (by decide +kernel), List.mem_of_getElem? (i := 1033) (by decide +kernel), List.mem_of_getElem? (i := 1034) (by decide +kernel)⟩
theorem lw_p37 : lw_okq (⟨"WeylWordsModel", "wipe", "(I)V"⟩, 31) := ⟨⟨by decide +kernel, by decide +kernel⟩, List.mem_of_getElem? (i := 887) (by decide +kernel), List.mem_of_getElem? (i := 1037) (by decide +kernel), List.mem_of_getElem? (i := 1038) (by decide +kernel)⟩
theorem lw_p38 : lw_okq (⟨"WeylWordsModel", "mixes", "(IIIII)V"⟩, 31) := ⟨⟨by decide +kernel, by decide +kernel⟩, List.mem_of_getElem? (i := 887) (by decide +kernel), List.mem_of_getElem? (i := 1041) (by decide +kernel), List.mem_of_getElem? (i := 1042) (by decide +kernel)⟩
theorem lw_p39 : lw_okq (⟨"WeylWordsModel", "keeps", "(II)I"⟩, 31) := ⟨⟨by decide +kernel, by decide +kernel⟩, List.mem_of_getElem? (i := 887) (by decide +kernel), List.mem_of_getElem? (i := 1045) (by decide +kernel), List.mem_of_getElem? (i := 1046) (by decide +kernel)⟩
theorem lw_p40 : lw_okq (⟨"WeylWordsModel", "termsIn", "(I)I"⟩, 31) := ⟨⟨by decide +kernel, by decide +kernel⟩, List.mem_of_getElem? (i := 887) (by decide +kernel), List.mem_of_getElem? (i := 1049) (by decide +kernel), List.mem_of_getElem? (i := 1050) (by decide +kernel)⟩
theorem lw_p41 : lw_okq (⟨"WeylWordsModel", "isTooMuch", "(II)Z"⟩, 31) := ⟨⟨by decide +kernel, by decide +kernel⟩, List.mem_of_getElem? (i := 887) (by decide +kernel), List.mem_of_getElem? (i := 1057) (by decide +kernel), List.mem_of_getElem? (i := 1058) (by decide +kernel)⟩
theorem lw_p42 : lw_okq (⟨"WeylWordsModel", "degreeIn", "(I)I"⟩, 31) := ⟨⟨by decide +kernel, by decide +kernel⟩, List.mem_of_getElem? (i := 887) (by decide +kernel), List.mem_of_getElem? (i := 1061) (by decide +kernel), List.mem_of_getElem? (i := 1062) (by decide +kernel)⟩
theorem lw_p43 : lw_okq (⟨"WeylWordsModel", "full", "()I"⟩, 31) := ⟨⟨by decide +kernel, by decide +kernel⟩, List.mem_of_getElem? (i := 887) (by decide +kernel), List.mem_of_getElem? (i := 1065) (by decide +kernel), List.mem_of_getElem? (i := 1066) (by decide +kernel)⟩
theorem lw_p44 : lw_okq (⟨"WeylWordsModel", "multiplies", "(III)V"⟩, 31) := ⟨⟨by decide +kernel, by decide +kernel⟩, List.mem_of_getElem? (i := 887) (by decide +kernel), List.mem_of_getElem? (i := 1069) (by decide +kernel), List.mem_of_getElem? (i := 1070) (by decide +kernel)⟩
theorem lw_p45 : lw_okq (⟨"WeylWordsModel", "addsBehind", "(IIIII)V"⟩, 31) := ⟨⟨by decide +kernel, by decide +kernel⟩, List.mem_of_getElem? (i := 887) (by decide +kernel), List.mem_of_getElem? (i := 1073) (by decide +kernel), List.mem_of_getElem? (i := 1074) (by decide +kernel)⟩
theorem lw_p46 : lw_okq (⟨"WeylWordsModel", "adds", "(IIIIII)V"⟩, 31) := ⟨⟨by decide +kernel, by decide +kernel⟩, List.mem_of_getElem? (i := 887) (by decide +kernel), List.mem_of_getElem? (i := 1077) (by decide +kernel), List.mem_of_getElem? (i := 1078) (by decide +kernel)⟩
theorem lw_p47 : lw_okq (⟨"WeylWordsModel", "isPowerTooMuch", "(II)Z"⟩, 31) := ⟨⟨by decide +kernel, by decide +kernel⟩, List.mem_of_getElem? (i := 887) (by decide +kernel), List.mem_of_getElem? (i := 1089) (by decide +kernel), List.mem_of_getElem? (i := 1090) (by decide +kernel)⟩
def lw_privs_3 : List (MethodName × Nat) := [(⟨"WeylWords$Writer", "writeLetter", "(IIZ)V"⟩, 2), (⟨"WeylWordsModel", "no", "()I"⟩, 31), (⟨"WeylWordsModel", "bad", "()I"⟩, 31), (⟨"WeylWordsModel", "remembers", "()V"⟩, 31), (⟨"WeylWordsModel", "fetches", "(II)V"⟩, 31), (⟨"WeylWordsModel", "wipe", "(I)V"⟩, 31), (⟨"WeylWordsModel", "mixes", "(IIIII)V"⟩, 31), (⟨"WeylWordsModel", "keeps", "(II)I"⟩, 31), (⟨"WeylWordsModel", "termsIn", "(I)I"⟩, 31), (⟨"WeylWordsModel", "isTooMuch", "(II)Z"⟩, 31), (⟨"WeylWordsModel", "degreeIn", "(I)I"⟩, 31), (⟨"WeylWordsModel", "full", "()I"⟩, 31), (⟨"WeylWordsModel", "multiplies", "(III)V"⟩, 31), (⟨"WeylWordsModel", "addsBehind", "(IIIII)V"⟩, 31), (⟨"WeylWordsModel", "adds", "(IIIIII)V"⟩, 31), (⟨"WeylWordsModel", "isPowerTooMuch", "(II)Z"⟩, 31)]
theorem lw_r3 : ∀ q ∈ lw_privs_3, lw_okq q := List.forall_mem_cons.mpr ⟨lw_p32, List.forall_mem_cons.mpr ⟨lw_p33, List.forall_mem_cons.mpr ⟨lw_p34, List.forall_mem_cons.mpr ⟨lw_p35, List.forall_mem_cons.mpr ⟨lw_p36, List.forall_mem_cons.mpr ⟨lw_p37, List.forall_mem_cons.mpr ⟨lw_p38, List.forall_mem_cons.mpr ⟨lw_p39, List.forall_mem_cons.mpr ⟨lw_p40, List.forall_mem_cons.mpr ⟨lw_p41, List.forall_mem_cons.mpr ⟨lw_p42, List.forall_mem_cons.mpr ⟨lw_p43, List.forall_mem_cons.mpr ⟨lw_p44, List.forall_mem_cons.mpr ⟨lw_p45, List.forall_mem_cons.mpr ⟨lw_p46, List.forall_mem_cons.mpr ⟨lw_p47, fun _ h => absurd h List.not_mem_nil⟩⟩⟩⟩⟩⟩⟩⟩⟩⟩⟩⟩⟩⟩⟩⟩
theorem lw_p48 : lw_okq (⟨"WeylWordsModel", "raises", "(I)V"⟩, 31) := ⟨⟨by decide +kernel, by decide +kernel⟩, List.mem_of_getElem? (i := 887) (by decide +kernel), List.mem_of_getElem? (i := 1093) (by decide +kernel), List.mem_of_getElem? (i := 1094) (by decide +kernel)⟩
theorem lw_p49 : lw_okq (⟨"WeylWordsModel", "copies", "(II)V"⟩, 31) := ⟨⟨by decide +kernel, by decide +kernel⟩, List.mem_of_getElem? (i := 887) (by decide +kernel), List.mem_of_getElem? (i := 1097) (by decide +kernel), List.mem_of_getElem? (i := 1098) (by decide +kernel)⟩
theorem lw_p50 : lw_okq (⟨"WeylWordsModel", "aboutOf", "(II)I"⟩, 31) := ⟨⟨by decide +kernel, by decide +kernel⟩, List.mem_of_getElem? (i := 887) (by decide +kernel), List.mem_of_getElem? (i := 1109) (by decide +kernel), List.mem_of_getElem? (i := 1110) (by decide +kernel)⟩
theorem lw_p51 : lw_okq (⟨"WeylWordsModel", "greatest", "(III)I"⟩, 31) := ⟨⟨by decide +kernel, by decide +kernel⟩, List.mem_of_getElem? (i := 887) (by decide +kernel), List.mem_of_getElem? (i := 1113) (by decide +kernel), List.mem_of_getElem? (i := 1114) (by decide +kernel)⟩
theorem lw_p52 : lw_okq (⟨"WeylWordsModel", "ofLead", "(I)I"⟩, 31) := ⟨⟨by decide +kernel, by decide +kernel⟩, List.mem_of_getElem? (i := 887) (by decide +kernel), List.mem_of_getElem? (i := 1117) (by decide +kernel), List.mem_of_getElem? (i := 1118) (by decide +kernel)⟩
theorem lw_p53 : lw_okq (⟨"WeylWordsModel", "leadIn", "(I)I"⟩, 31) := ⟨⟨by decide +kernel, by decide +kernel⟩, List.mem_of_getElem? (i := 887) (by decide +kernel), List.mem_of_getElem? (i := 1121) (by decide +kernel), List.mem_of_getElem? (i := 1122) (by decide +kernel)⟩
theorem lw_p54 : lw_okq (⟨"WeylWordsModel", "wordBehind", "(II)I"⟩, 31) := ⟨⟨by decide +kernel, by decide +kernel⟩, List.mem_of_getElem? (i := 887) (by decide +kernel), List.mem_of_getElem? (i := 1125) (by decide +kernel), List.mem_of_getElem? (i := 1126) (by decide +kernel)⟩
theorem lw_p55 : lw_okq (⟨"WeylWordsModel", "canMake", "(II)Z"⟩, 31) := ⟨⟨by decide +kernel, by decide +kernel⟩, List.mem_of_getElem? (i := 887) (by decide +kernel), List.mem_of_getElem? (i := 1151) (by decide +kernel), List.mem_of_getElem? (i := 1152) (by decide +kernel)⟩
theorem lw_p56 : lw_okq (⟨"WeylWordsModel", "greatestPower", "(I)I"⟩, 31) := ⟨⟨by decide +kernel, by decide +kernel⟩, List.mem_of_getElem? (i := 887) (by decide +kernel), List.mem_of_getElem? (i := 1158) (by decide +kernel), List.mem_of_getElem? (i := 1159) (by decide +kernel)⟩
theorem lw_p57 : lw_okq (⟨"WeylWordsModel", "laysMatrix", "(II)V"⟩, 31) := ⟨⟨by decide +kernel, by decide +kernel⟩, List.mem_of_getElem? (i := 887) (by decide +kernel), List.mem_of_getElem? (i := 1166) (by decide +kernel), List.mem_of_getElem? (i := 1167) (by decide +kernel)⟩
theorem lw_p58 : lw_okq (⟨"WeylWordsModel", "isFree", "(II)Z"⟩, 31) := ⟨⟨by decide +kernel, by decide +kernel⟩, List.mem_of_getElem? (i := 887) (by decide +kernel), List.mem_of_getElem? (i := 1170) (by decide +kernel), List.mem_of_getElem? (i := 1171) (by decide +kernel)⟩
theorem lw_p59 : lw_okq (⟨"WeylWordsModel", "addsRow", "(III)V"⟩, 31) := ⟨⟨by decide +kernel, by decide +kernel⟩, List.mem_of_getElem? (i := 887) (by decide +kernel), List.mem_of_getElem? (i := 1177) (by decide +kernel), List.mem_of_getElem? (i := 1178) (by decide +kernel)⟩
theorem lw_p60 : lw_okq (⟨"WeylWordsModel", "rests", "(I)V"⟩, 31) := ⟨⟨by decide +kernel, by decide +kernel⟩, List.mem_of_getElem? (i := 887) (by decide +kernel), List.mem_of_getElem? (i := 1192) (by decide +kernel), List.mem_of_getElem? (i := 1193) (by decide +kernel)⟩
theorem lw_p61 : lw_okq (⟨"WeylWordsModel", "findsLeads", "()V"⟩, 31) := ⟨⟨by decide +kernel, by decide +kernel⟩, List.mem_of_getElem? (i := 887) (by decide +kernel), List.mem_of_getElem? (i := 1196) (by decide +kernel), List.mem_of_getElem? (i := 1197) (by decide +kernel)⟩
theorem lw_p62 : lw_okq (⟨"WeylWordsModel", "firstBelow", "(I)I"⟩, 31) := ⟨⟨by decide +kernel, by decide +kernel⟩, List.mem_of_getElem? (i := 887) (by decide +kernel), List.mem_of_getElem? (i := 1200) (by decide +kernel), List.mem_of_getElem? (i := 1201) (by decide +kernel)⟩
theorem lw_p63 : lw_okq (⟨"WeylWordsModel", "isBelow", "(II)Z"⟩, 31) := ⟨⟨by decide +kernel, by decide +kernel⟩, List.mem_of_getElem? (i := 887) (by decide +kernel), List.mem_of_getElem? (i := 1204) (by decide +kernel), List.mem_of_getElem? (i := 1205) (by decide +kernel)⟩
def lw_privs_4 : List (MethodName × Nat) := [(⟨"WeylWordsModel", "raises", "(I)V"⟩, 31), (⟨"WeylWordsModel", "copies", "(II)V"⟩, 31), (⟨"WeylWordsModel", "aboutOf", "(II)I"⟩, 31), (⟨"WeylWordsModel", "greatest", "(III)I"⟩, 31), (⟨"WeylWordsModel", "ofLead", "(I)I"⟩, 31), (⟨"WeylWordsModel", "leadIn", "(I)I"⟩, 31), (⟨"WeylWordsModel", "wordBehind", "(II)I"⟩, 31), (⟨"WeylWordsModel", "canMake", "(II)Z"⟩, 31), (⟨"WeylWordsModel", "greatestPower", "(I)I"⟩, 31), (⟨"WeylWordsModel", "laysMatrix", "(II)V"⟩, 31), (⟨"WeylWordsModel", "isFree", "(II)Z"⟩, 31), (⟨"WeylWordsModel", "addsRow", "(III)V"⟩, 31), (⟨"WeylWordsModel", "rests", "(I)V"⟩, 31), (⟨"WeylWordsModel", "findsLeads", "()V"⟩, 31), (⟨"WeylWordsModel", "firstBelow", "(I)I"⟩, 31), (⟨"WeylWordsModel", "isBelow", "(II)Z"⟩, 31)]
theorem lw_r4 : ∀ q ∈ lw_privs_4, lw_okq q := List.forall_mem_cons.mpr ⟨lw_p48, List.forall_mem_cons.mpr ⟨lw_p49, List.forall_mem_cons.mpr ⟨lw_p50, List.forall_mem_cons.mpr ⟨lw_p51, List.forall_mem_cons.mpr ⟨lw_p52, List.forall_mem_cons.mpr ⟨lw_p53, List.forall_mem_cons.mpr ⟨lw_p54, List.forall_mem_cons.mpr ⟨lw_p55, List.forall_mem_cons.mpr ⟨lw_p56, List.forall_mem_cons.mpr ⟨lw_p57, List.forall_mem_cons.mpr ⟨lw_p58, List.forall_mem_cons.mpr ⟨lw_p59, List.forall_mem_cons.mpr ⟨lw_p60, List.forall_mem_cons.mpr ⟨lw_p61, List.forall_mem_cons.mpr ⟨lw_p62, List.forall_mem_cons.mpr ⟨lw_p63, fun _ h => absurd h List.not_mem_nil⟩⟩⟩⟩⟩⟩⟩⟩⟩⟩⟩⟩⟩⟩⟩⟩
theorem lw_p64 : lw_okq (⟨"WeylWordsModel", "isSmall", "(I)Z"⟩, 31) := ⟨⟨by decide +kernel, by decide +kernel⟩, List.mem_of_getElem? (i := 887) (by decide +kernel), List.mem_of_getElem? (i := 1212) (by decide +kernel), List.mem_of_getElem? (i := 1213) (by decide +kernel)⟩
theorem lw_p65 : lw_okq (⟨"WeylWordsModel", "laysBasis", "(I)V"⟩, 31) := ⟨⟨by decide +kernel, by decide +kernel⟩, List.mem_of_getElem? (i := 887) (by decide +kernel), List.mem_of_getElem? (i := 1216) (by decide +kernel), List.mem_of_getElem? (i := 1217) (by decide +kernel)⟩
theorem lw_p66 : lw_okq (⟨"WeylWordsModel", "tidies", "()V"⟩, 31) := ⟨⟨by decide +kernel, by decide +kernel⟩, List.mem_of_getElem? (i := 887) (by decide +kernel), List.mem_of_getElem? (i := 1220) (by decide +kernel), List.mem_of_getElem? (i := 1221) (by decide +kernel)⟩
theorem lw_p67 : lw_okq (⟨"WeylWordsModel", "takesBy", "(I)V"⟩, 31) := ⟨⟨by decide +kernel, by decide +kernel⟩, List.mem_of_getElem? (i := 887) (by decide +kernel), List.mem_of_getElem? (i := 1224) (by decide +kernel), List.mem_of_getElem? (i := 1225) (by decide +kernel)⟩
theorem lw_p68 : lw_okq (⟨"WeylWordsModel", "rowGoes", "(I)V"⟩, 31) := ⟨⟨by decide +kernel, by decide +kernel⟩, List.mem_of_getElem? (i := 887) (by decide +kernel), List.mem_of_getElem? (i := 1228) (by decide +kernel), List.mem_of_getElem? (i := 1229) (by decide +kernel)⟩
theorem lw_p69 : lw_okq (⟨"WeylWordsModel", "evens", "(I)V"⟩, 31) := ⟨⟨by decide +kernel, by decide +kernel⟩, List.mem_of_getElem? (i := 887) (by decide +kernel), List.mem_of_getElem? (i := 1232) (by decide +kernel), List.mem_of_getElem? (i := 1233) (by decide +kernel)⟩
theorem lw_p70 : lw_okq (⟨"WeylWordsModel", "areAlike", "(II)Z"⟩, 31) := ⟨⟨by decide +kernel, by decide +kernel⟩, List.mem_of_getElem? (i := 887) (by decide +kernel), List.mem_of_getElem? (i := 1236) (by decide +kernel), List.mem_of_getElem? (i := 1237) (by decide +kernel)⟩
theorem lw_p71 : lw_okq (⟨"WeylWordsModel", "isOneMore", "()Z"⟩, 31) := ⟨⟨by decide +kernel, by decide +kernel⟩, List.mem_of_getElem? (i := 887) (by decide +kernel), List.mem_of_getElem? (i := 1240) (by decide +kernel), List.mem_of_getElem? (i := 1241) (by decide +kernel)⟩
theorem lw_p72 : lw_okq (⟨"WeylWordsModel", "sorts", "(Z)V"⟩, 31) := ⟨⟨by decide +kernel, by decide +kernel⟩, List.mem_of_getElem? (i := 887) (by decide +kernel), List.mem_of_getElem? (i := 1244) (by decide +kernel), List.mem_of_getElem? (i := 1245) (by decide +kernel)⟩
theorem lw_p73 : lw_okq (⟨"WeylWordsModel", "isAhead", "(II)Z"⟩, 31) := ⟨⟨by decide +kernel, by decide +kernel⟩, List.mem_of_getElem? (i := 887) (by decide +kernel), List.mem_of_getElem? (i := 1248) (by decide +kernel), List.mem_of_getElem? (i := 1249) (by decide +kernel)⟩
theorem lw_p74 : lw_okq (⟨"WeylWordsModel", "exchanges", "(II)V"⟩, 31) := ⟨⟨by decide +kernel, by decide +kernel⟩, List.mem_of_getElem? (i := 887) (by decide +kernel), List.mem_of_getElem? (i := 1252) (by decide +kernel), List.mem_of_getElem? (i := 1253) (by decide +kernel)⟩
theorem lw_p75 : lw_okq (⟨"WeylWordsModel", "crosses", "(II)V"⟩, 31) := ⟨⟨by decide +kernel, by decide +kernel⟩, List.mem_of_getElem? (i := 887) (by decide +kernel), List.mem_of_getElem? (i := 1256) (by decide +kernel), List.mem_of_getElem? (i := 1257) (by decide +kernel)⟩
theorem lw_p76 : lw_okq (⟨"WeylWordsModel", "isRead", "(Z)Z"⟩, 31) := ⟨⟨by decide +kernel, by decide +kernel⟩, List.mem_of_getElem? (i := 887) (by decide +kernel), List.mem_of_getElem? (i := 1284) (by decide +kernel), List.mem_of_getElem? (i := 1285) (by decide +kernel)⟩
theorem lw_p77 : lw_okq (⟨"WeylWordsModel", "opens", "()V"⟩, 31) := ⟨⟨by decide +kernel, by decide +kernel⟩, List.mem_of_getElem? (i := 887) (by decide +kernel), List.mem_of_getElem? (i := 1288) (by decide +kernel), List.mem_of_getElem? (i := 1289) (by decide +kernel)⟩
theorem lw_p78 : lw_okq (⟨"WeylWordsModel", "blanks", "()V"⟩, 31) := ⟨⟨by decide +kernel, by decide +kernel⟩, List.mem_of_getElem? (i := 887) (by decide +kernel), List.mem_of_getElem? (i := 1292) (by decide +kernel), List.mem_of_getElem? (i := 1293) (by decide +kernel)⟩
theorem lw_p79 : lw_okq (⟨"WeylWordsModel", "isAt", "(II)Z"⟩, 31) := ⟨⟨by decide +kernel, by decide +kernel⟩, List.mem_of_getElem? (i := 887) (by decide +kernel), List.mem_of_getElem? (i := 1296) (by decide +kernel), List.mem_of_getElem? (i := 1297) (by decide +kernel)⟩
def lw_privs_5 : List (MethodName × Nat) := [(⟨"WeylWordsModel", "isSmall", "(I)Z"⟩, 31), (⟨"WeylWordsModel", "laysBasis", "(I)V"⟩, 31), (⟨"WeylWordsModel", "tidies", "()V"⟩, 31), (⟨"WeylWordsModel", "takesBy", "(I)V"⟩, 31), (⟨"WeylWordsModel", "rowGoes", "(I)V"⟩, 31), (⟨"WeylWordsModel", "evens", "(I)V"⟩, 31), (⟨"WeylWordsModel", "areAlike", "(II)Z"⟩, 31), (⟨"WeylWordsModel", "isOneMore", "()Z"⟩, 31), (⟨"WeylWordsModel", "sorts", "(Z)V"⟩, 31), (⟨"WeylWordsModel", "isAhead", "(II)Z"⟩, 31), (⟨"WeylWordsModel", "exchanges", "(II)V"⟩, 31), (⟨"WeylWordsModel", "crosses", "(II)V"⟩, 31), (⟨"WeylWordsModel", "isRead", "(Z)Z"⟩, 31), (⟨"WeylWordsModel", "opens", "()V"⟩, 31), (⟨"WeylWordsModel", "blanks", "()V"⟩, 31), (⟨"WeylWordsModel", "isAt", "(II)Z"⟩, 31)]
theorem lw_r5 : ∀ q ∈ lw_privs_5, lw_okq q := List.forall_mem_cons.mpr ⟨lw_p64, List.forall_mem_cons.mpr ⟨lw_p65, List.forall_mem_cons.mpr ⟨lw_p66, List.forall_mem_cons.mpr ⟨lw_p67, List.forall_mem_cons.mpr ⟨lw_p68, List.forall_mem_cons.mpr ⟨lw_p69, List.forall_mem_cons.mpr ⟨lw_p70, List.forall_mem_cons.mpr ⟨lw_p71, List.forall_mem_cons.mpr ⟨lw_p72, List.forall_mem_cons.mpr ⟨lw_p73, List.forall_mem_cons.mpr ⟨lw_p74, List.forall_mem_cons.mpr ⟨lw_p75, List.forall_mem_cons.mpr ⟨lw_p76, List.forall_mem_cons.mpr ⟨lw_p77, List.forall_mem_cons.mpr ⟨lw_p78, List.forall_mem_cons.mpr ⟨lw_p79, fun _ h => absurd h List.not_mem_nil⟩⟩⟩⟩⟩⟩⟩⟩⟩⟩⟩⟩⟩⟩⟩⟩
theorem lw_p80 : lw_okq (⟨"WeylWordsModel", "takesFactor", "()Z"⟩, 31) := ⟨⟨by decide +kernel, by decide +kernel⟩, List.mem_of_getElem? (i := 887) (by decide +kernel), List.mem_of_getElem? (i := 1300) (by decide +kernel), List.mem_of_getElem? (i := 1301) (by decide +kernel)⟩
theorem lw_p81 : lw_okq (⟨"WeylWordsModel", "fails", "(I)Z"⟩, 31) := ⟨⟨by decide +kernel, by decide +kernel⟩, List.mem_of_getElem? (i := 887) (by decide +kernel), List.mem_of_getElem? (i := 1304) (by decide +kernel), List.mem_of_getElem? (i := 1305) (by decide +kernel)⟩
theorem lw_p82 : lw_okq (⟨"WeylWordsModel", "takesFigures", "(I)Z"⟩, 31) := ⟨⟨by decide +kernel, by decide +kernel⟩, List.mem_of_getElem? (i := 887) (by decide +kernel), List.mem_of_getElem? (i := 1308) (by decide +kernel), List.mem_of_getElem? (i := 1309) (by decide +kernel)⟩
theorem lw_p83 : lw_okq (⟨"WeylWordsModel", "values", "(III)V"⟩, 31) := ⟨⟨by decide +kernel, by decide +kernel⟩, List.mem_of_getElem? (i := 887) (by decide +kernel), List.mem_of_getElem? (i := 1312) (by decide +kernel), List.mem_of_getElem? (i := 1313) (by decide +kernel)⟩
theorem lw_p84 : lw_okq (⟨"WeylWordsModel", "takesPower", "()Z"⟩, 31) := ⟨⟨by decide +kernel, by decide +kernel⟩, List.mem_of_getElem? (i := 887) (by decide +kernel), List.mem_of_getElem? (i := 1316) (by decide +kernel), List.mem_of_getElem? (i := 1317) (by decide +kernel)⟩
theorem lw_p85 : lw_okq (⟨"WeylWordsModel", "takes", "(I)V"⟩, 31) := ⟨⟨by decide +kernel, by decide +kernel⟩, List.mem_of_getElem? (i := 887) (by decide +kernel), List.mem_of_getElem? (i := 1320) (by decide +kernel), List.mem_of_getElem? (i := 1321) (by decide +kernel)⟩
theorem lw_p86 : lw_okq (⟨"WeylWordsModel", "takesSign", "()Z"⟩, 31) := ⟨⟨by decide +kernel, by decide +kernel⟩, List.mem_of_getElem? (i := 887) (by decide +kernel), List.mem_of_getElem? (i := 1324) (by decide +kernel), List.mem_of_getElem? (i := 1325) (by decide +kernel)⟩
theorem lw_p87 : lw_okq (⟨"WeylWordsModel", "closes", "()V"⟩, 31) := ⟨⟨by decide +kernel, by decide +kernel⟩, List.mem_of_getElem? (i := 887) (by decide +kernel), List.mem_of_getElem? (i := 1328) (by decide +kernel), List.mem_of_getElem? (i := 1329) (by decide +kernel)⟩
theorem lw_p88 : lw_okq (⟨"WeylWordsModel", "laysLine", "(I)V"⟩, 31) := ⟨⟨by decide +kernel, by decide +kernel⟩, List.mem_of_getElem? (i := 887) (by decide +kernel), List.mem_of_getElem? (i := 1336) (by decide +kernel), List.mem_of_getElem? (i := 1337) (by decide +kernel)⟩
theorem lw_p89 : lw_okq (⟨"WeylWordsModel", "writesTerm", "(II)V"⟩, 31) := ⟨⟨by decide +kernel, by decide +kernel⟩, List.mem_of_getElem? (i := 887) (by decide +kernel), List.mem_of_getElem? (i := 1340) (by decide +kernel), List.mem_of_getElem? (i := 1341) (by decide +kernel)⟩
theorem lw_p90 : lw_okq (⟨"WeylWordsModel", "writes", "(I)V"⟩, 31) := ⟨⟨by decide +kernel, by decide +kernel⟩, List.mem_of_getElem? (i := 887) (by decide +kernel), List.mem_of_getElem? (i := 1344) (by decide +kernel), List.mem_of_getElem? (i := 1345) (by decide +kernel)⟩
theorem lw_p91 : lw_okq (⟨"WeylWordsModel", "writesNumber", "(I)V"⟩, 31) := ⟨⟨by decide +kernel, by decide +kernel⟩, List.mem_of_getElem? (i := 887) (by decide +kernel), List.mem_of_getElem? (i := 1348) (by decide +kernel), List.mem_of_getElem? (i := 1349) (by decide +kernel)⟩
theorem lw_p92 : lw_okq (⟨"WeylWordsModel", "writesLetter", "(II)V"⟩, 31) := ⟨⟨by decide +kernel, by decide +kernel⟩, List.mem_of_getElem? (i := 887) (by decide +kernel), List.mem_of_getElem? (i := 1352) (by decide +kernel), List.mem_of_getElem? (i := 1353) (by decide +kernel)⟩
theorem lw_p93 : lw_okq (⟨"WeylWordsModel", "toldOf", "(I)I"⟩, 31) := ⟨⟨by decide +kernel, by decide +kernel⟩, List.mem_of_getElem? (i := 887) (by decide +kernel), List.mem_of_getElem? (i := 1360) (by decide +kernel), List.mem_of_getElem? (i := 1361) (by decide +kernel)⟩
theorem lw_p94 : lw_okq (⟨"WeylWordsModel", "mix", "(J)V"⟩, 31) := ⟨⟨by decide +kernel, by decide +kernel⟩, List.mem_of_getElem? (i := 887) (by decide +kernel), List.mem_of_getElem? (i := 1369) (by decide +kernel), List.mem_of_getElem? (i := 1370) (by decide +kernel)⟩
def lw_privs_6 : List (MethodName × Nat) := [(⟨"WeylWordsModel", "takesFactor", "()Z"⟩, 31), (⟨"WeylWordsModel", "fails", "(I)Z"⟩, 31), (⟨"WeylWordsModel", "takesFigures", "(I)Z"⟩, 31), (⟨"WeylWordsModel", "values", "(III)V"⟩, 31), (⟨"WeylWordsModel", "takesPower", "()Z"⟩, 31), (⟨"WeylWordsModel", "takes", "(I)V"⟩, 31), (⟨"WeylWordsModel", "takesSign", "()Z"⟩, 31), (⟨"WeylWordsModel", "closes", "()V"⟩, 31), (⟨"WeylWordsModel", "laysLine", "(I)V"⟩, 31), (⟨"WeylWordsModel", "writesTerm", "(II)V"⟩, 31), (⟨"WeylWordsModel", "writes", "(I)V"⟩, 31), (⟨"WeylWordsModel", "writesNumber", "(I)V"⟩, 31), (⟨"WeylWordsModel", "writesLetter", "(II)V"⟩, 31), (⟨"WeylWordsModel", "toldOf", "(I)I"⟩, 31), (⟨"WeylWordsModel", "mix", "(J)V"⟩, 31)]
theorem lw_r6 : ∀ q ∈ lw_privs_6, lw_okq q := List.forall_mem_cons.mpr ⟨lw_p80, List.forall_mem_cons.mpr ⟨lw_p81, List.forall_mem_cons.mpr ⟨lw_p82, List.forall_mem_cons.mpr ⟨lw_p83, List.forall_mem_cons.mpr ⟨lw_p84, List.forall_mem_cons.mpr ⟨lw_p85, List.forall_mem_cons.mpr ⟨lw_p86, List.forall_mem_cons.mpr ⟨lw_p87, List.forall_mem_cons.mpr ⟨lw_p88, List.forall_mem_cons.mpr ⟨lw_p89, List.forall_mem_cons.mpr ⟨lw_p90, List.forall_mem_cons.mpr ⟨lw_p91, List.forall_mem_cons.mpr ⟨lw_p92, List.forall_mem_cons.mpr ⟨lw_p93, List.forall_mem_cons.mpr ⟨lw_p94, fun _ h => absurd h List.not_mem_nil⟩⟩⟩⟩⟩⟩⟩⟩⟩⟩⟩⟩⟩⟩⟩
def lw_privs : List (MethodName × Nat) := lw_privs_1 ++ (lw_privs_2 ++ (lw_privs_3 ++ (lw_privs_4 ++ (lw_privs_5 ++ (lw_privs_6)))))
def lw_tbl : List Cond := k2_sels lw_privs ++ tables_1
theorem lw_privs_ok : ∀ q ∈ lw_privs, lw_okq q := by
  show ∀ q ∈ lw_privs_1 ++ (lw_privs_2 ++ (lw_privs_3 ++ (lw_privs_4 ++ (lw_privs_5 ++ (lw_privs_6))))), lw_okq q
  exact List.forall_mem_append.mpr ⟨lw_r1, List.forall_mem_append.mpr ⟨lw_r2, List.forall_mem_append.mpr ⟨lw_r3, List.forall_mem_append.mpr ⟨lw_r4, List.forall_mem_append.mpr ⟨lw_r5, lw_r6⟩⟩⟩⟩⟩
def RX0 : String := "WeylWords$Action"
def TX0 : u_T := fun k => match k with
  | 0 => ("WeylWords$Action", "falling", "[[I", true)
  | 1 => ("WeylWords$Action", "rows", "[[I", true)
  | _ => ("WeylWords$Action", "image", "[I", true)
def tyX0 : Nat → FieldType := fun k => match k with
  | 0 => .array (.array .int)
  | 1 => .array (.array .int)
  | _ => .array .int
theorem nmX0 : ∀ a, a < 3 → ∀ b, b < 3 → a ≠ b → (TX0 a).2.1 ≠ (TX0 b).2.1 := by decide +kernel
theorem tyX0_ok : ∀ k, k < 3 → parseFieldDescriptor (TX0 k).2.2.1 = some (tyX0 k) := by decide +kernel
abbrev cX0_init : ByteArray := prog_2_method_1_code
def yX0_init : MethodName := ⟨RX0, "<init>", "(LWeylWords$Algebra;)V"⟩
abbrev cX0_degree : ByteArray := prog_2_method_2_code
def yX0_degree : MethodName := ⟨RX0, "degree", "([I)I"⟩
abbrev cX0_fits : ByteArray := prog_2_method_3_code
def yX0_fits : MethodName := ⟨RX0, "fits", "(LWeylWords$Operator;[I)Z"⟩
abbrev cX0_apply : ByteArray := prog_2_method_4_code
def yX0_apply : MethodName := ⟨RX0, "apply", "(LWeylWords$Operator;[I)V"⟩
abbrev cX0_addImage : ByteArray := prog_2_method_5_code
def yX0_addImage : MethodName := ⟨RX0, "addImage", "([ILWeylWords$Operator;II)V"⟩
abbrev cX0_kernelDimension : ByteArray := prog_2_method_6_code
def yX0_kernelDimension : MethodName := ⟨RX0, "kernelDimension", "(LWeylWords$Operator;I)I"⟩
abbrev cX0_pivotRow : ByteArray := prog_2_method_7_code
def yX0_pivotRow : MethodName := ⟨RX0, "pivotRow", "(III)I"⟩
abbrev cX0_clearBelow : ByteArray := prog_2_method_8_code
def yX0_clearBelow : MethodName := ⟨RX0, "clearBelow", "(III)V"⟩
def RX1 : String := "WeylWords$Algebra"
def TX1 : u_T := fun k => match k with
  | 0 => ("WeylWords$Algebra", "choose", "[[I", true)
  | 1 => ("WeylWords$Algebra", "falling", "[[I", true)
  | _ => ("WeylWords$Algebra", "spare", "LWeylWords$Operator;", true)
def tyX1 : Nat → FieldType := fun k => match k with
  | 0 => .array (.array .int)
  | 1 => .array (.array .int)
  | _ => .object "WeylWords$Operator"
theorem nmX1 : ∀ a, a < 3 → ∀ b, b < 3 → a ≠ b → (TX1 a).2.1 ≠ (TX1 b).2.1 := by decide +kernel
theorem tyX1_ok : ∀ k, k < 3 → parseFieldDescriptor (TX1 k).2.2.1 = some (tyX1 k) := by decide +kernel
abbrev cX1_init : ByteArray := prog_3_method_1_code
def yX1_init : MethodName := ⟨RX1, "<init>", "()V"⟩
abbrev cX1_residue : ByteArray := prog_3_method_2_code
def yX1_residue : MethodName := ⟨RX1, "residue", "(I)I"⟩
abbrev cX1_balanced : ByteArray := prog_3_method_3_code
def yX1_balanced : MethodName := ⟨RX1, "balanced", "(I)I"⟩
abbrev cX1_inverse : ByteArray := prog_3_method_4_code
def yX1_inverse : MethodName := ⟨RX1, "inverse", "(I)I"⟩
abbrev cX1_productFits : ByteArray := prog_3_method_5_code
def yX1_productFits : MethodName := ⟨RX1, "productFits", "(LWeylWords$Operator;LWeylWords$Operator;)Z"⟩
abbrev cX1_powerFits : ByteArray := prog_3_method_6_code
def yX1_powerFits : MethodName := ⟨RX1, "powerFits", "(LWeylWords$Operator;I)Z"⟩
abbrev cX1_addProduct : ByteArray := prog_3_method_7_code
def yX1_addProduct : MethodName := ⟨RX1, "addProduct", "(LWeylWords$Operator;ILWeylWords$Operator;LWeylWords$Operator;)V"⟩
abbrev cX1_addWordProduct : ByteArray := prog_3_method_8_code
def yX1_addWordProduct : MethodName := ⟨RX1, "addWordProduct", "(LWeylWords$Operator;IILWeylWords$Operator;I)V"⟩
abbrev cX1_raise : ByteArray := prog_3_method_9_code
def yX1_raise : MethodName := ⟨RX1, "raise", "(LWeylWords$Operator;LWeylWords$Operator;I)V"⟩
abbrev cX1_adjoin : ByteArray := prog_3_method_10_code
def yX1_adjoin : MethodName := ⟨RX1, "adjoin", "(LWeylWords$Operator;LWeylWords$Operator;)V"⟩
def RX2 : String := "WeylWords$Basis"
def TX2 : u_T := fun k => match k with
  | 0 => ("WeylWords$Basis", "parts", "[LWeylWords$Operator;", true)
  | 1 => ("WeylWords$Basis", "leadXs", "[I", true)
  | 2 => ("WeylWords$Basis", "leadDs", "[I", true)
  | 3 => ("WeylWords$Basis", "source", "[I", true)
  | 4 => ("WeylWords$Basis", "sourceOrder", "I", false)
  | _ => ("WeylWords$Basis", "count", "I", false)
def tyX2 : Nat → FieldType := fun k => match k with
  | 0 => .array (.object "WeylWords$Operator")
  | 1 => .array .int
  | 2 => .array .int
  | 3 => .array .int
  | 4 => .int
  | _ => .int
theorem nmX2 : ∀ a, a < 6 → ∀ b, b < 6 → a ≠ b → (TX2 a).2.1 ≠ (TX2 b).2.1 := by decide +kernel
theorem tyX2_ok : ∀ k, k < 6 → parseFieldDescriptor (TX2 k).2.2.1 = some (tyX2 k) := by decide +kernel
abbrev cX2_init : ByteArray := prog_4_method_1_code
def yX2_init : MethodName := ⟨RX2, "<init>", "()V"⟩
abbrev cX2_covers : ByteArray := prog_4_method_2_code
def yX2_covers : MethodName := ⟨RX2, "covers", "(II)Z"⟩
abbrev cX2_isFor : ByteArray := prog_4_method_3_code
def yX2_isFor : MethodName := ⟨RX2, "isFor", "(LWeylWords$State;I)Z"⟩
abbrev cX2_begin : ByteArray := prog_4_method_4_code
def yX2_begin : MethodName := ⟨RX2, "begin", "(LWeylWords$State;I)V"⟩
abbrev cX2_add : ByteArray := prog_4_method_5_code
def yX2_add : MethodName := ⟨RX2, "add", "(LWeylWords$Operator;)V"⟩
abbrev cX2_sourceCell : ByteArray := prog_4_method_6_code
def yX2_sourceCell : MethodName := ⟨RX2, "sourceCell", "(LWeylWords$State;III)I"⟩
def RX3 : String := "WeylWords$Completion"
def TX3 : u_T := fun k => match k with
  | 0 => ("WeylWords$Completion", "algebra", "LWeylWords$Algebra;", true)
  | 1 => ("WeylWords$Completion", "divider", "LWeylWords$Divider;", true)
  | 2 => ("WeylWords$Completion", "bases", "[LWeylWords$Basis;", true)
  | 3 => ("WeylWords$Completion", "oldest", "I", false)
  | 4 => ("WeylWords$Completion", "rows", "[LWeylWords$Operator;", true)
  | 5 => ("WeylWords$Completion", "leadXs", "[I", true)
  | 6 => ("WeylWords$Completion", "leadDs", "[I", true)
  | 7 => ("WeylWords$Completion", "settled", "[Z", true)
  | 8 => ("WeylWords$Completion", "kept", "I", false)
  | 9 => ("WeylWords$Completion", "waiting", "I", false)
  | _ => ("WeylWords$Completion", "order", "I", false)
def tyX3 : Nat → FieldType := fun k => match k with
  | 0 => .object "WeylWords$Algebra"
  | 1 => .object "WeylWords$Divider"
  | 2 => .array (.object "WeylWords$Basis")
  | 3 => .int
  | 4 => .array (.object "WeylWords$Operator")
  | 5 => .array .int
  | 6 => .array .int
  | 7 => .array .boolean
  | 8 => .int
  | 9 => .int
  | _ => .int
theorem nmX3 : ∀ a, a < 11 → ∀ b, b < 11 → a ≠ b → (TX3 a).2.1 ≠ (TX3 b).2.1 := by decide +kernel
theorem tyX3_ok : ∀ k, k < 11 → parseFieldDescriptor (TX3 k).2.2.1 = some (tyX3 k) := by decide +kernel
abbrev cX3_init : ByteArray := prog_5_method_1_code
def yX3_init : MethodName := ⟨RX3, "<init>", "(LWeylWords$Algebra;LWeylWords$Divider;)V"⟩
abbrev cX3_find : ByteArray := prog_5_method_2_code
def yX3_find : MethodName := ⟨RX3, "find", "(LWeylWords$State;I)LWeylWords$Basis;"⟩
abbrev cX3_gather : ByteArray := prog_5_method_3_code
def yX3_gather : MethodName := ⟨RX3, "gather", "(LWeylWords$State;I)V"⟩
abbrev cX3_complete : ByteArray := prog_5_method_4_code
def yX3_complete : MethodName := ⟨RX3, "complete", "()V"⟩
abbrev cX3_absorb : ByteArray := prog_5_method_5_code
def yX3_absorb : MethodName := ⟨RX3, "absorb", "()V"⟩
abbrev cX3_dismiss : ByteArray := prog_5_method_6_code
def yX3_dismiss : MethodName := ⟨RX3, "dismiss", "(I)V"⟩
abbrev cX3_admit : ByteArray := prog_5_method_7_code
def yX3_admit : MethodName := ⟨RX3, lw_pm3_210, "(II)V"⟩
abbrev cX3_unsettle : ByteArray := prog_5_method_8_code
def yX3_unsettle : MethodName := ⟨RX3, "unsettle", "(I)V"⟩
abbrev cX3_cheapestPair : ByteArray := prog_5_method_9_code
def yX3_cheapestPair : MethodName := ⟨RX3, "cheapestPair", "()I"⟩
abbrev cX3_cross : ByteArray := prog_5_method_10_code
def yX3_cross : MethodName := ⟨RX3, "cross", "(I)V"⟩
abbrev cX3_reduceTails : ByteArray := prog_5_method_11_code
def yX3_reduceTails : MethodName := ⟨RX3, "reduceTails", "()V"⟩
abbrev cX3_handOver : ByteArray := prog_5_method_12_code
def yX3_handOver : MethodName := ⟨RX3, "handOver", "(LWeylWords$Basis;)V"⟩
def RX4 : String := "WeylWords$Divider"
def TX4 : u_T := fun k => match k with
  | 0 => ("WeylWords$Divider", "algebra", "LWeylWords$Algebra;", true)
  | 1 => ("WeylWords$Divider", "divisors", "[LWeylWords$Operator;", true)
  | 2 => ("WeylWords$Divider", "leadXs", "[I", true)
  | 3 => ("WeylWords$Divider", "leadDs", "[I", true)
  | 4 => ("WeylWords$Divider", "inverses", "[I", true)
  | 5 => ("WeylWords$Divider", "extents", "[I", true)
  | 6 => ("WeylWords$Divider", "count", "I", false)
  | _ => ("WeylWords$Divider", "order", "I", false)
def tyX4 : Nat → FieldType := fun k => match k with
  | 0 => .object "WeylWords$Algebra"
  | 1 => .array (.object "WeylWords$Operator")
  | 2 => .array .int
  | 3 => .array .int
  | 4 => .array .int
  | 5 => .array .int
  | 6 => .int
  | _ => .int
theorem nmX4 : ∀ a, a < 8 → ∀ b, b < 8 → a ≠ b → (TX4 a).2.1 ≠ (TX4 b).2.1 := by decide +kernel
theorem tyX4_ok : ∀ k, k < 8 → parseFieldDescriptor (TX4 k).2.2.1 = some (tyX4 k) := by decide +kernel
abbrev cX4_init : ByteArray := prog_6_method_1_code
def yX4_init : MethodName := ⟨RX4, "<init>", "(LWeylWords$Algebra;)V"⟩
abbrev cX4_begin : ByteArray := prog_6_method_2_code
def yX4_begin : MethodName := ⟨RX4, "begin", "(I)V"⟩
abbrev cX4_take : ByteArray := prog_6_method_3_code
def yX4_take : MethodName := ⟨RX4, "take", "(LWeylWords$Operator;)V"⟩
abbrev cX4_reduce : ByteArray := prog_6_method_4_code
def yX4_reduce : MethodName := ⟨RX4, "reduce", "(LWeylWords$Operator;)V"⟩
abbrev cX4_cancel : ByteArray := prog_6_method_5_code
def yX4_cancel : MethodName := ⟨RX4, "cancel", "(LWeylWords$Operator;I)V"⟩
def RX5 : String := "WeylWords$History"
def TX5 : u_T := fun k => match k with
  | 0 => ("WeylWords$History", "slots", "[LWeylWords$State;", true)
  | 1 => ("WeylWords$History", "next", "I", false)
  | _ => ("WeylWords$History", "stored", "I", false)
def tyX5 : Nat → FieldType := fun k => match k with
  | 0 => .array (.object "WeylWords$State")
  | 1 => .int
  | _ => .int
theorem nmX5 : ∀ a, a < 3 → ∀ b, b < 3 → a ≠ b → (TX5 a).2.1 ≠ (TX5 b).2.1 := by decide +kernel
theorem tyX5_ok : ∀ k, k < 3 → parseFieldDescriptor (TX5 k).2.2.1 = some (tyX5 k) := by decide +kernel
abbrev cX5_init : ByteArray := prog_7_method_1_code
def yX5_init : MethodName := ⟨RX5, "<init>", "()V"⟩
abbrev cX5_keep : ByteArray := prog_7_method_2_code
def yX5_keep : MethodName := ⟨RX5, "keep", "(LWeylWords$State;)V"⟩
abbrev cX5_restore : ByteArray := prog_7_method_3_code
def yX5_restore : MethodName := ⟨RX5, "restore", "(LWeylWords$State;)V"⟩
def RX6 : String := "WeylWords$Operator"
def TX6 : u_T := fun k => match k with
  | _ => ("WeylWords$Operator", "cells", "[I", true)
def tyX6 : Nat → FieldType := fun k => match k with
  | _ => .array .int
theorem nmX6 : ∀ a, a < 1 → ∀ b, b < 1 → a ≠ b → (TX6 a).2.1 ≠ (TX6 b).2.1 := by decide +kernel
theorem tyX6_ok : ∀ k, k < 1 → parseFieldDescriptor (TX6 k).2.2.1 = some (tyX6 k) := by decide +kernel
abbrev cX6_init : ByteArray := prog_8_method_1_code
def yX6_init : MethodName := ⟨RX6, "<init>", "()V"⟩
abbrev cX6_isWord : ByteArray := prog_8_method_2_code
def yX6_isWord : MethodName := ⟨RX6, "isWord", "(II)Z"⟩
abbrev cX6_firstPlace : ByteArray := prog_8_method_3_code
def yX6_firstPlace : MethodName := ⟨RX6, "firstPlace", "(I)I"⟩
abbrev cX6_placeOf : ByteArray := prog_8_method_4_code
def yX6_placeOf : MethodName := ⟨RX6, "placeOf", "(II)I"⟩
abbrev cX6_degreeAt : ByteArray := prog_8_method_5_code
def yX6_degreeAt : MethodName := ⟨RX6, "degreeAt", "(I)I"⟩
abbrev cX6_rankedPlace : ByteArray := prog_8_method_6_code
def yX6_rankedPlace : MethodName := ⟨RX6, "rankedPlace", "(III)I"⟩
abbrev cX6_height : ByteArray := prog_8_method_7_code
def yX6_height : MethodName := ⟨RX6, "height", "(II)I"⟩
abbrev cX6_coefficient : ByteArray := prog_8_method_8_code
def yX6_coefficient : MethodName := ⟨RX6, "coefficient", "(II)I"⟩
abbrev cX6_setCoefficient : ByteArray := prog_8_method_9_code
def yX6_setCoefficient : MethodName := ⟨RX6, "setCoefficient", "(III)V"⟩
abbrev cX6_makeZero : ByteArray := prog_8_method_10_code
def yX6_makeZero : MethodName := ⟨RX6, "makeZero", "()V"⟩
abbrev cX6_makeNumber : ByteArray := prog_8_method_11_code
def yX6_makeNumber : MethodName := ⟨RX6, "makeNumber", "(I)V"⟩
abbrev cX6_copyFrom : ByteArray := prog_8_method_12_code
def yX6_copyFrom : MethodName := ⟨RX6, "copyFrom", "(LWeylWords$Operator;)V"⟩
abbrev cX6_addMultiple : ByteArray := prog_8_method_13_code
def yX6_addMultiple : MethodName := ⟨RX6, "addMultiple", "(LWeylWords$Operator;I)V"⟩
abbrev cX6_scale : ByteArray := prog_8_method_14_code
def yX6_scale : MethodName := ⟨RX6, "scale", "(I)V"⟩
abbrev cX6_countTerms : ByteArray := prog_8_method_15_code
def yX6_countTerms : MethodName := ⟨RX6, "countTerms", "()I"⟩
abbrev cX6_extent : ByteArray := prog_8_method_16_code
def yX6_extent : MethodName := ⟨RX6, "extent", "()I"⟩
abbrev cX6_isZero : ByteArray := prog_8_method_17_code
def yX6_isZero : MethodName := ⟨RX6, "isZero", "()Z"⟩
abbrev cX6_degree : ByteArray := prog_8_method_18_code
def yX6_degree : MethodName := ⟨RX6, "degree", "()I"⟩
abbrev cX6_leadPlace : ByteArray := prog_8_method_19_code
def yX6_leadPlace : MethodName := ⟨RX6, "leadPlace", "(I)I"⟩
abbrev cX6_property : ByteArray := prog_8_method_20_code
def yX6_property : MethodName := ⟨RX6, "property", "(II)I"⟩
abbrev cX6_greatest : ByteArray := prog_8_method_21_code
def yX6_greatest : MethodName := ⟨RX6, "greatest", "(I)I"⟩
abbrev cX6_measure : ByteArray := prog_8_method_22_code
def yX6_measure : MethodName := ⟨RX6, "measure", "(III)I"⟩
def RX7 : String := "WeylWords$Reader"
def TX7 : u_T := fun k => match k with
  | 0 => ("WeylWords$Reader", "algebra", "LWeylWords$Algebra;", true)
  | 1 => ("WeylWords$Reader", "text", "LWeylWords$Text;", true)
  | 2 => ("WeylWords$Reader", "totals", "[LWeylWords$Operator;", true)
  | 3 => ("WeylWords$Reader", "products", "[LWeylWords$Operator;", true)
  | 4 => ("WeylWords$Reader", "factor", "LWeylWords$Operator;", true)
  | 5 => ("WeylWords$Reader", "spare", "LWeylWords$Operator;", true)
  | _ => ("WeylWords$Reader", "at", "I", false)
def tyX7 : Nat → FieldType := fun k => match k with
  | 0 => .object "WeylWords$Algebra"
  | 1 => .object "WeylWords$Text"
  | 2 => .array (.object "WeylWords$Operator")
  | 3 => .array (.object "WeylWords$Operator")
  | 4 => .object "WeylWords$Operator"
  | 5 => .object "WeylWords$Operator"
  | _ => .int
theorem nmX7 : ∀ a, a < 7 → ∀ b, b < 7 → a ≠ b → (TX7 a).2.1 ≠ (TX7 b).2.1 := by decide +kernel
theorem tyX7_ok : ∀ k, k < 7 → parseFieldDescriptor (TX7 k).2.2.1 = some (tyX7 k) := by decide +kernel
abbrev cX7_init : ByteArray := prog_9_method_1_code
def yX7_init : MethodName := ⟨RX7, "<init>", "(LWeylWords$Algebra;LWeylWords$Text;)V"⟩
abbrev cX7_evaluate : ByteArray := prog_9_method_2_code
def yX7_evaluate : MethodName := ⟨RX7, "evaluate", "(LWeylWords$Operator;)Z"⟩
abbrev cX7_readExpression : ByteArray := prog_9_method_3_code
def yX7_readExpression : MethodName := ⟨RX7, "readExpression", "(I)Z"⟩
abbrev cX7_readTerm : ByteArray := prog_9_method_4_code
def yX7_readTerm : MethodName := ⟨RX7, "readTerm", "(I)Z"⟩
abbrev cX7_readFactor : ByteArray := prog_9_method_5_code
def yX7_readFactor : MethodName := ⟨RX7, "readFactor", "(I)Z"⟩
abbrev cX7_readNumber : ByteArray := prog_9_method_6_code
def yX7_readNumber : MethodName := ⟨RX7, "readNumber", "(I)I"⟩
abbrev cX7_peek : ByteArray := prog_9_method_7_code
def yX7_peek : MethodName := ⟨RX7, "peek", "()I"⟩
def RX8 : String := "WeylWords$State"
def TX8 : u_T := fun k => match k with
  | 0 => ("WeylWords$State", "operators", "[LWeylWords$Operator;", true)
  | 1 => ("WeylWords$State", "polynomials", "[[I", true)
  | _ => ("WeylWords$State", "order", "I", false)
def tyX8 : Nat → FieldType := fun k => match k with
  | 0 => .array (.object "WeylWords$Operator")
  | 1 => .array (.array .int)
  | _ => .int
theorem nmX8 : ∀ a, a < 3 → ∀ b, b < 3 → a ≠ b → (TX8 a).2.1 ≠ (TX8 b).2.1 := by decide +kernel
theorem tyX8_ok : ∀ k, k < 3 → parseFieldDescriptor (TX8 k).2.2.1 = some (tyX8 k) := by decide +kernel
abbrev cX8_init : ByteArray := prog_10_method_1_code
def yX8_init : MethodName := ⟨RX8, "<init>", "()V"⟩
abbrev cX8_copyFrom : ByteArray := prog_10_method_2_code
def yX8_copyFrom : MethodName := ⟨RX8, "copyFrom", "(LWeylWords$State;)V"⟩
def RX9 : String := "WeylWords$Text"
def TX9 : u_T := fun k => match k with
  | 0 => ("WeylWords$Text", "bytes", "[I", true)
  | 1 => ("WeylWords$Text", "length", "I", false)
  | 2 => ("WeylWords$Text", "mode", "I", false)
  | _ => ("WeylWords$Text", "open", "I", false)
def tyX9 : Nat → FieldType := fun k => match k with
  | 0 => .array .int
  | 1 => .int
  | 2 => .int
  | _ => .int
theorem nmX9 : ∀ a, a < 4 → ∀ b, b < 4 → a ≠ b → (TX9 a).2.1 ≠ (TX9 b).2.1 := by decide +kernel
theorem tyX9_ok : ∀ k, k < 4 → parseFieldDescriptor (TX9 k).2.2.1 = some (tyX9 k) := by decide +kernel
abbrev cX9_init : ByteArray := prog_11_method_1_code
def yX9_init : MethodName := ⟨RX9, "<init>", "()V"⟩
abbrev cX9_append : ByteArray := prog_11_method_2_code
def yX9_append : MethodName := ⟨RX9, "append", "(I)V"⟩
abbrev cX9_byteAt : ByteArray := prog_11_method_3_code
def yX9_byteAt : MethodName := ⟨RX9, "byteAt", "(I)I"⟩
abbrev cX9_isDigit : ByteArray := prog_11_method_4_code
def yX9_isDigit : MethodName := ⟨RX9, "isDigit", "(I)Z"⟩
abbrev cX9_fault : ByteArray := prog_11_method_5_code
def yX9_fault : MethodName := ⟨RX9, "fault", "()I"⟩
abbrev cX9_pass : ByteArray := prog_11_method_6_code
def yX9_pass : MethodName := ⟨RX9, "pass", "(I)I"⟩
abbrev cX9_passOperand : ByteArray := prog_11_method_7_code
def yX9_passOperand : MethodName := ⟨RX9, "passOperand", "(I)I"⟩
abbrev cX9_passExponent : ByteArray := prog_11_method_8_code
def yX9_passExponent : MethodName := ⟨RX9, "passExponent", "(I)I"⟩
abbrev cX9_passLink : ByteArray := prog_11_method_9_code
def yX9_passLink : MethodName := ⟨RX9, "passLink", "(I)I"⟩
abbrev cX9_countDigits : ByteArray := prog_11_method_10_code
def yX9_countDigits : MethodName := ⟨RX9, "countDigits", "(II)I"⟩
abbrev cX9_valueOf : ByteArray := prog_11_method_11_code
def yX9_valueOf : MethodName := ⟨RX9, "valueOf", "(II)I"⟩
def RX10 : String := "WeylWords$Writer"
def TX10 : u_T := fun k => match k with
  | 0 => ("WeylWords$Writer", "bytes", "[I", true)
  | _ => ("WeylWords$Writer", "length", "I", false)
def tyX10 : Nat → FieldType := fun k => match k with
  | 0 => .array .int
  | _ => .int
theorem nmX10 : ∀ a, a < 2 → ∀ b, b < 2 → a ≠ b → (TX10 a).2.1 ≠ (TX10 b).2.1 := by decide +kernel
theorem tyX10_ok : ∀ k, k < 2 → parseFieldDescriptor (TX10 k).2.2.1 = some (tyX10 k) := by decide +kernel
abbrev cX10_init : ByteArray := prog_12_method_1_code
def yX10_init : MethodName := ⟨RX10, "<init>", "()V"⟩
abbrev cX10_byteAt : ByteArray := prog_12_method_2_code
def yX10_byteAt : MethodName := ⟨RX10, "byteAt", "(LWeylWords$Operator;II)I"⟩
abbrev cX10_writeTerm : ByteArray := prog_12_method_3_code
def yX10_writeTerm : MethodName := ⟨RX10, "writeTerm", "(IIZ)V"⟩
abbrev cX10_writeLetter : ByteArray := prog_12_method_4_code
def yX10_writeLetter : MethodName := ⟨RX10, "writeLetter", "(IIZ)V"⟩
abbrev cX10_writeNumber : ByteArray := prog_12_method_5_code
def yX10_writeNumber : MethodName := ⟨RX10, "writeNumber", "(I)V"⟩
abbrev cX10_write : ByteArray := prog_12_method_6_code
def yX10_write : MethodName := ⟨RX10, "write", "(I)V"⟩
def RX11 : String := "WeylWords"
def TX11 : u_T := fun k => match k with
  | 0 => ("WeylWords", "state", "LWeylWords$State;", true)
  | 1 => ("WeylWords", "history", "LWeylWords$History;", true)
  | 2 => ("WeylWords", "text", "LWeylWords$Text;", true)
  | 3 => ("WeylWords", "algebra", "LWeylWords$Algebra;", true)
  | 4 => ("WeylWords", "divider", "LWeylWords$Divider;", true)
  | 5 => ("WeylWords", "completion", "LWeylWords$Completion;", true)
  | 6 => ("WeylWords", "action", "LWeylWords$Action;", true)
  | 7 => ("WeylWords", "reader", "LWeylWords$Reader;", true)
  | 8 => ("WeylWords", "writer", "LWeylWords$Writer;", true)
  | 9 => ("WeylWords", "result", "LWeylWords$Operator;", true)
  | 10 => ("WeylWords", "badCount", "I", false)
  | 11 => ("WeylWords", "noCount", "I", false)
  | _ => ("WeylWords", "fullCount", "I", false)
def tyX11 : Nat → FieldType := fun k => match k with
  | 0 => .object "WeylWords$State"
  | 1 => .object "WeylWords$History"
  | 2 => .object "WeylWords$Text"
  | 3 => .object "WeylWords$Algebra"
  | 4 => .object "WeylWords$Divider"
  | 5 => .object "WeylWords$Completion"
  | 6 => .object "WeylWords$Action"
  | 7 => .object "WeylWords$Reader"
  | 8 => .object "WeylWords$Writer"
  | 9 => .object "WeylWords$Operator"
  | 10 => .int
  | 11 => .int
  | _ => .int
theorem nmX11 : ∀ a, a < 13 → ∀ b, b < 13 → a ≠ b → (TX11 a).2.1 ≠ (TX11 b).2.1 := by decide +kernel
theorem tyX11_ok : ∀ k, k < 13 → parseFieldDescriptor (TX11 k).2.2.1 = some (tyX11 k) := by decide +kernel
abbrev cX11_init : ByteArray := prog_1_method_1_code
def yX11_init : MethodName := ⟨RX11, "<init>", "()V"⟩
abbrev cX11_sets : ByteArray := prog_1_method_2_code
def yX11_sets : MethodName := ⟨RX11, "sets", "(IIII)I"⟩
abbrev cX11_at : ByteArray := prog_1_method_3_code
def yX11_at : MethodName := ⟨RX11, "at", "(III)I"⟩
abbrev cX11_sums : ByteArray := prog_1_method_4_code
def yX11_sums : MethodName := ⟨RX11, "sums", "(IIIII)I"⟩
abbrev cX11_times : ByteArray := prog_1_method_5_code
def yX11_times : MethodName := ⟨RX11, "times", "(III)I"⟩
abbrev cX11_bracket : ByteArray := prog_1_method_6_code
def yX11_bracket : MethodName := ⟨RX11, "bracket", "(III)I"⟩
abbrev cX11_power : ByteArray := prog_1_method_7_code
def yX11_power : MethodName := ⟨RX11, "power", "(III)I"⟩
abbrev cX11_reversed : ByteArray := prog_1_method_8_code
def yX11_reversed : MethodName := ⟨RX11, "reversed", "(II)I"⟩
abbrev cX11_of : ByteArray := prog_1_method_9_code
def yX11_of : MethodName := ⟨RX11, "of", "(II)I"⟩
abbrev cX11_order : ByteArray := prog_1_method_10_code
def yX11_order : MethodName := ⟨RX11, "order", "(I)I"⟩
abbrev cX11_puts : ByteArray := prog_1_method_11_code
def yX11_puts : MethodName := ⟨RX11, "puts", "(III)I"⟩
abbrev cX11_rate : ByteArray := prog_1_method_12_code
def yX11_rate : MethodName := ⟨RX11, "rate", "(II)I"⟩
abbrev cX11_makes : ByteArray := prog_1_method_13_code
def yX11_makes : MethodName := ⟨RX11, "makes", "(III)I"⟩
abbrev cX11_kernel : ByteArray := prog_1_method_14_code
def yX11_kernel : MethodName := ⟨RX11, "kernel", "(II)I"⟩
abbrev cX11_kills : ByteArray := prog_1_method_15_code
def yX11_kills : MethodName := ⟨RX11, "kills", "(II)I"⟩
abbrev cX11_rest : ByteArray := prog_1_method_16_code
def yX11_rest : MethodName := ⟨RX11, "rest", "(III)I"⟩
abbrev cX11_basis : ByteArray := prog_1_method_17_code
def yX11_basis : MethodName := ⟨RX11, "basis", "(I)I"⟩
abbrev cX11_based : ByteArray := prog_1_method_18_code
def yX11_based : MethodName := ⟨RX11, "based", "(IIII)I"⟩
abbrev cX11_stairs : ByteArray := prog_1_method_19_code
def yX11_stairs : MethodName := ⟨RX11, "stairs", "(II)I"⟩
abbrev cX11_within : ByteArray := prog_1_method_20_code
def yX11_within : MethodName := ⟨RX11, "within", "(II)I"⟩
abbrev cX11_type : ByteArray := prog_1_method_21_code
def yX11_type : MethodName := ⟨RX11, "type", "(I)I"⟩
abbrev cX11_clear : ByteArray := prog_1_method_22_code
def yX11_clear : MethodName := ⟨RX11, "clear", "()I"⟩
abbrev cX11_reads : ByteArray := prog_1_method_23_code
def yX11_reads : MethodName := ⟨RX11, "reads", "(I)I"⟩
abbrev cX11_shown : ByteArray := prog_1_method_24_code
def yX11_shown : MethodName := ⟨RX11, "shown", "(II)I"⟩
abbrev cX11_back : ByteArray := prog_1_method_25_code
def yX11_back : MethodName := ⟨RX11, "back", "()I"⟩
abbrev cX11_told : ByteArray := prog_1_method_26_code
def yX11_told : MethodName := ⟨RX11, "told", "(I)I"⟩
abbrev cX11_digest : ByteArray := prog_1_method_27_code
def yX11_digest : MethodName := ⟨RX11, "digest", "()J"⟩
abbrev cX11_mixed : ByteArray := prog_1_method_28_code
def yX11_mixed : MethodName := ⟨RX11, "mixed", "(J[I)J"⟩
abbrev cX11_replaceOperator : ByteArray := prog_1_method_29_code
def yX11_replaceOperator : MethodName := ⟨RX11, "replaceOperator", "(I)I"⟩
abbrev cX11_bad : ByteArray := prog_1_method_30_code
def yX11_bad : MethodName := ⟨RX11, "bad", "()I"⟩
abbrev cX11_no : ByteArray := prog_1_method_31_code
def yX11_no : MethodName := ⟨RX11, "no", "()I"⟩
abbrev cX11_full : ByteArray := prog_1_method_32_code
def yX11_full : MethodName := ⟨RX11, "full", "()I"⟩
abbrev cX11_hasBasis : ByteArray := prog_1_method_33_code
def yX11_hasBasis : MethodName := ⟨RX11, "hasBasis", "(I)Z"⟩
abbrev cX11_isOperator : ByteArray := prog_1_method_34_code
def yX11_isOperator : MethodName := ⟨RX11, "isOperator", "(I)Z"⟩
abbrev cX11_isPolynomial : ByteArray := prog_1_method_35_code
def yX11_isPolynomial : MethodName := ⟨RX11, "isPolynomial", "(I)Z"⟩
abbrev cX11_isPower : ByteArray := prog_1_method_36_code
def yX11_isPower : MethodName := ⟨RX11, "isPower", "(I)Z"⟩
abbrev cX11_isSet : ByteArray := prog_1_method_37_code
def yX11_isSet : MethodName := ⟨RX11, "isSet", "(I)Z"⟩
abbrev cX11_isInSet : ByteArray := prog_1_method_38_code
def yX11_isInSet : MethodName := ⟨RX11, "isInSet", "(II)Z"⟩
def RX12 : String := "WeylWordsModel"
def TX12 : u_T := fun k => match k with
  | 0 => ("WeylWordsModel", "now", "[I", true)
  | 1 => ("WeylWordsModel", "past", "[I", true)
  | 2 => ("WeylWordsModel", "states", "I", false)
  | 3 => ("WeylWordsModel", "refused", "[I", true)
  | 4 => ("WeylWordsModel", "text", "[I", true)
  | 5 => ("WeylWordsModel", "bytes", "I", false)
  | 6 => ("WeylWordsModel", "work", "[I", true)
  | 7 => ("WeylWordsModel", "xs", "[I", true)
  | 8 => ("WeylWordsModel", "ds", "[I", true)
  | 9 => ("WeylWordsModel", "choose", "[I", true)
  | 10 => ("WeylWordsModel", "made", "[I", true)
  | 11 => ("WeylWordsModel", "matrix", "[I", true)
  | 12 => ("WeylWordsModel", "by", "[I", true)
  | 13 => ("WeylWordsModel", "byMany", "I", false)
  | 14 => ("WeylWordsModel", "leads", "[I", true)
  | 15 => ("WeylWordsModel", "parts", "[I", true)
  | 16 => ("WeylWordsModel", "rows", "I", false)
  | 17 => ("WeylWordsModel", "laid", "I", false)
  | 18 => ("WeylWordsModel", "spot", "I", false)
  | 19 => ("WeylWordsModel", "wrongAt", "I", false)
  | 20 => ("WeylWordsModel", "depth", "I", false)
  | 21 => ("WeylWordsModel", "lacks", "Z", false)
  | 22 => ("WeylWordsModel", "mayMinus", "Z", false)
  | 23 => ("WeylWordsModel", "works", "Z", false)
  | 24 => ("WeylWordsModel", "isFull", "Z", false)
  | 25 => ("WeylWordsModel", "isMinus", "[Z", true)
  | 26 => ("WeylWordsModel", "hasProduct", "[Z", true)
  | 27 => ("WeylWordsModel", "figures", "I", false)
  | 28 => ("WeylWordsModel", "line", "[I", true)
  | 29 => ("WeylWordsModel", "written", "I", false)
  | _ => ("WeylWordsModel", "hash", "J", false)
def tyX12 : Nat → FieldType := fun k => match k with
  | 0 => .array .int
  | 1 => .array .int
  | 2 => .int
  | 3 => .array .int
  | 4 => .array .int
  | 5 => .int
  | 6 => .array .int
  | 7 => .array .int
  | 8 => .array .int
  | 9 => .array .int
  | 10 => .array .int
  | 11 => .array .int
  | 12 => .array .int
  | 13 => .int
  | 14 => .array .int
  | 15 => .array .int
  | 16 => .int
  | 17 => .int
  | 18 => .int
  | 19 => .int
  | 20 => .int
  | 21 => .boolean
  | 22 => .boolean
  | 23 => .boolean
  | 24 => .boolean
  | 25 => .array .boolean
  | 26 => .array .boolean
  | 27 => .int
  | 28 => .array .int
  | 29 => .int
  | _ => .long
theorem nmX12 : ∀ a, a < 31 → ∀ b, b < 31 → a ≠ b → (TX12 a).2.1 ≠ (TX12 b).2.1 := by decide +kernel
theorem tyX12_ok : ∀ k, k < 31 → parseFieldDescriptor (TX12 k).2.2.1 = some (tyX12 k) := by decide +kernel
abbrev cX12_init : ByteArray := prog_14_method_1_code
def yX12_init : MethodName := ⟨RX12, "<init>", "()V"⟩
abbrev cX12_in : ByteArray := prog_14_method_3_code
def yX12_in : MethodName := ⟨RX12, "in", "(III)Z"⟩
abbrev cX12_wordAt : ByteArray := prog_14_method_4_code
def yX12_wordAt : MethodName := ⟨RX12, "wordAt", "(II)I"⟩
abbrev cX12_restOf : ByteArray := prog_14_method_5_code
def yX12_restOf : MethodName := ⟨RX12, "restOf", "(I)I"⟩
abbrev cX12_tell : ByteArray := prog_14_method_6_code
def yX12_tell : MethodName := ⟨RX12, "tell", "(I)I"⟩
abbrev cX12_bad : ByteArray := prog_14_method_7_code
def yX12_bad : MethodName := ⟨RX12, "bad", "()I"⟩
abbrev cX12_no : ByteArray := prog_14_method_8_code
def yX12_no : MethodName := ⟨RX12, "no", "()I"⟩
abbrev cX12_full : ByteArray := prog_14_method_9_code
def yX12_full : MethodName := ⟨RX12, "full", "()I"⟩
abbrev cX12_remembers : ByteArray := prog_14_method_10_code
def yX12_remembers : MethodName := ⟨RX12, "remembers", "()V"⟩
abbrev cX12_back : ByteArray := prog_14_method_11_code
def yX12_back : MethodName := ⟨RX12, "back", "()I"⟩
abbrev cX12_isOperator : ByteArray := prog_14_method_12_code
def yX12_isOperator : MethodName := ⟨RX12, "isOperator", "(I)Z"⟩
abbrev cX12_isWord : ByteArray := prog_14_method_13_code
def yX12_isWord : MethodName := ⟨RX12, "isWord", "(II)Z"⟩
abbrev cX12_wipe : ByteArray := prog_14_method_14_code
def yX12_wipe : MethodName := ⟨RX12, "wipe", "(I)V"⟩
abbrev cX12_copies : ByteArray := prog_14_method_15_code
def yX12_copies : MethodName := ⟨RX12, "copies", "(II)V"⟩
abbrev cX12_fetches : ByteArray := prog_14_method_16_code
def yX12_fetches : MethodName := ⟨RX12, "fetches", "(II)V"⟩
abbrev cX12_termsIn : ByteArray := prog_14_method_17_code
def yX12_termsIn : MethodName := ⟨RX12, "termsIn", "(I)I"⟩
abbrev cX12_keeps : ByteArray := prog_14_method_18_code
def yX12_keeps : MethodName := ⟨RX12, "keeps", "(II)I"⟩
abbrev cX12_degreeIn : ByteArray := prog_14_method_19_code
def yX12_degreeIn : MethodName := ⟨RX12, "degreeIn", "(I)I"⟩
abbrev cX12_wordBehind : ByteArray := prog_14_method_20_code
def yX12_wordBehind : MethodName := ⟨RX12, "wordBehind", "(II)I"⟩
abbrev cX12_leadIn : ByteArray := prog_14_method_21_code
def yX12_leadIn : MethodName := ⟨RX12, "leadIn", "(I)I"⟩
abbrev cX12_adds : ByteArray := prog_14_method_22_code
def yX12_adds : MethodName := ⟨RX12, "adds", "(IIIIII)V"⟩
abbrev cX12_addsBehind : ByteArray := prog_14_method_23_code
def yX12_addsBehind : MethodName := ⟨RX12, "addsBehind", "(IIIII)V"⟩
abbrev cX12_multiplies : ByteArray := prog_14_method_24_code
def yX12_multiplies : MethodName := ⟨RX12, "multiplies", "(III)V"⟩
abbrev cX12_isTooMuch : ByteArray := prog_14_method_25_code
def yX12_isTooMuch : MethodName := ⟨RX12, "isTooMuch", "(II)Z"⟩
abbrev cX12_isPowerTooMuch : ByteArray := prog_14_method_26_code
def yX12_isPowerTooMuch : MethodName := ⟨RX12, "isPowerTooMuch", "(II)Z"⟩
abbrev cX12_raises : ByteArray := prog_14_method_27_code
def yX12_raises : MethodName := ⟨RX12, "raises", "(I)V"⟩
abbrev cX12_mixes : ByteArray := prog_14_method_28_code
def yX12_mixes : MethodName := ⟨RX12, "mixes", "(IIIII)V"⟩
abbrev cX12_sets : ByteArray := prog_14_method_29_code
def yX12_sets : MethodName := ⟨RX12, "sets", "(IIII)I"⟩
abbrev cX12_at : ByteArray := prog_14_method_30_code
def yX12_at : MethodName := ⟨RX12, "at", "(III)I"⟩
abbrev cX12_sums : ByteArray := prog_14_method_31_code
def yX12_sums : MethodName := ⟨RX12, "sums", "(IIIII)I"⟩
abbrev cX12_times : ByteArray := prog_14_method_32_code
def yX12_times : MethodName := ⟨RX12, "times", "(III)I"⟩
abbrev cX12_bracket : ByteArray := prog_14_method_33_code
def yX12_bracket : MethodName := ⟨RX12, "bracket", "(III)I"⟩
abbrev cX12_power : ByteArray := prog_14_method_34_code
def yX12_power : MethodName := ⟨RX12, "power", "(III)I"⟩
abbrev cX12_reversed : ByteArray := prog_14_method_35_code
def yX12_reversed : MethodName := ⟨RX12, "reversed", "(II)I"⟩
abbrev cX12_greatest : ByteArray := prog_14_method_36_code
def yX12_greatest : MethodName := ⟨RX12, "greatest", "(III)I"⟩
abbrev cX12_ofLead : ByteArray := prog_14_method_37_code
def yX12_ofLead : MethodName := ⟨RX12, "ofLead", "(I)I"⟩
abbrev cX12_aboutOf : ByteArray := prog_14_method_38_code
def yX12_aboutOf : MethodName := ⟨RX12, "aboutOf", "(II)I"⟩
abbrev cX12_of : ByteArray := prog_14_method_39_code
def yX12_of : MethodName := ⟨RX12, "of", "(II)I"⟩
abbrev cX12_order : ByteArray := prog_14_method_40_code
def yX12_order : MethodName := ⟨RX12, "order", "(I)I"⟩
abbrev cX12_isPolynomial : ByteArray := prog_14_method_41_code
def yX12_isPolynomial : MethodName := ⟨RX12, "isPolynomial", "(I)Z"⟩
abbrev cX12_rateAt : ByteArray := prog_14_method_42_code
def yX12_rateAt : MethodName := ⟨RX12, "rateAt", "(II)I"⟩
abbrev cX12_puts : ByteArray := prog_14_method_43_code
def yX12_puts : MethodName := ⟨RX12, "puts", "(III)I"⟩
abbrev cX12_rate : ByteArray := prog_14_method_44_code
def yX12_rate : MethodName := ⟨RX12, "rate", "(II)I"⟩
abbrev cX12_falls : ByteArray := prog_14_method_45_code
def yX12_falls : MethodName := ⟨RX12, "falls", "(II)I"⟩
abbrev cX12_greatestPower : ByteArray := prog_14_method_46_code
def yX12_greatestPower : MethodName := ⟨RX12, "greatestPower", "(I)I"⟩
abbrev cX12_canMake : ByteArray := prog_14_method_47_code
def yX12_canMake : MethodName := ⟨RX12, "canMake", "(II)Z"⟩
abbrev cX12_makes : ByteArray := prog_14_method_48_code
def yX12_makes : MethodName := ⟨RX12, "makes", "(III)I"⟩
abbrev cX12_inverseOf : ByteArray := prog_14_method_49_code
def yX12_inverseOf : MethodName := ⟨RX12, "inverseOf", "(I)I"⟩
abbrev cX12_laysMatrix : ByteArray := prog_14_method_50_code
def yX12_laysMatrix : MethodName := ⟨RX12, "laysMatrix", "(II)V"⟩
abbrev cX12_addsRow : ByteArray := prog_14_method_51_code
def yX12_addsRow : MethodName := ⟨RX12, "addsRow", "(III)V"⟩
abbrev cX12_isFree : ByteArray := prog_14_method_52_code
def yX12_isFree : MethodName := ⟨RX12, "isFree", "(II)Z"⟩
abbrev cX12_kernel : ByteArray := prog_14_method_53_code
def yX12_kernel : MethodName := ⟨RX12, "kernel", "(II)I"⟩
abbrev cX12_kills : ByteArray := prog_14_method_54_code
def yX12_kills : MethodName := ⟨RX12, "kills", "(II)I"⟩
abbrev cX12_findsLeads : ByteArray := prog_14_method_55_code
def yX12_findsLeads : MethodName := ⟨RX12, "findsLeads", "()V"⟩
abbrev cX12_isBelow : ByteArray := prog_14_method_56_code
def yX12_isBelow : MethodName := ⟨RX12, "isBelow", "(II)Z"⟩
abbrev cX12_firstBelow : ByteArray := prog_14_method_57_code
def yX12_firstBelow : MethodName := ⟨RX12, "firstBelow", "(I)I"⟩
abbrev cX12_rests : ByteArray := prog_14_method_58_code
def yX12_rests : MethodName := ⟨RX12, "rests", "(I)V"⟩
abbrev cX12_isSet : ByteArray := prog_14_method_59_code
def yX12_isSet : MethodName := ⟨RX12, "isSet", "(I)Z"⟩
abbrev cX12_rest : ByteArray := prog_14_method_60_code
def yX12_rest : MethodName := ⟨RX12, "rest", "(III)I"⟩
abbrev cX12_evens : ByteArray := prog_14_method_61_code
def yX12_evens : MethodName := ⟨RX12, "evens", "(I)V"⟩
abbrev cX12_areAlike : ByteArray := prog_14_method_62_code
def yX12_areAlike : MethodName := ⟨RX12, "areAlike", "(II)Z"⟩
abbrev cX12_rowGoes : ByteArray := prog_14_method_63_code
def yX12_rowGoes : MethodName := ⟨RX12, "rowGoes", "(I)V"⟩
abbrev cX12_takesBy : ByteArray := prog_14_method_64_code
def yX12_takesBy : MethodName := ⟨RX12, "takesBy", "(I)V"⟩
abbrev cX12_tidies : ByteArray := prog_14_method_65_code
def yX12_tidies : MethodName := ⟨RX12, "tidies", "()V"⟩
abbrev cX12_isAhead : ByteArray := prog_14_method_66_code
def yX12_isAhead : MethodName := ⟨RX12, "isAhead", "(II)Z"⟩
abbrev cX12_exchanges : ByteArray := prog_14_method_67_code
def yX12_exchanges : MethodName := ⟨RX12, "exchanges", "(II)V"⟩
abbrev cX12_sorts : ByteArray := prog_14_method_68_code
def yX12_sorts : MethodName := ⟨RX12, "sorts", "(Z)V"⟩
abbrev cX12_crosses : ByteArray := prog_14_method_69_code
def yX12_crosses : MethodName := ⟨RX12, "crosses", "(II)V"⟩
abbrev cX12_isOneMore : ByteArray := prog_14_method_70_code
def yX12_isOneMore : MethodName := ⟨RX12, "isOneMore", "()Z"⟩
abbrev cX12_laysBasis : ByteArray := prog_14_method_71_code
def yX12_laysBasis : MethodName := ⟨RX12, "laysBasis", "(I)V"⟩
abbrev cX12_isSmall : ByteArray := prog_14_method_72_code
def yX12_isSmall : MethodName := ⟨RX12, "isSmall", "(I)Z"⟩
abbrev cX12_basis : ByteArray := prog_14_method_73_code
def yX12_basis : MethodName := ⟨RX12, "basis", "(I)I"⟩
abbrev cX12_based : ByteArray := prog_14_method_74_code
def yX12_based : MethodName := ⟨RX12, "based", "(IIII)I"⟩
abbrev cX12_stairs : ByteArray := prog_14_method_75_code
def yX12_stairs : MethodName := ⟨RX12, "stairs", "(II)I"⟩
abbrev cX12_within : ByteArray := prog_14_method_76_code
def yX12_within : MethodName := ⟨RX12, "within", "(II)I"⟩
abbrev cX12_type : ByteArray := prog_14_method_77_code
def yX12_type : MethodName := ⟨RX12, "type", "(I)I"⟩
abbrev cX12_clear : ByteArray := prog_14_method_78_code
def yX12_clear : MethodName := ⟨RX12, "clear", "()I"⟩
abbrev cX12_isAt : ByteArray := prog_14_method_79_code
def yX12_isAt : MethodName := ⟨RX12, "isAt", "(II)Z"⟩
abbrev cX12_blanks : ByteArray := prog_14_method_80_code
def yX12_blanks : MethodName := ⟨RX12, "blanks", "()V"⟩
abbrev cX12_fails : ByteArray := prog_14_method_81_code
def yX12_fails : MethodName := ⟨RX12, "fails", "(I)Z"⟩
abbrev cX12_opens : ByteArray := prog_14_method_82_code
def yX12_opens : MethodName := ⟨RX12, "opens", "()V"⟩
abbrev cX12_closes : ByteArray := prog_14_method_83_code
def yX12_closes : MethodName := ⟨RX12, "closes", "()V"⟩
abbrev cX12_takes : ByteArray := prog_14_method_84_code
def yX12_takes : MethodName := ⟨RX12, "takes", "(I)V"⟩
abbrev cX12_takesFigures : ByteArray := prog_14_method_85_code
def yX12_takesFigures : MethodName := ⟨RX12, "takesFigures", "(I)Z"⟩
abbrev cX12_takesPower : ByteArray := prog_14_method_86_code
def yX12_takesPower : MethodName := ⟨RX12, "takesPower", "()Z"⟩
abbrev cX12_values : ByteArray := prog_14_method_87_code
def yX12_values : MethodName := ⟨RX12, "values", "(III)V"⟩
abbrev cX12_takesFactor : ByteArray := prog_14_method_88_code
def yX12_takesFactor : MethodName := ⟨RX12, "takesFactor", "()Z"⟩
abbrev cX12_takesSign : ByteArray := prog_14_method_89_code
def yX12_takesSign : MethodName := ⟨RX12, "takesSign", "()Z"⟩
abbrev cX12_isRead : ByteArray := prog_14_method_90_code
def yX12_isRead : MethodName := ⟨RX12, "isRead", "(Z)Z"⟩
abbrev cX12_reads : ByteArray := prog_14_method_91_code
def yX12_reads : MethodName := ⟨RX12, "reads", "(I)I"⟩
abbrev cX12_writes : ByteArray := prog_14_method_92_code
def yX12_writes : MethodName := ⟨RX12, "writes", "(I)V"⟩
abbrev cX12_writesNumber : ByteArray := prog_14_method_93_code
def yX12_writesNumber : MethodName := ⟨RX12, "writesNumber", "(I)V"⟩
abbrev cX12_writesLetter : ByteArray := prog_14_method_94_code
def yX12_writesLetter : MethodName := ⟨RX12, "writesLetter", "(II)V"⟩
abbrev cX12_writesTerm : ByteArray := prog_14_method_95_code
def yX12_writesTerm : MethodName := ⟨RX12, "writesTerm", "(II)V"⟩
abbrev cX12_laysLine : ByteArray := prog_14_method_96_code
def yX12_laysLine : MethodName := ⟨RX12, "laysLine", "(I)V"⟩
abbrev cX12_shown : ByteArray := prog_14_method_97_code
def yX12_shown : MethodName := ⟨RX12, "shown", "(II)I"⟩
abbrev cX12_toldOf : ByteArray := prog_14_method_98_code
def yX12_toldOf : MethodName := ⟨RX12, "toldOf", "(I)I"⟩
abbrev cX12_told : ByteArray := prog_14_method_99_code
def yX12_told : MethodName := ⟨RX12, "told", "(I)I"⟩
abbrev cX12_mix : ByteArray := prog_14_method_100_code
def yX12_mix : MethodName := ⟨RX12, "mix", "(J)V"⟩
abbrev cX12_digest : ByteArray := prog_14_method_101_code
def yX12_digest : MethodName := ⟨RX12, "digest", "()J"⟩
def RJ9 : String := "java/lang/Math"
abbrev cJ9_floorMod_7cf53 : ByteArray := prog_15_method_50_code
def yJ9_floorMod_7cf53 : MethodName := ⟨RJ9, "floorMod", "(II)I"⟩
abbrev cJ9_abs_0f7a4 : ByteArray := prog_15_method_59_code
def yJ9_abs_0f7a4 : MethodName := ⟨RJ9, "abs", "(I)I"⟩
abbrev cJ9_max_7cf53 : ByteArray := prog_15_method_65_code
def yJ9_max_7cf53 : MethodName := ⟨RJ9, "max", "(II)I"⟩
abbrev cJ9_min_7cf53 : ByteArray := prog_15_method_69_code
def yJ9_min_7cf53 : MethodName := ⟨RJ9, "min", "(II)I"⟩
def RJ10 : String := "java/lang/System"
def RJ7 : String := "java/util/Arrays"
abbrev cJ7_fill_53178 : ByteArray := prog_17_method_103_code
def yJ7_fill_53178 : MethodName := ⟨RJ7, "fill", "([II)V"⟩
def RL : String := "WeylWordsLaw"
abbrev cL_law : ByteArray := code
def yL_law : MethodName := ⟨RL, "law", "([I)Z"⟩
abbrev vwCl : List vw_C := [(RX0, TX0, 3), (RX1, TX1, 3), (RX2, TX2, 6), (RX3, TX3, 11), (RX4, TX4, 8), (RX5, TX5, 3), (RX6, TX6, 1), (RX7, TX7, 7), (RX8, TX8, 3), (RX9, TX9, 4), (RX10, TX10, 2), (RX11, TX11, 13), (RX12, TX12, 31)]
