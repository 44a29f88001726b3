/-! The cells behind both constructors: kinds, lengths, references that stay. Written by wip/whole/gen_lay.py. -/
def ly_t : List Nat := [30, 30, 30, 11, 8, 23, 22, 20, 20, 6, 20, 6, 20, 6, 20, 6, 20, 6, 20, 6, 20, 5, 24, 8, 23, 22, 20, 20, 6, 20, 6, 20, 6, 20, 6, 20, 6, 20, 6, 20, 8, 23, 22, 20, 20, 6, 20, 6, 20, 6, 20, 6, 20, 6, 20, 6, 20, 8, 23, 22, 20, 20, 6, 20, 6, 20, 6, 20, 6, 20, 6, 20, 6, 20, 8, 23, 22, 20, 20, 6, 20, 6, 20, 6, 20, 6, 20, 6, 20, 6, 20, 8, 23, 22, 20, 20, 6, 20, 6, 20, 6, 20, 6, 20, 6, 20, 6, 20, 9, 20, 1, 22, 20, 20, 20, 20, 20, 20, 20, 20, 20, 20, 20, 20, 20, 22, 20, 20, 20, 20, 20, 20, 20, 20, 20, 20, 20, 20, 20, 20, 20, 20, 20, 20, 20, 20, 20, 20, 20, 20, 20, 20, 20, 20, 20, 20, 20, 6, 20, 4, 23, 20, 20, 20, 20, 3, 25, 23, 20, 20, 21, 2, 23, 20, 20, 20, 6, 20, 6, 20, 6, 20, 6, 20, 2, 23, 20, 20, 20, 6, 20, 6, 20, 6, 20, 6, 20, 2, 23, 20, 20, 20, 6, 20, 6, 20, 6, 20, 6, 20, 2, 23, 20, 20, 20, 6, 20, 6, 20, 6, 20, 6, 20, 6, 20, 6, 20, 6, 20, 6, 20, 6, 20, 6, 20, 0, 22, 20, 20, 20, 20, 20, 20, 20, 20, 20, 20, 20, 20, 20, 20, 20, 20, 20, 7, 23, 23, 6, 20, 6, 20, 6, 20, 6, 20, 6, 20, 6, 20, 6, 20, 6, 20, 6, 20, 6, 20, 6, 20, 6, 20, 6, 20, 6, 20, 6, 20, 6, 20, 6, 20, 6, 20, 6, 20, 6, 20, 10, 20, 6, 20, 12, 20, 20, 20, 20, 20, 20, 20, 20, 20, 20, 20, 20, 20, 21, 21, 20]
def ly_n : List Nat := [0, 91, 91, 13, 3, 6, 2, 31, 31, 1, 91, 1, 91, 1, 91, 1, 91, 1, 91, 1, 91, 3, 5, 3, 6, 2, 31, 31, 1, 91, 1, 91, 1, 91, 1, 91, 1, 91, 1, 91, 3, 6, 2, 31, 31, 1, 91, 1, 91, 1, 91, 1, 91, 1, 91, 1, 91, 3, 6, 2, 31, 31, 1, 91, 1, 91, 1, 91, 1, 91, 1, 91, 1, 91, 3, 6, 2, 31, 31, 1, 91, 1, 91, 1, 91, 1, 91, 1, 91, 1, 91, 3, 6, 2, 31, 31, 1, 91, 1, 91, 1, 91, 1, 91, 1, 91, 1, 91, 4, 120, 3, 13, 13, 13, 13, 13, 13, 13, 13, 13, 13, 13, 13, 13, 13, 31, 13, 13, 13, 13, 13, 13, 13, 13, 13, 13, 13, 13, 13, 13, 13, 13, 13, 13, 13, 13, 13, 13, 13, 13, 13, 13, 13, 13, 13, 13, 13, 1, 91, 8, 6, 6, 6, 6, 6, 11, 4, 6, 6, 6, 6, 6, 4, 4, 4, 60, 1, 91, 1, 91, 1, 91, 1, 91, 6, 4, 4, 4, 60, 1, 91, 1, 91, 1, 91, 1, 91, 6, 4, 4, 4, 60, 1, 91, 1, 91, 1, 91, 1, 91, 6, 4, 4, 4, 60, 1, 91, 1, 91, 1, 91, 1, 91, 1, 91, 1, 91, 1, 91, 1, 91, 1, 91, 1, 91, 3, 16, 31, 31, 31, 31, 31, 31, 31, 31, 31, 31, 31, 31, 31, 31, 31, 31, 31, 7, 9, 9, 1, 91, 1, 91, 1, 91, 1, 91, 1, 91, 1, 91, 1, 91, 1, 91, 1, 91, 1, 91, 1, 91, 1, 91, 1, 91, 1, 91, 1, 91, 1, 91, 1, 91, 1, 91, 1, 91, 1, 91, 2, 20, 1, 91, 31, 609, 3045, 3, 120, 22816, 496, 496, 961, 31, 448, 24, 24, 24, 9, 9, 1500]
def tg (k : Nat) : Nat := ly_t.getD k 99
def ln (L k : Nat) : Nat := if k = 0 then L else ly_n.getD k 0
theorem tg_0 : tg 0 = 30 := rfl
theorem tg_1 : tg 1 = 30 := rfl
theorem ln_1 (L : Nat) : ln L 1 = 91 := rfl
theorem tg_2 : tg 2 = 30 := rfl
theorem ln_2 (L : Nat) : ln L 2 = 91 := rfl
theorem tg_3 : tg 3 = 11 := rfl
theorem ln_3 (L : Nat) : ln L 3 = 13 := rfl
theorem tg_4 : tg 4 = 8 := rfl
theorem ln_4 (L : Nat) : ln L 4 = 3 := rfl
theorem tg_5 : tg 5 = 23 := rfl
theorem ln_5 (L : Nat) : ln L 5 = 6 := rfl
theorem tg_6 : tg 6 = 22 := rfl
theorem ln_6 (L : Nat) : ln L 6 = 2 := rfl
theorem tg_7 : tg 7 = 20 := rfl
theorem ln_7 (L : Nat) : ln L 7 = 31 := rfl
theorem tg_8 : tg 8 = 20 := rfl
theorem ln_8 (L : Nat) : ln L 8 = 31 := rfl
theorem tg_9 : tg 9 = 6 := rfl
theorem ln_9 (L : Nat) : ln L 9 = 1 := rfl
theorem tg_10 : tg 10 = 20 := rfl
theorem ln_10 (L : Nat) : ln L 10 = 91 := rfl
theorem tg_11 : tg 11 = 6 := rfl
theorem ln_11 (L : Nat) : ln L 11 = 1 := rfl
theorem tg_12 : tg 12 = 20 := rfl
theorem ln_12 (L : Nat) : ln L 12 = 91 := rfl
theorem tg_13 : tg 13 = 6 := rfl
theorem ln_13 (L : Nat) : ln L 13 = 1 := rfl
theorem tg_14 : tg 14 = 20 := rfl
theorem ln_14 (L : Nat) : ln L 14 = 91 := rfl
theorem tg_15 : tg 15 = 6 := rfl
theorem ln_15 (L : Nat) : ln L 15 = 1 := rfl
theorem tg_16 : tg 16 = 20 := rfl
theorem ln_16 (L : Nat) : ln L 16 = 91 := rfl
theorem tg_17 : tg 17 = 6 := rfl
theorem ln_17 (L : Nat) : ln L 17 = 1 := rfl
theorem tg_18 : tg 18 = 20 := rfl
theorem ln_18 (L : Nat) : ln L 18 = 91 := rfl
theorem tg_19 : tg 19 = 6 := rfl
theorem ln_19 (L : Nat) : ln L 19 = 1 := rfl
theorem tg_20 : tg 20 = 20 := rfl
theorem ln_20 (L : Nat) : ln L 20 = 91 := rfl
theorem tg_21 : tg 21 = 5 := rfl
theorem ln_21 (L : Nat) : ln L 21 = 3 := rfl
theorem tg_22 : tg 22 = 24 := rfl
theorem ln_22 (L : Nat) : ln L 22 = 5 := rfl
theorem tg_23 : tg 23 = 8 := rfl
theorem ln_23 (L : Nat) : ln L 23 = 3 := rfl
theorem tg_24 : tg 24 = 23 := rfl
theorem ln_24 (L : Nat) : ln L 24 = 6 := rfl
theorem tg_25 : tg 25 = 22 := rfl
theorem ln_25 (L : Nat) : ln L 25 = 2 := rfl
theorem tg_26 : tg 26 = 20 := rfl
theorem ln_26 (L : Nat) : ln L 26 = 31 := rfl
theorem tg_27 : tg 27 = 20 := rfl
theorem ln_27 (L : Nat) : ln L 27 = 31 := rfl
theorem tg_28 : tg 28 = 6 := rfl
theorem ln_28 (L : Nat) : ln L 28 = 1 := rfl
theorem tg_29 : tg 29 = 20 := rfl
theorem ln_29 (L : Nat) : ln L 29 = 91 := rfl
theorem tg_30 : tg 30 = 6 := rfl
theorem ln_30 (L : Nat) : ln L 30 = 1 := rfl
theorem tg_31 : tg 31 = 20 := rfl
theorem ln_31 (L : Nat) : ln L 31 = 91 := rfl
theorem tg_32 : tg 32 = 6 := rfl
theorem ln_32 (L : Nat) : ln L 32 = 1 := rfl
theorem tg_33 : tg 33 = 20 := rfl
theorem ln_33 (L : Nat) : ln L 33 = 91 := rfl
theorem tg_34 : tg 34 = 6 := rfl
theorem ln_34 (L : Nat) : ln L 34 = 1 := rfl
theorem tg_35 : tg 35 = 20 := rfl
theorem ln_35 (L : Nat) : ln L 35 = 91 := rfl
theorem tg_36 : tg 36 = 6 := rfl
theorem ln_36 (L : Nat) : ln L 36 = 1 := rfl
theorem tg_37 : tg 37 = 20 := rfl
theorem ln_37 (L : Nat) : ln L 37 = 91 := rfl
theorem tg_38 : tg 38 = 6 := rfl
theorem ln_38 (L : Nat) : ln L 38 = 1 := rfl
theorem tg_39 : tg 39 = 20 := rfl
theorem ln_39 (L : Nat) : ln L 39 = 91 := rfl
theorem tg_40 : tg 40 = 8 := rfl
theorem ln_40 (L : Nat) : ln L 40 = 3 := rfl
theorem tg_41 : tg 41 = 23 := rfl
theorem ln_41 (L : Nat) : ln L 41 = 6 := rfl
theorem tg_42 : tg 42 = 22 := rfl
theorem ln_42 (L : Nat) : ln L 42 = 2 := rfl
theorem tg_43 : tg 43 = 20 := rfl
theorem ln_43 (L : Nat) : ln L 43 = 31 := rfl
theorem tg_44 : tg 44 = 20 := rfl
theorem ln_44 (L : Nat) : ln L 44 = 31 := rfl
theorem tg_45 : tg 45 = 6 := rfl
theorem ln_45 (L : Nat) : ln L 45 = 1 := rfl
theorem tg_46 : tg 46 = 20 := rfl
theorem ln_46 (L : Nat) : ln L 46 = 91 := rfl
theorem tg_47 : tg 47 = 6 := rfl
theorem ln_47 (L : Nat) : ln L 47 = 1 := rfl
theorem tg_48 : tg 48 = 20 := rfl
theorem ln_48 (L : Nat) : ln L 48 = 91 := rfl
theorem tg_49 : tg 49 = 6 := rfl
theorem ln_49 (L : Nat) : ln L 49 = 1 := rfl
theorem tg_50 : tg 50 = 20 := rfl
theorem ln_50 (L : Nat) : ln L 50 = 91 := rfl
theorem tg_51 : tg 51 = 6 := rfl
theorem ln_51 (L : Nat) : ln L 51 = 1 := rfl
theorem tg_52 : tg 52 = 20 := rfl
theorem ln_52 (L : Nat) : ln L 52 = 91 := rfl
theorem tg_53 : tg 53 = 6 := rfl
theorem ln_53 (L : Nat) : ln L 53 = 1 := rfl
theorem tg_54 : tg 54 = 20 := rfl
theorem ln_54 (L : Nat) : ln L 54 = 91 := rfl
theorem tg_55 : tg 55 = 6 := rfl
theorem ln_55 (L : Nat) : ln L 55 = 1 := rfl
theorem tg_56 : tg 56 = 20 := rfl
theorem ln_56 (L : Nat) : ln L 56 = 91 := rfl
theorem tg_57 : tg 57 = 8 := rfl
theorem ln_57 (L : Nat) : ln L 57 = 3 := rfl
theorem tg_58 : tg 58 = 23 := rfl
theorem ln_58 (L : Nat) : ln L 58 = 6 := rfl
theorem tg_59 : tg 59 = 22 := rfl
theorem ln_59 (L : Nat) : ln L 59 = 2 := rfl
theorem tg_60 : tg 60 = 20 := rfl
theorem ln_60 (L : Nat) : ln L 60 = 31 := rfl
theorem tg_61 : tg 61 = 20 := rfl
theorem ln_61 (L : Nat) : ln L 61 = 31 := rfl
theorem tg_62 : tg 62 = 6 := rfl
theorem ln_62 (L : Nat) : ln L 62 = 1 := rfl
theorem tg_63 : tg 63 = 20 := rfl
theorem ln_63 (L : Nat) : ln L 63 = 91 := rfl
theorem tg_64 : tg 64 = 6 := rfl
theorem ln_64 (L : Nat) : ln L 64 = 1 := rfl
theorem tg_65 : tg 65 = 20 := rfl
theorem ln_65 (L : Nat) : ln L 65 = 91 := rfl
theorem tg_66 : tg 66 = 6 := rfl
theorem ln_66 (L : Nat) : ln L 66 = 1 := rfl
theorem tg_67 : tg 67 = 20 := rfl
theorem ln_67 (L : Nat) : ln L 67 = 91 := rfl
theorem tg_68 : tg 68 = 6 := rfl
theorem ln_68 (L : Nat) : ln L 68 = 1 := rfl
theorem tg_69 : tg 69 = 20 := rfl
theorem ln_69 (L : Nat) : ln L 69 = 91 := rfl
theorem tg_70 : tg 70 = 6 := rfl
theorem ln_70 (L : Nat) : ln L 70 = 1 := rfl
theorem tg_71 : tg 71 = 20 := rfl
theorem ln_71 (L : Nat) : ln L 71 = 91 := rfl
theorem tg_72 : tg 72 = 6 := rfl
theorem ln_72 (L : Nat) : ln L 72 = 1 := rfl
theorem tg_73 : tg 73 = 20 := rfl
theorem ln_73 (L : Nat) : ln L 73 = 91 := rfl
theorem tg_74 : tg 74 = 8 := rfl
theorem ln_74 (L : Nat) : ln L 74 = 3 := rfl
theorem tg_75 : tg 75 = 23 := rfl
theorem ln_75 (L : Nat) : ln L 75 = 6 := rfl
theorem tg_76 : tg 76 = 22 := rfl
theorem ln_76 (L : Nat) : ln L 76 = 2 := rfl
theorem tg_77 : tg 77 = 20 := rfl
theorem ln_77 (L : Nat) : ln L 77 = 31 := rfl
theorem tg_78 : tg 78 = 20 := rfl
theorem ln_78 (L : Nat) : ln L 78 = 31 := rfl
theorem tg_79 : tg 79 = 6 := rfl
theorem ln_79 (L : Nat) : ln L 79 = 1 := rfl
theorem tg_80 : tg 80 = 20 := rfl
theorem ln_80 (L : Nat) : ln L 80 = 91 := rfl
theorem tg_81 : tg 81 = 6 := rfl
theorem ln_81 (L : Nat) : ln L 81 = 1 := rfl
theorem tg_82 : tg 82 = 20 := rfl
theorem ln_82 (L : Nat) : ln L 82 = 91 := rfl
theorem tg_83 : tg 83 = 6 := rfl
theorem ln_83 (L : Nat) : ln L 83 = 1 := rfl
theorem tg_84 : tg 84 = 20 := rfl
theorem ln_84 (L : Nat) : ln L 84 = 91 := rfl
theorem tg_85 : tg 85 = 6 := rfl
theorem ln_85 (L : Nat) : ln L 85 = 1 := rfl
theorem tg_86 : tg 86 = 20 := rfl
theorem ln_86 (L : Nat) : ln L 86 = 91 := rfl
theorem tg_87 : tg 87 = 6 := rfl
theorem ln_87 (L : Nat) : ln L 87 = 1 := rfl
theorem tg_88 : tg 88 = 20 := rfl
theorem ln_88 (L : Nat) : ln L 88 = 91 := rfl
theorem tg_89 : tg 89 = 6 := rfl
theorem ln_89 (L : Nat) : ln L 89 = 1 := rfl
theorem tg_90 : tg 90 = 20 := rfl
theorem ln_90 (L : Nat) : ln L 90 = 91 := rfl
theorem tg_91 : tg 91 = 8 := rfl
theorem ln_91 (L : Nat) : ln L 91 = 3 := rfl
theorem tg_92 : tg 92 = 23 := rfl
theorem ln_92 (L : Nat) : ln L 92 = 6 := rfl
theorem tg_93 : tg 93 = 22 := rfl
theorem ln_93 (L : Nat) : ln L 93 = 2 := rfl
theorem tg_94 : tg 94 = 20 := rfl
theorem ln_94 (L : Nat) : ln L 94 = 31 := rfl
theorem tg_95 : tg 95 = 20 := rfl
theorem ln_95 (L : Nat) : ln L 95 = 31 := rfl
theorem tg_96 : tg 96 = 6 := rfl
theorem ln_96 (L : Nat) : ln L 96 = 1 := rfl
theorem tg_97 : tg 97 = 20 := rfl
theorem ln_97 (L : Nat) : ln L 97 = 91 := rfl
theorem tg_98 : tg 98 = 6 := rfl
theorem ln_98 (L : Nat) : ln L 98 = 1 := rfl
theorem tg_99 : tg 99 = 20 := rfl
theorem ln_99 (L : Nat) : ln L 99 = 91 := rfl
theorem tg_100 : tg 100 = 6 := rfl
theorem ln_100 (L : Nat) : ln L 100 = 1 := rfl
theorem tg_101 : tg 101 = 20 := rfl
theorem ln_101 (L : Nat) : ln L 101 = 91 := rfl
theorem tg_102 : tg 102 = 6 := rfl
theorem ln_102 (L : Nat) : ln L 102 = 1 := rfl
theorem tg_103 : tg 103 = 20 := rfl
theorem ln_103 (L : Nat) : ln L 103 = 91 := rfl
theorem tg_104 : tg 104 = 6 := rfl
theorem ln_104 (L : Nat) : ln L 104 = 1 := rfl
theorem tg_105 : tg 105 = 20 := rfl
theorem ln_105 (L : Nat) : ln L 105 = 91 := rfl
theorem tg_106 : tg 106 = 6 := rfl
theorem ln_106 (L : Nat) : ln L 106 = 1 := rfl
theorem tg_107 : tg 107 = 20 := rfl
theorem ln_107 (L : Nat) : ln L 107 = 91 := rfl
theorem tg_108 : tg 108 = 9 := rfl
theorem ln_108 (L : Nat) : ln L 108 = 4 := rfl
theorem tg_109 : tg 109 = 20 := rfl
theorem ln_109 (L : Nat) : ln L 109 = 120 := rfl
theorem tg_110 : tg 110 = 1 := rfl
theorem ln_110 (L : Nat) : ln L 110 = 3 := rfl
theorem tg_111 : tg 111 = 22 := rfl
theorem ln_111 (L : Nat) : ln L 111 = 13 := rfl
theorem tg_112 : tg 112 = 20 := rfl
theorem ln_112 (L : Nat) : ln L 112 = 13 := rfl
theorem tg_113 : tg 113 = 20 := rfl
theorem ln_113 (L : Nat) : ln L 113 = 13 := rfl
theorem tg_114 : tg 114 = 20 := rfl
theorem ln_114 (L : Nat) : ln L 114 = 13 := rfl
theorem tg_115 : tg 115 = 20 := rfl
theorem ln_115 (L : Nat) : ln L 115 = 13 := rfl
theorem tg_116 : tg 116 = 20 := rfl
theorem ln_116 (L : Nat) : ln L 116 = 13 := rfl
theorem tg_117 : tg 117 = 20 := rfl
theorem ln_117 (L : Nat) : ln L 117 = 13 := rfl
theorem tg_118 : tg 118 = 20 := rfl
theorem ln_118 (L : Nat) : ln L 118 = 13 := rfl
theorem tg_119 : tg 119 = 20 := rfl
theorem ln_119 (L : Nat) : ln L 119 = 13 := rfl
theorem tg_120 : tg 120 = 20 := rfl
theorem ln_120 (L : Nat) : ln L 120 = 13 := rfl
theorem tg_121 : tg 121 = 20 := rfl
theorem ln_121 (L : Nat) : ln L 121 = 13 := rfl
theorem tg_122 : tg 122 = 20 := rfl
theorem ln_122 (L : Nat) : ln L 122 = 13 := rfl
theorem tg_123 : tg 123 = 20 := rfl
theorem ln_123 (L : Nat) : ln L 123 = 13 := rfl
theorem tg_124 : tg 124 = 20 := rfl
theorem ln_124 (L : Nat) : ln L 124 = 13 := rfl
theorem tg_125 : tg 125 = 22 := rfl
theorem ln_125 (L : Nat) : ln L 125 = 31 := rfl
theorem tg_126 : tg 126 = 20 := rfl
theorem ln_126 (L : Nat) : ln L 126 = 13 := rfl
theorem tg_127 : tg 127 = 20 := rfl
theorem ln_127 (L : Nat) : ln L 127 = 13 := rfl
theorem tg_128 : tg 128 = 20 := rfl
theorem ln_128 (L : Nat) : ln L 128 = 13 := rfl
theorem tg_129 : tg 129 = 20 := rfl
theorem ln_129 (L : Nat) : ln L 129 = 13 := rfl
theorem tg_130 : tg 130 = 20 := rfl
theorem ln_130 (L : Nat) : ln L 130 = 13 := rfl
theorem tg_131 : tg 131 = 20 := rfl
theorem ln_131 (L : Nat) : ln L 131 = 13 := rfl
theorem tg_132 : tg 132 = 20 := rfl
theorem ln_132 (L : Nat) : ln L 132 = 13 := rfl
theorem tg_133 : tg 133 = 20 := rfl
theorem ln_133 (L : Nat) : ln L 133 = 13 := rfl
theorem tg_134 : tg 134 = 20 := rfl
theorem ln_134 (L : Nat) : ln L 134 = 13 := rfl
theorem tg_135 : tg 135 = 20 := rfl
theorem ln_135 (L : Nat) : ln L 135 = 13 := rfl
theorem tg_136 : tg 136 = 20 := rfl
theorem ln_136 (L : Nat) : ln L 136 = 13 := rfl
theorem tg_137 : tg 137 = 20 := rfl
theorem ln_137 (L : Nat) : ln L 137 = 13 := rfl
theorem tg_138 : tg 138 = 20 := rfl
theorem ln_138 (L : Nat) : ln L 138 = 13 := rfl
theorem tg_139 : tg 139 = 20 := rfl
theorem ln_139 (L : Nat) : ln L 139 = 13 := rfl
theorem tg_140 : tg 140 = 20 := rfl
theorem ln_140 (L : Nat) : ln L 140 = 13 := rfl
theorem tg_141 : tg 141 = 20 := rfl
theorem ln_141 (L : Nat) : ln L 141 = 13 := rfl
theorem tg_142 : tg 142 = 20 := rfl
theorem ln_142 (L : Nat) : ln L 142 = 13 := rfl
theorem tg_143 : tg 143 = 20 := rfl
theorem ln_143 (L : Nat) : ln L 143 = 13 := rfl
theorem tg_144 : tg 144 = 20 := rfl
theorem ln_144 (L : Nat) : ln L 144 = 13 := rfl
theorem tg_145 : tg 145 = 20 := rfl
theorem ln_145 (L : Nat) : ln L 145 = 13 := rfl
theorem tg_146 : tg 146 = 20 := rfl
theorem ln_146 (L : Nat) : ln L 146 = 13 := rfl
theorem tg_147 : tg 147 = 20 := rfl
theorem ln_147 (L : Nat) : ln L 147 = 13 := rfl
theorem tg_148 : tg 148 = 20 := rfl
theorem ln_148 (L : Nat) : ln L 148 = 13 := rfl
theorem tg_149 : tg 149 = 20 := rfl
theorem ln_149 (L : Nat) : ln L 149 = 13 := rfl
theorem tg_150 : tg 150 = 20 := rfl
theorem ln_150 (L : Nat) : ln L 150 = 13 := rfl
theorem tg_151 : tg 151 = 20 := rfl
theorem ln_151 (L : Nat) : ln L 151 = 13 := rfl
theorem tg_152 : tg 152 = 20 := rfl
theorem ln_152 (L : Nat) : ln L 152 = 13 := rfl
theorem tg_153 : tg 153 = 20 := rfl
theorem ln_153 (L : Nat) : ln L 153 = 13 := rfl
theorem tg_154 : tg 154 = 20 := rfl
theorem ln_154 (L : Nat) : ln L 154 = 13 := rfl
theorem tg_155 : tg 155 = 20 := rfl
theorem ln_155 (L : Nat) : ln L 155 = 13 := rfl
theorem tg_156 : tg 156 = 20 := rfl
theorem ln_156 (L : Nat) : ln L 156 = 13 := rfl
theorem tg_157 : tg 157 = 6 := rfl
theorem ln_157 (L : Nat) : ln L 157 = 1 := rfl
theorem tg_158 : tg 158 = 20 := rfl
theorem ln_158 (L : Nat) : ln L 158 = 91 := rfl
theorem tg_159 : tg 159 = 4 := rfl
theorem ln_159 (L : Nat) : ln L 159 = 8 := rfl
theorem tg_160 : tg 160 = 23 := rfl
theorem ln_160 (L : Nat) : ln L 160 = 6 := rfl
theorem tg_161 : tg 161 = 20 := rfl
theorem ln_161 (L : Nat) : ln L 161 = 6 := rfl
theorem tg_162 : tg 162 = 20 := rfl
theorem ln_162 (L : Nat) : ln L 162 = 6 := rfl
theorem tg_163 : tg 163 = 20 := rfl
theorem ln_163 (L : Nat) : ln L 163 = 6 := rfl
theorem tg_164 : tg 164 = 20 := rfl
theorem ln_164 (L : Nat) : ln L 164 = 6 := rfl
theorem tg_165 : tg 165 = 3 := rfl
theorem ln_165 (L : Nat) : ln L 165 = 11 := rfl
theorem tg_166 : tg 166 = 25 := rfl
theorem ln_166 (L : Nat) : ln L 166 = 4 := rfl
theorem tg_167 : tg 167 = 23 := rfl
theorem ln_167 (L : Nat) : ln L 167 = 6 := rfl
theorem tg_168 : tg 168 = 20 := rfl
theorem ln_168 (L : Nat) : ln L 168 = 6 := rfl
theorem tg_169 : tg 169 = 20 := rfl
theorem ln_169 (L : Nat) : ln L 169 = 6 := rfl
theorem tg_170 : tg 170 = 21 := rfl
theorem ln_170 (L : Nat) : ln L 170 = 6 := rfl
theorem tg_171 : tg 171 = 2 := rfl
theorem ln_171 (L : Nat) : ln L 171 = 6 := rfl
theorem tg_172 : tg 172 = 23 := rfl
theorem ln_172 (L : Nat) : ln L 172 = 4 := rfl
theorem tg_173 : tg 173 = 20 := rfl
theorem ln_173 (L : Nat) : ln L 173 = 4 := rfl
theorem tg_174 : tg 174 = 20 := rfl
theorem ln_174 (L : Nat) : ln L 174 = 4 := rfl
theorem tg_175 : tg 175 = 20 := rfl
theorem ln_175 (L : Nat) : ln L 175 = 60 := rfl
theorem tg_176 : tg 176 = 6 := rfl
theorem ln_176 (L : Nat) : ln L 176 = 1 := rfl
theorem tg_177 : tg 177 = 20 := rfl
theorem ln_177 (L : Nat) : ln L 177 = 91 := rfl
theorem tg_178 : tg 178 = 6 := rfl
theorem ln_178 (L : Nat) : ln L 178 = 1 := rfl
theorem tg_179 : tg 179 = 20 := rfl
theorem ln_179 (L : Nat) : ln L 179 = 91 := rfl
theorem tg_180 : tg 180 = 6 := rfl
theorem ln_180 (L : Nat) : ln L 180 = 1 := rfl
theorem tg_181 : tg 181 = 20 := rfl
theorem ln_181 (L : Nat) : ln L 181 = 91 := rfl
theorem tg_182 : tg 182 = 6 := rfl
theorem ln_182 (L : Nat) : ln L 182 = 1 := rfl
theorem tg_183 : tg 183 = 20 := rfl
theorem ln_183 (L : Nat) : ln L 183 = 91 := rfl
theorem tg_184 : tg 184 = 2 := rfl
theorem ln_184 (L : Nat) : ln L 184 = 6 := rfl
theorem tg_185 : tg 185 = 23 := rfl
theorem ln_185 (L : Nat) : ln L 185 = 4 := rfl
theorem tg_186 : tg 186 = 20 := rfl
theorem ln_186 (L : Nat) : ln L 186 = 4 := rfl
theorem tg_187 : tg 187 = 20 := rfl
theorem ln_187 (L : Nat) : ln L 187 = 4 := rfl
theorem tg_188 : tg 188 = 20 := rfl
theorem ln_188 (L : Nat) : ln L 188 = 60 := rfl
theorem tg_189 : tg 189 = 6 := rfl
theorem ln_189 (L : Nat) : ln L 189 = 1 := rfl
theorem tg_190 : tg 190 = 20 := rfl
theorem ln_190 (L : Nat) : ln L 190 = 91 := rfl
theorem tg_191 : tg 191 = 6 := rfl
theorem ln_191 (L : Nat) : ln L 191 = 1 := rfl
theorem tg_192 : tg 192 = 20 := rfl
theorem ln_192 (L : Nat) : ln L 192 = 91 := rfl
theorem tg_193 : tg 193 = 6 := rfl
theorem ln_193 (L : Nat) : ln L 193 = 1 := rfl
theorem tg_194 : tg 194 = 20 := rfl
theorem ln_194 (L : Nat) : ln L 194 = 91 := rfl
theorem tg_195 : tg 195 = 6 := rfl
theorem ln_195 (L : Nat) : ln L 195 = 1 := rfl
theorem tg_196 : tg 196 = 20 := rfl
theorem ln_196 (L : Nat) : ln L 196 = 91 := rfl
theorem tg_197 : tg 197 = 2 := rfl
theorem ln_197 (L : Nat) : ln L 197 = 6 := rfl
theorem tg_198 : tg 198 = 23 := rfl
theorem ln_198 (L : Nat) : ln L 198 = 4 := rfl
theorem tg_199 : tg 199 = 20 := rfl
theorem ln_199 (L : Nat) : ln L 199 = 4 := rfl
theorem tg_200 : tg 200 = 20 := rfl
theorem ln_200 (L : Nat) : ln L 200 = 4 := rfl
theorem tg_201 : tg 201 = 20 := rfl
theorem ln_201 (L : Nat) : ln L 201 = 60 := rfl
theorem tg_202 : tg 202 = 6 := rfl
theorem ln_202 (L : Nat) : ln L 202 = 1 := rfl
theorem tg_203 : tg 203 = 20 := rfl
theorem ln_203 (L : Nat) : ln L 203 = 91 := rfl
theorem tg_204 : tg 204 = 6 := rfl
theorem ln_204 (L : Nat) : ln L 204 = 1 := rfl
theorem tg_205 : tg 205 = 20 := rfl
theorem ln_205 (L : Nat) : ln L 205 = 91 := rfl
theorem tg_206 : tg 206 = 6 := rfl
theorem ln_206 (L : Nat) : ln L 206 = 1 := rfl
theorem tg_207 : tg 207 = 20 := rfl
theorem ln_207 (L : Nat) : ln L 207 = 91 := rfl
theorem tg_208 : tg 208 = 6 := rfl
theorem ln_208 (L : Nat) : ln L 208 = 1 := rfl
theorem tg_209 : tg 209 = 20 := rfl
theorem ln_209 (L : Nat) : ln L 209 = 91 := rfl
theorem tg_210 : tg 210 = 2 := rfl
theorem ln_210 (L : Nat) : ln L 210 = 6 := rfl
theorem tg_211 : tg 211 = 23 := rfl
theorem ln_211 (L : Nat) : ln L 211 = 4 := rfl
theorem tg_212 : tg 212 = 20 := rfl
theorem ln_212 (L : Nat) : ln L 212 = 4 := rfl
theorem tg_213 : tg 213 = 20 := rfl
theorem ln_213 (L : Nat) : ln L 213 = 4 := rfl
theorem tg_214 : tg 214 = 20 := rfl
theorem ln_214 (L : Nat) : ln L 214 = 60 := rfl
theorem tg_215 : tg 215 = 6 := rfl
theorem ln_215 (L : Nat) : ln L 215 = 1 := rfl
theorem tg_216 : tg 216 = 20 := rfl
theorem ln_216 (L : Nat) : ln L 216 = 91 := rfl
theorem tg_217 : tg 217 = 6 := rfl
theorem ln_217 (L : Nat) : ln L 217 = 1 := rfl
theorem tg_218 : tg 218 = 20 := rfl
theorem ln_218 (L : Nat) : ln L 218 = 91 := rfl
theorem tg_219 : tg 219 = 6 := rfl
theorem ln_219 (L : Nat) : ln L 219 = 1 := rfl
theorem tg_220 : tg 220 = 20 := rfl
theorem ln_220 (L : Nat) : ln L 220 = 91 := rfl
theorem tg_221 : tg 221 = 6 := rfl
theorem ln_221 (L : Nat) : ln L 221 = 1 := rfl
theorem tg_222 : tg 222 = 20 := rfl
theorem ln_222 (L : Nat) : ln L 222 = 91 := rfl
theorem tg_223 : tg 223 = 6 := rfl
theorem ln_223 (L : Nat) : ln L 223 = 1 := rfl
theorem tg_224 : tg 224 = 20 := rfl
theorem ln_224 (L : Nat) : ln L 224 = 91 := rfl
theorem tg_225 : tg 225 = 6 := rfl
theorem ln_225 (L : Nat) : ln L 225 = 1 := rfl
theorem tg_226 : tg 226 = 20 := rfl
theorem ln_226 (L : Nat) : ln L 226 = 91 := rfl
theorem tg_227 : tg 227 = 6 := rfl
theorem ln_227 (L : Nat) : ln L 227 = 1 := rfl
theorem tg_228 : tg 228 = 20 := rfl
theorem ln_228 (L : Nat) : ln L 228 = 91 := rfl
theorem tg_229 : tg 229 = 6 := rfl
theorem ln_229 (L : Nat) : ln L 229 = 1 := rfl
theorem tg_230 : tg 230 = 20 := rfl
theorem ln_230 (L : Nat) : ln L 230 = 91 := rfl
theorem tg_231 : tg 231 = 6 := rfl
theorem ln_231 (L : Nat) : ln L 231 = 1 := rfl
theorem tg_232 : tg 232 = 20 := rfl
theorem ln_232 (L : Nat) : ln L 232 = 91 := rfl
theorem tg_233 : tg 233 = 6 := rfl
theorem ln_233 (L : Nat) : ln L 233 = 1 := rfl
theorem tg_234 : tg 234 = 20 := rfl
theorem ln_234 (L : Nat) : ln L 234 = 91 := rfl
theorem tg_235 : tg 235 = 0 := rfl
theorem ln_235 (L : Nat) : ln L 235 = 3 := rfl
theorem tg_236 : tg 236 = 22 := rfl
theorem ln_236 (L : Nat) : ln L 236 = 16 := rfl
theorem tg_237 : tg 237 = 20 := rfl
theorem ln_237 (L : Nat) : ln L 237 = 31 := rfl
theorem tg_238 : tg 238 = 20 := rfl
theorem ln_238 (L : Nat) : ln L 238 = 31 := rfl
theorem tg_239 : tg 239 = 20 := rfl
theorem ln_239 (L : Nat) : ln L 239 = 31 := rfl
theorem tg_240 : tg 240 = 20 := rfl
theorem ln_240 (L : Nat) : ln L 240 = 31 := rfl
theorem tg_241 : tg 241 = 20 := rfl
theorem ln_241 (L : Nat) : ln L 241 = 31 := rfl
theorem tg_242 : tg 242 = 20 := rfl
theorem ln_242 (L : Nat) : ln L 242 = 31 := rfl
theorem tg_243 : tg 243 = 20 := rfl
theorem ln_243 (L : Nat) : ln L 243 = 31 := rfl
theorem tg_244 : tg 244 = 20 := rfl
theorem ln_244 (L : Nat) : ln L 244 = 31 := rfl
theorem tg_245 : tg 245 = 20 := rfl
theorem ln_245 (L : Nat) : ln L 245 = 31 := rfl
theorem tg_246 : tg 246 = 20 := rfl
theorem ln_246 (L : Nat) : ln L 246 = 31 := rfl
theorem tg_247 : tg 247 = 20 := rfl
theorem ln_247 (L : Nat) : ln L 247 = 31 := rfl
theorem tg_248 : tg 248 = 20 := rfl
theorem ln_248 (L : Nat) : ln L 248 = 31 := rfl
theorem tg_249 : tg 249 = 20 := rfl
theorem ln_249 (L : Nat) : ln L 249 = 31 := rfl
theorem tg_250 : tg 250 = 20 := rfl
theorem ln_250 (L : Nat) : ln L 250 = 31 := rfl
theorem tg_251 : tg 251 = 20 := rfl
theorem ln_251 (L : Nat) : ln L 251 = 31 := rfl
theorem tg_252 : tg 252 = 20 := rfl
theorem ln_252 (L : Nat) : ln L 252 = 31 := rfl
theorem tg_253 : tg 253 = 20 := rfl
theorem ln_253 (L : Nat) : ln L 253 = 31 := rfl
theorem tg_254 : tg 254 = 7 := rfl
theorem ln_254 (L : Nat) : ln L 254 = 7 := rfl
theorem tg_255 : tg 255 = 23 := rfl
theorem ln_255 (L : Nat) : ln L 255 = 9 := rfl
theorem tg_256 : tg 256 = 23 := rfl
theorem ln_256 (L : Nat) : ln L 256 = 9 := rfl
theorem tg_257 : tg 257 = 6 := rfl
theorem ln_257 (L : Nat) : ln L 257 = 1 := rfl
theorem tg_258 : tg 258 = 20 := rfl
theorem ln_258 (L : Nat) : ln L 258 = 91 := rfl
theorem tg_259 : tg 259 = 6 := rfl
theorem ln_259 (L : Nat) : ln L 259 = 1 := rfl
theorem tg_260 : tg 260 = 20 := rfl
theorem ln_260 (L : Nat) : ln L 260 = 91 := rfl
theorem tg_261 : tg 261 = 6 := rfl
theorem ln_261 (L : Nat) : ln L 261 = 1 := rfl
theorem tg_262 : tg 262 = 20 := rfl
theorem ln_262 (L : Nat) : ln L 262 = 91 := rfl
theorem tg_263 : tg 263 = 6 := rfl
theorem ln_263 (L : Nat) : ln L 263 = 1 := rfl
theorem tg_264 : tg 264 = 20 := rfl
theorem ln_264 (L : Nat) : ln L 264 = 91 := rfl
theorem tg_265 : tg 265 = 6 := rfl
theorem ln_265 (L : Nat) : ln L 265 = 1 := rfl
theorem tg_266 : tg 266 = 20 := rfl
theorem ln_266 (L : Nat) : ln L 266 = 91 := rfl
theorem tg_267 : tg 267 = 6 := rfl
theorem ln_267 (L : Nat) : ln L 267 = 1 := rfl
theorem tg_268 : tg 268 = 20 := rfl
theorem ln_268 (L : Nat) : ln L 268 = 91 := rfl
theorem tg_269 : tg 269 = 6 := rfl
theorem ln_269 (L : Nat) : ln L 269 = 1 := rfl
theorem tg_270 : tg 270 = 20 := rfl
theorem ln_270 (L : Nat) : ln L 270 = 91 := rfl
theorem tg_271 : tg 271 = 6 := rfl
theorem ln_271 (L : Nat) : ln L 271 = 1 := rfl
theorem tg_272 : tg 272 = 20 := rfl
theorem ln_272 (L : Nat) : ln L 272 = 91 := rfl
theorem tg_273 : tg 273 = 6 := rfl
theorem ln_273 (L : Nat) : ln L 273 = 1 := rfl
theorem tg_274 : tg 274 = 20 := rfl
theorem ln_274 (L : Nat) : ln L 274 = 91 := rfl
theorem tg_275 : tg 275 = 6 := rfl
theorem ln_275 (L : Nat) : ln L 275 = 1 := rfl
theorem tg_276 : tg 276 = 20 := rfl
theorem ln_276 (L : Nat) : ln L 276 = 91 := rfl
theorem tg_277 : tg 277 = 6 := rfl
theorem ln_277 (L : Nat) : ln L 277 = 1 := rfl
theorem tg_278 : tg 278 = 20 := rfl
theorem ln_278 (L : Nat) : ln L 278 = 91 := rfl
theorem tg_279 : tg 279 = 6 := rfl
theorem ln_279 (L : Nat) : ln L 279 = 1 := rfl
theorem tg_280 : tg 280 = 20 := rfl
theorem ln_280 (L : Nat) : ln L 280 = 91 := rfl
theorem tg_281 : tg 281 = 6 := rfl
theorem ln_281 (L : Nat) : ln L 281 = 1 := rfl
theorem tg_282 : tg 282 = 20 := rfl
theorem ln_282 (L : Nat) : ln L 282 = 91 := rfl
theorem tg_283 : tg 283 = 6 := rfl
theorem ln_283 (L : Nat) : ln L 283 = 1 := rfl
theorem tg_284 : tg 284 = 20 := rfl
theorem ln_284 (L : Nat) : ln L 284 = 91 := rfl
theorem tg_285 : tg 285 = 6 := rfl
theorem ln_285 (L : Nat) : ln L 285 = 1 := rfl
theorem tg_286 : tg 286 = 20 := rfl
theorem ln_286 (L : Nat) : ln L 286 = 91 := rfl
theorem tg_287 : tg 287 = 6 := rfl
theorem ln_287 (L : Nat) : ln L 287 = 1 := rfl
theorem tg_288 : tg 288 = 20 := rfl
theorem ln_288 (L : Nat) : ln L 288 = 91 := rfl
theorem tg_289 : tg 289 = 6 := rfl
theorem ln_289 (L : Nat) : ln L 289 = 1 := rfl
theorem tg_290 : tg 290 = 20 := rfl
theorem ln_290 (L : Nat) : ln L 290 = 91 := rfl
theorem tg_291 : tg 291 = 6 := rfl
theorem ln_291 (L : Nat) : ln L 291 = 1 := rfl
theorem tg_292 : tg 292 = 20 := rfl
theorem ln_292 (L : Nat) : ln L 292 = 91 := rfl
theorem tg_293 : tg 293 = 6 := rfl
theorem ln_293 (L : Nat) : ln L 293 = 1 := rfl
theorem tg_294 : tg 294 = 20 := rfl
theorem ln_294 (L : Nat) : ln L 294 = 91 := rfl
theorem tg_295 : tg 295 = 6 := rfl
theorem ln_295 (L : Nat) : ln L 295 = 1 := rfl
theorem tg_296 : tg 296 = 20 := rfl
theorem ln_296 (L : Nat) : ln L 296 = 91 := rfl
theorem tg_297 : tg 297 = 10 := rfl
theorem ln_297 (L : Nat) : ln L 297 = 2 := rfl
theorem tg_298 : tg 298 = 20 := rfl
theorem ln_298 (L : Nat) : ln L 298 = 20 := rfl
theorem tg_299 : tg 299 = 6 := rfl
theorem ln_299 (L : Nat) : ln L 299 = 1 := rfl
theorem tg_300 : tg 300 = 20 := rfl
theorem ln_300 (L : Nat) : ln L 300 = 91 := rfl
theorem tg_301 : tg 301 = 12 := rfl
theorem ln_301 (L : Nat) : ln L 301 = 31 := rfl
theorem tg_302 : tg 302 = 20 := rfl
theorem ln_302 (L : Nat) : ln L 302 = 609 := rfl
theorem tg_303 : tg 303 = 20 := rfl
theorem ln_303 (L : Nat) : ln L 303 = 3045 := rfl
theorem tg_304 : tg 304 = 20 := rfl
theorem ln_304 (L : Nat) : ln L 304 = 3 := rfl
theorem tg_305 : tg 305 = 20 := rfl
theorem ln_305 (L : Nat) : ln L 305 = 120 := rfl
theorem tg_306 : tg 306 = 20 := rfl
theorem ln_306 (L : Nat) : ln L 306 = 22816 := rfl
theorem tg_307 : tg 307 = 20 := rfl
theorem ln_307 (L : Nat) : ln L 307 = 496 := rfl
theorem tg_308 : tg 308 = 20 := rfl
theorem ln_308 (L : Nat) : ln L 308 = 496 := rfl
theorem tg_309 : tg 309 = 20 := rfl
theorem ln_309 (L : Nat) : ln L 309 = 961 := rfl
theorem tg_310 : tg 310 = 20 := rfl
theorem ln_310 (L : Nat) : ln L 310 = 31 := rfl
theorem tg_311 : tg 311 = 20 := rfl
theorem ln_311 (L : Nat) : ln L 311 = 448 := rfl
theorem tg_312 : tg 312 = 20 := rfl
theorem ln_312 (L : Nat) : ln L 312 = 24 := rfl
theorem tg_313 : tg 313 = 20 := rfl
theorem ln_313 (L : Nat) : ln L 313 = 24 := rfl
theorem tg_314 : tg 314 = 20 := rfl
theorem ln_314 (L : Nat) : ln L 314 = 24 := rfl
theorem tg_315 : tg 315 = 21 := rfl
theorem ln_315 (L : Nat) : ln L 315 = 9 := rfl
theorem tg_316 : tg 316 = 21 := rfl
theorem ln_316 (L : Nat) : ln L 316 = 9 := rfl
theorem tg_317 : tg 317 = 20 := rfl
theorem ln_317 (L : Nat) : ln L 317 = 1500 := rfl
def ly_c : List (Nat × Nat × Nat) := [(3, 0, 4), (3, 1, 21), (3, 2, 108), (3, 3, 110), (3, 4, 159), (3, 5, 165), (3, 6, 235), (3, 7, 254), (3, 8, 297), (3, 9, 299), (4, 0, 5), (4, 1, 6), (5, 0, 9), (5, 1, 11), (5, 2, 13), (5, 3, 15), (5, 4, 17), (5, 5, 19), (6, 0, 7), (6, 1, 8), (9, 0, 10), (11, 0, 12), (13, 0, 14), (15, 0, 16), (17, 0, 18), (19, 0, 20), (21, 0, 22), (22, 0, 23), (22, 1, 40), (22, 2, 57), (22, 3, 74), (22, 4, 91), (23, 0, 24), (23, 1, 25), (24, 0, 28), (24, 1, 30), (24, 2, 32), (24, 3, 34), (24, 4, 36), (24, 5, 38), (25, 0, 26), (25, 1, 27), (28, 0, 29), (30, 0, 31), (32, 0, 33), (34, 0, 35), (36, 0, 37), (38, 0, 39), (40, 0, 41), (40, 1, 42), (41, 0, 45), (41, 1, 47), (41, 2, 49), (41, 3, 51), (41, 4, 53), (41, 5, 55), (42, 0, 43), (42, 1, 44), (45, 0, 46), (47, 0, 48), (49, 0, 50), (51, 0, 52), (53, 0, 54), (55, 0, 56), (57, 0, 58), (57, 1, 59), (58, 0, 62), (58, 1, 64), (58, 2, 66), (58, 3, 68), (58, 4, 70), (58, 5, 72), (59, 0, 60), (59, 1, 61), (62, 0, 63), (64, 0, 65), (66, 0, 67), (68, 0, 69), (70, 0, 71), (72, 0, 73), (74, 0, 75), (74, 1, 76), (75, 0, 79), (75, 1, 81), (75, 2, 83), (75, 3, 85), (75, 4, 87), (75, 5, 89), (76, 0, 77), (76, 1, 78), (79, 0, 80), (81, 0, 82), (83, 0, 84), (85, 0, 86), (87, 0, 88), (89, 0, 90), (91, 0, 92), (91, 1, 93), (92, 0, 96), (92, 1, 98), (92, 2, 100), (92, 3, 102), (92, 4, 104), (92, 5, 106), (93, 0, 94), (93, 1, 95), (96, 0, 97), (98, 0, 99), (100, 0, 101), (102, 0, 103), (104, 0, 105), (106, 0, 107), (108, 0, 109), (110, 0, 111), (110, 1, 125), (110, 2, 157), (111, 0, 112), (111, 1, 113), (111, 2, 114), (111, 3, 115), (111, 4, 116), (111, 5, 117), (111, 6, 118), (111, 7, 119), (111, 8, 120), (111, 9, 121), (111, 10, 122), (111, 11, 123), (111, 12, 124), (125, 0, 126), (125, 1, 127), (125, 2, 128), (125, 3, 129), (125, 4, 130), (125, 5, 131), (125, 6, 132), (125, 7, 133), (125, 8, 134), (125, 9, 135), (125, 10, 136), (125, 11, 137), (125, 12, 138), (125, 13, 139), (125, 14, 140), (125, 15, 141), (125, 16, 142), (125, 17, 143), (125, 18, 144), (125, 19, 145), (125, 20, 146), (125, 21, 147), (125, 22, 148), (125, 23, 149), (125, 24, 150), (125, 25, 151), (125, 26, 152), (125, 27, 153), (125, 28, 154), (125, 29, 155), (125, 30, 156), (157, 0, 158), (159, 0, 110), (159, 1, 160), (159, 2, 161), (159, 3, 162), (159, 4, 163), (159, 5, 164), (165, 0, 110), (165, 1, 159), (165, 2, 166), (165, 4, 167), (165, 5, 168), (165, 6, 169), (165, 7, 170), (166, 0, 171), (166, 1, 184), (166, 2, 197), (166, 3, 210), (171, 0, 172), (171, 1, 173), (171, 2, 174), (171, 3, 175), (172, 0, 176), (172, 1, 178), (172, 2, 180), (172, 3, 182), (176, 0, 177), (178, 0, 179), (180, 0, 181), (182, 0, 183), (184, 0, 185), (184, 1, 186), (184, 2, 187), (184, 3, 188), (185, 0, 189), (185, 1, 191), (185, 2, 193), (185, 3, 195), (189, 0, 190), (191, 0, 192), (193, 0, 194), (195, 0, 196), (197, 0, 198), (197, 1, 199), (197, 2, 200), (197, 3, 201), (198, 0, 202), (198, 1, 204), (198, 2, 206), (198, 3, 208), (202, 0, 203), (204, 0, 205), (206, 0, 207), (208, 0, 209), (210, 0, 211), (210, 1, 212), (210, 2, 213), (210, 3, 214), (211, 0, 215), (211, 1, 217), (211, 2, 219), (211, 3, 221), (215, 0, 216), (217, 0, 218), (219, 0, 220), (221, 0, 222), (223, 0, 224), (225, 0, 226), (227, 0, 228), (229, 0, 230), (231, 0, 232), (233, 0, 234), (235, 0, 125), (235, 1, 236), (235, 2, 253), (254, 0, 110), (254, 1, 108), (254, 2, 255), (254, 3, 256), (254, 4, 257), (254, 5, 259), (255, 0, 261), (255, 1, 265), (255, 2, 269), (255, 3, 273), (255, 4, 277), (255, 5, 281), (255, 6, 285), (255, 7, 289), (255, 8, 293), (256, 0, 263), (256, 1, 267), (256, 2, 271), (256, 3, 275), (256, 4, 279), (256, 5, 283), (256, 6, 287), (256, 7, 291), (256, 8, 295), (257, 0, 258), (259, 0, 260), (261, 0, 262), (263, 0, 264), (265, 0, 266), (267, 0, 268), (269, 0, 270), (271, 0, 272), (273, 0, 274), (275, 0, 276), (277, 0, 278), (279, 0, 280), (281, 0, 282), (283, 0, 284), (285, 0, 286), (287, 0, 288), (289, 0, 290), (291, 0, 292), (293, 0, 294), (295, 0, 296), (297, 0, 298), (299, 0, 300), (301, 0, 302), (301, 1, 303), (301, 3, 304), (301, 4, 305), (301, 6, 306), (301, 7, 307), (301, 8, 308), (301, 9, 309), (301, 10, 310), (301, 11, 311), (301, 12, 312), (301, 14, 313), (301, 15, 314), (301, 25, 315), (301, 26, 316), (301, 28, 317)]
def FixR (R : Nat → Nat → Option Nat) : Prop := ∀ e ∈ ly_c, R e.1 e.2.1 = some e.2.2
theorem fx_3_0 {R : Nat → Nat → Option Nat} (h : FixR R) : R 3 0 = some 4 := h (3, 0, 4) (List.mem_of_getElem? (i := 0) rfl)
theorem fx_3_1 {R : Nat → Nat → Option Nat} (h : FixR R) : R 3 1 = some 21 := h (3, 1, 21) (List.mem_of_getElem? (i := 1) rfl)
theorem fx_3_2 {R : Nat → Nat → Option Nat} (h : FixR R) : R 3 2 = some 108 := h (3, 2, 108) (List.mem_of_getElem? (i := 2) rfl)
theorem fx_3_3 {R : Nat → Nat → Option Nat} (h : FixR R) : R 3 3 = some 110 := h (3, 3, 110) (List.mem_of_getElem? (i := 3) rfl)
theorem fx_3_4 {R : Nat → Nat → Option Nat} (h : FixR R) : R 3 4 = some 159 := h (3, 4, 159) (List.mem_of_getElem? (i := 4) rfl)
theorem fx_3_5 {R : Nat → Nat → Option Nat} (h : FixR R) : R 3 5 = some 165 := h (3, 5, 165) (List.mem_of_getElem? (i := 5) rfl)
theorem fx_3_6 {R : Nat → Nat → Option Nat} (h : FixR R) : R 3 6 = some 235 := h (3, 6, 235) (List.mem_of_getElem? (i := 6) rfl)
theorem fx_3_7 {R : Nat → Nat → Option Nat} (h : FixR R) : R 3 7 = some 254 := h (3, 7, 254) (List.mem_of_getElem? (i := 7) rfl)
theorem fx_3_8 {R : Nat → Nat → Option Nat} (h : FixR R) : R 3 8 = some 297 := h (3, 8, 297) (List.mem_of_getElem? (i := 8) rfl)
theorem fx_3_9 {R : Nat → Nat → Option Nat} (h : FixR R) : R 3 9 = some 299 := h (3, 9, 299) (List.mem_of_getElem? (i := 9) rfl)
theorem fx_4_0 {R : Nat → Nat → Option Nat} (h : FixR R) : R 4 0 = some 5 := h (4, 0, 5) (List.mem_of_getElem? (i := 10) rfl)
theorem fx_4_1 {R : Nat → Nat → Option Nat} (h : FixR R) : R 4 1 = some 6 := h (4, 1, 6) (List.mem_of_getElem? (i := 11) rfl)
theorem fx_5_0 {R : Nat → Nat → Option Nat} (h : FixR R) : R 5 0 = some 9 := h (5, 0, 9) (List.mem_of_getElem? (i := 12) rfl)
theorem fx_5_1 {R : Nat → Nat → Option Nat} (h : FixR R) : R 5 1 = some 11 := h (5, 1, 11) (List.mem_of_getElem? (i := 13) rfl)
theorem fx_5_2 {R : Nat → Nat → Option Nat} (h : FixR R) : R 5 2 = some 13 := h (5, 2, 13) (List.mem_of_getElem? (i := 14) rfl)
theorem fx_5_3 {R : Nat → Nat → Option Nat} (h : FixR R) : R 5 3 = some 15 := h (5, 3, 15) (List.mem_of_getElem? (i := 15) rfl)
theorem fx_5_4 {R : Nat → Nat → Option Nat} (h : FixR R) : R 5 4 = some 17 := h (5, 4, 17) (List.mem_of_getElem? (i := 16) rfl)
theorem fx_5_5 {R : Nat → Nat → Option Nat} (h : FixR R) : R 5 5 = some 19 := h (5, 5, 19) (List.mem_of_getElem? (i := 17) rfl)
theorem fx_6_0 {R : Nat → Nat → Option Nat} (h : FixR R) : R 6 0 = some 7 := h (6, 0, 7) (List.mem_of_getElem? (i := 18) rfl)
theorem fx_6_1 {R : Nat → Nat → Option Nat} (h : FixR R) : R 6 1 = some 8 := h (6, 1, 8) (List.mem_of_getElem? (i := 19) rfl)
theorem fx_9_0 {R : Nat → Nat → Option Nat} (h : FixR R) : R 9 0 = some 10 := h (9, 0, 10) (List.mem_of_getElem? (i := 20) rfl)
theorem fx_11_0 {R : Nat → Nat → Option Nat} (h : FixR R) : R 11 0 = some 12 := h (11, 0, 12) (List.mem_of_getElem? (i := 21) rfl)
theorem fx_13_0 {R : Nat → Nat → Option Nat} (h : FixR R) : R 13 0 = some 14 := h (13, 0, 14) (List.mem_of_getElem? (i := 22) rfl)
theorem fx_15_0 {R : Nat → Nat → Option Nat} (h : FixR R) : R 15 0 = some 16 := h (15, 0, 16) (List.mem_of_getElem? (i := 23) rfl)
theorem fx_17_0 {R : Nat → Nat → Option Nat} (h : FixR R) : R 17 0 = some 18 := h (17, 0, 18) (List.mem_of_getElem? (i := 24) rfl)
theorem fx_19_0 {R : Nat → Nat → Option Nat} (h : FixR R) : R 19 0 = some 20 := h (19, 0, 20) (List.mem_of_getElem? (i := 25) rfl)
theorem fx_21_0 {R : Nat → Nat → Option Nat} (h : FixR R) : R 21 0 = some 22 := h (21, 0, 22) (List.mem_of_getElem? (i := 26) rfl)
theorem fx_22_0 {R : Nat → Nat → Option Nat} (h : FixR R) : R 22 0 = some 23 := h (22, 0, 23) (List.mem_of_getElem? (i := 27) rfl)
theorem fx_22_1 {R : Nat → Nat → Option Nat} (h : FixR R) : R 22 1 = some 40 := h (22, 1, 40) (List.mem_of_getElem? (i := 28) rfl)
theorem fx_22_2 {R : Nat → Nat → Option Nat} (h : FixR R) : R 22 2 = some 57 := h (22, 2, 57) (List.mem_of_getElem? (i := 29) rfl)
theorem fx_22_3 {R : Nat → Nat → Option Nat} (h : FixR R) : R 22 3 = some 74 := h (22, 3, 74) (List.mem_of_getElem? (i := 30) rfl)
theorem fx_22_4 {R : Nat → Nat → Option Nat} (h : FixR R) : R 22 4 = some 91 := h (22, 4, 91) (List.mem_of_getElem? (i := 31) rfl)
theorem fx_23_0 {R : Nat → Nat → Option Nat} (h : FixR R) : R 23 0 = some 24 := h (23, 0, 24) (List.mem_of_getElem? (i := 32) rfl)
theorem fx_23_1 {R : Nat → Nat → Option Nat} (h : FixR R) : R 23 1 = some 25 := h (23, 1, 25) (List.mem_of_getElem? (i := 33) rfl)
theorem fx_24_0 {R : Nat → Nat → Option Nat} (h : FixR R) : R 24 0 = some 28 := h (24, 0, 28) (List.mem_of_getElem? (i := 34) rfl)
theorem fx_24_1 {R : Nat → Nat → Option Nat} (h : FixR R) : R 24 1 = some 30 := h (24, 1, 30) (List.mem_of_getElem? (i := 35) rfl)
theorem fx_24_2 {R : Nat → Nat → Option Nat} (h : FixR R) : R 24 2 = some 32 := h (24, 2, 32) (List.mem_of_getElem? (i := 36) rfl)
theorem fx_24_3 {R : Nat → Nat → Option Nat} (h : FixR R) : R 24 3 = some 34 := h (24, 3, 34) (List.mem_of_getElem? (i := 37) rfl)
theorem fx_24_4 {R : Nat → Nat → Option Nat} (h : FixR R) : R 24 4 = some 36 := h (24, 4, 36) (List.mem_of_getElem? (i := 38) rfl)
theorem fx_24_5 {R : Nat → Nat → Option Nat} (h : FixR R) : R 24 5 = some 38 := h (24, 5, 38) (List.mem_of_getElem? (i := 39) rfl)
theorem fx_25_0 {R : Nat → Nat → Option Nat} (h : FixR R) : R 25 0 = some 26 := h (25, 0, 26) (List.mem_of_getElem? (i := 40) rfl)
theorem fx_25_1 {R : Nat → Nat → Option Nat} (h : FixR R) : R 25 1 = some 27 := h (25, 1, 27) (List.mem_of_getElem? (i := 41) rfl)
theorem fx_28_0 {R : Nat → Nat → Option Nat} (h : FixR R) : R 28 0 = some 29 := h (28, 0, 29) (List.mem_of_getElem? (i := 42) rfl)
theorem fx_30_0 {R : Nat → Nat → Option Nat} (h : FixR R) : R 30 0 = some 31 := h (30, 0, 31) (List.mem_of_getElem? (i := 43) rfl)
theorem fx_32_0 {R : Nat → Nat → Option Nat} (h : FixR R) : R 32 0 = some 33 := h (32, 0, 33) (List.mem_of_getElem? (i := 44) rfl)
theorem fx_34_0 {R : Nat → Nat → Option Nat} (h : FixR R) : R 34 0 = some 35 := h (34, 0, 35) (List.mem_of_getElem? (i := 45) rfl)
theorem fx_36_0 {R : Nat → Nat → Option Nat} (h : FixR R) : R 36 0 = some 37 := h (36, 0, 37) (List.mem_of_getElem? (i := 46) rfl)
theorem fx_38_0 {R : Nat → Nat → Option Nat} (h : FixR R) : R 38 0 = some 39 := h (38, 0, 39) (List.mem_of_getElem? (i := 47) rfl)
theorem fx_40_0 {R : Nat → Nat → Option Nat} (h : FixR R) : R 40 0 = some 41 := h (40, 0, 41) (List.mem_of_getElem? (i := 48) rfl)
theorem fx_40_1 {R : Nat → Nat → Option Nat} (h : FixR R) : R 40 1 = some 42 := h (40, 1, 42) (List.mem_of_getElem? (i := 49) rfl)
theorem fx_41_0 {R : Nat → Nat → Option Nat} (h : FixR R) : R 41 0 = some 45 := h (41, 0, 45) (List.mem_of_getElem? (i := 50) rfl)
theorem fx_41_1 {R : Nat → Nat → Option Nat} (h : FixR R) : R 41 1 = some 47 := h (41, 1, 47) (List.mem_of_getElem? (i := 51) rfl)
theorem fx_41_2 {R : Nat → Nat → Option Nat} (h : FixR R) : R 41 2 = some 49 := h (41, 2, 49) (List.mem_of_getElem? (i := 52) rfl)
theorem fx_41_3 {R : Nat → Nat → Option Nat} (h : FixR R) : R 41 3 = some 51 := h (41, 3, 51) (List.mem_of_getElem? (i := 53) rfl)
theorem fx_41_4 {R : Nat → Nat → Option Nat} (h : FixR R) : R 41 4 = some 53 := h (41, 4, 53) (List.mem_of_getElem? (i := 54) rfl)
theorem fx_41_5 {R : Nat → Nat → Option Nat} (h : FixR R) : R 41 5 = some 55 := h (41, 5, 55) (List.mem_of_getElem? (i := 55) rfl)
theorem fx_42_0 {R : Nat → Nat → Option Nat} (h : FixR R) : R 42 0 = some 43 := h (42, 0, 43) (List.mem_of_getElem? (i := 56) rfl)
theorem fx_42_1 {R : Nat → Nat → Option Nat} (h : FixR R) : R 42 1 = some 44 := h (42, 1, 44) (List.mem_of_getElem? (i := 57) rfl)
theorem fx_45_0 {R : Nat → Nat → Option Nat} (h : FixR R) : R 45 0 = some 46 := h (45, 0, 46) (List.mem_of_getElem? (i := 58) rfl)
theorem fx_47_0 {R : Nat → Nat → Option Nat} (h : FixR R) : R 47 0 = some 48 := h (47, 0, 48) (List.mem_of_getElem? (i := 59) rfl)
theorem fx_49_0 {R : Nat → Nat → Option Nat} (h : FixR R) : R 49 0 = some 50 := h (49, 0, 50) (List.mem_of_getElem? (i := 60) rfl)
theorem fx_51_0 {R : Nat → Nat → Option Nat} (h : FixR R) : R 51 0 = some 52 := h (51, 0, 52) (List.mem_of_getElem? (i := 61) rfl)
theorem fx_53_0 {R : Nat → Nat → Option Nat} (h : FixR R) : R 53 0 = some 54 := h (53, 0, 54) (List.mem_of_getElem? (i := 62) rfl)
theorem fx_55_0 {R : Nat → Nat → Option Nat} (h : FixR R) : R 55 0 = some 56 := h (55, 0, 56) (List.mem_of_getElem? (i := 63) rfl)
theorem fx_57_0 {R : Nat → Nat → Option Nat} (h : FixR R) : R 57 0 = some 58 := h (57, 0, 58) (List.mem_of_getElem? (i := 64) rfl)
theorem fx_57_1 {R : Nat → Nat → Option Nat} (h : FixR R) : R 57 1 = some 59 := h (57, 1, 59) (List.mem_of_getElem? (i := 65) rfl)
theorem fx_58_0 {R : Nat → Nat → Option Nat} (h : FixR R) : R 58 0 = some 62 := h (58, 0, 62) (List.mem_of_getElem? (i := 66) rfl)
theorem fx_58_1 {R : Nat → Nat → Option Nat} (h : FixR R) : R 58 1 = some 64 := h (58, 1, 64) (List.mem_of_getElem? (i := 67) rfl)
theorem fx_58_2 {R : Nat → Nat → Option Nat} (h : FixR R) : R 58 2 = some 66 := h (58, 2, 66) (List.mem_of_getElem? (i := 68) rfl)
theorem fx_58_3 {R : Nat → Nat → Option Nat} (h : FixR R) : R 58 3 = some 68 := h (58, 3, 68) (List.mem_of_getElem? (i := 69) rfl)
theorem fx_58_4 {R : Nat → Nat → Option Nat} (h : FixR R) : R 58 4 = some 70 := h (58, 4, 70) (List.mem_of_getElem? (i := 70) rfl)
theorem fx_58_5 {R : Nat → Nat → Option Nat} (h : FixR R) : R 58 5 = some 72 := h (58, 5, 72) (List.mem_of_getElem? (i := 71) rfl)
theorem fx_59_0 {R : Nat → Nat → Option Nat} (h : FixR R) : R 59 0 = some 60 := h (59, 0, 60) (List.mem_of_getElem? (i := 72) rfl)
theorem fx_59_1 {R : Nat → Nat → Option Nat} (h : FixR R) : R 59 1 = some 61 := h (59, 1, 61) (List.mem_of_getElem? (i := 73) rfl)
theorem fx_62_0 {R : Nat → Nat → Option Nat} (h : FixR R) : R 62 0 = some 63 := h (62, 0, 63) (List.mem_of_getElem? (i := 74) rfl)
theorem fx_64_0 {R : Nat → Nat → Option Nat} (h : FixR R) : R 64 0 = some 65 := h (64, 0, 65) (List.mem_of_getElem? (i := 75) rfl)
theorem fx_66_0 {R : Nat → Nat → Option Nat} (h : FixR R) : R 66 0 = some 67 := h (66, 0, 67) (List.mem_of_getElem? (i := 76) rfl)
theorem fx_68_0 {R : Nat → Nat → Option Nat} (h : FixR R) : R 68 0 = some 69 := h (68, 0, 69) (List.mem_of_getElem? (i := 77) rfl)
theorem fx_70_0 {R : Nat → Nat → Option Nat} (h : FixR R) : R 70 0 = some 71 := h (70, 0, 71) (List.mem_of_getElem? (i := 78) rfl)
theorem fx_72_0 {R : Nat → Nat → Option Nat} (h : FixR R) : R 72 0 = some 73 := h (72, 0, 73) (List.mem_of_getElem? (i := 79) rfl)
theorem fx_74_0 {R : Nat → Nat → Option Nat} (h : FixR R) : R 74 0 = some 75 := h (74, 0, 75) (List.mem_of_getElem? (i := 80) rfl)
theorem fx_74_1 {R : Nat → Nat → Option Nat} (h : FixR R) : R 74 1 = some 76 := h (74, 1, 76) (List.mem_of_getElem? (i := 81) rfl)
theorem fx_75_0 {R : Nat → Nat → Option Nat} (h : FixR R) : R 75 0 = some 79 := h (75, 0, 79) (List.mem_of_getElem? (i := 82) rfl)
theorem fx_75_1 {R : Nat → Nat → Option Nat} (h : FixR R) : R 75 1 = some 81 := h (75, 1, 81) (List.mem_of_getElem? (i := 83) rfl)
theorem fx_75_2 {R : Nat → Nat → Option Nat} (h : FixR R) : R 75 2 = some 83 := h (75, 2, 83) (List.mem_of_getElem? (i := 84) rfl)
theorem fx_75_3 {R : Nat → Nat → Option Nat} (h : FixR R) : R 75 3 = some 85 := h (75, 3, 85) (List.mem_of_getElem? (i := 85) rfl)
theorem fx_75_4 {R : Nat → Nat → Option Nat} (h : FixR R) : R 75 4 = some 87 := h (75, 4, 87) (List.mem_of_getElem? (i := 86) rfl)
theorem fx_75_5 {R : Nat → Nat → Option Nat} (h : FixR R) : R 75 5 = some 89 := h (75, 5, 89) (List.mem_of_getElem? (i := 87) rfl)
theorem fx_76_0 {R : Nat → Nat → Option Nat} (h : FixR R) : R 76 0 = some 77 := h (76, 0, 77) (List.mem_of_getElem? (i := 88) rfl)
theorem fx_76_1 {R : Nat → Nat → Option Nat} (h : FixR R) : R 76 1 = some 78 := h (76, 1, 78) (List.mem_of_getElem? (i := 89) rfl)
theorem fx_79_0 {R : Nat → Nat → Option Nat} (h : FixR R) : R 79 0 = some 80 := h (79, 0, 80) (List.mem_of_getElem? (i := 90) rfl)
theorem fx_81_0 {R : Nat → Nat → Option Nat} (h : FixR R) : R 81 0 = some 82 := h (81, 0, 82) (List.mem_of_getElem? (i := 91) rfl)
theorem fx_83_0 {R : Nat → Nat → Option Nat} (h : FixR R) : R 83 0 = some 84 := h (83, 0, 84) (List.mem_of_getElem? (i := 92) rfl)
theorem fx_85_0 {R : Nat → Nat → Option Nat} (h : FixR R) : R 85 0 = some 86 := h (85, 0, 86) (List.mem_of_getElem? (i := 93) rfl)
theorem fx_87_0 {R : Nat → Nat → Option Nat} (h : FixR R) : R 87 0 = some 88 := h (87, 0, 88) (List.mem_of_getElem? (i := 94) rfl)
theorem fx_89_0 {R : Nat → Nat → Option Nat} (h : FixR R) : R 89 0 = some 90 := h (89, 0, 90) (List.mem_of_getElem? (i := 95) rfl)
theorem fx_91_0 {R : Nat → Nat → Option Nat} (h : FixR R) : R 91 0 = some 92 := h (91, 0, 92) (List.mem_of_getElem? (i := 96) rfl)
theorem fx_91_1 {R : Nat → Nat → Option Nat} (h : FixR R) : R 91 1 = some 93 := h (91, 1, 93) (List.mem_of_getElem? (i := 97) rfl)
theorem fx_92_0 {R : Nat → Nat → Option Nat} (h : FixR R) : R 92 0 = some 96 := h (92, 0, 96) (List.mem_of_getElem? (i := 98) rfl)
theorem fx_92_1 {R : Nat → Nat → Option Nat} (h : FixR R) : R 92 1 = some 98 := h (92, 1, 98) (List.mem_of_getElem? (i := 99) rfl)
theorem fx_92_2 {R : Nat → Nat → Option Nat} (h : FixR R) : R 92 2 = some 100 := h (92, 2, 100) (List.mem_of_getElem? (i := 100) rfl)
theorem fx_92_3 {R : Nat → Nat → Option Nat} (h : FixR R) : R 92 3 = some 102 := h (92, 3, 102) (List.mem_of_getElem? (i := 101) rfl)
theorem fx_92_4 {R : Nat → Nat → Option Nat} (h : FixR R) : R 92 4 = some 104 := h (92, 4, 104) (List.mem_of_getElem? (i := 102) rfl)
theorem fx_92_5 {R : Nat → Nat → Option Nat} (h : FixR R) : R 92 5 = some 106 := h (92, 5, 106) (List.mem_of_getElem? (i := 103) rfl)
theorem fx_93_0 {R : Nat → Nat → Option Nat} (h : FixR R) : R 93 0 = some 94 := h (93, 0, 94) (List.mem_of_getElem? (i := 104) rfl)
theorem fx_93_1 {R : Nat → Nat → Option Nat} (h : FixR R) : R 93 1 = some 95 := h (93, 1, 95) (List.mem_of_getElem? (i := 105) rfl)
theorem fx_96_0 {R : Nat → Nat → Option Nat} (h : FixR R) : R 96 0 = some 97 := h (96, 0, 97) (List.mem_of_getElem? (i := 106) rfl)
theorem fx_98_0 {R : Nat → Nat → Option Nat} (h : FixR R) : R 98 0 = some 99 := h (98, 0, 99) (List.mem_of_getElem? (i := 107) rfl)
theorem fx_100_0 {R : Nat → Nat → Option Nat} (h : FixR R) : R 100 0 = some 101 := h (100, 0, 101) (List.mem_of_getElem? (i := 108) rfl)
theorem fx_102_0 {R : Nat → Nat → Option Nat} (h : FixR R) : R 102 0 = some 103 := h (102, 0, 103) (List.mem_of_getElem? (i := 109) rfl)
theorem fx_104_0 {R : Nat → Nat → Option Nat} (h : FixR R) : R 104 0 = some 105 := h (104, 0, 105) (List.mem_of_getElem? (i := 110) rfl)
theorem fx_106_0 {R : Nat → Nat → Option Nat} (h : FixR R) : R 106 0 = some 107 := h (106, 0, 107) (List.mem_of_getElem? (i := 111) rfl)
theorem fx_108_0 {R : Nat → Nat → Option Nat} (h : FixR R) : R 108 0 = some 109 := h (108, 0, 109) (List.mem_of_getElem? (i := 112) rfl)
theorem fx_110_0 {R : Nat → Nat → Option Nat} (h : FixR R) : R 110 0 = some 111 := h (110, 0, 111) (List.mem_of_getElem? (i := 113) rfl)
theorem fx_110_1 {R : Nat → Nat → Option Nat} (h : FixR R) : R 110 1 = some 125 := h (110, 1, 125) (List.mem_of_getElem? (i := 114) rfl)
theorem fx_110_2 {R : Nat → Nat → Option Nat} (h : FixR R) : R 110 2 = some 157 := h (110, 2, 157) (List.mem_of_getElem? (i := 115) rfl)
theorem fx_111_0 {R : Nat → Nat → Option Nat} (h : FixR R) : R 111 0 = some 112 := h (111, 0, 112) (List.mem_of_getElem? (i := 116) rfl)
theorem fx_111_1 {R : Nat → Nat → Option Nat} (h : FixR R) : R 111 1 = some 113 := h (111, 1, 113) (List.mem_of_getElem? (i := 117) rfl)
theorem fx_111_2 {R : Nat → Nat → Option Nat} (h : FixR R) : R 111 2 = some 114 := h (111, 2, 114) (List.mem_of_getElem? (i := 118) rfl)
theorem fx_111_3 {R : Nat → Nat → Option Nat} (h : FixR R) : R 111 3 = some 115 := h (111, 3, 115) (List.mem_of_getElem? (i := 119) rfl)
theorem fx_111_4 {R : Nat → Nat → Option Nat} (h : FixR R) : R 111 4 = some 116 := h (111, 4, 116) (List.mem_of_getElem? (i := 120) rfl)
theorem fx_111_5 {R : Nat → Nat → Option Nat} (h : FixR R) : R 111 5 = some 117 := h (111, 5, 117) (List.mem_of_getElem? (i := 121) rfl)
theorem fx_111_6 {R : Nat → Nat → Option Nat} (h : FixR R) : R 111 6 = some 118 := h (111, 6, 118) (List.mem_of_getElem? (i := 122) rfl)
theorem fx_111_7 {R : Nat → Nat → Option Nat} (h : FixR R) : R 111 7 = some 119 := h (111, 7, 119) (List.mem_of_getElem? (i := 123) rfl)
theorem fx_111_8 {R : Nat → Nat → Option Nat} (h : FixR R) : R 111 8 = some 120 := h (111, 8, 120) (List.mem_of_getElem? (i := 124) rfl)
theorem fx_111_9 {R : Nat → Nat → Option Nat} (h : FixR R) : R 111 9 = some 121 := h (111, 9, 121) (List.mem_of_getElem? (i := 125) rfl)
theorem fx_111_10 {R : Nat → Nat → Option Nat} (h : FixR R) : R 111 10 = some 122 := h (111, 10, 122) (List.mem_of_getElem? (i := 126) rfl)
theorem fx_111_11 {R : Nat → Nat → Option Nat} (h : FixR R) : R 111 11 = some 123 := h (111, 11, 123) (List.mem_of_getElem? (i := 127) rfl)
theorem fx_111_12 {R : Nat → Nat → Option Nat} (h : FixR R) : R 111 12 = some 124 := h (111, 12, 124) (List.mem_of_getElem? (i := 128) rfl)
theorem fx_125_0 {R : Nat → Nat → Option Nat} (h : FixR R) : R 125 0 = some 126 := h (125, 0, 126) (List.mem_of_getElem? (i := 129) rfl)
theorem fx_125_1 {R : Nat → Nat → Option Nat} (h : FixR R) : R 125 1 = some 127 := h (125, 1, 127) (List.mem_of_getElem? (i := 130) rfl)
theorem fx_125_2 {R : Nat → Nat → Option Nat} (h : FixR R) : R 125 2 = some 128 := h (125, 2, 128) (List.mem_of_getElem? (i := 131) rfl)
theorem fx_125_3 {R : Nat → Nat → Option Nat} (h : FixR R) : R 125 3 = some 129 := h (125, 3, 129) (List.mem_of_getElem? (i := 132) rfl)
theorem fx_125_4 {R : Nat → Nat → Option Nat} (h : FixR R) : R 125 4 = some 130 := h (125, 4, 130) (List.mem_of_getElem? (i := 133) rfl)
theorem fx_125_5 {R : Nat → Nat → Option Nat} (h : FixR R) : R 125 5 = some 131 := h (125, 5, 131) (List.mem_of_getElem? (i := 134) rfl)
theorem fx_125_6 {R : Nat → Nat → Option Nat} (h : FixR R) : R 125 6 = some 132 := h (125, 6, 132) (List.mem_of_getElem? (i := 135) rfl)
theorem fx_125_7 {R : Nat → Nat → Option Nat} (h : FixR R) : R 125 7 = some 133 := h (125, 7, 133) (List.mem_of_getElem? (i := 136) rfl)
theorem fx_125_8 {R : Nat → Nat → Option Nat} (h : FixR R) : R 125 8 = some 134 := h (125, 8, 134) (List.mem_of_getElem? (i := 137) rfl)
theorem fx_125_9 {R : Nat → Nat → Option Nat} (h : FixR R) : R 125 9 = some 135 := h (125, 9, 135) (List.mem_of_getElem? (i := 138) rfl)
theorem fx_125_10 {R : Nat → Nat → Option Nat} (h : FixR R) : R 125 10 = some 136 := h (125, 10, 136) (List.mem_of_getElem? (i := 139) rfl)
theorem fx_125_11 {R : Nat → Nat → Option Nat} (h : FixR R) : R 125 11 = some 137 := h (125, 11, 137) (List.mem_of_getElem? (i := 140) rfl)
theorem fx_125_12 {R : Nat → Nat → Option Nat} (h : FixR R) : R 125 12 = some 138 := h (125, 12, 138) (List.mem_of_getElem? (i := 141) rfl)
theorem fx_125_13 {R : Nat → Nat → Option Nat} (h : FixR R) : R 125 13 = some 139 := h (125, 13, 139) (List.mem_of_getElem? (i := 142) rfl)
theorem fx_125_14 {R : Nat → Nat → Option Nat} (h : FixR R) : R 125 14 = some 140 := h (125, 14, 140) (List.mem_of_getElem? (i := 143) rfl)
theorem fx_125_15 {R : Nat → Nat → Option Nat} (h : FixR R) : R 125 15 = some 141 := h (125, 15, 141) (List.mem_of_getElem? (i := 144) rfl)
theorem fx_125_16 {R : Nat → Nat → Option Nat} (h : FixR R) : R 125 16 = some 142 := h (125, 16, 142) (List.mem_of_getElem? (i := 145) rfl)
theorem fx_125_17 {R : Nat → Nat → Option Nat} (h : FixR R) : R 125 17 = some 143 := h (125, 17, 143) (List.mem_of_getElem? (i := 146) rfl)
theorem fx_125_18 {R : Nat → Nat → Option Nat} (h : FixR R) : R 125 18 = some 144 := h (125, 18, 144) (List.mem_of_getElem? (i := 147) rfl)
theorem fx_125_19 {R : Nat → Nat → Option Nat} (h : FixR R) : R 125 19 = some 145 := h (125, 19, 145) (List.mem_of_getElem? (i := 148) rfl)
theorem fx_125_20 {R : Nat → Nat → Option Nat} (h : FixR R) : R 125 20 = some 146 := h (125, 20, 146) (List.mem_of_getElem? (i := 149) rfl)
theorem fx_125_21 {R : Nat → Nat → Option Nat} (h : FixR R) : R 125 21 = some 147 := h (125, 21, 147) (List.mem_of_getElem? (i := 150) rfl)
theorem fx_125_22 {R : Nat → Nat → Option Nat} (h : FixR R) : R 125 22 = some 148 := h (125, 22, 148) (List.mem_of_getElem? (i := 151) rfl)
theorem fx_125_23 {R : Nat → Nat → Option Nat} (h : FixR R) : R 125 23 = some 149 := h (125, 23, 149) (List.mem_of_getElem? (i := 152) rfl)
theorem fx_125_24 {R : Nat → Nat → Option Nat} (h : FixR R) : R 125 24 = some 150 := h (125, 24, 150) (List.mem_of_getElem? (i := 153) rfl)
theorem fx_125_25 {R : Nat → Nat → Option Nat} (h : FixR R) : R 125 25 = some 151 := h (125, 25, 151) (List.mem_of_getElem? (i := 154) rfl)
theorem fx_125_26 {R : Nat → Nat → Option Nat} (h : FixR R) : R 125 26 = some 152 := h (125, 26, 152) (List.mem_of_getElem? (i := 155) rfl)
theorem fx_125_27 {R : Nat → Nat → Option Nat} (h : FixR R) : R 125 27 = some 153 := h (125, 27, 153) (List.mem_of_getElem? (i := 156) rfl)
theorem fx_125_28 {R : Nat → Nat → Option Nat} (h : FixR R) : R 125 28 = some 154 := h (125, 28, 154) (List.mem_of_getElem? (i := 157) rfl)
theorem fx_125_29 {R : Nat → Nat → Option Nat} (h : FixR R) : R 125 29 = some 155 := h (125, 29, 155) (List.mem_of_getElem? (i := 158) rfl)
theorem fx_125_30 {R : Nat → Nat → Option Nat} (h : FixR R) : R 125 30 = some 156 := h (125, 30, 156) (List.mem_of_getElem? (i := 159) rfl)
theorem fx_157_0 {R : Nat → Nat → Option Nat} (h : FixR R) : R 157 0 = some 158 := h (157, 0, 158) (List.mem_of_getElem? (i := 160) rfl)
theorem fx_159_0 {R : Nat → Nat → Option Nat} (h : FixR R) : R 159 0 = some 110 := h (159, 0, 110) (List.mem_of_getElem? (i := 161) rfl)
theorem fx_159_1 {R : Nat → Nat → Option Nat} (h : FixR R) : R 159 1 = some 160 := h (159, 1, 160) (List.mem_of_getElem? (i := 162) rfl)
theorem fx_159_2 {R : Nat → Nat → Option Nat} (h : FixR R) : R 159 2 = some 161 := h (159, 2, 161) (List.mem_of_getElem? (i := 163) rfl)
theorem fx_159_3 {R : Nat → Nat → Option Nat} (h : FixR R) : R 159 3 = some 162 := h (159, 3, 162) (List.mem_of_getElem? (i := 164) rfl)
theorem fx_159_4 {R : Nat → Nat → Option Nat} (h : FixR R) : R 159 4 = some 163 := h (159, 4, 163) (List.mem_of_getElem? (i := 165) rfl)
theorem fx_159_5 {R : Nat → Nat → Option Nat} (h : FixR R) : R 159 5 = some 164 := h (159, 5, 164) (List.mem_of_getElem? (i := 166) rfl)
theorem fx_165_0 {R : Nat → Nat → Option Nat} (h : FixR R) : R 165 0 = some 110 := h (165, 0, 110) (List.mem_of_getElem? (i := 167) rfl)
theorem fx_165_1 {R : Nat → Nat → Option Nat} (h : FixR R) : R 165 1 = some 159 := h (165, 1, 159) (List.mem_of_getElem? (i := 168) rfl)
theorem fx_165_2 {R : Nat → Nat → Option Nat} (h : FixR R) : R 165 2 = some 166 := h (165, 2, 166) (List.mem_of_getElem? (i := 169) rfl)
theorem fx_165_4 {R : Nat → Nat → Option Nat} (h : FixR R) : R 165 4 = some 167 := h (165, 4, 167) (List.mem_of_getElem? (i := 170) rfl)
theorem fx_165_5 {R : Nat → Nat → Option Nat} (h : FixR R) : R 165 5 = some 168 := h (165, 5, 168) (List.mem_of_getElem? (i := 171) rfl)
theorem fx_165_6 {R : Nat → Nat → Option Nat} (h : FixR R) : R 165 6 = some 169 := h (165, 6, 169) (List.mem_of_getElem? (i := 172) rfl)
theorem fx_165_7 {R : Nat → Nat → Option Nat} (h : FixR R) : R 165 7 = some 170 := h (165, 7, 170) (List.mem_of_getElem? (i := 173) rfl)
theorem fx_166_0 {R : Nat → Nat → Option Nat} (h : FixR R) : R 166 0 = some 171 := h (166, 0, 171) (List.mem_of_getElem? (i := 174) rfl)
theorem fx_166_1 {R : Nat → Nat → Option Nat} (h : FixR R) : R 166 1 = some 184 := h (166, 1, 184) (List.mem_of_getElem? (i := 175) rfl)
theorem fx_166_2 {R : Nat → Nat → Option Nat} (h : FixR R) : R 166 2 = some 197 := h (166, 2, 197) (List.mem_of_getElem? (i := 176) rfl)
theorem fx_166_3 {R : Nat → Nat → Option Nat} (h : FixR R) : R 166 3 = some 210 := h (166, 3, 210) (List.mem_of_getElem? (i := 177) rfl)
theorem fx_171_0 {R : Nat → Nat → Option Nat} (h : FixR R) : R 171 0 = some 172 := h (171, 0, 172) (List.mem_of_getElem? (i := 178) rfl)
theorem fx_171_1 {R : Nat → Nat → Option Nat} (h : FixR R) : R 171 1 = some 173 := h (171, 1, 173) (List.mem_of_getElem? (i := 179) rfl)
theorem fx_171_2 {R : Nat → Nat → Option Nat} (h : FixR R) : R 171 2 = some 174 := h (171, 2, 174) (List.mem_of_getElem? (i := 180) rfl)
theorem fx_171_3 {R : Nat → Nat → Option Nat} (h : FixR R) : R 171 3 = some 175 := h (171, 3, 175) (List.mem_of_getElem? (i := 181) rfl)
theorem fx_172_0 {R : Nat → Nat → Option Nat} (h : FixR R) : R 172 0 = some 176 := h (172, 0, 176) (List.mem_of_getElem? (i := 182) rfl)
theorem fx_172_1 {R : Nat → Nat → Option Nat} (h : FixR R) : R 172 1 = some 178 := h (172, 1, 178) (List.mem_of_getElem? (i := 183) rfl)
theorem fx_172_2 {R : Nat → Nat → Option Nat} (h : FixR R) : R 172 2 = some 180 := h (172, 2, 180) (List.mem_of_getElem? (i := 184) rfl)
theorem fx_172_3 {R : Nat → Nat → Option Nat} (h : FixR R) : R 172 3 = some 182 := h (172, 3, 182) (List.mem_of_getElem? (i := 185) rfl)
theorem fx_176_0 {R : Nat → Nat → Option Nat} (h : FixR R) : R 176 0 = some 177 := h (176, 0, 177) (List.mem_of_getElem? (i := 186) rfl)
theorem fx_178_0 {R : Nat → Nat → Option Nat} (h : FixR R) : R 178 0 = some 179 := h (178, 0, 179) (List.mem_of_getElem? (i := 187) rfl)
theorem fx_180_0 {R : Nat → Nat → Option Nat} (h : FixR R) : R 180 0 = some 181 := h (180, 0, 181) (List.mem_of_getElem? (i := 188) rfl)
theorem fx_182_0 {R : Nat → Nat → Option Nat} (h : FixR R) : R 182 0 = some 183 := h (182, 0, 183) (List.mem_of_getElem? (i := 189) rfl)
theorem fx_184_0 {R : Nat → Nat → Option Nat} (h : FixR R) : R 184 0 = some 185 := h (184, 0, 185) (List.mem_of_getElem? (i := 190) rfl)
theorem fx_184_1 {R : Nat → Nat → Option Nat} (h : FixR R) : R 184 1 = some 186 := h (184, 1, 186) (List.mem_of_getElem? (i := 191) rfl)
theorem fx_184_2 {R : Nat → Nat → Option Nat} (h : FixR R) : R 184 2 = some 187 := h (184, 2, 187) (List.mem_of_getElem? (i := 192) rfl)
theorem fx_184_3 {R : Nat → Nat → Option Nat} (h : FixR R) : R 184 3 = some 188 := h (184, 3, 188) (List.mem_of_getElem? (i := 193) rfl)
theorem fx_185_0 {R : Nat → Nat → Option Nat} (h : FixR R) : R 185 0 = some 189 := h (185, 0, 189) (List.mem_of_getElem? (i := 194) rfl)
theorem fx_185_1 {R : Nat → Nat → Option Nat} (h : FixR R) : R 185 1 = some 191 := h (185, 1, 191) (List.mem_of_getElem? (i := 195) rfl)
theorem fx_185_2 {R : Nat → Nat → Option Nat} (h : FixR R) : R 185 2 = some 193 := h (185, 2, 193) (List.mem_of_getElem? (i := 196) rfl)
theorem fx_185_3 {R : Nat → Nat → Option Nat} (h : FixR R) : R 185 3 = some 195 := h (185, 3, 195) (List.mem_of_getElem? (i := 197) rfl)
theorem fx_189_0 {R : Nat → Nat → Option Nat} (h : FixR R) : R 189 0 = some 190 := h (189, 0, 190) (List.mem_of_getElem? (i := 198) rfl)
theorem fx_191_0 {R : Nat → Nat → Option Nat} (h : FixR R) : R 191 0 = some 192 := h (191, 0, 192) (List.mem_of_getElem? (i := 199) rfl)
theorem fx_193_0 {R : Nat → Nat → Option Nat} (h : FixR R) : R 193 0 = some 194 := h (193, 0, 194) (List.mem_of_getElem? (i := 200) rfl)
theorem fx_195_0 {R : Nat → Nat → Option Nat} (h : FixR R) : R 195 0 = some 196 := h (195, 0, 196) (List.mem_of_getElem? (i := 201) rfl)
theorem fx_197_0 {R : Nat → Nat → Option Nat} (h : FixR R) : R 197 0 = some 198 := h (197, 0, 198) (List.mem_of_getElem? (i := 202) rfl)
theorem fx_197_1 {R : Nat → Nat → Option Nat} (h : FixR R) : R 197 1 = some 199 := h (197, 1, 199) (List.mem_of_getElem? (i := 203) rfl)
theorem fx_197_2 {R : Nat → Nat → Option Nat} (h : FixR R) : R 197 2 = some 200 := h (197, 2, 200) (List.mem_of_getElem? (i := 204) rfl)
theorem fx_197_3 {R : Nat → Nat → Option Nat} (h : FixR R) : R 197 3 = some 201 := h (197, 3, 201) (List.mem_of_getElem? (i := 205) rfl)
theorem fx_198_0 {R : Nat → Nat → Option Nat} (h : FixR R) : R 198 0 = some 202 := h (198, 0, 202) (List.mem_of_getElem? (i := 206) rfl)
theorem fx_198_1 {R : Nat → Nat → Option Nat} (h : FixR R) : R 198 1 = some 204 := h (198, 1, 204) (List.mem_of_getElem? (i := 207) rfl)
theorem fx_198_2 {R : Nat → Nat → Option Nat} (h : FixR R) : R 198 2 = some 206 := h (198, 2, 206) (List.mem_of_getElem? (i := 208) rfl)
theorem fx_198_3 {R : Nat → Nat → Option Nat} (h : FixR R) : R 198 3 = some 208 := h (198, 3, 208) (List.mem_of_getElem? (i := 209) rfl)
theorem fx_202_0 {R : Nat → Nat → Option Nat} (h : FixR R) : R 202 0 = some 203 := h (202, 0, 203) (List.mem_of_getElem? (i := 210) rfl)
theorem fx_204_0 {R : Nat → Nat → Option Nat} (h : FixR R) : R 204 0 = some 205 := h (204, 0, 205) (List.mem_of_getElem? (i := 211) rfl)
theorem fx_206_0 {R : Nat → Nat → Option Nat} (h : FixR R) : R 206 0 = some 207 := h (206, 0, 207) (List.mem_of_getElem? (i := 212) rfl)
theorem fx_208_0 {R : Nat → Nat → Option Nat} (h : FixR R) : R 208 0 = some 209 := h (208, 0, 209) (List.mem_of_getElem? (i := 213) rfl)
theorem fx_210_0 {R : Nat → Nat → Option Nat} (h : FixR R) : R 210 0 = some 211 := h (210, 0, 211) (List.mem_of_getElem? (i := 214) rfl)
theorem fx_210_1 {R : Nat → Nat → Option Nat} (h : FixR R) : R 210 1 = some 212 := h (210, 1, 212) (List.mem_of_getElem? (i := 215) rfl)
theorem fx_210_2 {R : Nat → Nat → Option Nat} (h : FixR R) : R 210 2 = some 213 := h (210, 2, 213) (List.mem_of_getElem? (i := 216) rfl)
theorem fx_210_3 {R : Nat → Nat → Option Nat} (h : FixR R) : R 210 3 = some 214 := h (210, 3, 214) (List.mem_of_getElem? (i := 217) rfl)
theorem fx_211_0 {R : Nat → Nat → Option Nat} (h : FixR R) : R 211 0 = some 215 := h (211, 0, 215) (List.mem_of_getElem? (i := 218) rfl)
theorem fx_211_1 {R : Nat → Nat → Option Nat} (h : FixR R) : R 211 1 = some 217 := h (211, 1, 217) (List.mem_of_getElem? (i := 219) rfl)
theorem fx_211_2 {R : Nat → Nat → Option Nat} (h : FixR R) : R 211 2 = some 219 := h (211, 2, 219) (List.mem_of_getElem? (i := 220) rfl)
theorem fx_211_3 {R : Nat → Nat → Option Nat} (h : FixR R) : R 211 3 = some 221 := h (211, 3, 221) (List.mem_of_getElem? (i := 221) rfl)
theorem fx_215_0 {R : Nat → Nat → Option Nat} (h : FixR R) : R 215 0 = some 216 := h (215, 0, 216) (List.mem_of_getElem? (i := 222) rfl)
theorem fx_217_0 {R : Nat → Nat → Option Nat} (h : FixR R) : R 217 0 = some 218 := h (217, 0, 218) (List.mem_of_getElem? (i := 223) rfl)
theorem fx_219_0 {R : Nat → Nat → Option Nat} (h : FixR R) : R 219 0 = some 220 := h (219, 0, 220) (List.mem_of_getElem? (i := 224) rfl)
theorem fx_221_0 {R : Nat → Nat → Option Nat} (h : FixR R) : R 221 0 = some 222 := h (221, 0, 222) (List.mem_of_getElem? (i := 225) rfl)
theorem fx_223_0 {R : Nat → Nat → Option Nat} (h : FixR R) : R 223 0 = some 224 := h (223, 0, 224) (List.mem_of_getElem? (i := 226) rfl)
theorem fx_225_0 {R : Nat → Nat → Option Nat} (h : FixR R) : R 225 0 = some 226 := h (225, 0, 226) (List.mem_of_getElem? (i := 227) rfl)
theorem fx_227_0 {R : Nat → Nat → Option Nat} (h : FixR R) : R 227 0 = some 228 := h (227, 0, 228) (List.mem_of_getElem? (i := 228) rfl)
theorem fx_229_0 {R : Nat → Nat → Option Nat} (h : FixR R) : R 229 0 = some 230 := h (229, 0, 230) (List.mem_of_getElem? (i := 229) rfl)
theorem fx_231_0 {R : Nat → Nat → Option Nat} (h : FixR R) : R 231 0 = some 232 := h (231, 0, 232) (List.mem_of_getElem? (i := 230) rfl)
theorem fx_233_0 {R : Nat → Nat → Option Nat} (h : FixR R) : R 233 0 = some 234 := h (233, 0, 234) (List.mem_of_getElem? (i := 231) rfl)
theorem fx_235_0 {R : Nat → Nat → Option Nat} (h : FixR R) : R 235 0 = some 125 := h (235, 0, 125) (List.mem_of_getElem? (i := 232) rfl)
theorem fx_235_1 {R : Nat → Nat → Option Nat} (h : FixR R) : R 235 1 = some 236 := h (235, 1, 236) (List.mem_of_getElem? (i := 233) rfl)
theorem fx_235_2 {R : Nat → Nat → Option Nat} (h : FixR R) : R 235 2 = some 253 := h (235, 2, 253) (List.mem_of_getElem? (i := 234) rfl)
theorem fx_254_0 {R : Nat → Nat → Option Nat} (h : FixR R) : R 254 0 = some 110 := h (254, 0, 110) (List.mem_of_getElem? (i := 235) rfl)
theorem fx_254_1 {R : Nat → Nat → Option Nat} (h : FixR R) : R 254 1 = some 108 := h (254, 1, 108) (List.mem_of_getElem? (i := 236) rfl)
theorem fx_254_2 {R : Nat → Nat → Option Nat} (h : FixR R) : R 254 2 = some 255 := h (254, 2, 255) (List.mem_of_getElem? (i := 237) rfl)
theorem fx_254_3 {R : Nat → Nat → Option Nat} (h : FixR R) : R 254 3 = some 256 := h (254, 3, 256) (List.mem_of_getElem? (i := 238) rfl)
theorem fx_254_4 {R : Nat → Nat → Option Nat} (h : FixR R) : R 254 4 = some 257 := h (254, 4, 257) (List.mem_of_getElem? (i := 239) rfl)
theorem fx_254_5 {R : Nat → Nat → Option Nat} (h : FixR R) : R 254 5 = some 259 := h (254, 5, 259) (List.mem_of_getElem? (i := 240) rfl)
theorem fx_255_0 {R : Nat → Nat → Option Nat} (h : FixR R) : R 255 0 = some 261 := h (255, 0, 261) (List.mem_of_getElem? (i := 241) rfl)
theorem fx_255_1 {R : Nat → Nat → Option Nat} (h : FixR R) : R 255 1 = some 265 := h (255, 1, 265) (List.mem_of_getElem? (i := 242) rfl)
theorem fx_255_2 {R : Nat → Nat → Option Nat} (h : FixR R) : R 255 2 = some 269 := h (255, 2, 269) (List.mem_of_getElem? (i := 243) rfl)
theorem fx_255_3 {R : Nat → Nat → Option Nat} (h : FixR R) : R 255 3 = some 273 := h (255, 3, 273) (List.mem_of_getElem? (i := 244) rfl)
theorem fx_255_4 {R : Nat → Nat → Option Nat} (h : FixR R) : R 255 4 = some 277 := h (255, 4, 277) (List.mem_of_getElem? (i := 245) rfl)
theorem fx_255_5 {R : Nat → Nat → Option Nat} (h : FixR R) : R 255 5 = some 281 := h (255, 5, 281) (List.mem_of_getElem? (i := 246) rfl)
theorem fx_255_6 {R : Nat → Nat → Option Nat} (h : FixR R) : R 255 6 = some 285 := h (255, 6, 285) (List.mem_of_getElem? (i := 247) rfl)
theorem fx_255_7 {R : Nat → Nat → Option Nat} (h : FixR R) : R 255 7 = some 289 := h (255, 7, 289) (List.mem_of_getElem? (i := 248) rfl)
theorem fx_255_8 {R : Nat → Nat → Option Nat} (h : FixR R) : R 255 8 = some 293 := h (255, 8, 293) (List.mem_of_getElem? (i := 249) rfl)
theorem fx_256_0 {R : Nat → Nat → Option Nat} (h : FixR R) : R 256 0 = some 263 := h (256, 0, 263) (List.mem_of_getElem? (i := 250) rfl)
theorem fx_256_1 {R : Nat → Nat → Option Nat} (h : FixR R) : R 256 1 = some 267 := h (256, 1, 267) (List.mem_of_getElem? (i := 251) rfl)
theorem fx_256_2 {R : Nat → Nat → Option Nat} (h : FixR R) : R 256 2 = some 271 := h (256, 2, 271) (List.mem_of_getElem? (i := 252) rfl)
theorem fx_256_3 {R : Nat → Nat → Option Nat} (h : FixR R) : R 256 3 = some 275 := h (256, 3, 275) (List.mem_of_getElem? (i := 253) rfl)
theorem fx_256_4 {R : Nat → Nat → Option Nat} (h : FixR R) : R 256 4 = some 279 := h (256, 4, 279) (List.mem_of_getElem? (i := 254) rfl)
theorem fx_256_5 {R : Nat → Nat → Option Nat} (h : FixR R) : R 256 5 = some 283 := h (256, 5, 283) (List.mem_of_getElem? (i := 255) rfl)
theorem fx_256_6 {R : Nat → Nat → Option Nat} (h : FixR R) : R 256 6 = some 287 := h (256, 6, 287) (List.mem_of_getElem? (i := 256) rfl)
theorem fx_256_7 {R : Nat → Nat → Option Nat} (h : FixR R) : R 256 7 = some 291 := h (256, 7, 291) (List.mem_of_getElem? (i := 257) rfl)
theorem fx_256_8 {R : Nat → Nat → Option Nat} (h : FixR R) : R 256 8 = some 295 := h (256, 8, 295) (List.mem_of_getElem? (i := 258) rfl)
theorem fx_257_0 {R : Nat → Nat → Option Nat} (h : FixR R) : R 257 0 = some 258 := h (257, 0, 258) (List.mem_of_getElem? (i := 259) rfl)
theorem fx_259_0 {R : Nat → Nat → Option Nat} (h : FixR R) : R 259 0 = some 260 := h (259, 0, 260) (List.mem_of_getElem? (i := 260) rfl)
theorem fx_261_0 {R : Nat → Nat → Option Nat} (h : FixR R) : R 261 0 = some 262 := h (261, 0, 262) (List.mem_of_getElem? (i := 261) rfl)
theorem fx_263_0 {R : Nat → Nat → Option Nat} (h : FixR R) : R 263 0 = some 264 := h (263, 0, 264) (List.mem_of_getElem? (i := 262) rfl)
theorem fx_265_0 {R : Nat → Nat → Option Nat} (h : FixR R) : R 265 0 = some 266 := h (265, 0, 266) (List.mem_of_getElem? (i := 263) rfl)
theorem fx_267_0 {R : Nat → Nat → Option Nat} (h : FixR R) : R 267 0 = some 268 := h (267, 0, 268) (List.mem_of_getElem? (i := 264) rfl)
theorem fx_269_0 {R : Nat → Nat → Option Nat} (h : FixR R) : R 269 0 = some 270 := h (269, 0, 270) (List.mem_of_getElem? (i := 265) rfl)
theorem fx_271_0 {R : Nat → Nat → Option Nat} (h : FixR R) : R 271 0 = some 272 := h (271, 0, 272) (List.mem_of_getElem? (i := 266) rfl)
theorem fx_273_0 {R : Nat → Nat → Option Nat} (h : FixR R) : R 273 0 = some 274 := h (273, 0, 274) (List.mem_of_getElem? (i := 267) rfl)
theorem fx_275_0 {R : Nat → Nat → Option Nat} (h : FixR R) : R 275 0 = some 276 := h (275, 0, 276) (List.mem_of_getElem? (i := 268) rfl)
theorem fx_277_0 {R : Nat → Nat → Option Nat} (h : FixR R) : R 277 0 = some 278 := h (277, 0, 278) (List.mem_of_getElem? (i := 269) rfl)
theorem fx_279_0 {R : Nat → Nat → Option Nat} (h : FixR R) : R 279 0 = some 280 := h (279, 0, 280) (List.mem_of_getElem? (i := 270) rfl)
theorem fx_281_0 {R : Nat → Nat → Option Nat} (h : FixR R) : R 281 0 = some 282 := h (281, 0, 282) (List.mem_of_getElem? (i := 271) rfl)
theorem fx_283_0 {R : Nat → Nat → Option Nat} (h : FixR R) : R 283 0 = some 284 := h (283, 0, 284) (List.mem_of_getElem? (i := 272) rfl)
theorem fx_285_0 {R : Nat → Nat → Option Nat} (h : FixR R) : R 285 0 = some 286 := h (285, 0, 286) (List.mem_of_getElem? (i := 273) rfl)
theorem fx_287_0 {R : Nat → Nat → Option Nat} (h : FixR R) : R 287 0 = some 288 := h (287, 0, 288) (List.mem_of_getElem? (i := 274) rfl)
theorem fx_289_0 {R : Nat → Nat → Option Nat} (h : FixR R) : R 289 0 = some 290 := h (289, 0, 290) (List.mem_of_getElem? (i := 275) rfl)
theorem fx_291_0 {R : Nat → Nat → Option Nat} (h : FixR R) : R 291 0 = some 292 := h (291, 0, 292) (List.mem_of_getElem? (i := 276) rfl)
theorem fx_293_0 {R : Nat → Nat → Option Nat} (h : FixR R) : R 293 0 = some 294 := h (293, 0, 294) (List.mem_of_getElem? (i := 277) rfl)
theorem fx_295_0 {R : Nat → Nat → Option Nat} (h : FixR R) : R 295 0 = some 296 := h (295, 0, 296) (List.mem_of_getElem? (i := 278) rfl)
theorem fx_297_0 {R : Nat → Nat → Option Nat} (h : FixR R) : R 297 0 = some 298 := h (297, 0, 298) (List.mem_of_getElem? (i := 279) rfl)
theorem fx_299_0 {R : Nat → Nat → Option Nat} (h : FixR R) : R 299 0 = some 300 := h (299, 0, 300) (List.mem_of_getElem? (i := 280) rfl)
theorem fx_301_0 {R : Nat → Nat → Option Nat} (h : FixR R) : R 301 0 = some 302 := h (301, 0, 302) (List.mem_of_getElem? (i := 281) rfl)
theorem fx_301_1 {R : Nat → Nat → Option Nat} (h : FixR R) : R 301 1 = some 303 := h (301, 1, 303) (List.mem_of_getElem? (i := 282) rfl)
theorem fx_301_3 {R : Nat → Nat → Option Nat} (h : FixR R) : R 301 3 = some 304 := h (301, 3, 304) (List.mem_of_getElem? (i := 283) rfl)
theorem fx_301_4 {R : Nat → Nat → Option Nat} (h : FixR R) : R 301 4 = some 305 := h (301, 4, 305) (List.mem_of_getElem? (i := 284) rfl)
theorem fx_301_6 {R : Nat → Nat → Option Nat} (h : FixR R) : R 301 6 = some 306 := h (301, 6, 306) (List.mem_of_getElem? (i := 285) rfl)
theorem fx_301_7 {R : Nat → Nat → Option Nat} (h : FixR R) : R 301 7 = some 307 := h (301, 7, 307) (List.mem_of_getElem? (i := 286) rfl)
theorem fx_301_8 {R : Nat → Nat → Option Nat} (h : FixR R) : R 301 8 = some 308 := h (301, 8, 308) (List.mem_of_getElem? (i := 287) rfl)
theorem fx_301_9 {R : Nat → Nat → Option Nat} (h : FixR R) : R 301 9 = some 309 := h (301, 9, 309) (List.mem_of_getElem? (i := 288) rfl)
theorem fx_301_10 {R : Nat → Nat → Option Nat} (h : FixR R) : R 301 10 = some 310 := h (301, 10, 310) (List.mem_of_getElem? (i := 289) rfl)
theorem fx_301_11 {R : Nat → Nat → Option Nat} (h : FixR R) : R 301 11 = some 311 := h (301, 11, 311) (List.mem_of_getElem? (i := 290) rfl)
theorem fx_301_12 {R : Nat → Nat → Option Nat} (h : FixR R) : R 301 12 = some 312 := h (301, 12, 312) (List.mem_of_getElem? (i := 291) rfl)
theorem fx_301_14 {R : Nat → Nat → Option Nat} (h : FixR R) : R 301 14 = some 313 := h (301, 14, 313) (List.mem_of_getElem? (i := 292) rfl)
theorem fx_301_15 {R : Nat → Nat → Option Nat} (h : FixR R) : R 301 15 = some 314 := h (301, 15, 314) (List.mem_of_getElem? (i := 293) rfl)
theorem fx_301_25 {R : Nat → Nat → Option Nat} (h : FixR R) : R 301 25 = some 315 := h (301, 25, 315) (List.mem_of_getElem? (i := 294) rfl)
theorem fx_301_26 {R : Nat → Nat → Option Nat} (h : FixR R) : R 301 26 = some 316 := h (301, 26, 316) (List.mem_of_getElem? (i := 295) rfl)
theorem fx_301_28 {R : Nat → Nat → Option Nat} (h : FixR R) : R 301 28 = some 317 := h (301, 28, 317) (List.mem_of_getElem? (i := 296) rfl)
