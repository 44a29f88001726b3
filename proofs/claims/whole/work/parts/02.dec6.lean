theorem dX12_takesFactor_62 : decode cX12_takesFactor 62 = .ok (.if_icmp .ne 12, 3) := by decide +kernel
theorem dX12_takesFactor_65 : decode cX12_takesFactor 65 = .ok (.aload_n 0, 1) := by decide +kernel
theorem dX12_takesFactor_66 : decode cX12_takesFactor 66 = .ok (.aload_n 0, 1) := by decide +kernel
theorem dX12_takesFactor_67 : decode cX12_takesFactor 67 = .ok (.getfield 251, 3) := by decide +kernel
theorem dX12_takesFactor_70 : decode cX12_takesFactor 70 = .ok (.invokevirtual 279, 3) := by decide +kernel
theorem dX12_takesFactor_73 : decode cX12_takesFactor 73 = .ok (.ireturn, 1) := by decide +kernel
theorem dX12_takesFactor_74 : decode cX12_takesFactor 74 = .ok (.aload_n 0, 1) := by decide +kernel
theorem dX12_takesFactor_75 : decode cX12_takesFactor 75 = .ok (.dup, 1) := by decide +kernel
theorem dX12_takesFactor_76 : decode cX12_takesFactor 76 = .ok (.getfield 267, 3) := by decide +kernel
theorem dX12_takesFactor_79 : decode cX12_takesFactor 79 = .ok (.iconst 1, 1) := by decide +kernel
theorem dX12_takesFactor_80 : decode cX12_takesFactor 80 = .ok (.iadd, 1) := by decide +kernel
theorem dX12_takesFactor_81 : decode cX12_takesFactor 81 = .ok (.putfield 267, 3) := by decide +kernel
theorem dX12_takesFactor_84 : decode cX12_takesFactor 84 = .ok (.aload_n 0, 1) := by decide +kernel
theorem dX12_takesFactor_85 : decode cX12_takesFactor 85 = .ok (.dup, 1) := by decide +kernel
theorem dX12_takesFactor_86 : decode cX12_takesFactor 86 = .ok (.getfield 251, 3) := by decide +kernel
theorem dX12_takesFactor_89 : decode cX12_takesFactor 89 = .ok (.iconst 1, 1) := by decide +kernel
theorem dX12_takesFactor_90 : decode cX12_takesFactor 90 = .ok (.iadd, 1) := by decide +kernel
theorem dX12_takesFactor_91 : decode cX12_takesFactor 91 = .ok (.putfield 251, 3) := by decide +kernel
theorem dX12_takesFactor_94 : decode cX12_takesFactor 94 = .ok (.aload_n 0, 1) := by decide +kernel
theorem dX12_takesFactor_95 : decode cX12_takesFactor 95 = .ok (.invokevirtual 291, 3) := by decide +kernel
theorem dX12_takesFactor_98 : decode cX12_takesFactor 98 = .ok (.iconst 1, 1) := by decide +kernel
theorem dX12_takesFactor_99 : decode cX12_takesFactor 99 = .ok (.ireturn, 1) := by decide +kernel
theorem dX12_takesFactor_100 : decode cX12_takesFactor 100 = .ok (.aload_n 0, 1) := by decide +kernel
theorem dX12_takesFactor_101 : decode cX12_takesFactor 101 = .ok (.bipush 48, 2) := by decide +kernel
theorem dX12_takesFactor_103 : decode cX12_takesFactor 103 = .ok (.bipush 57, 2) := by decide +kernel
theorem dX12_takesFactor_105 : decode cX12_takesFactor 105 = .ok (.invokevirtual 254, 3) := by decide +kernel
theorem dX12_takesFactor_108 : decode cX12_takesFactor 108 = .ok (.ifCond .eq 31, 3) := by decide +kernel
theorem dX12_takesFactor_111 : decode cX12_takesFactor 111 = .ok (.aload_n 0, 1) := by decide +kernel
theorem dX12_takesFactor_112 : decode cX12_takesFactor 112 = .ok (.iconst 4, 1) := by decide +kernel
theorem dX12_takesFactor_113 : decode cX12_takesFactor 113 = .ok (.invokevirtual 285, 3) := by decide +kernel
theorem dX12_takesFactor_116 : decode cX12_takesFactor 116 = .ok (.ifCond .ne 5, 3) := by decide +kernel
theorem dX12_takesFactor_119 : decode cX12_takesFactor 119 = .ok (.iconst 0, 1) := by decide +kernel
theorem dX12_takesFactor_120 : decode cX12_takesFactor 120 = .ok (.ireturn, 1) := by decide +kernel
theorem dX12_takesFactor_121 : decode cX12_takesFactor 121 = .ok (.aload_n 0, 1) := by decide +kernel
theorem dX12_takesFactor_122 : decode cX12_takesFactor 122 = .ok (.iconst 0, 1) := by decide +kernel
theorem dX12_takesFactor_123 : decode cX12_takesFactor 123 = .ok (.iconst 0, 1) := by decide +kernel
theorem dX12_takesFactor_124 : decode cX12_takesFactor 124 = .ok (.aload_n 0, 1) := by decide +kernel
theorem dX12_takesFactor_125 : decode cX12_takesFactor 125 = .ok (.getfield 276, 3) := by decide +kernel
theorem dX12_takesFactor_128 : decode cX12_takesFactor 128 = .ok (.invokestatic 122, 3) := by decide +kernel
theorem dX12_takesFactor_131 : decode cX12_takesFactor 131 = .ok (.invokevirtual 294, 3) := by decide +kernel
theorem dX12_takesFactor_134 : decode cX12_takesFactor 134 = .ok (.aload_n 0, 1) := by decide +kernel
theorem dX12_takesFactor_135 : decode cX12_takesFactor 135 = .ok (.invokevirtual 297, 3) := by decide +kernel
theorem dX12_takesFactor_138 : decode cX12_takesFactor 138 = .ok (.ireturn, 1) := by decide +kernel
theorem dX12_takesFactor_139 : decode cX12_takesFactor 139 = .ok (.aload_n 0, 1) := by decide +kernel
theorem dX12_takesFactor_140 : decode cX12_takesFactor 140 = .ok (.bipush 120, 2) := by decide +kernel
theorem dX12_takesFactor_142 : decode cX12_takesFactor 142 = .ok (.bipush 120, 2) := by decide +kernel
theorem dX12_takesFactor_144 : decode cX12_takesFactor 144 = .ok (.invokevirtual 254, 3) := by decide +kernel
theorem dX12_takesFactor_147 : decode cX12_takesFactor 147 = .ok (.ifCond .ne 23, 3) := by decide +kernel
theorem dX12_takesFactor_150 : decode cX12_takesFactor 150 = .ok (.aload_n 0, 1) := by decide +kernel
theorem dX12_takesFactor_151 : decode cX12_takesFactor 151 = .ok (.bipush 100, 2) := by decide +kernel
theorem dX12_takesFactor_153 : decode cX12_takesFactor 153 = .ok (.bipush 100, 2) := by decide +kernel
theorem dX12_takesFactor_155 : decode cX12_takesFactor 155 = .ok (.invokevirtual 254, 3) := by decide +kernel
theorem dX12_takesFactor_158 : decode cX12_takesFactor 158 = .ok (.ifCond .ne 12, 3) := by decide +kernel
theorem dX12_takesFactor_161 : decode cX12_takesFactor 161 = .ok (.aload_n 0, 1) := by decide +kernel
theorem dX12_takesFactor_162 : decode cX12_takesFactor 162 = .ok (.aload_n 0, 1) := by decide +kernel
theorem dX12_takesFactor_163 : decode cX12_takesFactor 163 = .ok (.getfield 251, 3) := by decide +kernel
theorem dX12_takesFactor_166 : decode cX12_takesFactor 166 = .ok (.invokevirtual 279, 3) := by decide +kernel
theorem dX12_takesFactor_169 : decode cX12_takesFactor 169 = .ok (.ireturn, 1) := by decide +kernel
theorem dX12_takesFactor_170 : decode cX12_takesFactor 170 = .ok (.aload_n 0, 1) := by decide +kernel
theorem dX12_takesFactor_171 : decode cX12_takesFactor 171 = .ok (.getfield 19, 3) := by decide +kernel
theorem dX12_takesFactor_174 : decode cX12_takesFactor 174 = .ok (.aload_n 0, 1) := by decide +kernel
theorem dX12_takesFactor_175 : decode cX12_takesFactor 175 = .ok (.getfield 251, 3) := by decide +kernel
theorem dX12_takesFactor_178 : decode cX12_takesFactor 178 = .ok (.iaload, 1) := by decide +kernel
theorem dX12_takesFactor_179 : decode cX12_takesFactor 179 = .ok (.bipush 120, 2) := by decide +kernel
theorem dX12_takesFactor_181 : decode cX12_takesFactor 181 = .ok (.if_icmp .ne 7, 3) := by decide +kernel
theorem dX12_takesFactor_184 : decode cX12_takesFactor 184 = .ok (.iconst 1, 1) := by decide +kernel
theorem dX12_takesFactor_185 : decode cX12_takesFactor 185 = .ok (.goto 4, 3) := by decide +kernel
theorem dX12_takesFactor_188 : decode cX12_takesFactor 188 = .ok (.iconst 0, 1) := by decide +kernel
theorem dX12_takesFactor_189 : decode cX12_takesFactor 189 = .ok (.istore_n 1, 1) := by decide +kernel
theorem dX12_takesFactor_190 : decode cX12_takesFactor 190 = .ok (.aload_n 0, 1) := by decide +kernel
theorem dX12_takesFactor_191 : decode cX12_takesFactor 191 = .ok (.iload_n 1, 1) := by decide +kernel
theorem dX12_takesFactor_192 : decode cX12_takesFactor 192 = .ok (.ifCond .eq 7, 3) := by decide +kernel
theorem dX12_takesFactor_195 : decode cX12_takesFactor 195 = .ok (.iconst 1, 1) := by decide +kernel
theorem dX12_takesFactor_196 : decode cX12_takesFactor 196 = .ok (.goto 4, 3) := by decide +kernel
theorem dX12_takesFactor_199 : decode cX12_takesFactor 199 = .ok (.iconst 0, 1) := by decide +kernel
theorem dX12_takesFactor_200 : decode cX12_takesFactor 200 = .ok (.iload_n 1, 1) := by decide +kernel
theorem dX12_takesFactor_201 : decode cX12_takesFactor 201 = .ok (.ifCond .eq 7, 3) := by decide +kernel
theorem dX12_takesFactor_204 : decode cX12_takesFactor 204 = .ok (.iconst 0, 1) := by decide +kernel
theorem dX12_takesFactor_205 : decode cX12_takesFactor 205 = .ok (.goto 4, 3) := by decide +kernel
theorem dX12_takesFactor_208 : decode cX12_takesFactor 208 = .ok (.iconst 1, 1) := by decide +kernel
theorem dX12_takesFactor_209 : decode cX12_takesFactor 209 = .ok (.iconst 1, 1) := by decide +kernel
theorem dX12_takesFactor_210 : decode cX12_takesFactor 210 = .ok (.invokevirtual 294, 3) := by decide +kernel
theorem dX12_takesFactor_213 : decode cX12_takesFactor 213 = .ok (.aload_n 0, 1) := by decide +kernel
theorem dX12_takesFactor_214 : decode cX12_takesFactor 214 = .ok (.dup, 1) := by decide +kernel
theorem dX12_takesFactor_215 : decode cX12_takesFactor 215 = .ok (.getfield 251, 3) := by decide +kernel
theorem dX12_takesFactor_218 : decode cX12_takesFactor 218 = .ok (.iconst 1, 1) := by decide +kernel
theorem dX12_takesFactor_219 : decode cX12_takesFactor 219 = .ok (.iadd, 1) := by decide +kernel
theorem dX12_takesFactor_220 : decode cX12_takesFactor 220 = .ok (.putfield 251, 3) := by decide +kernel
theorem dX12_takesFactor_223 : decode cX12_takesFactor 223 = .ok (.aload_n 0, 1) := by decide +kernel
theorem dX12_takesFactor_224 : decode cX12_takesFactor 224 = .ok (.invokevirtual 297, 3) := by decide +kernel
theorem dX12_takesFactor_227 : decode cX12_takesFactor 227 = .ok (.ireturn, 1) := by decide +kernel
theorem dX12_takesSign_0 : decode cX12_takesSign 0 = .ok (.aload_n 0, 1) := by decide +kernel
theorem dX12_takesSign_1 : decode cX12_takesSign 1 = .ok (.bipush 42, 2) := by decide +kernel
theorem dX12_takesSign_3 : decode cX12_takesSign 3 = .ok (.bipush 42, 2) := by decide +kernel
theorem dX12_takesSign_5 : decode cX12_takesSign 5 = .ok (.invokevirtual 254, 3) := by decide +kernel
theorem dX12_takesSign_8 : decode cX12_takesSign 8 = .ok (.ifCond .eq 25, 3) := by decide +kernel
theorem dX12_takesSign_11 : decode cX12_takesSign 11 = .ok (.aload_n 0, 1) := by decide +kernel
theorem dX12_takesSign_12 : decode cX12_takesSign 12 = .ok (.dup, 1) := by decide +kernel
theorem dX12_takesSign_13 : decode cX12_takesSign 13 = .ok (.getfield 251, 3) := by decide +kernel
theorem dX12_takesSign_16 : decode cX12_takesSign 16 = .ok (.iconst 1, 1) := by decide +kernel
theorem dX12_takesSign_17 : decode cX12_takesSign 17 = .ok (.iadd, 1) := by decide +kernel
theorem dX12_takesSign_18 : decode cX12_takesSign 18 = .ok (.putfield 251, 3) := by decide +kernel
theorem dX12_takesSign_21 : decode cX12_takesSign 21 = .ok (.aload_n 0, 1) := by decide +kernel
theorem dX12_takesSign_22 : decode cX12_takesSign 22 = .ok (.iconst 1, 1) := by decide +kernel
theorem dX12_takesSign_23 : decode cX12_takesSign 23 = .ok (.putfield 260, 3) := by decide +kernel
theorem dX12_takesSign_26 : decode cX12_takesSign 26 = .ok (.aload_n 0, 1) := by decide +kernel
theorem dX12_takesSign_27 : decode cX12_takesSign 27 = .ok (.iconst 0, 1) := by decide +kernel
theorem dX12_takesSign_28 : decode cX12_takesSign 28 = .ok (.putfield 264, 3) := by decide +kernel
theorem dX12_takesSign_31 : decode cX12_takesSign 31 = .ok (.iconst 1, 1) := by decide +kernel
theorem dX12_takesSign_32 : decode cX12_takesSign 32 = .ok (.ireturn, 1) := by decide +kernel
theorem dX12_takesSign_33 : decode cX12_takesSign 33 = .ok (.aload_n 0, 1) := by decide +kernel
theorem dX12_takesSign_34 : decode cX12_takesSign 34 = .ok (.bipush 43, 2) := by decide +kernel
theorem dX12_takesSign_36 : decode cX12_takesSign 36 = .ok (.bipush 43, 2) := by decide +kernel
theorem dX12_takesSign_38 : decode cX12_takesSign 38 = .ok (.invokevirtual 254, 3) := by decide +kernel
theorem dX12_takesSign_41 : decode cX12_takesSign 41 = .ok (.ifCond .ne 14, 3) := by decide +kernel
theorem dX12_takesSign_44 : decode cX12_takesSign 44 = .ok (.aload_n 0, 1) := by decide +kernel
theorem dX12_takesSign_45 : decode cX12_takesSign 45 = .ok (.bipush 45, 2) := by decide +kernel
theorem dX12_takesSign_47 : decode cX12_takesSign 47 = .ok (.bipush 45, 2) := by decide +kernel
theorem dX12_takesSign_49 : decode cX12_takesSign 49 = .ok (.invokevirtual 254, 3) := by decide +kernel
theorem dX12_takesSign_52 : decode cX12_takesSign 52 = .ok (.ifCond .eq 57, 3) := by decide +kernel
theorem dX12_takesSign_55 : decode cX12_takesSign 55 = .ok (.aload_n 0, 1) := by decide +kernel
theorem dX12_takesSign_56 : decode cX12_takesSign 56 = .ok (.invokevirtual 300, 3) := by decide +kernel
theorem dX12_takesSign_59 : decode cX12_takesSign 59 = .ok (.aload_n 0, 1) := by decide +kernel
theorem dX12_takesSign_60 : decode cX12_takesSign 60 = .ok (.getfield 49, 3) := by decide +kernel
theorem dX12_takesSign_63 : decode cX12_takesSign 63 = .ok (.aload_n 0, 1) := by decide +kernel
theorem dX12_takesSign_64 : decode cX12_takesSign 64 = .ok (.getfield 267, 3) := by decide +kernel
theorem dX12_takesSign_67 : decode cX12_takesSign 67 = .ok (.aload_n 0, 1) := by decide +kernel
theorem dX12_takesSign_68 : decode cX12_takesSign 68 = .ok (.getfield 19, 3) := by decide +kernel
theorem dX12_takesSign_71 : decode cX12_takesSign 71 = .ok (.aload_n 0, 1) := by decide +kernel
theorem dX12_takesSign_72 : decode cX12_takesSign 72 = .ok (.getfield 251, 3) := by decide +kernel
theorem dX12_takesSign_75 : decode cX12_takesSign 75 = .ok (.iaload, 1) := by decide +kernel
theorem dX12_takesSign_76 : decode cX12_takesSign 76 = .ok (.bipush 45, 2) := by decide +kernel
theorem dX12_takesSign_78 : decode cX12_takesSign 78 = .ok (.if_icmp .ne 7, 3) := by decide +kernel
theorem dX12_takesSign_81 : decode cX12_takesSign 81 = .ok (.iconst 1, 1) := by decide +kernel
theorem dX12_takesSign_82 : decode cX12_takesSign 82 = .ok (.goto 4, 3) := by decide +kernel
theorem dX12_takesSign_85 : decode cX12_takesSign 85 = .ok (.iconst 0, 1) := by decide +kernel
theorem dX12_takesSign_86 : decode cX12_takesSign 86 = .ok (.bastore, 1) := by decide +kernel
theorem dX12_takesSign_87 : decode cX12_takesSign 87 = .ok (.aload_n 0, 1) := by decide +kernel
theorem dX12_takesSign_88 : decode cX12_takesSign 88 = .ok (.dup, 1) := by decide +kernel
theorem dX12_takesSign_89 : decode cX12_takesSign 89 = .ok (.getfield 251, 3) := by decide +kernel
theorem dX12_takesSign_92 : decode cX12_takesSign 92 = .ok (.iconst 1, 1) := by decide +kernel
theorem dX12_takesSign_93 : decode cX12_takesSign 93 = .ok (.iadd, 1) := by decide +kernel
theorem dX12_takesSign_94 : decode cX12_takesSign 94 = .ok (.putfield 251, 3) := by decide +kernel
theorem dX12_takesSign_97 : decode cX12_takesSign 97 = .ok (.aload_n 0, 1) := by decide +kernel
theorem dX12_takesSign_98 : decode cX12_takesSign 98 = .ok (.iconst 1, 1) := by decide +kernel
theorem dX12_takesSign_99 : decode cX12_takesSign 99 = .ok (.putfield 260, 3) := by decide +kernel
theorem dX12_takesSign_102 : decode cX12_takesSign 102 = .ok (.aload_n 0, 1) := by decide +kernel
theorem dX12_takesSign_103 : decode cX12_takesSign 103 = .ok (.iconst 0, 1) := by decide +kernel
theorem dX12_takesSign_104 : decode cX12_takesSign 104 = .ok (.putfield 264, 3) := by decide +kernel
theorem dX12_takesSign_107 : decode cX12_takesSign 107 = .ok (.iconst 1, 1) := by decide +kernel
theorem dX12_takesSign_108 : decode cX12_takesSign 108 = .ok (.ireturn, 1) := by decide +kernel
theorem dX12_takesSign_109 : decode cX12_takesSign 109 = .ok (.aload_n 0, 1) := by decide +kernel
theorem dX12_takesSign_110 : decode cX12_takesSign 110 = .ok (.bipush 41, 2) := by decide +kernel
theorem dX12_takesSign_112 : decode cX12_takesSign 112 = .ok (.bipush 41, 2) := by decide +kernel
theorem dX12_takesSign_114 : decode cX12_takesSign 114 = .ok (.invokevirtual 254, 3) := by decide +kernel
theorem dX12_takesSign_117 : decode cX12_takesSign 117 = .ok (.ifCond .eq 10, 3) := by decide +kernel
theorem dX12_takesSign_120 : decode cX12_takesSign 120 = .ok (.aload_n 0, 1) := by decide +kernel
theorem dX12_takesSign_121 : decode cX12_takesSign 121 = .ok (.getfield 267, 3) := by decide +kernel
theorem dX12_takesSign_124 : decode cX12_takesSign 124 = .ok (.ifCond .ne 12, 3) := by decide +kernel
theorem dX12_takesSign_127 : decode cX12_takesSign 127 = .ok (.aload_n 0, 1) := by decide +kernel
theorem dX12_takesSign_128 : decode cX12_takesSign 128 = .ok (.aload_n 0, 1) := by decide +kernel
theorem dX12_takesSign_129 : decode cX12_takesSign 129 = .ok (.getfield 251, 3) := by decide +kernel
theorem dX12_takesSign_132 : decode cX12_takesSign 132 = .ok (.invokevirtual 279, 3) := by decide +kernel
theorem dX12_takesSign_135 : decode cX12_takesSign 135 = .ok (.ireturn, 1) := by decide +kernel
theorem dX12_takesSign_136 : decode cX12_takesSign 136 = .ok (.aload_n 0, 1) := by decide +kernel
theorem dX12_takesSign_137 : decode cX12_takesSign 137 = .ok (.invokevirtual 300, 3) := by decide +kernel
theorem dX12_takesSign_140 : decode cX12_takesSign 140 = .ok (.aload_n 0, 1) := by decide +kernel
theorem dX12_takesSign_141 : decode cX12_takesSign 141 = .ok (.bipush 28, 2) := by decide +kernel
theorem dX12_takesSign_143 : decode cX12_takesSign 143 = .ok (.aload_n 0, 1) := by decide +kernel
theorem dX12_takesSign_144 : decode cX12_takesSign 144 = .ok (.getfield 267, 3) := by decide +kernel
theorem dX12_takesSign_147 : decode cX12_takesSign 147 = .ok (.iadd, 1) := by decide +kernel
theorem dX12_takesSign_148 : decode cX12_takesSign 148 = .ok (.bipush 27, 2) := by decide +kernel
theorem dX12_takesSign_150 : decode cX12_takesSign 150 = .ok (.invokevirtual 103, 3) := by decide +kernel
theorem dX12_takesSign_153 : decode cX12_takesSign 153 = .ok (.aload_n 0, 1) := by decide +kernel
theorem dX12_takesSign_154 : decode cX12_takesSign 154 = .ok (.dup, 1) := by decide +kernel
theorem dX12_takesSign_155 : decode cX12_takesSign 155 = .ok (.getfield 267, 3) := by decide +kernel
theorem dX12_takesSign_158 : decode cX12_takesSign 158 = .ok (.iconst 1, 1) := by decide +kernel
theorem dX12_takesSign_159 : decode cX12_takesSign 159 = .ok (.isub, 1) := by decide +kernel
theorem dX12_takesSign_160 : decode cX12_takesSign 160 = .ok (.putfield 267, 3) := by decide +kernel
theorem dX12_takesSign_163 : decode cX12_takesSign 163 = .ok (.aload_n 0, 1) := by decide +kernel
theorem dX12_takesSign_164 : decode cX12_takesSign 164 = .ok (.dup, 1) := by decide +kernel
theorem dX12_takesSign_165 : decode cX12_takesSign 165 = .ok (.getfield 251, 3) := by decide +kernel
theorem dX12_takesSign_168 : decode cX12_takesSign 168 = .ok (.iconst 1, 1) := by decide +kernel
theorem dX12_takesSign_169 : decode cX12_takesSign 169 = .ok (.iadd, 1) := by decide +kernel
theorem dX12_takesSign_170 : decode cX12_takesSign 170 = .ok (.putfield 251, 3) := by decide +kernel
theorem dX12_takesSign_173 : decode cX12_takesSign 173 = .ok (.aload_n 0, 1) := by decide +kernel
theorem dX12_takesSign_174 : decode cX12_takesSign 174 = .ok (.invokevirtual 297, 3) := by decide +kernel
theorem dX12_takesSign_177 : decode cX12_takesSign 177 = .ok (.ireturn, 1) := by decide +kernel
theorem dX12_isRead_0 : decode cX12_isRead 0 = .ok (.aload_n 0, 1) := by decide +kernel
theorem dX12_isRead_1 : decode cX12_isRead 1 = .ok (.iload_n 1, 1) := by decide +kernel
theorem dX12_isRead_2 : decode cX12_isRead 2 = .ok (.putfield 270, 3) := by decide +kernel
theorem dX12_isRead_5 : decode cX12_isRead 5 = .ok (.aload_n 0, 1) := by decide +kernel
theorem dX12_isRead_6 : decode cX12_isRead 6 = .ok (.iconst 0, 1) := by decide +kernel
theorem dX12_isRead_7 : decode cX12_isRead 7 = .ok (.putfield 273, 3) := by decide +kernel
theorem dX12_isRead_10 : decode cX12_isRead 10 = .ok (.aload_n 0, 1) := by decide +kernel
theorem dX12_isRead_11 : decode cX12_isRead 11 = .ok (.iconst 0, 1) := by decide +kernel
theorem dX12_isRead_12 : decode cX12_isRead 12 = .ok (.putfield 251, 3) := by decide +kernel
theorem dX12_isRead_15 : decode cX12_isRead 15 = .ok (.aload_n 0, 1) := by decide +kernel
theorem dX12_isRead_16 : decode cX12_isRead 16 = .ok (.iconst 0, 1) := by decide +kernel
theorem dX12_isRead_17 : decode cX12_isRead 17 = .ok (.putfield 267, 3) := by decide +kernel
theorem dX12_isRead_20 : decode cX12_isRead 20 = .ok (.aload_n 0, 1) := by decide +kernel
theorem dX12_isRead_21 : decode cX12_isRead 21 = .ok (.invokevirtual 291, 3) := by decide +kernel
theorem dX12_isRead_24 : decode cX12_isRead 24 = .ok (.aload_n 0, 1) := by decide +kernel
theorem dX12_isRead_25 : decode cX12_isRead 25 = .ok (.invokevirtual 282, 3) := by decide +kernel
theorem dX12_isRead_28 : decode cX12_isRead 28 = .ok (.aload_n 0, 1) := by decide +kernel
theorem dX12_isRead_29 : decode cX12_isRead 29 = .ok (.getfield 251, 3) := by decide +kernel
theorem dX12_isRead_32 : decode cX12_isRead 32 = .ok (.aload_n 0, 1) := by decide +kernel
theorem dX12_isRead_33 : decode cX12_isRead 33 = .ok (.getfield 248, 3) := by decide +kernel
theorem dX12_isRead_36 : decode cX12_isRead 36 = .ok (.if_icmp .ge 36, 3) := by decide +kernel
theorem dX12_isRead_39 : decode cX12_isRead 39 = .ok (.aload_n 0, 1) := by decide +kernel
theorem dX12_isRead_40 : decode cX12_isRead 40 = .ok (.getfield 260, 3) := by decide +kernel
theorem dX12_isRead_43 : decode cX12_isRead 43 = .ok (.ifCond .eq 13, 3) := by decide +kernel
theorem dX12_isRead_46 : decode cX12_isRead 46 = .ok (.aload_n 0, 1) := by decide +kernel
theorem dX12_isRead_47 : decode cX12_isRead 47 = .ok (.invokevirtual 303, 3) := by decide +kernel
theorem dX12_isRead_50 : decode cX12_isRead 50 = .ok (.ifCond .eq 13, 3) := by decide +kernel
theorem dX12_isRead_53 : decode cX12_isRead 53 = .ok (.goto 12, 3) := by decide +kernel
theorem dX12_isRead_56 : decode cX12_isRead 56 = .ok (.aload_n 0, 1) := by decide +kernel
theorem dX12_isRead_57 : decode cX12_isRead 57 = .ok (.invokevirtual 306, 3) := by decide +kernel
theorem dX12_isRead_60 : decode cX12_isRead 60 = .ok (.ifCond .ne 5, 3) := by decide +kernel
theorem dX12_isRead_63 : decode cX12_isRead 63 = .ok (.iconst 0, 1) := by decide +kernel
theorem dX12_isRead_64 : decode cX12_isRead 64 = .ok (.ireturn, 1) := by decide +kernel
theorem dX12_isRead_65 : decode cX12_isRead 65 = .ok (.aload_n 0, 1) := by decide +kernel
theorem dX12_isRead_66 : decode cX12_isRead 66 = .ok (.invokevirtual 282, 3) := by decide +kernel
theorem dX12_isRead_69 : decode cX12_isRead 69 = .ok (.goto (-41), 3) := by decide +kernel
theorem dX12_isRead_72 : decode cX12_isRead 72 = .ok (.aload_n 0, 1) := by decide +kernel
theorem dX12_isRead_73 : decode cX12_isRead 73 = .ok (.getfield 260, 3) := by decide +kernel
theorem dX12_isRead_76 : decode cX12_isRead 76 = .ok (.ifCond .ne 10, 3) := by decide +kernel
theorem dX12_isRead_79 : decode cX12_isRead 79 = .ok (.aload_n 0, 1) := by decide +kernel
theorem dX12_isRead_80 : decode cX12_isRead 80 = .ok (.getfield 267, 3) := by decide +kernel
theorem dX12_isRead_83 : decode cX12_isRead 83 = .ok (.ifCond .le 12, 3) := by decide +kernel
theorem dX12_isRead_86 : decode cX12_isRead 86 = .ok (.aload_n 0, 1) := by decide +kernel
theorem dX12_isRead_87 : decode cX12_isRead 87 = .ok (.aload_n 0, 1) := by decide +kernel
theorem dX12_isRead_88 : decode cX12_isRead 88 = .ok (.getfield 248, 3) := by decide +kernel
theorem dX12_isRead_91 : decode cX12_isRead 91 = .ok (.invokevirtual 279, 3) := by decide +kernel
theorem dX12_isRead_94 : decode cX12_isRead 94 = .ok (.ireturn, 1) := by decide +kernel
theorem dX12_isRead_95 : decode cX12_isRead 95 = .ok (.aload_n 0, 1) := by decide +kernel
theorem dX12_isRead_96 : decode cX12_isRead 96 = .ok (.invokevirtual 300, 3) := by decide +kernel
theorem dX12_isRead_99 : decode cX12_isRead 99 = .ok (.iconst 1, 1) := by decide +kernel
theorem dX12_isRead_100 : decode cX12_isRead 100 = .ok (.ireturn, 1) := by decide +kernel
theorem dX12_reads_0 : decode cX12_reads 0 = .ok (.iload_n 1, 1) := by decide +kernel
theorem dX12_reads_1 : decode cX12_reads 1 = .ok (.invokestatic 111, 3) := by decide +kernel
theorem dX12_reads_4 : decode cX12_reads 4 = .ok (.ifCond .ne 8, 3) := by decide +kernel
theorem dX12_reads_7 : decode cX12_reads 7 = .ok (.aload_n 0, 1) := by decide +kernel
theorem dX12_reads_8 : decode cX12_reads 8 = .ok (.invokevirtual 119, 3) := by decide +kernel
theorem dX12_reads_11 : decode cX12_reads 11 = .ok (.ireturn, 1) := by decide +kernel
theorem dX12_reads_12 : decode cX12_reads 12 = .ok (.aload_n 0, 1) := by decide +kernel
theorem dX12_reads_13 : decode cX12_reads 13 = .ok (.iconst 0, 1) := by decide +kernel
theorem dX12_reads_14 : decode cX12_reads 14 = .ok (.invokevirtual 309, 3) := by decide +kernel
theorem dX12_reads_17 : decode cX12_reads 17 = .ok (.ifCond .ne 12, 3) := by decide +kernel
theorem dX12_reads_20 : decode cX12_reads 20 = .ok (.sipush (-30000), 3) := by decide +kernel
theorem dX12_reads_23 : decode cX12_reads 23 = .ok (.aload_n 0, 1) := by decide +kernel
theorem dX12_reads_24 : decode cX12_reads 24 = .ok (.getfield 257, 3) := by decide +kernel
theorem dX12_reads_27 : decode cX12_reads 27 = .ok (.isub, 1) := by decide +kernel
theorem dX12_reads_28 : decode cX12_reads 28 = .ok (.ireturn, 1) := by decide +kernel
theorem dX12_reads_29 : decode cX12_reads 29 = .ok (.aload_n 0, 1) := by decide +kernel
theorem dX12_reads_30 : decode cX12_reads 30 = .ok (.iconst 1, 1) := by decide +kernel
theorem dX12_reads_31 : decode cX12_reads 31 = .ok (.invokevirtual 309, 3) := by decide +kernel
theorem dX12_reads_34 : decode cX12_reads 34 = .ok (.istore_n 2, 1) := by decide +kernel
theorem dX12_reads_35 : decode cX12_reads 35 = .ok (.iload_n 2, 1) := by decide +kernel
theorem dX12_reads_36 : decode cX12_reads 36 = .ok (.ifCond .eq 17, 3) := by decide +kernel
theorem dX12_reads_39 : decode cX12_reads 39 = .ok (.aload_n 0, 1) := by decide +kernel
theorem dX12_reads_40 : decode cX12_reads 40 = .ok (.getfield 273, 3) := by decide +kernel
theorem dX12_reads_43 : decode cX12_reads 43 = .ok (.ifCond .eq 10, 3) := by decide +kernel
theorem dX12_reads_46 : decode cX12_reads 46 = .ok (.aload_n 0, 1) := by decide +kernel
theorem dX12_reads_47 : decode cX12_reads 47 = .ok (.invokevirtual 140, 3) := by decide +kernel
theorem dX12_reads_50 : decode cX12_reads 50 = .ok (.goto 10, 3) := by decide +kernel
theorem dX12_reads_53 : decode cX12_reads 53 = .ok (.aload_n 0, 1) := by decide +kernel
theorem dX12_reads_54 : decode cX12_reads 54 = .ok (.iload_n 1, 1) := by decide +kernel
theorem dX12_reads_55 : decode cX12_reads 55 = .ok (.bipush 28, 2) := by decide +kernel
theorem dX12_reads_57 : decode cX12_reads 57 = .ok (.invokevirtual 134, 3) := by decide +kernel
theorem dX12_reads_60 : decode cX12_reads 60 = .ok (.ireturn, 1) := by decide +kernel
theorem dX12_writes_0 : decode cX12_writes 0 = .ok (.aload_n 0, 1) := by decide +kernel
theorem dX12_writes_1 : decode cX12_writes 1 = .ok (.getfield 56, 3) := by decide +kernel
theorem dX12_writes_4 : decode cX12_writes 4 = .ok (.aload_n 0, 1) := by decide +kernel
theorem dX12_writes_5 : decode cX12_writes 5 = .ok (.getfield 313, 3) := by decide +kernel
theorem dX12_writes_8 : decode cX12_writes 8 = .ok (.iload_n 1, 1) := by decide +kernel
theorem dX12_writes_9 : decode cX12_writes 9 = .ok (.iastore, 1) := by decide +kernel
theorem dX12_writes_10 : decode cX12_writes 10 = .ok (.aload_n 0, 1) := by decide +kernel
theorem dX12_writes_11 : decode cX12_writes 11 = .ok (.dup, 1) := by decide +kernel
theorem dX12_writes_12 : decode cX12_writes 12 = .ok (.getfield 313, 3) := by decide +kernel
theorem dX12_writes_15 : decode cX12_writes 15 = .ok (.iconst 1, 1) := by decide +kernel
theorem dX12_writes_16 : decode cX12_writes 16 = .ok (.iadd, 1) := by decide +kernel
theorem dX12_writes_17 : decode cX12_writes 17 = .ok (.putfield 313, 3) := by decide +kernel
theorem dX12_writes_20 : decode cX12_writes 20 = .ok (.return_, 1) := by decide +kernel
theorem dX12_writesNumber_0 : decode cX12_writesNumber 0 = .ok (.iconst 1, 1) := by decide +kernel
theorem dX12_writesNumber_1 : decode cX12_writesNumber 1 = .ok (.istore_n 2, 1) := by decide +kernel
theorem dX12_writesNumber_2 : decode cX12_writesNumber 2 = .ok (.iload_n 2, 1) := by decide +kernel
theorem dX12_writesNumber_3 : decode cX12_writesNumber 3 = .ok (.bipush 10, 2) := by decide +kernel
theorem dX12_writesNumber_5 : decode cX12_writesNumber 5 = .ok (.imul, 1) := by decide +kernel
theorem dX12_writesNumber_6 : decode cX12_writesNumber 6 = .ok (.iload_n 1, 1) := by decide +kernel
theorem dX12_writesNumber_7 : decode cX12_writesNumber 7 = .ok (.if_icmp .gt 11, 3) := by decide +kernel
theorem dX12_writesNumber_10 : decode cX12_writesNumber 10 = .ok (.iload_n 2, 1) := by decide +kernel
theorem dX12_writesNumber_11 : decode cX12_writesNumber 11 = .ok (.bipush 10, 2) := by decide +kernel
theorem dX12_writesNumber_13 : decode cX12_writesNumber 13 = .ok (.imul, 1) := by decide +kernel
theorem dX12_writesNumber_14 : decode cX12_writesNumber 14 = .ok (.istore_n 2, 1) := by decide +kernel
theorem dX12_writesNumber_15 : decode cX12_writesNumber 15 = .ok (.goto (-13), 3) := by decide +kernel
theorem dX12_writesNumber_18 : decode cX12_writesNumber 18 = .ok (.iload_n 2, 1) := by decide +kernel
theorem dX12_writesNumber_19 : decode cX12_writesNumber 19 = .ok (.istore_n 3, 1) := by decide +kernel
theorem dX12_writesNumber_20 : decode cX12_writesNumber 20 = .ok (.iload_n 3, 1) := by decide +kernel
theorem dX12_writesNumber_21 : decode cX12_writesNumber 21 = .ok (.ifCond .le 24, 3) := by decide +kernel
theorem dX12_writesNumber_24 : decode cX12_writesNumber 24 = .ok (.aload_n 0, 1) := by decide +kernel
theorem dX12_writesNumber_25 : decode cX12_writesNumber 25 = .ok (.bipush 48, 2) := by decide +kernel
theorem dX12_writesNumber_27 : decode cX12_writesNumber 27 = .ok (.iload_n 1, 1) := by decide +kernel
theorem dX12_writesNumber_28 : decode cX12_writesNumber 28 = .ok (.iload_n 3, 1) := by decide +kernel
theorem dX12_writesNumber_29 : decode cX12_writesNumber 29 = .ok (.idiv, 1) := by decide +kernel
theorem dX12_writesNumber_30 : decode cX12_writesNumber 30 = .ok (.bipush 10, 2) := by decide +kernel
theorem dX12_writesNumber_32 : decode cX12_writesNumber 32 = .ok (.irem, 1) := by decide +kernel
theorem dX12_writesNumber_33 : decode cX12_writesNumber 33 = .ok (.iadd, 1) := by decide +kernel
theorem dX12_writesNumber_34 : decode cX12_writesNumber 34 = .ok (.invokevirtual 316, 3) := by decide +kernel
theorem dX12_writesNumber_37 : decode cX12_writesNumber 37 = .ok (.iload_n 3, 1) := by decide +kernel
theorem dX12_writesNumber_38 : decode cX12_writesNumber 38 = .ok (.bipush 10, 2) := by decide +kernel
theorem dX12_writesNumber_40 : decode cX12_writesNumber 40 = .ok (.idiv, 1) := by decide +kernel
theorem dX12_writesNumber_41 : decode cX12_writesNumber 41 = .ok (.istore_n 3, 1) := by decide +kernel
theorem dX12_writesNumber_42 : decode cX12_writesNumber 42 = .ok (.goto (-22), 3) := by decide +kernel
theorem dX12_writesNumber_45 : decode cX12_writesNumber 45 = .ok (.return_, 1) := by decide +kernel
theorem dX12_writesLetter_0 : decode cX12_writesLetter 0 = .ok (.aload_n 0, 1) := by decide +kernel
theorem dX12_writesLetter_1 : decode cX12_writesLetter 1 = .ok (.iload_n 1, 1) := by decide +kernel
theorem dX12_writesLetter_2 : decode cX12_writesLetter 2 = .ok (.invokevirtual 316, 3) := by decide +kernel
theorem dX12_writesLetter_5 : decode cX12_writesLetter 5 = .ok (.iload_n 2, 1) := by decide +kernel
theorem dX12_writesLetter_6 : decode cX12_writesLetter 6 = .ok (.iconst 1, 1) := by decide +kernel
theorem dX12_writesLetter_7 : decode cX12_writesLetter 7 = .ok (.if_icmp .le 14, 3) := by decide +kernel
theorem dX12_writesLetter_10 : decode cX12_writesLetter 10 = .ok (.aload_n 0, 1) := by decide +kernel
theorem dX12_writesLetter_11 : decode cX12_writesLetter 11 = .ok (.bipush 94, 2) := by decide +kernel
theorem dX12_writesLetter_13 : decode cX12_writesLetter 13 = .ok (.invokevirtual 316, 3) := by decide +kernel
theorem dX12_writesLetter_16 : decode cX12_writesLetter 16 = .ok (.aload_n 0, 1) := by decide +kernel
theorem dX12_writesLetter_17 : decode cX12_writesLetter 17 = .ok (.iload_n 2, 1) := by decide +kernel
theorem dX12_writesLetter_18 : decode cX12_writesLetter 18 = .ok (.invokevirtual 319, 3) := by decide +kernel
theorem dX12_writesLetter_21 : decode cX12_writesLetter 21 = .ok (.return_, 1) := by decide +kernel
theorem dX12_writesTerm_0 : decode cX12_writesTerm 0 = .ok (.iload_n 2, 1) := by decide +kernel
theorem dX12_writesTerm_1 : decode cX12_writesTerm 1 = .ok (.ifCond .lt 10, 3) := by decide +kernel
theorem dX12_writesTerm_4 : decode cX12_writesTerm 4 = .ok (.aload_n 0, 1) := by decide +kernel
theorem dX12_writesTerm_5 : decode cX12_writesTerm 5 = .ok (.getfield 313, 3) := by decide +kernel
theorem dX12_writesTerm_8 : decode cX12_writesTerm 8 = .ok (.ifCond .le 18, 3) := by decide +kernel
theorem dX12_writesTerm_11 : decode cX12_writesTerm 11 = .ok (.aload_n 0, 1) := by decide +kernel
theorem dX12_writesTerm_12 : decode cX12_writesTerm 12 = .ok (.iload_n 2, 1) := by decide +kernel
theorem dX12_writesTerm_13 : decode cX12_writesTerm 13 = .ok (.ifCond .ge 8, 3) := by decide +kernel
theorem dX12_writesTerm_16 : decode cX12_writesTerm 16 = .ok (.bipush 45, 2) := by decide +kernel
theorem dX12_writesTerm_18 : decode cX12_writesTerm 18 = .ok (.goto 5, 3) := by decide +kernel
theorem dX12_writesTerm_21 : decode cX12_writesTerm 21 = .ok (.bipush 43, 2) := by decide +kernel
theorem dX12_writesTerm_23 : decode cX12_writesTerm 23 = .ok (.invokevirtual 316, 3) := by decide +kernel
theorem dX12_writesTerm_26 : decode cX12_writesTerm 26 = .ok (.iload_n 2, 1) := by decide +kernel
theorem dX12_writesTerm_27 : decode cX12_writesTerm 27 = .ok (.ifCond .ge 8, 3) := by decide +kernel
theorem dX12_writesTerm_30 : decode cX12_writesTerm 30 = .ok (.iload_n 2, 1) := by decide +kernel
theorem dX12_writesTerm_31 : decode cX12_writesTerm 31 = .ok (.ineg, 1) := by decide +kernel
theorem dX12_writesTerm_32 : decode cX12_writesTerm 32 = .ok (.goto 4, 3) := by decide +kernel
theorem dX12_writesTerm_35 : decode cX12_writesTerm 35 = .ok (.iload_n 2, 1) := by decide +kernel
theorem dX12_writesTerm_36 : decode cX12_writesTerm 36 = .ok (.istore_n 3, 1) := by decide +kernel
theorem dX12_writesTerm_37 : decode cX12_writesTerm 37 = .ok (.iload_n 3, 1) := by decide +kernel
theorem dX12_writesTerm_38 : decode cX12_writesTerm 38 = .ok (.iconst 1, 1) := by decide +kernel
theorem dX12_writesTerm_39 : decode cX12_writesTerm 39 = .ok (.if_icmp .ne 7, 3) := by decide +kernel
theorem dX12_writesTerm_42 : decode cX12_writesTerm 42 = .ok (.iload_n 1, 1) := by decide +kernel
theorem dX12_writesTerm_43 : decode cX12_writesTerm 43 = .ok (.ifCond .ne 7, 3) := by decide +kernel
theorem dX12_writesTerm_46 : decode cX12_writesTerm 46 = .ok (.iconst 1, 1) := by decide +kernel
theorem dX12_writesTerm_47 : decode cX12_writesTerm 47 = .ok (.goto 4, 3) := by decide +kernel
theorem dX12_writesTerm_50 : decode cX12_writesTerm 50 = .ok (.iconst 0, 1) := by decide +kernel
theorem dX12_writesTerm_51 : decode cX12_writesTerm 51 = .ok (.istore 4, 2) := by decide +kernel
theorem dX12_writesTerm_53 : decode cX12_writesTerm 53 = .ok (.iload 4, 2) := by decide +kernel
theorem dX12_writesTerm_55 : decode cX12_writesTerm 55 = .ok (.ifCond .eq 8, 3) := by decide +kernel
theorem dX12_writesTerm_58 : decode cX12_writesTerm 58 = .ok (.aload_n 0, 1) := by decide +kernel
theorem dX12_writesTerm_59 : decode cX12_writesTerm 59 = .ok (.iload_n 3, 1) := by decide +kernel
theorem dX12_writesTerm_60 : decode cX12_writesTerm 60 = .ok (.invokevirtual 319, 3) := by decide +kernel
theorem dX12_writesTerm_63 : decode cX12_writesTerm 63 = .ok (.aload_n 0, 1) := by decide +kernel
theorem dX12_writesTerm_64 : decode cX12_writesTerm 64 = .ok (.getfield 25, 3) := by decide +kernel
theorem dX12_writesTerm_67 : decode cX12_writesTerm 67 = .ok (.iload_n 1, 1) := by decide +kernel
theorem dX12_writesTerm_68 : decode cX12_writesTerm 68 = .ok (.iaload, 1) := by decide +kernel
theorem dX12_writesTerm_69 : decode cX12_writesTerm 69 = .ok (.ifCond .le 26, 3) := by decide +kernel
theorem dX12_writesTerm_72 : decode cX12_writesTerm 72 = .ok (.iload 4, 2) := by decide +kernel
theorem dX12_writesTerm_74 : decode cX12_writesTerm 74 = .ok (.ifCond .eq 9, 3) := by decide +kernel
theorem dX12_writesTerm_77 : decode cX12_writesTerm 77 = .ok (.aload_n 0, 1) := by decide +kernel
theorem dX12_writesTerm_78 : decode cX12_writesTerm 78 = .ok (.bipush 42, 2) := by decide +kernel
theorem dX12_writesTerm_80 : decode cX12_writesTerm 80 = .ok (.invokevirtual 316, 3) := by decide +kernel
theorem dX12_writesTerm_83 : decode cX12_writesTerm 83 = .ok (.aload_n 0, 1) := by decide +kernel
theorem dX12_writesTerm_84 : decode cX12_writesTerm 84 = .ok (.bipush 120, 2) := by decide +kernel
theorem dX12_writesTerm_86 : decode cX12_writesTerm 86 = .ok (.aload_n 0, 1) := by decide +kernel
theorem dX12_writesTerm_87 : decode cX12_writesTerm 87 = .ok (.getfield 25, 3) := by decide +kernel
theorem dX12_writesTerm_90 : decode cX12_writesTerm 90 = .ok (.iload_n 1, 1) := by decide +kernel
theorem dX12_writesTerm_91 : decode cX12_writesTerm 91 = .ok (.iaload, 1) := by decide +kernel
theorem dX12_writesTerm_92 : decode cX12_writesTerm 92 = .ok (.invokevirtual 322, 3) := by decide +kernel
theorem dX12_writesTerm_95 : decode cX12_writesTerm 95 = .ok (.aload_n 0, 1) := by decide +kernel
theorem dX12_writesTerm_96 : decode cX12_writesTerm 96 = .ok (.getfield 28, 3) := by decide +kernel
theorem dX12_writesTerm_99 : decode cX12_writesTerm 99 = .ok (.iload_n 1, 1) := by decide +kernel
theorem dX12_writesTerm_100 : decode cX12_writesTerm 100 = .ok (.iaload, 1) := by decide +kernel
theorem dX12_writesTerm_101 : decode cX12_writesTerm 101 = .ok (.ifCond .le 35, 3) := by decide +kernel
theorem dX12_writesTerm_104 : decode cX12_writesTerm 104 = .ok (.iload 4, 2) := by decide +kernel
theorem dX12_writesTerm_106 : decode cX12_writesTerm 106 = .ok (.ifCond .ne 12, 3) := by decide +kernel
theorem dX12_writesTerm_109 : decode cX12_writesTerm 109 = .ok (.aload_n 0, 1) := by decide +kernel
theorem dX12_writesTerm_110 : decode cX12_writesTerm 110 = .ok (.getfield 25, 3) := by decide +kernel
theorem dX12_writesTerm_113 : decode cX12_writesTerm 113 = .ok (.iload_n 1, 1) := by decide +kernel
theorem dX12_writesTerm_114 : decode cX12_writesTerm 114 = .ok (.iaload, 1) := by decide +kernel
theorem dX12_writesTerm_115 : decode cX12_writesTerm 115 = .ok (.ifCond .le 9, 3) := by decide +kernel
theorem dX12_writesTerm_118 : decode cX12_writesTerm 118 = .ok (.aload_n 0, 1) := by decide +kernel
theorem dX12_writesTerm_119 : decode cX12_writesTerm 119 = .ok (.bipush 42, 2) := by decide +kernel
theorem dX12_writesTerm_121 : decode cX12_writesTerm 121 = .ok (.invokevirtual 316, 3) := by decide +kernel
theorem dX12_writesTerm_124 : decode cX12_writesTerm 124 = .ok (.aload_n 0, 1) := by decide +kernel
theorem dX12_writesTerm_125 : decode cX12_writesTerm 125 = .ok (.bipush 100, 2) := by decide +kernel
theorem dX12_writesTerm_127 : decode cX12_writesTerm 127 = .ok (.aload_n 0, 1) := by decide +kernel
theorem dX12_writesTerm_128 : decode cX12_writesTerm 128 = .ok (.getfield 28, 3) := by decide +kernel
theorem dX12_writesTerm_131 : decode cX12_writesTerm 131 = .ok (.iload_n 1, 1) := by decide +kernel
theorem dX12_writesTerm_132 : decode cX12_writesTerm 132 = .ok (.iaload, 1) := by decide +kernel
theorem dX12_writesTerm_133 : decode cX12_writesTerm 133 = .ok (.invokevirtual 322, 3) := by decide +kernel
theorem dX12_writesTerm_136 : decode cX12_writesTerm 136 = .ok (.return_, 1) := by decide +kernel
theorem dX12_laysLine_0 : decode cX12_laysLine 0 = .ok (.aload_n 0, 1) := by decide +kernel
theorem dX12_laysLine_1 : decode cX12_laysLine 1 = .ok (.iconst 0, 1) := by decide +kernel
theorem dX12_laysLine_2 : decode cX12_laysLine 2 = .ok (.putfield 313, 3) := by decide +kernel
theorem dX12_laysLine_5 : decode cX12_laysLine 5 = .ok (.bipush 12, 2) := by decide +kernel
theorem dX12_laysLine_7 : decode cX12_laysLine 7 = .ok (.istore_n 2, 1) := by decide +kernel
theorem dX12_laysLine_8 : decode cX12_laysLine 8 = .ok (.iload_n 2, 1) := by decide +kernel
theorem dX12_laysLine_9 : decode cX12_laysLine 9 = .ok (.ifCond .lt 60, 3) := by decide +kernel
theorem dX12_laysLine_12 : decode cX12_laysLine 12 = .ok (.iconst 0, 1) := by decide +kernel
theorem dX12_laysLine_13 : decode cX12_laysLine 13 = .ok (.istore_n 3, 1) := by decide +kernel
theorem dX12_laysLine_14 : decode cX12_laysLine 14 = .ok (.iload_n 3, 1) := by decide +kernel
theorem dX12_laysLine_15 : decode cX12_laysLine 15 = .ok (.iload_n 2, 1) := by decide +kernel
theorem dX12_laysLine_16 : decode cX12_laysLine 16 = .ok (.if_icmp .gt 47, 3) := by decide +kernel
theorem dX12_laysLine_19 : decode cX12_laysLine 19 = .ok (.aload_n 0, 1) := by decide +kernel
theorem dX12_laysLine_20 : decode cX12_laysLine 20 = .ok (.iload_n 2, 1) := by decide +kernel
theorem dX12_laysLine_21 : decode cX12_laysLine 21 = .ok (.iload_n 3, 1) := by decide +kernel
theorem dX12_laysLine_22 : decode cX12_laysLine 22 = .ok (.invokevirtual 92, 3) := by decide +kernel
theorem dX12_laysLine_25 : decode cX12_laysLine 25 = .ok (.istore 4, 2) := by decide +kernel
theorem dX12_laysLine_27 : decode cX12_laysLine 27 = .ok (.aload_n 0, 1) := by decide +kernel
theorem dX12_laysLine_28 : decode cX12_laysLine 28 = .ok (.getfield 7, 3) := by decide +kernel
theorem dX12_laysLine_31 : decode cX12_laysLine 31 = .ok (.bipush 91, 2) := by decide +kernel
theorem dX12_laysLine_33 : decode cX12_laysLine 33 = .ok (.iload_n 1, 1) := by decide +kernel
theorem dX12_laysLine_34 : decode cX12_laysLine 34 = .ok (.imul, 1) := by decide +kernel
theorem dX12_laysLine_35 : decode cX12_laysLine 35 = .ok (.iload 4, 2) := by decide +kernel
theorem dX12_laysLine_37 : decode cX12_laysLine 37 = .ok (.iadd, 1) := by decide +kernel
theorem dX12_laysLine_38 : decode cX12_laysLine 38 = .ok (.iaload, 1) := by decide +kernel
theorem dX12_laysLine_39 : decode cX12_laysLine 39 = .ok (.istore 5, 2) := by decide +kernel
theorem dX12_laysLine_41 : decode cX12_laysLine 41 = .ok (.iload 5, 2) := by decide +kernel
theorem dX12_laysLine_43 : decode cX12_laysLine 43 = .ok (.ifCond .eq 14, 3) := by decide +kernel
theorem dX12_laysLine_46 : decode cX12_laysLine 46 = .ok (.aload_n 0, 1) := by decide +kernel
theorem dX12_laysLine_47 : decode cX12_laysLine 47 = .ok (.iload 4, 2) := by decide +kernel
theorem dX12_laysLine_49 : decode cX12_laysLine 49 = .ok (.iload 5, 2) := by decide +kernel
theorem dX12_laysLine_51 : decode cX12_laysLine 51 = .ok (.invokestatic 125, 3) := by decide +kernel
theorem dX12_laysLine_54 : decode cX12_laysLine 54 = .ok (.invokevirtual 325, 3) := by decide +kernel
theorem dX12_laysLine_57 : decode cX12_laysLine 57 = .ok (.iinc 3 1, 3) := by decide +kernel
theorem dX12_laysLine_60 : decode cX12_laysLine 60 = .ok (.goto (-46), 3) := by decide +kernel
theorem dX12_laysLine_63 : decode cX12_laysLine 63 = .ok (.iinc 2 (-1), 3) := by decide +kernel
theorem dX12_laysLine_66 : decode cX12_laysLine 66 = .ok (.goto (-58), 3) := by decide +kernel
theorem dX12_laysLine_69 : decode cX12_laysLine 69 = .ok (.aload_n 0, 1) := by decide +kernel
theorem dX12_laysLine_70 : decode cX12_laysLine 70 = .ok (.getfield 313, 3) := by decide +kernel
theorem dX12_laysLine_73 : decode cX12_laysLine 73 = .ok (.ifCond .ne 9, 3) := by decide +kernel
theorem dX12_laysLine_76 : decode cX12_laysLine 76 = .ok (.aload_n 0, 1) := by decide +kernel
theorem dX12_laysLine_77 : decode cX12_laysLine 77 = .ok (.bipush 48, 2) := by decide +kernel
theorem dX12_laysLine_79 : decode cX12_laysLine 79 = .ok (.invokevirtual 316, 3) := by decide +kernel
theorem dX12_laysLine_82 : decode cX12_laysLine 82 = .ok (.return_, 1) := by decide +kernel
theorem dX12_shown_0 : decode cX12_shown 0 = .ok (.iload_n 1, 1) := by decide +kernel
theorem dX12_shown_1 : decode cX12_shown 1 = .ok (.invokestatic 111, 3) := by decide +kernel
theorem dX12_shown_4 : decode cX12_shown 4 = .ok (.ifCond .eq 7, 3) := by decide +kernel
theorem dX12_shown_7 : decode cX12_shown 7 = .ok (.iload_n 2, 1) := by decide +kernel
theorem dX12_shown_8 : decode cX12_shown 8 = .ok (.ifCond .ge 8, 3) := by decide +kernel
theorem dX12_shown_11 : decode cX12_shown 11 = .ok (.aload_n 0, 1) := by decide +kernel
theorem dX12_shown_12 : decode cX12_shown 12 = .ok (.invokevirtual 119, 3) := by decide +kernel
theorem dX12_shown_15 : decode cX12_shown 15 = .ok (.ireturn, 1) := by decide +kernel
theorem dX12_shown_16 : decode cX12_shown 16 = .ok (.aload_n 0, 1) := by decide +kernel
theorem dX12_shown_17 : decode cX12_shown 17 = .ok (.iload_n 1, 1) := by decide +kernel
theorem dX12_shown_18 : decode cX12_shown 18 = .ok (.invokevirtual 328, 3) := by decide +kernel
theorem dX12_shown_21 : decode cX12_shown 21 = .ok (.iload_n 2, 1) := by decide +kernel
theorem dX12_shown_22 : decode cX12_shown 22 = .ok (.aload_n 0, 1) := by decide +kernel
theorem dX12_shown_23 : decode cX12_shown 23 = .ok (.getfield 313, 3) := by decide +kernel
theorem dX12_shown_26 : decode cX12_shown 26 = .ok (.if_icmp .ge 12, 3) := by decide +kernel
theorem dX12_shown_29 : decode cX12_shown 29 = .ok (.aload_n 0, 1) := by decide +kernel
theorem dX12_shown_30 : decode cX12_shown 30 = .ok (.getfield 56, 3) := by decide +kernel
theorem dX12_shown_33 : decode cX12_shown 33 = .ok (.iload_n 2, 1) := by decide +kernel
theorem dX12_shown_34 : decode cX12_shown 34 = .ok (.iaload, 1) := by decide +kernel
theorem dX12_shown_35 : decode cX12_shown 35 = .ok (.goto 6, 3) := by decide +kernel
theorem dX12_shown_38 : decode cX12_shown 38 = .ok (.sipush (-20001), 3) := by decide +kernel
theorem dX12_shown_41 : decode cX12_shown 41 = .ok (.ireturn, 1) := by decide +kernel
theorem dX12_toldOf_0 : decode cX12_toldOf 0 = .ok (.iload_n 1, 1) := by decide +kernel
theorem dX12_toldOf_1 : decode cX12_toldOf 1 = .ok (.iconst 3, 1) := by decide +kernel
theorem dX12_toldOf_2 : decode cX12_toldOf 2 = .ok (.if_icmp .ge 12, 3) := by decide +kernel
theorem dX12_toldOf_5 : decode cX12_toldOf 5 = .ok (.aload_n 0, 1) := by decide +kernel
theorem dX12_toldOf_6 : decode cX12_toldOf 6 = .ok (.getfield 16, 3) := by decide +kernel
theorem dX12_toldOf_9 : decode cX12_toldOf 9 = .ok (.iload_n 1, 1) := by decide +kernel
theorem dX12_toldOf_10 : decode cX12_toldOf 10 = .ok (.iaload, 1) := by decide +kernel
theorem dX12_toldOf_11 : decode cX12_toldOf 11 = .ok (.goto 35, 3) := by decide +kernel
theorem dX12_toldOf_14 : decode cX12_toldOf 14 = .ok (.iload_n 1, 1) := by decide +kernel
theorem dX12_toldOf_15 : decode cX12_toldOf 15 = .ok (.iconst 3, 1) := by decide +kernel
theorem dX12_toldOf_16 : decode cX12_toldOf 16 = .ok (.if_icmp .ne 10, 3) := by decide +kernel
theorem dX12_toldOf_19 : decode cX12_toldOf 19 = .ok (.aload_n 0, 1) := by decide +kernel
theorem dX12_toldOf_20 : decode cX12_toldOf 20 = .ok (.getfield 248, 3) := by decide +kernel
theorem dX12_toldOf_23 : decode cX12_toldOf 23 = .ok (.goto 23, 3) := by decide +kernel
theorem dX12_toldOf_26 : decode cX12_toldOf 26 = .ok (.iload_n 1, 1) := by decide +kernel
theorem dX12_toldOf_27 : decode cX12_toldOf 27 = .ok (.iconst 4, 1) := by decide +kernel
theorem dX12_toldOf_28 : decode cX12_toldOf 28 = .ok (.if_icmp .ne 14, 3) := by decide +kernel
theorem dX12_toldOf_31 : decode cX12_toldOf 31 = .ok (.aload_n 0, 1) := by decide +kernel
theorem dX12_toldOf_32 : decode cX12_toldOf 32 = .ok (.getfield 7, 3) := by decide +kernel
theorem dX12_toldOf_35 : decode cX12_toldOf 35 = .ok (.sipush 608, 3) := by decide +kernel
theorem dX12_toldOf_38 : decode cX12_toldOf 38 = .ok (.iaload, 1) := by decide +kernel
theorem dX12_toldOf_39 : decode cX12_toldOf 39 = .ok (.goto 7, 3) := by decide +kernel
theorem dX12_toldOf_42 : decode cX12_toldOf 42 = .ok (.aload_n 0, 1) := by decide +kernel
theorem dX12_toldOf_43 : decode cX12_toldOf 43 = .ok (.getfield 67, 3) := by decide +kernel
theorem dX12_toldOf_46 : decode cX12_toldOf 46 = .ok (.ireturn, 1) := by decide +kernel
theorem dX12_told_0 : decode cX12_told 0 = .ok (.iload_n 1, 1) := by decide +kernel
theorem dX12_told_1 : decode cX12_told 1 = .ok (.iconst 0, 1) := by decide +kernel
theorem dX12_told_2 : decode cX12_told 2 = .ok (.iconst 5, 1) := by decide +kernel
theorem dX12_told_3 : decode cX12_told 3 = .ok (.invokestatic 74, 3) := by decide +kernel
theorem dX12_told_6 : decode cX12_told 6 = .ok (.ifCond .eq 11, 3) := by decide +kernel
theorem dX12_told_9 : decode cX12_told 9 = .ok (.aload_n 0, 1) := by decide +kernel
theorem dX12_told_10 : decode cX12_told 10 = .ok (.iload_n 1, 1) := by decide +kernel
theorem dX12_told_11 : decode cX12_told 11 = .ok (.invokevirtual 331, 3) := by decide +kernel
theorem dX12_told_14 : decode cX12_told 14 = .ok (.goto 7, 3) := by decide +kernel
theorem dX12_told_17 : decode cX12_told 17 = .ok (.aload_n 0, 1) := by decide +kernel
theorem dX12_told_18 : decode cX12_told 18 = .ok (.invokevirtual 119, 3) := by decide +kernel
theorem dX12_told_21 : decode cX12_told 21 = .ok (.ireturn, 1) := by decide +kernel
theorem dX12_mix_0 : decode cX12_mix 0 = .ok (.aload_n 0, 1) := by decide +kernel
theorem dX12_mix_1 : decode cX12_mix 1 = .ok (.ldc2_w 334, 3) := by decide +kernel
theorem dX12_mix_4 : decode cX12_mix 4 = .ok (.aload_n 0, 1) := by decide +kernel
theorem dX12_mix_5 : decode cX12_mix 5 = .ok (.getfield 336, 3) := by decide +kernel
theorem dX12_mix_8 : decode cX12_mix 8 = .ok (.lmul, 1) := by decide +kernel
theorem dX12_mix_9 : decode cX12_mix 9 = .ok (.lload_n 1, 1) := by decide +kernel
theorem dX12_mix_10 : decode cX12_mix 10 = .ok (.ladd, 1) := by decide +kernel
theorem dX12_mix_11 : decode cX12_mix 11 = .ok (.putfield 336, 3) := by decide +kernel
theorem dX12_mix_14 : decode cX12_mix 14 = .ok (.return_, 1) := by decide +kernel
theorem dX12_digest_0 : decode cX12_digest 0 = .ok (.aload_n 0, 1) := by decide +kernel
theorem dX12_digest_1 : decode cX12_digest 1 = .ok (.ldc2_w 340, 3) := by decide +kernel
theorem dX12_digest_4 : decode cX12_digest 4 = .ok (.putfield 336, 3) := by decide +kernel
theorem dX12_digest_7 : decode cX12_digest 7 = .ok (.iconst 0, 1) := by decide +kernel
theorem dX12_digest_8 : decode cX12_digest 8 = .ok (.istore_n 1, 1) := by decide +kernel
theorem dX12_digest_9 : decode cX12_digest 9 = .ok (.iload_n 1, 1) := by decide +kernel
theorem dX12_digest_10 : decode cX12_digest 10 = .ok (.bipush 6, 2) := by decide +kernel
theorem dX12_digest_12 : decode cX12_digest 12 = .ok (.if_icmp .ge 19, 3) := by decide +kernel
theorem dX12_digest_15 : decode cX12_digest 15 = .ok (.aload_n 0, 1) := by decide +kernel
theorem dX12_digest_16 : decode cX12_digest 16 = .ok (.aload_n 0, 1) := by decide +kernel
theorem dX12_digest_17 : decode cX12_digest 17 = .ok (.iload_n 1, 1) := by decide +kernel
theorem dX12_digest_18 : decode cX12_digest 18 = .ok (.invokevirtual 331, 3) := by decide +kernel
theorem dX12_digest_21 : decode cX12_digest 21 = .ok (.i2l, 1) := by decide +kernel
theorem dX12_digest_22 : decode cX12_digest 22 = .ok (.invokevirtual 342, 3) := by decide +kernel
theorem dX12_digest_25 : decode cX12_digest 25 = .ok (.iinc 1 1, 3) := by decide +kernel
theorem dX12_digest_28 : decode cX12_digest 28 = .ok (.goto (-19), 3) := by decide +kernel
theorem dX12_digest_31 : decode cX12_digest 31 = .ok (.iconst 0, 1) := by decide +kernel
theorem dX12_digest_32 : decode cX12_digest 32 = .ok (.istore_n 1, 1) := by decide +kernel
theorem dX12_digest_33 : decode cX12_digest 33 = .ok (.iload_n 1, 1) := by decide +kernel
theorem dX12_digest_34 : decode cX12_digest 34 = .ok (.bipush 6, 2) := by decide +kernel
theorem dX12_digest_36 : decode cX12_digest 36 = .ok (.if_icmp .ge 67, 3) := by decide +kernel
theorem dX12_digest_39 : decode cX12_digest 39 = .ok (.iconst 0, 1) := by decide +kernel
theorem dX12_digest_40 : decode cX12_digest 40 = .ok (.istore_n 2, 1) := by decide +kernel
theorem dX12_digest_41 : decode cX12_digest 41 = .ok (.iload_n 2, 1) := by decide +kernel
theorem dX12_digest_42 : decode cX12_digest 42 = .ok (.bipush 9, 2) := by decide +kernel
theorem dX12_digest_44 : decode cX12_digest 44 = .ok (.if_icmp .ge 20, 3) := by decide +kernel
theorem dX12_digest_47 : decode cX12_digest 47 = .ok (.aload_n 0, 1) := by decide +kernel
theorem dX12_digest_48 : decode cX12_digest 48 = .ok (.aload_n 0, 1) := by decide +kernel
theorem dX12_digest_49 : decode cX12_digest 49 = .ok (.iload_n 1, 1) := by decide +kernel
theorem dX12_digest_50 : decode cX12_digest 50 = .ok (.iload_n 2, 1) := by decide +kernel
theorem dX12_digest_51 : decode cX12_digest 51 = .ok (.invokevirtual 159, 3) := by decide +kernel
theorem dX12_digest_54 : decode cX12_digest 54 = .ok (.i2l, 1) := by decide +kernel
theorem dX12_digest_55 : decode cX12_digest 55 = .ok (.invokevirtual 342, 3) := by decide +kernel
theorem dX12_digest_58 : decode cX12_digest 58 = .ok (.iinc 2 1, 3) := by decide +kernel
theorem dX12_digest_61 : decode cX12_digest 61 = .ok (.goto (-20), 3) := by decide +kernel
theorem dX12_digest_64 : decode cX12_digest 64 = .ok (.iconst 0, 1) := by decide +kernel
theorem dX12_digest_65 : decode cX12_digest 65 = .ok (.istore_n 2, 1) := by decide +kernel
theorem dX12_digest_66 : decode cX12_digest 66 = .ok (.iload_n 2, 1) := by decide +kernel
theorem dX12_digest_67 : decode cX12_digest 67 = .ok (.bipush 91, 2) := by decide +kernel
theorem dX12_digest_69 : decode cX12_digest 69 = .ok (.if_icmp .ge 28, 3) := by decide +kernel
theorem dX12_digest_72 : decode cX12_digest 72 = .ok (.aload_n 0, 1) := by decide +kernel
theorem dX12_digest_73 : decode cX12_digest 73 = .ok (.aload_n 0, 1) := by decide +kernel
theorem dX12_digest_74 : decode cX12_digest 74 = .ok (.getfield 7, 3) := by decide +kernel
theorem dX12_digest_77 : decode cX12_digest 77 = .ok (.bipush 91, 2) := by decide +kernel
theorem dX12_digest_79 : decode cX12_digest 79 = .ok (.iload_n 1, 1) := by decide +kernel
theorem dX12_digest_80 : decode cX12_digest 80 = .ok (.imul, 1) := by decide +kernel
theorem dX12_digest_81 : decode cX12_digest 81 = .ok (.iload_n 2, 1) := by decide +kernel
theorem dX12_digest_82 : decode cX12_digest 82 = .ok (.iadd, 1) := by decide +kernel
theorem dX12_digest_83 : decode cX12_digest 83 = .ok (.iaload, 1) := by decide +kernel
theorem dX12_digest_84 : decode cX12_digest 84 = .ok (.invokestatic 125, 3) := by decide +kernel
theorem dX12_digest_87 : decode cX12_digest 87 = .ok (.i2l, 1) := by decide +kernel
theorem dX12_digest_88 : decode cX12_digest 88 = .ok (.invokevirtual 342, 3) := by decide +kernel
theorem dX12_digest_91 : decode cX12_digest 91 = .ok (.iinc 2 1, 3) := by decide +kernel
theorem dX12_digest_94 : decode cX12_digest 94 = .ok (.goto (-28), 3) := by decide +kernel
theorem dX12_digest_97 : decode cX12_digest 97 = .ok (.iinc 1 1, 3) := by decide +kernel
theorem dX12_digest_100 : decode cX12_digest 100 = .ok (.goto (-67), 3) := by decide +kernel
theorem dX12_digest_103 : decode cX12_digest 103 = .ok (.iconst 0, 1) := by decide +kernel
theorem dX12_digest_104 : decode cX12_digest 104 = .ok (.istore_n 1, 1) := by decide +kernel
theorem dX12_digest_105 : decode cX12_digest 105 = .ok (.iload_n 1, 1) := by decide +kernel
theorem dX12_digest_106 : decode cX12_digest 106 = .ok (.bipush 62, 2) := by decide +kernel
theorem dX12_digest_108 : decode cX12_digest 108 = .ok (.if_icmp .ge 27, 3) := by decide +kernel
theorem dX12_digest_111 : decode cX12_digest 111 = .ok (.aload_n 0, 1) := by decide +kernel
theorem dX12_digest_112 : decode cX12_digest 112 = .ok (.aload_n 0, 1) := by decide +kernel
theorem dX12_digest_113 : decode cX12_digest 113 = .ok (.getfield 7, 3) := by decide +kernel
theorem dX12_digest_116 : decode cX12_digest 116 = .ok (.sipush 546, 3) := by decide +kernel
theorem dX12_digest_119 : decode cX12_digest 119 = .ok (.iload_n 1, 1) := by decide +kernel
theorem dX12_digest_120 : decode cX12_digest 120 = .ok (.iadd, 1) := by decide +kernel
theorem dX12_digest_121 : decode cX12_digest 121 = .ok (.iaload, 1) := by decide +kernel
theorem dX12_digest_122 : decode cX12_digest 122 = .ok (.invokestatic 125, 3) := by decide +kernel
theorem dX12_digest_125 : decode cX12_digest 125 = .ok (.i2l, 1) := by decide +kernel
theorem dX12_digest_126 : decode cX12_digest 126 = .ok (.invokevirtual 342, 3) := by decide +kernel
theorem dX12_digest_129 : decode cX12_digest 129 = .ok (.iinc 1 1, 3) := by decide +kernel
theorem dX12_digest_132 : decode cX12_digest 132 = .ok (.goto (-27), 3) := by decide +kernel
theorem dX12_digest_135 : decode cX12_digest 135 = .ok (.aload_n 0, 1) := by decide +kernel
theorem dX12_digest_136 : decode cX12_digest 136 = .ok (.getfield 336, 3) := by decide +kernel
theorem dX12_digest_139 : decode cX12_digest 139 = .ok (.lreturn, 1) := by decide +kernel
theorem dJ9_floorMod_7cf53_0 : decode cJ9_floorMod_7cf53 0 = .ok (.iload_n 0, 1) := by decide +kernel
theorem dJ9_floorMod_7cf53_1 : decode cJ9_floorMod_7cf53 1 = .ok (.iload_n 1, 1) := by decide +kernel
theorem dJ9_floorMod_7cf53_2 : decode cJ9_floorMod_7cf53 2 = .ok (.irem, 1) := by decide +kernel
theorem dJ9_floorMod_7cf53_3 : decode cJ9_floorMod_7cf53 3 = .ok (.istore_n 2, 1) := by decide +kernel
theorem dJ9_floorMod_7cf53_4 : decode cJ9_floorMod_7cf53 4 = .ok (.iload_n 0, 1) := by decide +kernel
theorem dJ9_floorMod_7cf53_5 : decode cJ9_floorMod_7cf53 5 = .ok (.iload_n 1, 1) := by decide +kernel
theorem dJ9_floorMod_7cf53_6 : decode cJ9_floorMod_7cf53 6 = .ok (.ixor, 1) := by decide +kernel
theorem dJ9_floorMod_7cf53_7 : decode cJ9_floorMod_7cf53 7 = .ok (.ifCond .ge 11, 3) := by decide +kernel
theorem dJ9_floorMod_7cf53_10 : decode cJ9_floorMod_7cf53 10 = .ok (.iload_n 2, 1) := by decide +kernel
theorem dJ9_floorMod_7cf53_11 : decode cJ9_floorMod_7cf53 11 = .ok (.ifCond .eq 7, 3) := by decide +kernel
theorem dJ9_floorMod_7cf53_14 : decode cJ9_floorMod_7cf53 14 = .ok (.iload_n 2, 1) := by decide +kernel
theorem dJ9_floorMod_7cf53_15 : decode cJ9_floorMod_7cf53 15 = .ok (.iload_n 1, 1) := by decide +kernel
theorem dJ9_floorMod_7cf53_16 : decode cJ9_floorMod_7cf53 16 = .ok (.iadd, 1) := by decide +kernel
theorem dJ9_floorMod_7cf53_17 : decode cJ9_floorMod_7cf53 17 = .ok (.ireturn, 1) := by decide +kernel
theorem dJ9_floorMod_7cf53_18 : decode cJ9_floorMod_7cf53 18 = .ok (.iload_n 2, 1) := by decide +kernel
theorem dJ9_floorMod_7cf53_19 : decode cJ9_floorMod_7cf53 19 = .ok (.ireturn, 1) := by decide +kernel
theorem dJ9_abs_0f7a4_0 : decode cJ9_abs_0f7a4 0 = .ok (.iload_n 0, 1) := by decide +kernel
theorem dJ9_abs_0f7a4_1 : decode cJ9_abs_0f7a4 1 = .ok (.ifCond .ge 8, 3) := by decide +kernel
theorem dJ9_abs_0f7a4_4 : decode cJ9_abs_0f7a4 4 = .ok (.iload_n 0, 1) := by decide +kernel
theorem dJ9_abs_0f7a4_5 : decode cJ9_abs_0f7a4 5 = .ok (.ineg, 1) := by decide +kernel
theorem dJ9_abs_0f7a4_6 : decode cJ9_abs_0f7a4 6 = .ok (.goto 4, 3) := by decide +kernel
theorem dJ9_abs_0f7a4_9 : decode cJ9_abs_0f7a4 9 = .ok (.iload_n 0, 1) := by decide +kernel
theorem dJ9_abs_0f7a4_10 : decode cJ9_abs_0f7a4 10 = .ok (.ireturn, 1) := by decide +kernel
theorem dJ9_max_7cf53_0 : decode cJ9_max_7cf53 0 = .ok (.iload_n 0, 1) := by decide +kernel
theorem dJ9_max_7cf53_1 : decode cJ9_max_7cf53 1 = .ok (.iload_n 1, 1) := by decide +kernel
theorem dJ9_max_7cf53_2 : decode cJ9_max_7cf53 2 = .ok (.if_icmp .lt 7, 3) := by decide +kernel
theorem dJ9_max_7cf53_5 : decode cJ9_max_7cf53 5 = .ok (.iload_n 0, 1) := by decide +kernel
theorem dJ9_max_7cf53_6 : decode cJ9_max_7cf53 6 = .ok (.goto 4, 3) := by decide +kernel
theorem dJ9_max_7cf53_9 : decode cJ9_max_7cf53 9 = .ok (.iload_n 1, 1) := by decide +kernel
theorem dJ9_max_7cf53_10 : decode cJ9_max_7cf53 10 = .ok (.ireturn, 1) := by decide +kernel
theorem dJ9_min_7cf53_0 : decode cJ9_min_7cf53 0 = .ok (.iload_n 0, 1) := by decide +kernel
theorem dJ9_min_7cf53_1 : decode cJ9_min_7cf53 1 = .ok (.iload_n 1, 1) := by decide +kernel
theorem dJ9_min_7cf53_2 : decode cJ9_min_7cf53 2 = .ok (.if_icmp .gt 7, 3) := by decide +kernel
theorem dJ9_min_7cf53_5 : decode cJ9_min_7cf53 5 = .ok (.iload_n 0, 1) := by decide +kernel
theorem dJ9_min_7cf53_6 : decode cJ9_min_7cf53 6 = .ok (.goto 4, 3) := by decide +kernel
theorem dJ9_min_7cf53_9 : decode cJ9_min_7cf53 9 = .ok (.iload_n 1, 1) := by decide +kernel
theorem dJ9_min_7cf53_10 : decode cJ9_min_7cf53 10 = .ok (.ireturn, 1) := by decide +kernel
theorem dJ7_fill_53178_0 : decode cJ7_fill_53178 0 = .ok (.iconst 0, 1) := by decide +kernel
theorem dJ7_fill_53178_1 : decode cJ7_fill_53178 1 = .ok (.istore_n 2, 1) := by decide +kernel
theorem dJ7_fill_53178_2 : decode cJ7_fill_53178 2 = .ok (.aload_n 0, 1) := by decide +kernel
theorem dJ7_fill_53178_3 : decode cJ7_fill_53178 3 = .ok (.arraylength, 1) := by decide +kernel
theorem dJ7_fill_53178_4 : decode cJ7_fill_53178 4 = .ok (.istore_n 3, 1) := by decide +kernel
theorem dJ7_fill_53178_5 : decode cJ7_fill_53178 5 = .ok (.iload_n 2, 1) := by decide +kernel
theorem dJ7_fill_53178_6 : decode cJ7_fill_53178 6 = .ok (.iload_n 3, 1) := by decide +kernel
theorem dJ7_fill_53178_7 : decode cJ7_fill_53178 7 = .ok (.if_icmp .ge 13, 3) := by decide +kernel
theorem dJ7_fill_53178_10 : decode cJ7_fill_53178 10 = .ok (.aload_n 0, 1) := by decide +kernel
theorem dJ7_fill_53178_11 : decode cJ7_fill_53178 11 = .ok (.iload_n 2, 1) := by decide +kernel
theorem dJ7_fill_53178_12 : decode cJ7_fill_53178 12 = .ok (.iload_n 1, 1) := by decide +kernel
theorem dJ7_fill_53178_13 : decode cJ7_fill_53178 13 = .ok (.iastore, 1) := by decide +kernel
theorem dJ7_fill_53178_14 : decode cJ7_fill_53178 14 = .ok (.iinc 2 1, 3) := by decide +kernel
theorem dJ7_fill_53178_17 : decode cJ7_fill_53178 17 = .ok (.goto (-12), 3) := by decide +kernel
theorem dJ7_fill_53178_20 : decode cJ7_fill_53178 20 = .ok (.return_, 1) := by decide +kernel
theorem dL_law_0 : decode cL_law 0 = .ok (.new 7, 3) := by decide +kernel
theorem dL_law_3 : decode cL_law 3 = .ok (.dup, 1) := by decide +kernel
theorem dL_law_4 : decode cL_law 4 = .ok (.invokespecial 9, 3) := by decide +kernel
theorem dL_law_7 : decode cL_law 7 = .ok (.astore_n 1, 1) := by decide +kernel
theorem dL_law_8 : decode cL_law 8 = .ok (.new 10, 3) := by decide +kernel
theorem dL_law_11 : decode cL_law 11 = .ok (.dup, 1) := by decide +kernel
theorem dL_law_12 : decode cL_law 12 = .ok (.invokespecial 12, 3) := by decide +kernel
theorem dL_law_15 : decode cL_law 15 = .ok (.astore_n 2, 1) := by decide +kernel
theorem dL_law_16 : decode cL_law 16 = .ok (.iconst 0, 1) := by decide +kernel
theorem dL_law_17 : decode cL_law 17 = .ok (.istore_n 3, 1) := by decide +kernel
theorem dL_law_18 : decode cL_law 18 = .ok (.iload_n 3, 1) := by decide +kernel
theorem dL_law_19 : decode cL_law 19 = .ok (.aload_n 0, 1) := by decide +kernel
theorem dL_law_20 : decode cL_law 20 = .ok (.arraylength, 1) := by decide +kernel
theorem dL_law_21 : decode cL_law 21 = .ok (.bipush 6, 2) := by decide +kernel
theorem dL_law_23 : decode cL_law 23 = .ok (.isub, 1) := by decide +kernel
theorem dL_law_24 : decode cL_law 24 = .ok (.if_icmp .gt 1023, 3) := by decide +kernel
theorem dL_law_27 : decode cL_law 27 = .ok (.aload_n 0, 1) := by decide +kernel
theorem dL_law_28 : decode cL_law 28 = .ok (.iload_n 3, 1) := by decide +kernel
theorem dL_law_29 : decode cL_law 29 = .ok (.iaload, 1) := by decide +kernel
theorem dL_law_30 : decode cL_law 30 = .ok (.bipush 31, 2) := by decide +kernel
theorem dL_law_32 : decode cL_law 32 = .ok (.iand, 1) := by decide +kernel
theorem dL_law_33 : decode cL_law 33 = .ok (.tableswitch 1008 0 25 #[119, 172, 215, 278, 321, 364, 407, 440, 473, 496, 539, 572, 615, 648, 681, 724, 747, 800, 833, 866, 889, 902, 925, 958, 971, 994], 119) := by decide +kernel
theorem dL_law_152 : decode cL_law 152 = .ok (.aload_n 1, 1) := by decide +kernel
theorem dL_law_153 : decode cL_law 153 = .ok (.aload_n 0, 1) := by decide +kernel
theorem dL_law_154 : decode cL_law 154 = .ok (.iload_n 3, 1) := by decide +kernel
theorem dL_law_155 : decode cL_law 155 = .ok (.iconst 1, 1) := by decide +kernel
theorem dL_law_156 : decode cL_law 156 = .ok (.iadd, 1) := by decide +kernel
theorem dL_law_157 : decode cL_law 157 = .ok (.iaload, 1) := by decide +kernel
theorem dL_law_158 : decode cL_law 158 = .ok (.aload_n 0, 1) := by decide +kernel
theorem dL_law_159 : decode cL_law 159 = .ok (.iload_n 3, 1) := by decide +kernel
theorem dL_law_160 : decode cL_law 160 = .ok (.iconst 2, 1) := by decide +kernel
theorem dL_law_161 : decode cL_law 161 = .ok (.iadd, 1) := by decide +kernel
theorem dL_law_162 : decode cL_law 162 = .ok (.iaload, 1) := by decide +kernel
theorem dL_law_163 : decode cL_law 163 = .ok (.aload_n 0, 1) := by decide +kernel
theorem dL_law_164 : decode cL_law 164 = .ok (.iload_n 3, 1) := by decide +kernel
theorem dL_law_165 : decode cL_law 165 = .ok (.iconst 3, 1) := by decide +kernel
theorem dL_law_166 : decode cL_law 166 = .ok (.iadd, 1) := by decide +kernel
theorem dL_law_167 : decode cL_law 167 = .ok (.iaload, 1) := by decide +kernel
theorem dL_law_168 : decode cL_law 168 = .ok (.aload_n 0, 1) := by decide +kernel
theorem dL_law_169 : decode cL_law 169 = .ok (.iload_n 3, 1) := by decide +kernel
theorem dL_law_170 : decode cL_law 170 = .ok (.iconst 4, 1) := by decide +kernel
theorem dL_law_171 : decode cL_law 171 = .ok (.iadd, 1) := by decide +kernel
theorem dL_law_172 : decode cL_law 172 = .ok (.iaload, 1) := by decide +kernel
theorem dL_law_173 : decode cL_law 173 = .ok (.invokevirtual 13, 3) := by decide +kernel
theorem dL_law_176 : decode cL_law 176 = .ok (.aload_n 2, 1) := by decide +kernel
theorem dL_law_177 : decode cL_law 177 = .ok (.aload_n 0, 1) := by decide +kernel
theorem dL_law_178 : decode cL_law 178 = .ok (.iload_n 3, 1) := by decide +kernel
theorem dL_law_179 : decode cL_law 179 = .ok (.iconst 1, 1) := by decide +kernel
theorem dL_law_180 : decode cL_law 180 = .ok (.iadd, 1) := by decide +kernel
theorem dL_law_181 : decode cL_law 181 = .ok (.iaload, 1) := by decide +kernel
theorem dL_law_182 : decode cL_law 182 = .ok (.aload_n 0, 1) := by decide +kernel
theorem dL_law_183 : decode cL_law 183 = .ok (.iload_n 3, 1) := by decide +kernel
theorem dL_law_184 : decode cL_law 184 = .ok (.iconst 2, 1) := by decide +kernel
theorem dL_law_185 : decode cL_law 185 = .ok (.iadd, 1) := by decide +kernel
theorem dL_law_186 : decode cL_law 186 = .ok (.iaload, 1) := by decide +kernel
theorem dL_law_187 : decode cL_law 187 = .ok (.aload_n 0, 1) := by decide +kernel
theorem dL_law_188 : decode cL_law 188 = .ok (.iload_n 3, 1) := by decide +kernel
theorem dL_law_189 : decode cL_law 189 = .ok (.iconst 3, 1) := by decide +kernel
theorem dL_law_190 : decode cL_law 190 = .ok (.iadd, 1) := by decide +kernel
theorem dL_law_191 : decode cL_law 191 = .ok (.iaload, 1) := by decide +kernel
theorem dL_law_192 : decode cL_law 192 = .ok (.aload_n 0, 1) := by decide +kernel
theorem dL_law_193 : decode cL_law 193 = .ok (.iload_n 3, 1) := by decide +kernel
theorem dL_law_194 : decode cL_law 194 = .ok (.iconst 4, 1) := by decide +kernel
theorem dL_law_195 : decode cL_law 195 = .ok (.iadd, 1) := by decide +kernel
theorem dL_law_196 : decode cL_law 196 = .ok (.iaload, 1) := by decide +kernel
theorem dL_law_197 : decode cL_law 197 = .ok (.invokevirtual 17, 3) := by decide +kernel
theorem dL_law_200 : decode cL_law 200 = .ok (.if_icmp .eq 841, 3) := by decide +kernel
theorem dL_law_203 : decode cL_law 203 = .ok (.iconst 0, 1) := by decide +kernel
theorem dL_law_204 : decode cL_law 204 = .ok (.ireturn, 1) := by decide +kernel
theorem dL_law_205 : decode cL_law 205 = .ok (.aload_n 1, 1) := by decide +kernel
theorem dL_law_206 : decode cL_law 206 = .ok (.aload_n 0, 1) := by decide +kernel
theorem dL_law_207 : decode cL_law 207 = .ok (.iload_n 3, 1) := by decide +kernel
theorem dL_law_208 : decode cL_law 208 = .ok (.iconst 1, 1) := by decide +kernel
theorem dL_law_209 : decode cL_law 209 = .ok (.iadd, 1) := by decide +kernel
theorem dL_law_210 : decode cL_law 210 = .ok (.iaload, 1) := by decide +kernel
theorem dL_law_211 : decode cL_law 211 = .ok (.aload_n 0, 1) := by decide +kernel
theorem dL_law_212 : decode cL_law 212 = .ok (.iload_n 3, 1) := by decide +kernel
theorem dL_law_213 : decode cL_law 213 = .ok (.iconst 2, 1) := by decide +kernel
theorem dL_law_214 : decode cL_law 214 = .ok (.iadd, 1) := by decide +kernel
theorem dL_law_215 : decode cL_law 215 = .ok (.iaload, 1) := by decide +kernel
theorem dL_law_216 : decode cL_law 216 = .ok (.aload_n 0, 1) := by decide +kernel
theorem dL_law_217 : decode cL_law 217 = .ok (.iload_n 3, 1) := by decide +kernel
theorem dL_law_218 : decode cL_law 218 = .ok (.iconst 3, 1) := by decide +kernel
theorem dL_law_219 : decode cL_law 219 = .ok (.iadd, 1) := by decide +kernel
theorem dL_law_220 : decode cL_law 220 = .ok (.iaload, 1) := by decide +kernel
theorem dL_law_221 : decode cL_law 221 = .ok (.invokevirtual 18, 3) := by decide +kernel
theorem dL_law_224 : decode cL_law 224 = .ok (.aload_n 2, 1) := by decide +kernel
theorem dL_law_225 : decode cL_law 225 = .ok (.aload_n 0, 1) := by decide +kernel
theorem dL_law_226 : decode cL_law 226 = .ok (.iload_n 3, 1) := by decide +kernel
theorem dL_law_227 : decode cL_law 227 = .ok (.iconst 1, 1) := by decide +kernel
theorem dL_law_228 : decode cL_law 228 = .ok (.iadd, 1) := by decide +kernel
theorem dL_law_229 : decode cL_law 229 = .ok (.iaload, 1) := by decide +kernel
theorem dL_law_230 : decode cL_law 230 = .ok (.aload_n 0, 1) := by decide +kernel
theorem dL_law_231 : decode cL_law 231 = .ok (.iload_n 3, 1) := by decide +kernel
theorem dL_law_232 : decode cL_law 232 = .ok (.iconst 2, 1) := by decide +kernel
theorem dL_law_233 : decode cL_law 233 = .ok (.iadd, 1) := by decide +kernel
theorem dL_law_234 : decode cL_law 234 = .ok (.iaload, 1) := by decide +kernel
theorem dL_law_235 : decode cL_law 235 = .ok (.aload_n 0, 1) := by decide +kernel
theorem dL_law_236 : decode cL_law 236 = .ok (.iload_n 3, 1) := by decide +kernel
theorem dL_law_237 : decode cL_law 237 = .ok (.iconst 3, 1) := by decide +kernel
theorem dL_law_238 : decode cL_law 238 = .ok (.iadd, 1) := by decide +kernel
theorem dL_law_239 : decode cL_law 239 = .ok (.iaload, 1) := by decide +kernel
theorem dL_law_240 : decode cL_law 240 = .ok (.invokevirtual 22, 3) := by decide +kernel
theorem dL_law_243 : decode cL_law 243 = .ok (.if_icmp .eq 798, 3) := by decide +kernel
theorem dL_law_246 : decode cL_law 246 = .ok (.iconst 0, 1) := by decide +kernel
theorem dL_law_247 : decode cL_law 247 = .ok (.ireturn, 1) := by decide +kernel
theorem dL_law_248 : decode cL_law 248 = .ok (.aload_n 1, 1) := by decide +kernel
theorem dL_law_249 : decode cL_law 249 = .ok (.aload_n 0, 1) := by decide +kernel
theorem dL_law_250 : decode cL_law 250 = .ok (.iload_n 3, 1) := by decide +kernel
theorem dL_law_251 : decode cL_law 251 = .ok (.iconst 1, 1) := by decide +kernel
theorem dL_law_252 : decode cL_law 252 = .ok (.iadd, 1) := by decide +kernel
theorem dL_law_253 : decode cL_law 253 = .ok (.iaload, 1) := by decide +kernel
theorem dL_law_254 : decode cL_law 254 = .ok (.aload_n 0, 1) := by decide +kernel
theorem dL_law_255 : decode cL_law 255 = .ok (.iload_n 3, 1) := by decide +kernel
theorem dL_law_256 : decode cL_law 256 = .ok (.iconst 2, 1) := by decide +kernel
theorem dL_law_257 : decode cL_law 257 = .ok (.iadd, 1) := by decide +kernel
theorem dL_law_258 : decode cL_law 258 = .ok (.iaload, 1) := by decide +kernel
theorem dL_law_259 : decode cL_law 259 = .ok (.aload_n 0, 1) := by decide +kernel
theorem dL_law_260 : decode cL_law 260 = .ok (.iload_n 3, 1) := by decide +kernel
theorem dL_law_261 : decode cL_law 261 = .ok (.iconst 3, 1) := by decide +kernel
theorem dL_law_262 : decode cL_law 262 = .ok (.iadd, 1) := by decide +kernel
theorem dL_law_263 : decode cL_law 263 = .ok (.iaload, 1) := by decide +kernel
theorem dL_law_264 : decode cL_law 264 = .ok (.aload_n 0, 1) := by decide +kernel
theorem dL_law_265 : decode cL_law 265 = .ok (.iload_n 3, 1) := by decide +kernel
theorem dL_law_266 : decode cL_law 266 = .ok (.iconst 4, 1) := by decide +kernel
theorem dL_law_267 : decode cL_law 267 = .ok (.iadd, 1) := by decide +kernel
theorem dL_law_268 : decode cL_law 268 = .ok (.iaload, 1) := by decide +kernel
theorem dL_law_269 : decode cL_law 269 = .ok (.aload_n 0, 1) := by decide +kernel
theorem dL_law_270 : decode cL_law 270 = .ok (.iload_n 3, 1) := by decide +kernel
theorem dL_law_271 : decode cL_law 271 = .ok (.iconst 5, 1) := by decide +kernel
theorem dL_law_272 : decode cL_law 272 = .ok (.iadd, 1) := by decide +kernel
theorem dL_law_273 : decode cL_law 273 = .ok (.iaload, 1) := by decide +kernel
theorem dL_law_274 : decode cL_law 274 = .ok (.invokevirtual 23, 3) := by decide +kernel
theorem dL_law_277 : decode cL_law 277 = .ok (.aload_n 2, 1) := by decide +kernel
theorem dL_law_278 : decode cL_law 278 = .ok (.aload_n 0, 1) := by decide +kernel
theorem dL_law_279 : decode cL_law 279 = .ok (.iload_n 3, 1) := by decide +kernel
theorem dL_law_280 : decode cL_law 280 = .ok (.iconst 1, 1) := by decide +kernel
theorem dL_law_281 : decode cL_law 281 = .ok (.iadd, 1) := by decide +kernel
theorem dL_law_282 : decode cL_law 282 = .ok (.iaload, 1) := by decide +kernel
theorem dL_law_283 : decode cL_law 283 = .ok (.aload_n 0, 1) := by decide +kernel
theorem dL_law_284 : decode cL_law 284 = .ok (.iload_n 3, 1) := by decide +kernel
theorem dL_law_285 : decode cL_law 285 = .ok (.iconst 2, 1) := by decide +kernel
theorem dL_law_286 : decode cL_law 286 = .ok (.iadd, 1) := by decide +kernel
theorem dL_law_287 : decode cL_law 287 = .ok (.iaload, 1) := by decide +kernel
theorem dL_law_288 : decode cL_law 288 = .ok (.aload_n 0, 1) := by decide +kernel
theorem dL_law_289 : decode cL_law 289 = .ok (.iload_n 3, 1) := by decide +kernel
theorem dL_law_290 : decode cL_law 290 = .ok (.iconst 3, 1) := by decide +kernel
theorem dL_law_291 : decode cL_law 291 = .ok (.iadd, 1) := by decide +kernel
theorem dL_law_292 : decode cL_law 292 = .ok (.iaload, 1) := by decide +kernel
theorem dL_law_293 : decode cL_law 293 = .ok (.aload_n 0, 1) := by decide +kernel
theorem dL_law_294 : decode cL_law 294 = .ok (.iload_n 3, 1) := by decide +kernel
theorem dL_law_295 : decode cL_law 295 = .ok (.iconst 4, 1) := by decide +kernel
theorem dL_law_296 : decode cL_law 296 = .ok (.iadd, 1) := by decide +kernel
theorem dL_law_297 : decode cL_law 297 = .ok (.iaload, 1) := by decide +kernel
theorem dL_law_298 : decode cL_law 298 = .ok (.aload_n 0, 1) := by decide +kernel
theorem dL_law_299 : decode cL_law 299 = .ok (.iload_n 3, 1) := by decide +kernel
theorem dL_law_300 : decode cL_law 300 = .ok (.iconst 5, 1) := by decide +kernel
theorem dL_law_301 : decode cL_law 301 = .ok (.iadd, 1) := by decide +kernel
theorem dL_law_302 : decode cL_law 302 = .ok (.iaload, 1) := by decide +kernel
theorem dL_law_303 : decode cL_law 303 = .ok (.invokevirtual 27, 3) := by decide +kernel
theorem dL_law_306 : decode cL_law 306 = .ok (.if_icmp .eq 735, 3) := by decide +kernel
theorem dL_law_309 : decode cL_law 309 = .ok (.iconst 0, 1) := by decide +kernel
theorem dL_law_310 : decode cL_law 310 = .ok (.ireturn, 1) := by decide +kernel
theorem dL_law_311 : decode cL_law 311 = .ok (.aload_n 1, 1) := by decide +kernel
theorem dL_law_312 : decode cL_law 312 = .ok (.aload_n 0, 1) := by decide +kernel
theorem dL_law_313 : decode cL_law 313 = .ok (.iload_n 3, 1) := by decide +kernel
theorem dL_law_314 : decode cL_law 314 = .ok (.iconst 1, 1) := by decide +kernel
theorem dL_law_315 : decode cL_law 315 = .ok (.iadd, 1) := by decide +kernel
theorem dL_law_316 : decode cL_law 316 = .ok (.iaload, 1) := by decide +kernel
theorem dL_law_317 : decode cL_law 317 = .ok (.aload_n 0, 1) := by decide +kernel
theorem dL_law_318 : decode cL_law 318 = .ok (.iload_n 3, 1) := by decide +kernel
theorem dL_law_319 : decode cL_law 319 = .ok (.iconst 2, 1) := by decide +kernel
theorem dL_law_320 : decode cL_law 320 = .ok (.iadd, 1) := by decide +kernel
theorem dL_law_321 : decode cL_law 321 = .ok (.iaload, 1) := by decide +kernel
theorem dL_law_322 : decode cL_law 322 = .ok (.aload_n 0, 1) := by decide +kernel
theorem dL_law_323 : decode cL_law 323 = .ok (.iload_n 3, 1) := by decide +kernel
theorem dL_law_324 : decode cL_law 324 = .ok (.iconst 3, 1) := by decide +kernel
theorem dL_law_325 : decode cL_law 325 = .ok (.iadd, 1) := by decide +kernel
theorem dL_law_326 : decode cL_law 326 = .ok (.iaload, 1) := by decide +kernel
theorem dL_law_327 : decode cL_law 327 = .ok (.invokevirtual 28, 3) := by decide +kernel
theorem dL_law_330 : decode cL_law 330 = .ok (.aload_n 2, 1) := by decide +kernel
theorem dL_law_331 : decode cL_law 331 = .ok (.aload_n 0, 1) := by decide +kernel
theorem dL_law_332 : decode cL_law 332 = .ok (.iload_n 3, 1) := by decide +kernel
theorem dL_law_333 : decode cL_law 333 = .ok (.iconst 1, 1) := by decide +kernel
theorem dL_law_334 : decode cL_law 334 = .ok (.iadd, 1) := by decide +kernel
theorem dL_law_335 : decode cL_law 335 = .ok (.iaload, 1) := by decide +kernel
theorem dL_law_336 : decode cL_law 336 = .ok (.aload_n 0, 1) := by decide +kernel
theorem dL_law_337 : decode cL_law 337 = .ok (.iload_n 3, 1) := by decide +kernel
theorem dL_law_338 : decode cL_law 338 = .ok (.iconst 2, 1) := by decide +kernel
theorem dL_law_339 : decode cL_law 339 = .ok (.iadd, 1) := by decide +kernel
theorem dL_law_340 : decode cL_law 340 = .ok (.iaload, 1) := by decide +kernel
theorem dL_law_341 : decode cL_law 341 = .ok (.aload_n 0, 1) := by decide +kernel
theorem dL_law_342 : decode cL_law 342 = .ok (.iload_n 3, 1) := by decide +kernel
theorem dL_law_343 : decode cL_law 343 = .ok (.iconst 3, 1) := by decide +kernel
theorem dL_law_344 : decode cL_law 344 = .ok (.iadd, 1) := by decide +kernel
theorem dL_law_345 : decode cL_law 345 = .ok (.iaload, 1) := by decide +kernel
theorem dL_law_346 : decode cL_law 346 = .ok (.invokevirtual 31, 3) := by decide +kernel
theorem dL_law_349 : decode cL_law 349 = .ok (.if_icmp .eq 692, 3) := by decide +kernel
theorem dL_law_352 : decode cL_law 352 = .ok (.iconst 0, 1) := by decide +kernel
theorem dL_law_353 : decode cL_law 353 = .ok (.ireturn, 1) := by decide +kernel
theorem dL_law_354 : decode cL_law 354 = .ok (.aload_n 1, 1) := by decide +kernel
theorem dL_law_355 : decode cL_law 355 = .ok (.aload_n 0, 1) := by decide +kernel
theorem dL_law_356 : decode cL_law 356 = .ok (.iload_n 3, 1) := by decide +kernel
theorem dL_law_357 : decode cL_law 357 = .ok (.iconst 1, 1) := by decide +kernel
theorem dL_law_358 : decode cL_law 358 = .ok (.iadd, 1) := by decide +kernel
theorem dL_law_359 : decode cL_law 359 = .ok (.iaload, 1) := by decide +kernel
theorem dL_law_360 : decode cL_law 360 = .ok (.aload_n 0, 1) := by decide +kernel
theorem dL_law_361 : decode cL_law 361 = .ok (.iload_n 3, 1) := by decide +kernel
theorem dL_law_362 : decode cL_law 362 = .ok (.iconst 2, 1) := by decide +kernel
theorem dL_law_363 : decode cL_law 363 = .ok (.iadd, 1) := by decide +kernel
theorem dL_law_364 : decode cL_law 364 = .ok (.iaload, 1) := by decide +kernel
theorem dL_law_365 : decode cL_law 365 = .ok (.aload_n 0, 1) := by decide +kernel
theorem dL_law_366 : decode cL_law 366 = .ok (.iload_n 3, 1) := by decide +kernel
theorem dL_law_367 : decode cL_law 367 = .ok (.iconst 3, 1) := by decide +kernel
theorem dL_law_368 : decode cL_law 368 = .ok (.iadd, 1) := by decide +kernel
theorem dL_law_369 : decode cL_law 369 = .ok (.iaload, 1) := by decide +kernel
theorem dL_law_370 : decode cL_law 370 = .ok (.invokevirtual 32, 3) := by decide +kernel
theorem dL_law_373 : decode cL_law 373 = .ok (.aload_n 2, 1) := by decide +kernel
theorem dL_law_374 : decode cL_law 374 = .ok (.aload_n 0, 1) := by decide +kernel
theorem dL_law_375 : decode cL_law 375 = .ok (.iload_n 3, 1) := by decide +kernel
theorem dL_law_376 : decode cL_law 376 = .ok (.iconst 1, 1) := by decide +kernel
theorem dL_law_377 : decode cL_law 377 = .ok (.iadd, 1) := by decide +kernel
theorem dL_law_378 : decode cL_law 378 = .ok (.iaload, 1) := by decide +kernel
theorem dL_law_379 : decode cL_law 379 = .ok (.aload_n 0, 1) := by decide +kernel
theorem dL_law_380 : decode cL_law 380 = .ok (.iload_n 3, 1) := by decide +kernel
theorem dL_law_381 : decode cL_law 381 = .ok (.iconst 2, 1) := by decide +kernel
theorem dL_law_382 : decode cL_law 382 = .ok (.iadd, 1) := by decide +kernel
theorem dL_law_383 : decode cL_law 383 = .ok (.iaload, 1) := by decide +kernel
theorem dL_law_384 : decode cL_law 384 = .ok (.aload_n 0, 1) := by decide +kernel
theorem dL_law_385 : decode cL_law 385 = .ok (.iload_n 3, 1) := by decide +kernel
theorem dL_law_386 : decode cL_law 386 = .ok (.iconst 3, 1) := by decide +kernel
theorem dL_law_387 : decode cL_law 387 = .ok (.iadd, 1) := by decide +kernel
theorem dL_law_388 : decode cL_law 388 = .ok (.iaload, 1) := by decide +kernel
theorem dL_law_389 : decode cL_law 389 = .ok (.invokevirtual 35, 3) := by decide +kernel
theorem dL_law_392 : decode cL_law 392 = .ok (.if_icmp .eq 649, 3) := by decide +kernel
theorem dL_law_395 : decode cL_law 395 = .ok (.iconst 0, 1) := by decide +kernel
theorem dL_law_396 : decode cL_law 396 = .ok (.ireturn, 1) := by decide +kernel
theorem dL_law_397 : decode cL_law 397 = .ok (.aload_n 1, 1) := by decide +kernel
theorem dL_law_398 : decode cL_law 398 = .ok (.aload_n 0, 1) := by decide +kernel
theorem dL_law_399 : decode cL_law 399 = .ok (.iload_n 3, 1) := by decide +kernel
theorem dL_law_400 : decode cL_law 400 = .ok (.iconst 1, 1) := by decide +kernel
theorem dL_law_401 : decode cL_law 401 = .ok (.iadd, 1) := by decide +kernel
theorem dL_law_402 : decode cL_law 402 = .ok (.iaload, 1) := by decide +kernel
theorem dL_law_403 : decode cL_law 403 = .ok (.aload_n 0, 1) := by decide +kernel
theorem dL_law_404 : decode cL_law 404 = .ok (.iload_n 3, 1) := by decide +kernel
theorem dL_law_405 : decode cL_law 405 = .ok (.iconst 2, 1) := by decide +kernel
theorem dL_law_406 : decode cL_law 406 = .ok (.iadd, 1) := by decide +kernel
theorem dL_law_407 : decode cL_law 407 = .ok (.iaload, 1) := by decide +kernel
theorem dL_law_408 : decode cL_law 408 = .ok (.aload_n 0, 1) := by decide +kernel
theorem dL_law_409 : decode cL_law 409 = .ok (.iload_n 3, 1) := by decide +kernel
theorem dL_law_410 : decode cL_law 410 = .ok (.iconst 3, 1) := by decide +kernel
theorem dL_law_411 : decode cL_law 411 = .ok (.iadd, 1) := by decide +kernel
theorem dL_law_412 : decode cL_law 412 = .ok (.iaload, 1) := by decide +kernel
theorem dL_law_413 : decode cL_law 413 = .ok (.invokevirtual 36, 3) := by decide +kernel
theorem dL_law_416 : decode cL_law 416 = .ok (.aload_n 2, 1) := by decide +kernel
theorem dL_law_417 : decode cL_law 417 = .ok (.aload_n 0, 1) := by decide +kernel
theorem dL_law_418 : decode cL_law 418 = .ok (.iload_n 3, 1) := by decide +kernel
theorem dL_law_419 : decode cL_law 419 = .ok (.iconst 1, 1) := by decide +kernel
theorem dL_law_420 : decode cL_law 420 = .ok (.iadd, 1) := by decide +kernel
theorem dL_law_421 : decode cL_law 421 = .ok (.iaload, 1) := by decide +kernel
theorem dL_law_422 : decode cL_law 422 = .ok (.aload_n 0, 1) := by decide +kernel
theorem dL_law_423 : decode cL_law 423 = .ok (.iload_n 3, 1) := by decide +kernel
theorem dL_law_424 : decode cL_law 424 = .ok (.iconst 2, 1) := by decide +kernel
theorem dL_law_425 : decode cL_law 425 = .ok (.iadd, 1) := by decide +kernel
theorem dL_law_426 : decode cL_law 426 = .ok (.iaload, 1) := by decide +kernel
theorem dL_law_427 : decode cL_law 427 = .ok (.aload_n 0, 1) := by decide +kernel
theorem dL_law_428 : decode cL_law 428 = .ok (.iload_n 3, 1) := by decide +kernel
theorem dL_law_429 : decode cL_law 429 = .ok (.iconst 3, 1) := by decide +kernel
theorem dL_law_430 : decode cL_law 430 = .ok (.iadd, 1) := by decide +kernel
theorem dL_law_431 : decode cL_law 431 = .ok (.iaload, 1) := by decide +kernel
theorem dL_law_432 : decode cL_law 432 = .ok (.invokevirtual 39, 3) := by decide +kernel
theorem dL_law_435 : decode cL_law 435 = .ok (.if_icmp .eq 606, 3) := by decide +kernel
theorem dL_law_438 : decode cL_law 438 = .ok (.iconst 0, 1) := by decide +kernel
theorem dL_law_439 : decode cL_law 439 = .ok (.ireturn, 1) := by decide +kernel
theorem dL_law_440 : decode cL_law 440 = .ok (.aload_n 1, 1) := by decide +kernel
theorem dL_law_441 : decode cL_law 441 = .ok (.aload_n 0, 1) := by decide +kernel
theorem dL_law_442 : decode cL_law 442 = .ok (.iload_n 3, 1) := by decide +kernel
theorem dL_law_443 : decode cL_law 443 = .ok (.iconst 1, 1) := by decide +kernel
theorem dL_law_444 : decode cL_law 444 = .ok (.iadd, 1) := by decide +kernel
theorem dL_law_445 : decode cL_law 445 = .ok (.iaload, 1) := by decide +kernel
theorem dL_law_446 : decode cL_law 446 = .ok (.aload_n 0, 1) := by decide +kernel
theorem dL_law_447 : decode cL_law 447 = .ok (.iload_n 3, 1) := by decide +kernel
theorem dL_law_448 : decode cL_law 448 = .ok (.iconst 2, 1) := by decide +kernel
theorem dL_law_449 : decode cL_law 449 = .ok (.iadd, 1) := by decide +kernel
theorem dL_law_450 : decode cL_law 450 = .ok (.iaload, 1) := by decide +kernel
theorem dL_law_451 : decode cL_law 451 = .ok (.invokevirtual 40, 3) := by decide +kernel
theorem dL_law_454 : decode cL_law 454 = .ok (.aload_n 2, 1) := by decide +kernel
theorem dL_law_455 : decode cL_law 455 = .ok (.aload_n 0, 1) := by decide +kernel
theorem dL_law_456 : decode cL_law 456 = .ok (.iload_n 3, 1) := by decide +kernel
theorem dL_law_457 : decode cL_law 457 = .ok (.iconst 1, 1) := by decide +kernel
theorem dL_law_458 : decode cL_law 458 = .ok (.iadd, 1) := by decide +kernel
theorem dL_law_459 : decode cL_law 459 = .ok (.iaload, 1) := by decide +kernel
theorem dL_law_460 : decode cL_law 460 = .ok (.aload_n 0, 1) := by decide +kernel
theorem dL_law_461 : decode cL_law 461 = .ok (.iload_n 3, 1) := by decide +kernel
theorem dL_law_462 : decode cL_law 462 = .ok (.iconst 2, 1) := by decide +kernel
theorem dL_law_463 : decode cL_law 463 = .ok (.iadd, 1) := by decide +kernel
theorem dL_law_464 : decode cL_law 464 = .ok (.iaload, 1) := by decide +kernel
theorem dL_law_465 : decode cL_law 465 = .ok (.invokevirtual 44, 3) := by decide +kernel
theorem dL_law_468 : decode cL_law 468 = .ok (.if_icmp .eq 573, 3) := by decide +kernel
theorem dL_law_471 : decode cL_law 471 = .ok (.iconst 0, 1) := by decide +kernel
theorem dL_law_472 : decode cL_law 472 = .ok (.ireturn, 1) := by decide +kernel
theorem dL_law_473 : decode cL_law 473 = .ok (.aload_n 1, 1) := by decide +kernel
theorem dL_law_474 : decode cL_law 474 = .ok (.aload_n 0, 1) := by decide +kernel
theorem dL_law_475 : decode cL_law 475 = .ok (.iload_n 3, 1) := by decide +kernel
theorem dL_law_476 : decode cL_law 476 = .ok (.iconst 1, 1) := by decide +kernel
theorem dL_law_477 : decode cL_law 477 = .ok (.iadd, 1) := by decide +kernel
theorem dL_law_478 : decode cL_law 478 = .ok (.iaload, 1) := by decide +kernel
theorem dL_law_479 : decode cL_law 479 = .ok (.aload_n 0, 1) := by decide +kernel
theorem dL_law_480 : decode cL_law 480 = .ok (.iload_n 3, 1) := by decide +kernel
theorem dL_law_481 : decode cL_law 481 = .ok (.iconst 2, 1) := by decide +kernel
theorem dL_law_482 : decode cL_law 482 = .ok (.iadd, 1) := by decide +kernel
theorem dL_law_483 : decode cL_law 483 = .ok (.iaload, 1) := by decide +kernel
theorem dL_law_484 : decode cL_law 484 = .ok (.invokevirtual 45, 3) := by decide +kernel
theorem dL_law_487 : decode cL_law 487 = .ok (.aload_n 2, 1) := by decide +kernel
theorem dL_law_488 : decode cL_law 488 = .ok (.aload_n 0, 1) := by decide +kernel
theorem dL_law_489 : decode cL_law 489 = .ok (.iload_n 3, 1) := by decide +kernel
theorem dL_law_490 : decode cL_law 490 = .ok (.iconst 1, 1) := by decide +kernel
theorem dL_law_491 : decode cL_law 491 = .ok (.iadd, 1) := by decide +kernel
theorem dL_law_492 : decode cL_law 492 = .ok (.iaload, 1) := by decide +kernel
theorem dL_law_493 : decode cL_law 493 = .ok (.aload_n 0, 1) := by decide +kernel
theorem dL_law_494 : decode cL_law 494 = .ok (.iload_n 3, 1) := by decide +kernel
theorem dL_law_495 : decode cL_law 495 = .ok (.iconst 2, 1) := by decide +kernel
theorem dL_law_496 : decode cL_law 496 = .ok (.iadd, 1) := by decide +kernel
theorem dL_law_497 : decode cL_law 497 = .ok (.iaload, 1) := by decide +kernel
theorem dL_law_498 : decode cL_law 498 = .ok (.invokevirtual 48, 3) := by decide +kernel
theorem dL_law_501 : decode cL_law 501 = .ok (.if_icmp .eq 540, 3) := by decide +kernel
theorem dL_law_504 : decode cL_law 504 = .ok (.iconst 0, 1) := by decide +kernel
theorem dL_law_505 : decode cL_law 505 = .ok (.ireturn, 1) := by decide +kernel
theorem dL_law_506 : decode cL_law 506 = .ok (.aload_n 1, 1) := by decide +kernel
theorem dL_law_507 : decode cL_law 507 = .ok (.aload_n 0, 1) := by decide +kernel
theorem dL_law_508 : decode cL_law 508 = .ok (.iload_n 3, 1) := by decide +kernel
theorem dL_law_509 : decode cL_law 509 = .ok (.iconst 1, 1) := by decide +kernel
theorem dL_law_510 : decode cL_law 510 = .ok (.iadd, 1) := by decide +kernel
theorem dL_law_511 : decode cL_law 511 = .ok (.iaload, 1) := by decide +kernel
theorem dL_law_512 : decode cL_law 512 = .ok (.invokevirtual 49, 3) := by decide +kernel
theorem dL_law_515 : decode cL_law 515 = .ok (.aload_n 2, 1) := by decide +kernel
theorem dL_law_516 : decode cL_law 516 = .ok (.aload_n 0, 1) := by decide +kernel
theorem dL_law_517 : decode cL_law 517 = .ok (.iload_n 3, 1) := by decide +kernel
theorem dL_law_518 : decode cL_law 518 = .ok (.iconst 1, 1) := by decide +kernel
theorem dL_law_519 : decode cL_law 519 = .ok (.iadd, 1) := by decide +kernel
theorem dL_law_520 : decode cL_law 520 = .ok (.iaload, 1) := by decide +kernel
theorem dL_law_521 : decode cL_law 521 = .ok (.invokevirtual 53, 3) := by decide +kernel
theorem dL_law_524 : decode cL_law 524 = .ok (.if_icmp .eq 517, 3) := by decide +kernel
theorem dL_law_527 : decode cL_law 527 = .ok (.iconst 0, 1) := by decide +kernel
theorem dL_law_528 : decode cL_law 528 = .ok (.ireturn, 1) := by decide +kernel
theorem dL_law_529 : decode cL_law 529 = .ok (.aload_n 1, 1) := by decide +kernel
theorem dL_law_530 : decode cL_law 530 = .ok (.aload_n 0, 1) := by decide +kernel
theorem dL_law_531 : decode cL_law 531 = .ok (.iload_n 3, 1) := by decide +kernel
theorem dL_law_532 : decode cL_law 532 = .ok (.iconst 1, 1) := by decide +kernel
theorem dL_law_533 : decode cL_law 533 = .ok (.iadd, 1) := by decide +kernel
theorem dL_law_534 : decode cL_law 534 = .ok (.iaload, 1) := by decide +kernel
theorem dL_law_535 : decode cL_law 535 = .ok (.aload_n 0, 1) := by decide +kernel
theorem dL_law_536 : decode cL_law 536 = .ok (.iload_n 3, 1) := by decide +kernel
theorem dL_law_537 : decode cL_law 537 = .ok (.iconst 2, 1) := by decide +kernel
theorem dL_law_538 : decode cL_law 538 = .ok (.iadd, 1) := by decide +kernel
theorem dL_law_539 : decode cL_law 539 = .ok (.iaload, 1) := by decide +kernel
theorem dL_law_540 : decode cL_law 540 = .ok (.aload_n 0, 1) := by decide +kernel
theorem dL_law_541 : decode cL_law 541 = .ok (.iload_n 3, 1) := by decide +kernel
theorem dL_law_542 : decode cL_law 542 = .ok (.iconst 3, 1) := by decide +kernel
theorem dL_law_543 : decode cL_law 543 = .ok (.iadd, 1) := by decide +kernel
theorem dL_law_544 : decode cL_law 544 = .ok (.iaload, 1) := by decide +kernel
theorem dL_law_545 : decode cL_law 545 = .ok (.invokevirtual 54, 3) := by decide +kernel
theorem dL_law_548 : decode cL_law 548 = .ok (.aload_n 2, 1) := by decide +kernel
theorem dL_law_549 : decode cL_law 549 = .ok (.aload_n 0, 1) := by decide +kernel
theorem dL_law_550 : decode cL_law 550 = .ok (.iload_n 3, 1) := by decide +kernel
theorem dL_law_551 : decode cL_law 551 = .ok (.iconst 1, 1) := by decide +kernel
theorem dL_law_552 : decode cL_law 552 = .ok (.iadd, 1) := by decide +kernel
theorem dL_law_553 : decode cL_law 553 = .ok (.iaload, 1) := by decide +kernel
theorem dL_law_554 : decode cL_law 554 = .ok (.aload_n 0, 1) := by decide +kernel
theorem dL_law_555 : decode cL_law 555 = .ok (.iload_n 3, 1) := by decide +kernel
theorem dL_law_556 : decode cL_law 556 = .ok (.iconst 2, 1) := by decide +kernel
theorem dL_law_557 : decode cL_law 557 = .ok (.iadd, 1) := by decide +kernel
theorem dL_law_558 : decode cL_law 558 = .ok (.iaload, 1) := by decide +kernel
theorem dL_law_559 : decode cL_law 559 = .ok (.aload_n 0, 1) := by decide +kernel
theorem dL_law_560 : decode cL_law 560 = .ok (.iload_n 3, 1) := by decide +kernel
theorem dL_law_561 : decode cL_law 561 = .ok (.iconst 3, 1) := by decide +kernel
theorem dL_law_562 : decode cL_law 562 = .ok (.iadd, 1) := by decide +kernel
theorem dL_law_563 : decode cL_law 563 = .ok (.iaload, 1) := by decide +kernel
theorem dL_law_564 : decode cL_law 564 = .ok (.invokevirtual 57, 3) := by decide +kernel
theorem dL_law_567 : decode cL_law 567 = .ok (.if_icmp .eq 474, 3) := by decide +kernel
theorem dL_law_570 : decode cL_law 570 = .ok (.iconst 0, 1) := by decide +kernel
theorem dL_law_571 : decode cL_law 571 = .ok (.ireturn, 1) := by decide +kernel
theorem dL_law_572 : decode cL_law 572 = .ok (.aload_n 1, 1) := by decide +kernel
theorem dL_law_573 : decode cL_law 573 = .ok (.aload_n 0, 1) := by decide +kernel
theorem dL_law_574 : decode cL_law 574 = .ok (.iload_n 3, 1) := by decide +kernel
theorem dL_law_575 : decode cL_law 575 = .ok (.iconst 1, 1) := by decide +kernel
theorem dL_law_576 : decode cL_law 576 = .ok (.iadd, 1) := by decide +kernel
theorem dL_law_577 : decode cL_law 577 = .ok (.iaload, 1) := by decide +kernel
theorem dL_law_578 : decode cL_law 578 = .ok (.aload_n 0, 1) := by decide +kernel
theorem dL_law_579 : decode cL_law 579 = .ok (.iload_n 3, 1) := by decide +kernel
theorem dL_law_580 : decode cL_law 580 = .ok (.iconst 2, 1) := by decide +kernel
theorem dL_law_581 : decode cL_law 581 = .ok (.iadd, 1) := by decide +kernel
theorem dL_law_582 : decode cL_law 582 = .ok (.iaload, 1) := by decide +kernel
theorem dL_law_583 : decode cL_law 583 = .ok (.invokevirtual 58, 3) := by decide +kernel
theorem dL_law_586 : decode cL_law 586 = .ok (.aload_n 2, 1) := by decide +kernel
theorem dL_law_587 : decode cL_law 587 = .ok (.aload_n 0, 1) := by decide +kernel
theorem dL_law_588 : decode cL_law 588 = .ok (.iload_n 3, 1) := by decide +kernel
theorem dL_law_589 : decode cL_law 589 = .ok (.iconst 1, 1) := by decide +kernel
theorem dL_law_590 : decode cL_law 590 = .ok (.iadd, 1) := by decide +kernel
theorem dL_law_591 : decode cL_law 591 = .ok (.iaload, 1) := by decide +kernel
theorem dL_law_592 : decode cL_law 592 = .ok (.aload_n 0, 1) := by decide +kernel
theorem dL_law_593 : decode cL_law 593 = .ok (.iload_n 3, 1) := by decide +kernel
theorem dL_law_594 : decode cL_law 594 = .ok (.iconst 2, 1) := by decide +kernel
theorem dL_law_595 : decode cL_law 595 = .ok (.iadd, 1) := by decide +kernel
theorem dL_law_596 : decode cL_law 596 = .ok (.iaload, 1) := by decide +kernel
theorem dL_law_597 : decode cL_law 597 = .ok (.invokevirtual 61, 3) := by decide +kernel
theorem dL_law_600 : decode cL_law 600 = .ok (.if_icmp .eq 441, 3) := by decide +kernel
theorem dL_law_603 : decode cL_law 603 = .ok (.iconst 0, 1) := by decide +kernel
theorem dL_law_604 : decode cL_law 604 = .ok (.ireturn, 1) := by decide +kernel
theorem dL_law_605 : decode cL_law 605 = .ok (.aload_n 1, 1) := by decide +kernel
theorem dL_law_606 : decode cL_law 606 = .ok (.aload_n 0, 1) := by decide +kernel
theorem dL_law_607 : decode cL_law 607 = .ok (.iload_n 3, 1) := by decide +kernel
theorem dL_law_608 : decode cL_law 608 = .ok (.iconst 1, 1) := by decide +kernel
theorem dL_law_609 : decode cL_law 609 = .ok (.iadd, 1) := by decide +kernel
theorem dL_law_610 : decode cL_law 610 = .ok (.iaload, 1) := by decide +kernel
theorem dL_law_611 : decode cL_law 611 = .ok (.aload_n 0, 1) := by decide +kernel
theorem dL_law_612 : decode cL_law 612 = .ok (.iload_n 3, 1) := by decide +kernel
theorem dL_law_613 : decode cL_law 613 = .ok (.iconst 2, 1) := by decide +kernel
theorem dL_law_614 : decode cL_law 614 = .ok (.iadd, 1) := by decide +kernel
theorem dL_law_615 : decode cL_law 615 = .ok (.iaload, 1) := by decide +kernel
theorem dL_law_616 : decode cL_law 616 = .ok (.aload_n 0, 1) := by decide +kernel
theorem dL_law_617 : decode cL_law 617 = .ok (.iload_n 3, 1) := by decide +kernel
theorem dL_law_618 : decode cL_law 618 = .ok (.iconst 3, 1) := by decide +kernel
theorem dL_law_619 : decode cL_law 619 = .ok (.iadd, 1) := by decide +kernel
theorem dL_law_620 : decode cL_law 620 = .ok (.iaload, 1) := by decide +kernel
theorem dL_law_621 : decode cL_law 621 = .ok (.invokevirtual 62, 3) := by decide +kernel
theorem dL_law_624 : decode cL_law 624 = .ok (.aload_n 2, 1) := by decide +kernel
theorem dL_law_625 : decode cL_law 625 = .ok (.aload_n 0, 1) := by decide +kernel
theorem dL_law_626 : decode cL_law 626 = .ok (.iload_n 3, 1) := by decide +kernel
theorem dL_law_627 : decode cL_law 627 = .ok (.iconst 1, 1) := by decide +kernel
theorem dL_law_628 : decode cL_law 628 = .ok (.iadd, 1) := by decide +kernel
theorem dL_law_629 : decode cL_law 629 = .ok (.iaload, 1) := by decide +kernel
theorem dL_law_630 : decode cL_law 630 = .ok (.aload_n 0, 1) := by decide +kernel
theorem dL_law_631 : decode cL_law 631 = .ok (.iload_n 3, 1) := by decide +kernel
theorem dL_law_632 : decode cL_law 632 = .ok (.iconst 2, 1) := by decide +kernel
theorem dL_law_633 : decode cL_law 633 = .ok (.iadd, 1) := by decide +kernel
theorem dL_law_634 : decode cL_law 634 = .ok (.iaload, 1) := by decide +kernel
theorem dL_law_635 : decode cL_law 635 = .ok (.aload_n 0, 1) := by decide +kernel
theorem dL_law_636 : decode cL_law 636 = .ok (.iload_n 3, 1) := by decide +kernel
theorem dL_law_637 : decode cL_law 637 = .ok (.iconst 3, 1) := by decide +kernel
theorem dL_law_638 : decode cL_law 638 = .ok (.iadd, 1) := by decide +kernel
theorem dL_law_639 : decode cL_law 639 = .ok (.iaload, 1) := by decide +kernel
theorem dL_law_640 : decode cL_law 640 = .ok (.invokevirtual 65, 3) := by decide +kernel
theorem dL_law_643 : decode cL_law 643 = .ok (.if_icmp .eq 398, 3) := by decide +kernel
theorem dL_law_646 : decode cL_law 646 = .ok (.iconst 0, 1) := by decide +kernel
theorem dL_law_647 : decode cL_law 647 = .ok (.ireturn, 1) := by decide +kernel
theorem dL_law_648 : decode cL_law 648 = .ok (.aload_n 1, 1) := by decide +kernel
theorem dL_law_649 : decode cL_law 649 = .ok (.aload_n 0, 1) := by decide +kernel
theorem dL_law_650 : decode cL_law 650 = .ok (.iload_n 3, 1) := by decide +kernel
theorem dL_law_651 : decode cL_law 651 = .ok (.iconst 1, 1) := by decide +kernel
theorem dL_law_652 : decode cL_law 652 = .ok (.iadd, 1) := by decide +kernel
theorem dL_law_653 : decode cL_law 653 = .ok (.iaload, 1) := by decide +kernel
theorem dL_law_654 : decode cL_law 654 = .ok (.aload_n 0, 1) := by decide +kernel
theorem dL_law_655 : decode cL_law 655 = .ok (.iload_n 3, 1) := by decide +kernel
theorem dL_law_656 : decode cL_law 656 = .ok (.iconst 2, 1) := by decide +kernel
theorem dL_law_657 : decode cL_law 657 = .ok (.iadd, 1) := by decide +kernel
theorem dL_law_658 : decode cL_law 658 = .ok (.iaload, 1) := by decide +kernel
theorem dL_law_659 : decode cL_law 659 = .ok (.invokevirtual 66, 3) := by decide +kernel
theorem dL_law_662 : decode cL_law 662 = .ok (.aload_n 2, 1) := by decide +kernel
theorem dL_law_663 : decode cL_law 663 = .ok (.aload_n 0, 1) := by decide +kernel
theorem dL_law_664 : decode cL_law 664 = .ok (.iload_n 3, 1) := by decide +kernel
theorem dL_law_665 : decode cL_law 665 = .ok (.iconst 1, 1) := by decide +kernel
theorem dL_law_666 : decode cL_law 666 = .ok (.iadd, 1) := by decide +kernel
theorem dL_law_667 : decode cL_law 667 = .ok (.iaload, 1) := by decide +kernel
theorem dL_law_668 : decode cL_law 668 = .ok (.aload_n 0, 1) := by decide +kernel
theorem dL_law_669 : decode cL_law 669 = .ok (.iload_n 3, 1) := by decide +kernel
theorem dL_law_670 : decode cL_law 670 = .ok (.iconst 2, 1) := by decide +kernel
theorem dL_law_671 : decode cL_law 671 = .ok (.iadd, 1) := by decide +kernel
theorem dL_law_672 : decode cL_law 672 = .ok (.iaload, 1) := by decide +kernel
theorem dL_law_673 : decode cL_law 673 = .ok (.invokevirtual 69, 3) := by decide +kernel
theorem dL_law_676 : decode cL_law 676 = .ok (.if_icmp .eq 365, 3) := by decide +kernel
theorem dL_law_679 : decode cL_law 679 = .ok (.iconst 0, 1) := by decide +kernel
theorem dL_law_680 : decode cL_law 680 = .ok (.ireturn, 1) := by decide +kernel
theorem dL_law_681 : decode cL_law 681 = .ok (.aload_n 1, 1) := by decide +kernel
theorem dL_law_682 : decode cL_law 682 = .ok (.aload_n 0, 1) := by decide +kernel
theorem dL_law_683 : decode cL_law 683 = .ok (.iload_n 3, 1) := by decide +kernel
theorem dL_law_684 : decode cL_law 684 = .ok (.iconst 1, 1) := by decide +kernel
theorem dL_law_685 : decode cL_law 685 = .ok (.iadd, 1) := by decide +kernel
theorem dL_law_686 : decode cL_law 686 = .ok (.iaload, 1) := by decide +kernel
theorem dL_law_687 : decode cL_law 687 = .ok (.aload_n 0, 1) := by decide +kernel
theorem dL_law_688 : decode cL_law 688 = .ok (.iload_n 3, 1) := by decide +kernel
theorem dL_law_689 : decode cL_law 689 = .ok (.iconst 2, 1) := by decide +kernel
theorem dL_law_690 : decode cL_law 690 = .ok (.iadd, 1) := by decide +kernel
theorem dL_law_691 : decode cL_law 691 = .ok (.iaload, 1) := by decide +kernel
theorem dL_law_692 : decode cL_law 692 = .ok (.invokevirtual 70, 3) := by decide +kernel
theorem dL_law_695 : decode cL_law 695 = .ok (.aload_n 2, 1) := by decide +kernel
theorem dL_law_696 : decode cL_law 696 = .ok (.aload_n 0, 1) := by decide +kernel
theorem dL_law_697 : decode cL_law 697 = .ok (.iload_n 3, 1) := by decide +kernel
theorem dL_law_698 : decode cL_law 698 = .ok (.iconst 1, 1) := by decide +kernel
theorem dL_law_699 : decode cL_law 699 = .ok (.iadd, 1) := by decide +kernel
theorem dL_law_700 : decode cL_law 700 = .ok (.iaload, 1) := by decide +kernel
theorem dL_law_701 : decode cL_law 701 = .ok (.aload_n 0, 1) := by decide +kernel
theorem dL_law_702 : decode cL_law 702 = .ok (.iload_n 3, 1) := by decide +kernel
theorem dL_law_703 : decode cL_law 703 = .ok (.iconst 2, 1) := by decide +kernel
theorem dL_law_704 : decode cL_law 704 = .ok (.iadd, 1) := by decide +kernel
theorem dL_law_705 : decode cL_law 705 = .ok (.iaload, 1) := by decide +kernel
theorem dL_law_706 : decode cL_law 706 = .ok (.invokevirtual 73, 3) := by decide +kernel
theorem dL_law_709 : decode cL_law 709 = .ok (.if_icmp .eq 332, 3) := by decide +kernel
theorem dL_law_712 : decode cL_law 712 = .ok (.iconst 0, 1) := by decide +kernel
theorem dL_law_713 : decode cL_law 713 = .ok (.ireturn, 1) := by decide +kernel
theorem dL_law_714 : decode cL_law 714 = .ok (.aload_n 1, 1) := by decide +kernel
theorem dL_law_715 : decode cL_law 715 = .ok (.aload_n 0, 1) := by decide +kernel
theorem dL_law_716 : decode cL_law 716 = .ok (.iload_n 3, 1) := by decide +kernel
theorem dL_law_717 : decode cL_law 717 = .ok (.iconst 1, 1) := by decide +kernel
theorem dL_law_718 : decode cL_law 718 = .ok (.iadd, 1) := by decide +kernel
theorem dL_law_719 : decode cL_law 719 = .ok (.iaload, 1) := by decide +kernel
theorem dL_law_720 : decode cL_law 720 = .ok (.aload_n 0, 1) := by decide +kernel
theorem dL_law_721 : decode cL_law 721 = .ok (.iload_n 3, 1) := by decide +kernel
theorem dL_law_722 : decode cL_law 722 = .ok (.iconst 2, 1) := by decide +kernel
theorem dL_law_723 : decode cL_law 723 = .ok (.iadd, 1) := by decide +kernel
theorem dL_law_724 : decode cL_law 724 = .ok (.iaload, 1) := by decide +kernel
theorem dL_law_725 : decode cL_law 725 = .ok (.aload_n 0, 1) := by decide +kernel
theorem dL_law_726 : decode cL_law 726 = .ok (.iload_n 3, 1) := by decide +kernel
theorem dL_law_727 : decode cL_law 727 = .ok (.iconst 3, 1) := by decide +kernel
theorem dL_law_728 : decode cL_law 728 = .ok (.iadd, 1) := by decide +kernel
theorem dL_law_729 : decode cL_law 729 = .ok (.iaload, 1) := by decide +kernel
theorem dL_law_730 : decode cL_law 730 = .ok (.invokevirtual 74, 3) := by decide +kernel
theorem dL_law_733 : decode cL_law 733 = .ok (.aload_n 2, 1) := by decide +kernel
theorem dL_law_734 : decode cL_law 734 = .ok (.aload_n 0, 1) := by decide +kernel
theorem dL_law_735 : decode cL_law 735 = .ok (.iload_n 3, 1) := by decide +kernel
theorem dL_law_736 : decode cL_law 736 = .ok (.iconst 1, 1) := by decide +kernel
theorem dL_law_737 : decode cL_law 737 = .ok (.iadd, 1) := by decide +kernel
theorem dL_law_738 : decode cL_law 738 = .ok (.iaload, 1) := by decide +kernel
theorem dL_law_739 : decode cL_law 739 = .ok (.aload_n 0, 1) := by decide +kernel
theorem dL_law_740 : decode cL_law 740 = .ok (.iload_n 3, 1) := by decide +kernel
theorem dL_law_741 : decode cL_law 741 = .ok (.iconst 2, 1) := by decide +kernel
theorem dL_law_742 : decode cL_law 742 = .ok (.iadd, 1) := by decide +kernel
theorem dL_law_743 : decode cL_law 743 = .ok (.iaload, 1) := by decide +kernel
theorem dL_law_744 : decode cL_law 744 = .ok (.aload_n 0, 1) := by decide +kernel
theorem dL_law_745 : decode cL_law 745 = .ok (.iload_n 3, 1) := by decide +kernel
theorem dL_law_746 : decode cL_law 746 = .ok (.iconst 3, 1) := by decide +kernel
theorem dL_law_747 : decode cL_law 747 = .ok (.iadd, 1) := by decide +kernel
theorem dL_law_748 : decode cL_law 748 = .ok (.iaload, 1) := by decide +kernel
theorem dL_law_749 : decode cL_law 749 = .ok (.invokevirtual 77, 3) := by decide +kernel
theorem dL_law_752 : decode cL_law 752 = .ok (.if_icmp .eq 289, 3) := by decide +kernel
theorem dL_law_755 : decode cL_law 755 = .ok (.iconst 0, 1) := by decide +kernel
theorem dL_law_756 : decode cL_law 756 = .ok (.ireturn, 1) := by decide +kernel
theorem dL_law_757 : decode cL_law 757 = .ok (.aload_n 1, 1) := by decide +kernel
theorem dL_law_758 : decode cL_law 758 = .ok (.aload_n 0, 1) := by decide +kernel
theorem dL_law_759 : decode cL_law 759 = .ok (.iload_n 3, 1) := by decide +kernel
theorem dL_law_760 : decode cL_law 760 = .ok (.iconst 1, 1) := by decide +kernel
theorem dL_law_761 : decode cL_law 761 = .ok (.iadd, 1) := by decide +kernel
theorem dL_law_762 : decode cL_law 762 = .ok (.iaload, 1) := by decide +kernel
theorem dL_law_763 : decode cL_law 763 = .ok (.invokevirtual 78, 3) := by decide +kernel
theorem dL_law_766 : decode cL_law 766 = .ok (.aload_n 2, 1) := by decide +kernel
theorem dL_law_767 : decode cL_law 767 = .ok (.aload_n 0, 1) := by decide +kernel
theorem dL_law_768 : decode cL_law 768 = .ok (.iload_n 3, 1) := by decide +kernel
theorem dL_law_769 : decode cL_law 769 = .ok (.iconst 1, 1) := by decide +kernel
theorem dL_law_770 : decode cL_law 770 = .ok (.iadd, 1) := by decide +kernel
theorem dL_law_771 : decode cL_law 771 = .ok (.iaload, 1) := by decide +kernel
theorem dL_law_772 : decode cL_law 772 = .ok (.invokevirtual 81, 3) := by decide +kernel
theorem dL_law_775 : decode cL_law 775 = .ok (.if_icmp .eq 266, 3) := by decide +kernel
theorem dL_law_778 : decode cL_law 778 = .ok (.iconst 0, 1) := by decide +kernel
theorem dL_law_779 : decode cL_law 779 = .ok (.ireturn, 1) := by decide +kernel
theorem dL_law_780 : decode cL_law 780 = .ok (.aload_n 1, 1) := by decide +kernel
theorem dL_law_781 : decode cL_law 781 = .ok (.aload_n 0, 1) := by decide +kernel
theorem dL_law_782 : decode cL_law 782 = .ok (.iload_n 3, 1) := by decide +kernel
theorem dL_law_783 : decode cL_law 783 = .ok (.iconst 1, 1) := by decide +kernel
theorem dL_law_784 : decode cL_law 784 = .ok (.iadd, 1) := by decide +kernel
theorem dL_law_785 : decode cL_law 785 = .ok (.iaload, 1) := by decide +kernel
theorem dL_law_786 : decode cL_law 786 = .ok (.aload_n 0, 1) := by decide +kernel
theorem dL_law_787 : decode cL_law 787 = .ok (.iload_n 3, 1) := by decide +kernel
theorem dL_law_788 : decode cL_law 788 = .ok (.iconst 2, 1) := by decide +kernel
theorem dL_law_789 : decode cL_law 789 = .ok (.iadd, 1) := by decide +kernel
theorem dL_law_790 : decode cL_law 790 = .ok (.iaload, 1) := by decide +kernel
theorem dL_law_791 : decode cL_law 791 = .ok (.aload_n 0, 1) := by decide +kernel
theorem dL_law_792 : decode cL_law 792 = .ok (.iload_n 3, 1) := by decide +kernel
theorem dL_law_793 : decode cL_law 793 = .ok (.iconst 3, 1) := by decide +kernel
theorem dL_law_794 : decode cL_law 794 = .ok (.iadd, 1) := by decide +kernel
theorem dL_law_795 : decode cL_law 795 = .ok (.iaload, 1) := by decide +kernel
theorem dL_law_796 : decode cL_law 796 = .ok (.aload_n 0, 1) := by decide +kernel
theorem dL_law_797 : decode cL_law 797 = .ok (.iload_n 3, 1) := by decide +kernel
theorem dL_law_798 : decode cL_law 798 = .ok (.iconst 4, 1) := by decide +kernel
theorem dL_law_799 : decode cL_law 799 = .ok (.iadd, 1) := by decide +kernel
theorem dL_law_800 : decode cL_law 800 = .ok (.iaload, 1) := by decide +kernel
theorem dL_law_801 : decode cL_law 801 = .ok (.invokevirtual 82, 3) := by decide +kernel
theorem dL_law_804 : decode cL_law 804 = .ok (.aload_n 2, 1) := by decide +kernel
theorem dL_law_805 : decode cL_law 805 = .ok (.aload_n 0, 1) := by decide +kernel
theorem dL_law_806 : decode cL_law 806 = .ok (.iload_n 3, 1) := by decide +kernel
theorem dL_law_807 : decode cL_law 807 = .ok (.iconst 1, 1) := by decide +kernel
theorem dL_law_808 : decode cL_law 808 = .ok (.iadd, 1) := by decide +kernel
theorem dL_law_809 : decode cL_law 809 = .ok (.iaload, 1) := by decide +kernel
theorem dL_law_810 : decode cL_law 810 = .ok (.aload_n 0, 1) := by decide +kernel
theorem dL_law_811 : decode cL_law 811 = .ok (.iload_n 3, 1) := by decide +kernel
theorem dL_law_812 : decode cL_law 812 = .ok (.iconst 2, 1) := by decide +kernel
theorem dL_law_813 : decode cL_law 813 = .ok (.iadd, 1) := by decide +kernel
theorem dL_law_814 : decode cL_law 814 = .ok (.iaload, 1) := by decide +kernel
theorem dL_law_815 : decode cL_law 815 = .ok (.aload_n 0, 1) := by decide +kernel
theorem dL_law_816 : decode cL_law 816 = .ok (.iload_n 3, 1) := by decide +kernel
theorem dL_law_817 : decode cL_law 817 = .ok (.iconst 3, 1) := by decide +kernel
theorem dL_law_818 : decode cL_law 818 = .ok (.iadd, 1) := by decide +kernel
theorem dL_law_819 : decode cL_law 819 = .ok (.iaload, 1) := by decide +kernel
theorem dL_law_820 : decode cL_law 820 = .ok (.aload_n 0, 1) := by decide +kernel
theorem dL_law_821 : decode cL_law 821 = .ok (.iload_n 3, 1) := by decide +kernel
theorem dL_law_822 : decode cL_law 822 = .ok (.iconst 4, 1) := by decide +kernel
theorem dL_law_823 : decode cL_law 823 = .ok (.iadd, 1) := by decide +kernel
theorem dL_law_824 : decode cL_law 824 = .ok (.iaload, 1) := by decide +kernel
theorem dL_law_825 : decode cL_law 825 = .ok (.invokevirtual 85, 3) := by decide +kernel
theorem dL_law_828 : decode cL_law 828 = .ok (.if_icmp .eq 213, 3) := by decide +kernel
theorem dL_law_831 : decode cL_law 831 = .ok (.iconst 0, 1) := by decide +kernel
theorem dL_law_832 : decode cL_law 832 = .ok (.ireturn, 1) := by decide +kernel
theorem dL_law_833 : decode cL_law 833 = .ok (.aload_n 1, 1) := by decide +kernel
theorem dL_law_834 : decode cL_law 834 = .ok (.aload_n 0, 1) := by decide +kernel
theorem dL_law_835 : decode cL_law 835 = .ok (.iload_n 3, 1) := by decide +kernel
theorem dL_law_836 : decode cL_law 836 = .ok (.iconst 1, 1) := by decide +kernel
theorem dL_law_837 : decode cL_law 837 = .ok (.iadd, 1) := by decide +kernel
theorem dL_law_838 : decode cL_law 838 = .ok (.iaload, 1) := by decide +kernel
theorem dL_law_839 : decode cL_law 839 = .ok (.aload_n 0, 1) := by decide +kernel
theorem dL_law_840 : decode cL_law 840 = .ok (.iload_n 3, 1) := by decide +kernel
theorem dL_law_841 : decode cL_law 841 = .ok (.iconst 2, 1) := by decide +kernel
theorem dL_law_842 : decode cL_law 842 = .ok (.iadd, 1) := by decide +kernel
theorem dL_law_843 : decode cL_law 843 = .ok (.iaload, 1) := by decide +kernel
theorem dL_law_844 : decode cL_law 844 = .ok (.invokevirtual 86, 3) := by decide +kernel
theorem dL_law_847 : decode cL_law 847 = .ok (.aload_n 2, 1) := by decide +kernel
theorem dL_law_848 : decode cL_law 848 = .ok (.aload_n 0, 1) := by decide +kernel
theorem dL_law_849 : decode cL_law 849 = .ok (.iload_n 3, 1) := by decide +kernel
theorem dL_law_850 : decode cL_law 850 = .ok (.iconst 1, 1) := by decide +kernel
theorem dL_law_851 : decode cL_law 851 = .ok (.iadd, 1) := by decide +kernel
theorem dL_law_852 : decode cL_law 852 = .ok (.iaload, 1) := by decide +kernel
theorem dL_law_853 : decode cL_law 853 = .ok (.aload_n 0, 1) := by decide +kernel
theorem dL_law_854 : decode cL_law 854 = .ok (.iload_n 3, 1) := by decide +kernel
theorem dL_law_855 : decode cL_law 855 = .ok (.iconst 2, 1) := by decide +kernel
theorem dL_law_856 : decode cL_law 856 = .ok (.iadd, 1) := by decide +kernel
theorem dL_law_857 : decode cL_law 857 = .ok (.iaload, 1) := by decide +kernel
theorem dL_law_858 : decode cL_law 858 = .ok (.invokevirtual 89, 3) := by decide +kernel
theorem dL_law_861 : decode cL_law 861 = .ok (.if_icmp .eq 180, 3) := by decide +kernel
theorem dL_law_864 : decode cL_law 864 = .ok (.iconst 0, 1) := by decide +kernel
theorem dL_law_865 : decode cL_law 865 = .ok (.ireturn, 1) := by decide +kernel
theorem dL_law_866 : decode cL_law 866 = .ok (.aload_n 1, 1) := by decide +kernel
theorem dL_law_867 : decode cL_law 867 = .ok (.aload_n 0, 1) := by decide +kernel
theorem dL_law_868 : decode cL_law 868 = .ok (.iload_n 3, 1) := by decide +kernel
theorem dL_law_869 : decode cL_law 869 = .ok (.iconst 1, 1) := by decide +kernel
theorem dL_law_870 : decode cL_law 870 = .ok (.iadd, 1) := by decide +kernel
theorem dL_law_871 : decode cL_law 871 = .ok (.iaload, 1) := by decide +kernel
theorem dL_law_872 : decode cL_law 872 = .ok (.aload_n 0, 1) := by decide +kernel
theorem dL_law_873 : decode cL_law 873 = .ok (.iload_n 3, 1) := by decide +kernel
theorem dL_law_874 : decode cL_law 874 = .ok (.iconst 2, 1) := by decide +kernel
theorem dL_law_875 : decode cL_law 875 = .ok (.iadd, 1) := by decide +kernel
theorem dL_law_876 : decode cL_law 876 = .ok (.iaload, 1) := by decide +kernel
theorem dL_law_877 : decode cL_law 877 = .ok (.invokevirtual 90, 3) := by decide +kernel
theorem dL_law_880 : decode cL_law 880 = .ok (.aload_n 2, 1) := by decide +kernel
theorem dL_law_881 : decode cL_law 881 = .ok (.aload_n 0, 1) := by decide +kernel
theorem dL_law_882 : decode cL_law 882 = .ok (.iload_n 3, 1) := by decide +kernel
theorem dL_law_883 : decode cL_law 883 = .ok (.iconst 1, 1) := by decide +kernel
theorem dL_law_884 : decode cL_law 884 = .ok (.iadd, 1) := by decide +kernel
theorem dL_law_885 : decode cL_law 885 = .ok (.iaload, 1) := by decide +kernel
theorem dL_law_886 : decode cL_law 886 = .ok (.aload_n 0, 1) := by decide +kernel
theorem dL_law_887 : decode cL_law 887 = .ok (.iload_n 3, 1) := by decide +kernel
theorem dL_law_888 : decode cL_law 888 = .ok (.iconst 2, 1) := by decide +kernel
theorem dL_law_889 : decode cL_law 889 = .ok (.iadd, 1) := by decide +kernel
theorem dL_law_890 : decode cL_law 890 = .ok (.iaload, 1) := by decide +kernel
theorem dL_law_891 : decode cL_law 891 = .ok (.invokevirtual 93, 3) := by decide +kernel
theorem dL_law_894 : decode cL_law 894 = .ok (.if_icmp .eq 147, 3) := by decide +kernel
theorem dL_law_897 : decode cL_law 897 = .ok (.iconst 0, 1) := by decide +kernel
theorem dL_law_898 : decode cL_law 898 = .ok (.ireturn, 1) := by decide +kernel
theorem dL_law_899 : decode cL_law 899 = .ok (.aload_n 1, 1) := by decide +kernel
theorem dL_law_900 : decode cL_law 900 = .ok (.aload_n 0, 1) := by decide +kernel
theorem dL_law_901 : decode cL_law 901 = .ok (.iload_n 3, 1) := by decide +kernel
theorem dL_law_902 : decode cL_law 902 = .ok (.iconst 1, 1) := by decide +kernel
theorem dL_law_903 : decode cL_law 903 = .ok (.iadd, 1) := by decide +kernel
theorem dL_law_904 : decode cL_law 904 = .ok (.iaload, 1) := by decide +kernel
theorem dL_law_905 : decode cL_law 905 = .ok (.invokevirtual 94, 3) := by decide +kernel
theorem dL_law_908 : decode cL_law 908 = .ok (.aload_n 2, 1) := by decide +kernel
theorem dL_law_909 : decode cL_law 909 = .ok (.aload_n 0, 1) := by decide +kernel
theorem dL_law_910 : decode cL_law 910 = .ok (.iload_n 3, 1) := by decide +kernel
theorem dL_law_911 : decode cL_law 911 = .ok (.iconst 1, 1) := by decide +kernel
theorem dL_law_912 : decode cL_law 912 = .ok (.iadd, 1) := by decide +kernel
theorem dL_law_913 : decode cL_law 913 = .ok (.iaload, 1) := by decide +kernel
theorem dL_law_914 : decode cL_law 914 = .ok (.invokevirtual 97, 3) := by decide +kernel
theorem dL_law_917 : decode cL_law 917 = .ok (.if_icmp .eq 124, 3) := by decide +kernel
theorem dL_law_920 : decode cL_law 920 = .ok (.iconst 0, 1) := by decide +kernel
theorem dL_law_921 : decode cL_law 921 = .ok (.ireturn, 1) := by decide +kernel
theorem dL_law_922 : decode cL_law 922 = .ok (.aload_n 1, 1) := by decide +kernel
theorem dL_law_923 : decode cL_law 923 = .ok (.invokevirtual 98, 3) := by decide +kernel
theorem dL_law_926 : decode cL_law 926 = .ok (.aload_n 2, 1) := by decide +kernel
theorem dL_law_927 : decode cL_law 927 = .ok (.invokevirtual 102, 3) := by decide +kernel
theorem dL_law_930 : decode cL_law 930 = .ok (.if_icmp .eq 111, 3) := by decide +kernel
theorem dL_law_933 : decode cL_law 933 = .ok (.iconst 0, 1) := by decide +kernel
theorem dL_law_934 : decode cL_law 934 = .ok (.ireturn, 1) := by decide +kernel
theorem dL_law_935 : decode cL_law 935 = .ok (.aload_n 1, 1) := by decide +kernel
theorem dL_law_936 : decode cL_law 936 = .ok (.aload_n 0, 1) := by decide +kernel
theorem dL_law_937 : decode cL_law 937 = .ok (.iload_n 3, 1) := by decide +kernel
theorem dL_law_938 : decode cL_law 938 = .ok (.iconst 1, 1) := by decide +kernel
theorem dL_law_939 : decode cL_law 939 = .ok (.iadd, 1) := by decide +kernel
theorem dL_law_940 : decode cL_law 940 = .ok (.iaload, 1) := by decide +kernel
theorem dL_law_941 : decode cL_law 941 = .ok (.invokevirtual 103, 3) := by decide +kernel
theorem dL_law_944 : decode cL_law 944 = .ok (.aload_n 2, 1) := by decide +kernel
theorem dL_law_945 : decode cL_law 945 = .ok (.aload_n 0, 1) := by decide +kernel
theorem dL_law_946 : decode cL_law 946 = .ok (.iload_n 3, 1) := by decide +kernel
theorem dL_law_947 : decode cL_law 947 = .ok (.iconst 1, 1) := by decide +kernel
theorem dL_law_948 : decode cL_law 948 = .ok (.iadd, 1) := by decide +kernel
theorem dL_law_949 : decode cL_law 949 = .ok (.iaload, 1) := by decide +kernel
theorem dL_law_950 : decode cL_law 950 = .ok (.invokevirtual 106, 3) := by decide +kernel
theorem dL_law_953 : decode cL_law 953 = .ok (.if_icmp .eq 88, 3) := by decide +kernel
theorem dL_law_956 : decode cL_law 956 = .ok (.iconst 0, 1) := by decide +kernel
theorem dL_law_957 : decode cL_law 957 = .ok (.ireturn, 1) := by decide +kernel
theorem dL_law_958 : decode cL_law 958 = .ok (.aload_n 1, 1) := by decide +kernel
theorem dL_law_959 : decode cL_law 959 = .ok (.aload_n 0, 1) := by decide +kernel
theorem dL_law_960 : decode cL_law 960 = .ok (.iload_n 3, 1) := by decide +kernel
theorem dL_law_961 : decode cL_law 961 = .ok (.iconst 1, 1) := by decide +kernel
theorem dL_law_962 : decode cL_law 962 = .ok (.iadd, 1) := by decide +kernel
theorem dL_law_963 : decode cL_law 963 = .ok (.iaload, 1) := by decide +kernel
theorem dL_law_964 : decode cL_law 964 = .ok (.aload_n 0, 1) := by decide +kernel
theorem dL_law_965 : decode cL_law 965 = .ok (.iload_n 3, 1) := by decide +kernel
theorem dL_law_966 : decode cL_law 966 = .ok (.iconst 2, 1) := by decide +kernel
theorem dL_law_967 : decode cL_law 967 = .ok (.iadd, 1) := by decide +kernel
theorem dL_law_968 : decode cL_law 968 = .ok (.iaload, 1) := by decide +kernel
theorem dL_law_969 : decode cL_law 969 = .ok (.invokevirtual 107, 3) := by decide +kernel
theorem dL_law_972 : decode cL_law 972 = .ok (.aload_n 2, 1) := by decide +kernel
theorem dL_law_973 : decode cL_law 973 = .ok (.aload_n 0, 1) := by decide +kernel
theorem dL_law_974 : decode cL_law 974 = .ok (.iload_n 3, 1) := by decide +kernel
theorem dL_law_975 : decode cL_law 975 = .ok (.iconst 1, 1) := by decide +kernel
theorem dL_law_976 : decode cL_law 976 = .ok (.iadd, 1) := by decide +kernel
theorem dL_law_977 : decode cL_law 977 = .ok (.iaload, 1) := by decide +kernel
theorem dL_law_978 : decode cL_law 978 = .ok (.aload_n 0, 1) := by decide +kernel
theorem dL_law_979 : decode cL_law 979 = .ok (.iload_n 3, 1) := by decide +kernel
theorem dL_law_980 : decode cL_law 980 = .ok (.iconst 2, 1) := by decide +kernel
theorem dL_law_981 : decode cL_law 981 = .ok (.iadd, 1) := by decide +kernel
theorem dL_law_982 : decode cL_law 982 = .ok (.iaload, 1) := by decide +kernel
theorem dL_law_983 : decode cL_law 983 = .ok (.invokevirtual 110, 3) := by decide +kernel
theorem dL_law_986 : decode cL_law 986 = .ok (.if_icmp .eq 55, 3) := by decide +kernel
theorem dL_law_989 : decode cL_law 989 = .ok (.iconst 0, 1) := by decide +kernel
theorem dL_law_990 : decode cL_law 990 = .ok (.ireturn, 1) := by decide +kernel
theorem dL_law_991 : decode cL_law 991 = .ok (.aload_n 1, 1) := by decide +kernel
theorem dL_law_992 : decode cL_law 992 = .ok (.invokevirtual 111, 3) := by decide +kernel
theorem dL_law_995 : decode cL_law 995 = .ok (.aload_n 2, 1) := by decide +kernel
theorem dL_law_996 : decode cL_law 996 = .ok (.invokevirtual 114, 3) := by decide +kernel
theorem dL_law_999 : decode cL_law 999 = .ok (.if_icmp .eq 42, 3) := by decide +kernel
theorem dL_law_1002 : decode cL_law 1002 = .ok (.iconst 0, 1) := by decide +kernel
theorem dL_law_1003 : decode cL_law 1003 = .ok (.ireturn, 1) := by decide +kernel
theorem dL_law_1004 : decode cL_law 1004 = .ok (.aload_n 1, 1) := by decide +kernel
theorem dL_law_1005 : decode cL_law 1005 = .ok (.aload_n 0, 1) := by decide +kernel
theorem dL_law_1006 : decode cL_law 1006 = .ok (.iload_n 3, 1) := by decide +kernel
theorem dL_law_1007 : decode cL_law 1007 = .ok (.iconst 1, 1) := by decide +kernel
theorem dL_law_1008 : decode cL_law 1008 = .ok (.iadd, 1) := by decide +kernel
theorem dL_law_1009 : decode cL_law 1009 = .ok (.iaload, 1) := by decide +kernel
theorem dL_law_1010 : decode cL_law 1010 = .ok (.invokevirtual 115, 3) := by decide +kernel
theorem dL_law_1013 : decode cL_law 1013 = .ok (.aload_n 2, 1) := by decide +kernel
theorem dL_law_1014 : decode cL_law 1014 = .ok (.aload_n 0, 1) := by decide +kernel
theorem dL_law_1015 : decode cL_law 1015 = .ok (.iload_n 3, 1) := by decide +kernel
theorem dL_law_1016 : decode cL_law 1016 = .ok (.iconst 1, 1) := by decide +kernel
theorem dL_law_1017 : decode cL_law 1017 = .ok (.iadd, 1) := by decide +kernel
theorem dL_law_1018 : decode cL_law 1018 = .ok (.iaload, 1) := by decide +kernel
theorem dL_law_1019 : decode cL_law 1019 = .ok (.invokevirtual 118, 3) := by decide +kernel
theorem dL_law_1022 : decode cL_law 1022 = .ok (.if_icmp .eq 19, 3) := by decide +kernel
theorem dL_law_1025 : decode cL_law 1025 = .ok (.iconst 0, 1) := by decide +kernel
theorem dL_law_1026 : decode cL_law 1026 = .ok (.ireturn, 1) := by decide +kernel
theorem dL_law_1027 : decode cL_law 1027 = .ok (.aload_n 1, 1) := by decide +kernel
theorem dL_law_1028 : decode cL_law 1028 = .ok (.invokevirtual 119, 3) := by decide +kernel
theorem dL_law_1031 : decode cL_law 1031 = .ok (.aload_n 2, 1) := by decide +kernel
theorem dL_law_1032 : decode cL_law 1032 = .ok (.invokevirtual 123, 3) := by decide +kernel
theorem dL_law_1035 : decode cL_law 1035 = .ok (.lcmp, 1) := by decide +kernel
theorem dL_law_1036 : decode cL_law 1036 = .ok (.ifCond .eq 5, 3) := by decide +kernel
theorem dL_law_1039 : decode cL_law 1039 = .ok (.iconst 0, 1) := by decide +kernel
theorem dL_law_1040 : decode cL_law 1040 = .ok (.ireturn, 1) := by decide +kernel
theorem dL_law_1041 : decode cL_law 1041 = .ok (.iinc 3 6, 3) := by decide +kernel
theorem dL_law_1044 : decode cL_law 1044 = .ok (.goto (-1026), 3) := by decide +kernel
theorem dL_law_1047 : decode cL_law 1047 = .ok (.iconst 1, 1) := by decide +kernel
theorem dL_law_1048 : decode cL_law 1048 = .ok (.ireturn, 1) := by decide +kernel
