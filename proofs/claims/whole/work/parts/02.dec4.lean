theorem dX12_init_188 : decode cX12_init 188 = .ok (.iload_n 1, 1) := by decide +kernel
theorem dX12_init_189 : decode cX12_init 189 = .ok (.imul, 1) := by decide +kernel
theorem dX12_init_190 : decode cX12_init 190 = .ok (.iload_n 2, 1) := by decide +kernel
theorem dX12_init_191 : decode cX12_init 191 = .ok (.iadd, 1) := by decide +kernel
theorem dX12_init_192 : decode cX12_init 192 = .ok (.iload_n 2, 1) := by decide +kernel
theorem dX12_init_193 : decode cX12_init 193 = .ok (.ifCond .ne 7, 3) := by decide +kernel
theorem dX12_init_196 : decode cX12_init 196 = .ok (.iconst 1, 1) := by decide +kernel
theorem dX12_init_197 : decode cX12_init 197 = .ok (.goto 36, 3) := by decide +kernel
theorem dX12_init_200 : decode cX12_init 200 = .ok (.aload_n 0, 1) := by decide +kernel
theorem dX12_init_201 : decode cX12_init 201 = .ok (.getfield 31, 3) := by decide +kernel
theorem dX12_init_204 : decode cX12_init 204 = .ok (.bipush 31, 2) := by decide +kernel
theorem dX12_init_206 : decode cX12_init 206 = .ok (.iload_n 1, 1) := by decide +kernel
theorem dX12_init_207 : decode cX12_init 207 = .ok (.imul, 1) := by decide +kernel
theorem dX12_init_208 : decode cX12_init 208 = .ok (.iload_n 2, 1) := by decide +kernel
theorem dX12_init_209 : decode cX12_init 209 = .ok (.iadd, 1) := by decide +kernel
theorem dX12_init_210 : decode cX12_init 210 = .ok (.bipush 31, 2) := by decide +kernel
theorem dX12_init_212 : decode cX12_init 212 = .ok (.isub, 1) := by decide +kernel
theorem dX12_init_213 : decode cX12_init 213 = .ok (.iaload, 1) := by decide +kernel
theorem dX12_init_214 : decode cX12_init 214 = .ok (.aload_n 0, 1) := by decide +kernel
theorem dX12_init_215 : decode cX12_init 215 = .ok (.getfield 31, 3) := by decide +kernel
theorem dX12_init_218 : decode cX12_init 218 = .ok (.bipush 31, 2) := by decide +kernel
theorem dX12_init_220 : decode cX12_init 220 = .ok (.iload_n 1, 1) := by decide +kernel
theorem dX12_init_221 : decode cX12_init 221 = .ok (.imul, 1) := by decide +kernel
theorem dX12_init_222 : decode cX12_init 222 = .ok (.iload_n 2, 1) := by decide +kernel
theorem dX12_init_223 : decode cX12_init 223 = .ok (.iadd, 1) := by decide +kernel
theorem dX12_init_224 : decode cX12_init 224 = .ok (.bipush 32, 2) := by decide +kernel
theorem dX12_init_226 : decode cX12_init 226 = .ok (.isub, 1) := by decide +kernel
theorem dX12_init_227 : decode cX12_init 227 = .ok (.iaload, 1) := by decide +kernel
theorem dX12_init_228 : decode cX12_init 228 = .ok (.iadd, 1) := by decide +kernel
theorem dX12_init_229 : decode cX12_init 229 = .ok (.sipush 10007, 3) := by decide +kernel
theorem dX12_init_232 : decode cX12_init 232 = .ok (.irem, 1) := by decide +kernel
theorem dX12_init_233 : decode cX12_init 233 = .ok (.iastore, 1) := by decide +kernel
theorem dX12_init_234 : decode cX12_init 234 = .ok (.iinc 2 1, 3) := by decide +kernel
theorem dX12_init_237 : decode cX12_init 237 = .ok (.goto (-88), 3) := by decide +kernel
theorem dX12_init_240 : decode cX12_init 240 = .ok (.iinc 1 1, 3) := by decide +kernel
theorem dX12_init_243 : decode cX12_init 243 = .ok (.goto (-102), 3) := by decide +kernel
theorem dX12_init_246 : decode cX12_init 246 = .ok (.return_, 1) := by decide +kernel
theorem dX12_in_0 : decode cX12_in 0 = .ok (.iload_n 0, 1) := by decide +kernel
theorem dX12_in_1 : decode cX12_in 1 = .ok (.iload_n 1, 1) := by decide +kernel
theorem dX12_in_2 : decode cX12_in 2 = .ok (.if_icmp .lt 12, 3) := by decide +kernel
theorem dX12_in_5 : decode cX12_in 5 = .ok (.iload_n 0, 1) := by decide +kernel
theorem dX12_in_6 : decode cX12_in 6 = .ok (.iload_n 2, 1) := by decide +kernel
theorem dX12_in_7 : decode cX12_in 7 = .ok (.if_icmp .gt 7, 3) := by decide +kernel
theorem dX12_in_10 : decode cX12_in 10 = .ok (.iconst 1, 1) := by decide +kernel
theorem dX12_in_11 : decode cX12_in 11 = .ok (.goto 4, 3) := by decide +kernel
theorem dX12_in_14 : decode cX12_in 14 = .ok (.iconst 0, 1) := by decide +kernel
theorem dX12_in_15 : decode cX12_in 15 = .ok (.ireturn, 1) := by decide +kernel
theorem dX12_wordAt_0 : decode cX12_wordAt 0 = .ok (.iload_n 0, 1) := by decide +kernel
theorem dX12_wordAt_1 : decode cX12_wordAt 1 = .ok (.iload_n 1, 1) := by decide +kernel
theorem dX12_wordAt_2 : decode cX12_wordAt 2 = .ok (.iadd, 1) := by decide +kernel
theorem dX12_wordAt_3 : decode cX12_wordAt 3 = .ok (.iload_n 0, 1) := by decide +kernel
theorem dX12_wordAt_4 : decode cX12_wordAt 4 = .ok (.iload_n 1, 1) := by decide +kernel
theorem dX12_wordAt_5 : decode cX12_wordAt 5 = .ok (.iadd, 1) := by decide +kernel
theorem dX12_wordAt_6 : decode cX12_wordAt 6 = .ok (.iconst 1, 1) := by decide +kernel
theorem dX12_wordAt_7 : decode cX12_wordAt 7 = .ok (.iadd, 1) := by decide +kernel
theorem dX12_wordAt_8 : decode cX12_wordAt 8 = .ok (.imul, 1) := by decide +kernel
theorem dX12_wordAt_9 : decode cX12_wordAt 9 = .ok (.iconst 2, 1) := by decide +kernel
theorem dX12_wordAt_10 : decode cX12_wordAt 10 = .ok (.idiv, 1) := by decide +kernel
theorem dX12_wordAt_11 : decode cX12_wordAt 11 = .ok (.iload_n 1, 1) := by decide +kernel
theorem dX12_wordAt_12 : decode cX12_wordAt 12 = .ok (.iadd, 1) := by decide +kernel
theorem dX12_wordAt_13 : decode cX12_wordAt 13 = .ok (.ireturn, 1) := by decide +kernel
theorem dX12_restOf_0 : decode cX12_restOf 0 = .ok (.iload_n 0, 1) := by decide +kernel
theorem dX12_restOf_1 : decode cX12_restOf 1 = .ok (.sipush 10007, 3) := by decide +kernel
theorem dX12_restOf_4 : decode cX12_restOf 4 = .ok (.irem, 1) := by decide +kernel
theorem dX12_restOf_5 : decode cX12_restOf 5 = .ok (.istore_n 1, 1) := by decide +kernel
theorem dX12_restOf_6 : decode cX12_restOf 6 = .ok (.iload_n 1, 1) := by decide +kernel
theorem dX12_restOf_7 : decode cX12_restOf 7 = .ok (.ifCond .ge 11, 3) := by decide +kernel
theorem dX12_restOf_10 : decode cX12_restOf 10 = .ok (.iload_n 1, 1) := by decide +kernel
theorem dX12_restOf_11 : decode cX12_restOf 11 = .ok (.sipush 10007, 3) := by decide +kernel
theorem dX12_restOf_14 : decode cX12_restOf 14 = .ok (.iadd, 1) := by decide +kernel
theorem dX12_restOf_15 : decode cX12_restOf 15 = .ok (.goto 4, 3) := by decide +kernel
theorem dX12_restOf_18 : decode cX12_restOf 18 = .ok (.iload_n 1, 1) := by decide +kernel
theorem dX12_restOf_19 : decode cX12_restOf 19 = .ok (.ireturn, 1) := by decide +kernel
theorem dX12_tell_0 : decode cX12_tell 0 = .ok (.iload_n 0, 1) := by decide +kernel
theorem dX12_tell_1 : decode cX12_tell 1 = .ok (.sipush 5003, 3) := by decide +kernel
theorem dX12_tell_4 : decode cX12_tell 4 = .ok (.if_icmp .le 11, 3) := by decide +kernel
theorem dX12_tell_7 : decode cX12_tell 7 = .ok (.iload_n 0, 1) := by decide +kernel
theorem dX12_tell_8 : decode cX12_tell 8 = .ok (.sipush 10007, 3) := by decide +kernel
theorem dX12_tell_11 : decode cX12_tell 11 = .ok (.isub, 1) := by decide +kernel
theorem dX12_tell_12 : decode cX12_tell 12 = .ok (.goto 4, 3) := by decide +kernel
theorem dX12_tell_15 : decode cX12_tell 15 = .ok (.iload_n 0, 1) := by decide +kernel
theorem dX12_tell_16 : decode cX12_tell 16 = .ok (.ireturn, 1) := by decide +kernel
theorem dX12_bad_0 : decode cX12_bad 0 = .ok (.aload_n 0, 1) := by decide +kernel
theorem dX12_bad_1 : decode cX12_bad 1 = .ok (.getfield 16, 3) := by decide +kernel
theorem dX12_bad_4 : decode cX12_bad 4 = .ok (.iconst 0, 1) := by decide +kernel
theorem dX12_bad_5 : decode cX12_bad 5 = .ok (.dup2, 1) := by decide +kernel
theorem dX12_bad_6 : decode cX12_bad 6 = .ok (.iaload, 1) := by decide +kernel
theorem dX12_bad_7 : decode cX12_bad 7 = .ok (.iconst 1, 1) := by decide +kernel
theorem dX12_bad_8 : decode cX12_bad 8 = .ok (.iadd, 1) := by decide +kernel
theorem dX12_bad_9 : decode cX12_bad 9 = .ok (.iastore, 1) := by decide +kernel
theorem dX12_bad_10 : decode cX12_bad 10 = .ok (.sipush (-20002), 3) := by decide +kernel
theorem dX12_bad_13 : decode cX12_bad 13 = .ok (.ireturn, 1) := by decide +kernel
theorem dX12_no_0 : decode cX12_no 0 = .ok (.aload_n 0, 1) := by decide +kernel
theorem dX12_no_1 : decode cX12_no 1 = .ok (.getfield 16, 3) := by decide +kernel
theorem dX12_no_4 : decode cX12_no 4 = .ok (.iconst 1, 1) := by decide +kernel
theorem dX12_no_5 : decode cX12_no 5 = .ok (.dup2, 1) := by decide +kernel
theorem dX12_no_6 : decode cX12_no 6 = .ok (.iaload, 1) := by decide +kernel
theorem dX12_no_7 : decode cX12_no 7 = .ok (.iconst 1, 1) := by decide +kernel
theorem dX12_no_8 : decode cX12_no 8 = .ok (.iadd, 1) := by decide +kernel
theorem dX12_no_9 : decode cX12_no 9 = .ok (.iastore, 1) := by decide +kernel
theorem dX12_no_10 : decode cX12_no 10 = .ok (.sipush (-20003), 3) := by decide +kernel
theorem dX12_no_13 : decode cX12_no 13 = .ok (.ireturn, 1) := by decide +kernel
theorem dX12_full_0 : decode cX12_full 0 = .ok (.aload_n 0, 1) := by decide +kernel
theorem dX12_full_1 : decode cX12_full 1 = .ok (.getfield 16, 3) := by decide +kernel
theorem dX12_full_4 : decode cX12_full 4 = .ok (.iconst 2, 1) := by decide +kernel
theorem dX12_full_5 : decode cX12_full 5 = .ok (.dup2, 1) := by decide +kernel
theorem dX12_full_6 : decode cX12_full 6 = .ok (.iaload, 1) := by decide +kernel
theorem dX12_full_7 : decode cX12_full 7 = .ok (.iconst 1, 1) := by decide +kernel
theorem dX12_full_8 : decode cX12_full 8 = .ok (.iadd, 1) := by decide +kernel
theorem dX12_full_9 : decode cX12_full 9 = .ok (.iastore, 1) := by decide +kernel
theorem dX12_full_10 : decode cX12_full 10 = .ok (.sipush (-20004), 3) := by decide +kernel
theorem dX12_full_13 : decode cX12_full 13 = .ok (.ireturn, 1) := by decide +kernel
theorem dX12_remembers_0 : decode cX12_remembers 0 = .ok (.aload_n 0, 1) := by decide +kernel
theorem dX12_remembers_1 : decode cX12_remembers 1 = .ok (.iconst 0, 1) := by decide +kernel
theorem dX12_remembers_2 : decode cX12_remembers 2 = .ok (.putfield 63, 3) := by decide +kernel
theorem dX12_remembers_5 : decode cX12_remembers 5 = .ok (.aload_n 0, 1) := by decide +kernel
theorem dX12_remembers_6 : decode cX12_remembers 6 = .ok (.getfield 67, 3) := by decide +kernel
theorem dX12_remembers_9 : decode cX12_remembers 9 = .ok (.iconst 5, 1) := by decide +kernel
theorem dX12_remembers_10 : decode cX12_remembers 10 = .ok (.if_icmp .ne 44, 3) := by decide +kernel
theorem dX12_remembers_13 : decode cX12_remembers 13 = .ok (.iconst 0, 1) := by decide +kernel
theorem dX12_remembers_14 : decode cX12_remembers 14 = .ok (.istore_n 1, 1) := by decide +kernel
theorem dX12_remembers_15 : decode cX12_remembers 15 = .ok (.iload_n 1, 1) := by decide +kernel
theorem dX12_remembers_16 : decode cX12_remembers 16 = .ok (.sipush 2436, 3) := by decide +kernel
theorem dX12_remembers_19 : decode cX12_remembers 19 = .ok (.if_icmp .ge 25, 3) := by decide +kernel
theorem dX12_remembers_22 : decode cX12_remembers 22 = .ok (.aload_n 0, 1) := by decide +kernel
theorem dX12_remembers_23 : decode cX12_remembers 23 = .ok (.getfield 13, 3) := by decide +kernel
theorem dX12_remembers_26 : decode cX12_remembers 26 = .ok (.iload_n 1, 1) := by decide +kernel
theorem dX12_remembers_27 : decode cX12_remembers 27 = .ok (.aload_n 0, 1) := by decide +kernel
theorem dX12_remembers_28 : decode cX12_remembers 28 = .ok (.getfield 13, 3) := by decide +kernel
theorem dX12_remembers_31 : decode cX12_remembers 31 = .ok (.iload_n 1, 1) := by decide +kernel
theorem dX12_remembers_32 : decode cX12_remembers 32 = .ok (.sipush 609, 3) := by decide +kernel
theorem dX12_remembers_35 : decode cX12_remembers 35 = .ok (.iadd, 1) := by decide +kernel
theorem dX12_remembers_36 : decode cX12_remembers 36 = .ok (.iaload, 1) := by decide +kernel
theorem dX12_remembers_37 : decode cX12_remembers 37 = .ok (.iastore, 1) := by decide +kernel
theorem dX12_remembers_38 : decode cX12_remembers 38 = .ok (.iinc 1 1, 3) := by decide +kernel
theorem dX12_remembers_41 : decode cX12_remembers 41 = .ok (.goto (-26), 3) := by decide +kernel
theorem dX12_remembers_44 : decode cX12_remembers 44 = .ok (.aload_n 0, 1) := by decide +kernel
theorem dX12_remembers_45 : decode cX12_remembers 45 = .ok (.dup, 1) := by decide +kernel
theorem dX12_remembers_46 : decode cX12_remembers 46 = .ok (.getfield 67, 3) := by decide +kernel
theorem dX12_remembers_49 : decode cX12_remembers 49 = .ok (.iconst 1, 1) := by decide +kernel
theorem dX12_remembers_50 : decode cX12_remembers 50 = .ok (.isub, 1) := by decide +kernel
theorem dX12_remembers_51 : decode cX12_remembers 51 = .ok (.putfield 67, 3) := by decide +kernel
theorem dX12_remembers_54 : decode cX12_remembers 54 = .ok (.iconst 0, 1) := by decide +kernel
theorem dX12_remembers_55 : decode cX12_remembers 55 = .ok (.istore_n 1, 1) := by decide +kernel
theorem dX12_remembers_56 : decode cX12_remembers 56 = .ok (.iload_n 1, 1) := by decide +kernel
theorem dX12_remembers_57 : decode cX12_remembers 57 = .ok (.sipush 609, 3) := by decide +kernel
theorem dX12_remembers_60 : decode cX12_remembers 60 = .ok (.if_icmp .ge 30, 3) := by decide +kernel
theorem dX12_remembers_63 : decode cX12_remembers 63 = .ok (.aload_n 0, 1) := by decide +kernel
theorem dX12_remembers_64 : decode cX12_remembers 64 = .ok (.getfield 13, 3) := by decide +kernel
theorem dX12_remembers_67 : decode cX12_remembers 67 = .ok (.sipush 609, 3) := by decide +kernel
theorem dX12_remembers_70 : decode cX12_remembers 70 = .ok (.aload_n 0, 1) := by decide +kernel
theorem dX12_remembers_71 : decode cX12_remembers 71 = .ok (.getfield 67, 3) := by decide +kernel
theorem dX12_remembers_74 : decode cX12_remembers 74 = .ok (.imul, 1) := by decide +kernel
theorem dX12_remembers_75 : decode cX12_remembers 75 = .ok (.iload_n 1, 1) := by decide +kernel
theorem dX12_remembers_76 : decode cX12_remembers 76 = .ok (.iadd, 1) := by decide +kernel
theorem dX12_remembers_77 : decode cX12_remembers 77 = .ok (.aload_n 0, 1) := by decide +kernel
theorem dX12_remembers_78 : decode cX12_remembers 78 = .ok (.getfield 7, 3) := by decide +kernel
theorem dX12_remembers_81 : decode cX12_remembers 81 = .ok (.iload_n 1, 1) := by decide +kernel
theorem dX12_remembers_82 : decode cX12_remembers 82 = .ok (.iaload, 1) := by decide +kernel
theorem dX12_remembers_83 : decode cX12_remembers 83 = .ok (.iastore, 1) := by decide +kernel
theorem dX12_remembers_84 : decode cX12_remembers 84 = .ok (.iinc 1 1, 3) := by decide +kernel
theorem dX12_remembers_87 : decode cX12_remembers 87 = .ok (.goto (-31), 3) := by decide +kernel
theorem dX12_remembers_90 : decode cX12_remembers 90 = .ok (.aload_n 0, 1) := by decide +kernel
theorem dX12_remembers_91 : decode cX12_remembers 91 = .ok (.dup, 1) := by decide +kernel
theorem dX12_remembers_92 : decode cX12_remembers 92 = .ok (.getfield 67, 3) := by decide +kernel
theorem dX12_remembers_95 : decode cX12_remembers 95 = .ok (.iconst 1, 1) := by decide +kernel
theorem dX12_remembers_96 : decode cX12_remembers 96 = .ok (.iadd, 1) := by decide +kernel
theorem dX12_remembers_97 : decode cX12_remembers 97 = .ok (.putfield 67, 3) := by decide +kernel
theorem dX12_remembers_100 : decode cX12_remembers 100 = .ok (.return_, 1) := by decide +kernel
theorem dX12_back_0 : decode cX12_back 0 = .ok (.aload_n 0, 1) := by decide +kernel
theorem dX12_back_1 : decode cX12_back 1 = .ok (.getfield 67, 3) := by decide +kernel
theorem dX12_back_4 : decode cX12_back 4 = .ok (.ifCond .ne 8, 3) := by decide +kernel
theorem dX12_back_7 : decode cX12_back 7 = .ok (.aload_n 0, 1) := by decide +kernel
theorem dX12_back_8 : decode cX12_back 8 = .ok (.invokevirtual 70, 3) := by decide +kernel
theorem dX12_back_11 : decode cX12_back 11 = .ok (.ireturn, 1) := by decide +kernel
theorem dX12_back_12 : decode cX12_back 12 = .ok (.aload_n 0, 1) := by decide +kernel
theorem dX12_back_13 : decode cX12_back 13 = .ok (.dup, 1) := by decide +kernel
theorem dX12_back_14 : decode cX12_back 14 = .ok (.getfield 67, 3) := by decide +kernel
theorem dX12_back_17 : decode cX12_back 17 = .ok (.iconst 1, 1) := by decide +kernel
theorem dX12_back_18 : decode cX12_back 18 = .ok (.isub, 1) := by decide +kernel
theorem dX12_back_19 : decode cX12_back 19 = .ok (.putfield 67, 3) := by decide +kernel
theorem dX12_back_22 : decode cX12_back 22 = .ok (.aload_n 0, 1) := by decide +kernel
theorem dX12_back_23 : decode cX12_back 23 = .ok (.iconst 0, 1) := by decide +kernel
theorem dX12_back_24 : decode cX12_back 24 = .ok (.putfield 63, 3) := by decide +kernel
theorem dX12_back_27 : decode cX12_back 27 = .ok (.iconst 0, 1) := by decide +kernel
theorem dX12_back_28 : decode cX12_back 28 = .ok (.istore_n 1, 1) := by decide +kernel
theorem dX12_back_29 : decode cX12_back 29 = .ok (.iload_n 1, 1) := by decide +kernel
theorem dX12_back_30 : decode cX12_back 30 = .ok (.sipush 609, 3) := by decide +kernel
theorem dX12_back_33 : decode cX12_back 33 = .ok (.if_icmp .ge 30, 3) := by decide +kernel
theorem dX12_back_36 : decode cX12_back 36 = .ok (.aload_n 0, 1) := by decide +kernel
theorem dX12_back_37 : decode cX12_back 37 = .ok (.getfield 7, 3) := by decide +kernel
theorem dX12_back_40 : decode cX12_back 40 = .ok (.iload_n 1, 1) := by decide +kernel
theorem dX12_back_41 : decode cX12_back 41 = .ok (.aload_n 0, 1) := by decide +kernel
theorem dX12_back_42 : decode cX12_back 42 = .ok (.getfield 13, 3) := by decide +kernel
theorem dX12_back_45 : decode cX12_back 45 = .ok (.sipush 609, 3) := by decide +kernel
theorem dX12_back_48 : decode cX12_back 48 = .ok (.aload_n 0, 1) := by decide +kernel
theorem dX12_back_49 : decode cX12_back 49 = .ok (.getfield 67, 3) := by decide +kernel
theorem dX12_back_52 : decode cX12_back 52 = .ok (.imul, 1) := by decide +kernel
theorem dX12_back_53 : decode cX12_back 53 = .ok (.iload_n 1, 1) := by decide +kernel
theorem dX12_back_54 : decode cX12_back 54 = .ok (.iadd, 1) := by decide +kernel
theorem dX12_back_55 : decode cX12_back 55 = .ok (.iaload, 1) := by decide +kernel
theorem dX12_back_56 : decode cX12_back 56 = .ok (.iastore, 1) := by decide +kernel
theorem dX12_back_57 : decode cX12_back 57 = .ok (.iinc 1 1, 3) := by decide +kernel
theorem dX12_back_60 : decode cX12_back 60 = .ok (.goto (-31), 3) := by decide +kernel
theorem dX12_back_63 : decode cX12_back 63 = .ok (.aload_n 0, 1) := by decide +kernel
theorem dX12_back_64 : decode cX12_back 64 = .ok (.getfield 67, 3) := by decide +kernel
theorem dX12_back_67 : decode cX12_back 67 = .ok (.ireturn, 1) := by decide +kernel
theorem dX12_isOperator_0 : decode cX12_isOperator 0 = .ok (.iload_n 0, 1) := by decide +kernel
theorem dX12_isOperator_1 : decode cX12_isOperator 1 = .ok (.iconst 0, 1) := by decide +kernel
theorem dX12_isOperator_2 : decode cX12_isOperator 2 = .ok (.iconst 5, 1) := by decide +kernel
theorem dX12_isOperator_3 : decode cX12_isOperator 3 = .ok (.invokestatic 74, 3) := by decide +kernel
theorem dX12_isOperator_6 : decode cX12_isOperator 6 = .ok (.ireturn, 1) := by decide +kernel
theorem dX12_isWord_0 : decode cX12_isWord 0 = .ok (.iload_n 0, 1) := by decide +kernel
theorem dX12_isWord_1 : decode cX12_isWord 1 = .ok (.iconst 0, 1) := by decide +kernel
theorem dX12_isWord_2 : decode cX12_isWord 2 = .ok (.bipush 12, 2) := by decide +kernel
theorem dX12_isWord_4 : decode cX12_isWord 4 = .ok (.invokestatic 74, 3) := by decide +kernel
theorem dX12_isWord_7 : decode cX12_isWord 7 = .ok (.ifCond .eq 19, 3) := by decide +kernel
theorem dX12_isWord_10 : decode cX12_isWord 10 = .ok (.iload_n 1, 1) := by decide +kernel
theorem dX12_isWord_11 : decode cX12_isWord 11 = .ok (.iconst 0, 1) := by decide +kernel
theorem dX12_isWord_12 : decode cX12_isWord 12 = .ok (.bipush 12, 2) := by decide +kernel
theorem dX12_isWord_14 : decode cX12_isWord 14 = .ok (.iload_n 0, 1) := by decide +kernel
theorem dX12_isWord_15 : decode cX12_isWord 15 = .ok (.isub, 1) := by decide +kernel
theorem dX12_isWord_16 : decode cX12_isWord 16 = .ok (.invokestatic 74, 3) := by decide +kernel
theorem dX12_isWord_19 : decode cX12_isWord 19 = .ok (.ifCond .eq 7, 3) := by decide +kernel
theorem dX12_isWord_22 : decode cX12_isWord 22 = .ok (.iconst 1, 1) := by decide +kernel
theorem dX12_isWord_23 : decode cX12_isWord 23 = .ok (.goto 4, 3) := by decide +kernel
theorem dX12_isWord_26 : decode cX12_isWord 26 = .ok (.iconst 0, 1) := by decide +kernel
theorem dX12_isWord_27 : decode cX12_isWord 27 = .ok (.ireturn, 1) := by decide +kernel
theorem dX12_wipe_0 : decode cX12_wipe 0 = .ok (.iconst 0, 1) := by decide +kernel
theorem dX12_wipe_1 : decode cX12_wipe 1 = .ok (.istore_n 2, 1) := by decide +kernel
theorem dX12_wipe_2 : decode cX12_wipe 2 = .ok (.iload_n 2, 1) := by decide +kernel
theorem dX12_wipe_3 : decode cX12_wipe 3 = .ok (.sipush 496, 3) := by decide +kernel
theorem dX12_wipe_6 : decode cX12_wipe 6 = .ok (.if_icmp .ge 22, 3) := by decide +kernel
theorem dX12_wipe_9 : decode cX12_wipe 9 = .ok (.aload_n 0, 1) := by decide +kernel
theorem dX12_wipe_10 : decode cX12_wipe 10 = .ok (.getfield 22, 3) := by decide +kernel
theorem dX12_wipe_13 : decode cX12_wipe 13 = .ok (.sipush 496, 3) := by decide +kernel
theorem dX12_wipe_16 : decode cX12_wipe 16 = .ok (.iload_n 1, 1) := by decide +kernel
theorem dX12_wipe_17 : decode cX12_wipe 17 = .ok (.imul, 1) := by decide +kernel
theorem dX12_wipe_18 : decode cX12_wipe 18 = .ok (.iload_n 2, 1) := by decide +kernel
theorem dX12_wipe_19 : decode cX12_wipe 19 = .ok (.iadd, 1) := by decide +kernel
theorem dX12_wipe_20 : decode cX12_wipe 20 = .ok (.iconst 0, 1) := by decide +kernel
theorem dX12_wipe_21 : decode cX12_wipe 21 = .ok (.iastore, 1) := by decide +kernel
theorem dX12_wipe_22 : decode cX12_wipe 22 = .ok (.iinc 2 1, 3) := by decide +kernel
theorem dX12_wipe_25 : decode cX12_wipe 25 = .ok (.goto (-23), 3) := by decide +kernel
theorem dX12_wipe_28 : decode cX12_wipe 28 = .ok (.return_, 1) := by decide +kernel
theorem dX12_copies_0 : decode cX12_copies 0 = .ok (.iconst 0, 1) := by decide +kernel
theorem dX12_copies_1 : decode cX12_copies 1 = .ok (.istore_n 3, 1) := by decide +kernel
theorem dX12_copies_2 : decode cX12_copies 2 = .ok (.iload_n 3, 1) := by decide +kernel
theorem dX12_copies_3 : decode cX12_copies 3 = .ok (.sipush 496, 3) := by decide +kernel
theorem dX12_copies_6 : decode cX12_copies 6 = .ok (.if_icmp .ge 33, 3) := by decide +kernel
theorem dX12_copies_9 : decode cX12_copies 9 = .ok (.aload_n 0, 1) := by decide +kernel
theorem dX12_copies_10 : decode cX12_copies 10 = .ok (.getfield 22, 3) := by decide +kernel
theorem dX12_copies_13 : decode cX12_copies 13 = .ok (.sipush 496, 3) := by decide +kernel
theorem dX12_copies_16 : decode cX12_copies 16 = .ok (.iload_n 2, 1) := by decide +kernel
theorem dX12_copies_17 : decode cX12_copies 17 = .ok (.imul, 1) := by decide +kernel
theorem dX12_copies_18 : decode cX12_copies 18 = .ok (.iload_n 3, 1) := by decide +kernel
theorem dX12_copies_19 : decode cX12_copies 19 = .ok (.iadd, 1) := by decide +kernel
theorem dX12_copies_20 : decode cX12_copies 20 = .ok (.aload_n 0, 1) := by decide +kernel
theorem dX12_copies_21 : decode cX12_copies 21 = .ok (.getfield 22, 3) := by decide +kernel
theorem dX12_copies_24 : decode cX12_copies 24 = .ok (.sipush 496, 3) := by decide +kernel
theorem dX12_copies_27 : decode cX12_copies 27 = .ok (.iload_n 1, 1) := by decide +kernel
theorem dX12_copies_28 : decode cX12_copies 28 = .ok (.imul, 1) := by decide +kernel
theorem dX12_copies_29 : decode cX12_copies 29 = .ok (.iload_n 3, 1) := by decide +kernel
theorem dX12_copies_30 : decode cX12_copies 30 = .ok (.iadd, 1) := by decide +kernel
theorem dX12_copies_31 : decode cX12_copies 31 = .ok (.iaload, 1) := by decide +kernel
theorem dX12_copies_32 : decode cX12_copies 32 = .ok (.iastore, 1) := by decide +kernel
theorem dX12_copies_33 : decode cX12_copies 33 = .ok (.iinc 3 1, 3) := by decide +kernel
theorem dX12_copies_36 : decode cX12_copies 36 = .ok (.goto (-34), 3) := by decide +kernel
theorem dX12_copies_39 : decode cX12_copies 39 = .ok (.return_, 1) := by decide +kernel
theorem dX12_fetches_0 : decode cX12_fetches 0 = .ok (.aload_n 0, 1) := by decide +kernel
theorem dX12_fetches_1 : decode cX12_fetches 1 = .ok (.iload_n 2, 1) := by decide +kernel
theorem dX12_fetches_2 : decode cX12_fetches 2 = .ok (.invokevirtual 78, 3) := by decide +kernel
theorem dX12_fetches_5 : decode cX12_fetches 5 = .ok (.iconst 0, 1) := by decide +kernel
theorem dX12_fetches_6 : decode cX12_fetches 6 = .ok (.istore_n 3, 1) := by decide +kernel
theorem dX12_fetches_7 : decode cX12_fetches 7 = .ok (.iload_n 3, 1) := by decide +kernel
theorem dX12_fetches_8 : decode cX12_fetches 8 = .ok (.bipush 91, 2) := by decide +kernel
theorem dX12_fetches_10 : decode cX12_fetches 10 = .ok (.if_icmp .ge 32, 3) := by decide +kernel
theorem dX12_fetches_13 : decode cX12_fetches 13 = .ok (.aload_n 0, 1) := by decide +kernel
theorem dX12_fetches_14 : decode cX12_fetches 14 = .ok (.getfield 22, 3) := by decide +kernel
theorem dX12_fetches_17 : decode cX12_fetches 17 = .ok (.sipush 496, 3) := by decide +kernel
theorem dX12_fetches_20 : decode cX12_fetches 20 = .ok (.iload_n 2, 1) := by decide +kernel
theorem dX12_fetches_21 : decode cX12_fetches 21 = .ok (.imul, 1) := by decide +kernel
theorem dX12_fetches_22 : decode cX12_fetches 22 = .ok (.iload_n 3, 1) := by decide +kernel
theorem dX12_fetches_23 : decode cX12_fetches 23 = .ok (.iadd, 1) := by decide +kernel
theorem dX12_fetches_24 : decode cX12_fetches 24 = .ok (.aload_n 0, 1) := by decide +kernel
theorem dX12_fetches_25 : decode cX12_fetches 25 = .ok (.getfield 7, 3) := by decide +kernel
theorem dX12_fetches_28 : decode cX12_fetches 28 = .ok (.bipush 91, 2) := by decide +kernel
theorem dX12_fetches_30 : decode cX12_fetches 30 = .ok (.iload_n 1, 1) := by decide +kernel
theorem dX12_fetches_31 : decode cX12_fetches 31 = .ok (.imul, 1) := by decide +kernel
theorem dX12_fetches_32 : decode cX12_fetches 32 = .ok (.iload_n 3, 1) := by decide +kernel
theorem dX12_fetches_33 : decode cX12_fetches 33 = .ok (.iadd, 1) := by decide +kernel
theorem dX12_fetches_34 : decode cX12_fetches 34 = .ok (.iaload, 1) := by decide +kernel
theorem dX12_fetches_35 : decode cX12_fetches 35 = .ok (.iastore, 1) := by decide +kernel
theorem dX12_fetches_36 : decode cX12_fetches 36 = .ok (.iinc 3 1, 3) := by decide +kernel
theorem dX12_fetches_39 : decode cX12_fetches 39 = .ok (.goto (-32), 3) := by decide +kernel
theorem dX12_fetches_42 : decode cX12_fetches 42 = .ok (.return_, 1) := by decide +kernel
theorem dX12_termsIn_0 : decode cX12_termsIn 0 = .ok (.iconst 0, 1) := by decide +kernel
theorem dX12_termsIn_1 : decode cX12_termsIn 1 = .ok (.istore_n 2, 1) := by decide +kernel
theorem dX12_termsIn_2 : decode cX12_termsIn 2 = .ok (.iconst 0, 1) := by decide +kernel
theorem dX12_termsIn_3 : decode cX12_termsIn 3 = .ok (.istore_n 3, 1) := by decide +kernel
theorem dX12_termsIn_4 : decode cX12_termsIn 4 = .ok (.iload_n 3, 1) := by decide +kernel
theorem dX12_termsIn_5 : decode cX12_termsIn 5 = .ok (.sipush 496, 3) := by decide +kernel
theorem dX12_termsIn_8 : decode cX12_termsIn 8 = .ok (.if_icmp .ge 32, 3) := by decide +kernel
theorem dX12_termsIn_11 : decode cX12_termsIn 11 = .ok (.iload_n 2, 1) := by decide +kernel
theorem dX12_termsIn_12 : decode cX12_termsIn 12 = .ok (.aload_n 0, 1) := by decide +kernel
theorem dX12_termsIn_13 : decode cX12_termsIn 13 = .ok (.getfield 22, 3) := by decide +kernel
theorem dX12_termsIn_16 : decode cX12_termsIn 16 = .ok (.sipush 496, 3) := by decide +kernel
theorem dX12_termsIn_19 : decode cX12_termsIn 19 = .ok (.iload_n 1, 1) := by decide +kernel
theorem dX12_termsIn_20 : decode cX12_termsIn 20 = .ok (.imul, 1) := by decide +kernel
theorem dX12_termsIn_21 : decode cX12_termsIn 21 = .ok (.iload_n 3, 1) := by decide +kernel
theorem dX12_termsIn_22 : decode cX12_termsIn 22 = .ok (.iadd, 1) := by decide +kernel
theorem dX12_termsIn_23 : decode cX12_termsIn 23 = .ok (.iaload, 1) := by decide +kernel
theorem dX12_termsIn_24 : decode cX12_termsIn 24 = .ok (.ifCond .ne 7, 3) := by decide +kernel
theorem dX12_termsIn_27 : decode cX12_termsIn 27 = .ok (.iconst 0, 1) := by decide +kernel
theorem dX12_termsIn_28 : decode cX12_termsIn 28 = .ok (.goto 4, 3) := by decide +kernel
theorem dX12_termsIn_31 : decode cX12_termsIn 31 = .ok (.iconst 1, 1) := by decide +kernel
theorem dX12_termsIn_32 : decode cX12_termsIn 32 = .ok (.iadd, 1) := by decide +kernel
theorem dX12_termsIn_33 : decode cX12_termsIn 33 = .ok (.istore_n 2, 1) := by decide +kernel
theorem dX12_termsIn_34 : decode cX12_termsIn 34 = .ok (.iinc 3 1, 3) := by decide +kernel
theorem dX12_termsIn_37 : decode cX12_termsIn 37 = .ok (.goto (-33), 3) := by decide +kernel
theorem dX12_termsIn_40 : decode cX12_termsIn 40 = .ok (.iload_n 2, 1) := by decide +kernel
theorem dX12_termsIn_41 : decode cX12_termsIn 41 = .ok (.ireturn, 1) := by decide +kernel
theorem dX12_keeps_0 : decode cX12_keeps 0 = .ok (.aload_n 0, 1) := by decide +kernel
theorem dX12_keeps_1 : decode cX12_keeps 1 = .ok (.invokevirtual 82, 3) := by decide +kernel
theorem dX12_keeps_4 : decode cX12_keeps 4 = .ok (.iconst 0, 1) := by decide +kernel
theorem dX12_keeps_5 : decode cX12_keeps 5 = .ok (.istore_n 3, 1) := by decide +kernel
theorem dX12_keeps_6 : decode cX12_keeps 6 = .ok (.iload_n 3, 1) := by decide +kernel
theorem dX12_keeps_7 : decode cX12_keeps 7 = .ok (.bipush 91, 2) := by decide +kernel
theorem dX12_keeps_9 : decode cX12_keeps 9 = .ok (.if_icmp .ge 32, 3) := by decide +kernel
theorem dX12_keeps_12 : decode cX12_keeps 12 = .ok (.aload_n 0, 1) := by decide +kernel
theorem dX12_keeps_13 : decode cX12_keeps 13 = .ok (.getfield 7, 3) := by decide +kernel
theorem dX12_keeps_16 : decode cX12_keeps 16 = .ok (.bipush 91, 2) := by decide +kernel
theorem dX12_keeps_18 : decode cX12_keeps 18 = .ok (.iload_n 1, 1) := by decide +kernel
theorem dX12_keeps_19 : decode cX12_keeps 19 = .ok (.imul, 1) := by decide +kernel
theorem dX12_keeps_20 : decode cX12_keeps 20 = .ok (.iload_n 3, 1) := by decide +kernel
theorem dX12_keeps_21 : decode cX12_keeps 21 = .ok (.iadd, 1) := by decide +kernel
theorem dX12_keeps_22 : decode cX12_keeps 22 = .ok (.aload_n 0, 1) := by decide +kernel
theorem dX12_keeps_23 : decode cX12_keeps 23 = .ok (.getfield 22, 3) := by decide +kernel
theorem dX12_keeps_26 : decode cX12_keeps 26 = .ok (.sipush 496, 3) := by decide +kernel
theorem dX12_keeps_29 : decode cX12_keeps 29 = .ok (.iload_n 2, 1) := by decide +kernel
theorem dX12_keeps_30 : decode cX12_keeps 30 = .ok (.imul, 1) := by decide +kernel
theorem dX12_keeps_31 : decode cX12_keeps 31 = .ok (.iload_n 3, 1) := by decide +kernel
theorem dX12_keeps_32 : decode cX12_keeps 32 = .ok (.iadd, 1) := by decide +kernel
theorem dX12_keeps_33 : decode cX12_keeps 33 = .ok (.iaload, 1) := by decide +kernel
theorem dX12_keeps_34 : decode cX12_keeps 34 = .ok (.iastore, 1) := by decide +kernel
theorem dX12_keeps_35 : decode cX12_keeps 35 = .ok (.iinc 3 1, 3) := by decide +kernel
theorem dX12_keeps_38 : decode cX12_keeps 38 = .ok (.goto (-32), 3) := by decide +kernel
theorem dX12_keeps_41 : decode cX12_keeps 41 = .ok (.aload_n 0, 1) := by decide +kernel
theorem dX12_keeps_42 : decode cX12_keeps 42 = .ok (.iload_n 2, 1) := by decide +kernel
theorem dX12_keeps_43 : decode cX12_keeps 43 = .ok (.invokevirtual 85, 3) := by decide +kernel
theorem dX12_keeps_46 : decode cX12_keeps 46 = .ok (.ireturn, 1) := by decide +kernel
theorem dX12_degreeIn_0 : decode cX12_degreeIn 0 = .ok (.sipush 495, 3) := by decide +kernel
theorem dX12_degreeIn_3 : decode cX12_degreeIn 3 = .ok (.istore_n 2, 1) := by decide +kernel
theorem dX12_degreeIn_4 : decode cX12_degreeIn 4 = .ok (.iload_n 2, 1) := by decide +kernel
theorem dX12_degreeIn_5 : decode cX12_degreeIn 5 = .ok (.ifCond .lt 24, 3) := by decide +kernel
theorem dX12_degreeIn_8 : decode cX12_degreeIn 8 = .ok (.aload_n 0, 1) := by decide +kernel
theorem dX12_degreeIn_9 : decode cX12_degreeIn 9 = .ok (.getfield 22, 3) := by decide +kernel
theorem dX12_degreeIn_12 : decode cX12_degreeIn 12 = .ok (.sipush 496, 3) := by decide +kernel
theorem dX12_degreeIn_15 : decode cX12_degreeIn 15 = .ok (.iload_n 1, 1) := by decide +kernel
theorem dX12_degreeIn_16 : decode cX12_degreeIn 16 = .ok (.imul, 1) := by decide +kernel
theorem dX12_degreeIn_17 : decode cX12_degreeIn 17 = .ok (.iload_n 2, 1) := by decide +kernel
theorem dX12_degreeIn_18 : decode cX12_degreeIn 18 = .ok (.iadd, 1) := by decide +kernel
theorem dX12_degreeIn_19 : decode cX12_degreeIn 19 = .ok (.iaload, 1) := by decide +kernel
theorem dX12_degreeIn_20 : decode cX12_degreeIn 20 = .ok (.ifCond .ne 9, 3) := by decide +kernel
theorem dX12_degreeIn_23 : decode cX12_degreeIn 23 = .ok (.iinc 2 (-1), 3) := by decide +kernel
theorem dX12_degreeIn_26 : decode cX12_degreeIn 26 = .ok (.goto (-22), 3) := by decide +kernel
theorem dX12_degreeIn_29 : decode cX12_degreeIn 29 = .ok (.iload_n 2, 1) := by decide +kernel
theorem dX12_degreeIn_30 : decode cX12_degreeIn 30 = .ok (.ifCond .ge 7, 3) := by decide +kernel
theorem dX12_degreeIn_33 : decode cX12_degreeIn 33 = .ok (.iconst (-1), 1) := by decide +kernel
theorem dX12_degreeIn_34 : decode cX12_degreeIn 34 = .ok (.goto 16, 3) := by decide +kernel
theorem dX12_degreeIn_37 : decode cX12_degreeIn 37 = .ok (.aload_n 0, 1) := by decide +kernel
theorem dX12_degreeIn_38 : decode cX12_degreeIn 38 = .ok (.getfield 25, 3) := by decide +kernel
theorem dX12_degreeIn_41 : decode cX12_degreeIn 41 = .ok (.iload_n 2, 1) := by decide +kernel
theorem dX12_degreeIn_42 : decode cX12_degreeIn 42 = .ok (.iaload, 1) := by decide +kernel
theorem dX12_degreeIn_43 : decode cX12_degreeIn 43 = .ok (.aload_n 0, 1) := by decide +kernel
theorem dX12_degreeIn_44 : decode cX12_degreeIn 44 = .ok (.getfield 28, 3) := by decide +kernel
theorem dX12_degreeIn_47 : decode cX12_degreeIn 47 = .ok (.iload_n 2, 1) := by decide +kernel
theorem dX12_degreeIn_48 : decode cX12_degreeIn 48 = .ok (.iaload, 1) := by decide +kernel
theorem dX12_degreeIn_49 : decode cX12_degreeIn 49 = .ok (.iadd, 1) := by decide +kernel
theorem dX12_degreeIn_50 : decode cX12_degreeIn 50 = .ok (.ireturn, 1) := by decide +kernel
theorem dX12_wordBehind_0 : decode cX12_wordBehind 0 = .ok (.aload_n 0, 1) := by decide +kernel
theorem dX12_wordBehind_1 : decode cX12_wordBehind 1 = .ok (.getfield 7, 3) := by decide +kernel
theorem dX12_wordBehind_4 : decode cX12_wordBehind 4 = .ok (.sipush 608, 3) := by decide +kernel
theorem dX12_wordBehind_7 : decode cX12_wordBehind 7 = .ok (.iaload, 1) := by decide +kernel
theorem dX12_wordBehind_8 : decode cX12_wordBehind 8 = .ok (.ifCond .ne 13, 3) := by decide +kernel
theorem dX12_wordBehind_11 : decode cX12_wordBehind 11 = .ok (.iload_n 2, 1) := by decide +kernel
theorem dX12_wordBehind_12 : decode cX12_wordBehind 12 = .ok (.iload_n 1, 1) := by decide +kernel
theorem dX12_wordBehind_13 : decode cX12_wordBehind 13 = .ok (.iload_n 2, 1) := by decide +kernel
theorem dX12_wordBehind_14 : decode cX12_wordBehind 14 = .ok (.isub, 1) := by decide +kernel
theorem dX12_wordBehind_15 : decode cX12_wordBehind 15 = .ok (.invokestatic 59, 3) := by decide +kernel
theorem dX12_wordBehind_18 : decode cX12_wordBehind 18 = .ok (.goto 10, 3) := by decide +kernel
theorem dX12_wordBehind_21 : decode cX12_wordBehind 21 = .ok (.iload_n 1, 1) := by decide +kernel
theorem dX12_wordBehind_22 : decode cX12_wordBehind 22 = .ok (.iload_n 2, 1) := by decide +kernel
theorem dX12_wordBehind_23 : decode cX12_wordBehind 23 = .ok (.isub, 1) := by decide +kernel
theorem dX12_wordBehind_24 : decode cX12_wordBehind 24 = .ok (.iload_n 2, 1) := by decide +kernel
theorem dX12_wordBehind_25 : decode cX12_wordBehind 25 = .ok (.invokestatic 59, 3) := by decide +kernel
theorem dX12_wordBehind_28 : decode cX12_wordBehind 28 = .ok (.ireturn, 1) := by decide +kernel
theorem dX12_leadIn_0 : decode cX12_leadIn 0 = .ok (.aload_n 0, 1) := by decide +kernel
theorem dX12_leadIn_1 : decode cX12_leadIn 1 = .ok (.iload_n 1, 1) := by decide +kernel
theorem dX12_leadIn_2 : decode cX12_leadIn 2 = .ok (.invokevirtual 89, 3) := by decide +kernel
theorem dX12_leadIn_5 : decode cX12_leadIn 5 = .ok (.istore_n 2, 1) := by decide +kernel
theorem dX12_leadIn_6 : decode cX12_leadIn 6 = .ok (.iconst 0, 1) := by decide +kernel
theorem dX12_leadIn_7 : decode cX12_leadIn 7 = .ok (.istore_n 3, 1) := by decide +kernel
theorem dX12_leadIn_8 : decode cX12_leadIn 8 = .ok (.iload_n 3, 1) := by decide +kernel
theorem dX12_leadIn_9 : decode cX12_leadIn 9 = .ok (.iload_n 2, 1) := by decide +kernel
theorem dX12_leadIn_10 : decode cX12_leadIn 10 = .ok (.if_icmp .gt 36, 3) := by decide +kernel
theorem dX12_leadIn_13 : decode cX12_leadIn 13 = .ok (.aload_n 0, 1) := by decide +kernel
theorem dX12_leadIn_14 : decode cX12_leadIn 14 = .ok (.iload_n 2, 1) := by decide +kernel
theorem dX12_leadIn_15 : decode cX12_leadIn 15 = .ok (.iload_n 3, 1) := by decide +kernel
theorem dX12_leadIn_16 : decode cX12_leadIn 16 = .ok (.invokevirtual 92, 3) := by decide +kernel
theorem dX12_leadIn_19 : decode cX12_leadIn 19 = .ok (.istore 4, 2) := by decide +kernel
theorem dX12_leadIn_21 : decode cX12_leadIn 21 = .ok (.aload_n 0, 1) := by decide +kernel
theorem dX12_leadIn_22 : decode cX12_leadIn 22 = .ok (.getfield 22, 3) := by decide +kernel
theorem dX12_leadIn_25 : decode cX12_leadIn 25 = .ok (.sipush 496, 3) := by decide +kernel
theorem dX12_leadIn_28 : decode cX12_leadIn 28 = .ok (.iload_n 1, 1) := by decide +kernel
theorem dX12_leadIn_29 : decode cX12_leadIn 29 = .ok (.imul, 1) := by decide +kernel
theorem dX12_leadIn_30 : decode cX12_leadIn 30 = .ok (.iload 4, 2) := by decide +kernel
theorem dX12_leadIn_32 : decode cX12_leadIn 32 = .ok (.iadd, 1) := by decide +kernel
theorem dX12_leadIn_33 : decode cX12_leadIn 33 = .ok (.iaload, 1) := by decide +kernel
theorem dX12_leadIn_34 : decode cX12_leadIn 34 = .ok (.ifCond .eq 6, 3) := by decide +kernel
theorem dX12_leadIn_37 : decode cX12_leadIn 37 = .ok (.iload 4, 2) := by decide +kernel
theorem dX12_leadIn_39 : decode cX12_leadIn 39 = .ok (.ireturn, 1) := by decide +kernel
theorem dX12_leadIn_40 : decode cX12_leadIn 40 = .ok (.iinc 3 1, 3) := by decide +kernel
theorem dX12_leadIn_43 : decode cX12_leadIn 43 = .ok (.goto (-35), 3) := by decide +kernel
theorem dX12_leadIn_46 : decode cX12_leadIn 46 = .ok (.iconst (-1), 1) := by decide +kernel
theorem dX12_leadIn_47 : decode cX12_leadIn 47 = .ok (.ireturn, 1) := by decide +kernel
theorem dX12_adds_0 : decode cX12_adds 0 = .ok (.iload 5, 2) := by decide +kernel
theorem dX12_adds_2 : decode cX12_adds 2 = .ok (.istore 7, 2) := by decide +kernel
theorem dX12_adds_4 : decode cX12_adds 4 = .ok (.iconst 0, 1) := by decide +kernel
theorem dX12_adds_5 : decode cX12_adds 5 = .ok (.istore 8, 2) := by decide +kernel
theorem dX12_adds_7 : decode cX12_adds 7 = .ok (.iload 8, 2) := by decide +kernel
theorem dX12_adds_9 : decode cX12_adds 9 = .ok (.iload_n 3, 1) := by decide +kernel
theorem dX12_adds_10 : decode cX12_adds 10 = .ok (.if_icmp .gt 87, 3) := by decide +kernel
theorem dX12_adds_13 : decode cX12_adds 13 = .ok (.iload 8, 2) := by decide +kernel
theorem dX12_adds_15 : decode cX12_adds 15 = .ok (.iload_n 2, 1) := by decide +kernel
theorem dX12_adds_16 : decode cX12_adds 16 = .ok (.if_icmp .gt 81, 3) := by decide +kernel
theorem dX12_adds_19 : decode cX12_adds 19 = .ok (.sipush 496, 3) := by decide +kernel
theorem dX12_adds_22 : decode cX12_adds 22 = .ok (.iload 6, 2) := by decide +kernel
theorem dX12_adds_24 : decode cX12_adds 24 = .ok (.imul, 1) := by decide +kernel
theorem dX12_adds_25 : decode cX12_adds 25 = .ok (.iload_n 1, 1) := by decide +kernel
theorem dX12_adds_26 : decode cX12_adds 26 = .ok (.iload_n 3, 1) := by decide +kernel
theorem dX12_adds_27 : decode cX12_adds 27 = .ok (.iadd, 1) := by decide +kernel
theorem dX12_adds_28 : decode cX12_adds 28 = .ok (.iload 8, 2) := by decide +kernel
theorem dX12_adds_30 : decode cX12_adds 30 = .ok (.isub, 1) := by decide +kernel
theorem dX12_adds_31 : decode cX12_adds 31 = .ok (.iload_n 2, 1) := by decide +kernel
theorem dX12_adds_32 : decode cX12_adds 32 = .ok (.iload 8, 2) := by decide +kernel
theorem dX12_adds_34 : decode cX12_adds 34 = .ok (.isub, 1) := by decide +kernel
theorem dX12_adds_35 : decode cX12_adds 35 = .ok (.iload 4, 2) := by decide +kernel
theorem dX12_adds_37 : decode cX12_adds 37 = .ok (.iadd, 1) := by decide +kernel
theorem dX12_adds_38 : decode cX12_adds 38 = .ok (.invokestatic 59, 3) := by decide +kernel
theorem dX12_adds_41 : decode cX12_adds 41 = .ok (.iadd, 1) := by decide +kernel
theorem dX12_adds_42 : decode cX12_adds 42 = .ok (.istore 9, 2) := by decide +kernel
theorem dX12_adds_44 : decode cX12_adds 44 = .ok (.aload_n 0, 1) := by decide +kernel
theorem dX12_adds_45 : decode cX12_adds 45 = .ok (.getfield 22, 3) := by decide +kernel
theorem dX12_adds_48 : decode cX12_adds 48 = .ok (.iload 9, 2) := by decide +kernel
theorem dX12_adds_50 : decode cX12_adds 50 = .ok (.aload_n 0, 1) := by decide +kernel
theorem dX12_adds_51 : decode cX12_adds 51 = .ok (.getfield 22, 3) := by decide +kernel
theorem dX12_adds_54 : decode cX12_adds 54 = .ok (.iload 9, 2) := by decide +kernel
theorem dX12_adds_56 : decode cX12_adds 56 = .ok (.iaload, 1) := by decide +kernel
theorem dX12_adds_57 : decode cX12_adds 57 = .ok (.aload_n 0, 1) := by decide +kernel
theorem dX12_adds_58 : decode cX12_adds 58 = .ok (.getfield 31, 3) := by decide +kernel
theorem dX12_adds_61 : decode cX12_adds 61 = .ok (.bipush 31, 2) := by decide +kernel
theorem dX12_adds_63 : decode cX12_adds 63 = .ok (.iload_n 2, 1) := by decide +kernel
theorem dX12_adds_64 : decode cX12_adds 64 = .ok (.imul, 1) := by decide +kernel
theorem dX12_adds_65 : decode cX12_adds 65 = .ok (.iload 8, 2) := by decide +kernel
theorem dX12_adds_67 : decode cX12_adds 67 = .ok (.iadd, 1) := by decide +kernel
theorem dX12_adds_68 : decode cX12_adds 68 = .ok (.iaload, 1) := by decide +kernel
theorem dX12_adds_69 : decode cX12_adds 69 = .ok (.iload 7, 2) := by decide +kernel
theorem dX12_adds_71 : decode cX12_adds 71 = .ok (.imul, 1) := by decide +kernel
theorem dX12_adds_72 : decode cX12_adds 72 = .ok (.iadd, 1) := by decide +kernel
theorem dX12_adds_73 : decode cX12_adds 73 = .ok (.sipush 10007, 3) := by decide +kernel
theorem dX12_adds_76 : decode cX12_adds 76 = .ok (.irem, 1) := by decide +kernel
theorem dX12_adds_77 : decode cX12_adds 77 = .ok (.iastore, 1) := by decide +kernel
theorem dX12_adds_78 : decode cX12_adds 78 = .ok (.iload 7, 2) := by decide +kernel
theorem dX12_adds_80 : decode cX12_adds 80 = .ok (.iload_n 3, 1) := by decide +kernel
theorem dX12_adds_81 : decode cX12_adds 81 = .ok (.iload 8, 2) := by decide +kernel
theorem dX12_adds_83 : decode cX12_adds 83 = .ok (.isub, 1) := by decide +kernel
theorem dX12_adds_84 : decode cX12_adds 84 = .ok (.imul, 1) := by decide +kernel
theorem dX12_adds_85 : decode cX12_adds 85 = .ok (.sipush 10007, 3) := by decide +kernel
theorem dX12_adds_88 : decode cX12_adds 88 = .ok (.irem, 1) := by decide +kernel
theorem dX12_adds_89 : decode cX12_adds 89 = .ok (.istore 7, 2) := by decide +kernel
theorem dX12_adds_91 : decode cX12_adds 91 = .ok (.iinc 8 1, 3) := by decide +kernel
theorem dX12_adds_94 : decode cX12_adds 94 = .ok (.goto (-87), 3) := by decide +kernel
theorem dX12_adds_97 : decode cX12_adds 97 = .ok (.return_, 1) := by decide +kernel
theorem dX12_addsBehind_0 : decode cX12_addsBehind 0 = .ok (.aload_n 0, 1) := by decide +kernel
theorem dX12_addsBehind_1 : decode cX12_addsBehind 1 = .ok (.iload 4, 2) := by decide +kernel
theorem dX12_addsBehind_3 : decode cX12_addsBehind 3 = .ok (.invokevirtual 89, 3) := by decide +kernel
theorem dX12_addsBehind_6 : decode cX12_addsBehind 6 = .ok (.istore 6, 2) := by decide +kernel
theorem dX12_addsBehind_8 : decode cX12_addsBehind 8 = .ok (.iconst 0, 1) := by decide +kernel
theorem dX12_addsBehind_9 : decode cX12_addsBehind 9 = .ok (.istore 7, 2) := by decide +kernel
theorem dX12_addsBehind_11 : decode cX12_addsBehind 11 = .ok (.iload 7, 2) := by decide +kernel
theorem dX12_addsBehind_13 : decode cX12_addsBehind 13 = .ok (.iload 6, 2) := by decide +kernel
theorem dX12_addsBehind_15 : decode cX12_addsBehind 15 = .ok (.iconst 1, 1) := by decide +kernel
theorem dX12_addsBehind_16 : decode cX12_addsBehind 16 = .ok (.iadd, 1) := by decide +kernel
theorem dX12_addsBehind_17 : decode cX12_addsBehind 17 = .ok (.iload 6, 2) := by decide +kernel
theorem dX12_addsBehind_19 : decode cX12_addsBehind 19 = .ok (.iconst 2, 1) := by decide +kernel
theorem dX12_addsBehind_20 : decode cX12_addsBehind 20 = .ok (.iadd, 1) := by decide +kernel
theorem dX12_addsBehind_21 : decode cX12_addsBehind 21 = .ok (.imul, 1) := by decide +kernel
theorem dX12_addsBehind_22 : decode cX12_addsBehind 22 = .ok (.iconst 2, 1) := by decide +kernel
theorem dX12_addsBehind_23 : decode cX12_addsBehind 23 = .ok (.idiv, 1) := by decide +kernel
theorem dX12_addsBehind_24 : decode cX12_addsBehind 24 = .ok (.if_icmp .ge 60, 3) := by decide +kernel
theorem dX12_addsBehind_27 : decode cX12_addsBehind 27 = .ok (.aload_n 0, 1) := by decide +kernel
theorem dX12_addsBehind_28 : decode cX12_addsBehind 28 = .ok (.getfield 22, 3) := by decide +kernel
theorem dX12_addsBehind_31 : decode cX12_addsBehind 31 = .ok (.sipush 496, 3) := by decide +kernel
theorem dX12_addsBehind_34 : decode cX12_addsBehind 34 = .ok (.iload 4, 2) := by decide +kernel
theorem dX12_addsBehind_36 : decode cX12_addsBehind 36 = .ok (.imul, 1) := by decide +kernel
theorem dX12_addsBehind_37 : decode cX12_addsBehind 37 = .ok (.iload 7, 2) := by decide +kernel
theorem dX12_addsBehind_39 : decode cX12_addsBehind 39 = .ok (.iadd, 1) := by decide +kernel
theorem dX12_addsBehind_40 : decode cX12_addsBehind 40 = .ok (.iaload, 1) := by decide +kernel
theorem dX12_addsBehind_41 : decode cX12_addsBehind 41 = .ok (.istore 8, 2) := by decide +kernel
theorem dX12_addsBehind_43 : decode cX12_addsBehind 43 = .ok (.iload 8, 2) := by decide +kernel
theorem dX12_addsBehind_45 : decode cX12_addsBehind 45 = .ok (.ifCond .eq 33, 3) := by decide +kernel
theorem dX12_addsBehind_48 : decode cX12_addsBehind 48 = .ok (.aload_n 0, 1) := by decide +kernel
theorem dX12_addsBehind_49 : decode cX12_addsBehind 49 = .ok (.iload_n 1, 1) := by decide +kernel
theorem dX12_addsBehind_50 : decode cX12_addsBehind 50 = .ok (.iload_n 2, 1) := by decide +kernel
theorem dX12_addsBehind_51 : decode cX12_addsBehind 51 = .ok (.aload_n 0, 1) := by decide +kernel
theorem dX12_addsBehind_52 : decode cX12_addsBehind 52 = .ok (.getfield 25, 3) := by decide +kernel
theorem dX12_addsBehind_55 : decode cX12_addsBehind 55 = .ok (.iload 7, 2) := by decide +kernel
theorem dX12_addsBehind_57 : decode cX12_addsBehind 57 = .ok (.iaload, 1) := by decide +kernel
theorem dX12_addsBehind_58 : decode cX12_addsBehind 58 = .ok (.aload_n 0, 1) := by decide +kernel
theorem dX12_addsBehind_59 : decode cX12_addsBehind 59 = .ok (.getfield 28, 3) := by decide +kernel
theorem dX12_addsBehind_62 : decode cX12_addsBehind 62 = .ok (.iload 7, 2) := by decide +kernel
theorem dX12_addsBehind_64 : decode cX12_addsBehind 64 = .ok (.iaload, 1) := by decide +kernel
theorem dX12_addsBehind_65 : decode cX12_addsBehind 65 = .ok (.iload_n 3, 1) := by decide +kernel
theorem dX12_addsBehind_66 : decode cX12_addsBehind 66 = .ok (.iload 8, 2) := by decide +kernel
theorem dX12_addsBehind_68 : decode cX12_addsBehind 68 = .ok (.imul, 1) := by decide +kernel
theorem dX12_addsBehind_69 : decode cX12_addsBehind 69 = .ok (.sipush 10007, 3) := by decide +kernel
theorem dX12_addsBehind_72 : decode cX12_addsBehind 72 = .ok (.irem, 1) := by decide +kernel
theorem dX12_addsBehind_73 : decode cX12_addsBehind 73 = .ok (.iload 5, 2) := by decide +kernel
theorem dX12_addsBehind_75 : decode cX12_addsBehind 75 = .ok (.invokevirtual 95, 3) := by decide +kernel
theorem dX12_addsBehind_78 : decode cX12_addsBehind 78 = .ok (.iinc 7 1, 3) := by decide +kernel
theorem dX12_addsBehind_81 : decode cX12_addsBehind 81 = .ok (.goto (-70), 3) := by decide +kernel
theorem dX12_addsBehind_84 : decode cX12_addsBehind 84 = .ok (.return_, 1) := by decide +kernel
theorem dX12_multiplies_0 : decode cX12_multiplies 0 = .ok (.aload_n 0, 1) := by decide +kernel
theorem dX12_multiplies_1 : decode cX12_multiplies 1 = .ok (.iload_n 3, 1) := by decide +kernel
theorem dX12_multiplies_2 : decode cX12_multiplies 2 = .ok (.invokevirtual 78, 3) := by decide +kernel
theorem dX12_multiplies_5 : decode cX12_multiplies 5 = .ok (.aload_n 0, 1) := by decide +kernel
theorem dX12_multiplies_6 : decode cX12_multiplies 6 = .ok (.iload_n 1, 1) := by decide +kernel
theorem dX12_multiplies_7 : decode cX12_multiplies 7 = .ok (.invokevirtual 89, 3) := by decide +kernel
theorem dX12_multiplies_10 : decode cX12_multiplies 10 = .ok (.istore 4, 2) := by decide +kernel
theorem dX12_multiplies_12 : decode cX12_multiplies 12 = .ok (.iconst 0, 1) := by decide +kernel
theorem dX12_multiplies_13 : decode cX12_multiplies 13 = .ok (.istore 5, 2) := by decide +kernel
theorem dX12_multiplies_15 : decode cX12_multiplies 15 = .ok (.iload 5, 2) := by decide +kernel
theorem dX12_multiplies_17 : decode cX12_multiplies 17 = .ok (.iload 4, 2) := by decide +kernel
theorem dX12_multiplies_19 : decode cX12_multiplies 19 = .ok (.iconst 1, 1) := by decide +kernel
theorem dX12_multiplies_20 : decode cX12_multiplies 20 = .ok (.iadd, 1) := by decide +kernel
theorem dX12_multiplies_21 : decode cX12_multiplies 21 = .ok (.iload 4, 2) := by decide +kernel
theorem dX12_multiplies_23 : decode cX12_multiplies 23 = .ok (.iconst 2, 1) := by decide +kernel
theorem dX12_multiplies_24 : decode cX12_multiplies 24 = .ok (.iadd, 1) := by decide +kernel
theorem dX12_multiplies_25 : decode cX12_multiplies 25 = .ok (.imul, 1) := by decide +kernel
theorem dX12_multiplies_26 : decode cX12_multiplies 26 = .ok (.iconst 2, 1) := by decide +kernel
theorem dX12_multiplies_27 : decode cX12_multiplies 27 = .ok (.idiv, 1) := by decide +kernel
theorem dX12_multiplies_28 : decode cX12_multiplies 28 = .ok (.if_icmp .ge 51, 3) := by decide +kernel
theorem dX12_multiplies_31 : decode cX12_multiplies 31 = .ok (.aload_n 0, 1) := by decide +kernel
theorem dX12_multiplies_32 : decode cX12_multiplies 32 = .ok (.getfield 22, 3) := by decide +kernel
theorem dX12_multiplies_35 : decode cX12_multiplies 35 = .ok (.sipush 496, 3) := by decide +kernel
theorem dX12_multiplies_38 : decode cX12_multiplies 38 = .ok (.iload_n 1, 1) := by decide +kernel
theorem dX12_multiplies_39 : decode cX12_multiplies 39 = .ok (.imul, 1) := by decide +kernel
theorem dX12_multiplies_40 : decode cX12_multiplies 40 = .ok (.iload 5, 2) := by decide +kernel
theorem dX12_multiplies_42 : decode cX12_multiplies 42 = .ok (.iadd, 1) := by decide +kernel
theorem dX12_multiplies_43 : decode cX12_multiplies 43 = .ok (.iaload, 1) := by decide +kernel
theorem dX12_multiplies_44 : decode cX12_multiplies 44 = .ok (.istore 6, 2) := by decide +kernel
theorem dX12_multiplies_46 : decode cX12_multiplies 46 = .ok (.iload 6, 2) := by decide +kernel
theorem dX12_multiplies_48 : decode cX12_multiplies 48 = .ok (.ifCond .eq 25, 3) := by decide +kernel
theorem dX12_multiplies_51 : decode cX12_multiplies 51 = .ok (.aload_n 0, 1) := by decide +kernel
theorem dX12_multiplies_52 : decode cX12_multiplies 52 = .ok (.aload_n 0, 1) := by decide +kernel
theorem dX12_multiplies_53 : decode cX12_multiplies 53 = .ok (.getfield 25, 3) := by decide +kernel
theorem dX12_multiplies_56 : decode cX12_multiplies 56 = .ok (.iload 5, 2) := by decide +kernel
theorem dX12_multiplies_58 : decode cX12_multiplies 58 = .ok (.iaload, 1) := by decide +kernel
theorem dX12_multiplies_59 : decode cX12_multiplies 59 = .ok (.aload_n 0, 1) := by decide +kernel
theorem dX12_multiplies_60 : decode cX12_multiplies 60 = .ok (.getfield 28, 3) := by decide +kernel
theorem dX12_multiplies_63 : decode cX12_multiplies 63 = .ok (.iload 5, 2) := by decide +kernel
theorem dX12_multiplies_65 : decode cX12_multiplies 65 = .ok (.iaload, 1) := by decide +kernel
theorem dX12_multiplies_66 : decode cX12_multiplies 66 = .ok (.iload 6, 2) := by decide +kernel
theorem dX12_multiplies_68 : decode cX12_multiplies 68 = .ok (.iload_n 2, 1) := by decide +kernel
theorem dX12_multiplies_69 : decode cX12_multiplies 69 = .ok (.iload_n 3, 1) := by decide +kernel
theorem dX12_multiplies_70 : decode cX12_multiplies 70 = .ok (.invokevirtual 99, 3) := by decide +kernel
theorem dX12_multiplies_73 : decode cX12_multiplies 73 = .ok (.iinc 5 1, 3) := by decide +kernel
theorem dX12_multiplies_76 : decode cX12_multiplies 76 = .ok (.goto (-61), 3) := by decide +kernel
theorem dX12_multiplies_79 : decode cX12_multiplies 79 = .ok (.return_, 1) := by decide +kernel
theorem dX12_isTooMuch_0 : decode cX12_isTooMuch 0 = .ok (.aload_n 0, 1) := by decide +kernel
theorem dX12_isTooMuch_1 : decode cX12_isTooMuch 1 = .ok (.iload_n 1, 1) := by decide +kernel
theorem dX12_isTooMuch_2 : decode cX12_isTooMuch 2 = .ok (.invokevirtual 89, 3) := by decide +kernel
theorem dX12_isTooMuch_5 : decode cX12_isTooMuch 5 = .ok (.istore_n 3, 1) := by decide +kernel
theorem dX12_isTooMuch_6 : decode cX12_isTooMuch 6 = .ok (.aload_n 0, 1) := by decide +kernel
theorem dX12_isTooMuch_7 : decode cX12_isTooMuch 7 = .ok (.iload_n 2, 1) := by decide +kernel
theorem dX12_isTooMuch_8 : decode cX12_isTooMuch 8 = .ok (.invokevirtual 89, 3) := by decide +kernel
theorem dX12_isTooMuch_11 : decode cX12_isTooMuch 11 = .ok (.istore 4, 2) := by decide +kernel
theorem dX12_isTooMuch_13 : decode cX12_isTooMuch 13 = .ok (.iload_n 3, 1) := by decide +kernel
theorem dX12_isTooMuch_14 : decode cX12_isTooMuch 14 = .ok (.ifCond .lt 21, 3) := by decide +kernel
theorem dX12_isTooMuch_17 : decode cX12_isTooMuch 17 = .ok (.iload 4, 2) := by decide +kernel
theorem dX12_isTooMuch_19 : decode cX12_isTooMuch 19 = .ok (.ifCond .lt 16, 3) := by decide +kernel
theorem dX12_isTooMuch_22 : decode cX12_isTooMuch 22 = .ok (.iload_n 3, 1) := by decide +kernel
theorem dX12_isTooMuch_23 : decode cX12_isTooMuch 23 = .ok (.iload 4, 2) := by decide +kernel
theorem dX12_isTooMuch_25 : decode cX12_isTooMuch 25 = .ok (.iadd, 1) := by decide +kernel
theorem dX12_isTooMuch_26 : decode cX12_isTooMuch 26 = .ok (.bipush 12, 2) := by decide +kernel
theorem dX12_isTooMuch_28 : decode cX12_isTooMuch 28 = .ok (.if_icmp .le 7, 3) := by decide +kernel
theorem dX12_isTooMuch_31 : decode cX12_isTooMuch 31 = .ok (.iconst 1, 1) := by decide +kernel
theorem dX12_isTooMuch_32 : decode cX12_isTooMuch 32 = .ok (.goto 4, 3) := by decide +kernel
theorem dX12_isTooMuch_35 : decode cX12_isTooMuch 35 = .ok (.iconst 0, 1) := by decide +kernel
theorem dX12_isTooMuch_36 : decode cX12_isTooMuch 36 = .ok (.ireturn, 1) := by decide +kernel
theorem dX12_isPowerTooMuch_0 : decode cX12_isPowerTooMuch 0 = .ok (.iload_n 2, 1) := by decide +kernel
theorem dX12_isPowerTooMuch_1 : decode cX12_isPowerTooMuch 1 = .ok (.aload_n 0, 1) := by decide +kernel
theorem dX12_isPowerTooMuch_2 : decode cX12_isPowerTooMuch 2 = .ok (.iload_n 1, 1) := by decide +kernel
theorem dX12_isPowerTooMuch_3 : decode cX12_isPowerTooMuch 3 = .ok (.invokevirtual 89, 3) := by decide +kernel
theorem dX12_isPowerTooMuch_6 : decode cX12_isPowerTooMuch 6 = .ok (.imul, 1) := by decide +kernel
theorem dX12_isPowerTooMuch_7 : decode cX12_isPowerTooMuch 7 = .ok (.bipush 12, 2) := by decide +kernel
theorem dX12_isPowerTooMuch_9 : decode cX12_isPowerTooMuch 9 = .ok (.if_icmp .le 7, 3) := by decide +kernel
theorem dX12_isPowerTooMuch_12 : decode cX12_isPowerTooMuch 12 = .ok (.iconst 1, 1) := by decide +kernel
theorem dX12_isPowerTooMuch_13 : decode cX12_isPowerTooMuch 13 = .ok (.goto 4, 3) := by decide +kernel
theorem dX12_isPowerTooMuch_16 : decode cX12_isPowerTooMuch 16 = .ok (.iconst 0, 1) := by decide +kernel
theorem dX12_isPowerTooMuch_17 : decode cX12_isPowerTooMuch 17 = .ok (.ireturn, 1) := by decide +kernel
theorem dX12_raises_0 : decode cX12_raises 0 = .ok (.aload_n 0, 1) := by decide +kernel
theorem dX12_raises_1 : decode cX12_raises 1 = .ok (.bipush 27, 2) := by decide +kernel
theorem dX12_raises_3 : decode cX12_raises 3 = .ok (.bipush 26, 2) := by decide +kernel
theorem dX12_raises_5 : decode cX12_raises 5 = .ok (.invokevirtual 103, 3) := by decide +kernel
theorem dX12_raises_8 : decode cX12_raises 8 = .ok (.aload_n 0, 1) := by decide +kernel
theorem dX12_raises_9 : decode cX12_raises 9 = .ok (.bipush 27, 2) := by decide +kernel
theorem dX12_raises_11 : decode cX12_raises 11 = .ok (.invokevirtual 78, 3) := by decide +kernel
theorem dX12_raises_14 : decode cX12_raises 14 = .ok (.aload_n 0, 1) := by decide +kernel
theorem dX12_raises_15 : decode cX12_raises 15 = .ok (.getfield 22, 3) := by decide +kernel
theorem dX12_raises_18 : decode cX12_raises 18 = .ok (.sipush 13392, 3) := by decide +kernel
theorem dX12_raises_21 : decode cX12_raises 21 = .ok (.iconst 1, 1) := by decide +kernel
theorem dX12_raises_22 : decode cX12_raises 22 = .ok (.iastore, 1) := by decide +kernel
theorem dX12_raises_23 : decode cX12_raises 23 = .ok (.iconst 0, 1) := by decide +kernel
theorem dX12_raises_24 : decode cX12_raises 24 = .ok (.istore_n 2, 1) := by decide +kernel
theorem dX12_raises_25 : decode cX12_raises 25 = .ok (.iload_n 2, 1) := by decide +kernel
theorem dX12_raises_26 : decode cX12_raises 26 = .ok (.iload_n 1, 1) := by decide +kernel
theorem dX12_raises_27 : decode cX12_raises 27 = .ok (.if_icmp .ge 27, 3) := by decide +kernel
theorem dX12_raises_30 : decode cX12_raises 30 = .ok (.aload_n 0, 1) := by decide +kernel
theorem dX12_raises_31 : decode cX12_raises 31 = .ok (.bipush 27, 2) := by decide +kernel
theorem dX12_raises_33 : decode cX12_raises 33 = .ok (.bipush 26, 2) := by decide +kernel
theorem dX12_raises_35 : decode cX12_raises 35 = .ok (.bipush 25, 2) := by decide +kernel
theorem dX12_raises_37 : decode cX12_raises 37 = .ok (.invokevirtual 107, 3) := by decide +kernel
theorem dX12_raises_40 : decode cX12_raises 40 = .ok (.aload_n 0, 1) := by decide +kernel
theorem dX12_raises_41 : decode cX12_raises 41 = .ok (.bipush 25, 2) := by decide +kernel
theorem dX12_raises_43 : decode cX12_raises 43 = .ok (.bipush 27, 2) := by decide +kernel
theorem dX12_raises_45 : decode cX12_raises 45 = .ok (.invokevirtual 103, 3) := by decide +kernel
theorem dX12_raises_48 : decode cX12_raises 48 = .ok (.iinc 2 1, 3) := by decide +kernel
theorem dX12_raises_51 : decode cX12_raises 51 = .ok (.goto (-26), 3) := by decide +kernel
theorem dX12_raises_54 : decode cX12_raises 54 = .ok (.return_, 1) := by decide +kernel
theorem dX12_mixes_0 : decode cX12_mixes 0 = .ok (.iconst 0, 1) := by decide +kernel
theorem dX12_mixes_1 : decode cX12_mixes 1 = .ok (.istore 6, 2) := by decide +kernel
theorem dX12_mixes_3 : decode cX12_mixes 3 = .ok (.iload 6, 2) := by decide +kernel
theorem dX12_mixes_5 : decode cX12_mixes 5 = .ok (.sipush 496, 3) := by decide +kernel
theorem dX12_mixes_8 : decode cX12_mixes 8 = .ok (.if_icmp .ge 59, 3) := by decide +kernel
theorem dX12_mixes_11 : decode cX12_mixes 11 = .ok (.aload_n 0, 1) := by decide +kernel
theorem dX12_mixes_12 : decode cX12_mixes 12 = .ok (.getfield 22, 3) := by decide +kernel
theorem dX12_mixes_15 : decode cX12_mixes 15 = .ok (.sipush 496, 3) := by decide +kernel
theorem dX12_mixes_18 : decode cX12_mixes 18 = .ok (.iload 5, 2) := by decide +kernel
theorem dX12_mixes_20 : decode cX12_mixes 20 = .ok (.imul, 1) := by decide +kernel
theorem dX12_mixes_21 : decode cX12_mixes 21 = .ok (.iload 6, 2) := by decide +kernel
theorem dX12_mixes_23 : decode cX12_mixes 23 = .ok (.iadd, 1) := by decide +kernel
theorem dX12_mixes_24 : decode cX12_mixes 24 = .ok (.iload_n 2, 1) := by decide +kernel
theorem dX12_mixes_25 : decode cX12_mixes 25 = .ok (.aload_n 0, 1) := by decide +kernel
theorem dX12_mixes_26 : decode cX12_mixes 26 = .ok (.getfield 22, 3) := by decide +kernel
theorem dX12_mixes_29 : decode cX12_mixes 29 = .ok (.sipush 496, 3) := by decide +kernel
theorem dX12_mixes_32 : decode cX12_mixes 32 = .ok (.iload_n 1, 1) := by decide +kernel
theorem dX12_mixes_33 : decode cX12_mixes 33 = .ok (.imul, 1) := by decide +kernel
theorem dX12_mixes_34 : decode cX12_mixes 34 = .ok (.iload 6, 2) := by decide +kernel
theorem dX12_mixes_36 : decode cX12_mixes 36 = .ok (.iadd, 1) := by decide +kernel
theorem dX12_mixes_37 : decode cX12_mixes 37 = .ok (.iaload, 1) := by decide +kernel
theorem dX12_mixes_38 : decode cX12_mixes 38 = .ok (.imul, 1) := by decide +kernel
theorem dX12_mixes_39 : decode cX12_mixes 39 = .ok (.iload 4, 2) := by decide +kernel
theorem dX12_mixes_41 : decode cX12_mixes 41 = .ok (.aload_n 0, 1) := by decide +kernel
theorem dX12_mixes_42 : decode cX12_mixes 42 = .ok (.getfield 22, 3) := by decide +kernel
theorem dX12_mixes_45 : decode cX12_mixes 45 = .ok (.sipush 496, 3) := by decide +kernel
theorem dX12_mixes_48 : decode cX12_mixes 48 = .ok (.iload_n 3, 1) := by decide +kernel
theorem dX12_mixes_49 : decode cX12_mixes 49 = .ok (.imul, 1) := by decide +kernel
theorem dX12_mixes_50 : decode cX12_mixes 50 = .ok (.iload 6, 2) := by decide +kernel
theorem dX12_mixes_52 : decode cX12_mixes 52 = .ok (.iadd, 1) := by decide +kernel
theorem dX12_mixes_53 : decode cX12_mixes 53 = .ok (.iaload, 1) := by decide +kernel
theorem dX12_mixes_54 : decode cX12_mixes 54 = .ok (.imul, 1) := by decide +kernel
theorem dX12_mixes_55 : decode cX12_mixes 55 = .ok (.iadd, 1) := by decide +kernel
theorem dX12_mixes_56 : decode cX12_mixes 56 = .ok (.sipush 10007, 3) := by decide +kernel
theorem dX12_mixes_59 : decode cX12_mixes 59 = .ok (.irem, 1) := by decide +kernel
theorem dX12_mixes_60 : decode cX12_mixes 60 = .ok (.iastore, 1) := by decide +kernel
theorem dX12_mixes_61 : decode cX12_mixes 61 = .ok (.iinc 6 1, 3) := by decide +kernel
theorem dX12_mixes_64 : decode cX12_mixes 64 = .ok (.goto (-61), 3) := by decide +kernel
theorem dX12_mixes_67 : decode cX12_mixes 67 = .ok (.return_, 1) := by decide +kernel
theorem dX12_sets_0 : decode cX12_sets 0 = .ok (.iload_n 1, 1) := by decide +kernel
theorem dX12_sets_1 : decode cX12_sets 1 = .ok (.invokestatic 111, 3) := by decide +kernel
theorem dX12_sets_4 : decode cX12_sets 4 = .ok (.ifCond .eq 11, 3) := by decide +kernel
theorem dX12_sets_7 : decode cX12_sets 7 = .ok (.iload_n 2, 1) := by decide +kernel
theorem dX12_sets_8 : decode cX12_sets 8 = .ok (.iload_n 3, 1) := by decide +kernel
theorem dX12_sets_9 : decode cX12_sets 9 = .ok (.invokestatic 115, 3) := by decide +kernel
theorem dX12_sets_12 : decode cX12_sets 12 = .ok (.ifCond .ne 8, 3) := by decide +kernel
theorem dX12_sets_15 : decode cX12_sets 15 = .ok (.aload_n 0, 1) := by decide +kernel
theorem dX12_sets_16 : decode cX12_sets 16 = .ok (.invokevirtual 119, 3) := by decide +kernel
theorem dX12_sets_19 : decode cX12_sets 19 = .ok (.ireturn, 1) := by decide +kernel
theorem dX12_sets_20 : decode cX12_sets 20 = .ok (.aload_n 0, 1) := by decide +kernel
theorem dX12_sets_21 : decode cX12_sets 21 = .ok (.invokevirtual 82, 3) := by decide +kernel
theorem dX12_sets_24 : decode cX12_sets 24 = .ok (.bipush 91, 2) := by decide +kernel
theorem dX12_sets_26 : decode cX12_sets 26 = .ok (.iload_n 1, 1) := by decide +kernel
theorem dX12_sets_27 : decode cX12_sets 27 = .ok (.imul, 1) := by decide +kernel
theorem dX12_sets_28 : decode cX12_sets 28 = .ok (.iload_n 2, 1) := by decide +kernel
theorem dX12_sets_29 : decode cX12_sets 29 = .ok (.iload_n 3, 1) := by decide +kernel
theorem dX12_sets_30 : decode cX12_sets 30 = .ok (.invokestatic 59, 3) := by decide +kernel
theorem dX12_sets_33 : decode cX12_sets 33 = .ok (.iadd, 1) := by decide +kernel
theorem dX12_sets_34 : decode cX12_sets 34 = .ok (.istore 5, 2) := by decide +kernel
theorem dX12_sets_36 : decode cX12_sets 36 = .ok (.aload_n 0, 1) := by decide +kernel
theorem dX12_sets_37 : decode cX12_sets 37 = .ok (.getfield 7, 3) := by decide +kernel
theorem dX12_sets_40 : decode cX12_sets 40 = .ok (.iload 5, 2) := by decide +kernel
theorem dX12_sets_42 : decode cX12_sets 42 = .ok (.iaload, 1) := by decide +kernel
theorem dX12_sets_43 : decode cX12_sets 43 = .ok (.istore 6, 2) := by decide +kernel
theorem dX12_sets_45 : decode cX12_sets 45 = .ok (.aload_n 0, 1) := by decide +kernel
theorem dX12_sets_46 : decode cX12_sets 46 = .ok (.getfield 7, 3) := by decide +kernel
theorem dX12_sets_49 : decode cX12_sets 49 = .ok (.iload 5, 2) := by decide +kernel
theorem dX12_sets_51 : decode cX12_sets 51 = .ok (.iload 4, 2) := by decide +kernel
theorem dX12_sets_53 : decode cX12_sets 53 = .ok (.invokestatic 122, 3) := by decide +kernel
theorem dX12_sets_56 : decode cX12_sets 56 = .ok (.iastore, 1) := by decide +kernel
theorem dX12_sets_57 : decode cX12_sets 57 = .ok (.iload 6, 2) := by decide +kernel
theorem dX12_sets_59 : decode cX12_sets 59 = .ok (.invokestatic 125, 3) := by decide +kernel
theorem dX12_sets_62 : decode cX12_sets 62 = .ok (.ireturn, 1) := by decide +kernel
theorem dX12_at_0 : decode cX12_at 0 = .ok (.iload_n 1, 1) := by decide +kernel
theorem dX12_at_1 : decode cX12_at 1 = .ok (.invokestatic 111, 3) := by decide +kernel
theorem dX12_at_4 : decode cX12_at 4 = .ok (.ifCond .eq 32, 3) := by decide +kernel
theorem dX12_at_7 : decode cX12_at 7 = .ok (.iload_n 2, 1) := by decide +kernel
theorem dX12_at_8 : decode cX12_at 8 = .ok (.iload_n 3, 1) := by decide +kernel
theorem dX12_at_9 : decode cX12_at 9 = .ok (.invokestatic 115, 3) := by decide +kernel
theorem dX12_at_12 : decode cX12_at 12 = .ok (.ifCond .eq 24, 3) := by decide +kernel
theorem dX12_at_15 : decode cX12_at 15 = .ok (.aload_n 0, 1) := by decide +kernel
theorem dX12_at_16 : decode cX12_at 16 = .ok (.getfield 7, 3) := by decide +kernel
theorem dX12_at_19 : decode cX12_at 19 = .ok (.bipush 91, 2) := by decide +kernel
theorem dX12_at_21 : decode cX12_at 21 = .ok (.iload_n 1, 1) := by decide +kernel
theorem dX12_at_22 : decode cX12_at 22 = .ok (.imul, 1) := by decide +kernel
theorem dX12_at_23 : decode cX12_at 23 = .ok (.iload_n 2, 1) := by decide +kernel
theorem dX12_at_24 : decode cX12_at 24 = .ok (.iload_n 3, 1) := by decide +kernel
theorem dX12_at_25 : decode cX12_at 25 = .ok (.invokestatic 59, 3) := by decide +kernel
theorem dX12_at_28 : decode cX12_at 28 = .ok (.iadd, 1) := by decide +kernel
theorem dX12_at_29 : decode cX12_at 29 = .ok (.iaload, 1) := by decide +kernel
theorem dX12_at_30 : decode cX12_at 30 = .ok (.invokestatic 125, 3) := by decide +kernel
theorem dX12_at_33 : decode cX12_at 33 = .ok (.goto 7, 3) := by decide +kernel
theorem dX12_at_36 : decode cX12_at 36 = .ok (.aload_n 0, 1) := by decide +kernel
theorem dX12_at_37 : decode cX12_at 37 = .ok (.invokevirtual 119, 3) := by decide +kernel
theorem dX12_at_40 : decode cX12_at 40 = .ok (.ireturn, 1) := by decide +kernel
theorem dX12_sums_0 : decode cX12_sums 0 = .ok (.iload_n 1, 1) := by decide +kernel
theorem dX12_sums_1 : decode cX12_sums 1 = .ok (.invokestatic 111, 3) := by decide +kernel
theorem dX12_sums_4 : decode cX12_sums 4 = .ok (.ifCond .eq 18, 3) := by decide +kernel
theorem dX12_sums_7 : decode cX12_sums 7 = .ok (.iload_n 2, 1) := by decide +kernel
theorem dX12_sums_8 : decode cX12_sums 8 = .ok (.invokestatic 111, 3) := by decide +kernel
theorem dX12_sums_11 : decode cX12_sums 11 = .ok (.ifCond .eq 11, 3) := by decide +kernel
theorem dX12_sums_14 : decode cX12_sums 14 = .ok (.iload 4, 2) := by decide +kernel
theorem dX12_sums_16 : decode cX12_sums 16 = .ok (.invokestatic 111, 3) := by decide +kernel
theorem dX12_sums_19 : decode cX12_sums 19 = .ok (.ifCond .ne 8, 3) := by decide +kernel
theorem dX12_sums_22 : decode cX12_sums 22 = .ok (.aload_n 0, 1) := by decide +kernel
theorem dX12_sums_23 : decode cX12_sums 23 = .ok (.invokevirtual 119, 3) := by decide +kernel
theorem dX12_sums_26 : decode cX12_sums 26 = .ok (.ireturn, 1) := by decide +kernel
theorem dX12_sums_27 : decode cX12_sums 27 = .ok (.aload_n 0, 1) := by decide +kernel
theorem dX12_sums_28 : decode cX12_sums 28 = .ok (.iload_n 2, 1) := by decide +kernel
theorem dX12_sums_29 : decode cX12_sums 29 = .ok (.bipush 24, 2) := by decide +kernel
theorem dX12_sums_31 : decode cX12_sums 31 = .ok (.invokevirtual 128, 3) := by decide +kernel
theorem dX12_sums_34 : decode cX12_sums 34 = .ok (.aload_n 0, 1) := by decide +kernel
theorem dX12_sums_35 : decode cX12_sums 35 = .ok (.iload 4, 2) := by decide +kernel
theorem dX12_sums_37 : decode cX12_sums 37 = .ok (.bipush 26, 2) := by decide +kernel
theorem dX12_sums_39 : decode cX12_sums 39 = .ok (.invokevirtual 128, 3) := by decide +kernel
theorem dX12_sums_42 : decode cX12_sums 42 = .ok (.aload_n 0, 1) := by decide +kernel
theorem dX12_sums_43 : decode cX12_sums 43 = .ok (.bipush 24, 2) := by decide +kernel
theorem dX12_sums_45 : decode cX12_sums 45 = .ok (.iload_n 3, 1) := by decide +kernel
theorem dX12_sums_46 : decode cX12_sums 46 = .ok (.invokestatic 122, 3) := by decide +kernel
theorem dX12_sums_49 : decode cX12_sums 49 = .ok (.bipush 26, 2) := by decide +kernel
theorem dX12_sums_51 : decode cX12_sums 51 = .ok (.iload 5, 2) := by decide +kernel
theorem dX12_sums_53 : decode cX12_sums 53 = .ok (.invokestatic 122, 3) := by decide +kernel
theorem dX12_sums_56 : decode cX12_sums 56 = .ok (.bipush 25, 2) := by decide +kernel
theorem dX12_sums_58 : decode cX12_sums 58 = .ok (.invokevirtual 131, 3) := by decide +kernel
theorem dX12_sums_61 : decode cX12_sums 61 = .ok (.aload_n 0, 1) := by decide +kernel
theorem dX12_sums_62 : decode cX12_sums 62 = .ok (.iload_n 1, 1) := by decide +kernel
theorem dX12_sums_63 : decode cX12_sums 63 = .ok (.bipush 25, 2) := by decide +kernel
theorem dX12_sums_65 : decode cX12_sums 65 = .ok (.invokevirtual 134, 3) := by decide +kernel
theorem dX12_sums_68 : decode cX12_sums 68 = .ok (.ireturn, 1) := by decide +kernel
theorem dX12_times_0 : decode cX12_times 0 = .ok (.iload_n 1, 1) := by decide +kernel
theorem dX12_times_1 : decode cX12_times 1 = .ok (.invokestatic 111, 3) := by decide +kernel
theorem dX12_times_4 : decode cX12_times 4 = .ok (.ifCond .eq 17, 3) := by decide +kernel
theorem dX12_times_7 : decode cX12_times 7 = .ok (.iload_n 2, 1) := by decide +kernel
theorem dX12_times_8 : decode cX12_times 8 = .ok (.invokestatic 111, 3) := by decide +kernel
theorem dX12_times_11 : decode cX12_times 11 = .ok (.ifCond .eq 10, 3) := by decide +kernel
theorem dX12_times_14 : decode cX12_times 14 = .ok (.iload_n 3, 1) := by decide +kernel
theorem dX12_times_15 : decode cX12_times 15 = .ok (.invokestatic 111, 3) := by decide +kernel
theorem dX12_times_18 : decode cX12_times 18 = .ok (.ifCond .ne 8, 3) := by decide +kernel
theorem dX12_times_21 : decode cX12_times 21 = .ok (.aload_n 0, 1) := by decide +kernel
theorem dX12_times_22 : decode cX12_times 22 = .ok (.invokevirtual 119, 3) := by decide +kernel
theorem dX12_times_25 : decode cX12_times 25 = .ok (.ireturn, 1) := by decide +kernel
theorem dX12_times_26 : decode cX12_times 26 = .ok (.aload_n 0, 1) := by decide +kernel
theorem dX12_times_27 : decode cX12_times 27 = .ok (.iload_n 2, 1) := by decide +kernel
theorem dX12_times_28 : decode cX12_times 28 = .ok (.bipush 24, 2) := by decide +kernel
theorem dX12_times_30 : decode cX12_times 30 = .ok (.invokevirtual 128, 3) := by decide +kernel
theorem dX12_times_33 : decode cX12_times 33 = .ok (.aload_n 0, 1) := by decide +kernel
theorem dX12_times_34 : decode cX12_times 34 = .ok (.iload_n 3, 1) := by decide +kernel
theorem dX12_times_35 : decode cX12_times 35 = .ok (.bipush 26, 2) := by decide +kernel
theorem dX12_times_37 : decode cX12_times 37 = .ok (.invokevirtual 128, 3) := by decide +kernel
theorem dX12_times_40 : decode cX12_times 40 = .ok (.aload_n 0, 1) := by decide +kernel
theorem dX12_times_41 : decode cX12_times 41 = .ok (.bipush 24, 2) := by decide +kernel
theorem dX12_times_43 : decode cX12_times 43 = .ok (.bipush 26, 2) := by decide +kernel
theorem dX12_times_45 : decode cX12_times 45 = .ok (.invokevirtual 137, 3) := by decide +kernel
theorem dX12_times_48 : decode cX12_times 48 = .ok (.ifCond .eq 8, 3) := by decide +kernel
theorem dX12_times_51 : decode cX12_times 51 = .ok (.aload_n 0, 1) := by decide +kernel
theorem dX12_times_52 : decode cX12_times 52 = .ok (.invokevirtual 140, 3) := by decide +kernel
theorem dX12_times_55 : decode cX12_times 55 = .ok (.ireturn, 1) := by decide +kernel
theorem dX12_times_56 : decode cX12_times 56 = .ok (.aload_n 0, 1) := by decide +kernel
theorem dX12_times_57 : decode cX12_times 57 = .ok (.bipush 24, 2) := by decide +kernel
theorem dX12_times_59 : decode cX12_times 59 = .ok (.bipush 26, 2) := by decide +kernel
theorem dX12_times_61 : decode cX12_times 61 = .ok (.bipush 25, 2) := by decide +kernel
theorem dX12_times_63 : decode cX12_times 63 = .ok (.invokevirtual 107, 3) := by decide +kernel
theorem dX12_times_66 : decode cX12_times 66 = .ok (.aload_n 0, 1) := by decide +kernel
theorem dX12_times_67 : decode cX12_times 67 = .ok (.iload_n 1, 1) := by decide +kernel
theorem dX12_times_68 : decode cX12_times 68 = .ok (.bipush 25, 2) := by decide +kernel
theorem dX12_times_70 : decode cX12_times 70 = .ok (.invokevirtual 134, 3) := by decide +kernel
theorem dX12_times_73 : decode cX12_times 73 = .ok (.ireturn, 1) := by decide +kernel
theorem dX12_bracket_0 : decode cX12_bracket 0 = .ok (.iload_n 1, 1) := by decide +kernel
theorem dX12_bracket_1 : decode cX12_bracket 1 = .ok (.invokestatic 111, 3) := by decide +kernel
theorem dX12_bracket_4 : decode cX12_bracket 4 = .ok (.ifCond .eq 17, 3) := by decide +kernel
theorem dX12_bracket_7 : decode cX12_bracket 7 = .ok (.iload_n 2, 1) := by decide +kernel
theorem dX12_bracket_8 : decode cX12_bracket 8 = .ok (.invokestatic 111, 3) := by decide +kernel
theorem dX12_bracket_11 : decode cX12_bracket 11 = .ok (.ifCond .eq 10, 3) := by decide +kernel
theorem dX12_bracket_14 : decode cX12_bracket 14 = .ok (.iload_n 3, 1) := by decide +kernel
theorem dX12_bracket_15 : decode cX12_bracket 15 = .ok (.invokestatic 111, 3) := by decide +kernel
theorem dX12_bracket_18 : decode cX12_bracket 18 = .ok (.ifCond .ne 8, 3) := by decide +kernel
theorem dX12_bracket_21 : decode cX12_bracket 21 = .ok (.aload_n 0, 1) := by decide +kernel
theorem dX12_bracket_22 : decode cX12_bracket 22 = .ok (.invokevirtual 119, 3) := by decide +kernel
theorem dX12_bracket_25 : decode cX12_bracket 25 = .ok (.ireturn, 1) := by decide +kernel
theorem dX12_bracket_26 : decode cX12_bracket 26 = .ok (.aload_n 0, 1) := by decide +kernel
theorem dX12_bracket_27 : decode cX12_bracket 27 = .ok (.iload_n 2, 1) := by decide +kernel
theorem dX12_bracket_28 : decode cX12_bracket 28 = .ok (.bipush 24, 2) := by decide +kernel
theorem dX12_bracket_30 : decode cX12_bracket 30 = .ok (.invokevirtual 128, 3) := by decide +kernel
theorem dX12_bracket_33 : decode cX12_bracket 33 = .ok (.aload_n 0, 1) := by decide +kernel
theorem dX12_bracket_34 : decode cX12_bracket 34 = .ok (.iload_n 3, 1) := by decide +kernel
theorem dX12_bracket_35 : decode cX12_bracket 35 = .ok (.bipush 26, 2) := by decide +kernel
theorem dX12_bracket_37 : decode cX12_bracket 37 = .ok (.invokevirtual 128, 3) := by decide +kernel
theorem dX12_bracket_40 : decode cX12_bracket 40 = .ok (.aload_n 0, 1) := by decide +kernel
theorem dX12_bracket_41 : decode cX12_bracket 41 = .ok (.bipush 24, 2) := by decide +kernel
theorem dX12_bracket_43 : decode cX12_bracket 43 = .ok (.bipush 26, 2) := by decide +kernel
theorem dX12_bracket_45 : decode cX12_bracket 45 = .ok (.invokevirtual 137, 3) := by decide +kernel
theorem dX12_bracket_48 : decode cX12_bracket 48 = .ok (.ifCond .eq 8, 3) := by decide +kernel
theorem dX12_bracket_51 : decode cX12_bracket 51 = .ok (.aload_n 0, 1) := by decide +kernel
theorem dX12_bracket_52 : decode cX12_bracket 52 = .ok (.invokevirtual 140, 3) := by decide +kernel
theorem dX12_bracket_55 : decode cX12_bracket 55 = .ok (.ireturn, 1) := by decide +kernel
theorem dX12_bracket_56 : decode cX12_bracket 56 = .ok (.aload_n 0, 1) := by decide +kernel
theorem dX12_bracket_57 : decode cX12_bracket 57 = .ok (.bipush 24, 2) := by decide +kernel
theorem dX12_bracket_59 : decode cX12_bracket 59 = .ok (.bipush 26, 2) := by decide +kernel
theorem dX12_bracket_61 : decode cX12_bracket 61 = .ok (.bipush 25, 2) := by decide +kernel
theorem dX12_bracket_63 : decode cX12_bracket 63 = .ok (.invokevirtual 107, 3) := by decide +kernel
theorem dX12_bracket_66 : decode cX12_bracket 66 = .ok (.aload_n 0, 1) := by decide +kernel
theorem dX12_bracket_67 : decode cX12_bracket 67 = .ok (.bipush 26, 2) := by decide +kernel
theorem dX12_bracket_69 : decode cX12_bracket 69 = .ok (.bipush 24, 2) := by decide +kernel
theorem dX12_bracket_71 : decode cX12_bracket 71 = .ok (.bipush 27, 2) := by decide +kernel
theorem dX12_bracket_73 : decode cX12_bracket 73 = .ok (.invokevirtual 107, 3) := by decide +kernel
theorem dX12_bracket_76 : decode cX12_bracket 76 = .ok (.aload_n 0, 1) := by decide +kernel
theorem dX12_bracket_77 : decode cX12_bracket 77 = .ok (.bipush 25, 2) := by decide +kernel
theorem dX12_bracket_79 : decode cX12_bracket 79 = .ok (.iconst 1, 1) := by decide +kernel
theorem dX12_bracket_80 : decode cX12_bracket 80 = .ok (.bipush 27, 2) := by decide +kernel
theorem dX12_bracket_82 : decode cX12_bracket 82 = .ok (.sipush 10006, 3) := by decide +kernel
theorem dX12_bracket_85 : decode cX12_bracket 85 = .ok (.bipush 28, 2) := by decide +kernel
theorem dX12_bracket_87 : decode cX12_bracket 87 = .ok (.invokevirtual 131, 3) := by decide +kernel
theorem dX12_bracket_90 : decode cX12_bracket 90 = .ok (.aload_n 0, 1) := by decide +kernel
theorem dX12_bracket_91 : decode cX12_bracket 91 = .ok (.iload_n 1, 1) := by decide +kernel
theorem dX12_bracket_92 : decode cX12_bracket 92 = .ok (.bipush 28, 2) := by decide +kernel
theorem dX12_bracket_94 : decode cX12_bracket 94 = .ok (.invokevirtual 134, 3) := by decide +kernel
theorem dX12_bracket_97 : decode cX12_bracket 97 = .ok (.ireturn, 1) := by decide +kernel
theorem dX12_power_0 : decode cX12_power 0 = .ok (.iload_n 1, 1) := by decide +kernel
theorem dX12_power_1 : decode cX12_power 1 = .ok (.invokestatic 111, 3) := by decide +kernel
theorem dX12_power_4 : decode cX12_power 4 = .ok (.ifCond .eq 20, 3) := by decide +kernel
theorem dX12_power_7 : decode cX12_power 7 = .ok (.iload_n 2, 1) := by decide +kernel
theorem dX12_power_8 : decode cX12_power 8 = .ok (.invokestatic 111, 3) := by decide +kernel
theorem dX12_power_11 : decode cX12_power 11 = .ok (.ifCond .eq 13, 3) := by decide +kernel
theorem dX12_power_14 : decode cX12_power 14 = .ok (.iload_n 3, 1) := by decide +kernel
theorem dX12_power_15 : decode cX12_power 15 = .ok (.iconst 0, 1) := by decide +kernel
theorem dX12_power_16 : decode cX12_power 16 = .ok (.bipush 12, 2) := by decide +kernel
theorem dX12_power_18 : decode cX12_power 18 = .ok (.invokestatic 74, 3) := by decide +kernel
theorem dX12_power_21 : decode cX12_power 21 = .ok (.ifCond .ne 8, 3) := by decide +kernel
theorem dX12_power_24 : decode cX12_power 24 = .ok (.aload_n 0, 1) := by decide +kernel
theorem dX12_power_25 : decode cX12_power 25 = .ok (.invokevirtual 119, 3) := by decide +kernel
theorem dX12_power_28 : decode cX12_power 28 = .ok (.ireturn, 1) := by decide +kernel
theorem dX12_power_29 : decode cX12_power 29 = .ok (.aload_n 0, 1) := by decide +kernel
theorem dX12_power_30 : decode cX12_power 30 = .ok (.iload_n 2, 1) := by decide +kernel
theorem dX12_power_31 : decode cX12_power 31 = .ok (.bipush 27, 2) := by decide +kernel
theorem dX12_power_33 : decode cX12_power 33 = .ok (.invokevirtual 128, 3) := by decide +kernel
theorem dX12_power_36 : decode cX12_power 36 = .ok (.aload_n 0, 1) := by decide +kernel
theorem dX12_power_37 : decode cX12_power 37 = .ok (.bipush 27, 2) := by decide +kernel
theorem dX12_power_39 : decode cX12_power 39 = .ok (.iload_n 3, 1) := by decide +kernel
theorem dX12_power_40 : decode cX12_power 40 = .ok (.invokevirtual 143, 3) := by decide +kernel
theorem dX12_power_43 : decode cX12_power 43 = .ok (.ifCond .eq 8, 3) := by decide +kernel
theorem dX12_power_46 : decode cX12_power 46 = .ok (.aload_n 0, 1) := by decide +kernel
theorem dX12_power_47 : decode cX12_power 47 = .ok (.invokevirtual 140, 3) := by decide +kernel
theorem dX12_power_50 : decode cX12_power 50 = .ok (.ireturn, 1) := by decide +kernel
theorem dX12_power_51 : decode cX12_power 51 = .ok (.aload_n 0, 1) := by decide +kernel
theorem dX12_power_52 : decode cX12_power 52 = .ok (.iload_n 3, 1) := by decide +kernel
theorem dX12_power_53 : decode cX12_power 53 = .ok (.invokevirtual 146, 3) := by decide +kernel
theorem dX12_power_56 : decode cX12_power 56 = .ok (.aload_n 0, 1) := by decide +kernel
theorem dX12_power_57 : decode cX12_power 57 = .ok (.iload_n 1, 1) := by decide +kernel
theorem dX12_power_58 : decode cX12_power 58 = .ok (.bipush 27, 2) := by decide +kernel
theorem dX12_power_60 : decode cX12_power 60 = .ok (.invokevirtual 134, 3) := by decide +kernel
theorem dX12_power_63 : decode cX12_power 63 = .ok (.ireturn, 1) := by decide +kernel
theorem dX12_reversed_0 : decode cX12_reversed 0 = .ok (.iload_n 1, 1) := by decide +kernel
theorem dX12_reversed_1 : decode cX12_reversed 1 = .ok (.invokestatic 111, 3) := by decide +kernel
theorem dX12_reversed_4 : decode cX12_reversed 4 = .ok (.ifCond .eq 10, 3) := by decide +kernel
theorem dX12_reversed_7 : decode cX12_reversed 7 = .ok (.iload_n 2, 1) := by decide +kernel
theorem dX12_reversed_8 : decode cX12_reversed 8 = .ok (.invokestatic 111, 3) := by decide +kernel
theorem dX12_reversed_11 : decode cX12_reversed 11 = .ok (.ifCond .ne 8, 3) := by decide +kernel
theorem dX12_reversed_14 : decode cX12_reversed 14 = .ok (.aload_n 0, 1) := by decide +kernel
theorem dX12_reversed_15 : decode cX12_reversed 15 = .ok (.invokevirtual 119, 3) := by decide +kernel
theorem dX12_reversed_18 : decode cX12_reversed 18 = .ok (.ireturn, 1) := by decide +kernel
theorem dX12_reversed_19 : decode cX12_reversed 19 = .ok (.aload_n 0, 1) := by decide +kernel
theorem dX12_reversed_20 : decode cX12_reversed 20 = .ok (.bipush 25, 2) := by decide +kernel
theorem dX12_reversed_22 : decode cX12_reversed 22 = .ok (.invokevirtual 78, 3) := by decide +kernel
theorem dX12_reversed_25 : decode cX12_reversed 25 = .ok (.iconst 0, 1) := by decide +kernel
theorem dX12_reversed_26 : decode cX12_reversed 26 = .ok (.istore_n 3, 1) := by decide +kernel
theorem dX12_reversed_27 : decode cX12_reversed 27 = .ok (.iload_n 3, 1) := by decide +kernel
theorem dX12_reversed_28 : decode cX12_reversed 28 = .ok (.bipush 91, 2) := by decide +kernel
theorem dX12_reversed_30 : decode cX12_reversed 30 = .ok (.if_icmp .ge 70, 3) := by decide +kernel
theorem dX12_reversed_33 : decode cX12_reversed 33 = .ok (.aload_n 0, 1) := by decide +kernel
theorem dX12_reversed_34 : decode cX12_reversed 34 = .ok (.getfield 7, 3) := by decide +kernel
theorem dX12_reversed_37 : decode cX12_reversed 37 = .ok (.bipush 91, 2) := by decide +kernel
theorem dX12_reversed_39 : decode cX12_reversed 39 = .ok (.iload_n 2, 1) := by decide +kernel
theorem dX12_reversed_40 : decode cX12_reversed 40 = .ok (.imul, 1) := by decide +kernel
theorem dX12_reversed_41 : decode cX12_reversed 41 = .ok (.iload_n 3, 1) := by decide +kernel
theorem dX12_reversed_42 : decode cX12_reversed 42 = .ok (.iadd, 1) := by decide +kernel
theorem dX12_reversed_43 : decode cX12_reversed 43 = .ok (.iaload, 1) := by decide +kernel
theorem dX12_reversed_44 : decode cX12_reversed 44 = .ok (.istore 4, 2) := by decide +kernel
theorem dX12_reversed_46 : decode cX12_reversed 46 = .ok (.iload 4, 2) := by decide +kernel
theorem dX12_reversed_48 : decode cX12_reversed 48 = .ok (.ifCond .eq 46, 3) := by decide +kernel
theorem dX12_reversed_51 : decode cX12_reversed 51 = .ok (.aload_n 0, 1) := by decide +kernel
theorem dX12_reversed_52 : decode cX12_reversed 52 = .ok (.iconst 0, 1) := by decide +kernel
theorem dX12_reversed_53 : decode cX12_reversed 53 = .ok (.aload_n 0, 1) := by decide +kernel
theorem dX12_reversed_54 : decode cX12_reversed 54 = .ok (.getfield 28, 3) := by decide +kernel
theorem dX12_reversed_57 : decode cX12_reversed 57 = .ok (.iload_n 3, 1) := by decide +kernel
theorem dX12_reversed_58 : decode cX12_reversed 58 = .ok (.iaload, 1) := by decide +kernel
theorem dX12_reversed_59 : decode cX12_reversed 59 = .ok (.aload_n 0, 1) := by decide +kernel
theorem dX12_reversed_60 : decode cX12_reversed 60 = .ok (.getfield 25, 3) := by decide +kernel
theorem dX12_reversed_63 : decode cX12_reversed 63 = .ok (.iload_n 3, 1) := by decide +kernel
theorem dX12_reversed_64 : decode cX12_reversed 64 = .ok (.iaload, 1) := by decide +kernel
theorem dX12_reversed_65 : decode cX12_reversed 65 = .ok (.iconst 0, 1) := by decide +kernel
theorem dX12_reversed_66 : decode cX12_reversed 66 = .ok (.aload_n 0, 1) := by decide +kernel
theorem dX12_reversed_67 : decode cX12_reversed 67 = .ok (.getfield 28, 3) := by decide +kernel
theorem dX12_reversed_70 : decode cX12_reversed 70 = .ok (.iload_n 3, 1) := by decide +kernel
theorem dX12_reversed_71 : decode cX12_reversed 71 = .ok (.iaload, 1) := by decide +kernel
theorem dX12_reversed_72 : decode cX12_reversed 72 = .ok (.iconst 2, 1) := by decide +kernel
theorem dX12_reversed_73 : decode cX12_reversed 73 = .ok (.irem, 1) := by decide +kernel
theorem dX12_reversed_74 : decode cX12_reversed 74 = .ok (.iconst 1, 1) := by decide +kernel
theorem dX12_reversed_75 : decode cX12_reversed 75 = .ok (.if_icmp .ne 12, 3) := by decide +kernel
theorem dX12_reversed_78 : decode cX12_reversed 78 = .ok (.sipush 10007, 3) := by decide +kernel
theorem dX12_reversed_81 : decode cX12_reversed 81 = .ok (.iload 4, 2) := by decide +kernel
theorem dX12_reversed_83 : decode cX12_reversed 83 = .ok (.isub, 1) := by decide +kernel
theorem dX12_reversed_84 : decode cX12_reversed 84 = .ok (.goto 5, 3) := by decide +kernel
theorem dX12_reversed_87 : decode cX12_reversed 87 = .ok (.iload 4, 2) := by decide +kernel
theorem dX12_reversed_89 : decode cX12_reversed 89 = .ok (.bipush 25, 2) := by decide +kernel
theorem dX12_reversed_91 : decode cX12_reversed 91 = .ok (.invokevirtual 95, 3) := by decide +kernel
theorem dX12_reversed_94 : decode cX12_reversed 94 = .ok (.iinc 3 1, 3) := by decide +kernel
theorem dX12_reversed_97 : decode cX12_reversed 97 = .ok (.goto (-70), 3) := by decide +kernel
theorem dX12_reversed_100 : decode cX12_reversed 100 = .ok (.aload_n 0, 1) := by decide +kernel
theorem dX12_reversed_101 : decode cX12_reversed 101 = .ok (.iload_n 1, 1) := by decide +kernel
theorem dX12_reversed_102 : decode cX12_reversed 102 = .ok (.bipush 25, 2) := by decide +kernel
theorem dX12_reversed_104 : decode cX12_reversed 104 = .ok (.invokevirtual 134, 3) := by decide +kernel
theorem dX12_reversed_107 : decode cX12_reversed 107 = .ok (.ireturn, 1) := by decide +kernel
theorem dX12_greatest_0 : decode cX12_greatest 0 = .ok (.bipush (-99), 2) := by decide +kernel
theorem dX12_greatest_2 : decode cX12_greatest 2 = .ok (.istore 4, 2) := by decide +kernel
theorem dX12_greatest_4 : decode cX12_greatest 4 = .ok (.iconst 0, 1) := by decide +kernel
theorem dX12_greatest_5 : decode cX12_greatest 5 = .ok (.istore 5, 2) := by decide +kernel
theorem dX12_greatest_7 : decode cX12_greatest 7 = .ok (.iload 5, 2) := by decide +kernel
theorem dX12_greatest_9 : decode cX12_greatest 9 = .ok (.bipush 91, 2) := by decide +kernel
theorem dX12_greatest_11 : decode cX12_greatest 11 = .ok (.if_icmp .ge 61, 3) := by decide +kernel
theorem dX12_greatest_14 : decode cX12_greatest 14 = .ok (.iload_n 2, 1) := by decide +kernel
theorem dX12_greatest_15 : decode cX12_greatest 15 = .ok (.aload_n 0, 1) := by decide +kernel
theorem dX12_greatest_16 : decode cX12_greatest 16 = .ok (.getfield 25, 3) := by decide +kernel
theorem dX12_greatest_19 : decode cX12_greatest 19 = .ok (.iload 5, 2) := by decide +kernel
theorem dX12_greatest_21 : decode cX12_greatest 21 = .ok (.iaload, 1) := by decide +kernel
theorem dX12_greatest_22 : decode cX12_greatest 22 = .ok (.imul, 1) := by decide +kernel
theorem dX12_greatest_23 : decode cX12_greatest 23 = .ok (.iload_n 3, 1) := by decide +kernel
theorem dX12_greatest_24 : decode cX12_greatest 24 = .ok (.aload_n 0, 1) := by decide +kernel
theorem dX12_greatest_25 : decode cX12_greatest 25 = .ok (.getfield 28, 3) := by decide +kernel
theorem dX12_greatest_28 : decode cX12_greatest 28 = .ok (.iload 5, 2) := by decide +kernel
theorem dX12_greatest_30 : decode cX12_greatest 30 = .ok (.iaload, 1) := by decide +kernel
theorem dX12_greatest_31 : decode cX12_greatest 31 = .ok (.imul, 1) := by decide +kernel
theorem dX12_greatest_32 : decode cX12_greatest 32 = .ok (.iadd, 1) := by decide +kernel
theorem dX12_greatest_33 : decode cX12_greatest 33 = .ok (.istore 6, 2) := by decide +kernel
theorem dX12_greatest_35 : decode cX12_greatest 35 = .ok (.aload_n 0, 1) := by decide +kernel
theorem dX12_greatest_36 : decode cX12_greatest 36 = .ok (.getfield 7, 3) := by decide +kernel
theorem dX12_greatest_39 : decode cX12_greatest 39 = .ok (.bipush 91, 2) := by decide +kernel
theorem dX12_greatest_41 : decode cX12_greatest 41 = .ok (.iload_n 1, 1) := by decide +kernel
theorem dX12_greatest_42 : decode cX12_greatest 42 = .ok (.imul, 1) := by decide +kernel
theorem dX12_greatest_43 : decode cX12_greatest 43 = .ok (.iload 5, 2) := by decide +kernel
theorem dX12_greatest_45 : decode cX12_greatest 45 = .ok (.iadd, 1) := by decide +kernel
theorem dX12_greatest_46 : decode cX12_greatest 46 = .ok (.iaload, 1) := by decide +kernel
theorem dX12_greatest_47 : decode cX12_greatest 47 = .ok (.ifCond .eq 15, 3) := by decide +kernel
theorem dX12_greatest_50 : decode cX12_greatest 50 = .ok (.iload 6, 2) := by decide +kernel
theorem dX12_greatest_52 : decode cX12_greatest 52 = .ok (.iload 4, 2) := by decide +kernel
theorem dX12_greatest_54 : decode cX12_greatest 54 = .ok (.if_icmp .le 8, 3) := by decide +kernel
theorem dX12_greatest_57 : decode cX12_greatest 57 = .ok (.iload 6, 2) := by decide +kernel
theorem dX12_greatest_59 : decode cX12_greatest 59 = .ok (.goto 5, 3) := by decide +kernel
theorem dX12_greatest_62 : decode cX12_greatest 62 = .ok (.iload 4, 2) := by decide +kernel
theorem dX12_greatest_64 : decode cX12_greatest 64 = .ok (.istore 4, 2) := by decide +kernel
theorem dX12_greatest_66 : decode cX12_greatest 66 = .ok (.iinc 5 1, 3) := by decide +kernel
theorem dX12_greatest_69 : decode cX12_greatest 69 = .ok (.goto (-62), 3) := by decide +kernel
theorem dX12_greatest_72 : decode cX12_greatest 72 = .ok (.iload 4, 2) := by decide +kernel
theorem dX12_greatest_74 : decode cX12_greatest 74 = .ok (.ireturn, 1) := by decide +kernel
theorem dX12_ofLead_0 : decode cX12_ofLead 0 = .ok (.aload_n 0, 1) := by decide +kernel
theorem dX12_ofLead_1 : decode cX12_ofLead 1 = .ok (.bipush 24, 2) := by decide +kernel
theorem dX12_ofLead_3 : decode cX12_ofLead 3 = .ok (.invokevirtual 149, 3) := by decide +kernel
theorem dX12_ofLead_6 : decode cX12_ofLead 6 = .ok (.istore_n 2, 1) := by decide +kernel
theorem dX12_ofLead_7 : decode cX12_ofLead 7 = .ok (.iload_n 1, 1) := by decide +kernel
theorem dX12_ofLead_8 : decode cX12_ofLead 8 = .ok (.bipush 6, 2) := by decide +kernel
theorem dX12_ofLead_10 : decode cX12_ofLead 10 = .ok (.if_icmp .ne 12, 3) := by decide +kernel
theorem dX12_ofLead_13 : decode cX12_ofLead 13 = .ok (.aload_n 0, 1) := by decide +kernel
theorem dX12_ofLead_14 : decode cX12_ofLead 14 = .ok (.getfield 25, 3) := by decide +kernel
theorem dX12_ofLead_17 : decode cX12_ofLead 17 = .ok (.iload_n 2, 1) := by decide +kernel
theorem dX12_ofLead_18 : decode cX12_ofLead 18 = .ok (.iaload, 1) := by decide +kernel
theorem dX12_ofLead_19 : decode cX12_ofLead 19 = .ok (.goto 31, 3) := by decide +kernel
theorem dX12_ofLead_22 : decode cX12_ofLead 22 = .ok (.iload_n 1, 1) := by decide +kernel
theorem dX12_ofLead_23 : decode cX12_ofLead 23 = .ok (.bipush 7, 2) := by decide +kernel
theorem dX12_ofLead_25 : decode cX12_ofLead 25 = .ok (.if_icmp .ne 12, 3) := by decide +kernel
theorem dX12_ofLead_28 : decode cX12_ofLead 28 = .ok (.aload_n 0, 1) := by decide +kernel
theorem dX12_ofLead_29 : decode cX12_ofLead 29 = .ok (.getfield 28, 3) := by decide +kernel
theorem dX12_ofLead_32 : decode cX12_ofLead 32 = .ok (.iload_n 2, 1) := by decide +kernel
theorem dX12_ofLead_33 : decode cX12_ofLead 33 = .ok (.iaload, 1) := by decide +kernel
theorem dX12_ofLead_34 : decode cX12_ofLead 34 = .ok (.goto 16, 3) := by decide +kernel
theorem dX12_ofLead_37 : decode cX12_ofLead 37 = .ok (.aload_n 0, 1) := by decide +kernel
theorem dX12_ofLead_38 : decode cX12_ofLead 38 = .ok (.getfield 22, 3) := by decide +kernel
theorem dX12_ofLead_41 : decode cX12_ofLead 41 = .ok (.sipush 11904, 3) := by decide +kernel
theorem dX12_ofLead_44 : decode cX12_ofLead 44 = .ok (.iload_n 2, 1) := by decide +kernel
theorem dX12_ofLead_45 : decode cX12_ofLead 45 = .ok (.iadd, 1) := by decide +kernel
theorem dX12_ofLead_46 : decode cX12_ofLead 46 = .ok (.iaload, 1) := by decide +kernel
theorem dX12_ofLead_47 : decode cX12_ofLead 47 = .ok (.invokestatic 125, 3) := by decide +kernel
theorem dX12_ofLead_50 : decode cX12_ofLead 50 = .ok (.ireturn, 1) := by decide +kernel
theorem dX12_aboutOf_0 : decode cX12_aboutOf 0 = .ok (.aload_n 0, 1) := by decide +kernel
theorem dX12_aboutOf_1 : decode cX12_aboutOf 1 = .ok (.iload_n 1, 1) := by decide +kernel
theorem dX12_aboutOf_2 : decode cX12_aboutOf 2 = .ok (.bipush 24, 2) := by decide +kernel
theorem dX12_aboutOf_4 : decode cX12_aboutOf 4 = .ok (.invokevirtual 128, 3) := by decide +kernel
theorem dX12_aboutOf_7 : decode cX12_aboutOf 7 = .ok (.aload_n 0, 1) := by decide +kernel
theorem dX12_aboutOf_8 : decode cX12_aboutOf 8 = .ok (.bipush 24, 2) := by decide +kernel
theorem dX12_aboutOf_10 : decode cX12_aboutOf 10 = .ok (.invokevirtual 85, 3) := by decide +kernel
theorem dX12_aboutOf_13 : decode cX12_aboutOf 13 = .ok (.istore_n 3, 1) := by decide +kernel
theorem dX12_aboutOf_14 : decode cX12_aboutOf 14 = .ok (.iload_n 2, 1) := by decide +kernel
theorem dX12_aboutOf_15 : decode cX12_aboutOf 15 = .ok (.ifCond .eq 7, 3) := by decide +kernel
theorem dX12_aboutOf_18 : decode cX12_aboutOf 18 = .ok (.iload_n 3, 1) := by decide +kernel
theorem dX12_aboutOf_19 : decode cX12_aboutOf 19 = .ok (.ifCond .ne 21, 3) := by decide +kernel
theorem dX12_aboutOf_22 : decode cX12_aboutOf 22 = .ok (.iload_n 2, 1) := by decide +kernel
theorem dX12_aboutOf_23 : decode cX12_aboutOf 23 = .ok (.ifCond .eq 9, 3) := by decide +kernel
theorem dX12_aboutOf_26 : decode cX12_aboutOf 26 = .ok (.iload_n 2, 1) := by decide +kernel
theorem dX12_aboutOf_27 : decode cX12_aboutOf 27 = .ok (.bipush 8, 2) := by decide +kernel
theorem dX12_aboutOf_29 : decode cX12_aboutOf 29 = .ok (.if_icmp .ne 7, 3) := by decide +kernel
theorem dX12_aboutOf_32 : decode cX12_aboutOf 32 = .ok (.iload_n 3, 1) := by decide +kernel
theorem dX12_aboutOf_33 : decode cX12_aboutOf 33 = .ok (.goto 6, 3) := by decide +kernel
theorem dX12_aboutOf_36 : decode cX12_aboutOf 36 = .ok (.sipush (-20001), 3) := by decide +kernel
theorem dX12_aboutOf_39 : decode cX12_aboutOf 39 = .ok (.ireturn, 1) := by decide +kernel
theorem dX12_aboutOf_40 : decode cX12_aboutOf 40 = .ok (.iload_n 2, 1) := by decide +kernel
theorem dX12_aboutOf_41 : decode cX12_aboutOf 41 = .ok (.tableswitch 75 1 5 #[35, 42, 50, 58, 66], 35) := by decide +kernel
theorem dX12_aboutOf_76 : decode cX12_aboutOf 76 = .ok (.aload_n 0, 1) := by decide +kernel
theorem dX12_aboutOf_77 : decode cX12_aboutOf 77 = .ok (.bipush 24, 2) := by decide +kernel
theorem dX12_aboutOf_79 : decode cX12_aboutOf 79 = .ok (.invokevirtual 89, 3) := by decide +kernel
theorem dX12_aboutOf_82 : decode cX12_aboutOf 82 = .ok (.ireturn, 1) := by decide +kernel
theorem dX12_aboutOf_83 : decode cX12_aboutOf 83 = .ok (.aload_n 0, 1) := by decide +kernel
theorem dX12_aboutOf_84 : decode cX12_aboutOf 84 = .ok (.iload_n 1, 1) := by decide +kernel
theorem dX12_aboutOf_85 : decode cX12_aboutOf 85 = .ok (.iconst 1, 1) := by decide +kernel
theorem dX12_aboutOf_86 : decode cX12_aboutOf 86 = .ok (.iconst 0, 1) := by decide +kernel
theorem dX12_aboutOf_87 : decode cX12_aboutOf 87 = .ok (.invokevirtual 152, 3) := by decide +kernel
theorem dX12_aboutOf_90 : decode cX12_aboutOf 90 = .ok (.ireturn, 1) := by decide +kernel
theorem dX12_aboutOf_91 : decode cX12_aboutOf 91 = .ok (.aload_n 0, 1) := by decide +kernel
theorem dX12_aboutOf_92 : decode cX12_aboutOf 92 = .ok (.iload_n 1, 1) := by decide +kernel
theorem dX12_aboutOf_93 : decode cX12_aboutOf 93 = .ok (.iconst 0, 1) := by decide +kernel
theorem dX12_aboutOf_94 : decode cX12_aboutOf 94 = .ok (.iconst 1, 1) := by decide +kernel
theorem dX12_aboutOf_95 : decode cX12_aboutOf 95 = .ok (.invokevirtual 152, 3) := by decide +kernel
theorem dX12_aboutOf_98 : decode cX12_aboutOf 98 = .ok (.ireturn, 1) := by decide +kernel
theorem dX12_aboutOf_99 : decode cX12_aboutOf 99 = .ok (.aload_n 0, 1) := by decide +kernel
theorem dX12_aboutOf_100 : decode cX12_aboutOf 100 = .ok (.iload_n 1, 1) := by decide +kernel
theorem dX12_aboutOf_101 : decode cX12_aboutOf 101 = .ok (.iconst (-1), 1) := by decide +kernel
theorem dX12_aboutOf_102 : decode cX12_aboutOf 102 = .ok (.iconst 1, 1) := by decide +kernel
theorem dX12_aboutOf_103 : decode cX12_aboutOf 103 = .ok (.invokevirtual 152, 3) := by decide +kernel
theorem dX12_aboutOf_106 : decode cX12_aboutOf 106 = .ok (.ireturn, 1) := by decide +kernel
theorem dX12_aboutOf_107 : decode cX12_aboutOf 107 = .ok (.aload_n 0, 1) := by decide +kernel
theorem dX12_aboutOf_108 : decode cX12_aboutOf 108 = .ok (.iload_n 1, 1) := by decide +kernel
theorem dX12_aboutOf_109 : decode cX12_aboutOf 109 = .ok (.iconst 1, 1) := by decide +kernel
theorem dX12_aboutOf_110 : decode cX12_aboutOf 110 = .ok (.iconst (-1), 1) := by decide +kernel
theorem dX12_aboutOf_111 : decode cX12_aboutOf 111 = .ok (.invokevirtual 152, 3) := by decide +kernel
theorem dX12_aboutOf_114 : decode cX12_aboutOf 114 = .ok (.ineg, 1) := by decide +kernel
theorem dX12_aboutOf_115 : decode cX12_aboutOf 115 = .ok (.ireturn, 1) := by decide +kernel
theorem dX12_aboutOf_116 : decode cX12_aboutOf 116 = .ok (.aload_n 0, 1) := by decide +kernel
theorem dX12_aboutOf_117 : decode cX12_aboutOf 117 = .ok (.iload_n 2, 1) := by decide +kernel
theorem dX12_aboutOf_118 : decode cX12_aboutOf 118 = .ok (.invokevirtual 156, 3) := by decide +kernel
theorem dX12_aboutOf_121 : decode cX12_aboutOf 121 = .ok (.ireturn, 1) := by decide +kernel
theorem dX12_of_0 : decode cX12_of 0 = .ok (.iload_n 1, 1) := by decide +kernel
theorem dX12_of_1 : decode cX12_of 1 = .ok (.invokestatic 111, 3) := by decide +kernel
theorem dX12_of_4 : decode cX12_of 4 = .ok (.ifCond .eq 22, 3) := by decide +kernel
theorem dX12_of_7 : decode cX12_of 7 = .ok (.iload_n 2, 1) := by decide +kernel
theorem dX12_of_8 : decode cX12_of 8 = .ok (.iconst 0, 1) := by decide +kernel
theorem dX12_of_9 : decode cX12_of 9 = .ok (.bipush 8, 2) := by decide +kernel
theorem dX12_of_11 : decode cX12_of 11 = .ok (.invokestatic 74, 3) := by decide +kernel
theorem dX12_of_14 : decode cX12_of 14 = .ok (.ifCond .eq 12, 3) := by decide +kernel
theorem dX12_of_17 : decode cX12_of 17 = .ok (.aload_n 0, 1) := by decide +kernel
theorem dX12_of_18 : decode cX12_of 18 = .ok (.iload_n 1, 1) := by decide +kernel
theorem dX12_of_19 : decode cX12_of 19 = .ok (.iload_n 2, 1) := by decide +kernel
theorem dX12_of_20 : decode cX12_of 20 = .ok (.invokevirtual 159, 3) := by decide +kernel
theorem dX12_of_23 : decode cX12_of 23 = .ok (.goto 7, 3) := by decide +kernel
theorem dX12_of_26 : decode cX12_of 26 = .ok (.aload_n 0, 1) := by decide +kernel
theorem dX12_of_27 : decode cX12_of 27 = .ok (.invokevirtual 119, 3) := by decide +kernel
theorem dX12_of_30 : decode cX12_of 30 = .ok (.ireturn, 1) := by decide +kernel
theorem dX12_order_0 : decode cX12_order 0 = .ok (.iload_n 1, 1) := by decide +kernel
theorem dX12_order_1 : decode cX12_order 1 = .ok (.iconst 0, 1) := by decide +kernel
theorem dX12_order_2 : decode cX12_order 2 = .ok (.iconst 1, 1) := by decide +kernel
theorem dX12_order_3 : decode cX12_order 3 = .ok (.invokestatic 74, 3) := by decide +kernel
theorem dX12_order_6 : decode cX12_order 6 = .ok (.ifCond .ne 8, 3) := by decide +kernel
theorem dX12_order_9 : decode cX12_order 9 = .ok (.aload_n 0, 1) := by decide +kernel
theorem dX12_order_10 : decode cX12_order 10 = .ok (.invokevirtual 119, 3) := by decide +kernel
theorem dX12_order_13 : decode cX12_order 13 = .ok (.ireturn, 1) := by decide +kernel
theorem dX12_order_14 : decode cX12_order 14 = .ok (.aload_n 0, 1) := by decide +kernel
theorem dX12_order_15 : decode cX12_order 15 = .ok (.invokevirtual 82, 3) := by decide +kernel
theorem dX12_order_18 : decode cX12_order 18 = .ok (.aload_n 0, 1) := by decide +kernel
theorem dX12_order_19 : decode cX12_order 19 = .ok (.getfield 7, 3) := by decide +kernel
theorem dX12_order_22 : decode cX12_order 22 = .ok (.sipush 608, 3) := by decide +kernel
theorem dX12_order_25 : decode cX12_order 25 = .ok (.iaload, 1) := by decide +kernel
theorem dX12_order_26 : decode cX12_order 26 = .ok (.istore_n 2, 1) := by decide +kernel
theorem dX12_order_27 : decode cX12_order 27 = .ok (.aload_n 0, 1) := by decide +kernel
theorem dX12_order_28 : decode cX12_order 28 = .ok (.getfield 7, 3) := by decide +kernel
theorem dX12_order_31 : decode cX12_order 31 = .ok (.sipush 608, 3) := by decide +kernel
theorem dX12_order_34 : decode cX12_order 34 = .ok (.iload_n 1, 1) := by decide +kernel
theorem dX12_order_35 : decode cX12_order 35 = .ok (.iastore, 1) := by decide +kernel
theorem dX12_order_36 : decode cX12_order 36 = .ok (.iload_n 2, 1) := by decide +kernel
theorem dX12_order_37 : decode cX12_order 37 = .ok (.ireturn, 1) := by decide +kernel
theorem dX12_isPolynomial_0 : decode cX12_isPolynomial 0 = .ok (.iload_n 0, 1) := by decide +kernel
theorem dX12_isPolynomial_1 : decode cX12_isPolynomial 1 = .ok (.iconst 0, 1) := by decide +kernel
theorem dX12_isPolynomial_2 : decode cX12_isPolynomial 2 = .ok (.iconst 1, 1) := by decide +kernel
theorem dX12_isPolynomial_3 : decode cX12_isPolynomial 3 = .ok (.invokestatic 74, 3) := by decide +kernel
theorem dX12_isPolynomial_6 : decode cX12_isPolynomial 6 = .ok (.ireturn, 1) := by decide +kernel
theorem dX12_rateAt_0 : decode cX12_rateAt 0 = .ok (.sipush 546, 3) := by decide +kernel
theorem dX12_rateAt_3 : decode cX12_rateAt 3 = .ok (.bipush 31, 2) := by decide +kernel
theorem dX12_rateAt_5 : decode cX12_rateAt 5 = .ok (.iload_n 0, 1) := by decide +kernel
theorem dX12_rateAt_6 : decode cX12_rateAt 6 = .ok (.imul, 1) := by decide +kernel
theorem dX12_rateAt_7 : decode cX12_rateAt 7 = .ok (.iadd, 1) := by decide +kernel
theorem dX12_rateAt_8 : decode cX12_rateAt 8 = .ok (.iload_n 1, 1) := by decide +kernel
theorem dX12_rateAt_9 : decode cX12_rateAt 9 = .ok (.iadd, 1) := by decide +kernel
theorem dX12_rateAt_10 : decode cX12_rateAt 10 = .ok (.ireturn, 1) := by decide +kernel
theorem dX12_puts_0 : decode cX12_puts 0 = .ok (.iload_n 1, 1) := by decide +kernel
theorem dX12_puts_1 : decode cX12_puts 1 = .ok (.invokestatic 162, 3) := by decide +kernel
theorem dX12_puts_4 : decode cX12_puts 4 = .ok (.ifCond .eq 13, 3) := by decide +kernel
theorem dX12_puts_7 : decode cX12_puts 7 = .ok (.iload_n 2, 1) := by decide +kernel
theorem dX12_puts_8 : decode cX12_puts 8 = .ok (.iconst 0, 1) := by decide +kernel
theorem dX12_puts_9 : decode cX12_puts 9 = .ok (.bipush 30, 2) := by decide +kernel
theorem dX12_puts_11 : decode cX12_puts 11 = .ok (.invokestatic 74, 3) := by decide +kernel
theorem dX12_puts_14 : decode cX12_puts 14 = .ok (.ifCond .ne 8, 3) := by decide +kernel
theorem dX12_puts_17 : decode cX12_puts 17 = .ok (.aload_n 0, 1) := by decide +kernel
theorem dX12_puts_18 : decode cX12_puts 18 = .ok (.invokevirtual 119, 3) := by decide +kernel
theorem dX12_puts_21 : decode cX12_puts 21 = .ok (.ireturn, 1) := by decide +kernel
theorem dX12_puts_22 : decode cX12_puts 22 = .ok (.aload_n 0, 1) := by decide +kernel
theorem dX12_puts_23 : decode cX12_puts 23 = .ok (.invokevirtual 82, 3) := by decide +kernel
theorem dX12_puts_26 : decode cX12_puts 26 = .ok (.aload_n 0, 1) := by decide +kernel
theorem dX12_puts_27 : decode cX12_puts 27 = .ok (.getfield 7, 3) := by decide +kernel
theorem dX12_puts_30 : decode cX12_puts 30 = .ok (.iload_n 1, 1) := by decide +kernel
theorem dX12_puts_31 : decode cX12_puts 31 = .ok (.iload_n 2, 1) := by decide +kernel
theorem dX12_puts_32 : decode cX12_puts 32 = .ok (.invokestatic 165, 3) := by decide +kernel
theorem dX12_puts_35 : decode cX12_puts 35 = .ok (.iaload, 1) := by decide +kernel
theorem dX12_puts_36 : decode cX12_puts 36 = .ok (.istore 4, 2) := by decide +kernel
theorem dX12_puts_38 : decode cX12_puts 38 = .ok (.aload_n 0, 1) := by decide +kernel
theorem dX12_puts_39 : decode cX12_puts 39 = .ok (.getfield 7, 3) := by decide +kernel
theorem dX12_puts_42 : decode cX12_puts 42 = .ok (.iload_n 1, 1) := by decide +kernel
theorem dX12_puts_43 : decode cX12_puts 43 = .ok (.iload_n 2, 1) := by decide +kernel
theorem dX12_puts_44 : decode cX12_puts 44 = .ok (.invokestatic 165, 3) := by decide +kernel
theorem dX12_puts_47 : decode cX12_puts 47 = .ok (.iload_n 3, 1) := by decide +kernel
theorem dX12_puts_48 : decode cX12_puts 48 = .ok (.invokestatic 122, 3) := by decide +kernel
theorem dX12_puts_51 : decode cX12_puts 51 = .ok (.iastore, 1) := by decide +kernel
theorem dX12_puts_52 : decode cX12_puts 52 = .ok (.iload 4, 2) := by decide +kernel
theorem dX12_puts_54 : decode cX12_puts 54 = .ok (.invokestatic 125, 3) := by decide +kernel
theorem dX12_puts_57 : decode cX12_puts 57 = .ok (.ireturn, 1) := by decide +kernel
theorem dX12_rate_0 : decode cX12_rate 0 = .ok (.iload_n 1, 1) := by decide +kernel
theorem dX12_rate_1 : decode cX12_rate 1 = .ok (.invokestatic 162, 3) := by decide +kernel
theorem dX12_rate_4 : decode cX12_rate 4 = .ok (.ifCond .eq 29, 3) := by decide +kernel
theorem dX12_rate_7 : decode cX12_rate 7 = .ok (.iload_n 2, 1) := by decide +kernel
theorem dX12_rate_8 : decode cX12_rate 8 = .ok (.iconst 0, 1) := by decide +kernel
theorem dX12_rate_9 : decode cX12_rate 9 = .ok (.bipush 30, 2) := by decide +kernel
theorem dX12_rate_11 : decode cX12_rate 11 = .ok (.invokestatic 74, 3) := by decide +kernel
theorem dX12_rate_14 : decode cX12_rate 14 = .ok (.ifCond .eq 19, 3) := by decide +kernel
theorem dX12_rate_17 : decode cX12_rate 17 = .ok (.aload_n 0, 1) := by decide +kernel
theorem dX12_rate_18 : decode cX12_rate 18 = .ok (.getfield 7, 3) := by decide +kernel
theorem dX12_rate_21 : decode cX12_rate 21 = .ok (.iload_n 1, 1) := by decide +kernel
theorem dX12_rate_22 : decode cX12_rate 22 = .ok (.iload_n 2, 1) := by decide +kernel
theorem dX12_rate_23 : decode cX12_rate 23 = .ok (.invokestatic 165, 3) := by decide +kernel
theorem dX12_rate_26 : decode cX12_rate 26 = .ok (.iaload, 1) := by decide +kernel
theorem dX12_rate_27 : decode cX12_rate 27 = .ok (.invokestatic 125, 3) := by decide +kernel
theorem dX12_rate_30 : decode cX12_rate 30 = .ok (.goto 7, 3) := by decide +kernel
theorem dX12_rate_33 : decode cX12_rate 33 = .ok (.aload_n 0, 1) := by decide +kernel
theorem dX12_rate_34 : decode cX12_rate 34 = .ok (.invokevirtual 119, 3) := by decide +kernel
theorem dX12_rate_37 : decode cX12_rate 37 = .ok (.ireturn, 1) := by decide +kernel
theorem dX12_falls_0 : decode cX12_falls 0 = .ok (.iconst 1, 1) := by decide +kernel
theorem dX12_falls_1 : decode cX12_falls 1 = .ok (.istore_n 2, 1) := by decide +kernel
theorem dX12_falls_2 : decode cX12_falls 2 = .ok (.iconst 0, 1) := by decide +kernel
theorem dX12_falls_3 : decode cX12_falls 3 = .ok (.istore_n 3, 1) := by decide +kernel
theorem dX12_falls_4 : decode cX12_falls 4 = .ok (.iload_n 3, 1) := by decide +kernel
theorem dX12_falls_5 : decode cX12_falls 5 = .ok (.iload_n 1, 1) := by decide +kernel
theorem dX12_falls_6 : decode cX12_falls 6 = .ok (.if_icmp .ge 19, 3) := by decide +kernel
theorem dX12_falls_9 : decode cX12_falls 9 = .ok (.iload_n 2, 1) := by decide +kernel
theorem dX12_falls_10 : decode cX12_falls 10 = .ok (.iload_n 0, 1) := by decide +kernel
theorem dX12_falls_11 : decode cX12_falls 11 = .ok (.iload_n 3, 1) := by decide +kernel
theorem dX12_falls_12 : decode cX12_falls 12 = .ok (.isub, 1) := by decide +kernel
theorem dX12_falls_13 : decode cX12_falls 13 = .ok (.imul, 1) := by decide +kernel
theorem dX12_falls_14 : decode cX12_falls 14 = .ok (.sipush 10007, 3) := by decide +kernel
theorem dX12_falls_17 : decode cX12_falls 17 = .ok (.irem, 1) := by decide +kernel
theorem dX12_falls_18 : decode cX12_falls 18 = .ok (.istore_n 2, 1) := by decide +kernel
theorem dX12_falls_19 : decode cX12_falls 19 = .ok (.iinc 3 1, 3) := by decide +kernel
theorem dX12_falls_22 : decode cX12_falls 22 = .ok (.goto (-18), 3) := by decide +kernel
theorem dX12_falls_25 : decode cX12_falls 25 = .ok (.iload_n 2, 1) := by decide +kernel
theorem dX12_falls_26 : decode cX12_falls 26 = .ok (.ireturn, 1) := by decide +kernel
theorem dX12_greatestPower_0 : decode cX12_greatestPower 0 = .ok (.bipush 30, 2) := by decide +kernel
theorem dX12_greatestPower_2 : decode cX12_greatestPower 2 = .ok (.istore_n 2, 1) := by decide +kernel
theorem dX12_greatestPower_3 : decode cX12_greatestPower 3 = .ok (.iload_n 2, 1) := by decide +kernel
theorem dX12_greatestPower_4 : decode cX12_greatestPower 4 = .ok (.ifCond .lt 22, 3) := by decide +kernel
theorem dX12_greatestPower_7 : decode cX12_greatestPower 7 = .ok (.aload_n 0, 1) := by decide +kernel
theorem dX12_greatestPower_8 : decode cX12_greatestPower 8 = .ok (.getfield 7, 3) := by decide +kernel
theorem dX12_greatestPower_11 : decode cX12_greatestPower 11 = .ok (.iload_n 1, 1) := by decide +kernel
theorem dX12_greatestPower_12 : decode cX12_greatestPower 12 = .ok (.iload_n 2, 1) := by decide +kernel
theorem dX12_greatestPower_13 : decode cX12_greatestPower 13 = .ok (.invokestatic 165, 3) := by decide +kernel
theorem dX12_greatestPower_16 : decode cX12_greatestPower 16 = .ok (.iaload, 1) := by decide +kernel
theorem dX12_greatestPower_17 : decode cX12_greatestPower 17 = .ok (.ifCond .ne 9, 3) := by decide +kernel
theorem dX12_greatestPower_20 : decode cX12_greatestPower 20 = .ok (.iinc 2 (-1), 3) := by decide +kernel
theorem dX12_greatestPower_23 : decode cX12_greatestPower 23 = .ok (.goto (-20), 3) := by decide +kernel
theorem dX12_greatestPower_26 : decode cX12_greatestPower 26 = .ok (.iload_n 2, 1) := by decide +kernel
theorem dX12_greatestPower_27 : decode cX12_greatestPower 27 = .ok (.ireturn, 1) := by decide +kernel
theorem dX12_canMake_0 : decode cX12_canMake 0 = .ok (.iconst 0, 1) := by decide +kernel
theorem dX12_canMake_1 : decode cX12_canMake 1 = .ok (.istore_n 3, 1) := by decide +kernel
theorem dX12_canMake_2 : decode cX12_canMake 2 = .ok (.iload_n 3, 1) := by decide +kernel
theorem dX12_canMake_3 : decode cX12_canMake 3 = .ok (.bipush 31, 2) := by decide +kernel
theorem dX12_canMake_5 : decode cX12_canMake 5 = .ok (.if_icmp .ge 16, 3) := by decide +kernel
theorem dX12_canMake_8 : decode cX12_canMake 8 = .ok (.aload_n 0, 1) := by decide +kernel
theorem dX12_canMake_9 : decode cX12_canMake 9 = .ok (.getfield 34, 3) := by decide +kernel
theorem dX12_canMake_12 : decode cX12_canMake 12 = .ok (.iload_n 3, 1) := by decide +kernel
theorem dX12_canMake_13 : decode cX12_canMake 13 = .ok (.iconst 0, 1) := by decide +kernel
theorem dX12_canMake_14 : decode cX12_canMake 14 = .ok (.iastore, 1) := by decide +kernel
theorem dX12_canMake_15 : decode cX12_canMake 15 = .ok (.iinc 3 1, 3) := by decide +kernel
theorem dX12_canMake_18 : decode cX12_canMake 18 = .ok (.goto (-16), 3) := by decide +kernel
theorem dX12_canMake_21 : decode cX12_canMake 21 = .ok (.iconst 1, 1) := by decide +kernel
theorem dX12_canMake_22 : decode cX12_canMake 22 = .ok (.istore_n 3, 1) := by decide +kernel
theorem dX12_canMake_23 : decode cX12_canMake 23 = .ok (.iconst 0, 1) := by decide +kernel
theorem dX12_canMake_24 : decode cX12_canMake 24 = .ok (.istore 4, 2) := by decide +kernel
theorem dX12_canMake_26 : decode cX12_canMake 26 = .ok (.iload 4, 2) := by decide +kernel
theorem dX12_canMake_28 : decode cX12_canMake 28 = .ok (.sipush 2821, 3) := by decide +kernel
theorem dX12_canMake_31 : decode cX12_canMake 31 = .ok (.if_icmp .ge 145, 3) := by decide +kernel
theorem dX12_canMake_34 : decode cX12_canMake 34 = .ok (.iload 4, 2) := by decide +kernel
theorem dX12_canMake_36 : decode cX12_canMake 36 = .ok (.bipush 31, 2) := by decide +kernel
theorem dX12_canMake_38 : decode cX12_canMake 38 = .ok (.idiv, 1) := by decide +kernel
theorem dX12_canMake_39 : decode cX12_canMake 39 = .ok (.istore 5, 2) := by decide +kernel
theorem dX12_canMake_41 : decode cX12_canMake 41 = .ok (.iload 4, 2) := by decide +kernel
theorem dX12_canMake_43 : decode cX12_canMake 43 = .ok (.bipush 31, 2) := by decide +kernel
theorem dX12_canMake_45 : decode cX12_canMake 45 = .ok (.irem, 1) := by decide +kernel
theorem dX12_canMake_46 : decode cX12_canMake 46 = .ok (.istore 6, 2) := by decide +kernel
theorem dX12_canMake_48 : decode cX12_canMake 48 = .ok (.aload_n 0, 1) := by decide +kernel
theorem dX12_canMake_49 : decode cX12_canMake 49 = .ok (.getfield 7, 3) := by decide +kernel
theorem dX12_canMake_52 : decode cX12_canMake 52 = .ok (.bipush 91, 2) := by decide +kernel
theorem dX12_canMake_54 : decode cX12_canMake 54 = .ok (.iload_n 1, 1) := by decide +kernel
theorem dX12_canMake_55 : decode cX12_canMake 55 = .ok (.imul, 1) := by decide +kernel
theorem dX12_canMake_56 : decode cX12_canMake 56 = .ok (.iload 5, 2) := by decide +kernel
theorem dX12_canMake_58 : decode cX12_canMake 58 = .ok (.iadd, 1) := by decide +kernel
theorem dX12_canMake_59 : decode cX12_canMake 59 = .ok (.iaload, 1) := by decide +kernel
theorem dX12_canMake_60 : decode cX12_canMake 60 = .ok (.aload_n 0, 1) := by decide +kernel
theorem dX12_canMake_61 : decode cX12_canMake 61 = .ok (.getfield 7, 3) := by decide +kernel
theorem dX12_canMake_64 : decode cX12_canMake 64 = .ok (.iload_n 2, 1) := by decide +kernel
theorem dX12_canMake_65 : decode cX12_canMake 65 = .ok (.iload 6, 2) := by decide +kernel
theorem dX12_canMake_67 : decode cX12_canMake 67 = .ok (.invokestatic 165, 3) := by decide +kernel
theorem dX12_canMake_70 : decode cX12_canMake 70 = .ok (.iaload, 1) := by decide +kernel
theorem dX12_canMake_71 : decode cX12_canMake 71 = .ok (.imul, 1) := by decide +kernel
theorem dX12_canMake_72 : decode cX12_canMake 72 = .ok (.sipush 10007, 3) := by decide +kernel
theorem dX12_canMake_75 : decode cX12_canMake 75 = .ok (.irem, 1) := by decide +kernel
theorem dX12_canMake_76 : decode cX12_canMake 76 = .ok (.istore 7, 2) := by decide +kernel
theorem dX12_canMake_78 : decode cX12_canMake 78 = .ok (.iload 7, 2) := by decide +kernel
theorem dX12_canMake_80 : decode cX12_canMake 80 = .ok (.ifCond .eq 90, 3) := by decide +kernel
theorem dX12_canMake_83 : decode cX12_canMake 83 = .ok (.iload 6, 2) := by decide +kernel
theorem dX12_canMake_85 : decode cX12_canMake 85 = .ok (.aload_n 0, 1) := by decide +kernel
theorem dX12_canMake_86 : decode cX12_canMake 86 = .ok (.getfield 28, 3) := by decide +kernel
theorem dX12_canMake_89 : decode cX12_canMake 89 = .ok (.iload 5, 2) := by decide +kernel
theorem dX12_canMake_91 : decode cX12_canMake 91 = .ok (.iaload, 1) := by decide +kernel
theorem dX12_canMake_92 : decode cX12_canMake 92 = .ok (.if_icmp .lt 78, 3) := by decide +kernel
theorem dX12_canMake_95 : decode cX12_canMake 95 = .ok (.iload 6, 2) := by decide +kernel
theorem dX12_canMake_97 : decode cX12_canMake 97 = .ok (.aload_n 0, 1) := by decide +kernel
theorem dX12_canMake_98 : decode cX12_canMake 98 = .ok (.getfield 28, 3) := by decide +kernel
theorem dX12_canMake_101 : decode cX12_canMake 101 = .ok (.iload 5, 2) := by decide +kernel
theorem dX12_canMake_103 : decode cX12_canMake 103 = .ok (.iaload, 1) := by decide +kernel
theorem dX12_canMake_104 : decode cX12_canMake 104 = .ok (.isub, 1) := by decide +kernel
theorem dX12_canMake_105 : decode cX12_canMake 105 = .ok (.aload_n 0, 1) := by decide +kernel
theorem dX12_canMake_106 : decode cX12_canMake 106 = .ok (.getfield 25, 3) := by decide +kernel
theorem dX12_canMake_109 : decode cX12_canMake 109 = .ok (.iload 5, 2) := by decide +kernel
theorem dX12_canMake_111 : decode cX12_canMake 111 = .ok (.iaload, 1) := by decide +kernel
theorem dX12_canMake_112 : decode cX12_canMake 112 = .ok (.iadd, 1) := by decide +kernel
theorem dX12_canMake_113 : decode cX12_canMake 113 = .ok (.istore 8, 2) := by decide +kernel
theorem dX12_canMake_115 : decode cX12_canMake 115 = .ok (.iload_n 3, 1) := by decide +kernel
theorem dX12_canMake_116 : decode cX12_canMake 116 = .ok (.ifCond .eq 14, 3) := by decide +kernel
theorem dX12_canMake_119 : decode cX12_canMake 119 = .ok (.iload 8, 2) := by decide +kernel
theorem dX12_canMake_121 : decode cX12_canMake 121 = .ok (.bipush 31, 2) := by decide +kernel
theorem dX12_canMake_123 : decode cX12_canMake 123 = .ok (.if_icmp .ge 7, 3) := by decide +kernel
theorem dX12_canMake_126 : decode cX12_canMake 126 = .ok (.iconst 1, 1) := by decide +kernel
theorem dX12_canMake_127 : decode cX12_canMake 127 = .ok (.goto 4, 3) := by decide +kernel
theorem dX12_canMake_130 : decode cX12_canMake 130 = .ok (.iconst 0, 1) := by decide +kernel
theorem dX12_canMake_131 : decode cX12_canMake 131 = .ok (.istore_n 3, 1) := by decide +kernel
theorem dX12_canMake_132 : decode cX12_canMake 132 = .ok (.iload_n 3, 1) := by decide +kernel
theorem dX12_canMake_133 : decode cX12_canMake 133 = .ok (.ifCond .eq 37, 3) := by decide +kernel
theorem dX12_canMake_136 : decode cX12_canMake 136 = .ok (.aload_n 0, 1) := by decide +kernel
theorem dX12_canMake_137 : decode cX12_canMake 137 = .ok (.getfield 34, 3) := by decide +kernel
theorem dX12_canMake_140 : decode cX12_canMake 140 = .ok (.iload 8, 2) := by decide +kernel
theorem dX12_canMake_142 : decode cX12_canMake 142 = .ok (.aload_n 0, 1) := by decide +kernel
theorem dX12_canMake_143 : decode cX12_canMake 143 = .ok (.getfield 34, 3) := by decide +kernel
theorem dX12_canMake_146 : decode cX12_canMake 146 = .ok (.iload 8, 2) := by decide +kernel
theorem dX12_canMake_148 : decode cX12_canMake 148 = .ok (.iaload, 1) := by decide +kernel
theorem dX12_canMake_149 : decode cX12_canMake 149 = .ok (.iload 7, 2) := by decide +kernel
theorem dX12_canMake_151 : decode cX12_canMake 151 = .ok (.iload 6, 2) := by decide +kernel
theorem dX12_canMake_153 : decode cX12_canMake 153 = .ok (.aload_n 0, 1) := by decide +kernel
theorem dX12_canMake_154 : decode cX12_canMake 154 = .ok (.getfield 28, 3) := by decide +kernel
theorem dX12_canMake_157 : decode cX12_canMake 157 = .ok (.iload 5, 2) := by decide +kernel
theorem dX12_canMake_159 : decode cX12_canMake 159 = .ok (.iaload, 1) := by decide +kernel
theorem dX12_canMake_160 : decode cX12_canMake 160 = .ok (.invokestatic 168, 3) := by decide +kernel
theorem dX12_canMake_163 : decode cX12_canMake 163 = .ok (.imul, 1) := by decide +kernel
theorem dX12_canMake_164 : decode cX12_canMake 164 = .ok (.iadd, 1) := by decide +kernel
theorem dX12_canMake_165 : decode cX12_canMake 165 = .ok (.sipush 10007, 3) := by decide +kernel
theorem dX12_canMake_168 : decode cX12_canMake 168 = .ok (.irem, 1) := by decide +kernel
theorem dX12_canMake_169 : decode cX12_canMake 169 = .ok (.iastore, 1) := by decide +kernel
theorem dX12_canMake_170 : decode cX12_canMake 170 = .ok (.iinc 4 1, 3) := by decide +kernel
theorem dX12_canMake_173 : decode cX12_canMake 173 = .ok (.goto (-147), 3) := by decide +kernel
theorem dX12_canMake_176 : decode cX12_canMake 176 = .ok (.iload_n 3, 1) := by decide +kernel
theorem dX12_canMake_177 : decode cX12_canMake 177 = .ok (.ireturn, 1) := by decide +kernel
theorem dX12_makes_0 : decode cX12_makes 0 = .ok (.iload_n 1, 1) := by decide +kernel
theorem dX12_makes_1 : decode cX12_makes 1 = .ok (.invokestatic 162, 3) := by decide +kernel
theorem dX12_makes_4 : decode cX12_makes 4 = .ok (.ifCond .eq 17, 3) := by decide +kernel
theorem dX12_makes_7 : decode cX12_makes 7 = .ok (.iload_n 2, 1) := by decide +kernel
theorem dX12_makes_8 : decode cX12_makes 8 = .ok (.invokestatic 111, 3) := by decide +kernel
theorem dX12_makes_11 : decode cX12_makes 11 = .ok (.ifCond .eq 10, 3) := by decide +kernel
theorem dX12_makes_14 : decode cX12_makes 14 = .ok (.iload_n 3, 1) := by decide +kernel
theorem dX12_makes_15 : decode cX12_makes 15 = .ok (.invokestatic 162, 3) := by decide +kernel
theorem dX12_makes_18 : decode cX12_makes 18 = .ok (.ifCond .ne 8, 3) := by decide +kernel
theorem dX12_makes_21 : decode cX12_makes 21 = .ok (.aload_n 0, 1) := by decide +kernel
theorem dX12_makes_22 : decode cX12_makes 22 = .ok (.invokevirtual 119, 3) := by decide +kernel
theorem dX12_makes_25 : decode cX12_makes 25 = .ok (.ireturn, 1) := by decide +kernel
theorem dX12_makes_26 : decode cX12_makes 26 = .ok (.aload_n 0, 1) := by decide +kernel
theorem dX12_makes_27 : decode cX12_makes 27 = .ok (.iload_n 2, 1) := by decide +kernel
theorem dX12_makes_28 : decode cX12_makes 28 = .ok (.iload_n 3, 1) := by decide +kernel
theorem dX12_makes_29 : decode cX12_makes 29 = .ok (.invokevirtual 171, 3) := by decide +kernel
theorem dX12_makes_32 : decode cX12_makes 32 = .ok (.ifCond .ne 8, 3) := by decide +kernel
theorem dX12_makes_35 : decode cX12_makes 35 = .ok (.aload_n 0, 1) := by decide +kernel
theorem dX12_makes_36 : decode cX12_makes 36 = .ok (.invokevirtual 140, 3) := by decide +kernel
theorem dX12_makes_39 : decode cX12_makes 39 = .ok (.ireturn, 1) := by decide +kernel
theorem dX12_makes_40 : decode cX12_makes 40 = .ok (.aload_n 0, 1) := by decide +kernel
theorem dX12_makes_41 : decode cX12_makes 41 = .ok (.invokevirtual 82, 3) := by decide +kernel
theorem dX12_makes_44 : decode cX12_makes 44 = .ok (.iconst 0, 1) := by decide +kernel
theorem dX12_makes_45 : decode cX12_makes 45 = .ok (.istore 4, 2) := by decide +kernel
theorem dX12_makes_47 : decode cX12_makes 47 = .ok (.iload 4, 2) := by decide +kernel
theorem dX12_makes_49 : decode cX12_makes 49 = .ok (.bipush 31, 2) := by decide +kernel
theorem dX12_makes_51 : decode cX12_makes 51 = .ok (.if_icmp .ge 27, 3) := by decide +kernel
theorem dX12_makes_54 : decode cX12_makes 54 = .ok (.aload_n 0, 1) := by decide +kernel
theorem dX12_makes_55 : decode cX12_makes 55 = .ok (.getfield 7, 3) := by decide +kernel
theorem dX12_makes_58 : decode cX12_makes 58 = .ok (.iload_n 1, 1) := by decide +kernel
theorem dX12_makes_59 : decode cX12_makes 59 = .ok (.iload 4, 2) := by decide +kernel
theorem dX12_makes_61 : decode cX12_makes 61 = .ok (.invokestatic 165, 3) := by decide +kernel
theorem dX12_makes_64 : decode cX12_makes 64 = .ok (.aload_n 0, 1) := by decide +kernel
theorem dX12_makes_65 : decode cX12_makes 65 = .ok (.getfield 34, 3) := by decide +kernel
theorem dX12_makes_68 : decode cX12_makes 68 = .ok (.iload 4, 2) := by decide +kernel
theorem dX12_makes_70 : decode cX12_makes 70 = .ok (.iaload, 1) := by decide +kernel
theorem dX12_makes_71 : decode cX12_makes 71 = .ok (.iastore, 1) := by decide +kernel
theorem dX12_makes_72 : decode cX12_makes 72 = .ok (.iinc 4 1, 3) := by decide +kernel
theorem dX12_makes_75 : decode cX12_makes 75 = .ok (.goto (-28), 3) := by decide +kernel
theorem dX12_makes_78 : decode cX12_makes 78 = .ok (.aload_n 0, 1) := by decide +kernel
theorem dX12_makes_79 : decode cX12_makes 79 = .ok (.iload_n 1, 1) := by decide +kernel
theorem dX12_makes_80 : decode cX12_makes 80 = .ok (.invokevirtual 174, 3) := by decide +kernel
theorem dX12_makes_83 : decode cX12_makes 83 = .ok (.istore 4, 2) := by decide +kernel
theorem dX12_makes_85 : decode cX12_makes 85 = .ok (.iload 4, 2) := by decide +kernel
theorem dX12_makes_87 : decode cX12_makes 87 = .ok (.ifCond .ge 9, 3) := by decide +kernel
theorem dX12_makes_90 : decode cX12_makes 90 = .ok (.sipush (-20001), 3) := by decide +kernel
theorem dX12_makes_93 : decode cX12_makes 93 = .ok (.goto 5, 3) := by decide +kernel
theorem dX12_makes_96 : decode cX12_makes 96 = .ok (.iload 4, 2) := by decide +kernel
theorem dX12_makes_98 : decode cX12_makes 98 = .ok (.ireturn, 1) := by decide +kernel
theorem dX12_inverseOf_0 : decode cX12_inverseOf 0 = .ok (.iconst 1, 1) := by decide +kernel
theorem dX12_inverseOf_1 : decode cX12_inverseOf 1 = .ok (.istore_n 1, 1) := by decide +kernel
theorem dX12_inverseOf_2 : decode cX12_inverseOf 2 = .ok (.iload_n 0, 1) := by decide +kernel
theorem dX12_inverseOf_3 : decode cX12_inverseOf 3 = .ok (.istore_n 2, 1) := by decide +kernel
theorem dX12_inverseOf_4 : decode cX12_inverseOf 4 = .ok (.sipush 10005, 3) := by decide +kernel
theorem dX12_inverseOf_7 : decode cX12_inverseOf 7 = .ok (.istore_n 3, 1) := by decide +kernel
theorem dX12_inverseOf_8 : decode cX12_inverseOf 8 = .ok (.iload_n 3, 1) := by decide +kernel
theorem dX12_inverseOf_9 : decode cX12_inverseOf 9 = .ok (.ifCond .le 37, 3) := by decide +kernel
theorem dX12_inverseOf_12 : decode cX12_inverseOf 12 = .ok (.iload_n 3, 1) := by decide +kernel
theorem dX12_inverseOf_13 : decode cX12_inverseOf 13 = .ok (.iconst 2, 1) := by decide +kernel
theorem dX12_inverseOf_14 : decode cX12_inverseOf 14 = .ok (.irem, 1) := by decide +kernel
theorem dX12_inverseOf_15 : decode cX12_inverseOf 15 = .ok (.iconst 1, 1) := by decide +kernel
theorem dX12_inverseOf_16 : decode cX12_inverseOf 16 = .ok (.if_icmp .ne 13, 3) := by decide +kernel
theorem dX12_inverseOf_19 : decode cX12_inverseOf 19 = .ok (.iload_n 1, 1) := by decide +kernel
theorem dX12_inverseOf_20 : decode cX12_inverseOf 20 = .ok (.iload_n 2, 1) := by decide +kernel
theorem dX12_inverseOf_21 : decode cX12_inverseOf 21 = .ok (.imul, 1) := by decide +kernel
theorem dX12_inverseOf_22 : decode cX12_inverseOf 22 = .ok (.sipush 10007, 3) := by decide +kernel
theorem dX12_inverseOf_25 : decode cX12_inverseOf 25 = .ok (.irem, 1) := by decide +kernel
theorem dX12_inverseOf_26 : decode cX12_inverseOf 26 = .ok (.goto 4, 3) := by decide +kernel
theorem dX12_inverseOf_29 : decode cX12_inverseOf 29 = .ok (.iload_n 1, 1) := by decide +kernel
theorem dX12_inverseOf_30 : decode cX12_inverseOf 30 = .ok (.istore_n 1, 1) := by decide +kernel
theorem dX12_inverseOf_31 : decode cX12_inverseOf 31 = .ok (.iload_n 2, 1) := by decide +kernel
theorem dX12_inverseOf_32 : decode cX12_inverseOf 32 = .ok (.iload_n 2, 1) := by decide +kernel
theorem dX12_inverseOf_33 : decode cX12_inverseOf 33 = .ok (.imul, 1) := by decide +kernel
theorem dX12_inverseOf_34 : decode cX12_inverseOf 34 = .ok (.sipush 10007, 3) := by decide +kernel
theorem dX12_inverseOf_37 : decode cX12_inverseOf 37 = .ok (.irem, 1) := by decide +kernel
theorem dX12_inverseOf_38 : decode cX12_inverseOf 38 = .ok (.istore_n 2, 1) := by decide +kernel
theorem dX12_inverseOf_39 : decode cX12_inverseOf 39 = .ok (.iload_n 3, 1) := by decide +kernel
theorem dX12_inverseOf_40 : decode cX12_inverseOf 40 = .ok (.iconst 2, 1) := by decide +kernel
theorem dX12_inverseOf_41 : decode cX12_inverseOf 41 = .ok (.idiv, 1) := by decide +kernel
theorem dX12_inverseOf_42 : decode cX12_inverseOf 42 = .ok (.istore_n 3, 1) := by decide +kernel
theorem dX12_inverseOf_43 : decode cX12_inverseOf 43 = .ok (.goto (-35), 3) := by decide +kernel
theorem dX12_inverseOf_46 : decode cX12_inverseOf 46 = .ok (.iload_n 1, 1) := by decide +kernel
theorem dX12_inverseOf_47 : decode cX12_inverseOf 47 = .ok (.ireturn, 1) := by decide +kernel
theorem dX12_laysMatrix_0 : decode cX12_laysMatrix 0 = .ok (.iconst 0, 1) := by decide +kernel
theorem dX12_laysMatrix_1 : decode cX12_laysMatrix 1 = .ok (.istore_n 3, 1) := by decide +kernel
theorem dX12_laysMatrix_2 : decode cX12_laysMatrix 2 = .ok (.iload_n 3, 1) := by decide +kernel
theorem dX12_laysMatrix_3 : decode cX12_laysMatrix 3 = .ok (.bipush 28, 2) := by decide +kernel
theorem dX12_laysMatrix_5 : decode cX12_laysMatrix 5 = .ok (.iload_n 2, 1) := by decide +kernel
theorem dX12_laysMatrix_6 : decode cX12_laysMatrix 6 = .ok (.imul, 1) := by decide +kernel
theorem dX12_laysMatrix_7 : decode cX12_laysMatrix 7 = .ok (.if_icmp .ge 16, 3) := by decide +kernel
theorem dX12_laysMatrix_10 : decode cX12_laysMatrix 10 = .ok (.aload_n 0, 1) := by decide +kernel
theorem dX12_laysMatrix_11 : decode cX12_laysMatrix 11 = .ok (.getfield 37, 3) := by decide +kernel
theorem dX12_laysMatrix_14 : decode cX12_laysMatrix 14 = .ok (.iload_n 3, 1) := by decide +kernel
theorem dX12_laysMatrix_15 : decode cX12_laysMatrix 15 = .ok (.iconst 0, 1) := by decide +kernel
theorem dX12_laysMatrix_16 : decode cX12_laysMatrix 16 = .ok (.iastore, 1) := by decide +kernel
theorem dX12_laysMatrix_17 : decode cX12_laysMatrix 17 = .ok (.iinc 3 1, 3) := by decide +kernel
theorem dX12_laysMatrix_20 : decode cX12_laysMatrix 20 = .ok (.goto (-18), 3) := by decide +kernel
theorem dX12_laysMatrix_23 : decode cX12_laysMatrix 23 = .ok (.iconst 0, 1) := by decide +kernel
theorem dX12_laysMatrix_24 : decode cX12_laysMatrix 24 = .ok (.istore_n 3, 1) := by decide +kernel
theorem dX12_laysMatrix_25 : decode cX12_laysMatrix 25 = .ok (.iload_n 3, 1) := by decide +kernel
theorem dX12_laysMatrix_26 : decode cX12_laysMatrix 26 = .ok (.bipush 91, 2) := by decide +kernel
theorem dX12_laysMatrix_28 : decode cX12_laysMatrix 28 = .ok (.iload_n 2, 1) := by decide +kernel
theorem dX12_laysMatrix_29 : decode cX12_laysMatrix 29 = .ok (.imul, 1) := by decide +kernel
theorem dX12_laysMatrix_30 : decode cX12_laysMatrix 30 = .ok (.if_icmp .ge 110, 3) := by decide +kernel
theorem dX12_laysMatrix_33 : decode cX12_laysMatrix 33 = .ok (.iload_n 3, 1) := by decide +kernel
theorem dX12_laysMatrix_34 : decode cX12_laysMatrix 34 = .ok (.iload_n 2, 1) := by decide +kernel
theorem dX12_laysMatrix_35 : decode cX12_laysMatrix 35 = .ok (.idiv, 1) := by decide +kernel
theorem dX12_laysMatrix_36 : decode cX12_laysMatrix 36 = .ok (.istore 4, 2) := by decide +kernel
theorem dX12_laysMatrix_38 : decode cX12_laysMatrix 38 = .ok (.iload_n 3, 1) := by decide +kernel
theorem dX12_laysMatrix_39 : decode cX12_laysMatrix 39 = .ok (.iload_n 2, 1) := by decide +kernel
theorem dX12_laysMatrix_40 : decode cX12_laysMatrix 40 = .ok (.irem, 1) := by decide +kernel
theorem dX12_laysMatrix_41 : decode cX12_laysMatrix 41 = .ok (.istore 5, 2) := by decide +kernel
theorem dX12_laysMatrix_43 : decode cX12_laysMatrix 43 = .ok (.aload_n 0, 1) := by decide +kernel
theorem dX12_laysMatrix_44 : decode cX12_laysMatrix 44 = .ok (.getfield 7, 3) := by decide +kernel
theorem dX12_laysMatrix_47 : decode cX12_laysMatrix 47 = .ok (.bipush 91, 2) := by decide +kernel
theorem dX12_laysMatrix_49 : decode cX12_laysMatrix 49 = .ok (.iload_n 1, 1) := by decide +kernel
theorem dX12_laysMatrix_50 : decode cX12_laysMatrix 50 = .ok (.imul, 1) := by decide +kernel
theorem dX12_laysMatrix_51 : decode cX12_laysMatrix 51 = .ok (.iload 4, 2) := by decide +kernel
theorem dX12_laysMatrix_53 : decode cX12_laysMatrix 53 = .ok (.iadd, 1) := by decide +kernel
theorem dX12_laysMatrix_54 : decode cX12_laysMatrix 54 = .ok (.iaload, 1) := by decide +kernel
theorem dX12_laysMatrix_55 : decode cX12_laysMatrix 55 = .ok (.istore 6, 2) := by decide +kernel
theorem dX12_laysMatrix_57 : decode cX12_laysMatrix 57 = .ok (.iload 6, 2) := by decide +kernel
theorem dX12_laysMatrix_59 : decode cX12_laysMatrix 59 = .ok (.ifCond .eq 75, 3) := by decide +kernel
theorem dX12_laysMatrix_62 : decode cX12_laysMatrix 62 = .ok (.iload 5, 2) := by decide +kernel
theorem dX12_laysMatrix_64 : decode cX12_laysMatrix 64 = .ok (.aload_n 0, 1) := by decide +kernel
theorem dX12_laysMatrix_65 : decode cX12_laysMatrix 65 = .ok (.getfield 28, 3) := by decide +kernel
theorem dX12_laysMatrix_68 : decode cX12_laysMatrix 68 = .ok (.iload 4, 2) := by decide +kernel
theorem dX12_laysMatrix_70 : decode cX12_laysMatrix 70 = .ok (.iaload, 1) := by decide +kernel
theorem dX12_laysMatrix_71 : decode cX12_laysMatrix 71 = .ok (.if_icmp .lt 63, 3) := by decide +kernel
theorem dX12_laysMatrix_74 : decode cX12_laysMatrix 74 = .ok (.bipush 28, 2) := by decide +kernel
theorem dX12_laysMatrix_76 : decode cX12_laysMatrix 76 = .ok (.iload 5, 2) := by decide +kernel
theorem dX12_laysMatrix_78 : decode cX12_laysMatrix 78 = .ok (.imul, 1) := by decide +kernel
theorem dX12_laysMatrix_79 : decode cX12_laysMatrix 79 = .ok (.iload 5, 2) := by decide +kernel
theorem dX12_laysMatrix_81 : decode cX12_laysMatrix 81 = .ok (.iadd, 1) := by decide +kernel
theorem dX12_laysMatrix_82 : decode cX12_laysMatrix 82 = .ok (.aload_n 0, 1) := by decide +kernel
theorem dX12_laysMatrix_83 : decode cX12_laysMatrix 83 = .ok (.getfield 28, 3) := by decide +kernel
theorem dX12_laysMatrix_86 : decode cX12_laysMatrix 86 = .ok (.iload 4, 2) := by decide +kernel
theorem dX12_laysMatrix_88 : decode cX12_laysMatrix 88 = .ok (.iaload, 1) := by decide +kernel
theorem dX12_laysMatrix_89 : decode cX12_laysMatrix 89 = .ok (.isub, 1) := by decide +kernel
theorem dX12_laysMatrix_90 : decode cX12_laysMatrix 90 = .ok (.aload_n 0, 1) := by decide +kernel
theorem dX12_laysMatrix_91 : decode cX12_laysMatrix 91 = .ok (.getfield 25, 3) := by decide +kernel
theorem dX12_laysMatrix_94 : decode cX12_laysMatrix 94 = .ok (.iload 4, 2) := by decide +kernel
theorem dX12_laysMatrix_96 : decode cX12_laysMatrix 96 = .ok (.iaload, 1) := by decide +kernel
theorem dX12_laysMatrix_97 : decode cX12_laysMatrix 97 = .ok (.iadd, 1) := by decide +kernel
theorem dX12_laysMatrix_98 : decode cX12_laysMatrix 98 = .ok (.istore 7, 2) := by decide +kernel
theorem dX12_laysMatrix_100 : decode cX12_laysMatrix 100 = .ok (.aload_n 0, 1) := by decide +kernel
theorem dX12_laysMatrix_101 : decode cX12_laysMatrix 101 = .ok (.getfield 37, 3) := by decide +kernel
theorem dX12_laysMatrix_104 : decode cX12_laysMatrix 104 = .ok (.iload 7, 2) := by decide +kernel
theorem dX12_laysMatrix_106 : decode cX12_laysMatrix 106 = .ok (.aload_n 0, 1) := by decide +kernel
theorem dX12_laysMatrix_107 : decode cX12_laysMatrix 107 = .ok (.getfield 37, 3) := by decide +kernel
theorem dX12_laysMatrix_110 : decode cX12_laysMatrix 110 = .ok (.iload 7, 2) := by decide +kernel
theorem dX12_laysMatrix_112 : decode cX12_laysMatrix 112 = .ok (.iaload, 1) := by decide +kernel
theorem dX12_laysMatrix_113 : decode cX12_laysMatrix 113 = .ok (.iload 6, 2) := by decide +kernel
theorem dX12_laysMatrix_115 : decode cX12_laysMatrix 115 = .ok (.iload 5, 2) := by decide +kernel
theorem dX12_laysMatrix_117 : decode cX12_laysMatrix 117 = .ok (.aload_n 0, 1) := by decide +kernel
theorem dX12_laysMatrix_118 : decode cX12_laysMatrix 118 = .ok (.getfield 28, 3) := by decide +kernel
theorem dX12_laysMatrix_121 : decode cX12_laysMatrix 121 = .ok (.iload 4, 2) := by decide +kernel
theorem dX12_laysMatrix_123 : decode cX12_laysMatrix 123 = .ok (.iaload, 1) := by decide +kernel
theorem dX12_laysMatrix_124 : decode cX12_laysMatrix 124 = .ok (.invokestatic 168, 3) := by decide +kernel
theorem dX12_laysMatrix_127 : decode cX12_laysMatrix 127 = .ok (.imul, 1) := by decide +kernel
theorem dX12_laysMatrix_128 : decode cX12_laysMatrix 128 = .ok (.iadd, 1) := by decide +kernel
theorem dX12_laysMatrix_129 : decode cX12_laysMatrix 129 = .ok (.sipush 10007, 3) := by decide +kernel
theorem dX12_laysMatrix_132 : decode cX12_laysMatrix 132 = .ok (.irem, 1) := by decide +kernel
theorem dX12_laysMatrix_133 : decode cX12_laysMatrix 133 = .ok (.iastore, 1) := by decide +kernel
theorem dX12_laysMatrix_134 : decode cX12_laysMatrix 134 = .ok (.iinc 3 1, 3) := by decide +kernel
theorem dX12_laysMatrix_137 : decode cX12_laysMatrix 137 = .ok (.goto (-112), 3) := by decide +kernel
theorem dX12_laysMatrix_140 : decode cX12_laysMatrix 140 = .ok (.return_, 1) := by decide +kernel
theorem dX12_addsRow_0 : decode cX12_addsRow 0 = .ok (.iconst 0, 1) := by decide +kernel
theorem dX12_addsRow_1 : decode cX12_addsRow 1 = .ok (.istore 4, 2) := by decide +kernel
theorem dX12_addsRow_3 : decode cX12_addsRow 3 = .ok (.iload 4, 2) := by decide +kernel
theorem dX12_addsRow_5 : decode cX12_addsRow 5 = .ok (.bipush 28, 2) := by decide +kernel
theorem dX12_addsRow_7 : decode cX12_addsRow 7 = .ok (.if_icmp .ge 52, 3) := by decide +kernel
theorem dX12_addsRow_10 : decode cX12_addsRow 10 = .ok (.aload_n 0, 1) := by decide +kernel
theorem dX12_addsRow_11 : decode cX12_addsRow 11 = .ok (.getfield 37, 3) := by decide +kernel
theorem dX12_addsRow_14 : decode cX12_addsRow 14 = .ok (.bipush 28, 2) := by decide +kernel
theorem dX12_addsRow_16 : decode cX12_addsRow 16 = .ok (.iload_n 3, 1) := by decide +kernel
theorem dX12_addsRow_17 : decode cX12_addsRow 17 = .ok (.imul, 1) := by decide +kernel
theorem dX12_addsRow_18 : decode cX12_addsRow 18 = .ok (.iload 4, 2) := by decide +kernel
theorem dX12_addsRow_20 : decode cX12_addsRow 20 = .ok (.iadd, 1) := by decide +kernel
theorem dX12_addsRow_21 : decode cX12_addsRow 21 = .ok (.aload_n 0, 1) := by decide +kernel
theorem dX12_addsRow_22 : decode cX12_addsRow 22 = .ok (.getfield 37, 3) := by decide +kernel
theorem dX12_addsRow_25 : decode cX12_addsRow 25 = .ok (.bipush 28, 2) := by decide +kernel
theorem dX12_addsRow_27 : decode cX12_addsRow 27 = .ok (.iload_n 3, 1) := by decide +kernel
theorem dX12_addsRow_28 : decode cX12_addsRow 28 = .ok (.imul, 1) := by decide +kernel
theorem dX12_addsRow_29 : decode cX12_addsRow 29 = .ok (.iload 4, 2) := by decide +kernel
theorem dX12_addsRow_31 : decode cX12_addsRow 31 = .ok (.iadd, 1) := by decide +kernel
theorem dX12_addsRow_32 : decode cX12_addsRow 32 = .ok (.iaload, 1) := by decide +kernel
theorem dX12_addsRow_33 : decode cX12_addsRow 33 = .ok (.iload_n 2, 1) := by decide +kernel
