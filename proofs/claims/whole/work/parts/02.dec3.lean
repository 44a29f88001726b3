theorem dX9_valueOf_7 : decode cX9_valueOf 7 = .ok (.iload_n 2, 1) := by decide +kernel
theorem dX9_valueOf_8 : decode cX9_valueOf 8 = .ok (.if_icmp .ge 26, 3) := by decide +kernel
theorem dX9_valueOf_11 : decode cX9_valueOf 11 = .ok (.iload_n 3, 1) := by decide +kernel
theorem dX9_valueOf_12 : decode cX9_valueOf 12 = .ok (.bipush 10, 2) := by decide +kernel
theorem dX9_valueOf_14 : decode cX9_valueOf 14 = .ok (.imul, 1) := by decide +kernel
theorem dX9_valueOf_15 : decode cX9_valueOf 15 = .ok (.aload_n 0, 1) := by decide +kernel
theorem dX9_valueOf_16 : decode cX9_valueOf 16 = .ok (.iload_n 1, 1) := by decide +kernel
theorem dX9_valueOf_17 : decode cX9_valueOf 17 = .ok (.iload 4, 2) := by decide +kernel
theorem dX9_valueOf_19 : decode cX9_valueOf 19 = .ok (.iadd, 1) := by decide +kernel
theorem dX9_valueOf_20 : decode cX9_valueOf 20 = .ok (.invokevirtual 25, 3) := by decide +kernel
theorem dX9_valueOf_23 : decode cX9_valueOf 23 = .ok (.bipush 48, 2) := by decide +kernel
theorem dX9_valueOf_25 : decode cX9_valueOf 25 = .ok (.isub, 1) := by decide +kernel
theorem dX9_valueOf_26 : decode cX9_valueOf 26 = .ok (.iadd, 1) := by decide +kernel
theorem dX9_valueOf_27 : decode cX9_valueOf 27 = .ok (.istore_n 3, 1) := by decide +kernel
theorem dX9_valueOf_28 : decode cX9_valueOf 28 = .ok (.iinc 4 1, 3) := by decide +kernel
theorem dX9_valueOf_31 : decode cX9_valueOf 31 = .ok (.goto (-26), 3) := by decide +kernel
theorem dX9_valueOf_34 : decode cX9_valueOf 34 = .ok (.iload_n 3, 1) := by decide +kernel
theorem dX9_valueOf_35 : decode cX9_valueOf 35 = .ok (.ireturn, 1) := by decide +kernel
theorem dX10_init_0 : decode cX10_init 0 = .ok (.aload_n 0, 1) := by decide +kernel
theorem dX10_init_1 : decode cX10_init 1 = .ok (.invokespecial 3, 3) := by decide +kernel
theorem dX10_init_4 : decode cX10_init 4 = .ok (.aload_n 0, 1) := by decide +kernel
theorem dX10_init_5 : decode cX10_init 5 = .ok (.bipush 20, 2) := by decide +kernel
theorem dX10_init_7 : decode cX10_init 7 = .ok (.newarray .int, 2) := by decide +kernel
theorem dX10_init_9 : decode cX10_init 9 = .ok (.putfield 9, 3) := by decide +kernel
theorem dX10_init_12 : decode cX10_init 12 = .ok (.aload_n 0, 1) := by decide +kernel
theorem dX10_init_13 : decode cX10_init 13 = .ok (.iconst 0, 1) := by decide +kernel
theorem dX10_init_14 : decode cX10_init 14 = .ok (.putfield 15, 3) := by decide +kernel
theorem dX10_init_17 : decode cX10_init 17 = .ok (.return_, 1) := by decide +kernel
theorem dX10_byteAt_0 : decode cX10_byteAt 0 = .ok (.aload_n 1, 1) := by decide +kernel
theorem dX10_byteAt_1 : decode cX10_byteAt 1 = .ok (.invokevirtual 19, 3) := by decide +kernel
theorem dX10_byteAt_4 : decode cX10_byteAt 4 = .ok (.istore 4, 2) := by decide +kernel
theorem dX10_byteAt_6 : decode cX10_byteAt 6 = .ok (.iload 4, 2) := by decide +kernel
theorem dX10_byteAt_8 : decode cX10_byteAt 8 = .ok (.ifCond .ge 16, 3) := by decide +kernel
theorem dX10_byteAt_11 : decode cX10_byteAt 11 = .ok (.iload_n 3, 1) := by decide +kernel
theorem dX10_byteAt_12 : decode cX10_byteAt 12 = .ok (.ifCond .ne 8, 3) := by decide +kernel
theorem dX10_byteAt_15 : decode cX10_byteAt 15 = .ok (.bipush 48, 2) := by decide +kernel
theorem dX10_byteAt_17 : decode cX10_byteAt 17 = .ok (.goto 6, 3) := by decide +kernel
theorem dX10_byteAt_20 : decode cX10_byteAt 20 = .ok (.sipush (-20001), 3) := by decide +kernel
theorem dX10_byteAt_23 : decode cX10_byteAt 23 = .ok (.ireturn, 1) := by decide +kernel
theorem dX10_byteAt_24 : decode cX10_byteAt 24 = .ok (.iconst 0, 1) := by decide +kernel
theorem dX10_byteAt_25 : decode cX10_byteAt 25 = .ok (.istore 5, 2) := by decide +kernel
theorem dX10_byteAt_27 : decode cX10_byteAt 27 = .ok (.iload 4, 2) := by decide +kernel
theorem dX10_byteAt_29 : decode cX10_byteAt 29 = .ok (.istore 6, 2) := by decide +kernel
theorem dX10_byteAt_31 : decode cX10_byteAt 31 = .ok (.iload 6, 2) := by decide +kernel
theorem dX10_byteAt_33 : decode cX10_byteAt 33 = .ok (.ifCond .lt 101, 3) := by decide +kernel
theorem dX10_byteAt_36 : decode cX10_byteAt 36 = .ok (.iconst 0, 1) := by decide +kernel
theorem dX10_byteAt_37 : decode cX10_byteAt 37 = .ok (.istore 7, 2) := by decide +kernel
theorem dX10_byteAt_39 : decode cX10_byteAt 39 = .ok (.iload 7, 2) := by decide +kernel
theorem dX10_byteAt_41 : decode cX10_byteAt 41 = .ok (.iload 6, 2) := by decide +kernel
theorem dX10_byteAt_43 : decode cX10_byteAt 43 = .ok (.if_icmp .gt 85, 3) := by decide +kernel
theorem dX10_byteAt_46 : decode cX10_byteAt 46 = .ok (.iload_n 2, 1) := by decide +kernel
theorem dX10_byteAt_47 : decode cX10_byteAt 47 = .ok (.iload 6, 2) := by decide +kernel
theorem dX10_byteAt_49 : decode cX10_byteAt 49 = .ok (.iload 7, 2) := by decide +kernel
theorem dX10_byteAt_51 : decode cX10_byteAt 51 = .ok (.invokestatic 25, 3) := by decide +kernel
theorem dX10_byteAt_54 : decode cX10_byteAt 54 = .ok (.istore 8, 2) := by decide +kernel
theorem dX10_byteAt_56 : decode cX10_byteAt 56 = .ok (.aload_n 1, 1) := by decide +kernel
theorem dX10_byteAt_57 : decode cX10_byteAt 57 = .ok (.getfield 29, 3) := by decide +kernel
theorem dX10_byteAt_60 : decode cX10_byteAt 60 = .ok (.iload 8, 2) := by decide +kernel
theorem dX10_byteAt_62 : decode cX10_byteAt 62 = .ok (.iaload, 1) := by decide +kernel
theorem dX10_byteAt_63 : decode cX10_byteAt 63 = .ok (.ifCond .eq 59, 3) := by decide +kernel
theorem dX10_byteAt_66 : decode cX10_byteAt 66 = .ok (.aload_n 0, 1) := by decide +kernel
theorem dX10_byteAt_67 : decode cX10_byteAt 67 = .ok (.aload_n 1, 1) := by decide +kernel
theorem dX10_byteAt_68 : decode cX10_byteAt 68 = .ok (.getfield 29, 3) := by decide +kernel
theorem dX10_byteAt_71 : decode cX10_byteAt 71 = .ok (.iload 8, 2) := by decide +kernel
theorem dX10_byteAt_73 : decode cX10_byteAt 73 = .ok (.iaload, 1) := by decide +kernel
theorem dX10_byteAt_74 : decode cX10_byteAt 74 = .ok (.invokestatic 32, 3) := by decide +kernel
theorem dX10_byteAt_77 : decode cX10_byteAt 77 = .ok (.iload 8, 2) := by decide +kernel
theorem dX10_byteAt_79 : decode cX10_byteAt 79 = .ok (.iload 5, 2) := by decide +kernel
theorem dX10_byteAt_81 : decode cX10_byteAt 81 = .ok (.ifCond .ne 7, 3) := by decide +kernel
theorem dX10_byteAt_84 : decode cX10_byteAt 84 = .ok (.iconst 1, 1) := by decide +kernel
theorem dX10_byteAt_85 : decode cX10_byteAt 85 = .ok (.goto 4, 3) := by decide +kernel
theorem dX10_byteAt_88 : decode cX10_byteAt 88 = .ok (.iconst 0, 1) := by decide +kernel
theorem dX10_byteAt_89 : decode cX10_byteAt 89 = .ok (.invokevirtual 38, 3) := by decide +kernel
theorem dX10_byteAt_92 : decode cX10_byteAt 92 = .ok (.iload_n 3, 1) := by decide +kernel
theorem dX10_byteAt_93 : decode cX10_byteAt 93 = .ok (.iload 5, 2) := by decide +kernel
theorem dX10_byteAt_95 : decode cX10_byteAt 95 = .ok (.isub, 1) := by decide +kernel
theorem dX10_byteAt_96 : decode cX10_byteAt 96 = .ok (.aload_n 0, 1) := by decide +kernel
theorem dX10_byteAt_97 : decode cX10_byteAt 97 = .ok (.getfield 15, 3) := by decide +kernel
theorem dX10_byteAt_100 : decode cX10_byteAt 100 = .ok (.if_icmp .ge 13, 3) := by decide +kernel
theorem dX10_byteAt_103 : decode cX10_byteAt 103 = .ok (.aload_n 0, 1) := by decide +kernel
theorem dX10_byteAt_104 : decode cX10_byteAt 104 = .ok (.getfield 9, 3) := by decide +kernel
theorem dX10_byteAt_107 : decode cX10_byteAt 107 = .ok (.iload_n 3, 1) := by decide +kernel
theorem dX10_byteAt_108 : decode cX10_byteAt 108 = .ok (.iload 5, 2) := by decide +kernel
theorem dX10_byteAt_110 : decode cX10_byteAt 110 = .ok (.isub, 1) := by decide +kernel
theorem dX10_byteAt_111 : decode cX10_byteAt 111 = .ok (.iaload, 1) := by decide +kernel
theorem dX10_byteAt_112 : decode cX10_byteAt 112 = .ok (.ireturn, 1) := by decide +kernel
theorem dX10_byteAt_113 : decode cX10_byteAt 113 = .ok (.iload 5, 2) := by decide +kernel
theorem dX10_byteAt_115 : decode cX10_byteAt 115 = .ok (.aload_n 0, 1) := by decide +kernel
theorem dX10_byteAt_116 : decode cX10_byteAt 116 = .ok (.getfield 15, 3) := by decide +kernel
theorem dX10_byteAt_119 : decode cX10_byteAt 119 = .ok (.iadd, 1) := by decide +kernel
theorem dX10_byteAt_120 : decode cX10_byteAt 120 = .ok (.istore 5, 2) := by decide +kernel
theorem dX10_byteAt_122 : decode cX10_byteAt 122 = .ok (.iinc 7 1, 3) := by decide +kernel
theorem dX10_byteAt_125 : decode cX10_byteAt 125 = .ok (.goto (-86), 3) := by decide +kernel
theorem dX10_byteAt_128 : decode cX10_byteAt 128 = .ok (.iinc 6 (-1), 3) := by decide +kernel
theorem dX10_byteAt_131 : decode cX10_byteAt 131 = .ok (.goto (-100), 3) := by decide +kernel
theorem dX10_byteAt_134 : decode cX10_byteAt 134 = .ok (.sipush (-20001), 3) := by decide +kernel
theorem dX10_byteAt_137 : decode cX10_byteAt 137 = .ok (.ireturn, 1) := by decide +kernel
theorem dX10_writeTerm_0 : decode cX10_writeTerm 0 = .ok (.aload_n 0, 1) := by decide +kernel
theorem dX10_writeTerm_1 : decode cX10_writeTerm 1 = .ok (.iconst 0, 1) := by decide +kernel
theorem dX10_writeTerm_2 : decode cX10_writeTerm 2 = .ok (.putfield 15, 3) := by decide +kernel
theorem dX10_writeTerm_5 : decode cX10_writeTerm 5 = .ok (.iload_n 1, 1) := by decide +kernel
theorem dX10_writeTerm_6 : decode cX10_writeTerm 6 = .ok (.ifCond .ge 12, 3) := by decide +kernel
theorem dX10_writeTerm_9 : decode cX10_writeTerm 9 = .ok (.aload_n 0, 1) := by decide +kernel
theorem dX10_writeTerm_10 : decode cX10_writeTerm 10 = .ok (.bipush 45, 2) := by decide +kernel
theorem dX10_writeTerm_12 : decode cX10_writeTerm 12 = .ok (.invokevirtual 42, 3) := by decide +kernel
theorem dX10_writeTerm_15 : decode cX10_writeTerm 15 = .ok (.goto 13, 3) := by decide +kernel
theorem dX10_writeTerm_18 : decode cX10_writeTerm 18 = .ok (.iload_n 3, 1) := by decide +kernel
theorem dX10_writeTerm_19 : decode cX10_writeTerm 19 = .ok (.ifCond .ne 9, 3) := by decide +kernel
theorem dX10_writeTerm_22 : decode cX10_writeTerm 22 = .ok (.aload_n 0, 1) := by decide +kernel
theorem dX10_writeTerm_23 : decode cX10_writeTerm 23 = .ok (.bipush 43, 2) := by decide +kernel
theorem dX10_writeTerm_25 : decode cX10_writeTerm 25 = .ok (.invokevirtual 42, 3) := by decide +kernel
theorem dX10_writeTerm_28 : decode cX10_writeTerm 28 = .ok (.iload_n 1, 1) := by decide +kernel
theorem dX10_writeTerm_29 : decode cX10_writeTerm 29 = .ok (.invokestatic 46, 3) := by decide +kernel
theorem dX10_writeTerm_32 : decode cX10_writeTerm 32 = .ok (.istore 4, 2) := by decide +kernel
theorem dX10_writeTerm_34 : decode cX10_writeTerm 34 = .ok (.iload 4, 2) := by decide +kernel
theorem dX10_writeTerm_36 : decode cX10_writeTerm 36 = .ok (.iconst 1, 1) := by decide +kernel
theorem dX10_writeTerm_37 : decode cX10_writeTerm 37 = .ok (.if_icmp .ne 7, 3) := by decide +kernel
theorem dX10_writeTerm_40 : decode cX10_writeTerm 40 = .ok (.iload_n 2, 1) := by decide +kernel
theorem dX10_writeTerm_41 : decode cX10_writeTerm 41 = .ok (.ifCond .ne 7, 3) := by decide +kernel
theorem dX10_writeTerm_44 : decode cX10_writeTerm 44 = .ok (.iconst 1, 1) := by decide +kernel
theorem dX10_writeTerm_45 : decode cX10_writeTerm 45 = .ok (.goto 4, 3) := by decide +kernel
theorem dX10_writeTerm_48 : decode cX10_writeTerm 48 = .ok (.iconst 0, 1) := by decide +kernel
theorem dX10_writeTerm_49 : decode cX10_writeTerm 49 = .ok (.istore 5, 2) := by decide +kernel
theorem dX10_writeTerm_51 : decode cX10_writeTerm 51 = .ok (.iload 5, 2) := by decide +kernel
theorem dX10_writeTerm_53 : decode cX10_writeTerm 53 = .ok (.ifCond .eq 9, 3) := by decide +kernel
theorem dX10_writeTerm_56 : decode cX10_writeTerm 56 = .ok (.aload_n 0, 1) := by decide +kernel
theorem dX10_writeTerm_57 : decode cX10_writeTerm 57 = .ok (.iload 4, 2) := by decide +kernel
theorem dX10_writeTerm_59 : decode cX10_writeTerm 59 = .ok (.invokevirtual 51, 3) := by decide +kernel
theorem dX10_writeTerm_62 : decode cX10_writeTerm 62 = .ok (.getstatic 54, 3) := by decide +kernel
theorem dX10_writeTerm_65 : decode cX10_writeTerm 65 = .ok (.iload_n 2, 1) := by decide +kernel
theorem dX10_writeTerm_66 : decode cX10_writeTerm 66 = .ok (.iaload, 1) := by decide +kernel
theorem dX10_writeTerm_67 : decode cX10_writeTerm 67 = .ok (.istore 6, 2) := by decide +kernel
theorem dX10_writeTerm_69 : decode cX10_writeTerm 69 = .ok (.getstatic 57, 3) := by decide +kernel
theorem dX10_writeTerm_72 : decode cX10_writeTerm 72 = .ok (.iload_n 2, 1) := by decide +kernel
theorem dX10_writeTerm_73 : decode cX10_writeTerm 73 = .ok (.iaload, 1) := by decide +kernel
theorem dX10_writeTerm_74 : decode cX10_writeTerm 74 = .ok (.istore 7, 2) := by decide +kernel
theorem dX10_writeTerm_76 : decode cX10_writeTerm 76 = .ok (.aload_n 0, 1) := by decide +kernel
theorem dX10_writeTerm_77 : decode cX10_writeTerm 77 = .ok (.bipush 120, 2) := by decide +kernel
theorem dX10_writeTerm_79 : decode cX10_writeTerm 79 = .ok (.iload 6, 2) := by decide +kernel
theorem dX10_writeTerm_81 : decode cX10_writeTerm 81 = .ok (.iload 5, 2) := by decide +kernel
theorem dX10_writeTerm_83 : decode cX10_writeTerm 83 = .ok (.invokevirtual 60, 3) := by decide +kernel
theorem dX10_writeTerm_86 : decode cX10_writeTerm 86 = .ok (.aload_n 0, 1) := by decide +kernel
theorem dX10_writeTerm_87 : decode cX10_writeTerm 87 = .ok (.bipush 100, 2) := by decide +kernel
theorem dX10_writeTerm_89 : decode cX10_writeTerm 89 = .ok (.iload 7, 2) := by decide +kernel
theorem dX10_writeTerm_91 : decode cX10_writeTerm 91 = .ok (.iload 5, 2) := by decide +kernel
theorem dX10_writeTerm_93 : decode cX10_writeTerm 93 = .ok (.ifCond .ne 8, 3) := by decide +kernel
theorem dX10_writeTerm_96 : decode cX10_writeTerm 96 = .ok (.iload 6, 2) := by decide +kernel
theorem dX10_writeTerm_98 : decode cX10_writeTerm 98 = .ok (.ifCond .le 7, 3) := by decide +kernel
theorem dX10_writeTerm_101 : decode cX10_writeTerm 101 = .ok (.iconst 1, 1) := by decide +kernel
theorem dX10_writeTerm_102 : decode cX10_writeTerm 102 = .ok (.goto 4, 3) := by decide +kernel
theorem dX10_writeTerm_105 : decode cX10_writeTerm 105 = .ok (.iconst 0, 1) := by decide +kernel
theorem dX10_writeTerm_106 : decode cX10_writeTerm 106 = .ok (.invokevirtual 60, 3) := by decide +kernel
theorem dX10_writeTerm_109 : decode cX10_writeTerm 109 = .ok (.return_, 1) := by decide +kernel
theorem dX10_writeLetter_0 : decode cX10_writeLetter 0 = .ok (.iload_n 2, 1) := by decide +kernel
theorem dX10_writeLetter_1 : decode cX10_writeLetter 1 = .ok (.ifCond .ne 4, 3) := by decide +kernel
theorem dX10_writeLetter_4 : decode cX10_writeLetter 4 = .ok (.return_, 1) := by decide +kernel
theorem dX10_writeLetter_5 : decode cX10_writeLetter 5 = .ok (.iload_n 3, 1) := by decide +kernel
theorem dX10_writeLetter_6 : decode cX10_writeLetter 6 = .ok (.ifCond .eq 9, 3) := by decide +kernel
theorem dX10_writeLetter_9 : decode cX10_writeLetter 9 = .ok (.aload_n 0, 1) := by decide +kernel
theorem dX10_writeLetter_10 : decode cX10_writeLetter 10 = .ok (.bipush 42, 2) := by decide +kernel
theorem dX10_writeLetter_12 : decode cX10_writeLetter 12 = .ok (.invokevirtual 42, 3) := by decide +kernel
theorem dX10_writeLetter_15 : decode cX10_writeLetter 15 = .ok (.aload_n 0, 1) := by decide +kernel
theorem dX10_writeLetter_16 : decode cX10_writeLetter 16 = .ok (.iload_n 1, 1) := by decide +kernel
theorem dX10_writeLetter_17 : decode cX10_writeLetter 17 = .ok (.invokevirtual 42, 3) := by decide +kernel
theorem dX10_writeLetter_20 : decode cX10_writeLetter 20 = .ok (.iload_n 2, 1) := by decide +kernel
theorem dX10_writeLetter_21 : decode cX10_writeLetter 21 = .ok (.iconst 1, 1) := by decide +kernel
theorem dX10_writeLetter_22 : decode cX10_writeLetter 22 = .ok (.if_icmp .le 14, 3) := by decide +kernel
theorem dX10_writeLetter_25 : decode cX10_writeLetter 25 = .ok (.aload_n 0, 1) := by decide +kernel
theorem dX10_writeLetter_26 : decode cX10_writeLetter 26 = .ok (.bipush 94, 2) := by decide +kernel
theorem dX10_writeLetter_28 : decode cX10_writeLetter 28 = .ok (.invokevirtual 42, 3) := by decide +kernel
theorem dX10_writeLetter_31 : decode cX10_writeLetter 31 = .ok (.aload_n 0, 1) := by decide +kernel
theorem dX10_writeLetter_32 : decode cX10_writeLetter 32 = .ok (.iload_n 2, 1) := by decide +kernel
theorem dX10_writeLetter_33 : decode cX10_writeLetter 33 = .ok (.invokevirtual 51, 3) := by decide +kernel
theorem dX10_writeLetter_36 : decode cX10_writeLetter 36 = .ok (.return_, 1) := by decide +kernel
theorem dX10_writeNumber_0 : decode cX10_writeNumber 0 = .ok (.iconst 0, 1) := by decide +kernel
theorem dX10_writeNumber_1 : decode cX10_writeNumber 1 = .ok (.istore_n 2, 1) := by decide +kernel
theorem dX10_writeNumber_2 : decode cX10_writeNumber 2 = .ok (.sipush 1000, 3) := by decide +kernel
theorem dX10_writeNumber_5 : decode cX10_writeNumber 5 = .ok (.istore_n 3, 1) := by decide +kernel
theorem dX10_writeNumber_6 : decode cX10_writeNumber 6 = .ok (.iload_n 3, 1) := by decide +kernel
theorem dX10_writeNumber_7 : decode cX10_writeNumber 7 = .ok (.ifCond .le 47, 3) := by decide +kernel
theorem dX10_writeNumber_10 : decode cX10_writeNumber 10 = .ok (.iload_n 1, 1) := by decide +kernel
theorem dX10_writeNumber_11 : decode cX10_writeNumber 11 = .ok (.iload_n 3, 1) := by decide +kernel
theorem dX10_writeNumber_12 : decode cX10_writeNumber 12 = .ok (.idiv, 1) := by decide +kernel
theorem dX10_writeNumber_13 : decode cX10_writeNumber 13 = .ok (.bipush 10, 2) := by decide +kernel
theorem dX10_writeNumber_15 : decode cX10_writeNumber 15 = .ok (.irem, 1) := by decide +kernel
theorem dX10_writeNumber_16 : decode cX10_writeNumber 16 = .ok (.istore 4, 2) := by decide +kernel
theorem dX10_writeNumber_18 : decode cX10_writeNumber 18 = .ok (.iload_n 2, 1) := by decide +kernel
theorem dX10_writeNumber_19 : decode cX10_writeNumber 19 = .ok (.ifCond .ne 8, 3) := by decide +kernel
theorem dX10_writeNumber_22 : decode cX10_writeNumber 22 = .ok (.iload 4, 2) := by decide +kernel
theorem dX10_writeNumber_24 : decode cX10_writeNumber 24 = .ok (.ifCond .le 7, 3) := by decide +kernel
theorem dX10_writeNumber_27 : decode cX10_writeNumber 27 = .ok (.iconst 1, 1) := by decide +kernel
theorem dX10_writeNumber_28 : decode cX10_writeNumber 28 = .ok (.goto 4, 3) := by decide +kernel
theorem dX10_writeNumber_31 : decode cX10_writeNumber 31 = .ok (.iconst 0, 1) := by decide +kernel
theorem dX10_writeNumber_32 : decode cX10_writeNumber 32 = .ok (.istore_n 2, 1) := by decide +kernel
theorem dX10_writeNumber_33 : decode cX10_writeNumber 33 = .ok (.iload_n 2, 1) := by decide +kernel
theorem dX10_writeNumber_34 : decode cX10_writeNumber 34 = .ok (.ifCond .eq 12, 3) := by decide +kernel
theorem dX10_writeNumber_37 : decode cX10_writeNumber 37 = .ok (.aload_n 0, 1) := by decide +kernel
theorem dX10_writeNumber_38 : decode cX10_writeNumber 38 = .ok (.bipush 48, 2) := by decide +kernel
theorem dX10_writeNumber_40 : decode cX10_writeNumber 40 = .ok (.iload 4, 2) := by decide +kernel
theorem dX10_writeNumber_42 : decode cX10_writeNumber 42 = .ok (.iadd, 1) := by decide +kernel
theorem dX10_writeNumber_43 : decode cX10_writeNumber 43 = .ok (.invokevirtual 42, 3) := by decide +kernel
theorem dX10_writeNumber_46 : decode cX10_writeNumber 46 = .ok (.iload_n 3, 1) := by decide +kernel
theorem dX10_writeNumber_47 : decode cX10_writeNumber 47 = .ok (.bipush 10, 2) := by decide +kernel
theorem dX10_writeNumber_49 : decode cX10_writeNumber 49 = .ok (.idiv, 1) := by decide +kernel
theorem dX10_writeNumber_50 : decode cX10_writeNumber 50 = .ok (.istore_n 3, 1) := by decide +kernel
theorem dX10_writeNumber_51 : decode cX10_writeNumber 51 = .ok (.goto (-45), 3) := by decide +kernel
theorem dX10_writeNumber_54 : decode cX10_writeNumber 54 = .ok (.return_, 1) := by decide +kernel
theorem dX10_write_0 : decode cX10_write 0 = .ok (.aload_n 0, 1) := by decide +kernel
theorem dX10_write_1 : decode cX10_write 1 = .ok (.getfield 15, 3) := by decide +kernel
theorem dX10_write_4 : decode cX10_write 4 = .ok (.aload_n 0, 1) := by decide +kernel
theorem dX10_write_5 : decode cX10_write 5 = .ok (.getfield 9, 3) := by decide +kernel
theorem dX10_write_8 : decode cX10_write 8 = .ok (.arraylength, 1) := by decide +kernel
theorem dX10_write_9 : decode cX10_write 9 = .ok (.if_icmp .ge 23, 3) := by decide +kernel
theorem dX10_write_12 : decode cX10_write 12 = .ok (.aload_n 0, 1) := by decide +kernel
theorem dX10_write_13 : decode cX10_write 13 = .ok (.getfield 9, 3) := by decide +kernel
theorem dX10_write_16 : decode cX10_write 16 = .ok (.aload_n 0, 1) := by decide +kernel
theorem dX10_write_17 : decode cX10_write 17 = .ok (.getfield 15, 3) := by decide +kernel
theorem dX10_write_20 : decode cX10_write 20 = .ok (.iload_n 1, 1) := by decide +kernel
theorem dX10_write_21 : decode cX10_write 21 = .ok (.iastore, 1) := by decide +kernel
theorem dX10_write_22 : decode cX10_write 22 = .ok (.aload_n 0, 1) := by decide +kernel
theorem dX10_write_23 : decode cX10_write 23 = .ok (.dup, 1) := by decide +kernel
theorem dX10_write_24 : decode cX10_write 24 = .ok (.getfield 15, 3) := by decide +kernel
theorem dX10_write_27 : decode cX10_write 27 = .ok (.iconst 1, 1) := by decide +kernel
theorem dX10_write_28 : decode cX10_write 28 = .ok (.iadd, 1) := by decide +kernel
theorem dX10_write_29 : decode cX10_write 29 = .ok (.putfield 15, 3) := by decide +kernel
theorem dX10_write_32 : decode cX10_write 32 = .ok (.return_, 1) := by decide +kernel
theorem dX11_init_0 : decode cX11_init 0 = .ok (.aload_n 0, 1) := by decide +kernel
theorem dX11_init_1 : decode cX11_init 1 = .ok (.invokespecial 1, 3) := by decide +kernel
theorem dX11_init_4 : decode cX11_init 4 = .ok (.aload_n 0, 1) := by decide +kernel
theorem dX11_init_5 : decode cX11_init 5 = .ok (.new 7, 3) := by decide +kernel
theorem dX11_init_8 : decode cX11_init 8 = .ok (.dup, 1) := by decide +kernel
theorem dX11_init_9 : decode cX11_init 9 = .ok (.invokespecial 9, 3) := by decide +kernel
theorem dX11_init_12 : decode cX11_init 12 = .ok (.putfield 10, 3) := by decide +kernel
theorem dX11_init_15 : decode cX11_init 15 = .ok (.aload_n 0, 1) := by decide +kernel
theorem dX11_init_16 : decode cX11_init 16 = .ok (.new 16, 3) := by decide +kernel
theorem dX11_init_19 : decode cX11_init 19 = .ok (.dup, 1) := by decide +kernel
theorem dX11_init_20 : decode cX11_init 20 = .ok (.invokespecial 18, 3) := by decide +kernel
theorem dX11_init_23 : decode cX11_init 23 = .ok (.putfield 19, 3) := by decide +kernel
theorem dX11_init_26 : decode cX11_init 26 = .ok (.aload_n 0, 1) := by decide +kernel
theorem dX11_init_27 : decode cX11_init 27 = .ok (.new 23, 3) := by decide +kernel
theorem dX11_init_30 : decode cX11_init 30 = .ok (.dup, 1) := by decide +kernel
theorem dX11_init_31 : decode cX11_init 31 = .ok (.invokespecial 25, 3) := by decide +kernel
theorem dX11_init_34 : decode cX11_init 34 = .ok (.putfield 26, 3) := by decide +kernel
theorem dX11_init_37 : decode cX11_init 37 = .ok (.aload_n 0, 1) := by decide +kernel
theorem dX11_init_38 : decode cX11_init 38 = .ok (.new 30, 3) := by decide +kernel
theorem dX11_init_41 : decode cX11_init 41 = .ok (.dup, 1) := by decide +kernel
theorem dX11_init_42 : decode cX11_init 42 = .ok (.invokespecial 32, 3) := by decide +kernel
theorem dX11_init_45 : decode cX11_init 45 = .ok (.putfield 33, 3) := by decide +kernel
theorem dX11_init_48 : decode cX11_init 48 = .ok (.aload_n 0, 1) := by decide +kernel
theorem dX11_init_49 : decode cX11_init 49 = .ok (.new 37, 3) := by decide +kernel
theorem dX11_init_52 : decode cX11_init 52 = .ok (.dup, 1) := by decide +kernel
theorem dX11_init_53 : decode cX11_init 53 = .ok (.aload_n 0, 1) := by decide +kernel
theorem dX11_init_54 : decode cX11_init 54 = .ok (.getfield 33, 3) := by decide +kernel
theorem dX11_init_57 : decode cX11_init 57 = .ok (.invokespecial 39, 3) := by decide +kernel
theorem dX11_init_60 : decode cX11_init 60 = .ok (.putfield 42, 3) := by decide +kernel
theorem dX11_init_63 : decode cX11_init 63 = .ok (.aload_n 0, 1) := by decide +kernel
theorem dX11_init_64 : decode cX11_init 64 = .ok (.new 46, 3) := by decide +kernel
theorem dX11_init_67 : decode cX11_init 67 = .ok (.dup, 1) := by decide +kernel
theorem dX11_init_68 : decode cX11_init 68 = .ok (.aload_n 0, 1) := by decide +kernel
theorem dX11_init_69 : decode cX11_init 69 = .ok (.getfield 33, 3) := by decide +kernel
theorem dX11_init_72 : decode cX11_init 72 = .ok (.aload_n 0, 1) := by decide +kernel
theorem dX11_init_73 : decode cX11_init 73 = .ok (.getfield 42, 3) := by decide +kernel
theorem dX11_init_76 : decode cX11_init 76 = .ok (.invokespecial 48, 3) := by decide +kernel
theorem dX11_init_79 : decode cX11_init 79 = .ok (.putfield 51, 3) := by decide +kernel
theorem dX11_init_82 : decode cX11_init 82 = .ok (.aload_n 0, 1) := by decide +kernel
theorem dX11_init_83 : decode cX11_init 83 = .ok (.new 55, 3) := by decide +kernel
theorem dX11_init_86 : decode cX11_init 86 = .ok (.dup, 1) := by decide +kernel
theorem dX11_init_87 : decode cX11_init 87 = .ok (.aload_n 0, 1) := by decide +kernel
theorem dX11_init_88 : decode cX11_init 88 = .ok (.getfield 33, 3) := by decide +kernel
theorem dX11_init_91 : decode cX11_init 91 = .ok (.invokespecial 57, 3) := by decide +kernel
theorem dX11_init_94 : decode cX11_init 94 = .ok (.putfield 58, 3) := by decide +kernel
theorem dX11_init_97 : decode cX11_init 97 = .ok (.aload_n 0, 1) := by decide +kernel
theorem dX11_init_98 : decode cX11_init 98 = .ok (.new 62, 3) := by decide +kernel
theorem dX11_init_101 : decode cX11_init 101 = .ok (.dup, 1) := by decide +kernel
theorem dX11_init_102 : decode cX11_init 102 = .ok (.aload_n 0, 1) := by decide +kernel
theorem dX11_init_103 : decode cX11_init 103 = .ok (.getfield 33, 3) := by decide +kernel
theorem dX11_init_106 : decode cX11_init 106 = .ok (.aload_n 0, 1) := by decide +kernel
theorem dX11_init_107 : decode cX11_init 107 = .ok (.getfield 26, 3) := by decide +kernel
theorem dX11_init_110 : decode cX11_init 110 = .ok (.invokespecial 64, 3) := by decide +kernel
theorem dX11_init_113 : decode cX11_init 113 = .ok (.putfield 67, 3) := by decide +kernel
theorem dX11_init_116 : decode cX11_init 116 = .ok (.aload_n 0, 1) := by decide +kernel
theorem dX11_init_117 : decode cX11_init 117 = .ok (.new 71, 3) := by decide +kernel
theorem dX11_init_120 : decode cX11_init 120 = .ok (.dup, 1) := by decide +kernel
theorem dX11_init_121 : decode cX11_init 121 = .ok (.invokespecial 73, 3) := by decide +kernel
theorem dX11_init_124 : decode cX11_init 124 = .ok (.putfield 74, 3) := by decide +kernel
theorem dX11_init_127 : decode cX11_init 127 = .ok (.aload_n 0, 1) := by decide +kernel
theorem dX11_init_128 : decode cX11_init 128 = .ok (.new 78, 3) := by decide +kernel
theorem dX11_init_131 : decode cX11_init 131 = .ok (.dup, 1) := by decide +kernel
theorem dX11_init_132 : decode cX11_init 132 = .ok (.invokespecial 80, 3) := by decide +kernel
theorem dX11_init_135 : decode cX11_init 135 = .ok (.putfield 81, 3) := by decide +kernel
theorem dX11_init_138 : decode cX11_init 138 = .ok (.aload_n 0, 1) := by decide +kernel
theorem dX11_init_139 : decode cX11_init 139 = .ok (.iconst 0, 1) := by decide +kernel
theorem dX11_init_140 : decode cX11_init 140 = .ok (.putfield 85, 3) := by decide +kernel
theorem dX11_init_143 : decode cX11_init 143 = .ok (.aload_n 0, 1) := by decide +kernel
theorem dX11_init_144 : decode cX11_init 144 = .ok (.iconst 0, 1) := by decide +kernel
theorem dX11_init_145 : decode cX11_init 145 = .ok (.putfield 89, 3) := by decide +kernel
theorem dX11_init_148 : decode cX11_init 148 = .ok (.aload_n 0, 1) := by decide +kernel
theorem dX11_init_149 : decode cX11_init 149 = .ok (.iconst 0, 1) := by decide +kernel
theorem dX11_init_150 : decode cX11_init 150 = .ok (.putfield 92, 3) := by decide +kernel
theorem dX11_init_153 : decode cX11_init 153 = .ok (.return_, 1) := by decide +kernel
theorem dX11_sets_0 : decode cX11_sets 0 = .ok (.iload_n 1, 1) := by decide +kernel
theorem dX11_sets_1 : decode cX11_sets 1 = .ok (.invokestatic 95, 3) := by decide +kernel
theorem dX11_sets_4 : decode cX11_sets 4 = .ok (.ifCond .eq 11, 3) := by decide +kernel
theorem dX11_sets_7 : decode cX11_sets 7 = .ok (.iload_n 2, 1) := by decide +kernel
theorem dX11_sets_8 : decode cX11_sets 8 = .ok (.iload_n 3, 1) := by decide +kernel
theorem dX11_sets_9 : decode cX11_sets 9 = .ok (.invokestatic 99, 3) := by decide +kernel
theorem dX11_sets_12 : decode cX11_sets 12 = .ok (.ifCond .ne 8, 3) := by decide +kernel
theorem dX11_sets_15 : decode cX11_sets 15 = .ok (.aload_n 0, 1) := by decide +kernel
theorem dX11_sets_16 : decode cX11_sets 16 = .ok (.invokevirtual 103, 3) := by decide +kernel
theorem dX11_sets_19 : decode cX11_sets 19 = .ok (.ireturn, 1) := by decide +kernel
theorem dX11_sets_20 : decode cX11_sets 20 = .ok (.aload_n 0, 1) := by decide +kernel
theorem dX11_sets_21 : decode cX11_sets 21 = .ok (.getfield 19, 3) := by decide +kernel
theorem dX11_sets_24 : decode cX11_sets 24 = .ok (.aload_n 0, 1) := by decide +kernel
theorem dX11_sets_25 : decode cX11_sets 25 = .ok (.getfield 10, 3) := by decide +kernel
theorem dX11_sets_28 : decode cX11_sets 28 = .ok (.invokevirtual 107, 3) := by decide +kernel
theorem dX11_sets_31 : decode cX11_sets 31 = .ok (.aload_n 0, 1) := by decide +kernel
theorem dX11_sets_32 : decode cX11_sets 32 = .ok (.getfield 10, 3) := by decide +kernel
theorem dX11_sets_35 : decode cX11_sets 35 = .ok (.getfield 111, 3) := by decide +kernel
theorem dX11_sets_38 : decode cX11_sets 38 = .ok (.iload_n 1, 1) := by decide +kernel
theorem dX11_sets_39 : decode cX11_sets 39 = .ok (.aaload, 1) := by decide +kernel
theorem dX11_sets_40 : decode cX11_sets 40 = .ok (.astore 5, 2) := by decide +kernel
theorem dX11_sets_42 : decode cX11_sets 42 = .ok (.aload 5, 2) := by decide +kernel
theorem dX11_sets_44 : decode cX11_sets 44 = .ok (.iload_n 2, 1) := by decide +kernel
theorem dX11_sets_45 : decode cX11_sets 45 = .ok (.iload_n 3, 1) := by decide +kernel
theorem dX11_sets_46 : decode cX11_sets 46 = .ok (.invokevirtual 115, 3) := by decide +kernel
theorem dX11_sets_49 : decode cX11_sets 49 = .ok (.istore 6, 2) := by decide +kernel
theorem dX11_sets_51 : decode cX11_sets 51 = .ok (.aload 5, 2) := by decide +kernel
theorem dX11_sets_53 : decode cX11_sets 53 = .ok (.iload_n 2, 1) := by decide +kernel
theorem dX11_sets_54 : decode cX11_sets 54 = .ok (.iload_n 3, 1) := by decide +kernel
theorem dX11_sets_55 : decode cX11_sets 55 = .ok (.iload 4, 2) := by decide +kernel
theorem dX11_sets_57 : decode cX11_sets 57 = .ok (.invokestatic 119, 3) := by decide +kernel
theorem dX11_sets_60 : decode cX11_sets 60 = .ok (.invokevirtual 123, 3) := by decide +kernel
theorem dX11_sets_63 : decode cX11_sets 63 = .ok (.iload 6, 2) := by decide +kernel
theorem dX11_sets_65 : decode cX11_sets 65 = .ok (.invokestatic 127, 3) := by decide +kernel
theorem dX11_sets_68 : decode cX11_sets 68 = .ok (.ireturn, 1) := by decide +kernel
theorem dX11_at_0 : decode cX11_at 0 = .ok (.iload_n 1, 1) := by decide +kernel
theorem dX11_at_1 : decode cX11_at 1 = .ok (.invokestatic 95, 3) := by decide +kernel
theorem dX11_at_4 : decode cX11_at 4 = .ok (.ifCond .eq 11, 3) := by decide +kernel
theorem dX11_at_7 : decode cX11_at 7 = .ok (.iload_n 2, 1) := by decide +kernel
theorem dX11_at_8 : decode cX11_at 8 = .ok (.iload_n 3, 1) := by decide +kernel
theorem dX11_at_9 : decode cX11_at 9 = .ok (.invokestatic 99, 3) := by decide +kernel
theorem dX11_at_12 : decode cX11_at 12 = .ok (.ifCond .ne 8, 3) := by decide +kernel
theorem dX11_at_15 : decode cX11_at 15 = .ok (.aload_n 0, 1) := by decide +kernel
theorem dX11_at_16 : decode cX11_at 16 = .ok (.invokevirtual 103, 3) := by decide +kernel
theorem dX11_at_19 : decode cX11_at 19 = .ok (.ireturn, 1) := by decide +kernel
theorem dX11_at_20 : decode cX11_at 20 = .ok (.aload_n 0, 1) := by decide +kernel
theorem dX11_at_21 : decode cX11_at 21 = .ok (.getfield 10, 3) := by decide +kernel
theorem dX11_at_24 : decode cX11_at 24 = .ok (.getfield 111, 3) := by decide +kernel
theorem dX11_at_27 : decode cX11_at 27 = .ok (.iload_n 1, 1) := by decide +kernel
theorem dX11_at_28 : decode cX11_at 28 = .ok (.aaload, 1) := by decide +kernel
theorem dX11_at_29 : decode cX11_at 29 = .ok (.iload_n 2, 1) := by decide +kernel
theorem dX11_at_30 : decode cX11_at 30 = .ok (.iload_n 3, 1) := by decide +kernel
theorem dX11_at_31 : decode cX11_at 31 = .ok (.invokevirtual 115, 3) := by decide +kernel
theorem dX11_at_34 : decode cX11_at 34 = .ok (.invokestatic 127, 3) := by decide +kernel
theorem dX11_at_37 : decode cX11_at 37 = .ok (.ireturn, 1) := by decide +kernel
theorem dX11_sums_0 : decode cX11_sums 0 = .ok (.iload_n 1, 1) := by decide +kernel
theorem dX11_sums_1 : decode cX11_sums 1 = .ok (.invokestatic 95, 3) := by decide +kernel
theorem dX11_sums_4 : decode cX11_sums 4 = .ok (.ifCond .eq 18, 3) := by decide +kernel
theorem dX11_sums_7 : decode cX11_sums 7 = .ok (.iload_n 2, 1) := by decide +kernel
theorem dX11_sums_8 : decode cX11_sums 8 = .ok (.invokestatic 95, 3) := by decide +kernel
theorem dX11_sums_11 : decode cX11_sums 11 = .ok (.ifCond .eq 11, 3) := by decide +kernel
theorem dX11_sums_14 : decode cX11_sums 14 = .ok (.iload 4, 2) := by decide +kernel
theorem dX11_sums_16 : decode cX11_sums 16 = .ok (.invokestatic 95, 3) := by decide +kernel
theorem dX11_sums_19 : decode cX11_sums 19 = .ok (.ifCond .ne 8, 3) := by decide +kernel
theorem dX11_sums_22 : decode cX11_sums 22 = .ok (.aload_n 0, 1) := by decide +kernel
theorem dX11_sums_23 : decode cX11_sums 23 = .ok (.invokevirtual 103, 3) := by decide +kernel
theorem dX11_sums_26 : decode cX11_sums 26 = .ok (.ireturn, 1) := by decide +kernel
theorem dX11_sums_27 : decode cX11_sums 27 = .ok (.aload_n 0, 1) := by decide +kernel
theorem dX11_sums_28 : decode cX11_sums 28 = .ok (.getfield 81, 3) := by decide +kernel
theorem dX11_sums_31 : decode cX11_sums 31 = .ok (.invokevirtual 130, 3) := by decide +kernel
theorem dX11_sums_34 : decode cX11_sums 34 = .ok (.aload_n 0, 1) := by decide +kernel
theorem dX11_sums_35 : decode cX11_sums 35 = .ok (.getfield 81, 3) := by decide +kernel
theorem dX11_sums_38 : decode cX11_sums 38 = .ok (.aload_n 0, 1) := by decide +kernel
theorem dX11_sums_39 : decode cX11_sums 39 = .ok (.getfield 10, 3) := by decide +kernel
theorem dX11_sums_42 : decode cX11_sums 42 = .ok (.getfield 111, 3) := by decide +kernel
theorem dX11_sums_45 : decode cX11_sums 45 = .ok (.iload_n 2, 1) := by decide +kernel
theorem dX11_sums_46 : decode cX11_sums 46 = .ok (.aaload, 1) := by decide +kernel
theorem dX11_sums_47 : decode cX11_sums 47 = .ok (.iload_n 3, 1) := by decide +kernel
theorem dX11_sums_48 : decode cX11_sums 48 = .ok (.invokestatic 119, 3) := by decide +kernel
theorem dX11_sums_51 : decode cX11_sums 51 = .ok (.invokevirtual 133, 3) := by decide +kernel
theorem dX11_sums_54 : decode cX11_sums 54 = .ok (.aload_n 0, 1) := by decide +kernel
theorem dX11_sums_55 : decode cX11_sums 55 = .ok (.getfield 81, 3) := by decide +kernel
theorem dX11_sums_58 : decode cX11_sums 58 = .ok (.aload_n 0, 1) := by decide +kernel
theorem dX11_sums_59 : decode cX11_sums 59 = .ok (.getfield 10, 3) := by decide +kernel
theorem dX11_sums_62 : decode cX11_sums 62 = .ok (.getfield 111, 3) := by decide +kernel
theorem dX11_sums_65 : decode cX11_sums 65 = .ok (.iload 4, 2) := by decide +kernel
theorem dX11_sums_67 : decode cX11_sums 67 = .ok (.aaload, 1) := by decide +kernel
theorem dX11_sums_68 : decode cX11_sums 68 = .ok (.iload 5, 2) := by decide +kernel
theorem dX11_sums_70 : decode cX11_sums 70 = .ok (.invokestatic 119, 3) := by decide +kernel
theorem dX11_sums_73 : decode cX11_sums 73 = .ok (.invokevirtual 133, 3) := by decide +kernel
theorem dX11_sums_76 : decode cX11_sums 76 = .ok (.aload_n 0, 1) := by decide +kernel
theorem dX11_sums_77 : decode cX11_sums 77 = .ok (.iload_n 1, 1) := by decide +kernel
theorem dX11_sums_78 : decode cX11_sums 78 = .ok (.invokevirtual 137, 3) := by decide +kernel
theorem dX11_sums_81 : decode cX11_sums 81 = .ok (.ireturn, 1) := by decide +kernel
theorem dX11_times_0 : decode cX11_times 0 = .ok (.iload_n 1, 1) := by decide +kernel
theorem dX11_times_1 : decode cX11_times 1 = .ok (.invokestatic 95, 3) := by decide +kernel
theorem dX11_times_4 : decode cX11_times 4 = .ok (.ifCond .eq 17, 3) := by decide +kernel
theorem dX11_times_7 : decode cX11_times 7 = .ok (.iload_n 2, 1) := by decide +kernel
theorem dX11_times_8 : decode cX11_times 8 = .ok (.invokestatic 95, 3) := by decide +kernel
theorem dX11_times_11 : decode cX11_times 11 = .ok (.ifCond .eq 10, 3) := by decide +kernel
theorem dX11_times_14 : decode cX11_times 14 = .ok (.iload_n 3, 1) := by decide +kernel
theorem dX11_times_15 : decode cX11_times 15 = .ok (.invokestatic 95, 3) := by decide +kernel
theorem dX11_times_18 : decode cX11_times 18 = .ok (.ifCond .ne 8, 3) := by decide +kernel
theorem dX11_times_21 : decode cX11_times 21 = .ok (.aload_n 0, 1) := by decide +kernel
theorem dX11_times_22 : decode cX11_times 22 = .ok (.invokevirtual 103, 3) := by decide +kernel
theorem dX11_times_25 : decode cX11_times 25 = .ok (.ireturn, 1) := by decide +kernel
theorem dX11_times_26 : decode cX11_times 26 = .ok (.aload_n 0, 1) := by decide +kernel
theorem dX11_times_27 : decode cX11_times 27 = .ok (.getfield 10, 3) := by decide +kernel
theorem dX11_times_30 : decode cX11_times 30 = .ok (.getfield 111, 3) := by decide +kernel
theorem dX11_times_33 : decode cX11_times 33 = .ok (.iload_n 2, 1) := by decide +kernel
theorem dX11_times_34 : decode cX11_times 34 = .ok (.aaload, 1) := by decide +kernel
theorem dX11_times_35 : decode cX11_times 35 = .ok (.astore 4, 2) := by decide +kernel
theorem dX11_times_37 : decode cX11_times 37 = .ok (.aload_n 0, 1) := by decide +kernel
theorem dX11_times_38 : decode cX11_times 38 = .ok (.getfield 10, 3) := by decide +kernel
theorem dX11_times_41 : decode cX11_times 41 = .ok (.getfield 111, 3) := by decide +kernel
theorem dX11_times_44 : decode cX11_times 44 = .ok (.iload_n 3, 1) := by decide +kernel
theorem dX11_times_45 : decode cX11_times 45 = .ok (.aaload, 1) := by decide +kernel
theorem dX11_times_46 : decode cX11_times 46 = .ok (.astore 5, 2) := by decide +kernel
theorem dX11_times_48 : decode cX11_times 48 = .ok (.aload 4, 2) := by decide +kernel
theorem dX11_times_50 : decode cX11_times 50 = .ok (.aload 5, 2) := by decide +kernel
theorem dX11_times_52 : decode cX11_times 52 = .ok (.invokestatic 140, 3) := by decide +kernel
theorem dX11_times_55 : decode cX11_times 55 = .ok (.ifCond .ne 8, 3) := by decide +kernel
theorem dX11_times_58 : decode cX11_times 58 = .ok (.aload_n 0, 1) := by decide +kernel
theorem dX11_times_59 : decode cX11_times 59 = .ok (.invokevirtual 144, 3) := by decide +kernel
theorem dX11_times_62 : decode cX11_times 62 = .ok (.ireturn, 1) := by decide +kernel
theorem dX11_times_63 : decode cX11_times 63 = .ok (.aload_n 0, 1) := by decide +kernel
theorem dX11_times_64 : decode cX11_times 64 = .ok (.getfield 81, 3) := by decide +kernel
theorem dX11_times_67 : decode cX11_times 67 = .ok (.invokevirtual 130, 3) := by decide +kernel
theorem dX11_times_70 : decode cX11_times 70 = .ok (.aload_n 0, 1) := by decide +kernel
theorem dX11_times_71 : decode cX11_times 71 = .ok (.getfield 33, 3) := by decide +kernel
theorem dX11_times_74 : decode cX11_times 74 = .ok (.aload_n 0, 1) := by decide +kernel
theorem dX11_times_75 : decode cX11_times 75 = .ok (.getfield 81, 3) := by decide +kernel
theorem dX11_times_78 : decode cX11_times 78 = .ok (.iconst 1, 1) := by decide +kernel
theorem dX11_times_79 : decode cX11_times 79 = .ok (.aload 4, 2) := by decide +kernel
theorem dX11_times_81 : decode cX11_times 81 = .ok (.aload 5, 2) := by decide +kernel
theorem dX11_times_83 : decode cX11_times 83 = .ok (.invokevirtual 147, 3) := by decide +kernel
theorem dX11_times_86 : decode cX11_times 86 = .ok (.aload_n 0, 1) := by decide +kernel
theorem dX11_times_87 : decode cX11_times 87 = .ok (.iload_n 1, 1) := by decide +kernel
theorem dX11_times_88 : decode cX11_times 88 = .ok (.invokevirtual 137, 3) := by decide +kernel
theorem dX11_times_91 : decode cX11_times 91 = .ok (.ireturn, 1) := by decide +kernel
theorem dX11_bracket_0 : decode cX11_bracket 0 = .ok (.iload_n 1, 1) := by decide +kernel
theorem dX11_bracket_1 : decode cX11_bracket 1 = .ok (.invokestatic 95, 3) := by decide +kernel
theorem dX11_bracket_4 : decode cX11_bracket 4 = .ok (.ifCond .eq 17, 3) := by decide +kernel
theorem dX11_bracket_7 : decode cX11_bracket 7 = .ok (.iload_n 2, 1) := by decide +kernel
theorem dX11_bracket_8 : decode cX11_bracket 8 = .ok (.invokestatic 95, 3) := by decide +kernel
theorem dX11_bracket_11 : decode cX11_bracket 11 = .ok (.ifCond .eq 10, 3) := by decide +kernel
theorem dX11_bracket_14 : decode cX11_bracket 14 = .ok (.iload_n 3, 1) := by decide +kernel
theorem dX11_bracket_15 : decode cX11_bracket 15 = .ok (.invokestatic 95, 3) := by decide +kernel
theorem dX11_bracket_18 : decode cX11_bracket 18 = .ok (.ifCond .ne 8, 3) := by decide +kernel
theorem dX11_bracket_21 : decode cX11_bracket 21 = .ok (.aload_n 0, 1) := by decide +kernel
theorem dX11_bracket_22 : decode cX11_bracket 22 = .ok (.invokevirtual 103, 3) := by decide +kernel
theorem dX11_bracket_25 : decode cX11_bracket 25 = .ok (.ireturn, 1) := by decide +kernel
theorem dX11_bracket_26 : decode cX11_bracket 26 = .ok (.aload_n 0, 1) := by decide +kernel
theorem dX11_bracket_27 : decode cX11_bracket 27 = .ok (.getfield 10, 3) := by decide +kernel
theorem dX11_bracket_30 : decode cX11_bracket 30 = .ok (.getfield 111, 3) := by decide +kernel
theorem dX11_bracket_33 : decode cX11_bracket 33 = .ok (.iload_n 2, 1) := by decide +kernel
theorem dX11_bracket_34 : decode cX11_bracket 34 = .ok (.aaload, 1) := by decide +kernel
theorem dX11_bracket_35 : decode cX11_bracket 35 = .ok (.astore 4, 2) := by decide +kernel
theorem dX11_bracket_37 : decode cX11_bracket 37 = .ok (.aload_n 0, 1) := by decide +kernel
theorem dX11_bracket_38 : decode cX11_bracket 38 = .ok (.getfield 10, 3) := by decide +kernel
theorem dX11_bracket_41 : decode cX11_bracket 41 = .ok (.getfield 111, 3) := by decide +kernel
theorem dX11_bracket_44 : decode cX11_bracket 44 = .ok (.iload_n 3, 1) := by decide +kernel
theorem dX11_bracket_45 : decode cX11_bracket 45 = .ok (.aaload, 1) := by decide +kernel
theorem dX11_bracket_46 : decode cX11_bracket 46 = .ok (.astore 5, 2) := by decide +kernel
theorem dX11_bracket_48 : decode cX11_bracket 48 = .ok (.aload 4, 2) := by decide +kernel
theorem dX11_bracket_50 : decode cX11_bracket 50 = .ok (.aload 5, 2) := by decide +kernel
theorem dX11_bracket_52 : decode cX11_bracket 52 = .ok (.invokestatic 140, 3) := by decide +kernel
theorem dX11_bracket_55 : decode cX11_bracket 55 = .ok (.ifCond .ne 8, 3) := by decide +kernel
theorem dX11_bracket_58 : decode cX11_bracket 58 = .ok (.aload_n 0, 1) := by decide +kernel
theorem dX11_bracket_59 : decode cX11_bracket 59 = .ok (.invokevirtual 144, 3) := by decide +kernel
theorem dX11_bracket_62 : decode cX11_bracket 62 = .ok (.ireturn, 1) := by decide +kernel
theorem dX11_bracket_63 : decode cX11_bracket 63 = .ok (.aload_n 0, 1) := by decide +kernel
theorem dX11_bracket_64 : decode cX11_bracket 64 = .ok (.getfield 81, 3) := by decide +kernel
theorem dX11_bracket_67 : decode cX11_bracket 67 = .ok (.invokevirtual 130, 3) := by decide +kernel
theorem dX11_bracket_70 : decode cX11_bracket 70 = .ok (.aload_n 0, 1) := by decide +kernel
theorem dX11_bracket_71 : decode cX11_bracket 71 = .ok (.getfield 33, 3) := by decide +kernel
theorem dX11_bracket_74 : decode cX11_bracket 74 = .ok (.aload_n 0, 1) := by decide +kernel
theorem dX11_bracket_75 : decode cX11_bracket 75 = .ok (.getfield 81, 3) := by decide +kernel
theorem dX11_bracket_78 : decode cX11_bracket 78 = .ok (.iconst 1, 1) := by decide +kernel
theorem dX11_bracket_79 : decode cX11_bracket 79 = .ok (.aload 4, 2) := by decide +kernel
theorem dX11_bracket_81 : decode cX11_bracket 81 = .ok (.aload 5, 2) := by decide +kernel
theorem dX11_bracket_83 : decode cX11_bracket 83 = .ok (.invokevirtual 147, 3) := by decide +kernel
theorem dX11_bracket_86 : decode cX11_bracket 86 = .ok (.aload_n 0, 1) := by decide +kernel
theorem dX11_bracket_87 : decode cX11_bracket 87 = .ok (.getfield 33, 3) := by decide +kernel
theorem dX11_bracket_90 : decode cX11_bracket 90 = .ok (.aload_n 0, 1) := by decide +kernel
theorem dX11_bracket_91 : decode cX11_bracket 91 = .ok (.getfield 81, 3) := by decide +kernel
theorem dX11_bracket_94 : decode cX11_bracket 94 = .ok (.sipush 10006, 3) := by decide +kernel
theorem dX11_bracket_97 : decode cX11_bracket 97 = .ok (.aload 5, 2) := by decide +kernel
theorem dX11_bracket_99 : decode cX11_bracket 99 = .ok (.aload 4, 2) := by decide +kernel
theorem dX11_bracket_101 : decode cX11_bracket 101 = .ok (.invokevirtual 147, 3) := by decide +kernel
theorem dX11_bracket_104 : decode cX11_bracket 104 = .ok (.aload_n 0, 1) := by decide +kernel
theorem dX11_bracket_105 : decode cX11_bracket 105 = .ok (.iload_n 1, 1) := by decide +kernel
theorem dX11_bracket_106 : decode cX11_bracket 106 = .ok (.invokevirtual 137, 3) := by decide +kernel
theorem dX11_bracket_109 : decode cX11_bracket 109 = .ok (.ireturn, 1) := by decide +kernel
theorem dX11_power_0 : decode cX11_power 0 = .ok (.iload_n 1, 1) := by decide +kernel
theorem dX11_power_1 : decode cX11_power 1 = .ok (.invokestatic 95, 3) := by decide +kernel
theorem dX11_power_4 : decode cX11_power 4 = .ok (.ifCond .eq 20, 3) := by decide +kernel
theorem dX11_power_7 : decode cX11_power 7 = .ok (.iload_n 2, 1) := by decide +kernel
theorem dX11_power_8 : decode cX11_power 8 = .ok (.invokestatic 95, 3) := by decide +kernel
theorem dX11_power_11 : decode cX11_power 11 = .ok (.ifCond .eq 13, 3) := by decide +kernel
theorem dX11_power_14 : decode cX11_power 14 = .ok (.iload_n 3, 1) := by decide +kernel
theorem dX11_power_15 : decode cX11_power 15 = .ok (.ifCond .lt 9, 3) := by decide +kernel
theorem dX11_power_18 : decode cX11_power 18 = .ok (.iload_n 3, 1) := by decide +kernel
theorem dX11_power_19 : decode cX11_power 19 = .ok (.bipush 12, 2) := by decide +kernel
theorem dX11_power_21 : decode cX11_power 21 = .ok (.if_icmp .le 8, 3) := by decide +kernel
theorem dX11_power_24 : decode cX11_power 24 = .ok (.aload_n 0, 1) := by decide +kernel
theorem dX11_power_25 : decode cX11_power 25 = .ok (.invokevirtual 103, 3) := by decide +kernel
theorem dX11_power_28 : decode cX11_power 28 = .ok (.ireturn, 1) := by decide +kernel
theorem dX11_power_29 : decode cX11_power 29 = .ok (.aload_n 0, 1) := by decide +kernel
theorem dX11_power_30 : decode cX11_power 30 = .ok (.getfield 10, 3) := by decide +kernel
theorem dX11_power_33 : decode cX11_power 33 = .ok (.getfield 111, 3) := by decide +kernel
theorem dX11_power_36 : decode cX11_power 36 = .ok (.iload_n 2, 1) := by decide +kernel
theorem dX11_power_37 : decode cX11_power 37 = .ok (.aaload, 1) := by decide +kernel
theorem dX11_power_38 : decode cX11_power 38 = .ok (.astore 4, 2) := by decide +kernel
theorem dX11_power_40 : decode cX11_power 40 = .ok (.aload 4, 2) := by decide +kernel
theorem dX11_power_42 : decode cX11_power 42 = .ok (.iload_n 3, 1) := by decide +kernel
theorem dX11_power_43 : decode cX11_power 43 = .ok (.invokestatic 151, 3) := by decide +kernel
theorem dX11_power_46 : decode cX11_power 46 = .ok (.ifCond .ne 8, 3) := by decide +kernel
theorem dX11_power_49 : decode cX11_power 49 = .ok (.aload_n 0, 1) := by decide +kernel
theorem dX11_power_50 : decode cX11_power 50 = .ok (.invokevirtual 144, 3) := by decide +kernel
theorem dX11_power_53 : decode cX11_power 53 = .ok (.ireturn, 1) := by decide +kernel
theorem dX11_power_54 : decode cX11_power 54 = .ok (.aload_n 0, 1) := by decide +kernel
theorem dX11_power_55 : decode cX11_power 55 = .ok (.getfield 33, 3) := by decide +kernel
theorem dX11_power_58 : decode cX11_power 58 = .ok (.aload_n 0, 1) := by decide +kernel
theorem dX11_power_59 : decode cX11_power 59 = .ok (.getfield 81, 3) := by decide +kernel
theorem dX11_power_62 : decode cX11_power 62 = .ok (.aload 4, 2) := by decide +kernel
theorem dX11_power_64 : decode cX11_power 64 = .ok (.iload_n 3, 1) := by decide +kernel
theorem dX11_power_65 : decode cX11_power 65 = .ok (.invokevirtual 155, 3) := by decide +kernel
theorem dX11_power_68 : decode cX11_power 68 = .ok (.aload_n 0, 1) := by decide +kernel
theorem dX11_power_69 : decode cX11_power 69 = .ok (.iload_n 1, 1) := by decide +kernel
theorem dX11_power_70 : decode cX11_power 70 = .ok (.invokevirtual 137, 3) := by decide +kernel
theorem dX11_power_73 : decode cX11_power 73 = .ok (.ireturn, 1) := by decide +kernel
theorem dX11_reversed_0 : decode cX11_reversed 0 = .ok (.iload_n 1, 1) := by decide +kernel
theorem dX11_reversed_1 : decode cX11_reversed 1 = .ok (.invokestatic 95, 3) := by decide +kernel
theorem dX11_reversed_4 : decode cX11_reversed 4 = .ok (.ifCond .eq 10, 3) := by decide +kernel
theorem dX11_reversed_7 : decode cX11_reversed 7 = .ok (.iload_n 2, 1) := by decide +kernel
theorem dX11_reversed_8 : decode cX11_reversed 8 = .ok (.invokestatic 95, 3) := by decide +kernel
theorem dX11_reversed_11 : decode cX11_reversed 11 = .ok (.ifCond .ne 8, 3) := by decide +kernel
theorem dX11_reversed_14 : decode cX11_reversed 14 = .ok (.aload_n 0, 1) := by decide +kernel
theorem dX11_reversed_15 : decode cX11_reversed 15 = .ok (.invokevirtual 103, 3) := by decide +kernel
theorem dX11_reversed_18 : decode cX11_reversed 18 = .ok (.ireturn, 1) := by decide +kernel
theorem dX11_reversed_19 : decode cX11_reversed 19 = .ok (.aload_n 0, 1) := by decide +kernel
theorem dX11_reversed_20 : decode cX11_reversed 20 = .ok (.getfield 33, 3) := by decide +kernel
theorem dX11_reversed_23 : decode cX11_reversed 23 = .ok (.aload_n 0, 1) := by decide +kernel
theorem dX11_reversed_24 : decode cX11_reversed 24 = .ok (.getfield 81, 3) := by decide +kernel
theorem dX11_reversed_27 : decode cX11_reversed 27 = .ok (.aload_n 0, 1) := by decide +kernel
theorem dX11_reversed_28 : decode cX11_reversed 28 = .ok (.getfield 10, 3) := by decide +kernel
theorem dX11_reversed_31 : decode cX11_reversed 31 = .ok (.getfield 111, 3) := by decide +kernel
theorem dX11_reversed_34 : decode cX11_reversed 34 = .ok (.iload_n 2, 1) := by decide +kernel
theorem dX11_reversed_35 : decode cX11_reversed 35 = .ok (.aaload, 1) := by decide +kernel
theorem dX11_reversed_36 : decode cX11_reversed 36 = .ok (.invokevirtual 159, 3) := by decide +kernel
theorem dX11_reversed_39 : decode cX11_reversed 39 = .ok (.aload_n 0, 1) := by decide +kernel
theorem dX11_reversed_40 : decode cX11_reversed 40 = .ok (.iload_n 1, 1) := by decide +kernel
theorem dX11_reversed_41 : decode cX11_reversed 41 = .ok (.invokevirtual 137, 3) := by decide +kernel
theorem dX11_reversed_44 : decode cX11_reversed 44 = .ok (.ireturn, 1) := by decide +kernel
theorem dX11_of_0 : decode cX11_of 0 = .ok (.iload_n 1, 1) := by decide +kernel
theorem dX11_of_1 : decode cX11_of 1 = .ok (.invokestatic 95, 3) := by decide +kernel
theorem dX11_of_4 : decode cX11_of 4 = .ok (.ifCond .eq 13, 3) := by decide +kernel
theorem dX11_of_7 : decode cX11_of 7 = .ok (.iload_n 2, 1) := by decide +kernel
theorem dX11_of_8 : decode cX11_of 8 = .ok (.ifCond .lt 9, 3) := by decide +kernel
theorem dX11_of_11 : decode cX11_of 11 = .ok (.iload_n 2, 1) := by decide +kernel
theorem dX11_of_12 : decode cX11_of 12 = .ok (.bipush 8, 2) := by decide +kernel
theorem dX11_of_14 : decode cX11_of 14 = .ok (.if_icmp .le 8, 3) := by decide +kernel
theorem dX11_of_17 : decode cX11_of 17 = .ok (.aload_n 0, 1) := by decide +kernel
theorem dX11_of_18 : decode cX11_of 18 = .ok (.invokevirtual 103, 3) := by decide +kernel
theorem dX11_of_21 : decode cX11_of 21 = .ok (.ireturn, 1) := by decide +kernel
theorem dX11_of_22 : decode cX11_of 22 = .ok (.aload_n 0, 1) := by decide +kernel
theorem dX11_of_23 : decode cX11_of 23 = .ok (.getfield 10, 3) := by decide +kernel
theorem dX11_of_26 : decode cX11_of 26 = .ok (.getfield 111, 3) := by decide +kernel
theorem dX11_of_29 : decode cX11_of 29 = .ok (.iload_n 1, 1) := by decide +kernel
theorem dX11_of_30 : decode cX11_of 30 = .ok (.aaload, 1) := by decide +kernel
theorem dX11_of_31 : decode cX11_of 31 = .ok (.iload_n 2, 1) := by decide +kernel
theorem dX11_of_32 : decode cX11_of 32 = .ok (.aload_n 0, 1) := by decide +kernel
theorem dX11_of_33 : decode cX11_of 33 = .ok (.getfield 10, 3) := by decide +kernel
theorem dX11_of_36 : decode cX11_of 36 = .ok (.getfield 163, 3) := by decide +kernel
theorem dX11_of_39 : decode cX11_of 39 = .ok (.invokevirtual 166, 3) := by decide +kernel
theorem dX11_of_42 : decode cX11_of 42 = .ok (.ireturn, 1) := by decide +kernel
theorem dX11_order_0 : decode cX11_order 0 = .ok (.iload_n 1, 1) := by decide +kernel
theorem dX11_order_1 : decode cX11_order 1 = .ok (.ifCond .eq 13, 3) := by decide +kernel
theorem dX11_order_4 : decode cX11_order 4 = .ok (.iload_n 1, 1) := by decide +kernel
theorem dX11_order_5 : decode cX11_order 5 = .ok (.iconst 1, 1) := by decide +kernel
theorem dX11_order_6 : decode cX11_order 6 = .ok (.if_icmp .eq 8, 3) := by decide +kernel
theorem dX11_order_9 : decode cX11_order 9 = .ok (.aload_n 0, 1) := by decide +kernel
theorem dX11_order_10 : decode cX11_order 10 = .ok (.invokevirtual 103, 3) := by decide +kernel
theorem dX11_order_13 : decode cX11_order 13 = .ok (.ireturn, 1) := by decide +kernel
theorem dX11_order_14 : decode cX11_order 14 = .ok (.aload_n 0, 1) := by decide +kernel
theorem dX11_order_15 : decode cX11_order 15 = .ok (.getfield 19, 3) := by decide +kernel
theorem dX11_order_18 : decode cX11_order 18 = .ok (.aload_n 0, 1) := by decide +kernel
theorem dX11_order_19 : decode cX11_order 19 = .ok (.getfield 10, 3) := by decide +kernel
theorem dX11_order_22 : decode cX11_order 22 = .ok (.invokevirtual 107, 3) := by decide +kernel
theorem dX11_order_25 : decode cX11_order 25 = .ok (.aload_n 0, 1) := by decide +kernel
theorem dX11_order_26 : decode cX11_order 26 = .ok (.getfield 10, 3) := by decide +kernel
theorem dX11_order_29 : decode cX11_order 29 = .ok (.getfield 163, 3) := by decide +kernel
theorem dX11_order_32 : decode cX11_order 32 = .ok (.istore_n 2, 1) := by decide +kernel
theorem dX11_order_33 : decode cX11_order 33 = .ok (.aload_n 0, 1) := by decide +kernel
theorem dX11_order_34 : decode cX11_order 34 = .ok (.getfield 10, 3) := by decide +kernel
theorem dX11_order_37 : decode cX11_order 37 = .ok (.iload_n 1, 1) := by decide +kernel
theorem dX11_order_38 : decode cX11_order 38 = .ok (.putfield 163, 3) := by decide +kernel
theorem dX11_order_41 : decode cX11_order 41 = .ok (.iload_n 2, 1) := by decide +kernel
theorem dX11_order_42 : decode cX11_order 42 = .ok (.ireturn, 1) := by decide +kernel
theorem dX11_puts_0 : decode cX11_puts 0 = .ok (.iload_n 1, 1) := by decide +kernel
theorem dX11_puts_1 : decode cX11_puts 1 = .ok (.invokestatic 169, 3) := by decide +kernel
theorem dX11_puts_4 : decode cX11_puts 4 = .ok (.ifCond .eq 10, 3) := by decide +kernel
theorem dX11_puts_7 : decode cX11_puts 7 = .ok (.iload_n 2, 1) := by decide +kernel
theorem dX11_puts_8 : decode cX11_puts 8 = .ok (.invokestatic 172, 3) := by decide +kernel
theorem dX11_puts_11 : decode cX11_puts 11 = .ok (.ifCond .ne 8, 3) := by decide +kernel
theorem dX11_puts_14 : decode cX11_puts 14 = .ok (.aload_n 0, 1) := by decide +kernel
theorem dX11_puts_15 : decode cX11_puts 15 = .ok (.invokevirtual 103, 3) := by decide +kernel
theorem dX11_puts_18 : decode cX11_puts 18 = .ok (.ireturn, 1) := by decide +kernel
theorem dX11_puts_19 : decode cX11_puts 19 = .ok (.aload_n 0, 1) := by decide +kernel
theorem dX11_puts_20 : decode cX11_puts 20 = .ok (.getfield 19, 3) := by decide +kernel
theorem dX11_puts_23 : decode cX11_puts 23 = .ok (.aload_n 0, 1) := by decide +kernel
theorem dX11_puts_24 : decode cX11_puts 24 = .ok (.getfield 10, 3) := by decide +kernel
theorem dX11_puts_27 : decode cX11_puts 27 = .ok (.invokevirtual 107, 3) := by decide +kernel
theorem dX11_puts_30 : decode cX11_puts 30 = .ok (.aload_n 0, 1) := by decide +kernel
theorem dX11_puts_31 : decode cX11_puts 31 = .ok (.getfield 10, 3) := by decide +kernel
theorem dX11_puts_34 : decode cX11_puts 34 = .ok (.getfield 175, 3) := by decide +kernel
theorem dX11_puts_37 : decode cX11_puts 37 = .ok (.iload_n 1, 1) := by decide +kernel
theorem dX11_puts_38 : decode cX11_puts 38 = .ok (.aaload, 1) := by decide +kernel
theorem dX11_puts_39 : decode cX11_puts 39 = .ok (.iload_n 2, 1) := by decide +kernel
theorem dX11_puts_40 : decode cX11_puts 40 = .ok (.iaload, 1) := by decide +kernel
theorem dX11_puts_41 : decode cX11_puts 41 = .ok (.istore 4, 2) := by decide +kernel
theorem dX11_puts_43 : decode cX11_puts 43 = .ok (.aload_n 0, 1) := by decide +kernel
theorem dX11_puts_44 : decode cX11_puts 44 = .ok (.getfield 10, 3) := by decide +kernel
theorem dX11_puts_47 : decode cX11_puts 47 = .ok (.getfield 175, 3) := by decide +kernel
theorem dX11_puts_50 : decode cX11_puts 50 = .ok (.iload_n 1, 1) := by decide +kernel
theorem dX11_puts_51 : decode cX11_puts 51 = .ok (.aaload, 1) := by decide +kernel
theorem dX11_puts_52 : decode cX11_puts 52 = .ok (.iload_n 2, 1) := by decide +kernel
theorem dX11_puts_53 : decode cX11_puts 53 = .ok (.iload_n 3, 1) := by decide +kernel
theorem dX11_puts_54 : decode cX11_puts 54 = .ok (.invokestatic 119, 3) := by decide +kernel
theorem dX11_puts_57 : decode cX11_puts 57 = .ok (.iastore, 1) := by decide +kernel
theorem dX11_puts_58 : decode cX11_puts 58 = .ok (.iload 4, 2) := by decide +kernel
theorem dX11_puts_60 : decode cX11_puts 60 = .ok (.invokestatic 127, 3) := by decide +kernel
theorem dX11_puts_63 : decode cX11_puts 63 = .ok (.ireturn, 1) := by decide +kernel
theorem dX11_rate_0 : decode cX11_rate 0 = .ok (.iload_n 1, 1) := by decide +kernel
theorem dX11_rate_1 : decode cX11_rate 1 = .ok (.invokestatic 169, 3) := by decide +kernel
theorem dX11_rate_4 : decode cX11_rate 4 = .ok (.ifCond .eq 10, 3) := by decide +kernel
theorem dX11_rate_7 : decode cX11_rate 7 = .ok (.iload_n 2, 1) := by decide +kernel
theorem dX11_rate_8 : decode cX11_rate 8 = .ok (.invokestatic 172, 3) := by decide +kernel
theorem dX11_rate_11 : decode cX11_rate 11 = .ok (.ifCond .ne 8, 3) := by decide +kernel
theorem dX11_rate_14 : decode cX11_rate 14 = .ok (.aload_n 0, 1) := by decide +kernel
theorem dX11_rate_15 : decode cX11_rate 15 = .ok (.invokevirtual 103, 3) := by decide +kernel
theorem dX11_rate_18 : decode cX11_rate 18 = .ok (.ireturn, 1) := by decide +kernel
theorem dX11_rate_19 : decode cX11_rate 19 = .ok (.aload_n 0, 1) := by decide +kernel
theorem dX11_rate_20 : decode cX11_rate 20 = .ok (.getfield 10, 3) := by decide +kernel
theorem dX11_rate_23 : decode cX11_rate 23 = .ok (.getfield 175, 3) := by decide +kernel
theorem dX11_rate_26 : decode cX11_rate 26 = .ok (.iload_n 1, 1) := by decide +kernel
theorem dX11_rate_27 : decode cX11_rate 27 = .ok (.aaload, 1) := by decide +kernel
theorem dX11_rate_28 : decode cX11_rate 28 = .ok (.iload_n 2, 1) := by decide +kernel
theorem dX11_rate_29 : decode cX11_rate 29 = .ok (.iaload, 1) := by decide +kernel
theorem dX11_rate_30 : decode cX11_rate 30 = .ok (.invokestatic 127, 3) := by decide +kernel
theorem dX11_rate_33 : decode cX11_rate 33 = .ok (.ireturn, 1) := by decide +kernel
theorem dX11_makes_0 : decode cX11_makes 0 = .ok (.iload_n 1, 1) := by decide +kernel
theorem dX11_makes_1 : decode cX11_makes 1 = .ok (.invokestatic 169, 3) := by decide +kernel
theorem dX11_makes_4 : decode cX11_makes 4 = .ok (.ifCond .eq 17, 3) := by decide +kernel
theorem dX11_makes_7 : decode cX11_makes 7 = .ok (.iload_n 2, 1) := by decide +kernel
theorem dX11_makes_8 : decode cX11_makes 8 = .ok (.invokestatic 95, 3) := by decide +kernel
theorem dX11_makes_11 : decode cX11_makes 11 = .ok (.ifCond .eq 10, 3) := by decide +kernel
theorem dX11_makes_14 : decode cX11_makes 14 = .ok (.iload_n 3, 1) := by decide +kernel
theorem dX11_makes_15 : decode cX11_makes 15 = .ok (.invokestatic 169, 3) := by decide +kernel
theorem dX11_makes_18 : decode cX11_makes 18 = .ok (.ifCond .ne 8, 3) := by decide +kernel
theorem dX11_makes_21 : decode cX11_makes 21 = .ok (.aload_n 0, 1) := by decide +kernel
theorem dX11_makes_22 : decode cX11_makes 22 = .ok (.invokevirtual 103, 3) := by decide +kernel
theorem dX11_makes_25 : decode cX11_makes 25 = .ok (.ireturn, 1) := by decide +kernel
theorem dX11_makes_26 : decode cX11_makes 26 = .ok (.aload_n 0, 1) := by decide +kernel
theorem dX11_makes_27 : decode cX11_makes 27 = .ok (.getfield 10, 3) := by decide +kernel
theorem dX11_makes_30 : decode cX11_makes 30 = .ok (.getfield 111, 3) := by decide +kernel
theorem dX11_makes_33 : decode cX11_makes 33 = .ok (.iload_n 2, 1) := by decide +kernel
theorem dX11_makes_34 : decode cX11_makes 34 = .ok (.aaload, 1) := by decide +kernel
theorem dX11_makes_35 : decode cX11_makes 35 = .ok (.astore 4, 2) := by decide +kernel
theorem dX11_makes_37 : decode cX11_makes 37 = .ok (.aload_n 0, 1) := by decide +kernel
theorem dX11_makes_38 : decode cX11_makes 38 = .ok (.getfield 10, 3) := by decide +kernel
theorem dX11_makes_41 : decode cX11_makes 41 = .ok (.getfield 175, 3) := by decide +kernel
theorem dX11_makes_44 : decode cX11_makes 44 = .ok (.iload_n 3, 1) := by decide +kernel
theorem dX11_makes_45 : decode cX11_makes 45 = .ok (.aaload, 1) := by decide +kernel
theorem dX11_makes_46 : decode cX11_makes 46 = .ok (.astore 5, 2) := by decide +kernel
theorem dX11_makes_48 : decode cX11_makes 48 = .ok (.aload_n 0, 1) := by decide +kernel
theorem dX11_makes_49 : decode cX11_makes 49 = .ok (.getfield 58, 3) := by decide +kernel
theorem dX11_makes_52 : decode cX11_makes 52 = .ok (.aload 4, 2) := by decide +kernel
theorem dX11_makes_54 : decode cX11_makes 54 = .ok (.aload 5, 2) := by decide +kernel
theorem dX11_makes_56 : decode cX11_makes 56 = .ok (.invokevirtual 179, 3) := by decide +kernel
theorem dX11_makes_59 : decode cX11_makes 59 = .ok (.ifCond .ne 8, 3) := by decide +kernel
theorem dX11_makes_62 : decode cX11_makes 62 = .ok (.aload_n 0, 1) := by decide +kernel
theorem dX11_makes_63 : decode cX11_makes 63 = .ok (.invokevirtual 144, 3) := by decide +kernel
theorem dX11_makes_66 : decode cX11_makes 66 = .ok (.ireturn, 1) := by decide +kernel
theorem dX11_makes_67 : decode cX11_makes 67 = .ok (.aload_n 0, 1) := by decide +kernel
theorem dX11_makes_68 : decode cX11_makes 68 = .ok (.getfield 58, 3) := by decide +kernel
theorem dX11_makes_71 : decode cX11_makes 71 = .ok (.aload 4, 2) := by decide +kernel
theorem dX11_makes_73 : decode cX11_makes 73 = .ok (.aload 5, 2) := by decide +kernel
theorem dX11_makes_75 : decode cX11_makes 75 = .ok (.invokevirtual 183, 3) := by decide +kernel
theorem dX11_makes_78 : decode cX11_makes 78 = .ok (.aload_n 0, 1) := by decide +kernel
theorem dX11_makes_79 : decode cX11_makes 79 = .ok (.getfield 19, 3) := by decide +kernel
theorem dX11_makes_82 : decode cX11_makes 82 = .ok (.aload_n 0, 1) := by decide +kernel
theorem dX11_makes_83 : decode cX11_makes 83 = .ok (.getfield 10, 3) := by decide +kernel
theorem dX11_makes_86 : decode cX11_makes 86 = .ok (.invokevirtual 107, 3) := by decide +kernel
theorem dX11_makes_89 : decode cX11_makes 89 = .ok (.aload_n 0, 1) := by decide +kernel
theorem dX11_makes_90 : decode cX11_makes 90 = .ok (.getfield 58, 3) := by decide +kernel
theorem dX11_makes_93 : decode cX11_makes 93 = .ok (.getfield 187, 3) := by decide +kernel
theorem dX11_makes_96 : decode cX11_makes 96 = .ok (.iconst 0, 1) := by decide +kernel
theorem dX11_makes_97 : decode cX11_makes 97 = .ok (.aload_n 0, 1) := by decide +kernel
theorem dX11_makes_98 : decode cX11_makes 98 = .ok (.getfield 10, 3) := by decide +kernel
theorem dX11_makes_101 : decode cX11_makes 101 = .ok (.getfield 175, 3) := by decide +kernel
theorem dX11_makes_104 : decode cX11_makes 104 = .ok (.iload_n 1, 1) := by decide +kernel
theorem dX11_makes_105 : decode cX11_makes 105 = .ok (.aaload, 1) := by decide +kernel
theorem dX11_makes_106 : decode cX11_makes 106 = .ok (.iconst 0, 1) := by decide +kernel
theorem dX11_makes_107 : decode cX11_makes 107 = .ok (.bipush 31, 2) := by decide +kernel
theorem dX11_makes_109 : decode cX11_makes 109 = .ok (.invokestatic 191, 3) := by decide +kernel
theorem dX11_makes_112 : decode cX11_makes 112 = .ok (.aload_n 0, 1) := by decide +kernel
theorem dX11_makes_113 : decode cX11_makes 113 = .ok (.getfield 58, 3) := by decide +kernel
theorem dX11_makes_116 : decode cX11_makes 116 = .ok (.getfield 187, 3) := by decide +kernel
theorem dX11_makes_119 : decode cX11_makes 119 = .ok (.invokestatic 197, 3) := by decide +kernel
theorem dX11_makes_122 : decode cX11_makes 122 = .ok (.istore 6, 2) := by decide +kernel
theorem dX11_makes_124 : decode cX11_makes 124 = .ok (.iload 6, 2) := by decide +kernel
theorem dX11_makes_126 : decode cX11_makes 126 = .ok (.ifCond .ge 9, 3) := by decide +kernel
theorem dX11_makes_129 : decode cX11_makes 129 = .ok (.sipush (-20001), 3) := by decide +kernel
theorem dX11_makes_132 : decode cX11_makes 132 = .ok (.goto 5, 3) := by decide +kernel
theorem dX11_makes_135 : decode cX11_makes 135 = .ok (.iload 6, 2) := by decide +kernel
theorem dX11_makes_137 : decode cX11_makes 137 = .ok (.ireturn, 1) := by decide +kernel
theorem dX11_kernel_0 : decode cX11_kernel 0 = .ok (.iload_n 1, 1) := by decide +kernel
theorem dX11_kernel_1 : decode cX11_kernel 1 = .ok (.invokestatic 95, 3) := by decide +kernel
theorem dX11_kernel_4 : decode cX11_kernel 4 = .ok (.ifCond .eq 13, 3) := by decide +kernel
theorem dX11_kernel_7 : decode cX11_kernel 7 = .ok (.iload_n 2, 1) := by decide +kernel
theorem dX11_kernel_8 : decode cX11_kernel 8 = .ok (.ifCond .lt 9, 3) := by decide +kernel
theorem dX11_kernel_11 : decode cX11_kernel 11 = .ok (.iload_n 2, 1) := by decide +kernel
theorem dX11_kernel_12 : decode cX11_kernel 12 = .ok (.bipush 15, 2) := by decide +kernel
theorem dX11_kernel_14 : decode cX11_kernel 14 = .ok (.if_icmp .le 8, 3) := by decide +kernel
theorem dX11_kernel_17 : decode cX11_kernel 17 = .ok (.aload_n 0, 1) := by decide +kernel
theorem dX11_kernel_18 : decode cX11_kernel 18 = .ok (.invokevirtual 103, 3) := by decide +kernel
theorem dX11_kernel_21 : decode cX11_kernel 21 = .ok (.ireturn, 1) := by decide +kernel
theorem dX11_kernel_22 : decode cX11_kernel 22 = .ok (.aload_n 0, 1) := by decide +kernel
theorem dX11_kernel_23 : decode cX11_kernel 23 = .ok (.getfield 58, 3) := by decide +kernel
theorem dX11_kernel_26 : decode cX11_kernel 26 = .ok (.aload_n 0, 1) := by decide +kernel
theorem dX11_kernel_27 : decode cX11_kernel 27 = .ok (.getfield 10, 3) := by decide +kernel
theorem dX11_kernel_30 : decode cX11_kernel 30 = .ok (.getfield 111, 3) := by decide +kernel
theorem dX11_kernel_33 : decode cX11_kernel 33 = .ok (.iload_n 1, 1) := by decide +kernel
theorem dX11_kernel_34 : decode cX11_kernel 34 = .ok (.aaload, 1) := by decide +kernel
theorem dX11_kernel_35 : decode cX11_kernel 35 = .ok (.iload_n 2, 1) := by decide +kernel
theorem dX11_kernel_36 : decode cX11_kernel 36 = .ok (.invokevirtual 201, 3) := by decide +kernel
theorem dX11_kernel_39 : decode cX11_kernel 39 = .ok (.ireturn, 1) := by decide +kernel
theorem dX11_kills_0 : decode cX11_kills 0 = .ok (.iload_n 1, 1) := by decide +kernel
theorem dX11_kills_1 : decode cX11_kills 1 = .ok (.invokestatic 95, 3) := by decide +kernel
theorem dX11_kills_4 : decode cX11_kills 4 = .ok (.ifCond .eq 10, 3) := by decide +kernel
theorem dX11_kills_7 : decode cX11_kills 7 = .ok (.iload_n 2, 1) := by decide +kernel
theorem dX11_kills_8 : decode cX11_kills 8 = .ok (.invokestatic 169, 3) := by decide +kernel
theorem dX11_kills_11 : decode cX11_kills 11 = .ok (.ifCond .ne 8, 3) := by decide +kernel
theorem dX11_kills_14 : decode cX11_kills 14 = .ok (.aload_n 0, 1) := by decide +kernel
theorem dX11_kills_15 : decode cX11_kills 15 = .ok (.invokevirtual 103, 3) := by decide +kernel
theorem dX11_kills_18 : decode cX11_kills 18 = .ok (.ireturn, 1) := by decide +kernel
theorem dX11_kills_19 : decode cX11_kills 19 = .ok (.aload_n 0, 1) := by decide +kernel
theorem dX11_kills_20 : decode cX11_kills 20 = .ok (.getfield 10, 3) := by decide +kernel
theorem dX11_kills_23 : decode cX11_kills 23 = .ok (.getfield 175, 3) := by decide +kernel
theorem dX11_kills_26 : decode cX11_kills 26 = .ok (.iload_n 2, 1) := by decide +kernel
theorem dX11_kills_27 : decode cX11_kills 27 = .ok (.aaload, 1) := by decide +kernel
theorem dX11_kills_28 : decode cX11_kills 28 = .ok (.astore_n 3, 1) := by decide +kernel
theorem dX11_kills_29 : decode cX11_kills 29 = .ok (.aload_n 3, 1) := by decide +kernel
theorem dX11_kills_30 : decode cX11_kills 30 = .ok (.invokestatic 197, 3) := by decide +kernel
theorem dX11_kills_33 : decode cX11_kills 33 = .ok (.istore 4, 2) := by decide +kernel
theorem dX11_kills_35 : decode cX11_kills 35 = .ok (.iload 4, 2) := by decide +kernel
theorem dX11_kills_37 : decode cX11_kills 37 = .ok (.ifCond .ge 8, 3) := by decide +kernel
theorem dX11_kills_40 : decode cX11_kills 40 = .ok (.aload_n 0, 1) := by decide +kernel
theorem dX11_kills_41 : decode cX11_kills 41 = .ok (.invokevirtual 205, 3) := by decide +kernel
theorem dX11_kills_44 : decode cX11_kills 44 = .ok (.ireturn, 1) := by decide +kernel
theorem dX11_kills_45 : decode cX11_kills 45 = .ok (.iload 4, 2) := by decide +kernel
theorem dX11_kills_47 : decode cX11_kills 47 = .ok (.bipush 11, 2) := by decide +kernel
theorem dX11_kills_49 : decode cX11_kills 49 = .ok (.if_icmp .le 8, 3) := by decide +kernel
theorem dX11_kills_52 : decode cX11_kills 52 = .ok (.aload_n 0, 1) := by decide +kernel
theorem dX11_kills_53 : decode cX11_kills 53 = .ok (.invokevirtual 144, 3) := by decide +kernel
theorem dX11_kills_56 : decode cX11_kills 56 = .ok (.ireturn, 1) := by decide +kernel
theorem dX11_kills_57 : decode cX11_kills 57 = .ok (.aload_n 0, 1) := by decide +kernel
theorem dX11_kills_58 : decode cX11_kills 58 = .ok (.getfield 81, 3) := by decide +kernel
theorem dX11_kills_61 : decode cX11_kills 61 = .ok (.invokevirtual 130, 3) := by decide +kernel
theorem dX11_kills_64 : decode cX11_kills 64 = .ok (.iconst 0, 1) := by decide +kernel
theorem dX11_kills_65 : decode cX11_kills 65 = .ok (.istore 5, 2) := by decide +kernel
theorem dX11_kills_67 : decode cX11_kills 67 = .ok (.iload 5, 2) := by decide +kernel
theorem dX11_kills_69 : decode cX11_kills 69 = .ok (.bipush 11, 2) := by decide +kernel
theorem dX11_kills_71 : decode cX11_kills 71 = .ok (.if_icmp .gt 51, 3) := by decide +kernel
theorem dX11_kills_74 : decode cX11_kills 74 = .ok (.aload_n 0, 1) := by decide +kernel
theorem dX11_kills_75 : decode cX11_kills 75 = .ok (.getfield 81, 3) := by decide +kernel
theorem dX11_kills_78 : decode cX11_kills 78 = .ok (.iload 5, 2) := by decide +kernel
theorem dX11_kills_80 : decode cX11_kills 80 = .ok (.iconst 1, 1) := by decide +kernel
theorem dX11_kills_81 : decode cX11_kills 81 = .ok (.aload_n 3, 1) := by decide +kernel
theorem dX11_kills_82 : decode cX11_kills 82 = .ok (.iload 5, 2) := by decide +kernel
theorem dX11_kills_84 : decode cX11_kills 84 = .ok (.iaload, 1) := by decide +kernel
theorem dX11_kills_85 : decode cX11_kills 85 = .ok (.invokevirtual 123, 3) := by decide +kernel
theorem dX11_kills_88 : decode cX11_kills 88 = .ok (.iload 5, 2) := by decide +kernel
theorem dX11_kills_90 : decode cX11_kills 90 = .ok (.ifCond .le 26, 3) := by decide +kernel
theorem dX11_kills_93 : decode cX11_kills 93 = .ok (.aload_n 0, 1) := by decide +kernel
theorem dX11_kills_94 : decode cX11_kills 94 = .ok (.getfield 81, 3) := by decide +kernel
theorem dX11_kills_97 : decode cX11_kills 97 = .ok (.iload 5, 2) := by decide +kernel
theorem dX11_kills_99 : decode cX11_kills 99 = .ok (.iconst 1, 1) := by decide +kernel
theorem dX11_kills_100 : decode cX11_kills 100 = .ok (.isub, 1) := by decide +kernel
theorem dX11_kills_101 : decode cX11_kills 101 = .ok (.iconst 0, 1) := by decide +kernel
theorem dX11_kills_102 : decode cX11_kills 102 = .ok (.iload 5, 2) := by decide +kernel
theorem dX11_kills_104 : decode cX11_kills 104 = .ok (.ineg, 1) := by decide +kernel
theorem dX11_kills_105 : decode cX11_kills 105 = .ok (.aload_n 3, 1) := by decide +kernel
theorem dX11_kills_106 : decode cX11_kills 106 = .ok (.iload 5, 2) := by decide +kernel
theorem dX11_kills_108 : decode cX11_kills 108 = .ok (.iaload, 1) := by decide +kernel
theorem dX11_kills_109 : decode cX11_kills 109 = .ok (.imul, 1) := by decide +kernel
theorem dX11_kills_110 : decode cX11_kills 110 = .ok (.invokestatic 119, 3) := by decide +kernel
theorem dX11_kills_113 : decode cX11_kills 113 = .ok (.invokevirtual 123, 3) := by decide +kernel
theorem dX11_kills_116 : decode cX11_kills 116 = .ok (.iinc 5 1, 3) := by decide +kernel
theorem dX11_kills_119 : decode cX11_kills 119 = .ok (.goto (-52), 3) := by decide +kernel
theorem dX11_kills_122 : decode cX11_kills 122 = .ok (.aload_n 0, 1) := by decide +kernel
theorem dX11_kills_123 : decode cX11_kills 123 = .ok (.iload_n 1, 1) := by decide +kernel
theorem dX11_kills_124 : decode cX11_kills 124 = .ok (.invokevirtual 137, 3) := by decide +kernel
theorem dX11_kills_127 : decode cX11_kills 127 = .ok (.ireturn, 1) := by decide +kernel
theorem dX11_rest_0 : decode cX11_rest 0 = .ok (.iload_n 1, 1) := by decide +kernel
theorem dX11_rest_1 : decode cX11_rest 1 = .ok (.invokestatic 95, 3) := by decide +kernel
theorem dX11_rest_4 : decode cX11_rest 4 = .ok (.ifCond .eq 17, 3) := by decide +kernel
theorem dX11_rest_7 : decode cX11_rest 7 = .ok (.iload_n 2, 1) := by decide +kernel
theorem dX11_rest_8 : decode cX11_rest 8 = .ok (.invokestatic 95, 3) := by decide +kernel
theorem dX11_rest_11 : decode cX11_rest 11 = .ok (.ifCond .eq 10, 3) := by decide +kernel
theorem dX11_rest_14 : decode cX11_rest 14 = .ok (.iload_n 3, 1) := by decide +kernel
theorem dX11_rest_15 : decode cX11_rest 15 = .ok (.invokestatic 208, 3) := by decide +kernel
theorem dX11_rest_18 : decode cX11_rest 18 = .ok (.ifCond .ne 8, 3) := by decide +kernel
theorem dX11_rest_21 : decode cX11_rest 21 = .ok (.aload_n 0, 1) := by decide +kernel
theorem dX11_rest_22 : decode cX11_rest 22 = .ok (.invokevirtual 103, 3) := by decide +kernel
theorem dX11_rest_25 : decode cX11_rest 25 = .ok (.ireturn, 1) := by decide +kernel
theorem dX11_rest_26 : decode cX11_rest 26 = .ok (.iconst 0, 1) := by decide +kernel
theorem dX11_rest_27 : decode cX11_rest 27 = .ok (.istore 4, 2) := by decide +kernel
theorem dX11_rest_29 : decode cX11_rest 29 = .ok (.iload 4, 2) := by decide +kernel
theorem dX11_rest_31 : decode cX11_rest 31 = .ok (.bipush 6, 2) := by decide +kernel
theorem dX11_rest_33 : decode cX11_rest 33 = .ok (.if_icmp .ge 39, 3) := by decide +kernel
theorem dX11_rest_36 : decode cX11_rest 36 = .ok (.iload_n 3, 1) := by decide +kernel
theorem dX11_rest_37 : decode cX11_rest 37 = .ok (.iload 4, 2) := by decide +kernel
theorem dX11_rest_39 : decode cX11_rest 39 = .ok (.invokestatic 211, 3) := by decide +kernel
theorem dX11_rest_42 : decode cX11_rest 42 = .ok (.ifCond .eq 24, 3) := by decide +kernel
theorem dX11_rest_45 : decode cX11_rest 45 = .ok (.aload_n 0, 1) := by decide +kernel
theorem dX11_rest_46 : decode cX11_rest 46 = .ok (.getfield 10, 3) := by decide +kernel
theorem dX11_rest_49 : decode cX11_rest 49 = .ok (.getfield 111, 3) := by decide +kernel
theorem dX11_rest_52 : decode cX11_rest 52 = .ok (.iload 4, 2) := by decide +kernel
theorem dX11_rest_54 : decode cX11_rest 54 = .ok (.aaload, 1) := by decide +kernel
theorem dX11_rest_55 : decode cX11_rest 55 = .ok (.invokevirtual 214, 3) := by decide +kernel
theorem dX11_rest_58 : decode cX11_rest 58 = .ok (.ifCond .eq 8, 3) := by decide +kernel
theorem dX11_rest_61 : decode cX11_rest 61 = .ok (.aload_n 0, 1) := by decide +kernel
theorem dX11_rest_62 : decode cX11_rest 62 = .ok (.invokevirtual 205, 3) := by decide +kernel
theorem dX11_rest_65 : decode cX11_rest 65 = .ok (.ireturn, 1) := by decide +kernel
theorem dX11_rest_66 : decode cX11_rest 66 = .ok (.iinc 4 1, 3) := by decide +kernel
theorem dX11_rest_69 : decode cX11_rest 69 = .ok (.goto (-40), 3) := by decide +kernel
theorem dX11_rest_72 : decode cX11_rest 72 = .ok (.aload_n 0, 1) := by decide +kernel
theorem dX11_rest_73 : decode cX11_rest 73 = .ok (.getfield 42, 3) := by decide +kernel
theorem dX11_rest_76 : decode cX11_rest 76 = .ok (.aload_n 0, 1) := by decide +kernel
theorem dX11_rest_77 : decode cX11_rest 77 = .ok (.getfield 10, 3) := by decide +kernel
theorem dX11_rest_80 : decode cX11_rest 80 = .ok (.getfield 163, 3) := by decide +kernel
theorem dX11_rest_83 : decode cX11_rest 83 = .ok (.invokevirtual 218, 3) := by decide +kernel
theorem dX11_rest_86 : decode cX11_rest 86 = .ok (.iconst 0, 1) := by decide +kernel
theorem dX11_rest_87 : decode cX11_rest 87 = .ok (.istore 4, 2) := by decide +kernel
theorem dX11_rest_89 : decode cX11_rest 89 = .ok (.iload 4, 2) := by decide +kernel
theorem dX11_rest_91 : decode cX11_rest 91 = .ok (.bipush 6, 2) := by decide +kernel
theorem dX11_rest_93 : decode cX11_rest 93 = .ok (.if_icmp .ge 35, 3) := by decide +kernel
theorem dX11_rest_96 : decode cX11_rest 96 = .ok (.iload_n 3, 1) := by decide +kernel
theorem dX11_rest_97 : decode cX11_rest 97 = .ok (.iload 4, 2) := by decide +kernel
theorem dX11_rest_99 : decode cX11_rest 99 = .ok (.invokestatic 211, 3) := by decide +kernel
theorem dX11_rest_102 : decode cX11_rest 102 = .ok (.ifCond .eq 20, 3) := by decide +kernel
theorem dX11_rest_105 : decode cX11_rest 105 = .ok (.aload_n 0, 1) := by decide +kernel
theorem dX11_rest_106 : decode cX11_rest 106 = .ok (.getfield 42, 3) := by decide +kernel
theorem dX11_rest_109 : decode cX11_rest 109 = .ok (.aload_n 0, 1) := by decide +kernel
theorem dX11_rest_110 : decode cX11_rest 110 = .ok (.getfield 10, 3) := by decide +kernel
theorem dX11_rest_113 : decode cX11_rest 113 = .ok (.getfield 111, 3) := by decide +kernel
theorem dX11_rest_116 : decode cX11_rest 116 = .ok (.iload 4, 2) := by decide +kernel
theorem dX11_rest_118 : decode cX11_rest 118 = .ok (.aaload, 1) := by decide +kernel
theorem dX11_rest_119 : decode cX11_rest 119 = .ok (.invokevirtual 222, 3) := by decide +kernel
theorem dX11_rest_122 : decode cX11_rest 122 = .ok (.iinc 4 1, 3) := by decide +kernel
theorem dX11_rest_125 : decode cX11_rest 125 = .ok (.goto (-36), 3) := by decide +kernel
theorem dX11_rest_128 : decode cX11_rest 128 = .ok (.aload_n 0, 1) := by decide +kernel
theorem dX11_rest_129 : decode cX11_rest 129 = .ok (.getfield 81, 3) := by decide +kernel
theorem dX11_rest_132 : decode cX11_rest 132 = .ok (.aload_n 0, 1) := by decide +kernel
theorem dX11_rest_133 : decode cX11_rest 133 = .ok (.getfield 10, 3) := by decide +kernel
theorem dX11_rest_136 : decode cX11_rest 136 = .ok (.getfield 111, 3) := by decide +kernel
theorem dX11_rest_139 : decode cX11_rest 139 = .ok (.iload_n 2, 1) := by decide +kernel
theorem dX11_rest_140 : decode cX11_rest 140 = .ok (.aaload, 1) := by decide +kernel
theorem dX11_rest_141 : decode cX11_rest 141 = .ok (.invokevirtual 226, 3) := by decide +kernel
theorem dX11_rest_144 : decode cX11_rest 144 = .ok (.aload_n 0, 1) := by decide +kernel
theorem dX11_rest_145 : decode cX11_rest 145 = .ok (.getfield 42, 3) := by decide +kernel
theorem dX11_rest_148 : decode cX11_rest 148 = .ok (.aload_n 0, 1) := by decide +kernel
theorem dX11_rest_149 : decode cX11_rest 149 = .ok (.getfield 81, 3) := by decide +kernel
theorem dX11_rest_152 : decode cX11_rest 152 = .ok (.invokevirtual 229, 3) := by decide +kernel
theorem dX11_rest_155 : decode cX11_rest 155 = .ok (.aload_n 0, 1) := by decide +kernel
theorem dX11_rest_156 : decode cX11_rest 156 = .ok (.iload_n 1, 1) := by decide +kernel
theorem dX11_rest_157 : decode cX11_rest 157 = .ok (.invokevirtual 137, 3) := by decide +kernel
theorem dX11_rest_160 : decode cX11_rest 160 = .ok (.ireturn, 1) := by decide +kernel
theorem dX11_basis_0 : decode cX11_basis 0 = .ok (.iload_n 1, 1) := by decide +kernel
theorem dX11_basis_1 : decode cX11_basis 1 = .ok (.invokestatic 208, 3) := by decide +kernel
theorem dX11_basis_4 : decode cX11_basis 4 = .ok (.ifCond .ne 8, 3) := by decide +kernel
theorem dX11_basis_7 : decode cX11_basis 7 = .ok (.aload_n 0, 1) := by decide +kernel
theorem dX11_basis_8 : decode cX11_basis 8 = .ok (.invokevirtual 103, 3) := by decide +kernel
theorem dX11_basis_11 : decode cX11_basis 11 = .ok (.ireturn, 1) := by decide +kernel
theorem dX11_basis_12 : decode cX11_basis 12 = .ok (.aload_n 0, 1) := by decide +kernel
theorem dX11_basis_13 : decode cX11_basis 13 = .ok (.iload_n 1, 1) := by decide +kernel
theorem dX11_basis_14 : decode cX11_basis 14 = .ok (.invokevirtual 232, 3) := by decide +kernel
theorem dX11_basis_17 : decode cX11_basis 17 = .ok (.ifCond .ne 8, 3) := by decide +kernel
theorem dX11_basis_20 : decode cX11_basis 20 = .ok (.aload_n 0, 1) := by decide +kernel
theorem dX11_basis_21 : decode cX11_basis 21 = .ok (.invokevirtual 205, 3) := by decide +kernel
theorem dX11_basis_24 : decode cX11_basis 24 = .ok (.ireturn, 1) := by decide +kernel
theorem dX11_basis_25 : decode cX11_basis 25 = .ok (.aload_n 0, 1) := by decide +kernel
theorem dX11_basis_26 : decode cX11_basis 26 = .ok (.getfield 51, 3) := by decide +kernel
theorem dX11_basis_29 : decode cX11_basis 29 = .ok (.aload_n 0, 1) := by decide +kernel
theorem dX11_basis_30 : decode cX11_basis 30 = .ok (.getfield 10, 3) := by decide +kernel
theorem dX11_basis_33 : decode cX11_basis 33 = .ok (.iload_n 1, 1) := by decide +kernel
theorem dX11_basis_34 : decode cX11_basis 34 = .ok (.invokevirtual 235, 3) := by decide +kernel
theorem dX11_basis_37 : decode cX11_basis 37 = .ok (.getfield 239, 3) := by decide +kernel
theorem dX11_basis_40 : decode cX11_basis 40 = .ok (.ireturn, 1) := by decide +kernel
theorem dX11_based_0 : decode cX11_based 0 = .ok (.iload_n 3, 1) := by decide +kernel
theorem dX11_based_1 : decode cX11_based 1 = .ok (.ifCond .lt 25, 3) := by decide +kernel
theorem dX11_based_4 : decode cX11_based 4 = .ok (.iload_n 3, 1) := by decide +kernel
theorem dX11_based_5 : decode cX11_based 5 = .ok (.bipush 15, 2) := by decide +kernel
theorem dX11_based_7 : decode cX11_based 7 = .ok (.if_icmp .gt 19, 3) := by decide +kernel
theorem dX11_based_10 : decode cX11_based 10 = .ok (.iload 4, 2) := by decide +kernel
theorem dX11_based_12 : decode cX11_based 12 = .ok (.ifCond .lt 14, 3) := by decide +kernel
theorem dX11_based_15 : decode cX11_based 15 = .ok (.iload 4, 2) := by decide +kernel
theorem dX11_based_17 : decode cX11_based 17 = .ok (.bipush 15, 2) := by decide +kernel
theorem dX11_based_19 : decode cX11_based 19 = .ok (.if_icmp .gt 7, 3) := by decide +kernel
theorem dX11_based_22 : decode cX11_based 22 = .ok (.iconst 1, 1) := by decide +kernel
theorem dX11_based_23 : decode cX11_based 23 = .ok (.goto 4, 3) := by decide +kernel
theorem dX11_based_26 : decode cX11_based 26 = .ok (.iconst 0, 1) := by decide +kernel
theorem dX11_based_27 : decode cX11_based 27 = .ok (.istore 5, 2) := by decide +kernel
theorem dX11_based_29 : decode cX11_based 29 = .ok (.iload_n 1, 1) := by decide +kernel
theorem dX11_based_30 : decode cX11_based 30 = .ok (.invokestatic 208, 3) := by decide +kernel
theorem dX11_based_33 : decode cX11_based 33 = .ok (.ifCond .eq 12, 3) := by decide +kernel
theorem dX11_based_36 : decode cX11_based 36 = .ok (.iload_n 2, 1) := by decide +kernel
theorem dX11_based_37 : decode cX11_based 37 = .ok (.ifCond .lt 8, 3) := by decide +kernel
theorem dX11_based_40 : decode cX11_based 40 = .ok (.iload 5, 2) := by decide +kernel
theorem dX11_based_42 : decode cX11_based 42 = .ok (.ifCond .ne 8, 3) := by decide +kernel
theorem dX11_based_45 : decode cX11_based 45 = .ok (.aload_n 0, 1) := by decide +kernel
theorem dX11_based_46 : decode cX11_based 46 = .ok (.invokevirtual 103, 3) := by decide +kernel
theorem dX11_based_49 : decode cX11_based 49 = .ok (.ireturn, 1) := by decide +kernel
theorem dX11_based_50 : decode cX11_based 50 = .ok (.aload_n 0, 1) := by decide +kernel
theorem dX11_based_51 : decode cX11_based 51 = .ok (.iload_n 1, 1) := by decide +kernel
theorem dX11_based_52 : decode cX11_based 52 = .ok (.invokevirtual 232, 3) := by decide +kernel
theorem dX11_based_55 : decode cX11_based 55 = .ok (.ifCond .ne 8, 3) := by decide +kernel
theorem dX11_based_58 : decode cX11_based 58 = .ok (.aload_n 0, 1) := by decide +kernel
theorem dX11_based_59 : decode cX11_based 59 = .ok (.invokevirtual 205, 3) := by decide +kernel
theorem dX11_based_62 : decode cX11_based 62 = .ok (.ireturn, 1) := by decide +kernel
theorem dX11_based_63 : decode cX11_based 63 = .ok (.aload_n 0, 1) := by decide +kernel
theorem dX11_based_64 : decode cX11_based 64 = .ok (.getfield 51, 3) := by decide +kernel
theorem dX11_based_67 : decode cX11_based 67 = .ok (.aload_n 0, 1) := by decide +kernel
theorem dX11_based_68 : decode cX11_based 68 = .ok (.getfield 10, 3) := by decide +kernel
theorem dX11_based_71 : decode cX11_based 71 = .ok (.iload_n 1, 1) := by decide +kernel
theorem dX11_based_72 : decode cX11_based 72 = .ok (.invokevirtual 235, 3) := by decide +kernel
theorem dX11_based_75 : decode cX11_based 75 = .ok (.astore 6, 2) := by decide +kernel
theorem dX11_based_77 : decode cX11_based 77 = .ok (.iload_n 2, 1) := by decide +kernel
theorem dX11_based_78 : decode cX11_based 78 = .ok (.aload 6, 2) := by decide +kernel
theorem dX11_based_80 : decode cX11_based 80 = .ok (.getfield 239, 3) := by decide +kernel
theorem dX11_based_83 : decode cX11_based 83 = .ok (.if_icmp .ge 22, 3) := by decide +kernel
theorem dX11_based_86 : decode cX11_based 86 = .ok (.aload 6, 2) := by decide +kernel
theorem dX11_based_88 : decode cX11_based 88 = .ok (.getfield 244, 3) := by decide +kernel
theorem dX11_based_91 : decode cX11_based 91 = .ok (.iload_n 2, 1) := by decide +kernel
theorem dX11_based_92 : decode cX11_based 92 = .ok (.aaload, 1) := by decide +kernel
theorem dX11_based_93 : decode cX11_based 93 = .ok (.iload_n 3, 1) := by decide +kernel
theorem dX11_based_94 : decode cX11_based 94 = .ok (.iload 4, 2) := by decide +kernel
theorem dX11_based_96 : decode cX11_based 96 = .ok (.invokevirtual 115, 3) := by decide +kernel
theorem dX11_based_99 : decode cX11_based 99 = .ok (.invokestatic 127, 3) := by decide +kernel
theorem dX11_based_102 : decode cX11_based 102 = .ok (.goto 4, 3) := by decide +kernel
theorem dX11_based_105 : decode cX11_based 105 = .ok (.iconst 0, 1) := by decide +kernel
theorem dX11_based_106 : decode cX11_based 106 = .ok (.ireturn, 1) := by decide +kernel
theorem dX11_stairs_0 : decode cX11_stairs 0 = .ok (.iload_n 1, 1) := by decide +kernel
theorem dX11_stairs_1 : decode cX11_stairs 1 = .ok (.invokestatic 208, 3) := by decide +kernel
theorem dX11_stairs_4 : decode cX11_stairs 4 = .ok (.ifCond .eq 13, 3) := by decide +kernel
theorem dX11_stairs_7 : decode cX11_stairs 7 = .ok (.iload_n 2, 1) := by decide +kernel
theorem dX11_stairs_8 : decode cX11_stairs 8 = .ok (.ifCond .lt 9, 3) := by decide +kernel
theorem dX11_stairs_11 : decode cX11_stairs 11 = .ok (.iload_n 2, 1) := by decide +kernel
theorem dX11_stairs_12 : decode cX11_stairs 12 = .ok (.bipush 20, 2) := by decide +kernel
theorem dX11_stairs_14 : decode cX11_stairs 14 = .ok (.if_icmp .le 8, 3) := by decide +kernel
theorem dX11_stairs_17 : decode cX11_stairs 17 = .ok (.aload_n 0, 1) := by decide +kernel
theorem dX11_stairs_18 : decode cX11_stairs 18 = .ok (.invokevirtual 103, 3) := by decide +kernel
theorem dX11_stairs_21 : decode cX11_stairs 21 = .ok (.ireturn, 1) := by decide +kernel
theorem dX11_stairs_22 : decode cX11_stairs 22 = .ok (.aload_n 0, 1) := by decide +kernel
theorem dX11_stairs_23 : decode cX11_stairs 23 = .ok (.iload_n 1, 1) := by decide +kernel
theorem dX11_stairs_24 : decode cX11_stairs 24 = .ok (.invokevirtual 232, 3) := by decide +kernel
theorem dX11_stairs_27 : decode cX11_stairs 27 = .ok (.ifCond .ne 8, 3) := by decide +kernel
theorem dX11_stairs_30 : decode cX11_stairs 30 = .ok (.aload_n 0, 1) := by decide +kernel
theorem dX11_stairs_31 : decode cX11_stairs 31 = .ok (.invokevirtual 205, 3) := by decide +kernel
theorem dX11_stairs_34 : decode cX11_stairs 34 = .ok (.ireturn, 1) := by decide +kernel
theorem dX11_stairs_35 : decode cX11_stairs 35 = .ok (.aload_n 0, 1) := by decide +kernel
theorem dX11_stairs_36 : decode cX11_stairs 36 = .ok (.getfield 51, 3) := by decide +kernel
theorem dX11_stairs_39 : decode cX11_stairs 39 = .ok (.aload_n 0, 1) := by decide +kernel
theorem dX11_stairs_40 : decode cX11_stairs 40 = .ok (.getfield 10, 3) := by decide +kernel
theorem dX11_stairs_43 : decode cX11_stairs 43 = .ok (.iload_n 1, 1) := by decide +kernel
theorem dX11_stairs_44 : decode cX11_stairs 44 = .ok (.invokevirtual 235, 3) := by decide +kernel
theorem dX11_stairs_47 : decode cX11_stairs 47 = .ok (.astore_n 3, 1) := by decide +kernel
theorem dX11_stairs_48 : decode cX11_stairs 48 = .ok (.iconst 0, 1) := by decide +kernel
theorem dX11_stairs_49 : decode cX11_stairs 49 = .ok (.istore 4, 2) := by decide +kernel
theorem dX11_stairs_51 : decode cX11_stairs 51 = .ok (.iconst 0, 1) := by decide +kernel
theorem dX11_stairs_52 : decode cX11_stairs 52 = .ok (.istore 5, 2) := by decide +kernel
theorem dX11_stairs_54 : decode cX11_stairs 54 = .ok (.iload 5, 2) := by decide +kernel
theorem dX11_stairs_56 : decode cX11_stairs 56 = .ok (.iload_n 2, 1) := by decide +kernel
theorem dX11_stairs_57 : decode cX11_stairs 57 = .ok (.if_icmp .gt 25, 3) := by decide +kernel
theorem dX11_stairs_60 : decode cX11_stairs 60 = .ok (.aload_n 3, 1) := by decide +kernel
theorem dX11_stairs_61 : decode cX11_stairs 61 = .ok (.iload_n 2, 1) := by decide +kernel
theorem dX11_stairs_62 : decode cX11_stairs 62 = .ok (.iload 5, 2) := by decide +kernel
theorem dX11_stairs_64 : decode cX11_stairs 64 = .ok (.isub, 1) := by decide +kernel
theorem dX11_stairs_65 : decode cX11_stairs 65 = .ok (.iload 5, 2) := by decide +kernel
theorem dX11_stairs_67 : decode cX11_stairs 67 = .ok (.invokevirtual 247, 3) := by decide +kernel
theorem dX11_stairs_70 : decode cX11_stairs 70 = .ok (.ifCond .ne 6, 3) := by decide +kernel
theorem dX11_stairs_73 : decode cX11_stairs 73 = .ok (.iinc 4 1, 3) := by decide +kernel
theorem dX11_stairs_76 : decode cX11_stairs 76 = .ok (.iinc 5 1, 3) := by decide +kernel
theorem dX11_stairs_79 : decode cX11_stairs 79 = .ok (.goto (-25), 3) := by decide +kernel
theorem dX11_stairs_82 : decode cX11_stairs 82 = .ok (.iload 4, 2) := by decide +kernel
theorem dX11_stairs_84 : decode cX11_stairs 84 = .ok (.ireturn, 1) := by decide +kernel
theorem dX11_within_0 : decode cX11_within 0 = .ok (.iload_n 1, 1) := by decide +kernel
theorem dX11_within_1 : decode cX11_within 1 = .ok (.invokestatic 95, 3) := by decide +kernel
theorem dX11_within_4 : decode cX11_within 4 = .ok (.ifCond .eq 10, 3) := by decide +kernel
theorem dX11_within_7 : decode cX11_within 7 = .ok (.iload_n 2, 1) := by decide +kernel
theorem dX11_within_8 : decode cX11_within 8 = .ok (.invokestatic 208, 3) := by decide +kernel
theorem dX11_within_11 : decode cX11_within 11 = .ok (.ifCond .ne 8, 3) := by decide +kernel
theorem dX11_within_14 : decode cX11_within 14 = .ok (.aload_n 0, 1) := by decide +kernel
theorem dX11_within_15 : decode cX11_within 15 = .ok (.invokevirtual 103, 3) := by decide +kernel
theorem dX11_within_18 : decode cX11_within 18 = .ok (.ireturn, 1) := by decide +kernel
theorem dX11_within_19 : decode cX11_within 19 = .ok (.aload_n 0, 1) := by decide +kernel
theorem dX11_within_20 : decode cX11_within 20 = .ok (.iload_n 2, 1) := by decide +kernel
theorem dX11_within_21 : decode cX11_within 21 = .ok (.invokevirtual 232, 3) := by decide +kernel
theorem dX11_within_24 : decode cX11_within 24 = .ok (.ifCond .ne 8, 3) := by decide +kernel
theorem dX11_within_27 : decode cX11_within 27 = .ok (.aload_n 0, 1) := by decide +kernel
theorem dX11_within_28 : decode cX11_within 28 = .ok (.invokevirtual 205, 3) := by decide +kernel
theorem dX11_within_31 : decode cX11_within 31 = .ok (.ireturn, 1) := by decide +kernel
theorem dX11_within_32 : decode cX11_within 32 = .ok (.aload_n 0, 1) := by decide +kernel
theorem dX11_within_33 : decode cX11_within 33 = .ok (.getfield 51, 3) := by decide +kernel
theorem dX11_within_36 : decode cX11_within 36 = .ok (.aload_n 0, 1) := by decide +kernel
theorem dX11_within_37 : decode cX11_within 37 = .ok (.getfield 10, 3) := by decide +kernel
theorem dX11_within_40 : decode cX11_within 40 = .ok (.iload_n 2, 1) := by decide +kernel
theorem dX11_within_41 : decode cX11_within 41 = .ok (.invokevirtual 235, 3) := by decide +kernel
theorem dX11_within_44 : decode cX11_within 44 = .ok (.astore_n 3, 1) := by decide +kernel
theorem dX11_within_45 : decode cX11_within 45 = .ok (.aload_n 0, 1) := by decide +kernel
theorem dX11_within_46 : decode cX11_within 46 = .ok (.getfield 42, 3) := by decide +kernel
theorem dX11_within_49 : decode cX11_within 49 = .ok (.aload_n 0, 1) := by decide +kernel
theorem dX11_within_50 : decode cX11_within 50 = .ok (.getfield 10, 3) := by decide +kernel
theorem dX11_within_53 : decode cX11_within 53 = .ok (.getfield 163, 3) := by decide +kernel
theorem dX11_within_56 : decode cX11_within 56 = .ok (.invokevirtual 218, 3) := by decide +kernel
theorem dX11_within_59 : decode cX11_within 59 = .ok (.iconst 0, 1) := by decide +kernel
theorem dX11_within_60 : decode cX11_within 60 = .ok (.istore 4, 2) := by decide +kernel
theorem dX11_within_62 : decode cX11_within 62 = .ok (.iload 4, 2) := by decide +kernel
theorem dX11_within_64 : decode cX11_within 64 = .ok (.aload_n 3, 1) := by decide +kernel
theorem dX11_within_65 : decode cX11_within 65 = .ok (.getfield 239, 3) := by decide +kernel
theorem dX11_within_68 : decode cX11_within 68 = .ok (.if_icmp .ge 23, 3) := by decide +kernel
theorem dX11_within_71 : decode cX11_within 71 = .ok (.aload_n 0, 1) := by decide +kernel
theorem dX11_within_72 : decode cX11_within 72 = .ok (.getfield 42, 3) := by decide +kernel
theorem dX11_within_75 : decode cX11_within 75 = .ok (.aload_n 3, 1) := by decide +kernel
theorem dX11_within_76 : decode cX11_within 76 = .ok (.getfield 244, 3) := by decide +kernel
theorem dX11_within_79 : decode cX11_within 79 = .ok (.iload 4, 2) := by decide +kernel
theorem dX11_within_81 : decode cX11_within 81 = .ok (.aaload, 1) := by decide +kernel
theorem dX11_within_82 : decode cX11_within 82 = .ok (.invokevirtual 222, 3) := by decide +kernel
theorem dX11_within_85 : decode cX11_within 85 = .ok (.iinc 4 1, 3) := by decide +kernel
theorem dX11_within_88 : decode cX11_within 88 = .ok (.goto (-26), 3) := by decide +kernel
theorem dX11_within_91 : decode cX11_within 91 = .ok (.aload_n 0, 1) := by decide +kernel
theorem dX11_within_92 : decode cX11_within 92 = .ok (.getfield 81, 3) := by decide +kernel
theorem dX11_within_95 : decode cX11_within 95 = .ok (.aload_n 0, 1) := by decide +kernel
theorem dX11_within_96 : decode cX11_within 96 = .ok (.getfield 10, 3) := by decide +kernel
theorem dX11_within_99 : decode cX11_within 99 = .ok (.getfield 111, 3) := by decide +kernel
theorem dX11_within_102 : decode cX11_within 102 = .ok (.iload_n 1, 1) := by decide +kernel
theorem dX11_within_103 : decode cX11_within 103 = .ok (.aaload, 1) := by decide +kernel
theorem dX11_within_104 : decode cX11_within 104 = .ok (.invokevirtual 226, 3) := by decide +kernel
theorem dX11_within_107 : decode cX11_within 107 = .ok (.aload_n 0, 1) := by decide +kernel
theorem dX11_within_108 : decode cX11_within 108 = .ok (.getfield 42, 3) := by decide +kernel
theorem dX11_within_111 : decode cX11_within 111 = .ok (.aload_n 0, 1) := by decide +kernel
theorem dX11_within_112 : decode cX11_within 112 = .ok (.getfield 81, 3) := by decide +kernel
theorem dX11_within_115 : decode cX11_within 115 = .ok (.invokevirtual 229, 3) := by decide +kernel
theorem dX11_within_118 : decode cX11_within 118 = .ok (.aload_n 0, 1) := by decide +kernel
theorem dX11_within_119 : decode cX11_within 119 = .ok (.getfield 81, 3) := by decide +kernel
theorem dX11_within_122 : decode cX11_within 122 = .ok (.invokevirtual 214, 3) := by decide +kernel
theorem dX11_within_125 : decode cX11_within 125 = .ok (.ifCond .eq 7, 3) := by decide +kernel
theorem dX11_within_128 : decode cX11_within 128 = .ok (.iconst 1, 1) := by decide +kernel
theorem dX11_within_129 : decode cX11_within 129 = .ok (.goto 4, 3) := by decide +kernel
theorem dX11_within_132 : decode cX11_within 132 = .ok (.iconst 0, 1) := by decide +kernel
theorem dX11_within_133 : decode cX11_within 133 = .ok (.ireturn, 1) := by decide +kernel
theorem dX11_type_0 : decode cX11_type 0 = .ok (.iload_n 1, 1) := by decide +kernel
theorem dX11_type_1 : decode cX11_type 1 = .ok (.ifCond .lt 9, 3) := by decide +kernel
theorem dX11_type_4 : decode cX11_type 4 = .ok (.iload_n 1, 1) := by decide +kernel
theorem dX11_type_5 : decode cX11_type 5 = .ok (.bipush 127, 2) := by decide +kernel
theorem dX11_type_7 : decode cX11_type 7 = .ok (.if_icmp .le 8, 3) := by decide +kernel
theorem dX11_type_10 : decode cX11_type 10 = .ok (.aload_n 0, 1) := by decide +kernel
theorem dX11_type_11 : decode cX11_type 11 = .ok (.invokevirtual 103, 3) := by decide +kernel
theorem dX11_type_14 : decode cX11_type 14 = .ok (.ireturn, 1) := by decide +kernel
theorem dX11_type_15 : decode cX11_type 15 = .ok (.aload_n 0, 1) := by decide +kernel
theorem dX11_type_16 : decode cX11_type 16 = .ok (.getfield 26, 3) := by decide +kernel
theorem dX11_type_19 : decode cX11_type 19 = .ok (.getfield 250, 3) := by decide +kernel
theorem dX11_type_22 : decode cX11_type 22 = .ok (.bipush 120, 2) := by decide +kernel
theorem dX11_type_24 : decode cX11_type 24 = .ok (.if_icmp .lt 8, 3) := by decide +kernel
theorem dX11_type_27 : decode cX11_type 27 = .ok (.aload_n 0, 1) := by decide +kernel
theorem dX11_type_28 : decode cX11_type 28 = .ok (.invokevirtual 144, 3) := by decide +kernel
theorem dX11_type_31 : decode cX11_type 31 = .ok (.ireturn, 1) := by decide +kernel
theorem dX11_type_32 : decode cX11_type 32 = .ok (.aload_n 0, 1) := by decide +kernel
theorem dX11_type_33 : decode cX11_type 33 = .ok (.getfield 26, 3) := by decide +kernel
theorem dX11_type_36 : decode cX11_type 36 = .ok (.iload_n 1, 1) := by decide +kernel
theorem dX11_type_37 : decode cX11_type 37 = .ok (.invokevirtual 253, 3) := by decide +kernel
theorem dX11_type_40 : decode cX11_type 40 = .ok (.aload_n 0, 1) := by decide +kernel
theorem dX11_type_41 : decode cX11_type 41 = .ok (.getfield 26, 3) := by decide +kernel
theorem dX11_type_44 : decode cX11_type 44 = .ok (.getfield 250, 3) := by decide +kernel
theorem dX11_type_47 : decode cX11_type 47 = .ok (.ireturn, 1) := by decide +kernel
theorem dX11_clear_0 : decode cX11_clear 0 = .ok (.aload_n 0, 1) := by decide +kernel
theorem dX11_clear_1 : decode cX11_clear 1 = .ok (.getfield 26, 3) := by decide +kernel
theorem dX11_clear_4 : decode cX11_clear 4 = .ok (.getfield 250, 3) := by decide +kernel
theorem dX11_clear_7 : decode cX11_clear 7 = .ok (.istore_n 1, 1) := by decide +kernel
theorem dX11_clear_8 : decode cX11_clear 8 = .ok (.aload_n 0, 1) := by decide +kernel
theorem dX11_clear_9 : decode cX11_clear 9 = .ok (.getfield 26, 3) := by decide +kernel
theorem dX11_clear_12 : decode cX11_clear 12 = .ok (.iconst 0, 1) := by decide +kernel
theorem dX11_clear_13 : decode cX11_clear 13 = .ok (.putfield 250, 3) := by decide +kernel
theorem dX11_clear_16 : decode cX11_clear 16 = .ok (.iload_n 1, 1) := by decide +kernel
theorem dX11_clear_17 : decode cX11_clear 17 = .ok (.ireturn, 1) := by decide +kernel
theorem dX11_reads_0 : decode cX11_reads 0 = .ok (.iload_n 1, 1) := by decide +kernel
theorem dX11_reads_1 : decode cX11_reads 1 = .ok (.invokestatic 95, 3) := by decide +kernel
theorem dX11_reads_4 : decode cX11_reads 4 = .ok (.ifCond .ne 8, 3) := by decide +kernel
theorem dX11_reads_7 : decode cX11_reads 7 = .ok (.aload_n 0, 1) := by decide +kernel
theorem dX11_reads_8 : decode cX11_reads 8 = .ok (.invokevirtual 103, 3) := by decide +kernel
theorem dX11_reads_11 : decode cX11_reads 11 = .ok (.ireturn, 1) := by decide +kernel
theorem dX11_reads_12 : decode cX11_reads 12 = .ok (.aload_n 0, 1) := by decide +kernel
theorem dX11_reads_13 : decode cX11_reads 13 = .ok (.getfield 26, 3) := by decide +kernel
theorem dX11_reads_16 : decode cX11_reads 16 = .ok (.invokevirtual 256, 3) := by decide +kernel
theorem dX11_reads_19 : decode cX11_reads 19 = .ok (.istore_n 2, 1) := by decide +kernel
theorem dX11_reads_20 : decode cX11_reads 20 = .ok (.iload_n 2, 1) := by decide +kernel
theorem dX11_reads_21 : decode cX11_reads 21 = .ok (.ifCond .lt 9, 3) := by decide +kernel
theorem dX11_reads_24 : decode cX11_reads 24 = .ok (.sipush (-30000), 3) := by decide +kernel
theorem dX11_reads_27 : decode cX11_reads 27 = .ok (.iload_n 2, 1) := by decide +kernel
theorem dX11_reads_28 : decode cX11_reads 28 = .ok (.isub, 1) := by decide +kernel
theorem dX11_reads_29 : decode cX11_reads 29 = .ok (.ireturn, 1) := by decide +kernel
theorem dX11_reads_30 : decode cX11_reads 30 = .ok (.aload_n 0, 1) := by decide +kernel
theorem dX11_reads_31 : decode cX11_reads 31 = .ok (.getfield 67, 3) := by decide +kernel
theorem dX11_reads_34 : decode cX11_reads 34 = .ok (.aload_n 0, 1) := by decide +kernel
theorem dX11_reads_35 : decode cX11_reads 35 = .ok (.getfield 81, 3) := by decide +kernel
theorem dX11_reads_38 : decode cX11_reads 38 = .ok (.invokevirtual 259, 3) := by decide +kernel
theorem dX11_reads_41 : decode cX11_reads 41 = .ok (.ifCond .ne 8, 3) := by decide +kernel
theorem dX11_reads_44 : decode cX11_reads 44 = .ok (.aload_n 0, 1) := by decide +kernel
theorem dX11_reads_45 : decode cX11_reads 45 = .ok (.invokevirtual 144, 3) := by decide +kernel
theorem dX11_reads_48 : decode cX11_reads 48 = .ok (.ireturn, 1) := by decide +kernel
theorem dX11_reads_49 : decode cX11_reads 49 = .ok (.aload_n 0, 1) := by decide +kernel
theorem dX11_reads_50 : decode cX11_reads 50 = .ok (.iload_n 1, 1) := by decide +kernel
theorem dX11_reads_51 : decode cX11_reads 51 = .ok (.invokevirtual 137, 3) := by decide +kernel
theorem dX11_reads_54 : decode cX11_reads 54 = .ok (.ireturn, 1) := by decide +kernel
theorem dX11_shown_0 : decode cX11_shown 0 = .ok (.iload_n 1, 1) := by decide +kernel
theorem dX11_shown_1 : decode cX11_shown 1 = .ok (.invokestatic 95, 3) := by decide +kernel
theorem dX11_shown_4 : decode cX11_shown 4 = .ok (.ifCond .eq 7, 3) := by decide +kernel
theorem dX11_shown_7 : decode cX11_shown 7 = .ok (.iload_n 2, 1) := by decide +kernel
theorem dX11_shown_8 : decode cX11_shown 8 = .ok (.ifCond .ge 8, 3) := by decide +kernel
theorem dX11_shown_11 : decode cX11_shown 11 = .ok (.aload_n 0, 1) := by decide +kernel
theorem dX11_shown_12 : decode cX11_shown 12 = .ok (.invokevirtual 103, 3) := by decide +kernel
theorem dX11_shown_15 : decode cX11_shown 15 = .ok (.ireturn, 1) := by decide +kernel
theorem dX11_shown_16 : decode cX11_shown 16 = .ok (.aload_n 0, 1) := by decide +kernel
theorem dX11_shown_17 : decode cX11_shown 17 = .ok (.getfield 74, 3) := by decide +kernel
theorem dX11_shown_20 : decode cX11_shown 20 = .ok (.aload_n 0, 1) := by decide +kernel
theorem dX11_shown_21 : decode cX11_shown 21 = .ok (.getfield 10, 3) := by decide +kernel
theorem dX11_shown_24 : decode cX11_shown 24 = .ok (.getfield 111, 3) := by decide +kernel
theorem dX11_shown_27 : decode cX11_shown 27 = .ok (.iload_n 1, 1) := by decide +kernel
theorem dX11_shown_28 : decode cX11_shown 28 = .ok (.aaload, 1) := by decide +kernel
theorem dX11_shown_29 : decode cX11_shown 29 = .ok (.aload_n 0, 1) := by decide +kernel
theorem dX11_shown_30 : decode cX11_shown 30 = .ok (.getfield 10, 3) := by decide +kernel
theorem dX11_shown_33 : decode cX11_shown 33 = .ok (.getfield 163, 3) := by decide +kernel
theorem dX11_shown_36 : decode cX11_shown 36 = .ok (.iload_n 2, 1) := by decide +kernel
theorem dX11_shown_37 : decode cX11_shown 37 = .ok (.invokevirtual 263, 3) := by decide +kernel
theorem dX11_shown_40 : decode cX11_shown 40 = .ok (.ireturn, 1) := by decide +kernel
theorem dX11_back_0 : decode cX11_back 0 = .ok (.aload_n 0, 1) := by decide +kernel
theorem dX11_back_1 : decode cX11_back 1 = .ok (.getfield 19, 3) := by decide +kernel
theorem dX11_back_4 : decode cX11_back 4 = .ok (.getfield 267, 3) := by decide +kernel
theorem dX11_back_7 : decode cX11_back 7 = .ok (.ifCond .ne 8, 3) := by decide +kernel
theorem dX11_back_10 : decode cX11_back 10 = .ok (.aload_n 0, 1) := by decide +kernel
theorem dX11_back_11 : decode cX11_back 11 = .ok (.invokevirtual 205, 3) := by decide +kernel
theorem dX11_back_14 : decode cX11_back 14 = .ok (.ireturn, 1) := by decide +kernel
theorem dX11_back_15 : decode cX11_back 15 = .ok (.aload_n 0, 1) := by decide +kernel
theorem dX11_back_16 : decode cX11_back 16 = .ok (.getfield 19, 3) := by decide +kernel
theorem dX11_back_19 : decode cX11_back 19 = .ok (.aload_n 0, 1) := by decide +kernel
theorem dX11_back_20 : decode cX11_back 20 = .ok (.getfield 10, 3) := by decide +kernel
theorem dX11_back_23 : decode cX11_back 23 = .ok (.invokevirtual 270, 3) := by decide +kernel
theorem dX11_back_26 : decode cX11_back 26 = .ok (.aload_n 0, 1) := by decide +kernel
theorem dX11_back_27 : decode cX11_back 27 = .ok (.getfield 19, 3) := by decide +kernel
theorem dX11_back_30 : decode cX11_back 30 = .ok (.getfield 267, 3) := by decide +kernel
theorem dX11_back_33 : decode cX11_back 33 = .ok (.ireturn, 1) := by decide +kernel
theorem dX11_told_0 : decode cX11_told 0 = .ok (.iload_n 1, 1) := by decide +kernel
theorem dX11_told_1 : decode cX11_told 1 = .ok (.tableswitch 78 0 5 #[39, 44, 49, 54, 62, 70], 39) := by decide +kernel
theorem dX11_told_40 : decode cX11_told 40 = .ok (.aload_n 0, 1) := by decide +kernel
theorem dX11_told_41 : decode cX11_told 41 = .ok (.getfield 85, 3) := by decide +kernel
theorem dX11_told_44 : decode cX11_told 44 = .ok (.ireturn, 1) := by decide +kernel
theorem dX11_told_45 : decode cX11_told 45 = .ok (.aload_n 0, 1) := by decide +kernel
theorem dX11_told_46 : decode cX11_told 46 = .ok (.getfield 89, 3) := by decide +kernel
theorem dX11_told_49 : decode cX11_told 49 = .ok (.ireturn, 1) := by decide +kernel
theorem dX11_told_50 : decode cX11_told 50 = .ok (.aload_n 0, 1) := by decide +kernel
theorem dX11_told_51 : decode cX11_told 51 = .ok (.getfield 92, 3) := by decide +kernel
theorem dX11_told_54 : decode cX11_told 54 = .ok (.ireturn, 1) := by decide +kernel
theorem dX11_told_55 : decode cX11_told 55 = .ok (.aload_n 0, 1) := by decide +kernel
theorem dX11_told_56 : decode cX11_told 56 = .ok (.getfield 26, 3) := by decide +kernel
theorem dX11_told_59 : decode cX11_told 59 = .ok (.getfield 250, 3) := by decide +kernel
theorem dX11_told_62 : decode cX11_told 62 = .ok (.ireturn, 1) := by decide +kernel
theorem dX11_told_63 : decode cX11_told 63 = .ok (.aload_n 0, 1) := by decide +kernel
theorem dX11_told_64 : decode cX11_told 64 = .ok (.getfield 10, 3) := by decide +kernel
theorem dX11_told_67 : decode cX11_told 67 = .ok (.getfield 163, 3) := by decide +kernel
theorem dX11_told_70 : decode cX11_told 70 = .ok (.ireturn, 1) := by decide +kernel
theorem dX11_told_71 : decode cX11_told 71 = .ok (.aload_n 0, 1) := by decide +kernel
theorem dX11_told_72 : decode cX11_told 72 = .ok (.getfield 19, 3) := by decide +kernel
theorem dX11_told_75 : decode cX11_told 75 = .ok (.getfield 267, 3) := by decide +kernel
theorem dX11_told_78 : decode cX11_told 78 = .ok (.ireturn, 1) := by decide +kernel
theorem dX11_told_79 : decode cX11_told 79 = .ok (.aload_n 0, 1) := by decide +kernel
theorem dX11_told_80 : decode cX11_told 80 = .ok (.invokevirtual 103, 3) := by decide +kernel
theorem dX11_told_83 : decode cX11_told 83 = .ok (.ireturn, 1) := by decide +kernel
theorem dX11_digest_0 : decode cX11_digest 0 = .ok (.ldc2_w 273, 3) := by decide +kernel
theorem dX11_digest_3 : decode cX11_digest 3 = .ok (.lstore_n 1, 1) := by decide +kernel
theorem dX11_digest_4 : decode cX11_digest 4 = .ok (.iconst 0, 1) := by decide +kernel
theorem dX11_digest_5 : decode cX11_digest 5 = .ok (.istore_n 3, 1) := by decide +kernel
theorem dX11_digest_6 : decode cX11_digest 6 = .ok (.iload_n 3, 1) := by decide +kernel
theorem dX11_digest_7 : decode cX11_digest 7 = .ok (.iconst 5, 1) := by decide +kernel
theorem dX11_digest_8 : decode cX11_digest 8 = .ok (.if_icmp .gt 22, 3) := by decide +kernel
theorem dX11_digest_11 : decode cX11_digest 11 = .ok (.ldc2_w 275, 3) := by decide +kernel
theorem dX11_digest_14 : decode cX11_digest 14 = .ok (.lload_n 1, 1) := by decide +kernel
theorem dX11_digest_15 : decode cX11_digest 15 = .ok (.lmul, 1) := by decide +kernel
theorem dX11_digest_16 : decode cX11_digest 16 = .ok (.aload_n 0, 1) := by decide +kernel
theorem dX11_digest_17 : decode cX11_digest 17 = .ok (.iload_n 3, 1) := by decide +kernel
theorem dX11_digest_18 : decode cX11_digest 18 = .ok (.invokevirtual 277, 3) := by decide +kernel
theorem dX11_digest_21 : decode cX11_digest 21 = .ok (.i2l, 1) := by decide +kernel
theorem dX11_digest_22 : decode cX11_digest 22 = .ok (.ladd, 1) := by decide +kernel
theorem dX11_digest_23 : decode cX11_digest 23 = .ok (.lstore_n 1, 1) := by decide +kernel
theorem dX11_digest_24 : decode cX11_digest 24 = .ok (.iinc 3 1, 3) := by decide +kernel
theorem dX11_digest_27 : decode cX11_digest 27 = .ok (.goto (-21), 3) := by decide +kernel
theorem dX11_digest_30 : decode cX11_digest 30 = .ok (.iconst 0, 1) := by decide +kernel
theorem dX11_digest_31 : decode cX11_digest 31 = .ok (.istore_n 3, 1) := by decide +kernel
theorem dX11_digest_32 : decode cX11_digest 32 = .ok (.iload_n 3, 1) := by decide +kernel
theorem dX11_digest_33 : decode cX11_digest 33 = .ok (.bipush 6, 2) := by decide +kernel
theorem dX11_digest_35 : decode cX11_digest 35 = .ok (.if_icmp .ge 68, 3) := by decide +kernel
theorem dX11_digest_38 : decode cX11_digest 38 = .ok (.aload_n 0, 1) := by decide +kernel
theorem dX11_digest_39 : decode cX11_digest 39 = .ok (.getfield 10, 3) := by decide +kernel
theorem dX11_digest_42 : decode cX11_digest 42 = .ok (.getfield 111, 3) := by decide +kernel
theorem dX11_digest_45 : decode cX11_digest 45 = .ok (.iload_n 3, 1) := by decide +kernel
theorem dX11_digest_46 : decode cX11_digest 46 = .ok (.aaload, 1) := by decide +kernel
theorem dX11_digest_47 : decode cX11_digest 47 = .ok (.astore 4, 2) := by decide +kernel
theorem dX11_digest_49 : decode cX11_digest 49 = .ok (.iconst 0, 1) := by decide +kernel
theorem dX11_digest_50 : decode cX11_digest 50 = .ok (.istore 5, 2) := by decide +kernel
theorem dX11_digest_52 : decode cX11_digest 52 = .ok (.iload 5, 2) := by decide +kernel
theorem dX11_digest_54 : decode cX11_digest 54 = .ok (.bipush 8, 2) := by decide +kernel
theorem dX11_digest_56 : decode cX11_digest 56 = .ok (.if_icmp .gt 31, 3) := by decide +kernel
theorem dX11_digest_59 : decode cX11_digest 59 = .ok (.ldc2_w 275, 3) := by decide +kernel
theorem dX11_digest_62 : decode cX11_digest 62 = .ok (.lload_n 1, 1) := by decide +kernel
theorem dX11_digest_63 : decode cX11_digest 63 = .ok (.lmul, 1) := by decide +kernel
theorem dX11_digest_64 : decode cX11_digest 64 = .ok (.aload 4, 2) := by decide +kernel
theorem dX11_digest_66 : decode cX11_digest 66 = .ok (.iload 5, 2) := by decide +kernel
theorem dX11_digest_68 : decode cX11_digest 68 = .ok (.aload_n 0, 1) := by decide +kernel
theorem dX11_digest_69 : decode cX11_digest 69 = .ok (.getfield 10, 3) := by decide +kernel
theorem dX11_digest_72 : decode cX11_digest 72 = .ok (.getfield 163, 3) := by decide +kernel
theorem dX11_digest_75 : decode cX11_digest 75 = .ok (.invokevirtual 166, 3) := by decide +kernel
theorem dX11_digest_78 : decode cX11_digest 78 = .ok (.i2l, 1) := by decide +kernel
theorem dX11_digest_79 : decode cX11_digest 79 = .ok (.ladd, 1) := by decide +kernel
theorem dX11_digest_80 : decode cX11_digest 80 = .ok (.lstore_n 1, 1) := by decide +kernel
theorem dX11_digest_81 : decode cX11_digest 81 = .ok (.iinc 5 1, 3) := by decide +kernel
theorem dX11_digest_84 : decode cX11_digest 84 = .ok (.goto (-32), 3) := by decide +kernel
theorem dX11_digest_87 : decode cX11_digest 87 = .ok (.lload_n 1, 1) := by decide +kernel
theorem dX11_digest_88 : decode cX11_digest 88 = .ok (.aload 4, 2) := by decide +kernel
theorem dX11_digest_90 : decode cX11_digest 90 = .ok (.getfield 280, 3) := by decide +kernel
theorem dX11_digest_93 : decode cX11_digest 93 = .ok (.invokestatic 283, 3) := by decide +kernel
theorem dX11_digest_96 : decode cX11_digest 96 = .ok (.lstore_n 1, 1) := by decide +kernel
theorem dX11_digest_97 : decode cX11_digest 97 = .ok (.iinc 3 1, 3) := by decide +kernel
theorem dX11_digest_100 : decode cX11_digest 100 = .ok (.goto (-68), 3) := by decide +kernel
theorem dX11_digest_103 : decode cX11_digest 103 = .ok (.iconst 0, 1) := by decide +kernel
theorem dX11_digest_104 : decode cX11_digest 104 = .ok (.istore_n 3, 1) := by decide +kernel
theorem dX11_digest_105 : decode cX11_digest 105 = .ok (.iload_n 3, 1) := by decide +kernel
theorem dX11_digest_106 : decode cX11_digest 106 = .ok (.iconst 2, 1) := by decide +kernel
theorem dX11_digest_107 : decode cX11_digest 107 = .ok (.if_icmp .ge 23, 3) := by decide +kernel
theorem dX11_digest_110 : decode cX11_digest 110 = .ok (.lload_n 1, 1) := by decide +kernel
theorem dX11_digest_111 : decode cX11_digest 111 = .ok (.aload_n 0, 1) := by decide +kernel
theorem dX11_digest_112 : decode cX11_digest 112 = .ok (.getfield 10, 3) := by decide +kernel
theorem dX11_digest_115 : decode cX11_digest 115 = .ok (.getfield 175, 3) := by decide +kernel
theorem dX11_digest_118 : decode cX11_digest 118 = .ok (.iload_n 3, 1) := by decide +kernel
theorem dX11_digest_119 : decode cX11_digest 119 = .ok (.aaload, 1) := by decide +kernel
theorem dX11_digest_120 : decode cX11_digest 120 = .ok (.invokestatic 283, 3) := by decide +kernel
theorem dX11_digest_123 : decode cX11_digest 123 = .ok (.lstore_n 1, 1) := by decide +kernel
theorem dX11_digest_124 : decode cX11_digest 124 = .ok (.iinc 3 1, 3) := by decide +kernel
theorem dX11_digest_127 : decode cX11_digest 127 = .ok (.goto (-22), 3) := by decide +kernel
theorem dX11_digest_130 : decode cX11_digest 130 = .ok (.lload_n 1, 1) := by decide +kernel
theorem dX11_digest_131 : decode cX11_digest 131 = .ok (.lreturn, 1) := by decide +kernel
theorem dX11_mixed_0 : decode cX11_mixed 0 = .ok (.lload_n 0, 1) := by decide +kernel
theorem dX11_mixed_1 : decode cX11_mixed 1 = .ok (.lstore_n 3, 1) := by decide +kernel
theorem dX11_mixed_2 : decode cX11_mixed 2 = .ok (.aload_n 2, 1) := by decide +kernel
theorem dX11_mixed_3 : decode cX11_mixed 3 = .ok (.astore 5, 2) := by decide +kernel
theorem dX11_mixed_5 : decode cX11_mixed 5 = .ok (.aload 5, 2) := by decide +kernel
theorem dX11_mixed_7 : decode cX11_mixed 7 = .ok (.arraylength, 1) := by decide +kernel
theorem dX11_mixed_8 : decode cX11_mixed 8 = .ok (.istore 6, 2) := by decide +kernel
theorem dX11_mixed_10 : decode cX11_mixed 10 = .ok (.iconst 0, 1) := by decide +kernel
theorem dX11_mixed_11 : decode cX11_mixed 11 = .ok (.istore 7, 2) := by decide +kernel
theorem dX11_mixed_13 : decode cX11_mixed 13 = .ok (.iload 7, 2) := by decide +kernel
theorem dX11_mixed_15 : decode cX11_mixed 15 = .ok (.iload 6, 2) := by decide +kernel
theorem dX11_mixed_17 : decode cX11_mixed 17 = .ok (.if_icmp .ge 29, 3) := by decide +kernel
theorem dX11_mixed_20 : decode cX11_mixed 20 = .ok (.aload 5, 2) := by decide +kernel
theorem dX11_mixed_22 : decode cX11_mixed 22 = .ok (.iload 7, 2) := by decide +kernel
theorem dX11_mixed_24 : decode cX11_mixed 24 = .ok (.iaload, 1) := by decide +kernel
theorem dX11_mixed_25 : decode cX11_mixed 25 = .ok (.istore 8, 2) := by decide +kernel
theorem dX11_mixed_27 : decode cX11_mixed 27 = .ok (.ldc2_w 275, 3) := by decide +kernel
theorem dX11_mixed_30 : decode cX11_mixed 30 = .ok (.lload_n 3, 1) := by decide +kernel
theorem dX11_mixed_31 : decode cX11_mixed 31 = .ok (.lmul, 1) := by decide +kernel
theorem dX11_mixed_32 : decode cX11_mixed 32 = .ok (.iload 8, 2) := by decide +kernel
theorem dX11_mixed_34 : decode cX11_mixed 34 = .ok (.invokestatic 127, 3) := by decide +kernel
theorem dX11_mixed_37 : decode cX11_mixed 37 = .ok (.i2l, 1) := by decide +kernel
theorem dX11_mixed_38 : decode cX11_mixed 38 = .ok (.ladd, 1) := by decide +kernel
theorem dX11_mixed_39 : decode cX11_mixed 39 = .ok (.lstore_n 3, 1) := by decide +kernel
theorem dX11_mixed_40 : decode cX11_mixed 40 = .ok (.iinc 7 1, 3) := by decide +kernel
theorem dX11_mixed_43 : decode cX11_mixed 43 = .ok (.goto (-30), 3) := by decide +kernel
theorem dX11_mixed_46 : decode cX11_mixed 46 = .ok (.lload_n 3, 1) := by decide +kernel
theorem dX11_mixed_47 : decode cX11_mixed 47 = .ok (.lreturn, 1) := by decide +kernel
theorem dX11_replaceOperator_0 : decode cX11_replaceOperator 0 = .ok (.aload_n 0, 1) := by decide +kernel
theorem dX11_replaceOperator_1 : decode cX11_replaceOperator 1 = .ok (.getfield 19, 3) := by decide +kernel
theorem dX11_replaceOperator_4 : decode cX11_replaceOperator 4 = .ok (.aload_n 0, 1) := by decide +kernel
theorem dX11_replaceOperator_5 : decode cX11_replaceOperator 5 = .ok (.getfield 10, 3) := by decide +kernel
theorem dX11_replaceOperator_8 : decode cX11_replaceOperator 8 = .ok (.invokevirtual 107, 3) := by decide +kernel
theorem dX11_replaceOperator_11 : decode cX11_replaceOperator 11 = .ok (.aload_n 0, 1) := by decide +kernel
theorem dX11_replaceOperator_12 : decode cX11_replaceOperator 12 = .ok (.getfield 10, 3) := by decide +kernel
theorem dX11_replaceOperator_15 : decode cX11_replaceOperator 15 = .ok (.getfield 111, 3) := by decide +kernel
theorem dX11_replaceOperator_18 : decode cX11_replaceOperator 18 = .ok (.iload_n 1, 1) := by decide +kernel
theorem dX11_replaceOperator_19 : decode cX11_replaceOperator 19 = .ok (.aaload, 1) := by decide +kernel
theorem dX11_replaceOperator_20 : decode cX11_replaceOperator 20 = .ok (.aload_n 0, 1) := by decide +kernel
theorem dX11_replaceOperator_21 : decode cX11_replaceOperator 21 = .ok (.getfield 81, 3) := by decide +kernel
theorem dX11_replaceOperator_24 : decode cX11_replaceOperator 24 = .ok (.invokevirtual 226, 3) := by decide +kernel
theorem dX11_replaceOperator_27 : decode cX11_replaceOperator 27 = .ok (.aload_n 0, 1) := by decide +kernel
theorem dX11_replaceOperator_28 : decode cX11_replaceOperator 28 = .ok (.getfield 81, 3) := by decide +kernel
theorem dX11_replaceOperator_31 : decode cX11_replaceOperator 31 = .ok (.invokevirtual 287, 3) := by decide +kernel
theorem dX11_replaceOperator_34 : decode cX11_replaceOperator 34 = .ok (.ireturn, 1) := by decide +kernel
theorem dX11_bad_0 : decode cX11_bad 0 = .ok (.aload_n 0, 1) := by decide +kernel
theorem dX11_bad_1 : decode cX11_bad 1 = .ok (.dup, 1) := by decide +kernel
theorem dX11_bad_2 : decode cX11_bad 2 = .ok (.getfield 85, 3) := by decide +kernel
theorem dX11_bad_5 : decode cX11_bad 5 = .ok (.iconst 1, 1) := by decide +kernel
theorem dX11_bad_6 : decode cX11_bad 6 = .ok (.iadd, 1) := by decide +kernel
theorem dX11_bad_7 : decode cX11_bad 7 = .ok (.putfield 85, 3) := by decide +kernel
theorem dX11_bad_10 : decode cX11_bad 10 = .ok (.sipush (-20002), 3) := by decide +kernel
theorem dX11_bad_13 : decode cX11_bad 13 = .ok (.ireturn, 1) := by decide +kernel
theorem dX11_no_0 : decode cX11_no 0 = .ok (.aload_n 0, 1) := by decide +kernel
theorem dX11_no_1 : decode cX11_no 1 = .ok (.dup, 1) := by decide +kernel
theorem dX11_no_2 : decode cX11_no 2 = .ok (.getfield 89, 3) := by decide +kernel
theorem dX11_no_5 : decode cX11_no 5 = .ok (.iconst 1, 1) := by decide +kernel
theorem dX11_no_6 : decode cX11_no 6 = .ok (.iadd, 1) := by decide +kernel
theorem dX11_no_7 : decode cX11_no 7 = .ok (.putfield 89, 3) := by decide +kernel
theorem dX11_no_10 : decode cX11_no 10 = .ok (.sipush (-20003), 3) := by decide +kernel
theorem dX11_no_13 : decode cX11_no 13 = .ok (.ireturn, 1) := by decide +kernel
theorem dX11_full_0 : decode cX11_full 0 = .ok (.aload_n 0, 1) := by decide +kernel
theorem dX11_full_1 : decode cX11_full 1 = .ok (.dup, 1) := by decide +kernel
theorem dX11_full_2 : decode cX11_full 2 = .ok (.getfield 92, 3) := by decide +kernel
theorem dX11_full_5 : decode cX11_full 5 = .ok (.iconst 1, 1) := by decide +kernel
theorem dX11_full_6 : decode cX11_full 6 = .ok (.iadd, 1) := by decide +kernel
theorem dX11_full_7 : decode cX11_full 7 = .ok (.putfield 92, 3) := by decide +kernel
theorem dX11_full_10 : decode cX11_full 10 = .ok (.sipush (-20004), 3) := by decide +kernel
theorem dX11_full_13 : decode cX11_full 13 = .ok (.ireturn, 1) := by decide +kernel
theorem dX11_hasBasis_0 : decode cX11_hasBasis 0 = .ok (.iconst 0, 1) := by decide +kernel
theorem dX11_hasBasis_1 : decode cX11_hasBasis 1 = .ok (.istore_n 2, 1) := by decide +kernel
theorem dX11_hasBasis_2 : decode cX11_hasBasis 2 = .ok (.iload_n 2, 1) := by decide +kernel
theorem dX11_hasBasis_3 : decode cX11_hasBasis 3 = .ok (.bipush 6, 2) := by decide +kernel
theorem dX11_hasBasis_5 : decode cX11_hasBasis 5 = .ok (.if_icmp .ge 35, 3) := by decide +kernel
theorem dX11_hasBasis_8 : decode cX11_hasBasis 8 = .ok (.iload_n 1, 1) := by decide +kernel
theorem dX11_hasBasis_9 : decode cX11_hasBasis 9 = .ok (.iload_n 2, 1) := by decide +kernel
theorem dX11_hasBasis_10 : decode cX11_hasBasis 10 = .ok (.invokestatic 211, 3) := by decide +kernel
theorem dX11_hasBasis_13 : decode cX11_hasBasis 13 = .ok (.ifCond .eq 21, 3) := by decide +kernel
theorem dX11_hasBasis_16 : decode cX11_hasBasis 16 = .ok (.aload_n 0, 1) := by decide +kernel
theorem dX11_hasBasis_17 : decode cX11_hasBasis 17 = .ok (.getfield 10, 3) := by decide +kernel
theorem dX11_hasBasis_20 : decode cX11_hasBasis 20 = .ok (.getfield 111, 3) := by decide +kernel
theorem dX11_hasBasis_23 : decode cX11_hasBasis 23 = .ok (.iload_n 2, 1) := by decide +kernel
theorem dX11_hasBasis_24 : decode cX11_hasBasis 24 = .ok (.aaload, 1) := by decide +kernel
theorem dX11_hasBasis_25 : decode cX11_hasBasis 25 = .ok (.invokevirtual 290, 3) := by decide +kernel
theorem dX11_hasBasis_28 : decode cX11_hasBasis 28 = .ok (.iconst 3, 1) := by decide +kernel
theorem dX11_hasBasis_29 : decode cX11_hasBasis 29 = .ok (.if_icmp .le 5, 3) := by decide +kernel
theorem dX11_hasBasis_32 : decode cX11_hasBasis 32 = .ok (.iconst 0, 1) := by decide +kernel
theorem dX11_hasBasis_33 : decode cX11_hasBasis 33 = .ok (.ireturn, 1) := by decide +kernel
theorem dX11_hasBasis_34 : decode cX11_hasBasis 34 = .ok (.iinc 2 1, 3) := by decide +kernel
theorem dX11_hasBasis_37 : decode cX11_hasBasis 37 = .ok (.goto (-35), 3) := by decide +kernel
theorem dX11_hasBasis_40 : decode cX11_hasBasis 40 = .ok (.iconst 1, 1) := by decide +kernel
theorem dX11_hasBasis_41 : decode cX11_hasBasis 41 = .ok (.ireturn, 1) := by decide +kernel
theorem dX11_isOperator_0 : decode cX11_isOperator 0 = .ok (.iload_n 0, 1) := by decide +kernel
theorem dX11_isOperator_1 : decode cX11_isOperator 1 = .ok (.ifCond .lt 13, 3) := by decide +kernel
theorem dX11_isOperator_4 : decode cX11_isOperator 4 = .ok (.iload_n 0, 1) := by decide +kernel
theorem dX11_isOperator_5 : decode cX11_isOperator 5 = .ok (.bipush 6, 2) := by decide +kernel
theorem dX11_isOperator_7 : decode cX11_isOperator 7 = .ok (.if_icmp .ge 7, 3) := by decide +kernel
theorem dX11_isOperator_10 : decode cX11_isOperator 10 = .ok (.iconst 1, 1) := by decide +kernel
theorem dX11_isOperator_11 : decode cX11_isOperator 11 = .ok (.goto 4, 3) := by decide +kernel
theorem dX11_isOperator_14 : decode cX11_isOperator 14 = .ok (.iconst 0, 1) := by decide +kernel
theorem dX11_isOperator_15 : decode cX11_isOperator 15 = .ok (.ireturn, 1) := by decide +kernel
theorem dX11_isPolynomial_0 : decode cX11_isPolynomial 0 = .ok (.iload_n 0, 1) := by decide +kernel
theorem dX11_isPolynomial_1 : decode cX11_isPolynomial 1 = .ok (.ifCond .lt 12, 3) := by decide +kernel
theorem dX11_isPolynomial_4 : decode cX11_isPolynomial 4 = .ok (.iload_n 0, 1) := by decide +kernel
theorem dX11_isPolynomial_5 : decode cX11_isPolynomial 5 = .ok (.iconst 2, 1) := by decide +kernel
theorem dX11_isPolynomial_6 : decode cX11_isPolynomial 6 = .ok (.if_icmp .ge 7, 3) := by decide +kernel
theorem dX11_isPolynomial_9 : decode cX11_isPolynomial 9 = .ok (.iconst 1, 1) := by decide +kernel
theorem dX11_isPolynomial_10 : decode cX11_isPolynomial 10 = .ok (.goto 4, 3) := by decide +kernel
theorem dX11_isPolynomial_13 : decode cX11_isPolynomial 13 = .ok (.iconst 0, 1) := by decide +kernel
theorem dX11_isPolynomial_14 : decode cX11_isPolynomial 14 = .ok (.ireturn, 1) := by decide +kernel
theorem dX11_isPower_0 : decode cX11_isPower 0 = .ok (.iload_n 0, 1) := by decide +kernel
theorem dX11_isPower_1 : decode cX11_isPower 1 = .ok (.ifCond .lt 13, 3) := by decide +kernel
theorem dX11_isPower_4 : decode cX11_isPower 4 = .ok (.iload_n 0, 1) := by decide +kernel
theorem dX11_isPower_5 : decode cX11_isPower 5 = .ok (.bipush 30, 2) := by decide +kernel
theorem dX11_isPower_7 : decode cX11_isPower 7 = .ok (.if_icmp .gt 7, 3) := by decide +kernel
theorem dX11_isPower_10 : decode cX11_isPower 10 = .ok (.iconst 1, 1) := by decide +kernel
theorem dX11_isPower_11 : decode cX11_isPower 11 = .ok (.goto 4, 3) := by decide +kernel
theorem dX11_isPower_14 : decode cX11_isPower 14 = .ok (.iconst 0, 1) := by decide +kernel
theorem dX11_isPower_15 : decode cX11_isPower 15 = .ok (.ireturn, 1) := by decide +kernel
theorem dX11_isSet_0 : decode cX11_isSet 0 = .ok (.iload_n 0, 1) := by decide +kernel
theorem dX11_isSet_1 : decode cX11_isSet 1 = .ok (.ifCond .le 13, 3) := by decide +kernel
theorem dX11_isSet_4 : decode cX11_isSet 4 = .ok (.iload_n 0, 1) := by decide +kernel
theorem dX11_isSet_5 : decode cX11_isSet 5 = .ok (.bipush 64, 2) := by decide +kernel
theorem dX11_isSet_7 : decode cX11_isSet 7 = .ok (.if_icmp .ge 7, 3) := by decide +kernel
theorem dX11_isSet_10 : decode cX11_isSet 10 = .ok (.iconst 1, 1) := by decide +kernel
theorem dX11_isSet_11 : decode cX11_isSet 11 = .ok (.goto 4, 3) := by decide +kernel
theorem dX11_isSet_14 : decode cX11_isSet 14 = .ok (.iconst 0, 1) := by decide +kernel
theorem dX11_isSet_15 : decode cX11_isSet 15 = .ok (.ireturn, 1) := by decide +kernel
theorem dX11_isInSet_0 : decode cX11_isInSet 0 = .ok (.iload_n 0, 1) := by decide +kernel
theorem dX11_isInSet_1 : decode cX11_isInSet 1 = .ok (.iload_n 1, 1) := by decide +kernel
theorem dX11_isInSet_2 : decode cX11_isInSet 2 = .ok (.ishr, 1) := by decide +kernel
theorem dX11_isInSet_3 : decode cX11_isInSet 3 = .ok (.iconst 1, 1) := by decide +kernel
theorem dX11_isInSet_4 : decode cX11_isInSet 4 = .ok (.iand, 1) := by decide +kernel
theorem dX11_isInSet_5 : decode cX11_isInSet 5 = .ok (.iconst 1, 1) := by decide +kernel
theorem dX11_isInSet_6 : decode cX11_isInSet 6 = .ok (.if_icmp .ne 7, 3) := by decide +kernel
theorem dX11_isInSet_9 : decode cX11_isInSet 9 = .ok (.iconst 1, 1) := by decide +kernel
theorem dX11_isInSet_10 : decode cX11_isInSet 10 = .ok (.goto 4, 3) := by decide +kernel
theorem dX11_isInSet_13 : decode cX11_isInSet 13 = .ok (.iconst 0, 1) := by decide +kernel
theorem dX11_isInSet_14 : decode cX11_isInSet 14 = .ok (.ireturn, 1) := by decide +kernel
theorem dX12_init_0 : decode cX12_init 0 = .ok (.aload_n 0, 1) := by decide +kernel
theorem dX12_init_1 : decode cX12_init 1 = .ok (.invokespecial 1, 3) := by decide +kernel
theorem dX12_init_4 : decode cX12_init 4 = .ok (.aload_n 0, 1) := by decide +kernel
theorem dX12_init_5 : decode cX12_init 5 = .ok (.sipush 609, 3) := by decide +kernel
theorem dX12_init_8 : decode cX12_init 8 = .ok (.newarray .int, 2) := by decide +kernel
theorem dX12_init_10 : decode cX12_init 10 = .ok (.putfield 7, 3) := by decide +kernel
theorem dX12_init_13 : decode cX12_init 13 = .ok (.aload_n 0, 1) := by decide +kernel
theorem dX12_init_14 : decode cX12_init 14 = .ok (.sipush 3045, 3) := by decide +kernel
theorem dX12_init_17 : decode cX12_init 17 = .ok (.newarray .int, 2) := by decide +kernel
theorem dX12_init_19 : decode cX12_init 19 = .ok (.putfield 13, 3) := by decide +kernel
theorem dX12_init_22 : decode cX12_init 22 = .ok (.aload_n 0, 1) := by decide +kernel
theorem dX12_init_23 : decode cX12_init 23 = .ok (.iconst 3, 1) := by decide +kernel
theorem dX12_init_24 : decode cX12_init 24 = .ok (.newarray .int, 2) := by decide +kernel
theorem dX12_init_26 : decode cX12_init 26 = .ok (.putfield 16, 3) := by decide +kernel
theorem dX12_init_29 : decode cX12_init 29 = .ok (.aload_n 0, 1) := by decide +kernel
theorem dX12_init_30 : decode cX12_init 30 = .ok (.bipush 120, 2) := by decide +kernel
theorem dX12_init_32 : decode cX12_init 32 = .ok (.newarray .int, 2) := by decide +kernel
theorem dX12_init_34 : decode cX12_init 34 = .ok (.putfield 19, 3) := by decide +kernel
theorem dX12_init_37 : decode cX12_init 37 = .ok (.aload_n 0, 1) := by decide +kernel
theorem dX12_init_38 : decode cX12_init 38 = .ok (.sipush 22816, 3) := by decide +kernel
theorem dX12_init_41 : decode cX12_init 41 = .ok (.newarray .int, 2) := by decide +kernel
theorem dX12_init_43 : decode cX12_init 43 = .ok (.putfield 22, 3) := by decide +kernel
theorem dX12_init_46 : decode cX12_init 46 = .ok (.aload_n 0, 1) := by decide +kernel
theorem dX12_init_47 : decode cX12_init 47 = .ok (.sipush 496, 3) := by decide +kernel
theorem dX12_init_50 : decode cX12_init 50 = .ok (.newarray .int, 2) := by decide +kernel
theorem dX12_init_52 : decode cX12_init 52 = .ok (.putfield 25, 3) := by decide +kernel
theorem dX12_init_55 : decode cX12_init 55 = .ok (.aload_n 0, 1) := by decide +kernel
theorem dX12_init_56 : decode cX12_init 56 = .ok (.sipush 496, 3) := by decide +kernel
theorem dX12_init_59 : decode cX12_init 59 = .ok (.newarray .int, 2) := by decide +kernel
theorem dX12_init_61 : decode cX12_init 61 = .ok (.putfield 28, 3) := by decide +kernel
theorem dX12_init_64 : decode cX12_init 64 = .ok (.aload_n 0, 1) := by decide +kernel
theorem dX12_init_65 : decode cX12_init 65 = .ok (.sipush 961, 3) := by decide +kernel
theorem dX12_init_68 : decode cX12_init 68 = .ok (.newarray .int, 2) := by decide +kernel
theorem dX12_init_70 : decode cX12_init 70 = .ok (.putfield 31, 3) := by decide +kernel
theorem dX12_init_73 : decode cX12_init 73 = .ok (.aload_n 0, 1) := by decide +kernel
theorem dX12_init_74 : decode cX12_init 74 = .ok (.bipush 31, 2) := by decide +kernel
theorem dX12_init_76 : decode cX12_init 76 = .ok (.newarray .int, 2) := by decide +kernel
theorem dX12_init_78 : decode cX12_init 78 = .ok (.putfield 34, 3) := by decide +kernel
theorem dX12_init_81 : decode cX12_init 81 = .ok (.aload_n 0, 1) := by decide +kernel
theorem dX12_init_82 : decode cX12_init 82 = .ok (.sipush 448, 3) := by decide +kernel
theorem dX12_init_85 : decode cX12_init 85 = .ok (.newarray .int, 2) := by decide +kernel
theorem dX12_init_87 : decode cX12_init 87 = .ok (.putfield 37, 3) := by decide +kernel
theorem dX12_init_90 : decode cX12_init 90 = .ok (.aload_n 0, 1) := by decide +kernel
theorem dX12_init_91 : decode cX12_init 91 = .ok (.bipush 24, 2) := by decide +kernel
theorem dX12_init_93 : decode cX12_init 93 = .ok (.newarray .int, 2) := by decide +kernel
theorem dX12_init_95 : decode cX12_init 95 = .ok (.putfield 40, 3) := by decide +kernel
theorem dX12_init_98 : decode cX12_init 98 = .ok (.aload_n 0, 1) := by decide +kernel
theorem dX12_init_99 : decode cX12_init 99 = .ok (.bipush 24, 2) := by decide +kernel
theorem dX12_init_101 : decode cX12_init 101 = .ok (.newarray .int, 2) := by decide +kernel
theorem dX12_init_103 : decode cX12_init 103 = .ok (.putfield 43, 3) := by decide +kernel
theorem dX12_init_106 : decode cX12_init 106 = .ok (.aload_n 0, 1) := by decide +kernel
theorem dX12_init_107 : decode cX12_init 107 = .ok (.bipush 24, 2) := by decide +kernel
theorem dX12_init_109 : decode cX12_init 109 = .ok (.newarray .int, 2) := by decide +kernel
theorem dX12_init_111 : decode cX12_init 111 = .ok (.putfield 46, 3) := by decide +kernel
theorem dX12_init_114 : decode cX12_init 114 = .ok (.aload_n 0, 1) := by decide +kernel
theorem dX12_init_115 : decode cX12_init 115 = .ok (.bipush 9, 2) := by decide +kernel
theorem dX12_init_117 : decode cX12_init 117 = .ok (.newarray .boolean, 2) := by decide +kernel
theorem dX12_init_119 : decode cX12_init 119 = .ok (.putfield 49, 3) := by decide +kernel
theorem dX12_init_122 : decode cX12_init 122 = .ok (.aload_n 0, 1) := by decide +kernel
theorem dX12_init_123 : decode cX12_init 123 = .ok (.bipush 9, 2) := by decide +kernel
theorem dX12_init_125 : decode cX12_init 125 = .ok (.newarray .boolean, 2) := by decide +kernel
theorem dX12_init_127 : decode cX12_init 127 = .ok (.putfield 53, 3) := by decide +kernel
theorem dX12_init_130 : decode cX12_init 130 = .ok (.aload_n 0, 1) := by decide +kernel
theorem dX12_init_131 : decode cX12_init 131 = .ok (.sipush 1500, 3) := by decide +kernel
theorem dX12_init_134 : decode cX12_init 134 = .ok (.newarray .int, 2) := by decide +kernel
theorem dX12_init_136 : decode cX12_init 136 = .ok (.putfield 56, 3) := by decide +kernel
theorem dX12_init_139 : decode cX12_init 139 = .ok (.iconst 0, 1) := by decide +kernel
theorem dX12_init_140 : decode cX12_init 140 = .ok (.istore_n 1, 1) := by decide +kernel
theorem dX12_init_141 : decode cX12_init 141 = .ok (.iload_n 1, 1) := by decide +kernel
theorem dX12_init_142 : decode cX12_init 142 = .ok (.bipush 30, 2) := by decide +kernel
theorem dX12_init_144 : decode cX12_init 144 = .ok (.if_icmp .gt 102, 3) := by decide +kernel
theorem dX12_init_147 : decode cX12_init 147 = .ok (.iconst 0, 1) := by decide +kernel
theorem dX12_init_148 : decode cX12_init 148 = .ok (.istore_n 2, 1) := by decide +kernel
theorem dX12_init_149 : decode cX12_init 149 = .ok (.iload_n 2, 1) := by decide +kernel
theorem dX12_init_150 : decode cX12_init 150 = .ok (.iload_n 1, 1) := by decide +kernel
theorem dX12_init_151 : decode cX12_init 151 = .ok (.if_icmp .gt 89, 3) := by decide +kernel
theorem dX12_init_154 : decode cX12_init 154 = .ok (.aload_n 0, 1) := by decide +kernel
theorem dX12_init_155 : decode cX12_init 155 = .ok (.getfield 25, 3) := by decide +kernel
theorem dX12_init_158 : decode cX12_init 158 = .ok (.iload_n 1, 1) := by decide +kernel
theorem dX12_init_159 : decode cX12_init 159 = .ok (.iload_n 2, 1) := by decide +kernel
theorem dX12_init_160 : decode cX12_init 160 = .ok (.isub, 1) := by decide +kernel
theorem dX12_init_161 : decode cX12_init 161 = .ok (.iload_n 2, 1) := by decide +kernel
theorem dX12_init_162 : decode cX12_init 162 = .ok (.invokestatic 59, 3) := by decide +kernel
theorem dX12_init_165 : decode cX12_init 165 = .ok (.iload_n 1, 1) := by decide +kernel
theorem dX12_init_166 : decode cX12_init 166 = .ok (.iload_n 2, 1) := by decide +kernel
theorem dX12_init_167 : decode cX12_init 167 = .ok (.isub, 1) := by decide +kernel
theorem dX12_init_168 : decode cX12_init 168 = .ok (.iastore, 1) := by decide +kernel
theorem dX12_init_169 : decode cX12_init 169 = .ok (.aload_n 0, 1) := by decide +kernel
theorem dX12_init_170 : decode cX12_init 170 = .ok (.getfield 28, 3) := by decide +kernel
theorem dX12_init_173 : decode cX12_init 173 = .ok (.iload_n 1, 1) := by decide +kernel
theorem dX12_init_174 : decode cX12_init 174 = .ok (.iload_n 2, 1) := by decide +kernel
theorem dX12_init_175 : decode cX12_init 175 = .ok (.isub, 1) := by decide +kernel
theorem dX12_init_176 : decode cX12_init 176 = .ok (.iload_n 2, 1) := by decide +kernel
theorem dX12_init_177 : decode cX12_init 177 = .ok (.invokestatic 59, 3) := by decide +kernel
theorem dX12_init_180 : decode cX12_init 180 = .ok (.iload_n 2, 1) := by decide +kernel
theorem dX12_init_181 : decode cX12_init 181 = .ok (.iastore, 1) := by decide +kernel
theorem dX12_init_182 : decode cX12_init 182 = .ok (.aload_n 0, 1) := by decide +kernel
theorem dX12_init_183 : decode cX12_init 183 = .ok (.getfield 31, 3) := by decide +kernel
theorem dX12_init_186 : decode cX12_init 186 = .ok (.bipush 31, 2) := by decide +kernel
