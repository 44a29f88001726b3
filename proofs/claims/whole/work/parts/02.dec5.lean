theorem dX12_addsRow_34 : decode cX12_addsRow 34 = .ok (.aload_n 0, 1) := by decide +kernel
theorem dX12_addsRow_35 : decode cX12_addsRow 35 = .ok (.getfield 37, 3) := by decide +kernel
theorem dX12_addsRow_38 : decode cX12_addsRow 38 = .ok (.bipush 28, 2) := by decide +kernel
theorem dX12_addsRow_40 : decode cX12_addsRow 40 = .ok (.iload_n 1, 1) := by decide +kernel
theorem dX12_addsRow_41 : decode cX12_addsRow 41 = .ok (.imul, 1) := by decide +kernel
theorem dX12_addsRow_42 : decode cX12_addsRow 42 = .ok (.iload 4, 2) := by decide +kernel
theorem dX12_addsRow_44 : decode cX12_addsRow 44 = .ok (.iadd, 1) := by decide +kernel
theorem dX12_addsRow_45 : decode cX12_addsRow 45 = .ok (.iaload, 1) := by decide +kernel
theorem dX12_addsRow_46 : decode cX12_addsRow 46 = .ok (.imul, 1) := by decide +kernel
theorem dX12_addsRow_47 : decode cX12_addsRow 47 = .ok (.iadd, 1) := by decide +kernel
theorem dX12_addsRow_48 : decode cX12_addsRow 48 = .ok (.sipush 10007, 3) := by decide +kernel
theorem dX12_addsRow_51 : decode cX12_addsRow 51 = .ok (.irem, 1) := by decide +kernel
theorem dX12_addsRow_52 : decode cX12_addsRow 52 = .ok (.iastore, 1) := by decide +kernel
theorem dX12_addsRow_53 : decode cX12_addsRow 53 = .ok (.iinc 4 1, 3) := by decide +kernel
theorem dX12_addsRow_56 : decode cX12_addsRow 56 = .ok (.goto (-53), 3) := by decide +kernel
theorem dX12_addsRow_59 : decode cX12_addsRow 59 = .ok (.return_, 1) := by decide +kernel
theorem dX12_isFree_0 : decode cX12_isFree 0 = .ok (.iconst 0, 1) := by decide +kernel
theorem dX12_isFree_1 : decode cX12_isFree 1 = .ok (.istore_n 3, 1) := by decide +kernel
theorem dX12_isFree_2 : decode cX12_isFree 2 = .ok (.iload_n 3, 1) := by decide +kernel
theorem dX12_isFree_3 : decode cX12_isFree 3 = .ok (.bipush 28, 2) := by decide +kernel
theorem dX12_isFree_5 : decode cX12_isFree 5 = .ok (.if_icmp .ge 23, 3) := by decide +kernel
theorem dX12_isFree_8 : decode cX12_isFree 8 = .ok (.aload_n 0, 1) := by decide +kernel
theorem dX12_isFree_9 : decode cX12_isFree 9 = .ok (.getfield 37, 3) := by decide +kernel
theorem dX12_isFree_12 : decode cX12_isFree 12 = .ok (.bipush 28, 2) := by decide +kernel
theorem dX12_isFree_14 : decode cX12_isFree 14 = .ok (.iload_n 1, 1) := by decide +kernel
theorem dX12_isFree_15 : decode cX12_isFree 15 = .ok (.imul, 1) := by decide +kernel
theorem dX12_isFree_16 : decode cX12_isFree 16 = .ok (.iload_n 3, 1) := by decide +kernel
theorem dX12_isFree_17 : decode cX12_isFree 17 = .ok (.iadd, 1) := by decide +kernel
theorem dX12_isFree_18 : decode cX12_isFree 18 = .ok (.iaload, 1) := by decide +kernel
theorem dX12_isFree_19 : decode cX12_isFree 19 = .ok (.ifCond .ne 9, 3) := by decide +kernel
theorem dX12_isFree_22 : decode cX12_isFree 22 = .ok (.iinc 3 1, 3) := by decide +kernel
theorem dX12_isFree_25 : decode cX12_isFree 25 = .ok (.goto (-23), 3) := by decide +kernel
theorem dX12_isFree_28 : decode cX12_isFree 28 = .ok (.iload_n 3, 1) := by decide +kernel
theorem dX12_isFree_29 : decode cX12_isFree 29 = .ok (.bipush 28, 2) := by decide +kernel
theorem dX12_isFree_31 : decode cX12_isFree 31 = .ok (.if_icmp .ne 5, 3) := by decide +kernel
theorem dX12_isFree_34 : decode cX12_isFree 34 = .ok (.iconst 0, 1) := by decide +kernel
theorem dX12_isFree_35 : decode cX12_isFree 35 = .ok (.ireturn, 1) := by decide +kernel
theorem dX12_isFree_36 : decode cX12_isFree 36 = .ok (.aload_n 0, 1) := by decide +kernel
theorem dX12_isFree_37 : decode cX12_isFree 37 = .ok (.getfield 37, 3) := by decide +kernel
theorem dX12_isFree_40 : decode cX12_isFree 40 = .ok (.bipush 28, 2) := by decide +kernel
theorem dX12_isFree_42 : decode cX12_isFree 42 = .ok (.iload_n 1, 1) := by decide +kernel
theorem dX12_isFree_43 : decode cX12_isFree 43 = .ok (.imul, 1) := by decide +kernel
theorem dX12_isFree_44 : decode cX12_isFree 44 = .ok (.iload_n 3, 1) := by decide +kernel
theorem dX12_isFree_45 : decode cX12_isFree 45 = .ok (.iadd, 1) := by decide +kernel
theorem dX12_isFree_46 : decode cX12_isFree 46 = .ok (.iaload, 1) := by decide +kernel
theorem dX12_isFree_47 : decode cX12_isFree 47 = .ok (.invokestatic 177, 3) := by decide +kernel
theorem dX12_isFree_50 : decode cX12_isFree 50 = .ok (.istore 4, 2) := by decide +kernel
theorem dX12_isFree_52 : decode cX12_isFree 52 = .ok (.iload_n 1, 1) := by decide +kernel
theorem dX12_isFree_53 : decode cX12_isFree 53 = .ok (.iconst 1, 1) := by decide +kernel
theorem dX12_isFree_54 : decode cX12_isFree 54 = .ok (.iadd, 1) := by decide +kernel
theorem dX12_isFree_55 : decode cX12_isFree 55 = .ok (.istore 5, 2) := by decide +kernel
theorem dX12_isFree_57 : decode cX12_isFree 57 = .ok (.iload 5, 2) := by decide +kernel
theorem dX12_isFree_59 : decode cX12_isFree 59 = .ok (.iload_n 2, 1) := by decide +kernel
theorem dX12_isFree_60 : decode cX12_isFree 60 = .ok (.if_icmp .ge 52, 3) := by decide +kernel
theorem dX12_isFree_63 : decode cX12_isFree 63 = .ok (.aload_n 0, 1) := by decide +kernel
theorem dX12_isFree_64 : decode cX12_isFree 64 = .ok (.getfield 37, 3) := by decide +kernel
theorem dX12_isFree_67 : decode cX12_isFree 67 = .ok (.bipush 28, 2) := by decide +kernel
theorem dX12_isFree_69 : decode cX12_isFree 69 = .ok (.iload 5, 2) := by decide +kernel
theorem dX12_isFree_71 : decode cX12_isFree 71 = .ok (.imul, 1) := by decide +kernel
theorem dX12_isFree_72 : decode cX12_isFree 72 = .ok (.iload_n 3, 1) := by decide +kernel
theorem dX12_isFree_73 : decode cX12_isFree 73 = .ok (.iadd, 1) := by decide +kernel
theorem dX12_isFree_74 : decode cX12_isFree 74 = .ok (.iaload, 1) := by decide +kernel
theorem dX12_isFree_75 : decode cX12_isFree 75 = .ok (.iload 4, 2) := by decide +kernel
theorem dX12_isFree_77 : decode cX12_isFree 77 = .ok (.imul, 1) := by decide +kernel
theorem dX12_isFree_78 : decode cX12_isFree 78 = .ok (.sipush 10007, 3) := by decide +kernel
theorem dX12_isFree_81 : decode cX12_isFree 81 = .ok (.irem, 1) := by decide +kernel
theorem dX12_isFree_82 : decode cX12_isFree 82 = .ok (.istore 6, 2) := by decide +kernel
theorem dX12_isFree_84 : decode cX12_isFree 84 = .ok (.aload_n 0, 1) := by decide +kernel
theorem dX12_isFree_85 : decode cX12_isFree 85 = .ok (.iload_n 1, 1) := by decide +kernel
theorem dX12_isFree_86 : decode cX12_isFree 86 = .ok (.iload 6, 2) := by decide +kernel
theorem dX12_isFree_88 : decode cX12_isFree 88 = .ok (.ifCond .ne 7, 3) := by decide +kernel
theorem dX12_isFree_91 : decode cX12_isFree 91 = .ok (.iconst 0, 1) := by decide +kernel
theorem dX12_isFree_92 : decode cX12_isFree 92 = .ok (.goto 9, 3) := by decide +kernel
theorem dX12_isFree_95 : decode cX12_isFree 95 = .ok (.sipush 10007, 3) := by decide +kernel
theorem dX12_isFree_98 : decode cX12_isFree 98 = .ok (.iload 6, 2) := by decide +kernel
theorem dX12_isFree_100 : decode cX12_isFree 100 = .ok (.isub, 1) := by decide +kernel
theorem dX12_isFree_101 : decode cX12_isFree 101 = .ok (.iload 5, 2) := by decide +kernel
theorem dX12_isFree_103 : decode cX12_isFree 103 = .ok (.invokevirtual 180, 3) := by decide +kernel
theorem dX12_isFree_106 : decode cX12_isFree 106 = .ok (.iinc 5 1, 3) := by decide +kernel
theorem dX12_isFree_109 : decode cX12_isFree 109 = .ok (.goto (-52), 3) := by decide +kernel
theorem dX12_isFree_112 : decode cX12_isFree 112 = .ok (.iconst 1, 1) := by decide +kernel
theorem dX12_isFree_113 : decode cX12_isFree 113 = .ok (.ireturn, 1) := by decide +kernel
theorem dX12_kernel_0 : decode cX12_kernel 0 = .ok (.iload_n 1, 1) := by decide +kernel
theorem dX12_kernel_1 : decode cX12_kernel 1 = .ok (.invokestatic 111, 3) := by decide +kernel
theorem dX12_kernel_4 : decode cX12_kernel 4 = .ok (.ifCond .eq 13, 3) := by decide +kernel
theorem dX12_kernel_7 : decode cX12_kernel 7 = .ok (.iload_n 2, 1) := by decide +kernel
theorem dX12_kernel_8 : decode cX12_kernel 8 = .ok (.iconst 0, 1) := by decide +kernel
theorem dX12_kernel_9 : decode cX12_kernel 9 = .ok (.bipush 15, 2) := by decide +kernel
theorem dX12_kernel_11 : decode cX12_kernel 11 = .ok (.invokestatic 74, 3) := by decide +kernel
theorem dX12_kernel_14 : decode cX12_kernel 14 = .ok (.ifCond .ne 8, 3) := by decide +kernel
theorem dX12_kernel_17 : decode cX12_kernel 17 = .ok (.aload_n 0, 1) := by decide +kernel
theorem dX12_kernel_18 : decode cX12_kernel 18 = .ok (.invokevirtual 119, 3) := by decide +kernel
theorem dX12_kernel_21 : decode cX12_kernel 21 = .ok (.ireturn, 1) := by decide +kernel
theorem dX12_kernel_22 : decode cX12_kernel 22 = .ok (.aload_n 0, 1) := by decide +kernel
theorem dX12_kernel_23 : decode cX12_kernel 23 = .ok (.iload_n 1, 1) := by decide +kernel
theorem dX12_kernel_24 : decode cX12_kernel 24 = .ok (.iload_n 2, 1) := by decide +kernel
theorem dX12_kernel_25 : decode cX12_kernel 25 = .ok (.iconst 1, 1) := by decide +kernel
theorem dX12_kernel_26 : decode cX12_kernel 26 = .ok (.iadd, 1) := by decide +kernel
theorem dX12_kernel_27 : decode cX12_kernel 27 = .ok (.invokevirtual 183, 3) := by decide +kernel
theorem dX12_kernel_30 : decode cX12_kernel 30 = .ok (.iconst 0, 1) := by decide +kernel
theorem dX12_kernel_31 : decode cX12_kernel 31 = .ok (.istore_n 3, 1) := by decide +kernel
theorem dX12_kernel_32 : decode cX12_kernel 32 = .ok (.iconst 0, 1) := by decide +kernel
theorem dX12_kernel_33 : decode cX12_kernel 33 = .ok (.istore 4, 2) := by decide +kernel
theorem dX12_kernel_35 : decode cX12_kernel 35 = .ok (.iload 4, 2) := by decide +kernel
theorem dX12_kernel_37 : decode cX12_kernel 37 = .ok (.iload_n 2, 1) := by decide +kernel
theorem dX12_kernel_38 : decode cX12_kernel 38 = .ok (.if_icmp .gt 29, 3) := by decide +kernel
theorem dX12_kernel_41 : decode cX12_kernel 41 = .ok (.iload_n 3, 1) := by decide +kernel
theorem dX12_kernel_42 : decode cX12_kernel 42 = .ok (.aload_n 0, 1) := by decide +kernel
theorem dX12_kernel_43 : decode cX12_kernel 43 = .ok (.iload 4, 2) := by decide +kernel
theorem dX12_kernel_45 : decode cX12_kernel 45 = .ok (.iload_n 2, 1) := by decide +kernel
theorem dX12_kernel_46 : decode cX12_kernel 46 = .ok (.iconst 1, 1) := by decide +kernel
theorem dX12_kernel_47 : decode cX12_kernel 47 = .ok (.iadd, 1) := by decide +kernel
theorem dX12_kernel_48 : decode cX12_kernel 48 = .ok (.invokevirtual 186, 3) := by decide +kernel
theorem dX12_kernel_51 : decode cX12_kernel 51 = .ok (.ifCond .eq 7, 3) := by decide +kernel
theorem dX12_kernel_54 : decode cX12_kernel 54 = .ok (.iconst 0, 1) := by decide +kernel
theorem dX12_kernel_55 : decode cX12_kernel 55 = .ok (.goto 4, 3) := by decide +kernel
theorem dX12_kernel_58 : decode cX12_kernel 58 = .ok (.iconst 1, 1) := by decide +kernel
theorem dX12_kernel_59 : decode cX12_kernel 59 = .ok (.iadd, 1) := by decide +kernel
theorem dX12_kernel_60 : decode cX12_kernel 60 = .ok (.istore_n 3, 1) := by decide +kernel
theorem dX12_kernel_61 : decode cX12_kernel 61 = .ok (.iinc 4 1, 3) := by decide +kernel
theorem dX12_kernel_64 : decode cX12_kernel 64 = .ok (.goto (-29), 3) := by decide +kernel
theorem dX12_kernel_67 : decode cX12_kernel 67 = .ok (.iload_n 3, 1) := by decide +kernel
theorem dX12_kernel_68 : decode cX12_kernel 68 = .ok (.ireturn, 1) := by decide +kernel
theorem dX12_kills_0 : decode cX12_kills 0 = .ok (.iload_n 1, 1) := by decide +kernel
theorem dX12_kills_1 : decode cX12_kills 1 = .ok (.invokestatic 111, 3) := by decide +kernel
theorem dX12_kills_4 : decode cX12_kills 4 = .ok (.ifCond .eq 10, 3) := by decide +kernel
theorem dX12_kills_7 : decode cX12_kills 7 = .ok (.iload_n 2, 1) := by decide +kernel
theorem dX12_kills_8 : decode cX12_kills 8 = .ok (.invokestatic 162, 3) := by decide +kernel
theorem dX12_kills_11 : decode cX12_kills 11 = .ok (.ifCond .ne 8, 3) := by decide +kernel
theorem dX12_kills_14 : decode cX12_kills 14 = .ok (.aload_n 0, 1) := by decide +kernel
theorem dX12_kills_15 : decode cX12_kills 15 = .ok (.invokevirtual 119, 3) := by decide +kernel
theorem dX12_kills_18 : decode cX12_kills 18 = .ok (.ireturn, 1) := by decide +kernel
theorem dX12_kills_19 : decode cX12_kills 19 = .ok (.aload_n 0, 1) := by decide +kernel
theorem dX12_kills_20 : decode cX12_kills 20 = .ok (.iload_n 2, 1) := by decide +kernel
theorem dX12_kills_21 : decode cX12_kills 21 = .ok (.invokevirtual 174, 3) := by decide +kernel
theorem dX12_kills_24 : decode cX12_kills 24 = .ok (.istore_n 3, 1) := by decide +kernel
theorem dX12_kills_25 : decode cX12_kills 25 = .ok (.iload_n 3, 1) := by decide +kernel
theorem dX12_kills_26 : decode cX12_kills 26 = .ok (.ifCond .ge 8, 3) := by decide +kernel
theorem dX12_kills_29 : decode cX12_kills 29 = .ok (.aload_n 0, 1) := by decide +kernel
theorem dX12_kills_30 : decode cX12_kills 30 = .ok (.invokevirtual 70, 3) := by decide +kernel
theorem dX12_kills_33 : decode cX12_kills 33 = .ok (.ireturn, 1) := by decide +kernel
theorem dX12_kills_34 : decode cX12_kills 34 = .ok (.iload_n 3, 1) := by decide +kernel
theorem dX12_kills_35 : decode cX12_kills 35 = .ok (.bipush 11, 2) := by decide +kernel
theorem dX12_kills_37 : decode cX12_kills 37 = .ok (.if_icmp .le 8, 3) := by decide +kernel
theorem dX12_kills_40 : decode cX12_kills 40 = .ok (.aload_n 0, 1) := by decide +kernel
theorem dX12_kills_41 : decode cX12_kills 41 = .ok (.invokevirtual 140, 3) := by decide +kernel
theorem dX12_kills_44 : decode cX12_kills 44 = .ok (.ireturn, 1) := by decide +kernel
theorem dX12_kills_45 : decode cX12_kills 45 = .ok (.aload_n 0, 1) := by decide +kernel
theorem dX12_kills_46 : decode cX12_kills 46 = .ok (.bipush 25, 2) := by decide +kernel
theorem dX12_kills_48 : decode cX12_kills 48 = .ok (.invokevirtual 78, 3) := by decide +kernel
theorem dX12_kills_51 : decode cX12_kills 51 = .ok (.iconst 0, 1) := by decide +kernel
theorem dX12_kills_52 : decode cX12_kills 52 = .ok (.istore 4, 2) := by decide +kernel
theorem dX12_kills_54 : decode cX12_kills 54 = .ok (.iload 4, 2) := by decide +kernel
theorem dX12_kills_56 : decode cX12_kills 56 = .ok (.iload_n 3, 1) := by decide +kernel
theorem dX12_kills_57 : decode cX12_kills 57 = .ok (.if_icmp .gt 102, 3) := by decide +kernel
theorem dX12_kills_60 : decode cX12_kills 60 = .ok (.aload_n 0, 1) := by decide +kernel
theorem dX12_kills_61 : decode cX12_kills 61 = .ok (.getfield 7, 3) := by decide +kernel
theorem dX12_kills_64 : decode cX12_kills 64 = .ok (.iload_n 2, 1) := by decide +kernel
theorem dX12_kills_65 : decode cX12_kills 65 = .ok (.iload 4, 2) := by decide +kernel
theorem dX12_kills_67 : decode cX12_kills 67 = .ok (.invokestatic 165, 3) := by decide +kernel
theorem dX12_kills_70 : decode cX12_kills 70 = .ok (.iaload, 1) := by decide +kernel
theorem dX12_kills_71 : decode cX12_kills 71 = .ok (.istore 5, 2) := by decide +kernel
theorem dX12_kills_73 : decode cX12_kills 73 = .ok (.sipush 12400, 3) := by decide +kernel
theorem dX12_kills_76 : decode cX12_kills 76 = .ok (.iload 4, 2) := by decide +kernel
theorem dX12_kills_78 : decode cX12_kills 78 = .ok (.iconst 1, 1) := by decide +kernel
theorem dX12_kills_79 : decode cX12_kills 79 = .ok (.invokestatic 59, 3) := by decide +kernel
theorem dX12_kills_82 : decode cX12_kills 82 = .ok (.iadd, 1) := by decide +kernel
theorem dX12_kills_83 : decode cX12_kills 83 = .ok (.istore 6, 2) := by decide +kernel
theorem dX12_kills_85 : decode cX12_kills 85 = .ok (.aload_n 0, 1) := by decide +kernel
theorem dX12_kills_86 : decode cX12_kills 86 = .ok (.getfield 22, 3) := by decide +kernel
theorem dX12_kills_89 : decode cX12_kills 89 = .ok (.iload 6, 2) := by decide +kernel
theorem dX12_kills_91 : decode cX12_kills 91 = .ok (.aload_n 0, 1) := by decide +kernel
theorem dX12_kills_92 : decode cX12_kills 92 = .ok (.getfield 22, 3) := by decide +kernel
theorem dX12_kills_95 : decode cX12_kills 95 = .ok (.iload 6, 2) := by decide +kernel
theorem dX12_kills_97 : decode cX12_kills 97 = .ok (.iaload, 1) := by decide +kernel
theorem dX12_kills_98 : decode cX12_kills 98 = .ok (.iload 5, 2) := by decide +kernel
theorem dX12_kills_100 : decode cX12_kills 100 = .ok (.iadd, 1) := by decide +kernel
theorem dX12_kills_101 : decode cX12_kills 101 = .ok (.sipush 10007, 3) := by decide +kernel
theorem dX12_kills_104 : decode cX12_kills 104 = .ok (.irem, 1) := by decide +kernel
theorem dX12_kills_105 : decode cX12_kills 105 = .ok (.iastore, 1) := by decide +kernel
theorem dX12_kills_106 : decode cX12_kills 106 = .ok (.iload 4, 2) := by decide +kernel
theorem dX12_kills_108 : decode cX12_kills 108 = .ok (.ifCond .le 45, 3) := by decide +kernel
theorem dX12_kills_111 : decode cX12_kills 111 = .ok (.sipush 12400, 3) := by decide +kernel
theorem dX12_kills_114 : decode cX12_kills 114 = .ok (.iload 4, 2) := by decide +kernel
theorem dX12_kills_116 : decode cX12_kills 116 = .ok (.iconst 1, 1) := by decide +kernel
theorem dX12_kills_117 : decode cX12_kills 117 = .ok (.isub, 1) := by decide +kernel
theorem dX12_kills_118 : decode cX12_kills 118 = .ok (.iconst 0, 1) := by decide +kernel
theorem dX12_kills_119 : decode cX12_kills 119 = .ok (.invokestatic 59, 3) := by decide +kernel
theorem dX12_kills_122 : decode cX12_kills 122 = .ok (.iadd, 1) := by decide +kernel
theorem dX12_kills_123 : decode cX12_kills 123 = .ok (.istore 6, 2) := by decide +kernel
theorem dX12_kills_125 : decode cX12_kills 125 = .ok (.aload_n 0, 1) := by decide +kernel
theorem dX12_kills_126 : decode cX12_kills 126 = .ok (.getfield 22, 3) := by decide +kernel
theorem dX12_kills_129 : decode cX12_kills 129 = .ok (.iload 6, 2) := by decide +kernel
theorem dX12_kills_131 : decode cX12_kills 131 = .ok (.aload_n 0, 1) := by decide +kernel
theorem dX12_kills_132 : decode cX12_kills 132 = .ok (.getfield 22, 3) := by decide +kernel
theorem dX12_kills_135 : decode cX12_kills 135 = .ok (.iload 6, 2) := by decide +kernel
theorem dX12_kills_137 : decode cX12_kills 137 = .ok (.iaload, 1) := by decide +kernel
theorem dX12_kills_138 : decode cX12_kills 138 = .ok (.sipush 10007, 3) := by decide +kernel
theorem dX12_kills_141 : decode cX12_kills 141 = .ok (.iload 5, 2) := by decide +kernel
theorem dX12_kills_143 : decode cX12_kills 143 = .ok (.isub, 1) := by decide +kernel
theorem dX12_kills_144 : decode cX12_kills 144 = .ok (.iload 4, 2) := by decide +kernel
theorem dX12_kills_146 : decode cX12_kills 146 = .ok (.imul, 1) := by decide +kernel
theorem dX12_kills_147 : decode cX12_kills 147 = .ok (.iadd, 1) := by decide +kernel
theorem dX12_kills_148 : decode cX12_kills 148 = .ok (.sipush 10007, 3) := by decide +kernel
theorem dX12_kills_151 : decode cX12_kills 151 = .ok (.irem, 1) := by decide +kernel
theorem dX12_kills_152 : decode cX12_kills 152 = .ok (.iastore, 1) := by decide +kernel
theorem dX12_kills_153 : decode cX12_kills 153 = .ok (.iinc 4 1, 3) := by decide +kernel
theorem dX12_kills_156 : decode cX12_kills 156 = .ok (.goto (-102), 3) := by decide +kernel
theorem dX12_kills_159 : decode cX12_kills 159 = .ok (.aload_n 0, 1) := by decide +kernel
theorem dX12_kills_160 : decode cX12_kills 160 = .ok (.iload_n 1, 1) := by decide +kernel
theorem dX12_kills_161 : decode cX12_kills 161 = .ok (.bipush 25, 2) := by decide +kernel
theorem dX12_kills_163 : decode cX12_kills 163 = .ok (.invokevirtual 134, 3) := by decide +kernel
theorem dX12_kills_166 : decode cX12_kills 166 = .ok (.ireturn, 1) := by decide +kernel
theorem dX12_findsLeads_0 : decode cX12_findsLeads 0 = .ok (.iconst 0, 1) := by decide +kernel
theorem dX12_findsLeads_1 : decode cX12_findsLeads 1 = .ok (.istore_n 1, 1) := by decide +kernel
theorem dX12_findsLeads_2 : decode cX12_findsLeads 2 = .ok (.iload_n 1, 1) := by decide +kernel
theorem dX12_findsLeads_3 : decode cX12_findsLeads 3 = .ok (.aload_n 0, 1) := by decide +kernel
theorem dX12_findsLeads_4 : decode cX12_findsLeads 4 = .ok (.getfield 189, 3) := by decide +kernel
theorem dX12_findsLeads_7 : decode cX12_findsLeads 7 = .ok (.if_icmp .ge 56, 3) := by decide +kernel
theorem dX12_findsLeads_10 : decode cX12_findsLeads 10 = .ok (.aload_n 0, 1) := by decide +kernel
theorem dX12_findsLeads_11 : decode cX12_findsLeads 11 = .ok (.getfield 43, 3) := by decide +kernel
theorem dX12_findsLeads_14 : decode cX12_findsLeads 14 = .ok (.iload_n 1, 1) := by decide +kernel
theorem dX12_findsLeads_15 : decode cX12_findsLeads 15 = .ok (.aload_n 0, 1) := by decide +kernel
theorem dX12_findsLeads_16 : decode cX12_findsLeads 16 = .ok (.aload_n 0, 1) := by decide +kernel
theorem dX12_findsLeads_17 : decode cX12_findsLeads 17 = .ok (.getfield 40, 3) := by decide +kernel
theorem dX12_findsLeads_20 : decode cX12_findsLeads 20 = .ok (.iload_n 1, 1) := by decide +kernel
theorem dX12_findsLeads_21 : decode cX12_findsLeads 21 = .ok (.iaload, 1) := by decide +kernel
theorem dX12_findsLeads_22 : decode cX12_findsLeads 22 = .ok (.invokevirtual 149, 3) := by decide +kernel
theorem dX12_findsLeads_25 : decode cX12_findsLeads 25 = .ok (.iastore, 1) := by decide +kernel
theorem dX12_findsLeads_26 : decode cX12_findsLeads 26 = .ok (.aload_n 0, 1) := by decide +kernel
theorem dX12_findsLeads_27 : decode cX12_findsLeads 27 = .ok (.getfield 46, 3) := by decide +kernel
theorem dX12_findsLeads_30 : decode cX12_findsLeads 30 = .ok (.iload_n 1, 1) := by decide +kernel
theorem dX12_findsLeads_31 : decode cX12_findsLeads 31 = .ok (.aload_n 0, 1) := by decide +kernel
theorem dX12_findsLeads_32 : decode cX12_findsLeads 32 = .ok (.getfield 22, 3) := by decide +kernel
theorem dX12_findsLeads_35 : decode cX12_findsLeads 35 = .ok (.sipush 496, 3) := by decide +kernel
theorem dX12_findsLeads_38 : decode cX12_findsLeads 38 = .ok (.aload_n 0, 1) := by decide +kernel
theorem dX12_findsLeads_39 : decode cX12_findsLeads 39 = .ok (.getfield 40, 3) := by decide +kernel
theorem dX12_findsLeads_42 : decode cX12_findsLeads 42 = .ok (.iload_n 1, 1) := by decide +kernel
theorem dX12_findsLeads_43 : decode cX12_findsLeads 43 = .ok (.iaload, 1) := by decide +kernel
theorem dX12_findsLeads_44 : decode cX12_findsLeads 44 = .ok (.imul, 1) := by decide +kernel
theorem dX12_findsLeads_45 : decode cX12_findsLeads 45 = .ok (.aload_n 0, 1) := by decide +kernel
theorem dX12_findsLeads_46 : decode cX12_findsLeads 46 = .ok (.getfield 43, 3) := by decide +kernel
theorem dX12_findsLeads_49 : decode cX12_findsLeads 49 = .ok (.iload_n 1, 1) := by decide +kernel
theorem dX12_findsLeads_50 : decode cX12_findsLeads 50 = .ok (.iaload, 1) := by decide +kernel
theorem dX12_findsLeads_51 : decode cX12_findsLeads 51 = .ok (.iadd, 1) := by decide +kernel
theorem dX12_findsLeads_52 : decode cX12_findsLeads 52 = .ok (.iaload, 1) := by decide +kernel
theorem dX12_findsLeads_53 : decode cX12_findsLeads 53 = .ok (.invokestatic 177, 3) := by decide +kernel
theorem dX12_findsLeads_56 : decode cX12_findsLeads 56 = .ok (.iastore, 1) := by decide +kernel
theorem dX12_findsLeads_57 : decode cX12_findsLeads 57 = .ok (.iinc 1 1, 3) := by decide +kernel
theorem dX12_findsLeads_60 : decode cX12_findsLeads 60 = .ok (.goto (-58), 3) := by decide +kernel
theorem dX12_findsLeads_63 : decode cX12_findsLeads 63 = .ok (.return_, 1) := by decide +kernel
theorem dX12_isBelow_0 : decode cX12_isBelow 0 = .ok (.aload_n 0, 1) := by decide +kernel
theorem dX12_isBelow_1 : decode cX12_isBelow 1 = .ok (.getfield 25, 3) := by decide +kernel
theorem dX12_isBelow_4 : decode cX12_isBelow 4 = .ok (.iload_n 1, 1) := by decide +kernel
theorem dX12_isBelow_5 : decode cX12_isBelow 5 = .ok (.iaload, 1) := by decide +kernel
theorem dX12_isBelow_6 : decode cX12_isBelow 6 = .ok (.aload_n 0, 1) := by decide +kernel
theorem dX12_isBelow_7 : decode cX12_isBelow 7 = .ok (.getfield 25, 3) := by decide +kernel
theorem dX12_isBelow_10 : decode cX12_isBelow 10 = .ok (.iload_n 2, 1) := by decide +kernel
theorem dX12_isBelow_11 : decode cX12_isBelow 11 = .ok (.iaload, 1) := by decide +kernel
theorem dX12_isBelow_12 : decode cX12_isBelow 12 = .ok (.if_icmp .gt 22, 3) := by decide +kernel
theorem dX12_isBelow_15 : decode cX12_isBelow 15 = .ok (.aload_n 0, 1) := by decide +kernel
theorem dX12_isBelow_16 : decode cX12_isBelow 16 = .ok (.getfield 28, 3) := by decide +kernel
theorem dX12_isBelow_19 : decode cX12_isBelow 19 = .ok (.iload_n 1, 1) := by decide +kernel
theorem dX12_isBelow_20 : decode cX12_isBelow 20 = .ok (.iaload, 1) := by decide +kernel
theorem dX12_isBelow_21 : decode cX12_isBelow 21 = .ok (.aload_n 0, 1) := by decide +kernel
theorem dX12_isBelow_22 : decode cX12_isBelow 22 = .ok (.getfield 28, 3) := by decide +kernel
theorem dX12_isBelow_25 : decode cX12_isBelow 25 = .ok (.iload_n 2, 1) := by decide +kernel
theorem dX12_isBelow_26 : decode cX12_isBelow 26 = .ok (.iaload, 1) := by decide +kernel
theorem dX12_isBelow_27 : decode cX12_isBelow 27 = .ok (.if_icmp .gt 7, 3) := by decide +kernel
theorem dX12_isBelow_30 : decode cX12_isBelow 30 = .ok (.iconst 1, 1) := by decide +kernel
theorem dX12_isBelow_31 : decode cX12_isBelow 31 = .ok (.goto 4, 3) := by decide +kernel
theorem dX12_isBelow_34 : decode cX12_isBelow 34 = .ok (.iconst 0, 1) := by decide +kernel
theorem dX12_isBelow_35 : decode cX12_isBelow 35 = .ok (.ireturn, 1) := by decide +kernel
theorem dX12_firstBelow_0 : decode cX12_firstBelow 0 = .ok (.iconst 0, 1) := by decide +kernel
theorem dX12_firstBelow_1 : decode cX12_firstBelow 1 = .ok (.istore_n 2, 1) := by decide +kernel
theorem dX12_firstBelow_2 : decode cX12_firstBelow 2 = .ok (.iload_n 2, 1) := by decide +kernel
theorem dX12_firstBelow_3 : decode cX12_firstBelow 3 = .ok (.aload_n 0, 1) := by decide +kernel
theorem dX12_firstBelow_4 : decode cX12_firstBelow 4 = .ok (.getfield 189, 3) := by decide +kernel
theorem dX12_firstBelow_7 : decode cX12_firstBelow 7 = .ok (.if_icmp .ge 23, 3) := by decide +kernel
theorem dX12_firstBelow_10 : decode cX12_firstBelow 10 = .ok (.aload_n 0, 1) := by decide +kernel
theorem dX12_firstBelow_11 : decode cX12_firstBelow 11 = .ok (.aload_n 0, 1) := by decide +kernel
theorem dX12_firstBelow_12 : decode cX12_firstBelow 12 = .ok (.getfield 43, 3) := by decide +kernel
theorem dX12_firstBelow_15 : decode cX12_firstBelow 15 = .ok (.iload_n 2, 1) := by decide +kernel
theorem dX12_firstBelow_16 : decode cX12_firstBelow 16 = .ok (.iaload, 1) := by decide +kernel
theorem dX12_firstBelow_17 : decode cX12_firstBelow 17 = .ok (.iload_n 1, 1) := by decide +kernel
theorem dX12_firstBelow_18 : decode cX12_firstBelow 18 = .ok (.invokevirtual 192, 3) := by decide +kernel
theorem dX12_firstBelow_21 : decode cX12_firstBelow 21 = .ok (.ifCond .ne 9, 3) := by decide +kernel
theorem dX12_firstBelow_24 : decode cX12_firstBelow 24 = .ok (.iinc 2 1, 3) := by decide +kernel
theorem dX12_firstBelow_27 : decode cX12_firstBelow 27 = .ok (.goto (-25), 3) := by decide +kernel
theorem dX12_firstBelow_30 : decode cX12_firstBelow 30 = .ok (.iload_n 2, 1) := by decide +kernel
theorem dX12_firstBelow_31 : decode cX12_firstBelow 31 = .ok (.ireturn, 1) := by decide +kernel
theorem dX12_rests_0 : decode cX12_rests 0 = .ok (.aload_n 0, 1) := by decide +kernel
theorem dX12_rests_1 : decode cX12_rests 1 = .ok (.invokevirtual 195, 3) := by decide +kernel
theorem dX12_rests_4 : decode cX12_rests 4 = .ok (.aload_n 0, 1) := by decide +kernel
theorem dX12_rests_5 : decode cX12_rests 5 = .ok (.iload_n 1, 1) := by decide +kernel
theorem dX12_rests_6 : decode cX12_rests 6 = .ok (.invokevirtual 78, 3) := by decide +kernel
theorem dX12_rests_9 : decode cX12_rests 9 = .ok (.aload_n 0, 1) := by decide +kernel
theorem dX12_rests_10 : decode cX12_rests 10 = .ok (.bipush 24, 2) := by decide +kernel
theorem dX12_rests_12 : decode cX12_rests 12 = .ok (.invokevirtual 149, 3) := by decide +kernel
theorem dX12_rests_15 : decode cX12_rests 15 = .ok (.istore_n 2, 1) := by decide +kernel
theorem dX12_rests_16 : decode cX12_rests 16 = .ok (.iload_n 2, 1) := by decide +kernel
theorem dX12_rests_17 : decode cX12_rests 17 = .ok (.ifCond .lt 139, 3) := by decide +kernel
theorem dX12_rests_20 : decode cX12_rests 20 = .ok (.aload_n 0, 1) := by decide +kernel
theorem dX12_rests_21 : decode cX12_rests 21 = .ok (.getfield 22, 3) := by decide +kernel
theorem dX12_rests_24 : decode cX12_rests 24 = .ok (.sipush 11904, 3) := by decide +kernel
theorem dX12_rests_27 : decode cX12_rests 27 = .ok (.iload_n 2, 1) := by decide +kernel
theorem dX12_rests_28 : decode cX12_rests 28 = .ok (.iadd, 1) := by decide +kernel
theorem dX12_rests_29 : decode cX12_rests 29 = .ok (.iaload, 1) := by decide +kernel
theorem dX12_rests_30 : decode cX12_rests 30 = .ok (.istore_n 3, 1) := by decide +kernel
theorem dX12_rests_31 : decode cX12_rests 31 = .ok (.aload_n 0, 1) := by decide +kernel
theorem dX12_rests_32 : decode cX12_rests 32 = .ok (.iload_n 2, 1) := by decide +kernel
theorem dX12_rests_33 : decode cX12_rests 33 = .ok (.invokevirtual 198, 3) := by decide +kernel
theorem dX12_rests_36 : decode cX12_rests 36 = .ok (.istore 4, 2) := by decide +kernel
theorem dX12_rests_38 : decode cX12_rests 38 = .ok (.iload 4, 2) := by decide +kernel
theorem dX12_rests_40 : decode cX12_rests 40 = .ok (.aload_n 0, 1) := by decide +kernel
theorem dX12_rests_41 : decode cX12_rests 41 = .ok (.getfield 189, 3) := by decide +kernel
theorem dX12_rests_44 : decode cX12_rests 44 = .ok (.if_icmp .ge 78, 3) := by decide +kernel
theorem dX12_rests_47 : decode cX12_rests 47 = .ok (.iload_n 3, 1) := by decide +kernel
theorem dX12_rests_48 : decode cX12_rests 48 = .ok (.aload_n 0, 1) := by decide +kernel
theorem dX12_rests_49 : decode cX12_rests 49 = .ok (.getfield 46, 3) := by decide +kernel
theorem dX12_rests_52 : decode cX12_rests 52 = .ok (.iload 4, 2) := by decide +kernel
theorem dX12_rests_54 : decode cX12_rests 54 = .ok (.iaload, 1) := by decide +kernel
theorem dX12_rests_55 : decode cX12_rests 55 = .ok (.imul, 1) := by decide +kernel
theorem dX12_rests_56 : decode cX12_rests 56 = .ok (.sipush 10007, 3) := by decide +kernel
theorem dX12_rests_59 : decode cX12_rests 59 = .ok (.irem, 1) := by decide +kernel
theorem dX12_rests_60 : decode cX12_rests 60 = .ok (.istore 5, 2) := by decide +kernel
theorem dX12_rests_62 : decode cX12_rests 62 = .ok (.aload_n 0, 1) := by decide +kernel
theorem dX12_rests_63 : decode cX12_rests 63 = .ok (.aload_n 0, 1) := by decide +kernel
theorem dX12_rests_64 : decode cX12_rests 64 = .ok (.getfield 25, 3) := by decide +kernel
theorem dX12_rests_67 : decode cX12_rests 67 = .ok (.iload_n 2, 1) := by decide +kernel
theorem dX12_rests_68 : decode cX12_rests 68 = .ok (.iaload, 1) := by decide +kernel
theorem dX12_rests_69 : decode cX12_rests 69 = .ok (.aload_n 0, 1) := by decide +kernel
theorem dX12_rests_70 : decode cX12_rests 70 = .ok (.getfield 25, 3) := by decide +kernel
theorem dX12_rests_73 : decode cX12_rests 73 = .ok (.aload_n 0, 1) := by decide +kernel
theorem dX12_rests_74 : decode cX12_rests 74 = .ok (.getfield 43, 3) := by decide +kernel
theorem dX12_rests_77 : decode cX12_rests 77 = .ok (.iload 4, 2) := by decide +kernel
theorem dX12_rests_79 : decode cX12_rests 79 = .ok (.iaload, 1) := by decide +kernel
theorem dX12_rests_80 : decode cX12_rests 80 = .ok (.iaload, 1) := by decide +kernel
theorem dX12_rests_81 : decode cX12_rests 81 = .ok (.isub, 1) := by decide +kernel
theorem dX12_rests_82 : decode cX12_rests 82 = .ok (.aload_n 0, 1) := by decide +kernel
theorem dX12_rests_83 : decode cX12_rests 83 = .ok (.getfield 28, 3) := by decide +kernel
theorem dX12_rests_86 : decode cX12_rests 86 = .ok (.iload_n 2, 1) := by decide +kernel
theorem dX12_rests_87 : decode cX12_rests 87 = .ok (.iaload, 1) := by decide +kernel
theorem dX12_rests_88 : decode cX12_rests 88 = .ok (.aload_n 0, 1) := by decide +kernel
theorem dX12_rests_89 : decode cX12_rests 89 = .ok (.getfield 28, 3) := by decide +kernel
theorem dX12_rests_92 : decode cX12_rests 92 = .ok (.aload_n 0, 1) := by decide +kernel
theorem dX12_rests_93 : decode cX12_rests 93 = .ok (.getfield 43, 3) := by decide +kernel
theorem dX12_rests_96 : decode cX12_rests 96 = .ok (.iload 4, 2) := by decide +kernel
theorem dX12_rests_98 : decode cX12_rests 98 = .ok (.iaload, 1) := by decide +kernel
theorem dX12_rests_99 : decode cX12_rests 99 = .ok (.iaload, 1) := by decide +kernel
theorem dX12_rests_100 : decode cX12_rests 100 = .ok (.isub, 1) := by decide +kernel
theorem dX12_rests_101 : decode cX12_rests 101 = .ok (.sipush 10007, 3) := by decide +kernel
theorem dX12_rests_104 : decode cX12_rests 104 = .ok (.iload 5, 2) := by decide +kernel
theorem dX12_rests_106 : decode cX12_rests 106 = .ok (.isub, 1) := by decide +kernel
theorem dX12_rests_107 : decode cX12_rests 107 = .ok (.aload_n 0, 1) := by decide +kernel
theorem dX12_rests_108 : decode cX12_rests 108 = .ok (.getfield 40, 3) := by decide +kernel
theorem dX12_rests_111 : decode cX12_rests 111 = .ok (.iload 4, 2) := by decide +kernel
theorem dX12_rests_113 : decode cX12_rests 113 = .ok (.iaload, 1) := by decide +kernel
theorem dX12_rests_114 : decode cX12_rests 114 = .ok (.bipush 24, 2) := by decide +kernel
theorem dX12_rests_116 : decode cX12_rests 116 = .ok (.invokevirtual 99, 3) := by decide +kernel
theorem dX12_rests_119 : decode cX12_rests 119 = .ok (.goto 27, 3) := by decide +kernel
theorem dX12_rests_122 : decode cX12_rests 122 = .ok (.aload_n 0, 1) := by decide +kernel
theorem dX12_rests_123 : decode cX12_rests 123 = .ok (.getfield 22, 3) := by decide +kernel
theorem dX12_rests_126 : decode cX12_rests 126 = .ok (.sipush 496, 3) := by decide +kernel
theorem dX12_rests_129 : decode cX12_rests 129 = .ok (.iload_n 1, 1) := by decide +kernel
theorem dX12_rests_130 : decode cX12_rests 130 = .ok (.imul, 1) := by decide +kernel
theorem dX12_rests_131 : decode cX12_rests 131 = .ok (.iload_n 2, 1) := by decide +kernel
theorem dX12_rests_132 : decode cX12_rests 132 = .ok (.iadd, 1) := by decide +kernel
theorem dX12_rests_133 : decode cX12_rests 133 = .ok (.iload_n 3, 1) := by decide +kernel
theorem dX12_rests_134 : decode cX12_rests 134 = .ok (.iastore, 1) := by decide +kernel
theorem dX12_rests_135 : decode cX12_rests 135 = .ok (.aload_n 0, 1) := by decide +kernel
theorem dX12_rests_136 : decode cX12_rests 136 = .ok (.getfield 22, 3) := by decide +kernel
theorem dX12_rests_139 : decode cX12_rests 139 = .ok (.sipush 11904, 3) := by decide +kernel
theorem dX12_rests_142 : decode cX12_rests 142 = .ok (.iload_n 2, 1) := by decide +kernel
theorem dX12_rests_143 : decode cX12_rests 143 = .ok (.iadd, 1) := by decide +kernel
theorem dX12_rests_144 : decode cX12_rests 144 = .ok (.iconst 0, 1) := by decide +kernel
theorem dX12_rests_145 : decode cX12_rests 145 = .ok (.iastore, 1) := by decide +kernel
theorem dX12_rests_146 : decode cX12_rests 146 = .ok (.aload_n 0, 1) := by decide +kernel
theorem dX12_rests_147 : decode cX12_rests 147 = .ok (.bipush 24, 2) := by decide +kernel
theorem dX12_rests_149 : decode cX12_rests 149 = .ok (.invokevirtual 149, 3) := by decide +kernel
theorem dX12_rests_152 : decode cX12_rests 152 = .ok (.istore_n 2, 1) := by decide +kernel
theorem dX12_rests_153 : decode cX12_rests 153 = .ok (.goto (-137), 3) := by decide +kernel
theorem dX12_rests_156 : decode cX12_rests 156 = .ok (.return_, 1) := by decide +kernel
theorem dX12_isSet_0 : decode cX12_isSet 0 = .ok (.iload_n 0, 1) := by decide +kernel
theorem dX12_isSet_1 : decode cX12_isSet 1 = .ok (.iconst 1, 1) := by decide +kernel
theorem dX12_isSet_2 : decode cX12_isSet 2 = .ok (.bipush 63, 2) := by decide +kernel
theorem dX12_isSet_4 : decode cX12_isSet 4 = .ok (.invokestatic 74, 3) := by decide +kernel
theorem dX12_isSet_7 : decode cX12_isSet 7 = .ok (.ireturn, 1) := by decide +kernel
theorem dX12_rest_0 : decode cX12_rest 0 = .ok (.iload_n 1, 1) := by decide +kernel
theorem dX12_rest_1 : decode cX12_rest 1 = .ok (.invokestatic 111, 3) := by decide +kernel
theorem dX12_rest_4 : decode cX12_rest 4 = .ok (.ifCond .eq 17, 3) := by decide +kernel
theorem dX12_rest_7 : decode cX12_rest 7 = .ok (.iload_n 2, 1) := by decide +kernel
theorem dX12_rest_8 : decode cX12_rest 8 = .ok (.invokestatic 111, 3) := by decide +kernel
theorem dX12_rest_11 : decode cX12_rest 11 = .ok (.ifCond .eq 10, 3) := by decide +kernel
theorem dX12_rest_14 : decode cX12_rest 14 = .ok (.iload_n 3, 1) := by decide +kernel
theorem dX12_rest_15 : decode cX12_rest 15 = .ok (.invokestatic 201, 3) := by decide +kernel
theorem dX12_rest_18 : decode cX12_rest 18 = .ok (.ifCond .ne 8, 3) := by decide +kernel
theorem dX12_rest_21 : decode cX12_rest 21 = .ok (.aload_n 0, 1) := by decide +kernel
theorem dX12_rest_22 : decode cX12_rest 22 = .ok (.invokevirtual 119, 3) := by decide +kernel
theorem dX12_rest_25 : decode cX12_rest 25 = .ok (.ireturn, 1) := by decide +kernel
theorem dX12_rest_26 : decode cX12_rest 26 = .ok (.aload_n 0, 1) := by decide +kernel
theorem dX12_rest_27 : decode cX12_rest 27 = .ok (.iconst 0, 1) := by decide +kernel
theorem dX12_rest_28 : decode cX12_rest 28 = .ok (.putfield 189, 3) := by decide +kernel
theorem dX12_rest_31 : decode cX12_rest 31 = .ok (.aload_n 0, 1) := by decide +kernel
theorem dX12_rest_32 : decode cX12_rest 32 = .ok (.iconst 0, 1) := by decide +kernel
theorem dX12_rest_33 : decode cX12_rest 33 = .ok (.putfield 63, 3) := by decide +kernel
theorem dX12_rest_36 : decode cX12_rest 36 = .ok (.iconst 0, 1) := by decide +kernel
theorem dX12_rest_37 : decode cX12_rest 37 = .ok (.istore 4, 2) := by decide +kernel
theorem dX12_rest_39 : decode cX12_rest 39 = .ok (.iload 4, 2) := by decide +kernel
theorem dX12_rest_41 : decode cX12_rest 41 = .ok (.bipush 6, 2) := by decide +kernel
theorem dX12_rest_43 : decode cX12_rest 43 = .ok (.if_icmp .ge 52, 3) := by decide +kernel
theorem dX12_rest_46 : decode cX12_rest 46 = .ok (.iload_n 3, 1) := by decide +kernel
theorem dX12_rest_47 : decode cX12_rest 47 = .ok (.iload 4, 2) := by decide +kernel
theorem dX12_rest_49 : decode cX12_rest 49 = .ok (.ishr, 1) := by decide +kernel
theorem dX12_rest_50 : decode cX12_rest 50 = .ok (.iconst 1, 1) := by decide +kernel
theorem dX12_rest_51 : decode cX12_rest 51 = .ok (.iand, 1) := by decide +kernel
theorem dX12_rest_52 : decode cX12_rest 52 = .ok (.iconst 1, 1) := by decide +kernel
theorem dX12_rest_53 : decode cX12_rest 53 = .ok (.if_icmp .ne 36, 3) := by decide +kernel
theorem dX12_rest_56 : decode cX12_rest 56 = .ok (.aload_n 0, 1) := by decide +kernel
theorem dX12_rest_57 : decode cX12_rest 57 = .ok (.iload 4, 2) := by decide +kernel
theorem dX12_rest_59 : decode cX12_rest 59 = .ok (.aload_n 0, 1) := by decide +kernel
theorem dX12_rest_60 : decode cX12_rest 60 = .ok (.getfield 189, 3) := by decide +kernel
theorem dX12_rest_63 : decode cX12_rest 63 = .ok (.invokevirtual 128, 3) := by decide +kernel
theorem dX12_rest_66 : decode cX12_rest 66 = .ok (.aload_n 0, 1) := by decide +kernel
theorem dX12_rest_67 : decode cX12_rest 67 = .ok (.getfield 40, 3) := by decide +kernel
theorem dX12_rest_70 : decode cX12_rest 70 = .ok (.aload_n 0, 1) := by decide +kernel
theorem dX12_rest_71 : decode cX12_rest 71 = .ok (.getfield 189, 3) := by decide +kernel
theorem dX12_rest_74 : decode cX12_rest 74 = .ok (.aload_n 0, 1) := by decide +kernel
theorem dX12_rest_75 : decode cX12_rest 75 = .ok (.getfield 189, 3) := by decide +kernel
theorem dX12_rest_78 : decode cX12_rest 78 = .ok (.iastore, 1) := by decide +kernel
theorem dX12_rest_79 : decode cX12_rest 79 = .ok (.aload_n 0, 1) := by decide +kernel
theorem dX12_rest_80 : decode cX12_rest 80 = .ok (.dup, 1) := by decide +kernel
theorem dX12_rest_81 : decode cX12_rest 81 = .ok (.getfield 189, 3) := by decide +kernel
theorem dX12_rest_84 : decode cX12_rest 84 = .ok (.iconst 1, 1) := by decide +kernel
theorem dX12_rest_85 : decode cX12_rest 85 = .ok (.iadd, 1) := by decide +kernel
theorem dX12_rest_86 : decode cX12_rest 86 = .ok (.putfield 189, 3) := by decide +kernel
theorem dX12_rest_89 : decode cX12_rest 89 = .ok (.iinc 4 1, 3) := by decide +kernel
theorem dX12_rest_92 : decode cX12_rest 92 = .ok (.goto (-53), 3) := by decide +kernel
theorem dX12_rest_95 : decode cX12_rest 95 = .ok (.iconst 0, 1) := by decide +kernel
theorem dX12_rest_96 : decode cX12_rest 96 = .ok (.istore 4, 2) := by decide +kernel
theorem dX12_rest_98 : decode cX12_rest 98 = .ok (.iload 4, 2) := by decide +kernel
theorem dX12_rest_100 : decode cX12_rest 100 = .ok (.aload_n 0, 1) := by decide +kernel
theorem dX12_rest_101 : decode cX12_rest 101 = .ok (.getfield 189, 3) := by decide +kernel
theorem dX12_rest_104 : decode cX12_rest 104 = .ok (.if_icmp .ge 28, 3) := by decide +kernel
theorem dX12_rest_107 : decode cX12_rest 107 = .ok (.aload_n 0, 1) := by decide +kernel
theorem dX12_rest_108 : decode cX12_rest 108 = .ok (.aload_n 0, 1) := by decide +kernel
theorem dX12_rest_109 : decode cX12_rest 109 = .ok (.getfield 40, 3) := by decide +kernel
theorem dX12_rest_112 : decode cX12_rest 112 = .ok (.iload 4, 2) := by decide +kernel
theorem dX12_rest_114 : decode cX12_rest 114 = .ok (.iaload, 1) := by decide +kernel
theorem dX12_rest_115 : decode cX12_rest 115 = .ok (.invokevirtual 89, 3) := by decide +kernel
theorem dX12_rest_118 : decode cX12_rest 118 = .ok (.ifCond .ge 8, 3) := by decide +kernel
theorem dX12_rest_121 : decode cX12_rest 121 = .ok (.aload_n 0, 1) := by decide +kernel
theorem dX12_rest_122 : decode cX12_rest 122 = .ok (.invokevirtual 70, 3) := by decide +kernel
theorem dX12_rest_125 : decode cX12_rest 125 = .ok (.ireturn, 1) := by decide +kernel
theorem dX12_rest_126 : decode cX12_rest 126 = .ok (.iinc 4 1, 3) := by decide +kernel
theorem dX12_rest_129 : decode cX12_rest 129 = .ok (.goto (-31), 3) := by decide +kernel
theorem dX12_rest_132 : decode cX12_rest 132 = .ok (.aload_n 0, 1) := by decide +kernel
theorem dX12_rest_133 : decode cX12_rest 133 = .ok (.iload_n 2, 1) := by decide +kernel
theorem dX12_rest_134 : decode cX12_rest 134 = .ok (.bipush 24, 2) := by decide +kernel
theorem dX12_rest_136 : decode cX12_rest 136 = .ok (.invokevirtual 128, 3) := by decide +kernel
theorem dX12_rest_139 : decode cX12_rest 139 = .ok (.aload_n 0, 1) := by decide +kernel
theorem dX12_rest_140 : decode cX12_rest 140 = .ok (.bipush 25, 2) := by decide +kernel
theorem dX12_rest_142 : decode cX12_rest 142 = .ok (.invokevirtual 204, 3) := by decide +kernel
theorem dX12_rest_145 : decode cX12_rest 145 = .ok (.aload_n 0, 1) := by decide +kernel
theorem dX12_rest_146 : decode cX12_rest 146 = .ok (.iload_n 1, 1) := by decide +kernel
theorem dX12_rest_147 : decode cX12_rest 147 = .ok (.bipush 25, 2) := by decide +kernel
theorem dX12_rest_149 : decode cX12_rest 149 = .ok (.invokevirtual 134, 3) := by decide +kernel
theorem dX12_rest_152 : decode cX12_rest 152 = .ok (.ireturn, 1) := by decide +kernel
theorem dX12_evens_0 : decode cX12_evens 0 = .ok (.aload_n 0, 1) := by decide +kernel
theorem dX12_evens_1 : decode cX12_evens 1 = .ok (.getfield 22, 3) := by decide +kernel
theorem dX12_evens_4 : decode cX12_evens 4 = .ok (.sipush 496, 3) := by decide +kernel
theorem dX12_evens_7 : decode cX12_evens 7 = .ok (.iload_n 1, 1) := by decide +kernel
theorem dX12_evens_8 : decode cX12_evens 8 = .ok (.imul, 1) := by decide +kernel
theorem dX12_evens_9 : decode cX12_evens 9 = .ok (.aload_n 0, 1) := by decide +kernel
theorem dX12_evens_10 : decode cX12_evens 10 = .ok (.iload_n 1, 1) := by decide +kernel
theorem dX12_evens_11 : decode cX12_evens 11 = .ok (.invokevirtual 149, 3) := by decide +kernel
theorem dX12_evens_14 : decode cX12_evens 14 = .ok (.iadd, 1) := by decide +kernel
theorem dX12_evens_15 : decode cX12_evens 15 = .ok (.iaload, 1) := by decide +kernel
theorem dX12_evens_16 : decode cX12_evens 16 = .ok (.invokestatic 177, 3) := by decide +kernel
theorem dX12_evens_19 : decode cX12_evens 19 = .ok (.istore_n 2, 1) := by decide +kernel
theorem dX12_evens_20 : decode cX12_evens 20 = .ok (.iconst 0, 1) := by decide +kernel
theorem dX12_evens_21 : decode cX12_evens 21 = .ok (.istore_n 3, 1) := by decide +kernel
theorem dX12_evens_22 : decode cX12_evens 22 = .ok (.iload_n 3, 1) := by decide +kernel
theorem dX12_evens_23 : decode cX12_evens 23 = .ok (.sipush 496, 3) := by decide +kernel
theorem dX12_evens_26 : decode cX12_evens 26 = .ok (.if_icmp .ge 39, 3) := by decide +kernel
theorem dX12_evens_29 : decode cX12_evens 29 = .ok (.aload_n 0, 1) := by decide +kernel
theorem dX12_evens_30 : decode cX12_evens 30 = .ok (.getfield 22, 3) := by decide +kernel
theorem dX12_evens_33 : decode cX12_evens 33 = .ok (.sipush 496, 3) := by decide +kernel
theorem dX12_evens_36 : decode cX12_evens 36 = .ok (.iload_n 1, 1) := by decide +kernel
theorem dX12_evens_37 : decode cX12_evens 37 = .ok (.imul, 1) := by decide +kernel
theorem dX12_evens_38 : decode cX12_evens 38 = .ok (.iload_n 3, 1) := by decide +kernel
theorem dX12_evens_39 : decode cX12_evens 39 = .ok (.iadd, 1) := by decide +kernel
theorem dX12_evens_40 : decode cX12_evens 40 = .ok (.aload_n 0, 1) := by decide +kernel
theorem dX12_evens_41 : decode cX12_evens 41 = .ok (.getfield 22, 3) := by decide +kernel
theorem dX12_evens_44 : decode cX12_evens 44 = .ok (.sipush 496, 3) := by decide +kernel
theorem dX12_evens_47 : decode cX12_evens 47 = .ok (.iload_n 1, 1) := by decide +kernel
theorem dX12_evens_48 : decode cX12_evens 48 = .ok (.imul, 1) := by decide +kernel
theorem dX12_evens_49 : decode cX12_evens 49 = .ok (.iload_n 3, 1) := by decide +kernel
theorem dX12_evens_50 : decode cX12_evens 50 = .ok (.iadd, 1) := by decide +kernel
theorem dX12_evens_51 : decode cX12_evens 51 = .ok (.iaload, 1) := by decide +kernel
theorem dX12_evens_52 : decode cX12_evens 52 = .ok (.iload_n 2, 1) := by decide +kernel
theorem dX12_evens_53 : decode cX12_evens 53 = .ok (.imul, 1) := by decide +kernel
theorem dX12_evens_54 : decode cX12_evens 54 = .ok (.sipush 10007, 3) := by decide +kernel
theorem dX12_evens_57 : decode cX12_evens 57 = .ok (.irem, 1) := by decide +kernel
theorem dX12_evens_58 : decode cX12_evens 58 = .ok (.iastore, 1) := by decide +kernel
theorem dX12_evens_59 : decode cX12_evens 59 = .ok (.iinc 3 1, 3) := by decide +kernel
theorem dX12_evens_62 : decode cX12_evens 62 = .ok (.goto (-40), 3) := by decide +kernel
theorem dX12_evens_65 : decode cX12_evens 65 = .ok (.return_, 1) := by decide +kernel
theorem dX12_areAlike_0 : decode cX12_areAlike 0 = .ok (.iconst 1, 1) := by decide +kernel
theorem dX12_areAlike_1 : decode cX12_areAlike 1 = .ok (.istore_n 3, 1) := by decide +kernel
theorem dX12_areAlike_2 : decode cX12_areAlike 2 = .ok (.iconst 0, 1) := by decide +kernel
theorem dX12_areAlike_3 : decode cX12_areAlike 3 = .ok (.istore 4, 2) := by decide +kernel
theorem dX12_areAlike_5 : decode cX12_areAlike 5 = .ok (.iload 4, 2) := by decide +kernel
theorem dX12_areAlike_7 : decode cX12_areAlike 7 = .ok (.sipush 496, 3) := by decide +kernel
theorem dX12_areAlike_10 : decode cX12_areAlike 10 = .ok (.if_icmp .ge 48, 3) := by decide +kernel
theorem dX12_areAlike_13 : decode cX12_areAlike 13 = .ok (.iload_n 3, 1) := by decide +kernel
theorem dX12_areAlike_14 : decode cX12_areAlike 14 = .ok (.ifCond .eq 36, 3) := by decide +kernel
theorem dX12_areAlike_17 : decode cX12_areAlike 17 = .ok (.aload_n 0, 1) := by decide +kernel
theorem dX12_areAlike_18 : decode cX12_areAlike 18 = .ok (.getfield 22, 3) := by decide +kernel
theorem dX12_areAlike_21 : decode cX12_areAlike 21 = .ok (.sipush 496, 3) := by decide +kernel
theorem dX12_areAlike_24 : decode cX12_areAlike 24 = .ok (.iload_n 1, 1) := by decide +kernel
theorem dX12_areAlike_25 : decode cX12_areAlike 25 = .ok (.imul, 1) := by decide +kernel
theorem dX12_areAlike_26 : decode cX12_areAlike 26 = .ok (.iload 4, 2) := by decide +kernel
theorem dX12_areAlike_28 : decode cX12_areAlike 28 = .ok (.iadd, 1) := by decide +kernel
theorem dX12_areAlike_29 : decode cX12_areAlike 29 = .ok (.iaload, 1) := by decide +kernel
theorem dX12_areAlike_30 : decode cX12_areAlike 30 = .ok (.aload_n 0, 1) := by decide +kernel
theorem dX12_areAlike_31 : decode cX12_areAlike 31 = .ok (.getfield 22, 3) := by decide +kernel
theorem dX12_areAlike_34 : decode cX12_areAlike 34 = .ok (.sipush 496, 3) := by decide +kernel
theorem dX12_areAlike_37 : decode cX12_areAlike 37 = .ok (.iload_n 2, 1) := by decide +kernel
theorem dX12_areAlike_38 : decode cX12_areAlike 38 = .ok (.imul, 1) := by decide +kernel
theorem dX12_areAlike_39 : decode cX12_areAlike 39 = .ok (.iload 4, 2) := by decide +kernel
theorem dX12_areAlike_41 : decode cX12_areAlike 41 = .ok (.iadd, 1) := by decide +kernel
theorem dX12_areAlike_42 : decode cX12_areAlike 42 = .ok (.iaload, 1) := by decide +kernel
theorem dX12_areAlike_43 : decode cX12_areAlike 43 = .ok (.if_icmp .ne 7, 3) := by decide +kernel
theorem dX12_areAlike_46 : decode cX12_areAlike 46 = .ok (.iconst 1, 1) := by decide +kernel
theorem dX12_areAlike_47 : decode cX12_areAlike 47 = .ok (.goto 4, 3) := by decide +kernel
theorem dX12_areAlike_50 : decode cX12_areAlike 50 = .ok (.iconst 0, 1) := by decide +kernel
theorem dX12_areAlike_51 : decode cX12_areAlike 51 = .ok (.istore_n 3, 1) := by decide +kernel
theorem dX12_areAlike_52 : decode cX12_areAlike 52 = .ok (.iinc 4 1, 3) := by decide +kernel
theorem dX12_areAlike_55 : decode cX12_areAlike 55 = .ok (.goto (-50), 3) := by decide +kernel
theorem dX12_areAlike_58 : decode cX12_areAlike 58 = .ok (.iload_n 3, 1) := by decide +kernel
theorem dX12_areAlike_59 : decode cX12_areAlike 59 = .ok (.ireturn, 1) := by decide +kernel
theorem dX12_rowGoes_0 : decode cX12_rowGoes 0 = .ok (.aload_n 0, 1) := by decide +kernel
theorem dX12_rowGoes_1 : decode cX12_rowGoes 1 = .ok (.dup, 1) := by decide +kernel
theorem dX12_rowGoes_2 : decode cX12_rowGoes 2 = .ok (.getfield 207, 3) := by decide +kernel
theorem dX12_rowGoes_5 : decode cX12_rowGoes 5 = .ok (.iconst 1, 1) := by decide +kernel
theorem dX12_rowGoes_6 : decode cX12_rowGoes 6 = .ok (.isub, 1) := by decide +kernel
theorem dX12_rowGoes_7 : decode cX12_rowGoes 7 = .ok (.putfield 207, 3) := by decide +kernel
theorem dX12_rowGoes_10 : decode cX12_rowGoes 10 = .ok (.iload_n 1, 1) := by decide +kernel
theorem dX12_rowGoes_11 : decode cX12_rowGoes 11 = .ok (.istore_n 2, 1) := by decide +kernel
theorem dX12_rowGoes_12 : decode cX12_rowGoes 12 = .ok (.iload_n 2, 1) := by decide +kernel
theorem dX12_rowGoes_13 : decode cX12_rowGoes 13 = .ok (.aload_n 0, 1) := by decide +kernel
theorem dX12_rowGoes_14 : decode cX12_rowGoes 14 = .ok (.getfield 207, 3) := by decide +kernel
theorem dX12_rowGoes_17 : decode cX12_rowGoes 17 = .ok (.if_icmp .ge 17, 3) := by decide +kernel
theorem dX12_rowGoes_20 : decode cX12_rowGoes 20 = .ok (.aload_n 0, 1) := by decide +kernel
theorem dX12_rowGoes_21 : decode cX12_rowGoes 21 = .ok (.iload_n 2, 1) := by decide +kernel
theorem dX12_rowGoes_22 : decode cX12_rowGoes 22 = .ok (.iconst 1, 1) := by decide +kernel
theorem dX12_rowGoes_23 : decode cX12_rowGoes 23 = .ok (.iadd, 1) := by decide +kernel
theorem dX12_rowGoes_24 : decode cX12_rowGoes 24 = .ok (.iload_n 2, 1) := by decide +kernel
theorem dX12_rowGoes_25 : decode cX12_rowGoes 25 = .ok (.invokevirtual 103, 3) := by decide +kernel
theorem dX12_rowGoes_28 : decode cX12_rowGoes 28 = .ok (.iinc 2 1, 3) := by decide +kernel
theorem dX12_rowGoes_31 : decode cX12_rowGoes 31 = .ok (.goto (-19), 3) := by decide +kernel
theorem dX12_rowGoes_34 : decode cX12_rowGoes 34 = .ok (.return_, 1) := by decide +kernel
theorem dX12_takesBy_0 : decode cX12_takesBy 0 = .ok (.aload_n 0, 1) := by decide +kernel
theorem dX12_takesBy_1 : decode cX12_takesBy 1 = .ok (.iconst 0, 1) := by decide +kernel
theorem dX12_takesBy_2 : decode cX12_takesBy 2 = .ok (.putfield 189, 3) := by decide +kernel
theorem dX12_takesBy_5 : decode cX12_takesBy 5 = .ok (.iconst 0, 1) := by decide +kernel
theorem dX12_takesBy_6 : decode cX12_takesBy 6 = .ok (.istore_n 2, 1) := by decide +kernel
theorem dX12_takesBy_7 : decode cX12_takesBy 7 = .ok (.iload_n 2, 1) := by decide +kernel
theorem dX12_takesBy_8 : decode cX12_takesBy 8 = .ok (.aload_n 0, 1) := by decide +kernel
theorem dX12_takesBy_9 : decode cX12_takesBy 9 = .ok (.getfield 207, 3) := by decide +kernel
theorem dX12_takesBy_12 : decode cX12_takesBy 12 = .ok (.if_icmp .ge 34, 3) := by decide +kernel
theorem dX12_takesBy_15 : decode cX12_takesBy 15 = .ok (.iload_n 2, 1) := by decide +kernel
theorem dX12_takesBy_16 : decode cX12_takesBy 16 = .ok (.iload_n 1, 1) := by decide +kernel
theorem dX12_takesBy_17 : decode cX12_takesBy 17 = .ok (.if_icmp .eq 23, 3) := by decide +kernel
theorem dX12_takesBy_20 : decode cX12_takesBy 20 = .ok (.aload_n 0, 1) := by decide +kernel
theorem dX12_takesBy_21 : decode cX12_takesBy 21 = .ok (.getfield 40, 3) := by decide +kernel
theorem dX12_takesBy_24 : decode cX12_takesBy 24 = .ok (.aload_n 0, 1) := by decide +kernel
theorem dX12_takesBy_25 : decode cX12_takesBy 25 = .ok (.getfield 189, 3) := by decide +kernel
theorem dX12_takesBy_28 : decode cX12_takesBy 28 = .ok (.iload_n 2, 1) := by decide +kernel
theorem dX12_takesBy_29 : decode cX12_takesBy 29 = .ok (.iastore, 1) := by decide +kernel
theorem dX12_takesBy_30 : decode cX12_takesBy 30 = .ok (.aload_n 0, 1) := by decide +kernel
theorem dX12_takesBy_31 : decode cX12_takesBy 31 = .ok (.dup, 1) := by decide +kernel
theorem dX12_takesBy_32 : decode cX12_takesBy 32 = .ok (.getfield 189, 3) := by decide +kernel
theorem dX12_takesBy_35 : decode cX12_takesBy 35 = .ok (.iconst 1, 1) := by decide +kernel
theorem dX12_takesBy_36 : decode cX12_takesBy 36 = .ok (.iadd, 1) := by decide +kernel
theorem dX12_takesBy_37 : decode cX12_takesBy 37 = .ok (.putfield 189, 3) := by decide +kernel
theorem dX12_takesBy_40 : decode cX12_takesBy 40 = .ok (.iinc 2 1, 3) := by decide +kernel
theorem dX12_takesBy_43 : decode cX12_takesBy 43 = .ok (.goto (-36), 3) := by decide +kernel
theorem dX12_takesBy_46 : decode cX12_takesBy 46 = .ok (.return_, 1) := by decide +kernel
theorem dX12_tidies_0 : decode cX12_tidies 0 = .ok (.iconst 1, 1) := by decide +kernel
theorem dX12_tidies_1 : decode cX12_tidies 1 = .ok (.istore_n 1, 1) := by decide +kernel
theorem dX12_tidies_2 : decode cX12_tidies 2 = .ok (.iload_n 1, 1) := by decide +kernel
theorem dX12_tidies_3 : decode cX12_tidies 3 = .ok (.ifCond .eq 95, 3) := by decide +kernel
theorem dX12_tidies_6 : decode cX12_tidies 6 = .ok (.iconst 0, 1) := by decide +kernel
theorem dX12_tidies_7 : decode cX12_tidies 7 = .ok (.istore_n 1, 1) := by decide +kernel
theorem dX12_tidies_8 : decode cX12_tidies 8 = .ok (.aload_n 0, 1) := by decide +kernel
theorem dX12_tidies_9 : decode cX12_tidies 9 = .ok (.getfield 207, 3) := by decide +kernel
theorem dX12_tidies_12 : decode cX12_tidies 12 = .ok (.iconst 1, 1) := by decide +kernel
theorem dX12_tidies_13 : decode cX12_tidies 13 = .ok (.isub, 1) := by decide +kernel
theorem dX12_tidies_14 : decode cX12_tidies 14 = .ok (.istore_n 2, 1) := by decide +kernel
theorem dX12_tidies_15 : decode cX12_tidies 15 = .ok (.iload_n 2, 1) := by decide +kernel
theorem dX12_tidies_16 : decode cX12_tidies 16 = .ok (.ifCond .lt 79, 3) := by decide +kernel
theorem dX12_tidies_19 : decode cX12_tidies 19 = .ok (.aload_n 0, 1) := by decide +kernel
theorem dX12_tidies_20 : decode cX12_tidies 20 = .ok (.iload_n 2, 1) := by decide +kernel
theorem dX12_tidies_21 : decode cX12_tidies 21 = .ok (.invokevirtual 210, 3) := by decide +kernel
theorem dX12_tidies_24 : decode cX12_tidies 24 = .ok (.aload_n 0, 1) := by decide +kernel
theorem dX12_tidies_25 : decode cX12_tidies 25 = .ok (.iload_n 2, 1) := by decide +kernel
theorem dX12_tidies_26 : decode cX12_tidies 26 = .ok (.bipush 24, 2) := by decide +kernel
theorem dX12_tidies_28 : decode cX12_tidies 28 = .ok (.invokevirtual 103, 3) := by decide +kernel
theorem dX12_tidies_31 : decode cX12_tidies 31 = .ok (.aload_n 0, 1) := by decide +kernel
theorem dX12_tidies_32 : decode cX12_tidies 32 = .ok (.bipush 25, 2) := by decide +kernel
theorem dX12_tidies_34 : decode cX12_tidies 34 = .ok (.invokevirtual 204, 3) := by decide +kernel
theorem dX12_tidies_37 : decode cX12_tidies 37 = .ok (.aload_n 0, 1) := by decide +kernel
theorem dX12_tidies_38 : decode cX12_tidies 38 = .ok (.bipush 25, 2) := by decide +kernel
theorem dX12_tidies_40 : decode cX12_tidies 40 = .ok (.invokevirtual 89, 3) := by decide +kernel
theorem dX12_tidies_43 : decode cX12_tidies 43 = .ok (.ifCond .ge 13, 3) := by decide +kernel
theorem dX12_tidies_46 : decode cX12_tidies 46 = .ok (.aload_n 0, 1) := by decide +kernel
theorem dX12_tidies_47 : decode cX12_tidies 47 = .ok (.iload_n 2, 1) := by decide +kernel
theorem dX12_tidies_48 : decode cX12_tidies 48 = .ok (.invokevirtual 213, 3) := by decide +kernel
theorem dX12_tidies_51 : decode cX12_tidies 51 = .ok (.iconst 1, 1) := by decide +kernel
theorem dX12_tidies_52 : decode cX12_tidies 52 = .ok (.istore_n 1, 1) := by decide +kernel
theorem dX12_tidies_53 : decode cX12_tidies 53 = .ok (.goto 36, 3) := by decide +kernel
theorem dX12_tidies_56 : decode cX12_tidies 56 = .ok (.aload_n 0, 1) := by decide +kernel
theorem dX12_tidies_57 : decode cX12_tidies 57 = .ok (.bipush 25, 2) := by decide +kernel
theorem dX12_tidies_59 : decode cX12_tidies 59 = .ok (.invokevirtual 216, 3) := by decide +kernel
theorem dX12_tidies_62 : decode cX12_tidies 62 = .ok (.iload_n 1, 1) := by decide +kernel
theorem dX12_tidies_63 : decode cX12_tidies 63 = .ok (.ifCond .ne 13, 3) := by decide +kernel
theorem dX12_tidies_66 : decode cX12_tidies 66 = .ok (.aload_n 0, 1) := by decide +kernel
theorem dX12_tidies_67 : decode cX12_tidies 67 = .ok (.bipush 25, 2) := by decide +kernel
theorem dX12_tidies_69 : decode cX12_tidies 69 = .ok (.iload_n 2, 1) := by decide +kernel
theorem dX12_tidies_70 : decode cX12_tidies 70 = .ok (.invokevirtual 219, 3) := by decide +kernel
theorem dX12_tidies_73 : decode cX12_tidies 73 = .ok (.ifCond .ne 7, 3) := by decide +kernel
theorem dX12_tidies_76 : decode cX12_tidies 76 = .ok (.iconst 1, 1) := by decide +kernel
theorem dX12_tidies_77 : decode cX12_tidies 77 = .ok (.goto 4, 3) := by decide +kernel
theorem dX12_tidies_80 : decode cX12_tidies 80 = .ok (.iconst 0, 1) := by decide +kernel
theorem dX12_tidies_81 : decode cX12_tidies 81 = .ok (.istore_n 1, 1) := by decide +kernel
theorem dX12_tidies_82 : decode cX12_tidies 82 = .ok (.aload_n 0, 1) := by decide +kernel
theorem dX12_tidies_83 : decode cX12_tidies 83 = .ok (.bipush 25, 2) := by decide +kernel
theorem dX12_tidies_85 : decode cX12_tidies 85 = .ok (.iload_n 2, 1) := by decide +kernel
theorem dX12_tidies_86 : decode cX12_tidies 86 = .ok (.invokevirtual 103, 3) := by decide +kernel
theorem dX12_tidies_89 : decode cX12_tidies 89 = .ok (.iinc 2 (-1), 3) := by decide +kernel
theorem dX12_tidies_92 : decode cX12_tidies 92 = .ok (.goto (-77), 3) := by decide +kernel
theorem dX12_tidies_95 : decode cX12_tidies 95 = .ok (.goto (-93), 3) := by decide +kernel
theorem dX12_tidies_98 : decode cX12_tidies 98 = .ok (.return_, 1) := by decide +kernel
theorem dX12_isAhead_0 : decode cX12_isAhead 0 = .ok (.aload_n 0, 1) := by decide +kernel
theorem dX12_isAhead_1 : decode cX12_isAhead 1 = .ok (.getfield 25, 3) := by decide +kernel
theorem dX12_isAhead_4 : decode cX12_isAhead 4 = .ok (.iload_n 1, 1) := by decide +kernel
theorem dX12_isAhead_5 : decode cX12_isAhead 5 = .ok (.iaload, 1) := by decide +kernel
theorem dX12_isAhead_6 : decode cX12_isAhead 6 = .ok (.aload_n 0, 1) := by decide +kernel
theorem dX12_isAhead_7 : decode cX12_isAhead 7 = .ok (.getfield 28, 3) := by decide +kernel
theorem dX12_isAhead_10 : decode cX12_isAhead 10 = .ok (.iload_n 1, 1) := by decide +kernel
theorem dX12_isAhead_11 : decode cX12_isAhead 11 = .ok (.iaload, 1) := by decide +kernel
theorem dX12_isAhead_12 : decode cX12_isAhead 12 = .ok (.iadd, 1) := by decide +kernel
theorem dX12_isAhead_13 : decode cX12_isAhead 13 = .ok (.istore_n 3, 1) := by decide +kernel
theorem dX12_isAhead_14 : decode cX12_isAhead 14 = .ok (.aload_n 0, 1) := by decide +kernel
theorem dX12_isAhead_15 : decode cX12_isAhead 15 = .ok (.getfield 25, 3) := by decide +kernel
theorem dX12_isAhead_18 : decode cX12_isAhead 18 = .ok (.iload_n 2, 1) := by decide +kernel
theorem dX12_isAhead_19 : decode cX12_isAhead 19 = .ok (.iaload, 1) := by decide +kernel
theorem dX12_isAhead_20 : decode cX12_isAhead 20 = .ok (.aload_n 0, 1) := by decide +kernel
theorem dX12_isAhead_21 : decode cX12_isAhead 21 = .ok (.getfield 28, 3) := by decide +kernel
theorem dX12_isAhead_24 : decode cX12_isAhead 24 = .ok (.iload_n 2, 1) := by decide +kernel
theorem dX12_isAhead_25 : decode cX12_isAhead 25 = .ok (.iaload, 1) := by decide +kernel
theorem dX12_isAhead_26 : decode cX12_isAhead 26 = .ok (.iadd, 1) := by decide +kernel
theorem dX12_isAhead_27 : decode cX12_isAhead 27 = .ok (.istore 4, 2) := by decide +kernel
theorem dX12_isAhead_29 : decode cX12_isAhead 29 = .ok (.iload_n 3, 1) := by decide +kernel
theorem dX12_isAhead_30 : decode cX12_isAhead 30 = .ok (.iload 4, 2) := by decide +kernel
theorem dX12_isAhead_32 : decode cX12_isAhead 32 = .ok (.if_icmp .gt 53, 3) := by decide +kernel
theorem dX12_isAhead_35 : decode cX12_isAhead 35 = .ok (.iload_n 3, 1) := by decide +kernel
theorem dX12_isAhead_36 : decode cX12_isAhead 36 = .ok (.iload 4, 2) := by decide +kernel
theorem dX12_isAhead_38 : decode cX12_isAhead 38 = .ok (.if_icmp .ne 51, 3) := by decide +kernel
theorem dX12_isAhead_41 : decode cX12_isAhead 41 = .ok (.aload_n 0, 1) := by decide +kernel
theorem dX12_isAhead_42 : decode cX12_isAhead 42 = .ok (.getfield 7, 3) := by decide +kernel
theorem dX12_isAhead_45 : decode cX12_isAhead 45 = .ok (.sipush 608, 3) := by decide +kernel
theorem dX12_isAhead_48 : decode cX12_isAhead 48 = .ok (.iaload, 1) := by decide +kernel
theorem dX12_isAhead_49 : decode cX12_isAhead 49 = .ok (.ifCond .ne 21, 3) := by decide +kernel
theorem dX12_isAhead_52 : decode cX12_isAhead 52 = .ok (.aload_n 0, 1) := by decide +kernel
theorem dX12_isAhead_53 : decode cX12_isAhead 53 = .ok (.getfield 28, 3) := by decide +kernel
theorem dX12_isAhead_56 : decode cX12_isAhead 56 = .ok (.iload_n 1, 1) := by decide +kernel
theorem dX12_isAhead_57 : decode cX12_isAhead 57 = .ok (.iaload, 1) := by decide +kernel
theorem dX12_isAhead_58 : decode cX12_isAhead 58 = .ok (.aload_n 0, 1) := by decide +kernel
theorem dX12_isAhead_59 : decode cX12_isAhead 59 = .ok (.getfield 28, 3) := by decide +kernel
theorem dX12_isAhead_62 : decode cX12_isAhead 62 = .ok (.iload_n 2, 1) := by decide +kernel
theorem dX12_isAhead_63 : decode cX12_isAhead 63 = .ok (.iaload, 1) := by decide +kernel
theorem dX12_isAhead_64 : decode cX12_isAhead 64 = .ok (.if_icmp .le 25, 3) := by decide +kernel
theorem dX12_isAhead_67 : decode cX12_isAhead 67 = .ok (.goto 18, 3) := by decide +kernel
theorem dX12_isAhead_70 : decode cX12_isAhead 70 = .ok (.aload_n 0, 1) := by decide +kernel
theorem dX12_isAhead_71 : decode cX12_isAhead 71 = .ok (.getfield 25, 3) := by decide +kernel
theorem dX12_isAhead_74 : decode cX12_isAhead 74 = .ok (.iload_n 1, 1) := by decide +kernel
theorem dX12_isAhead_75 : decode cX12_isAhead 75 = .ok (.iaload, 1) := by decide +kernel
theorem dX12_isAhead_76 : decode cX12_isAhead 76 = .ok (.aload_n 0, 1) := by decide +kernel
theorem dX12_isAhead_77 : decode cX12_isAhead 77 = .ok (.getfield 25, 3) := by decide +kernel
theorem dX12_isAhead_80 : decode cX12_isAhead 80 = .ok (.iload_n 2, 1) := by decide +kernel
theorem dX12_isAhead_81 : decode cX12_isAhead 81 = .ok (.iaload, 1) := by decide +kernel
theorem dX12_isAhead_82 : decode cX12_isAhead 82 = .ok (.if_icmp .le 7, 3) := by decide +kernel
theorem dX12_isAhead_85 : decode cX12_isAhead 85 = .ok (.iconst 1, 1) := by decide +kernel
theorem dX12_isAhead_86 : decode cX12_isAhead 86 = .ok (.goto 4, 3) := by decide +kernel
theorem dX12_isAhead_89 : decode cX12_isAhead 89 = .ok (.iconst 0, 1) := by decide +kernel
theorem dX12_isAhead_90 : decode cX12_isAhead 90 = .ok (.ireturn, 1) := by decide +kernel
theorem dX12_exchanges_0 : decode cX12_exchanges 0 = .ok (.aload_n 0, 1) := by decide +kernel
theorem dX12_exchanges_1 : decode cX12_exchanges 1 = .ok (.iload_n 1, 1) := by decide +kernel
theorem dX12_exchanges_2 : decode cX12_exchanges 2 = .ok (.bipush 26, 2) := by decide +kernel
theorem dX12_exchanges_4 : decode cX12_exchanges 4 = .ok (.invokevirtual 103, 3) := by decide +kernel
theorem dX12_exchanges_7 : decode cX12_exchanges 7 = .ok (.aload_n 0, 1) := by decide +kernel
theorem dX12_exchanges_8 : decode cX12_exchanges 8 = .ok (.iload_n 2, 1) := by decide +kernel
theorem dX12_exchanges_9 : decode cX12_exchanges 9 = .ok (.iload_n 1, 1) := by decide +kernel
theorem dX12_exchanges_10 : decode cX12_exchanges 10 = .ok (.invokevirtual 103, 3) := by decide +kernel
theorem dX12_exchanges_13 : decode cX12_exchanges 13 = .ok (.aload_n 0, 1) := by decide +kernel
theorem dX12_exchanges_14 : decode cX12_exchanges 14 = .ok (.bipush 26, 2) := by decide +kernel
theorem dX12_exchanges_16 : decode cX12_exchanges 16 = .ok (.iload_n 2, 1) := by decide +kernel
theorem dX12_exchanges_17 : decode cX12_exchanges 17 = .ok (.invokevirtual 103, 3) := by decide +kernel
theorem dX12_exchanges_20 : decode cX12_exchanges 20 = .ok (.return_, 1) := by decide +kernel
theorem dX12_sorts_0 : decode cX12_sorts 0 = .ok (.iconst 1, 1) := by decide +kernel
theorem dX12_sorts_1 : decode cX12_sorts 1 = .ok (.istore_n 2, 1) := by decide +kernel
theorem dX12_sorts_2 : decode cX12_sorts 2 = .ok (.iload_n 2, 1) := by decide +kernel
theorem dX12_sorts_3 : decode cX12_sorts 3 = .ok (.aload_n 0, 1) := by decide +kernel
theorem dX12_sorts_4 : decode cX12_sorts 4 = .ok (.getfield 207, 3) := by decide +kernel
theorem dX12_sorts_7 : decode cX12_sorts 7 = .ok (.if_icmp .ge 80, 3) := by decide +kernel
theorem dX12_sorts_10 : decode cX12_sorts 10 = .ok (.iload_n 2, 1) := by decide +kernel
theorem dX12_sorts_11 : decode cX12_sorts 11 = .ok (.istore_n 3, 1) := by decide +kernel
theorem dX12_sorts_12 : decode cX12_sorts 12 = .ok (.iload_n 3, 1) := by decide +kernel
theorem dX12_sorts_13 : decode cX12_sorts 13 = .ok (.ifCond .le 68, 3) := by decide +kernel
theorem dX12_sorts_16 : decode cX12_sorts 16 = .ok (.aload_n 0, 1) := by decide +kernel
theorem dX12_sorts_17 : decode cX12_sorts 17 = .ok (.iload_n 3, 1) := by decide +kernel
theorem dX12_sorts_18 : decode cX12_sorts 18 = .ok (.iconst 1, 1) := by decide +kernel
theorem dX12_sorts_19 : decode cX12_sorts 19 = .ok (.isub, 1) := by decide +kernel
theorem dX12_sorts_20 : decode cX12_sorts 20 = .ok (.invokevirtual 149, 3) := by decide +kernel
theorem dX12_sorts_23 : decode cX12_sorts 23 = .ok (.istore 4, 2) := by decide +kernel
theorem dX12_sorts_25 : decode cX12_sorts 25 = .ok (.aload_n 0, 1) := by decide +kernel
theorem dX12_sorts_26 : decode cX12_sorts 26 = .ok (.iload_n 3, 1) := by decide +kernel
theorem dX12_sorts_27 : decode cX12_sorts 27 = .ok (.invokevirtual 149, 3) := by decide +kernel
theorem dX12_sorts_30 : decode cX12_sorts 30 = .ok (.istore 5, 2) := by decide +kernel
theorem dX12_sorts_32 : decode cX12_sorts 32 = .ok (.iload_n 1, 1) := by decide +kernel
theorem dX12_sorts_33 : decode cX12_sorts 33 = .ok (.ifCond .eq 23, 3) := by decide +kernel
theorem dX12_sorts_36 : decode cX12_sorts 36 = .ok (.aload_n 0, 1) := by decide +kernel
theorem dX12_sorts_37 : decode cX12_sorts 37 = .ok (.getfield 25, 3) := by decide +kernel
theorem dX12_sorts_40 : decode cX12_sorts 40 = .ok (.iload 4, 2) := by decide +kernel
theorem dX12_sorts_42 : decode cX12_sorts 42 = .ok (.iaload, 1) := by decide +kernel
theorem dX12_sorts_43 : decode cX12_sorts 43 = .ok (.aload_n 0, 1) := by decide +kernel
theorem dX12_sorts_44 : decode cX12_sorts 44 = .ok (.getfield 25, 3) := by decide +kernel
theorem dX12_sorts_47 : decode cX12_sorts 47 = .ok (.iload 5, 2) := by decide +kernel
theorem dX12_sorts_49 : decode cX12_sorts 49 = .ok (.iaload, 1) := by decide +kernel
theorem dX12_sorts_50 : decode cX12_sorts 50 = .ok (.if_icmp .le 25, 3) := by decide +kernel
theorem dX12_sorts_53 : decode cX12_sorts 53 = .ok (.goto 14, 3) := by decide +kernel
theorem dX12_sorts_56 : decode cX12_sorts 56 = .ok (.aload_n 0, 1) := by decide +kernel
theorem dX12_sorts_57 : decode cX12_sorts 57 = .ok (.iload 4, 2) := by decide +kernel
theorem dX12_sorts_59 : decode cX12_sorts 59 = .ok (.iload 5, 2) := by decide +kernel
theorem dX12_sorts_61 : decode cX12_sorts 61 = .ok (.invokevirtual 222, 3) := by decide +kernel
theorem dX12_sorts_64 : decode cX12_sorts 64 = .ok (.ifCond .eq 11, 3) := by decide +kernel
theorem dX12_sorts_67 : decode cX12_sorts 67 = .ok (.aload_n 0, 1) := by decide +kernel
theorem dX12_sorts_68 : decode cX12_sorts 68 = .ok (.iload_n 3, 1) := by decide +kernel
theorem dX12_sorts_69 : decode cX12_sorts 69 = .ok (.iconst 1, 1) := by decide +kernel
theorem dX12_sorts_70 : decode cX12_sorts 70 = .ok (.isub, 1) := by decide +kernel
theorem dX12_sorts_71 : decode cX12_sorts 71 = .ok (.iload_n 3, 1) := by decide +kernel
theorem dX12_sorts_72 : decode cX12_sorts 72 = .ok (.invokevirtual 225, 3) := by decide +kernel
theorem dX12_sorts_75 : decode cX12_sorts 75 = .ok (.iinc 3 (-1), 3) := by decide +kernel
theorem dX12_sorts_78 : decode cX12_sorts 78 = .ok (.goto (-66), 3) := by decide +kernel
theorem dX12_sorts_81 : decode cX12_sorts 81 = .ok (.iinc 2 1, 3) := by decide +kernel
theorem dX12_sorts_84 : decode cX12_sorts 84 = .ok (.goto (-82), 3) := by decide +kernel
theorem dX12_sorts_87 : decode cX12_sorts 87 = .ok (.return_, 1) := by decide +kernel
theorem dX12_crosses_0 : decode cX12_crosses 0 = .ok (.aload_n 0, 1) := by decide +kernel
theorem dX12_crosses_1 : decode cX12_crosses 1 = .ok (.iload_n 1, 1) := by decide +kernel
theorem dX12_crosses_2 : decode cX12_crosses 2 = .ok (.invokevirtual 149, 3) := by decide +kernel
theorem dX12_crosses_5 : decode cX12_crosses 5 = .ok (.istore_n 3, 1) := by decide +kernel
theorem dX12_crosses_6 : decode cX12_crosses 6 = .ok (.aload_n 0, 1) := by decide +kernel
theorem dX12_crosses_7 : decode cX12_crosses 7 = .ok (.iload_n 2, 1) := by decide +kernel
theorem dX12_crosses_8 : decode cX12_crosses 8 = .ok (.invokevirtual 149, 3) := by decide +kernel
theorem dX12_crosses_11 : decode cX12_crosses 11 = .ok (.istore 4, 2) := by decide +kernel
theorem dX12_crosses_13 : decode cX12_crosses 13 = .ok (.aload_n 0, 1) := by decide +kernel
theorem dX12_crosses_14 : decode cX12_crosses 14 = .ok (.getfield 25, 3) := by decide +kernel
theorem dX12_crosses_17 : decode cX12_crosses 17 = .ok (.iload_n 3, 1) := by decide +kernel
theorem dX12_crosses_18 : decode cX12_crosses 18 = .ok (.iaload, 1) := by decide +kernel
theorem dX12_crosses_19 : decode cX12_crosses 19 = .ok (.aload_n 0, 1) := by decide +kernel
theorem dX12_crosses_20 : decode cX12_crosses 20 = .ok (.getfield 25, 3) := by decide +kernel
theorem dX12_crosses_23 : decode cX12_crosses 23 = .ok (.iload 4, 2) := by decide +kernel
theorem dX12_crosses_25 : decode cX12_crosses 25 = .ok (.iaload, 1) := by decide +kernel
theorem dX12_crosses_26 : decode cX12_crosses 26 = .ok (.if_icmp .le 12, 3) := by decide +kernel
theorem dX12_crosses_29 : decode cX12_crosses 29 = .ok (.aload_n 0, 1) := by decide +kernel
theorem dX12_crosses_30 : decode cX12_crosses 30 = .ok (.getfield 25, 3) := by decide +kernel
theorem dX12_crosses_33 : decode cX12_crosses 33 = .ok (.iload_n 3, 1) := by decide +kernel
theorem dX12_crosses_34 : decode cX12_crosses 34 = .ok (.iaload, 1) := by decide +kernel
theorem dX12_crosses_35 : decode cX12_crosses 35 = .ok (.goto 10, 3) := by decide +kernel
theorem dX12_crosses_38 : decode cX12_crosses 38 = .ok (.aload_n 0, 1) := by decide +kernel
theorem dX12_crosses_39 : decode cX12_crosses 39 = .ok (.getfield 25, 3) := by decide +kernel
theorem dX12_crosses_42 : decode cX12_crosses 42 = .ok (.iload 4, 2) := by decide +kernel
theorem dX12_crosses_44 : decode cX12_crosses 44 = .ok (.iaload, 1) := by decide +kernel
theorem dX12_crosses_45 : decode cX12_crosses 45 = .ok (.istore 5, 2) := by decide +kernel
theorem dX12_crosses_47 : decode cX12_crosses 47 = .ok (.aload_n 0, 1) := by decide +kernel
theorem dX12_crosses_48 : decode cX12_crosses 48 = .ok (.getfield 28, 3) := by decide +kernel
theorem dX12_crosses_51 : decode cX12_crosses 51 = .ok (.iload_n 3, 1) := by decide +kernel
theorem dX12_crosses_52 : decode cX12_crosses 52 = .ok (.iaload, 1) := by decide +kernel
theorem dX12_crosses_53 : decode cX12_crosses 53 = .ok (.aload_n 0, 1) := by decide +kernel
theorem dX12_crosses_54 : decode cX12_crosses 54 = .ok (.getfield 28, 3) := by decide +kernel
theorem dX12_crosses_57 : decode cX12_crosses 57 = .ok (.iload 4, 2) := by decide +kernel
theorem dX12_crosses_59 : decode cX12_crosses 59 = .ok (.iaload, 1) := by decide +kernel
theorem dX12_crosses_60 : decode cX12_crosses 60 = .ok (.if_icmp .le 12, 3) := by decide +kernel
theorem dX12_crosses_63 : decode cX12_crosses 63 = .ok (.aload_n 0, 1) := by decide +kernel
theorem dX12_crosses_64 : decode cX12_crosses 64 = .ok (.getfield 28, 3) := by decide +kernel
theorem dX12_crosses_67 : decode cX12_crosses 67 = .ok (.iload_n 3, 1) := by decide +kernel
theorem dX12_crosses_68 : decode cX12_crosses 68 = .ok (.iaload, 1) := by decide +kernel
theorem dX12_crosses_69 : decode cX12_crosses 69 = .ok (.goto 10, 3) := by decide +kernel
theorem dX12_crosses_72 : decode cX12_crosses 72 = .ok (.aload_n 0, 1) := by decide +kernel
theorem dX12_crosses_73 : decode cX12_crosses 73 = .ok (.getfield 28, 3) := by decide +kernel
theorem dX12_crosses_76 : decode cX12_crosses 76 = .ok (.iload 4, 2) := by decide +kernel
theorem dX12_crosses_78 : decode cX12_crosses 78 = .ok (.iaload, 1) := by decide +kernel
theorem dX12_crosses_79 : decode cX12_crosses 79 = .ok (.istore 6, 2) := by decide +kernel
theorem dX12_crosses_81 : decode cX12_crosses 81 = .ok (.aload_n 0, 1) := by decide +kernel
theorem dX12_crosses_82 : decode cX12_crosses 82 = .ok (.bipush 24, 2) := by decide +kernel
theorem dX12_crosses_84 : decode cX12_crosses 84 = .ok (.invokevirtual 78, 3) := by decide +kernel
theorem dX12_crosses_87 : decode cX12_crosses 87 = .ok (.aload_n 0, 1) := by decide +kernel
theorem dX12_crosses_88 : decode cX12_crosses 88 = .ok (.iload 5, 2) := by decide +kernel
theorem dX12_crosses_90 : decode cX12_crosses 90 = .ok (.aload_n 0, 1) := by decide +kernel
theorem dX12_crosses_91 : decode cX12_crosses 91 = .ok (.getfield 25, 3) := by decide +kernel
theorem dX12_crosses_94 : decode cX12_crosses 94 = .ok (.iload_n 3, 1) := by decide +kernel
theorem dX12_crosses_95 : decode cX12_crosses 95 = .ok (.iaload, 1) := by decide +kernel
theorem dX12_crosses_96 : decode cX12_crosses 96 = .ok (.isub, 1) := by decide +kernel
theorem dX12_crosses_97 : decode cX12_crosses 97 = .ok (.iload 6, 2) := by decide +kernel
theorem dX12_crosses_99 : decode cX12_crosses 99 = .ok (.aload_n 0, 1) := by decide +kernel
theorem dX12_crosses_100 : decode cX12_crosses 100 = .ok (.getfield 28, 3) := by decide +kernel
theorem dX12_crosses_103 : decode cX12_crosses 103 = .ok (.iload_n 3, 1) := by decide +kernel
theorem dX12_crosses_104 : decode cX12_crosses 104 = .ok (.iaload, 1) := by decide +kernel
theorem dX12_crosses_105 : decode cX12_crosses 105 = .ok (.isub, 1) := by decide +kernel
theorem dX12_crosses_106 : decode cX12_crosses 106 = .ok (.iconst 1, 1) := by decide +kernel
theorem dX12_crosses_107 : decode cX12_crosses 107 = .ok (.iload_n 1, 1) := by decide +kernel
theorem dX12_crosses_108 : decode cX12_crosses 108 = .ok (.bipush 24, 2) := by decide +kernel
theorem dX12_crosses_110 : decode cX12_crosses 110 = .ok (.invokevirtual 99, 3) := by decide +kernel
theorem dX12_crosses_113 : decode cX12_crosses 113 = .ok (.aload_n 0, 1) := by decide +kernel
theorem dX12_crosses_114 : decode cX12_crosses 114 = .ok (.iload 5, 2) := by decide +kernel
theorem dX12_crosses_116 : decode cX12_crosses 116 = .ok (.aload_n 0, 1) := by decide +kernel
theorem dX12_crosses_117 : decode cX12_crosses 117 = .ok (.getfield 25, 3) := by decide +kernel
theorem dX12_crosses_120 : decode cX12_crosses 120 = .ok (.iload 4, 2) := by decide +kernel
theorem dX12_crosses_122 : decode cX12_crosses 122 = .ok (.iaload, 1) := by decide +kernel
theorem dX12_crosses_123 : decode cX12_crosses 123 = .ok (.isub, 1) := by decide +kernel
theorem dX12_crosses_124 : decode cX12_crosses 124 = .ok (.iload 6, 2) := by decide +kernel
theorem dX12_crosses_126 : decode cX12_crosses 126 = .ok (.aload_n 0, 1) := by decide +kernel
theorem dX12_crosses_127 : decode cX12_crosses 127 = .ok (.getfield 28, 3) := by decide +kernel
theorem dX12_crosses_130 : decode cX12_crosses 130 = .ok (.iload 4, 2) := by decide +kernel
theorem dX12_crosses_132 : decode cX12_crosses 132 = .ok (.iaload, 1) := by decide +kernel
theorem dX12_crosses_133 : decode cX12_crosses 133 = .ok (.isub, 1) := by decide +kernel
theorem dX12_crosses_134 : decode cX12_crosses 134 = .ok (.sipush 10006, 3) := by decide +kernel
theorem dX12_crosses_137 : decode cX12_crosses 137 = .ok (.iload_n 2, 1) := by decide +kernel
theorem dX12_crosses_138 : decode cX12_crosses 138 = .ok (.bipush 24, 2) := by decide +kernel
theorem dX12_crosses_140 : decode cX12_crosses 140 = .ok (.invokevirtual 99, 3) := by decide +kernel
theorem dX12_crosses_143 : decode cX12_crosses 143 = .ok (.return_, 1) := by decide +kernel
theorem dX12_isOneMore_0 : decode cX12_isOneMore 0 = .ok (.aload_n 0, 1) := by decide +kernel
theorem dX12_isOneMore_1 : decode cX12_isOneMore 1 = .ok (.iconst 1, 1) := by decide +kernel
theorem dX12_isOneMore_2 : decode cX12_isOneMore 2 = .ok (.invokevirtual 228, 3) := by decide +kernel
theorem dX12_isOneMore_5 : decode cX12_isOneMore 5 = .ok (.aload_n 0, 1) := by decide +kernel
theorem dX12_isOneMore_6 : decode cX12_isOneMore 6 = .ok (.sipush (-20001), 3) := by decide +kernel
theorem dX12_isOneMore_9 : decode cX12_isOneMore 9 = .ok (.invokevirtual 210, 3) := by decide +kernel
theorem dX12_isOneMore_12 : decode cX12_isOneMore 12 = .ok (.iconst 1, 1) := by decide +kernel
theorem dX12_isOneMore_13 : decode cX12_isOneMore 13 = .ok (.istore_n 1, 1) := by decide +kernel
theorem dX12_isOneMore_14 : decode cX12_isOneMore 14 = .ok (.iload_n 1, 1) := by decide +kernel
theorem dX12_isOneMore_15 : decode cX12_isOneMore 15 = .ok (.aload_n 0, 1) := by decide +kernel
theorem dX12_isOneMore_16 : decode cX12_isOneMore 16 = .ok (.getfield 207, 3) := by decide +kernel
theorem dX12_isOneMore_19 : decode cX12_isOneMore 19 = .ok (.if_icmp .ge 60, 3) := by decide +kernel
theorem dX12_isOneMore_22 : decode cX12_isOneMore 22 = .ok (.aload_n 0, 1) := by decide +kernel
theorem dX12_isOneMore_23 : decode cX12_isOneMore 23 = .ok (.iload_n 1, 1) := by decide +kernel
theorem dX12_isOneMore_24 : decode cX12_isOneMore 24 = .ok (.iconst 1, 1) := by decide +kernel
theorem dX12_isOneMore_25 : decode cX12_isOneMore 25 = .ok (.isub, 1) := by decide +kernel
theorem dX12_isOneMore_26 : decode cX12_isOneMore 26 = .ok (.iload_n 1, 1) := by decide +kernel
theorem dX12_isOneMore_27 : decode cX12_isOneMore 27 = .ok (.invokevirtual 232, 3) := by decide +kernel
theorem dX12_isOneMore_30 : decode cX12_isOneMore 30 = .ok (.aload_n 0, 1) := by decide +kernel
theorem dX12_isOneMore_31 : decode cX12_isOneMore 31 = .ok (.bipush 25, 2) := by decide +kernel
theorem dX12_isOneMore_33 : decode cX12_isOneMore 33 = .ok (.invokevirtual 204, 3) := by decide +kernel
theorem dX12_isOneMore_36 : decode cX12_isOneMore 36 = .ok (.aload_n 0, 1) := by decide +kernel
theorem dX12_isOneMore_37 : decode cX12_isOneMore 37 = .ok (.bipush 25, 2) := by decide +kernel
theorem dX12_isOneMore_39 : decode cX12_isOneMore 39 = .ok (.invokevirtual 89, 3) := by decide +kernel
theorem dX12_isOneMore_42 : decode cX12_isOneMore 42 = .ok (.ifCond .lt 31, 3) := by decide +kernel
theorem dX12_isOneMore_45 : decode cX12_isOneMore 45 = .ok (.aload_n 0, 1) := by decide +kernel
theorem dX12_isOneMore_46 : decode cX12_isOneMore 46 = .ok (.bipush 25, 2) := by decide +kernel
theorem dX12_isOneMore_48 : decode cX12_isOneMore 48 = .ok (.invokevirtual 216, 3) := by decide +kernel
theorem dX12_isOneMore_51 : decode cX12_isOneMore 51 = .ok (.aload_n 0, 1) := by decide +kernel
theorem dX12_isOneMore_52 : decode cX12_isOneMore 52 = .ok (.bipush 25, 2) := by decide +kernel
theorem dX12_isOneMore_54 : decode cX12_isOneMore 54 = .ok (.aload_n 0, 1) := by decide +kernel
theorem dX12_isOneMore_55 : decode cX12_isOneMore 55 = .ok (.getfield 207, 3) := by decide +kernel
theorem dX12_isOneMore_58 : decode cX12_isOneMore 58 = .ok (.invokevirtual 103, 3) := by decide +kernel
theorem dX12_isOneMore_61 : decode cX12_isOneMore 61 = .ok (.aload_n 0, 1) := by decide +kernel
theorem dX12_isOneMore_62 : decode cX12_isOneMore 62 = .ok (.dup, 1) := by decide +kernel
theorem dX12_isOneMore_63 : decode cX12_isOneMore 63 = .ok (.getfield 207, 3) := by decide +kernel
theorem dX12_isOneMore_66 : decode cX12_isOneMore 66 = .ok (.iconst 1, 1) := by decide +kernel
theorem dX12_isOneMore_67 : decode cX12_isOneMore 67 = .ok (.iadd, 1) := by decide +kernel
theorem dX12_isOneMore_68 : decode cX12_isOneMore 68 = .ok (.putfield 207, 3) := by decide +kernel
theorem dX12_isOneMore_71 : decode cX12_isOneMore 71 = .ok (.iconst 1, 1) := by decide +kernel
theorem dX12_isOneMore_72 : decode cX12_isOneMore 72 = .ok (.ireturn, 1) := by decide +kernel
theorem dX12_isOneMore_73 : decode cX12_isOneMore 73 = .ok (.iinc 1 1, 3) := by decide +kernel
theorem dX12_isOneMore_76 : decode cX12_isOneMore 76 = .ok (.goto (-62), 3) := by decide +kernel
theorem dX12_isOneMore_79 : decode cX12_isOneMore 79 = .ok (.iconst 0, 1) := by decide +kernel
theorem dX12_isOneMore_80 : decode cX12_isOneMore 80 = .ok (.ireturn, 1) := by decide +kernel
theorem dX12_laysBasis_0 : decode cX12_laysBasis 0 = .ok (.aload_n 0, 1) := by decide +kernel
theorem dX12_laysBasis_1 : decode cX12_laysBasis 1 = .ok (.getfield 63, 3) := by decide +kernel
theorem dX12_laysBasis_4 : decode cX12_laysBasis 4 = .ok (.iload_n 1, 1) := by decide +kernel
theorem dX12_laysBasis_5 : decode cX12_laysBasis 5 = .ok (.if_icmp .ne 4, 3) := by decide +kernel
theorem dX12_laysBasis_8 : decode cX12_laysBasis 8 = .ok (.return_, 1) := by decide +kernel
theorem dX12_laysBasis_9 : decode cX12_laysBasis 9 = .ok (.aload_n 0, 1) := by decide +kernel
theorem dX12_laysBasis_10 : decode cX12_laysBasis 10 = .ok (.iconst 0, 1) := by decide +kernel
theorem dX12_laysBasis_11 : decode cX12_laysBasis 11 = .ok (.putfield 207, 3) := by decide +kernel
theorem dX12_laysBasis_14 : decode cX12_laysBasis 14 = .ok (.iconst 0, 1) := by decide +kernel
theorem dX12_laysBasis_15 : decode cX12_laysBasis 15 = .ok (.istore_n 2, 1) := by decide +kernel
theorem dX12_laysBasis_16 : decode cX12_laysBasis 16 = .ok (.iload_n 2, 1) := by decide +kernel
theorem dX12_laysBasis_17 : decode cX12_laysBasis 17 = .ok (.bipush 6, 2) := by decide +kernel
theorem dX12_laysBasis_19 : decode cX12_laysBasis 19 = .ok (.if_icmp .ge 52, 3) := by decide +kernel
theorem dX12_laysBasis_22 : decode cX12_laysBasis 22 = .ok (.iload_n 1, 1) := by decide +kernel
theorem dX12_laysBasis_23 : decode cX12_laysBasis 23 = .ok (.iload_n 2, 1) := by decide +kernel
theorem dX12_laysBasis_24 : decode cX12_laysBasis 24 = .ok (.ishr, 1) := by decide +kernel
theorem dX12_laysBasis_25 : decode cX12_laysBasis 25 = .ok (.iconst 1, 1) := by decide +kernel
theorem dX12_laysBasis_26 : decode cX12_laysBasis 26 = .ok (.iand, 1) := by decide +kernel
theorem dX12_laysBasis_27 : decode cX12_laysBasis 27 = .ok (.iconst 1, 1) := by decide +kernel
theorem dX12_laysBasis_28 : decode cX12_laysBasis 28 = .ok (.if_icmp .ne 37, 3) := by decide +kernel
theorem dX12_laysBasis_31 : decode cX12_laysBasis 31 = .ok (.aload_n 0, 1) := by decide +kernel
theorem dX12_laysBasis_32 : decode cX12_laysBasis 32 = .ok (.iload_n 2, 1) := by decide +kernel
theorem dX12_laysBasis_33 : decode cX12_laysBasis 33 = .ok (.aload_n 0, 1) := by decide +kernel
theorem dX12_laysBasis_34 : decode cX12_laysBasis 34 = .ok (.getfield 207, 3) := by decide +kernel
theorem dX12_laysBasis_37 : decode cX12_laysBasis 37 = .ok (.invokevirtual 128, 3) := by decide +kernel
theorem dX12_laysBasis_40 : decode cX12_laysBasis 40 = .ok (.aload_n 0, 1) := by decide +kernel
theorem dX12_laysBasis_41 : decode cX12_laysBasis 41 = .ok (.dup, 1) := by decide +kernel
theorem dX12_laysBasis_42 : decode cX12_laysBasis 42 = .ok (.getfield 207, 3) := by decide +kernel
theorem dX12_laysBasis_45 : decode cX12_laysBasis 45 = .ok (.aload_n 0, 1) := by decide +kernel
theorem dX12_laysBasis_46 : decode cX12_laysBasis 46 = .ok (.aload_n 0, 1) := by decide +kernel
theorem dX12_laysBasis_47 : decode cX12_laysBasis 47 = .ok (.getfield 207, 3) := by decide +kernel
theorem dX12_laysBasis_50 : decode cX12_laysBasis 50 = .ok (.invokevirtual 89, 3) := by decide +kernel
theorem dX12_laysBasis_53 : decode cX12_laysBasis 53 = .ok (.ifCond .ge 7, 3) := by decide +kernel
theorem dX12_laysBasis_56 : decode cX12_laysBasis 56 = .ok (.iconst 0, 1) := by decide +kernel
theorem dX12_laysBasis_57 : decode cX12_laysBasis 57 = .ok (.goto 4, 3) := by decide +kernel
theorem dX12_laysBasis_60 : decode cX12_laysBasis 60 = .ok (.iconst 1, 1) := by decide +kernel
theorem dX12_laysBasis_61 : decode cX12_laysBasis 61 = .ok (.iadd, 1) := by decide +kernel
theorem dX12_laysBasis_62 : decode cX12_laysBasis 62 = .ok (.putfield 207, 3) := by decide +kernel
theorem dX12_laysBasis_65 : decode cX12_laysBasis 65 = .ok (.iinc 2 1, 3) := by decide +kernel
theorem dX12_laysBasis_68 : decode cX12_laysBasis 68 = .ok (.goto (-52), 3) := by decide +kernel
theorem dX12_laysBasis_71 : decode cX12_laysBasis 71 = .ok (.aload_n 0, 1) := by decide +kernel
theorem dX12_laysBasis_72 : decode cX12_laysBasis 72 = .ok (.invokevirtual 235, 3) := by decide +kernel
theorem dX12_laysBasis_75 : decode cX12_laysBasis 75 = .ok (.aload_n 0, 1) := by decide +kernel
theorem dX12_laysBasis_76 : decode cX12_laysBasis 76 = .ok (.invokevirtual 238, 3) := by decide +kernel
theorem dX12_laysBasis_79 : decode cX12_laysBasis 79 = .ok (.ifCond .eq 10, 3) := by decide +kernel
theorem dX12_laysBasis_82 : decode cX12_laysBasis 82 = .ok (.aload_n 0, 1) := by decide +kernel
theorem dX12_laysBasis_83 : decode cX12_laysBasis 83 = .ok (.invokevirtual 235, 3) := by decide +kernel
theorem dX12_laysBasis_86 : decode cX12_laysBasis 86 = .ok (.goto (-11), 3) := by decide +kernel
theorem dX12_laysBasis_89 : decode cX12_laysBasis 89 = .ok (.aload_n 0, 1) := by decide +kernel
theorem dX12_laysBasis_90 : decode cX12_laysBasis 90 = .ok (.iconst 0, 1) := by decide +kernel
theorem dX12_laysBasis_91 : decode cX12_laysBasis 91 = .ok (.invokevirtual 228, 3) := by decide +kernel
theorem dX12_laysBasis_94 : decode cX12_laysBasis 94 = .ok (.aload_n 0, 1) := by decide +kernel
theorem dX12_laysBasis_95 : decode cX12_laysBasis 95 = .ok (.iload_n 1, 1) := by decide +kernel
theorem dX12_laysBasis_96 : decode cX12_laysBasis 96 = .ok (.putfield 63, 3) := by decide +kernel
theorem dX12_laysBasis_99 : decode cX12_laysBasis 99 = .ok (.return_, 1) := by decide +kernel
theorem dX12_isSmall_0 : decode cX12_isSmall 0 = .ok (.iconst 1, 1) := by decide +kernel
theorem dX12_isSmall_1 : decode cX12_isSmall 1 = .ok (.istore_n 2, 1) := by decide +kernel
theorem dX12_isSmall_2 : decode cX12_isSmall 2 = .ok (.iconst 0, 1) := by decide +kernel
theorem dX12_isSmall_3 : decode cX12_isSmall 3 = .ok (.istore_n 3, 1) := by decide +kernel
theorem dX12_isSmall_4 : decode cX12_isSmall 4 = .ok (.iload_n 3, 1) := by decide +kernel
theorem dX12_isSmall_5 : decode cX12_isSmall 5 = .ok (.bipush 6, 2) := by decide +kernel
theorem dX12_isSmall_7 : decode cX12_isSmall 7 = .ok (.if_icmp .ge 44, 3) := by decide +kernel
theorem dX12_isSmall_10 : decode cX12_isSmall 10 = .ok (.aload_n 0, 1) := by decide +kernel
theorem dX12_isSmall_11 : decode cX12_isSmall 11 = .ok (.iload_n 3, 1) := by decide +kernel
theorem dX12_isSmall_12 : decode cX12_isSmall 12 = .ok (.bipush 24, 2) := by decide +kernel
theorem dX12_isSmall_14 : decode cX12_isSmall 14 = .ok (.invokevirtual 128, 3) := by decide +kernel
theorem dX12_isSmall_17 : decode cX12_isSmall 17 = .ok (.iload_n 2, 1) := by decide +kernel
theorem dX12_isSmall_18 : decode cX12_isSmall 18 = .ok (.ifCond .eq 25, 3) := by decide +kernel
theorem dX12_isSmall_21 : decode cX12_isSmall 21 = .ok (.iload_n 1, 1) := by decide +kernel
theorem dX12_isSmall_22 : decode cX12_isSmall 22 = .ok (.iload_n 3, 1) := by decide +kernel
theorem dX12_isSmall_23 : decode cX12_isSmall 23 = .ok (.ishr, 1) := by decide +kernel
theorem dX12_isSmall_24 : decode cX12_isSmall 24 = .ok (.iconst 1, 1) := by decide +kernel
theorem dX12_isSmall_25 : decode cX12_isSmall 25 = .ok (.iand, 1) := by decide +kernel
theorem dX12_isSmall_26 : decode cX12_isSmall 26 = .ok (.ifCond .eq 13, 3) := by decide +kernel
theorem dX12_isSmall_29 : decode cX12_isSmall 29 = .ok (.aload_n 0, 1) := by decide +kernel
theorem dX12_isSmall_30 : decode cX12_isSmall 30 = .ok (.bipush 24, 2) := by decide +kernel
theorem dX12_isSmall_32 : decode cX12_isSmall 32 = .ok (.invokevirtual 89, 3) := by decide +kernel
theorem dX12_isSmall_35 : decode cX12_isSmall 35 = .ok (.iconst 3, 1) := by decide +kernel
theorem dX12_isSmall_36 : decode cX12_isSmall 36 = .ok (.if_icmp .gt 7, 3) := by decide +kernel
theorem dX12_isSmall_39 : decode cX12_isSmall 39 = .ok (.iconst 1, 1) := by decide +kernel
theorem dX12_isSmall_40 : decode cX12_isSmall 40 = .ok (.goto 4, 3) := by decide +kernel
theorem dX12_isSmall_43 : decode cX12_isSmall 43 = .ok (.iconst 0, 1) := by decide +kernel
theorem dX12_isSmall_44 : decode cX12_isSmall 44 = .ok (.istore_n 2, 1) := by decide +kernel
theorem dX12_isSmall_45 : decode cX12_isSmall 45 = .ok (.iinc 3 1, 3) := by decide +kernel
theorem dX12_isSmall_48 : decode cX12_isSmall 48 = .ok (.goto (-44), 3) := by decide +kernel
theorem dX12_isSmall_51 : decode cX12_isSmall 51 = .ok (.iload_n 2, 1) := by decide +kernel
theorem dX12_isSmall_52 : decode cX12_isSmall 52 = .ok (.ireturn, 1) := by decide +kernel
theorem dX12_basis_0 : decode cX12_basis 0 = .ok (.iload_n 1, 1) := by decide +kernel
theorem dX12_basis_1 : decode cX12_basis 1 = .ok (.invokestatic 201, 3) := by decide +kernel
theorem dX12_basis_4 : decode cX12_basis 4 = .ok (.ifCond .ne 8, 3) := by decide +kernel
theorem dX12_basis_7 : decode cX12_basis 7 = .ok (.aload_n 0, 1) := by decide +kernel
theorem dX12_basis_8 : decode cX12_basis 8 = .ok (.invokevirtual 119, 3) := by decide +kernel
theorem dX12_basis_11 : decode cX12_basis 11 = .ok (.ireturn, 1) := by decide +kernel
theorem dX12_basis_12 : decode cX12_basis 12 = .ok (.aload_n 0, 1) := by decide +kernel
theorem dX12_basis_13 : decode cX12_basis 13 = .ok (.iload_n 1, 1) := by decide +kernel
theorem dX12_basis_14 : decode cX12_basis 14 = .ok (.invokevirtual 242, 3) := by decide +kernel
theorem dX12_basis_17 : decode cX12_basis 17 = .ok (.ifCond .ne 8, 3) := by decide +kernel
theorem dX12_basis_20 : decode cX12_basis 20 = .ok (.aload_n 0, 1) := by decide +kernel
theorem dX12_basis_21 : decode cX12_basis 21 = .ok (.invokevirtual 70, 3) := by decide +kernel
theorem dX12_basis_24 : decode cX12_basis 24 = .ok (.ireturn, 1) := by decide +kernel
theorem dX12_basis_25 : decode cX12_basis 25 = .ok (.aload_n 0, 1) := by decide +kernel
theorem dX12_basis_26 : decode cX12_basis 26 = .ok (.iload_n 1, 1) := by decide +kernel
theorem dX12_basis_27 : decode cX12_basis 27 = .ok (.invokevirtual 245, 3) := by decide +kernel
theorem dX12_basis_30 : decode cX12_basis 30 = .ok (.aload_n 0, 1) := by decide +kernel
theorem dX12_basis_31 : decode cX12_basis 31 = .ok (.getfield 207, 3) := by decide +kernel
theorem dX12_basis_34 : decode cX12_basis 34 = .ok (.ireturn, 1) := by decide +kernel
theorem dX12_based_0 : decode cX12_based 0 = .ok (.iload_n 1, 1) := by decide +kernel
theorem dX12_based_1 : decode cX12_based 1 = .ok (.invokestatic 201, 3) := by decide +kernel
theorem dX12_based_4 : decode cX12_based 4 = .ok (.ifCond .eq 28, 3) := by decide +kernel
theorem dX12_based_7 : decode cX12_based 7 = .ok (.iload_n 2, 1) := by decide +kernel
theorem dX12_based_8 : decode cX12_based 8 = .ok (.ifCond .lt 24, 3) := by decide +kernel
theorem dX12_based_11 : decode cX12_based 11 = .ok (.iload_n 3, 1) := by decide +kernel
theorem dX12_based_12 : decode cX12_based 12 = .ok (.iconst 0, 1) := by decide +kernel
theorem dX12_based_13 : decode cX12_based 13 = .ok (.bipush 15, 2) := by decide +kernel
theorem dX12_based_15 : decode cX12_based 15 = .ok (.invokestatic 74, 3) := by decide +kernel
theorem dX12_based_18 : decode cX12_based 18 = .ok (.ifCond .eq 14, 3) := by decide +kernel
theorem dX12_based_21 : decode cX12_based 21 = .ok (.iload 4, 2) := by decide +kernel
theorem dX12_based_23 : decode cX12_based 23 = .ok (.iconst 0, 1) := by decide +kernel
theorem dX12_based_24 : decode cX12_based 24 = .ok (.bipush 15, 2) := by decide +kernel
theorem dX12_based_26 : decode cX12_based 26 = .ok (.invokestatic 74, 3) := by decide +kernel
theorem dX12_based_29 : decode cX12_based 29 = .ok (.ifCond .ne 8, 3) := by decide +kernel
theorem dX12_based_32 : decode cX12_based 32 = .ok (.aload_n 0, 1) := by decide +kernel
theorem dX12_based_33 : decode cX12_based 33 = .ok (.invokevirtual 119, 3) := by decide +kernel
theorem dX12_based_36 : decode cX12_based 36 = .ok (.ireturn, 1) := by decide +kernel
theorem dX12_based_37 : decode cX12_based 37 = .ok (.aload_n 0, 1) := by decide +kernel
theorem dX12_based_38 : decode cX12_based 38 = .ok (.iload_n 1, 1) := by decide +kernel
theorem dX12_based_39 : decode cX12_based 39 = .ok (.invokevirtual 242, 3) := by decide +kernel
theorem dX12_based_42 : decode cX12_based 42 = .ok (.ifCond .ne 8, 3) := by decide +kernel
theorem dX12_based_45 : decode cX12_based 45 = .ok (.aload_n 0, 1) := by decide +kernel
theorem dX12_based_46 : decode cX12_based 46 = .ok (.invokevirtual 70, 3) := by decide +kernel
theorem dX12_based_49 : decode cX12_based 49 = .ok (.ireturn, 1) := by decide +kernel
theorem dX12_based_50 : decode cX12_based 50 = .ok (.aload_n 0, 1) := by decide +kernel
theorem dX12_based_51 : decode cX12_based 51 = .ok (.iload_n 1, 1) := by decide +kernel
theorem dX12_based_52 : decode cX12_based 52 = .ok (.invokevirtual 245, 3) := by decide +kernel
theorem dX12_based_55 : decode cX12_based 55 = .ok (.iload_n 2, 1) := by decide +kernel
theorem dX12_based_56 : decode cX12_based 56 = .ok (.aload_n 0, 1) := by decide +kernel
theorem dX12_based_57 : decode cX12_based 57 = .ok (.getfield 207, 3) := by decide +kernel
theorem dX12_based_60 : decode cX12_based 60 = .ok (.if_icmp .ge 26, 3) := by decide +kernel
theorem dX12_based_63 : decode cX12_based 63 = .ok (.aload_n 0, 1) := by decide +kernel
theorem dX12_based_64 : decode cX12_based 64 = .ok (.getfield 22, 3) := by decide +kernel
theorem dX12_based_67 : decode cX12_based 67 = .ok (.sipush 496, 3) := by decide +kernel
theorem dX12_based_70 : decode cX12_based 70 = .ok (.iload_n 2, 1) := by decide +kernel
theorem dX12_based_71 : decode cX12_based 71 = .ok (.imul, 1) := by decide +kernel
theorem dX12_based_72 : decode cX12_based 72 = .ok (.iload_n 3, 1) := by decide +kernel
theorem dX12_based_73 : decode cX12_based 73 = .ok (.iload 4, 2) := by decide +kernel
theorem dX12_based_75 : decode cX12_based 75 = .ok (.invokestatic 59, 3) := by decide +kernel
theorem dX12_based_78 : decode cX12_based 78 = .ok (.iadd, 1) := by decide +kernel
theorem dX12_based_79 : decode cX12_based 79 = .ok (.iaload, 1) := by decide +kernel
theorem dX12_based_80 : decode cX12_based 80 = .ok (.invokestatic 125, 3) := by decide +kernel
theorem dX12_based_83 : decode cX12_based 83 = .ok (.goto 4, 3) := by decide +kernel
theorem dX12_based_86 : decode cX12_based 86 = .ok (.iconst 0, 1) := by decide +kernel
theorem dX12_based_87 : decode cX12_based 87 = .ok (.ireturn, 1) := by decide +kernel
theorem dX12_stairs_0 : decode cX12_stairs 0 = .ok (.iload_n 1, 1) := by decide +kernel
theorem dX12_stairs_1 : decode cX12_stairs 1 = .ok (.invokestatic 201, 3) := by decide +kernel
theorem dX12_stairs_4 : decode cX12_stairs 4 = .ok (.ifCond .eq 13, 3) := by decide +kernel
theorem dX12_stairs_7 : decode cX12_stairs 7 = .ok (.iload_n 2, 1) := by decide +kernel
theorem dX12_stairs_8 : decode cX12_stairs 8 = .ok (.iconst 0, 1) := by decide +kernel
theorem dX12_stairs_9 : decode cX12_stairs 9 = .ok (.bipush 20, 2) := by decide +kernel
theorem dX12_stairs_11 : decode cX12_stairs 11 = .ok (.invokestatic 74, 3) := by decide +kernel
theorem dX12_stairs_14 : decode cX12_stairs 14 = .ok (.ifCond .ne 8, 3) := by decide +kernel
theorem dX12_stairs_17 : decode cX12_stairs 17 = .ok (.aload_n 0, 1) := by decide +kernel
theorem dX12_stairs_18 : decode cX12_stairs 18 = .ok (.invokevirtual 119, 3) := by decide +kernel
theorem dX12_stairs_21 : decode cX12_stairs 21 = .ok (.ireturn, 1) := by decide +kernel
theorem dX12_stairs_22 : decode cX12_stairs 22 = .ok (.aload_n 0, 1) := by decide +kernel
theorem dX12_stairs_23 : decode cX12_stairs 23 = .ok (.iload_n 1, 1) := by decide +kernel
theorem dX12_stairs_24 : decode cX12_stairs 24 = .ok (.invokevirtual 242, 3) := by decide +kernel
theorem dX12_stairs_27 : decode cX12_stairs 27 = .ok (.ifCond .ne 8, 3) := by decide +kernel
theorem dX12_stairs_30 : decode cX12_stairs 30 = .ok (.aload_n 0, 1) := by decide +kernel
theorem dX12_stairs_31 : decode cX12_stairs 31 = .ok (.invokevirtual 70, 3) := by decide +kernel
theorem dX12_stairs_34 : decode cX12_stairs 34 = .ok (.ireturn, 1) := by decide +kernel
theorem dX12_stairs_35 : decode cX12_stairs 35 = .ok (.aload_n 0, 1) := by decide +kernel
theorem dX12_stairs_36 : decode cX12_stairs 36 = .ok (.iload_n 1, 1) := by decide +kernel
theorem dX12_stairs_37 : decode cX12_stairs 37 = .ok (.invokevirtual 245, 3) := by decide +kernel
theorem dX12_stairs_40 : decode cX12_stairs 40 = .ok (.aload_n 0, 1) := by decide +kernel
theorem dX12_stairs_41 : decode cX12_stairs 41 = .ok (.sipush (-20001), 3) := by decide +kernel
theorem dX12_stairs_44 : decode cX12_stairs 44 = .ok (.invokevirtual 210, 3) := by decide +kernel
theorem dX12_stairs_47 : decode cX12_stairs 47 = .ok (.aload_n 0, 1) := by decide +kernel
theorem dX12_stairs_48 : decode cX12_stairs 48 = .ok (.invokevirtual 195, 3) := by decide +kernel
theorem dX12_stairs_51 : decode cX12_stairs 51 = .ok (.iconst 0, 1) := by decide +kernel
theorem dX12_stairs_52 : decode cX12_stairs 52 = .ok (.istore_n 3, 1) := by decide +kernel
theorem dX12_stairs_53 : decode cX12_stairs 53 = .ok (.iconst 0, 1) := by decide +kernel
theorem dX12_stairs_54 : decode cX12_stairs 54 = .ok (.istore 4, 2) := by decide +kernel
theorem dX12_stairs_56 : decode cX12_stairs 56 = .ok (.iload 4, 2) := by decide +kernel
theorem dX12_stairs_58 : decode cX12_stairs 58 = .ok (.iload_n 2, 1) := by decide +kernel
theorem dX12_stairs_59 : decode cX12_stairs 59 = .ok (.if_icmp .gt 37, 3) := by decide +kernel
theorem dX12_stairs_62 : decode cX12_stairs 62 = .ok (.iload_n 3, 1) := by decide +kernel
theorem dX12_stairs_63 : decode cX12_stairs 63 = .ok (.aload_n 0, 1) := by decide +kernel
theorem dX12_stairs_64 : decode cX12_stairs 64 = .ok (.iload_n 2, 1) := by decide +kernel
theorem dX12_stairs_65 : decode cX12_stairs 65 = .ok (.iload 4, 2) := by decide +kernel
theorem dX12_stairs_67 : decode cX12_stairs 67 = .ok (.isub, 1) := by decide +kernel
theorem dX12_stairs_68 : decode cX12_stairs 68 = .ok (.iload 4, 2) := by decide +kernel
theorem dX12_stairs_70 : decode cX12_stairs 70 = .ok (.invokestatic 59, 3) := by decide +kernel
theorem dX12_stairs_73 : decode cX12_stairs 73 = .ok (.invokevirtual 198, 3) := by decide +kernel
theorem dX12_stairs_76 : decode cX12_stairs 76 = .ok (.aload_n 0, 1) := by decide +kernel
theorem dX12_stairs_77 : decode cX12_stairs 77 = .ok (.getfield 189, 3) := by decide +kernel
theorem dX12_stairs_80 : decode cX12_stairs 80 = .ok (.if_icmp .ne 7, 3) := by decide +kernel
theorem dX12_stairs_83 : decode cX12_stairs 83 = .ok (.iconst 1, 1) := by decide +kernel
theorem dX12_stairs_84 : decode cX12_stairs 84 = .ok (.goto 4, 3) := by decide +kernel
theorem dX12_stairs_87 : decode cX12_stairs 87 = .ok (.iconst 0, 1) := by decide +kernel
theorem dX12_stairs_88 : decode cX12_stairs 88 = .ok (.iadd, 1) := by decide +kernel
theorem dX12_stairs_89 : decode cX12_stairs 89 = .ok (.istore_n 3, 1) := by decide +kernel
theorem dX12_stairs_90 : decode cX12_stairs 90 = .ok (.iinc 4 1, 3) := by decide +kernel
theorem dX12_stairs_93 : decode cX12_stairs 93 = .ok (.goto (-37), 3) := by decide +kernel
theorem dX12_stairs_96 : decode cX12_stairs 96 = .ok (.iload_n 3, 1) := by decide +kernel
theorem dX12_stairs_97 : decode cX12_stairs 97 = .ok (.ireturn, 1) := by decide +kernel
theorem dX12_within_0 : decode cX12_within 0 = .ok (.iload_n 1, 1) := by decide +kernel
theorem dX12_within_1 : decode cX12_within 1 = .ok (.invokestatic 111, 3) := by decide +kernel
theorem dX12_within_4 : decode cX12_within 4 = .ok (.ifCond .eq 10, 3) := by decide +kernel
theorem dX12_within_7 : decode cX12_within 7 = .ok (.iload_n 2, 1) := by decide +kernel
theorem dX12_within_8 : decode cX12_within 8 = .ok (.invokestatic 201, 3) := by decide +kernel
theorem dX12_within_11 : decode cX12_within 11 = .ok (.ifCond .ne 8, 3) := by decide +kernel
theorem dX12_within_14 : decode cX12_within 14 = .ok (.aload_n 0, 1) := by decide +kernel
theorem dX12_within_15 : decode cX12_within 15 = .ok (.invokevirtual 119, 3) := by decide +kernel
theorem dX12_within_18 : decode cX12_within 18 = .ok (.ireturn, 1) := by decide +kernel
theorem dX12_within_19 : decode cX12_within 19 = .ok (.aload_n 0, 1) := by decide +kernel
theorem dX12_within_20 : decode cX12_within 20 = .ok (.iload_n 2, 1) := by decide +kernel
theorem dX12_within_21 : decode cX12_within 21 = .ok (.invokevirtual 242, 3) := by decide +kernel
theorem dX12_within_24 : decode cX12_within 24 = .ok (.ifCond .ne 8, 3) := by decide +kernel
theorem dX12_within_27 : decode cX12_within 27 = .ok (.aload_n 0, 1) := by decide +kernel
theorem dX12_within_28 : decode cX12_within 28 = .ok (.invokevirtual 70, 3) := by decide +kernel
theorem dX12_within_31 : decode cX12_within 31 = .ok (.ireturn, 1) := by decide +kernel
theorem dX12_within_32 : decode cX12_within 32 = .ok (.aload_n 0, 1) := by decide +kernel
theorem dX12_within_33 : decode cX12_within 33 = .ok (.iload_n 2, 1) := by decide +kernel
theorem dX12_within_34 : decode cX12_within 34 = .ok (.invokevirtual 245, 3) := by decide +kernel
theorem dX12_within_37 : decode cX12_within 37 = .ok (.aload_n 0, 1) := by decide +kernel
theorem dX12_within_38 : decode cX12_within 38 = .ok (.sipush (-20001), 3) := by decide +kernel
theorem dX12_within_41 : decode cX12_within 41 = .ok (.invokevirtual 210, 3) := by decide +kernel
theorem dX12_within_44 : decode cX12_within 44 = .ok (.aload_n 0, 1) := by decide +kernel
theorem dX12_within_45 : decode cX12_within 45 = .ok (.iload_n 1, 1) := by decide +kernel
theorem dX12_within_46 : decode cX12_within 46 = .ok (.bipush 24, 2) := by decide +kernel
theorem dX12_within_48 : decode cX12_within 48 = .ok (.invokevirtual 128, 3) := by decide +kernel
theorem dX12_within_51 : decode cX12_within 51 = .ok (.aload_n 0, 1) := by decide +kernel
theorem dX12_within_52 : decode cX12_within 52 = .ok (.bipush 25, 2) := by decide +kernel
theorem dX12_within_54 : decode cX12_within 54 = .ok (.invokevirtual 204, 3) := by decide +kernel
theorem dX12_within_57 : decode cX12_within 57 = .ok (.aload_n 0, 1) := by decide +kernel
theorem dX12_within_58 : decode cX12_within 58 = .ok (.bipush 25, 2) := by decide +kernel
theorem dX12_within_60 : decode cX12_within 60 = .ok (.invokevirtual 89, 3) := by decide +kernel
theorem dX12_within_63 : decode cX12_within 63 = .ok (.ifCond .ge 7, 3) := by decide +kernel
theorem dX12_within_66 : decode cX12_within 66 = .ok (.iconst 1, 1) := by decide +kernel
theorem dX12_within_67 : decode cX12_within 67 = .ok (.goto 4, 3) := by decide +kernel
theorem dX12_within_70 : decode cX12_within 70 = .ok (.iconst 0, 1) := by decide +kernel
theorem dX12_within_71 : decode cX12_within 71 = .ok (.ireturn, 1) := by decide +kernel
theorem dX12_type_0 : decode cX12_type 0 = .ok (.iload_n 1, 1) := by decide +kernel
theorem dX12_type_1 : decode cX12_type 1 = .ok (.iconst 0, 1) := by decide +kernel
theorem dX12_type_2 : decode cX12_type 2 = .ok (.bipush 127, 2) := by decide +kernel
theorem dX12_type_4 : decode cX12_type 4 = .ok (.invokestatic 74, 3) := by decide +kernel
theorem dX12_type_7 : decode cX12_type 7 = .ok (.ifCond .ne 8, 3) := by decide +kernel
theorem dX12_type_10 : decode cX12_type 10 = .ok (.aload_n 0, 1) := by decide +kernel
theorem dX12_type_11 : decode cX12_type 11 = .ok (.invokevirtual 119, 3) := by decide +kernel
theorem dX12_type_14 : decode cX12_type 14 = .ok (.ireturn, 1) := by decide +kernel
theorem dX12_type_15 : decode cX12_type 15 = .ok (.aload_n 0, 1) := by decide +kernel
theorem dX12_type_16 : decode cX12_type 16 = .ok (.getfield 248, 3) := by decide +kernel
theorem dX12_type_19 : decode cX12_type 19 = .ok (.bipush 120, 2) := by decide +kernel
theorem dX12_type_21 : decode cX12_type 21 = .ok (.if_icmp .ne 8, 3) := by decide +kernel
theorem dX12_type_24 : decode cX12_type 24 = .ok (.aload_n 0, 1) := by decide +kernel
theorem dX12_type_25 : decode cX12_type 25 = .ok (.invokevirtual 140, 3) := by decide +kernel
theorem dX12_type_28 : decode cX12_type 28 = .ok (.ireturn, 1) := by decide +kernel
theorem dX12_type_29 : decode cX12_type 29 = .ok (.aload_n 0, 1) := by decide +kernel
theorem dX12_type_30 : decode cX12_type 30 = .ok (.getfield 19, 3) := by decide +kernel
theorem dX12_type_33 : decode cX12_type 33 = .ok (.aload_n 0, 1) := by decide +kernel
theorem dX12_type_34 : decode cX12_type 34 = .ok (.getfield 248, 3) := by decide +kernel
theorem dX12_type_37 : decode cX12_type 37 = .ok (.iload_n 1, 1) := by decide +kernel
theorem dX12_type_38 : decode cX12_type 38 = .ok (.iastore, 1) := by decide +kernel
theorem dX12_type_39 : decode cX12_type 39 = .ok (.aload_n 0, 1) := by decide +kernel
theorem dX12_type_40 : decode cX12_type 40 = .ok (.dup, 1) := by decide +kernel
theorem dX12_type_41 : decode cX12_type 41 = .ok (.getfield 248, 3) := by decide +kernel
theorem dX12_type_44 : decode cX12_type 44 = .ok (.iconst 1, 1) := by decide +kernel
theorem dX12_type_45 : decode cX12_type 45 = .ok (.iadd, 1) := by decide +kernel
theorem dX12_type_46 : decode cX12_type 46 = .ok (.putfield 248, 3) := by decide +kernel
theorem dX12_type_49 : decode cX12_type 49 = .ok (.aload_n 0, 1) := by decide +kernel
theorem dX12_type_50 : decode cX12_type 50 = .ok (.getfield 248, 3) := by decide +kernel
theorem dX12_type_53 : decode cX12_type 53 = .ok (.ireturn, 1) := by decide +kernel
theorem dX12_clear_0 : decode cX12_clear 0 = .ok (.aload_n 0, 1) := by decide +kernel
theorem dX12_clear_1 : decode cX12_clear 1 = .ok (.getfield 248, 3) := by decide +kernel
theorem dX12_clear_4 : decode cX12_clear 4 = .ok (.istore_n 1, 1) := by decide +kernel
theorem dX12_clear_5 : decode cX12_clear 5 = .ok (.aload_n 0, 1) := by decide +kernel
theorem dX12_clear_6 : decode cX12_clear 6 = .ok (.iconst 0, 1) := by decide +kernel
theorem dX12_clear_7 : decode cX12_clear 7 = .ok (.putfield 248, 3) := by decide +kernel
theorem dX12_clear_10 : decode cX12_clear 10 = .ok (.iload_n 1, 1) := by decide +kernel
theorem dX12_clear_11 : decode cX12_clear 11 = .ok (.ireturn, 1) := by decide +kernel
theorem dX12_isAt_0 : decode cX12_isAt 0 = .ok (.aload_n 0, 1) := by decide +kernel
theorem dX12_isAt_1 : decode cX12_isAt 1 = .ok (.getfield 251, 3) := by decide +kernel
theorem dX12_isAt_4 : decode cX12_isAt 4 = .ok (.aload_n 0, 1) := by decide +kernel
theorem dX12_isAt_5 : decode cX12_isAt 5 = .ok (.getfield 248, 3) := by decide +kernel
theorem dX12_isAt_8 : decode cX12_isAt 8 = .ok (.if_icmp .ge 24, 3) := by decide +kernel
theorem dX12_isAt_11 : decode cX12_isAt 11 = .ok (.aload_n 0, 1) := by decide +kernel
theorem dX12_isAt_12 : decode cX12_isAt 12 = .ok (.getfield 19, 3) := by decide +kernel
theorem dX12_isAt_15 : decode cX12_isAt 15 = .ok (.aload_n 0, 1) := by decide +kernel
theorem dX12_isAt_16 : decode cX12_isAt 16 = .ok (.getfield 251, 3) := by decide +kernel
theorem dX12_isAt_19 : decode cX12_isAt 19 = .ok (.iaload, 1) := by decide +kernel
theorem dX12_isAt_20 : decode cX12_isAt 20 = .ok (.iload_n 1, 1) := by decide +kernel
theorem dX12_isAt_21 : decode cX12_isAt 21 = .ok (.iload_n 2, 1) := by decide +kernel
theorem dX12_isAt_22 : decode cX12_isAt 22 = .ok (.invokestatic 74, 3) := by decide +kernel
theorem dX12_isAt_25 : decode cX12_isAt 25 = .ok (.ifCond .eq 7, 3) := by decide +kernel
theorem dX12_isAt_28 : decode cX12_isAt 28 = .ok (.iconst 1, 1) := by decide +kernel
theorem dX12_isAt_29 : decode cX12_isAt 29 = .ok (.goto 4, 3) := by decide +kernel
theorem dX12_isAt_32 : decode cX12_isAt 32 = .ok (.iconst 0, 1) := by decide +kernel
theorem dX12_isAt_33 : decode cX12_isAt 33 = .ok (.ireturn, 1) := by decide +kernel
theorem dX12_blanks_0 : decode cX12_blanks 0 = .ok (.aload_n 0, 1) := by decide +kernel
theorem dX12_blanks_1 : decode cX12_blanks 1 = .ok (.bipush 32, 2) := by decide +kernel
theorem dX12_blanks_3 : decode cX12_blanks 3 = .ok (.bipush 32, 2) := by decide +kernel
theorem dX12_blanks_5 : decode cX12_blanks 5 = .ok (.invokevirtual 254, 3) := by decide +kernel
theorem dX12_blanks_8 : decode cX12_blanks 8 = .ok (.ifCond .eq 16, 3) := by decide +kernel
theorem dX12_blanks_11 : decode cX12_blanks 11 = .ok (.aload_n 0, 1) := by decide +kernel
theorem dX12_blanks_12 : decode cX12_blanks 12 = .ok (.dup, 1) := by decide +kernel
theorem dX12_blanks_13 : decode cX12_blanks 13 = .ok (.getfield 251, 3) := by decide +kernel
theorem dX12_blanks_16 : decode cX12_blanks 16 = .ok (.iconst 1, 1) := by decide +kernel
theorem dX12_blanks_17 : decode cX12_blanks 17 = .ok (.iadd, 1) := by decide +kernel
theorem dX12_blanks_18 : decode cX12_blanks 18 = .ok (.putfield 251, 3) := by decide +kernel
theorem dX12_blanks_21 : decode cX12_blanks 21 = .ok (.goto (-21), 3) := by decide +kernel
theorem dX12_blanks_24 : decode cX12_blanks 24 = .ok (.return_, 1) := by decide +kernel
theorem dX12_fails_0 : decode cX12_fails 0 = .ok (.aload_n 0, 1) := by decide +kernel
theorem dX12_fails_1 : decode cX12_fails 1 = .ok (.iload_n 1, 1) := by decide +kernel
theorem dX12_fails_2 : decode cX12_fails 2 = .ok (.putfield 257, 3) := by decide +kernel
theorem dX12_fails_5 : decode cX12_fails 5 = .ok (.iconst 0, 1) := by decide +kernel
theorem dX12_fails_6 : decode cX12_fails 6 = .ok (.ireturn, 1) := by decide +kernel
theorem dX12_opens_0 : decode cX12_opens 0 = .ok (.aload_n 0, 1) := by decide +kernel
theorem dX12_opens_1 : decode cX12_opens 1 = .ok (.iconst 1, 1) := by decide +kernel
theorem dX12_opens_2 : decode cX12_opens 2 = .ok (.putfield 260, 3) := by decide +kernel
theorem dX12_opens_5 : decode cX12_opens 5 = .ok (.aload_n 0, 1) := by decide +kernel
theorem dX12_opens_6 : decode cX12_opens 6 = .ok (.iconst 1, 1) := by decide +kernel
theorem dX12_opens_7 : decode cX12_opens 7 = .ok (.putfield 264, 3) := by decide +kernel
theorem dX12_opens_10 : decode cX12_opens 10 = .ok (.aload_n 0, 1) := by decide +kernel
theorem dX12_opens_11 : decode cX12_opens 11 = .ok (.getfield 49, 3) := by decide +kernel
theorem dX12_opens_14 : decode cX12_opens 14 = .ok (.aload_n 0, 1) := by decide +kernel
theorem dX12_opens_15 : decode cX12_opens 15 = .ok (.getfield 267, 3) := by decide +kernel
theorem dX12_opens_18 : decode cX12_opens 18 = .ok (.iconst 0, 1) := by decide +kernel
theorem dX12_opens_19 : decode cX12_opens 19 = .ok (.bastore, 1) := by decide +kernel
theorem dX12_opens_20 : decode cX12_opens 20 = .ok (.aload_n 0, 1) := by decide +kernel
theorem dX12_opens_21 : decode cX12_opens 21 = .ok (.getfield 53, 3) := by decide +kernel
theorem dX12_opens_24 : decode cX12_opens 24 = .ok (.aload_n 0, 1) := by decide +kernel
theorem dX12_opens_25 : decode cX12_opens 25 = .ok (.getfield 267, 3) := by decide +kernel
theorem dX12_opens_28 : decode cX12_opens 28 = .ok (.iconst 0, 1) := by decide +kernel
theorem dX12_opens_29 : decode cX12_opens 29 = .ok (.bastore, 1) := by decide +kernel
theorem dX12_opens_30 : decode cX12_opens 30 = .ok (.aload_n 0, 1) := by decide +kernel
theorem dX12_opens_31 : decode cX12_opens 31 = .ok (.bipush 28, 2) := by decide +kernel
theorem dX12_opens_33 : decode cX12_opens 33 = .ok (.aload_n 0, 1) := by decide +kernel
theorem dX12_opens_34 : decode cX12_opens 34 = .ok (.getfield 267, 3) := by decide +kernel
theorem dX12_opens_37 : decode cX12_opens 37 = .ok (.iadd, 1) := by decide +kernel
theorem dX12_opens_38 : decode cX12_opens 38 = .ok (.invokevirtual 78, 3) := by decide +kernel
theorem dX12_opens_41 : decode cX12_opens 41 = .ok (.return_, 1) := by decide +kernel
theorem dX12_closes_0 : decode cX12_closes 0 = .ok (.aload_n 0, 1) := by decide +kernel
theorem dX12_closes_1 : decode cX12_closes 1 = .ok (.getfield 270, 3) := by decide +kernel
theorem dX12_closes_4 : decode cX12_closes 4 = .ok (.ifCond .eq 63, 3) := by decide +kernel
theorem dX12_closes_7 : decode cX12_closes 7 = .ok (.aload_n 0, 1) := by decide +kernel
theorem dX12_closes_8 : decode cX12_closes 8 = .ok (.getfield 273, 3) := by decide +kernel
theorem dX12_closes_11 : decode cX12_closes 11 = .ok (.ifCond .ne 56, 3) := by decide +kernel
theorem dX12_closes_14 : decode cX12_closes 14 = .ok (.aload_n 0, 1) := by decide +kernel
theorem dX12_closes_15 : decode cX12_closes 15 = .ok (.bipush 28, 2) := by decide +kernel
theorem dX12_closes_17 : decode cX12_closes 17 = .ok (.aload_n 0, 1) := by decide +kernel
theorem dX12_closes_18 : decode cX12_closes 18 = .ok (.getfield 267, 3) := by decide +kernel
theorem dX12_closes_21 : decode cX12_closes 21 = .ok (.iadd, 1) := by decide +kernel
theorem dX12_closes_22 : decode cX12_closes 22 = .ok (.iconst 1, 1) := by decide +kernel
theorem dX12_closes_23 : decode cX12_closes 23 = .ok (.bipush 37, 2) := by decide +kernel
theorem dX12_closes_25 : decode cX12_closes 25 = .ok (.aload_n 0, 1) := by decide +kernel
theorem dX12_closes_26 : decode cX12_closes 26 = .ok (.getfield 267, 3) := by decide +kernel
theorem dX12_closes_29 : decode cX12_closes 29 = .ok (.iadd, 1) := by decide +kernel
theorem dX12_closes_30 : decode cX12_closes 30 = .ok (.aload_n 0, 1) := by decide +kernel
theorem dX12_closes_31 : decode cX12_closes 31 = .ok (.getfield 49, 3) := by decide +kernel
theorem dX12_closes_34 : decode cX12_closes 34 = .ok (.aload_n 0, 1) := by decide +kernel
theorem dX12_closes_35 : decode cX12_closes 35 = .ok (.getfield 267, 3) := by decide +kernel
theorem dX12_closes_38 : decode cX12_closes 38 = .ok (.baload, 1) := by decide +kernel
theorem dX12_closes_39 : decode cX12_closes 39 = .ok (.ifCond .eq 9, 3) := by decide +kernel
theorem dX12_closes_42 : decode cX12_closes 42 = .ok (.sipush 10006, 3) := by decide +kernel
theorem dX12_closes_45 : decode cX12_closes 45 = .ok (.goto 4, 3) := by decide +kernel
theorem dX12_closes_48 : decode cX12_closes 48 = .ok (.iconst 1, 1) := by decide +kernel
theorem dX12_closes_49 : decode cX12_closes 49 = .ok (.bipush 25, 2) := by decide +kernel
theorem dX12_closes_51 : decode cX12_closes 51 = .ok (.invokevirtual 131, 3) := by decide +kernel
theorem dX12_closes_54 : decode cX12_closes 54 = .ok (.aload_n 0, 1) := by decide +kernel
theorem dX12_closes_55 : decode cX12_closes 55 = .ok (.bipush 25, 2) := by decide +kernel
theorem dX12_closes_57 : decode cX12_closes 57 = .ok (.bipush 28, 2) := by decide +kernel
theorem dX12_closes_59 : decode cX12_closes 59 = .ok (.aload_n 0, 1) := by decide +kernel
theorem dX12_closes_60 : decode cX12_closes 60 = .ok (.getfield 267, 3) := by decide +kernel
theorem dX12_closes_63 : decode cX12_closes 63 = .ok (.iadd, 1) := by decide +kernel
theorem dX12_closes_64 : decode cX12_closes 64 = .ok (.invokevirtual 103, 3) := by decide +kernel
theorem dX12_closes_67 : decode cX12_closes 67 = .ok (.aload_n 0, 1) := by decide +kernel
theorem dX12_closes_68 : decode cX12_closes 68 = .ok (.getfield 53, 3) := by decide +kernel
theorem dX12_closes_71 : decode cX12_closes 71 = .ok (.aload_n 0, 1) := by decide +kernel
theorem dX12_closes_72 : decode cX12_closes 72 = .ok (.getfield 267, 3) := by decide +kernel
theorem dX12_closes_75 : decode cX12_closes 75 = .ok (.iconst 0, 1) := by decide +kernel
theorem dX12_closes_76 : decode cX12_closes 76 = .ok (.bastore, 1) := by decide +kernel
theorem dX12_closes_77 : decode cX12_closes 77 = .ok (.return_, 1) := by decide +kernel
theorem dX12_takes_0 : decode cX12_takes 0 = .ok (.aload_n 0, 1) := by decide +kernel
theorem dX12_takes_1 : decode cX12_takes 1 = .ok (.getfield 270, 3) := by decide +kernel
theorem dX12_takes_4 : decode cX12_takes 4 = .ok (.ifCond .eq 21, 3) := by decide +kernel
theorem dX12_takes_7 : decode cX12_takes 7 = .ok (.aload_n 0, 1) := by decide +kernel
theorem dX12_takes_8 : decode cX12_takes 8 = .ok (.getfield 273, 3) := by decide +kernel
theorem dX12_takes_11 : decode cX12_takes 11 = .ok (.ifCond .ne 14, 3) := by decide +kernel
theorem dX12_takes_14 : decode cX12_takes 14 = .ok (.aload_n 0, 1) := by decide +kernel
theorem dX12_takes_15 : decode cX12_takes 15 = .ok (.aload_n 0, 1) := by decide +kernel
theorem dX12_takes_16 : decode cX12_takes 16 = .ok (.bipush 27, 2) := by decide +kernel
theorem dX12_takes_18 : decode cX12_takes 18 = .ok (.iload_n 1, 1) := by decide +kernel
theorem dX12_takes_19 : decode cX12_takes 19 = .ok (.invokevirtual 143, 3) := by decide +kernel
theorem dX12_takes_22 : decode cX12_takes 22 = .ok (.putfield 273, 3) := by decide +kernel
theorem dX12_takes_25 : decode cX12_takes 25 = .ok (.aload_n 0, 1) := by decide +kernel
theorem dX12_takes_26 : decode cX12_takes 26 = .ok (.getfield 270, 3) := by decide +kernel
theorem dX12_takes_29 : decode cX12_takes 29 = .ok (.ifCond .eq 52, 3) := by decide +kernel
theorem dX12_takes_32 : decode cX12_takes 32 = .ok (.aload_n 0, 1) := by decide +kernel
theorem dX12_takes_33 : decode cX12_takes 33 = .ok (.getfield 273, 3) := by decide +kernel
theorem dX12_takes_36 : decode cX12_takes 36 = .ok (.ifCond .ne 45, 3) := by decide +kernel
theorem dX12_takes_39 : decode cX12_takes 39 = .ok (.aload_n 0, 1) := by decide +kernel
theorem dX12_takes_40 : decode cX12_takes 40 = .ok (.iload_n 1, 1) := by decide +kernel
theorem dX12_takes_41 : decode cX12_takes 41 = .ok (.invokevirtual 146, 3) := by decide +kernel
theorem dX12_takes_44 : decode cX12_takes 44 = .ok (.aload_n 0, 1) := by decide +kernel
theorem dX12_takes_45 : decode cX12_takes 45 = .ok (.aload_n 0, 1) := by decide +kernel
theorem dX12_takes_46 : decode cX12_takes 46 = .ok (.getfield 53, 3) := by decide +kernel
theorem dX12_takes_49 : decode cX12_takes 49 = .ok (.aload_n 0, 1) := by decide +kernel
theorem dX12_takes_50 : decode cX12_takes 50 = .ok (.getfield 267, 3) := by decide +kernel
theorem dX12_takes_53 : decode cX12_takes 53 = .ok (.baload, 1) := by decide +kernel
theorem dX12_takes_54 : decode cX12_takes 54 = .ok (.ifCond .eq 23, 3) := by decide +kernel
theorem dX12_takes_57 : decode cX12_takes 57 = .ok (.aload_n 0, 1) := by decide +kernel
theorem dX12_takes_58 : decode cX12_takes 58 = .ok (.bipush 37, 2) := by decide +kernel
theorem dX12_takes_60 : decode cX12_takes 60 = .ok (.aload_n 0, 1) := by decide +kernel
theorem dX12_takes_61 : decode cX12_takes 61 = .ok (.getfield 267, 3) := by decide +kernel
theorem dX12_takes_64 : decode cX12_takes 64 = .ok (.iadd, 1) := by decide +kernel
theorem dX12_takes_65 : decode cX12_takes 65 = .ok (.bipush 27, 2) := by decide +kernel
theorem dX12_takes_67 : decode cX12_takes 67 = .ok (.invokevirtual 137, 3) := by decide +kernel
theorem dX12_takes_70 : decode cX12_takes 70 = .ok (.ifCond .eq 7, 3) := by decide +kernel
theorem dX12_takes_73 : decode cX12_takes 73 = .ok (.iconst 1, 1) := by decide +kernel
theorem dX12_takes_74 : decode cX12_takes 74 = .ok (.goto 4, 3) := by decide +kernel
theorem dX12_takes_77 : decode cX12_takes 77 = .ok (.iconst 0, 1) := by decide +kernel
theorem dX12_takes_78 : decode cX12_takes 78 = .ok (.putfield 273, 3) := by decide +kernel
theorem dX12_takes_81 : decode cX12_takes 81 = .ok (.aload_n 0, 1) := by decide +kernel
theorem dX12_takes_82 : decode cX12_takes 82 = .ok (.getfield 270, 3) := by decide +kernel
theorem dX12_takes_85 : decode cX12_takes 85 = .ok (.ifCond .eq 66, 3) := by decide +kernel
theorem dX12_takes_88 : decode cX12_takes 88 = .ok (.aload_n 0, 1) := by decide +kernel
theorem dX12_takes_89 : decode cX12_takes 89 = .ok (.getfield 273, 3) := by decide +kernel
theorem dX12_takes_92 : decode cX12_takes 92 = .ok (.ifCond .ne 59, 3) := by decide +kernel
theorem dX12_takes_95 : decode cX12_takes 95 = .ok (.aload_n 0, 1) := by decide +kernel
theorem dX12_takes_96 : decode cX12_takes 96 = .ok (.getfield 53, 3) := by decide +kernel
theorem dX12_takes_99 : decode cX12_takes 99 = .ok (.aload_n 0, 1) := by decide +kernel
theorem dX12_takes_100 : decode cX12_takes 100 = .ok (.getfield 267, 3) := by decide +kernel
theorem dX12_takes_103 : decode cX12_takes 103 = .ok (.baload, 1) := by decide +kernel
theorem dX12_takes_104 : decode cX12_takes 104 = .ok (.ifCond .eq 34, 3) := by decide +kernel
theorem dX12_takes_107 : decode cX12_takes 107 = .ok (.aload_n 0, 1) := by decide +kernel
theorem dX12_takes_108 : decode cX12_takes 108 = .ok (.bipush 37, 2) := by decide +kernel
theorem dX12_takes_110 : decode cX12_takes 110 = .ok (.aload_n 0, 1) := by decide +kernel
theorem dX12_takes_111 : decode cX12_takes 111 = .ok (.getfield 267, 3) := by decide +kernel
theorem dX12_takes_114 : decode cX12_takes 114 = .ok (.iadd, 1) := by decide +kernel
theorem dX12_takes_115 : decode cX12_takes 115 = .ok (.bipush 27, 2) := by decide +kernel
theorem dX12_takes_117 : decode cX12_takes 117 = .ok (.bipush 25, 2) := by decide +kernel
theorem dX12_takes_119 : decode cX12_takes 119 = .ok (.invokevirtual 107, 3) := by decide +kernel
theorem dX12_takes_122 : decode cX12_takes 122 = .ok (.aload_n 0, 1) := by decide +kernel
theorem dX12_takes_123 : decode cX12_takes 123 = .ok (.bipush 25, 2) := by decide +kernel
theorem dX12_takes_125 : decode cX12_takes 125 = .ok (.bipush 37, 2) := by decide +kernel
theorem dX12_takes_127 : decode cX12_takes 127 = .ok (.aload_n 0, 1) := by decide +kernel
theorem dX12_takes_128 : decode cX12_takes 128 = .ok (.getfield 267, 3) := by decide +kernel
theorem dX12_takes_131 : decode cX12_takes 131 = .ok (.iadd, 1) := by decide +kernel
theorem dX12_takes_132 : decode cX12_takes 132 = .ok (.invokevirtual 103, 3) := by decide +kernel
theorem dX12_takes_135 : decode cX12_takes 135 = .ok (.goto 16, 3) := by decide +kernel
theorem dX12_takes_138 : decode cX12_takes 138 = .ok (.aload_n 0, 1) := by decide +kernel
theorem dX12_takes_139 : decode cX12_takes 139 = .ok (.bipush 27, 2) := by decide +kernel
theorem dX12_takes_141 : decode cX12_takes 141 = .ok (.bipush 37, 2) := by decide +kernel
theorem dX12_takes_143 : decode cX12_takes 143 = .ok (.aload_n 0, 1) := by decide +kernel
theorem dX12_takes_144 : decode cX12_takes 144 = .ok (.getfield 267, 3) := by decide +kernel
theorem dX12_takes_147 : decode cX12_takes 147 = .ok (.iadd, 1) := by decide +kernel
theorem dX12_takes_148 : decode cX12_takes 148 = .ok (.invokevirtual 103, 3) := by decide +kernel
theorem dX12_takes_151 : decode cX12_takes 151 = .ok (.aload_n 0, 1) := by decide +kernel
theorem dX12_takes_152 : decode cX12_takes 152 = .ok (.getfield 53, 3) := by decide +kernel
theorem dX12_takes_155 : decode cX12_takes 155 = .ok (.aload_n 0, 1) := by decide +kernel
theorem dX12_takes_156 : decode cX12_takes 156 = .ok (.getfield 267, 3) := by decide +kernel
theorem dX12_takes_159 : decode cX12_takes 159 = .ok (.iconst 1, 1) := by decide +kernel
theorem dX12_takes_160 : decode cX12_takes 160 = .ok (.bastore, 1) := by decide +kernel
theorem dX12_takes_161 : decode cX12_takes 161 = .ok (.return_, 1) := by decide +kernel
theorem dX12_takesFigures_0 : decode cX12_takesFigures 0 = .ok (.aload_n 0, 1) := by decide +kernel
theorem dX12_takesFigures_1 : decode cX12_takesFigures 1 = .ok (.getfield 251, 3) := by decide +kernel
theorem dX12_takesFigures_4 : decode cX12_takesFigures 4 = .ok (.istore_n 2, 1) := by decide +kernel
theorem dX12_takesFigures_5 : decode cX12_takesFigures 5 = .ok (.aload_n 0, 1) := by decide +kernel
theorem dX12_takesFigures_6 : decode cX12_takesFigures 6 = .ok (.iconst 0, 1) := by decide +kernel
theorem dX12_takesFigures_7 : decode cX12_takesFigures 7 = .ok (.putfield 276, 3) := by decide +kernel
theorem dX12_takesFigures_10 : decode cX12_takesFigures 10 = .ok (.aload_n 0, 1) := by decide +kernel
theorem dX12_takesFigures_11 : decode cX12_takesFigures 11 = .ok (.bipush 48, 2) := by decide +kernel
theorem dX12_takesFigures_13 : decode cX12_takesFigures 13 = .ok (.bipush 57, 2) := by decide +kernel
theorem dX12_takesFigures_15 : decode cX12_takesFigures 15 = .ok (.invokevirtual 254, 3) := by decide +kernel
theorem dX12_takesFigures_18 : decode cX12_takesFigures 18 = .ok (.ifCond .eq 59, 3) := by decide +kernel
theorem dX12_takesFigures_21 : decode cX12_takesFigures 21 = .ok (.aload_n 0, 1) := by decide +kernel
theorem dX12_takesFigures_22 : decode cX12_takesFigures 22 = .ok (.getfield 251, 3) := by decide +kernel
theorem dX12_takesFigures_25 : decode cX12_takesFigures 25 = .ok (.iload_n 2, 1) := by decide +kernel
theorem dX12_takesFigures_26 : decode cX12_takesFigures 26 = .ok (.iload_n 1, 1) := by decide +kernel
theorem dX12_takesFigures_27 : decode cX12_takesFigures 27 = .ok (.iadd, 1) := by decide +kernel
theorem dX12_takesFigures_28 : decode cX12_takesFigures 28 = .ok (.if_icmp .ne 12, 3) := by decide +kernel
theorem dX12_takesFigures_31 : decode cX12_takesFigures 31 = .ok (.aload_n 0, 1) := by decide +kernel
theorem dX12_takesFigures_32 : decode cX12_takesFigures 32 = .ok (.aload_n 0, 1) := by decide +kernel
theorem dX12_takesFigures_33 : decode cX12_takesFigures 33 = .ok (.getfield 251, 3) := by decide +kernel
theorem dX12_takesFigures_36 : decode cX12_takesFigures 36 = .ok (.invokevirtual 279, 3) := by decide +kernel
theorem dX12_takesFigures_39 : decode cX12_takesFigures 39 = .ok (.ireturn, 1) := by decide +kernel
theorem dX12_takesFigures_40 : decode cX12_takesFigures 40 = .ok (.aload_n 0, 1) := by decide +kernel
theorem dX12_takesFigures_41 : decode cX12_takesFigures 41 = .ok (.bipush 10, 2) := by decide +kernel
theorem dX12_takesFigures_43 : decode cX12_takesFigures 43 = .ok (.aload_n 0, 1) := by decide +kernel
theorem dX12_takesFigures_44 : decode cX12_takesFigures 44 = .ok (.getfield 276, 3) := by decide +kernel
theorem dX12_takesFigures_47 : decode cX12_takesFigures 47 = .ok (.imul, 1) := by decide +kernel
theorem dX12_takesFigures_48 : decode cX12_takesFigures 48 = .ok (.aload_n 0, 1) := by decide +kernel
theorem dX12_takesFigures_49 : decode cX12_takesFigures 49 = .ok (.getfield 19, 3) := by decide +kernel
theorem dX12_takesFigures_52 : decode cX12_takesFigures 52 = .ok (.aload_n 0, 1) := by decide +kernel
theorem dX12_takesFigures_53 : decode cX12_takesFigures 53 = .ok (.getfield 251, 3) := by decide +kernel
theorem dX12_takesFigures_56 : decode cX12_takesFigures 56 = .ok (.iaload, 1) := by decide +kernel
theorem dX12_takesFigures_57 : decode cX12_takesFigures 57 = .ok (.iadd, 1) := by decide +kernel
theorem dX12_takesFigures_58 : decode cX12_takesFigures 58 = .ok (.bipush 48, 2) := by decide +kernel
theorem dX12_takesFigures_60 : decode cX12_takesFigures 60 = .ok (.isub, 1) := by decide +kernel
theorem dX12_takesFigures_61 : decode cX12_takesFigures 61 = .ok (.putfield 276, 3) := by decide +kernel
theorem dX12_takesFigures_64 : decode cX12_takesFigures 64 = .ok (.aload_n 0, 1) := by decide +kernel
theorem dX12_takesFigures_65 : decode cX12_takesFigures 65 = .ok (.dup, 1) := by decide +kernel
theorem dX12_takesFigures_66 : decode cX12_takesFigures 66 = .ok (.getfield 251, 3) := by decide +kernel
theorem dX12_takesFigures_69 : decode cX12_takesFigures 69 = .ok (.iconst 1, 1) := by decide +kernel
theorem dX12_takesFigures_70 : decode cX12_takesFigures 70 = .ok (.iadd, 1) := by decide +kernel
theorem dX12_takesFigures_71 : decode cX12_takesFigures 71 = .ok (.putfield 251, 3) := by decide +kernel
theorem dX12_takesFigures_74 : decode cX12_takesFigures 74 = .ok (.goto (-64), 3) := by decide +kernel
theorem dX12_takesFigures_77 : decode cX12_takesFigures 77 = .ok (.aload_n 0, 1) := by decide +kernel
theorem dX12_takesFigures_78 : decode cX12_takesFigures 78 = .ok (.getfield 251, 3) := by decide +kernel
theorem dX12_takesFigures_81 : decode cX12_takesFigures 81 = .ok (.iload_n 2, 1) := by decide +kernel
theorem dX12_takesFigures_82 : decode cX12_takesFigures 82 = .ok (.if_icmp .gt 14, 3) := by decide +kernel
theorem dX12_takesFigures_85 : decode cX12_takesFigures 85 = .ok (.aload_n 0, 1) := by decide +kernel
theorem dX12_takesFigures_86 : decode cX12_takesFigures 86 = .ok (.aload_n 0, 1) := by decide +kernel
theorem dX12_takesFigures_87 : decode cX12_takesFigures 87 = .ok (.getfield 251, 3) := by decide +kernel
theorem dX12_takesFigures_90 : decode cX12_takesFigures 90 = .ok (.invokevirtual 279, 3) := by decide +kernel
theorem dX12_takesFigures_93 : decode cX12_takesFigures 93 = .ok (.ifCond .eq 7, 3) := by decide +kernel
theorem dX12_takesFigures_96 : decode cX12_takesFigures 96 = .ok (.iconst 1, 1) := by decide +kernel
theorem dX12_takesFigures_97 : decode cX12_takesFigures 97 = .ok (.goto 4, 3) := by decide +kernel
theorem dX12_takesFigures_100 : decode cX12_takesFigures 100 = .ok (.iconst 0, 1) := by decide +kernel
theorem dX12_takesFigures_101 : decode cX12_takesFigures 101 = .ok (.ireturn, 1) := by decide +kernel
theorem dX12_takesPower_0 : decode cX12_takesPower 0 = .ok (.iconst 1, 1) := by decide +kernel
theorem dX12_takesPower_1 : decode cX12_takesPower 1 = .ok (.istore_n 1, 1) := by decide +kernel
theorem dX12_takesPower_2 : decode cX12_takesPower 2 = .ok (.aload_n 0, 1) := by decide +kernel
theorem dX12_takesPower_3 : decode cX12_takesPower 3 = .ok (.invokevirtual 282, 3) := by decide +kernel
theorem dX12_takesPower_6 : decode cX12_takesPower 6 = .ok (.aload_n 0, 1) := by decide +kernel
theorem dX12_takesPower_7 : decode cX12_takesPower 7 = .ok (.bipush 94, 2) := by decide +kernel
theorem dX12_takesPower_9 : decode cX12_takesPower 9 = .ok (.bipush 94, 2) := by decide +kernel
theorem dX12_takesPower_11 : decode cX12_takesPower 11 = .ok (.invokevirtual 254, 3) := by decide +kernel
theorem dX12_takesPower_14 : decode cX12_takesPower 14 = .ok (.ifCond .eq 52, 3) := by decide +kernel
theorem dX12_takesPower_17 : decode cX12_takesPower 17 = .ok (.aload_n 0, 1) := by decide +kernel
theorem dX12_takesPower_18 : decode cX12_takesPower 18 = .ok (.dup, 1) := by decide +kernel
theorem dX12_takesPower_19 : decode cX12_takesPower 19 = .ok (.getfield 251, 3) := by decide +kernel
theorem dX12_takesPower_22 : decode cX12_takesPower 22 = .ok (.iconst 1, 1) := by decide +kernel
theorem dX12_takesPower_23 : decode cX12_takesPower 23 = .ok (.iadd, 1) := by decide +kernel
theorem dX12_takesPower_24 : decode cX12_takesPower 24 = .ok (.putfield 251, 3) := by decide +kernel
theorem dX12_takesPower_27 : decode cX12_takesPower 27 = .ok (.aload_n 0, 1) := by decide +kernel
theorem dX12_takesPower_28 : decode cX12_takesPower 28 = .ok (.invokevirtual 282, 3) := by decide +kernel
theorem dX12_takesPower_31 : decode cX12_takesPower 31 = .ok (.aload_n 0, 1) := by decide +kernel
theorem dX12_takesPower_32 : decode cX12_takesPower 32 = .ok (.getfield 251, 3) := by decide +kernel
theorem dX12_takesPower_35 : decode cX12_takesPower 35 = .ok (.istore_n 2, 1) := by decide +kernel
theorem dX12_takesPower_36 : decode cX12_takesPower 36 = .ok (.aload_n 0, 1) := by decide +kernel
theorem dX12_takesPower_37 : decode cX12_takesPower 37 = .ok (.iconst 2, 1) := by decide +kernel
theorem dX12_takesPower_38 : decode cX12_takesPower 38 = .ok (.invokevirtual 285, 3) := by decide +kernel
theorem dX12_takesPower_41 : decode cX12_takesPower 41 = .ok (.ifCond .ne 5, 3) := by decide +kernel
theorem dX12_takesPower_44 : decode cX12_takesPower 44 = .ok (.iconst 0, 1) := by decide +kernel
theorem dX12_takesPower_45 : decode cX12_takesPower 45 = .ok (.ireturn, 1) := by decide +kernel
theorem dX12_takesPower_46 : decode cX12_takesPower 46 = .ok (.aload_n 0, 1) := by decide +kernel
theorem dX12_takesPower_47 : decode cX12_takesPower 47 = .ok (.getfield 276, 3) := by decide +kernel
theorem dX12_takesPower_50 : decode cX12_takesPower 50 = .ok (.bipush 12, 2) := by decide +kernel
theorem dX12_takesPower_52 : decode cX12_takesPower 52 = .ok (.if_icmp .le 9, 3) := by decide +kernel
theorem dX12_takesPower_55 : decode cX12_takesPower 55 = .ok (.aload_n 0, 1) := by decide +kernel
theorem dX12_takesPower_56 : decode cX12_takesPower 56 = .ok (.iload_n 2, 1) := by decide +kernel
theorem dX12_takesPower_57 : decode cX12_takesPower 57 = .ok (.invokevirtual 279, 3) := by decide +kernel
theorem dX12_takesPower_60 : decode cX12_takesPower 60 = .ok (.ireturn, 1) := by decide +kernel
theorem dX12_takesPower_61 : decode cX12_takesPower 61 = .ok (.aload_n 0, 1) := by decide +kernel
theorem dX12_takesPower_62 : decode cX12_takesPower 62 = .ok (.getfield 276, 3) := by decide +kernel
theorem dX12_takesPower_65 : decode cX12_takesPower 65 = .ok (.istore_n 1, 1) := by decide +kernel
theorem dX12_takesPower_66 : decode cX12_takesPower 66 = .ok (.aload_n 0, 1) := by decide +kernel
theorem dX12_takesPower_67 : decode cX12_takesPower 67 = .ok (.iconst 0, 1) := by decide +kernel
theorem dX12_takesPower_68 : decode cX12_takesPower 68 = .ok (.putfield 260, 3) := by decide +kernel
theorem dX12_takesPower_71 : decode cX12_takesPower 71 = .ok (.aload_n 0, 1) := by decide +kernel
theorem dX12_takesPower_72 : decode cX12_takesPower 72 = .ok (.iload_n 1, 1) := by decide +kernel
theorem dX12_takesPower_73 : decode cX12_takesPower 73 = .ok (.invokevirtual 288, 3) := by decide +kernel
theorem dX12_takesPower_76 : decode cX12_takesPower 76 = .ok (.iconst 1, 1) := by decide +kernel
theorem dX12_takesPower_77 : decode cX12_takesPower 77 = .ok (.ireturn, 1) := by decide +kernel
theorem dX12_values_0 : decode cX12_values 0 = .ok (.aload_n 0, 1) := by decide +kernel
theorem dX12_values_1 : decode cX12_values 1 = .ok (.bipush 27, 2) := by decide +kernel
theorem dX12_values_3 : decode cX12_values 3 = .ok (.invokevirtual 78, 3) := by decide +kernel
theorem dX12_values_6 : decode cX12_values 6 = .ok (.aload_n 0, 1) := by decide +kernel
theorem dX12_values_7 : decode cX12_values 7 = .ok (.getfield 22, 3) := by decide +kernel
theorem dX12_values_10 : decode cX12_values 10 = .ok (.sipush 13392, 3) := by decide +kernel
theorem dX12_values_13 : decode cX12_values 13 = .ok (.iload_n 1, 1) := by decide +kernel
theorem dX12_values_14 : decode cX12_values 14 = .ok (.iload_n 2, 1) := by decide +kernel
theorem dX12_values_15 : decode cX12_values 15 = .ok (.invokestatic 59, 3) := by decide +kernel
theorem dX12_values_18 : decode cX12_values 18 = .ok (.iadd, 1) := by decide +kernel
theorem dX12_values_19 : decode cX12_values 19 = .ok (.iload_n 3, 1) := by decide +kernel
theorem dX12_values_20 : decode cX12_values 20 = .ok (.iastore, 1) := by decide +kernel
theorem dX12_values_21 : decode cX12_values 21 = .ok (.return_, 1) := by decide +kernel
theorem dX12_takesFactor_0 : decode cX12_takesFactor 0 = .ok (.aload_n 0, 1) := by decide +kernel
theorem dX12_takesFactor_1 : decode cX12_takesFactor 1 = .ok (.bipush 45, 2) := by decide +kernel
theorem dX12_takesFactor_3 : decode cX12_takesFactor 3 = .ok (.bipush 45, 2) := by decide +kernel
theorem dX12_takesFactor_5 : decode cX12_takesFactor 5 = .ok (.invokevirtual 254, 3) := by decide +kernel
theorem dX12_takesFactor_8 : decode cX12_takesFactor 8 = .ok (.ifCond .eq 37, 3) := by decide +kernel
theorem dX12_takesFactor_11 : decode cX12_takesFactor 11 = .ok (.aload_n 0, 1) := by decide +kernel
theorem dX12_takesFactor_12 : decode cX12_takesFactor 12 = .ok (.getfield 264, 3) := by decide +kernel
theorem dX12_takesFactor_15 : decode cX12_takesFactor 15 = .ok (.ifCond .eq 30, 3) := by decide +kernel
theorem dX12_takesFactor_18 : decode cX12_takesFactor 18 = .ok (.aload_n 0, 1) := by decide +kernel
theorem dX12_takesFactor_19 : decode cX12_takesFactor 19 = .ok (.iconst 0, 1) := by decide +kernel
theorem dX12_takesFactor_20 : decode cX12_takesFactor 20 = .ok (.putfield 264, 3) := by decide +kernel
theorem dX12_takesFactor_23 : decode cX12_takesFactor 23 = .ok (.aload_n 0, 1) := by decide +kernel
theorem dX12_takesFactor_24 : decode cX12_takesFactor 24 = .ok (.getfield 49, 3) := by decide +kernel
theorem dX12_takesFactor_27 : decode cX12_takesFactor 27 = .ok (.aload_n 0, 1) := by decide +kernel
theorem dX12_takesFactor_28 : decode cX12_takesFactor 28 = .ok (.getfield 267, 3) := by decide +kernel
theorem dX12_takesFactor_31 : decode cX12_takesFactor 31 = .ok (.iconst 1, 1) := by decide +kernel
theorem dX12_takesFactor_32 : decode cX12_takesFactor 32 = .ok (.bastore, 1) := by decide +kernel
theorem dX12_takesFactor_33 : decode cX12_takesFactor 33 = .ok (.aload_n 0, 1) := by decide +kernel
theorem dX12_takesFactor_34 : decode cX12_takesFactor 34 = .ok (.dup, 1) := by decide +kernel
theorem dX12_takesFactor_35 : decode cX12_takesFactor 35 = .ok (.getfield 251, 3) := by decide +kernel
theorem dX12_takesFactor_38 : decode cX12_takesFactor 38 = .ok (.iconst 1, 1) := by decide +kernel
theorem dX12_takesFactor_39 : decode cX12_takesFactor 39 = .ok (.iadd, 1) := by decide +kernel
theorem dX12_takesFactor_40 : decode cX12_takesFactor 40 = .ok (.putfield 251, 3) := by decide +kernel
theorem dX12_takesFactor_43 : decode cX12_takesFactor 43 = .ok (.iconst 1, 1) := by decide +kernel
theorem dX12_takesFactor_44 : decode cX12_takesFactor 44 = .ok (.ireturn, 1) := by decide +kernel
theorem dX12_takesFactor_45 : decode cX12_takesFactor 45 = .ok (.aload_n 0, 1) := by decide +kernel
theorem dX12_takesFactor_46 : decode cX12_takesFactor 46 = .ok (.bipush 40, 2) := by decide +kernel
theorem dX12_takesFactor_48 : decode cX12_takesFactor 48 = .ok (.bipush 40, 2) := by decide +kernel
theorem dX12_takesFactor_50 : decode cX12_takesFactor 50 = .ok (.invokevirtual 254, 3) := by decide +kernel
theorem dX12_takesFactor_53 : decode cX12_takesFactor 53 = .ok (.ifCond .eq 47, 3) := by decide +kernel
theorem dX12_takesFactor_56 : decode cX12_takesFactor 56 = .ok (.aload_n 0, 1) := by decide +kernel
theorem dX12_takesFactor_57 : decode cX12_takesFactor 57 = .ok (.getfield 267, 3) := by decide +kernel
theorem dX12_takesFactor_60 : decode cX12_takesFactor 60 = .ok (.bipush 8, 2) := by decide +kernel
