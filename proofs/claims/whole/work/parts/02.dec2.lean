theorem dX3_cross_100 : decode cX3_cross 100 = .ok (.getfield 47, 3) := by decide +kernel
theorem dX3_cross_103 : decode cX3_cross 103 = .ok (.aload_n 2, 1) := by decide +kernel
theorem dX3_cross_104 : decode cX3_cross 104 = .ok (.sipush 10006, 3) := by decide +kernel
theorem dX3_cross_107 : decode cX3_cross 107 = .ok (.iload 6, 2) := by decide +kernel
theorem dX3_cross_109 : decode cX3_cross 109 = .ok (.aload 4, 2) := by decide +kernel
theorem dX3_cross_111 : decode cX3_cross 111 = .ok (.aload 4, 2) := by decide +kernel
theorem dX3_cross_113 : decode cX3_cross 113 = .ok (.invokevirtual 152, 3) := by decide +kernel
theorem dX3_cross_116 : decode cX3_cross 116 = .ok (.invokevirtual 155, 3) := by decide +kernel
theorem dX3_cross_119 : decode cX3_cross 119 = .ok (.aload_n 0, 1) := by decide +kernel
theorem dX3_cross_120 : decode cX3_cross 120 = .ok (.iconst 1, 1) := by decide +kernel
theorem dX3_cross_121 : decode cX3_cross 121 = .ok (.putfield 41, 3) := by decide +kernel
theorem dX3_cross_124 : decode cX3_cross 124 = .ok (.return_, 1) := by decide +kernel
theorem dX3_reduceTails_0 : decode cX3_reduceTails 0 = .ok (.iconst 0, 1) := by decide +kernel
theorem dX3_reduceTails_1 : decode cX3_reduceTails 1 = .ok (.istore_n 1, 1) := by decide +kernel
theorem dX3_reduceTails_2 : decode cX3_reduceTails 2 = .ok (.iload_n 1, 1) := by decide +kernel
theorem dX3_reduceTails_3 : decode cX3_reduceTails 3 = .ok (.aload_n 0, 1) := by decide +kernel
theorem dX3_reduceTails_4 : decode cX3_reduceTails 4 = .ok (.getfield 38, 3) := by decide +kernel
theorem dX3_reduceTails_7 : decode cX3_reduceTails 7 = .ok (.if_icmp .ge 67, 3) := by decide +kernel
theorem dX3_reduceTails_10 : decode cX3_reduceTails 10 = .ok (.aload_n 0, 1) := by decide +kernel
theorem dX3_reduceTails_11 : decode cX3_reduceTails 11 = .ok (.getfield 51, 3) := by decide +kernel
theorem dX3_reduceTails_14 : decode cX3_reduceTails 14 = .ok (.aload_n 0, 1) := by decide +kernel
theorem dX3_reduceTails_15 : decode cX3_reduceTails 15 = .ok (.getfield 44, 3) := by decide +kernel
theorem dX3_reduceTails_18 : decode cX3_reduceTails 18 = .ok (.invokevirtual 104, 3) := by decide +kernel
theorem dX3_reduceTails_21 : decode cX3_reduceTails 21 = .ok (.iconst 0, 1) := by decide +kernel
theorem dX3_reduceTails_22 : decode cX3_reduceTails 22 = .ok (.istore_n 2, 1) := by decide +kernel
theorem dX3_reduceTails_23 : decode cX3_reduceTails 23 = .ok (.iload_n 2, 1) := by decide +kernel
theorem dX3_reduceTails_24 : decode cX3_reduceTails 24 = .ok (.aload_n 0, 1) := by decide +kernel
theorem dX3_reduceTails_25 : decode cX3_reduceTails 25 = .ok (.getfield 38, 3) := by decide +kernel
theorem dX3_reduceTails_28 : decode cX3_reduceTails 28 = .ok (.if_icmp .ge 27, 3) := by decide +kernel
theorem dX3_reduceTails_31 : decode cX3_reduceTails 31 = .ok (.iload_n 2, 1) := by decide +kernel
theorem dX3_reduceTails_32 : decode cX3_reduceTails 32 = .ok (.iload_n 1, 1) := by decide +kernel
theorem dX3_reduceTails_33 : decode cX3_reduceTails 33 = .ok (.if_icmp .eq 16, 3) := by decide +kernel
theorem dX3_reduceTails_36 : decode cX3_reduceTails 36 = .ok (.aload_n 0, 1) := by decide +kernel
theorem dX3_reduceTails_37 : decode cX3_reduceTails 37 = .ok (.getfield 51, 3) := by decide +kernel
theorem dX3_reduceTails_40 : decode cX3_reduceTails 40 = .ok (.aload_n 0, 1) := by decide +kernel
theorem dX3_reduceTails_41 : decode cX3_reduceTails 41 = .ok (.getfield 23, 3) := by decide +kernel
theorem dX3_reduceTails_44 : decode cX3_reduceTails 44 = .ok (.iload_n 2, 1) := by decide +kernel
theorem dX3_reduceTails_45 : decode cX3_reduceTails 45 = .ok (.aaload, 1) := by decide +kernel
theorem dX3_reduceTails_46 : decode cX3_reduceTails 46 = .ok (.invokevirtual 108, 3) := by decide +kernel
theorem dX3_reduceTails_49 : decode cX3_reduceTails 49 = .ok (.iinc 2 1, 3) := by decide +kernel
theorem dX3_reduceTails_52 : decode cX3_reduceTails 52 = .ok (.goto (-29), 3) := by decide +kernel
theorem dX3_reduceTails_55 : decode cX3_reduceTails 55 = .ok (.aload_n 0, 1) := by decide +kernel
theorem dX3_reduceTails_56 : decode cX3_reduceTails 56 = .ok (.getfield 51, 3) := by decide +kernel
theorem dX3_reduceTails_59 : decode cX3_reduceTails 59 = .ok (.aload_n 0, 1) := by decide +kernel
theorem dX3_reduceTails_60 : decode cX3_reduceTails 60 = .ok (.getfield 23, 3) := by decide +kernel
theorem dX3_reduceTails_63 : decode cX3_reduceTails 63 = .ok (.iload_n 1, 1) := by decide +kernel
theorem dX3_reduceTails_64 : decode cX3_reduceTails 64 = .ok (.aaload, 1) := by decide +kernel
theorem dX3_reduceTails_65 : decode cX3_reduceTails 65 = .ok (.invokevirtual 111, 3) := by decide +kernel
theorem dX3_reduceTails_68 : decode cX3_reduceTails 68 = .ok (.iinc 1 1, 3) := by decide +kernel
theorem dX3_reduceTails_71 : decode cX3_reduceTails 71 = .ok (.goto (-69), 3) := by decide +kernel
theorem dX3_reduceTails_74 : decode cX3_reduceTails 74 = .ok (.return_, 1) := by decide +kernel
theorem dX3_handOver_0 : decode cX3_handOver 0 = .ok (.iconst (-1), 1) := by decide +kernel
theorem dX3_handOver_1 : decode cX3_handOver 1 = .ok (.istore_n 2, 1) := by decide +kernel
theorem dX3_handOver_2 : decode cX3_handOver 2 = .ok (.iconst 0, 1) := by decide +kernel
theorem dX3_handOver_3 : decode cX3_handOver 3 = .ok (.istore_n 3, 1) := by decide +kernel
theorem dX3_handOver_4 : decode cX3_handOver 4 = .ok (.iload_n 3, 1) := by decide +kernel
theorem dX3_handOver_5 : decode cX3_handOver 5 = .ok (.aload_n 0, 1) := by decide +kernel
theorem dX3_handOver_6 : decode cX3_handOver 6 = .ok (.getfield 38, 3) := by decide +kernel
theorem dX3_handOver_9 : decode cX3_handOver 9 = .ok (.if_icmp .ge 100, 3) := by decide +kernel
theorem dX3_handOver_12 : decode cX3_handOver 12 = .ok (.iconst (-1), 1) := by decide +kernel
theorem dX3_handOver_13 : decode cX3_handOver 13 = .ok (.istore 4, 2) := by decide +kernel
theorem dX3_handOver_15 : decode cX3_handOver 15 = .ok (.bipush 91, 2) := by decide +kernel
theorem dX3_handOver_17 : decode cX3_handOver 17 = .ok (.istore 5, 2) := by decide +kernel
theorem dX3_handOver_19 : decode cX3_handOver 19 = .ok (.iconst 0, 1) := by decide +kernel
theorem dX3_handOver_20 : decode cX3_handOver 20 = .ok (.istore 6, 2) := by decide +kernel
theorem dX3_handOver_22 : decode cX3_handOver 22 = .ok (.iload 6, 2) := by decide +kernel
theorem dX3_handOver_24 : decode cX3_handOver 24 = .ok (.aload_n 0, 1) := by decide +kernel
theorem dX3_handOver_25 : decode cX3_handOver 25 = .ok (.getfield 38, 3) := by decide +kernel
theorem dX3_handOver_28 : decode cX3_handOver 28 = .ok (.if_icmp .ge 56, 3) := by decide +kernel
theorem dX3_handOver_31 : decode cX3_handOver 31 = .ok (.aload_n 0, 1) := by decide +kernel
theorem dX3_handOver_32 : decode cX3_handOver 32 = .ok (.getfield 44, 3) := by decide +kernel
theorem dX3_handOver_35 : decode cX3_handOver 35 = .ok (.aload_n 0, 1) := by decide +kernel
theorem dX3_handOver_36 : decode cX3_handOver 36 = .ok (.getfield 27, 3) := by decide +kernel
theorem dX3_handOver_39 : decode cX3_handOver 39 = .ok (.iload 6, 2) := by decide +kernel
theorem dX3_handOver_41 : decode cX3_handOver 41 = .ok (.iaload, 1) := by decide +kernel
theorem dX3_handOver_42 : decode cX3_handOver 42 = .ok (.aload_n 0, 1) := by decide +kernel
theorem dX3_handOver_43 : decode cX3_handOver 43 = .ok (.getfield 31, 3) := by decide +kernel
theorem dX3_handOver_46 : decode cX3_handOver 46 = .ok (.iload 6, 2) := by decide +kernel
theorem dX3_handOver_48 : decode cX3_handOver 48 = .ok (.iaload, 1) := by decide +kernel
theorem dX3_handOver_49 : decode cX3_handOver 49 = .ok (.invokestatic 145, 3) := by decide +kernel
theorem dX3_handOver_52 : decode cX3_handOver 52 = .ok (.invokestatic 159, 3) := by decide +kernel
theorem dX3_handOver_55 : decode cX3_handOver 55 = .ok (.istore 7, 2) := by decide +kernel
theorem dX3_handOver_57 : decode cX3_handOver 57 = .ok (.iload 7, 2) := by decide +kernel
theorem dX3_handOver_59 : decode cX3_handOver 59 = .ok (.iload_n 2, 1) := by decide +kernel
theorem dX3_handOver_60 : decode cX3_handOver 60 = .ok (.if_icmp .le 18, 3) := by decide +kernel
theorem dX3_handOver_63 : decode cX3_handOver 63 = .ok (.iload 7, 2) := by decide +kernel
theorem dX3_handOver_65 : decode cX3_handOver 65 = .ok (.iload 5, 2) := by decide +kernel
theorem dX3_handOver_67 : decode cX3_handOver 67 = .ok (.if_icmp .ge 11, 3) := by decide +kernel
theorem dX3_handOver_70 : decode cX3_handOver 70 = .ok (.iload 6, 2) := by decide +kernel
theorem dX3_handOver_72 : decode cX3_handOver 72 = .ok (.istore 4, 2) := by decide +kernel
theorem dX3_handOver_74 : decode cX3_handOver 74 = .ok (.iload 7, 2) := by decide +kernel
theorem dX3_handOver_76 : decode cX3_handOver 76 = .ok (.istore 5, 2) := by decide +kernel
theorem dX3_handOver_78 : decode cX3_handOver 78 = .ok (.iinc 6 1, 3) := by decide +kernel
theorem dX3_handOver_81 : decode cX3_handOver 81 = .ok (.goto (-59), 3) := by decide +kernel
theorem dX3_handOver_84 : decode cX3_handOver 84 = .ok (.iload 4, 2) := by decide +kernel
theorem dX3_handOver_86 : decode cX3_handOver 86 = .ok (.ifCond .lt 14, 3) := by decide +kernel
theorem dX3_handOver_89 : decode cX3_handOver 89 = .ok (.aload_n 1, 1) := by decide +kernel
theorem dX3_handOver_90 : decode cX3_handOver 90 = .ok (.aload_n 0, 1) := by decide +kernel
theorem dX3_handOver_91 : decode cX3_handOver 91 = .ok (.getfield 23, 3) := by decide +kernel
theorem dX3_handOver_94 : decode cX3_handOver 94 = .ok (.iload 4, 2) := by decide +kernel
theorem dX3_handOver_96 : decode cX3_handOver 96 = .ok (.aaload, 1) := by decide +kernel
theorem dX3_handOver_97 : decode cX3_handOver 97 = .ok (.invokevirtual 162, 3) := by decide +kernel
theorem dX3_handOver_100 : decode cX3_handOver 100 = .ok (.iload 5, 2) := by decide +kernel
theorem dX3_handOver_102 : decode cX3_handOver 102 = .ok (.istore_n 2, 1) := by decide +kernel
theorem dX3_handOver_103 : decode cX3_handOver 103 = .ok (.iinc 3 1, 3) := by decide +kernel
theorem dX3_handOver_106 : decode cX3_handOver 106 = .ok (.goto (-102), 3) := by decide +kernel
theorem dX3_handOver_109 : decode cX3_handOver 109 = .ok (.return_, 1) := by decide +kernel
theorem dX4_init_0 : decode cX4_init 0 = .ok (.aload_n 0, 1) := by decide +kernel
theorem dX4_init_1 : decode cX4_init 1 = .ok (.invokespecial 3, 3) := by decide +kernel
theorem dX4_init_4 : decode cX4_init 4 = .ok (.aload_n 0, 1) := by decide +kernel
theorem dX4_init_5 : decode cX4_init 5 = .ok (.bipush 6, 2) := by decide +kernel
theorem dX4_init_7 : decode cX4_init 7 = .ok (.anewarray 9, 3) := by decide +kernel
theorem dX4_init_10 : decode cX4_init 10 = .ok (.putfield 11, 3) := by decide +kernel
theorem dX4_init_13 : decode cX4_init 13 = .ok (.aload_n 0, 1) := by decide +kernel
theorem dX4_init_14 : decode cX4_init 14 = .ok (.bipush 6, 2) := by decide +kernel
theorem dX4_init_16 : decode cX4_init 16 = .ok (.newarray .int, 2) := by decide +kernel
theorem dX4_init_18 : decode cX4_init 18 = .ok (.putfield 17, 3) := by decide +kernel
theorem dX4_init_21 : decode cX4_init 21 = .ok (.aload_n 0, 1) := by decide +kernel
theorem dX4_init_22 : decode cX4_init 22 = .ok (.bipush 6, 2) := by decide +kernel
theorem dX4_init_24 : decode cX4_init 24 = .ok (.newarray .int, 2) := by decide +kernel
theorem dX4_init_26 : decode cX4_init 26 = .ok (.putfield 21, 3) := by decide +kernel
theorem dX4_init_29 : decode cX4_init 29 = .ok (.aload_n 0, 1) := by decide +kernel
theorem dX4_init_30 : decode cX4_init 30 = .ok (.bipush 6, 2) := by decide +kernel
theorem dX4_init_32 : decode cX4_init 32 = .ok (.newarray .int, 2) := by decide +kernel
theorem dX4_init_34 : decode cX4_init 34 = .ok (.putfield 24, 3) := by decide +kernel
theorem dX4_init_37 : decode cX4_init 37 = .ok (.aload_n 0, 1) := by decide +kernel
theorem dX4_init_38 : decode cX4_init 38 = .ok (.bipush 6, 2) := by decide +kernel
theorem dX4_init_40 : decode cX4_init 40 = .ok (.newarray .int, 2) := by decide +kernel
theorem dX4_init_42 : decode cX4_init 42 = .ok (.putfield 27, 3) := by decide +kernel
theorem dX4_init_45 : decode cX4_init 45 = .ok (.aload_n 0, 1) := by decide +kernel
theorem dX4_init_46 : decode cX4_init 46 = .ok (.iconst 0, 1) := by decide +kernel
theorem dX4_init_47 : decode cX4_init 47 = .ok (.putfield 30, 3) := by decide +kernel
theorem dX4_init_50 : decode cX4_init 50 = .ok (.aload_n 0, 1) := by decide +kernel
theorem dX4_init_51 : decode cX4_init 51 = .ok (.iconst 0, 1) := by decide +kernel
theorem dX4_init_52 : decode cX4_init 52 = .ok (.putfield 34, 3) := by decide +kernel
theorem dX4_init_55 : decode cX4_init 55 = .ok (.aload_n 0, 1) := by decide +kernel
theorem dX4_init_56 : decode cX4_init 56 = .ok (.aload_n 1, 1) := by decide +kernel
theorem dX4_init_57 : decode cX4_init 57 = .ok (.putfield 37, 3) := by decide +kernel
theorem dX4_init_60 : decode cX4_init 60 = .ok (.return_, 1) := by decide +kernel
theorem dX4_begin_0 : decode cX4_begin 0 = .ok (.aload_n 0, 1) := by decide +kernel
theorem dX4_begin_1 : decode cX4_begin 1 = .ok (.iload_n 1, 1) := by decide +kernel
theorem dX4_begin_2 : decode cX4_begin 2 = .ok (.putfield 34, 3) := by decide +kernel
theorem dX4_begin_5 : decode cX4_begin 5 = .ok (.aload_n 0, 1) := by decide +kernel
theorem dX4_begin_6 : decode cX4_begin 6 = .ok (.iconst 0, 1) := by decide +kernel
theorem dX4_begin_7 : decode cX4_begin 7 = .ok (.putfield 30, 3) := by decide +kernel
theorem dX4_begin_10 : decode cX4_begin 10 = .ok (.return_, 1) := by decide +kernel
theorem dX4_take_0 : decode cX4_take 0 = .ok (.aload_n 1, 1) := by decide +kernel
theorem dX4_take_1 : decode cX4_take 1 = .ok (.aload_n 0, 1) := by decide +kernel
theorem dX4_take_2 : decode cX4_take 2 = .ok (.getfield 34, 3) := by decide +kernel
theorem dX4_take_5 : decode cX4_take 5 = .ok (.invokevirtual 41, 3) := by decide +kernel
theorem dX4_take_8 : decode cX4_take 8 = .ok (.istore_n 2, 1) := by decide +kernel
theorem dX4_take_9 : decode cX4_take 9 = .ok (.iload_n 2, 1) := by decide +kernel
theorem dX4_take_10 : decode cX4_take 10 = .ok (.ifCond .lt 12, 3) := by decide +kernel
theorem dX4_take_13 : decode cX4_take 13 = .ok (.aload_n 0, 1) := by decide +kernel
theorem dX4_take_14 : decode cX4_take 14 = .ok (.getfield 30, 3) := by decide +kernel
theorem dX4_take_17 : decode cX4_take 17 = .ok (.bipush 6, 2) := by decide +kernel
theorem dX4_take_19 : decode cX4_take 19 = .ok (.if_icmp .lt 4, 3) := by decide +kernel
theorem dX4_take_22 : decode cX4_take 22 = .ok (.return_, 1) := by decide +kernel
theorem dX4_take_23 : decode cX4_take 23 = .ok (.aload_n 0, 1) := by decide +kernel
theorem dX4_take_24 : decode cX4_take 24 = .ok (.getfield 11, 3) := by decide +kernel
theorem dX4_take_27 : decode cX4_take 27 = .ok (.aload_n 0, 1) := by decide +kernel
theorem dX4_take_28 : decode cX4_take 28 = .ok (.getfield 30, 3) := by decide +kernel
theorem dX4_take_31 : decode cX4_take 31 = .ok (.aload_n 1, 1) := by decide +kernel
theorem dX4_take_32 : decode cX4_take 32 = .ok (.aastore, 1) := by decide +kernel
theorem dX4_take_33 : decode cX4_take 33 = .ok (.aload_n 0, 1) := by decide +kernel
theorem dX4_take_34 : decode cX4_take 34 = .ok (.getfield 17, 3) := by decide +kernel
theorem dX4_take_37 : decode cX4_take 37 = .ok (.aload_n 0, 1) := by decide +kernel
theorem dX4_take_38 : decode cX4_take 38 = .ok (.getfield 30, 3) := by decide +kernel
theorem dX4_take_41 : decode cX4_take 41 = .ok (.getstatic 45, 3) := by decide +kernel
theorem dX4_take_44 : decode cX4_take 44 = .ok (.iload_n 2, 1) := by decide +kernel
theorem dX4_take_45 : decode cX4_take 45 = .ok (.iaload, 1) := by decide +kernel
theorem dX4_take_46 : decode cX4_take 46 = .ok (.iastore, 1) := by decide +kernel
theorem dX4_take_47 : decode cX4_take 47 = .ok (.aload_n 0, 1) := by decide +kernel
theorem dX4_take_48 : decode cX4_take 48 = .ok (.getfield 21, 3) := by decide +kernel
theorem dX4_take_51 : decode cX4_take 51 = .ok (.aload_n 0, 1) := by decide +kernel
theorem dX4_take_52 : decode cX4_take 52 = .ok (.getfield 30, 3) := by decide +kernel
theorem dX4_take_55 : decode cX4_take 55 = .ok (.getstatic 48, 3) := by decide +kernel
theorem dX4_take_58 : decode cX4_take 58 = .ok (.iload_n 2, 1) := by decide +kernel
theorem dX4_take_59 : decode cX4_take 59 = .ok (.iaload, 1) := by decide +kernel
theorem dX4_take_60 : decode cX4_take 60 = .ok (.iastore, 1) := by decide +kernel
theorem dX4_take_61 : decode cX4_take 61 = .ok (.aload_n 0, 1) := by decide +kernel
theorem dX4_take_62 : decode cX4_take 62 = .ok (.getfield 24, 3) := by decide +kernel
theorem dX4_take_65 : decode cX4_take 65 = .ok (.aload_n 0, 1) := by decide +kernel
theorem dX4_take_66 : decode cX4_take 66 = .ok (.getfield 30, 3) := by decide +kernel
theorem dX4_take_69 : decode cX4_take 69 = .ok (.aload_n 1, 1) := by decide +kernel
theorem dX4_take_70 : decode cX4_take 70 = .ok (.getfield 51, 3) := by decide +kernel
theorem dX4_take_73 : decode cX4_take 73 = .ok (.iload_n 2, 1) := by decide +kernel
theorem dX4_take_74 : decode cX4_take 74 = .ok (.iaload, 1) := by decide +kernel
theorem dX4_take_75 : decode cX4_take 75 = .ok (.invokestatic 54, 3) := by decide +kernel
theorem dX4_take_78 : decode cX4_take 78 = .ok (.iastore, 1) := by decide +kernel
theorem dX4_take_79 : decode cX4_take 79 = .ok (.aload_n 0, 1) := by decide +kernel
theorem dX4_take_80 : decode cX4_take 80 = .ok (.getfield 27, 3) := by decide +kernel
theorem dX4_take_83 : decode cX4_take 83 = .ok (.aload_n 0, 1) := by decide +kernel
theorem dX4_take_84 : decode cX4_take 84 = .ok (.getfield 30, 3) := by decide +kernel
theorem dX4_take_87 : decode cX4_take 87 = .ok (.aload_n 1, 1) := by decide +kernel
theorem dX4_take_88 : decode cX4_take 88 = .ok (.invokevirtual 59, 3) := by decide +kernel
theorem dX4_take_91 : decode cX4_take 91 = .ok (.iastore, 1) := by decide +kernel
theorem dX4_take_92 : decode cX4_take 92 = .ok (.aload_n 0, 1) := by decide +kernel
theorem dX4_take_93 : decode cX4_take 93 = .ok (.dup, 1) := by decide +kernel
theorem dX4_take_94 : decode cX4_take 94 = .ok (.getfield 30, 3) := by decide +kernel
theorem dX4_take_97 : decode cX4_take 97 = .ok (.iconst 1, 1) := by decide +kernel
theorem dX4_take_98 : decode cX4_take 98 = .ok (.iadd, 1) := by decide +kernel
theorem dX4_take_99 : decode cX4_take 99 = .ok (.putfield 30, 3) := by decide +kernel
theorem dX4_take_102 : decode cX4_take 102 = .ok (.return_, 1) := by decide +kernel
theorem dX4_reduce_0 : decode cX4_reduce 0 = .ok (.aload_n 1, 1) := by decide +kernel
theorem dX4_reduce_1 : decode cX4_reduce 1 = .ok (.invokevirtual 63, 3) := by decide +kernel
theorem dX4_reduce_4 : decode cX4_reduce 4 = .ok (.istore_n 2, 1) := by decide +kernel
theorem dX4_reduce_5 : decode cX4_reduce 5 = .ok (.iload_n 2, 1) := by decide +kernel
theorem dX4_reduce_6 : decode cX4_reduce 6 = .ok (.ifCond .lt 50, 3) := by decide +kernel
theorem dX4_reduce_9 : decode cX4_reduce 9 = .ok (.iconst 0, 1) := by decide +kernel
theorem dX4_reduce_10 : decode cX4_reduce 10 = .ok (.istore_n 3, 1) := by decide +kernel
theorem dX4_reduce_11 : decode cX4_reduce 11 = .ok (.iload_n 3, 1) := by decide +kernel
theorem dX4_reduce_12 : decode cX4_reduce 12 = .ok (.iload_n 2, 1) := by decide +kernel
theorem dX4_reduce_13 : decode cX4_reduce 13 = .ok (.if_icmp .gt 37, 3) := by decide +kernel
theorem dX4_reduce_16 : decode cX4_reduce 16 = .ok (.aload_n 0, 1) := by decide +kernel
theorem dX4_reduce_17 : decode cX4_reduce 17 = .ok (.getfield 34, 3) := by decide +kernel
theorem dX4_reduce_20 : decode cX4_reduce 20 = .ok (.iload_n 2, 1) := by decide +kernel
theorem dX4_reduce_21 : decode cX4_reduce 21 = .ok (.iload_n 3, 1) := by decide +kernel
theorem dX4_reduce_22 : decode cX4_reduce 22 = .ok (.invokestatic 66, 3) := by decide +kernel
theorem dX4_reduce_25 : decode cX4_reduce 25 = .ok (.istore 4, 2) := by decide +kernel
theorem dX4_reduce_27 : decode cX4_reduce 27 = .ok (.aload_n 1, 1) := by decide +kernel
theorem dX4_reduce_28 : decode cX4_reduce 28 = .ok (.getfield 51, 3) := by decide +kernel
theorem dX4_reduce_31 : decode cX4_reduce 31 = .ok (.iload 4, 2) := by decide +kernel
theorem dX4_reduce_33 : decode cX4_reduce 33 = .ok (.iaload, 1) := by decide +kernel
theorem dX4_reduce_34 : decode cX4_reduce 34 = .ok (.ifCond .eq 10, 3) := by decide +kernel
theorem dX4_reduce_37 : decode cX4_reduce 37 = .ok (.aload_n 0, 1) := by decide +kernel
theorem dX4_reduce_38 : decode cX4_reduce 38 = .ok (.aload_n 1, 1) := by decide +kernel
theorem dX4_reduce_39 : decode cX4_reduce 39 = .ok (.iload 4, 2) := by decide +kernel
theorem dX4_reduce_41 : decode cX4_reduce 41 = .ok (.invokevirtual 70, 3) := by decide +kernel
theorem dX4_reduce_44 : decode cX4_reduce 44 = .ok (.iinc 3 1, 3) := by decide +kernel
theorem dX4_reduce_47 : decode cX4_reduce 47 = .ok (.goto (-36), 3) := by decide +kernel
theorem dX4_reduce_50 : decode cX4_reduce 50 = .ok (.iinc 2 (-1), 3) := by decide +kernel
theorem dX4_reduce_53 : decode cX4_reduce 53 = .ok (.goto (-48), 3) := by decide +kernel
theorem dX4_reduce_56 : decode cX4_reduce 56 = .ok (.return_, 1) := by decide +kernel
theorem dX4_cancel_0 : decode cX4_cancel 0 = .ok (.getstatic 45, 3) := by decide +kernel
theorem dX4_cancel_3 : decode cX4_cancel 3 = .ok (.iload_n 2, 1) := by decide +kernel
theorem dX4_cancel_4 : decode cX4_cancel 4 = .ok (.iaload, 1) := by decide +kernel
theorem dX4_cancel_5 : decode cX4_cancel 5 = .ok (.istore_n 3, 1) := by decide +kernel
theorem dX4_cancel_6 : decode cX4_cancel 6 = .ok (.getstatic 48, 3) := by decide +kernel
theorem dX4_cancel_9 : decode cX4_cancel 9 = .ok (.iload_n 2, 1) := by decide +kernel
theorem dX4_cancel_10 : decode cX4_cancel 10 = .ok (.iaload, 1) := by decide +kernel
theorem dX4_cancel_11 : decode cX4_cancel 11 = .ok (.istore 4, 2) := by decide +kernel
theorem dX4_cancel_13 : decode cX4_cancel 13 = .ok (.iconst 0, 1) := by decide +kernel
theorem dX4_cancel_14 : decode cX4_cancel 14 = .ok (.istore 5, 2) := by decide +kernel
theorem dX4_cancel_16 : decode cX4_cancel 16 = .ok (.iload 5, 2) := by decide +kernel
theorem dX4_cancel_18 : decode cX4_cancel 18 = .ok (.aload_n 0, 1) := by decide +kernel
theorem dX4_cancel_19 : decode cX4_cancel 19 = .ok (.getfield 30, 3) := by decide +kernel
theorem dX4_cancel_22 : decode cX4_cancel 22 = .ok (.if_icmp .ge 107, 3) := by decide +kernel
theorem dX4_cancel_25 : decode cX4_cancel 25 = .ok (.aload_n 0, 1) := by decide +kernel
theorem dX4_cancel_26 : decode cX4_cancel 26 = .ok (.getfield 17, 3) := by decide +kernel
theorem dX4_cancel_29 : decode cX4_cancel 29 = .ok (.iload 5, 2) := by decide +kernel
theorem dX4_cancel_31 : decode cX4_cancel 31 = .ok (.iaload, 1) := by decide +kernel
theorem dX4_cancel_32 : decode cX4_cancel 32 = .ok (.iload_n 3, 1) := by decide +kernel
theorem dX4_cancel_33 : decode cX4_cancel 33 = .ok (.if_icmp .gt 90, 3) := by decide +kernel
theorem dX4_cancel_36 : decode cX4_cancel 36 = .ok (.aload_n 0, 1) := by decide +kernel
theorem dX4_cancel_37 : decode cX4_cancel 37 = .ok (.getfield 21, 3) := by decide +kernel
theorem dX4_cancel_40 : decode cX4_cancel 40 = .ok (.iload 5, 2) := by decide +kernel
theorem dX4_cancel_42 : decode cX4_cancel 42 = .ok (.iaload, 1) := by decide +kernel
theorem dX4_cancel_43 : decode cX4_cancel 43 = .ok (.iload 4, 2) := by decide +kernel
theorem dX4_cancel_45 : decode cX4_cancel 45 = .ok (.if_icmp .gt 78, 3) := by decide +kernel
theorem dX4_cancel_48 : decode cX4_cancel 48 = .ok (.sipush 10007, 3) := by decide +kernel
theorem dX4_cancel_51 : decode cX4_cancel 51 = .ok (.aload_n 1, 1) := by decide +kernel
theorem dX4_cancel_52 : decode cX4_cancel 52 = .ok (.getfield 51, 3) := by decide +kernel
theorem dX4_cancel_55 : decode cX4_cancel 55 = .ok (.iload_n 2, 1) := by decide +kernel
theorem dX4_cancel_56 : decode cX4_cancel 56 = .ok (.iaload, 1) := by decide +kernel
theorem dX4_cancel_57 : decode cX4_cancel 57 = .ok (.isub, 1) := by decide +kernel
theorem dX4_cancel_58 : decode cX4_cancel 58 = .ok (.aload_n 0, 1) := by decide +kernel
theorem dX4_cancel_59 : decode cX4_cancel 59 = .ok (.getfield 24, 3) := by decide +kernel
theorem dX4_cancel_62 : decode cX4_cancel 62 = .ok (.iload 5, 2) := by decide +kernel
theorem dX4_cancel_64 : decode cX4_cancel 64 = .ok (.iaload, 1) := by decide +kernel
theorem dX4_cancel_65 : decode cX4_cancel 65 = .ok (.imul, 1) := by decide +kernel
theorem dX4_cancel_66 : decode cX4_cancel 66 = .ok (.sipush 10007, 3) := by decide +kernel
theorem dX4_cancel_69 : decode cX4_cancel 69 = .ok (.irem, 1) := by decide +kernel
theorem dX4_cancel_70 : decode cX4_cancel 70 = .ok (.istore 6, 2) := by decide +kernel
theorem dX4_cancel_72 : decode cX4_cancel 72 = .ok (.iload_n 3, 1) := by decide +kernel
theorem dX4_cancel_73 : decode cX4_cancel 73 = .ok (.aload_n 0, 1) := by decide +kernel
theorem dX4_cancel_74 : decode cX4_cancel 74 = .ok (.getfield 17, 3) := by decide +kernel
theorem dX4_cancel_77 : decode cX4_cancel 77 = .ok (.iload 5, 2) := by decide +kernel
theorem dX4_cancel_79 : decode cX4_cancel 79 = .ok (.iaload, 1) := by decide +kernel
theorem dX4_cancel_80 : decode cX4_cancel 80 = .ok (.isub, 1) := by decide +kernel
theorem dX4_cancel_81 : decode cX4_cancel 81 = .ok (.iload 4, 2) := by decide +kernel
theorem dX4_cancel_83 : decode cX4_cancel 83 = .ok (.aload_n 0, 1) := by decide +kernel
theorem dX4_cancel_84 : decode cX4_cancel 84 = .ok (.getfield 21, 3) := by decide +kernel
theorem dX4_cancel_87 : decode cX4_cancel 87 = .ok (.iload 5, 2) := by decide +kernel
theorem dX4_cancel_89 : decode cX4_cancel 89 = .ok (.iaload, 1) := by decide +kernel
theorem dX4_cancel_90 : decode cX4_cancel 90 = .ok (.isub, 1) := by decide +kernel
theorem dX4_cancel_91 : decode cX4_cancel 91 = .ok (.invokestatic 74, 3) := by decide +kernel
theorem dX4_cancel_94 : decode cX4_cancel 94 = .ok (.istore 7, 2) := by decide +kernel
theorem dX4_cancel_96 : decode cX4_cancel 96 = .ok (.aload_n 0, 1) := by decide +kernel
theorem dX4_cancel_97 : decode cX4_cancel 97 = .ok (.getfield 37, 3) := by decide +kernel
theorem dX4_cancel_100 : decode cX4_cancel 100 = .ok (.aload_n 1, 1) := by decide +kernel
theorem dX4_cancel_101 : decode cX4_cancel 101 = .ok (.iload 6, 2) := by decide +kernel
theorem dX4_cancel_103 : decode cX4_cancel 103 = .ok (.iload 7, 2) := by decide +kernel
theorem dX4_cancel_105 : decode cX4_cancel 105 = .ok (.aload_n 0, 1) := by decide +kernel
theorem dX4_cancel_106 : decode cX4_cancel 106 = .ok (.getfield 11, 3) := by decide +kernel
theorem dX4_cancel_109 : decode cX4_cancel 109 = .ok (.iload 5, 2) := by decide +kernel
theorem dX4_cancel_111 : decode cX4_cancel 111 = .ok (.aaload, 1) := by decide +kernel
theorem dX4_cancel_112 : decode cX4_cancel 112 = .ok (.aload_n 0, 1) := by decide +kernel
theorem dX4_cancel_113 : decode cX4_cancel 113 = .ok (.getfield 27, 3) := by decide +kernel
theorem dX4_cancel_116 : decode cX4_cancel 116 = .ok (.iload 5, 2) := by decide +kernel
theorem dX4_cancel_118 : decode cX4_cancel 118 = .ok (.iaload, 1) := by decide +kernel
theorem dX4_cancel_119 : decode cX4_cancel 119 = .ok (.invokevirtual 78, 3) := by decide +kernel
theorem dX4_cancel_122 : decode cX4_cancel 122 = .ok (.return_, 1) := by decide +kernel
theorem dX4_cancel_123 : decode cX4_cancel 123 = .ok (.iinc 5 1, 3) := by decide +kernel
theorem dX4_cancel_126 : decode cX4_cancel 126 = .ok (.goto (-110), 3) := by decide +kernel
theorem dX4_cancel_129 : decode cX4_cancel 129 = .ok (.return_, 1) := by decide +kernel
theorem dX5_init_0 : decode cX5_init 0 = .ok (.aload_n 0, 1) := by decide +kernel
theorem dX5_init_1 : decode cX5_init 1 = .ok (.invokespecial 3, 3) := by decide +kernel
theorem dX5_init_4 : decode cX5_init 4 = .ok (.aload_n 0, 1) := by decide +kernel
theorem dX5_init_5 : decode cX5_init 5 = .ok (.iconst 5, 1) := by decide +kernel
theorem dX5_init_6 : decode cX5_init 6 = .ok (.anewarray 9, 3) := by decide +kernel
theorem dX5_init_9 : decode cX5_init 9 = .ok (.putfield 11, 3) := by decide +kernel
theorem dX5_init_12 : decode cX5_init 12 = .ok (.aload_n 0, 1) := by decide +kernel
theorem dX5_init_13 : decode cX5_init 13 = .ok (.iconst 0, 1) := by decide +kernel
theorem dX5_init_14 : decode cX5_init 14 = .ok (.putfield 17, 3) := by decide +kernel
theorem dX5_init_17 : decode cX5_init 17 = .ok (.aload_n 0, 1) := by decide +kernel
theorem dX5_init_18 : decode cX5_init 18 = .ok (.iconst 0, 1) := by decide +kernel
theorem dX5_init_19 : decode cX5_init 19 = .ok (.putfield 21, 3) := by decide +kernel
theorem dX5_init_22 : decode cX5_init 22 = .ok (.iconst 0, 1) := by decide +kernel
theorem dX5_init_23 : decode cX5_init 23 = .ok (.istore_n 1, 1) := by decide +kernel
theorem dX5_init_24 : decode cX5_init 24 = .ok (.iload_n 1, 1) := by decide +kernel
theorem dX5_init_25 : decode cX5_init 25 = .ok (.iconst 5, 1) := by decide +kernel
theorem dX5_init_26 : decode cX5_init 26 = .ok (.if_icmp .ge 22, 3) := by decide +kernel
theorem dX5_init_29 : decode cX5_init 29 = .ok (.aload_n 0, 1) := by decide +kernel
theorem dX5_init_30 : decode cX5_init 30 = .ok (.getfield 11, 3) := by decide +kernel
theorem dX5_init_33 : decode cX5_init 33 = .ok (.iload_n 1, 1) := by decide +kernel
theorem dX5_init_34 : decode cX5_init 34 = .ok (.new 9, 3) := by decide +kernel
theorem dX5_init_37 : decode cX5_init 37 = .ok (.dup, 1) := by decide +kernel
theorem dX5_init_38 : decode cX5_init 38 = .ok (.invokespecial 24, 3) := by decide +kernel
theorem dX5_init_41 : decode cX5_init 41 = .ok (.aastore, 1) := by decide +kernel
theorem dX5_init_42 : decode cX5_init 42 = .ok (.iinc 1 1, 3) := by decide +kernel
theorem dX5_init_45 : decode cX5_init 45 = .ok (.goto (-21), 3) := by decide +kernel
theorem dX5_init_48 : decode cX5_init 48 = .ok (.return_, 1) := by decide +kernel
theorem dX5_keep_0 : decode cX5_keep 0 = .ok (.aload_n 0, 1) := by decide +kernel
theorem dX5_keep_1 : decode cX5_keep 1 = .ok (.getfield 11, 3) := by decide +kernel
theorem dX5_keep_4 : decode cX5_keep 4 = .ok (.aload_n 0, 1) := by decide +kernel
theorem dX5_keep_5 : decode cX5_keep 5 = .ok (.getfield 17, 3) := by decide +kernel
theorem dX5_keep_8 : decode cX5_keep 8 = .ok (.aaload, 1) := by decide +kernel
theorem dX5_keep_9 : decode cX5_keep 9 = .ok (.aload_n 1, 1) := by decide +kernel
theorem dX5_keep_10 : decode cX5_keep 10 = .ok (.invokevirtual 25, 3) := by decide +kernel
theorem dX5_keep_13 : decode cX5_keep 13 = .ok (.aload_n 0, 1) := by decide +kernel
theorem dX5_keep_14 : decode cX5_keep 14 = .ok (.aload_n 0, 1) := by decide +kernel
theorem dX5_keep_15 : decode cX5_keep 15 = .ok (.getfield 17, 3) := by decide +kernel
theorem dX5_keep_18 : decode cX5_keep 18 = .ok (.iconst 1, 1) := by decide +kernel
theorem dX5_keep_19 : decode cX5_keep 19 = .ok (.iadd, 1) := by decide +kernel
theorem dX5_keep_20 : decode cX5_keep 20 = .ok (.iconst 5, 1) := by decide +kernel
theorem dX5_keep_21 : decode cX5_keep 21 = .ok (.irem, 1) := by decide +kernel
theorem dX5_keep_22 : decode cX5_keep 22 = .ok (.putfield 17, 3) := by decide +kernel
theorem dX5_keep_25 : decode cX5_keep 25 = .ok (.aload_n 0, 1) := by decide +kernel
theorem dX5_keep_26 : decode cX5_keep 26 = .ok (.aload_n 0, 1) := by decide +kernel
theorem dX5_keep_27 : decode cX5_keep 27 = .ok (.getfield 21, 3) := by decide +kernel
theorem dX5_keep_30 : decode cX5_keep 30 = .ok (.iconst 1, 1) := by decide +kernel
theorem dX5_keep_31 : decode cX5_keep 31 = .ok (.iadd, 1) := by decide +kernel
theorem dX5_keep_32 : decode cX5_keep 32 = .ok (.iconst 5, 1) := by decide +kernel
theorem dX5_keep_33 : decode cX5_keep 33 = .ok (.invokestatic 29, 3) := by decide +kernel
theorem dX5_keep_36 : decode cX5_keep 36 = .ok (.putfield 21, 3) := by decide +kernel
theorem dX5_keep_39 : decode cX5_keep 39 = .ok (.return_, 1) := by decide +kernel
theorem dX5_restore_0 : decode cX5_restore 0 = .ok (.aload_n 0, 1) := by decide +kernel
theorem dX5_restore_1 : decode cX5_restore 1 = .ok (.getfield 21, 3) := by decide +kernel
theorem dX5_restore_4 : decode cX5_restore 4 = .ok (.ifCond .le 40, 3) := by decide +kernel
theorem dX5_restore_7 : decode cX5_restore 7 = .ok (.aload_n 0, 1) := by decide +kernel
theorem dX5_restore_8 : decode cX5_restore 8 = .ok (.aload_n 0, 1) := by decide +kernel
theorem dX5_restore_9 : decode cX5_restore 9 = .ok (.getfield 17, 3) := by decide +kernel
theorem dX5_restore_12 : decode cX5_restore 12 = .ok (.iconst 5, 1) := by decide +kernel
theorem dX5_restore_13 : decode cX5_restore 13 = .ok (.iadd, 1) := by decide +kernel
theorem dX5_restore_14 : decode cX5_restore 14 = .ok (.iconst 1, 1) := by decide +kernel
theorem dX5_restore_15 : decode cX5_restore 15 = .ok (.isub, 1) := by decide +kernel
theorem dX5_restore_16 : decode cX5_restore 16 = .ok (.iconst 5, 1) := by decide +kernel
theorem dX5_restore_17 : decode cX5_restore 17 = .ok (.irem, 1) := by decide +kernel
theorem dX5_restore_18 : decode cX5_restore 18 = .ok (.putfield 17, 3) := by decide +kernel
theorem dX5_restore_21 : decode cX5_restore 21 = .ok (.aload_n 0, 1) := by decide +kernel
theorem dX5_restore_22 : decode cX5_restore 22 = .ok (.dup, 1) := by decide +kernel
theorem dX5_restore_23 : decode cX5_restore 23 = .ok (.getfield 21, 3) := by decide +kernel
theorem dX5_restore_26 : decode cX5_restore 26 = .ok (.iconst 1, 1) := by decide +kernel
theorem dX5_restore_27 : decode cX5_restore 27 = .ok (.isub, 1) := by decide +kernel
theorem dX5_restore_28 : decode cX5_restore 28 = .ok (.putfield 21, 3) := by decide +kernel
theorem dX5_restore_31 : decode cX5_restore 31 = .ok (.aload_n 1, 1) := by decide +kernel
theorem dX5_restore_32 : decode cX5_restore 32 = .ok (.aload_n 0, 1) := by decide +kernel
theorem dX5_restore_33 : decode cX5_restore 33 = .ok (.getfield 11, 3) := by decide +kernel
theorem dX5_restore_36 : decode cX5_restore 36 = .ok (.aload_n 0, 1) := by decide +kernel
theorem dX5_restore_37 : decode cX5_restore 37 = .ok (.getfield 17, 3) := by decide +kernel
theorem dX5_restore_40 : decode cX5_restore 40 = .ok (.aaload, 1) := by decide +kernel
theorem dX5_restore_41 : decode cX5_restore 41 = .ok (.invokevirtual 25, 3) := by decide +kernel
theorem dX5_restore_44 : decode cX5_restore 44 = .ok (.return_, 1) := by decide +kernel
theorem dX6_init_0 : decode cX6_init 0 = .ok (.aload_n 0, 1) := by decide +kernel
theorem dX6_init_1 : decode cX6_init 1 = .ok (.invokespecial 3, 3) := by decide +kernel
theorem dX6_init_4 : decode cX6_init 4 = .ok (.aload_n 0, 1) := by decide +kernel
theorem dX6_init_5 : decode cX6_init 5 = .ok (.bipush 91, 2) := by decide +kernel
theorem dX6_init_7 : decode cX6_init 7 = .ok (.newarray .int, 2) := by decide +kernel
theorem dX6_init_9 : decode cX6_init 9 = .ok (.putfield 9, 3) := by decide +kernel
theorem dX6_init_12 : decode cX6_init 12 = .ok (.return_, 1) := by decide +kernel
theorem dX6_isWord_0 : decode cX6_isWord 0 = .ok (.iload_n 0, 1) := by decide +kernel
theorem dX6_isWord_1 : decode cX6_isWord 1 = .ok (.ifCond .lt 31, 3) := by decide +kernel
theorem dX6_isWord_4 : decode cX6_isWord 4 = .ok (.iload_n 1, 1) := by decide +kernel
theorem dX6_isWord_5 : decode cX6_isWord 5 = .ok (.ifCond .lt 27, 3) := by decide +kernel
theorem dX6_isWord_8 : decode cX6_isWord 8 = .ok (.iload_n 0, 1) := by decide +kernel
theorem dX6_isWord_9 : decode cX6_isWord 9 = .ok (.bipush 12, 2) := by decide +kernel
theorem dX6_isWord_11 : decode cX6_isWord 11 = .ok (.if_icmp .gt 21, 3) := by decide +kernel
theorem dX6_isWord_14 : decode cX6_isWord 14 = .ok (.iload_n 1, 1) := by decide +kernel
theorem dX6_isWord_15 : decode cX6_isWord 15 = .ok (.bipush 12, 2) := by decide +kernel
theorem dX6_isWord_17 : decode cX6_isWord 17 = .ok (.if_icmp .gt 15, 3) := by decide +kernel
theorem dX6_isWord_20 : decode cX6_isWord 20 = .ok (.iload_n 0, 1) := by decide +kernel
theorem dX6_isWord_21 : decode cX6_isWord 21 = .ok (.iload_n 1, 1) := by decide +kernel
theorem dX6_isWord_22 : decode cX6_isWord 22 = .ok (.iadd, 1) := by decide +kernel
theorem dX6_isWord_23 : decode cX6_isWord 23 = .ok (.bipush 12, 2) := by decide +kernel
theorem dX6_isWord_25 : decode cX6_isWord 25 = .ok (.if_icmp .gt 7, 3) := by decide +kernel
theorem dX6_isWord_28 : decode cX6_isWord 28 = .ok (.iconst 1, 1) := by decide +kernel
theorem dX6_isWord_29 : decode cX6_isWord 29 = .ok (.goto 4, 3) := by decide +kernel
theorem dX6_isWord_32 : decode cX6_isWord 32 = .ok (.iconst 0, 1) := by decide +kernel
theorem dX6_isWord_33 : decode cX6_isWord 33 = .ok (.ireturn, 1) := by decide +kernel
theorem dX6_firstPlace_0 : decode cX6_firstPlace 0 = .ok (.iload_n 0, 1) := by decide +kernel
theorem dX6_firstPlace_1 : decode cX6_firstPlace 1 = .ok (.iload_n 0, 1) := by decide +kernel
theorem dX6_firstPlace_2 : decode cX6_firstPlace 2 = .ok (.iconst 1, 1) := by decide +kernel
theorem dX6_firstPlace_3 : decode cX6_firstPlace 3 = .ok (.iadd, 1) := by decide +kernel
theorem dX6_firstPlace_4 : decode cX6_firstPlace 4 = .ok (.imul, 1) := by decide +kernel
theorem dX6_firstPlace_5 : decode cX6_firstPlace 5 = .ok (.iconst 2, 1) := by decide +kernel
theorem dX6_firstPlace_6 : decode cX6_firstPlace 6 = .ok (.idiv, 1) := by decide +kernel
theorem dX6_firstPlace_7 : decode cX6_firstPlace 7 = .ok (.ireturn, 1) := by decide +kernel
theorem dX6_placeOf_0 : decode cX6_placeOf 0 = .ok (.iload_n 0, 1) := by decide +kernel
theorem dX6_placeOf_1 : decode cX6_placeOf 1 = .ok (.iload_n 1, 1) := by decide +kernel
theorem dX6_placeOf_2 : decode cX6_placeOf 2 = .ok (.iadd, 1) := by decide +kernel
theorem dX6_placeOf_3 : decode cX6_placeOf 3 = .ok (.invokestatic 15, 3) := by decide +kernel
theorem dX6_placeOf_6 : decode cX6_placeOf 6 = .ok (.iload_n 1, 1) := by decide +kernel
theorem dX6_placeOf_7 : decode cX6_placeOf 7 = .ok (.iadd, 1) := by decide +kernel
theorem dX6_placeOf_8 : decode cX6_placeOf 8 = .ok (.ireturn, 1) := by decide +kernel
theorem dX6_degreeAt_0 : decode cX6_degreeAt 0 = .ok (.getstatic 19, 3) := by decide +kernel
theorem dX6_degreeAt_3 : decode cX6_degreeAt 3 = .ok (.iload_n 0, 1) := by decide +kernel
theorem dX6_degreeAt_4 : decode cX6_degreeAt 4 = .ok (.iaload, 1) := by decide +kernel
theorem dX6_degreeAt_5 : decode cX6_degreeAt 5 = .ok (.getstatic 22, 3) := by decide +kernel
theorem dX6_degreeAt_8 : decode cX6_degreeAt 8 = .ok (.iload_n 0, 1) := by decide +kernel
theorem dX6_degreeAt_9 : decode cX6_degreeAt 9 = .ok (.iaload, 1) := by decide +kernel
theorem dX6_degreeAt_10 : decode cX6_degreeAt 10 = .ok (.iadd, 1) := by decide +kernel
theorem dX6_degreeAt_11 : decode cX6_degreeAt 11 = .ok (.ireturn, 1) := by decide +kernel
theorem dX6_rankedPlace_0 : decode cX6_rankedPlace 0 = .ok (.iload_n 1, 1) := by decide +kernel
theorem dX6_rankedPlace_1 : decode cX6_rankedPlace 1 = .ok (.invokestatic 15, 3) := by decide +kernel
theorem dX6_rankedPlace_4 : decode cX6_rankedPlace 4 = .ok (.iload_n 0, 1) := by decide +kernel
theorem dX6_rankedPlace_5 : decode cX6_rankedPlace 5 = .ok (.ifCond .ne 9, 3) := by decide +kernel
theorem dX6_rankedPlace_8 : decode cX6_rankedPlace 8 = .ok (.iload_n 1, 1) := by decide +kernel
theorem dX6_rankedPlace_9 : decode cX6_rankedPlace 9 = .ok (.iload_n 2, 1) := by decide +kernel
theorem dX6_rankedPlace_10 : decode cX6_rankedPlace 10 = .ok (.isub, 1) := by decide +kernel
theorem dX6_rankedPlace_11 : decode cX6_rankedPlace 11 = .ok (.goto 4, 3) := by decide +kernel
theorem dX6_rankedPlace_14 : decode cX6_rankedPlace 14 = .ok (.iload_n 2, 1) := by decide +kernel
theorem dX6_rankedPlace_15 : decode cX6_rankedPlace 15 = .ok (.iadd, 1) := by decide +kernel
theorem dX6_rankedPlace_16 : decode cX6_rankedPlace 16 = .ok (.ireturn, 1) := by decide +kernel
theorem dX6_height_0 : decode cX6_height 0 = .ok (.iload_n 1, 1) := by decide +kernel
theorem dX6_height_1 : decode cX6_height 1 = .ok (.invokestatic 25, 3) := by decide +kernel
theorem dX6_height_4 : decode cX6_height 4 = .ok (.invokestatic 15, 3) := by decide +kernel
theorem dX6_height_7 : decode cX6_height 7 = .ok (.iload_n 0, 1) := by decide +kernel
theorem dX6_height_8 : decode cX6_height 8 = .ok (.ifCond .ne 11, 3) := by decide +kernel
theorem dX6_height_11 : decode cX6_height 11 = .ok (.getstatic 22, 3) := by decide +kernel
theorem dX6_height_14 : decode cX6_height 14 = .ok (.iload_n 1, 1) := by decide +kernel
theorem dX6_height_15 : decode cX6_height 15 = .ok (.iaload, 1) := by decide +kernel
theorem dX6_height_16 : decode cX6_height 16 = .ok (.goto 8, 3) := by decide +kernel
theorem dX6_height_19 : decode cX6_height 19 = .ok (.getstatic 19, 3) := by decide +kernel
theorem dX6_height_22 : decode cX6_height 22 = .ok (.iload_n 1, 1) := by decide +kernel
theorem dX6_height_23 : decode cX6_height 23 = .ok (.iaload, 1) := by decide +kernel
theorem dX6_height_24 : decode cX6_height 24 = .ok (.iadd, 1) := by decide +kernel
theorem dX6_height_25 : decode cX6_height 25 = .ok (.ireturn, 1) := by decide +kernel
theorem dX6_coefficient_0 : decode cX6_coefficient 0 = .ok (.iload_n 1, 1) := by decide +kernel
theorem dX6_coefficient_1 : decode cX6_coefficient 1 = .ok (.iload_n 2, 1) := by decide +kernel
theorem dX6_coefficient_2 : decode cX6_coefficient 2 = .ok (.invokestatic 28, 3) := by decide +kernel
theorem dX6_coefficient_5 : decode cX6_coefficient 5 = .ok (.ifCond .eq 16, 3) := by decide +kernel
theorem dX6_coefficient_8 : decode cX6_coefficient 8 = .ok (.aload_n 0, 1) := by decide +kernel
theorem dX6_coefficient_9 : decode cX6_coefficient 9 = .ok (.getfield 9, 3) := by decide +kernel
theorem dX6_coefficient_12 : decode cX6_coefficient 12 = .ok (.iload_n 1, 1) := by decide +kernel
theorem dX6_coefficient_13 : decode cX6_coefficient 13 = .ok (.iload_n 2, 1) := by decide +kernel
theorem dX6_coefficient_14 : decode cX6_coefficient 14 = .ok (.invokestatic 32, 3) := by decide +kernel
theorem dX6_coefficient_17 : decode cX6_coefficient 17 = .ok (.iaload, 1) := by decide +kernel
theorem dX6_coefficient_18 : decode cX6_coefficient 18 = .ok (.goto 4, 3) := by decide +kernel
theorem dX6_coefficient_21 : decode cX6_coefficient 21 = .ok (.iconst 0, 1) := by decide +kernel
theorem dX6_coefficient_22 : decode cX6_coefficient 22 = .ok (.ireturn, 1) := by decide +kernel
theorem dX6_setCoefficient_0 : decode cX6_setCoefficient 0 = .ok (.iload_n 1, 1) := by decide +kernel
theorem dX6_setCoefficient_1 : decode cX6_setCoefficient 1 = .ok (.iload_n 2, 1) := by decide +kernel
theorem dX6_setCoefficient_2 : decode cX6_setCoefficient 2 = .ok (.invokestatic 28, 3) := by decide +kernel
theorem dX6_setCoefficient_5 : decode cX6_setCoefficient 5 = .ok (.ifCond .eq 14, 3) := by decide +kernel
theorem dX6_setCoefficient_8 : decode cX6_setCoefficient 8 = .ok (.aload_n 0, 1) := by decide +kernel
theorem dX6_setCoefficient_9 : decode cX6_setCoefficient 9 = .ok (.getfield 9, 3) := by decide +kernel
theorem dX6_setCoefficient_12 : decode cX6_setCoefficient 12 = .ok (.iload_n 1, 1) := by decide +kernel
theorem dX6_setCoefficient_13 : decode cX6_setCoefficient 13 = .ok (.iload_n 2, 1) := by decide +kernel
theorem dX6_setCoefficient_14 : decode cX6_setCoefficient 14 = .ok (.invokestatic 32, 3) := by decide +kernel
theorem dX6_setCoefficient_17 : decode cX6_setCoefficient 17 = .ok (.iload_n 3, 1) := by decide +kernel
theorem dX6_setCoefficient_18 : decode cX6_setCoefficient 18 = .ok (.iastore, 1) := by decide +kernel
theorem dX6_setCoefficient_19 : decode cX6_setCoefficient 19 = .ok (.return_, 1) := by decide +kernel
theorem dX6_makeZero_0 : decode cX6_makeZero 0 = .ok (.aload_n 0, 1) := by decide +kernel
theorem dX6_makeZero_1 : decode cX6_makeZero 1 = .ok (.getfield 9, 3) := by decide +kernel
theorem dX6_makeZero_4 : decode cX6_makeZero 4 = .ok (.iconst 0, 1) := by decide +kernel
theorem dX6_makeZero_5 : decode cX6_makeZero 5 = .ok (.invokestatic 36, 3) := by decide +kernel
theorem dX6_makeZero_8 : decode cX6_makeZero 8 = .ok (.return_, 1) := by decide +kernel
theorem dX6_makeNumber_0 : decode cX6_makeNumber 0 = .ok (.aload_n 0, 1) := by decide +kernel
theorem dX6_makeNumber_1 : decode cX6_makeNumber 1 = .ok (.invokevirtual 42, 3) := by decide +kernel
theorem dX6_makeNumber_4 : decode cX6_makeNumber 4 = .ok (.aload_n 0, 1) := by decide +kernel
theorem dX6_makeNumber_5 : decode cX6_makeNumber 5 = .ok (.getfield 9, 3) := by decide +kernel
theorem dX6_makeNumber_8 : decode cX6_makeNumber 8 = .ok (.iconst 0, 1) := by decide +kernel
theorem dX6_makeNumber_9 : decode cX6_makeNumber 9 = .ok (.iload_n 1, 1) := by decide +kernel
theorem dX6_makeNumber_10 : decode cX6_makeNumber 10 = .ok (.iastore, 1) := by decide +kernel
theorem dX6_makeNumber_11 : decode cX6_makeNumber 11 = .ok (.return_, 1) := by decide +kernel
theorem dX6_copyFrom_0 : decode cX6_copyFrom 0 = .ok (.aload_n 1, 1) := by decide +kernel
theorem dX6_copyFrom_1 : decode cX6_copyFrom 1 = .ok (.getfield 9, 3) := by decide +kernel
theorem dX6_copyFrom_4 : decode cX6_copyFrom 4 = .ok (.iconst 0, 1) := by decide +kernel
theorem dX6_copyFrom_5 : decode cX6_copyFrom 5 = .ok (.aload_n 0, 1) := by decide +kernel
theorem dX6_copyFrom_6 : decode cX6_copyFrom 6 = .ok (.getfield 9, 3) := by decide +kernel
theorem dX6_copyFrom_9 : decode cX6_copyFrom 9 = .ok (.iconst 0, 1) := by decide +kernel
theorem dX6_copyFrom_10 : decode cX6_copyFrom 10 = .ok (.bipush 91, 2) := by decide +kernel
theorem dX6_copyFrom_12 : decode cX6_copyFrom 12 = .ok (.invokestatic 45, 3) := by decide +kernel
theorem dX6_copyFrom_15 : decode cX6_copyFrom 15 = .ok (.return_, 1) := by decide +kernel
theorem dX6_addMultiple_0 : decode cX6_addMultiple 0 = .ok (.iconst 0, 1) := by decide +kernel
theorem dX6_addMultiple_1 : decode cX6_addMultiple 1 = .ok (.istore_n 3, 1) := by decide +kernel
theorem dX6_addMultiple_2 : decode cX6_addMultiple 2 = .ok (.iload_n 3, 1) := by decide +kernel
theorem dX6_addMultiple_3 : decode cX6_addMultiple 3 = .ok (.bipush 91, 2) := by decide +kernel
theorem dX6_addMultiple_5 : decode cX6_addMultiple 5 = .ok (.if_icmp .ge 34, 3) := by decide +kernel
theorem dX6_addMultiple_8 : decode cX6_addMultiple 8 = .ok (.aload_n 0, 1) := by decide +kernel
theorem dX6_addMultiple_9 : decode cX6_addMultiple 9 = .ok (.getfield 9, 3) := by decide +kernel
theorem dX6_addMultiple_12 : decode cX6_addMultiple 12 = .ok (.iload_n 3, 1) := by decide +kernel
theorem dX6_addMultiple_13 : decode cX6_addMultiple 13 = .ok (.aload_n 0, 1) := by decide +kernel
theorem dX6_addMultiple_14 : decode cX6_addMultiple 14 = .ok (.getfield 9, 3) := by decide +kernel
theorem dX6_addMultiple_17 : decode cX6_addMultiple 17 = .ok (.iload_n 3, 1) := by decide +kernel
theorem dX6_addMultiple_18 : decode cX6_addMultiple 18 = .ok (.iaload, 1) := by decide +kernel
theorem dX6_addMultiple_19 : decode cX6_addMultiple 19 = .ok (.iload_n 2, 1) := by decide +kernel
theorem dX6_addMultiple_20 : decode cX6_addMultiple 20 = .ok (.aload_n 1, 1) := by decide +kernel
theorem dX6_addMultiple_21 : decode cX6_addMultiple 21 = .ok (.getfield 9, 3) := by decide +kernel
theorem dX6_addMultiple_24 : decode cX6_addMultiple 24 = .ok (.iload_n 3, 1) := by decide +kernel
theorem dX6_addMultiple_25 : decode cX6_addMultiple 25 = .ok (.iaload, 1) := by decide +kernel
theorem dX6_addMultiple_26 : decode cX6_addMultiple 26 = .ok (.imul, 1) := by decide +kernel
theorem dX6_addMultiple_27 : decode cX6_addMultiple 27 = .ok (.iadd, 1) := by decide +kernel
theorem dX6_addMultiple_28 : decode cX6_addMultiple 28 = .ok (.sipush 10007, 3) := by decide +kernel
theorem dX6_addMultiple_31 : decode cX6_addMultiple 31 = .ok (.irem, 1) := by decide +kernel
theorem dX6_addMultiple_32 : decode cX6_addMultiple 32 = .ok (.iastore, 1) := by decide +kernel
theorem dX6_addMultiple_33 : decode cX6_addMultiple 33 = .ok (.iinc 3 1, 3) := by decide +kernel
theorem dX6_addMultiple_36 : decode cX6_addMultiple 36 = .ok (.goto (-34), 3) := by decide +kernel
theorem dX6_addMultiple_39 : decode cX6_addMultiple 39 = .ok (.return_, 1) := by decide +kernel
theorem dX6_scale_0 : decode cX6_scale 0 = .ok (.iconst 0, 1) := by decide +kernel
theorem dX6_scale_1 : decode cX6_scale 1 = .ok (.istore_n 2, 1) := by decide +kernel
theorem dX6_scale_2 : decode cX6_scale 2 = .ok (.iload_n 2, 1) := by decide +kernel
theorem dX6_scale_3 : decode cX6_scale 3 = .ok (.bipush 91, 2) := by decide +kernel
theorem dX6_scale_5 : decode cX6_scale 5 = .ok (.if_icmp .ge 27, 3) := by decide +kernel
theorem dX6_scale_8 : decode cX6_scale 8 = .ok (.aload_n 0, 1) := by decide +kernel
theorem dX6_scale_9 : decode cX6_scale 9 = .ok (.getfield 9, 3) := by decide +kernel
theorem dX6_scale_12 : decode cX6_scale 12 = .ok (.iload_n 2, 1) := by decide +kernel
theorem dX6_scale_13 : decode cX6_scale 13 = .ok (.aload_n 0, 1) := by decide +kernel
theorem dX6_scale_14 : decode cX6_scale 14 = .ok (.getfield 9, 3) := by decide +kernel
theorem dX6_scale_17 : decode cX6_scale 17 = .ok (.iload_n 2, 1) := by decide +kernel
theorem dX6_scale_18 : decode cX6_scale 18 = .ok (.iaload, 1) := by decide +kernel
theorem dX6_scale_19 : decode cX6_scale 19 = .ok (.iload_n 1, 1) := by decide +kernel
theorem dX6_scale_20 : decode cX6_scale 20 = .ok (.imul, 1) := by decide +kernel
theorem dX6_scale_21 : decode cX6_scale 21 = .ok (.sipush 10007, 3) := by decide +kernel
theorem dX6_scale_24 : decode cX6_scale 24 = .ok (.irem, 1) := by decide +kernel
theorem dX6_scale_25 : decode cX6_scale 25 = .ok (.iastore, 1) := by decide +kernel
theorem dX6_scale_26 : decode cX6_scale 26 = .ok (.iinc 2 1, 3) := by decide +kernel
theorem dX6_scale_29 : decode cX6_scale 29 = .ok (.goto (-27), 3) := by decide +kernel
theorem dX6_scale_32 : decode cX6_scale 32 = .ok (.return_, 1) := by decide +kernel
theorem dX6_countTerms_0 : decode cX6_countTerms 0 = .ok (.iconst 0, 1) := by decide +kernel
theorem dX6_countTerms_1 : decode cX6_countTerms 1 = .ok (.istore_n 1, 1) := by decide +kernel
theorem dX6_countTerms_2 : decode cX6_countTerms 2 = .ok (.aload_n 0, 1) := by decide +kernel
theorem dX6_countTerms_3 : decode cX6_countTerms 3 = .ok (.getfield 9, 3) := by decide +kernel
theorem dX6_countTerms_6 : decode cX6_countTerms 6 = .ok (.astore_n 2, 1) := by decide +kernel
theorem dX6_countTerms_7 : decode cX6_countTerms 7 = .ok (.aload_n 2, 1) := by decide +kernel
theorem dX6_countTerms_8 : decode cX6_countTerms 8 = .ok (.arraylength, 1) := by decide +kernel
theorem dX6_countTerms_9 : decode cX6_countTerms 9 = .ok (.istore_n 3, 1) := by decide +kernel
theorem dX6_countTerms_10 : decode cX6_countTerms 10 = .ok (.iconst 0, 1) := by decide +kernel
theorem dX6_countTerms_11 : decode cX6_countTerms 11 = .ok (.istore 4, 2) := by decide +kernel
theorem dX6_countTerms_13 : decode cX6_countTerms 13 = .ok (.iload 4, 2) := by decide +kernel
theorem dX6_countTerms_15 : decode cX6_countTerms 15 = .ok (.iload_n 3, 1) := by decide +kernel
theorem dX6_countTerms_16 : decode cX6_countTerms 16 = .ok (.if_icmp .ge 23, 3) := by decide +kernel
theorem dX6_countTerms_19 : decode cX6_countTerms 19 = .ok (.aload_n 2, 1) := by decide +kernel
theorem dX6_countTerms_20 : decode cX6_countTerms 20 = .ok (.iload 4, 2) := by decide +kernel
theorem dX6_countTerms_22 : decode cX6_countTerms 22 = .ok (.iaload, 1) := by decide +kernel
theorem dX6_countTerms_23 : decode cX6_countTerms 23 = .ok (.istore 5, 2) := by decide +kernel
theorem dX6_countTerms_25 : decode cX6_countTerms 25 = .ok (.iload 5, 2) := by decide +kernel
theorem dX6_countTerms_27 : decode cX6_countTerms 27 = .ok (.ifCond .eq 6, 3) := by decide +kernel
theorem dX6_countTerms_30 : decode cX6_countTerms 30 = .ok (.iinc 1 1, 3) := by decide +kernel
theorem dX6_countTerms_33 : decode cX6_countTerms 33 = .ok (.iinc 4 1, 3) := by decide +kernel
theorem dX6_countTerms_36 : decode cX6_countTerms 36 = .ok (.goto (-23), 3) := by decide +kernel
theorem dX6_countTerms_39 : decode cX6_countTerms 39 = .ok (.iload_n 1, 1) := by decide +kernel
theorem dX6_countTerms_40 : decode cX6_countTerms 40 = .ok (.ireturn, 1) := by decide +kernel
theorem dX6_extent_0 : decode cX6_extent 0 = .ok (.bipush 90, 2) := by decide +kernel
theorem dX6_extent_2 : decode cX6_extent 2 = .ok (.istore_n 1, 1) := by decide +kernel
theorem dX6_extent_3 : decode cX6_extent 3 = .ok (.iload_n 1, 1) := by decide +kernel
theorem dX6_extent_4 : decode cX6_extent 4 = .ok (.ifCond .lt 22, 3) := by decide +kernel
theorem dX6_extent_7 : decode cX6_extent 7 = .ok (.aload_n 0, 1) := by decide +kernel
theorem dX6_extent_8 : decode cX6_extent 8 = .ok (.getfield 9, 3) := by decide +kernel
theorem dX6_extent_11 : decode cX6_extent 11 = .ok (.iload_n 1, 1) := by decide +kernel
theorem dX6_extent_12 : decode cX6_extent 12 = .ok (.iaload, 1) := by decide +kernel
theorem dX6_extent_13 : decode cX6_extent 13 = .ok (.ifCond .eq 7, 3) := by decide +kernel
theorem dX6_extent_16 : decode cX6_extent 16 = .ok (.iload_n 1, 1) := by decide +kernel
theorem dX6_extent_17 : decode cX6_extent 17 = .ok (.iconst 1, 1) := by decide +kernel
theorem dX6_extent_18 : decode cX6_extent 18 = .ok (.iadd, 1) := by decide +kernel
theorem dX6_extent_19 : decode cX6_extent 19 = .ok (.ireturn, 1) := by decide +kernel
theorem dX6_extent_20 : decode cX6_extent 20 = .ok (.iinc 1 (-1), 3) := by decide +kernel
theorem dX6_extent_23 : decode cX6_extent 23 = .ok (.goto (-20), 3) := by decide +kernel
theorem dX6_extent_26 : decode cX6_extent 26 = .ok (.iconst 0, 1) := by decide +kernel
theorem dX6_extent_27 : decode cX6_extent 27 = .ok (.ireturn, 1) := by decide +kernel
theorem dX6_isZero_0 : decode cX6_isZero 0 = .ok (.aload_n 0, 1) := by decide +kernel
theorem dX6_isZero_1 : decode cX6_isZero 1 = .ok (.invokevirtual 51, 3) := by decide +kernel
theorem dX6_isZero_4 : decode cX6_isZero 4 = .ok (.ifCond .ne 7, 3) := by decide +kernel
theorem dX6_isZero_7 : decode cX6_isZero 7 = .ok (.iconst 1, 1) := by decide +kernel
theorem dX6_isZero_8 : decode cX6_isZero 8 = .ok (.goto 4, 3) := by decide +kernel
theorem dX6_isZero_11 : decode cX6_isZero 11 = .ok (.iconst 0, 1) := by decide +kernel
theorem dX6_isZero_12 : decode cX6_isZero 12 = .ok (.ireturn, 1) := by decide +kernel
theorem dX6_degree_0 : decode cX6_degree 0 = .ok (.aload_n 0, 1) := by decide +kernel
theorem dX6_degree_1 : decode cX6_degree 1 = .ok (.invokevirtual 51, 3) := by decide +kernel
theorem dX6_degree_4 : decode cX6_degree 4 = .ok (.istore_n 1, 1) := by decide +kernel
theorem dX6_degree_5 : decode cX6_degree 5 = .ok (.iload_n 1, 1) := by decide +kernel
theorem dX6_degree_6 : decode cX6_degree 6 = .ok (.ifCond .ne 7, 3) := by decide +kernel
theorem dX6_degree_9 : decode cX6_degree 9 = .ok (.iconst (-1), 1) := by decide +kernel
theorem dX6_degree_10 : decode cX6_degree 10 = .ok (.goto 9, 3) := by decide +kernel
theorem dX6_degree_13 : decode cX6_degree 13 = .ok (.iload_n 1, 1) := by decide +kernel
theorem dX6_degree_14 : decode cX6_degree 14 = .ok (.iconst 1, 1) := by decide +kernel
theorem dX6_degree_15 : decode cX6_degree 15 = .ok (.isub, 1) := by decide +kernel
theorem dX6_degree_16 : decode cX6_degree 16 = .ok (.invokestatic 25, 3) := by decide +kernel
theorem dX6_degree_19 : decode cX6_degree 19 = .ok (.ireturn, 1) := by decide +kernel
theorem dX6_leadPlace_0 : decode cX6_leadPlace 0 = .ok (.aload_n 0, 1) := by decide +kernel
theorem dX6_leadPlace_1 : decode cX6_leadPlace 1 = .ok (.invokevirtual 55, 3) := by decide +kernel
theorem dX6_leadPlace_4 : decode cX6_leadPlace 4 = .ok (.istore_n 2, 1) := by decide +kernel
theorem dX6_leadPlace_5 : decode cX6_leadPlace 5 = .ok (.iconst 0, 1) := by decide +kernel
theorem dX6_leadPlace_6 : decode cX6_leadPlace 6 = .ok (.istore_n 3, 1) := by decide +kernel
theorem dX6_leadPlace_7 : decode cX6_leadPlace 7 = .ok (.iload_n 3, 1) := by decide +kernel
theorem dX6_leadPlace_8 : decode cX6_leadPlace 8 = .ok (.iload_n 2, 1) := by decide +kernel
theorem dX6_leadPlace_9 : decode cX6_leadPlace 9 = .ok (.if_icmp .gt 30, 3) := by decide +kernel
theorem dX6_leadPlace_12 : decode cX6_leadPlace 12 = .ok (.iload_n 1, 1) := by decide +kernel
theorem dX6_leadPlace_13 : decode cX6_leadPlace 13 = .ok (.iload_n 2, 1) := by decide +kernel
theorem dX6_leadPlace_14 : decode cX6_leadPlace 14 = .ok (.iload_n 3, 1) := by decide +kernel
theorem dX6_leadPlace_15 : decode cX6_leadPlace 15 = .ok (.invokestatic 58, 3) := by decide +kernel
theorem dX6_leadPlace_18 : decode cX6_leadPlace 18 = .ok (.istore 4, 2) := by decide +kernel
theorem dX6_leadPlace_20 : decode cX6_leadPlace 20 = .ok (.aload_n 0, 1) := by decide +kernel
theorem dX6_leadPlace_21 : decode cX6_leadPlace 21 = .ok (.getfield 9, 3) := by decide +kernel
theorem dX6_leadPlace_24 : decode cX6_leadPlace 24 = .ok (.iload 4, 2) := by decide +kernel
theorem dX6_leadPlace_26 : decode cX6_leadPlace 26 = .ok (.iaload, 1) := by decide +kernel
theorem dX6_leadPlace_27 : decode cX6_leadPlace 27 = .ok (.ifCond .eq 6, 3) := by decide +kernel
theorem dX6_leadPlace_30 : decode cX6_leadPlace 30 = .ok (.iload 4, 2) := by decide +kernel
theorem dX6_leadPlace_32 : decode cX6_leadPlace 32 = .ok (.ireturn, 1) := by decide +kernel
theorem dX6_leadPlace_33 : decode cX6_leadPlace 33 = .ok (.iinc 3 1, 3) := by decide +kernel
theorem dX6_leadPlace_36 : decode cX6_leadPlace 36 = .ok (.goto (-29), 3) := by decide +kernel
theorem dX6_leadPlace_39 : decode cX6_leadPlace 39 = .ok (.iconst (-1), 1) := by decide +kernel
theorem dX6_leadPlace_40 : decode cX6_leadPlace 40 = .ok (.ireturn, 1) := by decide +kernel
theorem dX6_property_0 : decode cX6_property 0 = .ok (.iload_n 1, 1) := by decide +kernel
theorem dX6_property_1 : decode cX6_property 1 = .ok (.ifCond .ne 8, 3) := by decide +kernel
theorem dX6_property_4 : decode cX6_property 4 = .ok (.aload_n 0, 1) := by decide +kernel
theorem dX6_property_5 : decode cX6_property 5 = .ok (.invokevirtual 62, 3) := by decide +kernel
theorem dX6_property_8 : decode cX6_property 8 = .ok (.ireturn, 1) := by decide +kernel
theorem dX6_property_9 : decode cX6_property 9 = .ok (.aload_n 0, 1) := by decide +kernel
theorem dX6_property_10 : decode cX6_property 10 = .ok (.iload_n 2, 1) := by decide +kernel
theorem dX6_property_11 : decode cX6_property 11 = .ok (.invokevirtual 65, 3) := by decide +kernel
theorem dX6_property_14 : decode cX6_property 14 = .ok (.istore_n 3, 1) := by decide +kernel
theorem dX6_property_15 : decode cX6_property 15 = .ok (.iload_n 3, 1) := by decide +kernel
theorem dX6_property_16 : decode cX6_property 16 = .ok (.ifCond .ge 17, 3) := by decide +kernel
theorem dX6_property_19 : decode cX6_property 19 = .ok (.iload_n 1, 1) := by decide +kernel
theorem dX6_property_20 : decode cX6_property 20 = .ok (.bipush 8, 2) := by decide +kernel
theorem dX6_property_22 : decode cX6_property 22 = .ok (.if_icmp .ne 7, 3) := by decide +kernel
theorem dX6_property_25 : decode cX6_property 25 = .ok (.iconst 0, 1) := by decide +kernel
theorem dX6_property_26 : decode cX6_property 26 = .ok (.goto 6, 3) := by decide +kernel
theorem dX6_property_29 : decode cX6_property 29 = .ok (.sipush (-20001), 3) := by decide +kernel
theorem dX6_property_32 : decode cX6_property 32 = .ok (.ireturn, 1) := by decide +kernel
theorem dX6_property_33 : decode cX6_property 33 = .ok (.iload_n 1, 1) := by decide +kernel
theorem dX6_property_34 : decode cX6_property 34 = .ok (.tableswitch 73 1 8 #[46, 73, 73, 73, 73, 51, 57, 63], 46) := by decide +kernel
theorem dX6_property_80 : decode cX6_property 80 = .ok (.iload_n 3, 1) := by decide +kernel
theorem dX6_property_81 : decode cX6_property 81 = .ok (.invokestatic 25, 3) := by decide +kernel
theorem dX6_property_84 : decode cX6_property 84 = .ok (.ireturn, 1) := by decide +kernel
theorem dX6_property_85 : decode cX6_property 85 = .ok (.getstatic 19, 3) := by decide +kernel
theorem dX6_property_88 : decode cX6_property 88 = .ok (.iload_n 3, 1) := by decide +kernel
theorem dX6_property_89 : decode cX6_property 89 = .ok (.iaload, 1) := by decide +kernel
theorem dX6_property_90 : decode cX6_property 90 = .ok (.ireturn, 1) := by decide +kernel
theorem dX6_property_91 : decode cX6_property 91 = .ok (.getstatic 22, 3) := by decide +kernel
theorem dX6_property_94 : decode cX6_property 94 = .ok (.iload_n 3, 1) := by decide +kernel
theorem dX6_property_95 : decode cX6_property 95 = .ok (.iaload, 1) := by decide +kernel
theorem dX6_property_96 : decode cX6_property 96 = .ok (.ireturn, 1) := by decide +kernel
theorem dX6_property_97 : decode cX6_property 97 = .ok (.aload_n 0, 1) := by decide +kernel
theorem dX6_property_98 : decode cX6_property 98 = .ok (.getfield 9, 3) := by decide +kernel
theorem dX6_property_101 : decode cX6_property 101 = .ok (.iload_n 3, 1) := by decide +kernel
theorem dX6_property_102 : decode cX6_property 102 = .ok (.iaload, 1) := by decide +kernel
theorem dX6_property_103 : decode cX6_property 103 = .ok (.invokestatic 68, 3) := by decide +kernel
theorem dX6_property_106 : decode cX6_property 106 = .ok (.ireturn, 1) := by decide +kernel
theorem dX6_property_107 : decode cX6_property 107 = .ok (.iload_n 1, 1) := by decide +kernel
theorem dX6_property_108 : decode cX6_property 108 = .ok (.iconst 5, 1) := by decide +kernel
theorem dX6_property_109 : decode cX6_property 109 = .ok (.if_icmp .ne 12, 3) := by decide +kernel
theorem dX6_property_112 : decode cX6_property 112 = .ok (.aload_n 0, 1) := by decide +kernel
theorem dX6_property_113 : decode cX6_property 113 = .ok (.iconst 5, 1) := by decide +kernel
theorem dX6_property_114 : decode cX6_property 114 = .ok (.invokevirtual 73, 3) := by decide +kernel
theorem dX6_property_117 : decode cX6_property 117 = .ok (.ineg, 1) := by decide +kernel
theorem dX6_property_118 : decode cX6_property 118 = .ok (.goto 8, 3) := by decide +kernel
theorem dX6_property_121 : decode cX6_property 121 = .ok (.aload_n 0, 1) := by decide +kernel
theorem dX6_property_122 : decode cX6_property 122 = .ok (.iload_n 1, 1) := by decide +kernel
theorem dX6_property_123 : decode cX6_property 123 = .ok (.invokevirtual 73, 3) := by decide +kernel
theorem dX6_property_126 : decode cX6_property 126 = .ok (.ireturn, 1) := by decide +kernel
theorem dX6_greatest_0 : decode cX6_greatest 0 = .ok (.bipush (-12), 2) := by decide +kernel
theorem dX6_greatest_2 : decode cX6_greatest 2 = .ok (.istore_n 2, 1) := by decide +kernel
theorem dX6_greatest_3 : decode cX6_greatest 3 = .ok (.iconst 0, 1) := by decide +kernel
theorem dX6_greatest_4 : decode cX6_greatest 4 = .ok (.istore_n 3, 1) := by decide +kernel
theorem dX6_greatest_5 : decode cX6_greatest 5 = .ok (.iload_n 3, 1) := by decide +kernel
theorem dX6_greatest_6 : decode cX6_greatest 6 = .ok (.bipush 12, 2) := by decide +kernel
theorem dX6_greatest_8 : decode cX6_greatest 8 = .ok (.if_icmp .gt 54, 3) := by decide +kernel
theorem dX6_greatest_11 : decode cX6_greatest 11 = .ok (.iconst 0, 1) := by decide +kernel
theorem dX6_greatest_12 : decode cX6_greatest 12 = .ok (.istore 4, 2) := by decide +kernel
theorem dX6_greatest_14 : decode cX6_greatest 14 = .ok (.iload 4, 2) := by decide +kernel
theorem dX6_greatest_16 : decode cX6_greatest 16 = .ok (.iload_n 3, 1) := by decide +kernel
theorem dX6_greatest_17 : decode cX6_greatest 17 = .ok (.if_icmp .gt 39, 3) := by decide +kernel
theorem dX6_greatest_20 : decode cX6_greatest 20 = .ok (.aload_n 0, 1) := by decide +kernel
theorem dX6_greatest_21 : decode cX6_greatest 21 = .ok (.getfield 9, 3) := by decide +kernel
theorem dX6_greatest_24 : decode cX6_greatest 24 = .ok (.iload_n 3, 1) := by decide +kernel
theorem dX6_greatest_25 : decode cX6_greatest 25 = .ok (.invokestatic 15, 3) := by decide +kernel
theorem dX6_greatest_28 : decode cX6_greatest 28 = .ok (.iload 4, 2) := by decide +kernel
theorem dX6_greatest_30 : decode cX6_greatest 30 = .ok (.iadd, 1) := by decide +kernel
theorem dX6_greatest_31 : decode cX6_greatest 31 = .ok (.iaload, 1) := by decide +kernel
theorem dX6_greatest_32 : decode cX6_greatest 32 = .ok (.ifCond .eq 18, 3) := by decide +kernel
theorem dX6_greatest_35 : decode cX6_greatest 35 = .ok (.iload_n 2, 1) := by decide +kernel
theorem dX6_greatest_36 : decode cX6_greatest 36 = .ok (.iload_n 1, 1) := by decide +kernel
theorem dX6_greatest_37 : decode cX6_greatest 37 = .ok (.iload_n 3, 1) := by decide +kernel
theorem dX6_greatest_38 : decode cX6_greatest 38 = .ok (.iload 4, 2) := by decide +kernel
theorem dX6_greatest_40 : decode cX6_greatest 40 = .ok (.isub, 1) := by decide +kernel
theorem dX6_greatest_41 : decode cX6_greatest 41 = .ok (.iload 4, 2) := by decide +kernel
theorem dX6_greatest_43 : decode cX6_greatest 43 = .ok (.invokestatic 76, 3) := by decide +kernel
theorem dX6_greatest_46 : decode cX6_greatest 46 = .ok (.invokestatic 79, 3) := by decide +kernel
theorem dX6_greatest_49 : decode cX6_greatest 49 = .ok (.istore_n 2, 1) := by decide +kernel
theorem dX6_greatest_50 : decode cX6_greatest 50 = .ok (.iinc 4 1, 3) := by decide +kernel
theorem dX6_greatest_53 : decode cX6_greatest 53 = .ok (.goto (-39), 3) := by decide +kernel
theorem dX6_greatest_56 : decode cX6_greatest 56 = .ok (.iinc 3 1, 3) := by decide +kernel
theorem dX6_greatest_59 : decode cX6_greatest 59 = .ok (.goto (-54), 3) := by decide +kernel
theorem dX6_greatest_62 : decode cX6_greatest 62 = .ok (.iload_n 2, 1) := by decide +kernel
theorem dX6_greatest_63 : decode cX6_greatest 63 = .ok (.ireturn, 1) := by decide +kernel
theorem dX6_measure_0 : decode cX6_measure 0 = .ok (.iload_n 0, 1) := by decide +kernel
theorem dX6_measure_1 : decode cX6_measure 1 = .ok (.tableswitch 35 2 4 #[27, 29, 31], 27) := by decide +kernel
theorem dX6_measure_28 : decode cX6_measure 28 = .ok (.iload_n 1, 1) := by decide +kernel
theorem dX6_measure_29 : decode cX6_measure 29 = .ok (.ireturn, 1) := by decide +kernel
theorem dX6_measure_30 : decode cX6_measure 30 = .ok (.iload_n 2, 1) := by decide +kernel
theorem dX6_measure_31 : decode cX6_measure 31 = .ok (.ireturn, 1) := by decide +kernel
theorem dX6_measure_32 : decode cX6_measure 32 = .ok (.iload_n 2, 1) := by decide +kernel
theorem dX6_measure_33 : decode cX6_measure 33 = .ok (.iload_n 1, 1) := by decide +kernel
theorem dX6_measure_34 : decode cX6_measure 34 = .ok (.isub, 1) := by decide +kernel
theorem dX6_measure_35 : decode cX6_measure 35 = .ok (.ireturn, 1) := by decide +kernel
theorem dX6_measure_36 : decode cX6_measure 36 = .ok (.iload_n 1, 1) := by decide +kernel
theorem dX6_measure_37 : decode cX6_measure 37 = .ok (.iload_n 2, 1) := by decide +kernel
theorem dX6_measure_38 : decode cX6_measure 38 = .ok (.isub, 1) := by decide +kernel
theorem dX6_measure_39 : decode cX6_measure 39 = .ok (.ireturn, 1) := by decide +kernel
theorem dX7_init_0 : decode cX7_init 0 = .ok (.aload_n 0, 1) := by decide +kernel
theorem dX7_init_1 : decode cX7_init 1 = .ok (.invokespecial 3, 3) := by decide +kernel
theorem dX7_init_4 : decode cX7_init 4 = .ok (.aload_n 0, 1) := by decide +kernel
theorem dX7_init_5 : decode cX7_init 5 = .ok (.bipush 9, 2) := by decide +kernel
theorem dX7_init_7 : decode cX7_init 7 = .ok (.anewarray 9, 3) := by decide +kernel
theorem dX7_init_10 : decode cX7_init 10 = .ok (.putfield 11, 3) := by decide +kernel
theorem dX7_init_13 : decode cX7_init 13 = .ok (.aload_n 0, 1) := by decide +kernel
theorem dX7_init_14 : decode cX7_init 14 = .ok (.bipush 9, 2) := by decide +kernel
theorem dX7_init_16 : decode cX7_init 16 = .ok (.anewarray 9, 3) := by decide +kernel
theorem dX7_init_19 : decode cX7_init 19 = .ok (.putfield 17, 3) := by decide +kernel
theorem dX7_init_22 : decode cX7_init 22 = .ok (.aload_n 0, 1) := by decide +kernel
theorem dX7_init_23 : decode cX7_init 23 = .ok (.new 9, 3) := by decide +kernel
theorem dX7_init_26 : decode cX7_init 26 = .ok (.dup, 1) := by decide +kernel
theorem dX7_init_27 : decode cX7_init 27 = .ok (.invokespecial 20, 3) := by decide +kernel
theorem dX7_init_30 : decode cX7_init 30 = .ok (.putfield 21, 3) := by decide +kernel
theorem dX7_init_33 : decode cX7_init 33 = .ok (.aload_n 0, 1) := by decide +kernel
theorem dX7_init_34 : decode cX7_init 34 = .ok (.new 9, 3) := by decide +kernel
theorem dX7_init_37 : decode cX7_init 37 = .ok (.dup, 1) := by decide +kernel
theorem dX7_init_38 : decode cX7_init 38 = .ok (.invokespecial 20, 3) := by decide +kernel
theorem dX7_init_41 : decode cX7_init 41 = .ok (.putfield 25, 3) := by decide +kernel
theorem dX7_init_44 : decode cX7_init 44 = .ok (.aload_n 0, 1) := by decide +kernel
theorem dX7_init_45 : decode cX7_init 45 = .ok (.iconst 0, 1) := by decide +kernel
theorem dX7_init_46 : decode cX7_init 46 = .ok (.putfield 28, 3) := by decide +kernel
theorem dX7_init_49 : decode cX7_init 49 = .ok (.aload_n 0, 1) := by decide +kernel
theorem dX7_init_50 : decode cX7_init 50 = .ok (.aload_n 1, 1) := by decide +kernel
theorem dX7_init_51 : decode cX7_init 51 = .ok (.putfield 32, 3) := by decide +kernel
theorem dX7_init_54 : decode cX7_init 54 = .ok (.aload_n 0, 1) := by decide +kernel
theorem dX7_init_55 : decode cX7_init 55 = .ok (.aload_n 2, 1) := by decide +kernel
theorem dX7_init_56 : decode cX7_init 56 = .ok (.putfield 36, 3) := by decide +kernel
theorem dX7_init_59 : decode cX7_init 59 = .ok (.iconst 0, 1) := by decide +kernel
theorem dX7_init_60 : decode cX7_init 60 = .ok (.istore_n 3, 1) := by decide +kernel
theorem dX7_init_61 : decode cX7_init 61 = .ok (.iload_n 3, 1) := by decide +kernel
theorem dX7_init_62 : decode cX7_init 62 = .ok (.bipush 8, 2) := by decide +kernel
theorem dX7_init_64 : decode cX7_init 64 = .ok (.if_icmp .gt 35, 3) := by decide +kernel
theorem dX7_init_67 : decode cX7_init 67 = .ok (.aload_n 0, 1) := by decide +kernel
theorem dX7_init_68 : decode cX7_init 68 = .ok (.getfield 11, 3) := by decide +kernel
theorem dX7_init_71 : decode cX7_init 71 = .ok (.iload_n 3, 1) := by decide +kernel
theorem dX7_init_72 : decode cX7_init 72 = .ok (.new 9, 3) := by decide +kernel
theorem dX7_init_75 : decode cX7_init 75 = .ok (.dup, 1) := by decide +kernel
theorem dX7_init_76 : decode cX7_init 76 = .ok (.invokespecial 20, 3) := by decide +kernel
theorem dX7_init_79 : decode cX7_init 79 = .ok (.aastore, 1) := by decide +kernel
theorem dX7_init_80 : decode cX7_init 80 = .ok (.aload_n 0, 1) := by decide +kernel
theorem dX7_init_81 : decode cX7_init 81 = .ok (.getfield 17, 3) := by decide +kernel
theorem dX7_init_84 : decode cX7_init 84 = .ok (.iload_n 3, 1) := by decide +kernel
theorem dX7_init_85 : decode cX7_init 85 = .ok (.new 9, 3) := by decide +kernel
theorem dX7_init_88 : decode cX7_init 88 = .ok (.dup, 1) := by decide +kernel
theorem dX7_init_89 : decode cX7_init 89 = .ok (.invokespecial 20, 3) := by decide +kernel
theorem dX7_init_92 : decode cX7_init 92 = .ok (.aastore, 1) := by decide +kernel
theorem dX7_init_93 : decode cX7_init 93 = .ok (.iinc 3 1, 3) := by decide +kernel
theorem dX7_init_96 : decode cX7_init 96 = .ok (.goto (-35), 3) := by decide +kernel
theorem dX7_init_99 : decode cX7_init 99 = .ok (.return_, 1) := by decide +kernel
theorem dX7_evaluate_0 : decode cX7_evaluate 0 = .ok (.aload_n 0, 1) := by decide +kernel
theorem dX7_evaluate_1 : decode cX7_evaluate 1 = .ok (.iconst 0, 1) := by decide +kernel
theorem dX7_evaluate_2 : decode cX7_evaluate 2 = .ok (.putfield 28, 3) := by decide +kernel
theorem dX7_evaluate_5 : decode cX7_evaluate 5 = .ok (.aload_n 0, 1) := by decide +kernel
theorem dX7_evaluate_6 : decode cX7_evaluate 6 = .ok (.iconst 0, 1) := by decide +kernel
theorem dX7_evaluate_7 : decode cX7_evaluate 7 = .ok (.invokevirtual 40, 3) := by decide +kernel
theorem dX7_evaluate_10 : decode cX7_evaluate 10 = .ok (.ifCond .ne 5, 3) := by decide +kernel
theorem dX7_evaluate_13 : decode cX7_evaluate 13 = .ok (.iconst 0, 1) := by decide +kernel
theorem dX7_evaluate_14 : decode cX7_evaluate 14 = .ok (.ireturn, 1) := by decide +kernel
theorem dX7_evaluate_15 : decode cX7_evaluate 15 = .ok (.aload_n 1, 1) := by decide +kernel
theorem dX7_evaluate_16 : decode cX7_evaluate 16 = .ok (.aload_n 0, 1) := by decide +kernel
theorem dX7_evaluate_17 : decode cX7_evaluate 17 = .ok (.getfield 11, 3) := by decide +kernel
theorem dX7_evaluate_20 : decode cX7_evaluate 20 = .ok (.iconst 0, 1) := by decide +kernel
theorem dX7_evaluate_21 : decode cX7_evaluate 21 = .ok (.aaload, 1) := by decide +kernel
theorem dX7_evaluate_22 : decode cX7_evaluate 22 = .ok (.invokevirtual 44, 3) := by decide +kernel
theorem dX7_evaluate_25 : decode cX7_evaluate 25 = .ok (.iconst 1, 1) := by decide +kernel
theorem dX7_evaluate_26 : decode cX7_evaluate 26 = .ok (.ireturn, 1) := by decide +kernel
theorem dX7_readExpression_0 : decode cX7_readExpression 0 = .ok (.iload_n 1, 1) := by decide +kernel
theorem dX7_readExpression_1 : decode cX7_readExpression 1 = .ok (.bipush 8, 2) := by decide +kernel
theorem dX7_readExpression_3 : decode cX7_readExpression 3 = .ok (.if_icmp .le 5, 3) := by decide +kernel
theorem dX7_readExpression_6 : decode cX7_readExpression 6 = .ok (.iconst 0, 1) := by decide +kernel
theorem dX7_readExpression_7 : decode cX7_readExpression 7 = .ok (.ireturn, 1) := by decide +kernel
theorem dX7_readExpression_8 : decode cX7_readExpression 8 = .ok (.aload_n 0, 1) := by decide +kernel
theorem dX7_readExpression_9 : decode cX7_readExpression 9 = .ok (.getfield 11, 3) := by decide +kernel
theorem dX7_readExpression_12 : decode cX7_readExpression 12 = .ok (.iload_n 1, 1) := by decide +kernel
theorem dX7_readExpression_13 : decode cX7_readExpression 13 = .ok (.aaload, 1) := by decide +kernel
theorem dX7_readExpression_14 : decode cX7_readExpression 14 = .ok (.invokevirtual 48, 3) := by decide +kernel
theorem dX7_readExpression_17 : decode cX7_readExpression 17 = .ok (.aload_n 0, 1) := by decide +kernel
theorem dX7_readExpression_18 : decode cX7_readExpression 18 = .ok (.invokevirtual 51, 3) := by decide +kernel
theorem dX7_readExpression_21 : decode cX7_readExpression 21 = .ok (.bipush 45, 2) := by decide +kernel
theorem dX7_readExpression_23 : decode cX7_readExpression 23 = .ok (.if_icmp .ne 9, 3) := by decide +kernel
theorem dX7_readExpression_26 : decode cX7_readExpression 26 = .ok (.sipush 10006, 3) := by decide +kernel
theorem dX7_readExpression_29 : decode cX7_readExpression 29 = .ok (.goto 4, 3) := by decide +kernel
theorem dX7_readExpression_32 : decode cX7_readExpression 32 = .ok (.iconst 1, 1) := by decide +kernel
theorem dX7_readExpression_33 : decode cX7_readExpression 33 = .ok (.istore_n 2, 1) := by decide +kernel
theorem dX7_readExpression_34 : decode cX7_readExpression 34 = .ok (.iload_n 2, 1) := by decide +kernel
theorem dX7_readExpression_35 : decode cX7_readExpression 35 = .ok (.iconst 1, 1) := by decide +kernel
theorem dX7_readExpression_36 : decode cX7_readExpression 36 = .ok (.if_icmp .eq 13, 3) := by decide +kernel
theorem dX7_readExpression_39 : decode cX7_readExpression 39 = .ok (.aload_n 0, 1) := by decide +kernel
theorem dX7_readExpression_40 : decode cX7_readExpression 40 = .ok (.dup, 1) := by decide +kernel
theorem dX7_readExpression_41 : decode cX7_readExpression 41 = .ok (.getfield 28, 3) := by decide +kernel
theorem dX7_readExpression_44 : decode cX7_readExpression 44 = .ok (.iconst 1, 1) := by decide +kernel
theorem dX7_readExpression_45 : decode cX7_readExpression 45 = .ok (.iadd, 1) := by decide +kernel
theorem dX7_readExpression_46 : decode cX7_readExpression 46 = .ok (.putfield 28, 3) := by decide +kernel
theorem dX7_readExpression_49 : decode cX7_readExpression 49 = .ok (.iconst 0, 1) := by decide +kernel
theorem dX7_readExpression_50 : decode cX7_readExpression 50 = .ok (.istore_n 3, 1) := by decide +kernel
theorem dX7_readExpression_51 : decode cX7_readExpression 51 = .ok (.iload_n 3, 1) := by decide +kernel
theorem dX7_readExpression_52 : decode cX7_readExpression 52 = .ok (.bipush 120, 2) := by decide +kernel
theorem dX7_readExpression_54 : decode cX7_readExpression 54 = .ok (.if_icmp .ge 82, 3) := by decide +kernel
theorem dX7_readExpression_57 : decode cX7_readExpression 57 = .ok (.aload_n 0, 1) := by decide +kernel
theorem dX7_readExpression_58 : decode cX7_readExpression 58 = .ok (.iload_n 1, 1) := by decide +kernel
theorem dX7_readExpression_59 : decode cX7_readExpression 59 = .ok (.invokevirtual 55, 3) := by decide +kernel
theorem dX7_readExpression_62 : decode cX7_readExpression 62 = .ok (.ifCond .ne 5, 3) := by decide +kernel
theorem dX7_readExpression_65 : decode cX7_readExpression 65 = .ok (.iconst 0, 1) := by decide +kernel
theorem dX7_readExpression_66 : decode cX7_readExpression 66 = .ok (.ireturn, 1) := by decide +kernel
theorem dX7_readExpression_67 : decode cX7_readExpression 67 = .ok (.aload_n 0, 1) := by decide +kernel
theorem dX7_readExpression_68 : decode cX7_readExpression 68 = .ok (.getfield 11, 3) := by decide +kernel
theorem dX7_readExpression_71 : decode cX7_readExpression 71 = .ok (.iload_n 1, 1) := by decide +kernel
theorem dX7_readExpression_72 : decode cX7_readExpression 72 = .ok (.aaload, 1) := by decide +kernel
theorem dX7_readExpression_73 : decode cX7_readExpression 73 = .ok (.aload_n 0, 1) := by decide +kernel
theorem dX7_readExpression_74 : decode cX7_readExpression 74 = .ok (.getfield 17, 3) := by decide +kernel
theorem dX7_readExpression_77 : decode cX7_readExpression 77 = .ok (.iload_n 1, 1) := by decide +kernel
theorem dX7_readExpression_78 : decode cX7_readExpression 78 = .ok (.aaload, 1) := by decide +kernel
theorem dX7_readExpression_79 : decode cX7_readExpression 79 = .ok (.iload_n 2, 1) := by decide +kernel
theorem dX7_readExpression_80 : decode cX7_readExpression 80 = .ok (.invokevirtual 58, 3) := by decide +kernel
theorem dX7_readExpression_83 : decode cX7_readExpression 83 = .ok (.aload_n 0, 1) := by decide +kernel
theorem dX7_readExpression_84 : decode cX7_readExpression 84 = .ok (.invokevirtual 51, 3) := by decide +kernel
theorem dX7_readExpression_87 : decode cX7_readExpression 87 = .ok (.istore 4, 2) := by decide +kernel
theorem dX7_readExpression_89 : decode cX7_readExpression 89 = .ok (.iload 4, 2) := by decide +kernel
theorem dX7_readExpression_91 : decode cX7_readExpression 91 = .ok (.bipush 43, 2) := by decide +kernel
theorem dX7_readExpression_93 : decode cX7_readExpression 93 = .ok (.if_icmp .eq 12, 3) := by decide +kernel
theorem dX7_readExpression_96 : decode cX7_readExpression 96 = .ok (.iload 4, 2) := by decide +kernel
theorem dX7_readExpression_98 : decode cX7_readExpression 98 = .ok (.bipush 45, 2) := by decide +kernel
theorem dX7_readExpression_100 : decode cX7_readExpression 100 = .ok (.if_icmp .eq 5, 3) := by decide +kernel
theorem dX7_readExpression_103 : decode cX7_readExpression 103 = .ok (.iconst 1, 1) := by decide +kernel
theorem dX7_readExpression_104 : decode cX7_readExpression 104 = .ok (.ireturn, 1) := by decide +kernel
theorem dX7_readExpression_105 : decode cX7_readExpression 105 = .ok (.iload 4, 2) := by decide +kernel
theorem dX7_readExpression_107 : decode cX7_readExpression 107 = .ok (.bipush 45, 2) := by decide +kernel
theorem dX7_readExpression_109 : decode cX7_readExpression 109 = .ok (.if_icmp .ne 9, 3) := by decide +kernel
theorem dX7_readExpression_112 : decode cX7_readExpression 112 = .ok (.sipush 10006, 3) := by decide +kernel
theorem dX7_readExpression_115 : decode cX7_readExpression 115 = .ok (.goto 4, 3) := by decide +kernel
theorem dX7_readExpression_118 : decode cX7_readExpression 118 = .ok (.iconst 1, 1) := by decide +kernel
theorem dX7_readExpression_119 : decode cX7_readExpression 119 = .ok (.istore_n 2, 1) := by decide +kernel
theorem dX7_readExpression_120 : decode cX7_readExpression 120 = .ok (.aload_n 0, 1) := by decide +kernel
theorem dX7_readExpression_121 : decode cX7_readExpression 121 = .ok (.dup, 1) := by decide +kernel
theorem dX7_readExpression_122 : decode cX7_readExpression 122 = .ok (.getfield 28, 3) := by decide +kernel
theorem dX7_readExpression_125 : decode cX7_readExpression 125 = .ok (.iconst 1, 1) := by decide +kernel
theorem dX7_readExpression_126 : decode cX7_readExpression 126 = .ok (.iadd, 1) := by decide +kernel
theorem dX7_readExpression_127 : decode cX7_readExpression 127 = .ok (.putfield 28, 3) := by decide +kernel
theorem dX7_readExpression_130 : decode cX7_readExpression 130 = .ok (.iinc 3 1, 3) := by decide +kernel
theorem dX7_readExpression_133 : decode cX7_readExpression 133 = .ok (.goto (-82), 3) := by decide +kernel
theorem dX7_readExpression_136 : decode cX7_readExpression 136 = .ok (.iconst 1, 1) := by decide +kernel
theorem dX7_readExpression_137 : decode cX7_readExpression 137 = .ok (.ireturn, 1) := by decide +kernel
theorem dX7_readTerm_0 : decode cX7_readTerm 0 = .ok (.aload_n 0, 1) := by decide +kernel
theorem dX7_readTerm_1 : decode cX7_readTerm 1 = .ok (.getfield 17, 3) := by decide +kernel
theorem dX7_readTerm_4 : decode cX7_readTerm 4 = .ok (.iload_n 1, 1) := by decide +kernel
theorem dX7_readTerm_5 : decode cX7_readTerm 5 = .ok (.aaload, 1) := by decide +kernel
theorem dX7_readTerm_6 : decode cX7_readTerm 6 = .ok (.astore_n 2, 1) := by decide +kernel
theorem dX7_readTerm_7 : decode cX7_readTerm 7 = .ok (.aload_n 2, 1) := by decide +kernel
theorem dX7_readTerm_8 : decode cX7_readTerm 8 = .ok (.iconst 1, 1) := by decide +kernel
theorem dX7_readTerm_9 : decode cX7_readTerm 9 = .ok (.invokevirtual 62, 3) := by decide +kernel
theorem dX7_readTerm_12 : decode cX7_readTerm 12 = .ok (.iconst 0, 1) := by decide +kernel
theorem dX7_readTerm_13 : decode cX7_readTerm 13 = .ok (.istore_n 3, 1) := by decide +kernel
theorem dX7_readTerm_14 : decode cX7_readTerm 14 = .ok (.iload_n 3, 1) := by decide +kernel
theorem dX7_readTerm_15 : decode cX7_readTerm 15 = .ok (.bipush 120, 2) := by decide +kernel
theorem dX7_readTerm_17 : decode cX7_readTerm 17 = .ok (.if_icmp .ge 83, 3) := by decide +kernel
theorem dX7_readTerm_20 : decode cX7_readTerm 20 = .ok (.aload_n 0, 1) := by decide +kernel
theorem dX7_readTerm_21 : decode cX7_readTerm 21 = .ok (.iload_n 1, 1) := by decide +kernel
theorem dX7_readTerm_22 : decode cX7_readTerm 22 = .ok (.invokevirtual 66, 3) := by decide +kernel
theorem dX7_readTerm_25 : decode cX7_readTerm 25 = .ok (.ifCond .eq 14, 3) := by decide +kernel
theorem dX7_readTerm_28 : decode cX7_readTerm 28 = .ok (.aload_n 2, 1) := by decide +kernel
theorem dX7_readTerm_29 : decode cX7_readTerm 29 = .ok (.aload_n 0, 1) := by decide +kernel
theorem dX7_readTerm_30 : decode cX7_readTerm 30 = .ok (.getfield 21, 3) := by decide +kernel
theorem dX7_readTerm_33 : decode cX7_readTerm 33 = .ok (.invokestatic 69, 3) := by decide +kernel
theorem dX7_readTerm_36 : decode cX7_readTerm 36 = .ok (.ifCond .ne 5, 3) := by decide +kernel
theorem dX7_readTerm_39 : decode cX7_readTerm 39 = .ok (.iconst 0, 1) := by decide +kernel
theorem dX7_readTerm_40 : decode cX7_readTerm 40 = .ok (.ireturn, 1) := by decide +kernel
theorem dX7_readTerm_41 : decode cX7_readTerm 41 = .ok (.aload_n 0, 1) := by decide +kernel
theorem dX7_readTerm_42 : decode cX7_readTerm 42 = .ok (.getfield 25, 3) := by decide +kernel
theorem dX7_readTerm_45 : decode cX7_readTerm 45 = .ok (.invokevirtual 48, 3) := by decide +kernel
theorem dX7_readTerm_48 : decode cX7_readTerm 48 = .ok (.aload_n 0, 1) := by decide +kernel
theorem dX7_readTerm_49 : decode cX7_readTerm 49 = .ok (.getfield 32, 3) := by decide +kernel
theorem dX7_readTerm_52 : decode cX7_readTerm 52 = .ok (.aload_n 0, 1) := by decide +kernel
theorem dX7_readTerm_53 : decode cX7_readTerm 53 = .ok (.getfield 25, 3) := by decide +kernel
theorem dX7_readTerm_56 : decode cX7_readTerm 56 = .ok (.iconst 1, 1) := by decide +kernel
theorem dX7_readTerm_57 : decode cX7_readTerm 57 = .ok (.aload_n 2, 1) := by decide +kernel
theorem dX7_readTerm_58 : decode cX7_readTerm 58 = .ok (.aload_n 0, 1) := by decide +kernel
theorem dX7_readTerm_59 : decode cX7_readTerm 59 = .ok (.getfield 21, 3) := by decide +kernel
theorem dX7_readTerm_62 : decode cX7_readTerm 62 = .ok (.invokevirtual 75, 3) := by decide +kernel
theorem dX7_readTerm_65 : decode cX7_readTerm 65 = .ok (.aload_n 2, 1) := by decide +kernel
theorem dX7_readTerm_66 : decode cX7_readTerm 66 = .ok (.aload_n 0, 1) := by decide +kernel
theorem dX7_readTerm_67 : decode cX7_readTerm 67 = .ok (.getfield 25, 3) := by decide +kernel
theorem dX7_readTerm_70 : decode cX7_readTerm 70 = .ok (.invokevirtual 44, 3) := by decide +kernel
theorem dX7_readTerm_73 : decode cX7_readTerm 73 = .ok (.aload_n 0, 1) := by decide +kernel
theorem dX7_readTerm_74 : decode cX7_readTerm 74 = .ok (.invokevirtual 51, 3) := by decide +kernel
theorem dX7_readTerm_77 : decode cX7_readTerm 77 = .ok (.bipush 42, 2) := by decide +kernel
theorem dX7_readTerm_79 : decode cX7_readTerm 79 = .ok (.if_icmp .eq 5, 3) := by decide +kernel
theorem dX7_readTerm_82 : decode cX7_readTerm 82 = .ok (.iconst 1, 1) := by decide +kernel
theorem dX7_readTerm_83 : decode cX7_readTerm 83 = .ok (.ireturn, 1) := by decide +kernel
theorem dX7_readTerm_84 : decode cX7_readTerm 84 = .ok (.aload_n 0, 1) := by decide +kernel
theorem dX7_readTerm_85 : decode cX7_readTerm 85 = .ok (.dup, 1) := by decide +kernel
theorem dX7_readTerm_86 : decode cX7_readTerm 86 = .ok (.getfield 28, 3) := by decide +kernel
theorem dX7_readTerm_89 : decode cX7_readTerm 89 = .ok (.iconst 1, 1) := by decide +kernel
theorem dX7_readTerm_90 : decode cX7_readTerm 90 = .ok (.iadd, 1) := by decide +kernel
theorem dX7_readTerm_91 : decode cX7_readTerm 91 = .ok (.putfield 28, 3) := by decide +kernel
theorem dX7_readTerm_94 : decode cX7_readTerm 94 = .ok (.iinc 3 1, 3) := by decide +kernel
theorem dX7_readTerm_97 : decode cX7_readTerm 97 = .ok (.goto (-83), 3) := by decide +kernel
theorem dX7_readTerm_100 : decode cX7_readTerm 100 = .ok (.iconst 1, 1) := by decide +kernel
theorem dX7_readTerm_101 : decode cX7_readTerm 101 = .ok (.ireturn, 1) := by decide +kernel
theorem dX7_readFactor_0 : decode cX7_readFactor 0 = .ok (.aload_n 0, 1) := by decide +kernel
theorem dX7_readFactor_1 : decode cX7_readFactor 1 = .ok (.invokevirtual 51, 3) := by decide +kernel
theorem dX7_readFactor_4 : decode cX7_readFactor 4 = .ok (.istore_n 2, 1) := by decide +kernel
theorem dX7_readFactor_5 : decode cX7_readFactor 5 = .ok (.iload_n 2, 1) := by decide +kernel
theorem dX7_readFactor_6 : decode cX7_readFactor 6 = .ok (.bipush 40, 2) := by decide +kernel
theorem dX7_readFactor_8 : decode cX7_readFactor 8 = .ok (.if_icmp .ne 58, 3) := by decide +kernel
theorem dX7_readFactor_11 : decode cX7_readFactor 11 = .ok (.aload_n 0, 1) := by decide +kernel
theorem dX7_readFactor_12 : decode cX7_readFactor 12 = .ok (.dup, 1) := by decide +kernel
theorem dX7_readFactor_13 : decode cX7_readFactor 13 = .ok (.getfield 28, 3) := by decide +kernel
theorem dX7_readFactor_16 : decode cX7_readFactor 16 = .ok (.iconst 1, 1) := by decide +kernel
theorem dX7_readFactor_17 : decode cX7_readFactor 17 = .ok (.iadd, 1) := by decide +kernel
theorem dX7_readFactor_18 : decode cX7_readFactor 18 = .ok (.putfield 28, 3) := by decide +kernel
theorem dX7_readFactor_21 : decode cX7_readFactor 21 = .ok (.aload_n 0, 1) := by decide +kernel
theorem dX7_readFactor_22 : decode cX7_readFactor 22 = .ok (.iload_n 1, 1) := by decide +kernel
theorem dX7_readFactor_23 : decode cX7_readFactor 23 = .ok (.iconst 1, 1) := by decide +kernel
theorem dX7_readFactor_24 : decode cX7_readFactor 24 = .ok (.iadd, 1) := by decide +kernel
theorem dX7_readFactor_25 : decode cX7_readFactor 25 = .ok (.invokevirtual 40, 3) := by decide +kernel
theorem dX7_readFactor_28 : decode cX7_readFactor 28 = .ok (.ifCond .ne 5, 3) := by decide +kernel
theorem dX7_readFactor_31 : decode cX7_readFactor 31 = .ok (.iconst 0, 1) := by decide +kernel
theorem dX7_readFactor_32 : decode cX7_readFactor 32 = .ok (.ireturn, 1) := by decide +kernel
theorem dX7_readFactor_33 : decode cX7_readFactor 33 = .ok (.aload_n 0, 1) := by decide +kernel
theorem dX7_readFactor_34 : decode cX7_readFactor 34 = .ok (.invokevirtual 51, 3) := by decide +kernel
theorem dX7_readFactor_37 : decode cX7_readFactor 37 = .ok (.pop, 1) := by decide +kernel
theorem dX7_readFactor_38 : decode cX7_readFactor 38 = .ok (.aload_n 0, 1) := by decide +kernel
theorem dX7_readFactor_39 : decode cX7_readFactor 39 = .ok (.dup, 1) := by decide +kernel
theorem dX7_readFactor_40 : decode cX7_readFactor 40 = .ok (.getfield 28, 3) := by decide +kernel
theorem dX7_readFactor_43 : decode cX7_readFactor 43 = .ok (.iconst 1, 1) := by decide +kernel
theorem dX7_readFactor_44 : decode cX7_readFactor 44 = .ok (.iadd, 1) := by decide +kernel
theorem dX7_readFactor_45 : decode cX7_readFactor 45 = .ok (.putfield 28, 3) := by decide +kernel
theorem dX7_readFactor_48 : decode cX7_readFactor 48 = .ok (.aload_n 0, 1) := by decide +kernel
theorem dX7_readFactor_49 : decode cX7_readFactor 49 = .ok (.getfield 21, 3) := by decide +kernel
theorem dX7_readFactor_52 : decode cX7_readFactor 52 = .ok (.aload_n 0, 1) := by decide +kernel
theorem dX7_readFactor_53 : decode cX7_readFactor 53 = .ok (.getfield 11, 3) := by decide +kernel
theorem dX7_readFactor_56 : decode cX7_readFactor 56 = .ok (.iload_n 1, 1) := by decide +kernel
theorem dX7_readFactor_57 : decode cX7_readFactor 57 = .ok (.iconst 1, 1) := by decide +kernel
theorem dX7_readFactor_58 : decode cX7_readFactor 58 = .ok (.iadd, 1) := by decide +kernel
theorem dX7_readFactor_59 : decode cX7_readFactor 59 = .ok (.aaload, 1) := by decide +kernel
theorem dX7_readFactor_60 : decode cX7_readFactor 60 = .ok (.invokevirtual 44, 3) := by decide +kernel
theorem dX7_readFactor_63 : decode cX7_readFactor 63 = .ok (.goto 77, 3) := by decide +kernel
theorem dX7_readFactor_66 : decode cX7_readFactor 66 = .ok (.iload_n 2, 1) := by decide +kernel
theorem dX7_readFactor_67 : decode cX7_readFactor 67 = .ok (.bipush 120, 2) := by decide +kernel
theorem dX7_readFactor_69 : decode cX7_readFactor 69 = .ok (.if_icmp .eq 9, 3) := by decide +kernel
theorem dX7_readFactor_72 : decode cX7_readFactor 72 = .ok (.iload_n 2, 1) := by decide +kernel
theorem dX7_readFactor_73 : decode cX7_readFactor 73 = .ok (.bipush 100, 2) := by decide +kernel
theorem dX7_readFactor_75 : decode cX7_readFactor 75 = .ok (.if_icmp .ne 53, 3) := by decide +kernel
theorem dX7_readFactor_78 : decode cX7_readFactor 78 = .ok (.aload_n 0, 1) := by decide +kernel
theorem dX7_readFactor_79 : decode cX7_readFactor 79 = .ok (.dup, 1) := by decide +kernel
theorem dX7_readFactor_80 : decode cX7_readFactor 80 = .ok (.getfield 28, 3) := by decide +kernel
theorem dX7_readFactor_83 : decode cX7_readFactor 83 = .ok (.iconst 1, 1) := by decide +kernel
theorem dX7_readFactor_84 : decode cX7_readFactor 84 = .ok (.iadd, 1) := by decide +kernel
theorem dX7_readFactor_85 : decode cX7_readFactor 85 = .ok (.putfield 28, 3) := by decide +kernel
theorem dX7_readFactor_88 : decode cX7_readFactor 88 = .ok (.aload_n 0, 1) := by decide +kernel
theorem dX7_readFactor_89 : decode cX7_readFactor 89 = .ok (.getfield 21, 3) := by decide +kernel
theorem dX7_readFactor_92 : decode cX7_readFactor 92 = .ok (.invokevirtual 48, 3) := by decide +kernel
theorem dX7_readFactor_95 : decode cX7_readFactor 95 = .ok (.aload_n 0, 1) := by decide +kernel
theorem dX7_readFactor_96 : decode cX7_readFactor 96 = .ok (.getfield 21, 3) := by decide +kernel
theorem dX7_readFactor_99 : decode cX7_readFactor 99 = .ok (.iload_n 2, 1) := by decide +kernel
theorem dX7_readFactor_100 : decode cX7_readFactor 100 = .ok (.bipush 120, 2) := by decide +kernel
theorem dX7_readFactor_102 : decode cX7_readFactor 102 = .ok (.if_icmp .ne 7, 3) := by decide +kernel
theorem dX7_readFactor_105 : decode cX7_readFactor 105 = .ok (.iconst 1, 1) := by decide +kernel
theorem dX7_readFactor_106 : decode cX7_readFactor 106 = .ok (.goto 4, 3) := by decide +kernel
theorem dX7_readFactor_109 : decode cX7_readFactor 109 = .ok (.iconst 0, 1) := by decide +kernel
theorem dX7_readFactor_110 : decode cX7_readFactor 110 = .ok (.iload_n 2, 1) := by decide +kernel
theorem dX7_readFactor_111 : decode cX7_readFactor 111 = .ok (.bipush 100, 2) := by decide +kernel
theorem dX7_readFactor_113 : decode cX7_readFactor 113 = .ok (.if_icmp .ne 7, 3) := by decide +kernel
theorem dX7_readFactor_116 : decode cX7_readFactor 116 = .ok (.iconst 1, 1) := by decide +kernel
theorem dX7_readFactor_117 : decode cX7_readFactor 117 = .ok (.goto 4, 3) := by decide +kernel
theorem dX7_readFactor_120 : decode cX7_readFactor 120 = .ok (.iconst 0, 1) := by decide +kernel
theorem dX7_readFactor_121 : decode cX7_readFactor 121 = .ok (.iconst 1, 1) := by decide +kernel
theorem dX7_readFactor_122 : decode cX7_readFactor 122 = .ok (.invokevirtual 79, 3) := by decide +kernel
theorem dX7_readFactor_125 : decode cX7_readFactor 125 = .ok (.goto 15, 3) := by decide +kernel
theorem dX7_readFactor_128 : decode cX7_readFactor 128 = .ok (.aload_n 0, 1) := by decide +kernel
theorem dX7_readFactor_129 : decode cX7_readFactor 129 = .ok (.getfield 21, 3) := by decide +kernel
theorem dX7_readFactor_132 : decode cX7_readFactor 132 = .ok (.aload_n 0, 1) := by decide +kernel
theorem dX7_readFactor_133 : decode cX7_readFactor 133 = .ok (.iconst 4, 1) := by decide +kernel
theorem dX7_readFactor_134 : decode cX7_readFactor 134 = .ok (.invokevirtual 83, 3) := by decide +kernel
theorem dX7_readFactor_137 : decode cX7_readFactor 137 = .ok (.invokevirtual 62, 3) := by decide +kernel
theorem dX7_readFactor_140 : decode cX7_readFactor 140 = .ok (.aload_n 0, 1) := by decide +kernel
theorem dX7_readFactor_141 : decode cX7_readFactor 141 = .ok (.invokevirtual 51, 3) := by decide +kernel
theorem dX7_readFactor_144 : decode cX7_readFactor 144 = .ok (.bipush 94, 2) := by decide +kernel
theorem dX7_readFactor_146 : decode cX7_readFactor 146 = .ok (.if_icmp .eq 5, 3) := by decide +kernel
theorem dX7_readFactor_149 : decode cX7_readFactor 149 = .ok (.iconst 1, 1) := by decide +kernel
theorem dX7_readFactor_150 : decode cX7_readFactor 150 = .ok (.ireturn, 1) := by decide +kernel
theorem dX7_readFactor_151 : decode cX7_readFactor 151 = .ok (.aload_n 0, 1) := by decide +kernel
theorem dX7_readFactor_152 : decode cX7_readFactor 152 = .ok (.dup, 1) := by decide +kernel
theorem dX7_readFactor_153 : decode cX7_readFactor 153 = .ok (.getfield 28, 3) := by decide +kernel
theorem dX7_readFactor_156 : decode cX7_readFactor 156 = .ok (.iconst 1, 1) := by decide +kernel
theorem dX7_readFactor_157 : decode cX7_readFactor 157 = .ok (.iadd, 1) := by decide +kernel
theorem dX7_readFactor_158 : decode cX7_readFactor 158 = .ok (.putfield 28, 3) := by decide +kernel
theorem dX7_readFactor_161 : decode cX7_readFactor 161 = .ok (.aload_n 0, 1) := by decide +kernel
theorem dX7_readFactor_162 : decode cX7_readFactor 162 = .ok (.invokevirtual 51, 3) := by decide +kernel
theorem dX7_readFactor_165 : decode cX7_readFactor 165 = .ok (.pop, 1) := by decide +kernel
theorem dX7_readFactor_166 : decode cX7_readFactor 166 = .ok (.aload_n 0, 1) := by decide +kernel
theorem dX7_readFactor_167 : decode cX7_readFactor 167 = .ok (.iconst 2, 1) := by decide +kernel
theorem dX7_readFactor_168 : decode cX7_readFactor 168 = .ok (.invokevirtual 83, 3) := by decide +kernel
theorem dX7_readFactor_171 : decode cX7_readFactor 171 = .ok (.istore_n 3, 1) := by decide +kernel
theorem dX7_readFactor_172 : decode cX7_readFactor 172 = .ok (.aload_n 0, 1) := by decide +kernel
theorem dX7_readFactor_173 : decode cX7_readFactor 173 = .ok (.getfield 21, 3) := by decide +kernel
theorem dX7_readFactor_176 : decode cX7_readFactor 176 = .ok (.iload_n 3, 1) := by decide +kernel
theorem dX7_readFactor_177 : decode cX7_readFactor 177 = .ok (.invokestatic 87, 3) := by decide +kernel
theorem dX7_readFactor_180 : decode cX7_readFactor 180 = .ok (.ifCond .ne 5, 3) := by decide +kernel
theorem dX7_readFactor_183 : decode cX7_readFactor 183 = .ok (.iconst 0, 1) := by decide +kernel
theorem dX7_readFactor_184 : decode cX7_readFactor 184 = .ok (.ireturn, 1) := by decide +kernel
theorem dX7_readFactor_185 : decode cX7_readFactor 185 = .ok (.aload_n 0, 1) := by decide +kernel
theorem dX7_readFactor_186 : decode cX7_readFactor 186 = .ok (.getfield 32, 3) := by decide +kernel
theorem dX7_readFactor_189 : decode cX7_readFactor 189 = .ok (.aload_n 0, 1) := by decide +kernel
theorem dX7_readFactor_190 : decode cX7_readFactor 190 = .ok (.getfield 25, 3) := by decide +kernel
theorem dX7_readFactor_193 : decode cX7_readFactor 193 = .ok (.aload_n 0, 1) := by decide +kernel
theorem dX7_readFactor_194 : decode cX7_readFactor 194 = .ok (.getfield 21, 3) := by decide +kernel
theorem dX7_readFactor_197 : decode cX7_readFactor 197 = .ok (.iload_n 3, 1) := by decide +kernel
theorem dX7_readFactor_198 : decode cX7_readFactor 198 = .ok (.invokevirtual 91, 3) := by decide +kernel
theorem dX7_readFactor_201 : decode cX7_readFactor 201 = .ok (.aload_n 0, 1) := by decide +kernel
theorem dX7_readFactor_202 : decode cX7_readFactor 202 = .ok (.getfield 21, 3) := by decide +kernel
theorem dX7_readFactor_205 : decode cX7_readFactor 205 = .ok (.aload_n 0, 1) := by decide +kernel
theorem dX7_readFactor_206 : decode cX7_readFactor 206 = .ok (.getfield 25, 3) := by decide +kernel
theorem dX7_readFactor_209 : decode cX7_readFactor 209 = .ok (.invokevirtual 44, 3) := by decide +kernel
theorem dX7_readFactor_212 : decode cX7_readFactor 212 = .ok (.iconst 1, 1) := by decide +kernel
theorem dX7_readFactor_213 : decode cX7_readFactor 213 = .ok (.ireturn, 1) := by decide +kernel
theorem dX7_readNumber_0 : decode cX7_readNumber 0 = .ok (.aload_n 0, 1) := by decide +kernel
theorem dX7_readNumber_1 : decode cX7_readNumber 1 = .ok (.getfield 36, 3) := by decide +kernel
theorem dX7_readNumber_4 : decode cX7_readNumber 4 = .ok (.aload_n 0, 1) := by decide +kernel
theorem dX7_readNumber_5 : decode cX7_readNumber 5 = .ok (.getfield 28, 3) := by decide +kernel
theorem dX7_readNumber_8 : decode cX7_readNumber 8 = .ok (.iload_n 1, 1) := by decide +kernel
theorem dX7_readNumber_9 : decode cX7_readNumber 9 = .ok (.invokevirtual 95, 3) := by decide +kernel
theorem dX7_readNumber_12 : decode cX7_readNumber 12 = .ok (.istore_n 2, 1) := by decide +kernel
theorem dX7_readNumber_13 : decode cX7_readNumber 13 = .ok (.aload_n 0, 1) := by decide +kernel
theorem dX7_readNumber_14 : decode cX7_readNumber 14 = .ok (.getfield 36, 3) := by decide +kernel
theorem dX7_readNumber_17 : decode cX7_readNumber 17 = .ok (.aload_n 0, 1) := by decide +kernel
theorem dX7_readNumber_18 : decode cX7_readNumber 18 = .ok (.getfield 28, 3) := by decide +kernel
theorem dX7_readNumber_21 : decode cX7_readNumber 21 = .ok (.iload_n 2, 1) := by decide +kernel
theorem dX7_readNumber_22 : decode cX7_readNumber 22 = .ok (.invokevirtual 101, 3) := by decide +kernel
theorem dX7_readNumber_25 : decode cX7_readNumber 25 = .ok (.istore_n 3, 1) := by decide +kernel
theorem dX7_readNumber_26 : decode cX7_readNumber 26 = .ok (.aload_n 0, 1) := by decide +kernel
theorem dX7_readNumber_27 : decode cX7_readNumber 27 = .ok (.dup, 1) := by decide +kernel
theorem dX7_readNumber_28 : decode cX7_readNumber 28 = .ok (.getfield 28, 3) := by decide +kernel
theorem dX7_readNumber_31 : decode cX7_readNumber 31 = .ok (.iload_n 2, 1) := by decide +kernel
theorem dX7_readNumber_32 : decode cX7_readNumber 32 = .ok (.iadd, 1) := by decide +kernel
theorem dX7_readNumber_33 : decode cX7_readNumber 33 = .ok (.putfield 28, 3) := by decide +kernel
theorem dX7_readNumber_36 : decode cX7_readNumber 36 = .ok (.iload_n 3, 1) := by decide +kernel
theorem dX7_readNumber_37 : decode cX7_readNumber 37 = .ok (.ireturn, 1) := by decide +kernel
theorem dX7_peek_0 : decode cX7_peek 0 = .ok (.aload_n 0, 1) := by decide +kernel
theorem dX7_peek_1 : decode cX7_peek 1 = .ok (.getfield 28, 3) := by decide +kernel
theorem dX7_peek_4 : decode cX7_peek 4 = .ok (.aload_n 0, 1) := by decide +kernel
theorem dX7_peek_5 : decode cX7_peek 5 = .ok (.getfield 36, 3) := by decide +kernel
theorem dX7_peek_8 : decode cX7_peek 8 = .ok (.getfield 104, 3) := by decide +kernel
theorem dX7_peek_11 : decode cX7_peek 11 = .ok (.if_icmp .ge 32, 3) := by decide +kernel
theorem dX7_peek_14 : decode cX7_peek 14 = .ok (.aload_n 0, 1) := by decide +kernel
theorem dX7_peek_15 : decode cX7_peek 15 = .ok (.getfield 36, 3) := by decide +kernel
theorem dX7_peek_18 : decode cX7_peek 18 = .ok (.aload_n 0, 1) := by decide +kernel
theorem dX7_peek_19 : decode cX7_peek 19 = .ok (.getfield 28, 3) := by decide +kernel
theorem dX7_peek_22 : decode cX7_peek 22 = .ok (.invokevirtual 107, 3) := by decide +kernel
theorem dX7_peek_25 : decode cX7_peek 25 = .ok (.bipush 32, 2) := by decide +kernel
theorem dX7_peek_27 : decode cX7_peek 27 = .ok (.if_icmp .ne 16, 3) := by decide +kernel
theorem dX7_peek_30 : decode cX7_peek 30 = .ok (.aload_n 0, 1) := by decide +kernel
theorem dX7_peek_31 : decode cX7_peek 31 = .ok (.dup, 1) := by decide +kernel
theorem dX7_peek_32 : decode cX7_peek 32 = .ok (.getfield 28, 3) := by decide +kernel
theorem dX7_peek_35 : decode cX7_peek 35 = .ok (.iconst 1, 1) := by decide +kernel
theorem dX7_peek_36 : decode cX7_peek 36 = .ok (.iadd, 1) := by decide +kernel
theorem dX7_peek_37 : decode cX7_peek 37 = .ok (.putfield 28, 3) := by decide +kernel
theorem dX7_peek_40 : decode cX7_peek 40 = .ok (.goto (-40), 3) := by decide +kernel
theorem dX7_peek_43 : decode cX7_peek 43 = .ok (.aload_n 0, 1) := by decide +kernel
theorem dX7_peek_44 : decode cX7_peek 44 = .ok (.getfield 36, 3) := by decide +kernel
theorem dX7_peek_47 : decode cX7_peek 47 = .ok (.aload_n 0, 1) := by decide +kernel
theorem dX7_peek_48 : decode cX7_peek 48 = .ok (.getfield 28, 3) := by decide +kernel
theorem dX7_peek_51 : decode cX7_peek 51 = .ok (.invokevirtual 107, 3) := by decide +kernel
theorem dX7_peek_54 : decode cX7_peek 54 = .ok (.ireturn, 1) := by decide +kernel
theorem dX8_init_0 : decode cX8_init 0 = .ok (.aload_n 0, 1) := by decide +kernel
theorem dX8_init_1 : decode cX8_init 1 = .ok (.invokespecial 3, 3) := by decide +kernel
theorem dX8_init_4 : decode cX8_init 4 = .ok (.aload_n 0, 1) := by decide +kernel
theorem dX8_init_5 : decode cX8_init 5 = .ok (.bipush 6, 2) := by decide +kernel
theorem dX8_init_7 : decode cX8_init 7 = .ok (.anewarray 9, 3) := by decide +kernel
theorem dX8_init_10 : decode cX8_init 10 = .ok (.putfield 11, 3) := by decide +kernel
theorem dX8_init_13 : decode cX8_init 13 = .ok (.aload_n 0, 1) := by decide +kernel
theorem dX8_init_14 : decode cX8_init 14 = .ok (.iconst 2, 1) := by decide +kernel
theorem dX8_init_15 : decode cX8_init 15 = .ok (.bipush 31, 2) := by decide +kernel
theorem dX8_init_17 : decode cX8_init 17 = .ok (.multianewarray 17 2, 4) := by decide +kernel
theorem dX8_init_21 : decode cX8_init 21 = .ok (.putfield 19, 3) := by decide +kernel
theorem dX8_init_24 : decode cX8_init 24 = .ok (.aload_n 0, 1) := by decide +kernel
theorem dX8_init_25 : decode cX8_init 25 = .ok (.iconst 0, 1) := by decide +kernel
theorem dX8_init_26 : decode cX8_init 26 = .ok (.putfield 22, 3) := by decide +kernel
theorem dX8_init_29 : decode cX8_init 29 = .ok (.iconst 0, 1) := by decide +kernel
theorem dX8_init_30 : decode cX8_init 30 = .ok (.istore_n 1, 1) := by decide +kernel
theorem dX8_init_31 : decode cX8_init 31 = .ok (.iload_n 1, 1) := by decide +kernel
theorem dX8_init_32 : decode cX8_init 32 = .ok (.bipush 6, 2) := by decide +kernel
theorem dX8_init_34 : decode cX8_init 34 = .ok (.if_icmp .ge 22, 3) := by decide +kernel
theorem dX8_init_37 : decode cX8_init 37 = .ok (.aload_n 0, 1) := by decide +kernel
theorem dX8_init_38 : decode cX8_init 38 = .ok (.getfield 11, 3) := by decide +kernel
theorem dX8_init_41 : decode cX8_init 41 = .ok (.iload_n 1, 1) := by decide +kernel
theorem dX8_init_42 : decode cX8_init 42 = .ok (.new 9, 3) := by decide +kernel
theorem dX8_init_45 : decode cX8_init 45 = .ok (.dup, 1) := by decide +kernel
theorem dX8_init_46 : decode cX8_init 46 = .ok (.invokespecial 26, 3) := by decide +kernel
theorem dX8_init_49 : decode cX8_init 49 = .ok (.aastore, 1) := by decide +kernel
theorem dX8_init_50 : decode cX8_init 50 = .ok (.iinc 1 1, 3) := by decide +kernel
theorem dX8_init_53 : decode cX8_init 53 = .ok (.goto (-22), 3) := by decide +kernel
theorem dX8_init_56 : decode cX8_init 56 = .ok (.return_, 1) := by decide +kernel
theorem dX8_copyFrom_0 : decode cX8_copyFrom 0 = .ok (.iconst 0, 1) := by decide +kernel
theorem dX8_copyFrom_1 : decode cX8_copyFrom 1 = .ok (.istore_n 2, 1) := by decide +kernel
theorem dX8_copyFrom_2 : decode cX8_copyFrom 2 = .ok (.iload_n 2, 1) := by decide +kernel
theorem dX8_copyFrom_3 : decode cX8_copyFrom 3 = .ok (.bipush 6, 2) := by decide +kernel
theorem dX8_copyFrom_5 : decode cX8_copyFrom 5 = .ok (.if_icmp .ge 24, 3) := by decide +kernel
theorem dX8_copyFrom_8 : decode cX8_copyFrom 8 = .ok (.aload_n 0, 1) := by decide +kernel
theorem dX8_copyFrom_9 : decode cX8_copyFrom 9 = .ok (.getfield 11, 3) := by decide +kernel
theorem dX8_copyFrom_12 : decode cX8_copyFrom 12 = .ok (.iload_n 2, 1) := by decide +kernel
theorem dX8_copyFrom_13 : decode cX8_copyFrom 13 = .ok (.aaload, 1) := by decide +kernel
theorem dX8_copyFrom_14 : decode cX8_copyFrom 14 = .ok (.aload_n 1, 1) := by decide +kernel
theorem dX8_copyFrom_15 : decode cX8_copyFrom 15 = .ok (.getfield 11, 3) := by decide +kernel
theorem dX8_copyFrom_18 : decode cX8_copyFrom 18 = .ok (.iload_n 2, 1) := by decide +kernel
theorem dX8_copyFrom_19 : decode cX8_copyFrom 19 = .ok (.aaload, 1) := by decide +kernel
theorem dX8_copyFrom_20 : decode cX8_copyFrom 20 = .ok (.invokevirtual 27, 3) := by decide +kernel
theorem dX8_copyFrom_23 : decode cX8_copyFrom 23 = .ok (.iinc 2 1, 3) := by decide +kernel
theorem dX8_copyFrom_26 : decode cX8_copyFrom 26 = .ok (.goto (-24), 3) := by decide +kernel
theorem dX8_copyFrom_29 : decode cX8_copyFrom 29 = .ok (.iconst 0, 1) := by decide +kernel
theorem dX8_copyFrom_30 : decode cX8_copyFrom 30 = .ok (.istore_n 2, 1) := by decide +kernel
theorem dX8_copyFrom_31 : decode cX8_copyFrom 31 = .ok (.iload_n 2, 1) := by decide +kernel
theorem dX8_copyFrom_32 : decode cX8_copyFrom 32 = .ok (.iconst 2, 1) := by decide +kernel
theorem dX8_copyFrom_33 : decode cX8_copyFrom 33 = .ok (.if_icmp .ge 28, 3) := by decide +kernel
theorem dX8_copyFrom_36 : decode cX8_copyFrom 36 = .ok (.aload_n 1, 1) := by decide +kernel
theorem dX8_copyFrom_37 : decode cX8_copyFrom 37 = .ok (.getfield 19, 3) := by decide +kernel
theorem dX8_copyFrom_40 : decode cX8_copyFrom 40 = .ok (.iload_n 2, 1) := by decide +kernel
theorem dX8_copyFrom_41 : decode cX8_copyFrom 41 = .ok (.aaload, 1) := by decide +kernel
theorem dX8_copyFrom_42 : decode cX8_copyFrom 42 = .ok (.iconst 0, 1) := by decide +kernel
theorem dX8_copyFrom_43 : decode cX8_copyFrom 43 = .ok (.aload_n 0, 1) := by decide +kernel
theorem dX8_copyFrom_44 : decode cX8_copyFrom 44 = .ok (.getfield 19, 3) := by decide +kernel
theorem dX8_copyFrom_47 : decode cX8_copyFrom 47 = .ok (.iload_n 2, 1) := by decide +kernel
theorem dX8_copyFrom_48 : decode cX8_copyFrom 48 = .ok (.aaload, 1) := by decide +kernel
theorem dX8_copyFrom_49 : decode cX8_copyFrom 49 = .ok (.iconst 0, 1) := by decide +kernel
theorem dX8_copyFrom_50 : decode cX8_copyFrom 50 = .ok (.bipush 31, 2) := by decide +kernel
theorem dX8_copyFrom_52 : decode cX8_copyFrom 52 = .ok (.invokestatic 31, 3) := by decide +kernel
theorem dX8_copyFrom_55 : decode cX8_copyFrom 55 = .ok (.iinc 2 1, 3) := by decide +kernel
theorem dX8_copyFrom_58 : decode cX8_copyFrom 58 = .ok (.goto (-27), 3) := by decide +kernel
theorem dX8_copyFrom_61 : decode cX8_copyFrom 61 = .ok (.aload_n 0, 1) := by decide +kernel
theorem dX8_copyFrom_62 : decode cX8_copyFrom 62 = .ok (.aload_n 1, 1) := by decide +kernel
theorem dX8_copyFrom_63 : decode cX8_copyFrom 63 = .ok (.getfield 22, 3) := by decide +kernel
theorem dX8_copyFrom_66 : decode cX8_copyFrom 66 = .ok (.putfield 22, 3) := by decide +kernel
theorem dX8_copyFrom_69 : decode cX8_copyFrom 69 = .ok (.return_, 1) := by decide +kernel
theorem dX9_init_0 : decode cX9_init 0 = .ok (.aload_n 0, 1) := by decide +kernel
theorem dX9_init_1 : decode cX9_init 1 = .ok (.invokespecial 3, 3) := by decide +kernel
theorem dX9_init_4 : decode cX9_init 4 = .ok (.aload_n 0, 1) := by decide +kernel
theorem dX9_init_5 : decode cX9_init 5 = .ok (.bipush 120, 2) := by decide +kernel
theorem dX9_init_7 : decode cX9_init 7 = .ok (.newarray .int, 2) := by decide +kernel
theorem dX9_init_9 : decode cX9_init 9 = .ok (.putfield 9, 3) := by decide +kernel
theorem dX9_init_12 : decode cX9_init 12 = .ok (.aload_n 0, 1) := by decide +kernel
theorem dX9_init_13 : decode cX9_init 13 = .ok (.iconst 0, 1) := by decide +kernel
theorem dX9_init_14 : decode cX9_init 14 = .ok (.putfield 15, 3) := by decide +kernel
theorem dX9_init_17 : decode cX9_init 17 = .ok (.aload_n 0, 1) := by decide +kernel
theorem dX9_init_18 : decode cX9_init 18 = .ok (.iconst 0, 1) := by decide +kernel
theorem dX9_init_19 : decode cX9_init 19 = .ok (.putfield 19, 3) := by decide +kernel
theorem dX9_init_22 : decode cX9_init 22 = .ok (.aload_n 0, 1) := by decide +kernel
theorem dX9_init_23 : decode cX9_init 23 = .ok (.iconst 0, 1) := by decide +kernel
theorem dX9_init_24 : decode cX9_init 24 = .ok (.putfield 22, 3) := by decide +kernel
theorem dX9_init_27 : decode cX9_init 27 = .ok (.return_, 1) := by decide +kernel
theorem dX9_append_0 : decode cX9_append 0 = .ok (.aload_n 0, 1) := by decide +kernel
theorem dX9_append_1 : decode cX9_append 1 = .ok (.getfield 15, 3) := by decide +kernel
theorem dX9_append_4 : decode cX9_append 4 = .ok (.bipush 120, 2) := by decide +kernel
theorem dX9_append_6 : decode cX9_append 6 = .ok (.if_icmp .ge 23, 3) := by decide +kernel
theorem dX9_append_9 : decode cX9_append 9 = .ok (.aload_n 0, 1) := by decide +kernel
theorem dX9_append_10 : decode cX9_append 10 = .ok (.getfield 9, 3) := by decide +kernel
theorem dX9_append_13 : decode cX9_append 13 = .ok (.aload_n 0, 1) := by decide +kernel
theorem dX9_append_14 : decode cX9_append 14 = .ok (.getfield 15, 3) := by decide +kernel
theorem dX9_append_17 : decode cX9_append 17 = .ok (.iload_n 1, 1) := by decide +kernel
theorem dX9_append_18 : decode cX9_append 18 = .ok (.iastore, 1) := by decide +kernel
theorem dX9_append_19 : decode cX9_append 19 = .ok (.aload_n 0, 1) := by decide +kernel
theorem dX9_append_20 : decode cX9_append 20 = .ok (.dup, 1) := by decide +kernel
theorem dX9_append_21 : decode cX9_append 21 = .ok (.getfield 15, 3) := by decide +kernel
theorem dX9_append_24 : decode cX9_append 24 = .ok (.iconst 1, 1) := by decide +kernel
theorem dX9_append_25 : decode cX9_append 25 = .ok (.iadd, 1) := by decide +kernel
theorem dX9_append_26 : decode cX9_append 26 = .ok (.putfield 15, 3) := by decide +kernel
theorem dX9_append_29 : decode cX9_append 29 = .ok (.return_, 1) := by decide +kernel
theorem dX9_byteAt_0 : decode cX9_byteAt 0 = .ok (.iload_n 1, 1) := by decide +kernel
theorem dX9_byteAt_1 : decode cX9_byteAt 1 = .ok (.ifCond .lt 26, 3) := by decide +kernel
theorem dX9_byteAt_4 : decode cX9_byteAt 4 = .ok (.iload_n 1, 1) := by decide +kernel
theorem dX9_byteAt_5 : decode cX9_byteAt 5 = .ok (.aload_n 0, 1) := by decide +kernel
theorem dX9_byteAt_6 : decode cX9_byteAt 6 = .ok (.getfield 15, 3) := by decide +kernel
theorem dX9_byteAt_9 : decode cX9_byteAt 9 = .ok (.if_icmp .ge 18, 3) := by decide +kernel
theorem dX9_byteAt_12 : decode cX9_byteAt 12 = .ok (.iload_n 1, 1) := by decide +kernel
theorem dX9_byteAt_13 : decode cX9_byteAt 13 = .ok (.bipush 120, 2) := by decide +kernel
theorem dX9_byteAt_15 : decode cX9_byteAt 15 = .ok (.if_icmp .ge 12, 3) := by decide +kernel
theorem dX9_byteAt_18 : decode cX9_byteAt 18 = .ok (.aload_n 0, 1) := by decide +kernel
theorem dX9_byteAt_19 : decode cX9_byteAt 19 = .ok (.getfield 9, 3) := by decide +kernel
theorem dX9_byteAt_22 : decode cX9_byteAt 22 = .ok (.iload_n 1, 1) := by decide +kernel
theorem dX9_byteAt_23 : decode cX9_byteAt 23 = .ok (.iaload, 1) := by decide +kernel
theorem dX9_byteAt_24 : decode cX9_byteAt 24 = .ok (.goto 4, 3) := by decide +kernel
theorem dX9_byteAt_27 : decode cX9_byteAt 27 = .ok (.iconst (-1), 1) := by decide +kernel
theorem dX9_byteAt_28 : decode cX9_byteAt 28 = .ok (.ireturn, 1) := by decide +kernel
theorem dX9_isDigit_0 : decode cX9_isDigit 0 = .ok (.aload_n 0, 1) := by decide +kernel
theorem dX9_isDigit_1 : decode cX9_isDigit 1 = .ok (.iload_n 1, 1) := by decide +kernel
theorem dX9_isDigit_2 : decode cX9_isDigit 2 = .ok (.invokevirtual 25, 3) := by decide +kernel
theorem dX9_isDigit_5 : decode cX9_isDigit 5 = .ok (.istore_n 2, 1) := by decide +kernel
theorem dX9_isDigit_6 : decode cX9_isDigit 6 = .ok (.iload_n 2, 1) := by decide +kernel
theorem dX9_isDigit_7 : decode cX9_isDigit 7 = .ok (.bipush 48, 2) := by decide +kernel
theorem dX9_isDigit_9 : decode cX9_isDigit 9 = .ok (.if_icmp .lt 13, 3) := by decide +kernel
theorem dX9_isDigit_12 : decode cX9_isDigit 12 = .ok (.iload_n 2, 1) := by decide +kernel
theorem dX9_isDigit_13 : decode cX9_isDigit 13 = .ok (.bipush 57, 2) := by decide +kernel
theorem dX9_isDigit_15 : decode cX9_isDigit 15 = .ok (.if_icmp .gt 7, 3) := by decide +kernel
theorem dX9_isDigit_18 : decode cX9_isDigit 18 = .ok (.iconst 1, 1) := by decide +kernel
theorem dX9_isDigit_19 : decode cX9_isDigit 19 = .ok (.goto 4, 3) := by decide +kernel
theorem dX9_isDigit_22 : decode cX9_isDigit 22 = .ok (.iconst 0, 1) := by decide +kernel
theorem dX9_isDigit_23 : decode cX9_isDigit 23 = .ok (.ireturn, 1) := by decide +kernel
theorem dX9_fault_0 : decode cX9_fault 0 = .ok (.aload_n 0, 1) := by decide +kernel
theorem dX9_fault_1 : decode cX9_fault 1 = .ok (.iconst 0, 1) := by decide +kernel
theorem dX9_fault_2 : decode cX9_fault 2 = .ok (.putfield 19, 3) := by decide +kernel
theorem dX9_fault_5 : decode cX9_fault 5 = .ok (.aload_n 0, 1) := by decide +kernel
theorem dX9_fault_6 : decode cX9_fault 6 = .ok (.iconst 0, 1) := by decide +kernel
theorem dX9_fault_7 : decode cX9_fault 7 = .ok (.putfield 22, 3) := by decide +kernel
theorem dX9_fault_10 : decode cX9_fault 10 = .ok (.iconst 0, 1) := by decide +kernel
theorem dX9_fault_11 : decode cX9_fault 11 = .ok (.istore_n 1, 1) := by decide +kernel
theorem dX9_fault_12 : decode cX9_fault 12 = .ok (.iconst 0, 1) := by decide +kernel
theorem dX9_fault_13 : decode cX9_fault 13 = .ok (.istore_n 2, 1) := by decide +kernel
theorem dX9_fault_14 : decode cX9_fault 14 = .ok (.iload_n 2, 1) := by decide +kernel
theorem dX9_fault_15 : decode cX9_fault 15 = .ok (.bipush 120, 2) := by decide +kernel
theorem dX9_fault_17 : decode cX9_fault 17 = .ok (.if_icmp .ge 49, 3) := by decide +kernel
theorem dX9_fault_20 : decode cX9_fault 20 = .ok (.iload_n 1, 1) := by decide +kernel
theorem dX9_fault_21 : decode cX9_fault 21 = .ok (.aload_n 0, 1) := by decide +kernel
theorem dX9_fault_22 : decode cX9_fault 22 = .ok (.getfield 15, 3) := by decide +kernel
theorem dX9_fault_25 : decode cX9_fault 25 = .ok (.if_icmp .ge 41, 3) := by decide +kernel
theorem dX9_fault_28 : decode cX9_fault 28 = .ok (.aload_n 0, 1) := by decide +kernel
theorem dX9_fault_29 : decode cX9_fault 29 = .ok (.iload_n 1, 1) := by decide +kernel
theorem dX9_fault_30 : decode cX9_fault 30 = .ok (.invokevirtual 25, 3) := by decide +kernel
theorem dX9_fault_33 : decode cX9_fault 33 = .ok (.bipush 32, 2) := by decide +kernel
theorem dX9_fault_35 : decode cX9_fault 35 = .ok (.if_icmp .ne 9, 3) := by decide +kernel
theorem dX9_fault_38 : decode cX9_fault 38 = .ok (.iload_n 1, 1) := by decide +kernel
theorem dX9_fault_39 : decode cX9_fault 39 = .ok (.iconst 1, 1) := by decide +kernel
theorem dX9_fault_40 : decode cX9_fault 40 = .ok (.iadd, 1) := by decide +kernel
theorem dX9_fault_41 : decode cX9_fault 41 = .ok (.goto 8, 3) := by decide +kernel
theorem dX9_fault_44 : decode cX9_fault 44 = .ok (.aload_n 0, 1) := by decide +kernel
theorem dX9_fault_45 : decode cX9_fault 45 = .ok (.iload_n 1, 1) := by decide +kernel
theorem dX9_fault_46 : decode cX9_fault 46 = .ok (.invokevirtual 29, 3) := by decide +kernel
theorem dX9_fault_49 : decode cX9_fault 49 = .ok (.istore_n 3, 1) := by decide +kernel
theorem dX9_fault_50 : decode cX9_fault 50 = .ok (.iload_n 3, 1) := by decide +kernel
theorem dX9_fault_51 : decode cX9_fault 51 = .ok (.ifCond .ge 7, 3) := by decide +kernel
theorem dX9_fault_54 : decode cX9_fault 54 = .ok (.iconst (-1), 1) := by decide +kernel
theorem dX9_fault_55 : decode cX9_fault 55 = .ok (.iload_n 3, 1) := by decide +kernel
theorem dX9_fault_56 : decode cX9_fault 56 = .ok (.isub, 1) := by decide +kernel
theorem dX9_fault_57 : decode cX9_fault 57 = .ok (.ireturn, 1) := by decide +kernel
theorem dX9_fault_58 : decode cX9_fault 58 = .ok (.iload_n 3, 1) := by decide +kernel
theorem dX9_fault_59 : decode cX9_fault 59 = .ok (.istore_n 1, 1) := by decide +kernel
theorem dX9_fault_60 : decode cX9_fault 60 = .ok (.iinc 2 1, 3) := by decide +kernel
theorem dX9_fault_63 : decode cX9_fault 63 = .ok (.goto (-49), 3) := by decide +kernel
theorem dX9_fault_66 : decode cX9_fault 66 = .ok (.aload_n 0, 1) := by decide +kernel
theorem dX9_fault_67 : decode cX9_fault 67 = .ok (.getfield 19, 3) := by decide +kernel
theorem dX9_fault_70 : decode cX9_fault 70 = .ok (.iconst 2, 1) := by decide +kernel
theorem dX9_fault_71 : decode cX9_fault 71 = .ok (.if_icmp .eq 11, 3) := by decide +kernel
theorem dX9_fault_74 : decode cX9_fault 74 = .ok (.aload_n 0, 1) := by decide +kernel
theorem dX9_fault_75 : decode cX9_fault 75 = .ok (.getfield 19, 3) := by decide +kernel
theorem dX9_fault_78 : decode cX9_fault 78 = .ok (.iconst 4, 1) := by decide +kernel
theorem dX9_fault_79 : decode cX9_fault 79 = .ok (.if_icmp .ne 14, 3) := by decide +kernel
theorem dX9_fault_82 : decode cX9_fault 82 = .ok (.aload_n 0, 1) := by decide +kernel
theorem dX9_fault_83 : decode cX9_fault 83 = .ok (.getfield 22, 3) := by decide +kernel
theorem dX9_fault_86 : decode cX9_fault 86 = .ok (.ifCond .ne 7, 3) := by decide +kernel
theorem dX9_fault_89 : decode cX9_fault 89 = .ok (.iconst 1, 1) := by decide +kernel
theorem dX9_fault_90 : decode cX9_fault 90 = .ok (.goto 4, 3) := by decide +kernel
theorem dX9_fault_93 : decode cX9_fault 93 = .ok (.iconst 0, 1) := by decide +kernel
theorem dX9_fault_94 : decode cX9_fault 94 = .ok (.istore_n 2, 1) := by decide +kernel
theorem dX9_fault_95 : decode cX9_fault 95 = .ok (.iload_n 2, 1) := by decide +kernel
theorem dX9_fault_96 : decode cX9_fault 96 = .ok (.ifCond .eq 7, 3) := by decide +kernel
theorem dX9_fault_99 : decode cX9_fault 99 = .ok (.iconst (-1), 1) := by decide +kernel
theorem dX9_fault_100 : decode cX9_fault 100 = .ok (.goto 7, 3) := by decide +kernel
theorem dX9_fault_103 : decode cX9_fault 103 = .ok (.aload_n 0, 1) := by decide +kernel
theorem dX9_fault_104 : decode cX9_fault 104 = .ok (.getfield 15, 3) := by decide +kernel
theorem dX9_fault_107 : decode cX9_fault 107 = .ok (.ireturn, 1) := by decide +kernel
theorem dX9_pass_0 : decode cX9_pass 0 = .ok (.aload_n 0, 1) := by decide +kernel
theorem dX9_pass_1 : decode cX9_pass 1 = .ok (.getfield 19, 3) := by decide +kernel
theorem dX9_pass_4 : decode cX9_pass 4 = .ok (.tableswitch 69 0 3 #[32, 57, 69, 63], 32) := by decide +kernel
theorem dX9_pass_36 : decode cX9_pass 36 = .ok (.aload_n 0, 1) := by decide +kernel
theorem dX9_pass_37 : decode cX9_pass 37 = .ok (.iload_n 1, 1) := by decide +kernel
theorem dX9_pass_38 : decode cX9_pass 38 = .ok (.invokevirtual 25, 3) := by decide +kernel
theorem dX9_pass_41 : decode cX9_pass 41 = .ok (.bipush 45, 2) := by decide +kernel
theorem dX9_pass_43 : decode cX9_pass 43 = .ok (.if_icmp .ne 12, 3) := by decide +kernel
theorem dX9_pass_46 : decode cX9_pass 46 = .ok (.aload_n 0, 1) := by decide +kernel
theorem dX9_pass_47 : decode cX9_pass 47 = .ok (.iconst 1, 1) := by decide +kernel
theorem dX9_pass_48 : decode cX9_pass 48 = .ok (.putfield 19, 3) := by decide +kernel
theorem dX9_pass_51 : decode cX9_pass 51 = .ok (.iload_n 1, 1) := by decide +kernel
theorem dX9_pass_52 : decode cX9_pass 52 = .ok (.iconst 1, 1) := by decide +kernel
theorem dX9_pass_53 : decode cX9_pass 53 = .ok (.iadd, 1) := by decide +kernel
theorem dX9_pass_54 : decode cX9_pass 54 = .ok (.ireturn, 1) := by decide +kernel
theorem dX9_pass_55 : decode cX9_pass 55 = .ok (.aload_n 0, 1) := by decide +kernel
theorem dX9_pass_56 : decode cX9_pass 56 = .ok (.iload_n 1, 1) := by decide +kernel
theorem dX9_pass_57 : decode cX9_pass 57 = .ok (.invokevirtual 32, 3) := by decide +kernel
theorem dX9_pass_60 : decode cX9_pass 60 = .ok (.ireturn, 1) := by decide +kernel
theorem dX9_pass_61 : decode cX9_pass 61 = .ok (.aload_n 0, 1) := by decide +kernel
theorem dX9_pass_62 : decode cX9_pass 62 = .ok (.iload_n 1, 1) := by decide +kernel
theorem dX9_pass_63 : decode cX9_pass 63 = .ok (.invokevirtual 32, 3) := by decide +kernel
theorem dX9_pass_66 : decode cX9_pass 66 = .ok (.ireturn, 1) := by decide +kernel
theorem dX9_pass_67 : decode cX9_pass 67 = .ok (.aload_n 0, 1) := by decide +kernel
theorem dX9_pass_68 : decode cX9_pass 68 = .ok (.iload_n 1, 1) := by decide +kernel
theorem dX9_pass_69 : decode cX9_pass 69 = .ok (.invokevirtual 35, 3) := by decide +kernel
theorem dX9_pass_72 : decode cX9_pass 72 = .ok (.ireturn, 1) := by decide +kernel
theorem dX9_pass_73 : decode cX9_pass 73 = .ok (.aload_n 0, 1) := by decide +kernel
theorem dX9_pass_74 : decode cX9_pass 74 = .ok (.iload_n 1, 1) := by decide +kernel
theorem dX9_pass_75 : decode cX9_pass 75 = .ok (.invokevirtual 38, 3) := by decide +kernel
theorem dX9_pass_78 : decode cX9_pass 78 = .ok (.ireturn, 1) := by decide +kernel
theorem dX9_passOperand_0 : decode cX9_passOperand 0 = .ok (.aload_n 0, 1) := by decide +kernel
theorem dX9_passOperand_1 : decode cX9_passOperand 1 = .ok (.iload_n 1, 1) := by decide +kernel
theorem dX9_passOperand_2 : decode cX9_passOperand 2 = .ok (.invokevirtual 25, 3) := by decide +kernel
theorem dX9_passOperand_5 : decode cX9_passOperand 5 = .ok (.istore_n 2, 1) := by decide +kernel
theorem dX9_passOperand_6 : decode cX9_passOperand 6 = .ok (.iload_n 2, 1) := by decide +kernel
theorem dX9_passOperand_7 : decode cX9_passOperand 7 = .ok (.bipush 40, 2) := by decide +kernel
theorem dX9_passOperand_9 : decode cX9_passOperand 9 = .ok (.if_icmp .ne 35, 3) := by decide +kernel
theorem dX9_passOperand_12 : decode cX9_passOperand 12 = .ok (.aload_n 0, 1) := by decide +kernel
theorem dX9_passOperand_13 : decode cX9_passOperand 13 = .ok (.getfield 22, 3) := by decide +kernel
theorem dX9_passOperand_16 : decode cX9_passOperand 16 = .ok (.bipush 8, 2) := by decide +kernel
theorem dX9_passOperand_18 : decode cX9_passOperand 18 = .ok (.if_icmp .lt 7, 3) := by decide +kernel
theorem dX9_passOperand_21 : decode cX9_passOperand 21 = .ok (.iconst (-1), 1) := by decide +kernel
theorem dX9_passOperand_22 : decode cX9_passOperand 22 = .ok (.iload_n 1, 1) := by decide +kernel
theorem dX9_passOperand_23 : decode cX9_passOperand 23 = .ok (.isub, 1) := by decide +kernel
theorem dX9_passOperand_24 : decode cX9_passOperand 24 = .ok (.ireturn, 1) := by decide +kernel
theorem dX9_passOperand_25 : decode cX9_passOperand 25 = .ok (.aload_n 0, 1) := by decide +kernel
theorem dX9_passOperand_26 : decode cX9_passOperand 26 = .ok (.dup, 1) := by decide +kernel
theorem dX9_passOperand_27 : decode cX9_passOperand 27 = .ok (.getfield 22, 3) := by decide +kernel
theorem dX9_passOperand_30 : decode cX9_passOperand 30 = .ok (.iconst 1, 1) := by decide +kernel
theorem dX9_passOperand_31 : decode cX9_passOperand 31 = .ok (.iadd, 1) := by decide +kernel
theorem dX9_passOperand_32 : decode cX9_passOperand 32 = .ok (.putfield 22, 3) := by decide +kernel
theorem dX9_passOperand_35 : decode cX9_passOperand 35 = .ok (.aload_n 0, 1) := by decide +kernel
theorem dX9_passOperand_36 : decode cX9_passOperand 36 = .ok (.iconst 0, 1) := by decide +kernel
theorem dX9_passOperand_37 : decode cX9_passOperand 37 = .ok (.putfield 19, 3) := by decide +kernel
theorem dX9_passOperand_40 : decode cX9_passOperand 40 = .ok (.iload_n 1, 1) := by decide +kernel
theorem dX9_passOperand_41 : decode cX9_passOperand 41 = .ok (.iconst 1, 1) := by decide +kernel
theorem dX9_passOperand_42 : decode cX9_passOperand 42 = .ok (.iadd, 1) := by decide +kernel
theorem dX9_passOperand_43 : decode cX9_passOperand 43 = .ok (.ireturn, 1) := by decide +kernel
theorem dX9_passOperand_44 : decode cX9_passOperand 44 = .ok (.iload_n 2, 1) := by decide +kernel
theorem dX9_passOperand_45 : decode cX9_passOperand 45 = .ok (.bipush 120, 2) := by decide +kernel
theorem dX9_passOperand_47 : decode cX9_passOperand 47 = .ok (.if_icmp .eq 9, 3) := by decide +kernel
theorem dX9_passOperand_50 : decode cX9_passOperand 50 = .ok (.iload_n 2, 1) := by decide +kernel
theorem dX9_passOperand_51 : decode cX9_passOperand 51 = .ok (.bipush 100, 2) := by decide +kernel
theorem dX9_passOperand_53 : decode cX9_passOperand 53 = .ok (.if_icmp .ne 12, 3) := by decide +kernel
theorem dX9_passOperand_56 : decode cX9_passOperand 56 = .ok (.aload_n 0, 1) := by decide +kernel
theorem dX9_passOperand_57 : decode cX9_passOperand 57 = .ok (.iconst 2, 1) := by decide +kernel
theorem dX9_passOperand_58 : decode cX9_passOperand 58 = .ok (.putfield 19, 3) := by decide +kernel
theorem dX9_passOperand_61 : decode cX9_passOperand 61 = .ok (.iload_n 1, 1) := by decide +kernel
theorem dX9_passOperand_62 : decode cX9_passOperand 62 = .ok (.iconst 1, 1) := by decide +kernel
theorem dX9_passOperand_63 : decode cX9_passOperand 63 = .ok (.iadd, 1) := by decide +kernel
theorem dX9_passOperand_64 : decode cX9_passOperand 64 = .ok (.ireturn, 1) := by decide +kernel
theorem dX9_passOperand_65 : decode cX9_passOperand 65 = .ok (.aload_n 0, 1) := by decide +kernel
theorem dX9_passOperand_66 : decode cX9_passOperand 66 = .ok (.iload_n 1, 1) := by decide +kernel
theorem dX9_passOperand_67 : decode cX9_passOperand 67 = .ok (.iconst 5, 1) := by decide +kernel
theorem dX9_passOperand_68 : decode cX9_passOperand 68 = .ok (.invokevirtual 41, 3) := by decide +kernel
theorem dX9_passOperand_71 : decode cX9_passOperand 71 = .ok (.istore_n 3, 1) := by decide +kernel
theorem dX9_passOperand_72 : decode cX9_passOperand 72 = .ok (.iload_n 3, 1) := by decide +kernel
theorem dX9_passOperand_73 : decode cX9_passOperand 73 = .ok (.ifCond .ne 7, 3) := by decide +kernel
theorem dX9_passOperand_76 : decode cX9_passOperand 76 = .ok (.iconst (-1), 1) := by decide +kernel
theorem dX9_passOperand_77 : decode cX9_passOperand 77 = .ok (.iload_n 1, 1) := by decide +kernel
theorem dX9_passOperand_78 : decode cX9_passOperand 78 = .ok (.isub, 1) := by decide +kernel
theorem dX9_passOperand_79 : decode cX9_passOperand 79 = .ok (.ireturn, 1) := by decide +kernel
theorem dX9_passOperand_80 : decode cX9_passOperand 80 = .ok (.iload_n 3, 1) := by decide +kernel
theorem dX9_passOperand_81 : decode cX9_passOperand 81 = .ok (.iconst 5, 1) := by decide +kernel
theorem dX9_passOperand_82 : decode cX9_passOperand 82 = .ok (.if_icmp .ne 9, 3) := by decide +kernel
theorem dX9_passOperand_85 : decode cX9_passOperand 85 = .ok (.iconst (-1), 1) := by decide +kernel
theorem dX9_passOperand_86 : decode cX9_passOperand 86 = .ok (.iload_n 1, 1) := by decide +kernel
theorem dX9_passOperand_87 : decode cX9_passOperand 87 = .ok (.iconst 4, 1) := by decide +kernel
theorem dX9_passOperand_88 : decode cX9_passOperand 88 = .ok (.iadd, 1) := by decide +kernel
theorem dX9_passOperand_89 : decode cX9_passOperand 89 = .ok (.isub, 1) := by decide +kernel
theorem dX9_passOperand_90 : decode cX9_passOperand 90 = .ok (.ireturn, 1) := by decide +kernel
theorem dX9_passOperand_91 : decode cX9_passOperand 91 = .ok (.aload_n 0, 1) := by decide +kernel
theorem dX9_passOperand_92 : decode cX9_passOperand 92 = .ok (.iconst 2, 1) := by decide +kernel
theorem dX9_passOperand_93 : decode cX9_passOperand 93 = .ok (.putfield 19, 3) := by decide +kernel
theorem dX9_passOperand_96 : decode cX9_passOperand 96 = .ok (.iload_n 1, 1) := by decide +kernel
theorem dX9_passOperand_97 : decode cX9_passOperand 97 = .ok (.iload_n 3, 1) := by decide +kernel
theorem dX9_passOperand_98 : decode cX9_passOperand 98 = .ok (.iadd, 1) := by decide +kernel
theorem dX9_passOperand_99 : decode cX9_passOperand 99 = .ok (.ireturn, 1) := by decide +kernel
theorem dX9_passExponent_0 : decode cX9_passExponent 0 = .ok (.aload_n 0, 1) := by decide +kernel
theorem dX9_passExponent_1 : decode cX9_passExponent 1 = .ok (.iload_n 1, 1) := by decide +kernel
theorem dX9_passExponent_2 : decode cX9_passExponent 2 = .ok (.iconst 3, 1) := by decide +kernel
theorem dX9_passExponent_3 : decode cX9_passExponent 3 = .ok (.invokevirtual 41, 3) := by decide +kernel
theorem dX9_passExponent_6 : decode cX9_passExponent 6 = .ok (.istore_n 2, 1) := by decide +kernel
theorem dX9_passExponent_7 : decode cX9_passExponent 7 = .ok (.iload_n 2, 1) := by decide +kernel
theorem dX9_passExponent_8 : decode cX9_passExponent 8 = .ok (.ifCond .ne 7, 3) := by decide +kernel
theorem dX9_passExponent_11 : decode cX9_passExponent 11 = .ok (.iconst (-1), 1) := by decide +kernel
theorem dX9_passExponent_12 : decode cX9_passExponent 12 = .ok (.iload_n 1, 1) := by decide +kernel
theorem dX9_passExponent_13 : decode cX9_passExponent 13 = .ok (.isub, 1) := by decide +kernel
theorem dX9_passExponent_14 : decode cX9_passExponent 14 = .ok (.ireturn, 1) := by decide +kernel
theorem dX9_passExponent_15 : decode cX9_passExponent 15 = .ok (.iload_n 2, 1) := by decide +kernel
theorem dX9_passExponent_16 : decode cX9_passExponent 16 = .ok (.iconst 3, 1) := by decide +kernel
theorem dX9_passExponent_17 : decode cX9_passExponent 17 = .ok (.if_icmp .ne 9, 3) := by decide +kernel
theorem dX9_passExponent_20 : decode cX9_passExponent 20 = .ok (.iconst (-1), 1) := by decide +kernel
theorem dX9_passExponent_21 : decode cX9_passExponent 21 = .ok (.iload_n 1, 1) := by decide +kernel
theorem dX9_passExponent_22 : decode cX9_passExponent 22 = .ok (.iconst 2, 1) := by decide +kernel
theorem dX9_passExponent_23 : decode cX9_passExponent 23 = .ok (.iadd, 1) := by decide +kernel
theorem dX9_passExponent_24 : decode cX9_passExponent 24 = .ok (.isub, 1) := by decide +kernel
theorem dX9_passExponent_25 : decode cX9_passExponent 25 = .ok (.ireturn, 1) := by decide +kernel
theorem dX9_passExponent_26 : decode cX9_passExponent 26 = .ok (.aload_n 0, 1) := by decide +kernel
theorem dX9_passExponent_27 : decode cX9_passExponent 27 = .ok (.iload_n 1, 1) := by decide +kernel
theorem dX9_passExponent_28 : decode cX9_passExponent 28 = .ok (.iload_n 2, 1) := by decide +kernel
theorem dX9_passExponent_29 : decode cX9_passExponent 29 = .ok (.invokevirtual 45, 3) := by decide +kernel
theorem dX9_passExponent_32 : decode cX9_passExponent 32 = .ok (.bipush 12, 2) := by decide +kernel
theorem dX9_passExponent_34 : decode cX9_passExponent 34 = .ok (.if_icmp .le 7, 3) := by decide +kernel
theorem dX9_passExponent_37 : decode cX9_passExponent 37 = .ok (.iconst (-1), 1) := by decide +kernel
theorem dX9_passExponent_38 : decode cX9_passExponent 38 = .ok (.iload_n 1, 1) := by decide +kernel
theorem dX9_passExponent_39 : decode cX9_passExponent 39 = .ok (.isub, 1) := by decide +kernel
theorem dX9_passExponent_40 : decode cX9_passExponent 40 = .ok (.ireturn, 1) := by decide +kernel
theorem dX9_passExponent_41 : decode cX9_passExponent 41 = .ok (.aload_n 0, 1) := by decide +kernel
theorem dX9_passExponent_42 : decode cX9_passExponent 42 = .ok (.iconst 4, 1) := by decide +kernel
theorem dX9_passExponent_43 : decode cX9_passExponent 43 = .ok (.putfield 19, 3) := by decide +kernel
theorem dX9_passExponent_46 : decode cX9_passExponent 46 = .ok (.iload_n 1, 1) := by decide +kernel
theorem dX9_passExponent_47 : decode cX9_passExponent 47 = .ok (.iload_n 2, 1) := by decide +kernel
theorem dX9_passExponent_48 : decode cX9_passExponent 48 = .ok (.iadd, 1) := by decide +kernel
theorem dX9_passExponent_49 : decode cX9_passExponent 49 = .ok (.ireturn, 1) := by decide +kernel
theorem dX9_passLink_0 : decode cX9_passLink 0 = .ok (.aload_n 0, 1) := by decide +kernel
theorem dX9_passLink_1 : decode cX9_passLink 1 = .ok (.iload_n 1, 1) := by decide +kernel
theorem dX9_passLink_2 : decode cX9_passLink 2 = .ok (.invokevirtual 25, 3) := by decide +kernel
theorem dX9_passLink_5 : decode cX9_passLink 5 = .ok (.istore_n 2, 1) := by decide +kernel
theorem dX9_passLink_6 : decode cX9_passLink 6 = .ok (.iload_n 2, 1) := by decide +kernel
theorem dX9_passLink_7 : decode cX9_passLink 7 = .ok (.bipush 94, 2) := by decide +kernel
theorem dX9_passLink_9 : decode cX9_passLink 9 = .ok (.if_icmp .ne 19, 3) := by decide +kernel
theorem dX9_passLink_12 : decode cX9_passLink 12 = .ok (.aload_n 0, 1) := by decide +kernel
theorem dX9_passLink_13 : decode cX9_passLink 13 = .ok (.getfield 19, 3) := by decide +kernel
theorem dX9_passLink_16 : decode cX9_passLink 16 = .ok (.iconst 2, 1) := by decide +kernel
theorem dX9_passLink_17 : decode cX9_passLink 17 = .ok (.if_icmp .ne 11, 3) := by decide +kernel
theorem dX9_passLink_20 : decode cX9_passLink 20 = .ok (.aload_n 0, 1) := by decide +kernel
theorem dX9_passLink_21 : decode cX9_passLink 21 = .ok (.iconst 3, 1) := by decide +kernel
theorem dX9_passLink_22 : decode cX9_passLink 22 = .ok (.putfield 19, 3) := by decide +kernel
theorem dX9_passLink_25 : decode cX9_passLink 25 = .ok (.goto 64, 3) := by decide +kernel
theorem dX9_passLink_28 : decode cX9_passLink 28 = .ok (.iload_n 2, 1) := by decide +kernel
theorem dX9_passLink_29 : decode cX9_passLink 29 = .ok (.bipush 43, 2) := by decide +kernel
theorem dX9_passLink_31 : decode cX9_passLink 31 = .ok (.if_icmp .eq 15, 3) := by decide +kernel
theorem dX9_passLink_34 : decode cX9_passLink 34 = .ok (.iload_n 2, 1) := by decide +kernel
theorem dX9_passLink_35 : decode cX9_passLink 35 = .ok (.bipush 45, 2) := by decide +kernel
theorem dX9_passLink_37 : decode cX9_passLink 37 = .ok (.if_icmp .eq 9, 3) := by decide +kernel
theorem dX9_passLink_40 : decode cX9_passLink 40 = .ok (.iload_n 2, 1) := by decide +kernel
theorem dX9_passLink_41 : decode cX9_passLink 41 = .ok (.bipush 42, 2) := by decide +kernel
theorem dX9_passLink_43 : decode cX9_passLink 43 = .ok (.if_icmp .ne 11, 3) := by decide +kernel
theorem dX9_passLink_46 : decode cX9_passLink 46 = .ok (.aload_n 0, 1) := by decide +kernel
theorem dX9_passLink_47 : decode cX9_passLink 47 = .ok (.iconst 1, 1) := by decide +kernel
theorem dX9_passLink_48 : decode cX9_passLink 48 = .ok (.putfield 19, 3) := by decide +kernel
theorem dX9_passLink_51 : decode cX9_passLink 51 = .ok (.goto 38, 3) := by decide +kernel
theorem dX9_passLink_54 : decode cX9_passLink 54 = .ok (.iload_n 2, 1) := by decide +kernel
theorem dX9_passLink_55 : decode cX9_passLink 55 = .ok (.bipush 41, 2) := by decide +kernel
theorem dX9_passLink_57 : decode cX9_passLink 57 = .ok (.if_icmp .ne 28, 3) := by decide +kernel
theorem dX9_passLink_60 : decode cX9_passLink 60 = .ok (.aload_n 0, 1) := by decide +kernel
theorem dX9_passLink_61 : decode cX9_passLink 61 = .ok (.getfield 22, 3) := by decide +kernel
theorem dX9_passLink_64 : decode cX9_passLink 64 = .ok (.ifCond .le 21, 3) := by decide +kernel
theorem dX9_passLink_67 : decode cX9_passLink 67 = .ok (.aload_n 0, 1) := by decide +kernel
theorem dX9_passLink_68 : decode cX9_passLink 68 = .ok (.dup, 1) := by decide +kernel
theorem dX9_passLink_69 : decode cX9_passLink 69 = .ok (.getfield 22, 3) := by decide +kernel
theorem dX9_passLink_72 : decode cX9_passLink 72 = .ok (.iconst 1, 1) := by decide +kernel
theorem dX9_passLink_73 : decode cX9_passLink 73 = .ok (.isub, 1) := by decide +kernel
theorem dX9_passLink_74 : decode cX9_passLink 74 = .ok (.putfield 22, 3) := by decide +kernel
theorem dX9_passLink_77 : decode cX9_passLink 77 = .ok (.aload_n 0, 1) := by decide +kernel
theorem dX9_passLink_78 : decode cX9_passLink 78 = .ok (.iconst 2, 1) := by decide +kernel
theorem dX9_passLink_79 : decode cX9_passLink 79 = .ok (.putfield 19, 3) := by decide +kernel
theorem dX9_passLink_82 : decode cX9_passLink 82 = .ok (.goto 7, 3) := by decide +kernel
theorem dX9_passLink_85 : decode cX9_passLink 85 = .ok (.iconst (-1), 1) := by decide +kernel
theorem dX9_passLink_86 : decode cX9_passLink 86 = .ok (.iload_n 1, 1) := by decide +kernel
theorem dX9_passLink_87 : decode cX9_passLink 87 = .ok (.isub, 1) := by decide +kernel
theorem dX9_passLink_88 : decode cX9_passLink 88 = .ok (.ireturn, 1) := by decide +kernel
theorem dX9_passLink_89 : decode cX9_passLink 89 = .ok (.iload_n 1, 1) := by decide +kernel
theorem dX9_passLink_90 : decode cX9_passLink 90 = .ok (.iconst 1, 1) := by decide +kernel
theorem dX9_passLink_91 : decode cX9_passLink 91 = .ok (.iadd, 1) := by decide +kernel
theorem dX9_passLink_92 : decode cX9_passLink 92 = .ok (.ireturn, 1) := by decide +kernel
theorem dX9_countDigits_0 : decode cX9_countDigits 0 = .ok (.iconst 0, 1) := by decide +kernel
theorem dX9_countDigits_1 : decode cX9_countDigits 1 = .ok (.istore_n 3, 1) := by decide +kernel
theorem dX9_countDigits_2 : decode cX9_countDigits 2 = .ok (.iload_n 3, 1) := by decide +kernel
theorem dX9_countDigits_3 : decode cX9_countDigits 3 = .ok (.iload_n 2, 1) := by decide +kernel
theorem dX9_countDigits_4 : decode cX9_countDigits 4 = .ok (.if_icmp .ge 19, 3) := by decide +kernel
theorem dX9_countDigits_7 : decode cX9_countDigits 7 = .ok (.aload_n 0, 1) := by decide +kernel
theorem dX9_countDigits_8 : decode cX9_countDigits 8 = .ok (.iload_n 1, 1) := by decide +kernel
theorem dX9_countDigits_9 : decode cX9_countDigits 9 = .ok (.iload_n 3, 1) := by decide +kernel
theorem dX9_countDigits_10 : decode cX9_countDigits 10 = .ok (.iadd, 1) := by decide +kernel
theorem dX9_countDigits_11 : decode cX9_countDigits 11 = .ok (.invokevirtual 48, 3) := by decide +kernel
theorem dX9_countDigits_14 : decode cX9_countDigits 14 = .ok (.ifCond .eq 9, 3) := by decide +kernel
theorem dX9_countDigits_17 : decode cX9_countDigits 17 = .ok (.iinc 3 1, 3) := by decide +kernel
theorem dX9_countDigits_20 : decode cX9_countDigits 20 = .ok (.goto (-18), 3) := by decide +kernel
theorem dX9_countDigits_23 : decode cX9_countDigits 23 = .ok (.iload_n 3, 1) := by decide +kernel
theorem dX9_countDigits_24 : decode cX9_countDigits 24 = .ok (.ireturn, 1) := by decide +kernel
theorem dX9_valueOf_0 : decode cX9_valueOf 0 = .ok (.iconst 0, 1) := by decide +kernel
theorem dX9_valueOf_1 : decode cX9_valueOf 1 = .ok (.istore_n 3, 1) := by decide +kernel
theorem dX9_valueOf_2 : decode cX9_valueOf 2 = .ok (.iconst 0, 1) := by decide +kernel
theorem dX9_valueOf_3 : decode cX9_valueOf 3 = .ok (.istore 4, 2) := by decide +kernel
theorem dX9_valueOf_5 : decode cX9_valueOf 5 = .ok (.iload 4, 2) := by decide +kernel
