theorem dX0_init_0 : decode cX0_init 0 = .ok (.aload_n 0, 1) := by decide +kernel
theorem dX0_init_1 : decode cX0_init 1 = .ok (.invokespecial 3, 3) := by decide +kernel
theorem dX0_init_4 : decode cX0_init 4 = .ok (.aload_n 0, 1) := by decide +kernel
theorem dX0_init_5 : decode cX0_init 5 = .ok (.bipush 16, 2) := by decide +kernel
theorem dX0_init_7 : decode cX0_init 7 = .ok (.bipush 31, 2) := by decide +kernel
theorem dX0_init_9 : decode cX0_init 9 = .ok (.multianewarray 9 2, 4) := by decide +kernel
theorem dX0_init_13 : decode cX0_init 13 = .ok (.putfield 11, 3) := by decide +kernel
theorem dX0_init_16 : decode cX0_init 16 = .ok (.aload_n 0, 1) := by decide +kernel
theorem dX0_init_17 : decode cX0_init 17 = .ok (.bipush 31, 2) := by decide +kernel
theorem dX0_init_19 : decode cX0_init 19 = .ok (.newarray .int, 2) := by decide +kernel
theorem dX0_init_21 : decode cX0_init 21 = .ok (.putfield 16, 3) := by decide +kernel
theorem dX0_init_24 : decode cX0_init 24 = .ok (.aload_n 0, 1) := by decide +kernel
theorem dX0_init_25 : decode cX0_init 25 = .ok (.aload_n 1, 1) := by decide +kernel
theorem dX0_init_26 : decode cX0_init 26 = .ok (.getfield 20, 3) := by decide +kernel
theorem dX0_init_29 : decode cX0_init 29 = .ok (.putfield 25, 3) := by decide +kernel
theorem dX0_init_32 : decode cX0_init 32 = .ok (.return_, 1) := by decide +kernel
theorem dX0_degree_0 : decode cX0_degree 0 = .ok (.aload_n 0, 1) := by decide +kernel
theorem dX0_degree_1 : decode cX0_degree 1 = .ok (.arraylength, 1) := by decide +kernel
theorem dX0_degree_2 : decode cX0_degree 2 = .ok (.iconst 1, 1) := by decide +kernel
theorem dX0_degree_3 : decode cX0_degree 3 = .ok (.isub, 1) := by decide +kernel
theorem dX0_degree_4 : decode cX0_degree 4 = .ok (.istore_n 1, 1) := by decide +kernel
theorem dX0_degree_5 : decode cX0_degree 5 = .ok (.iload_n 1, 1) := by decide +kernel
theorem dX0_degree_6 : decode cX0_degree 6 = .ok (.ifCond .lt 17, 3) := by decide +kernel
theorem dX0_degree_9 : decode cX0_degree 9 = .ok (.aload_n 0, 1) := by decide +kernel
theorem dX0_degree_10 : decode cX0_degree 10 = .ok (.iload_n 1, 1) := by decide +kernel
theorem dX0_degree_11 : decode cX0_degree 11 = .ok (.iaload, 1) := by decide +kernel
theorem dX0_degree_12 : decode cX0_degree 12 = .ok (.ifCond .eq 5, 3) := by decide +kernel
theorem dX0_degree_15 : decode cX0_degree 15 = .ok (.iload_n 1, 1) := by decide +kernel
theorem dX0_degree_16 : decode cX0_degree 16 = .ok (.ireturn, 1) := by decide +kernel
theorem dX0_degree_17 : decode cX0_degree 17 = .ok (.iinc 1 (-1), 3) := by decide +kernel
theorem dX0_degree_20 : decode cX0_degree 20 = .ok (.goto (-15), 3) := by decide +kernel
theorem dX0_degree_23 : decode cX0_degree 23 = .ok (.iconst (-1), 1) := by decide +kernel
theorem dX0_degree_24 : decode cX0_degree 24 = .ok (.ireturn, 1) := by decide +kernel
theorem dX0_fits_0 : decode cX0_fits 0 = .ok (.aload_n 2, 1) := by decide +kernel
theorem dX0_fits_1 : decode cX0_fits 1 = .ok (.invokestatic 26, 3) := by decide +kernel
theorem dX0_fits_4 : decode cX0_fits 4 = .ok (.istore_n 3, 1) := by decide +kernel
theorem dX0_fits_5 : decode cX0_fits 5 = .ok (.iconst 0, 1) := by decide +kernel
theorem dX0_fits_6 : decode cX0_fits 6 = .ok (.istore 4, 2) := by decide +kernel
theorem dX0_fits_8 : decode cX0_fits 8 = .ok (.iload 4, 2) := by decide +kernel
theorem dX0_fits_10 : decode cX0_fits 10 = .ok (.bipush 91, 2) := by decide +kernel
theorem dX0_fits_12 : decode cX0_fits 12 = .ok (.if_icmp .ge 51, 3) := by decide +kernel
theorem dX0_fits_15 : decode cX0_fits 15 = .ok (.getstatic 30, 3) := by decide +kernel
theorem dX0_fits_18 : decode cX0_fits 18 = .ok (.iload 4, 2) := by decide +kernel
theorem dX0_fits_20 : decode cX0_fits 20 = .ok (.iaload, 1) := by decide +kernel
theorem dX0_fits_21 : decode cX0_fits 21 = .ok (.istore 5, 2) := by decide +kernel
theorem dX0_fits_23 : decode cX0_fits 23 = .ok (.aload_n 1, 1) := by decide +kernel
theorem dX0_fits_24 : decode cX0_fits 24 = .ok (.getfield 35, 3) := by decide +kernel
theorem dX0_fits_27 : decode cX0_fits 27 = .ok (.iload 4, 2) := by decide +kernel
theorem dX0_fits_29 : decode cX0_fits 29 = .ok (.iaload, 1) := by decide +kernel
theorem dX0_fits_30 : decode cX0_fits 30 = .ok (.ifCond .eq 27, 3) := by decide +kernel
theorem dX0_fits_33 : decode cX0_fits 33 = .ok (.iload 5, 2) := by decide +kernel
theorem dX0_fits_35 : decode cX0_fits 35 = .ok (.iload_n 3, 1) := by decide +kernel
theorem dX0_fits_36 : decode cX0_fits 36 = .ok (.if_icmp .gt 21, 3) := by decide +kernel
theorem dX0_fits_39 : decode cX0_fits 39 = .ok (.iload_n 3, 1) := by decide +kernel
theorem dX0_fits_40 : decode cX0_fits 40 = .ok (.iload 5, 2) := by decide +kernel
theorem dX0_fits_42 : decode cX0_fits 42 = .ok (.isub, 1) := by decide +kernel
theorem dX0_fits_43 : decode cX0_fits 43 = .ok (.getstatic 38, 3) := by decide +kernel
theorem dX0_fits_46 : decode cX0_fits 46 = .ok (.iload 4, 2) := by decide +kernel
theorem dX0_fits_48 : decode cX0_fits 48 = .ok (.iaload, 1) := by decide +kernel
theorem dX0_fits_49 : decode cX0_fits 49 = .ok (.iadd, 1) := by decide +kernel
theorem dX0_fits_50 : decode cX0_fits 50 = .ok (.bipush 30, 2) := by decide +kernel
theorem dX0_fits_52 : decode cX0_fits 52 = .ok (.if_icmp .le 5, 3) := by decide +kernel
theorem dX0_fits_55 : decode cX0_fits 55 = .ok (.iconst 0, 1) := by decide +kernel
theorem dX0_fits_56 : decode cX0_fits 56 = .ok (.ireturn, 1) := by decide +kernel
theorem dX0_fits_57 : decode cX0_fits 57 = .ok (.iinc 4 1, 3) := by decide +kernel
theorem dX0_fits_60 : decode cX0_fits 60 = .ok (.goto (-52), 3) := by decide +kernel
theorem dX0_fits_63 : decode cX0_fits 63 = .ok (.iconst 1, 1) := by decide +kernel
theorem dX0_fits_64 : decode cX0_fits 64 = .ok (.ireturn, 1) := by decide +kernel
theorem dX0_apply_0 : decode cX0_apply 0 = .ok (.aload_n 0, 1) := by decide +kernel
theorem dX0_apply_1 : decode cX0_apply 1 = .ok (.getfield 16, 3) := by decide +kernel
theorem dX0_apply_4 : decode cX0_apply 4 = .ok (.iconst 0, 1) := by decide +kernel
theorem dX0_apply_5 : decode cX0_apply 5 = .ok (.invokestatic 41, 3) := by decide +kernel
theorem dX0_apply_8 : decode cX0_apply 8 = .ok (.aload_n 2, 1) := by decide +kernel
theorem dX0_apply_9 : decode cX0_apply 9 = .ok (.invokestatic 26, 3) := by decide +kernel
theorem dX0_apply_12 : decode cX0_apply 12 = .ok (.istore_n 3, 1) := by decide +kernel
theorem dX0_apply_13 : decode cX0_apply 13 = .ok (.iconst 0, 1) := by decide +kernel
theorem dX0_apply_14 : decode cX0_apply 14 = .ok (.istore 4, 2) := by decide +kernel
theorem dX0_apply_16 : decode cX0_apply 16 = .ok (.iload 4, 2) := by decide +kernel
theorem dX0_apply_18 : decode cX0_apply 18 = .ok (.iload_n 3, 1) := by decide +kernel
theorem dX0_apply_19 : decode cX0_apply 19 = .ok (.if_icmp .gt 31, 3) := by decide +kernel
theorem dX0_apply_22 : decode cX0_apply 22 = .ok (.aload_n 2, 1) := by decide +kernel
theorem dX0_apply_23 : decode cX0_apply 23 = .ok (.iload 4, 2) := by decide +kernel
theorem dX0_apply_25 : decode cX0_apply 25 = .ok (.iaload, 1) := by decide +kernel
theorem dX0_apply_26 : decode cX0_apply 26 = .ok (.ifCond .eq 18, 3) := by decide +kernel
theorem dX0_apply_29 : decode cX0_apply 29 = .ok (.aload_n 0, 1) := by decide +kernel
theorem dX0_apply_30 : decode cX0_apply 30 = .ok (.aload_n 0, 1) := by decide +kernel
theorem dX0_apply_31 : decode cX0_apply 31 = .ok (.getfield 16, 3) := by decide +kernel
theorem dX0_apply_34 : decode cX0_apply 34 = .ok (.aload_n 1, 1) := by decide +kernel
theorem dX0_apply_35 : decode cX0_apply 35 = .ok (.aload_n 2, 1) := by decide +kernel
theorem dX0_apply_36 : decode cX0_apply 36 = .ok (.iload 4, 2) := by decide +kernel
theorem dX0_apply_38 : decode cX0_apply 38 = .ok (.iaload, 1) := by decide +kernel
theorem dX0_apply_39 : decode cX0_apply 39 = .ok (.iload 4, 2) := by decide +kernel
theorem dX0_apply_41 : decode cX0_apply 41 = .ok (.invokevirtual 47, 3) := by decide +kernel
theorem dX0_apply_44 : decode cX0_apply 44 = .ok (.iinc 4 1, 3) := by decide +kernel
theorem dX0_apply_47 : decode cX0_apply 47 = .ok (.goto (-31), 3) := by decide +kernel
theorem dX0_apply_50 : decode cX0_apply 50 = .ok (.return_, 1) := by decide +kernel
theorem dX0_addImage_0 : decode cX0_addImage 0 = .ok (.iconst 0, 1) := by decide +kernel
theorem dX0_addImage_1 : decode cX0_addImage 1 = .ok (.istore 5, 2) := by decide +kernel
theorem dX0_addImage_3 : decode cX0_addImage 3 = .ok (.iload 5, 2) := by decide +kernel
theorem dX0_addImage_5 : decode cX0_addImage 5 = .ok (.bipush 12, 2) := by decide +kernel
theorem dX0_addImage_7 : decode cX0_addImage 7 = .ok (.if_icmp .gt 112, 3) := by decide +kernel
theorem dX0_addImage_10 : decode cX0_addImage 10 = .ok (.iconst 0, 1) := by decide +kernel
theorem dX0_addImage_11 : decode cX0_addImage 11 = .ok (.istore 6, 2) := by decide +kernel
theorem dX0_addImage_13 : decode cX0_addImage 13 = .ok (.iload 6, 2) := by decide +kernel
theorem dX0_addImage_15 : decode cX0_addImage 15 = .ok (.iload 5, 2) := by decide +kernel
theorem dX0_addImage_17 : decode cX0_addImage 17 = .ok (.if_icmp .gt 96, 3) := by decide +kernel
theorem dX0_addImage_20 : decode cX0_addImage 20 = .ok (.iload 6, 2) := by decide +kernel
theorem dX0_addImage_22 : decode cX0_addImage 22 = .ok (.iload 4, 2) := by decide +kernel
theorem dX0_addImage_24 : decode cX0_addImage 24 = .ok (.if_icmp .gt 89, 3) := by decide +kernel
theorem dX0_addImage_27 : decode cX0_addImage 27 = .ok (.aload_n 2, 1) := by decide +kernel
theorem dX0_addImage_28 : decode cX0_addImage 28 = .ok (.getfield 35, 3) := by decide +kernel
theorem dX0_addImage_31 : decode cX0_addImage 31 = .ok (.iload 5, 2) := by decide +kernel
theorem dX0_addImage_33 : decode cX0_addImage 33 = .ok (.invokestatic 51, 3) := by decide +kernel
theorem dX0_addImage_36 : decode cX0_addImage 36 = .ok (.iload 6, 2) := by decide +kernel
theorem dX0_addImage_38 : decode cX0_addImage 38 = .ok (.iadd, 1) := by decide +kernel
theorem dX0_addImage_39 : decode cX0_addImage 39 = .ok (.iaload, 1) := by decide +kernel
theorem dX0_addImage_40 : decode cX0_addImage 40 = .ok (.istore 7, 2) := by decide +kernel
theorem dX0_addImage_42 : decode cX0_addImage 42 = .ok (.iload 4, 2) := by decide +kernel
theorem dX0_addImage_44 : decode cX0_addImage 44 = .ok (.iload 6, 2) := by decide +kernel
theorem dX0_addImage_46 : decode cX0_addImage 46 = .ok (.isub, 1) := by decide +kernel
theorem dX0_addImage_47 : decode cX0_addImage 47 = .ok (.iload 5, 2) := by decide +kernel
theorem dX0_addImage_49 : decode cX0_addImage 49 = .ok (.iadd, 1) := by decide +kernel
theorem dX0_addImage_50 : decode cX0_addImage 50 = .ok (.iload 6, 2) := by decide +kernel
theorem dX0_addImage_52 : decode cX0_addImage 52 = .ok (.isub, 1) := by decide +kernel
theorem dX0_addImage_53 : decode cX0_addImage 53 = .ok (.istore 8, 2) := by decide +kernel
theorem dX0_addImage_55 : decode cX0_addImage 55 = .ok (.iload 7, 2) := by decide +kernel
theorem dX0_addImage_57 : decode cX0_addImage 57 = .ok (.ifCond .eq 50, 3) := by decide +kernel
theorem dX0_addImage_60 : decode cX0_addImage 60 = .ok (.iload 8, 2) := by decide +kernel
theorem dX0_addImage_62 : decode cX0_addImage 62 = .ok (.bipush 30, 2) := by decide +kernel
theorem dX0_addImage_64 : decode cX0_addImage 64 = .ok (.if_icmp .gt 43, 3) := by decide +kernel
theorem dX0_addImage_67 : decode cX0_addImage 67 = .ok (.iload_n 3, 1) := by decide +kernel
theorem dX0_addImage_68 : decode cX0_addImage 68 = .ok (.iload 7, 2) := by decide +kernel
theorem dX0_addImage_70 : decode cX0_addImage 70 = .ok (.aload_n 0, 1) := by decide +kernel
theorem dX0_addImage_71 : decode cX0_addImage 71 = .ok (.getfield 25, 3) := by decide +kernel
theorem dX0_addImage_74 : decode cX0_addImage 74 = .ok (.iload 4, 2) := by decide +kernel
theorem dX0_addImage_76 : decode cX0_addImage 76 = .ok (.aaload, 1) := by decide +kernel
theorem dX0_addImage_77 : decode cX0_addImage 77 = .ok (.iload 6, 2) := by decide +kernel
theorem dX0_addImage_79 : decode cX0_addImage 79 = .ok (.iaload, 1) := by decide +kernel
theorem dX0_addImage_80 : decode cX0_addImage 80 = .ok (.imul, 1) := by decide +kernel
theorem dX0_addImage_81 : decode cX0_addImage 81 = .ok (.sipush 10007, 3) := by decide +kernel
theorem dX0_addImage_84 : decode cX0_addImage 84 = .ok (.irem, 1) := by decide +kernel
theorem dX0_addImage_85 : decode cX0_addImage 85 = .ok (.imul, 1) := by decide +kernel
theorem dX0_addImage_86 : decode cX0_addImage 86 = .ok (.sipush 10007, 3) := by decide +kernel
theorem dX0_addImage_89 : decode cX0_addImage 89 = .ok (.irem, 1) := by decide +kernel
theorem dX0_addImage_90 : decode cX0_addImage 90 = .ok (.istore 9, 2) := by decide +kernel
theorem dX0_addImage_92 : decode cX0_addImage 92 = .ok (.aload_n 1, 1) := by decide +kernel
theorem dX0_addImage_93 : decode cX0_addImage 93 = .ok (.iload 8, 2) := by decide +kernel
theorem dX0_addImage_95 : decode cX0_addImage 95 = .ok (.aload_n 1, 1) := by decide +kernel
theorem dX0_addImage_96 : decode cX0_addImage 96 = .ok (.iload 8, 2) := by decide +kernel
theorem dX0_addImage_98 : decode cX0_addImage 98 = .ok (.iaload, 1) := by decide +kernel
theorem dX0_addImage_99 : decode cX0_addImage 99 = .ok (.iload 9, 2) := by decide +kernel
theorem dX0_addImage_101 : decode cX0_addImage 101 = .ok (.iadd, 1) := by decide +kernel
theorem dX0_addImage_102 : decode cX0_addImage 102 = .ok (.sipush 10007, 3) := by decide +kernel
theorem dX0_addImage_105 : decode cX0_addImage 105 = .ok (.irem, 1) := by decide +kernel
theorem dX0_addImage_106 : decode cX0_addImage 106 = .ok (.iastore, 1) := by decide +kernel
theorem dX0_addImage_107 : decode cX0_addImage 107 = .ok (.iinc 6 1, 3) := by decide +kernel
theorem dX0_addImage_110 : decode cX0_addImage 110 = .ok (.goto (-97), 3) := by decide +kernel
theorem dX0_addImage_113 : decode cX0_addImage 113 = .ok (.iinc 5 1, 3) := by decide +kernel
theorem dX0_addImage_116 : decode cX0_addImage 116 = .ok (.goto (-113), 3) := by decide +kernel
theorem dX0_addImage_119 : decode cX0_addImage 119 = .ok (.return_, 1) := by decide +kernel
theorem dX0_kernelDimension_0 : decode cX0_kernelDimension 0 = .ok (.iload_n 2, 1) := by decide +kernel
theorem dX0_kernelDimension_1 : decode cX0_kernelDimension 1 = .ok (.bipush 15, 2) := by decide +kernel
theorem dX0_kernelDimension_3 : decode cX0_kernelDimension 3 = .ok (.invokestatic 55, 3) := by decide +kernel
theorem dX0_kernelDimension_6 : decode cX0_kernelDimension 6 = .ok (.iconst 1, 1) := by decide +kernel
theorem dX0_kernelDimension_7 : decode cX0_kernelDimension 7 = .ok (.iadd, 1) := by decide +kernel
theorem dX0_kernelDimension_8 : decode cX0_kernelDimension 8 = .ok (.istore_n 3, 1) := by decide +kernel
theorem dX0_kernelDimension_9 : decode cX0_kernelDimension 9 = .ok (.iconst 0, 1) := by decide +kernel
theorem dX0_kernelDimension_10 : decode cX0_kernelDimension 10 = .ok (.istore 4, 2) := by decide +kernel
theorem dX0_kernelDimension_12 : decode cX0_kernelDimension 12 = .ok (.iload 4, 2) := by decide +kernel
theorem dX0_kernelDimension_14 : decode cX0_kernelDimension 14 = .ok (.iload_n 3, 1) := by decide +kernel
theorem dX0_kernelDimension_15 : decode cX0_kernelDimension 15 = .ok (.if_icmp .ge 35, 3) := by decide +kernel
theorem dX0_kernelDimension_18 : decode cX0_kernelDimension 18 = .ok (.aload_n 0, 1) := by decide +kernel
theorem dX0_kernelDimension_19 : decode cX0_kernelDimension 19 = .ok (.getfield 11, 3) := by decide +kernel
theorem dX0_kernelDimension_22 : decode cX0_kernelDimension 22 = .ok (.iload 4, 2) := by decide +kernel
theorem dX0_kernelDimension_24 : decode cX0_kernelDimension 24 = .ok (.aaload, 1) := by decide +kernel
theorem dX0_kernelDimension_25 : decode cX0_kernelDimension 25 = .ok (.iconst 0, 1) := by decide +kernel
theorem dX0_kernelDimension_26 : decode cX0_kernelDimension 26 = .ok (.invokestatic 41, 3) := by decide +kernel
theorem dX0_kernelDimension_29 : decode cX0_kernelDimension 29 = .ok (.aload_n 0, 1) := by decide +kernel
theorem dX0_kernelDimension_30 : decode cX0_kernelDimension 30 = .ok (.aload_n 0, 1) := by decide +kernel
theorem dX0_kernelDimension_31 : decode cX0_kernelDimension 31 = .ok (.getfield 11, 3) := by decide +kernel
theorem dX0_kernelDimension_34 : decode cX0_kernelDimension 34 = .ok (.iload 4, 2) := by decide +kernel
theorem dX0_kernelDimension_36 : decode cX0_kernelDimension 36 = .ok (.aaload, 1) := by decide +kernel
theorem dX0_kernelDimension_37 : decode cX0_kernelDimension 37 = .ok (.aload_n 1, 1) := by decide +kernel
theorem dX0_kernelDimension_38 : decode cX0_kernelDimension 38 = .ok (.iconst 1, 1) := by decide +kernel
theorem dX0_kernelDimension_39 : decode cX0_kernelDimension 39 = .ok (.iload 4, 2) := by decide +kernel
theorem dX0_kernelDimension_41 : decode cX0_kernelDimension 41 = .ok (.invokevirtual 47, 3) := by decide +kernel
theorem dX0_kernelDimension_44 : decode cX0_kernelDimension 44 = .ok (.iinc 4 1, 3) := by decide +kernel
theorem dX0_kernelDimension_47 : decode cX0_kernelDimension 47 = .ok (.goto (-35), 3) := by decide +kernel
theorem dX0_kernelDimension_50 : decode cX0_kernelDimension 50 = .ok (.iconst 0, 1) := by decide +kernel
theorem dX0_kernelDimension_51 : decode cX0_kernelDimension 51 = .ok (.istore 4, 2) := by decide +kernel
theorem dX0_kernelDimension_53 : decode cX0_kernelDimension 53 = .ok (.iconst 0, 1) := by decide +kernel
theorem dX0_kernelDimension_54 : decode cX0_kernelDimension 54 = .ok (.istore 5, 2) := by decide +kernel
theorem dX0_kernelDimension_56 : decode cX0_kernelDimension 56 = .ok (.iload 5, 2) := by decide +kernel
theorem dX0_kernelDimension_58 : decode cX0_kernelDimension 58 = .ok (.bipush 28, 2) := by decide +kernel
theorem dX0_kernelDimension_60 : decode cX0_kernelDimension 60 = .ok (.if_icmp .ge 75, 3) := by decide +kernel
theorem dX0_kernelDimension_63 : decode cX0_kernelDimension 63 = .ok (.iload 4, 2) := by decide +kernel
theorem dX0_kernelDimension_65 : decode cX0_kernelDimension 65 = .ok (.iload_n 3, 1) := by decide +kernel
theorem dX0_kernelDimension_66 : decode cX0_kernelDimension 66 = .ok (.if_icmp .ge 69, 3) := by decide +kernel
theorem dX0_kernelDimension_69 : decode cX0_kernelDimension 69 = .ok (.aload_n 0, 1) := by decide +kernel
theorem dX0_kernelDimension_70 : decode cX0_kernelDimension 70 = .ok (.iload 4, 2) := by decide +kernel
theorem dX0_kernelDimension_72 : decode cX0_kernelDimension 72 = .ok (.iload_n 3, 1) := by decide +kernel
theorem dX0_kernelDimension_73 : decode cX0_kernelDimension 73 = .ok (.iload 5, 2) := by decide +kernel
theorem dX0_kernelDimension_75 : decode cX0_kernelDimension 75 = .ok (.invokevirtual 61, 3) := by decide +kernel
theorem dX0_kernelDimension_78 : decode cX0_kernelDimension 78 = .ok (.istore 6, 2) := by decide +kernel
theorem dX0_kernelDimension_80 : decode cX0_kernelDimension 80 = .ok (.iload 6, 2) := by decide +kernel
theorem dX0_kernelDimension_82 : decode cX0_kernelDimension 82 = .ok (.ifCond .lt 47, 3) := by decide +kernel
theorem dX0_kernelDimension_85 : decode cX0_kernelDimension 85 = .ok (.aload_n 0, 1) := by decide +kernel
theorem dX0_kernelDimension_86 : decode cX0_kernelDimension 86 = .ok (.getfield 11, 3) := by decide +kernel
theorem dX0_kernelDimension_89 : decode cX0_kernelDimension 89 = .ok (.iload 6, 2) := by decide +kernel
theorem dX0_kernelDimension_91 : decode cX0_kernelDimension 91 = .ok (.aaload, 1) := by decide +kernel
theorem dX0_kernelDimension_92 : decode cX0_kernelDimension 92 = .ok (.astore 7, 2) := by decide +kernel
theorem dX0_kernelDimension_94 : decode cX0_kernelDimension 94 = .ok (.aload_n 0, 1) := by decide +kernel
theorem dX0_kernelDimension_95 : decode cX0_kernelDimension 95 = .ok (.getfield 11, 3) := by decide +kernel
theorem dX0_kernelDimension_98 : decode cX0_kernelDimension 98 = .ok (.iload 6, 2) := by decide +kernel
theorem dX0_kernelDimension_100 : decode cX0_kernelDimension 100 = .ok (.aload_n 0, 1) := by decide +kernel
theorem dX0_kernelDimension_101 : decode cX0_kernelDimension 101 = .ok (.getfield 11, 3) := by decide +kernel
theorem dX0_kernelDimension_104 : decode cX0_kernelDimension 104 = .ok (.iload 4, 2) := by decide +kernel
theorem dX0_kernelDimension_106 : decode cX0_kernelDimension 106 = .ok (.aaload, 1) := by decide +kernel
theorem dX0_kernelDimension_107 : decode cX0_kernelDimension 107 = .ok (.aastore, 1) := by decide +kernel
theorem dX0_kernelDimension_108 : decode cX0_kernelDimension 108 = .ok (.aload_n 0, 1) := by decide +kernel
theorem dX0_kernelDimension_109 : decode cX0_kernelDimension 109 = .ok (.getfield 11, 3) := by decide +kernel
theorem dX0_kernelDimension_112 : decode cX0_kernelDimension 112 = .ok (.iload 4, 2) := by decide +kernel
theorem dX0_kernelDimension_114 : decode cX0_kernelDimension 114 = .ok (.aload 7, 2) := by decide +kernel
theorem dX0_kernelDimension_116 : decode cX0_kernelDimension 116 = .ok (.aastore, 1) := by decide +kernel
theorem dX0_kernelDimension_117 : decode cX0_kernelDimension 117 = .ok (.aload_n 0, 1) := by decide +kernel
theorem dX0_kernelDimension_118 : decode cX0_kernelDimension 118 = .ok (.iload 4, 2) := by decide +kernel
theorem dX0_kernelDimension_120 : decode cX0_kernelDimension 120 = .ok (.iload_n 3, 1) := by decide +kernel
theorem dX0_kernelDimension_121 : decode cX0_kernelDimension 121 = .ok (.iload 5, 2) := by decide +kernel
theorem dX0_kernelDimension_123 : decode cX0_kernelDimension 123 = .ok (.invokevirtual 65, 3) := by decide +kernel
theorem dX0_kernelDimension_126 : decode cX0_kernelDimension 126 = .ok (.iinc 4 1, 3) := by decide +kernel
theorem dX0_kernelDimension_129 : decode cX0_kernelDimension 129 = .ok (.iinc 5 1, 3) := by decide +kernel
theorem dX0_kernelDimension_132 : decode cX0_kernelDimension 132 = .ok (.goto (-76), 3) := by decide +kernel
theorem dX0_kernelDimension_135 : decode cX0_kernelDimension 135 = .ok (.iload_n 3, 1) := by decide +kernel
theorem dX0_kernelDimension_136 : decode cX0_kernelDimension 136 = .ok (.iload 4, 2) := by decide +kernel
theorem dX0_kernelDimension_138 : decode cX0_kernelDimension 138 = .ok (.isub, 1) := by decide +kernel
theorem dX0_kernelDimension_139 : decode cX0_kernelDimension 139 = .ok (.ireturn, 1) := by decide +kernel
theorem dX0_pivotRow_0 : decode cX0_pivotRow 0 = .ok (.iload_n 1, 1) := by decide +kernel
theorem dX0_pivotRow_1 : decode cX0_pivotRow 1 = .ok (.istore 4, 2) := by decide +kernel
theorem dX0_pivotRow_3 : decode cX0_pivotRow 3 = .ok (.iload 4, 2) := by decide +kernel
theorem dX0_pivotRow_5 : decode cX0_pivotRow 5 = .ok (.iload_n 2, 1) := by decide +kernel
theorem dX0_pivotRow_6 : decode cX0_pivotRow 6 = .ok (.if_icmp .ge 24, 3) := by decide +kernel
theorem dX0_pivotRow_9 : decode cX0_pivotRow 9 = .ok (.aload_n 0, 1) := by decide +kernel
theorem dX0_pivotRow_10 : decode cX0_pivotRow 10 = .ok (.getfield 11, 3) := by decide +kernel
theorem dX0_pivotRow_13 : decode cX0_pivotRow 13 = .ok (.iload 4, 2) := by decide +kernel
theorem dX0_pivotRow_15 : decode cX0_pivotRow 15 = .ok (.aaload, 1) := by decide +kernel
theorem dX0_pivotRow_16 : decode cX0_pivotRow 16 = .ok (.iload_n 3, 1) := by decide +kernel
theorem dX0_pivotRow_17 : decode cX0_pivotRow 17 = .ok (.iaload, 1) := by decide +kernel
theorem dX0_pivotRow_18 : decode cX0_pivotRow 18 = .ok (.ifCond .eq 6, 3) := by decide +kernel
theorem dX0_pivotRow_21 : decode cX0_pivotRow 21 = .ok (.iload 4, 2) := by decide +kernel
theorem dX0_pivotRow_23 : decode cX0_pivotRow 23 = .ok (.ireturn, 1) := by decide +kernel
theorem dX0_pivotRow_24 : decode cX0_pivotRow 24 = .ok (.iinc 4 1, 3) := by decide +kernel
theorem dX0_pivotRow_27 : decode cX0_pivotRow 27 = .ok (.goto (-24), 3) := by decide +kernel
theorem dX0_pivotRow_30 : decode cX0_pivotRow 30 = .ok (.iconst (-1), 1) := by decide +kernel
theorem dX0_pivotRow_31 : decode cX0_pivotRow 31 = .ok (.ireturn, 1) := by decide +kernel
theorem dX0_clearBelow_0 : decode cX0_clearBelow 0 = .ok (.aload_n 0, 1) := by decide +kernel
theorem dX0_clearBelow_1 : decode cX0_clearBelow 1 = .ok (.getfield 11, 3) := by decide +kernel
theorem dX0_clearBelow_4 : decode cX0_clearBelow 4 = .ok (.iload_n 1, 1) := by decide +kernel
theorem dX0_clearBelow_5 : decode cX0_clearBelow 5 = .ok (.aaload, 1) := by decide +kernel
theorem dX0_clearBelow_6 : decode cX0_clearBelow 6 = .ok (.iload_n 3, 1) := by decide +kernel
theorem dX0_clearBelow_7 : decode cX0_clearBelow 7 = .ok (.iaload, 1) := by decide +kernel
theorem dX0_clearBelow_8 : decode cX0_clearBelow 8 = .ok (.invokestatic 69, 3) := by decide +kernel
theorem dX0_clearBelow_11 : decode cX0_clearBelow 11 = .ok (.istore 4, 2) := by decide +kernel
theorem dX0_clearBelow_13 : decode cX0_clearBelow 13 = .ok (.iload_n 1, 1) := by decide +kernel
theorem dX0_clearBelow_14 : decode cX0_clearBelow 14 = .ok (.iconst 1, 1) := by decide +kernel
theorem dX0_clearBelow_15 : decode cX0_clearBelow 15 = .ok (.iadd, 1) := by decide +kernel
theorem dX0_clearBelow_16 : decode cX0_clearBelow 16 = .ok (.istore 5, 2) := by decide +kernel
theorem dX0_clearBelow_18 : decode cX0_clearBelow 18 = .ok (.iload 5, 2) := by decide +kernel
theorem dX0_clearBelow_20 : decode cX0_clearBelow 20 = .ok (.iload_n 2, 1) := by decide +kernel
theorem dX0_clearBelow_21 : decode cX0_clearBelow 21 = .ok (.if_icmp .ge 89, 3) := by decide +kernel
theorem dX0_clearBelow_24 : decode cX0_clearBelow 24 = .ok (.sipush 10007, 3) := by decide +kernel
theorem dX0_clearBelow_27 : decode cX0_clearBelow 27 = .ok (.aload_n 0, 1) := by decide +kernel
theorem dX0_clearBelow_28 : decode cX0_clearBelow 28 = .ok (.getfield 11, 3) := by decide +kernel
theorem dX0_clearBelow_31 : decode cX0_clearBelow 31 = .ok (.iload 5, 2) := by decide +kernel
theorem dX0_clearBelow_33 : decode cX0_clearBelow 33 = .ok (.aaload, 1) := by decide +kernel
theorem dX0_clearBelow_34 : decode cX0_clearBelow 34 = .ok (.iload_n 3, 1) := by decide +kernel
theorem dX0_clearBelow_35 : decode cX0_clearBelow 35 = .ok (.iaload, 1) := by decide +kernel
theorem dX0_clearBelow_36 : decode cX0_clearBelow 36 = .ok (.isub, 1) := by decide +kernel
theorem dX0_clearBelow_37 : decode cX0_clearBelow 37 = .ok (.iload 4, 2) := by decide +kernel
theorem dX0_clearBelow_39 : decode cX0_clearBelow 39 = .ok (.imul, 1) := by decide +kernel
theorem dX0_clearBelow_40 : decode cX0_clearBelow 40 = .ok (.sipush 10007, 3) := by decide +kernel
theorem dX0_clearBelow_43 : decode cX0_clearBelow 43 = .ok (.irem, 1) := by decide +kernel
theorem dX0_clearBelow_44 : decode cX0_clearBelow 44 = .ok (.istore 6, 2) := by decide +kernel
theorem dX0_clearBelow_46 : decode cX0_clearBelow 46 = .ok (.iload 6, 2) := by decide +kernel
theorem dX0_clearBelow_48 : decode cX0_clearBelow 48 = .ok (.ifCond .eq 56, 3) := by decide +kernel
theorem dX0_clearBelow_51 : decode cX0_clearBelow 51 = .ok (.iload_n 3, 1) := by decide +kernel
theorem dX0_clearBelow_52 : decode cX0_clearBelow 52 = .ok (.istore 7, 2) := by decide +kernel
theorem dX0_clearBelow_54 : decode cX0_clearBelow 54 = .ok (.iload 7, 2) := by decide +kernel
theorem dX0_clearBelow_56 : decode cX0_clearBelow 56 = .ok (.bipush 28, 2) := by decide +kernel
theorem dX0_clearBelow_58 : decode cX0_clearBelow 58 = .ok (.if_icmp .ge 46, 3) := by decide +kernel
theorem dX0_clearBelow_61 : decode cX0_clearBelow 61 = .ok (.aload_n 0, 1) := by decide +kernel
theorem dX0_clearBelow_62 : decode cX0_clearBelow 62 = .ok (.getfield 11, 3) := by decide +kernel
theorem dX0_clearBelow_65 : decode cX0_clearBelow 65 = .ok (.iload 5, 2) := by decide +kernel
theorem dX0_clearBelow_67 : decode cX0_clearBelow 67 = .ok (.aaload, 1) := by decide +kernel
theorem dX0_clearBelow_68 : decode cX0_clearBelow 68 = .ok (.iload 7, 2) := by decide +kernel
theorem dX0_clearBelow_70 : decode cX0_clearBelow 70 = .ok (.aload_n 0, 1) := by decide +kernel
theorem dX0_clearBelow_71 : decode cX0_clearBelow 71 = .ok (.getfield 11, 3) := by decide +kernel
theorem dX0_clearBelow_74 : decode cX0_clearBelow 74 = .ok (.iload 5, 2) := by decide +kernel
theorem dX0_clearBelow_76 : decode cX0_clearBelow 76 = .ok (.aaload, 1) := by decide +kernel
theorem dX0_clearBelow_77 : decode cX0_clearBelow 77 = .ok (.iload 7, 2) := by decide +kernel
theorem dX0_clearBelow_79 : decode cX0_clearBelow 79 = .ok (.iaload, 1) := by decide +kernel
theorem dX0_clearBelow_80 : decode cX0_clearBelow 80 = .ok (.iload 6, 2) := by decide +kernel
theorem dX0_clearBelow_82 : decode cX0_clearBelow 82 = .ok (.aload_n 0, 1) := by decide +kernel
theorem dX0_clearBelow_83 : decode cX0_clearBelow 83 = .ok (.getfield 11, 3) := by decide +kernel
theorem dX0_clearBelow_86 : decode cX0_clearBelow 86 = .ok (.iload_n 1, 1) := by decide +kernel
theorem dX0_clearBelow_87 : decode cX0_clearBelow 87 = .ok (.aaload, 1) := by decide +kernel
theorem dX0_clearBelow_88 : decode cX0_clearBelow 88 = .ok (.iload 7, 2) := by decide +kernel
theorem dX0_clearBelow_90 : decode cX0_clearBelow 90 = .ok (.iaload, 1) := by decide +kernel
theorem dX0_clearBelow_91 : decode cX0_clearBelow 91 = .ok (.imul, 1) := by decide +kernel
theorem dX0_clearBelow_92 : decode cX0_clearBelow 92 = .ok (.iadd, 1) := by decide +kernel
theorem dX0_clearBelow_93 : decode cX0_clearBelow 93 = .ok (.sipush 10007, 3) := by decide +kernel
theorem dX0_clearBelow_96 : decode cX0_clearBelow 96 = .ok (.irem, 1) := by decide +kernel
theorem dX0_clearBelow_97 : decode cX0_clearBelow 97 = .ok (.iastore, 1) := by decide +kernel
theorem dX0_clearBelow_98 : decode cX0_clearBelow 98 = .ok (.iinc 7 1, 3) := by decide +kernel
theorem dX0_clearBelow_101 : decode cX0_clearBelow 101 = .ok (.goto (-47), 3) := by decide +kernel
theorem dX0_clearBelow_104 : decode cX0_clearBelow 104 = .ok (.iinc 5 1, 3) := by decide +kernel
theorem dX0_clearBelow_107 : decode cX0_clearBelow 107 = .ok (.goto (-89), 3) := by decide +kernel
theorem dX0_clearBelow_110 : decode cX0_clearBelow 110 = .ok (.return_, 1) := by decide +kernel
theorem dX1_init_0 : decode cX1_init 0 = .ok (.aload_n 0, 1) := by decide +kernel
theorem dX1_init_1 : decode cX1_init 1 = .ok (.invokespecial 3, 3) := by decide +kernel
theorem dX1_init_4 : decode cX1_init 4 = .ok (.aload_n 0, 1) := by decide +kernel
theorem dX1_init_5 : decode cX1_init 5 = .ok (.bipush 13, 2) := by decide +kernel
theorem dX1_init_7 : decode cX1_init 7 = .ok (.bipush 13, 2) := by decide +kernel
theorem dX1_init_9 : decode cX1_init 9 = .ok (.multianewarray 9 2, 4) := by decide +kernel
theorem dX1_init_13 : decode cX1_init 13 = .ok (.putfield 11, 3) := by decide +kernel
theorem dX1_init_16 : decode cX1_init 16 = .ok (.aload_n 0, 1) := by decide +kernel
theorem dX1_init_17 : decode cX1_init 17 = .ok (.bipush 31, 2) := by decide +kernel
theorem dX1_init_19 : decode cX1_init 19 = .ok (.bipush 13, 2) := by decide +kernel
theorem dX1_init_21 : decode cX1_init 21 = .ok (.multianewarray 9 2, 4) := by decide +kernel
theorem dX1_init_25 : decode cX1_init 25 = .ok (.putfield 16, 3) := by decide +kernel
theorem dX1_init_28 : decode cX1_init 28 = .ok (.aload_n 0, 1) := by decide +kernel
theorem dX1_init_29 : decode cX1_init 29 = .ok (.new 19, 3) := by decide +kernel
theorem dX1_init_32 : decode cX1_init 32 = .ok (.dup, 1) := by decide +kernel
theorem dX1_init_33 : decode cX1_init 33 = .ok (.invokespecial 21, 3) := by decide +kernel
theorem dX1_init_36 : decode cX1_init 36 = .ok (.putfield 22, 3) := by decide +kernel
theorem dX1_init_39 : decode cX1_init 39 = .ok (.iconst 0, 1) := by decide +kernel
theorem dX1_init_40 : decode cX1_init 40 = .ok (.istore_n 1, 1) := by decide +kernel
theorem dX1_init_41 : decode cX1_init 41 = .ok (.iload_n 1, 1) := by decide +kernel
theorem dX1_init_42 : decode cX1_init 42 = .ok (.bipush 12, 2) := by decide +kernel
theorem dX1_init_44 : decode cX1_init 44 = .ok (.if_icmp .gt 66, 3) := by decide +kernel
theorem dX1_init_47 : decode cX1_init 47 = .ok (.aload_n 0, 1) := by decide +kernel
theorem dX1_init_48 : decode cX1_init 48 = .ok (.getfield 11, 3) := by decide +kernel
theorem dX1_init_51 : decode cX1_init 51 = .ok (.iload_n 1, 1) := by decide +kernel
theorem dX1_init_52 : decode cX1_init 52 = .ok (.aaload, 1) := by decide +kernel
theorem dX1_init_53 : decode cX1_init 53 = .ok (.iconst 0, 1) := by decide +kernel
theorem dX1_init_54 : decode cX1_init 54 = .ok (.iconst 1, 1) := by decide +kernel
theorem dX1_init_55 : decode cX1_init 55 = .ok (.iastore, 1) := by decide +kernel
theorem dX1_init_56 : decode cX1_init 56 = .ok (.iconst 1, 1) := by decide +kernel
theorem dX1_init_57 : decode cX1_init 57 = .ok (.istore_n 2, 1) := by decide +kernel
theorem dX1_init_58 : decode cX1_init 58 = .ok (.iload_n 2, 1) := by decide +kernel
theorem dX1_init_59 : decode cX1_init 59 = .ok (.iload_n 1, 1) := by decide +kernel
theorem dX1_init_60 : decode cX1_init 60 = .ok (.if_icmp .gt 44, 3) := by decide +kernel
theorem dX1_init_63 : decode cX1_init 63 = .ok (.aload_n 0, 1) := by decide +kernel
theorem dX1_init_64 : decode cX1_init 64 = .ok (.getfield 11, 3) := by decide +kernel
theorem dX1_init_67 : decode cX1_init 67 = .ok (.iload_n 1, 1) := by decide +kernel
theorem dX1_init_68 : decode cX1_init 68 = .ok (.aaload, 1) := by decide +kernel
theorem dX1_init_69 : decode cX1_init 69 = .ok (.iload_n 2, 1) := by decide +kernel
theorem dX1_init_70 : decode cX1_init 70 = .ok (.aload_n 0, 1) := by decide +kernel
theorem dX1_init_71 : decode cX1_init 71 = .ok (.getfield 11, 3) := by decide +kernel
theorem dX1_init_74 : decode cX1_init 74 = .ok (.iload_n 1, 1) := by decide +kernel
theorem dX1_init_75 : decode cX1_init 75 = .ok (.iconst 1, 1) := by decide +kernel
theorem dX1_init_76 : decode cX1_init 76 = .ok (.isub, 1) := by decide +kernel
theorem dX1_init_77 : decode cX1_init 77 = .ok (.aaload, 1) := by decide +kernel
theorem dX1_init_78 : decode cX1_init 78 = .ok (.iload_n 2, 1) := by decide +kernel
theorem dX1_init_79 : decode cX1_init 79 = .ok (.iconst 1, 1) := by decide +kernel
theorem dX1_init_80 : decode cX1_init 80 = .ok (.isub, 1) := by decide +kernel
theorem dX1_init_81 : decode cX1_init 81 = .ok (.iaload, 1) := by decide +kernel
theorem dX1_init_82 : decode cX1_init 82 = .ok (.aload_n 0, 1) := by decide +kernel
theorem dX1_init_83 : decode cX1_init 83 = .ok (.getfield 11, 3) := by decide +kernel
theorem dX1_init_86 : decode cX1_init 86 = .ok (.iload_n 1, 1) := by decide +kernel
theorem dX1_init_87 : decode cX1_init 87 = .ok (.iconst 1, 1) := by decide +kernel
theorem dX1_init_88 : decode cX1_init 88 = .ok (.isub, 1) := by decide +kernel
theorem dX1_init_89 : decode cX1_init 89 = .ok (.aaload, 1) := by decide +kernel
theorem dX1_init_90 : decode cX1_init 90 = .ok (.iload_n 2, 1) := by decide +kernel
theorem dX1_init_91 : decode cX1_init 91 = .ok (.iaload, 1) := by decide +kernel
theorem dX1_init_92 : decode cX1_init 92 = .ok (.iadd, 1) := by decide +kernel
theorem dX1_init_93 : decode cX1_init 93 = .ok (.sipush 10007, 3) := by decide +kernel
theorem dX1_init_96 : decode cX1_init 96 = .ok (.irem, 1) := by decide +kernel
theorem dX1_init_97 : decode cX1_init 97 = .ok (.iastore, 1) := by decide +kernel
theorem dX1_init_98 : decode cX1_init 98 = .ok (.iinc 2 1, 3) := by decide +kernel
theorem dX1_init_101 : decode cX1_init 101 = .ok (.goto (-43), 3) := by decide +kernel
theorem dX1_init_104 : decode cX1_init 104 = .ok (.iinc 1 1, 3) := by decide +kernel
theorem dX1_init_107 : decode cX1_init 107 = .ok (.goto (-66), 3) := by decide +kernel
theorem dX1_init_110 : decode cX1_init 110 = .ok (.iconst 0, 1) := by decide +kernel
theorem dX1_init_111 : decode cX1_init 111 = .ok (.istore_n 1, 1) := by decide +kernel
theorem dX1_init_112 : decode cX1_init 112 = .ok (.iload_n 1, 1) := by decide +kernel
theorem dX1_init_113 : decode cX1_init 113 = .ok (.bipush 30, 2) := by decide +kernel
theorem dX1_init_115 : decode cX1_init 115 = .ok (.if_icmp .gt 64, 3) := by decide +kernel
theorem dX1_init_118 : decode cX1_init 118 = .ok (.aload_n 0, 1) := by decide +kernel
theorem dX1_init_119 : decode cX1_init 119 = .ok (.getfield 16, 3) := by decide +kernel
theorem dX1_init_122 : decode cX1_init 122 = .ok (.iload_n 1, 1) := by decide +kernel
theorem dX1_init_123 : decode cX1_init 123 = .ok (.aaload, 1) := by decide +kernel
theorem dX1_init_124 : decode cX1_init 124 = .ok (.iconst 0, 1) := by decide +kernel
theorem dX1_init_125 : decode cX1_init 125 = .ok (.iconst 1, 1) := by decide +kernel
theorem dX1_init_126 : decode cX1_init 126 = .ok (.iastore, 1) := by decide +kernel
theorem dX1_init_127 : decode cX1_init 127 = .ok (.iconst 1, 1) := by decide +kernel
theorem dX1_init_128 : decode cX1_init 128 = .ok (.istore_n 2, 1) := by decide +kernel
theorem dX1_init_129 : decode cX1_init 129 = .ok (.iload_n 2, 1) := by decide +kernel
theorem dX1_init_130 : decode cX1_init 130 = .ok (.iload_n 1, 1) := by decide +kernel
theorem dX1_init_131 : decode cX1_init 131 = .ok (.bipush 12, 2) := by decide +kernel
theorem dX1_init_133 : decode cX1_init 133 = .ok (.invokestatic 26, 3) := by decide +kernel
theorem dX1_init_136 : decode cX1_init 136 = .ok (.if_icmp .gt 37, 3) := by decide +kernel
theorem dX1_init_139 : decode cX1_init 139 = .ok (.aload_n 0, 1) := by decide +kernel
theorem dX1_init_140 : decode cX1_init 140 = .ok (.getfield 16, 3) := by decide +kernel
theorem dX1_init_143 : decode cX1_init 143 = .ok (.iload_n 1, 1) := by decide +kernel
theorem dX1_init_144 : decode cX1_init 144 = .ok (.aaload, 1) := by decide +kernel
theorem dX1_init_145 : decode cX1_init 145 = .ok (.iload_n 2, 1) := by decide +kernel
theorem dX1_init_146 : decode cX1_init 146 = .ok (.aload_n 0, 1) := by decide +kernel
theorem dX1_init_147 : decode cX1_init 147 = .ok (.getfield 16, 3) := by decide +kernel
theorem dX1_init_150 : decode cX1_init 150 = .ok (.iload_n 1, 1) := by decide +kernel
theorem dX1_init_151 : decode cX1_init 151 = .ok (.aaload, 1) := by decide +kernel
theorem dX1_init_152 : decode cX1_init 152 = .ok (.iload_n 2, 1) := by decide +kernel
theorem dX1_init_153 : decode cX1_init 153 = .ok (.iconst 1, 1) := by decide +kernel
theorem dX1_init_154 : decode cX1_init 154 = .ok (.isub, 1) := by decide +kernel
theorem dX1_init_155 : decode cX1_init 155 = .ok (.iaload, 1) := by decide +kernel
theorem dX1_init_156 : decode cX1_init 156 = .ok (.iload_n 1, 1) := by decide +kernel
theorem dX1_init_157 : decode cX1_init 157 = .ok (.iload_n 2, 1) := by decide +kernel
theorem dX1_init_158 : decode cX1_init 158 = .ok (.isub, 1) := by decide +kernel
theorem dX1_init_159 : decode cX1_init 159 = .ok (.iconst 1, 1) := by decide +kernel
theorem dX1_init_160 : decode cX1_init 160 = .ok (.iadd, 1) := by decide +kernel
theorem dX1_init_161 : decode cX1_init 161 = .ok (.imul, 1) := by decide +kernel
theorem dX1_init_162 : decode cX1_init 162 = .ok (.sipush 10007, 3) := by decide +kernel
theorem dX1_init_165 : decode cX1_init 165 = .ok (.irem, 1) := by decide +kernel
theorem dX1_init_166 : decode cX1_init 166 = .ok (.iastore, 1) := by decide +kernel
theorem dX1_init_167 : decode cX1_init 167 = .ok (.iinc 2 1, 3) := by decide +kernel
theorem dX1_init_170 : decode cX1_init 170 = .ok (.goto (-41), 3) := by decide +kernel
theorem dX1_init_173 : decode cX1_init 173 = .ok (.iinc 1 1, 3) := by decide +kernel
theorem dX1_init_176 : decode cX1_init 176 = .ok (.goto (-64), 3) := by decide +kernel
theorem dX1_init_179 : decode cX1_init 179 = .ok (.return_, 1) := by decide +kernel
theorem dX1_residue_0 : decode cX1_residue 0 = .ok (.iload_n 0, 1) := by decide +kernel
theorem dX1_residue_1 : decode cX1_residue 1 = .ok (.sipush 10007, 3) := by decide +kernel
theorem dX1_residue_4 : decode cX1_residue 4 = .ok (.invokestatic 32, 3) := by decide +kernel
theorem dX1_residue_7 : decode cX1_residue 7 = .ok (.ireturn, 1) := by decide +kernel
theorem dX1_balanced_0 : decode cX1_balanced 0 = .ok (.iload_n 0, 1) := by decide +kernel
theorem dX1_balanced_1 : decode cX1_balanced 1 = .ok (.sipush 5003, 3) := by decide +kernel
theorem dX1_balanced_4 : decode cX1_balanced 4 = .ok (.if_icmp .le 11, 3) := by decide +kernel
theorem dX1_balanced_7 : decode cX1_balanced 7 = .ok (.iload_n 0, 1) := by decide +kernel
theorem dX1_balanced_8 : decode cX1_balanced 8 = .ok (.sipush 10007, 3) := by decide +kernel
theorem dX1_balanced_11 : decode cX1_balanced 11 = .ok (.isub, 1) := by decide +kernel
theorem dX1_balanced_12 : decode cX1_balanced 12 = .ok (.goto 4, 3) := by decide +kernel
theorem dX1_balanced_15 : decode cX1_balanced 15 = .ok (.iload_n 0, 1) := by decide +kernel
theorem dX1_balanced_16 : decode cX1_balanced 16 = .ok (.ireturn, 1) := by decide +kernel
theorem dX1_inverse_0 : decode cX1_inverse 0 = .ok (.iconst 1, 1) := by decide +kernel
theorem dX1_inverse_1 : decode cX1_inverse 1 = .ok (.istore_n 1, 1) := by decide +kernel
theorem dX1_inverse_2 : decode cX1_inverse 2 = .ok (.iload_n 0, 1) := by decide +kernel
theorem dX1_inverse_3 : decode cX1_inverse 3 = .ok (.istore_n 2, 1) := by decide +kernel
theorem dX1_inverse_4 : decode cX1_inverse 4 = .ok (.sipush 10005, 3) := by decide +kernel
theorem dX1_inverse_7 : decode cX1_inverse 7 = .ok (.istore_n 3, 1) := by decide +kernel
theorem dX1_inverse_8 : decode cX1_inverse 8 = .ok (.iload_n 3, 1) := by decide +kernel
theorem dX1_inverse_9 : decode cX1_inverse 9 = .ok (.ifCond .le 33, 3) := by decide +kernel
theorem dX1_inverse_12 : decode cX1_inverse 12 = .ok (.iload_n 3, 1) := by decide +kernel
theorem dX1_inverse_13 : decode cX1_inverse 13 = .ok (.iconst 1, 1) := by decide +kernel
theorem dX1_inverse_14 : decode cX1_inverse 14 = .ok (.iand, 1) := by decide +kernel
theorem dX1_inverse_15 : decode cX1_inverse 15 = .ok (.iconst 1, 1) := by decide +kernel
theorem dX1_inverse_16 : decode cX1_inverse 16 = .ok (.if_icmp .ne 11, 3) := by decide +kernel
theorem dX1_inverse_19 : decode cX1_inverse 19 = .ok (.iload_n 1, 1) := by decide +kernel
theorem dX1_inverse_20 : decode cX1_inverse 20 = .ok (.iload_n 2, 1) := by decide +kernel
theorem dX1_inverse_21 : decode cX1_inverse 21 = .ok (.imul, 1) := by decide +kernel
theorem dX1_inverse_22 : decode cX1_inverse 22 = .ok (.sipush 10007, 3) := by decide +kernel
theorem dX1_inverse_25 : decode cX1_inverse 25 = .ok (.irem, 1) := by decide +kernel
theorem dX1_inverse_26 : decode cX1_inverse 26 = .ok (.istore_n 1, 1) := by decide +kernel
theorem dX1_inverse_27 : decode cX1_inverse 27 = .ok (.iload_n 2, 1) := by decide +kernel
theorem dX1_inverse_28 : decode cX1_inverse 28 = .ok (.iload_n 2, 1) := by decide +kernel
theorem dX1_inverse_29 : decode cX1_inverse 29 = .ok (.imul, 1) := by decide +kernel
theorem dX1_inverse_30 : decode cX1_inverse 30 = .ok (.sipush 10007, 3) := by decide +kernel
theorem dX1_inverse_33 : decode cX1_inverse 33 = .ok (.irem, 1) := by decide +kernel
theorem dX1_inverse_34 : decode cX1_inverse 34 = .ok (.istore_n 2, 1) := by decide +kernel
theorem dX1_inverse_35 : decode cX1_inverse 35 = .ok (.iload_n 3, 1) := by decide +kernel
theorem dX1_inverse_36 : decode cX1_inverse 36 = .ok (.iconst 1, 1) := by decide +kernel
theorem dX1_inverse_37 : decode cX1_inverse 37 = .ok (.ishr, 1) := by decide +kernel
theorem dX1_inverse_38 : decode cX1_inverse 38 = .ok (.istore_n 3, 1) := by decide +kernel
theorem dX1_inverse_39 : decode cX1_inverse 39 = .ok (.goto (-31), 3) := by decide +kernel
theorem dX1_inverse_42 : decode cX1_inverse 42 = .ok (.iload_n 1, 1) := by decide +kernel
theorem dX1_inverse_43 : decode cX1_inverse 43 = .ok (.ireturn, 1) := by decide +kernel
theorem dX1_productFits_0 : decode cX1_productFits 0 = .ok (.aload_n 0, 1) := by decide +kernel
theorem dX1_productFits_1 : decode cX1_productFits 1 = .ok (.invokevirtual 35, 3) := by decide +kernel
theorem dX1_productFits_4 : decode cX1_productFits 4 = .ok (.ifCond .ne 24, 3) := by decide +kernel
theorem dX1_productFits_7 : decode cX1_productFits 7 = .ok (.aload_n 1, 1) := by decide +kernel
theorem dX1_productFits_8 : decode cX1_productFits 8 = .ok (.invokevirtual 35, 3) := by decide +kernel
theorem dX1_productFits_11 : decode cX1_productFits 11 = .ok (.ifCond .ne 17, 3) := by decide +kernel
theorem dX1_productFits_14 : decode cX1_productFits 14 = .ok (.aload_n 0, 1) := by decide +kernel
theorem dX1_productFits_15 : decode cX1_productFits 15 = .ok (.invokevirtual 39, 3) := by decide +kernel
theorem dX1_productFits_18 : decode cX1_productFits 18 = .ok (.aload_n 1, 1) := by decide +kernel
theorem dX1_productFits_19 : decode cX1_productFits 19 = .ok (.invokevirtual 39, 3) := by decide +kernel
theorem dX1_productFits_22 : decode cX1_productFits 22 = .ok (.iadd, 1) := by decide +kernel
theorem dX1_productFits_23 : decode cX1_productFits 23 = .ok (.bipush 12, 2) := by decide +kernel
theorem dX1_productFits_25 : decode cX1_productFits 25 = .ok (.if_icmp .gt 7, 3) := by decide +kernel
theorem dX1_productFits_28 : decode cX1_productFits 28 = .ok (.iconst 1, 1) := by decide +kernel
theorem dX1_productFits_29 : decode cX1_productFits 29 = .ok (.goto 4, 3) := by decide +kernel
theorem dX1_productFits_32 : decode cX1_productFits 32 = .ok (.iconst 0, 1) := by decide +kernel
theorem dX1_productFits_33 : decode cX1_productFits 33 = .ok (.ireturn, 1) := by decide +kernel
theorem dX1_powerFits_0 : decode cX1_powerFits 0 = .ok (.aload_n 0, 1) := by decide +kernel
theorem dX1_powerFits_1 : decode cX1_powerFits 1 = .ok (.invokevirtual 35, 3) := by decide +kernel
theorem dX1_powerFits_4 : decode cX1_powerFits 4 = .ok (.ifCond .ne 14, 3) := by decide +kernel
theorem dX1_powerFits_7 : decode cX1_powerFits 7 = .ok (.aload_n 0, 1) := by decide +kernel
theorem dX1_powerFits_8 : decode cX1_powerFits 8 = .ok (.invokevirtual 39, 3) := by decide +kernel
theorem dX1_powerFits_11 : decode cX1_powerFits 11 = .ok (.iload_n 1, 1) := by decide +kernel
theorem dX1_powerFits_12 : decode cX1_powerFits 12 = .ok (.imul, 1) := by decide +kernel
theorem dX1_powerFits_13 : decode cX1_powerFits 13 = .ok (.bipush 12, 2) := by decide +kernel
theorem dX1_powerFits_15 : decode cX1_powerFits 15 = .ok (.if_icmp .gt 7, 3) := by decide +kernel
theorem dX1_powerFits_18 : decode cX1_powerFits 18 = .ok (.iconst 1, 1) := by decide +kernel
theorem dX1_powerFits_19 : decode cX1_powerFits 19 = .ok (.goto 4, 3) := by decide +kernel
theorem dX1_powerFits_22 : decode cX1_powerFits 22 = .ok (.iconst 0, 1) := by decide +kernel
theorem dX1_powerFits_23 : decode cX1_powerFits 23 = .ok (.ireturn, 1) := by decide +kernel
theorem dX1_addProduct_0 : decode cX1_addProduct 0 = .ok (.aload_n 3, 1) := by decide +kernel
theorem dX1_addProduct_1 : decode cX1_addProduct 1 = .ok (.invokevirtual 43, 3) := by decide +kernel
theorem dX1_addProduct_4 : decode cX1_addProduct 4 = .ok (.istore 5, 2) := by decide +kernel
theorem dX1_addProduct_6 : decode cX1_addProduct 6 = .ok (.aload 4, 2) := by decide +kernel
theorem dX1_addProduct_8 : decode cX1_addProduct 8 = .ok (.invokevirtual 43, 3) := by decide +kernel
theorem dX1_addProduct_11 : decode cX1_addProduct 11 = .ok (.istore 6, 2) := by decide +kernel
theorem dX1_addProduct_13 : decode cX1_addProduct 13 = .ok (.iconst 0, 1) := by decide +kernel
theorem dX1_addProduct_14 : decode cX1_addProduct 14 = .ok (.istore 7, 2) := by decide +kernel
theorem dX1_addProduct_16 : decode cX1_addProduct 16 = .ok (.iload 7, 2) := by decide +kernel
theorem dX1_addProduct_18 : decode cX1_addProduct 18 = .ok (.iload 5, 2) := by decide +kernel
theorem dX1_addProduct_20 : decode cX1_addProduct 20 = .ok (.if_icmp .ge 42, 3) := by decide +kernel
theorem dX1_addProduct_23 : decode cX1_addProduct 23 = .ok (.aload_n 3, 1) := by decide +kernel
theorem dX1_addProduct_24 : decode cX1_addProduct 24 = .ok (.getfield 46, 3) := by decide +kernel
theorem dX1_addProduct_27 : decode cX1_addProduct 27 = .ok (.iload 7, 2) := by decide +kernel
theorem dX1_addProduct_29 : decode cX1_addProduct 29 = .ok (.iaload, 1) := by decide +kernel
theorem dX1_addProduct_30 : decode cX1_addProduct 30 = .ok (.istore 8, 2) := by decide +kernel
theorem dX1_addProduct_32 : decode cX1_addProduct 32 = .ok (.iload 8, 2) := by decide +kernel
theorem dX1_addProduct_34 : decode cX1_addProduct 34 = .ok (.ifCond .eq 22, 3) := by decide +kernel
theorem dX1_addProduct_37 : decode cX1_addProduct 37 = .ok (.aload_n 0, 1) := by decide +kernel
theorem dX1_addProduct_38 : decode cX1_addProduct 38 = .ok (.aload_n 1, 1) := by decide +kernel
theorem dX1_addProduct_39 : decode cX1_addProduct 39 = .ok (.iload_n 2, 1) := by decide +kernel
theorem dX1_addProduct_40 : decode cX1_addProduct 40 = .ok (.iload 8, 2) := by decide +kernel
theorem dX1_addProduct_42 : decode cX1_addProduct 42 = .ok (.imul, 1) := by decide +kernel
theorem dX1_addProduct_43 : decode cX1_addProduct 43 = .ok (.sipush 10007, 3) := by decide +kernel
theorem dX1_addProduct_46 : decode cX1_addProduct 46 = .ok (.irem, 1) := by decide +kernel
theorem dX1_addProduct_47 : decode cX1_addProduct 47 = .ok (.iload 7, 2) := by decide +kernel
theorem dX1_addProduct_49 : decode cX1_addProduct 49 = .ok (.aload 4, 2) := by decide +kernel
theorem dX1_addProduct_51 : decode cX1_addProduct 51 = .ok (.iload 6, 2) := by decide +kernel
theorem dX1_addProduct_53 : decode cX1_addProduct 53 = .ok (.invokevirtual 50, 3) := by decide +kernel
theorem dX1_addProduct_56 : decode cX1_addProduct 56 = .ok (.iinc 7 1, 3) := by decide +kernel
theorem dX1_addProduct_59 : decode cX1_addProduct 59 = .ok (.goto (-43), 3) := by decide +kernel
theorem dX1_addProduct_62 : decode cX1_addProduct 62 = .ok (.return_, 1) := by decide +kernel
theorem dX1_addWordProduct_0 : decode cX1_addWordProduct 0 = .ok (.getstatic 54, 3) := by decide +kernel
theorem dX1_addWordProduct_3 : decode cX1_addWordProduct 3 = .ok (.iload_n 3, 1) := by decide +kernel
theorem dX1_addWordProduct_4 : decode cX1_addWordProduct 4 = .ok (.iaload, 1) := by decide +kernel
theorem dX1_addWordProduct_5 : decode cX1_addWordProduct 5 = .ok (.istore 6, 2) := by decide +kernel
theorem dX1_addWordProduct_7 : decode cX1_addWordProduct 7 = .ok (.getstatic 57, 3) := by decide +kernel
theorem dX1_addWordProduct_10 : decode cX1_addWordProduct 10 = .ok (.iload_n 3, 1) := by decide +kernel
theorem dX1_addWordProduct_11 : decode cX1_addWordProduct 11 = .ok (.iaload, 1) := by decide +kernel
theorem dX1_addWordProduct_12 : decode cX1_addWordProduct 12 = .ok (.istore 7, 2) := by decide +kernel
theorem dX1_addWordProduct_14 : decode cX1_addWordProduct 14 = .ok (.iconst 0, 1) := by decide +kernel
theorem dX1_addWordProduct_15 : decode cX1_addWordProduct 15 = .ok (.istore 8, 2) := by decide +kernel
theorem dX1_addWordProduct_17 : decode cX1_addWordProduct 17 = .ok (.iload 8, 2) := by decide +kernel
theorem dX1_addWordProduct_19 : decode cX1_addWordProduct 19 = .ok (.iload 5, 2) := by decide +kernel
theorem dX1_addWordProduct_21 : decode cX1_addWordProduct 21 = .ok (.if_icmp .ge 178, 3) := by decide +kernel
theorem dX1_addWordProduct_24 : decode cX1_addWordProduct 24 = .ok (.getstatic 54, 3) := by decide +kernel
theorem dX1_addWordProduct_27 : decode cX1_addWordProduct 27 = .ok (.iload 8, 2) := by decide +kernel
theorem dX1_addWordProduct_29 : decode cX1_addWordProduct 29 = .ok (.iaload, 1) := by decide +kernel
theorem dX1_addWordProduct_30 : decode cX1_addWordProduct 30 = .ok (.istore 9, 2) := by decide +kernel
theorem dX1_addWordProduct_32 : decode cX1_addWordProduct 32 = .ok (.iload 7, 2) := by decide +kernel
theorem dX1_addWordProduct_34 : decode cX1_addWordProduct 34 = .ok (.getstatic 57, 3) := by decide +kernel
theorem dX1_addWordProduct_37 : decode cX1_addWordProduct 37 = .ok (.iload 8, 2) := by decide +kernel
theorem dX1_addWordProduct_39 : decode cX1_addWordProduct 39 = .ok (.iaload, 1) := by decide +kernel
theorem dX1_addWordProduct_40 : decode cX1_addWordProduct 40 = .ok (.iadd, 1) := by decide +kernel
theorem dX1_addWordProduct_41 : decode cX1_addWordProduct 41 = .ok (.istore 10, 2) := by decide +kernel
theorem dX1_addWordProduct_43 : decode cX1_addWordProduct 43 = .ok (.iload_n 2, 1) := by decide +kernel
theorem dX1_addWordProduct_44 : decode cX1_addWordProduct 44 = .ok (.aload 4, 2) := by decide +kernel
theorem dX1_addWordProduct_46 : decode cX1_addWordProduct 46 = .ok (.getfield 46, 3) := by decide +kernel
theorem dX1_addWordProduct_49 : decode cX1_addWordProduct 49 = .ok (.iload 8, 2) := by decide +kernel
theorem dX1_addWordProduct_51 : decode cX1_addWordProduct 51 = .ok (.iaload, 1) := by decide +kernel
theorem dX1_addWordProduct_52 : decode cX1_addWordProduct 52 = .ok (.imul, 1) := by decide +kernel
theorem dX1_addWordProduct_53 : decode cX1_addWordProduct 53 = .ok (.sipush 10007, 3) := by decide +kernel
theorem dX1_addWordProduct_56 : decode cX1_addWordProduct 56 = .ok (.irem, 1) := by decide +kernel
theorem dX1_addWordProduct_57 : decode cX1_addWordProduct 57 = .ok (.istore 11, 2) := by decide +kernel
theorem dX1_addWordProduct_59 : decode cX1_addWordProduct 59 = .ok (.iload 11, 2) := by decide +kernel
theorem dX1_addWordProduct_61 : decode cX1_addWordProduct 61 = .ok (.ifCond .eq 16, 3) := by decide +kernel
theorem dX1_addWordProduct_64 : decode cX1_addWordProduct 64 = .ok (.iload 6, 2) := by decide +kernel
theorem dX1_addWordProduct_66 : decode cX1_addWordProduct 66 = .ok (.iload 9, 2) := by decide +kernel
theorem dX1_addWordProduct_68 : decode cX1_addWordProduct 68 = .ok (.iadd, 1) := by decide +kernel
theorem dX1_addWordProduct_69 : decode cX1_addWordProduct 69 = .ok (.iload 10, 2) := by decide +kernel
theorem dX1_addWordProduct_71 : decode cX1_addWordProduct 71 = .ok (.iadd, 1) := by decide +kernel
theorem dX1_addWordProduct_72 : decode cX1_addWordProduct 72 = .ok (.bipush 12, 2) := by decide +kernel
theorem dX1_addWordProduct_74 : decode cX1_addWordProduct 74 = .ok (.if_icmp .le 7, 3) := by decide +kernel
theorem dX1_addWordProduct_77 : decode cX1_addWordProduct 77 = .ok (.iconst (-1), 1) := by decide +kernel
theorem dX1_addWordProduct_78 : decode cX1_addWordProduct 78 = .ok (.goto 10, 3) := by decide +kernel
theorem dX1_addWordProduct_81 : decode cX1_addWordProduct 81 = .ok (.iload 7, 2) := by decide +kernel
theorem dX1_addWordProduct_83 : decode cX1_addWordProduct 83 = .ok (.iload 9, 2) := by decide +kernel
theorem dX1_addWordProduct_85 : decode cX1_addWordProduct 85 = .ok (.invokestatic 26, 3) := by decide +kernel
theorem dX1_addWordProduct_88 : decode cX1_addWordProduct 88 = .ok (.istore 12, 2) := by decide +kernel
theorem dX1_addWordProduct_90 : decode cX1_addWordProduct 90 = .ok (.iconst 0, 1) := by decide +kernel
theorem dX1_addWordProduct_91 : decode cX1_addWordProduct 91 = .ok (.istore 13, 2) := by decide +kernel
theorem dX1_addWordProduct_93 : decode cX1_addWordProduct 93 = .ok (.iload 13, 2) := by decide +kernel
theorem dX1_addWordProduct_95 : decode cX1_addWordProduct 95 = .ok (.iload 12, 2) := by decide +kernel
theorem dX1_addWordProduct_97 : decode cX1_addWordProduct 97 = .ok (.if_icmp .gt 96, 3) := by decide +kernel
theorem dX1_addWordProduct_100 : decode cX1_addWordProduct 100 = .ok (.iload 6, 2) := by decide +kernel
theorem dX1_addWordProduct_102 : decode cX1_addWordProduct 102 = .ok (.iload 9, 2) := by decide +kernel
theorem dX1_addWordProduct_104 : decode cX1_addWordProduct 104 = .ok (.iadd, 1) := by decide +kernel
theorem dX1_addWordProduct_105 : decode cX1_addWordProduct 105 = .ok (.iload 10, 2) := by decide +kernel
theorem dX1_addWordProduct_107 : decode cX1_addWordProduct 107 = .ok (.iadd, 1) := by decide +kernel
theorem dX1_addWordProduct_108 : decode cX1_addWordProduct 108 = .ok (.iconst 2, 1) := by decide +kernel
theorem dX1_addWordProduct_109 : decode cX1_addWordProduct 109 = .ok (.iload 13, 2) := by decide +kernel
theorem dX1_addWordProduct_111 : decode cX1_addWordProduct 111 = .ok (.imul, 1) := by decide +kernel
theorem dX1_addWordProduct_112 : decode cX1_addWordProduct 112 = .ok (.isub, 1) := by decide +kernel
theorem dX1_addWordProduct_113 : decode cX1_addWordProduct 113 = .ok (.istore 14, 2) := by decide +kernel
theorem dX1_addWordProduct_115 : decode cX1_addWordProduct 115 = .ok (.iload 14, 2) := by decide +kernel
theorem dX1_addWordProduct_117 : decode cX1_addWordProduct 117 = .ok (.iload 14, 2) := by decide +kernel
theorem dX1_addWordProduct_119 : decode cX1_addWordProduct 119 = .ok (.iconst 1, 1) := by decide +kernel
theorem dX1_addWordProduct_120 : decode cX1_addWordProduct 120 = .ok (.iadd, 1) := by decide +kernel
theorem dX1_addWordProduct_121 : decode cX1_addWordProduct 121 = .ok (.imul, 1) := by decide +kernel
theorem dX1_addWordProduct_122 : decode cX1_addWordProduct 122 = .ok (.iconst 2, 1) := by decide +kernel
theorem dX1_addWordProduct_123 : decode cX1_addWordProduct 123 = .ok (.idiv, 1) := by decide +kernel
theorem dX1_addWordProduct_124 : decode cX1_addWordProduct 124 = .ok (.iload 10, 2) := by decide +kernel
theorem dX1_addWordProduct_126 : decode cX1_addWordProduct 126 = .ok (.iadd, 1) := by decide +kernel
theorem dX1_addWordProduct_127 : decode cX1_addWordProduct 127 = .ok (.iload 13, 2) := by decide +kernel
theorem dX1_addWordProduct_129 : decode cX1_addWordProduct 129 = .ok (.isub, 1) := by decide +kernel
theorem dX1_addWordProduct_130 : decode cX1_addWordProduct 130 = .ok (.istore 15, 2) := by decide +kernel
theorem dX1_addWordProduct_132 : decode cX1_addWordProduct 132 = .ok (.iload 11, 2) := by decide +kernel
theorem dX1_addWordProduct_134 : decode cX1_addWordProduct 134 = .ok (.aload_n 0, 1) := by decide +kernel
theorem dX1_addWordProduct_135 : decode cX1_addWordProduct 135 = .ok (.getfield 11, 3) := by decide +kernel
theorem dX1_addWordProduct_138 : decode cX1_addWordProduct 138 = .ok (.iload 7, 2) := by decide +kernel
theorem dX1_addWordProduct_140 : decode cX1_addWordProduct 140 = .ok (.aaload, 1) := by decide +kernel
theorem dX1_addWordProduct_141 : decode cX1_addWordProduct 141 = .ok (.iload 13, 2) := by decide +kernel
theorem dX1_addWordProduct_143 : decode cX1_addWordProduct 143 = .ok (.iaload, 1) := by decide +kernel
theorem dX1_addWordProduct_144 : decode cX1_addWordProduct 144 = .ok (.aload_n 0, 1) := by decide +kernel
theorem dX1_addWordProduct_145 : decode cX1_addWordProduct 145 = .ok (.getfield 16, 3) := by decide +kernel
theorem dX1_addWordProduct_148 : decode cX1_addWordProduct 148 = .ok (.iload 9, 2) := by decide +kernel
theorem dX1_addWordProduct_150 : decode cX1_addWordProduct 150 = .ok (.aaload, 1) := by decide +kernel
theorem dX1_addWordProduct_151 : decode cX1_addWordProduct 151 = .ok (.iload 13, 2) := by decide +kernel
theorem dX1_addWordProduct_153 : decode cX1_addWordProduct 153 = .ok (.iaload, 1) := by decide +kernel
theorem dX1_addWordProduct_154 : decode cX1_addWordProduct 154 = .ok (.imul, 1) := by decide +kernel
theorem dX1_addWordProduct_155 : decode cX1_addWordProduct 155 = .ok (.sipush 10007, 3) := by decide +kernel
theorem dX1_addWordProduct_158 : decode cX1_addWordProduct 158 = .ok (.irem, 1) := by decide +kernel
theorem dX1_addWordProduct_159 : decode cX1_addWordProduct 159 = .ok (.imul, 1) := by decide +kernel
theorem dX1_addWordProduct_160 : decode cX1_addWordProduct 160 = .ok (.sipush 10007, 3) := by decide +kernel
theorem dX1_addWordProduct_163 : decode cX1_addWordProduct 163 = .ok (.irem, 1) := by decide +kernel
theorem dX1_addWordProduct_164 : decode cX1_addWordProduct 164 = .ok (.istore 16, 2) := by decide +kernel
theorem dX1_addWordProduct_166 : decode cX1_addWordProduct 166 = .ok (.aload_n 1, 1) := by decide +kernel
theorem dX1_addWordProduct_167 : decode cX1_addWordProduct 167 = .ok (.getfield 46, 3) := by decide +kernel
theorem dX1_addWordProduct_170 : decode cX1_addWordProduct 170 = .ok (.iload 15, 2) := by decide +kernel
theorem dX1_addWordProduct_172 : decode cX1_addWordProduct 172 = .ok (.aload_n 1, 1) := by decide +kernel
theorem dX1_addWordProduct_173 : decode cX1_addWordProduct 173 = .ok (.getfield 46, 3) := by decide +kernel
theorem dX1_addWordProduct_176 : decode cX1_addWordProduct 176 = .ok (.iload 15, 2) := by decide +kernel
theorem dX1_addWordProduct_178 : decode cX1_addWordProduct 178 = .ok (.iaload, 1) := by decide +kernel
theorem dX1_addWordProduct_179 : decode cX1_addWordProduct 179 = .ok (.iload 16, 2) := by decide +kernel
theorem dX1_addWordProduct_181 : decode cX1_addWordProduct 181 = .ok (.iadd, 1) := by decide +kernel
theorem dX1_addWordProduct_182 : decode cX1_addWordProduct 182 = .ok (.sipush 10007, 3) := by decide +kernel
theorem dX1_addWordProduct_185 : decode cX1_addWordProduct 185 = .ok (.irem, 1) := by decide +kernel
theorem dX1_addWordProduct_186 : decode cX1_addWordProduct 186 = .ok (.iastore, 1) := by decide +kernel
theorem dX1_addWordProduct_187 : decode cX1_addWordProduct 187 = .ok (.iinc 13 1, 3) := by decide +kernel
theorem dX1_addWordProduct_190 : decode cX1_addWordProduct 190 = .ok (.goto (-97), 3) := by decide +kernel
theorem dX1_addWordProduct_193 : decode cX1_addWordProduct 193 = .ok (.iinc 8 1, 3) := by decide +kernel
theorem dX1_addWordProduct_196 : decode cX1_addWordProduct 196 = .ok (.goto (-179), 3) := by decide +kernel
theorem dX1_addWordProduct_199 : decode cX1_addWordProduct 199 = .ok (.return_, 1) := by decide +kernel
theorem dX1_raise_0 : decode cX1_raise 0 = .ok (.aload_n 1, 1) := by decide +kernel
theorem dX1_raise_1 : decode cX1_raise 1 = .ok (.iconst 1, 1) := by decide +kernel
theorem dX1_raise_2 : decode cX1_raise 2 = .ok (.invokevirtual 60, 3) := by decide +kernel
theorem dX1_raise_5 : decode cX1_raise 5 = .ok (.iconst 0, 1) := by decide +kernel
theorem dX1_raise_6 : decode cX1_raise 6 = .ok (.istore 4, 2) := by decide +kernel
theorem dX1_raise_8 : decode cX1_raise 8 = .ok (.iload 4, 2) := by decide +kernel
theorem dX1_raise_10 : decode cX1_raise 10 = .ok (.iload_n 3, 1) := by decide +kernel
theorem dX1_raise_11 : decode cX1_raise 11 = .ok (.if_icmp .ge 35, 3) := by decide +kernel
theorem dX1_raise_14 : decode cX1_raise 14 = .ok (.aload_n 0, 1) := by decide +kernel
theorem dX1_raise_15 : decode cX1_raise 15 = .ok (.getfield 22, 3) := by decide +kernel
theorem dX1_raise_18 : decode cX1_raise 18 = .ok (.invokevirtual 64, 3) := by decide +kernel
theorem dX1_raise_21 : decode cX1_raise 21 = .ok (.aload_n 0, 1) := by decide +kernel
theorem dX1_raise_22 : decode cX1_raise 22 = .ok (.aload_n 0, 1) := by decide +kernel
theorem dX1_raise_23 : decode cX1_raise 23 = .ok (.getfield 22, 3) := by decide +kernel
theorem dX1_raise_26 : decode cX1_raise 26 = .ok (.iconst 1, 1) := by decide +kernel
theorem dX1_raise_27 : decode cX1_raise 27 = .ok (.aload_n 2, 1) := by decide +kernel
theorem dX1_raise_28 : decode cX1_raise 28 = .ok (.aload_n 1, 1) := by decide +kernel
theorem dX1_raise_29 : decode cX1_raise 29 = .ok (.invokevirtual 67, 3) := by decide +kernel
theorem dX1_raise_32 : decode cX1_raise 32 = .ok (.aload_n 1, 1) := by decide +kernel
theorem dX1_raise_33 : decode cX1_raise 33 = .ok (.aload_n 0, 1) := by decide +kernel
theorem dX1_raise_34 : decode cX1_raise 34 = .ok (.getfield 22, 3) := by decide +kernel
theorem dX1_raise_37 : decode cX1_raise 37 = .ok (.invokevirtual 71, 3) := by decide +kernel
theorem dX1_raise_40 : decode cX1_raise 40 = .ok (.iinc 4 1, 3) := by decide +kernel
theorem dX1_raise_43 : decode cX1_raise 43 = .ok (.goto (-35), 3) := by decide +kernel
theorem dX1_raise_46 : decode cX1_raise 46 = .ok (.return_, 1) := by decide +kernel
theorem dX1_adjoin_0 : decode cX1_adjoin 0 = .ok (.aload_n 1, 1) := by decide +kernel
theorem dX1_adjoin_1 : decode cX1_adjoin 1 = .ok (.invokevirtual 64, 3) := by decide +kernel
theorem dX1_adjoin_4 : decode cX1_adjoin 4 = .ok (.iconst 0, 1) := by decide +kernel
theorem dX1_adjoin_5 : decode cX1_adjoin 5 = .ok (.istore_n 3, 1) := by decide +kernel
theorem dX1_adjoin_6 : decode cX1_adjoin 6 = .ok (.iload_n 3, 1) := by decide +kernel
theorem dX1_adjoin_7 : decode cX1_adjoin 7 = .ok (.bipush 12, 2) := by decide +kernel
theorem dX1_adjoin_9 : decode cX1_adjoin 9 = .ok (.if_icmp .gt 89, 3) := by decide +kernel
theorem dX1_adjoin_12 : decode cX1_adjoin 12 = .ok (.aload_n 0, 1) := by decide +kernel
theorem dX1_adjoin_13 : decode cX1_adjoin 13 = .ok (.getfield 22, 3) := by decide +kernel
theorem dX1_adjoin_16 : decode cX1_adjoin 16 = .ok (.invokevirtual 64, 3) := by decide +kernel
theorem dX1_adjoin_19 : decode cX1_adjoin 19 = .ok (.iconst 0, 1) := by decide +kernel
theorem dX1_adjoin_20 : decode cX1_adjoin 20 = .ok (.istore 4, 2) := by decide +kernel
theorem dX1_adjoin_22 : decode cX1_adjoin 22 = .ok (.iload 4, 2) := by decide +kernel
theorem dX1_adjoin_24 : decode cX1_adjoin 24 = .ok (.iload_n 3, 1) := by decide +kernel
theorem dX1_adjoin_25 : decode cX1_adjoin 25 = .ok (.iadd, 1) := by decide +kernel
theorem dX1_adjoin_26 : decode cX1_adjoin 26 = .ok (.bipush 12, 2) := by decide +kernel
theorem dX1_adjoin_28 : decode cX1_adjoin 28 = .ok (.if_icmp .gt 26, 3) := by decide +kernel
theorem dX1_adjoin_31 : decode cX1_adjoin 31 = .ok (.aload_n 0, 1) := by decide +kernel
theorem dX1_adjoin_32 : decode cX1_adjoin 32 = .ok (.getfield 22, 3) := by decide +kernel
theorem dX1_adjoin_35 : decode cX1_adjoin 35 = .ok (.iload 4, 2) := by decide +kernel
theorem dX1_adjoin_37 : decode cX1_adjoin 37 = .ok (.iconst 0, 1) := by decide +kernel
theorem dX1_adjoin_38 : decode cX1_adjoin 38 = .ok (.aload_n 2, 1) := by decide +kernel
theorem dX1_adjoin_39 : decode cX1_adjoin 39 = .ok (.iload 4, 2) := by decide +kernel
theorem dX1_adjoin_41 : decode cX1_adjoin 41 = .ok (.iload_n 3, 1) := by decide +kernel
theorem dX1_adjoin_42 : decode cX1_adjoin 42 = .ok (.invokevirtual 75, 3) := by decide +kernel
theorem dX1_adjoin_45 : decode cX1_adjoin 45 = .ok (.invokevirtual 78, 3) := by decide +kernel
theorem dX1_adjoin_48 : decode cX1_adjoin 48 = .ok (.iinc 4 1, 3) := by decide +kernel
theorem dX1_adjoin_51 : decode cX1_adjoin 51 = .ok (.goto (-29), 3) := by decide +kernel
theorem dX1_adjoin_54 : decode cX1_adjoin 54 = .ok (.iload_n 3, 1) := by decide +kernel
theorem dX1_adjoin_55 : decode cX1_adjoin 55 = .ok (.iconst 2, 1) := by decide +kernel
theorem dX1_adjoin_56 : decode cX1_adjoin 56 = .ok (.irem, 1) := by decide +kernel
theorem dX1_adjoin_57 : decode cX1_adjoin 57 = .ok (.ifCond .ne 7, 3) := by decide +kernel
theorem dX1_adjoin_60 : decode cX1_adjoin 60 = .ok (.iconst 1, 1) := by decide +kernel
theorem dX1_adjoin_61 : decode cX1_adjoin 61 = .ok (.goto 6, 3) := by decide +kernel
theorem dX1_adjoin_64 : decode cX1_adjoin 64 = .ok (.sipush 10006, 3) := by decide +kernel
theorem dX1_adjoin_67 : decode cX1_adjoin 67 = .ok (.istore 4, 2) := by decide +kernel
theorem dX1_adjoin_69 : decode cX1_adjoin 69 = .ok (.aload_n 0, 1) := by decide +kernel
theorem dX1_adjoin_70 : decode cX1_adjoin 70 = .ok (.aload_n 1, 1) := by decide +kernel
theorem dX1_adjoin_71 : decode cX1_adjoin 71 = .ok (.iload 4, 2) := by decide +kernel
theorem dX1_adjoin_73 : decode cX1_adjoin 73 = .ok (.iconst 0, 1) := by decide +kernel
theorem dX1_adjoin_74 : decode cX1_adjoin 74 = .ok (.iload_n 3, 1) := by decide +kernel
theorem dX1_adjoin_75 : decode cX1_adjoin 75 = .ok (.invokestatic 82, 3) := by decide +kernel
theorem dX1_adjoin_78 : decode cX1_adjoin 78 = .ok (.aload_n 0, 1) := by decide +kernel
theorem dX1_adjoin_79 : decode cX1_adjoin 79 = .ok (.getfield 22, 3) := by decide +kernel
theorem dX1_adjoin_82 : decode cX1_adjoin 82 = .ok (.aload_n 0, 1) := by decide +kernel
theorem dX1_adjoin_83 : decode cX1_adjoin 83 = .ok (.getfield 22, 3) := by decide +kernel
theorem dX1_adjoin_86 : decode cX1_adjoin 86 = .ok (.invokevirtual 43, 3) := by decide +kernel
theorem dX1_adjoin_89 : decode cX1_adjoin 89 = .ok (.invokevirtual 50, 3) := by decide +kernel
theorem dX1_adjoin_92 : decode cX1_adjoin 92 = .ok (.iinc 3 1, 3) := by decide +kernel
theorem dX1_adjoin_95 : decode cX1_adjoin 95 = .ok (.goto (-89), 3) := by decide +kernel
theorem dX1_adjoin_98 : decode cX1_adjoin 98 = .ok (.return_, 1) := by decide +kernel
theorem dX2_init_0 : decode cX2_init 0 = .ok (.aload_n 0, 1) := by decide +kernel
theorem dX2_init_1 : decode cX2_init 1 = .ok (.invokespecial 3, 3) := by decide +kernel
theorem dX2_init_4 : decode cX2_init 4 = .ok (.aload_n 0, 1) := by decide +kernel
theorem dX2_init_5 : decode cX2_init 5 = .ok (.iconst 4, 1) := by decide +kernel
theorem dX2_init_6 : decode cX2_init 6 = .ok (.anewarray 11, 3) := by decide +kernel
theorem dX2_init_9 : decode cX2_init 9 = .ok (.putfield 13, 3) := by decide +kernel
theorem dX2_init_12 : decode cX2_init 12 = .ok (.aload_n 0, 1) := by decide +kernel
theorem dX2_init_13 : decode cX2_init 13 = .ok (.iconst 4, 1) := by decide +kernel
theorem dX2_init_14 : decode cX2_init 14 = .ok (.newarray .int, 2) := by decide +kernel
theorem dX2_init_16 : decode cX2_init 16 = .ok (.putfield 17, 3) := by decide +kernel
theorem dX2_init_19 : decode cX2_init 19 = .ok (.aload_n 0, 1) := by decide +kernel
theorem dX2_init_20 : decode cX2_init 20 = .ok (.iconst 4, 1) := by decide +kernel
theorem dX2_init_21 : decode cX2_init 21 = .ok (.newarray .int, 2) := by decide +kernel
theorem dX2_init_23 : decode cX2_init 23 = .ok (.putfield 21, 3) := by decide +kernel
theorem dX2_init_26 : decode cX2_init 26 = .ok (.aload_n 0, 1) := by decide +kernel
theorem dX2_init_27 : decode cX2_init 27 = .ok (.bipush 60, 2) := by decide +kernel
theorem dX2_init_29 : decode cX2_init 29 = .ok (.newarray .int, 2) := by decide +kernel
theorem dX2_init_31 : decode cX2_init 31 = .ok (.putfield 24, 3) := by decide +kernel
theorem dX2_init_34 : decode cX2_init 34 = .ok (.aload_n 0, 1) := by decide +kernel
theorem dX2_init_35 : decode cX2_init 35 = .ok (.iconst (-1), 1) := by decide +kernel
theorem dX2_init_36 : decode cX2_init 36 = .ok (.putfield 27, 3) := by decide +kernel
theorem dX2_init_39 : decode cX2_init 39 = .ok (.aload_n 0, 1) := by decide +kernel
theorem dX2_init_40 : decode cX2_init 40 = .ok (.iconst 0, 1) := by decide +kernel
theorem dX2_init_41 : decode cX2_init 41 = .ok (.putfield 31, 3) := by decide +kernel
theorem dX2_init_44 : decode cX2_init 44 = .ok (.iconst 0, 1) := by decide +kernel
theorem dX2_init_45 : decode cX2_init 45 = .ok (.istore_n 1, 1) := by decide +kernel
theorem dX2_init_46 : decode cX2_init 46 = .ok (.iload_n 1, 1) := by decide +kernel
theorem dX2_init_47 : decode cX2_init 47 = .ok (.iconst 4, 1) := by decide +kernel
theorem dX2_init_48 : decode cX2_init 48 = .ok (.if_icmp .ge 22, 3) := by decide +kernel
theorem dX2_init_51 : decode cX2_init 51 = .ok (.aload_n 0, 1) := by decide +kernel
theorem dX2_init_52 : decode cX2_init 52 = .ok (.getfield 13, 3) := by decide +kernel
theorem dX2_init_55 : decode cX2_init 55 = .ok (.iload_n 1, 1) := by decide +kernel
theorem dX2_init_56 : decode cX2_init 56 = .ok (.new 11, 3) := by decide +kernel
theorem dX2_init_59 : decode cX2_init 59 = .ok (.dup, 1) := by decide +kernel
theorem dX2_init_60 : decode cX2_init 60 = .ok (.invokespecial 34, 3) := by decide +kernel
theorem dX2_init_63 : decode cX2_init 63 = .ok (.aastore, 1) := by decide +kernel
theorem dX2_init_64 : decode cX2_init 64 = .ok (.iinc 1 1, 3) := by decide +kernel
theorem dX2_init_67 : decode cX2_init 67 = .ok (.goto (-21), 3) := by decide +kernel
theorem dX2_init_70 : decode cX2_init 70 = .ok (.return_, 1) := by decide +kernel
theorem dX2_covers_0 : decode cX2_covers 0 = .ok (.iconst 0, 1) := by decide +kernel
theorem dX2_covers_1 : decode cX2_covers 1 = .ok (.istore_n 3, 1) := by decide +kernel
theorem dX2_covers_2 : decode cX2_covers 2 = .ok (.iload_n 3, 1) := by decide +kernel
theorem dX2_covers_3 : decode cX2_covers 3 = .ok (.aload_n 0, 1) := by decide +kernel
theorem dX2_covers_4 : decode cX2_covers 4 = .ok (.getfield 31, 3) := by decide +kernel
theorem dX2_covers_7 : decode cX2_covers 7 = .ok (.if_icmp .ge 31, 3) := by decide +kernel
theorem dX2_covers_10 : decode cX2_covers 10 = .ok (.aload_n 0, 1) := by decide +kernel
theorem dX2_covers_11 : decode cX2_covers 11 = .ok (.getfield 17, 3) := by decide +kernel
theorem dX2_covers_14 : decode cX2_covers 14 = .ok (.iload_n 3, 1) := by decide +kernel
theorem dX2_covers_15 : decode cX2_covers 15 = .ok (.iaload, 1) := by decide +kernel
theorem dX2_covers_16 : decode cX2_covers 16 = .ok (.iload_n 1, 1) := by decide +kernel
theorem dX2_covers_17 : decode cX2_covers 17 = .ok (.if_icmp .gt 15, 3) := by decide +kernel
theorem dX2_covers_20 : decode cX2_covers 20 = .ok (.aload_n 0, 1) := by decide +kernel
theorem dX2_covers_21 : decode cX2_covers 21 = .ok (.getfield 21, 3) := by decide +kernel
theorem dX2_covers_24 : decode cX2_covers 24 = .ok (.iload_n 3, 1) := by decide +kernel
theorem dX2_covers_25 : decode cX2_covers 25 = .ok (.iaload, 1) := by decide +kernel
theorem dX2_covers_26 : decode cX2_covers 26 = .ok (.iload_n 2, 1) := by decide +kernel
theorem dX2_covers_27 : decode cX2_covers 27 = .ok (.if_icmp .gt 5, 3) := by decide +kernel
theorem dX2_covers_30 : decode cX2_covers 30 = .ok (.iconst 1, 1) := by decide +kernel
theorem dX2_covers_31 : decode cX2_covers 31 = .ok (.ireturn, 1) := by decide +kernel
theorem dX2_covers_32 : decode cX2_covers 32 = .ok (.iinc 3 1, 3) := by decide +kernel
theorem dX2_covers_35 : decode cX2_covers 35 = .ok (.goto (-33), 3) := by decide +kernel
theorem dX2_covers_38 : decode cX2_covers 38 = .ok (.iconst 0, 1) := by decide +kernel
theorem dX2_covers_39 : decode cX2_covers 39 = .ok (.ireturn, 1) := by decide +kernel
theorem dX2_isFor_0 : decode cX2_isFor 0 = .ok (.aload_n 0, 1) := by decide +kernel
theorem dX2_isFor_1 : decode cX2_isFor 1 = .ok (.getfield 27, 3) := by decide +kernel
theorem dX2_isFor_4 : decode cX2_isFor 4 = .ok (.aload_n 1, 1) := by decide +kernel
theorem dX2_isFor_5 : decode cX2_isFor 5 = .ok (.getfield 35, 3) := by decide +kernel
theorem dX2_isFor_8 : decode cX2_isFor 8 = .ok (.if_icmp .eq 5, 3) := by decide +kernel
theorem dX2_isFor_11 : decode cX2_isFor 11 = .ok (.iconst 0, 1) := by decide +kernel
theorem dX2_isFor_12 : decode cX2_isFor 12 = .ok (.ireturn, 1) := by decide +kernel
theorem dX2_isFor_13 : decode cX2_isFor 13 = .ok (.iconst 0, 1) := by decide +kernel
theorem dX2_isFor_14 : decode cX2_isFor 14 = .ok (.istore_n 3, 1) := by decide +kernel
theorem dX2_isFor_15 : decode cX2_isFor 15 = .ok (.iload_n 3, 1) := by decide +kernel
theorem dX2_isFor_16 : decode cX2_isFor 16 = .ok (.bipush 6, 2) := by decide +kernel
theorem dX2_isFor_18 : decode cX2_isFor 18 = .ok (.if_icmp .ge 50, 3) := by decide +kernel
theorem dX2_isFor_21 : decode cX2_isFor 21 = .ok (.iconst 0, 1) := by decide +kernel
theorem dX2_isFor_22 : decode cX2_isFor 22 = .ok (.istore 4, 2) := by decide +kernel
theorem dX2_isFor_24 : decode cX2_isFor 24 = .ok (.iload 4, 2) := by decide +kernel
theorem dX2_isFor_26 : decode cX2_isFor 26 = .ok (.bipush 10, 2) := by decide +kernel
theorem dX2_isFor_28 : decode cX2_isFor 28 = .ok (.if_icmp .ge 34, 3) := by decide +kernel
theorem dX2_isFor_31 : decode cX2_isFor 31 = .ok (.aload_n 0, 1) := by decide +kernel
theorem dX2_isFor_32 : decode cX2_isFor 32 = .ok (.getfield 24, 3) := by decide +kernel
theorem dX2_isFor_35 : decode cX2_isFor 35 = .ok (.iload_n 3, 1) := by decide +kernel
theorem dX2_isFor_36 : decode cX2_isFor 36 = .ok (.bipush 10, 2) := by decide +kernel
theorem dX2_isFor_38 : decode cX2_isFor 38 = .ok (.imul, 1) := by decide +kernel
theorem dX2_isFor_39 : decode cX2_isFor 39 = .ok (.iload 4, 2) := by decide +kernel
theorem dX2_isFor_41 : decode cX2_isFor 41 = .ok (.iadd, 1) := by decide +kernel
theorem dX2_isFor_42 : decode cX2_isFor 42 = .ok (.iaload, 1) := by decide +kernel
theorem dX2_isFor_43 : decode cX2_isFor 43 = .ok (.aload_n 1, 1) := by decide +kernel
theorem dX2_isFor_44 : decode cX2_isFor 44 = .ok (.iload_n 2, 1) := by decide +kernel
theorem dX2_isFor_45 : decode cX2_isFor 45 = .ok (.iload_n 3, 1) := by decide +kernel
theorem dX2_isFor_46 : decode cX2_isFor 46 = .ok (.iload 4, 2) := by decide +kernel
theorem dX2_isFor_48 : decode cX2_isFor 48 = .ok (.invokestatic 40, 3) := by decide +kernel
theorem dX2_isFor_51 : decode cX2_isFor 51 = .ok (.if_icmp .eq 5, 3) := by decide +kernel
theorem dX2_isFor_54 : decode cX2_isFor 54 = .ok (.iconst 0, 1) := by decide +kernel
theorem dX2_isFor_55 : decode cX2_isFor 55 = .ok (.ireturn, 1) := by decide +kernel
theorem dX2_isFor_56 : decode cX2_isFor 56 = .ok (.iinc 4 1, 3) := by decide +kernel
theorem dX2_isFor_59 : decode cX2_isFor 59 = .ok (.goto (-35), 3) := by decide +kernel
theorem dX2_isFor_62 : decode cX2_isFor 62 = .ok (.iinc 3 1, 3) := by decide +kernel
theorem dX2_isFor_65 : decode cX2_isFor 65 = .ok (.goto (-50), 3) := by decide +kernel
theorem dX2_isFor_68 : decode cX2_isFor 68 = .ok (.iconst 1, 1) := by decide +kernel
theorem dX2_isFor_69 : decode cX2_isFor 69 = .ok (.ireturn, 1) := by decide +kernel
theorem dX2_begin_0 : decode cX2_begin 0 = .ok (.aload_n 0, 1) := by decide +kernel
theorem dX2_begin_1 : decode cX2_begin 1 = .ok (.aload_n 1, 1) := by decide +kernel
theorem dX2_begin_2 : decode cX2_begin 2 = .ok (.getfield 35, 3) := by decide +kernel
theorem dX2_begin_5 : decode cX2_begin 5 = .ok (.putfield 27, 3) := by decide +kernel
theorem dX2_begin_8 : decode cX2_begin 8 = .ok (.aload_n 0, 1) := by decide +kernel
theorem dX2_begin_9 : decode cX2_begin 9 = .ok (.iconst 0, 1) := by decide +kernel
theorem dX2_begin_10 : decode cX2_begin 10 = .ok (.putfield 31, 3) := by decide +kernel
theorem dX2_begin_13 : decode cX2_begin 13 = .ok (.iconst 0, 1) := by decide +kernel
theorem dX2_begin_14 : decode cX2_begin 14 = .ok (.istore_n 3, 1) := by decide +kernel
theorem dX2_begin_15 : decode cX2_begin 15 = .ok (.iload_n 3, 1) := by decide +kernel
theorem dX2_begin_16 : decode cX2_begin 16 = .ok (.bipush 6, 2) := by decide +kernel
theorem dX2_begin_18 : decode cX2_begin 18 = .ok (.if_icmp .ge 45, 3) := by decide +kernel
theorem dX2_begin_21 : decode cX2_begin 21 = .ok (.iconst 0, 1) := by decide +kernel
theorem dX2_begin_22 : decode cX2_begin 22 = .ok (.istore 4, 2) := by decide +kernel
theorem dX2_begin_24 : decode cX2_begin 24 = .ok (.iload 4, 2) := by decide +kernel
theorem dX2_begin_26 : decode cX2_begin 26 = .ok (.bipush 10, 2) := by decide +kernel
theorem dX2_begin_28 : decode cX2_begin 28 = .ok (.if_icmp .ge 29, 3) := by decide +kernel
theorem dX2_begin_31 : decode cX2_begin 31 = .ok (.aload_n 0, 1) := by decide +kernel
theorem dX2_begin_32 : decode cX2_begin 32 = .ok (.getfield 24, 3) := by decide +kernel
theorem dX2_begin_35 : decode cX2_begin 35 = .ok (.iload_n 3, 1) := by decide +kernel
theorem dX2_begin_36 : decode cX2_begin 36 = .ok (.bipush 10, 2) := by decide +kernel
theorem dX2_begin_38 : decode cX2_begin 38 = .ok (.imul, 1) := by decide +kernel
theorem dX2_begin_39 : decode cX2_begin 39 = .ok (.iload 4, 2) := by decide +kernel
theorem dX2_begin_41 : decode cX2_begin 41 = .ok (.iadd, 1) := by decide +kernel
theorem dX2_begin_42 : decode cX2_begin 42 = .ok (.aload_n 1, 1) := by decide +kernel
theorem dX2_begin_43 : decode cX2_begin 43 = .ok (.iload_n 2, 1) := by decide +kernel
theorem dX2_begin_44 : decode cX2_begin 44 = .ok (.iload_n 3, 1) := by decide +kernel
theorem dX2_begin_45 : decode cX2_begin 45 = .ok (.iload 4, 2) := by decide +kernel
theorem dX2_begin_47 : decode cX2_begin 47 = .ok (.invokestatic 40, 3) := by decide +kernel
theorem dX2_begin_50 : decode cX2_begin 50 = .ok (.iastore, 1) := by decide +kernel
theorem dX2_begin_51 : decode cX2_begin 51 = .ok (.iinc 4 1, 3) := by decide +kernel
theorem dX2_begin_54 : decode cX2_begin 54 = .ok (.goto (-30), 3) := by decide +kernel
theorem dX2_begin_57 : decode cX2_begin 57 = .ok (.iinc 3 1, 3) := by decide +kernel
theorem dX2_begin_60 : decode cX2_begin 60 = .ok (.goto (-45), 3) := by decide +kernel
theorem dX2_begin_63 : decode cX2_begin 63 = .ok (.return_, 1) := by decide +kernel
theorem dX2_add_0 : decode cX2_add 0 = .ok (.aload_n 1, 1) := by decide +kernel
theorem dX2_add_1 : decode cX2_add 1 = .ok (.aload_n 0, 1) := by decide +kernel
theorem dX2_add_2 : decode cX2_add 2 = .ok (.getfield 27, 3) := by decide +kernel
theorem dX2_add_5 : decode cX2_add 5 = .ok (.invokevirtual 44, 3) := by decide +kernel
theorem dX2_add_8 : decode cX2_add 8 = .ok (.istore_n 2, 1) := by decide +kernel
theorem dX2_add_9 : decode cX2_add 9 = .ok (.iload_n 2, 1) := by decide +kernel
theorem dX2_add_10 : decode cX2_add 10 = .ok (.ifCond .lt 11, 3) := by decide +kernel
theorem dX2_add_13 : decode cX2_add 13 = .ok (.aload_n 0, 1) := by decide +kernel
theorem dX2_add_14 : decode cX2_add 14 = .ok (.getfield 31, 3) := by decide +kernel
theorem dX2_add_17 : decode cX2_add 17 = .ok (.iconst 4, 1) := by decide +kernel
theorem dX2_add_18 : decode cX2_add 18 = .ok (.if_icmp .lt 4, 3) := by decide +kernel
theorem dX2_add_21 : decode cX2_add 21 = .ok (.return_, 1) := by decide +kernel
theorem dX2_add_22 : decode cX2_add 22 = .ok (.aload_n 0, 1) := by decide +kernel
theorem dX2_add_23 : decode cX2_add 23 = .ok (.getfield 13, 3) := by decide +kernel
theorem dX2_add_26 : decode cX2_add 26 = .ok (.aload_n 0, 1) := by decide +kernel
theorem dX2_add_27 : decode cX2_add 27 = .ok (.getfield 31, 3) := by decide +kernel
theorem dX2_add_30 : decode cX2_add 30 = .ok (.aaload, 1) := by decide +kernel
theorem dX2_add_31 : decode cX2_add 31 = .ok (.aload_n 1, 1) := by decide +kernel
theorem dX2_add_32 : decode cX2_add 32 = .ok (.invokevirtual 48, 3) := by decide +kernel
theorem dX2_add_35 : decode cX2_add 35 = .ok (.aload_n 0, 1) := by decide +kernel
theorem dX2_add_36 : decode cX2_add 36 = .ok (.getfield 17, 3) := by decide +kernel
theorem dX2_add_39 : decode cX2_add 39 = .ok (.aload_n 0, 1) := by decide +kernel
theorem dX2_add_40 : decode cX2_add 40 = .ok (.getfield 31, 3) := by decide +kernel
theorem dX2_add_43 : decode cX2_add 43 = .ok (.getstatic 52, 3) := by decide +kernel
theorem dX2_add_46 : decode cX2_add 46 = .ok (.iload_n 2, 1) := by decide +kernel
theorem dX2_add_47 : decode cX2_add 47 = .ok (.iaload, 1) := by decide +kernel
theorem dX2_add_48 : decode cX2_add 48 = .ok (.iastore, 1) := by decide +kernel
theorem dX2_add_49 : decode cX2_add 49 = .ok (.aload_n 0, 1) := by decide +kernel
theorem dX2_add_50 : decode cX2_add 50 = .ok (.getfield 21, 3) := by decide +kernel
theorem dX2_add_53 : decode cX2_add 53 = .ok (.aload_n 0, 1) := by decide +kernel
theorem dX2_add_54 : decode cX2_add 54 = .ok (.getfield 31, 3) := by decide +kernel
theorem dX2_add_57 : decode cX2_add 57 = .ok (.getstatic 55, 3) := by decide +kernel
theorem dX2_add_60 : decode cX2_add 60 = .ok (.iload_n 2, 1) := by decide +kernel
theorem dX2_add_61 : decode cX2_add 61 = .ok (.iaload, 1) := by decide +kernel
theorem dX2_add_62 : decode cX2_add 62 = .ok (.iastore, 1) := by decide +kernel
theorem dX2_add_63 : decode cX2_add 63 = .ok (.aload_n 0, 1) := by decide +kernel
theorem dX2_add_64 : decode cX2_add 64 = .ok (.dup, 1) := by decide +kernel
theorem dX2_add_65 : decode cX2_add 65 = .ok (.getfield 31, 3) := by decide +kernel
theorem dX2_add_68 : decode cX2_add 68 = .ok (.iconst 1, 1) := by decide +kernel
theorem dX2_add_69 : decode cX2_add 69 = .ok (.iadd, 1) := by decide +kernel
theorem dX2_add_70 : decode cX2_add 70 = .ok (.putfield 31, 3) := by decide +kernel
theorem dX2_add_73 : decode cX2_add 73 = .ok (.return_, 1) := by decide +kernel
theorem dX2_sourceCell_0 : decode cX2_sourceCell 0 = .ok (.iload_n 1, 1) := by decide +kernel
theorem dX2_sourceCell_1 : decode cX2_sourceCell 1 = .ok (.iload_n 2, 1) := by decide +kernel
theorem dX2_sourceCell_2 : decode cX2_sourceCell 2 = .ok (.invokestatic 58, 3) := by decide +kernel
theorem dX2_sourceCell_5 : decode cX2_sourceCell 5 = .ok (.ifCond .eq 17, 3) := by decide +kernel
theorem dX2_sourceCell_8 : decode cX2_sourceCell 8 = .ok (.aload_n 0, 1) := by decide +kernel
theorem dX2_sourceCell_9 : decode cX2_sourceCell 9 = .ok (.getfield 62, 3) := by decide +kernel
theorem dX2_sourceCell_12 : decode cX2_sourceCell 12 = .ok (.iload_n 2, 1) := by decide +kernel
theorem dX2_sourceCell_13 : decode cX2_sourceCell 13 = .ok (.aaload, 1) := by decide +kernel
theorem dX2_sourceCell_14 : decode cX2_sourceCell 14 = .ok (.getfield 65, 3) := by decide +kernel
theorem dX2_sourceCell_17 : decode cX2_sourceCell 17 = .ok (.iload_n 3, 1) := by decide +kernel
theorem dX2_sourceCell_18 : decode cX2_sourceCell 18 = .ok (.iaload, 1) := by decide +kernel
theorem dX2_sourceCell_19 : decode cX2_sourceCell 19 = .ok (.goto 4, 3) := by decide +kernel
theorem dX2_sourceCell_22 : decode cX2_sourceCell 22 = .ok (.iconst 0, 1) := by decide +kernel
theorem dX2_sourceCell_23 : decode cX2_sourceCell 23 = .ok (.ireturn, 1) := by decide +kernel
theorem dX3_init_0 : decode cX3_init 0 = .ok (.aload_n 0, 1) := by decide +kernel
theorem dX3_init_1 : decode cX3_init 1 = .ok (.invokespecial 3, 3) := by decide +kernel
theorem dX3_init_4 : decode cX3_init 4 = .ok (.aload_n 0, 1) := by decide +kernel
theorem dX3_init_5 : decode cX3_init 5 = .ok (.iconst 4, 1) := by decide +kernel
theorem dX3_init_6 : decode cX3_init 6 = .ok (.anewarray 11, 3) := by decide +kernel
theorem dX3_init_9 : decode cX3_init 9 = .ok (.putfield 13, 3) := by decide +kernel
theorem dX3_init_12 : decode cX3_init 12 = .ok (.aload_n 0, 1) := by decide +kernel
theorem dX3_init_13 : decode cX3_init 13 = .ok (.iconst 0, 1) := by decide +kernel
theorem dX3_init_14 : decode cX3_init 14 = .ok (.putfield 17, 3) := by decide +kernel
theorem dX3_init_17 : decode cX3_init 17 = .ok (.aload_n 0, 1) := by decide +kernel
theorem dX3_init_18 : decode cX3_init 18 = .ok (.bipush 6, 2) := by decide +kernel
theorem dX3_init_20 : decode cX3_init 20 = .ok (.anewarray 21, 3) := by decide +kernel
theorem dX3_init_23 : decode cX3_init 23 = .ok (.putfield 23, 3) := by decide +kernel
theorem dX3_init_26 : decode cX3_init 26 = .ok (.aload_n 0, 1) := by decide +kernel
theorem dX3_init_27 : decode cX3_init 27 = .ok (.bipush 6, 2) := by decide +kernel
theorem dX3_init_29 : decode cX3_init 29 = .ok (.newarray .int, 2) := by decide +kernel
theorem dX3_init_31 : decode cX3_init 31 = .ok (.putfield 27, 3) := by decide +kernel
theorem dX3_init_34 : decode cX3_init 34 = .ok (.aload_n 0, 1) := by decide +kernel
theorem dX3_init_35 : decode cX3_init 35 = .ok (.bipush 6, 2) := by decide +kernel
theorem dX3_init_37 : decode cX3_init 37 = .ok (.newarray .int, 2) := by decide +kernel
theorem dX3_init_39 : decode cX3_init 39 = .ok (.putfield 31, 3) := by decide +kernel
theorem dX3_init_42 : decode cX3_init 42 = .ok (.aload_n 0, 1) := by decide +kernel
theorem dX3_init_43 : decode cX3_init 43 = .ok (.bipush 6, 2) := by decide +kernel
theorem dX3_init_45 : decode cX3_init 45 = .ok (.newarray .boolean, 2) := by decide +kernel
theorem dX3_init_47 : decode cX3_init 47 = .ok (.putfield 34, 3) := by decide +kernel
theorem dX3_init_50 : decode cX3_init 50 = .ok (.aload_n 0, 1) := by decide +kernel
theorem dX3_init_51 : decode cX3_init 51 = .ok (.iconst 0, 1) := by decide +kernel
theorem dX3_init_52 : decode cX3_init 52 = .ok (.putfield 38, 3) := by decide +kernel
theorem dX3_init_55 : decode cX3_init 55 = .ok (.aload_n 0, 1) := by decide +kernel
theorem dX3_init_56 : decode cX3_init 56 = .ok (.iconst 0, 1) := by decide +kernel
theorem dX3_init_57 : decode cX3_init 57 = .ok (.putfield 41, 3) := by decide +kernel
theorem dX3_init_60 : decode cX3_init 60 = .ok (.aload_n 0, 1) := by decide +kernel
theorem dX3_init_61 : decode cX3_init 61 = .ok (.iconst 0, 1) := by decide +kernel
theorem dX3_init_62 : decode cX3_init 62 = .ok (.putfield 44, 3) := by decide +kernel
theorem dX3_init_65 : decode cX3_init 65 = .ok (.aload_n 0, 1) := by decide +kernel
theorem dX3_init_66 : decode cX3_init 66 = .ok (.aload_n 1, 1) := by decide +kernel
theorem dX3_init_67 : decode cX3_init 67 = .ok (.putfield 47, 3) := by decide +kernel
theorem dX3_init_70 : decode cX3_init 70 = .ok (.aload_n 0, 1) := by decide +kernel
theorem dX3_init_71 : decode cX3_init 71 = .ok (.aload_n 2, 1) := by decide +kernel
theorem dX3_init_72 : decode cX3_init 72 = .ok (.putfield 51, 3) := by decide +kernel
theorem dX3_init_75 : decode cX3_init 75 = .ok (.iconst 0, 1) := by decide +kernel
theorem dX3_init_76 : decode cX3_init 76 = .ok (.istore_n 3, 1) := by decide +kernel
theorem dX3_init_77 : decode cX3_init 77 = .ok (.iload_n 3, 1) := by decide +kernel
theorem dX3_init_78 : decode cX3_init 78 = .ok (.iconst 4, 1) := by decide +kernel
theorem dX3_init_79 : decode cX3_init 79 = .ok (.if_icmp .ge 22, 3) := by decide +kernel
theorem dX3_init_82 : decode cX3_init 82 = .ok (.aload_n 0, 1) := by decide +kernel
theorem dX3_init_83 : decode cX3_init 83 = .ok (.getfield 13, 3) := by decide +kernel
theorem dX3_init_86 : decode cX3_init 86 = .ok (.iload_n 3, 1) := by decide +kernel
theorem dX3_init_87 : decode cX3_init 87 = .ok (.new 11, 3) := by decide +kernel
theorem dX3_init_90 : decode cX3_init 90 = .ok (.dup, 1) := by decide +kernel
theorem dX3_init_91 : decode cX3_init 91 = .ok (.invokespecial 55, 3) := by decide +kernel
theorem dX3_init_94 : decode cX3_init 94 = .ok (.aastore, 1) := by decide +kernel
theorem dX3_init_95 : decode cX3_init 95 = .ok (.iinc 3 1, 3) := by decide +kernel
theorem dX3_init_98 : decode cX3_init 98 = .ok (.goto (-21), 3) := by decide +kernel
theorem dX3_init_101 : decode cX3_init 101 = .ok (.iconst 0, 1) := by decide +kernel
theorem dX3_init_102 : decode cX3_init 102 = .ok (.istore_n 3, 1) := by decide +kernel
theorem dX3_init_103 : decode cX3_init 103 = .ok (.iload_n 3, 1) := by decide +kernel
theorem dX3_init_104 : decode cX3_init 104 = .ok (.bipush 6, 2) := by decide +kernel
theorem dX3_init_106 : decode cX3_init 106 = .ok (.if_icmp .ge 22, 3) := by decide +kernel
theorem dX3_init_109 : decode cX3_init 109 = .ok (.aload_n 0, 1) := by decide +kernel
theorem dX3_init_110 : decode cX3_init 110 = .ok (.getfield 23, 3) := by decide +kernel
theorem dX3_init_113 : decode cX3_init 113 = .ok (.iload_n 3, 1) := by decide +kernel
theorem dX3_init_114 : decode cX3_init 114 = .ok (.new 21, 3) := by decide +kernel
theorem dX3_init_117 : decode cX3_init 117 = .ok (.dup, 1) := by decide +kernel
theorem dX3_init_118 : decode cX3_init 118 = .ok (.invokespecial 56, 3) := by decide +kernel
theorem dX3_init_121 : decode cX3_init 121 = .ok (.aastore, 1) := by decide +kernel
theorem dX3_init_122 : decode cX3_init 122 = .ok (.iinc 3 1, 3) := by decide +kernel
theorem dX3_init_125 : decode cX3_init 125 = .ok (.goto (-22), 3) := by decide +kernel
theorem dX3_init_128 : decode cX3_init 128 = .ok (.return_, 1) := by decide +kernel
theorem dX3_find_0 : decode cX3_find 0 = .ok (.iconst 0, 1) := by decide +kernel
theorem dX3_find_1 : decode cX3_find 1 = .ok (.istore_n 3, 1) := by decide +kernel
theorem dX3_find_2 : decode cX3_find 2 = .ok (.iload_n 3, 1) := by decide +kernel
theorem dX3_find_3 : decode cX3_find 3 = .ok (.iconst 4, 1) := by decide +kernel
theorem dX3_find_4 : decode cX3_find 4 = .ok (.if_icmp .ge 30, 3) := by decide +kernel
theorem dX3_find_7 : decode cX3_find 7 = .ok (.aload_n 0, 1) := by decide +kernel
theorem dX3_find_8 : decode cX3_find 8 = .ok (.getfield 13, 3) := by decide +kernel
theorem dX3_find_11 : decode cX3_find 11 = .ok (.iload_n 3, 1) := by decide +kernel
theorem dX3_find_12 : decode cX3_find 12 = .ok (.aaload, 1) := by decide +kernel
theorem dX3_find_13 : decode cX3_find 13 = .ok (.aload_n 1, 1) := by decide +kernel
theorem dX3_find_14 : decode cX3_find 14 = .ok (.iload_n 2, 1) := by decide +kernel
theorem dX3_find_15 : decode cX3_find 15 = .ok (.invokevirtual 57, 3) := by decide +kernel
theorem dX3_find_18 : decode cX3_find 18 = .ok (.ifCond .eq 10, 3) := by decide +kernel
theorem dX3_find_21 : decode cX3_find 21 = .ok (.aload_n 0, 1) := by decide +kernel
theorem dX3_find_22 : decode cX3_find 22 = .ok (.getfield 13, 3) := by decide +kernel
theorem dX3_find_25 : decode cX3_find 25 = .ok (.iload_n 3, 1) := by decide +kernel
theorem dX3_find_26 : decode cX3_find 26 = .ok (.aaload, 1) := by decide +kernel
theorem dX3_find_27 : decode cX3_find 27 = .ok (.areturn, 1) := by decide +kernel
theorem dX3_find_28 : decode cX3_find 28 = .ok (.iinc 3 1, 3) := by decide +kernel
theorem dX3_find_31 : decode cX3_find 31 = .ok (.goto (-29), 3) := by decide +kernel
theorem dX3_find_34 : decode cX3_find 34 = .ok (.aload_n 0, 1) := by decide +kernel
theorem dX3_find_35 : decode cX3_find 35 = .ok (.getfield 13, 3) := by decide +kernel
theorem dX3_find_38 : decode cX3_find 38 = .ok (.aload_n 0, 1) := by decide +kernel
theorem dX3_find_39 : decode cX3_find 39 = .ok (.getfield 17, 3) := by decide +kernel
theorem dX3_find_42 : decode cX3_find 42 = .ok (.aaload, 1) := by decide +kernel
theorem dX3_find_43 : decode cX3_find 43 = .ok (.astore_n 3, 1) := by decide +kernel
theorem dX3_find_44 : decode cX3_find 44 = .ok (.aload_n 0, 1) := by decide +kernel
theorem dX3_find_45 : decode cX3_find 45 = .ok (.aload_n 0, 1) := by decide +kernel
theorem dX3_find_46 : decode cX3_find 46 = .ok (.getfield 17, 3) := by decide +kernel
theorem dX3_find_49 : decode cX3_find 49 = .ok (.iconst 1, 1) := by decide +kernel
theorem dX3_find_50 : decode cX3_find 50 = .ok (.iadd, 1) := by decide +kernel
theorem dX3_find_51 : decode cX3_find 51 = .ok (.iconst 4, 1) := by decide +kernel
theorem dX3_find_52 : decode cX3_find 52 = .ok (.irem, 1) := by decide +kernel
theorem dX3_find_53 : decode cX3_find 53 = .ok (.putfield 17, 3) := by decide +kernel
theorem dX3_find_56 : decode cX3_find 56 = .ok (.aload_n 0, 1) := by decide +kernel
theorem dX3_find_57 : decode cX3_find 57 = .ok (.aload_n 1, 1) := by decide +kernel
theorem dX3_find_58 : decode cX3_find 58 = .ok (.iload_n 2, 1) := by decide +kernel
theorem dX3_find_59 : decode cX3_find 59 = .ok (.invokevirtual 61, 3) := by decide +kernel
theorem dX3_find_62 : decode cX3_find 62 = .ok (.aload_n 0, 1) := by decide +kernel
theorem dX3_find_63 : decode cX3_find 63 = .ok (.invokevirtual 65, 3) := by decide +kernel
theorem dX3_find_66 : decode cX3_find 66 = .ok (.aload_n 0, 1) := by decide +kernel
theorem dX3_find_67 : decode cX3_find 67 = .ok (.invokevirtual 68, 3) := by decide +kernel
theorem dX3_find_70 : decode cX3_find 70 = .ok (.aload_n 3, 1) := by decide +kernel
theorem dX3_find_71 : decode cX3_find 71 = .ok (.aload_n 1, 1) := by decide +kernel
theorem dX3_find_72 : decode cX3_find 72 = .ok (.iload_n 2, 1) := by decide +kernel
theorem dX3_find_73 : decode cX3_find 73 = .ok (.invokevirtual 71, 3) := by decide +kernel
theorem dX3_find_76 : decode cX3_find 76 = .ok (.aload_n 0, 1) := by decide +kernel
theorem dX3_find_77 : decode cX3_find 77 = .ok (.aload_n 3, 1) := by decide +kernel
theorem dX3_find_78 : decode cX3_find 78 = .ok (.invokevirtual 74, 3) := by decide +kernel
theorem dX3_find_81 : decode cX3_find 81 = .ok (.aload_n 3, 1) := by decide +kernel
theorem dX3_find_82 : decode cX3_find 82 = .ok (.areturn, 1) := by decide +kernel
theorem dX3_gather_0 : decode cX3_gather 0 = .ok (.aload_n 0, 1) := by decide +kernel
theorem dX3_gather_1 : decode cX3_gather 1 = .ok (.aload_n 1, 1) := by decide +kernel
theorem dX3_gather_2 : decode cX3_gather 2 = .ok (.getfield 78, 3) := by decide +kernel
theorem dX3_gather_5 : decode cX3_gather 5 = .ok (.putfield 44, 3) := by decide +kernel
theorem dX3_gather_8 : decode cX3_gather 8 = .ok (.aload_n 0, 1) := by decide +kernel
theorem dX3_gather_9 : decode cX3_gather 9 = .ok (.iconst 0, 1) := by decide +kernel
theorem dX3_gather_10 : decode cX3_gather 10 = .ok (.putfield 38, 3) := by decide +kernel
theorem dX3_gather_13 : decode cX3_gather 13 = .ok (.aload_n 0, 1) := by decide +kernel
theorem dX3_gather_14 : decode cX3_gather 14 = .ok (.iconst 0, 1) := by decide +kernel
theorem dX3_gather_15 : decode cX3_gather 15 = .ok (.putfield 41, 3) := by decide +kernel
theorem dX3_gather_18 : decode cX3_gather 18 = .ok (.iconst 0, 1) := by decide +kernel
theorem dX3_gather_19 : decode cX3_gather 19 = .ok (.istore_n 3, 1) := by decide +kernel
theorem dX3_gather_20 : decode cX3_gather 20 = .ok (.iload_n 3, 1) := by decide +kernel
theorem dX3_gather_21 : decode cX3_gather 21 = .ok (.bipush 6, 2) := by decide +kernel
theorem dX3_gather_23 : decode cX3_gather 23 = .ok (.if_icmp .ge 45, 3) := by decide +kernel
theorem dX3_gather_26 : decode cX3_gather 26 = .ok (.iload_n 2, 1) := by decide +kernel
theorem dX3_gather_27 : decode cX3_gather 27 = .ok (.iload_n 3, 1) := by decide +kernel
theorem dX3_gather_28 : decode cX3_gather 28 = .ok (.invokestatic 81, 3) := by decide +kernel
theorem dX3_gather_31 : decode cX3_gather 31 = .ok (.ifCond .eq 31, 3) := by decide +kernel
theorem dX3_gather_34 : decode cX3_gather 34 = .ok (.aload_n 0, 1) := by decide +kernel
theorem dX3_gather_35 : decode cX3_gather 35 = .ok (.getfield 23, 3) := by decide +kernel
theorem dX3_gather_38 : decode cX3_gather 38 = .ok (.aload_n 0, 1) := by decide +kernel
theorem dX3_gather_39 : decode cX3_gather 39 = .ok (.getfield 41, 3) := by decide +kernel
theorem dX3_gather_42 : decode cX3_gather 42 = .ok (.aaload, 1) := by decide +kernel
theorem dX3_gather_43 : decode cX3_gather 43 = .ok (.aload_n 1, 1) := by decide +kernel
theorem dX3_gather_44 : decode cX3_gather 44 = .ok (.getfield 85, 3) := by decide +kernel
theorem dX3_gather_47 : decode cX3_gather 47 = .ok (.iload_n 3, 1) := by decide +kernel
theorem dX3_gather_48 : decode cX3_gather 48 = .ok (.aaload, 1) := by decide +kernel
theorem dX3_gather_49 : decode cX3_gather 49 = .ok (.invokevirtual 88, 3) := by decide +kernel
theorem dX3_gather_52 : decode cX3_gather 52 = .ok (.aload_n 0, 1) := by decide +kernel
theorem dX3_gather_53 : decode cX3_gather 53 = .ok (.dup, 1) := by decide +kernel
theorem dX3_gather_54 : decode cX3_gather 54 = .ok (.getfield 41, 3) := by decide +kernel
theorem dX3_gather_57 : decode cX3_gather 57 = .ok (.iconst 1, 1) := by decide +kernel
theorem dX3_gather_58 : decode cX3_gather 58 = .ok (.iadd, 1) := by decide +kernel
theorem dX3_gather_59 : decode cX3_gather 59 = .ok (.putfield 41, 3) := by decide +kernel
theorem dX3_gather_62 : decode cX3_gather 62 = .ok (.iinc 3 1, 3) := by decide +kernel
theorem dX3_gather_65 : decode cX3_gather 65 = .ok (.goto (-45), 3) := by decide +kernel
theorem dX3_gather_68 : decode cX3_gather 68 = .ok (.return_, 1) := by decide +kernel
theorem dX3_complete_0 : decode cX3_complete 0 = .ok (.iconst 0, 1) := by decide +kernel
theorem dX3_complete_1 : decode cX3_complete 1 = .ok (.istore_n 1, 1) := by decide +kernel
theorem dX3_complete_2 : decode cX3_complete 2 = .ok (.iload_n 1, 1) := by decide +kernel
theorem dX3_complete_3 : decode cX3_complete 3 = .ok (.ldc 92, 2) := by decide +kernel
theorem dX3_complete_5 : decode cX3_complete 5 = .ok (.if_icmp .ge 45, 3) := by decide +kernel
theorem dX3_complete_8 : decode cX3_complete 8 = .ok (.aload_n 0, 1) := by decide +kernel
theorem dX3_complete_9 : decode cX3_complete 9 = .ok (.getfield 41, 3) := by decide +kernel
theorem dX3_complete_12 : decode cX3_complete 12 = .ok (.ifCond .le 10, 3) := by decide +kernel
theorem dX3_complete_15 : decode cX3_complete 15 = .ok (.aload_n 0, 1) := by decide +kernel
theorem dX3_complete_16 : decode cX3_complete 16 = .ok (.invokevirtual 93, 3) := by decide +kernel
theorem dX3_complete_19 : decode cX3_complete 19 = .ok (.goto 25, 3) := by decide +kernel
theorem dX3_complete_22 : decode cX3_complete 22 = .ok (.aload_n 0, 1) := by decide +kernel
theorem dX3_complete_23 : decode cX3_complete 23 = .ok (.invokevirtual 96, 3) := by decide +kernel
theorem dX3_complete_26 : decode cX3_complete 26 = .ok (.istore_n 2, 1) := by decide +kernel
theorem dX3_complete_27 : decode cX3_complete 27 = .ok (.iload_n 2, 1) := by decide +kernel
theorem dX3_complete_28 : decode cX3_complete 28 = .ok (.ifCond .ge 4, 3) := by decide +kernel
theorem dX3_complete_31 : decode cX3_complete 31 = .ok (.return_, 1) := by decide +kernel
theorem dX3_complete_32 : decode cX3_complete 32 = .ok (.aload_n 0, 1) := by decide +kernel
theorem dX3_complete_33 : decode cX3_complete 33 = .ok (.getfield 34, 3) := by decide +kernel
theorem dX3_complete_36 : decode cX3_complete 36 = .ok (.iload_n 2, 1) := by decide +kernel
theorem dX3_complete_37 : decode cX3_complete 37 = .ok (.iconst 1, 1) := by decide +kernel
theorem dX3_complete_38 : decode cX3_complete 38 = .ok (.bastore, 1) := by decide +kernel
theorem dX3_complete_39 : decode cX3_complete 39 = .ok (.aload_n 0, 1) := by decide +kernel
theorem dX3_complete_40 : decode cX3_complete 40 = .ok (.iload_n 2, 1) := by decide +kernel
theorem dX3_complete_41 : decode cX3_complete 41 = .ok (.invokevirtual 100, 3) := by decide +kernel
theorem dX3_complete_44 : decode cX3_complete 44 = .ok (.iinc 1 1, 3) := by decide +kernel
theorem dX3_complete_47 : decode cX3_complete 47 = .ok (.goto (-45), 3) := by decide +kernel
theorem dX3_complete_50 : decode cX3_complete 50 = .ok (.return_, 1) := by decide +kernel
theorem dX3_absorb_0 : decode cX3_absorb 0 = .ok (.aload_n 0, 1) := by decide +kernel
theorem dX3_absorb_1 : decode cX3_absorb 1 = .ok (.getfield 23, 3) := by decide +kernel
theorem dX3_absorb_4 : decode cX3_absorb 4 = .ok (.aload_n 0, 1) := by decide +kernel
theorem dX3_absorb_5 : decode cX3_absorb 5 = .ok (.getfield 38, 3) := by decide +kernel
theorem dX3_absorb_8 : decode cX3_absorb 8 = .ok (.aaload, 1) := by decide +kernel
theorem dX3_absorb_9 : decode cX3_absorb 9 = .ok (.astore_n 1, 1) := by decide +kernel
theorem dX3_absorb_10 : decode cX3_absorb 10 = .ok (.aload_n 0, 1) := by decide +kernel
theorem dX3_absorb_11 : decode cX3_absorb 11 = .ok (.getfield 51, 3) := by decide +kernel
theorem dX3_absorb_14 : decode cX3_absorb 14 = .ok (.aload_n 0, 1) := by decide +kernel
theorem dX3_absorb_15 : decode cX3_absorb 15 = .ok (.getfield 44, 3) := by decide +kernel
theorem dX3_absorb_18 : decode cX3_absorb 18 = .ok (.invokevirtual 104, 3) := by decide +kernel
theorem dX3_absorb_21 : decode cX3_absorb 21 = .ok (.iconst 0, 1) := by decide +kernel
theorem dX3_absorb_22 : decode cX3_absorb 22 = .ok (.istore_n 2, 1) := by decide +kernel
theorem dX3_absorb_23 : decode cX3_absorb 23 = .ok (.iload_n 2, 1) := by decide +kernel
theorem dX3_absorb_24 : decode cX3_absorb 24 = .ok (.aload_n 0, 1) := by decide +kernel
theorem dX3_absorb_25 : decode cX3_absorb 25 = .ok (.getfield 38, 3) := by decide +kernel
theorem dX3_absorb_28 : decode cX3_absorb 28 = .ok (.if_icmp .ge 22, 3) := by decide +kernel
theorem dX3_absorb_31 : decode cX3_absorb 31 = .ok (.aload_n 0, 1) := by decide +kernel
theorem dX3_absorb_32 : decode cX3_absorb 32 = .ok (.getfield 51, 3) := by decide +kernel
theorem dX3_absorb_35 : decode cX3_absorb 35 = .ok (.aload_n 0, 1) := by decide +kernel
theorem dX3_absorb_36 : decode cX3_absorb 36 = .ok (.getfield 23, 3) := by decide +kernel
theorem dX3_absorb_39 : decode cX3_absorb 39 = .ok (.iload_n 2, 1) := by decide +kernel
theorem dX3_absorb_40 : decode cX3_absorb 40 = .ok (.aaload, 1) := by decide +kernel
theorem dX3_absorb_41 : decode cX3_absorb 41 = .ok (.invokevirtual 108, 3) := by decide +kernel
theorem dX3_absorb_44 : decode cX3_absorb 44 = .ok (.iinc 2 1, 3) := by decide +kernel
theorem dX3_absorb_47 : decode cX3_absorb 47 = .ok (.goto (-24), 3) := by decide +kernel
theorem dX3_absorb_50 : decode cX3_absorb 50 = .ok (.aload_n 0, 1) := by decide +kernel
theorem dX3_absorb_51 : decode cX3_absorb 51 = .ok (.getfield 51, 3) := by decide +kernel
theorem dX3_absorb_54 : decode cX3_absorb 54 = .ok (.aload_n 1, 1) := by decide +kernel
theorem dX3_absorb_55 : decode cX3_absorb 55 = .ok (.invokevirtual 111, 3) := by decide +kernel
theorem dX3_absorb_58 : decode cX3_absorb 58 = .ok (.aload_n 1, 1) := by decide +kernel
theorem dX3_absorb_59 : decode cX3_absorb 59 = .ok (.aload_n 0, 1) := by decide +kernel
theorem dX3_absorb_60 : decode cX3_absorb 60 = .ok (.getfield 44, 3) := by decide +kernel
theorem dX3_absorb_63 : decode cX3_absorb 63 = .ok (.invokevirtual 114, 3) := by decide +kernel
theorem dX3_absorb_66 : decode cX3_absorb 66 = .ok (.istore_n 2, 1) := by decide +kernel
theorem dX3_absorb_67 : decode cX3_absorb 67 = .ok (.iload_n 2, 1) := by decide +kernel
theorem dX3_absorb_68 : decode cX3_absorb 68 = .ok (.ifCond .ge 56, 3) := by decide +kernel
theorem dX3_absorb_71 : decode cX3_absorb 71 = .ok (.aload_n 0, 1) := by decide +kernel
theorem dX3_absorb_72 : decode cX3_absorb 72 = .ok (.getfield 23, 3) := by decide +kernel
theorem dX3_absorb_75 : decode cX3_absorb 75 = .ok (.aload_n 0, 1) := by decide +kernel
theorem dX3_absorb_76 : decode cX3_absorb 76 = .ok (.getfield 38, 3) := by decide +kernel
theorem dX3_absorb_79 : decode cX3_absorb 79 = .ok (.aload_n 0, 1) := by decide +kernel
theorem dX3_absorb_80 : decode cX3_absorb 80 = .ok (.getfield 23, 3) := by decide +kernel
theorem dX3_absorb_83 : decode cX3_absorb 83 = .ok (.aload_n 0, 1) := by decide +kernel
theorem dX3_absorb_84 : decode cX3_absorb 84 = .ok (.getfield 38, 3) := by decide +kernel
theorem dX3_absorb_87 : decode cX3_absorb 87 = .ok (.aload_n 0, 1) := by decide +kernel
theorem dX3_absorb_88 : decode cX3_absorb 88 = .ok (.getfield 41, 3) := by decide +kernel
theorem dX3_absorb_91 : decode cX3_absorb 91 = .ok (.iadd, 1) := by decide +kernel
theorem dX3_absorb_92 : decode cX3_absorb 92 = .ok (.iconst 1, 1) := by decide +kernel
theorem dX3_absorb_93 : decode cX3_absorb 93 = .ok (.isub, 1) := by decide +kernel
theorem dX3_absorb_94 : decode cX3_absorb 94 = .ok (.aaload, 1) := by decide +kernel
theorem dX3_absorb_95 : decode cX3_absorb 95 = .ok (.aastore, 1) := by decide +kernel
theorem dX3_absorb_96 : decode cX3_absorb 96 = .ok (.aload_n 0, 1) := by decide +kernel
theorem dX3_absorb_97 : decode cX3_absorb 97 = .ok (.getfield 23, 3) := by decide +kernel
theorem dX3_absorb_100 : decode cX3_absorb 100 = .ok (.aload_n 0, 1) := by decide +kernel
theorem dX3_absorb_101 : decode cX3_absorb 101 = .ok (.getfield 38, 3) := by decide +kernel
theorem dX3_absorb_104 : decode cX3_absorb 104 = .ok (.aload_n 0, 1) := by decide +kernel
theorem dX3_absorb_105 : decode cX3_absorb 105 = .ok (.getfield 41, 3) := by decide +kernel
theorem dX3_absorb_108 : decode cX3_absorb 108 = .ok (.iadd, 1) := by decide +kernel
theorem dX3_absorb_109 : decode cX3_absorb 109 = .ok (.iconst 1, 1) := by decide +kernel
theorem dX3_absorb_110 : decode cX3_absorb 110 = .ok (.isub, 1) := by decide +kernel
theorem dX3_absorb_111 : decode cX3_absorb 111 = .ok (.aload_n 1, 1) := by decide +kernel
theorem dX3_absorb_112 : decode cX3_absorb 112 = .ok (.aastore, 1) := by decide +kernel
theorem dX3_absorb_113 : decode cX3_absorb 113 = .ok (.aload_n 0, 1) := by decide +kernel
theorem dX3_absorb_114 : decode cX3_absorb 114 = .ok (.dup, 1) := by decide +kernel
theorem dX3_absorb_115 : decode cX3_absorb 115 = .ok (.getfield 41, 3) := by decide +kernel
theorem dX3_absorb_118 : decode cX3_absorb 118 = .ok (.iconst 1, 1) := by decide +kernel
theorem dX3_absorb_119 : decode cX3_absorb 119 = .ok (.isub, 1) := by decide +kernel
theorem dX3_absorb_120 : decode cX3_absorb 120 = .ok (.putfield 41, 3) := by decide +kernel
theorem dX3_absorb_123 : decode cX3_absorb 123 = .ok (.return_, 1) := by decide +kernel
theorem dX3_absorb_124 : decode cX3_absorb 124 = .ok (.aload_n 1, 1) := by decide +kernel
theorem dX3_absorb_125 : decode cX3_absorb 125 = .ok (.aload_n 1, 1) := by decide +kernel
theorem dX3_absorb_126 : decode cX3_absorb 126 = .ok (.getfield 118, 3) := by decide +kernel
theorem dX3_absorb_129 : decode cX3_absorb 129 = .ok (.iload_n 2, 1) := by decide +kernel
theorem dX3_absorb_130 : decode cX3_absorb 130 = .ok (.iaload, 1) := by decide +kernel
theorem dX3_absorb_131 : decode cX3_absorb 131 = .ok (.invokestatic 121, 3) := by decide +kernel
theorem dX3_absorb_134 : decode cX3_absorb 134 = .ok (.invokevirtual 126, 3) := by decide +kernel
theorem dX3_absorb_137 : decode cX3_absorb 137 = .ok (.getstatic 129, 3) := by decide +kernel
theorem dX3_absorb_140 : decode cX3_absorb 140 = .ok (.iload_n 2, 1) := by decide +kernel
theorem dX3_absorb_141 : decode cX3_absorb 141 = .ok (.iaload, 1) := by decide +kernel
theorem dX3_absorb_142 : decode cX3_absorb 142 = .ok (.istore_n 3, 1) := by decide +kernel
theorem dX3_absorb_143 : decode cX3_absorb 143 = .ok (.getstatic 132, 3) := by decide +kernel
theorem dX3_absorb_146 : decode cX3_absorb 146 = .ok (.iload_n 2, 1) := by decide +kernel
theorem dX3_absorb_147 : decode cX3_absorb 147 = .ok (.iaload, 1) := by decide +kernel
theorem dX3_absorb_148 : decode cX3_absorb 148 = .ok (.istore 4, 2) := by decide +kernel
theorem dX3_absorb_150 : decode cX3_absorb 150 = .ok (.aload_n 0, 1) := by decide +kernel
theorem dX3_absorb_151 : decode cX3_absorb 151 = .ok (.getfield 38, 3) := by decide +kernel
theorem dX3_absorb_154 : decode cX3_absorb 154 = .ok (.iconst 1, 1) := by decide +kernel
theorem dX3_absorb_155 : decode cX3_absorb 155 = .ok (.isub, 1) := by decide +kernel
theorem dX3_absorb_156 : decode cX3_absorb 156 = .ok (.istore 5, 2) := by decide +kernel
theorem dX3_absorb_158 : decode cX3_absorb 158 = .ok (.iload 5, 2) := by decide +kernel
theorem dX3_absorb_160 : decode cX3_absorb 160 = .ok (.ifCond .lt 38, 3) := by decide +kernel
theorem dX3_absorb_163 : decode cX3_absorb 163 = .ok (.iload_n 3, 1) := by decide +kernel
theorem dX3_absorb_164 : decode cX3_absorb 164 = .ok (.aload_n 0, 1) := by decide +kernel
theorem dX3_absorb_165 : decode cX3_absorb 165 = .ok (.getfield 27, 3) := by decide +kernel
theorem dX3_absorb_168 : decode cX3_absorb 168 = .ok (.iload 5, 2) := by decide +kernel
theorem dX3_absorb_170 : decode cX3_absorb 170 = .ok (.iaload, 1) := by decide +kernel
theorem dX3_absorb_171 : decode cX3_absorb 171 = .ok (.if_icmp .gt 21, 3) := by decide +kernel
theorem dX3_absorb_174 : decode cX3_absorb 174 = .ok (.iload 4, 2) := by decide +kernel
theorem dX3_absorb_176 : decode cX3_absorb 176 = .ok (.aload_n 0, 1) := by decide +kernel
theorem dX3_absorb_177 : decode cX3_absorb 177 = .ok (.getfield 31, 3) := by decide +kernel
theorem dX3_absorb_180 : decode cX3_absorb 180 = .ok (.iload 5, 2) := by decide +kernel
theorem dX3_absorb_182 : decode cX3_absorb 182 = .ok (.iaload, 1) := by decide +kernel
theorem dX3_absorb_183 : decode cX3_absorb 183 = .ok (.if_icmp .gt 9, 3) := by decide +kernel
theorem dX3_absorb_186 : decode cX3_absorb 186 = .ok (.aload_n 0, 1) := by decide +kernel
theorem dX3_absorb_187 : decode cX3_absorb 187 = .ok (.iload 5, 2) := by decide +kernel
theorem dX3_absorb_189 : decode cX3_absorb 189 = .ok (.invokevirtual 135, 3) := by decide +kernel
theorem dX3_absorb_192 : decode cX3_absorb 192 = .ok (.iinc 5 (-1), 3) := by decide +kernel
theorem dX3_absorb_195 : decode cX3_absorb 195 = .ok (.goto (-37), 3) := by decide +kernel
theorem dX3_absorb_198 : decode cX3_absorb 198 = .ok (.aload_n 0, 1) := by decide +kernel
theorem dX3_absorb_199 : decode cX3_absorb 199 = .ok (.iload_n 3, 1) := by decide +kernel
theorem dX3_absorb_200 : decode cX3_absorb 200 = .ok (.iload 4, 2) := by decide +kernel
theorem dX3_absorb_202 : decode cX3_absorb 202 = .ok (.invokevirtual 138, 3) := by decide +kernel
theorem dX3_absorb_205 : decode cX3_absorb 205 = .ok (.return_, 1) := by decide +kernel
theorem dX3_dismiss_0 : decode cX3_dismiss 0 = .ok (.aload_n 0, 1) := by decide +kernel
theorem dX3_dismiss_1 : decode cX3_dismiss 1 = .ok (.getfield 23, 3) := by decide +kernel
theorem dX3_dismiss_4 : decode cX3_dismiss 4 = .ok (.iload_n 1, 1) := by decide +kernel
theorem dX3_dismiss_5 : decode cX3_dismiss 5 = .ok (.aaload, 1) := by decide +kernel
theorem dX3_dismiss_6 : decode cX3_dismiss 6 = .ok (.astore_n 2, 1) := by decide +kernel
theorem dX3_dismiss_7 : decode cX3_dismiss 7 = .ok (.iload_n 1, 1) := by decide +kernel
theorem dX3_dismiss_8 : decode cX3_dismiss 8 = .ok (.istore_n 3, 1) := by decide +kernel
theorem dX3_dismiss_9 : decode cX3_dismiss 9 = .ok (.iload_n 3, 1) := by decide +kernel
theorem dX3_dismiss_10 : decode cX3_dismiss 10 = .ok (.aload_n 0, 1) := by decide +kernel
theorem dX3_dismiss_11 : decode cX3_dismiss 11 = .ok (.getfield 38, 3) := by decide +kernel
theorem dX3_dismiss_14 : decode cX3_dismiss 14 = .ok (.if_icmp .ge 65, 3) := by decide +kernel
theorem dX3_dismiss_17 : decode cX3_dismiss 17 = .ok (.aload_n 0, 1) := by decide +kernel
theorem dX3_dismiss_18 : decode cX3_dismiss 18 = .ok (.getfield 23, 3) := by decide +kernel
theorem dX3_dismiss_21 : decode cX3_dismiss 21 = .ok (.iload_n 3, 1) := by decide +kernel
theorem dX3_dismiss_22 : decode cX3_dismiss 22 = .ok (.aload_n 0, 1) := by decide +kernel
theorem dX3_dismiss_23 : decode cX3_dismiss 23 = .ok (.getfield 23, 3) := by decide +kernel
theorem dX3_dismiss_26 : decode cX3_dismiss 26 = .ok (.iload_n 3, 1) := by decide +kernel
theorem dX3_dismiss_27 : decode cX3_dismiss 27 = .ok (.iconst 1, 1) := by decide +kernel
theorem dX3_dismiss_28 : decode cX3_dismiss 28 = .ok (.iadd, 1) := by decide +kernel
theorem dX3_dismiss_29 : decode cX3_dismiss 29 = .ok (.aaload, 1) := by decide +kernel
theorem dX3_dismiss_30 : decode cX3_dismiss 30 = .ok (.aastore, 1) := by decide +kernel
theorem dX3_dismiss_31 : decode cX3_dismiss 31 = .ok (.aload_n 0, 1) := by decide +kernel
theorem dX3_dismiss_32 : decode cX3_dismiss 32 = .ok (.getfield 27, 3) := by decide +kernel
theorem dX3_dismiss_35 : decode cX3_dismiss 35 = .ok (.iload_n 3, 1) := by decide +kernel
theorem dX3_dismiss_36 : decode cX3_dismiss 36 = .ok (.aload_n 0, 1) := by decide +kernel
theorem dX3_dismiss_37 : decode cX3_dismiss 37 = .ok (.getfield 27, 3) := by decide +kernel
theorem dX3_dismiss_40 : decode cX3_dismiss 40 = .ok (.iload_n 3, 1) := by decide +kernel
theorem dX3_dismiss_41 : decode cX3_dismiss 41 = .ok (.iconst 1, 1) := by decide +kernel
theorem dX3_dismiss_42 : decode cX3_dismiss 42 = .ok (.iadd, 1) := by decide +kernel
theorem dX3_dismiss_43 : decode cX3_dismiss 43 = .ok (.iaload, 1) := by decide +kernel
theorem dX3_dismiss_44 : decode cX3_dismiss 44 = .ok (.iastore, 1) := by decide +kernel
theorem dX3_dismiss_45 : decode cX3_dismiss 45 = .ok (.aload_n 0, 1) := by decide +kernel
theorem dX3_dismiss_46 : decode cX3_dismiss 46 = .ok (.getfield 31, 3) := by decide +kernel
theorem dX3_dismiss_49 : decode cX3_dismiss 49 = .ok (.iload_n 3, 1) := by decide +kernel
theorem dX3_dismiss_50 : decode cX3_dismiss 50 = .ok (.aload_n 0, 1) := by decide +kernel
theorem dX3_dismiss_51 : decode cX3_dismiss 51 = .ok (.getfield 31, 3) := by decide +kernel
theorem dX3_dismiss_54 : decode cX3_dismiss 54 = .ok (.iload_n 3, 1) := by decide +kernel
theorem dX3_dismiss_55 : decode cX3_dismiss 55 = .ok (.iconst 1, 1) := by decide +kernel
theorem dX3_dismiss_56 : decode cX3_dismiss 56 = .ok (.iadd, 1) := by decide +kernel
theorem dX3_dismiss_57 : decode cX3_dismiss 57 = .ok (.iaload, 1) := by decide +kernel
theorem dX3_dismiss_58 : decode cX3_dismiss 58 = .ok (.iastore, 1) := by decide +kernel
theorem dX3_dismiss_59 : decode cX3_dismiss 59 = .ok (.aload_n 0, 1) := by decide +kernel
theorem dX3_dismiss_60 : decode cX3_dismiss 60 = .ok (.getfield 34, 3) := by decide +kernel
theorem dX3_dismiss_63 : decode cX3_dismiss 63 = .ok (.iload_n 3, 1) := by decide +kernel
theorem dX3_dismiss_64 : decode cX3_dismiss 64 = .ok (.aload_n 0, 1) := by decide +kernel
theorem dX3_dismiss_65 : decode cX3_dismiss 65 = .ok (.getfield 34, 3) := by decide +kernel
theorem dX3_dismiss_68 : decode cX3_dismiss 68 = .ok (.iload_n 3, 1) := by decide +kernel
theorem dX3_dismiss_69 : decode cX3_dismiss 69 = .ok (.iconst 1, 1) := by decide +kernel
theorem dX3_dismiss_70 : decode cX3_dismiss 70 = .ok (.iadd, 1) := by decide +kernel
theorem dX3_dismiss_71 : decode cX3_dismiss 71 = .ok (.baload, 1) := by decide +kernel
theorem dX3_dismiss_72 : decode cX3_dismiss 72 = .ok (.bastore, 1) := by decide +kernel
theorem dX3_dismiss_73 : decode cX3_dismiss 73 = .ok (.iinc 3 1, 3) := by decide +kernel
theorem dX3_dismiss_76 : decode cX3_dismiss 76 = .ok (.goto (-67), 3) := by decide +kernel
theorem dX3_dismiss_79 : decode cX3_dismiss 79 = .ok (.aload_n 0, 1) := by decide +kernel
theorem dX3_dismiss_80 : decode cX3_dismiss 80 = .ok (.getfield 23, 3) := by decide +kernel
theorem dX3_dismiss_83 : decode cX3_dismiss 83 = .ok (.aload_n 0, 1) := by decide +kernel
theorem dX3_dismiss_84 : decode cX3_dismiss 84 = .ok (.getfield 38, 3) := by decide +kernel
theorem dX3_dismiss_87 : decode cX3_dismiss 87 = .ok (.aload_n 2, 1) := by decide +kernel
theorem dX3_dismiss_88 : decode cX3_dismiss 88 = .ok (.aastore, 1) := by decide +kernel
theorem dX3_dismiss_89 : decode cX3_dismiss 89 = .ok (.aload_n 0, 1) := by decide +kernel
theorem dX3_dismiss_90 : decode cX3_dismiss 90 = .ok (.dup, 1) := by decide +kernel
theorem dX3_dismiss_91 : decode cX3_dismiss 91 = .ok (.getfield 38, 3) := by decide +kernel
theorem dX3_dismiss_94 : decode cX3_dismiss 94 = .ok (.iconst 1, 1) := by decide +kernel
theorem dX3_dismiss_95 : decode cX3_dismiss 95 = .ok (.isub, 1) := by decide +kernel
theorem dX3_dismiss_96 : decode cX3_dismiss 96 = .ok (.putfield 38, 3) := by decide +kernel
theorem dX3_dismiss_99 : decode cX3_dismiss 99 = .ok (.aload_n 0, 1) := by decide +kernel
theorem dX3_dismiss_100 : decode cX3_dismiss 100 = .ok (.dup, 1) := by decide +kernel
theorem dX3_dismiss_101 : decode cX3_dismiss 101 = .ok (.getfield 41, 3) := by decide +kernel
theorem dX3_dismiss_104 : decode cX3_dismiss 104 = .ok (.iconst 1, 1) := by decide +kernel
theorem dX3_dismiss_105 : decode cX3_dismiss 105 = .ok (.iadd, 1) := by decide +kernel
theorem dX3_dismiss_106 : decode cX3_dismiss 106 = .ok (.putfield 41, 3) := by decide +kernel
theorem dX3_dismiss_109 : decode cX3_dismiss 109 = .ok (.aload_n 0, 1) := by decide +kernel
theorem dX3_dismiss_110 : decode cX3_dismiss 110 = .ok (.iload_n 1, 1) := by decide +kernel
theorem dX3_dismiss_111 : decode cX3_dismiss 111 = .ok (.iconst 1, 1) := by decide +kernel
theorem dX3_dismiss_112 : decode cX3_dismiss 112 = .ok (.isub, 1) := by decide +kernel
theorem dX3_dismiss_113 : decode cX3_dismiss 113 = .ok (.invokevirtual 142, 3) := by decide +kernel
theorem dX3_dismiss_116 : decode cX3_dismiss 116 = .ok (.return_, 1) := by decide +kernel
theorem dX3_admit_0 : decode cX3_admit 0 = .ok (.aload_n 0, 1) := by decide +kernel
theorem dX3_admit_1 : decode cX3_admit 1 = .ok (.getfield 23, 3) := by decide +kernel
theorem dX3_admit_4 : decode cX3_admit 4 = .ok (.aload_n 0, 1) := by decide +kernel
theorem dX3_admit_5 : decode cX3_admit 5 = .ok (.getfield 38, 3) := by decide +kernel
theorem dX3_admit_8 : decode cX3_admit 8 = .ok (.aaload, 1) := by decide +kernel
theorem dX3_admit_9 : decode cX3_admit 9 = .ok (.astore_n 3, 1) := by decide +kernel
theorem dX3_admit_10 : decode cX3_admit 10 = .ok (.aload_n 0, 1) := by decide +kernel
theorem dX3_admit_11 : decode cX3_admit 11 = .ok (.getfield 38, 3) := by decide +kernel
theorem dX3_admit_14 : decode cX3_admit 14 = .ok (.istore 4, 2) := by decide +kernel
theorem dX3_admit_16 : decode cX3_admit 16 = .ok (.iload 4, 2) := by decide +kernel
theorem dX3_admit_18 : decode cX3_admit 18 = .ok (.ifCond .le 86, 3) := by decide +kernel
theorem dX3_admit_21 : decode cX3_admit 21 = .ok (.aload_n 0, 1) := by decide +kernel
theorem dX3_admit_22 : decode cX3_admit 22 = .ok (.getfield 27, 3) := by decide +kernel
theorem dX3_admit_25 : decode cX3_admit 25 = .ok (.iload 4, 2) := by decide +kernel
theorem dX3_admit_27 : decode cX3_admit 27 = .ok (.iconst 1, 1) := by decide +kernel
theorem dX3_admit_28 : decode cX3_admit 28 = .ok (.isub, 1) := by decide +kernel
theorem dX3_admit_29 : decode cX3_admit 29 = .ok (.iaload, 1) := by decide +kernel
theorem dX3_admit_30 : decode cX3_admit 30 = .ok (.iload_n 1, 1) := by decide +kernel
theorem dX3_admit_31 : decode cX3_admit 31 = .ok (.if_icmp .ge 73, 3) := by decide +kernel
theorem dX3_admit_34 : decode cX3_admit 34 = .ok (.aload_n 0, 1) := by decide +kernel
theorem dX3_admit_35 : decode cX3_admit 35 = .ok (.getfield 23, 3) := by decide +kernel
theorem dX3_admit_38 : decode cX3_admit 38 = .ok (.iload 4, 2) := by decide +kernel
theorem dX3_admit_40 : decode cX3_admit 40 = .ok (.aload_n 0, 1) := by decide +kernel
theorem dX3_admit_41 : decode cX3_admit 41 = .ok (.getfield 23, 3) := by decide +kernel
theorem dX3_admit_44 : decode cX3_admit 44 = .ok (.iload 4, 2) := by decide +kernel
theorem dX3_admit_46 : decode cX3_admit 46 = .ok (.iconst 1, 1) := by decide +kernel
theorem dX3_admit_47 : decode cX3_admit 47 = .ok (.isub, 1) := by decide +kernel
theorem dX3_admit_48 : decode cX3_admit 48 = .ok (.aaload, 1) := by decide +kernel
theorem dX3_admit_49 : decode cX3_admit 49 = .ok (.aastore, 1) := by decide +kernel
theorem dX3_admit_50 : decode cX3_admit 50 = .ok (.aload_n 0, 1) := by decide +kernel
theorem dX3_admit_51 : decode cX3_admit 51 = .ok (.getfield 27, 3) := by decide +kernel
theorem dX3_admit_54 : decode cX3_admit 54 = .ok (.iload 4, 2) := by decide +kernel
theorem dX3_admit_56 : decode cX3_admit 56 = .ok (.aload_n 0, 1) := by decide +kernel
theorem dX3_admit_57 : decode cX3_admit 57 = .ok (.getfield 27, 3) := by decide +kernel
theorem dX3_admit_60 : decode cX3_admit 60 = .ok (.iload 4, 2) := by decide +kernel
theorem dX3_admit_62 : decode cX3_admit 62 = .ok (.iconst 1, 1) := by decide +kernel
theorem dX3_admit_63 : decode cX3_admit 63 = .ok (.isub, 1) := by decide +kernel
theorem dX3_admit_64 : decode cX3_admit 64 = .ok (.iaload, 1) := by decide +kernel
theorem dX3_admit_65 : decode cX3_admit 65 = .ok (.iastore, 1) := by decide +kernel
theorem dX3_admit_66 : decode cX3_admit 66 = .ok (.aload_n 0, 1) := by decide +kernel
theorem dX3_admit_67 : decode cX3_admit 67 = .ok (.getfield 31, 3) := by decide +kernel
theorem dX3_admit_70 : decode cX3_admit 70 = .ok (.iload 4, 2) := by decide +kernel
theorem dX3_admit_72 : decode cX3_admit 72 = .ok (.aload_n 0, 1) := by decide +kernel
theorem dX3_admit_73 : decode cX3_admit 73 = .ok (.getfield 31, 3) := by decide +kernel
theorem dX3_admit_76 : decode cX3_admit 76 = .ok (.iload 4, 2) := by decide +kernel
theorem dX3_admit_78 : decode cX3_admit 78 = .ok (.iconst 1, 1) := by decide +kernel
theorem dX3_admit_79 : decode cX3_admit 79 = .ok (.isub, 1) := by decide +kernel
theorem dX3_admit_80 : decode cX3_admit 80 = .ok (.iaload, 1) := by decide +kernel
theorem dX3_admit_81 : decode cX3_admit 81 = .ok (.iastore, 1) := by decide +kernel
theorem dX3_admit_82 : decode cX3_admit 82 = .ok (.aload_n 0, 1) := by decide +kernel
theorem dX3_admit_83 : decode cX3_admit 83 = .ok (.getfield 34, 3) := by decide +kernel
theorem dX3_admit_86 : decode cX3_admit 86 = .ok (.iload 4, 2) := by decide +kernel
theorem dX3_admit_88 : decode cX3_admit 88 = .ok (.aload_n 0, 1) := by decide +kernel
theorem dX3_admit_89 : decode cX3_admit 89 = .ok (.getfield 34, 3) := by decide +kernel
theorem dX3_admit_92 : decode cX3_admit 92 = .ok (.iload 4, 2) := by decide +kernel
theorem dX3_admit_94 : decode cX3_admit 94 = .ok (.iconst 1, 1) := by decide +kernel
theorem dX3_admit_95 : decode cX3_admit 95 = .ok (.isub, 1) := by decide +kernel
theorem dX3_admit_96 : decode cX3_admit 96 = .ok (.baload, 1) := by decide +kernel
theorem dX3_admit_97 : decode cX3_admit 97 = .ok (.bastore, 1) := by decide +kernel
theorem dX3_admit_98 : decode cX3_admit 98 = .ok (.iinc 4 (-1), 3) := by decide +kernel
theorem dX3_admit_101 : decode cX3_admit 101 = .ok (.goto (-85), 3) := by decide +kernel
theorem dX3_admit_104 : decode cX3_admit 104 = .ok (.aload_n 0, 1) := by decide +kernel
theorem dX3_admit_105 : decode cX3_admit 105 = .ok (.getfield 23, 3) := by decide +kernel
theorem dX3_admit_108 : decode cX3_admit 108 = .ok (.iload 4, 2) := by decide +kernel
theorem dX3_admit_110 : decode cX3_admit 110 = .ok (.aload_n 3, 1) := by decide +kernel
theorem dX3_admit_111 : decode cX3_admit 111 = .ok (.aastore, 1) := by decide +kernel
theorem dX3_admit_112 : decode cX3_admit 112 = .ok (.aload_n 0, 1) := by decide +kernel
theorem dX3_admit_113 : decode cX3_admit 113 = .ok (.getfield 27, 3) := by decide +kernel
theorem dX3_admit_116 : decode cX3_admit 116 = .ok (.iload 4, 2) := by decide +kernel
theorem dX3_admit_118 : decode cX3_admit 118 = .ok (.iload_n 1, 1) := by decide +kernel
theorem dX3_admit_119 : decode cX3_admit 119 = .ok (.iastore, 1) := by decide +kernel
theorem dX3_admit_120 : decode cX3_admit 120 = .ok (.aload_n 0, 1) := by decide +kernel
theorem dX3_admit_121 : decode cX3_admit 121 = .ok (.getfield 31, 3) := by decide +kernel
theorem dX3_admit_124 : decode cX3_admit 124 = .ok (.iload 4, 2) := by decide +kernel
theorem dX3_admit_126 : decode cX3_admit 126 = .ok (.iload_n 2, 1) := by decide +kernel
theorem dX3_admit_127 : decode cX3_admit 127 = .ok (.iastore, 1) := by decide +kernel
theorem dX3_admit_128 : decode cX3_admit 128 = .ok (.aload_n 0, 1) := by decide +kernel
theorem dX3_admit_129 : decode cX3_admit 129 = .ok (.dup, 1) := by decide +kernel
theorem dX3_admit_130 : decode cX3_admit 130 = .ok (.getfield 38, 3) := by decide +kernel
theorem dX3_admit_133 : decode cX3_admit 133 = .ok (.iconst 1, 1) := by decide +kernel
theorem dX3_admit_134 : decode cX3_admit 134 = .ok (.iadd, 1) := by decide +kernel
theorem dX3_admit_135 : decode cX3_admit 135 = .ok (.putfield 38, 3) := by decide +kernel
theorem dX3_admit_138 : decode cX3_admit 138 = .ok (.aload_n 0, 1) := by decide +kernel
theorem dX3_admit_139 : decode cX3_admit 139 = .ok (.dup, 1) := by decide +kernel
theorem dX3_admit_140 : decode cX3_admit 140 = .ok (.getfield 41, 3) := by decide +kernel
theorem dX3_admit_143 : decode cX3_admit 143 = .ok (.iconst 1, 1) := by decide +kernel
theorem dX3_admit_144 : decode cX3_admit 144 = .ok (.isub, 1) := by decide +kernel
theorem dX3_admit_145 : decode cX3_admit 145 = .ok (.putfield 41, 3) := by decide +kernel
theorem dX3_admit_148 : decode cX3_admit 148 = .ok (.aload_n 0, 1) := by decide +kernel
theorem dX3_admit_149 : decode cX3_admit 149 = .ok (.iload 4, 2) := by decide +kernel
theorem dX3_admit_151 : decode cX3_admit 151 = .ok (.invokevirtual 142, 3) := by decide +kernel
theorem dX3_admit_154 : decode cX3_admit 154 = .ok (.aload_n 0, 1) := by decide +kernel
theorem dX3_admit_155 : decode cX3_admit 155 = .ok (.iload 4, 2) := by decide +kernel
theorem dX3_admit_157 : decode cX3_admit 157 = .ok (.iconst 1, 1) := by decide +kernel
theorem dX3_admit_158 : decode cX3_admit 158 = .ok (.isub, 1) := by decide +kernel
theorem dX3_admit_159 : decode cX3_admit 159 = .ok (.invokevirtual 142, 3) := by decide +kernel
theorem dX3_admit_162 : decode cX3_admit 162 = .ok (.return_, 1) := by decide +kernel
theorem dX3_unsettle_0 : decode cX3_unsettle 0 = .ok (.iload_n 1, 1) := by decide +kernel
theorem dX3_unsettle_1 : decode cX3_unsettle 1 = .ok (.ifCond .lt 10, 3) := by decide +kernel
theorem dX3_unsettle_4 : decode cX3_unsettle 4 = .ok (.aload_n 0, 1) := by decide +kernel
theorem dX3_unsettle_5 : decode cX3_unsettle 5 = .ok (.getfield 34, 3) := by decide +kernel
theorem dX3_unsettle_8 : decode cX3_unsettle 8 = .ok (.iload_n 1, 1) := by decide +kernel
theorem dX3_unsettle_9 : decode cX3_unsettle 9 = .ok (.iconst 0, 1) := by decide +kernel
theorem dX3_unsettle_10 : decode cX3_unsettle 10 = .ok (.bastore, 1) := by decide +kernel
theorem dX3_unsettle_11 : decode cX3_unsettle 11 = .ok (.return_, 1) := by decide +kernel
theorem dX3_cheapestPair_0 : decode cX3_cheapestPair 0 = .ok (.iconst (-1), 1) := by decide +kernel
theorem dX3_cheapestPair_1 : decode cX3_cheapestPair 1 = .ok (.istore_n 1, 1) := by decide +kernel
theorem dX3_cheapestPair_2 : decode cX3_cheapestPair 2 = .ok (.bipush 13, 2) := by decide +kernel
theorem dX3_cheapestPair_4 : decode cX3_cheapestPair 4 = .ok (.istore_n 2, 1) := by decide +kernel
theorem dX3_cheapestPair_5 : decode cX3_cheapestPair 5 = .ok (.iconst 0, 1) := by decide +kernel
theorem dX3_cheapestPair_6 : decode cX3_cheapestPair 6 = .ok (.istore_n 3, 1) := by decide +kernel
theorem dX3_cheapestPair_7 : decode cX3_cheapestPair 7 = .ok (.iload_n 3, 1) := by decide +kernel
theorem dX3_cheapestPair_8 : decode cX3_cheapestPair 8 = .ok (.iconst 1, 1) := by decide +kernel
theorem dX3_cheapestPair_9 : decode cX3_cheapestPair 9 = .ok (.iadd, 1) := by decide +kernel
theorem dX3_cheapestPair_10 : decode cX3_cheapestPair 10 = .ok (.aload_n 0, 1) := by decide +kernel
theorem dX3_cheapestPair_11 : decode cX3_cheapestPair 11 = .ok (.getfield 38, 3) := by decide +kernel
theorem dX3_cheapestPair_14 : decode cX3_cheapestPair 14 = .ok (.if_icmp .ge 46, 3) := by decide +kernel
theorem dX3_cheapestPair_17 : decode cX3_cheapestPair 17 = .ok (.aload_n 0, 1) := by decide +kernel
theorem dX3_cheapestPair_18 : decode cX3_cheapestPair 18 = .ok (.getfield 27, 3) := by decide +kernel
theorem dX3_cheapestPair_21 : decode cX3_cheapestPair 21 = .ok (.iload_n 3, 1) := by decide +kernel
theorem dX3_cheapestPair_22 : decode cX3_cheapestPair 22 = .ok (.iaload, 1) := by decide +kernel
theorem dX3_cheapestPair_23 : decode cX3_cheapestPair 23 = .ok (.aload_n 0, 1) := by decide +kernel
theorem dX3_cheapestPair_24 : decode cX3_cheapestPair 24 = .ok (.getfield 31, 3) := by decide +kernel
theorem dX3_cheapestPair_27 : decode cX3_cheapestPair 27 = .ok (.iload_n 3, 1) := by decide +kernel
theorem dX3_cheapestPair_28 : decode cX3_cheapestPair 28 = .ok (.iconst 1, 1) := by decide +kernel
theorem dX3_cheapestPair_29 : decode cX3_cheapestPair 29 = .ok (.iadd, 1) := by decide +kernel
theorem dX3_cheapestPair_30 : decode cX3_cheapestPair 30 = .ok (.iaload, 1) := by decide +kernel
theorem dX3_cheapestPair_31 : decode cX3_cheapestPair 31 = .ok (.iadd, 1) := by decide +kernel
theorem dX3_cheapestPair_32 : decode cX3_cheapestPair 32 = .ok (.istore 4, 2) := by decide +kernel
theorem dX3_cheapestPair_34 : decode cX3_cheapestPair 34 = .ok (.aload_n 0, 1) := by decide +kernel
theorem dX3_cheapestPair_35 : decode cX3_cheapestPair 35 = .ok (.getfield 34, 3) := by decide +kernel
theorem dX3_cheapestPair_38 : decode cX3_cheapestPair 38 = .ok (.iload_n 3, 1) := by decide +kernel
theorem dX3_cheapestPair_39 : decode cX3_cheapestPair 39 = .ok (.baload, 1) := by decide +kernel
theorem dX3_cheapestPair_40 : decode cX3_cheapestPair 40 = .ok (.ifCond .ne 14, 3) := by decide +kernel
theorem dX3_cheapestPair_43 : decode cX3_cheapestPair 43 = .ok (.iload 4, 2) := by decide +kernel
theorem dX3_cheapestPair_45 : decode cX3_cheapestPair 45 = .ok (.iload_n 2, 1) := by decide +kernel
theorem dX3_cheapestPair_46 : decode cX3_cheapestPair 46 = .ok (.if_icmp .ge 8, 3) := by decide +kernel
theorem dX3_cheapestPair_49 : decode cX3_cheapestPair 49 = .ok (.iload_n 3, 1) := by decide +kernel
theorem dX3_cheapestPair_50 : decode cX3_cheapestPair 50 = .ok (.istore_n 1, 1) := by decide +kernel
theorem dX3_cheapestPair_51 : decode cX3_cheapestPair 51 = .ok (.iload 4, 2) := by decide +kernel
theorem dX3_cheapestPair_53 : decode cX3_cheapestPair 53 = .ok (.istore_n 2, 1) := by decide +kernel
theorem dX3_cheapestPair_54 : decode cX3_cheapestPair 54 = .ok (.iinc 3 1, 3) := by decide +kernel
theorem dX3_cheapestPair_57 : decode cX3_cheapestPair 57 = .ok (.goto (-50), 3) := by decide +kernel
theorem dX3_cheapestPair_60 : decode cX3_cheapestPair 60 = .ok (.iload_n 1, 1) := by decide +kernel
theorem dX3_cheapestPair_61 : decode cX3_cheapestPair 61 = .ok (.ireturn, 1) := by decide +kernel
theorem dX3_cross_0 : decode cX3_cross 0 = .ok (.aload_n 0, 1) := by decide +kernel
theorem dX3_cross_1 : decode cX3_cross 1 = .ok (.getfield 38, 3) := by decide +kernel
theorem dX3_cross_4 : decode cX3_cross 4 = .ok (.bipush 6, 2) := by decide +kernel
theorem dX3_cross_6 : decode cX3_cross 6 = .ok (.if_icmp .lt 4, 3) := by decide +kernel
theorem dX3_cross_9 : decode cX3_cross 9 = .ok (.return_, 1) := by decide +kernel
theorem dX3_cross_10 : decode cX3_cross 10 = .ok (.aload_n 0, 1) := by decide +kernel
theorem dX3_cross_11 : decode cX3_cross 11 = .ok (.getfield 23, 3) := by decide +kernel
theorem dX3_cross_14 : decode cX3_cross 14 = .ok (.aload_n 0, 1) := by decide +kernel
theorem dX3_cross_15 : decode cX3_cross 15 = .ok (.getfield 38, 3) := by decide +kernel
theorem dX3_cross_18 : decode cX3_cross 18 = .ok (.aaload, 1) := by decide +kernel
theorem dX3_cross_19 : decode cX3_cross 19 = .ok (.astore_n 2, 1) := by decide +kernel
theorem dX3_cross_20 : decode cX3_cross 20 = .ok (.aload_n 0, 1) := by decide +kernel
theorem dX3_cross_21 : decode cX3_cross 21 = .ok (.getfield 23, 3) := by decide +kernel
theorem dX3_cross_24 : decode cX3_cross 24 = .ok (.iload_n 1, 1) := by decide +kernel
theorem dX3_cross_25 : decode cX3_cross 25 = .ok (.aaload, 1) := by decide +kernel
theorem dX3_cross_26 : decode cX3_cross 26 = .ok (.astore_n 3, 1) := by decide +kernel
theorem dX3_cross_27 : decode cX3_cross 27 = .ok (.aload_n 0, 1) := by decide +kernel
theorem dX3_cross_28 : decode cX3_cross 28 = .ok (.getfield 23, 3) := by decide +kernel
theorem dX3_cross_31 : decode cX3_cross 31 = .ok (.iload_n 1, 1) := by decide +kernel
theorem dX3_cross_32 : decode cX3_cross 32 = .ok (.iconst 1, 1) := by decide +kernel
theorem dX3_cross_33 : decode cX3_cross 33 = .ok (.iadd, 1) := by decide +kernel
theorem dX3_cross_34 : decode cX3_cross 34 = .ok (.aaload, 1) := by decide +kernel
theorem dX3_cross_35 : decode cX3_cross 35 = .ok (.astore 4, 2) := by decide +kernel
theorem dX3_cross_37 : decode cX3_cross 37 = .ok (.iconst 0, 1) := by decide +kernel
theorem dX3_cross_38 : decode cX3_cross 38 = .ok (.aload_n 0, 1) := by decide +kernel
theorem dX3_cross_39 : decode cX3_cross 39 = .ok (.getfield 31, 3) := by decide +kernel
theorem dX3_cross_42 : decode cX3_cross 42 = .ok (.iload_n 1, 1) := by decide +kernel
theorem dX3_cross_43 : decode cX3_cross 43 = .ok (.iconst 1, 1) := by decide +kernel
theorem dX3_cross_44 : decode cX3_cross 44 = .ok (.iadd, 1) := by decide +kernel
theorem dX3_cross_45 : decode cX3_cross 45 = .ok (.iaload, 1) := by decide +kernel
theorem dX3_cross_46 : decode cX3_cross 46 = .ok (.aload_n 0, 1) := by decide +kernel
theorem dX3_cross_47 : decode cX3_cross 47 = .ok (.getfield 31, 3) := by decide +kernel
theorem dX3_cross_50 : decode cX3_cross 50 = .ok (.iload_n 1, 1) := by decide +kernel
theorem dX3_cross_51 : decode cX3_cross 51 = .ok (.iaload, 1) := by decide +kernel
theorem dX3_cross_52 : decode cX3_cross 52 = .ok (.isub, 1) := by decide +kernel
theorem dX3_cross_53 : decode cX3_cross 53 = .ok (.invokestatic 145, 3) := by decide +kernel
theorem dX3_cross_56 : decode cX3_cross 56 = .ok (.istore 5, 2) := by decide +kernel
theorem dX3_cross_58 : decode cX3_cross 58 = .ok (.aload_n 0, 1) := by decide +kernel
theorem dX3_cross_59 : decode cX3_cross 59 = .ok (.getfield 27, 3) := by decide +kernel
theorem dX3_cross_62 : decode cX3_cross 62 = .ok (.iload_n 1, 1) := by decide +kernel
theorem dX3_cross_63 : decode cX3_cross 63 = .ok (.iaload, 1) := by decide +kernel
theorem dX3_cross_64 : decode cX3_cross 64 = .ok (.aload_n 0, 1) := by decide +kernel
theorem dX3_cross_65 : decode cX3_cross 65 = .ok (.getfield 27, 3) := by decide +kernel
theorem dX3_cross_68 : decode cX3_cross 68 = .ok (.iload_n 1, 1) := by decide +kernel
theorem dX3_cross_69 : decode cX3_cross 69 = .ok (.iconst 1, 1) := by decide +kernel
theorem dX3_cross_70 : decode cX3_cross 70 = .ok (.iadd, 1) := by decide +kernel
theorem dX3_cross_71 : decode cX3_cross 71 = .ok (.iaload, 1) := by decide +kernel
theorem dX3_cross_72 : decode cX3_cross 72 = .ok (.isub, 1) := by decide +kernel
theorem dX3_cross_73 : decode cX3_cross 73 = .ok (.iconst 0, 1) := by decide +kernel
theorem dX3_cross_74 : decode cX3_cross 74 = .ok (.invokestatic 145, 3) := by decide +kernel
theorem dX3_cross_77 : decode cX3_cross 77 = .ok (.istore 6, 2) := by decide +kernel
theorem dX3_cross_79 : decode cX3_cross 79 = .ok (.aload_n 2, 1) := by decide +kernel
theorem dX3_cross_80 : decode cX3_cross 80 = .ok (.invokevirtual 149, 3) := by decide +kernel
theorem dX3_cross_83 : decode cX3_cross 83 = .ok (.aload_n 0, 1) := by decide +kernel
theorem dX3_cross_84 : decode cX3_cross 84 = .ok (.getfield 47, 3) := by decide +kernel
theorem dX3_cross_87 : decode cX3_cross 87 = .ok (.aload_n 2, 1) := by decide +kernel
theorem dX3_cross_88 : decode cX3_cross 88 = .ok (.iconst 1, 1) := by decide +kernel
theorem dX3_cross_89 : decode cX3_cross 89 = .ok (.iload 5, 2) := by decide +kernel
theorem dX3_cross_91 : decode cX3_cross 91 = .ok (.aload_n 3, 1) := by decide +kernel
theorem dX3_cross_92 : decode cX3_cross 92 = .ok (.aload_n 3, 1) := by decide +kernel
theorem dX3_cross_93 : decode cX3_cross 93 = .ok (.invokevirtual 152, 3) := by decide +kernel
theorem dX3_cross_96 : decode cX3_cross 96 = .ok (.invokevirtual 155, 3) := by decide +kernel
theorem dX3_cross_99 : decode cX3_cross 99 = .ok (.aload_n 0, 1) := by decide +kernel
