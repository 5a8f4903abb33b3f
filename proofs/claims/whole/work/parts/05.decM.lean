theorem dX10_init_0 : decode cX10_init 0 = .ok (.aload_n 0, 1) := by decide +kernel
theorem dX10_init_1 : decode cX10_init 1 = .ok (.invokespecial 1, 3) := by decide +kernel
theorem dX10_init_4 : decode cX10_init 4 = .ok (.aload_n 0, 1) := by decide +kernel
theorem dX10_init_5 : decode cX10_init 5 = .ok (.sipush 1460, 3) := by decide +kernel
theorem dX10_init_8 : decode cX10_init 8 = .ok (.newarray .int, 2) := by decide +kernel
theorem dX10_init_10 : decode cX10_init 10 = .ok (.putfield 9, 3) := by decide +kernel
theorem dX10_init_13 : decode cX10_init 13 = .ok (.aload_n 0, 1) := by decide +kernel
theorem dX10_init_14 : decode cX10_init 14 = .ok (.sipush 11680, 3) := by decide +kernel
theorem dX10_init_17 : decode cX10_init 17 = .ok (.newarray .int, 2) := by decide +kernel
theorem dX10_init_19 : decode cX10_init 19 = .ok (.putfield 13, 3) := by decide +kernel
theorem dX10_init_22 : decode cX10_init 22 = .ok (.aload_n 0, 1) := by decide +kernel
theorem dX10_init_23 : decode cX10_init 23 = .ok (.sipush 1460, 3) := by decide +kernel
theorem dX10_init_26 : decode cX10_init 26 = .ok (.newarray .int, 2) := by decide +kernel
theorem dX10_init_28 : decode cX10_init 28 = .ok (.putfield 16, 3) := by decide +kernel
theorem dX10_init_31 : decode cX10_init 31 = .ok (.aload_n 0, 1) := by decide +kernel
theorem dX10_init_32 : decode cX10_init 32 = .ok (.sipush 1460, 3) := by decide +kernel
theorem dX10_init_35 : decode cX10_init 35 = .ok (.newarray .int, 2) := by decide +kernel
theorem dX10_init_37 : decode cX10_init 37 = .ok (.putfield 19, 3) := by decide +kernel
theorem dX10_init_40 : decode cX10_init 40 = .ok (.aload_n 0, 1) := by decide +kernel
theorem dX10_init_41 : decode cX10_init 41 = .ok (.bipush 60, 2) := by decide +kernel
theorem dX10_init_43 : decode cX10_init 43 = .ok (.newarray .char, 2) := by decide +kernel
theorem dX10_init_45 : decode cX10_init 45 = .ok (.putfield 22, 3) := by decide +kernel
theorem dX10_init_48 : decode cX10_init 48 = .ok (.aload_n 0, 1) := by decide +kernel
theorem dX10_init_49 : decode cX10_init 49 = .ok (.iconst (-1), 1) := by decide +kernel
theorem dX10_init_50 : decode cX10_init 50 = .ok (.putfield 26, 3) := by decide +kernel
theorem dX10_init_53 : decode cX10_init 53 = .ok (.aload_n 0, 1) := by decide +kernel
theorem dX10_init_54 : decode cX10_init 54 = .ok (.bipush 10, 2) := by decide +kernel
theorem dX10_init_56 : decode cX10_init 56 = .ok (.newarray .int, 2) := by decide +kernel
theorem dX10_init_58 : decode cX10_init 58 = .ok (.putfield 30, 3) := by decide +kernel
theorem dX10_init_61 : decode cX10_init 61 = .ok (.aload_n 0, 1) := by decide +kernel
theorem dX10_init_62 : decode cX10_init 62 = .ok (.bipush 8, 2) := by decide +kernel
theorem dX10_init_64 : decode cX10_init 64 = .ok (.newarray .int, 2) := by decide +kernel
theorem dX10_init_66 : decode cX10_init 66 = .ok (.putfield 33, 3) := by decide +kernel
theorem dX10_init_69 : decode cX10_init 69 = .ok (.aload_n 0, 1) := by decide +kernel
theorem dX10_init_70 : decode cX10_init 70 = .ok (.iconst 3, 1) := by decide +kernel
theorem dX10_init_71 : decode cX10_init 71 = .ok (.newarray .int, 2) := by decide +kernel
theorem dX10_init_73 : decode cX10_init 73 = .ok (.putfield 36, 3) := by decide +kernel
theorem dX10_init_76 : decode cX10_init 76 = .ok (.aload_n 0, 1) := by decide +kernel
theorem dX10_init_77 : decode cX10_init 77 = .ok (.sipush 1200, 3) := by decide +kernel
theorem dX10_init_80 : decode cX10_init 80 = .ok (.newarray .char, 2) := by decide +kernel
theorem dX10_init_82 : decode cX10_init 82 = .ok (.putfield 39, 3) := by decide +kernel
theorem dX10_init_85 : decode cX10_init 85 = .ok (.return_, 1) := by decide +kernel
theorem dX10_thrown_0 : decode cX10_thrown 0 = .ok (.aload_n 0, 1) := by decide +kernel
theorem dX10_thrown_1 : decode cX10_thrown 1 = .ok (.getfield 42, 3) := by decide +kernel
theorem dX10_thrown_4 : decode cX10_thrown 4 = .ok (.ireturn, 1) := by decide +kernel
theorem dX10_in_0 : decode cX10_in 0 = .ok (.iload_n 0, 1) := by decide +kernel
theorem dX10_in_1 : decode cX10_in 1 = .ok (.iload_n 1, 1) := by decide +kernel
theorem dX10_in_2 : decode cX10_in 2 = .ok (.if_icmp .lt 12, 3) := by decide +kernel
theorem dX10_in_5 : decode cX10_in 5 = .ok (.iload_n 0, 1) := by decide +kernel
theorem dX10_in_6 : decode cX10_in 6 = .ok (.iload_n 2, 1) := by decide +kernel
theorem dX10_in_7 : decode cX10_in 7 = .ok (.if_icmp .gt 7, 3) := by decide +kernel
theorem dX10_in_10 : decode cX10_in 10 = .ok (.iconst 1, 1) := by decide +kernel
theorem dX10_in_11 : decode cX10_in 11 = .ok (.goto 4, 3) := by decide +kernel
theorem dX10_in_14 : decode cX10_in 14 = .ok (.iconst 0, 1) := by decide +kernel
theorem dX10_in_15 : decode cX10_in 15 = .ok (.ireturn, 1) := by decide +kernel
theorem dX10_fails_0 : decode cX10_fails 0 = .ok (.aload_n 0, 1) := by decide +kernel
theorem dX10_fails_1 : decode cX10_fails 1 = .ok (.iload_n 1, 1) := by decide +kernel
theorem dX10_fails_2 : decode cX10_fails 2 = .ok (.putfield 42, 3) := by decide +kernel
theorem dX10_fails_5 : decode cX10_fails 5 = .ok (.iconst 0, 1) := by decide +kernel
theorem dX10_fails_6 : decode cX10_fails 6 = .ok (.ireturn, 1) := by decide +kernel
theorem dX10_done_0 : decode cX10_done 0 = .ok (.aload_n 0, 1) := by decide +kernel
theorem dX10_done_1 : decode cX10_done 1 = .ok (.iconst 0, 1) := by decide +kernel
theorem dX10_done_2 : decode cX10_done 2 = .ok (.putfield 42, 3) := by decide +kernel
theorem dX10_done_5 : decode cX10_done 5 = .ok (.iload_n 1, 1) := by decide +kernel
theorem dX10_done_6 : decode cX10_done 6 = .ok (.ireturn, 1) := by decide +kernel
theorem dX10_refuses_0 : decode cX10_refuses 0 = .ok (.aload_n 0, 1) := by decide +kernel
theorem dX10_refuses_1 : decode cX10_refuses 1 = .ok (.iload_n 1, 1) := by decide +kernel
theorem dX10_refuses_2 : decode cX10_refuses 2 = .ok (.putfield 45, 3) := by decide +kernel
theorem dX10_refuses_5 : decode cX10_refuses 5 = .ok (.aload_n 0, 1) := by decide +kernel
theorem dX10_refuses_6 : decode cX10_refuses 6 = .ok (.iload_n 2, 1) := by decide +kernel
theorem dX10_refuses_7 : decode cX10_refuses 7 = .ok (.invokevirtual 48, 3) := by decide +kernel
theorem dX10_refuses_10 : decode cX10_refuses 10 = .ok (.ireturn, 1) := by decide +kernel
theorem dX10_copy_0 : decode cX10_copy 0 = .ok (.iconst 0, 1) := by decide +kernel
theorem dX10_copy_1 : decode cX10_copy 1 = .ok (.istore 4, 2) := by decide +kernel
theorem dX10_copy_3 : decode cX10_copy 3 = .ok (.iload 4, 2) := by decide +kernel
theorem dX10_copy_5 : decode cX10_copy 5 = .ok (.sipush 1460, 3) := by decide +kernel
theorem dX10_copy_8 : decode cX10_copy 8 = .ok (.if_icmp .ge 21, 3) := by decide +kernel
theorem dX10_copy_11 : decode cX10_copy 11 = .ok (.aload_n 2, 1) := by decide +kernel
theorem dX10_copy_12 : decode cX10_copy 12 = .ok (.iload_n 3, 1) := by decide +kernel
theorem dX10_copy_13 : decode cX10_copy 13 = .ok (.iload 4, 2) := by decide +kernel
theorem dX10_copy_15 : decode cX10_copy 15 = .ok (.iadd, 1) := by decide +kernel
theorem dX10_copy_16 : decode cX10_copy 16 = .ok (.aload_n 0, 1) := by decide +kernel
theorem dX10_copy_17 : decode cX10_copy 17 = .ok (.iload_n 1, 1) := by decide +kernel
theorem dX10_copy_18 : decode cX10_copy 18 = .ok (.iload 4, 2) := by decide +kernel
theorem dX10_copy_20 : decode cX10_copy 20 = .ok (.iadd, 1) := by decide +kernel
theorem dX10_copy_21 : decode cX10_copy 21 = .ok (.iaload, 1) := by decide +kernel
theorem dX10_copy_22 : decode cX10_copy 22 = .ok (.iastore, 1) := by decide +kernel
theorem dX10_copy_23 : decode cX10_copy 23 = .ok (.iinc 4 1, 3) := by decide +kernel
theorem dX10_copy_26 : decode cX10_copy 26 = .ok (.goto (-23), 3) := by decide +kernel
theorem dX10_copy_29 : decode cX10_copy 29 = .ok (.return_, 1) := by decide +kernel
theorem dX10_remembers_0 : decode cX10_remembers 0 = .ok (.aload_n 0, 1) := by decide +kernel
theorem dX10_remembers_1 : decode cX10_remembers 1 = .ok (.getfield 52, 3) := by decide +kernel
theorem dX10_remembers_4 : decode cX10_remembers 4 = .ok (.bipush 8, 2) := by decide +kernel
theorem dX10_remembers_6 : decode cX10_remembers 6 = .ok (.if_icmp .ne 44, 3) := by decide +kernel
theorem dX10_remembers_9 : decode cX10_remembers 9 = .ok (.iconst 0, 1) := by decide +kernel
theorem dX10_remembers_10 : decode cX10_remembers 10 = .ok (.istore_n 1, 1) := by decide +kernel
theorem dX10_remembers_11 : decode cX10_remembers 11 = .ok (.iload_n 1, 1) := by decide +kernel
theorem dX10_remembers_12 : decode cX10_remembers 12 = .ok (.sipush 10220, 3) := by decide +kernel
theorem dX10_remembers_15 : decode cX10_remembers 15 = .ok (.if_icmp .ge 25, 3) := by decide +kernel
theorem dX10_remembers_18 : decode cX10_remembers 18 = .ok (.aload_n 0, 1) := by decide +kernel
theorem dX10_remembers_19 : decode cX10_remembers 19 = .ok (.getfield 13, 3) := by decide +kernel
theorem dX10_remembers_22 : decode cX10_remembers 22 = .ok (.iload_n 1, 1) := by decide +kernel
theorem dX10_remembers_23 : decode cX10_remembers 23 = .ok (.aload_n 0, 1) := by decide +kernel
theorem dX10_remembers_24 : decode cX10_remembers 24 = .ok (.getfield 13, 3) := by decide +kernel
theorem dX10_remembers_27 : decode cX10_remembers 27 = .ok (.iload_n 1, 1) := by decide +kernel
theorem dX10_remembers_28 : decode cX10_remembers 28 = .ok (.sipush 1460, 3) := by decide +kernel
theorem dX10_remembers_31 : decode cX10_remembers 31 = .ok (.iadd, 1) := by decide +kernel
theorem dX10_remembers_32 : decode cX10_remembers 32 = .ok (.iaload, 1) := by decide +kernel
theorem dX10_remembers_33 : decode cX10_remembers 33 = .ok (.iastore, 1) := by decide +kernel
theorem dX10_remembers_34 : decode cX10_remembers 34 = .ok (.iinc 1 1, 3) := by decide +kernel
theorem dX10_remembers_37 : decode cX10_remembers 37 = .ok (.goto (-26), 3) := by decide +kernel
theorem dX10_remembers_40 : decode cX10_remembers 40 = .ok (.aload_n 0, 1) := by decide +kernel
theorem dX10_remembers_41 : decode cX10_remembers 41 = .ok (.dup, 1) := by decide +kernel
theorem dX10_remembers_42 : decode cX10_remembers 42 = .ok (.getfield 52, 3) := by decide +kernel
theorem dX10_remembers_45 : decode cX10_remembers 45 = .ok (.iconst 1, 1) := by decide +kernel
theorem dX10_remembers_46 : decode cX10_remembers 46 = .ok (.isub, 1) := by decide +kernel
theorem dX10_remembers_47 : decode cX10_remembers 47 = .ok (.putfield 52, 3) := by decide +kernel
theorem dX10_remembers_50 : decode cX10_remembers 50 = .ok (.aload_n 0, 1) := by decide +kernel
theorem dX10_remembers_51 : decode cX10_remembers 51 = .ok (.getfield 9, 3) := by decide +kernel
theorem dX10_remembers_54 : decode cX10_remembers 54 = .ok (.iconst 0, 1) := by decide +kernel
theorem dX10_remembers_55 : decode cX10_remembers 55 = .ok (.aload_n 0, 1) := by decide +kernel
theorem dX10_remembers_56 : decode cX10_remembers 56 = .ok (.getfield 13, 3) := by decide +kernel
theorem dX10_remembers_59 : decode cX10_remembers 59 = .ok (.aload_n 0, 1) := by decide +kernel
theorem dX10_remembers_60 : decode cX10_remembers 60 = .ok (.getfield 52, 3) := by decide +kernel
theorem dX10_remembers_63 : decode cX10_remembers 63 = .ok (.sipush 1460, 3) := by decide +kernel
theorem dX10_remembers_66 : decode cX10_remembers 66 = .ok (.imul, 1) := by decide +kernel
theorem dX10_remembers_67 : decode cX10_remembers 67 = .ok (.invokestatic 55, 3) := by decide +kernel
theorem dX10_remembers_70 : decode cX10_remembers 70 = .ok (.aload_n 0, 1) := by decide +kernel
theorem dX10_remembers_71 : decode cX10_remembers 71 = .ok (.dup, 1) := by decide +kernel
theorem dX10_remembers_72 : decode cX10_remembers 72 = .ok (.getfield 52, 3) := by decide +kernel
theorem dX10_remembers_75 : decode cX10_remembers 75 = .ok (.iconst 1, 1) := by decide +kernel
theorem dX10_remembers_76 : decode cX10_remembers 76 = .ok (.iadd, 1) := by decide +kernel
theorem dX10_remembers_77 : decode cX10_remembers 77 = .ok (.putfield 52, 3) := by decide +kernel
theorem dX10_remembers_80 : decode cX10_remembers 80 = .ok (.return_, 1) := by decide +kernel
theorem dX10_isColorant_0 : decode cX10_isColorant 0 = .ok (.iload_n 1, 1) := by decide +kernel
theorem dX10_isColorant_1 : decode cX10_isColorant 1 = .ok (.iconst 0, 1) := by decide +kernel
theorem dX10_isColorant_2 : decode cX10_isColorant 2 = .ok (.aload_n 0, 1) := by decide +kernel
theorem dX10_isColorant_3 : decode cX10_isColorant 3 = .ok (.getfield 9, 3) := by decide +kernel
theorem dX10_isColorant_6 : decode cX10_isColorant 6 = .ok (.iconst 0, 1) := by decide +kernel
theorem dX10_isColorant_7 : decode cX10_isColorant 7 = .ok (.iaload, 1) := by decide +kernel
theorem dX10_isColorant_8 : decode cX10_isColorant 8 = .ok (.iconst 1, 1) := by decide +kernel
theorem dX10_isColorant_9 : decode cX10_isColorant 9 = .ok (.isub, 1) := by decide +kernel
theorem dX10_isColorant_10 : decode cX10_isColorant 10 = .ok (.invokestatic 59, 3) := by decide +kernel
theorem dX10_isColorant_13 : decode cX10_isColorant 13 = .ok (.ireturn, 1) := by decide +kernel
theorem dX10_isFormula_0 : decode cX10_isFormula 0 = .ok (.iload_n 1, 1) := by decide +kernel
theorem dX10_isFormula_1 : decode cX10_isFormula 1 = .ok (.iconst 0, 1) := by decide +kernel
theorem dX10_isFormula_2 : decode cX10_isFormula 2 = .ok (.aload_n 0, 1) := by decide +kernel
theorem dX10_isFormula_3 : decode cX10_isFormula 3 = .ok (.getfield 9, 3) := by decide +kernel
theorem dX10_isFormula_6 : decode cX10_isFormula 6 = .ok (.iconst 2, 1) := by decide +kernel
theorem dX10_isFormula_7 : decode cX10_isFormula 7 = .ok (.iaload, 1) := by decide +kernel
theorem dX10_isFormula_8 : decode cX10_isFormula 8 = .ok (.iconst 1, 1) := by decide +kernel
theorem dX10_isFormula_9 : decode cX10_isFormula 9 = .ok (.isub, 1) := by decide +kernel
theorem dX10_isFormula_10 : decode cX10_isFormula 10 = .ok (.invokestatic 59, 3) := by decide +kernel
theorem dX10_isFormula_13 : decode cX10_isFormula 13 = .ok (.ireturn, 1) := by decide +kernel
theorem dX10_isCan_0 : decode cX10_isCan 0 = .ok (.iload_n 1, 1) := by decide +kernel
theorem dX10_isCan_1 : decode cX10_isCan 1 = .ok (.iconst 0, 1) := by decide +kernel
theorem dX10_isCan_2 : decode cX10_isCan 2 = .ok (.aload_n 0, 1) := by decide +kernel
theorem dX10_isCan_3 : decode cX10_isCan 3 = .ok (.getfield 9, 3) := by decide +kernel
theorem dX10_isCan_6 : decode cX10_isCan 6 = .ok (.iconst 3, 1) := by decide +kernel
theorem dX10_isCan_7 : decode cX10_isCan 7 = .ok (.iaload, 1) := by decide +kernel
theorem dX10_isCan_8 : decode cX10_isCan 8 = .ok (.iconst 1, 1) := by decide +kernel
theorem dX10_isCan_9 : decode cX10_isCan 9 = .ok (.isub, 1) := by decide +kernel
theorem dX10_isCan_10 : decode cX10_isCan 10 = .ok (.invokestatic 59, 3) := by decide +kernel
theorem dX10_isCan_13 : decode cX10_isCan 13 = .ok (.ireturn, 1) := by decide +kernel
theorem dX10_isLot_0 : decode cX10_isLot 0 = .ok (.iload_n 0, 1) := by decide +kernel
theorem dX10_isLot_1 : decode cX10_isLot 1 = .ok (.iconst 0, 1) := by decide +kernel
theorem dX10_isLot_2 : decode cX10_isLot 2 = .ok (.bipush 99, 2) := by decide +kernel
theorem dX10_isLot_4 : decode cX10_isLot 4 = .ok (.invokestatic 59, 3) := by decide +kernel
theorem dX10_isLot_7 : decode cX10_isLot 7 = .ok (.ireturn, 1) := by decide +kernel
theorem dX10_colorantAt_0 : decode cX10_colorantAt 0 = .ok (.aload_n 0, 1) := by decide +kernel
theorem dX10_colorantAt_1 : decode cX10_colorantAt 1 = .ok (.getfield 9, 3) := by decide +kernel
theorem dX10_colorantAt_4 : decode cX10_colorantAt 4 = .ok (.iconst 5, 1) := by decide +kernel
theorem dX10_colorantAt_5 : decode cX10_colorantAt 5 = .ok (.bipush 46, 2) := by decide +kernel
theorem dX10_colorantAt_7 : decode cX10_colorantAt 7 = .ok (.iload_n 1, 1) := by decide +kernel
theorem dX10_colorantAt_8 : decode cX10_colorantAt 8 = .ok (.imul, 1) := by decide +kernel
theorem dX10_colorantAt_9 : decode cX10_colorantAt 9 = .ok (.iadd, 1) := by decide +kernel
theorem dX10_colorantAt_10 : decode cX10_colorantAt 10 = .ok (.iload_n 2, 1) := by decide +kernel
theorem dX10_colorantAt_11 : decode cX10_colorantAt 11 = .ok (.iadd, 1) := by decide +kernel
theorem dX10_colorantAt_12 : decode cX10_colorantAt 12 = .ok (.iaload, 1) := by decide +kernel
theorem dX10_colorantAt_13 : decode cX10_colorantAt 13 = .ok (.ireturn, 1) := by decide +kernel
theorem dX10_baseAt_0 : decode cX10_baseAt 0 = .ok (.aload_n 0, 1) := by decide +kernel
theorem dX10_baseAt_1 : decode cX10_baseAt 1 = .ok (.getfield 9, 3) := by decide +kernel
theorem dX10_baseAt_4 : decode cX10_baseAt 4 = .ok (.sipush 373, 3) := by decide +kernel
theorem dX10_baseAt_7 : decode cX10_baseAt 7 = .ok (.bipush 6, 2) := by decide +kernel
theorem dX10_baseAt_9 : decode cX10_baseAt 9 = .ok (.iload_n 1, 1) := by decide +kernel
theorem dX10_baseAt_10 : decode cX10_baseAt 10 = .ok (.imul, 1) := by decide +kernel
theorem dX10_baseAt_11 : decode cX10_baseAt 11 = .ok (.iadd, 1) := by decide +kernel
theorem dX10_baseAt_12 : decode cX10_baseAt 12 = .ok (.iload_n 2, 1) := by decide +kernel
theorem dX10_baseAt_13 : decode cX10_baseAt 13 = .ok (.iadd, 1) := by decide +kernel
theorem dX10_baseAt_14 : decode cX10_baseAt 14 = .ok (.iaload, 1) := by decide +kernel
theorem dX10_baseAt_15 : decode cX10_baseAt 15 = .ok (.ireturn, 1) := by decide +kernel
theorem dX10_canAt_0 : decode cX10_canAt 0 = .ok (.aload_n 0, 1) := by decide +kernel
theorem dX10_canAt_1 : decode cX10_canAt 1 = .ok (.getfield 9, 3) := by decide +kernel
theorem dX10_canAt_4 : decode cX10_canAt 4 = .ok (.sipush 579, 3) := by decide +kernel
theorem dX10_canAt_7 : decode cX10_canAt 7 = .ok (.bipush 44, 2) := by decide +kernel
theorem dX10_canAt_9 : decode cX10_canAt 9 = .ok (.iload_n 1, 1) := by decide +kernel
theorem dX10_canAt_10 : decode cX10_canAt 10 = .ok (.imul, 1) := by decide +kernel
theorem dX10_canAt_11 : decode cX10_canAt 11 = .ok (.iadd, 1) := by decide +kernel
theorem dX10_canAt_12 : decode cX10_canAt 12 = .ok (.iload_n 2, 1) := by decide +kernel
theorem dX10_canAt_13 : decode cX10_canAt 13 = .ok (.iadd, 1) := by decide +kernel
theorem dX10_canAt_14 : decode cX10_canAt 14 = .ok (.iaload, 1) := by decide +kernel
theorem dX10_canAt_15 : decode cX10_canAt 15 = .ok (.ireturn, 1) := by decide +kernel
theorem dX10_addColorant_0 : decode cX10_addColorant 0 = .ok (.iload_n 1, 1) := by decide +kernel
theorem dX10_addColorant_1 : decode cX10_addColorant 1 = .ok (.iconst 0, 1) := by decide +kernel
theorem dX10_addColorant_2 : decode cX10_addColorant 2 = .ok (.bipush 9, 2) := by decide +kernel
theorem dX10_addColorant_4 : decode cX10_addColorant 4 = .ok (.invokestatic 59, 3) := by decide +kernel
theorem dX10_addColorant_7 : decode cX10_addColorant 7 = .ok (.ifCond .eq 23, 3) := by decide +kernel
theorem dX10_addColorant_10 : decode cX10_addColorant 10 = .ok (.iload_n 2, 1) := by decide +kernel
theorem dX10_addColorant_11 : decode cX10_addColorant 11 = .ok (.iconst 0, 1) := by decide +kernel
theorem dX10_addColorant_12 : decode cX10_addColorant 12 = .ok (.bipush 9, 2) := by decide +kernel
theorem dX10_addColorant_14 : decode cX10_addColorant 14 = .ok (.invokestatic 59, 3) := by decide +kernel
theorem dX10_addColorant_17 : decode cX10_addColorant 17 = .ok (.ifCond .eq 13, 3) := by decide +kernel
theorem dX10_addColorant_20 : decode cX10_addColorant 20 = .ok (.iload_n 3, 1) := by decide +kernel
theorem dX10_addColorant_21 : decode cX10_addColorant 21 = .ok (.iconst 0, 1) := by decide +kernel
theorem dX10_addColorant_22 : decode cX10_addColorant 22 = .ok (.bipush 9, 2) := by decide +kernel
theorem dX10_addColorant_24 : decode cX10_addColorant 24 = .ok (.invokestatic 59, 3) := by decide +kernel
theorem dX10_addColorant_27 : decode cX10_addColorant 27 = .ok (.ifCond .ne 9, 3) := by decide +kernel
theorem dX10_addColorant_30 : decode cX10_addColorant 30 = .ok (.aload_n 0, 1) := by decide +kernel
theorem dX10_addColorant_31 : decode cX10_addColorant 31 = .ok (.iconst 1, 1) := by decide +kernel
theorem dX10_addColorant_32 : decode cX10_addColorant 32 = .ok (.invokevirtual 48, 3) := by decide +kernel
theorem dX10_addColorant_35 : decode cX10_addColorant 35 = .ok (.ireturn, 1) := by decide +kernel
theorem dX10_addColorant_36 : decode cX10_addColorant 36 = .ok (.aload_n 0, 1) := by decide +kernel
theorem dX10_addColorant_37 : decode cX10_addColorant 37 = .ok (.getfield 9, 3) := by decide +kernel
theorem dX10_addColorant_40 : decode cX10_addColorant 40 = .ok (.iconst 0, 1) := by decide +kernel
theorem dX10_addColorant_41 : decode cX10_addColorant 41 = .ok (.iaload, 1) := by decide +kernel
theorem dX10_addColorant_42 : decode cX10_addColorant 42 = .ok (.bipush 8, 2) := by decide +kernel
theorem dX10_addColorant_44 : decode cX10_addColorant 44 = .ok (.if_icmp .ne 9, 3) := by decide +kernel
theorem dX10_addColorant_47 : decode cX10_addColorant 47 = .ok (.aload_n 0, 1) := by decide +kernel
theorem dX10_addColorant_48 : decode cX10_addColorant 48 = .ok (.iconst 2, 1) := by decide +kernel
theorem dX10_addColorant_49 : decode cX10_addColorant 49 = .ok (.invokevirtual 48, 3) := by decide +kernel
theorem dX10_addColorant_52 : decode cX10_addColorant 52 = .ok (.ireturn, 1) := by decide +kernel
theorem dX10_addColorant_53 : decode cX10_addColorant 53 = .ok (.aload_n 0, 1) := by decide +kernel
theorem dX10_addColorant_54 : decode cX10_addColorant 54 = .ok (.invokevirtual 63, 3) := by decide +kernel
theorem dX10_addColorant_57 : decode cX10_addColorant 57 = .ok (.iconst 5, 1) := by decide +kernel
theorem dX10_addColorant_58 : decode cX10_addColorant 58 = .ok (.bipush 46, 2) := by decide +kernel
theorem dX10_addColorant_60 : decode cX10_addColorant 60 = .ok (.aload_n 0, 1) := by decide +kernel
theorem dX10_addColorant_61 : decode cX10_addColorant 61 = .ok (.getfield 9, 3) := by decide +kernel
theorem dX10_addColorant_64 : decode cX10_addColorant 64 = .ok (.iconst 0, 1) := by decide +kernel
theorem dX10_addColorant_65 : decode cX10_addColorant 65 = .ok (.iaload, 1) := by decide +kernel
theorem dX10_addColorant_66 : decode cX10_addColorant 66 = .ok (.imul, 1) := by decide +kernel
theorem dX10_addColorant_67 : decode cX10_addColorant 67 = .ok (.iadd, 1) := by decide +kernel
theorem dX10_addColorant_68 : decode cX10_addColorant 68 = .ok (.istore 4, 2) := by decide +kernel
theorem dX10_addColorant_70 : decode cX10_addColorant 70 = .ok (.aload_n 0, 1) := by decide +kernel
theorem dX10_addColorant_71 : decode cX10_addColorant 71 = .ok (.getfield 9, 3) := by decide +kernel
theorem dX10_addColorant_74 : decode cX10_addColorant 74 = .ok (.iload 4, 2) := by decide +kernel
theorem dX10_addColorant_76 : decode cX10_addColorant 76 = .ok (.iload_n 1, 1) := by decide +kernel
theorem dX10_addColorant_77 : decode cX10_addColorant 77 = .ok (.iastore, 1) := by decide +kernel
theorem dX10_addColorant_78 : decode cX10_addColorant 78 = .ok (.aload_n 0, 1) := by decide +kernel
theorem dX10_addColorant_79 : decode cX10_addColorant 79 = .ok (.getfield 9, 3) := by decide +kernel
theorem dX10_addColorant_82 : decode cX10_addColorant 82 = .ok (.iload 4, 2) := by decide +kernel
theorem dX10_addColorant_84 : decode cX10_addColorant 84 = .ok (.iconst 1, 1) := by decide +kernel
theorem dX10_addColorant_85 : decode cX10_addColorant 85 = .ok (.iadd, 1) := by decide +kernel
theorem dX10_addColorant_86 : decode cX10_addColorant 86 = .ok (.iload_n 2, 1) := by decide +kernel
theorem dX10_addColorant_87 : decode cX10_addColorant 87 = .ok (.iastore, 1) := by decide +kernel
theorem dX10_addColorant_88 : decode cX10_addColorant 88 = .ok (.aload_n 0, 1) := by decide +kernel
theorem dX10_addColorant_89 : decode cX10_addColorant 89 = .ok (.getfield 9, 3) := by decide +kernel
theorem dX10_addColorant_92 : decode cX10_addColorant 92 = .ok (.iload 4, 2) := by decide +kernel
theorem dX10_addColorant_94 : decode cX10_addColorant 94 = .ok (.iconst 2, 1) := by decide +kernel
theorem dX10_addColorant_95 : decode cX10_addColorant 95 = .ok (.iadd, 1) := by decide +kernel
theorem dX10_addColorant_96 : decode cX10_addColorant 96 = .ok (.iload_n 3, 1) := by decide +kernel
theorem dX10_addColorant_97 : decode cX10_addColorant 97 = .ok (.iastore, 1) := by decide +kernel
theorem dX10_addColorant_98 : decode cX10_addColorant 98 = .ok (.aload_n 0, 1) := by decide +kernel
theorem dX10_addColorant_99 : decode cX10_addColorant 99 = .ok (.getfield 9, 3) := by decide +kernel
theorem dX10_addColorant_102 : decode cX10_addColorant 102 = .ok (.iload 4, 2) := by decide +kernel
theorem dX10_addColorant_104 : decode cX10_addColorant 104 = .ok (.bipush 44, 2) := by decide +kernel
theorem dX10_addColorant_106 : decode cX10_addColorant 106 = .ok (.iadd, 1) := by decide +kernel
theorem dX10_addColorant_107 : decode cX10_addColorant 107 = .ok (.bipush 60, 2) := by decide +kernel
theorem dX10_addColorant_109 : decode cX10_addColorant 109 = .ok (.iastore, 1) := by decide +kernel
theorem dX10_addColorant_110 : decode cX10_addColorant 110 = .ok (.aload_n 0, 1) := by decide +kernel
theorem dX10_addColorant_111 : decode cX10_addColorant 111 = .ok (.getfield 9, 3) := by decide +kernel
theorem dX10_addColorant_114 : decode cX10_addColorant 114 = .ok (.iconst 0, 1) := by decide +kernel
theorem dX10_addColorant_115 : decode cX10_addColorant 115 = .ok (.dup2, 1) := by decide +kernel
theorem dX10_addColorant_116 : decode cX10_addColorant 116 = .ok (.iaload, 1) := by decide +kernel
theorem dX10_addColorant_117 : decode cX10_addColorant 117 = .ok (.iconst 1, 1) := by decide +kernel
theorem dX10_addColorant_118 : decode cX10_addColorant 118 = .ok (.iadd, 1) := by decide +kernel
theorem dX10_addColorant_119 : decode cX10_addColorant 119 = .ok (.iastore, 1) := by decide +kernel
theorem dX10_addColorant_120 : decode cX10_addColorant 120 = .ok (.aload_n 0, 1) := by decide +kernel
theorem dX10_addColorant_121 : decode cX10_addColorant 121 = .ok (.aload_n 0, 1) := by decide +kernel
theorem dX10_addColorant_122 : decode cX10_addColorant 122 = .ok (.getfield 9, 3) := by decide +kernel
theorem dX10_addColorant_125 : decode cX10_addColorant 125 = .ok (.iconst 0, 1) := by decide +kernel
theorem dX10_addColorant_126 : decode cX10_addColorant 126 = .ok (.iaload, 1) := by decide +kernel
theorem dX10_addColorant_127 : decode cX10_addColorant 127 = .ok (.iconst 1, 1) := by decide +kernel
theorem dX10_addColorant_128 : decode cX10_addColorant 128 = .ok (.isub, 1) := by decide +kernel
theorem dX10_addColorant_129 : decode cX10_addColorant 129 = .ok (.invokevirtual 66, 3) := by decide +kernel
theorem dX10_addColorant_132 : decode cX10_addColorant 132 = .ok (.ireturn, 1) := by decide +kernel
theorem dX10_inCanister_0 : decode cX10_inCanister 0 = .ok (.iconst 0, 1) := by decide +kernel
theorem dX10_inCanister_1 : decode cX10_inCanister 1 = .ok (.istore_n 2, 1) := by decide +kernel
theorem dX10_inCanister_2 : decode cX10_inCanister 2 = .ok (.iconst 0, 1) := by decide +kernel
theorem dX10_inCanister_3 : decode cX10_inCanister 3 = .ok (.istore_n 3, 1) := by decide +kernel
theorem dX10_inCanister_4 : decode cX10_inCanister 4 = .ok (.iload_n 3, 1) := by decide +kernel
theorem dX10_inCanister_5 : decode cX10_inCanister 5 = .ok (.aload_n 0, 1) := by decide +kernel
theorem dX10_inCanister_6 : decode cX10_inCanister 6 = .ok (.iload_n 1, 1) := by decide +kernel
theorem dX10_inCanister_7 : decode cX10_inCanister 7 = .ok (.iconst 3, 1) := by decide +kernel
theorem dX10_inCanister_8 : decode cX10_inCanister 8 = .ok (.invokevirtual 69, 3) := by decide +kernel
theorem dX10_inCanister_11 : decode cX10_inCanister 11 = .ok (.if_icmp .ge 21, 3) := by decide +kernel
theorem dX10_inCanister_14 : decode cX10_inCanister 14 = .ok (.iload_n 2, 1) := by decide +kernel
theorem dX10_inCanister_15 : decode cX10_inCanister 15 = .ok (.aload_n 0, 1) := by decide +kernel
theorem dX10_inCanister_16 : decode cX10_inCanister 16 = .ok (.iload_n 1, 1) := by decide +kernel
theorem dX10_inCanister_17 : decode cX10_inCanister 17 = .ok (.bipush 19, 2) := by decide +kernel
theorem dX10_inCanister_19 : decode cX10_inCanister 19 = .ok (.iload_n 3, 1) := by decide +kernel
theorem dX10_inCanister_20 : decode cX10_inCanister 20 = .ok (.iadd, 1) := by decide +kernel
theorem dX10_inCanister_21 : decode cX10_inCanister 21 = .ok (.invokevirtual 69, 3) := by decide +kernel
theorem dX10_inCanister_24 : decode cX10_inCanister 24 = .ok (.iadd, 1) := by decide +kernel
theorem dX10_inCanister_25 : decode cX10_inCanister 25 = .ok (.istore_n 2, 1) := by decide +kernel
theorem dX10_inCanister_26 : decode cX10_inCanister 26 = .ok (.iinc 3 1, 3) := by decide +kernel
theorem dX10_inCanister_29 : decode cX10_inCanister 29 = .ok (.goto (-25), 3) := by decide +kernel
theorem dX10_inCanister_32 : decode cX10_inCanister 32 = .ok (.iload_n 2, 1) := by decide +kernel
theorem dX10_inCanister_33 : decode cX10_inCanister 33 = .ok (.ireturn, 1) := by decide +kernel
theorem dX10_refill_0 : decode cX10_refill 0 = .ok (.aload_n 0, 1) := by decide +kernel
theorem dX10_refill_1 : decode cX10_refill 1 = .ok (.iload_n 1, 1) := by decide +kernel
theorem dX10_refill_2 : decode cX10_refill 2 = .ok (.invokevirtual 73, 3) := by decide +kernel
theorem dX10_refill_5 : decode cX10_refill 5 = .ok (.ifCond .ne 9, 3) := by decide +kernel
theorem dX10_refill_8 : decode cX10_refill 8 = .ok (.aload_n 0, 1) := by decide +kernel
theorem dX10_refill_9 : decode cX10_refill 9 = .ok (.iconst 1, 1) := by decide +kernel
theorem dX10_refill_10 : decode cX10_refill 10 = .ok (.invokevirtual 48, 3) := by decide +kernel
theorem dX10_refill_13 : decode cX10_refill 13 = .ok (.ireturn, 1) := by decide +kernel
theorem dX10_refill_14 : decode cX10_refill 14 = .ok (.iload_n 2, 1) := by decide +kernel
theorem dX10_refill_15 : decode cX10_refill 15 = .ok (.invokestatic 77, 3) := by decide +kernel
theorem dX10_refill_18 : decode cX10_refill 18 = .ok (.ifCond .eq 14, 3) := by decide +kernel
theorem dX10_refill_21 : decode cX10_refill 21 = .ok (.iload_n 3, 1) := by decide +kernel
theorem dX10_refill_22 : decode cX10_refill 22 = .ok (.iconst 1, 1) := by decide +kernel
theorem dX10_refill_23 : decode cX10_refill 23 = .ok (.sipush 500, 3) := by decide +kernel
theorem dX10_refill_26 : decode cX10_refill 26 = .ok (.invokestatic 59, 3) := by decide +kernel
theorem dX10_refill_29 : decode cX10_refill 29 = .ok (.ifCond .ne 9, 3) := by decide +kernel
theorem dX10_refill_32 : decode cX10_refill 32 = .ok (.aload_n 0, 1) := by decide +kernel
theorem dX10_refill_33 : decode cX10_refill 33 = .ok (.iconst 2, 1) := by decide +kernel
theorem dX10_refill_34 : decode cX10_refill 34 = .ok (.invokevirtual 48, 3) := by decide +kernel
theorem dX10_refill_37 : decode cX10_refill 37 = .ok (.ireturn, 1) := by decide +kernel
theorem dX10_refill_38 : decode cX10_refill 38 = .ok (.aload_n 0, 1) := by decide +kernel
theorem dX10_refill_39 : decode cX10_refill 39 = .ok (.iload_n 1, 1) := by decide +kernel
theorem dX10_refill_40 : decode cX10_refill 40 = .ok (.iconst 3, 1) := by decide +kernel
theorem dX10_refill_41 : decode cX10_refill 41 = .ok (.invokevirtual 69, 3) := by decide +kernel
theorem dX10_refill_44 : decode cX10_refill 44 = .ok (.bipush 12, 2) := by decide +kernel
theorem dX10_refill_46 : decode cX10_refill 46 = .ok (.if_icmp .ne 10, 3) := by decide +kernel
theorem dX10_refill_49 : decode cX10_refill 49 = .ok (.aload_n 0, 1) := by decide +kernel
theorem dX10_refill_50 : decode cX10_refill 50 = .ok (.iconst 2, 1) := by decide +kernel
theorem dX10_refill_51 : decode cX10_refill 51 = .ok (.iconst 3, 1) := by decide +kernel
theorem dX10_refill_52 : decode cX10_refill 52 = .ok (.invokevirtual 80, 3) := by decide +kernel
theorem dX10_refill_55 : decode cX10_refill 55 = .ok (.ireturn, 1) := by decide +kernel
theorem dX10_refill_56 : decode cX10_refill 56 = .ok (.aload_n 0, 1) := by decide +kernel
theorem dX10_refill_57 : decode cX10_refill 57 = .ok (.invokevirtual 63, 3) := by decide +kernel
theorem dX10_refill_60 : decode cX10_refill 60 = .ok (.iconst 5, 1) := by decide +kernel
theorem dX10_refill_61 : decode cX10_refill 61 = .ok (.bipush 46, 2) := by decide +kernel
theorem dX10_refill_63 : decode cX10_refill 63 = .ok (.iload_n 1, 1) := by decide +kernel
theorem dX10_refill_64 : decode cX10_refill 64 = .ok (.imul, 1) := by decide +kernel
theorem dX10_refill_65 : decode cX10_refill 65 = .ok (.iadd, 1) := by decide +kernel
theorem dX10_refill_66 : decode cX10_refill 66 = .ok (.istore 4, 2) := by decide +kernel
theorem dX10_refill_68 : decode cX10_refill 68 = .ok (.aload_n 0, 1) := by decide +kernel
theorem dX10_refill_69 : decode cX10_refill 69 = .ok (.getfield 9, 3) := by decide +kernel
theorem dX10_refill_72 : decode cX10_refill 72 = .ok (.iload 4, 2) := by decide +kernel
theorem dX10_refill_74 : decode cX10_refill 74 = .ok (.bipush 7, 2) := by decide +kernel
theorem dX10_refill_76 : decode cX10_refill 76 = .ok (.iadd, 1) := by decide +kernel
theorem dX10_refill_77 : decode cX10_refill 77 = .ok (.aload_n 0, 1) := by decide +kernel
theorem dX10_refill_78 : decode cX10_refill 78 = .ok (.getfield 9, 3) := by decide +kernel
theorem dX10_refill_81 : decode cX10_refill 81 = .ok (.iload 4, 2) := by decide +kernel
theorem dX10_refill_83 : decode cX10_refill 83 = .ok (.iconst 3, 1) := by decide +kernel
theorem dX10_refill_84 : decode cX10_refill 84 = .ok (.iadd, 1) := by decide +kernel
theorem dX10_refill_85 : decode cX10_refill 85 = .ok (.iaload, 1) := by decide +kernel
theorem dX10_refill_86 : decode cX10_refill 86 = .ok (.iadd, 1) := by decide +kernel
theorem dX10_refill_87 : decode cX10_refill 87 = .ok (.iload_n 2, 1) := by decide +kernel
theorem dX10_refill_88 : decode cX10_refill 88 = .ok (.iastore, 1) := by decide +kernel
theorem dX10_refill_89 : decode cX10_refill 89 = .ok (.aload_n 0, 1) := by decide +kernel
theorem dX10_refill_90 : decode cX10_refill 90 = .ok (.getfield 9, 3) := by decide +kernel
theorem dX10_refill_93 : decode cX10_refill 93 = .ok (.iload 4, 2) := by decide +kernel
theorem dX10_refill_95 : decode cX10_refill 95 = .ok (.bipush 19, 2) := by decide +kernel
theorem dX10_refill_97 : decode cX10_refill 97 = .ok (.iadd, 1) := by decide +kernel
theorem dX10_refill_98 : decode cX10_refill 98 = .ok (.aload_n 0, 1) := by decide +kernel
theorem dX10_refill_99 : decode cX10_refill 99 = .ok (.getfield 9, 3) := by decide +kernel
theorem dX10_refill_102 : decode cX10_refill 102 = .ok (.iload 4, 2) := by decide +kernel
theorem dX10_refill_104 : decode cX10_refill 104 = .ok (.iconst 3, 1) := by decide +kernel
theorem dX10_refill_105 : decode cX10_refill 105 = .ok (.iadd, 1) := by decide +kernel
theorem dX10_refill_106 : decode cX10_refill 106 = .ok (.iaload, 1) := by decide +kernel
theorem dX10_refill_107 : decode cX10_refill 107 = .ok (.iadd, 1) := by decide +kernel
theorem dX10_refill_108 : decode cX10_refill 108 = .ok (.iload_n 3, 1) := by decide +kernel
theorem dX10_refill_109 : decode cX10_refill 109 = .ok (.iastore, 1) := by decide +kernel
theorem dX10_refill_110 : decode cX10_refill 110 = .ok (.aload_n 0, 1) := by decide +kernel
theorem dX10_refill_111 : decode cX10_refill 111 = .ok (.getfield 9, 3) := by decide +kernel
theorem dX10_refill_114 : decode cX10_refill 114 = .ok (.iload 4, 2) := by decide +kernel
theorem dX10_refill_116 : decode cX10_refill 116 = .ok (.bipush 31, 2) := by decide +kernel
theorem dX10_refill_118 : decode cX10_refill 118 = .ok (.iadd, 1) := by decide +kernel
theorem dX10_refill_119 : decode cX10_refill 119 = .ok (.aload_n 0, 1) := by decide +kernel
theorem dX10_refill_120 : decode cX10_refill 120 = .ok (.getfield 9, 3) := by decide +kernel
theorem dX10_refill_123 : decode cX10_refill 123 = .ok (.iload 4, 2) := by decide +kernel
theorem dX10_refill_125 : decode cX10_refill 125 = .ok (.iconst 3, 1) := by decide +kernel
theorem dX10_refill_126 : decode cX10_refill 126 = .ok (.iadd, 1) := by decide +kernel
theorem dX10_refill_127 : decode cX10_refill 127 = .ok (.iaload, 1) := by decide +kernel
theorem dX10_refill_128 : decode cX10_refill 128 = .ok (.iadd, 1) := by decide +kernel
theorem dX10_refill_129 : decode cX10_refill 129 = .ok (.aload_n 0, 1) := by decide +kernel
theorem dX10_refill_130 : decode cX10_refill 130 = .ok (.getfield 9, 3) := by decide +kernel
theorem dX10_refill_133 : decode cX10_refill 133 = .ok (.iconst 4, 1) := by decide +kernel
theorem dX10_refill_134 : decode cX10_refill 134 = .ok (.iaload, 1) := by decide +kernel
theorem dX10_refill_135 : decode cX10_refill 135 = .ok (.aload_n 0, 1) := by decide +kernel
theorem dX10_refill_136 : decode cX10_refill 136 = .ok (.getfield 9, 3) := by decide +kernel
theorem dX10_refill_139 : decode cX10_refill 139 = .ok (.iload 4, 2) := by decide +kernel
theorem dX10_refill_141 : decode cX10_refill 141 = .ok (.bipush 44, 2) := by decide +kernel
theorem dX10_refill_143 : decode cX10_refill 143 = .ok (.iadd, 1) := by decide +kernel
theorem dX10_refill_144 : decode cX10_refill 144 = .ok (.iaload, 1) := by decide +kernel
theorem dX10_refill_145 : decode cX10_refill 145 = .ok (.iadd, 1) := by decide +kernel
theorem dX10_refill_146 : decode cX10_refill 146 = .ok (.iastore, 1) := by decide +kernel
theorem dX10_refill_147 : decode cX10_refill 147 = .ok (.aload_n 0, 1) := by decide +kernel
theorem dX10_refill_148 : decode cX10_refill 148 = .ok (.getfield 9, 3) := by decide +kernel
theorem dX10_refill_151 : decode cX10_refill 151 = .ok (.iload 4, 2) := by decide +kernel
theorem dX10_refill_153 : decode cX10_refill 153 = .ok (.iconst 3, 1) := by decide +kernel
theorem dX10_refill_154 : decode cX10_refill 154 = .ok (.iadd, 1) := by decide +kernel
theorem dX10_refill_155 : decode cX10_refill 155 = .ok (.dup2, 1) := by decide +kernel
theorem dX10_refill_156 : decode cX10_refill 156 = .ok (.iaload, 1) := by decide +kernel
theorem dX10_refill_157 : decode cX10_refill 157 = .ok (.iconst 1, 1) := by decide +kernel
theorem dX10_refill_158 : decode cX10_refill 158 = .ok (.iadd, 1) := by decide +kernel
theorem dX10_refill_159 : decode cX10_refill 159 = .ok (.iastore, 1) := by decide +kernel
theorem dX10_refill_160 : decode cX10_refill 160 = .ok (.aload_n 0, 1) := by decide +kernel
theorem dX10_refill_161 : decode cX10_refill 161 = .ok (.getfield 9, 3) := by decide +kernel
theorem dX10_refill_164 : decode cX10_refill 164 = .ok (.iload 4, 2) := by decide +kernel
theorem dX10_refill_166 : decode cX10_refill 166 = .ok (.iconst 4, 1) := by decide +kernel
theorem dX10_refill_167 : decode cX10_refill 167 = .ok (.iadd, 1) := by decide +kernel
theorem dX10_refill_168 : decode cX10_refill 168 = .ok (.dup2, 1) := by decide +kernel
theorem dX10_refill_169 : decode cX10_refill 169 = .ok (.iaload, 1) := by decide +kernel
theorem dX10_refill_170 : decode cX10_refill 170 = .ok (.iload_n 3, 1) := by decide +kernel
theorem dX10_refill_171 : decode cX10_refill 171 = .ok (.iadd, 1) := by decide +kernel
theorem dX10_refill_172 : decode cX10_refill 172 = .ok (.iastore, 1) := by decide +kernel
theorem dX10_refill_173 : decode cX10_refill 173 = .ok (.aload_n 0, 1) := by decide +kernel
theorem dX10_refill_174 : decode cX10_refill 174 = .ok (.aload_n 0, 1) := by decide +kernel
theorem dX10_refill_175 : decode cX10_refill 175 = .ok (.iload_n 1, 1) := by decide +kernel
theorem dX10_refill_176 : decode cX10_refill 176 = .ok (.invokevirtual 83, 3) := by decide +kernel
theorem dX10_refill_179 : decode cX10_refill 179 = .ok (.invokevirtual 66, 3) := by decide +kernel
theorem dX10_refill_182 : decode cX10_refill 182 = .ok (.ireturn, 1) := by decide +kernel
theorem dX10_goes_0 : decode cX10_goes 0 = .ok (.iconst 5, 1) := by decide +kernel
theorem dX10_goes_1 : decode cX10_goes 1 = .ok (.bipush 46, 2) := by decide +kernel
theorem dX10_goes_3 : decode cX10_goes 3 = .ok (.iload_n 1, 1) := by decide +kernel
theorem dX10_goes_4 : decode cX10_goes 4 = .ok (.imul, 1) := by decide +kernel
theorem dX10_goes_5 : decode cX10_goes 5 = .ok (.iadd, 1) := by decide +kernel
theorem dX10_goes_6 : decode cX10_goes 6 = .ok (.istore_n 3, 1) := by decide +kernel
theorem dX10_goes_7 : decode cX10_goes 7 = .ok (.iload_n 2, 1) := by decide +kernel
theorem dX10_goes_8 : decode cX10_goes 8 = .ok (.istore 4, 2) := by decide +kernel
theorem dX10_goes_10 : decode cX10_goes 10 = .ok (.iload 4, 2) := by decide +kernel
theorem dX10_goes_12 : decode cX10_goes 12 = .ok (.aload_n 0, 1) := by decide +kernel
theorem dX10_goes_13 : decode cX10_goes 13 = .ok (.getfield 9, 3) := by decide +kernel
theorem dX10_goes_16 : decode cX10_goes 16 = .ok (.iload_n 3, 1) := by decide +kernel
theorem dX10_goes_17 : decode cX10_goes 17 = .ok (.iconst 3, 1) := by decide +kernel
theorem dX10_goes_18 : decode cX10_goes 18 = .ok (.iadd, 1) := by decide +kernel
theorem dX10_goes_19 : decode cX10_goes 19 = .ok (.iaload, 1) := by decide +kernel
theorem dX10_goes_20 : decode cX10_goes 20 = .ok (.iconst 1, 1) := by decide +kernel
theorem dX10_goes_21 : decode cX10_goes 21 = .ok (.isub, 1) := by decide +kernel
theorem dX10_goes_22 : decode cX10_goes 22 = .ok (.if_icmp .ge 87, 3) := by decide +kernel
theorem dX10_goes_25 : decode cX10_goes 25 = .ok (.aload_n 0, 1) := by decide +kernel
theorem dX10_goes_26 : decode cX10_goes 26 = .ok (.getfield 9, 3) := by decide +kernel
theorem dX10_goes_29 : decode cX10_goes 29 = .ok (.iload_n 3, 1) := by decide +kernel
theorem dX10_goes_30 : decode cX10_goes 30 = .ok (.bipush 7, 2) := by decide +kernel
theorem dX10_goes_32 : decode cX10_goes 32 = .ok (.iadd, 1) := by decide +kernel
theorem dX10_goes_33 : decode cX10_goes 33 = .ok (.iload 4, 2) := by decide +kernel
theorem dX10_goes_35 : decode cX10_goes 35 = .ok (.iadd, 1) := by decide +kernel
theorem dX10_goes_36 : decode cX10_goes 36 = .ok (.aload_n 0, 1) := by decide +kernel
theorem dX10_goes_37 : decode cX10_goes 37 = .ok (.getfield 9, 3) := by decide +kernel
theorem dX10_goes_40 : decode cX10_goes 40 = .ok (.iload_n 3, 1) := by decide +kernel
theorem dX10_goes_41 : decode cX10_goes 41 = .ok (.bipush 7, 2) := by decide +kernel
theorem dX10_goes_43 : decode cX10_goes 43 = .ok (.iadd, 1) := by decide +kernel
theorem dX10_goes_44 : decode cX10_goes 44 = .ok (.iload 4, 2) := by decide +kernel
theorem dX10_goes_46 : decode cX10_goes 46 = .ok (.iadd, 1) := by decide +kernel
theorem dX10_goes_47 : decode cX10_goes 47 = .ok (.iconst 1, 1) := by decide +kernel
theorem dX10_goes_48 : decode cX10_goes 48 = .ok (.iadd, 1) := by decide +kernel
theorem dX10_goes_49 : decode cX10_goes 49 = .ok (.iaload, 1) := by decide +kernel
theorem dX10_goes_50 : decode cX10_goes 50 = .ok (.iastore, 1) := by decide +kernel
theorem dX10_goes_51 : decode cX10_goes 51 = .ok (.aload_n 0, 1) := by decide +kernel
theorem dX10_goes_52 : decode cX10_goes 52 = .ok (.getfield 9, 3) := by decide +kernel
theorem dX10_goes_55 : decode cX10_goes 55 = .ok (.iload_n 3, 1) := by decide +kernel
theorem dX10_goes_56 : decode cX10_goes 56 = .ok (.bipush 19, 2) := by decide +kernel
theorem dX10_goes_58 : decode cX10_goes 58 = .ok (.iadd, 1) := by decide +kernel
theorem dX10_goes_59 : decode cX10_goes 59 = .ok (.iload 4, 2) := by decide +kernel
theorem dX10_goes_61 : decode cX10_goes 61 = .ok (.iadd, 1) := by decide +kernel
theorem dX10_goes_62 : decode cX10_goes 62 = .ok (.aload_n 0, 1) := by decide +kernel
theorem dX10_goes_63 : decode cX10_goes 63 = .ok (.getfield 9, 3) := by decide +kernel
theorem dX10_goes_66 : decode cX10_goes 66 = .ok (.iload_n 3, 1) := by decide +kernel
theorem dX10_goes_67 : decode cX10_goes 67 = .ok (.bipush 19, 2) := by decide +kernel
theorem dX10_goes_69 : decode cX10_goes 69 = .ok (.iadd, 1) := by decide +kernel
theorem dX10_goes_70 : decode cX10_goes 70 = .ok (.iload 4, 2) := by decide +kernel
theorem dX10_goes_72 : decode cX10_goes 72 = .ok (.iadd, 1) := by decide +kernel
theorem dX10_goes_73 : decode cX10_goes 73 = .ok (.iconst 1, 1) := by decide +kernel
theorem dX10_goes_74 : decode cX10_goes 74 = .ok (.iadd, 1) := by decide +kernel
theorem dX10_goes_75 : decode cX10_goes 75 = .ok (.iaload, 1) := by decide +kernel
theorem dX10_goes_76 : decode cX10_goes 76 = .ok (.iastore, 1) := by decide +kernel
theorem dX10_goes_77 : decode cX10_goes 77 = .ok (.aload_n 0, 1) := by decide +kernel
theorem dX10_goes_78 : decode cX10_goes 78 = .ok (.getfield 9, 3) := by decide +kernel
theorem dX10_goes_81 : decode cX10_goes 81 = .ok (.iload_n 3, 1) := by decide +kernel
theorem dX10_goes_82 : decode cX10_goes 82 = .ok (.bipush 31, 2) := by decide +kernel
theorem dX10_goes_84 : decode cX10_goes 84 = .ok (.iadd, 1) := by decide +kernel
theorem dX10_goes_85 : decode cX10_goes 85 = .ok (.iload 4, 2) := by decide +kernel
theorem dX10_goes_87 : decode cX10_goes 87 = .ok (.iadd, 1) := by decide +kernel
theorem dX10_goes_88 : decode cX10_goes 88 = .ok (.aload_n 0, 1) := by decide +kernel
theorem dX10_goes_89 : decode cX10_goes 89 = .ok (.getfield 9, 3) := by decide +kernel
theorem dX10_goes_92 : decode cX10_goes 92 = .ok (.iload_n 3, 1) := by decide +kernel
theorem dX10_goes_93 : decode cX10_goes 93 = .ok (.bipush 31, 2) := by decide +kernel
theorem dX10_goes_95 : decode cX10_goes 95 = .ok (.iadd, 1) := by decide +kernel
theorem dX10_goes_96 : decode cX10_goes 96 = .ok (.iload 4, 2) := by decide +kernel
theorem dX10_goes_98 : decode cX10_goes 98 = .ok (.iadd, 1) := by decide +kernel
theorem dX10_goes_99 : decode cX10_goes 99 = .ok (.iconst 1, 1) := by decide +kernel
theorem dX10_goes_100 : decode cX10_goes 100 = .ok (.iadd, 1) := by decide +kernel
theorem dX10_goes_101 : decode cX10_goes 101 = .ok (.iaload, 1) := by decide +kernel
theorem dX10_goes_102 : decode cX10_goes 102 = .ok (.iastore, 1) := by decide +kernel
theorem dX10_goes_103 : decode cX10_goes 103 = .ok (.iinc 4 1, 3) := by decide +kernel
theorem dX10_goes_106 : decode cX10_goes 106 = .ok (.goto (-96), 3) := by decide +kernel
theorem dX10_goes_109 : decode cX10_goes 109 = .ok (.aload_n 0, 1) := by decide +kernel
theorem dX10_goes_110 : decode cX10_goes 110 = .ok (.getfield 9, 3) := by decide +kernel
theorem dX10_goes_113 : decode cX10_goes 113 = .ok (.iload_n 3, 1) := by decide +kernel
theorem dX10_goes_114 : decode cX10_goes 114 = .ok (.iconst 3, 1) := by decide +kernel
theorem dX10_goes_115 : decode cX10_goes 115 = .ok (.iadd, 1) := by decide +kernel
theorem dX10_goes_116 : decode cX10_goes 116 = .ok (.dup2, 1) := by decide +kernel
theorem dX10_goes_117 : decode cX10_goes 117 = .ok (.iaload, 1) := by decide +kernel
theorem dX10_goes_118 : decode cX10_goes 118 = .ok (.iconst 1, 1) := by decide +kernel
theorem dX10_goes_119 : decode cX10_goes 119 = .ok (.isub, 1) := by decide +kernel
theorem dX10_goes_120 : decode cX10_goes 120 = .ok (.iastore, 1) := by decide +kernel
theorem dX10_goes_121 : decode cX10_goes 121 = .ok (.return_, 1) := by decide +kernel
theorem dX10_recall_0 : decode cX10_recall 0 = .ok (.aload_n 0, 1) := by decide +kernel
theorem dX10_recall_1 : decode cX10_recall 1 = .ok (.iload_n 1, 1) := by decide +kernel
theorem dX10_recall_2 : decode cX10_recall 2 = .ok (.invokevirtual 73, 3) := by decide +kernel
theorem dX10_recall_5 : decode cX10_recall 5 = .ok (.ifCond .ne 9, 3) := by decide +kernel
theorem dX10_recall_8 : decode cX10_recall 8 = .ok (.aload_n 0, 1) := by decide +kernel
theorem dX10_recall_9 : decode cX10_recall 9 = .ok (.iconst 1, 1) := by decide +kernel
theorem dX10_recall_10 : decode cX10_recall 10 = .ok (.invokevirtual 48, 3) := by decide +kernel
theorem dX10_recall_13 : decode cX10_recall 13 = .ok (.ireturn, 1) := by decide +kernel
theorem dX10_recall_14 : decode cX10_recall 14 = .ok (.iload_n 2, 1) := by decide +kernel
theorem dX10_recall_15 : decode cX10_recall 15 = .ok (.invokestatic 77, 3) := by decide +kernel
theorem dX10_recall_18 : decode cX10_recall 18 = .ok (.ifCond .ne 9, 3) := by decide +kernel
theorem dX10_recall_21 : decode cX10_recall 21 = .ok (.aload_n 0, 1) := by decide +kernel
theorem dX10_recall_22 : decode cX10_recall 22 = .ok (.iconst 2, 1) := by decide +kernel
theorem dX10_recall_23 : decode cX10_recall 23 = .ok (.invokevirtual 48, 3) := by decide +kernel
theorem dX10_recall_26 : decode cX10_recall 26 = .ok (.ireturn, 1) := by decide +kernel
theorem dX10_recall_27 : decode cX10_recall 27 = .ok (.aload_n 0, 1) := by decide +kernel
theorem dX10_recall_28 : decode cX10_recall 28 = .ok (.invokevirtual 63, 3) := by decide +kernel
theorem dX10_recall_31 : decode cX10_recall 31 = .ok (.iconst 0, 1) := by decide +kernel
theorem dX10_recall_32 : decode cX10_recall 32 = .ok (.istore_n 3, 1) := by decide +kernel
theorem dX10_recall_33 : decode cX10_recall 33 = .ok (.aload_n 0, 1) := by decide +kernel
theorem dX10_recall_34 : decode cX10_recall 34 = .ok (.iload_n 1, 1) := by decide +kernel
theorem dX10_recall_35 : decode cX10_recall 35 = .ok (.iconst 3, 1) := by decide +kernel
theorem dX10_recall_36 : decode cX10_recall 36 = .ok (.invokevirtual 69, 3) := by decide +kernel
theorem dX10_recall_39 : decode cX10_recall 39 = .ok (.iconst 1, 1) := by decide +kernel
theorem dX10_recall_40 : decode cX10_recall 40 = .ok (.isub, 1) := by decide +kernel
theorem dX10_recall_41 : decode cX10_recall 41 = .ok (.istore 4, 2) := by decide +kernel
theorem dX10_recall_43 : decode cX10_recall 43 = .ok (.iload 4, 2) := by decide +kernel
theorem dX10_recall_45 : decode cX10_recall 45 = .ok (.ifCond .lt 43, 3) := by decide +kernel
theorem dX10_recall_48 : decode cX10_recall 48 = .ok (.aload_n 0, 1) := by decide +kernel
theorem dX10_recall_49 : decode cX10_recall 49 = .ok (.iload_n 1, 1) := by decide +kernel
theorem dX10_recall_50 : decode cX10_recall 50 = .ok (.bipush 7, 2) := by decide +kernel
theorem dX10_recall_52 : decode cX10_recall 52 = .ok (.iload 4, 2) := by decide +kernel
theorem dX10_recall_54 : decode cX10_recall 54 = .ok (.iadd, 1) := by decide +kernel
theorem dX10_recall_55 : decode cX10_recall 55 = .ok (.invokevirtual 69, 3) := by decide +kernel
theorem dX10_recall_58 : decode cX10_recall 58 = .ok (.iload_n 2, 1) := by decide +kernel
theorem dX10_recall_59 : decode cX10_recall 59 = .ok (.if_icmp .ne 23, 3) := by decide +kernel
theorem dX10_recall_62 : decode cX10_recall 62 = .ok (.iload_n 3, 1) := by decide +kernel
theorem dX10_recall_63 : decode cX10_recall 63 = .ok (.aload_n 0, 1) := by decide +kernel
theorem dX10_recall_64 : decode cX10_recall 64 = .ok (.iload_n 1, 1) := by decide +kernel
theorem dX10_recall_65 : decode cX10_recall 65 = .ok (.bipush 19, 2) := by decide +kernel
theorem dX10_recall_67 : decode cX10_recall 67 = .ok (.iload 4, 2) := by decide +kernel
theorem dX10_recall_69 : decode cX10_recall 69 = .ok (.iadd, 1) := by decide +kernel
theorem dX10_recall_70 : decode cX10_recall 70 = .ok (.invokevirtual 69, 3) := by decide +kernel
theorem dX10_recall_73 : decode cX10_recall 73 = .ok (.iadd, 1) := by decide +kernel
theorem dX10_recall_74 : decode cX10_recall 74 = .ok (.istore_n 3, 1) := by decide +kernel
theorem dX10_recall_75 : decode cX10_recall 75 = .ok (.aload_n 0, 1) := by decide +kernel
theorem dX10_recall_76 : decode cX10_recall 76 = .ok (.iload_n 1, 1) := by decide +kernel
theorem dX10_recall_77 : decode cX10_recall 77 = .ok (.iload 4, 2) := by decide +kernel
theorem dX10_recall_79 : decode cX10_recall 79 = .ok (.invokevirtual 86, 3) := by decide +kernel
theorem dX10_recall_82 : decode cX10_recall 82 = .ok (.iinc 4 (-1), 3) := by decide +kernel
theorem dX10_recall_85 : decode cX10_recall 85 = .ok (.goto (-42), 3) := by decide +kernel
theorem dX10_recall_88 : decode cX10_recall 88 = .ok (.aload_n 0, 1) := by decide +kernel
theorem dX10_recall_89 : decode cX10_recall 89 = .ok (.getfield 9, 3) := by decide +kernel
theorem dX10_recall_92 : decode cX10_recall 92 = .ok (.iconst 5, 1) := by decide +kernel
theorem dX10_recall_93 : decode cX10_recall 93 = .ok (.bipush 46, 2) := by decide +kernel
theorem dX10_recall_95 : decode cX10_recall 95 = .ok (.iload_n 1, 1) := by decide +kernel
theorem dX10_recall_96 : decode cX10_recall 96 = .ok (.imul, 1) := by decide +kernel
theorem dX10_recall_97 : decode cX10_recall 97 = .ok (.iadd, 1) := by decide +kernel
theorem dX10_recall_98 : decode cX10_recall 98 = .ok (.bipush 6, 2) := by decide +kernel
theorem dX10_recall_100 : decode cX10_recall 100 = .ok (.iadd, 1) := by decide +kernel
theorem dX10_recall_101 : decode cX10_recall 101 = .ok (.dup2, 1) := by decide +kernel
theorem dX10_recall_102 : decode cX10_recall 102 = .ok (.iaload, 1) := by decide +kernel
theorem dX10_recall_103 : decode cX10_recall 103 = .ok (.iload_n 3, 1) := by decide +kernel
theorem dX10_recall_104 : decode cX10_recall 104 = .ok (.iadd, 1) := by decide +kernel
theorem dX10_recall_105 : decode cX10_recall 105 = .ok (.iastore, 1) := by decide +kernel
theorem dX10_recall_106 : decode cX10_recall 106 = .ok (.aload_n 0, 1) := by decide +kernel
theorem dX10_recall_107 : decode cX10_recall 107 = .ok (.iload_n 3, 1) := by decide +kernel
theorem dX10_recall_108 : decode cX10_recall 108 = .ok (.invokevirtual 66, 3) := by decide +kernel
theorem dX10_recall_111 : decode cX10_recall 111 = .ok (.ireturn, 1) := by decide +kernel
theorem dX10_colorant_0 : decode cX10_colorant 0 = .ok (.aload_n 0, 1) := by decide +kernel
theorem dX10_colorant_1 : decode cX10_colorant 1 = .ok (.iload_n 1, 1) := by decide +kernel
theorem dX10_colorant_2 : decode cX10_colorant 2 = .ok (.invokevirtual 73, 3) := by decide +kernel
theorem dX10_colorant_5 : decode cX10_colorant 5 = .ok (.ifCond .ne 9, 3) := by decide +kernel
theorem dX10_colorant_8 : decode cX10_colorant 8 = .ok (.aload_n 0, 1) := by decide +kernel
theorem dX10_colorant_9 : decode cX10_colorant 9 = .ok (.iconst 1, 1) := by decide +kernel
theorem dX10_colorant_10 : decode cX10_colorant 10 = .ok (.invokevirtual 48, 3) := by decide +kernel
theorem dX10_colorant_13 : decode cX10_colorant 13 = .ok (.ireturn, 1) := by decide +kernel
theorem dX10_colorant_14 : decode cX10_colorant 14 = .ok (.iload_n 2, 1) := by decide +kernel
theorem dX10_colorant_15 : decode cX10_colorant 15 = .ok (.iconst 0, 1) := by decide +kernel
theorem dX10_colorant_16 : decode cX10_colorant 16 = .ok (.bipush 9, 2) := by decide +kernel
theorem dX10_colorant_18 : decode cX10_colorant 18 = .ok (.invokestatic 59, 3) := by decide +kernel
theorem dX10_colorant_21 : decode cX10_colorant 21 = .ok (.ifCond .ne 9, 3) := by decide +kernel
theorem dX10_colorant_24 : decode cX10_colorant 24 = .ok (.aload_n 0, 1) := by decide +kernel
theorem dX10_colorant_25 : decode cX10_colorant 25 = .ok (.iconst 2, 1) := by decide +kernel
theorem dX10_colorant_26 : decode cX10_colorant 26 = .ok (.invokevirtual 48, 3) := by decide +kernel
theorem dX10_colorant_29 : decode cX10_colorant 29 = .ok (.ireturn, 1) := by decide +kernel
theorem dX10_colorant_30 : decode cX10_colorant 30 = .ok (.iload_n 2, 1) := by decide +kernel
theorem dX10_colorant_31 : decode cX10_colorant 31 = .ok (.bipush 7, 2) := by decide +kernel
theorem dX10_colorant_33 : decode cX10_colorant 33 = .ok (.if_icmp .le 26, 3) := by decide +kernel
theorem dX10_colorant_36 : decode cX10_colorant 36 = .ok (.aload_n 0, 1) := by decide +kernel
theorem dX10_colorant_37 : decode cX10_colorant 37 = .ok (.aload_n 0, 1) := by decide +kernel
theorem dX10_colorant_38 : decode cX10_colorant 38 = .ok (.iload_n 1, 1) := by decide +kernel
theorem dX10_colorant_39 : decode cX10_colorant 39 = .ok (.iload_n 2, 1) := by decide +kernel
theorem dX10_colorant_40 : decode cX10_colorant 40 = .ok (.bipush 8, 2) := by decide +kernel
theorem dX10_colorant_42 : decode cX10_colorant 42 = .ok (.if_icmp .ne 8, 3) := by decide +kernel
theorem dX10_colorant_45 : decode cX10_colorant 45 = .ok (.bipush 43, 2) := by decide +kernel
theorem dX10_colorant_47 : decode cX10_colorant 47 = .ok (.goto 5, 3) := by decide +kernel
theorem dX10_colorant_50 : decode cX10_colorant 50 = .ok (.bipush 44, 2) := by decide +kernel
theorem dX10_colorant_52 : decode cX10_colorant 52 = .ok (.invokevirtual 69, 3) := by decide +kernel
theorem dX10_colorant_55 : decode cX10_colorant 55 = .ok (.invokevirtual 66, 3) := by decide +kernel
theorem dX10_colorant_58 : decode cX10_colorant 58 = .ok (.ireturn, 1) := by decide +kernel
theorem dX10_colorant_59 : decode cX10_colorant 59 = .ok (.aload_n 0, 1) := by decide +kernel
theorem dX10_colorant_60 : decode cX10_colorant 60 = .ok (.iload_n 2, 1) := by decide +kernel
theorem dX10_colorant_61 : decode cX10_colorant 61 = .ok (.iconst 3, 1) := by decide +kernel
theorem dX10_colorant_62 : decode cX10_colorant 62 = .ok (.if_icmp .ge 12, 3) := by decide +kernel
theorem dX10_colorant_65 : decode cX10_colorant 65 = .ok (.aload_n 0, 1) := by decide +kernel
theorem dX10_colorant_66 : decode cX10_colorant 66 = .ok (.iload_n 1, 1) := by decide +kernel
theorem dX10_colorant_67 : decode cX10_colorant 67 = .ok (.iload_n 2, 1) := by decide +kernel
theorem dX10_colorant_68 : decode cX10_colorant 68 = .ok (.invokevirtual 69, 3) := by decide +kernel
theorem dX10_colorant_71 : decode cX10_colorant 71 = .ok (.goto 26, 3) := by decide +kernel
theorem dX10_colorant_74 : decode cX10_colorant 74 = .ok (.iload_n 2, 1) := by decide +kernel
theorem dX10_colorant_75 : decode cX10_colorant 75 = .ok (.iconst 3, 1) := by decide +kernel
theorem dX10_colorant_76 : decode cX10_colorant 76 = .ok (.if_icmp .ne 11, 3) := by decide +kernel
theorem dX10_colorant_79 : decode cX10_colorant 79 = .ok (.aload_n 0, 1) := by decide +kernel
theorem dX10_colorant_80 : decode cX10_colorant 80 = .ok (.iload_n 1, 1) := by decide +kernel
theorem dX10_colorant_81 : decode cX10_colorant 81 = .ok (.invokevirtual 83, 3) := by decide +kernel
theorem dX10_colorant_84 : decode cX10_colorant 84 = .ok (.goto 13, 3) := by decide +kernel
theorem dX10_colorant_87 : decode cX10_colorant 87 = .ok (.aload_n 0, 1) := by decide +kernel
theorem dX10_colorant_88 : decode cX10_colorant 88 = .ok (.iload_n 1, 1) := by decide +kernel
theorem dX10_colorant_89 : decode cX10_colorant 89 = .ok (.iconst 3, 1) := by decide +kernel
theorem dX10_colorant_90 : decode cX10_colorant 90 = .ok (.iload_n 2, 1) := by decide +kernel
theorem dX10_colorant_91 : decode cX10_colorant 91 = .ok (.iadd, 1) := by decide +kernel
theorem dX10_colorant_92 : decode cX10_colorant 92 = .ok (.iconst 4, 1) := by decide +kernel
theorem dX10_colorant_93 : decode cX10_colorant 93 = .ok (.isub, 1) := by decide +kernel
theorem dX10_colorant_94 : decode cX10_colorant 94 = .ok (.invokevirtual 69, 3) := by decide +kernel
theorem dX10_colorant_97 : decode cX10_colorant 97 = .ok (.invokevirtual 66, 3) := by decide +kernel
theorem dX10_colorant_100 : decode cX10_colorant 100 = .ok (.ireturn, 1) := by decide +kernel
theorem dX10_lot_0 : decode cX10_lot 0 = .ok (.aload_n 0, 1) := by decide +kernel
theorem dX10_lot_1 : decode cX10_lot 1 = .ok (.iload_n 1, 1) := by decide +kernel
theorem dX10_lot_2 : decode cX10_lot 2 = .ok (.invokevirtual 73, 3) := by decide +kernel
theorem dX10_lot_5 : decode cX10_lot 5 = .ok (.ifCond .ne 9, 3) := by decide +kernel
theorem dX10_lot_8 : decode cX10_lot 8 = .ok (.aload_n 0, 1) := by decide +kernel
theorem dX10_lot_9 : decode cX10_lot 9 = .ok (.iconst 1, 1) := by decide +kernel
theorem dX10_lot_10 : decode cX10_lot 10 = .ok (.invokevirtual 48, 3) := by decide +kernel
theorem dX10_lot_13 : decode cX10_lot 13 = .ok (.ireturn, 1) := by decide +kernel
theorem dX10_lot_14 : decode cX10_lot 14 = .ok (.iload_n 2, 1) := by decide +kernel
theorem dX10_lot_15 : decode cX10_lot 15 = .ok (.iconst 0, 1) := by decide +kernel
theorem dX10_lot_16 : decode cX10_lot 16 = .ok (.aload_n 0, 1) := by decide +kernel
theorem dX10_lot_17 : decode cX10_lot 17 = .ok (.iload_n 1, 1) := by decide +kernel
theorem dX10_lot_18 : decode cX10_lot 18 = .ok (.iconst 3, 1) := by decide +kernel
theorem dX10_lot_19 : decode cX10_lot 19 = .ok (.invokevirtual 69, 3) := by decide +kernel
theorem dX10_lot_22 : decode cX10_lot 22 = .ok (.iconst 1, 1) := by decide +kernel
theorem dX10_lot_23 : decode cX10_lot 23 = .ok (.isub, 1) := by decide +kernel
theorem dX10_lot_24 : decode cX10_lot 24 = .ok (.invokestatic 59, 3) := by decide +kernel
theorem dX10_lot_27 : decode cX10_lot 27 = .ok (.ifCond .ne 9, 3) := by decide +kernel
theorem dX10_lot_30 : decode cX10_lot 30 = .ok (.aload_n 0, 1) := by decide +kernel
theorem dX10_lot_31 : decode cX10_lot 31 = .ok (.iconst 2, 1) := by decide +kernel
theorem dX10_lot_32 : decode cX10_lot 32 = .ok (.invokevirtual 48, 3) := by decide +kernel
theorem dX10_lot_35 : decode cX10_lot 35 = .ok (.ireturn, 1) := by decide +kernel
theorem dX10_lot_36 : decode cX10_lot 36 = .ok (.iload_n 3, 1) := by decide +kernel
theorem dX10_lot_37 : decode cX10_lot 37 = .ok (.iconst 0, 1) := by decide +kernel
theorem dX10_lot_38 : decode cX10_lot 38 = .ok (.iconst 2, 1) := by decide +kernel
theorem dX10_lot_39 : decode cX10_lot 39 = .ok (.invokestatic 59, 3) := by decide +kernel
theorem dX10_lot_42 : decode cX10_lot 42 = .ok (.ifCond .ne 9, 3) := by decide +kernel
theorem dX10_lot_45 : decode cX10_lot 45 = .ok (.aload_n 0, 1) := by decide +kernel
theorem dX10_lot_46 : decode cX10_lot 46 = .ok (.iconst 3, 1) := by decide +kernel
theorem dX10_lot_47 : decode cX10_lot 47 = .ok (.invokevirtual 48, 3) := by decide +kernel
theorem dX10_lot_50 : decode cX10_lot 50 = .ok (.ireturn, 1) := by decide +kernel
theorem dX10_lot_51 : decode cX10_lot 51 = .ok (.aload_n 0, 1) := by decide +kernel
theorem dX10_lot_52 : decode cX10_lot 52 = .ok (.aload_n 0, 1) := by decide +kernel
theorem dX10_lot_53 : decode cX10_lot 53 = .ok (.iload_n 1, 1) := by decide +kernel
theorem dX10_lot_54 : decode cX10_lot 54 = .ok (.iload_n 3, 1) := by decide +kernel
theorem dX10_lot_55 : decode cX10_lot 55 = .ok (.ifCond .ne 8, 3) := by decide +kernel
theorem dX10_lot_58 : decode cX10_lot 58 = .ok (.bipush 7, 2) := by decide +kernel
theorem dX10_lot_60 : decode cX10_lot 60 = .ok (.goto 15, 3) := by decide +kernel
theorem dX10_lot_63 : decode cX10_lot 63 = .ok (.iload_n 3, 1) := by decide +kernel
theorem dX10_lot_64 : decode cX10_lot 64 = .ok (.iconst 1, 1) := by decide +kernel
theorem dX10_lot_65 : decode cX10_lot 65 = .ok (.if_icmp .ne 8, 3) := by decide +kernel
theorem dX10_lot_68 : decode cX10_lot 68 = .ok (.bipush 19, 2) := by decide +kernel
theorem dX10_lot_70 : decode cX10_lot 70 = .ok (.goto 5, 3) := by decide +kernel
theorem dX10_lot_73 : decode cX10_lot 73 = .ok (.bipush 31, 2) := by decide +kernel
theorem dX10_lot_75 : decode cX10_lot 75 = .ok (.iload_n 2, 1) := by decide +kernel
theorem dX10_lot_76 : decode cX10_lot 76 = .ok (.iadd, 1) := by decide +kernel
theorem dX10_lot_77 : decode cX10_lot 77 = .ok (.invokevirtual 69, 3) := by decide +kernel
theorem dX10_lot_80 : decode cX10_lot 80 = .ok (.invokevirtual 66, 3) := by decide +kernel
theorem dX10_lot_83 : decode cX10_lot 83 = .ok (.ireturn, 1) := by decide +kernel
theorem dX10_setLife_0 : decode cX10_setLife 0 = .ok (.aload_n 0, 1) := by decide +kernel
theorem dX10_setLife_1 : decode cX10_setLife 1 = .ok (.iload_n 1, 1) := by decide +kernel
theorem dX10_setLife_2 : decode cX10_setLife 2 = .ok (.invokevirtual 73, 3) := by decide +kernel
theorem dX10_setLife_5 : decode cX10_setLife 5 = .ok (.ifCond .ne 9, 3) := by decide +kernel
theorem dX10_setLife_8 : decode cX10_setLife 8 = .ok (.aload_n 0, 1) := by decide +kernel
theorem dX10_setLife_9 : decode cX10_setLife 9 = .ok (.iconst 1, 1) := by decide +kernel
theorem dX10_setLife_10 : decode cX10_setLife 10 = .ok (.invokevirtual 48, 3) := by decide +kernel
theorem dX10_setLife_13 : decode cX10_setLife 13 = .ok (.ireturn, 1) := by decide +kernel
theorem dX10_setLife_14 : decode cX10_setLife 14 = .ok (.iload_n 2, 1) := by decide +kernel
theorem dX10_setLife_15 : decode cX10_setLife 15 = .ok (.iconst 1, 1) := by decide +kernel
theorem dX10_setLife_16 : decode cX10_setLife 16 = .ok (.bipush 99, 2) := by decide +kernel
theorem dX10_setLife_18 : decode cX10_setLife 18 = .ok (.invokestatic 59, 3) := by decide +kernel
theorem dX10_setLife_21 : decode cX10_setLife 21 = .ok (.ifCond .ne 9, 3) := by decide +kernel
theorem dX10_setLife_24 : decode cX10_setLife 24 = .ok (.aload_n 0, 1) := by decide +kernel
theorem dX10_setLife_25 : decode cX10_setLife 25 = .ok (.iconst 2, 1) := by decide +kernel
theorem dX10_setLife_26 : decode cX10_setLife 26 = .ok (.invokevirtual 48, 3) := by decide +kernel
theorem dX10_setLife_29 : decode cX10_setLife 29 = .ok (.ireturn, 1) := by decide +kernel
theorem dX10_setLife_30 : decode cX10_setLife 30 = .ok (.aload_n 0, 1) := by decide +kernel
theorem dX10_setLife_31 : decode cX10_setLife 31 = .ok (.invokevirtual 63, 3) := by decide +kernel
theorem dX10_setLife_34 : decode cX10_setLife 34 = .ok (.aload_n 0, 1) := by decide +kernel
theorem dX10_setLife_35 : decode cX10_setLife 35 = .ok (.iload_n 1, 1) := by decide +kernel
theorem dX10_setLife_36 : decode cX10_setLife 36 = .ok (.bipush 44, 2) := by decide +kernel
theorem dX10_setLife_38 : decode cX10_setLife 38 = .ok (.invokevirtual 69, 3) := by decide +kernel
theorem dX10_setLife_41 : decode cX10_setLife 41 = .ok (.istore_n 3, 1) := by decide +kernel
theorem dX10_setLife_42 : decode cX10_setLife 42 = .ok (.aload_n 0, 1) := by decide +kernel
theorem dX10_setLife_43 : decode cX10_setLife 43 = .ok (.getfield 9, 3) := by decide +kernel
theorem dX10_setLife_46 : decode cX10_setLife 46 = .ok (.iconst 5, 1) := by decide +kernel
theorem dX10_setLife_47 : decode cX10_setLife 47 = .ok (.bipush 46, 2) := by decide +kernel
theorem dX10_setLife_49 : decode cX10_setLife 49 = .ok (.iload_n 1, 1) := by decide +kernel
theorem dX10_setLife_50 : decode cX10_setLife 50 = .ok (.imul, 1) := by decide +kernel
theorem dX10_setLife_51 : decode cX10_setLife 51 = .ok (.iadd, 1) := by decide +kernel
theorem dX10_setLife_52 : decode cX10_setLife 52 = .ok (.bipush 44, 2) := by decide +kernel
theorem dX10_setLife_54 : decode cX10_setLife 54 = .ok (.iadd, 1) := by decide +kernel
theorem dX10_setLife_55 : decode cX10_setLife 55 = .ok (.iload_n 2, 1) := by decide +kernel
theorem dX10_setLife_56 : decode cX10_setLife 56 = .ok (.iastore, 1) := by decide +kernel
theorem dX10_setLife_57 : decode cX10_setLife 57 = .ok (.aload_n 0, 1) := by decide +kernel
theorem dX10_setLife_58 : decode cX10_setLife 58 = .ok (.iload_n 3, 1) := by decide +kernel
theorem dX10_setLife_59 : decode cX10_setLife 59 = .ok (.invokevirtual 66, 3) := by decide +kernel
theorem dX10_setLife_62 : decode cX10_setLife 62 = .ok (.ireturn, 1) := by decide +kernel
theorem dX10_wastes_0 : decode cX10_wastes 0 = .ok (.iconst 0, 1) := by decide +kernel
theorem dX10_wastes_1 : decode cX10_wastes 1 = .ok (.istore_n 2, 1) := by decide +kernel
theorem dX10_wastes_2 : decode cX10_wastes 2 = .ok (.aload_n 0, 1) := by decide +kernel
theorem dX10_wastes_3 : decode cX10_wastes 3 = .ok (.iload_n 1, 1) := by decide +kernel
theorem dX10_wastes_4 : decode cX10_wastes 4 = .ok (.iconst 3, 1) := by decide +kernel
theorem dX10_wastes_5 : decode cX10_wastes 5 = .ok (.invokevirtual 69, 3) := by decide +kernel
theorem dX10_wastes_8 : decode cX10_wastes 8 = .ok (.iconst 1, 1) := by decide +kernel
theorem dX10_wastes_9 : decode cX10_wastes 9 = .ok (.isub, 1) := by decide +kernel
theorem dX10_wastes_10 : decode cX10_wastes 10 = .ok (.istore_n 3, 1) := by decide +kernel
theorem dX10_wastes_11 : decode cX10_wastes 11 = .ok (.iload_n 3, 1) := by decide +kernel
theorem dX10_wastes_12 : decode cX10_wastes 12 = .ok (.ifCond .lt 45, 3) := by decide +kernel
theorem dX10_wastes_15 : decode cX10_wastes 15 = .ok (.aload_n 0, 1) := by decide +kernel
theorem dX10_wastes_16 : decode cX10_wastes 16 = .ok (.iload_n 1, 1) := by decide +kernel
theorem dX10_wastes_17 : decode cX10_wastes 17 = .ok (.bipush 31, 2) := by decide +kernel
theorem dX10_wastes_19 : decode cX10_wastes 19 = .ok (.iload_n 3, 1) := by decide +kernel
theorem dX10_wastes_20 : decode cX10_wastes 20 = .ok (.iadd, 1) := by decide +kernel
theorem dX10_wastes_21 : decode cX10_wastes 21 = .ok (.invokevirtual 69, 3) := by decide +kernel
theorem dX10_wastes_24 : decode cX10_wastes 24 = .ok (.aload_n 0, 1) := by decide +kernel
theorem dX10_wastes_25 : decode cX10_wastes 25 = .ok (.getfield 9, 3) := by decide +kernel
theorem dX10_wastes_28 : decode cX10_wastes 28 = .ok (.iconst 4, 1) := by decide +kernel
theorem dX10_wastes_29 : decode cX10_wastes 29 = .ok (.iaload, 1) := by decide +kernel
theorem dX10_wastes_30 : decode cX10_wastes 30 = .ok (.if_icmp .ge 21, 3) := by decide +kernel
theorem dX10_wastes_33 : decode cX10_wastes 33 = .ok (.iload_n 2, 1) := by decide +kernel
theorem dX10_wastes_34 : decode cX10_wastes 34 = .ok (.aload_n 0, 1) := by decide +kernel
theorem dX10_wastes_35 : decode cX10_wastes 35 = .ok (.iload_n 1, 1) := by decide +kernel
theorem dX10_wastes_36 : decode cX10_wastes 36 = .ok (.bipush 19, 2) := by decide +kernel
theorem dX10_wastes_38 : decode cX10_wastes 38 = .ok (.iload_n 3, 1) := by decide +kernel
theorem dX10_wastes_39 : decode cX10_wastes 39 = .ok (.iadd, 1) := by decide +kernel
theorem dX10_wastes_40 : decode cX10_wastes 40 = .ok (.invokevirtual 69, 3) := by decide +kernel
theorem dX10_wastes_43 : decode cX10_wastes 43 = .ok (.iadd, 1) := by decide +kernel
theorem dX10_wastes_44 : decode cX10_wastes 44 = .ok (.istore_n 2, 1) := by decide +kernel
theorem dX10_wastes_45 : decode cX10_wastes 45 = .ok (.aload_n 0, 1) := by decide +kernel
theorem dX10_wastes_46 : decode cX10_wastes 46 = .ok (.iload_n 1, 1) := by decide +kernel
theorem dX10_wastes_47 : decode cX10_wastes 47 = .ok (.iload_n 3, 1) := by decide +kernel
theorem dX10_wastes_48 : decode cX10_wastes 48 = .ok (.invokevirtual 86, 3) := by decide +kernel
theorem dX10_wastes_51 : decode cX10_wastes 51 = .ok (.iinc 3 (-1), 3) := by decide +kernel
theorem dX10_wastes_54 : decode cX10_wastes 54 = .ok (.goto (-43), 3) := by decide +kernel
theorem dX10_wastes_57 : decode cX10_wastes 57 = .ok (.aload_n 0, 1) := by decide +kernel
theorem dX10_wastes_58 : decode cX10_wastes 58 = .ok (.getfield 9, 3) := by decide +kernel
theorem dX10_wastes_61 : decode cX10_wastes 61 = .ok (.iconst 5, 1) := by decide +kernel
theorem dX10_wastes_62 : decode cX10_wastes 62 = .ok (.bipush 46, 2) := by decide +kernel
theorem dX10_wastes_64 : decode cX10_wastes 64 = .ok (.iload_n 1, 1) := by decide +kernel
theorem dX10_wastes_65 : decode cX10_wastes 65 = .ok (.imul, 1) := by decide +kernel
theorem dX10_wastes_66 : decode cX10_wastes 66 = .ok (.iadd, 1) := by decide +kernel
theorem dX10_wastes_67 : decode cX10_wastes 67 = .ok (.bipush 43, 2) := by decide +kernel
theorem dX10_wastes_69 : decode cX10_wastes 69 = .ok (.iadd, 1) := by decide +kernel
theorem dX10_wastes_70 : decode cX10_wastes 70 = .ok (.dup2, 1) := by decide +kernel
theorem dX10_wastes_71 : decode cX10_wastes 71 = .ok (.iaload, 1) := by decide +kernel
theorem dX10_wastes_72 : decode cX10_wastes 72 = .ok (.iload_n 2, 1) := by decide +kernel
theorem dX10_wastes_73 : decode cX10_wastes 73 = .ok (.iadd, 1) := by decide +kernel
theorem dX10_wastes_74 : decode cX10_wastes 74 = .ok (.iastore, 1) := by decide +kernel
theorem dX10_wastes_75 : decode cX10_wastes 75 = .ok (.iload_n 2, 1) := by decide +kernel
theorem dX10_wastes_76 : decode cX10_wastes 76 = .ok (.ireturn, 1) := by decide +kernel
theorem dX10_pass_0 : decode cX10_pass 0 = .ok (.iload_n 1, 1) := by decide +kernel
theorem dX10_pass_1 : decode cX10_pass 1 = .ok (.iconst 1, 1) := by decide +kernel
theorem dX10_pass_2 : decode cX10_pass 2 = .ok (.bipush 99, 2) := by decide +kernel
theorem dX10_pass_4 : decode cX10_pass 4 = .ok (.invokestatic 59, 3) := by decide +kernel
theorem dX10_pass_7 : decode cX10_pass 7 = .ok (.ifCond .eq 17, 3) := by decide +kernel
theorem dX10_pass_10 : decode cX10_pass 10 = .ok (.aload_n 0, 1) := by decide +kernel
theorem dX10_pass_11 : decode cX10_pass 11 = .ok (.getfield 9, 3) := by decide +kernel
theorem dX10_pass_14 : decode cX10_pass 14 = .ok (.iconst 4, 1) := by decide +kernel
theorem dX10_pass_15 : decode cX10_pass 15 = .ok (.iaload, 1) := by decide +kernel
theorem dX10_pass_16 : decode cX10_pass 16 = .ok (.iload_n 1, 1) := by decide +kernel
theorem dX10_pass_17 : decode cX10_pass 17 = .ok (.iadd, 1) := by decide +kernel
theorem dX10_pass_18 : decode cX10_pass 18 = .ok (.sipush 400, 3) := by decide +kernel
theorem dX10_pass_21 : decode cX10_pass 21 = .ok (.if_icmp .le 9, 3) := by decide +kernel
theorem dX10_pass_24 : decode cX10_pass 24 = .ok (.aload_n 0, 1) := by decide +kernel
theorem dX10_pass_25 : decode cX10_pass 25 = .ok (.iconst 1, 1) := by decide +kernel
theorem dX10_pass_26 : decode cX10_pass 26 = .ok (.invokevirtual 48, 3) := by decide +kernel
theorem dX10_pass_29 : decode cX10_pass 29 = .ok (.ireturn, 1) := by decide +kernel
theorem dX10_pass_30 : decode cX10_pass 30 = .ok (.aload_n 0, 1) := by decide +kernel
theorem dX10_pass_31 : decode cX10_pass 31 = .ok (.invokevirtual 63, 3) := by decide +kernel
theorem dX10_pass_34 : decode cX10_pass 34 = .ok (.iconst 0, 1) := by decide +kernel
theorem dX10_pass_35 : decode cX10_pass 35 = .ok (.istore_n 2, 1) := by decide +kernel
theorem dX10_pass_36 : decode cX10_pass 36 = .ok (.iconst 0, 1) := by decide +kernel
theorem dX10_pass_37 : decode cX10_pass 37 = .ok (.istore_n 3, 1) := by decide +kernel
theorem dX10_pass_38 : decode cX10_pass 38 = .ok (.iload_n 3, 1) := by decide +kernel
theorem dX10_pass_39 : decode cX10_pass 39 = .ok (.iload_n 1, 1) := by decide +kernel
theorem dX10_pass_40 : decode cX10_pass 40 = .ok (.if_icmp .ge 48, 3) := by decide +kernel
theorem dX10_pass_43 : decode cX10_pass 43 = .ok (.aload_n 0, 1) := by decide +kernel
theorem dX10_pass_44 : decode cX10_pass 44 = .ok (.getfield 9, 3) := by decide +kernel
theorem dX10_pass_47 : decode cX10_pass 47 = .ok (.iconst 4, 1) := by decide +kernel
theorem dX10_pass_48 : decode cX10_pass 48 = .ok (.dup2, 1) := by decide +kernel
theorem dX10_pass_49 : decode cX10_pass 49 = .ok (.iaload, 1) := by decide +kernel
theorem dX10_pass_50 : decode cX10_pass 50 = .ok (.iconst 1, 1) := by decide +kernel
theorem dX10_pass_51 : decode cX10_pass 51 = .ok (.iadd, 1) := by decide +kernel
theorem dX10_pass_52 : decode cX10_pass 52 = .ok (.iastore, 1) := by decide +kernel
theorem dX10_pass_53 : decode cX10_pass 53 = .ok (.iconst 0, 1) := by decide +kernel
theorem dX10_pass_54 : decode cX10_pass 54 = .ok (.istore 4, 2) := by decide +kernel
theorem dX10_pass_56 : decode cX10_pass 56 = .ok (.iload 4, 2) := by decide +kernel
theorem dX10_pass_58 : decode cX10_pass 58 = .ok (.aload_n 0, 1) := by decide +kernel
theorem dX10_pass_59 : decode cX10_pass 59 = .ok (.getfield 9, 3) := by decide +kernel
theorem dX10_pass_62 : decode cX10_pass 62 = .ok (.iconst 0, 1) := by decide +kernel
theorem dX10_pass_63 : decode cX10_pass 63 = .ok (.iaload, 1) := by decide +kernel
theorem dX10_pass_64 : decode cX10_pass 64 = .ok (.if_icmp .ge 18, 3) := by decide +kernel
theorem dX10_pass_67 : decode cX10_pass 67 = .ok (.iload_n 2, 1) := by decide +kernel
theorem dX10_pass_68 : decode cX10_pass 68 = .ok (.aload_n 0, 1) := by decide +kernel
theorem dX10_pass_69 : decode cX10_pass 69 = .ok (.iload 4, 2) := by decide +kernel
theorem dX10_pass_71 : decode cX10_pass 71 = .ok (.invokevirtual 90, 3) := by decide +kernel
theorem dX10_pass_74 : decode cX10_pass 74 = .ok (.iadd, 1) := by decide +kernel
theorem dX10_pass_75 : decode cX10_pass 75 = .ok (.istore_n 2, 1) := by decide +kernel
theorem dX10_pass_76 : decode cX10_pass 76 = .ok (.iinc 4 1, 3) := by decide +kernel
theorem dX10_pass_79 : decode cX10_pass 79 = .ok (.goto (-23), 3) := by decide +kernel
theorem dX10_pass_82 : decode cX10_pass 82 = .ok (.iinc 3 1, 3) := by decide +kernel
theorem dX10_pass_85 : decode cX10_pass 85 = .ok (.goto (-47), 3) := by decide +kernel
theorem dX10_pass_88 : decode cX10_pass 88 = .ok (.aload_n 0, 1) := by decide +kernel
theorem dX10_pass_89 : decode cX10_pass 89 = .ok (.iload_n 2, 1) := by decide +kernel
theorem dX10_pass_90 : decode cX10_pass 90 = .ok (.invokevirtual 66, 3) := by decide +kernel
theorem dX10_pass_93 : decode cX10_pass 93 = .ok (.ireturn, 1) := by decide +kernel
theorem dX10_addBase_0 : decode cX10_addBase 0 = .ok (.iload_n 1, 1) := by decide +kernel
theorem dX10_addBase_1 : decode cX10_addBase 1 = .ok (.iconst 0, 1) := by decide +kernel
theorem dX10_addBase_2 : decode cX10_addBase 2 = .ok (.bipush 99, 2) := by decide +kernel
theorem dX10_addBase_4 : decode cX10_addBase 4 = .ok (.invokestatic 59, 3) := by decide +kernel
theorem dX10_addBase_7 : decode cX10_addBase 7 = .ok (.ifCond .eq 35, 3) := by decide +kernel
theorem dX10_addBase_10 : decode cX10_addBase 10 = .ok (.iload_n 2, 1) := by decide +kernel
theorem dX10_addBase_11 : decode cX10_addBase 11 = .ok (.iconst 0, 1) := by decide +kernel
theorem dX10_addBase_12 : decode cX10_addBase 12 = .ok (.bipush 99, 2) := by decide +kernel
theorem dX10_addBase_14 : decode cX10_addBase 14 = .ok (.invokestatic 59, 3) := by decide +kernel
theorem dX10_addBase_17 : decode cX10_addBase 17 = .ok (.ifCond .eq 25, 3) := by decide +kernel
theorem dX10_addBase_20 : decode cX10_addBase 20 = .ok (.iload_n 3, 1) := by decide +kernel
theorem dX10_addBase_21 : decode cX10_addBase 21 = .ok (.iconst 0, 1) := by decide +kernel
theorem dX10_addBase_22 : decode cX10_addBase 22 = .ok (.bipush 99, 2) := by decide +kernel
theorem dX10_addBase_24 : decode cX10_addBase 24 = .ok (.invokestatic 59, 3) := by decide +kernel
theorem dX10_addBase_27 : decode cX10_addBase 27 = .ok (.ifCond .eq 15, 3) := by decide +kernel
theorem dX10_addBase_30 : decode cX10_addBase 30 = .ok (.iload 4, 2) := by decide +kernel
theorem dX10_addBase_32 : decode cX10_addBase 32 = .ok (.iconst 0, 1) := by decide +kernel
theorem dX10_addBase_33 : decode cX10_addBase 33 = .ok (.sipush 200, 3) := by decide +kernel
theorem dX10_addBase_36 : decode cX10_addBase 36 = .ok (.invokestatic 59, 3) := by decide +kernel
theorem dX10_addBase_39 : decode cX10_addBase 39 = .ok (.ifCond .ne 9, 3) := by decide +kernel
theorem dX10_addBase_42 : decode cX10_addBase 42 = .ok (.aload_n 0, 1) := by decide +kernel
theorem dX10_addBase_43 : decode cX10_addBase 43 = .ok (.iconst 1, 1) := by decide +kernel
theorem dX10_addBase_44 : decode cX10_addBase 44 = .ok (.invokevirtual 48, 3) := by decide +kernel
theorem dX10_addBase_47 : decode cX10_addBase 47 = .ok (.ireturn, 1) := by decide +kernel
theorem dX10_addBase_48 : decode cX10_addBase 48 = .ok (.aload_n 0, 1) := by decide +kernel
theorem dX10_addBase_49 : decode cX10_addBase 49 = .ok (.getfield 9, 3) := by decide +kernel
theorem dX10_addBase_52 : decode cX10_addBase 52 = .ok (.iconst 1, 1) := by decide +kernel
theorem dX10_addBase_53 : decode cX10_addBase 53 = .ok (.iaload, 1) := by decide +kernel
theorem dX10_addBase_54 : decode cX10_addBase 54 = .ok (.bipush 6, 2) := by decide +kernel
theorem dX10_addBase_56 : decode cX10_addBase 56 = .ok (.if_icmp .ne 9, 3) := by decide +kernel
theorem dX10_addBase_59 : decode cX10_addBase 59 = .ok (.aload_n 0, 1) := by decide +kernel
theorem dX10_addBase_60 : decode cX10_addBase 60 = .ok (.iconst 2, 1) := by decide +kernel
theorem dX10_addBase_61 : decode cX10_addBase 61 = .ok (.invokevirtual 48, 3) := by decide +kernel
theorem dX10_addBase_64 : decode cX10_addBase 64 = .ok (.ireturn, 1) := by decide +kernel
theorem dX10_addBase_65 : decode cX10_addBase 65 = .ok (.aload_n 0, 1) := by decide +kernel
theorem dX10_addBase_66 : decode cX10_addBase 66 = .ok (.invokevirtual 63, 3) := by decide +kernel
theorem dX10_addBase_69 : decode cX10_addBase 69 = .ok (.sipush 373, 3) := by decide +kernel
theorem dX10_addBase_72 : decode cX10_addBase 72 = .ok (.bipush 6, 2) := by decide +kernel
theorem dX10_addBase_74 : decode cX10_addBase 74 = .ok (.aload_n 0, 1) := by decide +kernel
theorem dX10_addBase_75 : decode cX10_addBase 75 = .ok (.getfield 9, 3) := by decide +kernel
theorem dX10_addBase_78 : decode cX10_addBase 78 = .ok (.iconst 1, 1) := by decide +kernel
theorem dX10_addBase_79 : decode cX10_addBase 79 = .ok (.iaload, 1) := by decide +kernel
theorem dX10_addBase_80 : decode cX10_addBase 80 = .ok (.imul, 1) := by decide +kernel
theorem dX10_addBase_81 : decode cX10_addBase 81 = .ok (.iadd, 1) := by decide +kernel
theorem dX10_addBase_82 : decode cX10_addBase 82 = .ok (.istore 5, 2) := by decide +kernel
theorem dX10_addBase_84 : decode cX10_addBase 84 = .ok (.aload_n 0, 1) := by decide +kernel
theorem dX10_addBase_85 : decode cX10_addBase 85 = .ok (.getfield 9, 3) := by decide +kernel
theorem dX10_addBase_88 : decode cX10_addBase 88 = .ok (.iload 5, 2) := by decide +kernel
theorem dX10_addBase_90 : decode cX10_addBase 90 = .ok (.iload_n 1, 1) := by decide +kernel
theorem dX10_addBase_91 : decode cX10_addBase 91 = .ok (.iastore, 1) := by decide +kernel
theorem dX10_addBase_92 : decode cX10_addBase 92 = .ok (.aload_n 0, 1) := by decide +kernel
theorem dX10_addBase_93 : decode cX10_addBase 93 = .ok (.getfield 9, 3) := by decide +kernel
theorem dX10_addBase_96 : decode cX10_addBase 96 = .ok (.iload 5, 2) := by decide +kernel
theorem dX10_addBase_98 : decode cX10_addBase 98 = .ok (.iconst 1, 1) := by decide +kernel
theorem dX10_addBase_99 : decode cX10_addBase 99 = .ok (.iadd, 1) := by decide +kernel
theorem dX10_addBase_100 : decode cX10_addBase 100 = .ok (.iload_n 2, 1) := by decide +kernel
theorem dX10_addBase_101 : decode cX10_addBase 101 = .ok (.iastore, 1) := by decide +kernel
theorem dX10_addBase_102 : decode cX10_addBase 102 = .ok (.aload_n 0, 1) := by decide +kernel
theorem dX10_addBase_103 : decode cX10_addBase 103 = .ok (.getfield 9, 3) := by decide +kernel
theorem dX10_addBase_106 : decode cX10_addBase 106 = .ok (.iload 5, 2) := by decide +kernel
theorem dX10_addBase_108 : decode cX10_addBase 108 = .ok (.iconst 2, 1) := by decide +kernel
theorem dX10_addBase_109 : decode cX10_addBase 109 = .ok (.iadd, 1) := by decide +kernel
theorem dX10_addBase_110 : decode cX10_addBase 110 = .ok (.iload_n 3, 1) := by decide +kernel
theorem dX10_addBase_111 : decode cX10_addBase 111 = .ok (.iastore, 1) := by decide +kernel
theorem dX10_addBase_112 : decode cX10_addBase 112 = .ok (.aload_n 0, 1) := by decide +kernel
theorem dX10_addBase_113 : decode cX10_addBase 113 = .ok (.getfield 9, 3) := by decide +kernel
theorem dX10_addBase_116 : decode cX10_addBase 116 = .ok (.iload 5, 2) := by decide +kernel
theorem dX10_addBase_118 : decode cX10_addBase 118 = .ok (.iconst 3, 1) := by decide +kernel
theorem dX10_addBase_119 : decode cX10_addBase 119 = .ok (.iadd, 1) := by decide +kernel
theorem dX10_addBase_120 : decode cX10_addBase 120 = .ok (.iload 4, 2) := by decide +kernel
theorem dX10_addBase_122 : decode cX10_addBase 122 = .ok (.iastore, 1) := by decide +kernel
theorem dX10_addBase_123 : decode cX10_addBase 123 = .ok (.aload_n 0, 1) := by decide +kernel
theorem dX10_addBase_124 : decode cX10_addBase 124 = .ok (.getfield 9, 3) := by decide +kernel
theorem dX10_addBase_127 : decode cX10_addBase 127 = .ok (.iconst 1, 1) := by decide +kernel
theorem dX10_addBase_128 : decode cX10_addBase 128 = .ok (.dup2, 1) := by decide +kernel
theorem dX10_addBase_129 : decode cX10_addBase 129 = .ok (.iaload, 1) := by decide +kernel
theorem dX10_addBase_130 : decode cX10_addBase 130 = .ok (.iconst 1, 1) := by decide +kernel
theorem dX10_addBase_131 : decode cX10_addBase 131 = .ok (.iadd, 1) := by decide +kernel
theorem dX10_addBase_132 : decode cX10_addBase 132 = .ok (.iastore, 1) := by decide +kernel
theorem dX10_addBase_133 : decode cX10_addBase 133 = .ok (.aload_n 0, 1) := by decide +kernel
theorem dX10_addBase_134 : decode cX10_addBase 134 = .ok (.aload_n 0, 1) := by decide +kernel
theorem dX10_addBase_135 : decode cX10_addBase 135 = .ok (.getfield 9, 3) := by decide +kernel
theorem dX10_addBase_138 : decode cX10_addBase 138 = .ok (.iconst 1, 1) := by decide +kernel
theorem dX10_addBase_139 : decode cX10_addBase 139 = .ok (.iaload, 1) := by decide +kernel
theorem dX10_addBase_140 : decode cX10_addBase 140 = .ok (.iconst 1, 1) := by decide +kernel
theorem dX10_addBase_141 : decode cX10_addBase 141 = .ok (.isub, 1) := by decide +kernel
theorem dX10_addBase_142 : decode cX10_addBase 142 = .ok (.invokevirtual 66, 3) := by decide +kernel
theorem dX10_addBase_145 : decode cX10_addBase 145 = .ok (.ireturn, 1) := by decide +kernel
theorem dX10_setStock_0 : decode cX10_setStock 0 = .ok (.iload_n 1, 1) := by decide +kernel
theorem dX10_setStock_1 : decode cX10_setStock 1 = .ok (.iconst 0, 1) := by decide +kernel
theorem dX10_setStock_2 : decode cX10_setStock 2 = .ok (.aload_n 0, 1) := by decide +kernel
theorem dX10_setStock_3 : decode cX10_setStock 3 = .ok (.getfield 9, 3) := by decide +kernel
theorem dX10_setStock_6 : decode cX10_setStock 6 = .ok (.iconst 1, 1) := by decide +kernel
theorem dX10_setStock_7 : decode cX10_setStock 7 = .ok (.iaload, 1) := by decide +kernel
theorem dX10_setStock_8 : decode cX10_setStock 8 = .ok (.iconst 1, 1) := by decide +kernel
theorem dX10_setStock_9 : decode cX10_setStock 9 = .ok (.isub, 1) := by decide +kernel
theorem dX10_setStock_10 : decode cX10_setStock 10 = .ok (.invokestatic 59, 3) := by decide +kernel
theorem dX10_setStock_13 : decode cX10_setStock 13 = .ok (.ifCond .ne 9, 3) := by decide +kernel
theorem dX10_setStock_16 : decode cX10_setStock 16 = .ok (.aload_n 0, 1) := by decide +kernel
theorem dX10_setStock_17 : decode cX10_setStock 17 = .ok (.iconst 1, 1) := by decide +kernel
theorem dX10_setStock_18 : decode cX10_setStock 18 = .ok (.invokevirtual 48, 3) := by decide +kernel
theorem dX10_setStock_21 : decode cX10_setStock 21 = .ok (.ireturn, 1) := by decide +kernel
theorem dX10_setStock_22 : decode cX10_setStock 22 = .ok (.iload_n 2, 1) := by decide +kernel
theorem dX10_setStock_23 : decode cX10_setStock 23 = .ok (.iconst 0, 1) := by decide +kernel
theorem dX10_setStock_24 : decode cX10_setStock 24 = .ok (.bipush 99, 2) := by decide +kernel
theorem dX10_setStock_26 : decode cX10_setStock 26 = .ok (.invokestatic 59, 3) := by decide +kernel
theorem dX10_setStock_29 : decode cX10_setStock 29 = .ok (.ifCond .ne 9, 3) := by decide +kernel
theorem dX10_setStock_32 : decode cX10_setStock 32 = .ok (.aload_n 0, 1) := by decide +kernel
theorem dX10_setStock_33 : decode cX10_setStock 33 = .ok (.iconst 2, 1) := by decide +kernel
theorem dX10_setStock_34 : decode cX10_setStock 34 = .ok (.invokevirtual 48, 3) := by decide +kernel
theorem dX10_setStock_37 : decode cX10_setStock 37 = .ok (.ireturn, 1) := by decide +kernel
theorem dX10_setStock_38 : decode cX10_setStock 38 = .ok (.aload_n 0, 1) := by decide +kernel
theorem dX10_setStock_39 : decode cX10_setStock 39 = .ok (.invokevirtual 63, 3) := by decide +kernel
theorem dX10_setStock_42 : decode cX10_setStock 42 = .ok (.aload_n 0, 1) := by decide +kernel
theorem dX10_setStock_43 : decode cX10_setStock 43 = .ok (.iload_n 1, 1) := by decide +kernel
theorem dX10_setStock_44 : decode cX10_setStock 44 = .ok (.iconst 4, 1) := by decide +kernel
theorem dX10_setStock_45 : decode cX10_setStock 45 = .ok (.invokevirtual 93, 3) := by decide +kernel
theorem dX10_setStock_48 : decode cX10_setStock 48 = .ok (.istore_n 3, 1) := by decide +kernel
theorem dX10_setStock_49 : decode cX10_setStock 49 = .ok (.aload_n 0, 1) := by decide +kernel
theorem dX10_setStock_50 : decode cX10_setStock 50 = .ok (.getfield 9, 3) := by decide +kernel
theorem dX10_setStock_53 : decode cX10_setStock 53 = .ok (.sipush 373, 3) := by decide +kernel
theorem dX10_setStock_56 : decode cX10_setStock 56 = .ok (.bipush 6, 2) := by decide +kernel
theorem dX10_setStock_58 : decode cX10_setStock 58 = .ok (.iload_n 1, 1) := by decide +kernel
theorem dX10_setStock_59 : decode cX10_setStock 59 = .ok (.imul, 1) := by decide +kernel
theorem dX10_setStock_60 : decode cX10_setStock 60 = .ok (.iadd, 1) := by decide +kernel
theorem dX10_setStock_61 : decode cX10_setStock 61 = .ok (.iconst 4, 1) := by decide +kernel
theorem dX10_setStock_62 : decode cX10_setStock 62 = .ok (.iadd, 1) := by decide +kernel
theorem dX10_setStock_63 : decode cX10_setStock 63 = .ok (.iload_n 2, 1) := by decide +kernel
theorem dX10_setStock_64 : decode cX10_setStock 64 = .ok (.iastore, 1) := by decide +kernel
theorem dX10_setStock_65 : decode cX10_setStock 65 = .ok (.aload_n 0, 1) := by decide +kernel
theorem dX10_setStock_66 : decode cX10_setStock 66 = .ok (.iload_n 3, 1) := by decide +kernel
theorem dX10_setStock_67 : decode cX10_setStock 67 = .ok (.invokevirtual 66, 3) := by decide +kernel
theorem dX10_setStock_70 : decode cX10_setStock 70 = .ok (.ireturn, 1) := by decide +kernel
theorem dX10_base_0 : decode cX10_base 0 = .ok (.iload_n 1, 1) := by decide +kernel
theorem dX10_base_1 : decode cX10_base 1 = .ok (.iconst 0, 1) := by decide +kernel
theorem dX10_base_2 : decode cX10_base 2 = .ok (.aload_n 0, 1) := by decide +kernel
theorem dX10_base_3 : decode cX10_base 3 = .ok (.getfield 9, 3) := by decide +kernel
theorem dX10_base_6 : decode cX10_base 6 = .ok (.iconst 1, 1) := by decide +kernel
theorem dX10_base_7 : decode cX10_base 7 = .ok (.iaload, 1) := by decide +kernel
theorem dX10_base_8 : decode cX10_base 8 = .ok (.iconst 1, 1) := by decide +kernel
theorem dX10_base_9 : decode cX10_base 9 = .ok (.isub, 1) := by decide +kernel
theorem dX10_base_10 : decode cX10_base 10 = .ok (.invokestatic 59, 3) := by decide +kernel
theorem dX10_base_13 : decode cX10_base 13 = .ok (.ifCond .ne 9, 3) := by decide +kernel
theorem dX10_base_16 : decode cX10_base 16 = .ok (.aload_n 0, 1) := by decide +kernel
theorem dX10_base_17 : decode cX10_base 17 = .ok (.iconst 1, 1) := by decide +kernel
theorem dX10_base_18 : decode cX10_base 18 = .ok (.invokevirtual 48, 3) := by decide +kernel
theorem dX10_base_21 : decode cX10_base 21 = .ok (.ireturn, 1) := by decide +kernel
theorem dX10_base_22 : decode cX10_base 22 = .ok (.iload_n 2, 1) := by decide +kernel
theorem dX10_base_23 : decode cX10_base 23 = .ok (.iconst 0, 1) := by decide +kernel
theorem dX10_base_24 : decode cX10_base 24 = .ok (.iconst 5, 1) := by decide +kernel
theorem dX10_base_25 : decode cX10_base 25 = .ok (.invokestatic 59, 3) := by decide +kernel
theorem dX10_base_28 : decode cX10_base 28 = .ok (.ifCond .eq 16, 3) := by decide +kernel
theorem dX10_base_31 : decode cX10_base 31 = .ok (.aload_n 0, 1) := by decide +kernel
theorem dX10_base_32 : decode cX10_base 32 = .ok (.aload_n 0, 1) := by decide +kernel
theorem dX10_base_33 : decode cX10_base 33 = .ok (.iload_n 1, 1) := by decide +kernel
theorem dX10_base_34 : decode cX10_base 34 = .ok (.iload_n 2, 1) := by decide +kernel
theorem dX10_base_35 : decode cX10_base 35 = .ok (.invokevirtual 93, 3) := by decide +kernel
theorem dX10_base_38 : decode cX10_base 38 = .ok (.invokevirtual 66, 3) := by decide +kernel
theorem dX10_base_41 : decode cX10_base 41 = .ok (.goto 8, 3) := by decide +kernel
theorem dX10_base_44 : decode cX10_base 44 = .ok (.aload_n 0, 1) := by decide +kernel
theorem dX10_base_45 : decode cX10_base 45 = .ok (.iconst 2, 1) := by decide +kernel
theorem dX10_base_46 : decode cX10_base 46 = .ok (.invokevirtual 48, 3) := by decide +kernel
theorem dX10_base_49 : decode cX10_base 49 = .ok (.ireturn, 1) := by decide +kernel
theorem dX10_append_0 : decode cX10_append 0 = .ok (.aload_n 0, 1) := by decide +kernel
theorem dX10_append_1 : decode cX10_append 1 = .ok (.getfield 96, 3) := by decide +kernel
theorem dX10_append_4 : decode cX10_append 4 = .ok (.bipush 60, 2) := by decide +kernel
theorem dX10_append_6 : decode cX10_append 6 = .ok (.if_icmp .ne 9, 3) := by decide +kernel
theorem dX10_append_9 : decode cX10_append 9 = .ok (.aload_n 0, 1) := by decide +kernel
theorem dX10_append_10 : decode cX10_append 10 = .ok (.iconst 1, 1) := by decide +kernel
theorem dX10_append_11 : decode cX10_append 11 = .ok (.putfield 42, 3) := by decide +kernel
theorem dX10_append_14 : decode cX10_append 14 = .ok (.return_, 1) := by decide +kernel
theorem dX10_append_15 : decode cX10_append 15 = .ok (.aload_n 0, 1) := by decide +kernel
theorem dX10_append_16 : decode cX10_append 16 = .ok (.iconst 0, 1) := by decide +kernel
theorem dX10_append_17 : decode cX10_append 17 = .ok (.putfield 42, 3) := by decide +kernel
theorem dX10_append_20 : decode cX10_append 20 = .ok (.aload_n 0, 1) := by decide +kernel
theorem dX10_append_21 : decode cX10_append 21 = .ok (.getfield 22, 3) := by decide +kernel
theorem dX10_append_24 : decode cX10_append 24 = .ok (.aload_n 0, 1) := by decide +kernel
theorem dX10_append_25 : decode cX10_append 25 = .ok (.getfield 96, 3) := by decide +kernel
theorem dX10_append_28 : decode cX10_append 28 = .ok (.iload_n 1, 1) := by decide +kernel
theorem dX10_append_29 : decode cX10_append 29 = .ok (.castore, 1) := by decide +kernel
theorem dX10_append_30 : decode cX10_append 30 = .ok (.aload_n 0, 1) := by decide +kernel
theorem dX10_append_31 : decode cX10_append 31 = .ok (.dup, 1) := by decide +kernel
theorem dX10_append_32 : decode cX10_append 32 = .ok (.getfield 96, 3) := by decide +kernel
theorem dX10_append_35 : decode cX10_append 35 = .ok (.iconst 1, 1) := by decide +kernel
theorem dX10_append_36 : decode cX10_append 36 = .ok (.iadd, 1) := by decide +kernel
theorem dX10_append_37 : decode cX10_append 37 = .ok (.putfield 96, 3) := by decide +kernel
theorem dX10_append_40 : decode cX10_append 40 = .ok (.return_, 1) := by decide +kernel
theorem dX10_here_0 : decode cX10_here 0 = .ok (.aload_n 0, 1) := by decide +kernel
theorem dX10_here_1 : decode cX10_here 1 = .ok (.getfield 99, 3) := by decide +kernel
theorem dX10_here_4 : decode cX10_here 4 = .ok (.aload_n 0, 1) := by decide +kernel
theorem dX10_here_5 : decode cX10_here 5 = .ok (.getfield 96, 3) := by decide +kernel
theorem dX10_here_8 : decode cX10_here 8 = .ok (.if_icmp .ge 15, 3) := by decide +kernel
theorem dX10_here_11 : decode cX10_here 11 = .ok (.aload_n 0, 1) := by decide +kernel
theorem dX10_here_12 : decode cX10_here 12 = .ok (.getfield 22, 3) := by decide +kernel
theorem dX10_here_15 : decode cX10_here 15 = .ok (.aload_n 0, 1) := by decide +kernel
theorem dX10_here_16 : decode cX10_here 16 = .ok (.getfield 99, 3) := by decide +kernel
theorem dX10_here_19 : decode cX10_here 19 = .ok (.caload, 1) := by decide +kernel
theorem dX10_here_20 : decode cX10_here 20 = .ok (.goto 4, 3) := by decide +kernel
theorem dX10_here_23 : decode cX10_here 23 = .ok (.iconst (-1), 1) := by decide +kernel
theorem dX10_here_24 : decode cX10_here 24 = .ok (.ireturn, 1) := by decide +kernel
theorem dX10_reads_0 : decode cX10_reads 0 = .ok (.aload_n 0, 1) := by decide +kernel
theorem dX10_reads_1 : decode cX10_reads 1 = .ok (.dup, 1) := by decide +kernel
theorem dX10_reads_2 : decode cX10_reads 2 = .ok (.getfield 102, 3) := by decide +kernel
theorem dX10_reads_5 : decode cX10_reads 5 = .ok (.aload_n 0, 1) := by decide +kernel
theorem dX10_reads_6 : decode cX10_reads 6 = .ok (.invokevirtual 106, 3) := by decide +kernel
theorem dX10_reads_9 : decode cX10_reads 9 = .ok (.iload_n 1, 1) := by decide +kernel
theorem dX10_reads_10 : decode cX10_reads 10 = .ok (.if_icmp .eq 7, 3) := by decide +kernel
theorem dX10_reads_13 : decode cX10_reads 13 = .ok (.iconst 1, 1) := by decide +kernel
theorem dX10_reads_14 : decode cX10_reads 14 = .ok (.goto 4, 3) := by decide +kernel
theorem dX10_reads_17 : decode cX10_reads 17 = .ok (.iconst 0, 1) := by decide +kernel
theorem dX10_reads_18 : decode cX10_reads 18 = .ok (.ior, 1) := by decide +kernel
theorem dX10_reads_19 : decode cX10_reads 19 = .ok (.putfield 102, 3) := by decide +kernel
theorem dX10_reads_22 : decode cX10_reads 22 = .ok (.aload_n 0, 1) := by decide +kernel
theorem dX10_reads_23 : decode cX10_reads 23 = .ok (.dup, 1) := by decide +kernel
theorem dX10_reads_24 : decode cX10_reads 24 = .ok (.getfield 99, 3) := by decide +kernel
theorem dX10_reads_27 : decode cX10_reads 27 = .ok (.aload_n 0, 1) := by decide +kernel
theorem dX10_reads_28 : decode cX10_reads 28 = .ok (.getfield 102, 3) := by decide +kernel
theorem dX10_reads_31 : decode cX10_reads 31 = .ok (.ifCond .eq 7, 3) := by decide +kernel
theorem dX10_reads_34 : decode cX10_reads 34 = .ok (.iconst 0, 1) := by decide +kernel
theorem dX10_reads_35 : decode cX10_reads 35 = .ok (.goto 4, 3) := by decide +kernel
theorem dX10_reads_38 : decode cX10_reads 38 = .ok (.iconst 1, 1) := by decide +kernel
theorem dX10_reads_39 : decode cX10_reads 39 = .ok (.iadd, 1) := by decide +kernel
theorem dX10_reads_40 : decode cX10_reads 40 = .ok (.putfield 99, 3) := by decide +kernel
theorem dX10_reads_43 : decode cX10_reads 43 = .ok (.return_, 1) := by decide +kernel
theorem dX10_readsDigit_0 : decode cX10_readsDigit 0 = .ok (.aload_n 0, 1) := by decide +kernel
theorem dX10_readsDigit_1 : decode cX10_readsDigit 1 = .ok (.dup, 1) := by decide +kernel
theorem dX10_readsDigit_2 : decode cX10_readsDigit 2 = .ok (.getfield 102, 3) := by decide +kernel
theorem dX10_readsDigit_5 : decode cX10_readsDigit 5 = .ok (.aload_n 0, 1) := by decide +kernel
theorem dX10_readsDigit_6 : decode cX10_readsDigit 6 = .ok (.invokevirtual 106, 3) := by decide +kernel
theorem dX10_readsDigit_9 : decode cX10_readsDigit 9 = .ok (.bipush 48, 2) := by decide +kernel
theorem dX10_readsDigit_11 : decode cX10_readsDigit 11 = .ok (.bipush 57, 2) := by decide +kernel
theorem dX10_readsDigit_13 : decode cX10_readsDigit 13 = .ok (.invokestatic 59, 3) := by decide +kernel
theorem dX10_readsDigit_16 : decode cX10_readsDigit 16 = .ok (.ifCond .ne 7, 3) := by decide +kernel
theorem dX10_readsDigit_19 : decode cX10_readsDigit 19 = .ok (.iconst 1, 1) := by decide +kernel
theorem dX10_readsDigit_20 : decode cX10_readsDigit 20 = .ok (.goto 4, 3) := by decide +kernel
theorem dX10_readsDigit_23 : decode cX10_readsDigit 23 = .ok (.iconst 0, 1) := by decide +kernel
theorem dX10_readsDigit_24 : decode cX10_readsDigit 24 = .ok (.ior, 1) := by decide +kernel
theorem dX10_readsDigit_25 : decode cX10_readsDigit 25 = .ok (.putfield 102, 3) := by decide +kernel
theorem dX10_readsDigit_28 : decode cX10_readsDigit 28 = .ok (.aload_n 0, 1) := by decide +kernel
theorem dX10_readsDigit_29 : decode cX10_readsDigit 29 = .ok (.getfield 102, 3) := by decide +kernel
theorem dX10_readsDigit_32 : decode cX10_readsDigit 32 = .ok (.ifCond .eq 7, 3) := by decide +kernel
theorem dX10_readsDigit_35 : decode cX10_readsDigit 35 = .ok (.iconst 0, 1) := by decide +kernel
theorem dX10_readsDigit_36 : decode cX10_readsDigit 36 = .ok (.goto 10, 3) := by decide +kernel
theorem dX10_readsDigit_39 : decode cX10_readsDigit 39 = .ok (.aload_n 0, 1) := by decide +kernel
theorem dX10_readsDigit_40 : decode cX10_readsDigit 40 = .ok (.invokevirtual 106, 3) := by decide +kernel
theorem dX10_readsDigit_43 : decode cX10_readsDigit 43 = .ok (.bipush 48, 2) := by decide +kernel
theorem dX10_readsDigit_45 : decode cX10_readsDigit 45 = .ok (.isub, 1) := by decide +kernel
theorem dX10_readsDigit_46 : decode cX10_readsDigit 46 = .ok (.istore_n 1, 1) := by decide +kernel
theorem dX10_readsDigit_47 : decode cX10_readsDigit 47 = .ok (.aload_n 0, 1) := by decide +kernel
theorem dX10_readsDigit_48 : decode cX10_readsDigit 48 = .ok (.dup, 1) := by decide +kernel
theorem dX10_readsDigit_49 : decode cX10_readsDigit 49 = .ok (.getfield 99, 3) := by decide +kernel
theorem dX10_readsDigit_52 : decode cX10_readsDigit 52 = .ok (.aload_n 0, 1) := by decide +kernel
theorem dX10_readsDigit_53 : decode cX10_readsDigit 53 = .ok (.getfield 102, 3) := by decide +kernel
theorem dX10_readsDigit_56 : decode cX10_readsDigit 56 = .ok (.ifCond .eq 7, 3) := by decide +kernel
theorem dX10_readsDigit_59 : decode cX10_readsDigit 59 = .ok (.iconst 0, 1) := by decide +kernel
theorem dX10_readsDigit_60 : decode cX10_readsDigit 60 = .ok (.goto 4, 3) := by decide +kernel
theorem dX10_readsDigit_63 : decode cX10_readsDigit 63 = .ok (.iconst 1, 1) := by decide +kernel
theorem dX10_readsDigit_64 : decode cX10_readsDigit 64 = .ok (.iadd, 1) := by decide +kernel
theorem dX10_readsDigit_65 : decode cX10_readsDigit 65 = .ok (.putfield 99, 3) := by decide +kernel
theorem dX10_readsDigit_68 : decode cX10_readsDigit 68 = .ok (.iload_n 1, 1) := by decide +kernel
theorem dX10_readsDigit_69 : decode cX10_readsDigit 69 = .ok (.ireturn, 1) := by decide +kernel
theorem dX10_readsAmount_0 : decode cX10_readsAmount 0 = .ok (.aload_n 0, 1) := by decide +kernel
theorem dX10_readsAmount_1 : decode cX10_readsAmount 1 = .ok (.invokevirtual 110, 3) := by decide +kernel
theorem dX10_readsAmount_4 : decode cX10_readsAmount 4 = .ok (.istore_n 1, 1) := by decide +kernel
theorem dX10_readsAmount_5 : decode cX10_readsAmount 5 = .ok (.iconst 1, 1) := by decide +kernel
theorem dX10_readsAmount_6 : decode cX10_readsAmount 6 = .ok (.istore_n 2, 1) := by decide +kernel
theorem dX10_readsAmount_7 : decode cX10_readsAmount 7 = .ok (.aload_n 0, 1) := by decide +kernel
theorem dX10_readsAmount_8 : decode cX10_readsAmount 8 = .ok (.getfield 102, 3) := by decide +kernel
theorem dX10_readsAmount_11 : decode cX10_readsAmount 11 = .ok (.ifCond .ne 42, 3) := by decide +kernel
theorem dX10_readsAmount_14 : decode cX10_readsAmount 14 = .ok (.iload_n 1, 1) := by decide +kernel
theorem dX10_readsAmount_15 : decode cX10_readsAmount 15 = .ok (.ifCond .le 38, 3) := by decide +kernel
theorem dX10_readsAmount_18 : decode cX10_readsAmount 18 = .ok (.iload_n 2, 1) := by decide +kernel
theorem dX10_readsAmount_19 : decode cX10_readsAmount 19 = .ok (.iconst 4, 1) := by decide +kernel
theorem dX10_readsAmount_20 : decode cX10_readsAmount 20 = .ok (.if_icmp .ge 33, 3) := by decide +kernel
theorem dX10_readsAmount_23 : decode cX10_readsAmount 23 = .ok (.aload_n 0, 1) := by decide +kernel
theorem dX10_readsAmount_24 : decode cX10_readsAmount 24 = .ok (.invokevirtual 106, 3) := by decide +kernel
theorem dX10_readsAmount_27 : decode cX10_readsAmount 27 = .ok (.bipush 48, 2) := by decide +kernel
theorem dX10_readsAmount_29 : decode cX10_readsAmount 29 = .ok (.bipush 57, 2) := by decide +kernel
theorem dX10_readsAmount_31 : decode cX10_readsAmount 31 = .ok (.invokestatic 59, 3) := by decide +kernel
theorem dX10_readsAmount_34 : decode cX10_readsAmount 34 = .ok (.ifCond .eq 19, 3) := by decide +kernel
theorem dX10_readsAmount_37 : decode cX10_readsAmount 37 = .ok (.bipush 10, 2) := by decide +kernel
theorem dX10_readsAmount_39 : decode cX10_readsAmount 39 = .ok (.iload_n 1, 1) := by decide +kernel
theorem dX10_readsAmount_40 : decode cX10_readsAmount 40 = .ok (.imul, 1) := by decide +kernel
theorem dX10_readsAmount_41 : decode cX10_readsAmount 41 = .ok (.aload_n 0, 1) := by decide +kernel
theorem dX10_readsAmount_42 : decode cX10_readsAmount 42 = .ok (.invokevirtual 110, 3) := by decide +kernel
theorem dX10_readsAmount_45 : decode cX10_readsAmount 45 = .ok (.iadd, 1) := by decide +kernel
theorem dX10_readsAmount_46 : decode cX10_readsAmount 46 = .ok (.istore_n 1, 1) := by decide +kernel
theorem dX10_readsAmount_47 : decode cX10_readsAmount 47 = .ok (.iinc 2 1, 3) := by decide +kernel
theorem dX10_readsAmount_50 : decode cX10_readsAmount 50 = .ok (.goto (-43), 3) := by decide +kernel
theorem dX10_readsAmount_53 : decode cX10_readsAmount 53 = .ok (.iload_n 1, 1) := by decide +kernel
theorem dX10_readsAmount_54 : decode cX10_readsAmount 54 = .ok (.ireturn, 1) := by decide +kernel
theorem dX10_readsText_0 : decode cX10_readsText 0 = .ok (.iconst 0, 1) := by decide +kernel
theorem dX10_readsText_1 : decode cX10_readsText 1 = .ok (.istore_n 1, 1) := by decide +kernel
theorem dX10_readsText_2 : decode cX10_readsText 2 = .ok (.iload_n 1, 1) := by decide +kernel
theorem dX10_readsText_3 : decode cX10_readsText 3 = .ok (.bipush 10, 2) := by decide +kernel
theorem dX10_readsText_5 : decode cX10_readsText 5 = .ok (.if_icmp .ge 16, 3) := by decide +kernel
theorem dX10_readsText_8 : decode cX10_readsText 8 = .ok (.aload_n 0, 1) := by decide +kernel
theorem dX10_readsText_9 : decode cX10_readsText 9 = .ok (.getfield 30, 3) := by decide +kernel
theorem dX10_readsText_12 : decode cX10_readsText 12 = .ok (.iload_n 1, 1) := by decide +kernel
theorem dX10_readsText_13 : decode cX10_readsText 13 = .ok (.iconst (-1), 1) := by decide +kernel
theorem dX10_readsText_14 : decode cX10_readsText 14 = .ok (.iastore, 1) := by decide +kernel
theorem dX10_readsText_15 : decode cX10_readsText 15 = .ok (.iinc 1 1, 3) := by decide +kernel
theorem dX10_readsText_18 : decode cX10_readsText 18 = .ok (.goto (-16), 3) := by decide +kernel
theorem dX10_readsText_21 : decode cX10_readsText 21 = .ok (.aload_n 0, 1) := by decide +kernel
theorem dX10_readsText_22 : decode cX10_readsText 22 = .ok (.iconst 0, 1) := by decide +kernel
theorem dX10_readsText_23 : decode cX10_readsText 23 = .ok (.putfield 99, 3) := by decide +kernel
theorem dX10_readsText_26 : decode cX10_readsText 26 = .ok (.aload_n 0, 1) := by decide +kernel
theorem dX10_readsText_27 : decode cX10_readsText 27 = .ok (.iconst 0, 1) := by decide +kernel
theorem dX10_readsText_28 : decode cX10_readsText 28 = .ok (.putfield 102, 3) := by decide +kernel
theorem dX10_readsText_31 : decode cX10_readsText 31 = .ok (.aload_n 0, 1) := by decide +kernel
theorem dX10_readsText_32 : decode cX10_readsText 32 = .ok (.bipush 98, 2) := by decide +kernel
theorem dX10_readsText_34 : decode cX10_readsText 34 = .ok (.invokevirtual 113, 3) := by decide +kernel
theorem dX10_readsText_37 : decode cX10_readsText 37 = .ok (.aload_n 0, 1) := by decide +kernel
theorem dX10_readsText_38 : decode cX10_readsText 38 = .ok (.getfield 102, 3) := by decide +kernel
theorem dX10_readsText_41 : decode cX10_readsText 41 = .ok (.ifCond .eq 7, 3) := by decide +kernel
theorem dX10_readsText_44 : decode cX10_readsText 44 = .ok (.iconst 0, 1) := by decide +kernel
theorem dX10_readsText_45 : decode cX10_readsText 45 = .ok (.goto 7, 3) := by decide +kernel
theorem dX10_readsText_48 : decode cX10_readsText 48 = .ok (.aload_n 0, 1) := by decide +kernel
theorem dX10_readsText_49 : decode cX10_readsText 49 = .ok (.invokevirtual 110, 3) := by decide +kernel
theorem dX10_readsText_52 : decode cX10_readsText 52 = .ok (.istore_n 1, 1) := by decide +kernel
theorem dX10_readsText_53 : decode cX10_readsText 53 = .ok (.aload_n 0, 1) := by decide +kernel
theorem dX10_readsText_54 : decode cX10_readsText 54 = .ok (.bipush 58, 2) := by decide +kernel
theorem dX10_readsText_56 : decode cX10_readsText 56 = .ok (.invokevirtual 113, 3) := by decide +kernel
theorem dX10_readsText_59 : decode cX10_readsText 59 = .ok (.aload_n 0, 1) := by decide +kernel
theorem dX10_readsText_60 : decode cX10_readsText 60 = .ok (.getfield 102, 3) := by decide +kernel
theorem dX10_readsText_63 : decode cX10_readsText 63 = .ok (.ifCond .ne 7, 3) := by decide +kernel
theorem dX10_readsText_66 : decode cX10_readsText 66 = .ok (.iconst 1, 1) := by decide +kernel
theorem dX10_readsText_67 : decode cX10_readsText 67 = .ok (.goto 4, 3) := by decide +kernel
theorem dX10_readsText_70 : decode cX10_readsText 70 = .ok (.iconst 0, 1) := by decide +kernel
theorem dX10_readsText_71 : decode cX10_readsText 71 = .ok (.istore_n 2, 1) := by decide +kernel
theorem dX10_readsText_72 : decode cX10_readsText 72 = .ok (.iload_n 2, 1) := by decide +kernel
theorem dX10_readsText_73 : decode cX10_readsText 73 = .ok (.ifCond .eq 82, 3) := by decide +kernel
theorem dX10_readsText_76 : decode cX10_readsText 76 = .ok (.aload_n 0, 1) := by decide +kernel
theorem dX10_readsText_77 : decode cX10_readsText 77 = .ok (.invokevirtual 110, 3) := by decide +kernel
theorem dX10_readsText_80 : decode cX10_readsText 80 = .ok (.istore_n 3, 1) := by decide +kernel
theorem dX10_readsText_81 : decode cX10_readsText 81 = .ok (.aload_n 0, 1) := by decide +kernel
theorem dX10_readsText_82 : decode cX10_readsText 82 = .ok (.bipush 61, 2) := by decide +kernel
theorem dX10_readsText_84 : decode cX10_readsText 84 = .ok (.invokevirtual 113, 3) := by decide +kernel
theorem dX10_readsText_87 : decode cX10_readsText 87 = .ok (.aload_n 0, 1) := by decide +kernel
theorem dX10_readsText_88 : decode cX10_readsText 88 = .ok (.getfield 102, 3) := by decide +kernel
theorem dX10_readsText_91 : decode cX10_readsText 91 = .ok (.ifCond .eq 7, 3) := by decide +kernel
theorem dX10_readsText_94 : decode cX10_readsText 94 = .ok (.iconst 0, 1) := by decide +kernel
theorem dX10_readsText_95 : decode cX10_readsText 95 = .ok (.goto 7, 3) := by decide +kernel
theorem dX10_readsText_98 : decode cX10_readsText 98 = .ok (.aload_n 0, 1) := by decide +kernel
theorem dX10_readsText_99 : decode cX10_readsText 99 = .ok (.invokevirtual 117, 3) := by decide +kernel
theorem dX10_readsText_102 : decode cX10_readsText 102 = .ok (.istore 4, 2) := by decide +kernel
theorem dX10_readsText_104 : decode cX10_readsText 104 = .ok (.aload_n 0, 1) := by decide +kernel
theorem dX10_readsText_105 : decode cX10_readsText 105 = .ok (.getfield 30, 3) := by decide +kernel
theorem dX10_readsText_108 : decode cX10_readsText 108 = .ok (.iload_n 3, 1) := by decide +kernel
theorem dX10_readsText_109 : decode cX10_readsText 109 = .ok (.iload 4, 2) := by decide +kernel
theorem dX10_readsText_111 : decode cX10_readsText 111 = .ok (.iastore, 1) := by decide +kernel
theorem dX10_readsText_112 : decode cX10_readsText 112 = .ok (.aload_n 0, 1) := by decide +kernel
theorem dX10_readsText_113 : decode cX10_readsText 113 = .ok (.getfield 102, 3) := by decide +kernel
theorem dX10_readsText_116 : decode cX10_readsText 116 = .ok (.ifCond .ne 16, 3) := by decide +kernel
theorem dX10_readsText_119 : decode cX10_readsText 119 = .ok (.aload_n 0, 1) := by decide +kernel
theorem dX10_readsText_120 : decode cX10_readsText 120 = .ok (.invokevirtual 106, 3) := by decide +kernel
theorem dX10_readsText_123 : decode cX10_readsText 123 = .ok (.bipush 44, 2) := by decide +kernel
theorem dX10_readsText_125 : decode cX10_readsText 125 = .ok (.if_icmp .ne 7, 3) := by decide +kernel
theorem dX10_readsText_128 : decode cX10_readsText 128 = .ok (.iconst 1, 1) := by decide +kernel
theorem dX10_readsText_129 : decode cX10_readsText 129 = .ok (.goto 4, 3) := by decide +kernel
theorem dX10_readsText_132 : decode cX10_readsText 132 = .ok (.iconst 0, 1) := by decide +kernel
theorem dX10_readsText_133 : decode cX10_readsText 133 = .ok (.istore_n 2, 1) := by decide +kernel
theorem dX10_readsText_134 : decode cX10_readsText 134 = .ok (.aload_n 0, 1) := by decide +kernel
theorem dX10_readsText_135 : decode cX10_readsText 135 = .ok (.dup, 1) := by decide +kernel
theorem dX10_readsText_136 : decode cX10_readsText 136 = .ok (.getfield 99, 3) := by decide +kernel
theorem dX10_readsText_139 : decode cX10_readsText 139 = .ok (.iload_n 2, 1) := by decide +kernel
theorem dX10_readsText_140 : decode cX10_readsText 140 = .ok (.ifCond .eq 7, 3) := by decide +kernel
theorem dX10_readsText_143 : decode cX10_readsText 143 = .ok (.iconst 1, 1) := by decide +kernel
theorem dX10_readsText_144 : decode cX10_readsText 144 = .ok (.goto 4, 3) := by decide +kernel
theorem dX10_readsText_147 : decode cX10_readsText 147 = .ok (.iconst 0, 1) := by decide +kernel
theorem dX10_readsText_148 : decode cX10_readsText 148 = .ok (.iadd, 1) := by decide +kernel
theorem dX10_readsText_149 : decode cX10_readsText 149 = .ok (.putfield 99, 3) := by decide +kernel
theorem dX10_readsText_152 : decode cX10_readsText 152 = .ok (.goto (-80), 3) := by decide +kernel
theorem dX10_readsText_155 : decode cX10_readsText 155 = .ok (.aload_n 0, 1) := by decide +kernel
theorem dX10_readsText_156 : decode cX10_readsText 156 = .ok (.dup, 1) := by decide +kernel
theorem dX10_readsText_157 : decode cX10_readsText 157 = .ok (.getfield 102, 3) := by decide +kernel
theorem dX10_readsText_160 : decode cX10_readsText 160 = .ok (.aload_n 0, 1) := by decide +kernel
theorem dX10_readsText_161 : decode cX10_readsText 161 = .ok (.getfield 99, 3) := by decide +kernel
theorem dX10_readsText_164 : decode cX10_readsText 164 = .ok (.aload_n 0, 1) := by decide +kernel
theorem dX10_readsText_165 : decode cX10_readsText 165 = .ok (.getfield 96, 3) := by decide +kernel
theorem dX10_readsText_168 : decode cX10_readsText 168 = .ok (.if_icmp .ge 7, 3) := by decide +kernel
theorem dX10_readsText_171 : decode cX10_readsText 171 = .ok (.iconst 1, 1) := by decide +kernel
theorem dX10_readsText_172 : decode cX10_readsText 172 = .ok (.goto 4, 3) := by decide +kernel
theorem dX10_readsText_175 : decode cX10_readsText 175 = .ok (.iconst 0, 1) := by decide +kernel
theorem dX10_readsText_176 : decode cX10_readsText 176 = .ok (.ior, 1) := by decide +kernel
theorem dX10_readsText_177 : decode cX10_readsText 177 = .ok (.putfield 102, 3) := by decide +kernel
theorem dX10_readsText_180 : decode cX10_readsText 180 = .ok (.iload_n 1, 1) := by decide +kernel
theorem dX10_readsText_181 : decode cX10_readsText 181 = .ok (.ireturn, 1) := by decide +kernel
theorem dX10_readFormula_0 : decode cX10_readFormula 0 = .ok (.aload_n 0, 1) := by decide +kernel
theorem dX10_readFormula_1 : decode cX10_readFormula 1 = .ok (.invokevirtual 120, 3) := by decide +kernel
theorem dX10_readFormula_4 : decode cX10_readFormula 4 = .ok (.istore_n 1, 1) := by decide +kernel
theorem dX10_readFormula_5 : decode cX10_readFormula 5 = .ok (.aload_n 0, 1) := by decide +kernel
theorem dX10_readFormula_6 : decode cX10_readFormula 6 = .ok (.iconst 0, 1) := by decide +kernel
theorem dX10_readFormula_7 : decode cX10_readFormula 7 = .ok (.putfield 96, 3) := by decide +kernel
theorem dX10_readFormula_10 : decode cX10_readFormula 10 = .ok (.aload_n 0, 1) := by decide +kernel
theorem dX10_readFormula_11 : decode cX10_readFormula 11 = .ok (.aload_n 0, 1) := by decide +kernel
theorem dX10_readFormula_12 : decode cX10_readFormula 12 = .ok (.getfield 102, 3) := by decide +kernel
theorem dX10_readFormula_15 : decode cX10_readFormula 15 = .ok (.ifCond .eq 10, 3) := by decide +kernel
theorem dX10_readFormula_18 : decode cX10_readFormula 18 = .ok (.aload_n 0, 1) := by decide +kernel
theorem dX10_readFormula_19 : decode cX10_readFormula 19 = .ok (.getfield 99, 3) := by decide +kernel
theorem dX10_readFormula_22 : decode cX10_readFormula 22 = .ok (.goto 4, 3) := by decide +kernel
theorem dX10_readFormula_25 : decode cX10_readFormula 25 = .ok (.iconst (-1), 1) := by decide +kernel
theorem dX10_readFormula_26 : decode cX10_readFormula 26 = .ok (.putfield 26, 3) := by decide +kernel
theorem dX10_readFormula_29 : decode cX10_readFormula 29 = .ok (.aload_n 0, 1) := by decide +kernel
theorem dX10_readFormula_30 : decode cX10_readFormula 30 = .ok (.getfield 102, 3) := by decide +kernel
theorem dX10_readFormula_33 : decode cX10_readFormula 33 = .ok (.ifCond .eq 9, 3) := by decide +kernel
theorem dX10_readFormula_36 : decode cX10_readFormula 36 = .ok (.aload_n 0, 1) := by decide +kernel
theorem dX10_readFormula_37 : decode cX10_readFormula 37 = .ok (.iconst 1, 1) := by decide +kernel
theorem dX10_readFormula_38 : decode cX10_readFormula 38 = .ok (.invokevirtual 48, 3) := by decide +kernel
theorem dX10_readFormula_41 : decode cX10_readFormula 41 = .ok (.ireturn, 1) := by decide +kernel
theorem dX10_readFormula_42 : decode cX10_readFormula 42 = .ok (.iload_n 1, 1) := by decide +kernel
theorem dX10_readFormula_43 : decode cX10_readFormula 43 = .ok (.aload_n 0, 1) := by decide +kernel
theorem dX10_readFormula_44 : decode cX10_readFormula 44 = .ok (.getfield 9, 3) := by decide +kernel
theorem dX10_readFormula_47 : decode cX10_readFormula 47 = .ok (.iconst 1, 1) := by decide +kernel
theorem dX10_readFormula_48 : decode cX10_readFormula 48 = .ok (.iaload, 1) := by decide +kernel
theorem dX10_readFormula_49 : decode cX10_readFormula 49 = .ok (.if_icmp .ge 7, 3) := by decide +kernel
theorem dX10_readFormula_52 : decode cX10_readFormula 52 = .ok (.iconst 1, 1) := by decide +kernel
theorem dX10_readFormula_53 : decode cX10_readFormula 53 = .ok (.goto 4, 3) := by decide +kernel
theorem dX10_readFormula_56 : decode cX10_readFormula 56 = .ok (.iconst 0, 1) := by decide +kernel
theorem dX10_readFormula_57 : decode cX10_readFormula 57 = .ok (.istore_n 2, 1) := by decide +kernel
theorem dX10_readFormula_58 : decode cX10_readFormula 58 = .ok (.aload_n 0, 1) := by decide +kernel
theorem dX10_readFormula_59 : decode cX10_readFormula 59 = .ok (.getfield 9, 3) := by decide +kernel
theorem dX10_readFormula_62 : decode cX10_readFormula 62 = .ok (.iconst 0, 1) := by decide +kernel
theorem dX10_readFormula_63 : decode cX10_readFormula 63 = .ok (.iaload, 1) := by decide +kernel
theorem dX10_readFormula_64 : decode cX10_readFormula 64 = .ok (.istore_n 3, 1) := by decide +kernel
theorem dX10_readFormula_65 : decode cX10_readFormula 65 = .ok (.iload_n 3, 1) := by decide +kernel
theorem dX10_readFormula_66 : decode cX10_readFormula 66 = .ok (.bipush 10, 2) := by decide +kernel
theorem dX10_readFormula_68 : decode cX10_readFormula 68 = .ok (.if_icmp .ge 27, 3) := by decide +kernel
theorem dX10_readFormula_71 : decode cX10_readFormula 71 = .ok (.iload_n 2, 1) := by decide +kernel
theorem dX10_readFormula_72 : decode cX10_readFormula 72 = .ok (.aload_n 0, 1) := by decide +kernel
theorem dX10_readFormula_73 : decode cX10_readFormula 73 = .ok (.getfield 30, 3) := by decide +kernel
theorem dX10_readFormula_76 : decode cX10_readFormula 76 = .ok (.iload_n 3, 1) := by decide +kernel
theorem dX10_readFormula_77 : decode cX10_readFormula 77 = .ok (.iaload, 1) := by decide +kernel
theorem dX10_readFormula_78 : decode cX10_readFormula 78 = .ok (.iconst (-1), 1) := by decide +kernel
theorem dX10_readFormula_79 : decode cX10_readFormula 79 = .ok (.if_icmp .ne 7, 3) := by decide +kernel
theorem dX10_readFormula_82 : decode cX10_readFormula 82 = .ok (.iconst 1, 1) := by decide +kernel
theorem dX10_readFormula_83 : decode cX10_readFormula 83 = .ok (.goto 4, 3) := by decide +kernel
theorem dX10_readFormula_86 : decode cX10_readFormula 86 = .ok (.iconst 0, 1) := by decide +kernel
theorem dX10_readFormula_87 : decode cX10_readFormula 87 = .ok (.iand, 1) := by decide +kernel
theorem dX10_readFormula_88 : decode cX10_readFormula 88 = .ok (.istore_n 2, 1) := by decide +kernel
theorem dX10_readFormula_89 : decode cX10_readFormula 89 = .ok (.iinc 3 1, 3) := by decide +kernel
theorem dX10_readFormula_92 : decode cX10_readFormula 92 = .ok (.goto (-27), 3) := by decide +kernel
theorem dX10_readFormula_95 : decode cX10_readFormula 95 = .ok (.iload_n 2, 1) := by decide +kernel
theorem dX10_readFormula_96 : decode cX10_readFormula 96 = .ok (.ifCond .ne 10, 3) := by decide +kernel
theorem dX10_readFormula_99 : decode cX10_readFormula 99 = .ok (.aload_n 0, 1) := by decide +kernel
theorem dX10_readFormula_100 : decode cX10_readFormula 100 = .ok (.iconst 1, 1) := by decide +kernel
theorem dX10_readFormula_101 : decode cX10_readFormula 101 = .ok (.iconst 2, 1) := by decide +kernel
theorem dX10_readFormula_102 : decode cX10_readFormula 102 = .ok (.invokevirtual 80, 3) := by decide +kernel
theorem dX10_readFormula_105 : decode cX10_readFormula 105 = .ok (.ireturn, 1) := by decide +kernel
theorem dX10_readFormula_106 : decode cX10_readFormula 106 = .ok (.aload_n 0, 1) := by decide +kernel
theorem dX10_readFormula_107 : decode cX10_readFormula 107 = .ok (.getfield 9, 3) := by decide +kernel
theorem dX10_readFormula_110 : decode cX10_readFormula 110 = .ok (.iconst 2, 1) := by decide +kernel
theorem dX10_readFormula_111 : decode cX10_readFormula 111 = .ok (.iaload, 1) := by decide +kernel
theorem dX10_readFormula_112 : decode cX10_readFormula 112 = .ok (.bipush 10, 2) := by decide +kernel
theorem dX10_readFormula_114 : decode cX10_readFormula 114 = .ok (.if_icmp .ne 10, 3) := by decide +kernel
theorem dX10_readFormula_117 : decode cX10_readFormula 117 = .ok (.aload_n 0, 1) := by decide +kernel
theorem dX10_readFormula_118 : decode cX10_readFormula 118 = .ok (.iconst 2, 1) := by decide +kernel
theorem dX10_readFormula_119 : decode cX10_readFormula 119 = .ok (.iconst 2, 1) := by decide +kernel
theorem dX10_readFormula_120 : decode cX10_readFormula 120 = .ok (.invokevirtual 80, 3) := by decide +kernel
theorem dX10_readFormula_123 : decode cX10_readFormula 123 = .ok (.ireturn, 1) := by decide +kernel
theorem dX10_readFormula_124 : decode cX10_readFormula 124 = .ok (.aload_n 0, 1) := by decide +kernel
theorem dX10_readFormula_125 : decode cX10_readFormula 125 = .ok (.invokevirtual 63, 3) := by decide +kernel
theorem dX10_readFormula_128 : decode cX10_readFormula 128 = .ok (.sipush 409, 3) := by decide +kernel
theorem dX10_readFormula_131 : decode cX10_readFormula 131 = .ok (.bipush 17, 2) := by decide +kernel
theorem dX10_readFormula_133 : decode cX10_readFormula 133 = .ok (.aload_n 0, 1) := by decide +kernel
theorem dX10_readFormula_134 : decode cX10_readFormula 134 = .ok (.getfield 9, 3) := by decide +kernel
theorem dX10_readFormula_137 : decode cX10_readFormula 137 = .ok (.iconst 2, 1) := by decide +kernel
theorem dX10_readFormula_138 : decode cX10_readFormula 138 = .ok (.iaload, 1) := by decide +kernel
theorem dX10_readFormula_139 : decode cX10_readFormula 139 = .ok (.imul, 1) := by decide +kernel
theorem dX10_readFormula_140 : decode cX10_readFormula 140 = .ok (.iadd, 1) := by decide +kernel
theorem dX10_readFormula_141 : decode cX10_readFormula 141 = .ok (.istore_n 3, 1) := by decide +kernel
theorem dX10_readFormula_142 : decode cX10_readFormula 142 = .ok (.aload_n 0, 1) := by decide +kernel
theorem dX10_readFormula_143 : decode cX10_readFormula 143 = .ok (.getfield 9, 3) := by decide +kernel
theorem dX10_readFormula_146 : decode cX10_readFormula 146 = .ok (.iload_n 3, 1) := by decide +kernel
theorem dX10_readFormula_147 : decode cX10_readFormula 147 = .ok (.iload_n 1, 1) := by decide +kernel
theorem dX10_readFormula_148 : decode cX10_readFormula 148 = .ok (.iastore, 1) := by decide +kernel
theorem dX10_readFormula_149 : decode cX10_readFormula 149 = .ok (.iconst 0, 1) := by decide +kernel
theorem dX10_readFormula_150 : decode cX10_readFormula 150 = .ok (.istore 4, 2) := by decide +kernel
theorem dX10_readFormula_152 : decode cX10_readFormula 152 = .ok (.iload 4, 2) := by decide +kernel
theorem dX10_readFormula_154 : decode cX10_readFormula 154 = .ok (.bipush 8, 2) := by decide +kernel
theorem dX10_readFormula_156 : decode cX10_readFormula 156 = .ok (.if_icmp .ge 55, 3) := by decide +kernel
theorem dX10_readFormula_159 : decode cX10_readFormula 159 = .ok (.aload_n 0, 1) := by decide +kernel
theorem dX10_readFormula_160 : decode cX10_readFormula 160 = .ok (.getfield 9, 3) := by decide +kernel
theorem dX10_readFormula_163 : decode cX10_readFormula 163 = .ok (.iload_n 3, 1) := by decide +kernel
theorem dX10_readFormula_164 : decode cX10_readFormula 164 = .ok (.iconst 1, 1) := by decide +kernel
theorem dX10_readFormula_165 : decode cX10_readFormula 165 = .ok (.iadd, 1) := by decide +kernel
theorem dX10_readFormula_166 : decode cX10_readFormula 166 = .ok (.iload 4, 2) := by decide +kernel
theorem dX10_readFormula_168 : decode cX10_readFormula 168 = .ok (.iadd, 1) := by decide +kernel
theorem dX10_readFormula_169 : decode cX10_readFormula 169 = .ok (.aload_n 0, 1) := by decide +kernel
theorem dX10_readFormula_170 : decode cX10_readFormula 170 = .ok (.getfield 30, 3) := by decide +kernel
theorem dX10_readFormula_173 : decode cX10_readFormula 173 = .ok (.iload 4, 2) := by decide +kernel
theorem dX10_readFormula_175 : decode cX10_readFormula 175 = .ok (.iaload, 1) := by decide +kernel
theorem dX10_readFormula_176 : decode cX10_readFormula 176 = .ok (.iconst (-1), 1) := by decide +kernel
theorem dX10_readFormula_177 : decode cX10_readFormula 177 = .ok (.if_icmp .ne 7, 3) := by decide +kernel
theorem dX10_readFormula_180 : decode cX10_readFormula 180 = .ok (.iconst 0, 1) := by decide +kernel
theorem dX10_readFormula_181 : decode cX10_readFormula 181 = .ok (.goto 10, 3) := by decide +kernel
theorem dX10_readFormula_184 : decode cX10_readFormula 184 = .ok (.aload_n 0, 1) := by decide +kernel
theorem dX10_readFormula_185 : decode cX10_readFormula 185 = .ok (.getfield 30, 3) := by decide +kernel
theorem dX10_readFormula_188 : decode cX10_readFormula 188 = .ok (.iload 4, 2) := by decide +kernel
theorem dX10_readFormula_190 : decode cX10_readFormula 190 = .ok (.iaload, 1) := by decide +kernel
theorem dX10_readFormula_191 : decode cX10_readFormula 191 = .ok (.iastore, 1) := by decide +kernel
theorem dX10_readFormula_192 : decode cX10_readFormula 192 = .ok (.aload_n 0, 1) := by decide +kernel
theorem dX10_readFormula_193 : decode cX10_readFormula 193 = .ok (.getfield 9, 3) := by decide +kernel
theorem dX10_readFormula_196 : decode cX10_readFormula 196 = .ok (.iload_n 3, 1) := by decide +kernel
theorem dX10_readFormula_197 : decode cX10_readFormula 197 = .ok (.bipush 9, 2) := by decide +kernel
theorem dX10_readFormula_199 : decode cX10_readFormula 199 = .ok (.iadd, 1) := by decide +kernel
theorem dX10_readFormula_200 : decode cX10_readFormula 200 = .ok (.iload 4, 2) := by decide +kernel
theorem dX10_readFormula_202 : decode cX10_readFormula 202 = .ok (.iadd, 1) := by decide +kernel
theorem dX10_readFormula_203 : decode cX10_readFormula 203 = .ok (.iconst 0, 1) := by decide +kernel
theorem dX10_readFormula_204 : decode cX10_readFormula 204 = .ok (.iastore, 1) := by decide +kernel
theorem dX10_readFormula_205 : decode cX10_readFormula 205 = .ok (.iinc 4 1, 3) := by decide +kernel
theorem dX10_readFormula_208 : decode cX10_readFormula 208 = .ok (.goto (-56), 3) := by decide +kernel
theorem dX10_readFormula_211 : decode cX10_readFormula 211 = .ok (.aload_n 0, 1) := by decide +kernel
theorem dX10_readFormula_212 : decode cX10_readFormula 212 = .ok (.getfield 9, 3) := by decide +kernel
theorem dX10_readFormula_215 : decode cX10_readFormula 215 = .ok (.iconst 2, 1) := by decide +kernel
theorem dX10_readFormula_216 : decode cX10_readFormula 216 = .ok (.dup2, 1) := by decide +kernel
theorem dX10_readFormula_217 : decode cX10_readFormula 217 = .ok (.iaload, 1) := by decide +kernel
theorem dX10_readFormula_218 : decode cX10_readFormula 218 = .ok (.iconst 1, 1) := by decide +kernel
theorem dX10_readFormula_219 : decode cX10_readFormula 219 = .ok (.iadd, 1) := by decide +kernel
theorem dX10_readFormula_220 : decode cX10_readFormula 220 = .ok (.iastore, 1) := by decide +kernel
theorem dX10_readFormula_221 : decode cX10_readFormula 221 = .ok (.aload_n 0, 1) := by decide +kernel
theorem dX10_readFormula_222 : decode cX10_readFormula 222 = .ok (.aload_n 0, 1) := by decide +kernel
theorem dX10_readFormula_223 : decode cX10_readFormula 223 = .ok (.getfield 9, 3) := by decide +kernel
theorem dX10_readFormula_226 : decode cX10_readFormula 226 = .ok (.iconst 2, 1) := by decide +kernel
theorem dX10_readFormula_227 : decode cX10_readFormula 227 = .ok (.iaload, 1) := by decide +kernel
theorem dX10_readFormula_228 : decode cX10_readFormula 228 = .ok (.iconst 1, 1) := by decide +kernel
theorem dX10_readFormula_229 : decode cX10_readFormula 229 = .ok (.isub, 1) := by decide +kernel
theorem dX10_readFormula_230 : decode cX10_readFormula 230 = .ok (.invokevirtual 66, 3) := by decide +kernel
theorem dX10_readFormula_233 : decode cX10_readFormula 233 = .ok (.ireturn, 1) := by decide +kernel
theorem dX10_faultPosition_0 : decode cX10_faultPosition 0 = .ok (.aload_n 0, 1) := by decide +kernel
theorem dX10_faultPosition_1 : decode cX10_faultPosition 1 = .ok (.aload_n 0, 1) := by decide +kernel
theorem dX10_faultPosition_2 : decode cX10_faultPosition 2 = .ok (.getfield 26, 3) := by decide +kernel
theorem dX10_faultPosition_5 : decode cX10_faultPosition 5 = .ok (.invokevirtual 66, 3) := by decide +kernel
theorem dX10_faultPosition_8 : decode cX10_faultPosition 8 = .ok (.ireturn, 1) := by decide +kernel
theorem dX10_setAmount_0 : decode cX10_setAmount 0 = .ok (.aload_n 0, 1) := by decide +kernel
theorem dX10_setAmount_1 : decode cX10_setAmount 1 = .ok (.iload_n 1, 1) := by decide +kernel
theorem dX10_setAmount_2 : decode cX10_setAmount 2 = .ok (.invokevirtual 123, 3) := by decide +kernel
theorem dX10_setAmount_5 : decode cX10_setAmount 5 = .ok (.ifCond .eq 11, 3) := by decide +kernel
theorem dX10_setAmount_8 : decode cX10_setAmount 8 = .ok (.aload_n 0, 1) := by decide +kernel
theorem dX10_setAmount_9 : decode cX10_setAmount 9 = .ok (.iload_n 2, 1) := by decide +kernel
theorem dX10_setAmount_10 : decode cX10_setAmount 10 = .ok (.invokevirtual 73, 3) := by decide +kernel
theorem dX10_setAmount_13 : decode cX10_setAmount 13 = .ok (.ifCond .ne 9, 3) := by decide +kernel
theorem dX10_setAmount_16 : decode cX10_setAmount 16 = .ok (.aload_n 0, 1) := by decide +kernel
theorem dX10_setAmount_17 : decode cX10_setAmount 17 = .ok (.iconst 1, 1) := by decide +kernel
theorem dX10_setAmount_18 : decode cX10_setAmount 18 = .ok (.invokevirtual 48, 3) := by decide +kernel
theorem dX10_setAmount_21 : decode cX10_setAmount 21 = .ok (.ireturn, 1) := by decide +kernel
theorem dX10_setAmount_22 : decode cX10_setAmount 22 = .ok (.iload_n 3, 1) := by decide +kernel
theorem dX10_setAmount_23 : decode cX10_setAmount 23 = .ok (.iconst 0, 1) := by decide +kernel
theorem dX10_setAmount_24 : decode cX10_setAmount 24 = .ok (.sipush 9999, 3) := by decide +kernel
theorem dX10_setAmount_27 : decode cX10_setAmount 27 = .ok (.invokestatic 59, 3) := by decide +kernel
theorem dX10_setAmount_30 : decode cX10_setAmount 30 = .ok (.ifCond .ne 9, 3) := by decide +kernel
theorem dX10_setAmount_33 : decode cX10_setAmount 33 = .ok (.aload_n 0, 1) := by decide +kernel
theorem dX10_setAmount_34 : decode cX10_setAmount 34 = .ok (.iconst 2, 1) := by decide +kernel
theorem dX10_setAmount_35 : decode cX10_setAmount 35 = .ok (.invokevirtual 48, 3) := by decide +kernel
theorem dX10_setAmount_38 : decode cX10_setAmount 38 = .ok (.ireturn, 1) := by decide +kernel
theorem dX10_setAmount_39 : decode cX10_setAmount 39 = .ok (.aload_n 0, 1) := by decide +kernel
theorem dX10_setAmount_40 : decode cX10_setAmount 40 = .ok (.invokevirtual 63, 3) := by decide +kernel
theorem dX10_setAmount_43 : decode cX10_setAmount 43 = .ok (.sipush 409, 3) := by decide +kernel
theorem dX10_setAmount_46 : decode cX10_setAmount 46 = .ok (.bipush 17, 2) := by decide +kernel
theorem dX10_setAmount_48 : decode cX10_setAmount 48 = .ok (.iload_n 1, 1) := by decide +kernel
theorem dX10_setAmount_49 : decode cX10_setAmount 49 = .ok (.imul, 1) := by decide +kernel
theorem dX10_setAmount_50 : decode cX10_setAmount 50 = .ok (.iadd, 1) := by decide +kernel
theorem dX10_setAmount_51 : decode cX10_setAmount 51 = .ok (.istore 4, 2) := by decide +kernel
theorem dX10_setAmount_53 : decode cX10_setAmount 53 = .ok (.aload_n 0, 1) := by decide +kernel
theorem dX10_setAmount_54 : decode cX10_setAmount 54 = .ok (.getfield 9, 3) := by decide +kernel
theorem dX10_setAmount_57 : decode cX10_setAmount 57 = .ok (.iload 4, 2) := by decide +kernel
theorem dX10_setAmount_59 : decode cX10_setAmount 59 = .ok (.iconst 1, 1) := by decide +kernel
theorem dX10_setAmount_60 : decode cX10_setAmount 60 = .ok (.iadd, 1) := by decide +kernel
theorem dX10_setAmount_61 : decode cX10_setAmount 61 = .ok (.iload_n 2, 1) := by decide +kernel
theorem dX10_setAmount_62 : decode cX10_setAmount 62 = .ok (.iadd, 1) := by decide +kernel
theorem dX10_setAmount_63 : decode cX10_setAmount 63 = .ok (.iaload, 1) := by decide +kernel
theorem dX10_setAmount_64 : decode cX10_setAmount 64 = .ok (.istore 5, 2) := by decide +kernel
theorem dX10_setAmount_66 : decode cX10_setAmount 66 = .ok (.aload_n 0, 1) := by decide +kernel
theorem dX10_setAmount_67 : decode cX10_setAmount 67 = .ok (.getfield 9, 3) := by decide +kernel
theorem dX10_setAmount_70 : decode cX10_setAmount 70 = .ok (.iload 4, 2) := by decide +kernel
theorem dX10_setAmount_72 : decode cX10_setAmount 72 = .ok (.iconst 1, 1) := by decide +kernel
theorem dX10_setAmount_73 : decode cX10_setAmount 73 = .ok (.iadd, 1) := by decide +kernel
theorem dX10_setAmount_74 : decode cX10_setAmount 74 = .ok (.iload_n 2, 1) := by decide +kernel
theorem dX10_setAmount_75 : decode cX10_setAmount 75 = .ok (.iadd, 1) := by decide +kernel
theorem dX10_setAmount_76 : decode cX10_setAmount 76 = .ok (.iload_n 3, 1) := by decide +kernel
theorem dX10_setAmount_77 : decode cX10_setAmount 77 = .ok (.iastore, 1) := by decide +kernel
theorem dX10_setAmount_78 : decode cX10_setAmount 78 = .ok (.aload_n 0, 1) := by decide +kernel
theorem dX10_setAmount_79 : decode cX10_setAmount 79 = .ok (.getfield 9, 3) := by decide +kernel
theorem dX10_setAmount_82 : decode cX10_setAmount 82 = .ok (.iload 4, 2) := by decide +kernel
theorem dX10_setAmount_84 : decode cX10_setAmount 84 = .ok (.bipush 9, 2) := by decide +kernel
theorem dX10_setAmount_86 : decode cX10_setAmount 86 = .ok (.iadd, 1) := by decide +kernel
theorem dX10_setAmount_87 : decode cX10_setAmount 87 = .ok (.iload_n 2, 1) := by decide +kernel
theorem dX10_setAmount_88 : decode cX10_setAmount 88 = .ok (.iadd, 1) := by decide +kernel
theorem dX10_setAmount_89 : decode cX10_setAmount 89 = .ok (.iconst 0, 1) := by decide +kernel
theorem dX10_setAmount_90 : decode cX10_setAmount 90 = .ok (.iastore, 1) := by decide +kernel
theorem dX10_setAmount_91 : decode cX10_setAmount 91 = .ok (.aload_n 0, 1) := by decide +kernel
theorem dX10_setAmount_92 : decode cX10_setAmount 92 = .ok (.iload 5, 2) := by decide +kernel
theorem dX10_setAmount_94 : decode cX10_setAmount 94 = .ok (.invokevirtual 66, 3) := by decide +kernel
theorem dX10_setAmount_97 : decode cX10_setAmount 97 = .ok (.ireturn, 1) := by decide +kernel
theorem dX10_amount_0 : decode cX10_amount 0 = .ok (.aload_n 0, 1) := by decide +kernel
theorem dX10_amount_1 : decode cX10_amount 1 = .ok (.iload_n 1, 1) := by decide +kernel
theorem dX10_amount_2 : decode cX10_amount 2 = .ok (.invokevirtual 123, 3) := by decide +kernel
theorem dX10_amount_5 : decode cX10_amount 5 = .ok (.ifCond .eq 11, 3) := by decide +kernel
theorem dX10_amount_8 : decode cX10_amount 8 = .ok (.aload_n 0, 1) := by decide +kernel
theorem dX10_amount_9 : decode cX10_amount 9 = .ok (.iload_n 2, 1) := by decide +kernel
theorem dX10_amount_10 : decode cX10_amount 10 = .ok (.invokevirtual 73, 3) := by decide +kernel
theorem dX10_amount_13 : decode cX10_amount 13 = .ok (.ifCond .ne 9, 3) := by decide +kernel
theorem dX10_amount_16 : decode cX10_amount 16 = .ok (.aload_n 0, 1) := by decide +kernel
theorem dX10_amount_17 : decode cX10_amount 17 = .ok (.iconst 1, 1) := by decide +kernel
theorem dX10_amount_18 : decode cX10_amount 18 = .ok (.invokevirtual 48, 3) := by decide +kernel
theorem dX10_amount_21 : decode cX10_amount 21 = .ok (.ireturn, 1) := by decide +kernel
theorem dX10_amount_22 : decode cX10_amount 22 = .ok (.aload_n 0, 1) := by decide +kernel
theorem dX10_amount_23 : decode cX10_amount 23 = .ok (.aload_n 0, 1) := by decide +kernel
theorem dX10_amount_24 : decode cX10_amount 24 = .ok (.getfield 9, 3) := by decide +kernel
theorem dX10_amount_27 : decode cX10_amount 27 = .ok (.sipush 409, 3) := by decide +kernel
theorem dX10_amount_30 : decode cX10_amount 30 = .ok (.bipush 17, 2) := by decide +kernel
theorem dX10_amount_32 : decode cX10_amount 32 = .ok (.iload_n 1, 1) := by decide +kernel
theorem dX10_amount_33 : decode cX10_amount 33 = .ok (.imul, 1) := by decide +kernel
theorem dX10_amount_34 : decode cX10_amount 34 = .ok (.iadd, 1) := by decide +kernel
theorem dX10_amount_35 : decode cX10_amount 35 = .ok (.iload_n 3, 1) := by decide +kernel
theorem dX10_amount_36 : decode cX10_amount 36 = .ok (.ifCond .eq 8, 3) := by decide +kernel
theorem dX10_amount_39 : decode cX10_amount 39 = .ok (.bipush 9, 2) := by decide +kernel
theorem dX10_amount_41 : decode cX10_amount 41 = .ok (.goto 4, 3) := by decide +kernel
theorem dX10_amount_44 : decode cX10_amount 44 = .ok (.iconst 1, 1) := by decide +kernel
theorem dX10_amount_45 : decode cX10_amount 45 = .ok (.iadd, 1) := by decide +kernel
theorem dX10_amount_46 : decode cX10_amount 46 = .ok (.iload_n 2, 1) := by decide +kernel
theorem dX10_amount_47 : decode cX10_amount 47 = .ok (.iadd, 1) := by decide +kernel
theorem dX10_amount_48 : decode cX10_amount 48 = .ok (.iaload, 1) := by decide +kernel
theorem dX10_amount_49 : decode cX10_amount 49 = .ok (.invokevirtual 66, 3) := by decide +kernel
theorem dX10_amount_52 : decode cX10_amount 52 = .ok (.ireturn, 1) := by decide +kernel
theorem dX10_baseOf_0 : decode cX10_baseOf 0 = .ok (.aload_n 0, 1) := by decide +kernel
theorem dX10_baseOf_1 : decode cX10_baseOf 1 = .ok (.iload_n 1, 1) := by decide +kernel
theorem dX10_baseOf_2 : decode cX10_baseOf 2 = .ok (.invokevirtual 123, 3) := by decide +kernel
theorem dX10_baseOf_5 : decode cX10_baseOf 5 = .ok (.ifCond .eq 23, 3) := by decide +kernel
theorem dX10_baseOf_8 : decode cX10_baseOf 8 = .ok (.aload_n 0, 1) := by decide +kernel
theorem dX10_baseOf_9 : decode cX10_baseOf 9 = .ok (.aload_n 0, 1) := by decide +kernel
theorem dX10_baseOf_10 : decode cX10_baseOf 10 = .ok (.getfield 9, 3) := by decide +kernel
theorem dX10_baseOf_13 : decode cX10_baseOf 13 = .ok (.sipush 409, 3) := by decide +kernel
theorem dX10_baseOf_16 : decode cX10_baseOf 16 = .ok (.bipush 17, 2) := by decide +kernel
theorem dX10_baseOf_18 : decode cX10_baseOf 18 = .ok (.iload_n 1, 1) := by decide +kernel
theorem dX10_baseOf_19 : decode cX10_baseOf 19 = .ok (.imul, 1) := by decide +kernel
theorem dX10_baseOf_20 : decode cX10_baseOf 20 = .ok (.iadd, 1) := by decide +kernel
theorem dX10_baseOf_21 : decode cX10_baseOf 21 = .ok (.iaload, 1) := by decide +kernel
theorem dX10_baseOf_22 : decode cX10_baseOf 22 = .ok (.invokevirtual 66, 3) := by decide +kernel
theorem dX10_baseOf_25 : decode cX10_baseOf 25 = .ok (.goto 8, 3) := by decide +kernel
theorem dX10_baseOf_28 : decode cX10_baseOf 28 = .ok (.aload_n 0, 1) := by decide +kernel
theorem dX10_baseOf_29 : decode cX10_baseOf 29 = .ok (.iconst 1, 1) := by decide +kernel
theorem dX10_baseOf_30 : decode cX10_baseOf 30 = .ok (.invokevirtual 48, 3) := by decide +kernel
theorem dX10_baseOf_33 : decode cX10_baseOf 33 = .ok (.ireturn, 1) := by decide +kernel
theorem dX10_closest_0 : decode cX10_closest 0 = .ok (.aload_n 0, 1) := by decide +kernel
theorem dX10_closest_1 : decode cX10_closest 1 = .ok (.iload_n 1, 1) := by decide +kernel
theorem dX10_closest_2 : decode cX10_closest 2 = .ok (.invokevirtual 126, 3) := by decide +kernel
theorem dX10_closest_5 : decode cX10_closest 5 = .ok (.ifCond .ne 9, 3) := by decide +kernel
theorem dX10_closest_8 : decode cX10_closest 8 = .ok (.aload_n 0, 1) := by decide +kernel
theorem dX10_closest_9 : decode cX10_closest 9 = .ok (.iconst 1, 1) := by decide +kernel
theorem dX10_closest_10 : decode cX10_closest 10 = .ok (.invokevirtual 48, 3) := by decide +kernel
theorem dX10_closest_13 : decode cX10_closest 13 = .ok (.ireturn, 1) := by decide +kernel
theorem dX10_closest_14 : decode cX10_closest 14 = .ok (.iconst (-1), 1) := by decide +kernel
theorem dX10_closest_15 : decode cX10_closest 15 = .ok (.istore_n 2, 1) := by decide +kernel
theorem dX10_closest_16 : decode cX10_closest 16 = .ok (.iconst 0, 1) := by decide +kernel
theorem dX10_closest_17 : decode cX10_closest 17 = .ok (.istore_n 3, 1) := by decide +kernel
theorem dX10_closest_18 : decode cX10_closest 18 = .ok (.iconst 0, 1) := by decide +kernel
theorem dX10_closest_19 : decode cX10_closest 19 = .ok (.istore 4, 2) := by decide +kernel
theorem dX10_closest_21 : decode cX10_closest 21 = .ok (.iload 4, 2) := by decide +kernel
theorem dX10_closest_23 : decode cX10_closest 23 = .ok (.aload_n 0, 1) := by decide +kernel
theorem dX10_closest_24 : decode cX10_closest 24 = .ok (.getfield 9, 3) := by decide +kernel
theorem dX10_closest_27 : decode cX10_closest 27 = .ok (.iconst 2, 1) := by decide +kernel
theorem dX10_closest_28 : decode cX10_closest 28 = .ok (.iaload, 1) := by decide +kernel
theorem dX10_closest_29 : decode cX10_closest 29 = .ok (.if_icmp .ge 124, 3) := by decide +kernel
theorem dX10_closest_32 : decode cX10_closest 32 = .ok (.iconst 0, 1) := by decide +kernel
theorem dX10_closest_33 : decode cX10_closest 33 = .ok (.istore 5, 2) := by decide +kernel
theorem dX10_closest_35 : decode cX10_closest 35 = .ok (.iconst 0, 1) := by decide +kernel
theorem dX10_closest_36 : decode cX10_closest 36 = .ok (.istore 6, 2) := by decide +kernel
theorem dX10_closest_38 : decode cX10_closest 38 = .ok (.iload 6, 2) := by decide +kernel
theorem dX10_closest_40 : decode cX10_closest 40 = .ok (.aload_n 0, 1) := by decide +kernel
theorem dX10_closest_41 : decode cX10_closest 41 = .ok (.getfield 9, 3) := by decide +kernel
theorem dX10_closest_44 : decode cX10_closest 44 = .ok (.iconst 0, 1) := by decide +kernel
theorem dX10_closest_45 : decode cX10_closest 45 = .ok (.iaload, 1) := by decide +kernel
theorem dX10_closest_46 : decode cX10_closest 46 = .ok (.if_icmp .ge 61, 3) := by decide +kernel
theorem dX10_closest_49 : decode cX10_closest 49 = .ok (.aload_n 0, 1) := by decide +kernel
theorem dX10_closest_50 : decode cX10_closest 50 = .ok (.getfield 9, 3) := by decide +kernel
theorem dX10_closest_53 : decode cX10_closest 53 = .ok (.sipush 409, 3) := by decide +kernel
theorem dX10_closest_56 : decode cX10_closest 56 = .ok (.bipush 17, 2) := by decide +kernel
theorem dX10_closest_58 : decode cX10_closest 58 = .ok (.iload 4, 2) := by decide +kernel
theorem dX10_closest_60 : decode cX10_closest 60 = .ok (.imul, 1) := by decide +kernel
theorem dX10_closest_61 : decode cX10_closest 61 = .ok (.iadd, 1) := by decide +kernel
theorem dX10_closest_62 : decode cX10_closest 62 = .ok (.iconst 1, 1) := by decide +kernel
theorem dX10_closest_63 : decode cX10_closest 63 = .ok (.iadd, 1) := by decide +kernel
theorem dX10_closest_64 : decode cX10_closest 64 = .ok (.iload 6, 2) := by decide +kernel
theorem dX10_closest_66 : decode cX10_closest 66 = .ok (.iadd, 1) := by decide +kernel
theorem dX10_closest_67 : decode cX10_closest 67 = .ok (.iaload, 1) := by decide +kernel
theorem dX10_closest_68 : decode cX10_closest 68 = .ok (.bipush 100, 2) := by decide +kernel
theorem dX10_closest_70 : decode cX10_closest 70 = .ok (.aload_n 0, 1) := by decide +kernel
theorem dX10_closest_71 : decode cX10_closest 71 = .ok (.iload_n 1, 1) := by decide +kernel
theorem dX10_closest_72 : decode cX10_closest 72 = .ok (.iconst 2, 1) := by decide +kernel
theorem dX10_closest_73 : decode cX10_closest 73 = .ok (.iload 6, 2) := by decide +kernel
theorem dX10_closest_75 : decode cX10_closest 75 = .ok (.iadd, 1) := by decide +kernel
theorem dX10_closest_76 : decode cX10_closest 76 = .ok (.invokevirtual 129, 3) := by decide +kernel
theorem dX10_closest_79 : decode cX10_closest 79 = .ok (.imul, 1) := by decide +kernel
theorem dX10_closest_80 : decode cX10_closest 80 = .ok (.isub, 1) := by decide +kernel
theorem dX10_closest_81 : decode cX10_closest 81 = .ok (.istore 7, 2) := by decide +kernel
theorem dX10_closest_83 : decode cX10_closest 83 = .ok (.iload 5, 2) := by decide +kernel
theorem dX10_closest_85 : decode cX10_closest 85 = .ok (.iload 7, 2) := by decide +kernel
theorem dX10_closest_87 : decode cX10_closest 87 = .ok (.ifCond .ge 9, 3) := by decide +kernel
theorem dX10_closest_90 : decode cX10_closest 90 = .ok (.iload 7, 2) := by decide +kernel
theorem dX10_closest_92 : decode cX10_closest 92 = .ok (.ineg, 1) := by decide +kernel
theorem dX10_closest_93 : decode cX10_closest 93 = .ok (.goto 5, 3) := by decide +kernel
theorem dX10_closest_96 : decode cX10_closest 96 = .ok (.iload 7, 2) := by decide +kernel
theorem dX10_closest_98 : decode cX10_closest 98 = .ok (.iadd, 1) := by decide +kernel
theorem dX10_closest_99 : decode cX10_closest 99 = .ok (.istore 5, 2) := by decide +kernel
theorem dX10_closest_101 : decode cX10_closest 101 = .ok (.iinc 6 1, 3) := by decide +kernel
theorem dX10_closest_104 : decode cX10_closest 104 = .ok (.goto (-66), 3) := by decide +kernel
theorem dX10_closest_107 : decode cX10_closest 107 = .ok (.aload_n 0, 1) := by decide +kernel
theorem dX10_closest_108 : decode cX10_closest 108 = .ok (.getfield 9, 3) := by decide +kernel
theorem dX10_closest_111 : decode cX10_closest 111 = .ok (.sipush 409, 3) := by decide +kernel
theorem dX10_closest_114 : decode cX10_closest 114 = .ok (.bipush 17, 2) := by decide +kernel
theorem dX10_closest_116 : decode cX10_closest 116 = .ok (.iload 4, 2) := by decide +kernel
theorem dX10_closest_118 : decode cX10_closest 118 = .ok (.imul, 1) := by decide +kernel
theorem dX10_closest_119 : decode cX10_closest 119 = .ok (.iadd, 1) := by decide +kernel
theorem dX10_closest_120 : decode cX10_closest 120 = .ok (.iaload, 1) := by decide +kernel
theorem dX10_closest_121 : decode cX10_closest 121 = .ok (.aload_n 0, 1) := by decide +kernel
theorem dX10_closest_122 : decode cX10_closest 122 = .ok (.iload_n 1, 1) := by decide +kernel
theorem dX10_closest_123 : decode cX10_closest 123 = .ok (.iconst 1, 1) := by decide +kernel
theorem dX10_closest_124 : decode cX10_closest 124 = .ok (.invokevirtual 129, 3) := by decide +kernel
theorem dX10_closest_127 : decode cX10_closest 127 = .ok (.if_icmp .ne 20, 3) := by decide +kernel
theorem dX10_closest_130 : decode cX10_closest 130 = .ok (.iload_n 2, 1) := by decide +kernel
theorem dX10_closest_131 : decode cX10_closest 131 = .ok (.iconst (-1), 1) := by decide +kernel
theorem dX10_closest_132 : decode cX10_closest 132 = .ok (.if_icmp .eq 9, 3) := by decide +kernel
theorem dX10_closest_135 : decode cX10_closest 135 = .ok (.iload 5, 2) := by decide +kernel
theorem dX10_closest_137 : decode cX10_closest 137 = .ok (.iload_n 3, 1) := by decide +kernel
theorem dX10_closest_138 : decode cX10_closest 138 = .ok (.if_icmp .ge 9, 3) := by decide +kernel
theorem dX10_closest_141 : decode cX10_closest 141 = .ok (.iload 4, 2) := by decide +kernel
theorem dX10_closest_143 : decode cX10_closest 143 = .ok (.istore_n 2, 1) := by decide +kernel
theorem dX10_closest_144 : decode cX10_closest 144 = .ok (.iload 5, 2) := by decide +kernel
theorem dX10_closest_146 : decode cX10_closest 146 = .ok (.istore_n 3, 1) := by decide +kernel
theorem dX10_closest_147 : decode cX10_closest 147 = .ok (.iinc 4 1, 3) := by decide +kernel
theorem dX10_closest_150 : decode cX10_closest 150 = .ok (.goto (-129), 3) := by decide +kernel
theorem dX10_closest_153 : decode cX10_closest 153 = .ok (.aload_n 0, 1) := by decide +kernel
theorem dX10_closest_154 : decode cX10_closest 154 = .ok (.iload_n 2, 1) := by decide +kernel
theorem dX10_closest_155 : decode cX10_closest 155 = .ok (.invokevirtual 66, 3) := by decide +kernel
theorem dX10_closest_158 : decode cX10_closest 158 = .ok (.ireturn, 1) := by decide +kernel
theorem dX10_stepsOf_0 : decode cX10_stepsOf 0 = .ok (.sipush 409, 3) := by decide +kernel
theorem dX10_stepsOf_3 : decode cX10_stepsOf 3 = .ok (.bipush 17, 2) := by decide +kernel
theorem dX10_stepsOf_5 : decode cX10_stepsOf 5 = .ok (.iload_n 1, 1) := by decide +kernel
theorem dX10_stepsOf_6 : decode cX10_stepsOf 6 = .ok (.imul, 1) := by decide +kernel
theorem dX10_stepsOf_7 : decode cX10_stepsOf 7 = .ok (.iadd, 1) := by decide +kernel
theorem dX10_stepsOf_8 : decode cX10_stepsOf 8 = .ok (.istore_n 3, 1) := by decide +kernel
theorem dX10_stepsOf_9 : decode cX10_stepsOf 9 = .ok (.aload_n 0, 1) := by decide +kernel
theorem dX10_stepsOf_10 : decode cX10_stepsOf 10 = .ok (.getfield 9, 3) := by decide +kernel
theorem dX10_stepsOf_13 : decode cX10_stepsOf 13 = .ok (.iload_n 3, 1) := by decide +kernel
theorem dX10_stepsOf_14 : decode cX10_stepsOf 14 = .ok (.iconst 1, 1) := by decide +kernel
theorem dX10_stepsOf_15 : decode cX10_stepsOf 15 = .ok (.iadd, 1) := by decide +kernel
theorem dX10_stepsOf_16 : decode cX10_stepsOf 16 = .ok (.iload_n 2, 1) := by decide +kernel
theorem dX10_stepsOf_17 : decode cX10_stepsOf 17 = .ok (.iadd, 1) := by decide +kernel
theorem dX10_stepsOf_18 : decode cX10_stepsOf 18 = .ok (.iaload, 1) := by decide +kernel
theorem dX10_stepsOf_19 : decode cX10_stepsOf 19 = .ok (.aload_n 0, 1) := by decide +kernel
theorem dX10_stepsOf_20 : decode cX10_stepsOf 20 = .ok (.getfield 9, 3) := by decide +kernel
theorem dX10_stepsOf_23 : decode cX10_stepsOf 23 = .ok (.iload_n 3, 1) := by decide +kernel
theorem dX10_stepsOf_24 : decode cX10_stepsOf 24 = .ok (.bipush 9, 2) := by decide +kernel
theorem dX10_stepsOf_26 : decode cX10_stepsOf 26 = .ok (.iadd, 1) := by decide +kernel
theorem dX10_stepsOf_27 : decode cX10_stepsOf 27 = .ok (.iload_n 2, 1) := by decide +kernel
theorem dX10_stepsOf_28 : decode cX10_stepsOf 28 = .ok (.iadd, 1) := by decide +kernel
theorem dX10_stepsOf_29 : decode cX10_stepsOf 29 = .ok (.iaload, 1) := by decide +kernel
theorem dX10_stepsOf_30 : decode cX10_stepsOf 30 = .ok (.iadd, 1) := by decide +kernel
theorem dX10_stepsOf_31 : decode cX10_stepsOf 31 = .ok (.bipush 100, 2) := by decide +kernel
theorem dX10_stepsOf_33 : decode cX10_stepsOf 33 = .ok (.idiv, 1) := by decide +kernel
theorem dX10_stepsOf_34 : decode cX10_stepsOf 34 = .ok (.ireturn, 1) := by decide +kernel
theorem dX10_hinders_0 : decode cX10_hinders 0 = .ok (.aload_n 0, 1) := by decide +kernel
theorem dX10_hinders_1 : decode cX10_hinders 1 = .ok (.getfield 9, 3) := by decide +kernel
theorem dX10_hinders_4 : decode cX10_hinders 4 = .ok (.sipush 409, 3) := by decide +kernel
theorem dX10_hinders_7 : decode cX10_hinders 7 = .ok (.bipush 17, 2) := by decide +kernel
theorem dX10_hinders_9 : decode cX10_hinders 9 = .ok (.iload_n 1, 1) := by decide +kernel
theorem dX10_hinders_10 : decode cX10_hinders 10 = .ok (.imul, 1) := by decide +kernel
theorem dX10_hinders_11 : decode cX10_hinders 11 = .ok (.iadd, 1) := by decide +kernel
theorem dX10_hinders_12 : decode cX10_hinders 12 = .ok (.iaload, 1) := by decide +kernel
theorem dX10_hinders_13 : decode cX10_hinders 13 = .ok (.istore_n 2, 1) := by decide +kernel
theorem dX10_hinders_14 : decode cX10_hinders 14 = .ok (.aload_n 0, 1) := by decide +kernel
theorem dX10_hinders_15 : decode cX10_hinders 15 = .ok (.getfield 9, 3) := by decide +kernel
theorem dX10_hinders_18 : decode cX10_hinders 18 = .ok (.iconst 3, 1) := by decide +kernel
theorem dX10_hinders_19 : decode cX10_hinders 19 = .ok (.iaload, 1) := by decide +kernel
theorem dX10_hinders_20 : decode cX10_hinders 20 = .ok (.bipush 20, 2) := by decide +kernel
theorem dX10_hinders_22 : decode cX10_hinders 22 = .ok (.if_icmp .ne 5, 3) := by decide +kernel
theorem dX10_hinders_25 : decode cX10_hinders 25 = .ok (.iconst 2, 1) := by decide +kernel
theorem dX10_hinders_26 : decode cX10_hinders 26 = .ok (.ireturn, 1) := by decide +kernel
theorem dX10_hinders_27 : decode cX10_hinders 27 = .ok (.aload_n 0, 1) := by decide +kernel
theorem dX10_hinders_28 : decode cX10_hinders 28 = .ok (.iload_n 2, 1) := by decide +kernel
theorem dX10_hinders_29 : decode cX10_hinders 29 = .ok (.iconst 4, 1) := by decide +kernel
theorem dX10_hinders_30 : decode cX10_hinders 30 = .ok (.invokevirtual 93, 3) := by decide +kernel
theorem dX10_hinders_33 : decode cX10_hinders 33 = .ok (.ifCond .ne 5, 3) := by decide +kernel
theorem dX10_hinders_36 : decode cX10_hinders 36 = .ok (.iconst 3, 1) := by decide +kernel
theorem dX10_hinders_37 : decode cX10_hinders 37 = .ok (.ireturn, 1) := by decide +kernel
theorem dX10_hinders_38 : decode cX10_hinders 38 = .ok (.iconst 0, 1) := by decide +kernel
theorem dX10_hinders_39 : decode cX10_hinders 39 = .ok (.istore_n 3, 1) := by decide +kernel
theorem dX10_hinders_40 : decode cX10_hinders 40 = .ok (.iconst (-1), 1) := by decide +kernel
theorem dX10_hinders_41 : decode cX10_hinders 41 = .ok (.istore 4, 2) := by decide +kernel
theorem dX10_hinders_43 : decode cX10_hinders 43 = .ok (.aload_n 0, 1) := by decide +kernel
theorem dX10_hinders_44 : decode cX10_hinders 44 = .ok (.getfield 9, 3) := by decide +kernel
theorem dX10_hinders_47 : decode cX10_hinders 47 = .ok (.iconst 0, 1) := by decide +kernel
theorem dX10_hinders_48 : decode cX10_hinders 48 = .ok (.iaload, 1) := by decide +kernel
theorem dX10_hinders_49 : decode cX10_hinders 49 = .ok (.iconst 1, 1) := by decide +kernel
theorem dX10_hinders_50 : decode cX10_hinders 50 = .ok (.isub, 1) := by decide +kernel
theorem dX10_hinders_51 : decode cX10_hinders 51 = .ok (.istore 5, 2) := by decide +kernel
theorem dX10_hinders_53 : decode cX10_hinders 53 = .ok (.iload 5, 2) := by decide +kernel
theorem dX10_hinders_55 : decode cX10_hinders 55 = .ok (.ifCond .lt 44, 3) := by decide +kernel
theorem dX10_hinders_58 : decode cX10_hinders 58 = .ok (.iload_n 3, 1) := by decide +kernel
theorem dX10_hinders_59 : decode cX10_hinders 59 = .ok (.aload_n 0, 1) := by decide +kernel
theorem dX10_hinders_60 : decode cX10_hinders 60 = .ok (.iload_n 1, 1) := by decide +kernel
theorem dX10_hinders_61 : decode cX10_hinders 61 = .ok (.iload 5, 2) := by decide +kernel
theorem dX10_hinders_63 : decode cX10_hinders 63 = .ok (.invokevirtual 132, 3) := by decide +kernel
theorem dX10_hinders_66 : decode cX10_hinders 66 = .ok (.iadd, 1) := by decide +kernel
theorem dX10_hinders_67 : decode cX10_hinders 67 = .ok (.istore_n 3, 1) := by decide +kernel
theorem dX10_hinders_68 : decode cX10_hinders 68 = .ok (.aload_n 0, 1) := by decide +kernel
theorem dX10_hinders_69 : decode cX10_hinders 69 = .ok (.iload 5, 2) := by decide +kernel
theorem dX10_hinders_71 : decode cX10_hinders 71 = .ok (.invokevirtual 83, 3) := by decide +kernel
theorem dX10_hinders_74 : decode cX10_hinders 74 = .ok (.aload_n 0, 1) := by decide +kernel
theorem dX10_hinders_75 : decode cX10_hinders 75 = .ok (.iload_n 1, 1) := by decide +kernel
theorem dX10_hinders_76 : decode cX10_hinders 76 = .ok (.iload 5, 2) := by decide +kernel
theorem dX10_hinders_78 : decode cX10_hinders 78 = .ok (.invokevirtual 132, 3) := by decide +kernel
theorem dX10_hinders_81 : decode cX10_hinders 81 = .ok (.if_icmp .ge 8, 3) := by decide +kernel
theorem dX10_hinders_84 : decode cX10_hinders 84 = .ok (.iload 5, 2) := by decide +kernel
theorem dX10_hinders_86 : decode cX10_hinders 86 = .ok (.goto 5, 3) := by decide +kernel
theorem dX10_hinders_89 : decode cX10_hinders 89 = .ok (.iload 4, 2) := by decide +kernel
theorem dX10_hinders_91 : decode cX10_hinders 91 = .ok (.istore 4, 2) := by decide +kernel
theorem dX10_hinders_93 : decode cX10_hinders 93 = .ok (.iinc 5 (-1), 3) := by decide +kernel
theorem dX10_hinders_96 : decode cX10_hinders 96 = .ok (.goto (-43), 3) := by decide +kernel
theorem dX10_hinders_99 : decode cX10_hinders 99 = .ok (.iload_n 3, 1) := by decide +kernel
theorem dX10_hinders_100 : decode cX10_hinders 100 = .ok (.aload_n 0, 1) := by decide +kernel
theorem dX10_hinders_101 : decode cX10_hinders 101 = .ok (.iload_n 2, 1) := by decide +kernel
theorem dX10_hinders_102 : decode cX10_hinders 102 = .ok (.iconst 3, 1) := by decide +kernel
theorem dX10_hinders_103 : decode cX10_hinders 103 = .ok (.invokevirtual 93, 3) := by decide +kernel
theorem dX10_hinders_106 : decode cX10_hinders 106 = .ok (.if_icmp .le 5, 3) := by decide +kernel
theorem dX10_hinders_109 : decode cX10_hinders 109 = .ok (.iconst 4, 1) := by decide +kernel
theorem dX10_hinders_110 : decode cX10_hinders 110 = .ok (.ireturn, 1) := by decide +kernel
theorem dX10_hinders_111 : decode cX10_hinders 111 = .ok (.aload_n 0, 1) := by decide +kernel
theorem dX10_hinders_112 : decode cX10_hinders 112 = .ok (.iload 4, 2) := by decide +kernel
theorem dX10_hinders_114 : decode cX10_hinders 114 = .ok (.putfield 135, 3) := by decide +kernel
theorem dX10_hinders_117 : decode cX10_hinders 117 = .ok (.iload 4, 2) := by decide +kernel
theorem dX10_hinders_119 : decode cX10_hinders 119 = .ok (.iconst (-1), 1) := by decide +kernel
theorem dX10_hinders_120 : decode cX10_hinders 120 = .ok (.if_icmp .ne 7, 3) := by decide +kernel
theorem dX10_hinders_123 : decode cX10_hinders 123 = .ok (.iconst 0, 1) := by decide +kernel
theorem dX10_hinders_124 : decode cX10_hinders 124 = .ok (.goto 4, 3) := by decide +kernel
theorem dX10_hinders_127 : decode cX10_hinders 127 = .ok (.iconst 5, 1) := by decide +kernel
theorem dX10_hinders_128 : decode cX10_hinders 128 = .ok (.ireturn, 1) := by decide +kernel
theorem dX10_pumps_0 : decode cX10_pumps 0 = .ok (.iconst 5, 1) := by decide +kernel
theorem dX10_pumps_1 : decode cX10_pumps 1 = .ok (.bipush 46, 2) := by decide +kernel
theorem dX10_pumps_3 : decode cX10_pumps 3 = .ok (.iload_n 1, 1) := by decide +kernel
theorem dX10_pumps_4 : decode cX10_pumps 4 = .ok (.imul, 1) := by decide +kernel
theorem dX10_pumps_5 : decode cX10_pumps 5 = .ok (.iadd, 1) := by decide +kernel
theorem dX10_pumps_6 : decode cX10_pumps 6 = .ok (.istore 4, 2) := by decide +kernel
theorem dX10_pumps_8 : decode cX10_pumps 8 = .ok (.iload_n 2, 1) := by decide +kernel
theorem dX10_pumps_9 : decode cX10_pumps 9 = .ok (.istore 5, 2) := by decide +kernel
theorem dX10_pumps_11 : decode cX10_pumps 11 = .ok (.iload 5, 2) := by decide +kernel
theorem dX10_pumps_13 : decode cX10_pumps 13 = .ok (.ifCond .le 127, 3) := by decide +kernel
theorem dX10_pumps_16 : decode cX10_pumps 16 = .ok (.aload_n 0, 1) := by decide +kernel
theorem dX10_pumps_17 : decode cX10_pumps 17 = .ok (.getfield 9, 3) := by decide +kernel
theorem dX10_pumps_20 : decode cX10_pumps 20 = .ok (.iload 4, 2) := by decide +kernel
theorem dX10_pumps_22 : decode cX10_pumps 22 = .ok (.bipush 7, 2) := by decide +kernel
theorem dX10_pumps_24 : decode cX10_pumps 24 = .ok (.iadd, 1) := by decide +kernel
theorem dX10_pumps_25 : decode cX10_pumps 25 = .ok (.iaload, 1) := by decide +kernel
theorem dX10_pumps_26 : decode cX10_pumps 26 = .ok (.istore 6, 2) := by decide +kernel
theorem dX10_pumps_28 : decode cX10_pumps 28 = .ok (.iload 5, 2) := by decide +kernel
theorem dX10_pumps_30 : decode cX10_pumps 30 = .ok (.aload_n 0, 1) := by decide +kernel
theorem dX10_pumps_31 : decode cX10_pumps 31 = .ok (.getfield 9, 3) := by decide +kernel
theorem dX10_pumps_34 : decode cX10_pumps 34 = .ok (.iload 4, 2) := by decide +kernel
theorem dX10_pumps_36 : decode cX10_pumps 36 = .ok (.bipush 19, 2) := by decide +kernel
theorem dX10_pumps_38 : decode cX10_pumps 38 = .ok (.iadd, 1) := by decide +kernel
theorem dX10_pumps_39 : decode cX10_pumps 39 = .ok (.iaload, 1) := by decide +kernel
theorem dX10_pumps_40 : decode cX10_pumps 40 = .ok (.if_icmp .ge 8, 3) := by decide +kernel
theorem dX10_pumps_43 : decode cX10_pumps 43 = .ok (.iload 5, 2) := by decide +kernel
theorem dX10_pumps_45 : decode cX10_pumps 45 = .ok (.goto 13, 3) := by decide +kernel
theorem dX10_pumps_48 : decode cX10_pumps 48 = .ok (.aload_n 0, 1) := by decide +kernel
theorem dX10_pumps_49 : decode cX10_pumps 49 = .ok (.getfield 9, 3) := by decide +kernel
theorem dX10_pumps_52 : decode cX10_pumps 52 = .ok (.iload 4, 2) := by decide +kernel
theorem dX10_pumps_54 : decode cX10_pumps 54 = .ok (.bipush 19, 2) := by decide +kernel
theorem dX10_pumps_56 : decode cX10_pumps 56 = .ok (.iadd, 1) := by decide +kernel
theorem dX10_pumps_57 : decode cX10_pumps 57 = .ok (.iaload, 1) := by decide +kernel
theorem dX10_pumps_58 : decode cX10_pumps 58 = .ok (.istore 7, 2) := by decide +kernel
theorem dX10_pumps_60 : decode cX10_pumps 60 = .ok (.aload_n 0, 1) := by decide +kernel
theorem dX10_pumps_61 : decode cX10_pumps 61 = .ok (.getfield 9, 3) := by decide +kernel
theorem dX10_pumps_64 : decode cX10_pumps 64 = .ok (.sipush 579, 3) := by decide +kernel
theorem dX10_pumps_67 : decode cX10_pumps 67 = .ok (.bipush 44, 2) := by decide +kernel
theorem dX10_pumps_69 : decode cX10_pumps 69 = .ok (.iload_n 3, 1) := by decide +kernel
theorem dX10_pumps_70 : decode cX10_pumps 70 = .ok (.imul, 1) := by decide +kernel
theorem dX10_pumps_71 : decode cX10_pumps 71 = .ok (.iadd, 1) := by decide +kernel
theorem dX10_pumps_72 : decode cX10_pumps 72 = .ok (.bipush 12, 2) := by decide +kernel
theorem dX10_pumps_74 : decode cX10_pumps 74 = .ok (.iadd, 1) := by decide +kernel
theorem dX10_pumps_75 : decode cX10_pumps 75 = .ok (.iconst 4, 1) := by decide +kernel
theorem dX10_pumps_76 : decode cX10_pumps 76 = .ok (.iload_n 1, 1) := by decide +kernel
theorem dX10_pumps_77 : decode cX10_pumps 77 = .ok (.imul, 1) := by decide +kernel
theorem dX10_pumps_78 : decode cX10_pumps 78 = .ok (.iadd, 1) := by decide +kernel
theorem dX10_pumps_79 : decode cX10_pumps 79 = .ok (.iload 6, 2) := by decide +kernel
theorem dX10_pumps_81 : decode cX10_pumps 81 = .ok (.bipush 25, 2) := by decide +kernel
theorem dX10_pumps_83 : decode cX10_pumps 83 = .ok (.idiv, 1) := by decide +kernel
theorem dX10_pumps_84 : decode cX10_pumps 84 = .ok (.iadd, 1) := by decide +kernel
theorem dX10_pumps_85 : decode cX10_pumps 85 = .ok (.dup2, 1) := by decide +kernel
theorem dX10_pumps_86 : decode cX10_pumps 86 = .ok (.iaload, 1) := by decide +kernel
theorem dX10_pumps_87 : decode cX10_pumps 87 = .ok (.iconst 1, 1) := by decide +kernel
theorem dX10_pumps_88 : decode cX10_pumps 88 = .ok (.iload 6, 2) := by decide +kernel
theorem dX10_pumps_90 : decode cX10_pumps 90 = .ok (.bipush 25, 2) := by decide +kernel
theorem dX10_pumps_92 : decode cX10_pumps 92 = .ok (.irem, 1) := by decide +kernel
theorem dX10_pumps_93 : decode cX10_pumps 93 = .ok (.ishl, 1) := by decide +kernel
theorem dX10_pumps_94 : decode cX10_pumps 94 = .ok (.ior, 1) := by decide +kernel
theorem dX10_pumps_95 : decode cX10_pumps 95 = .ok (.iastore, 1) := by decide +kernel
theorem dX10_pumps_96 : decode cX10_pumps 96 = .ok (.aload_n 0, 1) := by decide +kernel
theorem dX10_pumps_97 : decode cX10_pumps 97 = .ok (.getfield 9, 3) := by decide +kernel
theorem dX10_pumps_100 : decode cX10_pumps 100 = .ok (.iload 4, 2) := by decide +kernel
theorem dX10_pumps_102 : decode cX10_pumps 102 = .ok (.bipush 19, 2) := by decide +kernel
theorem dX10_pumps_104 : decode cX10_pumps 104 = .ok (.iadd, 1) := by decide +kernel
theorem dX10_pumps_105 : decode cX10_pumps 105 = .ok (.dup2, 1) := by decide +kernel
theorem dX10_pumps_106 : decode cX10_pumps 106 = .ok (.iaload, 1) := by decide +kernel
theorem dX10_pumps_107 : decode cX10_pumps 107 = .ok (.iload 7, 2) := by decide +kernel
theorem dX10_pumps_109 : decode cX10_pumps 109 = .ok (.isub, 1) := by decide +kernel
theorem dX10_pumps_110 : decode cX10_pumps 110 = .ok (.iastore, 1) := by decide +kernel
theorem dX10_pumps_111 : decode cX10_pumps 111 = .ok (.iload 5, 2) := by decide +kernel
theorem dX10_pumps_113 : decode cX10_pumps 113 = .ok (.iload 7, 2) := by decide +kernel
theorem dX10_pumps_115 : decode cX10_pumps 115 = .ok (.isub, 1) := by decide +kernel
theorem dX10_pumps_116 : decode cX10_pumps 116 = .ok (.istore 5, 2) := by decide +kernel
theorem dX10_pumps_118 : decode cX10_pumps 118 = .ok (.aload_n 0, 1) := by decide +kernel
theorem dX10_pumps_119 : decode cX10_pumps 119 = .ok (.getfield 9, 3) := by decide +kernel
theorem dX10_pumps_122 : decode cX10_pumps 122 = .ok (.iload 4, 2) := by decide +kernel
theorem dX10_pumps_124 : decode cX10_pumps 124 = .ok (.bipush 19, 2) := by decide +kernel
theorem dX10_pumps_126 : decode cX10_pumps 126 = .ok (.iadd, 1) := by decide +kernel
theorem dX10_pumps_127 : decode cX10_pumps 127 = .ok (.iaload, 1) := by decide +kernel
theorem dX10_pumps_128 : decode cX10_pumps 128 = .ok (.ifCond .ne 9, 3) := by decide +kernel
theorem dX10_pumps_131 : decode cX10_pumps 131 = .ok (.aload_n 0, 1) := by decide +kernel
theorem dX10_pumps_132 : decode cX10_pumps 132 = .ok (.iload_n 1, 1) := by decide +kernel
theorem dX10_pumps_133 : decode cX10_pumps 133 = .ok (.iconst 0, 1) := by decide +kernel
theorem dX10_pumps_134 : decode cX10_pumps 134 = .ok (.invokevirtual 86, 3) := by decide +kernel
theorem dX10_pumps_137 : decode cX10_pumps 137 = .ok (.goto (-126), 3) := by decide +kernel
theorem dX10_pumps_140 : decode cX10_pumps 140 = .ok (.aload_n 0, 1) := by decide +kernel
theorem dX10_pumps_141 : decode cX10_pumps 141 = .ok (.getfield 9, 3) := by decide +kernel
theorem dX10_pumps_144 : decode cX10_pumps 144 = .ok (.iload 4, 2) := by decide +kernel
theorem dX10_pumps_146 : decode cX10_pumps 146 = .ok (.iconst 5, 1) := by decide +kernel
theorem dX10_pumps_147 : decode cX10_pumps 147 = .ok (.iadd, 1) := by decide +kernel
theorem dX10_pumps_148 : decode cX10_pumps 148 = .ok (.dup2, 1) := by decide +kernel
theorem dX10_pumps_149 : decode cX10_pumps 149 = .ok (.iaload, 1) := by decide +kernel
theorem dX10_pumps_150 : decode cX10_pumps 150 = .ok (.iload_n 2, 1) := by decide +kernel
theorem dX10_pumps_151 : decode cX10_pumps 151 = .ok (.iadd, 1) := by decide +kernel
theorem dX10_pumps_152 : decode cX10_pumps 152 = .ok (.iastore, 1) := by decide +kernel
theorem dX10_pumps_153 : decode cX10_pumps 153 = .ok (.aload_n 0, 1) := by decide +kernel
theorem dX10_pumps_154 : decode cX10_pumps 154 = .ok (.getfield 9, 3) := by decide +kernel
theorem dX10_pumps_157 : decode cX10_pumps 157 = .ok (.sipush 579, 3) := by decide +kernel
theorem dX10_pumps_160 : decode cX10_pumps 160 = .ok (.bipush 44, 2) := by decide +kernel
theorem dX10_pumps_162 : decode cX10_pumps 162 = .ok (.iload_n 3, 1) := by decide +kernel
theorem dX10_pumps_163 : decode cX10_pumps 163 = .ok (.imul, 1) := by decide +kernel
theorem dX10_pumps_164 : decode cX10_pumps 164 = .ok (.iadd, 1) := by decide +kernel
theorem dX10_pumps_165 : decode cX10_pumps 165 = .ok (.iconst 2, 1) := by decide +kernel
theorem dX10_pumps_166 : decode cX10_pumps 166 = .ok (.iadd, 1) := by decide +kernel
theorem dX10_pumps_167 : decode cX10_pumps 167 = .ok (.iload_n 1, 1) := by decide +kernel
theorem dX10_pumps_168 : decode cX10_pumps 168 = .ok (.iadd, 1) := by decide +kernel
theorem dX10_pumps_169 : decode cX10_pumps 169 = .ok (.dup2, 1) := by decide +kernel
theorem dX10_pumps_170 : decode cX10_pumps 170 = .ok (.iaload, 1) := by decide +kernel
theorem dX10_pumps_171 : decode cX10_pumps 171 = .ok (.iload_n 2, 1) := by decide +kernel
theorem dX10_pumps_172 : decode cX10_pumps 172 = .ok (.iadd, 1) := by decide +kernel
theorem dX10_pumps_173 : decode cX10_pumps 173 = .ok (.iastore, 1) := by decide +kernel
theorem dX10_pumps_174 : decode cX10_pumps 174 = .ok (.return_, 1) := by decide +kernel
theorem dX10_mixes_0 : decode cX10_mixes 0 = .ok (.aload_n 0, 1) := by decide +kernel
theorem dX10_mixes_1 : decode cX10_mixes 1 = .ok (.getfield 9, 3) := by decide +kernel
theorem dX10_mixes_4 : decode cX10_mixes 4 = .ok (.iconst 3, 1) := by decide +kernel
theorem dX10_mixes_5 : decode cX10_mixes 5 = .ok (.iaload, 1) := by decide +kernel
theorem dX10_mixes_6 : decode cX10_mixes 6 = .ok (.istore_n 2, 1) := by decide +kernel
theorem dX10_mixes_7 : decode cX10_mixes 7 = .ok (.sipush 579, 3) := by decide +kernel
theorem dX10_mixes_10 : decode cX10_mixes 10 = .ok (.bipush 44, 2) := by decide +kernel
theorem dX10_mixes_12 : decode cX10_mixes 12 = .ok (.iload_n 2, 1) := by decide +kernel
theorem dX10_mixes_13 : decode cX10_mixes 13 = .ok (.imul, 1) := by decide +kernel
theorem dX10_mixes_14 : decode cX10_mixes 14 = .ok (.iadd, 1) := by decide +kernel
theorem dX10_mixes_15 : decode cX10_mixes 15 = .ok (.istore_n 3, 1) := by decide +kernel
theorem dX10_mixes_16 : decode cX10_mixes 16 = .ok (.iconst 0, 1) := by decide +kernel
theorem dX10_mixes_17 : decode cX10_mixes 17 = .ok (.istore 4, 2) := by decide +kernel
theorem dX10_mixes_19 : decode cX10_mixes 19 = .ok (.iload 4, 2) := by decide +kernel
theorem dX10_mixes_21 : decode cX10_mixes 21 = .ok (.bipush 44, 2) := by decide +kernel
theorem dX10_mixes_23 : decode cX10_mixes 23 = .ok (.if_icmp .ge 19, 3) := by decide +kernel
theorem dX10_mixes_26 : decode cX10_mixes 26 = .ok (.aload_n 0, 1) := by decide +kernel
theorem dX10_mixes_27 : decode cX10_mixes 27 = .ok (.getfield 9, 3) := by decide +kernel
theorem dX10_mixes_30 : decode cX10_mixes 30 = .ok (.iload_n 3, 1) := by decide +kernel
theorem dX10_mixes_31 : decode cX10_mixes 31 = .ok (.iload 4, 2) := by decide +kernel
theorem dX10_mixes_33 : decode cX10_mixes 33 = .ok (.iadd, 1) := by decide +kernel
theorem dX10_mixes_34 : decode cX10_mixes 34 = .ok (.iconst 0, 1) := by decide +kernel
theorem dX10_mixes_35 : decode cX10_mixes 35 = .ok (.iastore, 1) := by decide +kernel
theorem dX10_mixes_36 : decode cX10_mixes 36 = .ok (.iinc 4 1, 3) := by decide +kernel
theorem dX10_mixes_39 : decode cX10_mixes 39 = .ok (.goto (-20), 3) := by decide +kernel
theorem dX10_mixes_42 : decode cX10_mixes 42 = .ok (.aload_n 0, 1) := by decide +kernel
theorem dX10_mixes_43 : decode cX10_mixes 43 = .ok (.getfield 9, 3) := by decide +kernel
theorem dX10_mixes_46 : decode cX10_mixes 46 = .ok (.sipush 409, 3) := by decide +kernel
theorem dX10_mixes_49 : decode cX10_mixes 49 = .ok (.bipush 17, 2) := by decide +kernel
theorem dX10_mixes_51 : decode cX10_mixes 51 = .ok (.iload_n 1, 1) := by decide +kernel
theorem dX10_mixes_52 : decode cX10_mixes 52 = .ok (.imul, 1) := by decide +kernel
theorem dX10_mixes_53 : decode cX10_mixes 53 = .ok (.iadd, 1) := by decide +kernel
theorem dX10_mixes_54 : decode cX10_mixes 54 = .ok (.iaload, 1) := by decide +kernel
theorem dX10_mixes_55 : decode cX10_mixes 55 = .ok (.istore 4, 2) := by decide +kernel
theorem dX10_mixes_57 : decode cX10_mixes 57 = .ok (.aload_n 0, 1) := by decide +kernel
theorem dX10_mixes_58 : decode cX10_mixes 58 = .ok (.getfield 9, 3) := by decide +kernel
theorem dX10_mixes_61 : decode cX10_mixes 61 = .ok (.iload_n 3, 1) := by decide +kernel
theorem dX10_mixes_62 : decode cX10_mixes 62 = .ok (.iconst 0, 1) := by decide +kernel
theorem dX10_mixes_63 : decode cX10_mixes 63 = .ok (.iadd, 1) := by decide +kernel
theorem dX10_mixes_64 : decode cX10_mixes 64 = .ok (.iload_n 1, 1) := by decide +kernel
theorem dX10_mixes_65 : decode cX10_mixes 65 = .ok (.iastore, 1) := by decide +kernel
theorem dX10_mixes_66 : decode cX10_mixes 66 = .ok (.aload_n 0, 1) := by decide +kernel
theorem dX10_mixes_67 : decode cX10_mixes 67 = .ok (.getfield 9, 3) := by decide +kernel
theorem dX10_mixes_70 : decode cX10_mixes 70 = .ok (.iload_n 3, 1) := by decide +kernel
theorem dX10_mixes_71 : decode cX10_mixes 71 = .ok (.iconst 1, 1) := by decide +kernel
theorem dX10_mixes_72 : decode cX10_mixes 72 = .ok (.iadd, 1) := by decide +kernel
theorem dX10_mixes_73 : decode cX10_mixes 73 = .ok (.iload 4, 2) := by decide +kernel
theorem dX10_mixes_75 : decode cX10_mixes 75 = .ok (.iastore, 1) := by decide +kernel
theorem dX10_mixes_76 : decode cX10_mixes 76 = .ok (.aload_n 0, 1) := by decide +kernel
theorem dX10_mixes_77 : decode cX10_mixes 77 = .ok (.getfield 9, 3) := by decide +kernel
theorem dX10_mixes_80 : decode cX10_mixes 80 = .ok (.iconst 3, 1) := by decide +kernel
theorem dX10_mixes_81 : decode cX10_mixes 81 = .ok (.dup2, 1) := by decide +kernel
theorem dX10_mixes_82 : decode cX10_mixes 82 = .ok (.iaload, 1) := by decide +kernel
theorem dX10_mixes_83 : decode cX10_mixes 83 = .ok (.iconst 1, 1) := by decide +kernel
theorem dX10_mixes_84 : decode cX10_mixes 84 = .ok (.iadd, 1) := by decide +kernel
theorem dX10_mixes_85 : decode cX10_mixes 85 = .ok (.iastore, 1) := by decide +kernel
theorem dX10_mixes_86 : decode cX10_mixes 86 = .ok (.aload_n 0, 1) := by decide +kernel
theorem dX10_mixes_87 : decode cX10_mixes 87 = .ok (.getfield 9, 3) := by decide +kernel
theorem dX10_mixes_90 : decode cX10_mixes 90 = .ok (.sipush 373, 3) := by decide +kernel
theorem dX10_mixes_93 : decode cX10_mixes 93 = .ok (.bipush 6, 2) := by decide +kernel
theorem dX10_mixes_95 : decode cX10_mixes 95 = .ok (.iload 4, 2) := by decide +kernel
theorem dX10_mixes_97 : decode cX10_mixes 97 = .ok (.imul, 1) := by decide +kernel
theorem dX10_mixes_98 : decode cX10_mixes 98 = .ok (.iadd, 1) := by decide +kernel
theorem dX10_mixes_99 : decode cX10_mixes 99 = .ok (.iconst 4, 1) := by decide +kernel
theorem dX10_mixes_100 : decode cX10_mixes 100 = .ok (.iadd, 1) := by decide +kernel
theorem dX10_mixes_101 : decode cX10_mixes 101 = .ok (.dup2, 1) := by decide +kernel
theorem dX10_mixes_102 : decode cX10_mixes 102 = .ok (.iaload, 1) := by decide +kernel
theorem dX10_mixes_103 : decode cX10_mixes 103 = .ok (.iconst 1, 1) := by decide +kernel
theorem dX10_mixes_104 : decode cX10_mixes 104 = .ok (.isub, 1) := by decide +kernel
theorem dX10_mixes_105 : decode cX10_mixes 105 = .ok (.iastore, 1) := by decide +kernel
theorem dX10_mixes_106 : decode cX10_mixes 106 = .ok (.aload_n 0, 1) := by decide +kernel
theorem dX10_mixes_107 : decode cX10_mixes 107 = .ok (.getfield 9, 3) := by decide +kernel
theorem dX10_mixes_110 : decode cX10_mixes 110 = .ok (.sipush 373, 3) := by decide +kernel
theorem dX10_mixes_113 : decode cX10_mixes 113 = .ok (.bipush 6, 2) := by decide +kernel
theorem dX10_mixes_115 : decode cX10_mixes 115 = .ok (.iload 4, 2) := by decide +kernel
theorem dX10_mixes_117 : decode cX10_mixes 117 = .ok (.imul, 1) := by decide +kernel
theorem dX10_mixes_118 : decode cX10_mixes 118 = .ok (.iadd, 1) := by decide +kernel
theorem dX10_mixes_119 : decode cX10_mixes 119 = .ok (.iconst 5, 1) := by decide +kernel
theorem dX10_mixes_120 : decode cX10_mixes 120 = .ok (.iadd, 1) := by decide +kernel
theorem dX10_mixes_121 : decode cX10_mixes 121 = .ok (.dup2, 1) := by decide +kernel
theorem dX10_mixes_122 : decode cX10_mixes 122 = .ok (.iaload, 1) := by decide +kernel
theorem dX10_mixes_123 : decode cX10_mixes 123 = .ok (.iconst 1, 1) := by decide +kernel
theorem dX10_mixes_124 : decode cX10_mixes 124 = .ok (.iadd, 1) := by decide +kernel
theorem dX10_mixes_125 : decode cX10_mixes 125 = .ok (.iastore, 1) := by decide +kernel
theorem dX10_mixes_126 : decode cX10_mixes 126 = .ok (.iconst 0, 1) := by decide +kernel
theorem dX10_mixes_127 : decode cX10_mixes 127 = .ok (.istore 5, 2) := by decide +kernel
theorem dX10_mixes_129 : decode cX10_mixes 129 = .ok (.iload 5, 2) := by decide +kernel
theorem dX10_mixes_131 : decode cX10_mixes 131 = .ok (.aload_n 0, 1) := by decide +kernel
theorem dX10_mixes_132 : decode cX10_mixes 132 = .ok (.getfield 9, 3) := by decide +kernel
theorem dX10_mixes_135 : decode cX10_mixes 135 = .ok (.iconst 0, 1) := by decide +kernel
theorem dX10_mixes_136 : decode cX10_mixes 136 = .ok (.iaload, 1) := by decide +kernel
theorem dX10_mixes_137 : decode cX10_mixes 137 = .ok (.if_icmp .ge 85, 3) := by decide +kernel
theorem dX10_mixes_140 : decode cX10_mixes 140 = .ok (.aload_n 0, 1) := by decide +kernel
theorem dX10_mixes_141 : decode cX10_mixes 141 = .ok (.getfield 9, 3) := by decide +kernel
theorem dX10_mixes_144 : decode cX10_mixes 144 = .ok (.sipush 409, 3) := by decide +kernel
theorem dX10_mixes_147 : decode cX10_mixes 147 = .ok (.bipush 17, 2) := by decide +kernel
theorem dX10_mixes_149 : decode cX10_mixes 149 = .ok (.iload_n 1, 1) := by decide +kernel
theorem dX10_mixes_150 : decode cX10_mixes 150 = .ok (.imul, 1) := by decide +kernel
theorem dX10_mixes_151 : decode cX10_mixes 151 = .ok (.iadd, 1) := by decide +kernel
theorem dX10_mixes_152 : decode cX10_mixes 152 = .ok (.iconst 1, 1) := by decide +kernel
theorem dX10_mixes_153 : decode cX10_mixes 153 = .ok (.iadd, 1) := by decide +kernel
theorem dX10_mixes_154 : decode cX10_mixes 154 = .ok (.iload 5, 2) := by decide +kernel
theorem dX10_mixes_156 : decode cX10_mixes 156 = .ok (.iadd, 1) := by decide +kernel
theorem dX10_mixes_157 : decode cX10_mixes 157 = .ok (.iaload, 1) := by decide +kernel
theorem dX10_mixes_158 : decode cX10_mixes 158 = .ok (.aload_n 0, 1) := by decide +kernel
theorem dX10_mixes_159 : decode cX10_mixes 159 = .ok (.getfield 9, 3) := by decide +kernel
theorem dX10_mixes_162 : decode cX10_mixes 162 = .ok (.sipush 409, 3) := by decide +kernel
theorem dX10_mixes_165 : decode cX10_mixes 165 = .ok (.bipush 17, 2) := by decide +kernel
theorem dX10_mixes_167 : decode cX10_mixes 167 = .ok (.iload_n 1, 1) := by decide +kernel
theorem dX10_mixes_168 : decode cX10_mixes 168 = .ok (.imul, 1) := by decide +kernel
theorem dX10_mixes_169 : decode cX10_mixes 169 = .ok (.iadd, 1) := by decide +kernel
theorem dX10_mixes_170 : decode cX10_mixes 170 = .ok (.bipush 9, 2) := by decide +kernel
theorem dX10_mixes_172 : decode cX10_mixes 172 = .ok (.iadd, 1) := by decide +kernel
theorem dX10_mixes_173 : decode cX10_mixes 173 = .ok (.iload 5, 2) := by decide +kernel
theorem dX10_mixes_175 : decode cX10_mixes 175 = .ok (.iadd, 1) := by decide +kernel
theorem dX10_mixes_176 : decode cX10_mixes 176 = .ok (.iaload, 1) := by decide +kernel
theorem dX10_mixes_177 : decode cX10_mixes 177 = .ok (.iadd, 1) := by decide +kernel
theorem dX10_mixes_178 : decode cX10_mixes 178 = .ok (.istore 6, 2) := by decide +kernel
theorem dX10_mixes_180 : decode cX10_mixes 180 = .ok (.aload_n 0, 1) := by decide +kernel
theorem dX10_mixes_181 : decode cX10_mixes 181 = .ok (.iload 5, 2) := by decide +kernel
theorem dX10_mixes_183 : decode cX10_mixes 183 = .ok (.iload 6, 2) := by decide +kernel
theorem dX10_mixes_185 : decode cX10_mixes 185 = .ok (.bipush 100, 2) := by decide +kernel
theorem dX10_mixes_187 : decode cX10_mixes 187 = .ok (.idiv, 1) := by decide +kernel
theorem dX10_mixes_188 : decode cX10_mixes 188 = .ok (.iload_n 2, 1) := by decide +kernel
theorem dX10_mixes_189 : decode cX10_mixes 189 = .ok (.invokevirtual 138, 3) := by decide +kernel
theorem dX10_mixes_192 : decode cX10_mixes 192 = .ok (.aload_n 0, 1) := by decide +kernel
theorem dX10_mixes_193 : decode cX10_mixes 193 = .ok (.getfield 9, 3) := by decide +kernel
theorem dX10_mixes_196 : decode cX10_mixes 196 = .ok (.sipush 409, 3) := by decide +kernel
theorem dX10_mixes_199 : decode cX10_mixes 199 = .ok (.bipush 17, 2) := by decide +kernel
theorem dX10_mixes_201 : decode cX10_mixes 201 = .ok (.iload_n 1, 1) := by decide +kernel
theorem dX10_mixes_202 : decode cX10_mixes 202 = .ok (.imul, 1) := by decide +kernel
theorem dX10_mixes_203 : decode cX10_mixes 203 = .ok (.iadd, 1) := by decide +kernel
theorem dX10_mixes_204 : decode cX10_mixes 204 = .ok (.bipush 9, 2) := by decide +kernel
theorem dX10_mixes_206 : decode cX10_mixes 206 = .ok (.iadd, 1) := by decide +kernel
theorem dX10_mixes_207 : decode cX10_mixes 207 = .ok (.iload 5, 2) := by decide +kernel
theorem dX10_mixes_209 : decode cX10_mixes 209 = .ok (.iadd, 1) := by decide +kernel
theorem dX10_mixes_210 : decode cX10_mixes 210 = .ok (.iload 6, 2) := by decide +kernel
theorem dX10_mixes_212 : decode cX10_mixes 212 = .ok (.bipush 100, 2) := by decide +kernel
theorem dX10_mixes_214 : decode cX10_mixes 214 = .ok (.irem, 1) := by decide +kernel
theorem dX10_mixes_215 : decode cX10_mixes 215 = .ok (.iastore, 1) := by decide +kernel
theorem dX10_mixes_216 : decode cX10_mixes 216 = .ok (.iinc 5 1, 3) := by decide +kernel
theorem dX10_mixes_219 : decode cX10_mixes 219 = .ok (.goto (-90), 3) := by decide +kernel
theorem dX10_mixes_222 : decode cX10_mixes 222 = .ok (.iload_n 2, 1) := by decide +kernel
theorem dX10_mixes_223 : decode cX10_mixes 223 = .ok (.ireturn, 1) := by decide +kernel
theorem dX10_mix_0 : decode cX10_mix 0 = .ok (.aload_n 0, 1) := by decide +kernel
theorem dX10_mix_1 : decode cX10_mix 1 = .ok (.iload_n 1, 1) := by decide +kernel
theorem dX10_mix_2 : decode cX10_mix 2 = .ok (.invokevirtual 123, 3) := by decide +kernel
theorem dX10_mix_5 : decode cX10_mix 5 = .ok (.ifCond .ne 9, 3) := by decide +kernel
theorem dX10_mix_8 : decode cX10_mix 8 = .ok (.aload_n 0, 1) := by decide +kernel
theorem dX10_mix_9 : decode cX10_mix 9 = .ok (.iconst 1, 1) := by decide +kernel
theorem dX10_mix_10 : decode cX10_mix 10 = .ok (.invokevirtual 48, 3) := by decide +kernel
theorem dX10_mix_13 : decode cX10_mix 13 = .ok (.ireturn, 1) := by decide +kernel
theorem dX10_mix_14 : decode cX10_mix 14 = .ok (.aload_n 0, 1) := by decide +kernel
theorem dX10_mix_15 : decode cX10_mix 15 = .ok (.iload_n 1, 1) := by decide +kernel
theorem dX10_mix_16 : decode cX10_mix 16 = .ok (.invokevirtual 142, 3) := by decide +kernel
theorem dX10_mix_19 : decode cX10_mix 19 = .ok (.istore_n 2, 1) := by decide +kernel
theorem dX10_mix_20 : decode cX10_mix 20 = .ok (.iload_n 2, 1) := by decide +kernel
theorem dX10_mix_21 : decode cX10_mix 21 = .ok (.ifCond .eq 18, 3) := by decide +kernel
theorem dX10_mix_24 : decode cX10_mix 24 = .ok (.aload_n 0, 1) := by decide +kernel
theorem dX10_mix_25 : decode cX10_mix 25 = .ok (.aload_n 0, 1) := by decide +kernel
theorem dX10_mix_26 : decode cX10_mix 26 = .ok (.getfield 135, 3) := by decide +kernel
theorem dX10_mix_29 : decode cX10_mix 29 = .ok (.putfield 145, 3) := by decide +kernel
theorem dX10_mix_32 : decode cX10_mix 32 = .ok (.aload_n 0, 1) := by decide +kernel
theorem dX10_mix_33 : decode cX10_mix 33 = .ok (.iload_n 2, 1) := by decide +kernel
theorem dX10_mix_34 : decode cX10_mix 34 = .ok (.iconst 2, 1) := by decide +kernel
theorem dX10_mix_35 : decode cX10_mix 35 = .ok (.invokevirtual 80, 3) := by decide +kernel
theorem dX10_mix_38 : decode cX10_mix 38 = .ok (.ireturn, 1) := by decide +kernel
theorem dX10_mix_39 : decode cX10_mix 39 = .ok (.aload_n 0, 1) := by decide +kernel
theorem dX10_mix_40 : decode cX10_mix 40 = .ok (.invokevirtual 63, 3) := by decide +kernel
theorem dX10_mix_43 : decode cX10_mix 43 = .ok (.aload_n 0, 1) := by decide +kernel
theorem dX10_mix_44 : decode cX10_mix 44 = .ok (.aload_n 0, 1) := by decide +kernel
theorem dX10_mix_45 : decode cX10_mix 45 = .ok (.iload_n 1, 1) := by decide +kernel
theorem dX10_mix_46 : decode cX10_mix 46 = .ok (.invokevirtual 148, 3) := by decide +kernel
theorem dX10_mix_49 : decode cX10_mix 49 = .ok (.invokevirtual 66, 3) := by decide +kernel
theorem dX10_mix_52 : decode cX10_mix 52 = .ok (.ireturn, 1) := by decide +kernel
theorem dX10_possible_0 : decode cX10_possible 0 = .ok (.aload_n 0, 1) := by decide +kernel
theorem dX10_possible_1 : decode cX10_possible 1 = .ok (.iload_n 1, 1) := by decide +kernel
theorem dX10_possible_2 : decode cX10_possible 2 = .ok (.invokevirtual 123, 3) := by decide +kernel
theorem dX10_possible_5 : decode cX10_possible 5 = .ok (.ifCond .ne 9, 3) := by decide +kernel
theorem dX10_possible_8 : decode cX10_possible 8 = .ok (.aload_n 0, 1) := by decide +kernel
theorem dX10_possible_9 : decode cX10_possible 9 = .ok (.iconst 1, 1) := by decide +kernel
theorem dX10_possible_10 : decode cX10_possible 10 = .ok (.invokevirtual 48, 3) := by decide +kernel
theorem dX10_possible_13 : decode cX10_possible 13 = .ok (.ireturn, 1) := by decide +kernel
theorem dX10_possible_14 : decode cX10_possible 14 = .ok (.aload_n 0, 1) := by decide +kernel
theorem dX10_possible_15 : decode cX10_possible 15 = .ok (.getfield 9, 3) := by decide +kernel
theorem dX10_possible_18 : decode cX10_possible 18 = .ok (.iconst 0, 1) := by decide +kernel
theorem dX10_possible_19 : decode cX10_possible 19 = .ok (.aload_n 0, 1) := by decide +kernel
theorem dX10_possible_20 : decode cX10_possible 20 = .ok (.getfield 19, 3) := by decide +kernel
theorem dX10_possible_23 : decode cX10_possible 23 = .ok (.iconst 0, 1) := by decide +kernel
theorem dX10_possible_24 : decode cX10_possible 24 = .ok (.invokestatic 55, 3) := by decide +kernel
theorem dX10_possible_27 : decode cX10_possible 27 = .ok (.iconst 0, 1) := by decide +kernel
theorem dX10_possible_28 : decode cX10_possible 28 = .ok (.istore_n 2, 1) := by decide +kernel
theorem dX10_possible_29 : decode cX10_possible 29 = .ok (.aload_n 0, 1) := by decide +kernel
theorem dX10_possible_30 : decode cX10_possible 30 = .ok (.iload_n 1, 1) := by decide +kernel
theorem dX10_possible_31 : decode cX10_possible 31 = .ok (.invokevirtual 142, 3) := by decide +kernel
theorem dX10_possible_34 : decode cX10_possible 34 = .ok (.ifCond .ne 15, 3) := by decide +kernel
theorem dX10_possible_37 : decode cX10_possible 37 = .ok (.aload_n 0, 1) := by decide +kernel
theorem dX10_possible_38 : decode cX10_possible 38 = .ok (.iload_n 1, 1) := by decide +kernel
theorem dX10_possible_39 : decode cX10_possible 39 = .ok (.invokevirtual 148, 3) := by decide +kernel
theorem dX10_possible_42 : decode cX10_possible 42 = .ok (.istore_n 3, 1) := by decide +kernel
theorem dX10_possible_43 : decode cX10_possible 43 = .ok (.iinc 2 1, 3) := by decide +kernel
theorem dX10_possible_46 : decode cX10_possible 46 = .ok (.goto (-17), 3) := by decide +kernel
theorem dX10_possible_49 : decode cX10_possible 49 = .ok (.aload_n 0, 1) := by decide +kernel
theorem dX10_possible_50 : decode cX10_possible 50 = .ok (.getfield 19, 3) := by decide +kernel
theorem dX10_possible_53 : decode cX10_possible 53 = .ok (.iconst 0, 1) := by decide +kernel
theorem dX10_possible_54 : decode cX10_possible 54 = .ok (.aload_n 0, 1) := by decide +kernel
theorem dX10_possible_55 : decode cX10_possible 55 = .ok (.getfield 9, 3) := by decide +kernel
theorem dX10_possible_58 : decode cX10_possible 58 = .ok (.iconst 0, 1) := by decide +kernel
theorem dX10_possible_59 : decode cX10_possible 59 = .ok (.invokestatic 55, 3) := by decide +kernel
theorem dX10_possible_62 : decode cX10_possible 62 = .ok (.aload_n 0, 1) := by decide +kernel
theorem dX10_possible_63 : decode cX10_possible 63 = .ok (.iload_n 2, 1) := by decide +kernel
theorem dX10_possible_64 : decode cX10_possible 64 = .ok (.invokevirtual 66, 3) := by decide +kernel
theorem dX10_possible_67 : decode cX10_possible 67 = .ok (.ireturn, 1) := by decide +kernel
theorem dX10_refusal_0 : decode cX10_refusal 0 = .ok (.aload_n 0, 1) := by decide +kernel
theorem dX10_refusal_1 : decode cX10_refusal 1 = .ok (.getfield 45, 3) := by decide +kernel
theorem dX10_refusal_4 : decode cX10_refusal 4 = .ok (.ifCond .ne 11, 3) := by decide +kernel
theorem dX10_refusal_7 : decode cX10_refusal 7 = .ok (.aload_n 0, 1) := by decide +kernel
theorem dX10_refusal_8 : decode cX10_refusal 8 = .ok (.iconst 1, 1) := by decide +kernel
theorem dX10_refusal_9 : decode cX10_refusal 9 = .ok (.invokevirtual 48, 3) := by decide +kernel
theorem dX10_refusal_12 : decode cX10_refusal 12 = .ok (.goto 11, 3) := by decide +kernel
theorem dX10_refusal_15 : decode cX10_refusal 15 = .ok (.aload_n 0, 1) := by decide +kernel
theorem dX10_refusal_16 : decode cX10_refusal 16 = .ok (.aload_n 0, 1) := by decide +kernel
theorem dX10_refusal_17 : decode cX10_refusal 17 = .ok (.getfield 45, 3) := by decide +kernel
theorem dX10_refusal_20 : decode cX10_refusal 20 = .ok (.invokevirtual 66, 3) := by decide +kernel
theorem dX10_refusal_23 : decode cX10_refusal 23 = .ok (.ireturn, 1) := by decide +kernel
theorem dX10_lacking_0 : decode cX10_lacking 0 = .ok (.aload_n 0, 1) := by decide +kernel
theorem dX10_lacking_1 : decode cX10_lacking 1 = .ok (.getfield 45, 3) := by decide +kernel
theorem dX10_lacking_4 : decode cX10_lacking 4 = .ok (.iconst 5, 1) := by decide +kernel
theorem dX10_lacking_5 : decode cX10_lacking 5 = .ok (.if_icmp .ne 14, 3) := by decide +kernel
theorem dX10_lacking_8 : decode cX10_lacking 8 = .ok (.aload_n 0, 1) := by decide +kernel
theorem dX10_lacking_9 : decode cX10_lacking 9 = .ok (.aload_n 0, 1) := by decide +kernel
theorem dX10_lacking_10 : decode cX10_lacking 10 = .ok (.getfield 145, 3) := by decide +kernel
theorem dX10_lacking_13 : decode cX10_lacking 13 = .ok (.invokevirtual 66, 3) := by decide +kernel
theorem dX10_lacking_16 : decode cX10_lacking 16 = .ok (.goto 8, 3) := by decide +kernel
theorem dX10_lacking_19 : decode cX10_lacking 19 = .ok (.aload_n 0, 1) := by decide +kernel
theorem dX10_lacking_20 : decode cX10_lacking 20 = .ok (.iconst 1, 1) := by decide +kernel
theorem dX10_lacking_21 : decode cX10_lacking 21 = .ok (.invokevirtual 48, 3) := by decide +kernel
theorem dX10_lacking_24 : decode cX10_lacking 24 = .ok (.ireturn, 1) := by decide +kernel
theorem dX10_steps_0 : decode cX10_steps 0 = .ok (.aload_n 0, 1) := by decide +kernel
theorem dX10_steps_1 : decode cX10_steps 1 = .ok (.iload_n 1, 1) := by decide +kernel
theorem dX10_steps_2 : decode cX10_steps 2 = .ok (.invokevirtual 126, 3) := by decide +kernel
theorem dX10_steps_5 : decode cX10_steps 5 = .ok (.ifCond .eq 26, 3) := by decide +kernel
theorem dX10_steps_8 : decode cX10_steps 8 = .ok (.aload_n 0, 1) := by decide +kernel
theorem dX10_steps_9 : decode cX10_steps 9 = .ok (.iload_n 2, 1) := by decide +kernel
theorem dX10_steps_10 : decode cX10_steps 10 = .ok (.invokevirtual 73, 3) := by decide +kernel
theorem dX10_steps_13 : decode cX10_steps 13 = .ok (.ifCond .eq 18, 3) := by decide +kernel
theorem dX10_steps_16 : decode cX10_steps 16 = .ok (.aload_n 0, 1) := by decide +kernel
theorem dX10_steps_17 : decode cX10_steps 17 = .ok (.aload_n 0, 1) := by decide +kernel
theorem dX10_steps_18 : decode cX10_steps 18 = .ok (.iload_n 1, 1) := by decide +kernel
theorem dX10_steps_19 : decode cX10_steps 19 = .ok (.iconst 2, 1) := by decide +kernel
theorem dX10_steps_20 : decode cX10_steps 20 = .ok (.iload_n 2, 1) := by decide +kernel
theorem dX10_steps_21 : decode cX10_steps 21 = .ok (.iadd, 1) := by decide +kernel
theorem dX10_steps_22 : decode cX10_steps 22 = .ok (.invokevirtual 129, 3) := by decide +kernel
theorem dX10_steps_25 : decode cX10_steps 25 = .ok (.invokevirtual 66, 3) := by decide +kernel
theorem dX10_steps_28 : decode cX10_steps 28 = .ok (.goto 8, 3) := by decide +kernel
theorem dX10_steps_31 : decode cX10_steps 31 = .ok (.aload_n 0, 1) := by decide +kernel
theorem dX10_steps_32 : decode cX10_steps 32 = .ok (.iconst 1, 1) := by decide +kernel
theorem dX10_steps_33 : decode cX10_steps 33 = .ok (.invokevirtual 48, 3) := by decide +kernel
theorem dX10_steps_36 : decode cX10_steps 36 = .ok (.ireturn, 1) := by decide +kernel
theorem dX10_allIn_0 : decode cX10_allIn 0 = .ok (.iconst 0, 1) := by decide +kernel
theorem dX10_allIn_1 : decode cX10_allIn 1 = .ok (.istore_n 2, 1) := by decide +kernel
theorem dX10_allIn_2 : decode cX10_allIn 2 = .ok (.iconst 0, 1) := by decide +kernel
theorem dX10_allIn_3 : decode cX10_allIn 3 = .ok (.istore_n 3, 1) := by decide +kernel
theorem dX10_allIn_4 : decode cX10_allIn 4 = .ok (.iload_n 3, 1) := by decide +kernel
theorem dX10_allIn_5 : decode cX10_allIn 5 = .ok (.bipush 8, 2) := by decide +kernel
theorem dX10_allIn_7 : decode cX10_allIn 7 = .ok (.if_icmp .ge 20, 3) := by decide +kernel
theorem dX10_allIn_10 : decode cX10_allIn 10 = .ok (.iload_n 2, 1) := by decide +kernel
theorem dX10_allIn_11 : decode cX10_allIn 11 = .ok (.aload_n 0, 1) := by decide +kernel
theorem dX10_allIn_12 : decode cX10_allIn 12 = .ok (.iload_n 1, 1) := by decide +kernel
theorem dX10_allIn_13 : decode cX10_allIn 13 = .ok (.iconst 2, 1) := by decide +kernel
theorem dX10_allIn_14 : decode cX10_allIn 14 = .ok (.iload_n 3, 1) := by decide +kernel
theorem dX10_allIn_15 : decode cX10_allIn 15 = .ok (.iadd, 1) := by decide +kernel
theorem dX10_allIn_16 : decode cX10_allIn 16 = .ok (.invokevirtual 129, 3) := by decide +kernel
theorem dX10_allIn_19 : decode cX10_allIn 19 = .ok (.iadd, 1) := by decide +kernel
theorem dX10_allIn_20 : decode cX10_allIn 20 = .ok (.istore_n 2, 1) := by decide +kernel
theorem dX10_allIn_21 : decode cX10_allIn 21 = .ok (.iinc 3 1, 3) := by decide +kernel
theorem dX10_allIn_24 : decode cX10_allIn 24 = .ok (.goto (-20), 3) := by decide +kernel
theorem dX10_allIn_27 : decode cX10_allIn 27 = .ok (.iload_n 2, 1) := by decide +kernel
theorem dX10_allIn_28 : decode cX10_allIn 28 = .ok (.ireturn, 1) := by decide +kernel
theorem dX10_roomIn_0 : decode cX10_roomIn 0 = .ok (.aload_n 0, 1) := by decide +kernel
theorem dX10_roomIn_1 : decode cX10_roomIn 1 = .ok (.aload_n 0, 1) := by decide +kernel
theorem dX10_roomIn_2 : decode cX10_roomIn 2 = .ok (.iload_n 1, 1) := by decide +kernel
theorem dX10_roomIn_3 : decode cX10_roomIn 3 = .ok (.iconst 1, 1) := by decide +kernel
theorem dX10_roomIn_4 : decode cX10_roomIn 4 = .ok (.invokevirtual 129, 3) := by decide +kernel
theorem dX10_roomIn_7 : decode cX10_roomIn 7 = .ok (.iconst 3, 1) := by decide +kernel
theorem dX10_roomIn_8 : decode cX10_roomIn 8 = .ok (.invokevirtual 93, 3) := by decide +kernel
theorem dX10_roomIn_11 : decode cX10_roomIn 11 = .ok (.aload_n 0, 1) := by decide +kernel
theorem dX10_roomIn_12 : decode cX10_roomIn 12 = .ok (.iload_n 1, 1) := by decide +kernel
theorem dX10_roomIn_13 : decode cX10_roomIn 13 = .ok (.invokevirtual 151, 3) := by decide +kernel
theorem dX10_roomIn_16 : decode cX10_roomIn 16 = .ok (.isub, 1) := by decide +kernel
theorem dX10_roomIn_17 : decode cX10_roomIn 17 = .ok (.ireturn, 1) := by decide +kernel
theorem dX10_can_0 : decode cX10_can 0 = .ok (.aload_n 0, 1) := by decide +kernel
theorem dX10_can_1 : decode cX10_can 1 = .ok (.iload_n 1, 1) := by decide +kernel
theorem dX10_can_2 : decode cX10_can 2 = .ok (.invokevirtual 126, 3) := by decide +kernel
theorem dX10_can_5 : decode cX10_can 5 = .ok (.ifCond .ne 9, 3) := by decide +kernel
theorem dX10_can_8 : decode cX10_can 8 = .ok (.aload_n 0, 1) := by decide +kernel
theorem dX10_can_9 : decode cX10_can 9 = .ok (.iconst 1, 1) := by decide +kernel
theorem dX10_can_10 : decode cX10_can 10 = .ok (.invokevirtual 48, 3) := by decide +kernel
theorem dX10_can_13 : decode cX10_can 13 = .ok (.ireturn, 1) := by decide +kernel
theorem dX10_can_14 : decode cX10_can 14 = .ok (.iload_n 2, 1) := by decide +kernel
theorem dX10_can_15 : decode cX10_can 15 = .ok (.iconst 0, 1) := by decide +kernel
theorem dX10_can_16 : decode cX10_can 16 = .ok (.iconst 5, 1) := by decide +kernel
theorem dX10_can_17 : decode cX10_can 17 = .ok (.invokestatic 59, 3) := by decide +kernel
theorem dX10_can_20 : decode cX10_can 20 = .ok (.ifCond .ne 9, 3) := by decide +kernel
theorem dX10_can_23 : decode cX10_can 23 = .ok (.aload_n 0, 1) := by decide +kernel
theorem dX10_can_24 : decode cX10_can 24 = .ok (.iconst 2, 1) := by decide +kernel
theorem dX10_can_25 : decode cX10_can 25 = .ok (.invokevirtual 48, 3) := by decide +kernel
theorem dX10_can_28 : decode cX10_can 28 = .ok (.ireturn, 1) := by decide +kernel
theorem dX10_can_29 : decode cX10_can 29 = .ok (.iload_n 2, 1) := by decide +kernel
theorem dX10_can_30 : decode cX10_can 30 = .ok (.tableswitch 74 2 5 #[30, 40, 52, 64], 30) := by decide +kernel
theorem dX10_can_60 : decode cX10_can 60 = .ok (.aload_n 0, 1) := by decide +kernel
theorem dX10_can_61 : decode cX10_can 61 = .ok (.aload_n 0, 1) := by decide +kernel
theorem dX10_can_62 : decode cX10_can 62 = .ok (.iload_n 1, 1) := by decide +kernel
theorem dX10_can_63 : decode cX10_can 63 = .ok (.invokevirtual 151, 3) := by decide +kernel
theorem dX10_can_66 : decode cX10_can 66 = .ok (.invokevirtual 66, 3) := by decide +kernel
theorem dX10_can_69 : decode cX10_can 69 = .ok (.ireturn, 1) := by decide +kernel
theorem dX10_can_70 : decode cX10_can 70 = .ok (.aload_n 0, 1) := by decide +kernel
theorem dX10_can_71 : decode cX10_can 71 = .ok (.aload_n 0, 1) := by decide +kernel
theorem dX10_can_72 : decode cX10_can 72 = .ok (.iload_n 1, 1) := by decide +kernel
theorem dX10_can_73 : decode cX10_can 73 = .ok (.bipush 10, 2) := by decide +kernel
theorem dX10_can_75 : decode cX10_can 75 = .ok (.invokevirtual 129, 3) := by decide +kernel
theorem dX10_can_78 : decode cX10_can 78 = .ok (.invokevirtual 66, 3) := by decide +kernel
theorem dX10_can_81 : decode cX10_can 81 = .ok (.ireturn, 1) := by decide +kernel
theorem dX10_can_82 : decode cX10_can 82 = .ok (.aload_n 0, 1) := by decide +kernel
theorem dX10_can_83 : decode cX10_can 83 = .ok (.aload_n 0, 1) := by decide +kernel
theorem dX10_can_84 : decode cX10_can 84 = .ok (.iload_n 1, 1) := by decide +kernel
theorem dX10_can_85 : decode cX10_can 85 = .ok (.bipush 11, 2) := by decide +kernel
theorem dX10_can_87 : decode cX10_can 87 = .ok (.invokevirtual 129, 3) := by decide +kernel
theorem dX10_can_90 : decode cX10_can 90 = .ok (.invokevirtual 66, 3) := by decide +kernel
theorem dX10_can_93 : decode cX10_can 93 = .ok (.ireturn, 1) := by decide +kernel
theorem dX10_can_94 : decode cX10_can 94 = .ok (.aload_n 0, 1) := by decide +kernel
theorem dX10_can_95 : decode cX10_can 95 = .ok (.aload_n 0, 1) := by decide +kernel
theorem dX10_can_96 : decode cX10_can 96 = .ok (.iload_n 1, 1) := by decide +kernel
theorem dX10_can_97 : decode cX10_can 97 = .ok (.invokevirtual 154, 3) := by decide +kernel
theorem dX10_can_100 : decode cX10_can 100 = .ok (.invokevirtual 66, 3) := by decide +kernel
theorem dX10_can_103 : decode cX10_can 103 = .ok (.ireturn, 1) := by decide +kernel
theorem dX10_can_104 : decode cX10_can 104 = .ok (.aload_n 0, 1) := by decide +kernel
theorem dX10_can_105 : decode cX10_can 105 = .ok (.aload_n 0, 1) := by decide +kernel
theorem dX10_can_106 : decode cX10_can 106 = .ok (.iload_n 1, 1) := by decide +kernel
theorem dX10_can_107 : decode cX10_can 107 = .ok (.iload_n 2, 1) := by decide +kernel
theorem dX10_can_108 : decode cX10_can 108 = .ok (.invokevirtual 129, 3) := by decide +kernel
theorem dX10_can_111 : decode cX10_can 111 = .ok (.invokevirtual 66, 3) := by decide +kernel
theorem dX10_can_114 : decode cX10_can 114 = .ok (.ireturn, 1) := by decide +kernel
theorem dX10_valueOf_0 : decode cX10_valueOf 0 = .ok (.aload_n 0, 1) := by decide +kernel
theorem dX10_valueOf_1 : decode cX10_valueOf 1 = .ok (.aload_n 0, 1) := by decide +kernel
theorem dX10_valueOf_2 : decode cX10_valueOf 2 = .ok (.iload_n 1, 1) := by decide +kernel
theorem dX10_valueOf_3 : decode cX10_valueOf 3 = .ok (.iconst 1, 1) := by decide +kernel
theorem dX10_valueOf_4 : decode cX10_valueOf 4 = .ok (.invokevirtual 129, 3) := by decide +kernel
theorem dX10_valueOf_7 : decode cX10_valueOf 7 = .ok (.iload_n 2, 1) := by decide +kernel
theorem dX10_valueOf_8 : decode cX10_valueOf 8 = .ok (.invokevirtual 93, 3) := by decide +kernel
theorem dX10_valueOf_11 : decode cX10_valueOf 11 = .ok (.istore_n 3, 1) := by decide +kernel
theorem dX10_valueOf_12 : decode cX10_valueOf 12 = .ok (.iconst 0, 1) := by decide +kernel
theorem dX10_valueOf_13 : decode cX10_valueOf 13 = .ok (.istore 4, 2) := by decide +kernel
theorem dX10_valueOf_15 : decode cX10_valueOf 15 = .ok (.iload 4, 2) := by decide +kernel
theorem dX10_valueOf_17 : decode cX10_valueOf 17 = .ok (.aload_n 0, 1) := by decide +kernel
theorem dX10_valueOf_18 : decode cX10_valueOf 18 = .ok (.getfield 9, 3) := by decide +kernel
theorem dX10_valueOf_21 : decode cX10_valueOf 21 = .ok (.iconst 0, 1) := by decide +kernel
theorem dX10_valueOf_22 : decode cX10_valueOf 22 = .ok (.iaload, 1) := by decide +kernel
theorem dX10_valueOf_23 : decode cX10_valueOf 23 = .ok (.if_icmp .ge 29, 3) := by decide +kernel
theorem dX10_valueOf_26 : decode cX10_valueOf 26 = .ok (.iload_n 3, 1) := by decide +kernel
theorem dX10_valueOf_27 : decode cX10_valueOf 27 = .ok (.aload_n 0, 1) := by decide +kernel
theorem dX10_valueOf_28 : decode cX10_valueOf 28 = .ok (.iload 4, 2) := by decide +kernel
theorem dX10_valueOf_30 : decode cX10_valueOf 30 = .ok (.iload_n 2, 1) := by decide +kernel
theorem dX10_valueOf_31 : decode cX10_valueOf 31 = .ok (.invokevirtual 69, 3) := by decide +kernel
theorem dX10_valueOf_34 : decode cX10_valueOf 34 = .ok (.aload_n 0, 1) := by decide +kernel
theorem dX10_valueOf_35 : decode cX10_valueOf 35 = .ok (.iload_n 1, 1) := by decide +kernel
theorem dX10_valueOf_36 : decode cX10_valueOf 36 = .ok (.iconst 2, 1) := by decide +kernel
theorem dX10_valueOf_37 : decode cX10_valueOf 37 = .ok (.iload 4, 2) := by decide +kernel
theorem dX10_valueOf_39 : decode cX10_valueOf 39 = .ok (.iadd, 1) := by decide +kernel
theorem dX10_valueOf_40 : decode cX10_valueOf 40 = .ok (.invokevirtual 129, 3) := by decide +kernel
theorem dX10_valueOf_43 : decode cX10_valueOf 43 = .ok (.imul, 1) := by decide +kernel
theorem dX10_valueOf_44 : decode cX10_valueOf 44 = .ok (.iadd, 1) := by decide +kernel
theorem dX10_valueOf_45 : decode cX10_valueOf 45 = .ok (.istore_n 3, 1) := by decide +kernel
theorem dX10_valueOf_46 : decode cX10_valueOf 46 = .ok (.iinc 4 1, 3) := by decide +kernel
theorem dX10_valueOf_49 : decode cX10_valueOf 49 = .ok (.goto (-34), 3) := by decide +kernel
theorem dX10_valueOf_52 : decode cX10_valueOf 52 = .ok (.iload_n 3, 1) := by decide +kernel
theorem dX10_valueOf_53 : decode cX10_valueOf 53 = .ok (.ireturn, 1) := by decide +kernel
theorem dX10_colour_0 : decode cX10_colour 0 = .ok (.aload_n 0, 1) := by decide +kernel
theorem dX10_colour_1 : decode cX10_colour 1 = .ok (.iload_n 1, 1) := by decide +kernel
theorem dX10_colour_2 : decode cX10_colour 2 = .ok (.invokevirtual 126, 3) := by decide +kernel
theorem dX10_colour_5 : decode cX10_colour 5 = .ok (.ifCond .ne 9, 3) := by decide +kernel
theorem dX10_colour_8 : decode cX10_colour 8 = .ok (.aload_n 0, 1) := by decide +kernel
theorem dX10_colour_9 : decode cX10_colour 9 = .ok (.iconst 1, 1) := by decide +kernel
theorem dX10_colour_10 : decode cX10_colour 10 = .ok (.invokevirtual 48, 3) := by decide +kernel
theorem dX10_colour_13 : decode cX10_colour 13 = .ok (.ireturn, 1) := by decide +kernel
theorem dX10_colour_14 : decode cX10_colour 14 = .ok (.iload_n 2, 1) := by decide +kernel
theorem dX10_colour_15 : decode cX10_colour 15 = .ok (.iconst 0, 1) := by decide +kernel
theorem dX10_colour_16 : decode cX10_colour 16 = .ok (.iconst 2, 1) := by decide +kernel
theorem dX10_colour_17 : decode cX10_colour 17 = .ok (.invokestatic 59, 3) := by decide +kernel
theorem dX10_colour_20 : decode cX10_colour 20 = .ok (.ifCond .eq 16, 3) := by decide +kernel
theorem dX10_colour_23 : decode cX10_colour 23 = .ok (.aload_n 0, 1) := by decide +kernel
theorem dX10_colour_24 : decode cX10_colour 24 = .ok (.aload_n 0, 1) := by decide +kernel
theorem dX10_colour_25 : decode cX10_colour 25 = .ok (.iload_n 1, 1) := by decide +kernel
theorem dX10_colour_26 : decode cX10_colour 26 = .ok (.iload_n 2, 1) := by decide +kernel
theorem dX10_colour_27 : decode cX10_colour 27 = .ok (.invokevirtual 157, 3) := by decide +kernel
theorem dX10_colour_30 : decode cX10_colour 30 = .ok (.invokevirtual 66, 3) := by decide +kernel
theorem dX10_colour_33 : decode cX10_colour 33 = .ok (.goto 8, 3) := by decide +kernel
theorem dX10_colour_36 : decode cX10_colour 36 = .ok (.aload_n 0, 1) := by decide +kernel
theorem dX10_colour_37 : decode cX10_colour 37 = .ok (.iconst 2, 1) := by decide +kernel
theorem dX10_colour_38 : decode cX10_colour 38 = .ok (.invokevirtual 48, 3) := by decide +kernel
theorem dX10_colour_41 : decode cX10_colour 41 = .ok (.ireturn, 1) := by decide +kernel
theorem dX10_correct_0 : decode cX10_correct 0 = .ok (.aload_n 0, 1) := by decide +kernel
theorem dX10_correct_1 : decode cX10_correct 1 = .ok (.iload_n 1, 1) := by decide +kernel
theorem dX10_correct_2 : decode cX10_correct 2 = .ok (.invokevirtual 126, 3) := by decide +kernel
theorem dX10_correct_5 : decode cX10_correct 5 = .ok (.ifCond .eq 11, 3) := by decide +kernel
theorem dX10_correct_8 : decode cX10_correct 8 = .ok (.aload_n 0, 1) := by decide +kernel
theorem dX10_correct_9 : decode cX10_correct 9 = .ok (.iload_n 2, 1) := by decide +kernel
theorem dX10_correct_10 : decode cX10_correct 10 = .ok (.invokevirtual 73, 3) := by decide +kernel
theorem dX10_correct_13 : decode cX10_correct 13 = .ok (.ifCond .ne 9, 3) := by decide +kernel
theorem dX10_correct_16 : decode cX10_correct 16 = .ok (.aload_n 0, 1) := by decide +kernel
theorem dX10_correct_17 : decode cX10_correct 17 = .ok (.iconst 1, 1) := by decide +kernel
theorem dX10_correct_18 : decode cX10_correct 18 = .ok (.invokevirtual 48, 3) := by decide +kernel
theorem dX10_correct_21 : decode cX10_correct 21 = .ok (.ireturn, 1) := by decide +kernel
theorem dX10_correct_22 : decode cX10_correct 22 = .ok (.iload_n 3, 1) := by decide +kernel
theorem dX10_correct_23 : decode cX10_correct 23 = .ok (.iconst 1, 1) := by decide +kernel
theorem dX10_correct_24 : decode cX10_correct 24 = .ok (.bipush 50, 2) := by decide +kernel
theorem dX10_correct_26 : decode cX10_correct 26 = .ok (.invokestatic 59, 3) := by decide +kernel
theorem dX10_correct_29 : decode cX10_correct 29 = .ok (.ifCond .ne 9, 3) := by decide +kernel
theorem dX10_correct_32 : decode cX10_correct 32 = .ok (.aload_n 0, 1) := by decide +kernel
theorem dX10_correct_33 : decode cX10_correct 33 = .ok (.iconst 2, 1) := by decide +kernel
theorem dX10_correct_34 : decode cX10_correct 34 = .ok (.invokevirtual 48, 3) := by decide +kernel
theorem dX10_correct_37 : decode cX10_correct 37 = .ok (.ireturn, 1) := by decide +kernel
theorem dX10_correct_38 : decode cX10_correct 38 = .ok (.iload_n 3, 1) := by decide +kernel
theorem dX10_correct_39 : decode cX10_correct 39 = .ok (.aload_n 0, 1) := by decide +kernel
theorem dX10_correct_40 : decode cX10_correct 40 = .ok (.iload_n 1, 1) := by decide +kernel
theorem dX10_correct_41 : decode cX10_correct 41 = .ok (.invokevirtual 154, 3) := by decide +kernel
theorem dX10_correct_44 : decode cX10_correct 44 = .ok (.if_icmp .le 10, 3) := by decide +kernel
theorem dX10_correct_47 : decode cX10_correct 47 = .ok (.aload_n 0, 1) := by decide +kernel
theorem dX10_correct_48 : decode cX10_correct 48 = .ok (.iconst 4, 1) := by decide +kernel
theorem dX10_correct_49 : decode cX10_correct 49 = .ok (.iconst 3, 1) := by decide +kernel
theorem dX10_correct_50 : decode cX10_correct 50 = .ok (.invokevirtual 80, 3) := by decide +kernel
theorem dX10_correct_53 : decode cX10_correct 53 = .ok (.ireturn, 1) := by decide +kernel
theorem dX10_correct_54 : decode cX10_correct 54 = .ok (.iload_n 3, 1) := by decide +kernel
theorem dX10_correct_55 : decode cX10_correct 55 = .ok (.aload_n 0, 1) := by decide +kernel
theorem dX10_correct_56 : decode cX10_correct 56 = .ok (.iload_n 2, 1) := by decide +kernel
theorem dX10_correct_57 : decode cX10_correct 57 = .ok (.invokevirtual 83, 3) := by decide +kernel
theorem dX10_correct_60 : decode cX10_correct 60 = .ok (.if_icmp .le 15, 3) := by decide +kernel
theorem dX10_correct_63 : decode cX10_correct 63 = .ok (.aload_n 0, 1) := by decide +kernel
theorem dX10_correct_64 : decode cX10_correct 64 = .ok (.iload_n 2, 1) := by decide +kernel
theorem dX10_correct_65 : decode cX10_correct 65 = .ok (.putfield 145, 3) := by decide +kernel
theorem dX10_correct_68 : decode cX10_correct 68 = .ok (.aload_n 0, 1) := by decide +kernel
theorem dX10_correct_69 : decode cX10_correct 69 = .ok (.iconst 5, 1) := by decide +kernel
theorem dX10_correct_70 : decode cX10_correct 70 = .ok (.iconst 3, 1) := by decide +kernel
theorem dX10_correct_71 : decode cX10_correct 71 = .ok (.invokevirtual 80, 3) := by decide +kernel
theorem dX10_correct_74 : decode cX10_correct 74 = .ok (.ireturn, 1) := by decide +kernel
theorem dX10_correct_75 : decode cX10_correct 75 = .ok (.aload_n 0, 1) := by decide +kernel
theorem dX10_correct_76 : decode cX10_correct 76 = .ok (.invokevirtual 63, 3) := by decide +kernel
theorem dX10_correct_79 : decode cX10_correct 79 = .ok (.aload_n 0, 1) := by decide +kernel
theorem dX10_correct_80 : decode cX10_correct 80 = .ok (.iload_n 2, 1) := by decide +kernel
theorem dX10_correct_81 : decode cX10_correct 81 = .ok (.iload_n 3, 1) := by decide +kernel
theorem dX10_correct_82 : decode cX10_correct 82 = .ok (.iload_n 1, 1) := by decide +kernel
theorem dX10_correct_83 : decode cX10_correct 83 = .ok (.invokevirtual 138, 3) := by decide +kernel
theorem dX10_correct_86 : decode cX10_correct 86 = .ok (.aload_n 0, 1) := by decide +kernel
theorem dX10_correct_87 : decode cX10_correct 87 = .ok (.getfield 9, 3) := by decide +kernel
theorem dX10_correct_90 : decode cX10_correct 90 = .ok (.sipush 579, 3) := by decide +kernel
theorem dX10_correct_93 : decode cX10_correct 93 = .ok (.bipush 44, 2) := by decide +kernel
theorem dX10_correct_95 : decode cX10_correct 95 = .ok (.iload_n 1, 1) := by decide +kernel
theorem dX10_correct_96 : decode cX10_correct 96 = .ok (.imul, 1) := by decide +kernel
theorem dX10_correct_97 : decode cX10_correct 97 = .ok (.iadd, 1) := by decide +kernel
theorem dX10_correct_98 : decode cX10_correct 98 = .ok (.bipush 10, 2) := by decide +kernel
theorem dX10_correct_100 : decode cX10_correct 100 = .ok (.iadd, 1) := by decide +kernel
theorem dX10_correct_101 : decode cX10_correct 101 = .ok (.dup2, 1) := by decide +kernel
theorem dX10_correct_102 : decode cX10_correct 102 = .ok (.iaload, 1) := by decide +kernel
theorem dX10_correct_103 : decode cX10_correct 103 = .ok (.iconst 1, 1) := by decide +kernel
theorem dX10_correct_104 : decode cX10_correct 104 = .ok (.iadd, 1) := by decide +kernel
theorem dX10_correct_105 : decode cX10_correct 105 = .ok (.iastore, 1) := by decide +kernel
theorem dX10_correct_106 : decode cX10_correct 106 = .ok (.aload_n 0, 1) := by decide +kernel
theorem dX10_correct_107 : decode cX10_correct 107 = .ok (.getfield 9, 3) := by decide +kernel
theorem dX10_correct_110 : decode cX10_correct 110 = .ok (.sipush 579, 3) := by decide +kernel
theorem dX10_correct_113 : decode cX10_correct 113 = .ok (.bipush 44, 2) := by decide +kernel
theorem dX10_correct_115 : decode cX10_correct 115 = .ok (.iload_n 1, 1) := by decide +kernel
theorem dX10_correct_116 : decode cX10_correct 116 = .ok (.imul, 1) := by decide +kernel
theorem dX10_correct_117 : decode cX10_correct 117 = .ok (.iadd, 1) := by decide +kernel
theorem dX10_correct_118 : decode cX10_correct 118 = .ok (.bipush 11, 2) := by decide +kernel
theorem dX10_correct_120 : decode cX10_correct 120 = .ok (.iadd, 1) := by decide +kernel
theorem dX10_correct_121 : decode cX10_correct 121 = .ok (.dup2, 1) := by decide +kernel
theorem dX10_correct_122 : decode cX10_correct 122 = .ok (.iaload, 1) := by decide +kernel
theorem dX10_correct_123 : decode cX10_correct 123 = .ok (.iload_n 3, 1) := by decide +kernel
theorem dX10_correct_124 : decode cX10_correct 124 = .ok (.iadd, 1) := by decide +kernel
theorem dX10_correct_125 : decode cX10_correct 125 = .ok (.iastore, 1) := by decide +kernel
theorem dX10_correct_126 : decode cX10_correct 126 = .ok (.aload_n 0, 1) := by decide +kernel
theorem dX10_correct_127 : decode cX10_correct 127 = .ok (.aload_n 0, 1) := by decide +kernel
theorem dX10_correct_128 : decode cX10_correct 128 = .ok (.iload_n 1, 1) := by decide +kernel
theorem dX10_correct_129 : decode cX10_correct 129 = .ok (.invokevirtual 151, 3) := by decide +kernel
theorem dX10_correct_132 : decode cX10_correct 132 = .ok (.invokevirtual 66, 3) := by decide +kernel
theorem dX10_correct_135 : decode cX10_correct 135 = .ok (.ireturn, 1) := by decide +kernel
theorem dX10_reaches_0 : decode cX10_reaches 0 = .ok (.iconst 1, 1) := by decide +kernel
theorem dX10_reaches_1 : decode cX10_reaches 1 = .ok (.istore_n 3, 1) := by decide +kernel
theorem dX10_reaches_2 : decode cX10_reaches 2 = .ok (.iconst 0, 1) := by decide +kernel
theorem dX10_reaches_3 : decode cX10_reaches 3 = .ok (.istore 4, 2) := by decide +kernel
theorem dX10_reaches_5 : decode cX10_reaches 5 = .ok (.iload 4, 2) := by decide +kernel
theorem dX10_reaches_7 : decode cX10_reaches 7 = .ok (.iconst 3, 1) := by decide +kernel
theorem dX10_reaches_8 : decode cX10_reaches 8 = .ok (.if_icmp .ge 95, 3) := by decide +kernel
theorem dX10_reaches_11 : decode cX10_reaches 11 = .ok (.aload_n 0, 1) := by decide +kernel
theorem dX10_reaches_12 : decode cX10_reaches 12 = .ok (.iload_n 1, 1) := by decide +kernel
theorem dX10_reaches_13 : decode cX10_reaches 13 = .ok (.iload 4, 2) := by decide +kernel
theorem dX10_reaches_15 : decode cX10_reaches 15 = .ok (.invokevirtual 157, 3) := by decide +kernel
theorem dX10_reaches_18 : decode cX10_reaches 18 = .ok (.i2l, 1) := by decide +kernel
theorem dX10_reaches_19 : decode cX10_reaches 19 = .ok (.aload_n 0, 1) := by decide +kernel
theorem dX10_reaches_20 : decode cX10_reaches 20 = .ok (.getfield 36, 3) := by decide +kernel
theorem dX10_reaches_23 : decode cX10_reaches 23 = .ok (.iload 4, 2) := by decide +kernel
theorem dX10_reaches_25 : decode cX10_reaches 25 = .ok (.iaload, 1) := by decide +kernel
theorem dX10_reaches_26 : decode cX10_reaches 26 = .ok (.i2l, 1) := by decide +kernel
theorem dX10_reaches_27 : decode cX10_reaches 27 = .ok (.lsub, 1) := by decide +kernel
theorem dX10_reaches_28 : decode cX10_reaches 28 = .ok (.lstore 5, 2) := by decide +kernel
theorem dX10_reaches_30 : decode cX10_reaches 30 = .ok (.iconst 0, 1) := by decide +kernel
theorem dX10_reaches_31 : decode cX10_reaches 31 = .ok (.istore 7, 2) := by decide +kernel
theorem dX10_reaches_33 : decode cX10_reaches 33 = .ok (.iload 7, 2) := by decide +kernel
theorem dX10_reaches_35 : decode cX10_reaches 35 = .ok (.aload_n 0, 1) := by decide +kernel
theorem dX10_reaches_36 : decode cX10_reaches 36 = .ok (.getfield 9, 3) := by decide +kernel
theorem dX10_reaches_39 : decode cX10_reaches 39 = .ok (.iconst 0, 1) := by decide +kernel
theorem dX10_reaches_40 : decode cX10_reaches 40 = .ok (.iaload, 1) := by decide +kernel
theorem dX10_reaches_41 : decode cX10_reaches 41 = .ok (.if_icmp .ge 31, 3) := by decide +kernel
theorem dX10_reaches_44 : decode cX10_reaches 44 = .ok (.lload 5, 2) := by decide +kernel
theorem dX10_reaches_46 : decode cX10_reaches 46 = .ok (.aload_n 0, 1) := by decide +kernel
theorem dX10_reaches_47 : decode cX10_reaches 47 = .ok (.iload 7, 2) := by decide +kernel
theorem dX10_reaches_49 : decode cX10_reaches 49 = .ok (.iload 4, 2) := by decide +kernel
theorem dX10_reaches_51 : decode cX10_reaches 51 = .ok (.invokevirtual 69, 3) := by decide +kernel
theorem dX10_reaches_54 : decode cX10_reaches 54 = .ok (.aload_n 0, 1) := by decide +kernel
theorem dX10_reaches_55 : decode cX10_reaches 55 = .ok (.getfield 33, 3) := by decide +kernel
theorem dX10_reaches_58 : decode cX10_reaches 58 = .ok (.iload 7, 2) := by decide +kernel
theorem dX10_reaches_60 : decode cX10_reaches 60 = .ok (.iaload, 1) := by decide +kernel
theorem dX10_reaches_61 : decode cX10_reaches 61 = .ok (.imul, 1) := by decide +kernel
theorem dX10_reaches_62 : decode cX10_reaches 62 = .ok (.i2l, 1) := by decide +kernel
theorem dX10_reaches_63 : decode cX10_reaches 63 = .ok (.ladd, 1) := by decide +kernel
theorem dX10_reaches_64 : decode cX10_reaches 64 = .ok (.lstore 5, 2) := by decide +kernel
theorem dX10_reaches_66 : decode cX10_reaches 66 = .ok (.iinc 7 1, 3) := by decide +kernel
theorem dX10_reaches_69 : decode cX10_reaches 69 = .ok (.goto (-36), 3) := by decide +kernel
theorem dX10_reaches_72 : decode cX10_reaches 72 = .ok (.iload_n 3, 1) := by decide +kernel
theorem dX10_reaches_73 : decode cX10_reaches 73 = .ok (.lload 5, 2) := by decide +kernel
theorem dX10_reaches_75 : decode cX10_reaches 75 = .ok (.iload_n 2, 1) := by decide +kernel
theorem dX10_reaches_76 : decode cX10_reaches 76 = .ok (.i2l, 1) := by decide +kernel
theorem dX10_reaches_77 : decode cX10_reaches 77 = .ok (.lcmp, 1) := by decide +kernel
theorem dX10_reaches_78 : decode cX10_reaches 78 = .ok (.ifCond .gt 16, 3) := by decide +kernel
theorem dX10_reaches_81 : decode cX10_reaches 81 = .ok (.lload 5, 2) := by decide +kernel
theorem dX10_reaches_83 : decode cX10_reaches 83 = .ok (.lneg, 1) := by decide +kernel
theorem dX10_reaches_84 : decode cX10_reaches 84 = .ok (.iload_n 2, 1) := by decide +kernel
theorem dX10_reaches_85 : decode cX10_reaches 85 = .ok (.i2l, 1) := by decide +kernel
theorem dX10_reaches_86 : decode cX10_reaches 86 = .ok (.lcmp, 1) := by decide +kernel
theorem dX10_reaches_87 : decode cX10_reaches 87 = .ok (.ifCond .gt 7, 3) := by decide +kernel
theorem dX10_reaches_90 : decode cX10_reaches 90 = .ok (.iconst 1, 1) := by decide +kernel
theorem dX10_reaches_91 : decode cX10_reaches 91 = .ok (.goto 4, 3) := by decide +kernel
theorem dX10_reaches_94 : decode cX10_reaches 94 = .ok (.iconst 0, 1) := by decide +kernel
theorem dX10_reaches_95 : decode cX10_reaches 95 = .ok (.iand, 1) := by decide +kernel
theorem dX10_reaches_96 : decode cX10_reaches 96 = .ok (.istore_n 3, 1) := by decide +kernel
theorem dX10_reaches_97 : decode cX10_reaches 97 = .ok (.iinc 4 1, 3) := by decide +kernel
theorem dX10_reaches_100 : decode cX10_reaches 100 = .ok (.goto (-95), 3) := by decide +kernel
theorem dX10_reaches_103 : decode cX10_reaches 103 = .ok (.iconst 0, 1) := by decide +kernel
theorem dX10_reaches_104 : decode cX10_reaches 104 = .ok (.istore 4, 2) := by decide +kernel
theorem dX10_reaches_106 : decode cX10_reaches 106 = .ok (.iload 4, 2) := by decide +kernel
theorem dX10_reaches_108 : decode cX10_reaches 108 = .ok (.aload_n 0, 1) := by decide +kernel
theorem dX10_reaches_109 : decode cX10_reaches 109 = .ok (.getfield 9, 3) := by decide +kernel
theorem dX10_reaches_112 : decode cX10_reaches 112 = .ok (.iconst 0, 1) := by decide +kernel
theorem dX10_reaches_113 : decode cX10_reaches 113 = .ok (.iaload, 1) := by decide +kernel
theorem dX10_reaches_114 : decode cX10_reaches 114 = .ok (.if_icmp .ge 33, 3) := by decide +kernel
theorem dX10_reaches_117 : decode cX10_reaches 117 = .ok (.iload_n 3, 1) := by decide +kernel
theorem dX10_reaches_118 : decode cX10_reaches 118 = .ok (.aload_n 0, 1) := by decide +kernel
theorem dX10_reaches_119 : decode cX10_reaches 119 = .ok (.getfield 33, 3) := by decide +kernel
theorem dX10_reaches_122 : decode cX10_reaches 122 = .ok (.iload 4, 2) := by decide +kernel
theorem dX10_reaches_124 : decode cX10_reaches 124 = .ok (.iaload, 1) := by decide +kernel
theorem dX10_reaches_125 : decode cX10_reaches 125 = .ok (.aload_n 0, 1) := by decide +kernel
theorem dX10_reaches_126 : decode cX10_reaches 126 = .ok (.iload 4, 2) := by decide +kernel
theorem dX10_reaches_128 : decode cX10_reaches 128 = .ok (.invokevirtual 83, 3) := by decide +kernel
theorem dX10_reaches_131 : decode cX10_reaches 131 = .ok (.if_icmp .gt 7, 3) := by decide +kernel
theorem dX10_reaches_134 : decode cX10_reaches 134 = .ok (.iconst 1, 1) := by decide +kernel
theorem dX10_reaches_135 : decode cX10_reaches 135 = .ok (.goto 4, 3) := by decide +kernel
theorem dX10_reaches_138 : decode cX10_reaches 138 = .ok (.iconst 0, 1) := by decide +kernel
theorem dX10_reaches_139 : decode cX10_reaches 139 = .ok (.iand, 1) := by decide +kernel
theorem dX10_reaches_140 : decode cX10_reaches 140 = .ok (.istore_n 3, 1) := by decide +kernel
theorem dX10_reaches_141 : decode cX10_reaches 141 = .ok (.iinc 4 1, 3) := by decide +kernel
theorem dX10_reaches_144 : decode cX10_reaches 144 = .ok (.goto (-38), 3) := by decide +kernel
theorem dX10_reaches_147 : decode cX10_reaches 147 = .ok (.iload_n 3, 1) := by decide +kernel
theorem dX10_reaches_148 : decode cX10_reaches 148 = .ok (.ireturn, 1) := by decide +kernel
theorem dX10_nextWay_0 : decode cX10_nextWay 0 = .ok (.aload_n 0, 1) := by decide +kernel
theorem dX10_nextWay_1 : decode cX10_nextWay 1 = .ok (.getfield 9, 3) := by decide +kernel
theorem dX10_nextWay_4 : decode cX10_nextWay 4 = .ok (.iconst 0, 1) := by decide +kernel
theorem dX10_nextWay_5 : decode cX10_nextWay 5 = .ok (.iaload, 1) := by decide +kernel
theorem dX10_nextWay_6 : decode cX10_nextWay 6 = .ok (.iconst 1, 1) := by decide +kernel
theorem dX10_nextWay_7 : decode cX10_nextWay 7 = .ok (.isub, 1) := by decide +kernel
theorem dX10_nextWay_8 : decode cX10_nextWay 8 = .ok (.istore_n 1, 1) := by decide +kernel
theorem dX10_nextWay_9 : decode cX10_nextWay 9 = .ok (.iload_n 1, 1) := by decide +kernel
theorem dX10_nextWay_10 : decode cX10_nextWay 10 = .ok (.ifCond .lt 12, 3) := by decide +kernel
theorem dX10_nextWay_13 : decode cX10_nextWay 13 = .ok (.aload_n 0, 1) := by decide +kernel
theorem dX10_nextWay_14 : decode cX10_nextWay 14 = .ok (.getfield 33, 3) := by decide +kernel
theorem dX10_nextWay_17 : decode cX10_nextWay 17 = .ok (.iload_n 1, 1) := by decide +kernel
theorem dX10_nextWay_18 : decode cX10_nextWay 18 = .ok (.iaload, 1) := by decide +kernel
theorem dX10_nextWay_19 : decode cX10_nextWay 19 = .ok (.goto 4, 3) := by decide +kernel
theorem dX10_nextWay_22 : decode cX10_nextWay 22 = .ok (.iconst 0, 1) := by decide +kernel
theorem dX10_nextWay_23 : decode cX10_nextWay 23 = .ok (.istore_n 2, 1) := by decide +kernel
theorem dX10_nextWay_24 : decode cX10_nextWay 24 = .ok (.iload_n 1, 1) := by decide +kernel
theorem dX10_nextWay_25 : decode cX10_nextWay 25 = .ok (.iconst 1, 1) := by decide +kernel
theorem dX10_nextWay_26 : decode cX10_nextWay 26 = .ok (.isub, 1) := by decide +kernel
theorem dX10_nextWay_27 : decode cX10_nextWay 27 = .ok (.istore_n 3, 1) := by decide +kernel
theorem dX10_nextWay_28 : decode cX10_nextWay 28 = .ok (.iload_n 3, 1) := by decide +kernel
theorem dX10_nextWay_29 : decode cX10_nextWay 29 = .ok (.ifCond .lt 18, 3) := by decide +kernel
theorem dX10_nextWay_32 : decode cX10_nextWay 32 = .ok (.aload_n 0, 1) := by decide +kernel
theorem dX10_nextWay_33 : decode cX10_nextWay 33 = .ok (.getfield 33, 3) := by decide +kernel
theorem dX10_nextWay_36 : decode cX10_nextWay 36 = .ok (.iload_n 3, 1) := by decide +kernel
theorem dX10_nextWay_37 : decode cX10_nextWay 37 = .ok (.iaload, 1) := by decide +kernel
theorem dX10_nextWay_38 : decode cX10_nextWay 38 = .ok (.ifCond .ne 9, 3) := by decide +kernel
theorem dX10_nextWay_41 : decode cX10_nextWay 41 = .ok (.iinc 3 (-1), 3) := by decide +kernel
theorem dX10_nextWay_44 : decode cX10_nextWay 44 = .ok (.goto (-16), 3) := by decide +kernel
theorem dX10_nextWay_47 : decode cX10_nextWay 47 = .ok (.iload_n 3, 1) := by decide +kernel
theorem dX10_nextWay_48 : decode cX10_nextWay 48 = .ok (.ifCond .ge 5, 3) := by decide +kernel
theorem dX10_nextWay_51 : decode cX10_nextWay 51 = .ok (.iconst 0, 1) := by decide +kernel
theorem dX10_nextWay_52 : decode cX10_nextWay 52 = .ok (.ireturn, 1) := by decide +kernel
theorem dX10_nextWay_53 : decode cX10_nextWay 53 = .ok (.aload_n 0, 1) := by decide +kernel
theorem dX10_nextWay_54 : decode cX10_nextWay 54 = .ok (.getfield 33, 3) := by decide +kernel
theorem dX10_nextWay_57 : decode cX10_nextWay 57 = .ok (.iload_n 1, 1) := by decide +kernel
theorem dX10_nextWay_58 : decode cX10_nextWay 58 = .ok (.iconst 0, 1) := by decide +kernel
theorem dX10_nextWay_59 : decode cX10_nextWay 59 = .ok (.iastore, 1) := by decide +kernel
theorem dX10_nextWay_60 : decode cX10_nextWay 60 = .ok (.aload_n 0, 1) := by decide +kernel
theorem dX10_nextWay_61 : decode cX10_nextWay 61 = .ok (.getfield 33, 3) := by decide +kernel
theorem dX10_nextWay_64 : decode cX10_nextWay 64 = .ok (.iload_n 3, 1) := by decide +kernel
theorem dX10_nextWay_65 : decode cX10_nextWay 65 = .ok (.dup2, 1) := by decide +kernel
theorem dX10_nextWay_66 : decode cX10_nextWay 66 = .ok (.iaload, 1) := by decide +kernel
theorem dX10_nextWay_67 : decode cX10_nextWay 67 = .ok (.iconst 1, 1) := by decide +kernel
theorem dX10_nextWay_68 : decode cX10_nextWay 68 = .ok (.isub, 1) := by decide +kernel
theorem dX10_nextWay_69 : decode cX10_nextWay 69 = .ok (.iastore, 1) := by decide +kernel
theorem dX10_nextWay_70 : decode cX10_nextWay 70 = .ok (.aload_n 0, 1) := by decide +kernel
theorem dX10_nextWay_71 : decode cX10_nextWay 71 = .ok (.getfield 33, 3) := by decide +kernel
theorem dX10_nextWay_74 : decode cX10_nextWay 74 = .ok (.iload_n 3, 1) := by decide +kernel
theorem dX10_nextWay_75 : decode cX10_nextWay 75 = .ok (.iconst 1, 1) := by decide +kernel
theorem dX10_nextWay_76 : decode cX10_nextWay 76 = .ok (.iadd, 1) := by decide +kernel
theorem dX10_nextWay_77 : decode cX10_nextWay 77 = .ok (.iload_n 2, 1) := by decide +kernel
theorem dX10_nextWay_78 : decode cX10_nextWay 78 = .ok (.iconst 1, 1) := by decide +kernel
theorem dX10_nextWay_79 : decode cX10_nextWay 79 = .ok (.iadd, 1) := by decide +kernel
theorem dX10_nextWay_80 : decode cX10_nextWay 80 = .ok (.iastore, 1) := by decide +kernel
theorem dX10_nextWay_81 : decode cX10_nextWay 81 = .ok (.iconst 1, 1) := by decide +kernel
theorem dX10_nextWay_82 : decode cX10_nextWay 82 = .ok (.ireturn, 1) := by decide +kernel
theorem dX10_finds_0 : decode cX10_finds 0 = .ok (.iconst 0, 1) := by decide +kernel
theorem dX10_finds_1 : decode cX10_finds 1 = .ok (.istore_n 3, 1) := by decide +kernel
theorem dX10_finds_2 : decode cX10_finds 2 = .ok (.iload_n 3, 1) := by decide +kernel
theorem dX10_finds_3 : decode cX10_finds 3 = .ok (.bipush 6, 2) := by decide +kernel
theorem dX10_finds_5 : decode cX10_finds 5 = .ok (.if_icmp .gt 90, 3) := by decide +kernel
theorem dX10_finds_8 : decode cX10_finds 8 = .ok (.iload_n 3, 1) := by decide +kernel
theorem dX10_finds_9 : decode cX10_finds 9 = .ok (.aload_n 0, 1) := by decide +kernel
theorem dX10_finds_10 : decode cX10_finds 10 = .ok (.iload_n 1, 1) := by decide +kernel
theorem dX10_finds_11 : decode cX10_finds 11 = .ok (.invokevirtual 154, 3) := by decide +kernel
theorem dX10_finds_14 : decode cX10_finds 14 = .ok (.if_icmp .gt 81, 3) := by decide +kernel
theorem dX10_finds_17 : decode cX10_finds 17 = .ok (.iload_n 3, 1) := by decide +kernel
theorem dX10_finds_18 : decode cX10_finds 18 = .ok (.ifCond .eq 12, 3) := by decide +kernel
theorem dX10_finds_21 : decode cX10_finds 21 = .ok (.aload_n 0, 1) := by decide +kernel
theorem dX10_finds_22 : decode cX10_finds 22 = .ok (.getfield 9, 3) := by decide +kernel
theorem dX10_finds_25 : decode cX10_finds 25 = .ok (.iconst 0, 1) := by decide +kernel
theorem dX10_finds_26 : decode cX10_finds 26 = .ok (.iaload, 1) := by decide +kernel
theorem dX10_finds_27 : decode cX10_finds 27 = .ok (.ifCond .le 68, 3) := by decide +kernel
theorem dX10_finds_30 : decode cX10_finds 30 = .ok (.iconst 0, 1) := by decide +kernel
theorem dX10_finds_31 : decode cX10_finds 31 = .ok (.istore 4, 2) := by decide +kernel
theorem dX10_finds_33 : decode cX10_finds 33 = .ok (.iload 4, 2) := by decide +kernel
theorem dX10_finds_35 : decode cX10_finds 35 = .ok (.bipush 8, 2) := by decide +kernel
theorem dX10_finds_37 : decode cX10_finds 37 = .ok (.if_icmp .ge 17, 3) := by decide +kernel
theorem dX10_finds_40 : decode cX10_finds 40 = .ok (.aload_n 0, 1) := by decide +kernel
theorem dX10_finds_41 : decode cX10_finds 41 = .ok (.getfield 33, 3) := by decide +kernel
theorem dX10_finds_44 : decode cX10_finds 44 = .ok (.iload 4, 2) := by decide +kernel
theorem dX10_finds_46 : decode cX10_finds 46 = .ok (.iconst 0, 1) := by decide +kernel
theorem dX10_finds_47 : decode cX10_finds 47 = .ok (.iastore, 1) := by decide +kernel
theorem dX10_finds_48 : decode cX10_finds 48 = .ok (.iinc 4 1, 3) := by decide +kernel
theorem dX10_finds_51 : decode cX10_finds 51 = .ok (.goto (-18), 3) := by decide +kernel
theorem dX10_finds_54 : decode cX10_finds 54 = .ok (.aload_n 0, 1) := by decide +kernel
theorem dX10_finds_55 : decode cX10_finds 55 = .ok (.getfield 33, 3) := by decide +kernel
theorem dX10_finds_58 : decode cX10_finds 58 = .ok (.iconst 0, 1) := by decide +kernel
theorem dX10_finds_59 : decode cX10_finds 59 = .ok (.iload_n 3, 1) := by decide +kernel
theorem dX10_finds_60 : decode cX10_finds 60 = .ok (.iastore, 1) := by decide +kernel
theorem dX10_finds_61 : decode cX10_finds 61 = .ok (.iconst 1, 1) := by decide +kernel
theorem dX10_finds_62 : decode cX10_finds 62 = .ok (.istore 4, 2) := by decide +kernel
theorem dX10_finds_64 : decode cX10_finds 64 = .ok (.iload 4, 2) := by decide +kernel
theorem dX10_finds_66 : decode cX10_finds 66 = .ok (.ifCond .eq 23, 3) := by decide +kernel
theorem dX10_finds_69 : decode cX10_finds 69 = .ok (.aload_n 0, 1) := by decide +kernel
theorem dX10_finds_70 : decode cX10_finds 70 = .ok (.iload_n 1, 1) := by decide +kernel
theorem dX10_finds_71 : decode cX10_finds 71 = .ok (.iload_n 2, 1) := by decide +kernel
theorem dX10_finds_72 : decode cX10_finds 72 = .ok (.invokevirtual 160, 3) := by decide +kernel
theorem dX10_finds_75 : decode cX10_finds 75 = .ok (.ifCond .eq 5, 3) := by decide +kernel
theorem dX10_finds_78 : decode cX10_finds 78 = .ok (.iload_n 3, 1) := by decide +kernel
theorem dX10_finds_79 : decode cX10_finds 79 = .ok (.ireturn, 1) := by decide +kernel
theorem dX10_finds_80 : decode cX10_finds 80 = .ok (.aload_n 0, 1) := by decide +kernel
theorem dX10_finds_81 : decode cX10_finds 81 = .ok (.invokevirtual 164, 3) := by decide +kernel
theorem dX10_finds_84 : decode cX10_finds 84 = .ok (.istore 4, 2) := by decide +kernel
theorem dX10_finds_86 : decode cX10_finds 86 = .ok (.goto (-22), 3) := by decide +kernel
theorem dX10_finds_89 : decode cX10_finds 89 = .ok (.iinc 3 1, 3) := by decide +kernel
theorem dX10_finds_92 : decode cX10_finds 92 = .ok (.goto (-90), 3) := by decide +kernel
theorem dX10_finds_95 : decode cX10_finds 95 = .ok (.iconst (-1), 1) := by decide +kernel
theorem dX10_finds_96 : decode cX10_finds 96 = .ok (.ireturn, 1) := by decide +kernel
theorem dX10_least_0 : decode cX10_least 0 = .ok (.aload_n 0, 1) := by decide +kernel
theorem dX10_least_1 : decode cX10_least 1 = .ok (.iload_n 1, 1) := by decide +kernel
theorem dX10_least_2 : decode cX10_least 2 = .ok (.invokevirtual 126, 3) := by decide +kernel
theorem dX10_least_5 : decode cX10_least 5 = .ok (.ifCond .eq 18, 3) := by decide +kernel
theorem dX10_least_8 : decode cX10_least 8 = .ok (.iload 6, 2) := by decide +kernel
theorem dX10_least_10 : decode cX10_least 10 = .ok (.iconst (-1), 1) := by decide +kernel
theorem dX10_least_11 : decode cX10_least 11 = .ok (.if_icmp .eq 18, 3) := by decide +kernel
theorem dX10_least_14 : decode cX10_least 14 = .ok (.aload_n 0, 1) := by decide +kernel
theorem dX10_least_15 : decode cX10_least 15 = .ok (.iload 6, 2) := by decide +kernel
theorem dX10_least_17 : decode cX10_least 17 = .ok (.invokevirtual 73, 3) := by decide +kernel
theorem dX10_least_20 : decode cX10_least 20 = .ok (.ifCond .ne 9, 3) := by decide +kernel
theorem dX10_least_23 : decode cX10_least 23 = .ok (.aload_n 0, 1) := by decide +kernel
theorem dX10_least_24 : decode cX10_least 24 = .ok (.iconst 1, 1) := by decide +kernel
theorem dX10_least_25 : decode cX10_least 25 = .ok (.invokevirtual 48, 3) := by decide +kernel
theorem dX10_least_28 : decode cX10_least 28 = .ok (.ireturn, 1) := by decide +kernel
theorem dX10_least_29 : decode cX10_least 29 = .ok (.iload 5, 2) := by decide +kernel
theorem dX10_least_31 : decode cX10_least 31 = .ok (.iconst 0, 1) := by decide +kernel
theorem dX10_least_32 : decode cX10_least 32 = .ok (.bipush 99, 2) := by decide +kernel
theorem dX10_least_34 : decode cX10_least 34 = .ok (.invokestatic 59, 3) := by decide +kernel
theorem dX10_least_37 : decode cX10_least 37 = .ok (.ifCond .ne 9, 3) := by decide +kernel
theorem dX10_least_40 : decode cX10_least 40 = .ok (.aload_n 0, 1) := by decide +kernel
theorem dX10_least_41 : decode cX10_least 41 = .ok (.iconst 2, 1) := by decide +kernel
theorem dX10_least_42 : decode cX10_least 42 = .ok (.invokevirtual 48, 3) := by decide +kernel
theorem dX10_least_45 : decode cX10_least 45 = .ok (.ireturn, 1) := by decide +kernel
theorem dX10_least_46 : decode cX10_least 46 = .ok (.aload_n 0, 1) := by decide +kernel
theorem dX10_least_47 : decode cX10_least 47 = .ok (.getfield 36, 3) := by decide +kernel
theorem dX10_least_50 : decode cX10_least 50 = .ok (.iconst 0, 1) := by decide +kernel
theorem dX10_least_51 : decode cX10_least 51 = .ok (.iload_n 2, 1) := by decide +kernel
theorem dX10_least_52 : decode cX10_least 52 = .ok (.iastore, 1) := by decide +kernel
theorem dX10_least_53 : decode cX10_least 53 = .ok (.aload_n 0, 1) := by decide +kernel
theorem dX10_least_54 : decode cX10_least 54 = .ok (.getfield 36, 3) := by decide +kernel
theorem dX10_least_57 : decode cX10_least 57 = .ok (.iconst 1, 1) := by decide +kernel
theorem dX10_least_58 : decode cX10_least 58 = .ok (.iload_n 3, 1) := by decide +kernel
theorem dX10_least_59 : decode cX10_least 59 = .ok (.iastore, 1) := by decide +kernel
theorem dX10_least_60 : decode cX10_least 60 = .ok (.aload_n 0, 1) := by decide +kernel
theorem dX10_least_61 : decode cX10_least 61 = .ok (.getfield 36, 3) := by decide +kernel
theorem dX10_least_64 : decode cX10_least 64 = .ok (.iconst 2, 1) := by decide +kernel
theorem dX10_least_65 : decode cX10_least 65 = .ok (.iload 4, 2) := by decide +kernel
theorem dX10_least_67 : decode cX10_least 67 = .ok (.iastore, 1) := by decide +kernel
theorem dX10_least_68 : decode cX10_least 68 = .ok (.aload_n 0, 1) := by decide +kernel
theorem dX10_least_69 : decode cX10_least 69 = .ok (.iload_n 1, 1) := by decide +kernel
theorem dX10_least_70 : decode cX10_least 70 = .ok (.iload 5, 2) := by decide +kernel
theorem dX10_least_72 : decode cX10_least 72 = .ok (.invokevirtual 168, 3) := by decide +kernel
theorem dX10_least_75 : decode cX10_least 75 = .ok (.istore 7, 2) := by decide +kernel
theorem dX10_least_77 : decode cX10_least 77 = .ok (.iload 7, 2) := by decide +kernel
theorem dX10_least_79 : decode cX10_least 79 = .ok (.iconst (-1), 1) := by decide +kernel
theorem dX10_least_80 : decode cX10_least 80 = .ok (.if_icmp .ne 11, 3) := by decide +kernel
theorem dX10_least_83 : decode cX10_least 83 = .ok (.aload_n 0, 1) := by decide +kernel
theorem dX10_least_84 : decode cX10_least 84 = .ok (.iconst 3, 1) := by decide +kernel
theorem dX10_least_85 : decode cX10_least 85 = .ok (.invokevirtual 48, 3) := by decide +kernel
theorem dX10_least_88 : decode cX10_least 88 = .ok (.goto 25, 3) := by decide +kernel
theorem dX10_least_91 : decode cX10_least 91 = .ok (.aload_n 0, 1) := by decide +kernel
theorem dX10_least_92 : decode cX10_least 92 = .ok (.iload 6, 2) := by decide +kernel
theorem dX10_least_94 : decode cX10_least 94 = .ok (.iconst (-1), 1) := by decide +kernel
theorem dX10_least_95 : decode cX10_least 95 = .ok (.if_icmp .ne 8, 3) := by decide +kernel
theorem dX10_least_98 : decode cX10_least 98 = .ok (.iload 7, 2) := by decide +kernel
theorem dX10_least_100 : decode cX10_least 100 = .ok (.goto 10, 3) := by decide +kernel
theorem dX10_least_103 : decode cX10_least 103 = .ok (.aload_n 0, 1) := by decide +kernel
theorem dX10_least_104 : decode cX10_least 104 = .ok (.getfield 33, 3) := by decide +kernel
theorem dX10_least_107 : decode cX10_least 107 = .ok (.iload 6, 2) := by decide +kernel
theorem dX10_least_109 : decode cX10_least 109 = .ok (.iaload, 1) := by decide +kernel
theorem dX10_least_110 : decode cX10_least 110 = .ok (.invokevirtual 66, 3) := by decide +kernel
theorem dX10_least_113 : decode cX10_least 113 = .ok (.ireturn, 1) := by decide +kernel
theorem dX10_has_0 : decode cX10_has 0 = .ok (.aload_n 0, 1) := by decide +kernel
theorem dX10_has_1 : decode cX10_has 1 = .ok (.iload_n 1, 1) := by decide +kernel
theorem dX10_has_2 : decode cX10_has 2 = .ok (.bipush 12, 2) := by decide +kernel
theorem dX10_has_4 : decode cX10_has 4 = .ok (.iconst 4, 1) := by decide +kernel
theorem dX10_has_5 : decode cX10_has 5 = .ok (.iload_n 2, 1) := by decide +kernel
theorem dX10_has_6 : decode cX10_has 6 = .ok (.imul, 1) := by decide +kernel
theorem dX10_has_7 : decode cX10_has 7 = .ok (.iadd, 1) := by decide +kernel
theorem dX10_has_8 : decode cX10_has 8 = .ok (.iload_n 3, 1) := by decide +kernel
theorem dX10_has_9 : decode cX10_has 9 = .ok (.bipush 25, 2) := by decide +kernel
theorem dX10_has_11 : decode cX10_has 11 = .ok (.idiv, 1) := by decide +kernel
theorem dX10_has_12 : decode cX10_has 12 = .ok (.iadd, 1) := by decide +kernel
theorem dX10_has_13 : decode cX10_has 13 = .ok (.invokevirtual 129, 3) := by decide +kernel
theorem dX10_has_16 : decode cX10_has 16 = .ok (.iload_n 3, 1) := by decide +kernel
theorem dX10_has_17 : decode cX10_has 17 = .ok (.bipush 25, 2) := by decide +kernel
theorem dX10_has_19 : decode cX10_has 19 = .ok (.irem, 1) := by decide +kernel
theorem dX10_has_20 : decode cX10_has 20 = .ok (.ishr, 1) := by decide +kernel
theorem dX10_has_21 : decode cX10_has 21 = .ok (.iconst 1, 1) := by decide +kernel
theorem dX10_has_22 : decode cX10_has 22 = .ok (.iand, 1) := by decide +kernel
theorem dX10_has_23 : decode cX10_has 23 = .ok (.iconst 1, 1) := by decide +kernel
theorem dX10_has_24 : decode cX10_has 24 = .ok (.if_icmp .ne 7, 3) := by decide +kernel
theorem dX10_has_27 : decode cX10_has 27 = .ok (.iconst 1, 1) := by decide +kernel
theorem dX10_has_28 : decode cX10_has 28 = .ok (.goto 4, 3) := by decide +kernel
theorem dX10_has_31 : decode cX10_has 31 = .ok (.iconst 0, 1) := by decide +kernel
theorem dX10_has_32 : decode cX10_has 32 = .ok (.ireturn, 1) := by decide +kernel
theorem dX10_hasLot_0 : decode cX10_hasLot 0 = .ok (.aload_n 0, 1) := by decide +kernel
theorem dX10_hasLot_1 : decode cX10_hasLot 1 = .ok (.iload_n 1, 1) := by decide +kernel
theorem dX10_hasLot_2 : decode cX10_hasLot 2 = .ok (.invokevirtual 126, 3) := by decide +kernel
theorem dX10_hasLot_5 : decode cX10_hasLot 5 = .ok (.ifCond .eq 11, 3) := by decide +kernel
theorem dX10_hasLot_8 : decode cX10_hasLot 8 = .ok (.aload_n 0, 1) := by decide +kernel
theorem dX10_hasLot_9 : decode cX10_hasLot 9 = .ok (.iload_n 2, 1) := by decide +kernel
theorem dX10_hasLot_10 : decode cX10_hasLot 10 = .ok (.invokevirtual 73, 3) := by decide +kernel
theorem dX10_hasLot_13 : decode cX10_hasLot 13 = .ok (.ifCond .ne 17, 3) := by decide +kernel
theorem dX10_hasLot_16 : decode cX10_hasLot 16 = .ok (.aload_n 0, 1) := by decide +kernel
theorem dX10_hasLot_17 : decode cX10_hasLot 17 = .ok (.iconst 1, 1) := by decide +kernel
theorem dX10_hasLot_18 : decode cX10_hasLot 18 = .ok (.invokevirtual 48, 3) := by decide +kernel
theorem dX10_hasLot_21 : decode cX10_hasLot 21 = .ok (.ifCond .le 7, 3) := by decide +kernel
theorem dX10_hasLot_24 : decode cX10_hasLot 24 = .ok (.iconst 1, 1) := by decide +kernel
theorem dX10_hasLot_25 : decode cX10_hasLot 25 = .ok (.goto 4, 3) := by decide +kernel
theorem dX10_hasLot_28 : decode cX10_hasLot 28 = .ok (.iconst 0, 1) := by decide +kernel
theorem dX10_hasLot_29 : decode cX10_hasLot 29 = .ok (.ireturn, 1) := by decide +kernel
theorem dX10_hasLot_30 : decode cX10_hasLot 30 = .ok (.iload_n 3, 1) := by decide +kernel
theorem dX10_hasLot_31 : decode cX10_hasLot 31 = .ok (.invokestatic 77, 3) := by decide +kernel
theorem dX10_hasLot_34 : decode cX10_hasLot 34 = .ok (.ifCond .ne 17, 3) := by decide +kernel
theorem dX10_hasLot_37 : decode cX10_hasLot 37 = .ok (.aload_n 0, 1) := by decide +kernel
theorem dX10_hasLot_38 : decode cX10_hasLot 38 = .ok (.iconst 2, 1) := by decide +kernel
theorem dX10_hasLot_39 : decode cX10_hasLot 39 = .ok (.invokevirtual 48, 3) := by decide +kernel
theorem dX10_hasLot_42 : decode cX10_hasLot 42 = .ok (.ifCond .le 7, 3) := by decide +kernel
theorem dX10_hasLot_45 : decode cX10_hasLot 45 = .ok (.iconst 1, 1) := by decide +kernel
theorem dX10_hasLot_46 : decode cX10_hasLot 46 = .ok (.goto 4, 3) := by decide +kernel
theorem dX10_hasLot_49 : decode cX10_hasLot 49 = .ok (.iconst 0, 1) := by decide +kernel
theorem dX10_hasLot_50 : decode cX10_hasLot 50 = .ok (.ireturn, 1) := by decide +kernel
theorem dX10_hasLot_51 : decode cX10_hasLot 51 = .ok (.aload_n 0, 1) := by decide +kernel
theorem dX10_hasLot_52 : decode cX10_hasLot 52 = .ok (.iconst 0, 1) := by decide +kernel
theorem dX10_hasLot_53 : decode cX10_hasLot 53 = .ok (.putfield 42, 3) := by decide +kernel
theorem dX10_hasLot_56 : decode cX10_hasLot 56 = .ok (.aload_n 0, 1) := by decide +kernel
theorem dX10_hasLot_57 : decode cX10_hasLot 57 = .ok (.iload_n 1, 1) := by decide +kernel
theorem dX10_hasLot_58 : decode cX10_hasLot 58 = .ok (.iload_n 2, 1) := by decide +kernel
theorem dX10_hasLot_59 : decode cX10_hasLot 59 = .ok (.iload_n 3, 1) := by decide +kernel
theorem dX10_hasLot_60 : decode cX10_hasLot 60 = .ok (.invokevirtual 171, 3) := by decide +kernel
theorem dX10_hasLot_63 : decode cX10_hasLot 63 = .ok (.ireturn, 1) := by decide +kernel
theorem dX10_canWith_0 : decode cX10_canWith 0 = .ok (.aload_n 0, 1) := by decide +kernel
theorem dX10_canWith_1 : decode cX10_canWith 1 = .ok (.iload_n 1, 1) := by decide +kernel
theorem dX10_canWith_2 : decode cX10_canWith 2 = .ok (.invokevirtual 73, 3) := by decide +kernel
theorem dX10_canWith_5 : decode cX10_canWith 5 = .ok (.ifCond .ne 9, 3) := by decide +kernel
theorem dX10_canWith_8 : decode cX10_canWith 8 = .ok (.aload_n 0, 1) := by decide +kernel
theorem dX10_canWith_9 : decode cX10_canWith 9 = .ok (.iconst 1, 1) := by decide +kernel
theorem dX10_canWith_10 : decode cX10_canWith 10 = .ok (.invokevirtual 48, 3) := by decide +kernel
theorem dX10_canWith_13 : decode cX10_canWith 13 = .ok (.ireturn, 1) := by decide +kernel
theorem dX10_canWith_14 : decode cX10_canWith 14 = .ok (.iload_n 2, 1) := by decide +kernel
theorem dX10_canWith_15 : decode cX10_canWith 15 = .ok (.invokestatic 77, 3) := by decide +kernel
theorem dX10_canWith_18 : decode cX10_canWith 18 = .ok (.ifCond .ne 9, 3) := by decide +kernel
theorem dX10_canWith_21 : decode cX10_canWith 21 = .ok (.aload_n 0, 1) := by decide +kernel
theorem dX10_canWith_22 : decode cX10_canWith 22 = .ok (.iconst 2, 1) := by decide +kernel
theorem dX10_canWith_23 : decode cX10_canWith 23 = .ok (.invokevirtual 48, 3) := by decide +kernel
theorem dX10_canWith_26 : decode cX10_canWith 26 = .ok (.ireturn, 1) := by decide +kernel
theorem dX10_canWith_27 : decode cX10_canWith 27 = .ok (.iconst 0, 1) := by decide +kernel
theorem dX10_canWith_28 : decode cX10_canWith 28 = .ok (.istore 4, 2) := by decide +kernel
theorem dX10_canWith_30 : decode cX10_canWith 30 = .ok (.iconst 0, 1) := by decide +kernel
theorem dX10_canWith_31 : decode cX10_canWith 31 = .ok (.istore 5, 2) := by decide +kernel
theorem dX10_canWith_33 : decode cX10_canWith 33 = .ok (.iload 5, 2) := by decide +kernel
theorem dX10_canWith_35 : decode cX10_canWith 35 = .ok (.aload_n 0, 1) := by decide +kernel
theorem dX10_canWith_36 : decode cX10_canWith 36 = .ok (.getfield 9, 3) := by decide +kernel
theorem dX10_canWith_39 : decode cX10_canWith 39 = .ok (.iconst 3, 1) := by decide +kernel
theorem dX10_canWith_40 : decode cX10_canWith 40 = .ok (.iaload, 1) := by decide +kernel
theorem dX10_canWith_41 : decode cX10_canWith 41 = .ok (.if_icmp .ge 36, 3) := by decide +kernel
theorem dX10_canWith_44 : decode cX10_canWith 44 = .ok (.aload_n 0, 1) := by decide +kernel
theorem dX10_canWith_45 : decode cX10_canWith 45 = .ok (.iload 5, 2) := by decide +kernel
theorem dX10_canWith_47 : decode cX10_canWith 47 = .ok (.iload_n 1, 1) := by decide +kernel
theorem dX10_canWith_48 : decode cX10_canWith 48 = .ok (.iload_n 2, 1) := by decide +kernel
theorem dX10_canWith_49 : decode cX10_canWith 49 = .ok (.invokevirtual 171, 3) := by decide +kernel
theorem dX10_canWith_52 : decode cX10_canWith 52 = .ok (.ifCond .eq 19, 3) := by decide +kernel
theorem dX10_canWith_55 : decode cX10_canWith 55 = .ok (.iload 4, 2) := by decide +kernel
theorem dX10_canWith_57 : decode cX10_canWith 57 = .ok (.iload_n 3, 1) := by decide +kernel
theorem dX10_canWith_58 : decode cX10_canWith 58 = .ok (.if_icmp .ne 10, 3) := by decide +kernel
theorem dX10_canWith_61 : decode cX10_canWith 61 = .ok (.aload_n 0, 1) := by decide +kernel
theorem dX10_canWith_62 : decode cX10_canWith 62 = .ok (.iload 5, 2) := by decide +kernel
theorem dX10_canWith_64 : decode cX10_canWith 64 = .ok (.invokevirtual 66, 3) := by decide +kernel
theorem dX10_canWith_67 : decode cX10_canWith 67 = .ok (.ireturn, 1) := by decide +kernel
theorem dX10_canWith_68 : decode cX10_canWith 68 = .ok (.iinc 4 1, 3) := by decide +kernel
theorem dX10_canWith_71 : decode cX10_canWith 71 = .ok (.iinc 5 1, 3) := by decide +kernel
theorem dX10_canWith_74 : decode cX10_canWith 74 = .ok (.goto (-41), 3) := by decide +kernel
theorem dX10_canWith_77 : decode cX10_canWith 77 = .ok (.aload_n 0, 1) := by decide +kernel
theorem dX10_canWith_78 : decode cX10_canWith 78 = .ok (.iconst 3, 1) := by decide +kernel
theorem dX10_canWith_79 : decode cX10_canWith 79 = .ok (.invokevirtual 48, 3) := by decide +kernel
theorem dX10_canWith_82 : decode cX10_canWith 82 = .ok (.ireturn, 1) := by decide +kernel
theorem dX10_formulasWith_0 : decode cX10_formulasWith 0 = .ok (.aload_n 0, 1) := by decide +kernel
theorem dX10_formulasWith_1 : decode cX10_formulasWith 1 = .ok (.iload_n 1, 1) := by decide +kernel
theorem dX10_formulasWith_2 : decode cX10_formulasWith 2 = .ok (.invokevirtual 73, 3) := by decide +kernel
theorem dX10_formulasWith_5 : decode cX10_formulasWith 5 = .ok (.ifCond .ne 9, 3) := by decide +kernel
theorem dX10_formulasWith_8 : decode cX10_formulasWith 8 = .ok (.aload_n 0, 1) := by decide +kernel
theorem dX10_formulasWith_9 : decode cX10_formulasWith 9 = .ok (.iconst 1, 1) := by decide +kernel
theorem dX10_formulasWith_10 : decode cX10_formulasWith 10 = .ok (.invokevirtual 48, 3) := by decide +kernel
theorem dX10_formulasWith_13 : decode cX10_formulasWith 13 = .ok (.ireturn, 1) := by decide +kernel
theorem dX10_formulasWith_14 : decode cX10_formulasWith 14 = .ok (.iload_n 2, 1) := by decide +kernel
theorem dX10_formulasWith_15 : decode cX10_formulasWith 15 = .ok (.invokestatic 77, 3) := by decide +kernel
theorem dX10_formulasWith_18 : decode cX10_formulasWith 18 = .ok (.ifCond .ne 9, 3) := by decide +kernel
theorem dX10_formulasWith_21 : decode cX10_formulasWith 21 = .ok (.aload_n 0, 1) := by decide +kernel
theorem dX10_formulasWith_22 : decode cX10_formulasWith 22 = .ok (.iconst 2, 1) := by decide +kernel
theorem dX10_formulasWith_23 : decode cX10_formulasWith 23 = .ok (.invokevirtual 48, 3) := by decide +kernel
theorem dX10_formulasWith_26 : decode cX10_formulasWith 26 = .ok (.ireturn, 1) := by decide +kernel
theorem dX10_formulasWith_27 : decode cX10_formulasWith 27 = .ok (.iconst 0, 1) := by decide +kernel
theorem dX10_formulasWith_28 : decode cX10_formulasWith 28 = .ok (.istore_n 3, 1) := by decide +kernel
theorem dX10_formulasWith_29 : decode cX10_formulasWith 29 = .ok (.iconst 0, 1) := by decide +kernel
theorem dX10_formulasWith_30 : decode cX10_formulasWith 30 = .ok (.istore 4, 2) := by decide +kernel
theorem dX10_formulasWith_32 : decode cX10_formulasWith 32 = .ok (.iload 4, 2) := by decide +kernel
theorem dX10_formulasWith_34 : decode cX10_formulasWith 34 = .ok (.aload_n 0, 1) := by decide +kernel
theorem dX10_formulasWith_35 : decode cX10_formulasWith 35 = .ok (.getfield 9, 3) := by decide +kernel
theorem dX10_formulasWith_38 : decode cX10_formulasWith 38 = .ok (.iconst 3, 1) := by decide +kernel
theorem dX10_formulasWith_39 : decode cX10_formulasWith 39 = .ok (.iaload, 1) := by decide +kernel
theorem dX10_formulasWith_40 : decode cX10_formulasWith 40 = .ok (.if_icmp .ge 36, 3) := by decide +kernel
theorem dX10_formulasWith_43 : decode cX10_formulasWith 43 = .ok (.iload_n 3, 1) := by decide +kernel
theorem dX10_formulasWith_44 : decode cX10_formulasWith 44 = .ok (.aload_n 0, 1) := by decide +kernel
theorem dX10_formulasWith_45 : decode cX10_formulasWith 45 = .ok (.iload 4, 2) := by decide +kernel
theorem dX10_formulasWith_47 : decode cX10_formulasWith 47 = .ok (.iload_n 1, 1) := by decide +kernel
theorem dX10_formulasWith_48 : decode cX10_formulasWith 48 = .ok (.iload_n 2, 1) := by decide +kernel
theorem dX10_formulasWith_49 : decode cX10_formulasWith 49 = .ok (.invokevirtual 171, 3) := by decide +kernel
theorem dX10_formulasWith_52 : decode cX10_formulasWith 52 = .ok (.ifCond .eq 15, 3) := by decide +kernel
theorem dX10_formulasWith_55 : decode cX10_formulasWith 55 = .ok (.iconst 1, 1) := by decide +kernel
theorem dX10_formulasWith_56 : decode cX10_formulasWith 56 = .ok (.aload_n 0, 1) := by decide +kernel
theorem dX10_formulasWith_57 : decode cX10_formulasWith 57 = .ok (.iload 4, 2) := by decide +kernel
theorem dX10_formulasWith_59 : decode cX10_formulasWith 59 = .ok (.iconst 0, 1) := by decide +kernel
theorem dX10_formulasWith_60 : decode cX10_formulasWith 60 = .ok (.invokevirtual 129, 3) := by decide +kernel
theorem dX10_formulasWith_63 : decode cX10_formulasWith 63 = .ok (.ishl, 1) := by decide +kernel
theorem dX10_formulasWith_64 : decode cX10_formulasWith 64 = .ok (.goto 4, 3) := by decide +kernel
theorem dX10_formulasWith_67 : decode cX10_formulasWith 67 = .ok (.iconst 0, 1) := by decide +kernel
theorem dX10_formulasWith_68 : decode cX10_formulasWith 68 = .ok (.ior, 1) := by decide +kernel
theorem dX10_formulasWith_69 : decode cX10_formulasWith 69 = .ok (.istore_n 3, 1) := by decide +kernel
theorem dX10_formulasWith_70 : decode cX10_formulasWith 70 = .ok (.iinc 4 1, 3) := by decide +kernel
theorem dX10_formulasWith_73 : decode cX10_formulasWith 73 = .ok (.goto (-41), 3) := by decide +kernel
theorem dX10_formulasWith_76 : decode cX10_formulasWith 76 = .ok (.aload_n 0, 1) := by decide +kernel
theorem dX10_formulasWith_77 : decode cX10_formulasWith 77 = .ok (.iload_n 3, 1) := by decide +kernel
theorem dX10_formulasWith_78 : decode cX10_formulasWith 78 = .ok (.invokevirtual 66, 3) := by decide +kernel
theorem dX10_formulasWith_81 : decode cX10_formulasWith 81 = .ok (.ireturn, 1) := by decide +kernel
theorem dX10_writesLetter_0 : decode cX10_writesLetter 0 = .ok (.aload_n 0, 1) := by decide +kernel
theorem dX10_writesLetter_1 : decode cX10_writesLetter 1 = .ok (.getfield 39, 3) := by decide +kernel
theorem dX10_writesLetter_4 : decode cX10_writesLetter 4 = .ok (.aload_n 0, 1) := by decide +kernel
theorem dX10_writesLetter_5 : decode cX10_writesLetter 5 = .ok (.getfield 174, 3) := by decide +kernel
theorem dX10_writesLetter_8 : decode cX10_writesLetter 8 = .ok (.iload_n 1, 1) := by decide +kernel
theorem dX10_writesLetter_9 : decode cX10_writesLetter 9 = .ok (.castore, 1) := by decide +kernel
theorem dX10_writesLetter_10 : decode cX10_writesLetter 10 = .ok (.aload_n 0, 1) := by decide +kernel
theorem dX10_writesLetter_11 : decode cX10_writesLetter 11 = .ok (.dup, 1) := by decide +kernel
theorem dX10_writesLetter_12 : decode cX10_writesLetter 12 = .ok (.getfield 174, 3) := by decide +kernel
theorem dX10_writesLetter_15 : decode cX10_writesLetter 15 = .ok (.iconst 1, 1) := by decide +kernel
theorem dX10_writesLetter_16 : decode cX10_writesLetter 16 = .ok (.iadd, 1) := by decide +kernel
theorem dX10_writesLetter_17 : decode cX10_writesLetter 17 = .ok (.putfield 174, 3) := by decide +kernel
theorem dX10_writesLetter_20 : decode cX10_writesLetter 20 = .ok (.return_, 1) := by decide +kernel
theorem dX10_writesNumber_0 : decode cX10_writesNumber 0 = .ok (.iconst 1, 1) := by decide +kernel
theorem dX10_writesNumber_1 : decode cX10_writesNumber 1 = .ok (.istore_n 2, 1) := by decide +kernel
theorem dX10_writesNumber_2 : decode cX10_writesNumber 2 = .ok (.iload_n 2, 1) := by decide +kernel
theorem dX10_writesNumber_3 : decode cX10_writesNumber 3 = .ok (.bipush 10, 2) := by decide +kernel
theorem dX10_writesNumber_5 : decode cX10_writesNumber 5 = .ok (.imul, 1) := by decide +kernel
theorem dX10_writesNumber_6 : decode cX10_writesNumber 6 = .ok (.iload_n 1, 1) := by decide +kernel
theorem dX10_writesNumber_7 : decode cX10_writesNumber 7 = .ok (.if_icmp .gt 11, 3) := by decide +kernel
theorem dX10_writesNumber_10 : decode cX10_writesNumber 10 = .ok (.iload_n 2, 1) := by decide +kernel
theorem dX10_writesNumber_11 : decode cX10_writesNumber 11 = .ok (.bipush 10, 2) := by decide +kernel
theorem dX10_writesNumber_13 : decode cX10_writesNumber 13 = .ok (.imul, 1) := by decide +kernel
theorem dX10_writesNumber_14 : decode cX10_writesNumber 14 = .ok (.istore_n 2, 1) := by decide +kernel
theorem dX10_writesNumber_15 : decode cX10_writesNumber 15 = .ok (.goto (-13), 3) := by decide +kernel
theorem dX10_writesNumber_18 : decode cX10_writesNumber 18 = .ok (.iload_n 2, 1) := by decide +kernel
theorem dX10_writesNumber_19 : decode cX10_writesNumber 19 = .ok (.istore_n 3, 1) := by decide +kernel
theorem dX10_writesNumber_20 : decode cX10_writesNumber 20 = .ok (.iload_n 3, 1) := by decide +kernel
theorem dX10_writesNumber_21 : decode cX10_writesNumber 21 = .ok (.ifCond .le 25, 3) := by decide +kernel
theorem dX10_writesNumber_24 : decode cX10_writesNumber 24 = .ok (.aload_n 0, 1) := by decide +kernel
theorem dX10_writesNumber_25 : decode cX10_writesNumber 25 = .ok (.bipush 48, 2) := by decide +kernel
theorem dX10_writesNumber_27 : decode cX10_writesNumber 27 = .ok (.iload_n 1, 1) := by decide +kernel
theorem dX10_writesNumber_28 : decode cX10_writesNumber 28 = .ok (.iload_n 3, 1) := by decide +kernel
theorem dX10_writesNumber_29 : decode cX10_writesNumber 29 = .ok (.idiv, 1) := by decide +kernel
theorem dX10_writesNumber_30 : decode cX10_writesNumber 30 = .ok (.bipush 10, 2) := by decide +kernel
theorem dX10_writesNumber_32 : decode cX10_writesNumber 32 = .ok (.irem, 1) := by decide +kernel
theorem dX10_writesNumber_33 : decode cX10_writesNumber 33 = .ok (.iadd, 1) := by decide +kernel
theorem dX10_writesNumber_34 : decode cX10_writesNumber 34 = .ok (.i2c, 1) := by decide +kernel
theorem dX10_writesNumber_35 : decode cX10_writesNumber 35 = .ok (.invokevirtual 177, 3) := by decide +kernel
theorem dX10_writesNumber_38 : decode cX10_writesNumber 38 = .ok (.iload_n 3, 1) := by decide +kernel
theorem dX10_writesNumber_39 : decode cX10_writesNumber 39 = .ok (.bipush 10, 2) := by decide +kernel
theorem dX10_writesNumber_41 : decode cX10_writesNumber 41 = .ok (.idiv, 1) := by decide +kernel
theorem dX10_writesNumber_42 : decode cX10_writesNumber 42 = .ok (.istore_n 3, 1) := by decide +kernel
theorem dX10_writesNumber_43 : decode cX10_writesNumber 43 = .ok (.goto (-23), 3) := by decide +kernel
theorem dX10_writesNumber_46 : decode cX10_writesNumber 46 = .ok (.return_, 1) := by decide +kernel
theorem dX10_writes_0 : decode cX10_writes 0 = .ok (.aload_n 0, 1) := by decide +kernel
theorem dX10_writes_1 : decode cX10_writes 1 = .ok (.iconst 0, 1) := by decide +kernel
theorem dX10_writes_2 : decode cX10_writes 2 = .ok (.putfield 174, 3) := by decide +kernel
theorem dX10_writes_5 : decode cX10_writes 5 = .ok (.aload_n 0, 1) := by decide +kernel
theorem dX10_writes_6 : decode cX10_writes 6 = .ok (.bipush 98, 2) := by decide +kernel
theorem dX10_writes_8 : decode cX10_writes 8 = .ok (.invokevirtual 177, 3) := by decide +kernel
theorem dX10_writes_11 : decode cX10_writes 11 = .ok (.aload_n 0, 1) := by decide +kernel
theorem dX10_writes_12 : decode cX10_writes 12 = .ok (.aload_n 0, 1) := by decide +kernel
theorem dX10_writes_13 : decode cX10_writes 13 = .ok (.iload_n 1, 1) := by decide +kernel
theorem dX10_writes_14 : decode cX10_writes 14 = .ok (.iconst 1, 1) := by decide +kernel
theorem dX10_writes_15 : decode cX10_writes 15 = .ok (.invokevirtual 129, 3) := by decide +kernel
theorem dX10_writes_18 : decode cX10_writes 18 = .ok (.invokevirtual 180, 3) := by decide +kernel
theorem dX10_writes_21 : decode cX10_writes 21 = .ok (.iconst 0, 1) := by decide +kernel
theorem dX10_writes_22 : decode cX10_writes 22 = .ok (.istore_n 2, 1) := by decide +kernel
theorem dX10_writes_23 : decode cX10_writes 23 = .ok (.iload_n 2, 1) := by decide +kernel
theorem dX10_writes_24 : decode cX10_writes 24 = .ok (.aload_n 0, 1) := by decide +kernel
theorem dX10_writes_25 : decode cX10_writes 25 = .ok (.getfield 9, 3) := by decide +kernel
theorem dX10_writes_28 : decode cX10_writes 28 = .ok (.iconst 0, 1) := by decide +kernel
theorem dX10_writes_29 : decode cX10_writes 29 = .ok (.iaload, 1) := by decide +kernel
theorem dX10_writes_30 : decode cX10_writes 30 = .ok (.if_icmp .ge 84, 3) := by decide +kernel
theorem dX10_writes_33 : decode cX10_writes 33 = .ok (.aload_n 0, 1) := by decide +kernel
theorem dX10_writes_34 : decode cX10_writes 34 = .ok (.iload_n 1, 1) := by decide +kernel
theorem dX10_writes_35 : decode cX10_writes 35 = .ok (.iconst 2, 1) := by decide +kernel
theorem dX10_writes_36 : decode cX10_writes 36 = .ok (.iload_n 2, 1) := by decide +kernel
theorem dX10_writes_37 : decode cX10_writes 37 = .ok (.iadd, 1) := by decide +kernel
theorem dX10_writes_38 : decode cX10_writes 38 = .ok (.invokevirtual 129, 3) := by decide +kernel
theorem dX10_writes_41 : decode cX10_writes 41 = .ok (.ifCond .le 67, 3) := by decide +kernel
theorem dX10_writes_44 : decode cX10_writes 44 = .ok (.aload_n 0, 1) := by decide +kernel
theorem dX10_writes_45 : decode cX10_writes 45 = .ok (.bipush 44, 2) := by decide +kernel
theorem dX10_writes_47 : decode cX10_writes 47 = .ok (.invokevirtual 177, 3) := by decide +kernel
theorem dX10_writes_50 : decode cX10_writes 50 = .ok (.aload_n 0, 1) := by decide +kernel
theorem dX10_writes_51 : decode cX10_writes 51 = .ok (.iload_n 2, 1) := by decide +kernel
theorem dX10_writes_52 : decode cX10_writes 52 = .ok (.invokevirtual 180, 3) := by decide +kernel
theorem dX10_writes_55 : decode cX10_writes 55 = .ok (.aload_n 0, 1) := by decide +kernel
theorem dX10_writes_56 : decode cX10_writes 56 = .ok (.bipush 61, 2) := by decide +kernel
theorem dX10_writes_58 : decode cX10_writes 58 = .ok (.invokevirtual 177, 3) := by decide +kernel
theorem dX10_writes_61 : decode cX10_writes 61 = .ok (.aload_n 0, 1) := by decide +kernel
theorem dX10_writes_62 : decode cX10_writes 62 = .ok (.aload_n 0, 1) := by decide +kernel
theorem dX10_writes_63 : decode cX10_writes 63 = .ok (.iload_n 1, 1) := by decide +kernel
theorem dX10_writes_64 : decode cX10_writes 64 = .ok (.iconst 2, 1) := by decide +kernel
theorem dX10_writes_65 : decode cX10_writes 65 = .ok (.iload_n 2, 1) := by decide +kernel
theorem dX10_writes_66 : decode cX10_writes 66 = .ok (.iadd, 1) := by decide +kernel
theorem dX10_writes_67 : decode cX10_writes 67 = .ok (.invokevirtual 129, 3) := by decide +kernel
theorem dX10_writes_70 : decode cX10_writes 70 = .ok (.invokevirtual 180, 3) := by decide +kernel
theorem dX10_writes_73 : decode cX10_writes 73 = .ok (.iconst 0, 1) := by decide +kernel
theorem dX10_writes_74 : decode cX10_writes 74 = .ok (.istore_n 3, 1) := by decide +kernel
theorem dX10_writes_75 : decode cX10_writes 75 = .ok (.iload_n 3, 1) := by decide +kernel
theorem dX10_writes_76 : decode cX10_writes 76 = .ok (.bipush 100, 2) := by decide +kernel
theorem dX10_writes_78 : decode cX10_writes 78 = .ok (.if_icmp .ge 30, 3) := by decide +kernel
theorem dX10_writes_81 : decode cX10_writes 81 = .ok (.aload_n 0, 1) := by decide +kernel
theorem dX10_writes_82 : decode cX10_writes 82 = .ok (.iload_n 1, 1) := by decide +kernel
theorem dX10_writes_83 : decode cX10_writes 83 = .ok (.iload_n 2, 1) := by decide +kernel
theorem dX10_writes_84 : decode cX10_writes 84 = .ok (.iload_n 3, 1) := by decide +kernel
theorem dX10_writes_85 : decode cX10_writes 85 = .ok (.invokevirtual 171, 3) := by decide +kernel
theorem dX10_writes_88 : decode cX10_writes 88 = .ok (.ifCond .eq 14, 3) := by decide +kernel
theorem dX10_writes_91 : decode cX10_writes 91 = .ok (.aload_n 0, 1) := by decide +kernel
theorem dX10_writes_92 : decode cX10_writes 92 = .ok (.bipush 58, 2) := by decide +kernel
theorem dX10_writes_94 : decode cX10_writes 94 = .ok (.invokevirtual 177, 3) := by decide +kernel
theorem dX10_writes_97 : decode cX10_writes 97 = .ok (.aload_n 0, 1) := by decide +kernel
theorem dX10_writes_98 : decode cX10_writes 98 = .ok (.iload_n 3, 1) := by decide +kernel
theorem dX10_writes_99 : decode cX10_writes 99 = .ok (.invokevirtual 180, 3) := by decide +kernel
theorem dX10_writes_102 : decode cX10_writes 102 = .ok (.iinc 3 1, 3) := by decide +kernel
theorem dX10_writes_105 : decode cX10_writes 105 = .ok (.goto (-30), 3) := by decide +kernel
theorem dX10_writes_108 : decode cX10_writes 108 = .ok (.iinc 2 1, 3) := by decide +kernel
theorem dX10_writes_111 : decode cX10_writes 111 = .ok (.goto (-88), 3) := by decide +kernel
theorem dX10_writes_114 : decode cX10_writes 114 = .ok (.aload_n 0, 1) := by decide +kernel
theorem dX10_writes_115 : decode cX10_writes 115 = .ok (.iload_n 1, 1) := by decide +kernel
theorem dX10_writes_116 : decode cX10_writes 116 = .ok (.bipush 10, 2) := by decide +kernel
theorem dX10_writes_118 : decode cX10_writes 118 = .ok (.invokevirtual 129, 3) := by decide +kernel
theorem dX10_writes_121 : decode cX10_writes 121 = .ok (.ifCond .le 20, 3) := by decide +kernel
theorem dX10_writes_124 : decode cX10_writes 124 = .ok (.aload_n 0, 1) := by decide +kernel
theorem dX10_writes_125 : decode cX10_writes 125 = .ok (.bipush 43, 2) := by decide +kernel
theorem dX10_writes_127 : decode cX10_writes 127 = .ok (.invokevirtual 177, 3) := by decide +kernel
theorem dX10_writes_130 : decode cX10_writes 130 = .ok (.aload_n 0, 1) := by decide +kernel
theorem dX10_writes_131 : decode cX10_writes 131 = .ok (.aload_n 0, 1) := by decide +kernel
theorem dX10_writes_132 : decode cX10_writes 132 = .ok (.iload_n 1, 1) := by decide +kernel
theorem dX10_writes_133 : decode cX10_writes 133 = .ok (.bipush 11, 2) := by decide +kernel
theorem dX10_writes_135 : decode cX10_writes 135 = .ok (.invokevirtual 129, 3) := by decide +kernel
theorem dX10_writes_138 : decode cX10_writes 138 = .ok (.invokevirtual 180, 3) := by decide +kernel
theorem dX10_writes_141 : decode cX10_writes 141 = .ok (.return_, 1) := by decide +kernel
theorem dX10_labelLength_0 : decode cX10_labelLength 0 = .ok (.aload_n 0, 1) := by decide +kernel
theorem dX10_labelLength_1 : decode cX10_labelLength 1 = .ok (.iload_n 1, 1) := by decide +kernel
theorem dX10_labelLength_2 : decode cX10_labelLength 2 = .ok (.invokevirtual 126, 3) := by decide +kernel
theorem dX10_labelLength_5 : decode cX10_labelLength 5 = .ok (.ifCond .ne 9, 3) := by decide +kernel
theorem dX10_labelLength_8 : decode cX10_labelLength 8 = .ok (.aload_n 0, 1) := by decide +kernel
theorem dX10_labelLength_9 : decode cX10_labelLength 9 = .ok (.iconst 1, 1) := by decide +kernel
theorem dX10_labelLength_10 : decode cX10_labelLength 10 = .ok (.invokevirtual 48, 3) := by decide +kernel
theorem dX10_labelLength_13 : decode cX10_labelLength 13 = .ok (.ireturn, 1) := by decide +kernel
theorem dX10_labelLength_14 : decode cX10_labelLength 14 = .ok (.aload_n 0, 1) := by decide +kernel
theorem dX10_labelLength_15 : decode cX10_labelLength 15 = .ok (.iload_n 1, 1) := by decide +kernel
theorem dX10_labelLength_16 : decode cX10_labelLength 16 = .ok (.invokevirtual 184, 3) := by decide +kernel
theorem dX10_labelLength_19 : decode cX10_labelLength 19 = .ok (.aload_n 0, 1) := by decide +kernel
theorem dX10_labelLength_20 : decode cX10_labelLength 20 = .ok (.aload_n 0, 1) := by decide +kernel
theorem dX10_labelLength_21 : decode cX10_labelLength 21 = .ok (.getfield 174, 3) := by decide +kernel
theorem dX10_labelLength_24 : decode cX10_labelLength 24 = .ok (.invokevirtual 66, 3) := by decide +kernel
theorem dX10_labelLength_27 : decode cX10_labelLength 27 = .ok (.ireturn, 1) := by decide +kernel
theorem dX10_label_0 : decode cX10_label 0 = .ok (.aload_n 0, 1) := by decide +kernel
theorem dX10_label_1 : decode cX10_label 1 = .ok (.iload_n 1, 1) := by decide +kernel
theorem dX10_label_2 : decode cX10_label 2 = .ok (.invokevirtual 126, 3) := by decide +kernel
theorem dX10_label_5 : decode cX10_label 5 = .ok (.ifCond .ne 10, 3) := by decide +kernel
theorem dX10_label_8 : decode cX10_label 8 = .ok (.aload_n 0, 1) := by decide +kernel
theorem dX10_label_9 : decode cX10_label 9 = .ok (.iconst 1, 1) := by decide +kernel
theorem dX10_label_10 : decode cX10_label 10 = .ok (.invokevirtual 48, 3) := by decide +kernel
theorem dX10_label_13 : decode cX10_label 13 = .ok (.i2c, 1) := by decide +kernel
theorem dX10_label_14 : decode cX10_label 14 = .ok (.ireturn, 1) := by decide +kernel
theorem dX10_label_15 : decode cX10_label 15 = .ok (.aload_n 0, 1) := by decide +kernel
theorem dX10_label_16 : decode cX10_label 16 = .ok (.iload_n 1, 1) := by decide +kernel
theorem dX10_label_17 : decode cX10_label 17 = .ok (.invokevirtual 184, 3) := by decide +kernel
theorem dX10_label_20 : decode cX10_label 20 = .ok (.iload_n 2, 1) := by decide +kernel
theorem dX10_label_21 : decode cX10_label 21 = .ok (.iconst 0, 1) := by decide +kernel
theorem dX10_label_22 : decode cX10_label 22 = .ok (.aload_n 0, 1) := by decide +kernel
theorem dX10_label_23 : decode cX10_label 23 = .ok (.getfield 174, 3) := by decide +kernel
theorem dX10_label_26 : decode cX10_label 26 = .ok (.iconst 1, 1) := by decide +kernel
theorem dX10_label_27 : decode cX10_label 27 = .ok (.isub, 1) := by decide +kernel
theorem dX10_label_28 : decode cX10_label 28 = .ok (.invokestatic 59, 3) := by decide +kernel
theorem dX10_label_31 : decode cX10_label 31 = .ok (.ifCond .ne 10, 3) := by decide +kernel
theorem dX10_label_34 : decode cX10_label 34 = .ok (.aload_n 0, 1) := by decide +kernel
theorem dX10_label_35 : decode cX10_label 35 = .ok (.iconst 2, 1) := by decide +kernel
theorem dX10_label_36 : decode cX10_label 36 = .ok (.invokevirtual 48, 3) := by decide +kernel
theorem dX10_label_39 : decode cX10_label 39 = .ok (.i2c, 1) := by decide +kernel
theorem dX10_label_40 : decode cX10_label 40 = .ok (.ireturn, 1) := by decide +kernel
theorem dX10_label_41 : decode cX10_label 41 = .ok (.aload_n 0, 1) := by decide +kernel
theorem dX10_label_42 : decode cX10_label 42 = .ok (.iconst 0, 1) := by decide +kernel
theorem dX10_label_43 : decode cX10_label 43 = .ok (.putfield 42, 3) := by decide +kernel
theorem dX10_label_46 : decode cX10_label 46 = .ok (.aload_n 0, 1) := by decide +kernel
theorem dX10_label_47 : decode cX10_label 47 = .ok (.getfield 39, 3) := by decide +kernel
theorem dX10_label_50 : decode cX10_label 50 = .ok (.iload_n 2, 1) := by decide +kernel
theorem dX10_label_51 : decode cX10_label 51 = .ok (.caload, 1) := by decide +kernel
theorem dX10_label_52 : decode cX10_label 52 = .ok (.ireturn, 1) := by decide +kernel
theorem dX10_meanSteps_0 : decode cX10_meanSteps 0 = .ok (.aload_n 0, 1) := by decide +kernel
theorem dX10_meanSteps_1 : decode cX10_meanSteps 1 = .ok (.iload_n 1, 1) := by decide +kernel
theorem dX10_meanSteps_2 : decode cX10_meanSteps 2 = .ok (.invokevirtual 123, 3) := by decide +kernel
theorem dX10_meanSteps_5 : decode cX10_meanSteps 5 = .ok (.ifCond .ne 10, 3) := by decide +kernel
theorem dX10_meanSteps_8 : decode cX10_meanSteps 8 = .ok (.aload_n 0, 1) := by decide +kernel
theorem dX10_meanSteps_9 : decode cX10_meanSteps 9 = .ok (.iconst 1, 1) := by decide +kernel
theorem dX10_meanSteps_10 : decode cX10_meanSteps 10 = .ok (.putfield 42, 3) := by decide +kernel
theorem dX10_meanSteps_13 : decode cX10_meanSteps 13 = .ok (.dconst 0, 1) := by decide +kernel
theorem dX10_meanSteps_14 : decode cX10_meanSteps 14 = .ok (.dreturn, 1) := by decide +kernel
theorem dX10_meanSteps_15 : decode cX10_meanSteps 15 = .ok (.iconst 0, 1) := by decide +kernel
theorem dX10_meanSteps_16 : decode cX10_meanSteps 16 = .ok (.istore_n 2, 1) := by decide +kernel
theorem dX10_meanSteps_17 : decode cX10_meanSteps 17 = .ok (.iconst 0, 1) := by decide +kernel
theorem dX10_meanSteps_18 : decode cX10_meanSteps 18 = .ok (.istore_n 3, 1) := by decide +kernel
theorem dX10_meanSteps_19 : decode cX10_meanSteps 19 = .ok (.iconst 0, 1) := by decide +kernel
theorem dX10_meanSteps_20 : decode cX10_meanSteps 20 = .ok (.istore 4, 2) := by decide +kernel
theorem dX10_meanSteps_22 : decode cX10_meanSteps 22 = .ok (.iload 4, 2) := by decide +kernel
theorem dX10_meanSteps_24 : decode cX10_meanSteps 24 = .ok (.aload_n 0, 1) := by decide +kernel
theorem dX10_meanSteps_25 : decode cX10_meanSteps 25 = .ok (.getfield 9, 3) := by decide +kernel
theorem dX10_meanSteps_28 : decode cX10_meanSteps 28 = .ok (.iconst 3, 1) := by decide +kernel
theorem dX10_meanSteps_29 : decode cX10_meanSteps 29 = .ok (.iaload, 1) := by decide +kernel
theorem dX10_meanSteps_30 : decode cX10_meanSteps 30 = .ok (.if_icmp .ge 58, 3) := by decide +kernel
theorem dX10_meanSteps_33 : decode cX10_meanSteps 33 = .ok (.aload_n 0, 1) := by decide +kernel
theorem dX10_meanSteps_34 : decode cX10_meanSteps 34 = .ok (.iload 4, 2) := by decide +kernel
theorem dX10_meanSteps_36 : decode cX10_meanSteps 36 = .ok (.iconst 0, 1) := by decide +kernel
theorem dX10_meanSteps_37 : decode cX10_meanSteps 37 = .ok (.invokevirtual 129, 3) := by decide +kernel
theorem dX10_meanSteps_40 : decode cX10_meanSteps 40 = .ok (.iload_n 1, 1) := by decide +kernel
theorem dX10_meanSteps_41 : decode cX10_meanSteps 41 = .ok (.if_icmp .ne 7, 3) := by decide +kernel
theorem dX10_meanSteps_44 : decode cX10_meanSteps 44 = .ok (.iconst 1, 1) := by decide +kernel
theorem dX10_meanSteps_45 : decode cX10_meanSteps 45 = .ok (.goto 4, 3) := by decide +kernel
theorem dX10_meanSteps_48 : decode cX10_meanSteps 48 = .ok (.iconst 0, 1) := by decide +kernel
theorem dX10_meanSteps_49 : decode cX10_meanSteps 49 = .ok (.istore 5, 2) := by decide +kernel
theorem dX10_meanSteps_51 : decode cX10_meanSteps 51 = .ok (.iload_n 2, 1) := by decide +kernel
theorem dX10_meanSteps_52 : decode cX10_meanSteps 52 = .ok (.iload 5, 2) := by decide +kernel
theorem dX10_meanSteps_54 : decode cX10_meanSteps 54 = .ok (.ifCond .eq 12, 3) := by decide +kernel
theorem dX10_meanSteps_57 : decode cX10_meanSteps 57 = .ok (.aload_n 0, 1) := by decide +kernel
theorem dX10_meanSteps_58 : decode cX10_meanSteps 58 = .ok (.iload 4, 2) := by decide +kernel
theorem dX10_meanSteps_60 : decode cX10_meanSteps 60 = .ok (.invokevirtual 151, 3) := by decide +kernel
theorem dX10_meanSteps_63 : decode cX10_meanSteps 63 = .ok (.goto 4, 3) := by decide +kernel
theorem dX10_meanSteps_66 : decode cX10_meanSteps 66 = .ok (.iconst 0, 1) := by decide +kernel
theorem dX10_meanSteps_67 : decode cX10_meanSteps 67 = .ok (.iadd, 1) := by decide +kernel
theorem dX10_meanSteps_68 : decode cX10_meanSteps 68 = .ok (.istore_n 2, 1) := by decide +kernel
theorem dX10_meanSteps_69 : decode cX10_meanSteps 69 = .ok (.iload_n 3, 1) := by decide +kernel
theorem dX10_meanSteps_70 : decode cX10_meanSteps 70 = .ok (.iload 5, 2) := by decide +kernel
theorem dX10_meanSteps_72 : decode cX10_meanSteps 72 = .ok (.ifCond .eq 7, 3) := by decide +kernel
theorem dX10_meanSteps_75 : decode cX10_meanSteps 75 = .ok (.iconst 1, 1) := by decide +kernel
theorem dX10_meanSteps_76 : decode cX10_meanSteps 76 = .ok (.goto 4, 3) := by decide +kernel
theorem dX10_meanSteps_79 : decode cX10_meanSteps 79 = .ok (.iconst 0, 1) := by decide +kernel
theorem dX10_meanSteps_80 : decode cX10_meanSteps 80 = .ok (.iadd, 1) := by decide +kernel
theorem dX10_meanSteps_81 : decode cX10_meanSteps 81 = .ok (.istore_n 3, 1) := by decide +kernel
theorem dX10_meanSteps_82 : decode cX10_meanSteps 82 = .ok (.iinc 4 1, 3) := by decide +kernel
theorem dX10_meanSteps_85 : decode cX10_meanSteps 85 = .ok (.goto (-63), 3) := by decide +kernel
theorem dX10_meanSteps_88 : decode cX10_meanSteps 88 = .ok (.iload_n 3, 1) := by decide +kernel
theorem dX10_meanSteps_89 : decode cX10_meanSteps 89 = .ok (.ifCond .ne 10, 3) := by decide +kernel
theorem dX10_meanSteps_92 : decode cX10_meanSteps 92 = .ok (.aload_n 0, 1) := by decide +kernel
theorem dX10_meanSteps_93 : decode cX10_meanSteps 93 = .ok (.iconst 2, 1) := by decide +kernel
theorem dX10_meanSteps_94 : decode cX10_meanSteps 94 = .ok (.putfield 42, 3) := by decide +kernel
theorem dX10_meanSteps_97 : decode cX10_meanSteps 97 = .ok (.dconst 0, 1) := by decide +kernel
theorem dX10_meanSteps_98 : decode cX10_meanSteps 98 = .ok (.dreturn, 1) := by decide +kernel
theorem dX10_meanSteps_99 : decode cX10_meanSteps 99 = .ok (.aload_n 0, 1) := by decide +kernel
theorem dX10_meanSteps_100 : decode cX10_meanSteps 100 = .ok (.iconst 0, 1) := by decide +kernel
theorem dX10_meanSteps_101 : decode cX10_meanSteps 101 = .ok (.putfield 42, 3) := by decide +kernel
theorem dX10_meanSteps_104 : decode cX10_meanSteps 104 = .ok (.iload_n 2, 1) := by decide +kernel
theorem dX10_meanSteps_105 : decode cX10_meanSteps 105 = .ok (.i2d, 1) := by decide +kernel
theorem dX10_meanSteps_106 : decode cX10_meanSteps 106 = .ok (.iload_n 3, 1) := by decide +kernel
theorem dX10_meanSteps_107 : decode cX10_meanSteps 107 = .ok (.i2d, 1) := by decide +kernel
theorem dX10_meanSteps_108 : decode cX10_meanSteps 108 = .ok (.ddiv, 1) := by decide +kernel
theorem dX10_meanSteps_109 : decode cX10_meanSteps 109 = .ok (.dreturn, 1) := by decide +kernel
theorem dX10_sumOf_0 : decode cX10_sumOf 0 = .ok (.iconst 0, 1) := by decide +kernel
theorem dX10_sumOf_1 : decode cX10_sumOf 1 = .ok (.istore_n 2, 1) := by decide +kernel
theorem dX10_sumOf_2 : decode cX10_sumOf 2 = .ok (.iconst 0, 1) := by decide +kernel
theorem dX10_sumOf_3 : decode cX10_sumOf 3 = .ok (.istore_n 3, 1) := by decide +kernel
theorem dX10_sumOf_4 : decode cX10_sumOf 4 = .ok (.iload_n 3, 1) := by decide +kernel
theorem dX10_sumOf_5 : decode cX10_sumOf 5 = .ok (.aload_n 0, 1) := by decide +kernel
theorem dX10_sumOf_6 : decode cX10_sumOf 6 = .ok (.getfield 9, 3) := by decide +kernel
theorem dX10_sumOf_9 : decode cX10_sumOf 9 = .ok (.iconst 0, 1) := by decide +kernel
theorem dX10_sumOf_10 : decode cX10_sumOf 10 = .ok (.iaload, 1) := by decide +kernel
theorem dX10_sumOf_11 : decode cX10_sumOf 11 = .ok (.if_icmp .ge 73, 3) := by decide +kernel
theorem dX10_sumOf_14 : decode cX10_sumOf 14 = .ok (.iload_n 2, 1) := by decide +kernel
theorem dX10_sumOf_15 : decode cX10_sumOf 15 = .ok (.iload_n 1, 1) := by decide +kernel
theorem dX10_sumOf_16 : decode cX10_sumOf 16 = .ok (.iconst 4, 1) := by decide +kernel
theorem dX10_sumOf_17 : decode cX10_sumOf 17 = .ok (.if_icmp .ne 11, 3) := by decide +kernel
theorem dX10_sumOf_20 : decode cX10_sumOf 20 = .ok (.aload_n 0, 1) := by decide +kernel
theorem dX10_sumOf_21 : decode cX10_sumOf 21 = .ok (.iload_n 3, 1) := by decide +kernel
theorem dX10_sumOf_22 : decode cX10_sumOf 22 = .ok (.invokevirtual 83, 3) := by decide +kernel
theorem dX10_sumOf_25 : decode cX10_sumOf 25 = .ok (.goto 51, 3) := by decide +kernel
theorem dX10_sumOf_28 : decode cX10_sumOf 28 = .ok (.iload_n 1, 1) := by decide +kernel
theorem dX10_sumOf_29 : decode cX10_sumOf 29 = .ok (.bipush 6, 2) := by decide +kernel
theorem dX10_sumOf_31 : decode cX10_sumOf 31 = .ok (.if_icmp .ne 12, 3) := by decide +kernel
theorem dX10_sumOf_34 : decode cX10_sumOf 34 = .ok (.aload_n 0, 1) := by decide +kernel
theorem dX10_sumOf_35 : decode cX10_sumOf 35 = .ok (.iload_n 3, 1) := by decide +kernel
theorem dX10_sumOf_36 : decode cX10_sumOf 36 = .ok (.iconst 4, 1) := by decide +kernel
theorem dX10_sumOf_37 : decode cX10_sumOf 37 = .ok (.invokevirtual 69, 3) := by decide +kernel
theorem dX10_sumOf_40 : decode cX10_sumOf 40 = .ok (.goto 36, 3) := by decide +kernel
theorem dX10_sumOf_43 : decode cX10_sumOf 43 = .ok (.iload_n 1, 1) := by decide +kernel
theorem dX10_sumOf_44 : decode cX10_sumOf 44 = .ok (.bipush 7, 2) := by decide +kernel
theorem dX10_sumOf_46 : decode cX10_sumOf 46 = .ok (.if_icmp .ne 13, 3) := by decide +kernel
theorem dX10_sumOf_49 : decode cX10_sumOf 49 = .ok (.aload_n 0, 1) := by decide +kernel
theorem dX10_sumOf_50 : decode cX10_sumOf 50 = .ok (.iload_n 3, 1) := by decide +kernel
theorem dX10_sumOf_51 : decode cX10_sumOf 51 = .ok (.bipush 6, 2) := by decide +kernel
theorem dX10_sumOf_53 : decode cX10_sumOf 53 = .ok (.invokevirtual 69, 3) := by decide +kernel
theorem dX10_sumOf_56 : decode cX10_sumOf 56 = .ok (.goto 20, 3) := by decide +kernel
theorem dX10_sumOf_59 : decode cX10_sumOf 59 = .ok (.iload_n 1, 1) := by decide +kernel
theorem dX10_sumOf_60 : decode cX10_sumOf 60 = .ok (.bipush 11, 2) := by decide +kernel
theorem dX10_sumOf_62 : decode cX10_sumOf 62 = .ok (.if_icmp .ne 13, 3) := by decide +kernel
theorem dX10_sumOf_65 : decode cX10_sumOf 65 = .ok (.aload_n 0, 1) := by decide +kernel
theorem dX10_sumOf_66 : decode cX10_sumOf 66 = .ok (.iload_n 3, 1) := by decide +kernel
theorem dX10_sumOf_67 : decode cX10_sumOf 67 = .ok (.bipush 43, 2) := by decide +kernel
theorem dX10_sumOf_69 : decode cX10_sumOf 69 = .ok (.invokevirtual 69, 3) := by decide +kernel
theorem dX10_sumOf_72 : decode cX10_sumOf 72 = .ok (.goto 4, 3) := by decide +kernel
theorem dX10_sumOf_75 : decode cX10_sumOf 75 = .ok (.iconst 0, 1) := by decide +kernel
theorem dX10_sumOf_76 : decode cX10_sumOf 76 = .ok (.iadd, 1) := by decide +kernel
theorem dX10_sumOf_77 : decode cX10_sumOf 77 = .ok (.istore_n 2, 1) := by decide +kernel
theorem dX10_sumOf_78 : decode cX10_sumOf 78 = .ok (.iinc 3 1, 3) := by decide +kernel
theorem dX10_sumOf_81 : decode cX10_sumOf 81 = .ok (.goto (-77), 3) := by decide +kernel
theorem dX10_sumOf_84 : decode cX10_sumOf 84 = .ok (.iconst 0, 1) := by decide +kernel
theorem dX10_sumOf_85 : decode cX10_sumOf 85 = .ok (.istore_n 3, 1) := by decide +kernel
theorem dX10_sumOf_86 : decode cX10_sumOf 86 = .ok (.iload_n 3, 1) := by decide +kernel
theorem dX10_sumOf_87 : decode cX10_sumOf 87 = .ok (.aload_n 0, 1) := by decide +kernel
theorem dX10_sumOf_88 : decode cX10_sumOf 88 = .ok (.getfield 9, 3) := by decide +kernel
theorem dX10_sumOf_91 : decode cX10_sumOf 91 = .ok (.iconst 1, 1) := by decide +kernel
theorem dX10_sumOf_92 : decode cX10_sumOf 92 = .ok (.iaload, 1) := by decide +kernel
theorem dX10_sumOf_93 : decode cX10_sumOf 93 = .ok (.if_icmp .ge 24, 3) := by decide +kernel
theorem dX10_sumOf_96 : decode cX10_sumOf 96 = .ok (.iload_n 1, 1) := by decide +kernel
theorem dX10_sumOf_97 : decode cX10_sumOf 97 = .ok (.bipush 8, 2) := by decide +kernel
theorem dX10_sumOf_99 : decode cX10_sumOf 99 = .ok (.if_icmp .ne 18, 3) := by decide +kernel
theorem dX10_sumOf_102 : decode cX10_sumOf 102 = .ok (.iload_n 2, 1) := by decide +kernel
theorem dX10_sumOf_103 : decode cX10_sumOf 103 = .ok (.aload_n 0, 1) := by decide +kernel
theorem dX10_sumOf_104 : decode cX10_sumOf 104 = .ok (.iload_n 3, 1) := by decide +kernel
theorem dX10_sumOf_105 : decode cX10_sumOf 105 = .ok (.iconst 4, 1) := by decide +kernel
theorem dX10_sumOf_106 : decode cX10_sumOf 106 = .ok (.invokevirtual 93, 3) := by decide +kernel
theorem dX10_sumOf_109 : decode cX10_sumOf 109 = .ok (.iadd, 1) := by decide +kernel
theorem dX10_sumOf_110 : decode cX10_sumOf 110 = .ok (.istore_n 2, 1) := by decide +kernel
theorem dX10_sumOf_111 : decode cX10_sumOf 111 = .ok (.iinc 3 1, 3) := by decide +kernel
theorem dX10_sumOf_114 : decode cX10_sumOf 114 = .ok (.goto (-28), 3) := by decide +kernel
theorem dX10_sumOf_117 : decode cX10_sumOf 117 = .ok (.iconst 0, 1) := by decide +kernel
theorem dX10_sumOf_118 : decode cX10_sumOf 118 = .ok (.istore_n 3, 1) := by decide +kernel
theorem dX10_sumOf_119 : decode cX10_sumOf 119 = .ok (.iload_n 3, 1) := by decide +kernel
theorem dX10_sumOf_120 : decode cX10_sumOf 120 = .ok (.aload_n 0, 1) := by decide +kernel
theorem dX10_sumOf_121 : decode cX10_sumOf 121 = .ok (.getfield 9, 3) := by decide +kernel
theorem dX10_sumOf_124 : decode cX10_sumOf 124 = .ok (.iconst 3, 1) := by decide +kernel
theorem dX10_sumOf_125 : decode cX10_sumOf 125 = .ok (.iaload, 1) := by decide +kernel
theorem dX10_sumOf_126 : decode cX10_sumOf 126 = .ok (.if_icmp .ge 42, 3) := by decide +kernel
theorem dX10_sumOf_129 : decode cX10_sumOf 129 = .ok (.iload_n 2, 1) := by decide +kernel
theorem dX10_sumOf_130 : decode cX10_sumOf 130 = .ok (.iload_n 1, 1) := by decide +kernel
theorem dX10_sumOf_131 : decode cX10_sumOf 131 = .ok (.iconst 5, 1) := by decide +kernel
theorem dX10_sumOf_132 : decode cX10_sumOf 132 = .ok (.if_icmp .ne 11, 3) := by decide +kernel
theorem dX10_sumOf_135 : decode cX10_sumOf 135 = .ok (.aload_n 0, 1) := by decide +kernel
theorem dX10_sumOf_136 : decode cX10_sumOf 136 = .ok (.iload_n 3, 1) := by decide +kernel
theorem dX10_sumOf_137 : decode cX10_sumOf 137 = .ok (.invokevirtual 151, 3) := by decide +kernel
theorem dX10_sumOf_140 : decode cX10_sumOf 140 = .ok (.goto 20, 3) := by decide +kernel
theorem dX10_sumOf_143 : decode cX10_sumOf 143 = .ok (.iload_n 1, 1) := by decide +kernel
theorem dX10_sumOf_144 : decode cX10_sumOf 144 = .ok (.bipush 9, 2) := by decide +kernel
theorem dX10_sumOf_146 : decode cX10_sumOf 146 = .ok (.if_icmp .ne 13, 3) := by decide +kernel
theorem dX10_sumOf_149 : decode cX10_sumOf 149 = .ok (.aload_n 0, 1) := by decide +kernel
theorem dX10_sumOf_150 : decode cX10_sumOf 150 = .ok (.iload_n 3, 1) := by decide +kernel
theorem dX10_sumOf_151 : decode cX10_sumOf 151 = .ok (.bipush 10, 2) := by decide +kernel
theorem dX10_sumOf_153 : decode cX10_sumOf 153 = .ok (.invokevirtual 129, 3) := by decide +kernel
theorem dX10_sumOf_156 : decode cX10_sumOf 156 = .ok (.goto 4, 3) := by decide +kernel
theorem dX10_sumOf_159 : decode cX10_sumOf 159 = .ok (.iconst 0, 1) := by decide +kernel
theorem dX10_sumOf_160 : decode cX10_sumOf 160 = .ok (.iadd, 1) := by decide +kernel
theorem dX10_sumOf_161 : decode cX10_sumOf 161 = .ok (.istore_n 2, 1) := by decide +kernel
theorem dX10_sumOf_162 : decode cX10_sumOf 162 = .ok (.iinc 3 1, 3) := by decide +kernel
theorem dX10_sumOf_165 : decode cX10_sumOf 165 = .ok (.goto (-46), 3) := by decide +kernel
theorem dX10_sumOf_168 : decode cX10_sumOf 168 = .ok (.iconst 0, 1) := by decide +kernel
theorem dX10_sumOf_169 : decode cX10_sumOf 169 = .ok (.istore_n 3, 1) := by decide +kernel
theorem dX10_sumOf_170 : decode cX10_sumOf 170 = .ok (.iload_n 3, 1) := by decide +kernel
theorem dX10_sumOf_171 : decode cX10_sumOf 171 = .ok (.aload_n 0, 1) := by decide +kernel
theorem dX10_sumOf_172 : decode cX10_sumOf 172 = .ok (.getfield 9, 3) := by decide +kernel
theorem dX10_sumOf_175 : decode cX10_sumOf 175 = .ok (.iconst 2, 1) := by decide +kernel
theorem dX10_sumOf_176 : decode cX10_sumOf 176 = .ok (.iaload, 1) := by decide +kernel
theorem dX10_sumOf_177 : decode cX10_sumOf 177 = .ok (.if_icmp .ge 53, 3) := by decide +kernel
theorem dX10_sumOf_180 : decode cX10_sumOf 180 = .ok (.iload_n 1, 1) := by decide +kernel
theorem dX10_sumOf_181 : decode cX10_sumOf 181 = .ok (.bipush 10, 2) := by decide +kernel
theorem dX10_sumOf_183 : decode cX10_sumOf 183 = .ok (.if_icmp .ne 47, 3) := by decide +kernel
theorem dX10_sumOf_186 : decode cX10_sumOf 186 = .ok (.iconst 0, 1) := by decide +kernel
theorem dX10_sumOf_187 : decode cX10_sumOf 187 = .ok (.istore 4, 2) := by decide +kernel
theorem dX10_sumOf_189 : decode cX10_sumOf 189 = .ok (.iload 4, 2) := by decide +kernel
theorem dX10_sumOf_191 : decode cX10_sumOf 191 = .ok (.bipush 8, 2) := by decide +kernel
theorem dX10_sumOf_193 : decode cX10_sumOf 193 = .ok (.if_icmp .ge 31, 3) := by decide +kernel
theorem dX10_sumOf_196 : decode cX10_sumOf 196 = .ok (.iload_n 2, 1) := by decide +kernel
theorem dX10_sumOf_197 : decode cX10_sumOf 197 = .ok (.aload_n 0, 1) := by decide +kernel
theorem dX10_sumOf_198 : decode cX10_sumOf 198 = .ok (.getfield 9, 3) := by decide +kernel
theorem dX10_sumOf_201 : decode cX10_sumOf 201 = .ok (.sipush 409, 3) := by decide +kernel
theorem dX10_sumOf_204 : decode cX10_sumOf 204 = .ok (.bipush 17, 2) := by decide +kernel
theorem dX10_sumOf_206 : decode cX10_sumOf 206 = .ok (.iload_n 3, 1) := by decide +kernel
theorem dX10_sumOf_207 : decode cX10_sumOf 207 = .ok (.imul, 1) := by decide +kernel
theorem dX10_sumOf_208 : decode cX10_sumOf 208 = .ok (.iadd, 1) := by decide +kernel
theorem dX10_sumOf_209 : decode cX10_sumOf 209 = .ok (.bipush 9, 2) := by decide +kernel
theorem dX10_sumOf_211 : decode cX10_sumOf 211 = .ok (.iadd, 1) := by decide +kernel
theorem dX10_sumOf_212 : decode cX10_sumOf 212 = .ok (.iload 4, 2) := by decide +kernel
theorem dX10_sumOf_214 : decode cX10_sumOf 214 = .ok (.iadd, 1) := by decide +kernel
theorem dX10_sumOf_215 : decode cX10_sumOf 215 = .ok (.iaload, 1) := by decide +kernel
theorem dX10_sumOf_216 : decode cX10_sumOf 216 = .ok (.iadd, 1) := by decide +kernel
theorem dX10_sumOf_217 : decode cX10_sumOf 217 = .ok (.istore_n 2, 1) := by decide +kernel
theorem dX10_sumOf_218 : decode cX10_sumOf 218 = .ok (.iinc 4 1, 3) := by decide +kernel
theorem dX10_sumOf_221 : decode cX10_sumOf 221 = .ok (.goto (-32), 3) := by decide +kernel
theorem dX10_sumOf_224 : decode cX10_sumOf 224 = .ok (.iinc 3 1, 3) := by decide +kernel
theorem dX10_sumOf_227 : decode cX10_sumOf 227 = .ok (.goto (-57), 3) := by decide +kernel
theorem dX10_sumOf_230 : decode cX10_sumOf 230 = .ok (.iload_n 2, 1) := by decide +kernel
theorem dX10_sumOf_231 : decode cX10_sumOf 231 = .ok (.ireturn, 1) := by decide +kernel
theorem dX10_account_0 : decode cX10_account 0 = .ok (.iload_n 1, 1) := by decide +kernel
theorem dX10_account_1 : decode cX10_account 1 = .ok (.iconst 0, 1) := by decide +kernel
theorem dX10_account_2 : decode cX10_account 2 = .ok (.bipush 12, 2) := by decide +kernel
theorem dX10_account_4 : decode cX10_account 4 = .ok (.invokestatic 59, 3) := by decide +kernel
theorem dX10_account_7 : decode cX10_account 7 = .ok (.ifCond .ne 9, 3) := by decide +kernel
theorem dX10_account_10 : decode cX10_account 10 = .ok (.aload_n 0, 1) := by decide +kernel
theorem dX10_account_11 : decode cX10_account 11 = .ok (.iconst 1, 1) := by decide +kernel
theorem dX10_account_12 : decode cX10_account 12 = .ok (.invokevirtual 48, 3) := by decide +kernel
theorem dX10_account_15 : decode cX10_account 15 = .ok (.ireturn, 1) := by decide +kernel
theorem dX10_account_16 : decode cX10_account 16 = .ok (.aload_n 0, 1) := by decide +kernel
theorem dX10_account_17 : decode cX10_account 17 = .ok (.iload_n 1, 1) := by decide +kernel
theorem dX10_account_18 : decode cX10_account 18 = .ok (.iconst 4, 1) := by decide +kernel
theorem dX10_account_19 : decode cX10_account 19 = .ok (.if_icmp .ge 12, 3) := by decide +kernel
theorem dX10_account_22 : decode cX10_account 22 = .ok (.aload_n 0, 1) := by decide +kernel
theorem dX10_account_23 : decode cX10_account 23 = .ok (.getfield 9, 3) := by decide +kernel
theorem dX10_account_26 : decode cX10_account 26 = .ok (.iload_n 1, 1) := by decide +kernel
theorem dX10_account_27 : decode cX10_account 27 = .ok (.iaload, 1) := by decide +kernel
theorem dX10_account_28 : decode cX10_account 28 = .ok (.goto 23, 3) := by decide +kernel
theorem dX10_account_31 : decode cX10_account 31 = .ok (.iload_n 1, 1) := by decide +kernel
theorem dX10_account_32 : decode cX10_account 32 = .ok (.bipush 12, 2) := by decide +kernel
theorem dX10_account_34 : decode cX10_account 34 = .ok (.if_icmp .ne 12, 3) := by decide +kernel
theorem dX10_account_37 : decode cX10_account 37 = .ok (.aload_n 0, 1) := by decide +kernel
theorem dX10_account_38 : decode cX10_account 38 = .ok (.getfield 9, 3) := by decide +kernel
theorem dX10_account_41 : decode cX10_account 41 = .ok (.iconst 4, 1) := by decide +kernel
theorem dX10_account_42 : decode cX10_account 42 = .ok (.iaload, 1) := by decide +kernel
theorem dX10_account_43 : decode cX10_account 43 = .ok (.goto 8, 3) := by decide +kernel
theorem dX10_account_46 : decode cX10_account 46 = .ok (.aload_n 0, 1) := by decide +kernel
theorem dX10_account_47 : decode cX10_account 47 = .ok (.iload_n 1, 1) := by decide +kernel
theorem dX10_account_48 : decode cX10_account 48 = .ok (.invokevirtual 187, 3) := by decide +kernel
theorem dX10_account_51 : decode cX10_account 51 = .ok (.invokevirtual 66, 3) := by decide +kernel
theorem dX10_account_54 : decode cX10_account 54 = .ok (.ireturn, 1) := by decide +kernel
theorem dX10_undo_0 : decode cX10_undo 0 = .ok (.aload_n 0, 1) := by decide +kernel
theorem dX10_undo_1 : decode cX10_undo 1 = .ok (.getfield 52, 3) := by decide +kernel
theorem dX10_undo_4 : decode cX10_undo 4 = .ok (.ifCond .ne 9, 3) := by decide +kernel
theorem dX10_undo_7 : decode cX10_undo 7 = .ok (.aload_n 0, 1) := by decide +kernel
theorem dX10_undo_8 : decode cX10_undo 8 = .ok (.iconst 1, 1) := by decide +kernel
theorem dX10_undo_9 : decode cX10_undo 9 = .ok (.invokevirtual 48, 3) := by decide +kernel
theorem dX10_undo_12 : decode cX10_undo 12 = .ok (.ireturn, 1) := by decide +kernel
theorem dX10_undo_13 : decode cX10_undo 13 = .ok (.aload_n 0, 1) := by decide +kernel
theorem dX10_undo_14 : decode cX10_undo 14 = .ok (.dup, 1) := by decide +kernel
theorem dX10_undo_15 : decode cX10_undo 15 = .ok (.getfield 52, 3) := by decide +kernel
theorem dX10_undo_18 : decode cX10_undo 18 = .ok (.iconst 1, 1) := by decide +kernel
theorem dX10_undo_19 : decode cX10_undo 19 = .ok (.isub, 1) := by decide +kernel
theorem dX10_undo_20 : decode cX10_undo 20 = .ok (.putfield 52, 3) := by decide +kernel
theorem dX10_undo_23 : decode cX10_undo 23 = .ok (.aload_n 0, 1) := by decide +kernel
theorem dX10_undo_24 : decode cX10_undo 24 = .ok (.getfield 13, 3) := by decide +kernel
theorem dX10_undo_27 : decode cX10_undo 27 = .ok (.aload_n 0, 1) := by decide +kernel
theorem dX10_undo_28 : decode cX10_undo 28 = .ok (.getfield 52, 3) := by decide +kernel
theorem dX10_undo_31 : decode cX10_undo 31 = .ok (.sipush 1460, 3) := by decide +kernel
theorem dX10_undo_34 : decode cX10_undo 34 = .ok (.imul, 1) := by decide +kernel
theorem dX10_undo_35 : decode cX10_undo 35 = .ok (.aload_n 0, 1) := by decide +kernel
theorem dX10_undo_36 : decode cX10_undo 36 = .ok (.getfield 9, 3) := by decide +kernel
theorem dX10_undo_39 : decode cX10_undo 39 = .ok (.iconst 0, 1) := by decide +kernel
theorem dX10_undo_40 : decode cX10_undo 40 = .ok (.invokestatic 55, 3) := by decide +kernel
theorem dX10_undo_43 : decode cX10_undo 43 = .ok (.aload_n 0, 1) := by decide +kernel
theorem dX10_undo_44 : decode cX10_undo 44 = .ok (.aload_n 0, 1) := by decide +kernel
theorem dX10_undo_45 : decode cX10_undo 45 = .ok (.getfield 52, 3) := by decide +kernel
theorem dX10_undo_48 : decode cX10_undo 48 = .ok (.invokevirtual 66, 3) := by decide +kernel
theorem dX10_undo_51 : decode cX10_undo 51 = .ok (.ireturn, 1) := by decide +kernel
theorem dX10_save_0 : decode cX10_save 0 = .ok (.aload_n 0, 1) := by decide +kernel
theorem dX10_save_1 : decode cX10_save 1 = .ok (.getfield 9, 3) := by decide +kernel
theorem dX10_save_4 : decode cX10_save 4 = .ok (.iconst 0, 1) := by decide +kernel
theorem dX10_save_5 : decode cX10_save 5 = .ok (.aload_n 0, 1) := by decide +kernel
theorem dX10_save_6 : decode cX10_save 6 = .ok (.getfield 16, 3) := by decide +kernel
theorem dX10_save_9 : decode cX10_save 9 = .ok (.iconst 0, 1) := by decide +kernel
theorem dX10_save_10 : decode cX10_save 10 = .ok (.invokestatic 55, 3) := by decide +kernel
theorem dX10_save_13 : decode cX10_save 13 = .ok (.aload_n 0, 1) := by decide +kernel
theorem dX10_save_14 : decode cX10_save 14 = .ok (.iconst 1, 1) := by decide +kernel
theorem dX10_save_15 : decode cX10_save 15 = .ok (.putfield 190, 3) := by decide +kernel
theorem dX10_save_18 : decode cX10_save 18 = .ok (.aload_n 0, 1) := by decide +kernel
theorem dX10_save_19 : decode cX10_save 19 = .ok (.iconst 0, 1) := by decide +kernel
theorem dX10_save_20 : decode cX10_save 20 = .ok (.putfield 42, 3) := by decide +kernel
theorem dX10_save_23 : decode cX10_save 23 = .ok (.return_, 1) := by decide +kernel
theorem dX10_restore_0 : decode cX10_restore 0 = .ok (.aload_n 0, 1) := by decide +kernel
theorem dX10_restore_1 : decode cX10_restore 1 = .ok (.getfield 190, 3) := by decide +kernel
theorem dX10_restore_4 : decode cX10_restore 4 = .ok (.ifCond .ne 9, 3) := by decide +kernel
theorem dX10_restore_7 : decode cX10_restore 7 = .ok (.aload_n 0, 1) := by decide +kernel
theorem dX10_restore_8 : decode cX10_restore 8 = .ok (.iconst 1, 1) := by decide +kernel
theorem dX10_restore_9 : decode cX10_restore 9 = .ok (.putfield 42, 3) := by decide +kernel
theorem dX10_restore_12 : decode cX10_restore 12 = .ok (.return_, 1) := by decide +kernel
theorem dX10_restore_13 : decode cX10_restore 13 = .ok (.aload_n 0, 1) := by decide +kernel
theorem dX10_restore_14 : decode cX10_restore 14 = .ok (.getfield 16, 3) := by decide +kernel
theorem dX10_restore_17 : decode cX10_restore 17 = .ok (.iconst 0, 1) := by decide +kernel
theorem dX10_restore_18 : decode cX10_restore 18 = .ok (.aload_n 0, 1) := by decide +kernel
theorem dX10_restore_19 : decode cX10_restore 19 = .ok (.getfield 9, 3) := by decide +kernel
theorem dX10_restore_22 : decode cX10_restore 22 = .ok (.iconst 0, 1) := by decide +kernel
theorem dX10_restore_23 : decode cX10_restore 23 = .ok (.invokestatic 55, 3) := by decide +kernel
theorem dX10_restore_26 : decode cX10_restore 26 = .ok (.aload_n 0, 1) := by decide +kernel
theorem dX10_restore_27 : decode cX10_restore 27 = .ok (.iconst 0, 1) := by decide +kernel
theorem dX10_restore_28 : decode cX10_restore 28 = .ok (.putfield 52, 3) := by decide +kernel
theorem dX10_restore_31 : decode cX10_restore 31 = .ok (.aload_n 0, 1) := by decide +kernel
theorem dX10_restore_32 : decode cX10_restore 32 = .ok (.iconst 0, 1) := by decide +kernel
theorem dX10_restore_33 : decode cX10_restore 33 = .ok (.putfield 42, 3) := by decide +kernel
theorem dX10_restore_36 : decode cX10_restore 36 = .ok (.return_, 1) := by decide +kernel
