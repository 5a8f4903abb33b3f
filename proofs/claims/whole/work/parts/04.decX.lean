theorem dX0_init_0 : decode cX0_init 0 = .ok (.aload_n 0, 1) := by decide +kernel
theorem dX0_init_1 : decode cX0_init 1 = .ok (.invokespecial 3, 3) := by decide +kernel
theorem dX0_init_4 : decode cX0_init 4 = .ok (.aload_n 0, 1) := by decide +kernel
theorem dX0_init_5 : decode cX0_init 5 = .ok (.iconst 3, 1) := by decide +kernel
theorem dX0_init_6 : decode cX0_init 6 = .ok (.newarray .int, 2) := by decide +kernel
theorem dX0_init_8 : decode cX0_init 8 = .ok (.putfield 9, 3) := by decide +kernel
theorem dX0_init_11 : decode cX0_init 11 = .ok (.aload_n 0, 1) := by decide +kernel
theorem dX0_init_12 : decode cX0_init 12 = .ok (.iconst 0, 1) := by decide +kernel
theorem dX0_init_13 : decode cX0_init 13 = .ok (.putfield 15, 3) := by decide +kernel
theorem dX0_init_16 : decode cX0_init 16 = .ok (.aload_n 0, 1) := by decide +kernel
theorem dX0_init_17 : decode cX0_init 17 = .ok (.iconst 0, 1) := by decide +kernel
theorem dX0_init_18 : decode cX0_init 18 = .ok (.putfield 19, 3) := by decide +kernel
theorem dX0_init_21 : decode cX0_init 21 = .ok (.return_, 1) := by decide +kernel
theorem dX0_copyFrom_0 : decode cX0_copyFrom 0 = .ok (.aload_n 1, 1) := by decide +kernel
theorem dX0_copyFrom_1 : decode cX0_copyFrom 1 = .ok (.getfield 9, 3) := by decide +kernel
theorem dX0_copyFrom_4 : decode cX0_copyFrom 4 = .ok (.iconst 0, 1) := by decide +kernel
theorem dX0_copyFrom_5 : decode cX0_copyFrom 5 = .ok (.aload_n 0, 1) := by decide +kernel
theorem dX0_copyFrom_6 : decode cX0_copyFrom 6 = .ok (.getfield 9, 3) := by decide +kernel
theorem dX0_copyFrom_9 : decode cX0_copyFrom 9 = .ok (.iconst 0, 1) := by decide +kernel
theorem dX0_copyFrom_10 : decode cX0_copyFrom 10 = .ok (.iconst 3, 1) := by decide +kernel
theorem dX0_copyFrom_11 : decode cX0_copyFrom 11 = .ok (.invokestatic 22, 3) := by decide +kernel
theorem dX0_copyFrom_14 : decode cX0_copyFrom 14 = .ok (.aload_n 0, 1) := by decide +kernel
theorem dX0_copyFrom_15 : decode cX0_copyFrom 15 = .ok (.aload_n 1, 1) := by decide +kernel
theorem dX0_copyFrom_16 : decode cX0_copyFrom 16 = .ok (.getfield 15, 3) := by decide +kernel
theorem dX0_copyFrom_19 : decode cX0_copyFrom 19 = .ok (.putfield 15, 3) := by decide +kernel
theorem dX0_copyFrom_22 : decode cX0_copyFrom 22 = .ok (.aload_n 0, 1) := by decide +kernel
theorem dX0_copyFrom_23 : decode cX0_copyFrom 23 = .ok (.aload_n 1, 1) := by decide +kernel
theorem dX0_copyFrom_24 : decode cX0_copyFrom 24 = .ok (.getfield 19, 3) := by decide +kernel
theorem dX0_copyFrom_27 : decode cX0_copyFrom 27 = .ok (.putfield 19, 3) := by decide +kernel
theorem dX0_copyFrom_30 : decode cX0_copyFrom 30 = .ok (.return_, 1) := by decide +kernel
theorem dX1_init_0 : decode cX1_init 0 = .ok (.aload_n 0, 1) := by decide +kernel
theorem dX1_init_1 : decode cX1_init 1 = .ok (.invokespecial 3, 3) := by decide +kernel
theorem dX1_init_4 : decode cX1_init 4 = .ok (.aload_n 0, 1) := by decide +kernel
theorem dX1_init_5 : decode cX1_init 5 = .ok (.iconst 0, 1) := by decide +kernel
theorem dX1_init_6 : decode cX1_init 6 = .ok (.putfield 9, 3) := by decide +kernel
theorem dX1_init_9 : decode cX1_init 9 = .ok (.aload_n 0, 1) := by decide +kernel
theorem dX1_init_10 : decode cX1_init 10 = .ok (.iconst 0, 1) := by decide +kernel
theorem dX1_init_11 : decode cX1_init 11 = .ok (.putfield 15, 3) := by decide +kernel
theorem dX1_init_14 : decode cX1_init 14 = .ok (.aload_n 0, 1) := by decide +kernel
theorem dX1_init_15 : decode cX1_init 15 = .ok (.iconst 0, 1) := by decide +kernel
theorem dX1_init_16 : decode cX1_init 16 = .ok (.putfield 18, 3) := by decide +kernel
theorem dX1_init_19 : decode cX1_init 19 = .ok (.aload_n 0, 1) := by decide +kernel
theorem dX1_init_20 : decode cX1_init 20 = .ok (.iconst 0, 1) := by decide +kernel
theorem dX1_init_21 : decode cX1_init 21 = .ok (.putfield 21, 3) := by decide +kernel
theorem dX1_init_24 : decode cX1_init 24 = .ok (.aload_n 0, 1) := by decide +kernel
theorem dX1_init_25 : decode cX1_init 25 = .ok (.bipush 8, 2) := by decide +kernel
theorem dX1_init_27 : decode cX1_init 27 = .ok (.newarray .int, 2) := by decide +kernel
theorem dX1_init_29 : decode cX1_init 29 = .ok (.putfield 24, 3) := by decide +kernel
theorem dX1_init_32 : decode cX1_init 32 = .ok (.aload_n 0, 1) := by decide +kernel
theorem dX1_init_33 : decode cX1_init 33 = .ok (.bipush 16, 2) := by decide +kernel
theorem dX1_init_35 : decode cX1_init 35 = .ok (.newarray .long, 2) := by decide +kernel
theorem dX1_init_37 : decode cX1_init 37 = .ok (.putfield 28, 3) := by decide +kernel
theorem dX1_init_40 : decode cX1_init 40 = .ok (.return_, 1) := by decide +kernel
theorem dX1_copyFrom_0 : decode cX1_copyFrom 0 = .ok (.aload_n 0, 1) := by decide +kernel
theorem dX1_copyFrom_1 : decode cX1_copyFrom 1 = .ok (.aload_n 1, 1) := by decide +kernel
theorem dX1_copyFrom_2 : decode cX1_copyFrom 2 = .ok (.getfield 9, 3) := by decide +kernel
theorem dX1_copyFrom_5 : decode cX1_copyFrom 5 = .ok (.putfield 9, 3) := by decide +kernel
theorem dX1_copyFrom_8 : decode cX1_copyFrom 8 = .ok (.aload_n 0, 1) := by decide +kernel
theorem dX1_copyFrom_9 : decode cX1_copyFrom 9 = .ok (.aload_n 1, 1) := by decide +kernel
theorem dX1_copyFrom_10 : decode cX1_copyFrom 10 = .ok (.getfield 15, 3) := by decide +kernel
theorem dX1_copyFrom_13 : decode cX1_copyFrom 13 = .ok (.putfield 15, 3) := by decide +kernel
theorem dX1_copyFrom_16 : decode cX1_copyFrom 16 = .ok (.aload_n 0, 1) := by decide +kernel
theorem dX1_copyFrom_17 : decode cX1_copyFrom 17 = .ok (.aload_n 1, 1) := by decide +kernel
theorem dX1_copyFrom_18 : decode cX1_copyFrom 18 = .ok (.getfield 18, 3) := by decide +kernel
theorem dX1_copyFrom_21 : decode cX1_copyFrom 21 = .ok (.putfield 18, 3) := by decide +kernel
theorem dX1_copyFrom_24 : decode cX1_copyFrom 24 = .ok (.aload_n 0, 1) := by decide +kernel
theorem dX1_copyFrom_25 : decode cX1_copyFrom 25 = .ok (.aload_n 1, 1) := by decide +kernel
theorem dX1_copyFrom_26 : decode cX1_copyFrom 26 = .ok (.getfield 21, 3) := by decide +kernel
theorem dX1_copyFrom_29 : decode cX1_copyFrom 29 = .ok (.putfield 21, 3) := by decide +kernel
theorem dX1_copyFrom_32 : decode cX1_copyFrom 32 = .ok (.aload_n 1, 1) := by decide +kernel
theorem dX1_copyFrom_33 : decode cX1_copyFrom 33 = .ok (.getfield 24, 3) := by decide +kernel
theorem dX1_copyFrom_36 : decode cX1_copyFrom 36 = .ok (.iconst 0, 1) := by decide +kernel
theorem dX1_copyFrom_37 : decode cX1_copyFrom 37 = .ok (.aload_n 0, 1) := by decide +kernel
theorem dX1_copyFrom_38 : decode cX1_copyFrom 38 = .ok (.getfield 24, 3) := by decide +kernel
theorem dX1_copyFrom_41 : decode cX1_copyFrom 41 = .ok (.iconst 0, 1) := by decide +kernel
theorem dX1_copyFrom_42 : decode cX1_copyFrom 42 = .ok (.bipush 8, 2) := by decide +kernel
theorem dX1_copyFrom_44 : decode cX1_copyFrom 44 = .ok (.invokestatic 32, 3) := by decide +kernel
theorem dX1_copyFrom_47 : decode cX1_copyFrom 47 = .ok (.aload_n 1, 1) := by decide +kernel
theorem dX1_copyFrom_48 : decode cX1_copyFrom 48 = .ok (.getfield 28, 3) := by decide +kernel
theorem dX1_copyFrom_51 : decode cX1_copyFrom 51 = .ok (.iconst 0, 1) := by decide +kernel
theorem dX1_copyFrom_52 : decode cX1_copyFrom 52 = .ok (.aload_n 0, 1) := by decide +kernel
theorem dX1_copyFrom_53 : decode cX1_copyFrom 53 = .ok (.getfield 28, 3) := by decide +kernel
theorem dX1_copyFrom_56 : decode cX1_copyFrom 56 = .ok (.iconst 0, 1) := by decide +kernel
theorem dX1_copyFrom_57 : decode cX1_copyFrom 57 = .ok (.bipush 16, 2) := by decide +kernel
theorem dX1_copyFrom_59 : decode cX1_copyFrom 59 = .ok (.invokestatic 32, 3) := by decide +kernel
theorem dX1_copyFrom_62 : decode cX1_copyFrom 62 = .ok (.return_, 1) := by decide +kernel
theorem dX1_noteLot_0 : decode cX1_noteLot 0 = .ok (.aload_n 0, 1) := by decide +kernel
theorem dX1_noteLot_1 : decode cX1_noteLot 1 = .ok (.getfield 28, 3) := by decide +kernel
theorem dX1_noteLot_4 : decode cX1_noteLot 4 = .ok (.iload_n 1, 1) := by decide +kernel
theorem dX1_noteLot_5 : decode cX1_noteLot 5 = .ok (.iconst 2, 1) := by decide +kernel
theorem dX1_noteLot_6 : decode cX1_noteLot 6 = .ok (.imul, 1) := by decide +kernel
theorem dX1_noteLot_7 : decode cX1_noteLot 7 = .ok (.iload_n 2, 1) := by decide +kernel
theorem dX1_noteLot_8 : decode cX1_noteLot 8 = .ok (.bipush 64, 2) := by decide +kernel
theorem dX1_noteLot_10 : decode cX1_noteLot 10 = .ok (.idiv, 1) := by decide +kernel
theorem dX1_noteLot_11 : decode cX1_noteLot 11 = .ok (.iadd, 1) := by decide +kernel
theorem dX1_noteLot_12 : decode cX1_noteLot 12 = .ok (.dup2, 1) := by decide +kernel
theorem dX1_noteLot_13 : decode cX1_noteLot 13 = .ok (.laload, 1) := by decide +kernel
theorem dX1_noteLot_14 : decode cX1_noteLot 14 = .ok (.lconst 1, 1) := by decide +kernel
theorem dX1_noteLot_15 : decode cX1_noteLot 15 = .ok (.iload_n 2, 1) := by decide +kernel
theorem dX1_noteLot_16 : decode cX1_noteLot 16 = .ok (.bipush 64, 2) := by decide +kernel
theorem dX1_noteLot_18 : decode cX1_noteLot 18 = .ok (.irem, 1) := by decide +kernel
theorem dX1_noteLot_19 : decode cX1_noteLot 19 = .ok (.lshl, 1) := by decide +kernel
theorem dX1_noteLot_20 : decode cX1_noteLot 20 = .ok (.lor, 1) := by decide +kernel
theorem dX1_noteLot_21 : decode cX1_noteLot 21 = .ok (.lastore, 1) := by decide +kernel
theorem dX1_noteLot_22 : decode cX1_noteLot 22 = .ok (.return_, 1) := by decide +kernel
theorem dX1_holdsLot_0 : decode cX1_holdsLot 0 = .ok (.aload_n 0, 1) := by decide +kernel
theorem dX1_holdsLot_1 : decode cX1_holdsLot 1 = .ok (.getfield 28, 3) := by decide +kernel
theorem dX1_holdsLot_4 : decode cX1_holdsLot 4 = .ok (.iload_n 1, 1) := by decide +kernel
theorem dX1_holdsLot_5 : decode cX1_holdsLot 5 = .ok (.iconst 2, 1) := by decide +kernel
theorem dX1_holdsLot_6 : decode cX1_holdsLot 6 = .ok (.imul, 1) := by decide +kernel
theorem dX1_holdsLot_7 : decode cX1_holdsLot 7 = .ok (.iload_n 2, 1) := by decide +kernel
theorem dX1_holdsLot_8 : decode cX1_holdsLot 8 = .ok (.bipush 64, 2) := by decide +kernel
theorem dX1_holdsLot_10 : decode cX1_holdsLot 10 = .ok (.idiv, 1) := by decide +kernel
theorem dX1_holdsLot_11 : decode cX1_holdsLot 11 = .ok (.iadd, 1) := by decide +kernel
theorem dX1_holdsLot_12 : decode cX1_holdsLot 12 = .ok (.laload, 1) := by decide +kernel
theorem dX1_holdsLot_13 : decode cX1_holdsLot 13 = .ok (.lstore_n 3, 1) := by decide +kernel
theorem dX1_holdsLot_14 : decode cX1_holdsLot 14 = .ok (.lload_n 3, 1) := by decide +kernel
theorem dX1_holdsLot_15 : decode cX1_holdsLot 15 = .ok (.iload_n 2, 1) := by decide +kernel
theorem dX1_holdsLot_16 : decode cX1_holdsLot 16 = .ok (.bipush 64, 2) := by decide +kernel
theorem dX1_holdsLot_18 : decode cX1_holdsLot 18 = .ok (.irem, 1) := by decide +kernel
theorem dX1_holdsLot_19 : decode cX1_holdsLot 19 = .ok (.lushr, 1) := by decide +kernel
theorem dX1_holdsLot_20 : decode cX1_holdsLot 20 = .ok (.lconst 1, 1) := by decide +kernel
theorem dX1_holdsLot_21 : decode cX1_holdsLot 21 = .ok (.land, 1) := by decide +kernel
theorem dX1_holdsLot_22 : decode cX1_holdsLot 22 = .ok (.lconst 1, 1) := by decide +kernel
theorem dX1_holdsLot_23 : decode cX1_holdsLot 23 = .ok (.lcmp, 1) := by decide +kernel
theorem dX1_holdsLot_24 : decode cX1_holdsLot 24 = .ok (.ifCond .ne 7, 3) := by decide +kernel
theorem dX1_holdsLot_27 : decode cX1_holdsLot 27 = .ok (.iconst 1, 1) := by decide +kernel
theorem dX1_holdsLot_28 : decode cX1_holdsLot 28 = .ok (.goto 4, 3) := by decide +kernel
theorem dX1_holdsLot_31 : decode cX1_holdsLot 31 = .ok (.iconst 0, 1) := by decide +kernel
theorem dX1_holdsLot_32 : decode cX1_holdsLot 32 = .ok (.ireturn, 1) := by decide +kernel
theorem dX1_allSteps_0 : decode cX1_allSteps 0 = .ok (.iconst 0, 1) := by decide +kernel
theorem dX1_allSteps_1 : decode cX1_allSteps 1 = .ok (.istore_n 1, 1) := by decide +kernel
theorem dX1_allSteps_2 : decode cX1_allSteps 2 = .ok (.iconst 0, 1) := by decide +kernel
theorem dX1_allSteps_3 : decode cX1_allSteps 3 = .ok (.istore_n 2, 1) := by decide +kernel
theorem dX1_allSteps_4 : decode cX1_allSteps 4 = .ok (.iload_n 2, 1) := by decide +kernel
theorem dX1_allSteps_5 : decode cX1_allSteps 5 = .ok (.bipush 8, 2) := by decide +kernel
theorem dX1_allSteps_7 : decode cX1_allSteps 7 = .ok (.if_icmp .ge 18, 3) := by decide +kernel
theorem dX1_allSteps_10 : decode cX1_allSteps 10 = .ok (.iload_n 1, 1) := by decide +kernel
theorem dX1_allSteps_11 : decode cX1_allSteps 11 = .ok (.aload_n 0, 1) := by decide +kernel
theorem dX1_allSteps_12 : decode cX1_allSteps 12 = .ok (.getfield 24, 3) := by decide +kernel
theorem dX1_allSteps_15 : decode cX1_allSteps 15 = .ok (.iload_n 2, 1) := by decide +kernel
theorem dX1_allSteps_16 : decode cX1_allSteps 16 = .ok (.iaload, 1) := by decide +kernel
theorem dX1_allSteps_17 : decode cX1_allSteps 17 = .ok (.iadd, 1) := by decide +kernel
theorem dX1_allSteps_18 : decode cX1_allSteps 18 = .ok (.istore_n 1, 1) := by decide +kernel
theorem dX1_allSteps_19 : decode cX1_allSteps 19 = .ok (.iinc 2 1, 3) := by decide +kernel
theorem dX1_allSteps_22 : decode cX1_allSteps 22 = .ok (.goto (-18), 3) := by decide +kernel
theorem dX1_allSteps_25 : decode cX1_allSteps 25 = .ok (.iload_n 1, 1) := by decide +kernel
theorem dX1_allSteps_26 : decode cX1_allSteps 26 = .ok (.ireturn, 1) := by decide +kernel
theorem dX2_init_0 : decode cX2_init 0 = .ok (.aload_n 0, 1) := by decide +kernel
theorem dX2_init_1 : decode cX2_init 1 = .ok (.invokespecial 3, 3) := by decide +kernel
theorem dX2_init_4 : decode cX2_init 4 = .ok (.aload_n 0, 1) := by decide +kernel
theorem dX2_init_5 : decode cX2_init 5 = .ok (.iconst 3, 1) := by decide +kernel
theorem dX2_init_6 : decode cX2_init 6 = .ok (.newarray .int, 2) := by decide +kernel
theorem dX2_init_8 : decode cX2_init 8 = .ok (.putfield 9, 3) := by decide +kernel
theorem dX2_init_11 : decode cX2_init 11 = .ok (.aload_n 0, 1) := by decide +kernel
theorem dX2_init_12 : decode cX2_init 12 = .ok (.iconst 0, 1) := by decide +kernel
theorem dX2_init_13 : decode cX2_init 13 = .ok (.putfield 15, 3) := by decide +kernel
theorem dX2_init_16 : decode cX2_init 16 = .ok (.aload_n 0, 1) := by decide +kernel
theorem dX2_init_17 : decode cX2_init 17 = .ok (.iconst 0, 1) := by decide +kernel
theorem dX2_init_18 : decode cX2_init 18 = .ok (.putfield 19, 3) := by decide +kernel
theorem dX2_init_21 : decode cX2_init 21 = .ok (.aload_n 0, 1) := by decide +kernel
theorem dX2_init_22 : decode cX2_init 22 = .ok (.iconst 0, 1) := by decide +kernel
theorem dX2_init_23 : decode cX2_init 23 = .ok (.putfield 22, 3) := by decide +kernel
theorem dX2_init_26 : decode cX2_init 26 = .ok (.aload_n 0, 1) := by decide +kernel
theorem dX2_init_27 : decode cX2_init 27 = .ok (.iconst 0, 1) := by decide +kernel
theorem dX2_init_28 : decode cX2_init 28 = .ok (.putfield 25, 3) := by decide +kernel
theorem dX2_init_31 : decode cX2_init 31 = .ok (.aload_n 0, 1) := by decide +kernel
theorem dX2_init_32 : decode cX2_init 32 = .ok (.iconst 0, 1) := by decide +kernel
theorem dX2_init_33 : decode cX2_init 33 = .ok (.putfield 28, 3) := by decide +kernel
theorem dX2_init_36 : decode cX2_init 36 = .ok (.aload_n 0, 1) := by decide +kernel
theorem dX2_init_37 : decode cX2_init 37 = .ok (.iconst 0, 1) := by decide +kernel
theorem dX2_init_38 : decode cX2_init 38 = .ok (.putfield 31, 3) := by decide +kernel
theorem dX2_init_41 : decode cX2_init 41 = .ok (.aload_n 0, 1) := by decide +kernel
theorem dX2_init_42 : decode cX2_init 42 = .ok (.bipush 12, 2) := by decide +kernel
theorem dX2_init_44 : decode cX2_init 44 = .ok (.newarray .int, 2) := by decide +kernel
theorem dX2_init_46 : decode cX2_init 46 = .ok (.putfield 34, 3) := by decide +kernel
theorem dX2_init_49 : decode cX2_init 49 = .ok (.aload_n 0, 1) := by decide +kernel
theorem dX2_init_50 : decode cX2_init 50 = .ok (.bipush 12, 2) := by decide +kernel
theorem dX2_init_52 : decode cX2_init 52 = .ok (.newarray .int, 2) := by decide +kernel
theorem dX2_init_54 : decode cX2_init 54 = .ok (.putfield 37, 3) := by decide +kernel
theorem dX2_init_57 : decode cX2_init 57 = .ok (.aload_n 0, 1) := by decide +kernel
theorem dX2_init_58 : decode cX2_init 58 = .ok (.bipush 12, 2) := by decide +kernel
theorem dX2_init_60 : decode cX2_init 60 = .ok (.newarray .int, 2) := by decide +kernel
theorem dX2_init_62 : decode cX2_init 62 = .ok (.putfield 40, 3) := by decide +kernel
theorem dX2_init_65 : decode cX2_init 65 = .ok (.return_, 1) := by decide +kernel
theorem dX2_copyFrom_0 : decode cX2_copyFrom 0 = .ok (.aload_n 1, 1) := by decide +kernel
theorem dX2_copyFrom_1 : decode cX2_copyFrom 1 = .ok (.getfield 9, 3) := by decide +kernel
theorem dX2_copyFrom_4 : decode cX2_copyFrom 4 = .ok (.iconst 0, 1) := by decide +kernel
theorem dX2_copyFrom_5 : decode cX2_copyFrom 5 = .ok (.aload_n 0, 1) := by decide +kernel
theorem dX2_copyFrom_6 : decode cX2_copyFrom 6 = .ok (.getfield 9, 3) := by decide +kernel
theorem dX2_copyFrom_9 : decode cX2_copyFrom 9 = .ok (.iconst 0, 1) := by decide +kernel
theorem dX2_copyFrom_10 : decode cX2_copyFrom 10 = .ok (.iconst 3, 1) := by decide +kernel
theorem dX2_copyFrom_11 : decode cX2_copyFrom 11 = .ok (.invokestatic 43, 3) := by decide +kernel
theorem dX2_copyFrom_14 : decode cX2_copyFrom 14 = .ok (.aload_n 0, 1) := by decide +kernel
theorem dX2_copyFrom_15 : decode cX2_copyFrom 15 = .ok (.aload_n 1, 1) := by decide +kernel
theorem dX2_copyFrom_16 : decode cX2_copyFrom 16 = .ok (.getfield 15, 3) := by decide +kernel
theorem dX2_copyFrom_19 : decode cX2_copyFrom 19 = .ok (.putfield 15, 3) := by decide +kernel
theorem dX2_copyFrom_22 : decode cX2_copyFrom 22 = .ok (.aload_n 0, 1) := by decide +kernel
theorem dX2_copyFrom_23 : decode cX2_copyFrom 23 = .ok (.aload_n 1, 1) := by decide +kernel
theorem dX2_copyFrom_24 : decode cX2_copyFrom 24 = .ok (.getfield 19, 3) := by decide +kernel
theorem dX2_copyFrom_27 : decode cX2_copyFrom 27 = .ok (.putfield 19, 3) := by decide +kernel
theorem dX2_copyFrom_30 : decode cX2_copyFrom 30 = .ok (.aload_n 0, 1) := by decide +kernel
theorem dX2_copyFrom_31 : decode cX2_copyFrom 31 = .ok (.aload_n 1, 1) := by decide +kernel
theorem dX2_copyFrom_32 : decode cX2_copyFrom 32 = .ok (.getfield 22, 3) := by decide +kernel
theorem dX2_copyFrom_35 : decode cX2_copyFrom 35 = .ok (.putfield 22, 3) := by decide +kernel
theorem dX2_copyFrom_38 : decode cX2_copyFrom 38 = .ok (.aload_n 0, 1) := by decide +kernel
theorem dX2_copyFrom_39 : decode cX2_copyFrom 39 = .ok (.aload_n 1, 1) := by decide +kernel
theorem dX2_copyFrom_40 : decode cX2_copyFrom 40 = .ok (.getfield 25, 3) := by decide +kernel
theorem dX2_copyFrom_43 : decode cX2_copyFrom 43 = .ok (.putfield 25, 3) := by decide +kernel
theorem dX2_copyFrom_46 : decode cX2_copyFrom 46 = .ok (.aload_n 0, 1) := by decide +kernel
theorem dX2_copyFrom_47 : decode cX2_copyFrom 47 = .ok (.aload_n 1, 1) := by decide +kernel
theorem dX2_copyFrom_48 : decode cX2_copyFrom 48 = .ok (.getfield 28, 3) := by decide +kernel
theorem dX2_copyFrom_51 : decode cX2_copyFrom 51 = .ok (.putfield 28, 3) := by decide +kernel
theorem dX2_copyFrom_54 : decode cX2_copyFrom 54 = .ok (.aload_n 0, 1) := by decide +kernel
theorem dX2_copyFrom_55 : decode cX2_copyFrom 55 = .ok (.aload_n 1, 1) := by decide +kernel
theorem dX2_copyFrom_56 : decode cX2_copyFrom 56 = .ok (.getfield 31, 3) := by decide +kernel
theorem dX2_copyFrom_59 : decode cX2_copyFrom 59 = .ok (.putfield 31, 3) := by decide +kernel
theorem dX2_copyFrom_62 : decode cX2_copyFrom 62 = .ok (.aload_n 1, 1) := by decide +kernel
theorem dX2_copyFrom_63 : decode cX2_copyFrom 63 = .ok (.getfield 34, 3) := by decide +kernel
theorem dX2_copyFrom_66 : decode cX2_copyFrom 66 = .ok (.iconst 0, 1) := by decide +kernel
theorem dX2_copyFrom_67 : decode cX2_copyFrom 67 = .ok (.aload_n 0, 1) := by decide +kernel
theorem dX2_copyFrom_68 : decode cX2_copyFrom 68 = .ok (.getfield 34, 3) := by decide +kernel
theorem dX2_copyFrom_71 : decode cX2_copyFrom 71 = .ok (.iconst 0, 1) := by decide +kernel
theorem dX2_copyFrom_72 : decode cX2_copyFrom 72 = .ok (.bipush 12, 2) := by decide +kernel
theorem dX2_copyFrom_74 : decode cX2_copyFrom 74 = .ok (.invokestatic 43, 3) := by decide +kernel
theorem dX2_copyFrom_77 : decode cX2_copyFrom 77 = .ok (.aload_n 1, 1) := by decide +kernel
theorem dX2_copyFrom_78 : decode cX2_copyFrom 78 = .ok (.getfield 37, 3) := by decide +kernel
theorem dX2_copyFrom_81 : decode cX2_copyFrom 81 = .ok (.iconst 0, 1) := by decide +kernel
theorem dX2_copyFrom_82 : decode cX2_copyFrom 82 = .ok (.aload_n 0, 1) := by decide +kernel
theorem dX2_copyFrom_83 : decode cX2_copyFrom 83 = .ok (.getfield 37, 3) := by decide +kernel
theorem dX2_copyFrom_86 : decode cX2_copyFrom 86 = .ok (.iconst 0, 1) := by decide +kernel
theorem dX2_copyFrom_87 : decode cX2_copyFrom 87 = .ok (.bipush 12, 2) := by decide +kernel
theorem dX2_copyFrom_89 : decode cX2_copyFrom 89 = .ok (.invokestatic 43, 3) := by decide +kernel
theorem dX2_copyFrom_92 : decode cX2_copyFrom 92 = .ok (.aload_n 1, 1) := by decide +kernel
theorem dX2_copyFrom_93 : decode cX2_copyFrom 93 = .ok (.getfield 40, 3) := by decide +kernel
theorem dX2_copyFrom_96 : decode cX2_copyFrom 96 = .ok (.iconst 0, 1) := by decide +kernel
theorem dX2_copyFrom_97 : decode cX2_copyFrom 97 = .ok (.aload_n 0, 1) := by decide +kernel
theorem dX2_copyFrom_98 : decode cX2_copyFrom 98 = .ok (.getfield 40, 3) := by decide +kernel
theorem dX2_copyFrom_101 : decode cX2_copyFrom 101 = .ok (.iconst 0, 1) := by decide +kernel
theorem dX2_copyFrom_102 : decode cX2_copyFrom 102 = .ok (.bipush 12, 2) := by decide +kernel
theorem dX2_copyFrom_104 : decode cX2_copyFrom 104 = .ok (.invokestatic 43, 3) := by decide +kernel
theorem dX2_copyFrom_107 : decode cX2_copyFrom 107 = .ok (.return_, 1) := by decide +kernel
theorem dX2_stepsInside_0 : decode cX2_stepsInside 0 = .ok (.iconst 0, 1) := by decide +kernel
theorem dX2_stepsInside_1 : decode cX2_stepsInside 1 = .ok (.istore_n 1, 1) := by decide +kernel
theorem dX2_stepsInside_2 : decode cX2_stepsInside 2 = .ok (.iconst 0, 1) := by decide +kernel
theorem dX2_stepsInside_3 : decode cX2_stepsInside 3 = .ok (.istore_n 2, 1) := by decide +kernel
theorem dX2_stepsInside_4 : decode cX2_stepsInside 4 = .ok (.iload_n 2, 1) := by decide +kernel
theorem dX2_stepsInside_5 : decode cX2_stepsInside 5 = .ok (.aload_n 0, 1) := by decide +kernel
theorem dX2_stepsInside_6 : decode cX2_stepsInside 6 = .ok (.getfield 31, 3) := by decide +kernel
theorem dX2_stepsInside_9 : decode cX2_stepsInside 9 = .ok (.if_icmp .ge 18, 3) := by decide +kernel
theorem dX2_stepsInside_12 : decode cX2_stepsInside 12 = .ok (.iload_n 1, 1) := by decide +kernel
theorem dX2_stepsInside_13 : decode cX2_stepsInside 13 = .ok (.aload_n 0, 1) := by decide +kernel
theorem dX2_stepsInside_14 : decode cX2_stepsInside 14 = .ok (.getfield 37, 3) := by decide +kernel
theorem dX2_stepsInside_17 : decode cX2_stepsInside 17 = .ok (.iload_n 2, 1) := by decide +kernel
theorem dX2_stepsInside_18 : decode cX2_stepsInside 18 = .ok (.iaload, 1) := by decide +kernel
theorem dX2_stepsInside_19 : decode cX2_stepsInside 19 = .ok (.iadd, 1) := by decide +kernel
theorem dX2_stepsInside_20 : decode cX2_stepsInside 20 = .ok (.istore_n 1, 1) := by decide +kernel
theorem dX2_stepsInside_21 : decode cX2_stepsInside 21 = .ok (.iinc 2 1, 3) := by decide +kernel
theorem dX2_stepsInside_24 : decode cX2_stepsInside 24 = .ok (.goto (-20), 3) := by decide +kernel
theorem dX2_stepsInside_27 : decode cX2_stepsInside 27 = .ok (.iload_n 1, 1) := by decide +kernel
theorem dX2_stepsInside_28 : decode cX2_stepsInside 28 = .ok (.ireturn, 1) := by decide +kernel
theorem dX2_putLot_0 : decode cX2_putLot 0 = .ok (.aload_n 0, 1) := by decide +kernel
theorem dX2_putLot_1 : decode cX2_putLot 1 = .ok (.getfield 31, 3) := by decide +kernel
theorem dX2_putLot_4 : decode cX2_putLot 4 = .ok (.bipush 12, 2) := by decide +kernel
theorem dX2_putLot_6 : decode cX2_putLot 6 = .ok (.if_icmp .lt 4, 3) := by decide +kernel
theorem dX2_putLot_9 : decode cX2_putLot 9 = .ok (.return_, 1) := by decide +kernel
theorem dX2_putLot_10 : decode cX2_putLot 10 = .ok (.aload_n 0, 1) := by decide +kernel
theorem dX2_putLot_11 : decode cX2_putLot 11 = .ok (.getfield 34, 3) := by decide +kernel
theorem dX2_putLot_14 : decode cX2_putLot 14 = .ok (.aload_n 0, 1) := by decide +kernel
theorem dX2_putLot_15 : decode cX2_putLot 15 = .ok (.getfield 31, 3) := by decide +kernel
theorem dX2_putLot_18 : decode cX2_putLot 18 = .ok (.iload_n 1, 1) := by decide +kernel
theorem dX2_putLot_19 : decode cX2_putLot 19 = .ok (.iastore, 1) := by decide +kernel
theorem dX2_putLot_20 : decode cX2_putLot 20 = .ok (.aload_n 0, 1) := by decide +kernel
theorem dX2_putLot_21 : decode cX2_putLot 21 = .ok (.getfield 37, 3) := by decide +kernel
theorem dX2_putLot_24 : decode cX2_putLot 24 = .ok (.aload_n 0, 1) := by decide +kernel
theorem dX2_putLot_25 : decode cX2_putLot 25 = .ok (.getfield 31, 3) := by decide +kernel
theorem dX2_putLot_28 : decode cX2_putLot 28 = .ok (.iload_n 2, 1) := by decide +kernel
theorem dX2_putLot_29 : decode cX2_putLot 29 = .ok (.iastore, 1) := by decide +kernel
theorem dX2_putLot_30 : decode cX2_putLot 30 = .ok (.aload_n 0, 1) := by decide +kernel
theorem dX2_putLot_31 : decode cX2_putLot 31 = .ok (.getfield 40, 3) := by decide +kernel
theorem dX2_putLot_34 : decode cX2_putLot 34 = .ok (.aload_n 0, 1) := by decide +kernel
theorem dX2_putLot_35 : decode cX2_putLot 35 = .ok (.getfield 31, 3) := by decide +kernel
theorem dX2_putLot_38 : decode cX2_putLot 38 = .ok (.iload_n 3, 1) := by decide +kernel
theorem dX2_putLot_39 : decode cX2_putLot 39 = .ok (.aload_n 0, 1) := by decide +kernel
theorem dX2_putLot_40 : decode cX2_putLot 40 = .ok (.getfield 15, 3) := by decide +kernel
theorem dX2_putLot_43 : decode cX2_putLot 43 = .ok (.iadd, 1) := by decide +kernel
theorem dX2_putLot_44 : decode cX2_putLot 44 = .ok (.iastore, 1) := by decide +kernel
theorem dX2_putLot_45 : decode cX2_putLot 45 = .ok (.aload_n 0, 1) := by decide +kernel
theorem dX2_putLot_46 : decode cX2_putLot 46 = .ok (.dup, 1) := by decide +kernel
theorem dX2_putLot_47 : decode cX2_putLot 47 = .ok (.getfield 31, 3) := by decide +kernel
theorem dX2_putLot_50 : decode cX2_putLot 50 = .ok (.iconst 1, 1) := by decide +kernel
theorem dX2_putLot_51 : decode cX2_putLot 51 = .ok (.iadd, 1) := by decide +kernel
theorem dX2_putLot_52 : decode cX2_putLot 52 = .ok (.putfield 31, 3) := by decide +kernel
theorem dX2_putLot_55 : decode cX2_putLot 55 = .ok (.aload_n 0, 1) := by decide +kernel
theorem dX2_putLot_56 : decode cX2_putLot 56 = .ok (.dup, 1) := by decide +kernel
theorem dX2_putLot_57 : decode cX2_putLot 57 = .ok (.getfield 19, 3) := by decide +kernel
theorem dX2_putLot_60 : decode cX2_putLot 60 = .ok (.iload_n 2, 1) := by decide +kernel
theorem dX2_putLot_61 : decode cX2_putLot 61 = .ok (.iadd, 1) := by decide +kernel
theorem dX2_putLot_62 : decode cX2_putLot 62 = .ok (.putfield 19, 3) := by decide +kernel
theorem dX2_putLot_65 : decode cX2_putLot 65 = .ok (.return_, 1) := by decide +kernel
theorem dX2_takeBackLots_0 : decode cX2_takeBackLots 0 = .ok (.iconst 0, 1) := by decide +kernel
theorem dX2_takeBackLots_1 : decode cX2_takeBackLots 1 = .ok (.istore_n 2, 1) := by decide +kernel
theorem dX2_takeBackLots_2 : decode cX2_takeBackLots 2 = .ok (.aload_n 0, 1) := by decide +kernel
theorem dX2_takeBackLots_3 : decode cX2_takeBackLots 3 = .ok (.getfield 31, 3) := by decide +kernel
theorem dX2_takeBackLots_6 : decode cX2_takeBackLots 6 = .ok (.iconst 1, 1) := by decide +kernel
theorem dX2_takeBackLots_7 : decode cX2_takeBackLots 7 = .ok (.isub, 1) := by decide +kernel
theorem dX2_takeBackLots_8 : decode cX2_takeBackLots 8 = .ok (.istore_n 3, 1) := by decide +kernel
theorem dX2_takeBackLots_9 : decode cX2_takeBackLots 9 = .ok (.iload_n 3, 1) := by decide +kernel
theorem dX2_takeBackLots_10 : decode cX2_takeBackLots 10 = .ok (.ifCond .lt 33, 3) := by decide +kernel
theorem dX2_takeBackLots_13 : decode cX2_takeBackLots 13 = .ok (.aload_n 0, 1) := by decide +kernel
theorem dX2_takeBackLots_14 : decode cX2_takeBackLots 14 = .ok (.getfield 34, 3) := by decide +kernel
theorem dX2_takeBackLots_17 : decode cX2_takeBackLots 17 = .ok (.iload_n 3, 1) := by decide +kernel
theorem dX2_takeBackLots_18 : decode cX2_takeBackLots 18 = .ok (.iaload, 1) := by decide +kernel
theorem dX2_takeBackLots_19 : decode cX2_takeBackLots 19 = .ok (.iload_n 1, 1) := by decide +kernel
theorem dX2_takeBackLots_20 : decode cX2_takeBackLots 20 = .ok (.if_icmp .ne 17, 3) := by decide +kernel
theorem dX2_takeBackLots_23 : decode cX2_takeBackLots 23 = .ok (.iload_n 2, 1) := by decide +kernel
theorem dX2_takeBackLots_24 : decode cX2_takeBackLots 24 = .ok (.aload_n 0, 1) := by decide +kernel
theorem dX2_takeBackLots_25 : decode cX2_takeBackLots 25 = .ok (.getfield 37, 3) := by decide +kernel
theorem dX2_takeBackLots_28 : decode cX2_takeBackLots 28 = .ok (.iload_n 3, 1) := by decide +kernel
theorem dX2_takeBackLots_29 : decode cX2_takeBackLots 29 = .ok (.iaload, 1) := by decide +kernel
theorem dX2_takeBackLots_30 : decode cX2_takeBackLots 30 = .ok (.iadd, 1) := by decide +kernel
theorem dX2_takeBackLots_31 : decode cX2_takeBackLots 31 = .ok (.istore_n 2, 1) := by decide +kernel
theorem dX2_takeBackLots_32 : decode cX2_takeBackLots 32 = .ok (.aload_n 0, 1) := by decide +kernel
theorem dX2_takeBackLots_33 : decode cX2_takeBackLots 33 = .ok (.iload_n 3, 1) := by decide +kernel
theorem dX2_takeBackLots_34 : decode cX2_takeBackLots 34 = .ok (.invokevirtual 49, 3) := by decide +kernel
theorem dX2_takeBackLots_37 : decode cX2_takeBackLots 37 = .ok (.iinc 3 (-1), 3) := by decide +kernel
theorem dX2_takeBackLots_40 : decode cX2_takeBackLots 40 = .ok (.goto (-31), 3) := by decide +kernel
theorem dX2_takeBackLots_43 : decode cX2_takeBackLots 43 = .ok (.aload_n 0, 1) := by decide +kernel
theorem dX2_takeBackLots_44 : decode cX2_takeBackLots 44 = .ok (.dup, 1) := by decide +kernel
theorem dX2_takeBackLots_45 : decode cX2_takeBackLots 45 = .ok (.getfield 25, 3) := by decide +kernel
theorem dX2_takeBackLots_48 : decode cX2_takeBackLots 48 = .ok (.iload_n 2, 1) := by decide +kernel
theorem dX2_takeBackLots_49 : decode cX2_takeBackLots 49 = .ok (.iadd, 1) := by decide +kernel
theorem dX2_takeBackLots_50 : decode cX2_takeBackLots 50 = .ok (.putfield 25, 3) := by decide +kernel
theorem dX2_takeBackLots_53 : decode cX2_takeBackLots 53 = .ok (.iload_n 2, 1) := by decide +kernel
theorem dX2_takeBackLots_54 : decode cX2_takeBackLots 54 = .ok (.ireturn, 1) := by decide +kernel
theorem dX2_wasteOldLots_0 : decode cX2_wasteOldLots 0 = .ok (.iconst 0, 1) := by decide +kernel
theorem dX2_wasteOldLots_1 : decode cX2_wasteOldLots 1 = .ok (.istore_n 2, 1) := by decide +kernel
theorem dX2_wasteOldLots_2 : decode cX2_wasteOldLots 2 = .ok (.aload_n 0, 1) := by decide +kernel
theorem dX2_wasteOldLots_3 : decode cX2_wasteOldLots 3 = .ok (.getfield 31, 3) := by decide +kernel
theorem dX2_wasteOldLots_6 : decode cX2_wasteOldLots 6 = .ok (.iconst 1, 1) := by decide +kernel
theorem dX2_wasteOldLots_7 : decode cX2_wasteOldLots 7 = .ok (.isub, 1) := by decide +kernel
theorem dX2_wasteOldLots_8 : decode cX2_wasteOldLots 8 = .ok (.istore_n 3, 1) := by decide +kernel
theorem dX2_wasteOldLots_9 : decode cX2_wasteOldLots 9 = .ok (.iload_n 3, 1) := by decide +kernel
theorem dX2_wasteOldLots_10 : decode cX2_wasteOldLots 10 = .ok (.ifCond .lt 33, 3) := by decide +kernel
theorem dX2_wasteOldLots_13 : decode cX2_wasteOldLots 13 = .ok (.aload_n 0, 1) := by decide +kernel
theorem dX2_wasteOldLots_14 : decode cX2_wasteOldLots 14 = .ok (.getfield 40, 3) := by decide +kernel
theorem dX2_wasteOldLots_17 : decode cX2_wasteOldLots 17 = .ok (.iload_n 3, 1) := by decide +kernel
theorem dX2_wasteOldLots_18 : decode cX2_wasteOldLots 18 = .ok (.iaload, 1) := by decide +kernel
theorem dX2_wasteOldLots_19 : decode cX2_wasteOldLots 19 = .ok (.iload_n 1, 1) := by decide +kernel
theorem dX2_wasteOldLots_20 : decode cX2_wasteOldLots 20 = .ok (.if_icmp .ge 17, 3) := by decide +kernel
theorem dX2_wasteOldLots_23 : decode cX2_wasteOldLots 23 = .ok (.iload_n 2, 1) := by decide +kernel
theorem dX2_wasteOldLots_24 : decode cX2_wasteOldLots 24 = .ok (.aload_n 0, 1) := by decide +kernel
theorem dX2_wasteOldLots_25 : decode cX2_wasteOldLots 25 = .ok (.getfield 37, 3) := by decide +kernel
theorem dX2_wasteOldLots_28 : decode cX2_wasteOldLots 28 = .ok (.iload_n 3, 1) := by decide +kernel
theorem dX2_wasteOldLots_29 : decode cX2_wasteOldLots 29 = .ok (.iaload, 1) := by decide +kernel
theorem dX2_wasteOldLots_30 : decode cX2_wasteOldLots 30 = .ok (.iadd, 1) := by decide +kernel
theorem dX2_wasteOldLots_31 : decode cX2_wasteOldLots 31 = .ok (.istore_n 2, 1) := by decide +kernel
theorem dX2_wasteOldLots_32 : decode cX2_wasteOldLots 32 = .ok (.aload_n 0, 1) := by decide +kernel
theorem dX2_wasteOldLots_33 : decode cX2_wasteOldLots 33 = .ok (.iload_n 3, 1) := by decide +kernel
theorem dX2_wasteOldLots_34 : decode cX2_wasteOldLots 34 = .ok (.invokevirtual 49, 3) := by decide +kernel
theorem dX2_wasteOldLots_37 : decode cX2_wasteOldLots 37 = .ok (.iinc 3 (-1), 3) := by decide +kernel
theorem dX2_wasteOldLots_40 : decode cX2_wasteOldLots 40 = .ok (.goto (-31), 3) := by decide +kernel
theorem dX2_wasteOldLots_43 : decode cX2_wasteOldLots 43 = .ok (.aload_n 0, 1) := by decide +kernel
theorem dX2_wasteOldLots_44 : decode cX2_wasteOldLots 44 = .ok (.dup, 1) := by decide +kernel
theorem dX2_wasteOldLots_45 : decode cX2_wasteOldLots 45 = .ok (.getfield 28, 3) := by decide +kernel
theorem dX2_wasteOldLots_48 : decode cX2_wasteOldLots 48 = .ok (.iload_n 2, 1) := by decide +kernel
theorem dX2_wasteOldLots_49 : decode cX2_wasteOldLots 49 = .ok (.iadd, 1) := by decide +kernel
theorem dX2_wasteOldLots_50 : decode cX2_wasteOldLots 50 = .ok (.putfield 28, 3) := by decide +kernel
theorem dX2_wasteOldLots_53 : decode cX2_wasteOldLots 53 = .ok (.iload_n 2, 1) := by decide +kernel
theorem dX2_wasteOldLots_54 : decode cX2_wasteOldLots 54 = .ok (.ireturn, 1) := by decide +kernel
theorem dX2_pumpInto_0 : decode cX2_pumpInto 0 = .ok (.iload_n 3, 1) := by decide +kernel
theorem dX2_pumpInto_1 : decode cX2_pumpInto 1 = .ok (.istore 4, 2) := by decide +kernel
theorem dX2_pumpInto_3 : decode cX2_pumpInto 3 = .ok (.aload_n 0, 1) := by decide +kernel
theorem dX2_pumpInto_4 : decode cX2_pumpInto 4 = .ok (.getfield 31, 3) := by decide +kernel
theorem dX2_pumpInto_7 : decode cX2_pumpInto 7 = .ok (.istore 5, 2) := by decide +kernel
theorem dX2_pumpInto_9 : decode cX2_pumpInto 9 = .ok (.iload 5, 2) := by decide +kernel
theorem dX2_pumpInto_11 : decode cX2_pumpInto 11 = .ok (.ifCond .le 70, 3) := by decide +kernel
theorem dX2_pumpInto_14 : decode cX2_pumpInto 14 = .ok (.iload 4, 2) := by decide +kernel
theorem dX2_pumpInto_16 : decode cX2_pumpInto 16 = .ok (.ifCond .le 65, 3) := by decide +kernel
theorem dX2_pumpInto_19 : decode cX2_pumpInto 19 = .ok (.iload 4, 2) := by decide +kernel
theorem dX2_pumpInto_21 : decode cX2_pumpInto 21 = .ok (.aload_n 0, 1) := by decide +kernel
theorem dX2_pumpInto_22 : decode cX2_pumpInto 22 = .ok (.getfield 37, 3) := by decide +kernel
theorem dX2_pumpInto_25 : decode cX2_pumpInto 25 = .ok (.iconst 0, 1) := by decide +kernel
theorem dX2_pumpInto_26 : decode cX2_pumpInto 26 = .ok (.iaload, 1) := by decide +kernel
theorem dX2_pumpInto_27 : decode cX2_pumpInto 27 = .ok (.invokestatic 53, 3) := by decide +kernel
theorem dX2_pumpInto_30 : decode cX2_pumpInto 30 = .ok (.istore 6, 2) := by decide +kernel
theorem dX2_pumpInto_32 : decode cX2_pumpInto 32 = .ok (.aload_n 1, 1) := by decide +kernel
theorem dX2_pumpInto_33 : decode cX2_pumpInto 33 = .ok (.iload_n 2, 1) := by decide +kernel
theorem dX2_pumpInto_34 : decode cX2_pumpInto 34 = .ok (.aload_n 0, 1) := by decide +kernel
theorem dX2_pumpInto_35 : decode cX2_pumpInto 35 = .ok (.getfield 34, 3) := by decide +kernel
theorem dX2_pumpInto_38 : decode cX2_pumpInto 38 = .ok (.iconst 0, 1) := by decide +kernel
theorem dX2_pumpInto_39 : decode cX2_pumpInto 39 = .ok (.iaload, 1) := by decide +kernel
theorem dX2_pumpInto_40 : decode cX2_pumpInto 40 = .ok (.invokevirtual 59, 3) := by decide +kernel
theorem dX2_pumpInto_43 : decode cX2_pumpInto 43 = .ok (.aload_n 0, 1) := by decide +kernel
theorem dX2_pumpInto_44 : decode cX2_pumpInto 44 = .ok (.getfield 37, 3) := by decide +kernel
theorem dX2_pumpInto_47 : decode cX2_pumpInto 47 = .ok (.iconst 0, 1) := by decide +kernel
theorem dX2_pumpInto_48 : decode cX2_pumpInto 48 = .ok (.dup2, 1) := by decide +kernel
theorem dX2_pumpInto_49 : decode cX2_pumpInto 49 = .ok (.iaload, 1) := by decide +kernel
theorem dX2_pumpInto_50 : decode cX2_pumpInto 50 = .ok (.iload 6, 2) := by decide +kernel
theorem dX2_pumpInto_52 : decode cX2_pumpInto 52 = .ok (.isub, 1) := by decide +kernel
theorem dX2_pumpInto_53 : decode cX2_pumpInto 53 = .ok (.iastore, 1) := by decide +kernel
theorem dX2_pumpInto_54 : decode cX2_pumpInto 54 = .ok (.iload 4, 2) := by decide +kernel
theorem dX2_pumpInto_56 : decode cX2_pumpInto 56 = .ok (.iload 6, 2) := by decide +kernel
theorem dX2_pumpInto_58 : decode cX2_pumpInto 58 = .ok (.isub, 1) := by decide +kernel
theorem dX2_pumpInto_59 : decode cX2_pumpInto 59 = .ok (.istore 4, 2) := by decide +kernel
theorem dX2_pumpInto_61 : decode cX2_pumpInto 61 = .ok (.aload_n 0, 1) := by decide +kernel
theorem dX2_pumpInto_62 : decode cX2_pumpInto 62 = .ok (.getfield 37, 3) := by decide +kernel
theorem dX2_pumpInto_65 : decode cX2_pumpInto 65 = .ok (.iconst 0, 1) := by decide +kernel
theorem dX2_pumpInto_66 : decode cX2_pumpInto 66 = .ok (.iaload, 1) := by decide +kernel
theorem dX2_pumpInto_67 : decode cX2_pumpInto 67 = .ok (.ifCond .ne 8, 3) := by decide +kernel
theorem dX2_pumpInto_70 : decode cX2_pumpInto 70 = .ok (.aload_n 0, 1) := by decide +kernel
theorem dX2_pumpInto_71 : decode cX2_pumpInto 71 = .ok (.iconst 0, 1) := by decide +kernel
theorem dX2_pumpInto_72 : decode cX2_pumpInto 72 = .ok (.invokevirtual 49, 3) := by decide +kernel
theorem dX2_pumpInto_75 : decode cX2_pumpInto 75 = .ok (.iinc 5 (-1), 3) := by decide +kernel
theorem dX2_pumpInto_78 : decode cX2_pumpInto 78 = .ok (.goto (-69), 3) := by decide +kernel
theorem dX2_pumpInto_81 : decode cX2_pumpInto 81 = .ok (.aload_n 1, 1) := by decide +kernel
theorem dX2_pumpInto_82 : decode cX2_pumpInto 82 = .ok (.getfield 65, 3) := by decide +kernel
theorem dX2_pumpInto_85 : decode cX2_pumpInto 85 = .ok (.iload_n 2, 1) := by decide +kernel
theorem dX2_pumpInto_86 : decode cX2_pumpInto 86 = .ok (.dup2, 1) := by decide +kernel
theorem dX2_pumpInto_87 : decode cX2_pumpInto 87 = .ok (.iaload, 1) := by decide +kernel
theorem dX2_pumpInto_88 : decode cX2_pumpInto 88 = .ok (.iload_n 3, 1) := by decide +kernel
theorem dX2_pumpInto_89 : decode cX2_pumpInto 89 = .ok (.iadd, 1) := by decide +kernel
theorem dX2_pumpInto_90 : decode cX2_pumpInto 90 = .ok (.iastore, 1) := by decide +kernel
theorem dX2_pumpInto_91 : decode cX2_pumpInto 91 = .ok (.aload_n 0, 1) := by decide +kernel
theorem dX2_pumpInto_92 : decode cX2_pumpInto 92 = .ok (.dup, 1) := by decide +kernel
theorem dX2_pumpInto_93 : decode cX2_pumpInto 93 = .ok (.getfield 22, 3) := by decide +kernel
theorem dX2_pumpInto_96 : decode cX2_pumpInto 96 = .ok (.iload_n 3, 1) := by decide +kernel
theorem dX2_pumpInto_97 : decode cX2_pumpInto 97 = .ok (.iadd, 1) := by decide +kernel
theorem dX2_pumpInto_98 : decode cX2_pumpInto 98 = .ok (.putfield 22, 3) := by decide +kernel
theorem dX2_pumpInto_101 : decode cX2_pumpInto 101 = .ok (.return_, 1) := by decide +kernel
theorem dX2_dropLot_0 : decode cX2_dropLot 0 = .ok (.iload_n 1, 1) := by decide +kernel
theorem dX2_dropLot_1 : decode cX2_dropLot 1 = .ok (.istore_n 2, 1) := by decide +kernel
theorem dX2_dropLot_2 : decode cX2_dropLot 2 = .ok (.iload_n 2, 1) := by decide +kernel
theorem dX2_dropLot_3 : decode cX2_dropLot 3 = .ok (.aload_n 0, 1) := by decide +kernel
theorem dX2_dropLot_4 : decode cX2_dropLot 4 = .ok (.getfield 31, 3) := by decide +kernel
theorem dX2_dropLot_7 : decode cX2_dropLot 7 = .ok (.iconst 1, 1) := by decide +kernel
theorem dX2_dropLot_8 : decode cX2_dropLot 8 = .ok (.isub, 1) := by decide +kernel
theorem dX2_dropLot_9 : decode cX2_dropLot 9 = .ok (.if_icmp .ge 51, 3) := by decide +kernel
theorem dX2_dropLot_12 : decode cX2_dropLot 12 = .ok (.aload_n 0, 1) := by decide +kernel
theorem dX2_dropLot_13 : decode cX2_dropLot 13 = .ok (.getfield 34, 3) := by decide +kernel
theorem dX2_dropLot_16 : decode cX2_dropLot 16 = .ok (.iload_n 2, 1) := by decide +kernel
theorem dX2_dropLot_17 : decode cX2_dropLot 17 = .ok (.aload_n 0, 1) := by decide +kernel
theorem dX2_dropLot_18 : decode cX2_dropLot 18 = .ok (.getfield 34, 3) := by decide +kernel
theorem dX2_dropLot_21 : decode cX2_dropLot 21 = .ok (.iload_n 2, 1) := by decide +kernel
theorem dX2_dropLot_22 : decode cX2_dropLot 22 = .ok (.iconst 1, 1) := by decide +kernel
theorem dX2_dropLot_23 : decode cX2_dropLot 23 = .ok (.iadd, 1) := by decide +kernel
theorem dX2_dropLot_24 : decode cX2_dropLot 24 = .ok (.iaload, 1) := by decide +kernel
theorem dX2_dropLot_25 : decode cX2_dropLot 25 = .ok (.iastore, 1) := by decide +kernel
theorem dX2_dropLot_26 : decode cX2_dropLot 26 = .ok (.aload_n 0, 1) := by decide +kernel
theorem dX2_dropLot_27 : decode cX2_dropLot 27 = .ok (.getfield 37, 3) := by decide +kernel
theorem dX2_dropLot_30 : decode cX2_dropLot 30 = .ok (.iload_n 2, 1) := by decide +kernel
theorem dX2_dropLot_31 : decode cX2_dropLot 31 = .ok (.aload_n 0, 1) := by decide +kernel
theorem dX2_dropLot_32 : decode cX2_dropLot 32 = .ok (.getfield 37, 3) := by decide +kernel
theorem dX2_dropLot_35 : decode cX2_dropLot 35 = .ok (.iload_n 2, 1) := by decide +kernel
theorem dX2_dropLot_36 : decode cX2_dropLot 36 = .ok (.iconst 1, 1) := by decide +kernel
theorem dX2_dropLot_37 : decode cX2_dropLot 37 = .ok (.iadd, 1) := by decide +kernel
theorem dX2_dropLot_38 : decode cX2_dropLot 38 = .ok (.iaload, 1) := by decide +kernel
theorem dX2_dropLot_39 : decode cX2_dropLot 39 = .ok (.iastore, 1) := by decide +kernel
theorem dX2_dropLot_40 : decode cX2_dropLot 40 = .ok (.aload_n 0, 1) := by decide +kernel
theorem dX2_dropLot_41 : decode cX2_dropLot 41 = .ok (.getfield 40, 3) := by decide +kernel
theorem dX2_dropLot_44 : decode cX2_dropLot 44 = .ok (.iload_n 2, 1) := by decide +kernel
theorem dX2_dropLot_45 : decode cX2_dropLot 45 = .ok (.aload_n 0, 1) := by decide +kernel
theorem dX2_dropLot_46 : decode cX2_dropLot 46 = .ok (.getfield 40, 3) := by decide +kernel
theorem dX2_dropLot_49 : decode cX2_dropLot 49 = .ok (.iload_n 2, 1) := by decide +kernel
theorem dX2_dropLot_50 : decode cX2_dropLot 50 = .ok (.iconst 1, 1) := by decide +kernel
theorem dX2_dropLot_51 : decode cX2_dropLot 51 = .ok (.iadd, 1) := by decide +kernel
theorem dX2_dropLot_52 : decode cX2_dropLot 52 = .ok (.iaload, 1) := by decide +kernel
theorem dX2_dropLot_53 : decode cX2_dropLot 53 = .ok (.iastore, 1) := by decide +kernel
theorem dX2_dropLot_54 : decode cX2_dropLot 54 = .ok (.iinc 2 1, 3) := by decide +kernel
theorem dX2_dropLot_57 : decode cX2_dropLot 57 = .ok (.goto (-55), 3) := by decide +kernel
theorem dX2_dropLot_60 : decode cX2_dropLot 60 = .ok (.aload_n 0, 1) := by decide +kernel
theorem dX2_dropLot_61 : decode cX2_dropLot 61 = .ok (.dup, 1) := by decide +kernel
theorem dX2_dropLot_62 : decode cX2_dropLot 62 = .ok (.getfield 31, 3) := by decide +kernel
theorem dX2_dropLot_65 : decode cX2_dropLot 65 = .ok (.iconst 1, 1) := by decide +kernel
theorem dX2_dropLot_66 : decode cX2_dropLot 66 = .ok (.isub, 1) := by decide +kernel
theorem dX2_dropLot_67 : decode cX2_dropLot 67 = .ok (.putfield 31, 3) := by decide +kernel
theorem dX2_dropLot_70 : decode cX2_dropLot 70 = .ok (.return_, 1) := by decide +kernel
theorem dX2_numberFor_0 : decode cX2_numberFor 0 = .ok (.iload_n 1, 1) := by decide +kernel
theorem dX2_numberFor_1 : decode cX2_numberFor 1 = .ok (.tableswitch 102 0 8 #[51, 58, 65, 72, 77, 82, 87, 92, 97], 51) := by decide +kernel
theorem dX2_numberFor_52 : decode cX2_numberFor 52 = .ok (.aload_n 0, 1) := by decide +kernel
theorem dX2_numberFor_53 : decode cX2_numberFor 53 = .ok (.getfield 9, 3) := by decide +kernel
theorem dX2_numberFor_56 : decode cX2_numberFor 56 = .ok (.iconst 0, 1) := by decide +kernel
theorem dX2_numberFor_57 : decode cX2_numberFor 57 = .ok (.iaload, 1) := by decide +kernel
theorem dX2_numberFor_58 : decode cX2_numberFor 58 = .ok (.ireturn, 1) := by decide +kernel
theorem dX2_numberFor_59 : decode cX2_numberFor 59 = .ok (.aload_n 0, 1) := by decide +kernel
theorem dX2_numberFor_60 : decode cX2_numberFor 60 = .ok (.getfield 9, 3) := by decide +kernel
theorem dX2_numberFor_63 : decode cX2_numberFor 63 = .ok (.iconst 1, 1) := by decide +kernel
theorem dX2_numberFor_64 : decode cX2_numberFor 64 = .ok (.iaload, 1) := by decide +kernel
theorem dX2_numberFor_65 : decode cX2_numberFor 65 = .ok (.ireturn, 1) := by decide +kernel
theorem dX2_numberFor_66 : decode cX2_numberFor 66 = .ok (.aload_n 0, 1) := by decide +kernel
theorem dX2_numberFor_67 : decode cX2_numberFor 67 = .ok (.getfield 9, 3) := by decide +kernel
theorem dX2_numberFor_70 : decode cX2_numberFor 70 = .ok (.iconst 2, 1) := by decide +kernel
theorem dX2_numberFor_71 : decode cX2_numberFor 71 = .ok (.iaload, 1) := by decide +kernel
theorem dX2_numberFor_72 : decode cX2_numberFor 72 = .ok (.ireturn, 1) := by decide +kernel
theorem dX2_numberFor_73 : decode cX2_numberFor 73 = .ok (.aload_n 0, 1) := by decide +kernel
theorem dX2_numberFor_74 : decode cX2_numberFor 74 = .ok (.invokevirtual 68, 3) := by decide +kernel
theorem dX2_numberFor_77 : decode cX2_numberFor 77 = .ok (.ireturn, 1) := by decide +kernel
theorem dX2_numberFor_78 : decode cX2_numberFor 78 = .ok (.aload_n 0, 1) := by decide +kernel
theorem dX2_numberFor_79 : decode cX2_numberFor 79 = .ok (.getfield 31, 3) := by decide +kernel
theorem dX2_numberFor_82 : decode cX2_numberFor 82 = .ok (.ireturn, 1) := by decide +kernel
theorem dX2_numberFor_83 : decode cX2_numberFor 83 = .ok (.aload_n 0, 1) := by decide +kernel
theorem dX2_numberFor_84 : decode cX2_numberFor 84 = .ok (.getfield 19, 3) := by decide +kernel
theorem dX2_numberFor_87 : decode cX2_numberFor 87 = .ok (.ireturn, 1) := by decide +kernel
theorem dX2_numberFor_88 : decode cX2_numberFor 88 = .ok (.aload_n 0, 1) := by decide +kernel
theorem dX2_numberFor_89 : decode cX2_numberFor 89 = .ok (.getfield 22, 3) := by decide +kernel
theorem dX2_numberFor_92 : decode cX2_numberFor 92 = .ok (.ireturn, 1) := by decide +kernel
theorem dX2_numberFor_93 : decode cX2_numberFor 93 = .ok (.aload_n 0, 1) := by decide +kernel
theorem dX2_numberFor_94 : decode cX2_numberFor 94 = .ok (.getfield 25, 3) := by decide +kernel
theorem dX2_numberFor_97 : decode cX2_numberFor 97 = .ok (.ireturn, 1) := by decide +kernel
theorem dX2_numberFor_98 : decode cX2_numberFor 98 = .ok (.aload_n 0, 1) := by decide +kernel
theorem dX2_numberFor_99 : decode cX2_numberFor 99 = .ok (.getfield 28, 3) := by decide +kernel
theorem dX2_numberFor_102 : decode cX2_numberFor 102 = .ok (.ireturn, 1) := by decide +kernel
theorem dX2_numberFor_103 : decode cX2_numberFor 103 = .ok (.aload_n 0, 1) := by decide +kernel
theorem dX2_numberFor_104 : decode cX2_numberFor 104 = .ok (.getfield 15, 3) := by decide +kernel
theorem dX2_numberFor_107 : decode cX2_numberFor 107 = .ok (.ireturn, 1) := by decide +kernel
theorem dX2_lotNumberFor_0 : decode cX2_lotNumberFor 0 = .ok (.iload_n 2, 1) := by decide +kernel
theorem dX2_lotNumberFor_1 : decode cX2_lotNumberFor 1 = .ok (.lookupswitch 41 #[(0, 27), (1, 34)], 27) := by decide +kernel
theorem dX2_lotNumberFor_28 : decode cX2_lotNumberFor 28 = .ok (.aload_n 0, 1) := by decide +kernel
theorem dX2_lotNumberFor_29 : decode cX2_lotNumberFor 29 = .ok (.getfield 34, 3) := by decide +kernel
theorem dX2_lotNumberFor_32 : decode cX2_lotNumberFor 32 = .ok (.iload_n 1, 1) := by decide +kernel
theorem dX2_lotNumberFor_33 : decode cX2_lotNumberFor 33 = .ok (.iaload, 1) := by decide +kernel
theorem dX2_lotNumberFor_34 : decode cX2_lotNumberFor 34 = .ok (.ireturn, 1) := by decide +kernel
theorem dX2_lotNumberFor_35 : decode cX2_lotNumberFor 35 = .ok (.aload_n 0, 1) := by decide +kernel
theorem dX2_lotNumberFor_36 : decode cX2_lotNumberFor 36 = .ok (.getfield 37, 3) := by decide +kernel
theorem dX2_lotNumberFor_39 : decode cX2_lotNumberFor 39 = .ok (.iload_n 1, 1) := by decide +kernel
theorem dX2_lotNumberFor_40 : decode cX2_lotNumberFor 40 = .ok (.iaload, 1) := by decide +kernel
theorem dX2_lotNumberFor_41 : decode cX2_lotNumberFor 41 = .ok (.ireturn, 1) := by decide +kernel
theorem dX2_lotNumberFor_42 : decode cX2_lotNumberFor 42 = .ok (.aload_n 0, 1) := by decide +kernel
theorem dX2_lotNumberFor_43 : decode cX2_lotNumberFor 43 = .ok (.getfield 40, 3) := by decide +kernel
theorem dX2_lotNumberFor_46 : decode cX2_lotNumberFor 46 = .ok (.iload_n 1, 1) := by decide +kernel
theorem dX2_lotNumberFor_47 : decode cX2_lotNumberFor 47 = .ok (.iaload, 1) := by decide +kernel
theorem dX2_lotNumberFor_48 : decode cX2_lotNumberFor 48 = .ok (.ireturn, 1) := by decide +kernel
theorem dX3_init_0 : decode cX3_init 0 = .ok (.aload_n 0, 1) := by decide +kernel
theorem dX3_init_1 : decode cX3_init 1 = .ok (.invokespecial 3, 3) := by decide +kernel
theorem dX3_init_4 : decode cX3_init 4 = .ok (.aload_n 0, 1) := by decide +kernel
theorem dX3_init_5 : decode cX3_init 5 = .ok (.bipush 8, 2) := by decide +kernel
theorem dX3_init_7 : decode cX3_init 7 = .ok (.anewarray 9, 3) := by decide +kernel
theorem dX3_init_10 : decode cX3_init 10 = .ok (.putfield 11, 3) := by decide +kernel
theorem dX3_init_13 : decode cX3_init 13 = .ok (.aload_n 0, 1) := by decide +kernel
theorem dX3_init_14 : decode cX3_init 14 = .ok (.bipush 6, 2) := by decide +kernel
theorem dX3_init_16 : decode cX3_init 16 = .ok (.anewarray 17, 3) := by decide +kernel
theorem dX3_init_19 : decode cX3_init 19 = .ok (.putfield 19, 3) := by decide +kernel
theorem dX3_init_22 : decode cX3_init 22 = .ok (.aload_n 0, 1) := by decide +kernel
theorem dX3_init_23 : decode cX3_init 23 = .ok (.bipush 10, 2) := by decide +kernel
theorem dX3_init_25 : decode cX3_init 25 = .ok (.anewarray 23, 3) := by decide +kernel
theorem dX3_init_28 : decode cX3_init 28 = .ok (.putfield 25, 3) := by decide +kernel
theorem dX3_init_31 : decode cX3_init 31 = .ok (.aload_n 0, 1) := by decide +kernel
theorem dX3_init_32 : decode cX3_init 32 = .ok (.bipush 20, 2) := by decide +kernel
theorem dX3_init_34 : decode cX3_init 34 = .ok (.anewarray 29, 3) := by decide +kernel
theorem dX3_init_37 : decode cX3_init 37 = .ok (.putfield 31, 3) := by decide +kernel
theorem dX3_init_40 : decode cX3_init 40 = .ok (.aload_n 0, 1) := by decide +kernel
theorem dX3_init_41 : decode cX3_init 41 = .ok (.iconst 0, 1) := by decide +kernel
theorem dX3_init_42 : decode cX3_init 42 = .ok (.putfield 35, 3) := by decide +kernel
theorem dX3_init_45 : decode cX3_init 45 = .ok (.aload_n 0, 1) := by decide +kernel
theorem dX3_init_46 : decode cX3_init 46 = .ok (.iconst 0, 1) := by decide +kernel
theorem dX3_init_47 : decode cX3_init 47 = .ok (.putfield 39, 3) := by decide +kernel
theorem dX3_init_50 : decode cX3_init 50 = .ok (.aload_n 0, 1) := by decide +kernel
theorem dX3_init_51 : decode cX3_init 51 = .ok (.iconst 0, 1) := by decide +kernel
theorem dX3_init_52 : decode cX3_init 52 = .ok (.putfield 42, 3) := by decide +kernel
theorem dX3_init_55 : decode cX3_init 55 = .ok (.aload_n 0, 1) := by decide +kernel
theorem dX3_init_56 : decode cX3_init 56 = .ok (.iconst 0, 1) := by decide +kernel
theorem dX3_init_57 : decode cX3_init 57 = .ok (.putfield 45, 3) := by decide +kernel
theorem dX3_init_60 : decode cX3_init 60 = .ok (.aload_n 0, 1) := by decide +kernel
theorem dX3_init_61 : decode cX3_init 61 = .ok (.iconst 0, 1) := by decide +kernel
theorem dX3_init_62 : decode cX3_init 62 = .ok (.putfield 48, 3) := by decide +kernel
theorem dX3_init_65 : decode cX3_init 65 = .ok (.iconst 0, 1) := by decide +kernel
theorem dX3_init_66 : decode cX3_init 66 = .ok (.istore_n 1, 1) := by decide +kernel
theorem dX3_init_67 : decode cX3_init 67 = .ok (.iload_n 1, 1) := by decide +kernel
theorem dX3_init_68 : decode cX3_init 68 = .ok (.bipush 8, 2) := by decide +kernel
theorem dX3_init_70 : decode cX3_init 70 = .ok (.if_icmp .ge 22, 3) := by decide +kernel
theorem dX3_init_73 : decode cX3_init 73 = .ok (.aload_n 0, 1) := by decide +kernel
theorem dX3_init_74 : decode cX3_init 74 = .ok (.getfield 11, 3) := by decide +kernel
theorem dX3_init_77 : decode cX3_init 77 = .ok (.iload_n 1, 1) := by decide +kernel
theorem dX3_init_78 : decode cX3_init 78 = .ok (.new 9, 3) := by decide +kernel
theorem dX3_init_81 : decode cX3_init 81 = .ok (.dup, 1) := by decide +kernel
theorem dX3_init_82 : decode cX3_init 82 = .ok (.invokespecial 51, 3) := by decide +kernel
theorem dX3_init_85 : decode cX3_init 85 = .ok (.aastore, 1) := by decide +kernel
theorem dX3_init_86 : decode cX3_init 86 = .ok (.iinc 1 1, 3) := by decide +kernel
theorem dX3_init_89 : decode cX3_init 89 = .ok (.goto (-22), 3) := by decide +kernel
theorem dX3_init_92 : decode cX3_init 92 = .ok (.iconst 0, 1) := by decide +kernel
theorem dX3_init_93 : decode cX3_init 93 = .ok (.istore_n 1, 1) := by decide +kernel
theorem dX3_init_94 : decode cX3_init 94 = .ok (.iload_n 1, 1) := by decide +kernel
theorem dX3_init_95 : decode cX3_init 95 = .ok (.bipush 6, 2) := by decide +kernel
theorem dX3_init_97 : decode cX3_init 97 = .ok (.if_icmp .ge 22, 3) := by decide +kernel
theorem dX3_init_100 : decode cX3_init 100 = .ok (.aload_n 0, 1) := by decide +kernel
theorem dX3_init_101 : decode cX3_init 101 = .ok (.getfield 19, 3) := by decide +kernel
theorem dX3_init_104 : decode cX3_init 104 = .ok (.iload_n 1, 1) := by decide +kernel
theorem dX3_init_105 : decode cX3_init 105 = .ok (.new 17, 3) := by decide +kernel
theorem dX3_init_108 : decode cX3_init 108 = .ok (.dup, 1) := by decide +kernel
theorem dX3_init_109 : decode cX3_init 109 = .ok (.invokespecial 52, 3) := by decide +kernel
theorem dX3_init_112 : decode cX3_init 112 = .ok (.aastore, 1) := by decide +kernel
theorem dX3_init_113 : decode cX3_init 113 = .ok (.iinc 1 1, 3) := by decide +kernel
theorem dX3_init_116 : decode cX3_init 116 = .ok (.goto (-22), 3) := by decide +kernel
theorem dX3_init_119 : decode cX3_init 119 = .ok (.iconst 0, 1) := by decide +kernel
theorem dX3_init_120 : decode cX3_init 120 = .ok (.istore_n 1, 1) := by decide +kernel
theorem dX3_init_121 : decode cX3_init 121 = .ok (.iload_n 1, 1) := by decide +kernel
theorem dX3_init_122 : decode cX3_init 122 = .ok (.bipush 10, 2) := by decide +kernel
theorem dX3_init_124 : decode cX3_init 124 = .ok (.if_icmp .ge 22, 3) := by decide +kernel
theorem dX3_init_127 : decode cX3_init 127 = .ok (.aload_n 0, 1) := by decide +kernel
theorem dX3_init_128 : decode cX3_init 128 = .ok (.getfield 25, 3) := by decide +kernel
theorem dX3_init_131 : decode cX3_init 131 = .ok (.iload_n 1, 1) := by decide +kernel
theorem dX3_init_132 : decode cX3_init 132 = .ok (.new 23, 3) := by decide +kernel
theorem dX3_init_135 : decode cX3_init 135 = .ok (.dup, 1) := by decide +kernel
theorem dX3_init_136 : decode cX3_init 136 = .ok (.invokespecial 53, 3) := by decide +kernel
theorem dX3_init_139 : decode cX3_init 139 = .ok (.aastore, 1) := by decide +kernel
theorem dX3_init_140 : decode cX3_init 140 = .ok (.iinc 1 1, 3) := by decide +kernel
theorem dX3_init_143 : decode cX3_init 143 = .ok (.goto (-22), 3) := by decide +kernel
theorem dX3_init_146 : decode cX3_init 146 = .ok (.iconst 0, 1) := by decide +kernel
theorem dX3_init_147 : decode cX3_init 147 = .ok (.istore_n 1, 1) := by decide +kernel
theorem dX3_init_148 : decode cX3_init 148 = .ok (.iload_n 1, 1) := by decide +kernel
theorem dX3_init_149 : decode cX3_init 149 = .ok (.bipush 20, 2) := by decide +kernel
theorem dX3_init_151 : decode cX3_init 151 = .ok (.if_icmp .ge 22, 3) := by decide +kernel
theorem dX3_init_154 : decode cX3_init 154 = .ok (.aload_n 0, 1) := by decide +kernel
theorem dX3_init_155 : decode cX3_init 155 = .ok (.getfield 31, 3) := by decide +kernel
theorem dX3_init_158 : decode cX3_init 158 = .ok (.iload_n 1, 1) := by decide +kernel
theorem dX3_init_159 : decode cX3_init 159 = .ok (.new 29, 3) := by decide +kernel
theorem dX3_init_162 : decode cX3_init 162 = .ok (.dup, 1) := by decide +kernel
theorem dX3_init_163 : decode cX3_init 163 = .ok (.invokespecial 54, 3) := by decide +kernel
theorem dX3_init_166 : decode cX3_init 166 = .ok (.aastore, 1) := by decide +kernel
theorem dX3_init_167 : decode cX3_init 167 = .ok (.iinc 1 1, 3) := by decide +kernel
theorem dX3_init_170 : decode cX3_init 170 = .ok (.goto (-22), 3) := by decide +kernel
theorem dX3_init_173 : decode cX3_init 173 = .ok (.return_, 1) := by decide +kernel
theorem dX3_copyFrom_0 : decode cX3_copyFrom 0 = .ok (.iconst 0, 1) := by decide +kernel
theorem dX3_copyFrom_1 : decode cX3_copyFrom 1 = .ok (.istore_n 2, 1) := by decide +kernel
theorem dX3_copyFrom_2 : decode cX3_copyFrom 2 = .ok (.iload_n 2, 1) := by decide +kernel
theorem dX3_copyFrom_3 : decode cX3_copyFrom 3 = .ok (.bipush 8, 2) := by decide +kernel
theorem dX3_copyFrom_5 : decode cX3_copyFrom 5 = .ok (.if_icmp .ge 24, 3) := by decide +kernel
theorem dX3_copyFrom_8 : decode cX3_copyFrom 8 = .ok (.aload_n 0, 1) := by decide +kernel
theorem dX3_copyFrom_9 : decode cX3_copyFrom 9 = .ok (.getfield 11, 3) := by decide +kernel
theorem dX3_copyFrom_12 : decode cX3_copyFrom 12 = .ok (.iload_n 2, 1) := by decide +kernel
theorem dX3_copyFrom_13 : decode cX3_copyFrom 13 = .ok (.aaload, 1) := by decide +kernel
theorem dX3_copyFrom_14 : decode cX3_copyFrom 14 = .ok (.aload_n 1, 1) := by decide +kernel
theorem dX3_copyFrom_15 : decode cX3_copyFrom 15 = .ok (.getfield 11, 3) := by decide +kernel
theorem dX3_copyFrom_18 : decode cX3_copyFrom 18 = .ok (.iload_n 2, 1) := by decide +kernel
theorem dX3_copyFrom_19 : decode cX3_copyFrom 19 = .ok (.aaload, 1) := by decide +kernel
theorem dX3_copyFrom_20 : decode cX3_copyFrom 20 = .ok (.invokevirtual 55, 3) := by decide +kernel
theorem dX3_copyFrom_23 : decode cX3_copyFrom 23 = .ok (.iinc 2 1, 3) := by decide +kernel
theorem dX3_copyFrom_26 : decode cX3_copyFrom 26 = .ok (.goto (-24), 3) := by decide +kernel
theorem dX3_copyFrom_29 : decode cX3_copyFrom 29 = .ok (.iconst 0, 1) := by decide +kernel
theorem dX3_copyFrom_30 : decode cX3_copyFrom 30 = .ok (.istore_n 2, 1) := by decide +kernel
theorem dX3_copyFrom_31 : decode cX3_copyFrom 31 = .ok (.iload_n 2, 1) := by decide +kernel
theorem dX3_copyFrom_32 : decode cX3_copyFrom 32 = .ok (.bipush 6, 2) := by decide +kernel
theorem dX3_copyFrom_34 : decode cX3_copyFrom 34 = .ok (.if_icmp .ge 24, 3) := by decide +kernel
theorem dX3_copyFrom_37 : decode cX3_copyFrom 37 = .ok (.aload_n 0, 1) := by decide +kernel
theorem dX3_copyFrom_38 : decode cX3_copyFrom 38 = .ok (.getfield 19, 3) := by decide +kernel
theorem dX3_copyFrom_41 : decode cX3_copyFrom 41 = .ok (.iload_n 2, 1) := by decide +kernel
theorem dX3_copyFrom_42 : decode cX3_copyFrom 42 = .ok (.aaload, 1) := by decide +kernel
theorem dX3_copyFrom_43 : decode cX3_copyFrom 43 = .ok (.aload_n 1, 1) := by decide +kernel
theorem dX3_copyFrom_44 : decode cX3_copyFrom 44 = .ok (.getfield 19, 3) := by decide +kernel
theorem dX3_copyFrom_47 : decode cX3_copyFrom 47 = .ok (.iload_n 2, 1) := by decide +kernel
theorem dX3_copyFrom_48 : decode cX3_copyFrom 48 = .ok (.aaload, 1) := by decide +kernel
theorem dX3_copyFrom_49 : decode cX3_copyFrom 49 = .ok (.invokevirtual 59, 3) := by decide +kernel
theorem dX3_copyFrom_52 : decode cX3_copyFrom 52 = .ok (.iinc 2 1, 3) := by decide +kernel
theorem dX3_copyFrom_55 : decode cX3_copyFrom 55 = .ok (.goto (-24), 3) := by decide +kernel
theorem dX3_copyFrom_58 : decode cX3_copyFrom 58 = .ok (.iconst 0, 1) := by decide +kernel
theorem dX3_copyFrom_59 : decode cX3_copyFrom 59 = .ok (.istore_n 2, 1) := by decide +kernel
theorem dX3_copyFrom_60 : decode cX3_copyFrom 60 = .ok (.iload_n 2, 1) := by decide +kernel
theorem dX3_copyFrom_61 : decode cX3_copyFrom 61 = .ok (.bipush 10, 2) := by decide +kernel
theorem dX3_copyFrom_63 : decode cX3_copyFrom 63 = .ok (.if_icmp .ge 24, 3) := by decide +kernel
theorem dX3_copyFrom_66 : decode cX3_copyFrom 66 = .ok (.aload_n 0, 1) := by decide +kernel
theorem dX3_copyFrom_67 : decode cX3_copyFrom 67 = .ok (.getfield 25, 3) := by decide +kernel
theorem dX3_copyFrom_70 : decode cX3_copyFrom 70 = .ok (.iload_n 2, 1) := by decide +kernel
theorem dX3_copyFrom_71 : decode cX3_copyFrom 71 = .ok (.aaload, 1) := by decide +kernel
theorem dX3_copyFrom_72 : decode cX3_copyFrom 72 = .ok (.aload_n 1, 1) := by decide +kernel
theorem dX3_copyFrom_73 : decode cX3_copyFrom 73 = .ok (.getfield 25, 3) := by decide +kernel
theorem dX3_copyFrom_76 : decode cX3_copyFrom 76 = .ok (.iload_n 2, 1) := by decide +kernel
theorem dX3_copyFrom_77 : decode cX3_copyFrom 77 = .ok (.aaload, 1) := by decide +kernel
theorem dX3_copyFrom_78 : decode cX3_copyFrom 78 = .ok (.invokevirtual 62, 3) := by decide +kernel
theorem dX3_copyFrom_81 : decode cX3_copyFrom 81 = .ok (.iinc 2 1, 3) := by decide +kernel
theorem dX3_copyFrom_84 : decode cX3_copyFrom 84 = .ok (.goto (-24), 3) := by decide +kernel
theorem dX3_copyFrom_87 : decode cX3_copyFrom 87 = .ok (.iconst 0, 1) := by decide +kernel
theorem dX3_copyFrom_88 : decode cX3_copyFrom 88 = .ok (.istore_n 2, 1) := by decide +kernel
theorem dX3_copyFrom_89 : decode cX3_copyFrom 89 = .ok (.iload_n 2, 1) := by decide +kernel
theorem dX3_copyFrom_90 : decode cX3_copyFrom 90 = .ok (.bipush 20, 2) := by decide +kernel
theorem dX3_copyFrom_92 : decode cX3_copyFrom 92 = .ok (.if_icmp .ge 24, 3) := by decide +kernel
theorem dX3_copyFrom_95 : decode cX3_copyFrom 95 = .ok (.aload_n 0, 1) := by decide +kernel
theorem dX3_copyFrom_96 : decode cX3_copyFrom 96 = .ok (.getfield 31, 3) := by decide +kernel
theorem dX3_copyFrom_99 : decode cX3_copyFrom 99 = .ok (.iload_n 2, 1) := by decide +kernel
theorem dX3_copyFrom_100 : decode cX3_copyFrom 100 = .ok (.aaload, 1) := by decide +kernel
theorem dX3_copyFrom_101 : decode cX3_copyFrom 101 = .ok (.aload_n 1, 1) := by decide +kernel
theorem dX3_copyFrom_102 : decode cX3_copyFrom 102 = .ok (.getfield 31, 3) := by decide +kernel
theorem dX3_copyFrom_105 : decode cX3_copyFrom 105 = .ok (.iload_n 2, 1) := by decide +kernel
theorem dX3_copyFrom_106 : decode cX3_copyFrom 106 = .ok (.aaload, 1) := by decide +kernel
theorem dX3_copyFrom_107 : decode cX3_copyFrom 107 = .ok (.invokevirtual 65, 3) := by decide +kernel
theorem dX3_copyFrom_110 : decode cX3_copyFrom 110 = .ok (.iinc 2 1, 3) := by decide +kernel
theorem dX3_copyFrom_113 : decode cX3_copyFrom 113 = .ok (.goto (-24), 3) := by decide +kernel
theorem dX3_copyFrom_116 : decode cX3_copyFrom 116 = .ok (.aload_n 0, 1) := by decide +kernel
theorem dX3_copyFrom_117 : decode cX3_copyFrom 117 = .ok (.aload_n 1, 1) := by decide +kernel
theorem dX3_copyFrom_118 : decode cX3_copyFrom 118 = .ok (.getfield 35, 3) := by decide +kernel
theorem dX3_copyFrom_121 : decode cX3_copyFrom 121 = .ok (.putfield 35, 3) := by decide +kernel
theorem dX3_copyFrom_124 : decode cX3_copyFrom 124 = .ok (.aload_n 0, 1) := by decide +kernel
theorem dX3_copyFrom_125 : decode cX3_copyFrom 125 = .ok (.aload_n 1, 1) := by decide +kernel
theorem dX3_copyFrom_126 : decode cX3_copyFrom 126 = .ok (.getfield 39, 3) := by decide +kernel
theorem dX3_copyFrom_129 : decode cX3_copyFrom 129 = .ok (.putfield 39, 3) := by decide +kernel
theorem dX3_copyFrom_132 : decode cX3_copyFrom 132 = .ok (.aload_n 0, 1) := by decide +kernel
theorem dX3_copyFrom_133 : decode cX3_copyFrom 133 = .ok (.aload_n 1, 1) := by decide +kernel
theorem dX3_copyFrom_134 : decode cX3_copyFrom 134 = .ok (.getfield 42, 3) := by decide +kernel
theorem dX3_copyFrom_137 : decode cX3_copyFrom 137 = .ok (.putfield 42, 3) := by decide +kernel
theorem dX3_copyFrom_140 : decode cX3_copyFrom 140 = .ok (.aload_n 0, 1) := by decide +kernel
theorem dX3_copyFrom_141 : decode cX3_copyFrom 141 = .ok (.aload_n 1, 1) := by decide +kernel
theorem dX3_copyFrom_142 : decode cX3_copyFrom 142 = .ok (.getfield 45, 3) := by decide +kernel
theorem dX3_copyFrom_145 : decode cX3_copyFrom 145 = .ok (.putfield 45, 3) := by decide +kernel
theorem dX3_copyFrom_148 : decode cX3_copyFrom 148 = .ok (.aload_n 0, 1) := by decide +kernel
theorem dX3_copyFrom_149 : decode cX3_copyFrom 149 = .ok (.aload_n 1, 1) := by decide +kernel
theorem dX3_copyFrom_150 : decode cX3_copyFrom 150 = .ok (.getfield 48, 3) := by decide +kernel
theorem dX3_copyFrom_153 : decode cX3_copyFrom 153 = .ok (.putfield 48, 3) := by decide +kernel
theorem dX3_copyFrom_156 : decode cX3_copyFrom 156 = .ok (.return_, 1) := by decide +kernel
theorem dX3_makeColorant_0 : decode cX3_makeColorant 0 = .ok (.aload_n 0, 1) := by decide +kernel
theorem dX3_makeColorant_1 : decode cX3_makeColorant 1 = .ok (.getfield 11, 3) := by decide +kernel
theorem dX3_makeColorant_4 : decode cX3_makeColorant 4 = .ok (.aload_n 0, 1) := by decide +kernel
theorem dX3_makeColorant_5 : decode cX3_makeColorant 5 = .ok (.getfield 35, 3) := by decide +kernel
theorem dX3_makeColorant_8 : decode cX3_makeColorant 8 = .ok (.aaload, 1) := by decide +kernel
theorem dX3_makeColorant_9 : decode cX3_makeColorant 9 = .ok (.astore 4, 2) := by decide +kernel
theorem dX3_makeColorant_11 : decode cX3_makeColorant 11 = .ok (.aload 4, 2) := by decide +kernel
theorem dX3_makeColorant_13 : decode cX3_makeColorant 13 = .ok (.getfield 68, 3) := by decide +kernel
theorem dX3_makeColorant_16 : decode cX3_makeColorant 16 = .ok (.iconst 0, 1) := by decide +kernel
theorem dX3_makeColorant_17 : decode cX3_makeColorant 17 = .ok (.iload_n 1, 1) := by decide +kernel
theorem dX3_makeColorant_18 : decode cX3_makeColorant 18 = .ok (.iastore, 1) := by decide +kernel
theorem dX3_makeColorant_19 : decode cX3_makeColorant 19 = .ok (.aload 4, 2) := by decide +kernel
theorem dX3_makeColorant_21 : decode cX3_makeColorant 21 = .ok (.getfield 68, 3) := by decide +kernel
theorem dX3_makeColorant_24 : decode cX3_makeColorant 24 = .ok (.iconst 1, 1) := by decide +kernel
theorem dX3_makeColorant_25 : decode cX3_makeColorant 25 = .ok (.iload_n 2, 1) := by decide +kernel
theorem dX3_makeColorant_26 : decode cX3_makeColorant 26 = .ok (.iastore, 1) := by decide +kernel
theorem dX3_makeColorant_27 : decode cX3_makeColorant 27 = .ok (.aload 4, 2) := by decide +kernel
theorem dX3_makeColorant_29 : decode cX3_makeColorant 29 = .ok (.getfield 68, 3) := by decide +kernel
theorem dX3_makeColorant_32 : decode cX3_makeColorant 32 = .ok (.iconst 2, 1) := by decide +kernel
theorem dX3_makeColorant_33 : decode cX3_makeColorant 33 = .ok (.iload_n 3, 1) := by decide +kernel
theorem dX3_makeColorant_34 : decode cX3_makeColorant 34 = .ok (.iastore, 1) := by decide +kernel
theorem dX3_makeColorant_35 : decode cX3_makeColorant 35 = .ok (.aload 4, 2) := by decide +kernel
theorem dX3_makeColorant_37 : decode cX3_makeColorant 37 = .ok (.bipush 60, 2) := by decide +kernel
theorem dX3_makeColorant_39 : decode cX3_makeColorant 39 = .ok (.putfield 72, 3) := by decide +kernel
theorem dX3_makeColorant_42 : decode cX3_makeColorant 42 = .ok (.aload_n 0, 1) := by decide +kernel
theorem dX3_makeColorant_43 : decode cX3_makeColorant 43 = .ok (.dup, 1) := by decide +kernel
theorem dX3_makeColorant_44 : decode cX3_makeColorant 44 = .ok (.getfield 35, 3) := by decide +kernel
theorem dX3_makeColorant_47 : decode cX3_makeColorant 47 = .ok (.iconst 1, 1) := by decide +kernel
theorem dX3_makeColorant_48 : decode cX3_makeColorant 48 = .ok (.iadd, 1) := by decide +kernel
theorem dX3_makeColorant_49 : decode cX3_makeColorant 49 = .ok (.putfield 35, 3) := by decide +kernel
theorem dX3_makeColorant_52 : decode cX3_makeColorant 52 = .ok (.aload_n 0, 1) := by decide +kernel
theorem dX3_makeColorant_53 : decode cX3_makeColorant 53 = .ok (.getfield 35, 3) := by decide +kernel
theorem dX3_makeColorant_56 : decode cX3_makeColorant 56 = .ok (.iconst 1, 1) := by decide +kernel
theorem dX3_makeColorant_57 : decode cX3_makeColorant 57 = .ok (.isub, 1) := by decide +kernel
theorem dX3_makeColorant_58 : decode cX3_makeColorant 58 = .ok (.ireturn, 1) := by decide +kernel
theorem dX3_makeBase_0 : decode cX3_makeBase 0 = .ok (.aload_n 0, 1) := by decide +kernel
theorem dX3_makeBase_1 : decode cX3_makeBase 1 = .ok (.getfield 19, 3) := by decide +kernel
theorem dX3_makeBase_4 : decode cX3_makeBase 4 = .ok (.aload_n 0, 1) := by decide +kernel
theorem dX3_makeBase_5 : decode cX3_makeBase 5 = .ok (.getfield 39, 3) := by decide +kernel
theorem dX3_makeBase_8 : decode cX3_makeBase 8 = .ok (.aaload, 1) := by decide +kernel
theorem dX3_makeBase_9 : decode cX3_makeBase 9 = .ok (.astore 5, 2) := by decide +kernel
theorem dX3_makeBase_11 : decode cX3_makeBase 11 = .ok (.aload 5, 2) := by decide +kernel
theorem dX3_makeBase_13 : decode cX3_makeBase 13 = .ok (.getfield 75, 3) := by decide +kernel
theorem dX3_makeBase_16 : decode cX3_makeBase 16 = .ok (.iconst 0, 1) := by decide +kernel
theorem dX3_makeBase_17 : decode cX3_makeBase 17 = .ok (.iload_n 1, 1) := by decide +kernel
theorem dX3_makeBase_18 : decode cX3_makeBase 18 = .ok (.iastore, 1) := by decide +kernel
theorem dX3_makeBase_19 : decode cX3_makeBase 19 = .ok (.aload 5, 2) := by decide +kernel
theorem dX3_makeBase_21 : decode cX3_makeBase 21 = .ok (.getfield 75, 3) := by decide +kernel
theorem dX3_makeBase_24 : decode cX3_makeBase 24 = .ok (.iconst 1, 1) := by decide +kernel
theorem dX3_makeBase_25 : decode cX3_makeBase 25 = .ok (.iload_n 2, 1) := by decide +kernel
theorem dX3_makeBase_26 : decode cX3_makeBase 26 = .ok (.iastore, 1) := by decide +kernel
theorem dX3_makeBase_27 : decode cX3_makeBase 27 = .ok (.aload 5, 2) := by decide +kernel
theorem dX3_makeBase_29 : decode cX3_makeBase 29 = .ok (.getfield 75, 3) := by decide +kernel
theorem dX3_makeBase_32 : decode cX3_makeBase 32 = .ok (.iconst 2, 1) := by decide +kernel
theorem dX3_makeBase_33 : decode cX3_makeBase 33 = .ok (.iload_n 3, 1) := by decide +kernel
theorem dX3_makeBase_34 : decode cX3_makeBase 34 = .ok (.iastore, 1) := by decide +kernel
theorem dX3_makeBase_35 : decode cX3_makeBase 35 = .ok (.aload 5, 2) := by decide +kernel
theorem dX3_makeBase_37 : decode cX3_makeBase 37 = .ok (.iload 4, 2) := by decide +kernel
theorem dX3_makeBase_39 : decode cX3_makeBase 39 = .ok (.putfield 76, 3) := by decide +kernel
theorem dX3_makeBase_42 : decode cX3_makeBase 42 = .ok (.aload_n 0, 1) := by decide +kernel
theorem dX3_makeBase_43 : decode cX3_makeBase 43 = .ok (.dup, 1) := by decide +kernel
theorem dX3_makeBase_44 : decode cX3_makeBase 44 = .ok (.getfield 39, 3) := by decide +kernel
theorem dX3_makeBase_47 : decode cX3_makeBase 47 = .ok (.iconst 1, 1) := by decide +kernel
theorem dX3_makeBase_48 : decode cX3_makeBase 48 = .ok (.iadd, 1) := by decide +kernel
theorem dX3_makeBase_49 : decode cX3_makeBase 49 = .ok (.putfield 39, 3) := by decide +kernel
theorem dX3_makeBase_52 : decode cX3_makeBase 52 = .ok (.aload_n 0, 1) := by decide +kernel
theorem dX3_makeBase_53 : decode cX3_makeBase 53 = .ok (.getfield 39, 3) := by decide +kernel
theorem dX3_makeBase_56 : decode cX3_makeBase 56 = .ok (.iconst 1, 1) := by decide +kernel
theorem dX3_makeBase_57 : decode cX3_makeBase 57 = .ok (.isub, 1) := by decide +kernel
theorem dX3_makeBase_58 : decode cX3_makeBase 58 = .ok (.ireturn, 1) := by decide +kernel
theorem dX3_makeFormula_0 : decode cX3_makeFormula 0 = .ok (.aload_n 0, 1) := by decide +kernel
theorem dX3_makeFormula_1 : decode cX3_makeFormula 1 = .ok (.getfield 25, 3) := by decide +kernel
theorem dX3_makeFormula_4 : decode cX3_makeFormula 4 = .ok (.aload_n 0, 1) := by decide +kernel
theorem dX3_makeFormula_5 : decode cX3_makeFormula 5 = .ok (.getfield 42, 3) := by decide +kernel
theorem dX3_makeFormula_8 : decode cX3_makeFormula 8 = .ok (.aaload, 1) := by decide +kernel
theorem dX3_makeFormula_9 : decode cX3_makeFormula 9 = .ok (.astore_n 2, 1) := by decide +kernel
theorem dX3_makeFormula_10 : decode cX3_makeFormula 10 = .ok (.aload_n 2, 1) := by decide +kernel
theorem dX3_makeFormula_11 : decode cX3_makeFormula 11 = .ok (.aload_n 1, 1) := by decide +kernel
theorem dX3_makeFormula_12 : decode cX3_makeFormula 12 = .ok (.getfield 79, 3) := by decide +kernel
theorem dX3_makeFormula_15 : decode cX3_makeFormula 15 = .ok (.putfield 84, 3) := by decide +kernel
theorem dX3_makeFormula_18 : decode cX3_makeFormula 18 = .ok (.iconst 0, 1) := by decide +kernel
theorem dX3_makeFormula_19 : decode cX3_makeFormula 19 = .ok (.istore_n 3, 1) := by decide +kernel
theorem dX3_makeFormula_20 : decode cX3_makeFormula 20 = .ok (.iload_n 3, 1) := by decide +kernel
theorem dX3_makeFormula_21 : decode cX3_makeFormula 21 = .ok (.aload_n 0, 1) := by decide +kernel
theorem dX3_makeFormula_22 : decode cX3_makeFormula 22 = .ok (.getfield 35, 3) := by decide +kernel
theorem dX3_makeFormula_25 : decode cX3_makeFormula 25 = .ok (.if_icmp .ge 25, 3) := by decide +kernel
theorem dX3_makeFormula_28 : decode cX3_makeFormula 28 = .ok (.aload_n 2, 1) := by decide +kernel
theorem dX3_makeFormula_29 : decode cX3_makeFormula 29 = .ok (.getfield 85, 3) := by decide +kernel
theorem dX3_makeFormula_32 : decode cX3_makeFormula 32 = .ok (.iload_n 3, 1) := by decide +kernel
theorem dX3_makeFormula_33 : decode cX3_makeFormula 33 = .ok (.aload_n 1, 1) := by decide +kernel
theorem dX3_makeFormula_34 : decode cX3_makeFormula 34 = .ok (.getfield 88, 3) := by decide +kernel
theorem dX3_makeFormula_37 : decode cX3_makeFormula 37 = .ok (.iload_n 3, 1) := by decide +kernel
theorem dX3_makeFormula_38 : decode cX3_makeFormula 38 = .ok (.iaload, 1) := by decide +kernel
theorem dX3_makeFormula_39 : decode cX3_makeFormula 39 = .ok (.iconst 0, 1) := by decide +kernel
theorem dX3_makeFormula_40 : decode cX3_makeFormula 40 = .ok (.invokestatic 89, 3) := by decide +kernel
theorem dX3_makeFormula_43 : decode cX3_makeFormula 43 = .ok (.iastore, 1) := by decide +kernel
theorem dX3_makeFormula_44 : decode cX3_makeFormula 44 = .ok (.iinc 3 1, 3) := by decide +kernel
theorem dX3_makeFormula_47 : decode cX3_makeFormula 47 = .ok (.goto (-27), 3) := by decide +kernel
theorem dX3_makeFormula_50 : decode cX3_makeFormula 50 = .ok (.aload_n 0, 1) := by decide +kernel
theorem dX3_makeFormula_51 : decode cX3_makeFormula 51 = .ok (.dup, 1) := by decide +kernel
theorem dX3_makeFormula_52 : decode cX3_makeFormula 52 = .ok (.getfield 42, 3) := by decide +kernel
theorem dX3_makeFormula_55 : decode cX3_makeFormula 55 = .ok (.iconst 1, 1) := by decide +kernel
theorem dX3_makeFormula_56 : decode cX3_makeFormula 56 = .ok (.iadd, 1) := by decide +kernel
theorem dX3_makeFormula_57 : decode cX3_makeFormula 57 = .ok (.putfield 42, 3) := by decide +kernel
theorem dX3_makeFormula_60 : decode cX3_makeFormula 60 = .ok (.aload_n 0, 1) := by decide +kernel
theorem dX3_makeFormula_61 : decode cX3_makeFormula 61 = .ok (.getfield 42, 3) := by decide +kernel
theorem dX3_makeFormula_64 : decode cX3_makeFormula 64 = .ok (.iconst 1, 1) := by decide +kernel
theorem dX3_makeFormula_65 : decode cX3_makeFormula 65 = .ok (.isub, 1) := by decide +kernel
theorem dX3_makeFormula_66 : decode cX3_makeFormula 66 = .ok (.ireturn, 1) := by decide +kernel
theorem dX3_makeCan_0 : decode cX3_makeCan 0 = .ok (.aload_n 0, 1) := by decide +kernel
theorem dX3_makeCan_1 : decode cX3_makeCan 1 = .ok (.getfield 25, 3) := by decide +kernel
theorem dX3_makeCan_4 : decode cX3_makeCan 4 = .ok (.iload_n 1, 1) := by decide +kernel
theorem dX3_makeCan_5 : decode cX3_makeCan 5 = .ok (.aaload, 1) := by decide +kernel
theorem dX3_makeCan_6 : decode cX3_makeCan 6 = .ok (.astore_n 2, 1) := by decide +kernel
theorem dX3_makeCan_7 : decode cX3_makeCan 7 = .ok (.aload_n 0, 1) := by decide +kernel
theorem dX3_makeCan_8 : decode cX3_makeCan 8 = .ok (.getfield 31, 3) := by decide +kernel
theorem dX3_makeCan_11 : decode cX3_makeCan 11 = .ok (.aload_n 0, 1) := by decide +kernel
theorem dX3_makeCan_12 : decode cX3_makeCan 12 = .ok (.getfield 45, 3) := by decide +kernel
theorem dX3_makeCan_15 : decode cX3_makeCan 15 = .ok (.aaload, 1) := by decide +kernel
theorem dX3_makeCan_16 : decode cX3_makeCan 16 = .ok (.astore_n 3, 1) := by decide +kernel
theorem dX3_makeCan_17 : decode cX3_makeCan 17 = .ok (.aload_n 3, 1) := by decide +kernel
theorem dX3_makeCan_18 : decode cX3_makeCan 18 = .ok (.iload_n 1, 1) := by decide +kernel
theorem dX3_makeCan_19 : decode cX3_makeCan 19 = .ok (.putfield 95, 3) := by decide +kernel
theorem dX3_makeCan_22 : decode cX3_makeCan 22 = .ok (.aload_n 3, 1) := by decide +kernel
theorem dX3_makeCan_23 : decode cX3_makeCan 23 = .ok (.aload_n 2, 1) := by decide +kernel
theorem dX3_makeCan_24 : decode cX3_makeCan 24 = .ok (.getfield 84, 3) := by decide +kernel
theorem dX3_makeCan_27 : decode cX3_makeCan 27 = .ok (.putfield 98, 3) := by decide +kernel
theorem dX3_makeCan_30 : decode cX3_makeCan 30 = .ok (.iconst 0, 1) := by decide +kernel
theorem dX3_makeCan_31 : decode cX3_makeCan 31 = .ok (.istore 4, 2) := by decide +kernel
theorem dX3_makeCan_33 : decode cX3_makeCan 33 = .ok (.iload 4, 2) := by decide +kernel
theorem dX3_makeCan_35 : decode cX3_makeCan 35 = .ok (.aload_n 0, 1) := by decide +kernel
theorem dX3_makeCan_36 : decode cX3_makeCan 36 = .ok (.getfield 35, 3) := by decide +kernel
theorem dX3_makeCan_39 : decode cX3_makeCan 39 = .ok (.if_icmp .ge 35, 3) := by decide +kernel
theorem dX3_makeCan_42 : decode cX3_makeCan 42 = .ok (.aload_n 0, 1) := by decide +kernel
theorem dX3_makeCan_43 : decode cX3_makeCan 43 = .ok (.getfield 11, 3) := by decide +kernel
theorem dX3_makeCan_46 : decode cX3_makeCan 46 = .ok (.iload 4, 2) := by decide +kernel
theorem dX3_makeCan_48 : decode cX3_makeCan 48 = .ok (.aaload, 1) := by decide +kernel
theorem dX3_makeCan_49 : decode cX3_makeCan 49 = .ok (.aload_n 3, 1) := by decide +kernel
theorem dX3_makeCan_50 : decode cX3_makeCan 50 = .ok (.iload 4, 2) := by decide +kernel
theorem dX3_makeCan_52 : decode cX3_makeCan 52 = .ok (.aload_n 2, 1) := by decide +kernel
theorem dX3_makeCan_53 : decode cX3_makeCan 53 = .ok (.iload 4, 2) := by decide +kernel
theorem dX3_makeCan_55 : decode cX3_makeCan 55 = .ok (.iconst 1, 1) := by decide +kernel
theorem dX3_makeCan_56 : decode cX3_makeCan 56 = .ok (.invokevirtual 99, 3) := by decide +kernel
theorem dX3_makeCan_59 : decode cX3_makeCan 59 = .ok (.invokevirtual 102, 3) := by decide +kernel
theorem dX3_makeCan_62 : decode cX3_makeCan 62 = .ok (.aload_n 2, 1) := by decide +kernel
theorem dX3_makeCan_63 : decode cX3_makeCan 63 = .ok (.iload 4, 2) := by decide +kernel
theorem dX3_makeCan_65 : decode cX3_makeCan 65 = .ok (.invokevirtual 106, 3) := by decide +kernel
theorem dX3_makeCan_68 : decode cX3_makeCan 68 = .ok (.iinc 4 1, 3) := by decide +kernel
theorem dX3_makeCan_71 : decode cX3_makeCan 71 = .ok (.goto (-38), 3) := by decide +kernel
theorem dX3_makeCan_74 : decode cX3_makeCan 74 = .ok (.aload_n 0, 1) := by decide +kernel
theorem dX3_makeCan_75 : decode cX3_makeCan 75 = .ok (.getfield 19, 3) := by decide +kernel
theorem dX3_makeCan_78 : decode cX3_makeCan 78 = .ok (.aload_n 2, 1) := by decide +kernel
theorem dX3_makeCan_79 : decode cX3_makeCan 79 = .ok (.getfield 84, 3) := by decide +kernel
theorem dX3_makeCan_82 : decode cX3_makeCan 82 = .ok (.aaload, 1) := by decide +kernel
theorem dX3_makeCan_83 : decode cX3_makeCan 83 = .ok (.dup, 1) := by decide +kernel
theorem dX3_makeCan_84 : decode cX3_makeCan 84 = .ok (.getfield 110, 3) := by decide +kernel
theorem dX3_makeCan_87 : decode cX3_makeCan 87 = .ok (.iconst 1, 1) := by decide +kernel
theorem dX3_makeCan_88 : decode cX3_makeCan 88 = .ok (.isub, 1) := by decide +kernel
theorem dX3_makeCan_89 : decode cX3_makeCan 89 = .ok (.putfield 110, 3) := by decide +kernel
theorem dX3_makeCan_92 : decode cX3_makeCan 92 = .ok (.aload_n 0, 1) := by decide +kernel
theorem dX3_makeCan_93 : decode cX3_makeCan 93 = .ok (.dup, 1) := by decide +kernel
theorem dX3_makeCan_94 : decode cX3_makeCan 94 = .ok (.getfield 45, 3) := by decide +kernel
theorem dX3_makeCan_97 : decode cX3_makeCan 97 = .ok (.iconst 1, 1) := by decide +kernel
theorem dX3_makeCan_98 : decode cX3_makeCan 98 = .ok (.iadd, 1) := by decide +kernel
theorem dX3_makeCan_99 : decode cX3_makeCan 99 = .ok (.putfield 45, 3) := by decide +kernel
theorem dX3_makeCan_102 : decode cX3_makeCan 102 = .ok (.aload_n 0, 1) := by decide +kernel
theorem dX3_makeCan_103 : decode cX3_makeCan 103 = .ok (.getfield 45, 3) := by decide +kernel
theorem dX3_makeCan_106 : decode cX3_makeCan 106 = .ok (.iconst 1, 1) := by decide +kernel
theorem dX3_makeCan_107 : decode cX3_makeCan 107 = .ok (.isub, 1) := by decide +kernel
theorem dX3_makeCan_108 : decode cX3_makeCan 108 = .ok (.ireturn, 1) := by decide +kernel
theorem dX3_whyNoFormula_0 : decode cX3_whyNoFormula 0 = .ok (.aload_n 1, 1) := by decide +kernel
theorem dX3_whyNoFormula_1 : decode cX3_whyNoFormula 1 = .ok (.getfield 79, 3) := by decide +kernel
theorem dX3_whyNoFormula_4 : decode cX3_whyNoFormula 4 = .ok (.aload_n 0, 1) := by decide +kernel
theorem dX3_whyNoFormula_5 : decode cX3_whyNoFormula 5 = .ok (.getfield 39, 3) := by decide +kernel
theorem dX3_whyNoFormula_8 : decode cX3_whyNoFormula 8 = .ok (.if_icmp .ge 14, 3) := by decide +kernel
theorem dX3_whyNoFormula_11 : decode cX3_whyNoFormula 11 = .ok (.aload_n 1, 1) := by decide +kernel
theorem dX3_whyNoFormula_12 : decode cX3_whyNoFormula 12 = .ok (.aload_n 0, 1) := by decide +kernel
theorem dX3_whyNoFormula_13 : decode cX3_whyNoFormula 13 = .ok (.getfield 35, 3) := by decide +kernel
theorem dX3_whyNoFormula_16 : decode cX3_whyNoFormula 16 = .ok (.invokevirtual 113, 3) := by decide +kernel
theorem dX3_whyNoFormula_19 : decode cX3_whyNoFormula 19 = .ok (.ifCond .eq 5, 3) := by decide +kernel
theorem dX3_whyNoFormula_22 : decode cX3_whyNoFormula 22 = .ok (.iconst 1, 1) := by decide +kernel
theorem dX3_whyNoFormula_23 : decode cX3_whyNoFormula 23 = .ok (.ireturn, 1) := by decide +kernel
theorem dX3_whyNoFormula_24 : decode cX3_whyNoFormula 24 = .ok (.aload_n 0, 1) := by decide +kernel
theorem dX3_whyNoFormula_25 : decode cX3_whyNoFormula 25 = .ok (.getfield 42, 3) := by decide +kernel
theorem dX3_whyNoFormula_28 : decode cX3_whyNoFormula 28 = .ok (.bipush 10, 2) := by decide +kernel
theorem dX3_whyNoFormula_30 : decode cX3_whyNoFormula 30 = .ok (.if_icmp .lt 7, 3) := by decide +kernel
theorem dX3_whyNoFormula_33 : decode cX3_whyNoFormula 33 = .ok (.iconst 2, 1) := by decide +kernel
theorem dX3_whyNoFormula_34 : decode cX3_whyNoFormula 34 = .ok (.goto 4, 3) := by decide +kernel
theorem dX3_whyNoFormula_37 : decode cX3_whyNoFormula 37 = .ok (.iconst 0, 1) := by decide +kernel
theorem dX3_whyNoFormula_38 : decode cX3_whyNoFormula 38 = .ok (.ireturn, 1) := by decide +kernel
theorem dX3_whyNoMix_0 : decode cX3_whyNoMix 0 = .ok (.aload_n 0, 1) := by decide +kernel
theorem dX3_whyNoMix_1 : decode cX3_whyNoMix 1 = .ok (.getfield 45, 3) := by decide +kernel
theorem dX3_whyNoMix_4 : decode cX3_whyNoMix 4 = .ok (.bipush 20, 2) := by decide +kernel
theorem dX3_whyNoMix_6 : decode cX3_whyNoMix 6 = .ok (.if_icmp .lt 5, 3) := by decide +kernel
theorem dX3_whyNoMix_9 : decode cX3_whyNoMix 9 = .ok (.iconst 2, 1) := by decide +kernel
theorem dX3_whyNoMix_10 : decode cX3_whyNoMix 10 = .ok (.ireturn, 1) := by decide +kernel
theorem dX3_whyNoMix_11 : decode cX3_whyNoMix 11 = .ok (.aload_n 0, 1) := by decide +kernel
theorem dX3_whyNoMix_12 : decode cX3_whyNoMix 12 = .ok (.getfield 19, 3) := by decide +kernel
theorem dX3_whyNoMix_15 : decode cX3_whyNoMix 15 = .ok (.aload_n 1, 1) := by decide +kernel
theorem dX3_whyNoMix_16 : decode cX3_whyNoMix 16 = .ok (.getfield 84, 3) := by decide +kernel
theorem dX3_whyNoMix_19 : decode cX3_whyNoMix 19 = .ok (.aaload, 1) := by decide +kernel
theorem dX3_whyNoMix_20 : decode cX3_whyNoMix 20 = .ok (.getfield 110, 3) := by decide +kernel
theorem dX3_whyNoMix_23 : decode cX3_whyNoMix 23 = .ok (.ifCond .ne 5, 3) := by decide +kernel
theorem dX3_whyNoMix_26 : decode cX3_whyNoMix 26 = .ok (.iconst 3, 1) := by decide +kernel
theorem dX3_whyNoMix_27 : decode cX3_whyNoMix 27 = .ok (.ireturn, 1) := by decide +kernel
theorem dX3_whyNoMix_28 : decode cX3_whyNoMix 28 = .ok (.aload_n 0, 1) := by decide +kernel
theorem dX3_whyNoMix_29 : decode cX3_whyNoMix 29 = .ok (.aload_n 1, 1) := by decide +kernel
theorem dX3_whyNoMix_30 : decode cX3_whyNoMix 30 = .ok (.iconst 1, 1) := by decide +kernel
theorem dX3_whyNoMix_31 : decode cX3_whyNoMix 31 = .ok (.invokevirtual 117, 3) := by decide +kernel
theorem dX3_whyNoMix_34 : decode cX3_whyNoMix 34 = .ok (.ifCond .ne 5, 3) := by decide +kernel
theorem dX3_whyNoMix_37 : decode cX3_whyNoMix 37 = .ok (.iconst 4, 1) := by decide +kernel
theorem dX3_whyNoMix_38 : decode cX3_whyNoMix 38 = .ok (.ireturn, 1) := by decide +kernel
theorem dX3_whyNoMix_39 : decode cX3_whyNoMix 39 = .ok (.aload_n 0, 1) := by decide +kernel
theorem dX3_whyNoMix_40 : decode cX3_whyNoMix 40 = .ok (.aload_n 1, 1) := by decide +kernel
theorem dX3_whyNoMix_41 : decode cX3_whyNoMix 41 = .ok (.iconst 1, 1) := by decide +kernel
theorem dX3_whyNoMix_42 : decode cX3_whyNoMix 42 = .ok (.invokevirtual 121, 3) := by decide +kernel
theorem dX3_whyNoMix_45 : decode cX3_whyNoMix 45 = .ok (.iconst (-1), 1) := by decide +kernel
theorem dX3_whyNoMix_46 : decode cX3_whyNoMix 46 = .ok (.if_icmp .ne 7, 3) := by decide +kernel
theorem dX3_whyNoMix_49 : decode cX3_whyNoMix 49 = .ok (.iconst 0, 1) := by decide +kernel
theorem dX3_whyNoMix_50 : decode cX3_whyNoMix 50 = .ok (.goto 4, 3) := by decide +kernel
theorem dX3_whyNoMix_53 : decode cX3_whyNoMix 53 = .ok (.iconst 5, 1) := by decide +kernel
theorem dX3_whyNoMix_54 : decode cX3_whyNoMix 54 = .ok (.ireturn, 1) := by decide +kernel
theorem dX3_whyNoCorrection_0 : decode cX3_whyNoCorrection 0 = .ok (.iload_n 3, 1) := by decide +kernel
theorem dX3_whyNoCorrection_1 : decode cX3_whyNoCorrection 1 = .ok (.aload_n 0, 1) := by decide +kernel
theorem dX3_whyNoCorrection_2 : decode cX3_whyNoCorrection 2 = .ok (.aload_n 1, 1) := by decide +kernel
theorem dX3_whyNoCorrection_3 : decode cX3_whyNoCorrection 3 = .ok (.invokevirtual 125, 3) := by decide +kernel
theorem dX3_whyNoCorrection_6 : decode cX3_whyNoCorrection 6 = .ok (.if_icmp .le 5, 3) := by decide +kernel
theorem dX3_whyNoCorrection_9 : decode cX3_whyNoCorrection 9 = .ok (.iconst 4, 1) := by decide +kernel
theorem dX3_whyNoCorrection_10 : decode cX3_whyNoCorrection 10 = .ok (.ireturn, 1) := by decide +kernel
theorem dX3_whyNoCorrection_11 : decode cX3_whyNoCorrection 11 = .ok (.iload_n 3, 1) := by decide +kernel
theorem dX3_whyNoCorrection_12 : decode cX3_whyNoCorrection 12 = .ok (.aload_n 0, 1) := by decide +kernel
theorem dX3_whyNoCorrection_13 : decode cX3_whyNoCorrection 13 = .ok (.getfield 11, 3) := by decide +kernel
theorem dX3_whyNoCorrection_16 : decode cX3_whyNoCorrection 16 = .ok (.iload_n 2, 1) := by decide +kernel
theorem dX3_whyNoCorrection_17 : decode cX3_whyNoCorrection 17 = .ok (.aaload, 1) := by decide +kernel
theorem dX3_whyNoCorrection_18 : decode cX3_whyNoCorrection 18 = .ok (.invokevirtual 129, 3) := by decide +kernel
theorem dX3_whyNoCorrection_21 : decode cX3_whyNoCorrection 21 = .ok (.if_icmp .le 7, 3) := by decide +kernel
theorem dX3_whyNoCorrection_24 : decode cX3_whyNoCorrection 24 = .ok (.iconst 5, 1) := by decide +kernel
theorem dX3_whyNoCorrection_25 : decode cX3_whyNoCorrection 25 = .ok (.goto 4, 3) := by decide +kernel
theorem dX3_whyNoCorrection_28 : decode cX3_whyNoCorrection 28 = .ok (.iconst 0, 1) := by decide +kernel
theorem dX3_whyNoCorrection_29 : decode cX3_whyNoCorrection 29 = .ok (.ireturn, 1) := by decide +kernel
theorem dX3_staysInLimit_0 : decode cX3_staysInLimit 0 = .ok (.iconst 0, 1) := by decide +kernel
theorem dX3_staysInLimit_1 : decode cX3_staysInLimit 1 = .ok (.istore_n 3, 1) := by decide +kernel
theorem dX3_staysInLimit_2 : decode cX3_staysInLimit 2 = .ok (.iconst 0, 1) := by decide +kernel
theorem dX3_staysInLimit_3 : decode cX3_staysInLimit 3 = .ok (.istore 4, 2) := by decide +kernel
theorem dX3_staysInLimit_5 : decode cX3_staysInLimit 5 = .ok (.iload 4, 2) := by decide +kernel
theorem dX3_staysInLimit_7 : decode cX3_staysInLimit 7 = .ok (.aload_n 0, 1) := by decide +kernel
theorem dX3_staysInLimit_8 : decode cX3_staysInLimit 8 = .ok (.getfield 35, 3) := by decide +kernel
theorem dX3_staysInLimit_11 : decode cX3_staysInLimit 11 = .ok (.if_icmp .ge 29, 3) := by decide +kernel
theorem dX3_staysInLimit_14 : decode cX3_staysInLimit 14 = .ok (.iload_n 3, 1) := by decide +kernel
theorem dX3_staysInLimit_15 : decode cX3_staysInLimit 15 = .ok (.aload_n 1, 1) := by decide +kernel
theorem dX3_staysInLimit_16 : decode cX3_staysInLimit 16 = .ok (.iload 4, 2) := by decide +kernel
theorem dX3_staysInLimit_18 : decode cX3_staysInLimit 18 = .ok (.iload_n 2, 1) := by decide +kernel
theorem dX3_staysInLimit_19 : decode cX3_staysInLimit 19 = .ok (.invokevirtual 99, 3) := by decide +kernel
theorem dX3_staysInLimit_22 : decode cX3_staysInLimit 22 = .ok (.aload_n 1, 1) := by decide +kernel
theorem dX3_staysInLimit_23 : decode cX3_staysInLimit 23 = .ok (.iload 4, 2) := by decide +kernel
theorem dX3_staysInLimit_25 : decode cX3_staysInLimit 25 = .ok (.iload_n 2, 1) := by decide +kernel
theorem dX3_staysInLimit_26 : decode cX3_staysInLimit 26 = .ok (.iconst 1, 1) := by decide +kernel
theorem dX3_staysInLimit_27 : decode cX3_staysInLimit 27 = .ok (.isub, 1) := by decide +kernel
theorem dX3_staysInLimit_28 : decode cX3_staysInLimit 28 = .ok (.invokevirtual 99, 3) := by decide +kernel
theorem dX3_staysInLimit_31 : decode cX3_staysInLimit 31 = .ok (.isub, 1) := by decide +kernel
theorem dX3_staysInLimit_32 : decode cX3_staysInLimit 32 = .ok (.iadd, 1) := by decide +kernel
theorem dX3_staysInLimit_33 : decode cX3_staysInLimit 33 = .ok (.istore_n 3, 1) := by decide +kernel
theorem dX3_staysInLimit_34 : decode cX3_staysInLimit 34 = .ok (.iinc 4 1, 3) := by decide +kernel
theorem dX3_staysInLimit_37 : decode cX3_staysInLimit 37 = .ok (.goto (-32), 3) := by decide +kernel
theorem dX3_staysInLimit_40 : decode cX3_staysInLimit 40 = .ok (.iload_n 3, 1) := by decide +kernel
theorem dX3_staysInLimit_41 : decode cX3_staysInLimit 41 = .ok (.aload_n 0, 1) := by decide +kernel
theorem dX3_staysInLimit_42 : decode cX3_staysInLimit 42 = .ok (.getfield 19, 3) := by decide +kernel
theorem dX3_staysInLimit_45 : decode cX3_staysInLimit 45 = .ok (.aload_n 1, 1) := by decide +kernel
theorem dX3_staysInLimit_46 : decode cX3_staysInLimit 46 = .ok (.getfield 84, 3) := by decide +kernel
theorem dX3_staysInLimit_49 : decode cX3_staysInLimit 49 = .ok (.aaload, 1) := by decide +kernel
theorem dX3_staysInLimit_50 : decode cX3_staysInLimit 50 = .ok (.getfield 76, 3) := by decide +kernel
theorem dX3_staysInLimit_53 : decode cX3_staysInLimit 53 = .ok (.if_icmp .gt 7, 3) := by decide +kernel
theorem dX3_staysInLimit_56 : decode cX3_staysInLimit 56 = .ok (.iconst 1, 1) := by decide +kernel
theorem dX3_staysInLimit_57 : decode cX3_staysInLimit 57 = .ok (.goto 4, 3) := by decide +kernel
theorem dX3_staysInLimit_60 : decode cX3_staysInLimit 60 = .ok (.iconst 0, 1) := by decide +kernel
theorem dX3_staysInLimit_61 : decode cX3_staysInLimit 61 = .ok (.ireturn, 1) := by decide +kernel
theorem dX3_firstLacking_0 : decode cX3_firstLacking 0 = .ok (.iconst 0, 1) := by decide +kernel
theorem dX3_firstLacking_1 : decode cX3_firstLacking 1 = .ok (.istore_n 3, 1) := by decide +kernel
theorem dX3_firstLacking_2 : decode cX3_firstLacking 2 = .ok (.iload_n 3, 1) := by decide +kernel
theorem dX3_firstLacking_3 : decode cX3_firstLacking 3 = .ok (.aload_n 0, 1) := by decide +kernel
theorem dX3_firstLacking_4 : decode cX3_firstLacking 4 = .ok (.getfield 35, 3) := by decide +kernel
theorem dX3_firstLacking_7 : decode cX3_firstLacking 7 = .ok (.if_icmp .ge 29, 3) := by decide +kernel
theorem dX3_firstLacking_10 : decode cX3_firstLacking 10 = .ok (.aload_n 1, 1) := by decide +kernel
theorem dX3_firstLacking_11 : decode cX3_firstLacking 11 = .ok (.iload_n 3, 1) := by decide +kernel
theorem dX3_firstLacking_12 : decode cX3_firstLacking 12 = .ok (.iload_n 2, 1) := by decide +kernel
theorem dX3_firstLacking_13 : decode cX3_firstLacking 13 = .ok (.invokevirtual 99, 3) := by decide +kernel
theorem dX3_firstLacking_16 : decode cX3_firstLacking 16 = .ok (.aload_n 0, 1) := by decide +kernel
theorem dX3_firstLacking_17 : decode cX3_firstLacking 17 = .ok (.getfield 11, 3) := by decide +kernel
theorem dX3_firstLacking_20 : decode cX3_firstLacking 20 = .ok (.iload_n 3, 1) := by decide +kernel
theorem dX3_firstLacking_21 : decode cX3_firstLacking 21 = .ok (.aaload, 1) := by decide +kernel
theorem dX3_firstLacking_22 : decode cX3_firstLacking 22 = .ok (.invokevirtual 129, 3) := by decide +kernel
theorem dX3_firstLacking_25 : decode cX3_firstLacking 25 = .ok (.if_icmp .le 5, 3) := by decide +kernel
theorem dX3_firstLacking_28 : decode cX3_firstLacking 28 = .ok (.iload_n 3, 1) := by decide +kernel
theorem dX3_firstLacking_29 : decode cX3_firstLacking 29 = .ok (.ireturn, 1) := by decide +kernel
theorem dX3_firstLacking_30 : decode cX3_firstLacking 30 = .ok (.iinc 3 1, 3) := by decide +kernel
theorem dX3_firstLacking_33 : decode cX3_firstLacking 33 = .ok (.goto (-31), 3) := by decide +kernel
theorem dX3_firstLacking_36 : decode cX3_firstLacking 36 = .ok (.iconst (-1), 1) := by decide +kernel
theorem dX3_firstLacking_37 : decode cX3_firstLacking 37 = .ok (.ireturn, 1) := by decide +kernel
theorem dX3_cansPossible_0 : decode cX3_cansPossible 0 = .ok (.aload_n 0, 1) := by decide +kernel
theorem dX3_cansPossible_1 : decode cX3_cansPossible 1 = .ok (.getfield 19, 3) := by decide +kernel
theorem dX3_cansPossible_4 : decode cX3_cansPossible 4 = .ok (.aload_n 1, 1) := by decide +kernel
theorem dX3_cansPossible_5 : decode cX3_cansPossible 5 = .ok (.getfield 84, 3) := by decide +kernel
theorem dX3_cansPossible_8 : decode cX3_cansPossible 8 = .ok (.aaload, 1) := by decide +kernel
theorem dX3_cansPossible_9 : decode cX3_cansPossible 9 = .ok (.getfield 110, 3) := by decide +kernel
theorem dX3_cansPossible_12 : decode cX3_cansPossible 12 = .ok (.bipush 20, 2) := by decide +kernel
theorem dX3_cansPossible_14 : decode cX3_cansPossible 14 = .ok (.aload_n 0, 1) := by decide +kernel
theorem dX3_cansPossible_15 : decode cX3_cansPossible 15 = .ok (.getfield 45, 3) := by decide +kernel
theorem dX3_cansPossible_18 : decode cX3_cansPossible 18 = .ok (.isub, 1) := by decide +kernel
theorem dX3_cansPossible_19 : decode cX3_cansPossible 19 = .ok (.invokestatic 133, 3) := by decide +kernel
theorem dX3_cansPossible_22 : decode cX3_cansPossible 22 = .ok (.istore_n 2, 1) := by decide +kernel
theorem dX3_cansPossible_23 : decode cX3_cansPossible 23 = .ok (.iconst 1, 1) := by decide +kernel
theorem dX3_cansPossible_24 : decode cX3_cansPossible 24 = .ok (.istore_n 3, 1) := by decide +kernel
theorem dX3_cansPossible_25 : decode cX3_cansPossible 25 = .ok (.iload_n 3, 1) := by decide +kernel
theorem dX3_cansPossible_26 : decode cX3_cansPossible 26 = .ok (.iload_n 2, 1) := by decide +kernel
theorem dX3_cansPossible_27 : decode cX3_cansPossible 27 = .ok (.if_icmp .gt 32, 3) := by decide +kernel
theorem dX3_cansPossible_30 : decode cX3_cansPossible 30 = .ok (.aload_n 0, 1) := by decide +kernel
theorem dX3_cansPossible_31 : decode cX3_cansPossible 31 = .ok (.aload_n 1, 1) := by decide +kernel
theorem dX3_cansPossible_32 : decode cX3_cansPossible 32 = .ok (.iload_n 3, 1) := by decide +kernel
theorem dX3_cansPossible_33 : decode cX3_cansPossible 33 = .ok (.invokevirtual 117, 3) := by decide +kernel
theorem dX3_cansPossible_36 : decode cX3_cansPossible 36 = .ok (.ifCond .eq 13, 3) := by decide +kernel
theorem dX3_cansPossible_39 : decode cX3_cansPossible 39 = .ok (.aload_n 0, 1) := by decide +kernel
theorem dX3_cansPossible_40 : decode cX3_cansPossible 40 = .ok (.aload_n 1, 1) := by decide +kernel
theorem dX3_cansPossible_41 : decode cX3_cansPossible 41 = .ok (.iload_n 3, 1) := by decide +kernel
theorem dX3_cansPossible_42 : decode cX3_cansPossible 42 = .ok (.invokevirtual 121, 3) := by decide +kernel
theorem dX3_cansPossible_45 : decode cX3_cansPossible 45 = .ok (.iconst (-1), 1) := by decide +kernel
theorem dX3_cansPossible_46 : decode cX3_cansPossible 46 = .ok (.if_icmp .eq 7, 3) := by decide +kernel
theorem dX3_cansPossible_49 : decode cX3_cansPossible 49 = .ok (.iload_n 3, 1) := by decide +kernel
theorem dX3_cansPossible_50 : decode cX3_cansPossible 50 = .ok (.iconst 1, 1) := by decide +kernel
theorem dX3_cansPossible_51 : decode cX3_cansPossible 51 = .ok (.isub, 1) := by decide +kernel
theorem dX3_cansPossible_52 : decode cX3_cansPossible 52 = .ok (.ireturn, 1) := by decide +kernel
theorem dX3_cansPossible_53 : decode cX3_cansPossible 53 = .ok (.iinc 3 1, 3) := by decide +kernel
theorem dX3_cansPossible_56 : decode cX3_cansPossible 56 = .ok (.goto (-31), 3) := by decide +kernel
theorem dX3_cansPossible_59 : decode cX3_cansPossible 59 = .ok (.iload_n 2, 1) := by decide +kernel
theorem dX3_cansPossible_60 : decode cX3_cansPossible 60 = .ok (.ireturn, 1) := by decide +kernel
theorem dX3_closestFormula_0 : decode cX3_closestFormula 0 = .ok (.aload_n 1, 1) := by decide +kernel
theorem dX3_closestFormula_1 : decode cX3_closestFormula 1 = .ok (.getfield 95, 3) := by decide +kernel
theorem dX3_closestFormula_4 : decode cX3_closestFormula 4 = .ok (.istore_n 2, 1) := by decide +kernel
theorem dX3_closestFormula_5 : decode cX3_closestFormula 5 = .ok (.aload_n 0, 1) := by decide +kernel
theorem dX3_closestFormula_6 : decode cX3_closestFormula 6 = .ok (.getfield 25, 3) := by decide +kernel
theorem dX3_closestFormula_9 : decode cX3_closestFormula 9 = .ok (.iload_n 2, 1) := by decide +kernel
theorem dX3_closestFormula_10 : decode cX3_closestFormula 10 = .ok (.aaload, 1) := by decide +kernel
theorem dX3_closestFormula_11 : decode cX3_closestFormula 11 = .ok (.aload_n 1, 1) := by decide +kernel
theorem dX3_closestFormula_12 : decode cX3_closestFormula 12 = .ok (.invokevirtual 136, 3) := by decide +kernel
theorem dX3_closestFormula_15 : decode cX3_closestFormula 15 = .ok (.istore_n 3, 1) := by decide +kernel
theorem dX3_closestFormula_16 : decode cX3_closestFormula 16 = .ok (.aload_n 0, 1) := by decide +kernel
theorem dX3_closestFormula_17 : decode cX3_closestFormula 17 = .ok (.getfield 42, 3) := by decide +kernel
theorem dX3_closestFormula_20 : decode cX3_closestFormula 20 = .ok (.iconst 1, 1) := by decide +kernel
theorem dX3_closestFormula_21 : decode cX3_closestFormula 21 = .ok (.isub, 1) := by decide +kernel
theorem dX3_closestFormula_22 : decode cX3_closestFormula 22 = .ok (.istore 4, 2) := by decide +kernel
theorem dX3_closestFormula_24 : decode cX3_closestFormula 24 = .ok (.iload 4, 2) := by decide +kernel
theorem dX3_closestFormula_26 : decode cX3_closestFormula 26 = .ok (.ifCond .lt 51, 3) := by decide +kernel
theorem dX3_closestFormula_29 : decode cX3_closestFormula 29 = .ok (.aload_n 0, 1) := by decide +kernel
theorem dX3_closestFormula_30 : decode cX3_closestFormula 30 = .ok (.getfield 25, 3) := by decide +kernel
theorem dX3_closestFormula_33 : decode cX3_closestFormula 33 = .ok (.iload 4, 2) := by decide +kernel
theorem dX3_closestFormula_35 : decode cX3_closestFormula 35 = .ok (.aaload, 1) := by decide +kernel
theorem dX3_closestFormula_36 : decode cX3_closestFormula 36 = .ok (.aload_n 1, 1) := by decide +kernel
theorem dX3_closestFormula_37 : decode cX3_closestFormula 37 = .ok (.invokevirtual 136, 3) := by decide +kernel
theorem dX3_closestFormula_40 : decode cX3_closestFormula 40 = .ok (.istore 5, 2) := by decide +kernel
theorem dX3_closestFormula_42 : decode cX3_closestFormula 42 = .ok (.aload_n 0, 1) := by decide +kernel
theorem dX3_closestFormula_43 : decode cX3_closestFormula 43 = .ok (.getfield 25, 3) := by decide +kernel
theorem dX3_closestFormula_46 : decode cX3_closestFormula 46 = .ok (.iload 4, 2) := by decide +kernel
theorem dX3_closestFormula_48 : decode cX3_closestFormula 48 = .ok (.aaload, 1) := by decide +kernel
theorem dX3_closestFormula_49 : decode cX3_closestFormula 49 = .ok (.getfield 84, 3) := by decide +kernel
theorem dX3_closestFormula_52 : decode cX3_closestFormula 52 = .ok (.aload_n 1, 1) := by decide +kernel
theorem dX3_closestFormula_53 : decode cX3_closestFormula 53 = .ok (.getfield 98, 3) := by decide +kernel
theorem dX3_closestFormula_56 : decode cX3_closestFormula 56 = .ok (.if_icmp .ne 15, 3) := by decide +kernel
theorem dX3_closestFormula_59 : decode cX3_closestFormula 59 = .ok (.iload 5, 2) := by decide +kernel
theorem dX3_closestFormula_61 : decode cX3_closestFormula 61 = .ok (.iload_n 3, 1) := by decide +kernel
theorem dX3_closestFormula_62 : decode cX3_closestFormula 62 = .ok (.if_icmp .gt 9, 3) := by decide +kernel
theorem dX3_closestFormula_65 : decode cX3_closestFormula 65 = .ok (.iload 4, 2) := by decide +kernel
theorem dX3_closestFormula_67 : decode cX3_closestFormula 67 = .ok (.istore_n 2, 1) := by decide +kernel
theorem dX3_closestFormula_68 : decode cX3_closestFormula 68 = .ok (.iload 5, 2) := by decide +kernel
theorem dX3_closestFormula_70 : decode cX3_closestFormula 70 = .ok (.istore_n 3, 1) := by decide +kernel
theorem dX3_closestFormula_71 : decode cX3_closestFormula 71 = .ok (.iinc 4 (-1), 3) := by decide +kernel
theorem dX3_closestFormula_74 : decode cX3_closestFormula 74 = .ok (.goto (-50), 3) := by decide +kernel
theorem dX3_closestFormula_77 : decode cX3_closestFormula 77 = .ok (.iload_n 2, 1) := by decide +kernel
theorem dX3_closestFormula_78 : decode cX3_closestFormula 78 = .ok (.ireturn, 1) := by decide +kernel
theorem dX3_roomIn_0 : decode cX3_roomIn 0 = .ok (.aload_n 0, 1) := by decide +kernel
theorem dX3_roomIn_1 : decode cX3_roomIn 1 = .ok (.getfield 19, 3) := by decide +kernel
theorem dX3_roomIn_4 : decode cX3_roomIn 4 = .ok (.aload_n 1, 1) := by decide +kernel
theorem dX3_roomIn_5 : decode cX3_roomIn 5 = .ok (.getfield 98, 3) := by decide +kernel
theorem dX3_roomIn_8 : decode cX3_roomIn 8 = .ok (.aaload, 1) := by decide +kernel
theorem dX3_roomIn_9 : decode cX3_roomIn 9 = .ok (.getfield 76, 3) := by decide +kernel
theorem dX3_roomIn_12 : decode cX3_roomIn 12 = .ok (.aload_n 1, 1) := by decide +kernel
theorem dX3_roomIn_13 : decode cX3_roomIn 13 = .ok (.invokevirtual 139, 3) := by decide +kernel
theorem dX3_roomIn_16 : decode cX3_roomIn 16 = .ok (.isub, 1) := by decide +kernel
theorem dX3_roomIn_17 : decode cX3_roomIn 17 = .ok (.ireturn, 1) := by decide +kernel
theorem dX3_colourOf_0 : decode cX3_colourOf 0 = .ok (.aload_n 0, 1) := by decide +kernel
theorem dX3_colourOf_1 : decode cX3_colourOf 1 = .ok (.getfield 19, 3) := by decide +kernel
theorem dX3_colourOf_4 : decode cX3_colourOf 4 = .ok (.aload_n 1, 1) := by decide +kernel
theorem dX3_colourOf_5 : decode cX3_colourOf 5 = .ok (.getfield 98, 3) := by decide +kernel
theorem dX3_colourOf_8 : decode cX3_colourOf 8 = .ok (.aaload, 1) := by decide +kernel
theorem dX3_colourOf_9 : decode cX3_colourOf 9 = .ok (.getfield 75, 3) := by decide +kernel
theorem dX3_colourOf_12 : decode cX3_colourOf 12 = .ok (.iload_n 2, 1) := by decide +kernel
theorem dX3_colourOf_13 : decode cX3_colourOf 13 = .ok (.iaload, 1) := by decide +kernel
theorem dX3_colourOf_14 : decode cX3_colourOf 14 = .ok (.istore_n 3, 1) := by decide +kernel
theorem dX3_colourOf_15 : decode cX3_colourOf 15 = .ok (.iconst 0, 1) := by decide +kernel
theorem dX3_colourOf_16 : decode cX3_colourOf 16 = .ok (.istore 4, 2) := by decide +kernel
theorem dX3_colourOf_18 : decode cX3_colourOf 18 = .ok (.iload 4, 2) := by decide +kernel
theorem dX3_colourOf_20 : decode cX3_colourOf 20 = .ok (.aload_n 0, 1) := by decide +kernel
theorem dX3_colourOf_21 : decode cX3_colourOf 21 = .ok (.getfield 35, 3) := by decide +kernel
theorem dX3_colourOf_24 : decode cX3_colourOf 24 = .ok (.if_icmp .ge 32, 3) := by decide +kernel
theorem dX3_colourOf_27 : decode cX3_colourOf 27 = .ok (.iload_n 3, 1) := by decide +kernel
theorem dX3_colourOf_28 : decode cX3_colourOf 28 = .ok (.aload_n 0, 1) := by decide +kernel
theorem dX3_colourOf_29 : decode cX3_colourOf 29 = .ok (.getfield 11, 3) := by decide +kernel
theorem dX3_colourOf_32 : decode cX3_colourOf 32 = .ok (.iload 4, 2) := by decide +kernel
theorem dX3_colourOf_34 : decode cX3_colourOf 34 = .ok (.aaload, 1) := by decide +kernel
theorem dX3_colourOf_35 : decode cX3_colourOf 35 = .ok (.getfield 68, 3) := by decide +kernel
theorem dX3_colourOf_38 : decode cX3_colourOf 38 = .ok (.iload_n 2, 1) := by decide +kernel
theorem dX3_colourOf_39 : decode cX3_colourOf 39 = .ok (.iaload, 1) := by decide +kernel
theorem dX3_colourOf_40 : decode cX3_colourOf 40 = .ok (.aload_n 1, 1) := by decide +kernel
theorem dX3_colourOf_41 : decode cX3_colourOf 41 = .ok (.getfield 142, 3) := by decide +kernel
theorem dX3_colourOf_44 : decode cX3_colourOf 44 = .ok (.iload 4, 2) := by decide +kernel
theorem dX3_colourOf_46 : decode cX3_colourOf 46 = .ok (.iaload, 1) := by decide +kernel
theorem dX3_colourOf_47 : decode cX3_colourOf 47 = .ok (.imul, 1) := by decide +kernel
theorem dX3_colourOf_48 : decode cX3_colourOf 48 = .ok (.iadd, 1) := by decide +kernel
theorem dX3_colourOf_49 : decode cX3_colourOf 49 = .ok (.istore_n 3, 1) := by decide +kernel
theorem dX3_colourOf_50 : decode cX3_colourOf 50 = .ok (.iinc 4 1, 3) := by decide +kernel
theorem dX3_colourOf_53 : decode cX3_colourOf 53 = .ok (.goto (-35), 3) := by decide +kernel
theorem dX3_colourOf_56 : decode cX3_colourOf 56 = .ok (.iload_n 3, 1) := by decide +kernel
theorem dX3_colourOf_57 : decode cX3_colourOf 57 = .ok (.ireturn, 1) := by decide +kernel
theorem dX3_canHolding_0 : decode cX3_canHolding 0 = .ok (.iconst 0, 1) := by decide +kernel
theorem dX3_canHolding_1 : decode cX3_canHolding 1 = .ok (.istore 4, 2) := by decide +kernel
theorem dX3_canHolding_3 : decode cX3_canHolding 3 = .ok (.iconst 0, 1) := by decide +kernel
theorem dX3_canHolding_4 : decode cX3_canHolding 4 = .ok (.istore 5, 2) := by decide +kernel
theorem dX3_canHolding_6 : decode cX3_canHolding 6 = .ok (.iload 5, 2) := by decide +kernel
theorem dX3_canHolding_8 : decode cX3_canHolding 8 = .ok (.aload_n 0, 1) := by decide +kernel
theorem dX3_canHolding_9 : decode cX3_canHolding 9 = .ok (.getfield 45, 3) := by decide +kernel
theorem dX3_canHolding_12 : decode cX3_canHolding 12 = .ok (.if_icmp .ge 36, 3) := by decide +kernel
theorem dX3_canHolding_15 : decode cX3_canHolding 15 = .ok (.aload_n 0, 1) := by decide +kernel
theorem dX3_canHolding_16 : decode cX3_canHolding 16 = .ok (.getfield 31, 3) := by decide +kernel
theorem dX3_canHolding_19 : decode cX3_canHolding 19 = .ok (.iload 5, 2) := by decide +kernel
theorem dX3_canHolding_21 : decode cX3_canHolding 21 = .ok (.aaload, 1) := by decide +kernel
theorem dX3_canHolding_22 : decode cX3_canHolding 22 = .ok (.iload_n 1, 1) := by decide +kernel
theorem dX3_canHolding_23 : decode cX3_canHolding 23 = .ok (.iload_n 2, 1) := by decide +kernel
theorem dX3_canHolding_24 : decode cX3_canHolding 24 = .ok (.invokevirtual 145, 3) := by decide +kernel
theorem dX3_canHolding_27 : decode cX3_canHolding 27 = .ok (.ifCond .eq 15, 3) := by decide +kernel
theorem dX3_canHolding_30 : decode cX3_canHolding 30 = .ok (.iload 4, 2) := by decide +kernel
theorem dX3_canHolding_32 : decode cX3_canHolding 32 = .ok (.iload_n 3, 1) := by decide +kernel
theorem dX3_canHolding_33 : decode cX3_canHolding 33 = .ok (.if_icmp .ne 6, 3) := by decide +kernel
theorem dX3_canHolding_36 : decode cX3_canHolding 36 = .ok (.iload 5, 2) := by decide +kernel
theorem dX3_canHolding_38 : decode cX3_canHolding 38 = .ok (.ireturn, 1) := by decide +kernel
theorem dX3_canHolding_39 : decode cX3_canHolding 39 = .ok (.iinc 4 1, 3) := by decide +kernel
theorem dX3_canHolding_42 : decode cX3_canHolding 42 = .ok (.iinc 5 1, 3) := by decide +kernel
theorem dX3_canHolding_45 : decode cX3_canHolding 45 = .ok (.goto (-39), 3) := by decide +kernel
theorem dX3_canHolding_48 : decode cX3_canHolding 48 = .ok (.iconst (-1), 1) := by decide +kernel
theorem dX3_canHolding_49 : decode cX3_canHolding 49 = .ok (.ireturn, 1) := by decide +kernel
theorem dX3_formulasHolding_0 : decode cX3_formulasHolding 0 = .ok (.iconst 0, 1) := by decide +kernel
theorem dX3_formulasHolding_1 : decode cX3_formulasHolding 1 = .ok (.istore_n 3, 1) := by decide +kernel
theorem dX3_formulasHolding_2 : decode cX3_formulasHolding 2 = .ok (.iconst 0, 1) := by decide +kernel
theorem dX3_formulasHolding_3 : decode cX3_formulasHolding 3 = .ok (.istore 4, 2) := by decide +kernel
theorem dX3_formulasHolding_5 : decode cX3_formulasHolding 5 = .ok (.iload 4, 2) := by decide +kernel
theorem dX3_formulasHolding_7 : decode cX3_formulasHolding 7 = .ok (.aload_n 0, 1) := by decide +kernel
theorem dX3_formulasHolding_8 : decode cX3_formulasHolding 8 = .ok (.getfield 45, 3) := by decide +kernel
theorem dX3_formulasHolding_11 : decode cX3_formulasHolding 11 = .ok (.if_icmp .ge 39, 3) := by decide +kernel
theorem dX3_formulasHolding_14 : decode cX3_formulasHolding 14 = .ok (.aload_n 0, 1) := by decide +kernel
theorem dX3_formulasHolding_15 : decode cX3_formulasHolding 15 = .ok (.getfield 31, 3) := by decide +kernel
theorem dX3_formulasHolding_18 : decode cX3_formulasHolding 18 = .ok (.iload 4, 2) := by decide +kernel
theorem dX3_formulasHolding_20 : decode cX3_formulasHolding 20 = .ok (.aaload, 1) := by decide +kernel
theorem dX3_formulasHolding_21 : decode cX3_formulasHolding 21 = .ok (.iload_n 1, 1) := by decide +kernel
theorem dX3_formulasHolding_22 : decode cX3_formulasHolding 22 = .ok (.iload_n 2, 1) := by decide +kernel
theorem dX3_formulasHolding_23 : decode cX3_formulasHolding 23 = .ok (.invokevirtual 145, 3) := by decide +kernel
theorem dX3_formulasHolding_26 : decode cX3_formulasHolding 26 = .ok (.ifCond .eq 18, 3) := by decide +kernel
theorem dX3_formulasHolding_29 : decode cX3_formulasHolding 29 = .ok (.iload_n 3, 1) := by decide +kernel
theorem dX3_formulasHolding_30 : decode cX3_formulasHolding 30 = .ok (.iconst 1, 1) := by decide +kernel
theorem dX3_formulasHolding_31 : decode cX3_formulasHolding 31 = .ok (.aload_n 0, 1) := by decide +kernel
theorem dX3_formulasHolding_32 : decode cX3_formulasHolding 32 = .ok (.getfield 31, 3) := by decide +kernel
theorem dX3_formulasHolding_35 : decode cX3_formulasHolding 35 = .ok (.iload 4, 2) := by decide +kernel
theorem dX3_formulasHolding_37 : decode cX3_formulasHolding 37 = .ok (.aaload, 1) := by decide +kernel
theorem dX3_formulasHolding_38 : decode cX3_formulasHolding 38 = .ok (.getfield 95, 3) := by decide +kernel
theorem dX3_formulasHolding_41 : decode cX3_formulasHolding 41 = .ok (.ishl, 1) := by decide +kernel
theorem dX3_formulasHolding_42 : decode cX3_formulasHolding 42 = .ok (.ior, 1) := by decide +kernel
theorem dX3_formulasHolding_43 : decode cX3_formulasHolding 43 = .ok (.istore_n 3, 1) := by decide +kernel
theorem dX3_formulasHolding_44 : decode cX3_formulasHolding 44 = .ok (.iinc 4 1, 3) := by decide +kernel
theorem dX3_formulasHolding_47 : decode cX3_formulasHolding 47 = .ok (.goto (-42), 3) := by decide +kernel
theorem dX3_formulasHolding_50 : decode cX3_formulasHolding 50 = .ok (.iload_n 3, 1) := by decide +kernel
theorem dX3_formulasHolding_51 : decode cX3_formulasHolding 51 = .ok (.ireturn, 1) := by decide +kernel
theorem dX3_countCansOfFormula_0 : decode cX3_countCansOfFormula 0 = .ok (.iconst 0, 1) := by decide +kernel
theorem dX3_countCansOfFormula_1 : decode cX3_countCansOfFormula 1 = .ok (.istore_n 2, 1) := by decide +kernel
theorem dX3_countCansOfFormula_2 : decode cX3_countCansOfFormula 2 = .ok (.iconst 0, 1) := by decide +kernel
theorem dX3_countCansOfFormula_3 : decode cX3_countCansOfFormula 3 = .ok (.istore_n 3, 1) := by decide +kernel
theorem dX3_countCansOfFormula_4 : decode cX3_countCansOfFormula 4 = .ok (.iload_n 3, 1) := by decide +kernel
theorem dX3_countCansOfFormula_5 : decode cX3_countCansOfFormula 5 = .ok (.aload_n 0, 1) := by decide +kernel
theorem dX3_countCansOfFormula_6 : decode cX3_countCansOfFormula 6 = .ok (.getfield 45, 3) := by decide +kernel
theorem dX3_countCansOfFormula_9 : decode cX3_countCansOfFormula 9 = .ok (.if_icmp .ge 25, 3) := by decide +kernel
theorem dX3_countCansOfFormula_12 : decode cX3_countCansOfFormula 12 = .ok (.aload_n 0, 1) := by decide +kernel
theorem dX3_countCansOfFormula_13 : decode cX3_countCansOfFormula 13 = .ok (.getfield 31, 3) := by decide +kernel
theorem dX3_countCansOfFormula_16 : decode cX3_countCansOfFormula 16 = .ok (.iload_n 3, 1) := by decide +kernel
theorem dX3_countCansOfFormula_17 : decode cX3_countCansOfFormula 17 = .ok (.aaload, 1) := by decide +kernel
theorem dX3_countCansOfFormula_18 : decode cX3_countCansOfFormula 18 = .ok (.getfield 95, 3) := by decide +kernel
theorem dX3_countCansOfFormula_21 : decode cX3_countCansOfFormula 21 = .ok (.iload_n 1, 1) := by decide +kernel
theorem dX3_countCansOfFormula_22 : decode cX3_countCansOfFormula 22 = .ok (.if_icmp .ne 6, 3) := by decide +kernel
theorem dX3_countCansOfFormula_25 : decode cX3_countCansOfFormula 25 = .ok (.iinc 2 1, 3) := by decide +kernel
theorem dX3_countCansOfFormula_28 : decode cX3_countCansOfFormula 28 = .ok (.iinc 3 1, 3) := by decide +kernel
theorem dX3_countCansOfFormula_31 : decode cX3_countCansOfFormula 31 = .ok (.goto (-27), 3) := by decide +kernel
theorem dX3_countCansOfFormula_34 : decode cX3_countCansOfFormula 34 = .ok (.iload_n 2, 1) := by decide +kernel
theorem dX3_countCansOfFormula_35 : decode cX3_countCansOfFormula 35 = .ok (.ireturn, 1) := by decide +kernel
theorem dX3_stepsInCansOfFormula_0 : decode cX3_stepsInCansOfFormula 0 = .ok (.iconst 0, 1) := by decide +kernel
theorem dX3_stepsInCansOfFormula_1 : decode cX3_stepsInCansOfFormula 1 = .ok (.istore_n 2, 1) := by decide +kernel
theorem dX3_stepsInCansOfFormula_2 : decode cX3_stepsInCansOfFormula 2 = .ok (.iconst 0, 1) := by decide +kernel
theorem dX3_stepsInCansOfFormula_3 : decode cX3_stepsInCansOfFormula 3 = .ok (.istore_n 3, 1) := by decide +kernel
theorem dX3_stepsInCansOfFormula_4 : decode cX3_stepsInCansOfFormula 4 = .ok (.iload_n 3, 1) := by decide +kernel
theorem dX3_stepsInCansOfFormula_5 : decode cX3_stepsInCansOfFormula 5 = .ok (.aload_n 0, 1) := by decide +kernel
theorem dX3_stepsInCansOfFormula_6 : decode cX3_stepsInCansOfFormula 6 = .ok (.getfield 45, 3) := by decide +kernel
theorem dX3_stepsInCansOfFormula_9 : decode cX3_stepsInCansOfFormula 9 = .ok (.if_icmp .ge 34, 3) := by decide +kernel
theorem dX3_stepsInCansOfFormula_12 : decode cX3_stepsInCansOfFormula 12 = .ok (.aload_n 0, 1) := by decide +kernel
theorem dX3_stepsInCansOfFormula_13 : decode cX3_stepsInCansOfFormula 13 = .ok (.getfield 31, 3) := by decide +kernel
theorem dX3_stepsInCansOfFormula_16 : decode cX3_stepsInCansOfFormula 16 = .ok (.iload_n 3, 1) := by decide +kernel
theorem dX3_stepsInCansOfFormula_17 : decode cX3_stepsInCansOfFormula 17 = .ok (.aaload, 1) := by decide +kernel
theorem dX3_stepsInCansOfFormula_18 : decode cX3_stepsInCansOfFormula 18 = .ok (.getfield 95, 3) := by decide +kernel
theorem dX3_stepsInCansOfFormula_21 : decode cX3_stepsInCansOfFormula 21 = .ok (.iload_n 1, 1) := by decide +kernel
theorem dX3_stepsInCansOfFormula_22 : decode cX3_stepsInCansOfFormula 22 = .ok (.if_icmp .ne 15, 3) := by decide +kernel
theorem dX3_stepsInCansOfFormula_25 : decode cX3_stepsInCansOfFormula 25 = .ok (.iload_n 2, 1) := by decide +kernel
theorem dX3_stepsInCansOfFormula_26 : decode cX3_stepsInCansOfFormula 26 = .ok (.aload_n 0, 1) := by decide +kernel
theorem dX3_stepsInCansOfFormula_27 : decode cX3_stepsInCansOfFormula 27 = .ok (.getfield 31, 3) := by decide +kernel
theorem dX3_stepsInCansOfFormula_30 : decode cX3_stepsInCansOfFormula 30 = .ok (.iload_n 3, 1) := by decide +kernel
theorem dX3_stepsInCansOfFormula_31 : decode cX3_stepsInCansOfFormula 31 = .ok (.aaload, 1) := by decide +kernel
theorem dX3_stepsInCansOfFormula_32 : decode cX3_stepsInCansOfFormula 32 = .ok (.invokevirtual 139, 3) := by decide +kernel
theorem dX3_stepsInCansOfFormula_35 : decode cX3_stepsInCansOfFormula 35 = .ok (.iadd, 1) := by decide +kernel
theorem dX3_stepsInCansOfFormula_36 : decode cX3_stepsInCansOfFormula 36 = .ok (.istore_n 2, 1) := by decide +kernel
theorem dX3_stepsInCansOfFormula_37 : decode cX3_stepsInCansOfFormula 37 = .ok (.iinc 3 1, 3) := by decide +kernel
theorem dX3_stepsInCansOfFormula_40 : decode cX3_stepsInCansOfFormula 40 = .ok (.goto (-36), 3) := by decide +kernel
theorem dX3_stepsInCansOfFormula_43 : decode cX3_stepsInCansOfFormula 43 = .ok (.iload_n 2, 1) := by decide +kernel
theorem dX3_stepsInCansOfFormula_44 : decode cX3_stepsInCansOfFormula 44 = .ok (.ireturn, 1) := by decide +kernel
theorem dX3_countCansOfBase_0 : decode cX3_countCansOfBase 0 = .ok (.iconst 0, 1) := by decide +kernel
theorem dX3_countCansOfBase_1 : decode cX3_countCansOfBase 1 = .ok (.istore_n 2, 1) := by decide +kernel
theorem dX3_countCansOfBase_2 : decode cX3_countCansOfBase 2 = .ok (.iconst 0, 1) := by decide +kernel
theorem dX3_countCansOfBase_3 : decode cX3_countCansOfBase 3 = .ok (.istore_n 3, 1) := by decide +kernel
theorem dX3_countCansOfBase_4 : decode cX3_countCansOfBase 4 = .ok (.iload_n 3, 1) := by decide +kernel
theorem dX3_countCansOfBase_5 : decode cX3_countCansOfBase 5 = .ok (.aload_n 0, 1) := by decide +kernel
theorem dX3_countCansOfBase_6 : decode cX3_countCansOfBase 6 = .ok (.getfield 45, 3) := by decide +kernel
theorem dX3_countCansOfBase_9 : decode cX3_countCansOfBase 9 = .ok (.if_icmp .ge 25, 3) := by decide +kernel
theorem dX3_countCansOfBase_12 : decode cX3_countCansOfBase 12 = .ok (.aload_n 0, 1) := by decide +kernel
theorem dX3_countCansOfBase_13 : decode cX3_countCansOfBase 13 = .ok (.getfield 31, 3) := by decide +kernel
theorem dX3_countCansOfBase_16 : decode cX3_countCansOfBase 16 = .ok (.iload_n 3, 1) := by decide +kernel
theorem dX3_countCansOfBase_17 : decode cX3_countCansOfBase 17 = .ok (.aaload, 1) := by decide +kernel
theorem dX3_countCansOfBase_18 : decode cX3_countCansOfBase 18 = .ok (.getfield 98, 3) := by decide +kernel
theorem dX3_countCansOfBase_21 : decode cX3_countCansOfBase 21 = .ok (.iload_n 1, 1) := by decide +kernel
theorem dX3_countCansOfBase_22 : decode cX3_countCansOfBase 22 = .ok (.if_icmp .ne 6, 3) := by decide +kernel
theorem dX3_countCansOfBase_25 : decode cX3_countCansOfBase 25 = .ok (.iinc 2 1, 3) := by decide +kernel
theorem dX3_countCansOfBase_28 : decode cX3_countCansOfBase 28 = .ok (.iinc 3 1, 3) := by decide +kernel
theorem dX3_countCansOfBase_31 : decode cX3_countCansOfBase 31 = .ok (.goto (-27), 3) := by decide +kernel
theorem dX3_countCansOfBase_34 : decode cX3_countCansOfBase 34 = .ok (.iload_n 2, 1) := by decide +kernel
theorem dX3_countCansOfBase_35 : decode cX3_countCansOfBase 35 = .ok (.ireturn, 1) := by decide +kernel
theorem dX3_goToDay_0 : decode cX3_goToDay 0 = .ok (.aload_n 0, 1) := by decide +kernel
theorem dX3_goToDay_1 : decode cX3_goToDay 1 = .ok (.iload_n 1, 1) := by decide +kernel
theorem dX3_goToDay_2 : decode cX3_goToDay 2 = .ok (.putfield 48, 3) := by decide +kernel
theorem dX3_goToDay_5 : decode cX3_goToDay 5 = .ok (.iconst 0, 1) := by decide +kernel
theorem dX3_goToDay_6 : decode cX3_goToDay 6 = .ok (.istore_n 2, 1) := by decide +kernel
theorem dX3_goToDay_7 : decode cX3_goToDay 7 = .ok (.iconst 0, 1) := by decide +kernel
theorem dX3_goToDay_8 : decode cX3_goToDay 8 = .ok (.istore_n 3, 1) := by decide +kernel
theorem dX3_goToDay_9 : decode cX3_goToDay 9 = .ok (.iload_n 3, 1) := by decide +kernel
theorem dX3_goToDay_10 : decode cX3_goToDay 10 = .ok (.aload_n 0, 1) := by decide +kernel
theorem dX3_goToDay_11 : decode cX3_goToDay 11 = .ok (.getfield 35, 3) := by decide +kernel
theorem dX3_goToDay_14 : decode cX3_goToDay 14 = .ok (.if_icmp .ge 25, 3) := by decide +kernel
theorem dX3_goToDay_17 : decode cX3_goToDay 17 = .ok (.iload_n 2, 1) := by decide +kernel
theorem dX3_goToDay_18 : decode cX3_goToDay 18 = .ok (.aload_n 0, 1) := by decide +kernel
theorem dX3_goToDay_19 : decode cX3_goToDay 19 = .ok (.getfield 11, 3) := by decide +kernel
theorem dX3_goToDay_22 : decode cX3_goToDay 22 = .ok (.iload_n 3, 1) := by decide +kernel
theorem dX3_goToDay_23 : decode cX3_goToDay 23 = .ok (.aaload, 1) := by decide +kernel
theorem dX3_goToDay_24 : decode cX3_goToDay 24 = .ok (.aload_n 0, 1) := by decide +kernel
theorem dX3_goToDay_25 : decode cX3_goToDay 25 = .ok (.getfield 48, 3) := by decide +kernel
theorem dX3_goToDay_28 : decode cX3_goToDay 28 = .ok (.invokevirtual 149, 3) := by decide +kernel
theorem dX3_goToDay_31 : decode cX3_goToDay 31 = .ok (.iadd, 1) := by decide +kernel
theorem dX3_goToDay_32 : decode cX3_goToDay 32 = .ok (.istore_n 2, 1) := by decide +kernel
theorem dX3_goToDay_33 : decode cX3_goToDay 33 = .ok (.iinc 3 1, 3) := by decide +kernel
theorem dX3_goToDay_36 : decode cX3_goToDay 36 = .ok (.goto (-27), 3) := by decide +kernel
theorem dX3_goToDay_39 : decode cX3_goToDay 39 = .ok (.iload_n 2, 1) := by decide +kernel
theorem dX3_goToDay_40 : decode cX3_goToDay 40 = .ok (.ireturn, 1) := by decide +kernel
theorem dX3_baseNumberFor_0 : decode cX3_baseNumberFor 0 = .ok (.aload_n 0, 1) := by decide +kernel
theorem dX3_baseNumberFor_1 : decode cX3_baseNumberFor 1 = .ok (.getfield 19, 3) := by decide +kernel
theorem dX3_baseNumberFor_4 : decode cX3_baseNumberFor 4 = .ok (.iload_n 1, 1) := by decide +kernel
theorem dX3_baseNumberFor_5 : decode cX3_baseNumberFor 5 = .ok (.aaload, 1) := by decide +kernel
theorem dX3_baseNumberFor_6 : decode cX3_baseNumberFor 6 = .ok (.astore_n 3, 1) := by decide +kernel
theorem dX3_baseNumberFor_7 : decode cX3_baseNumberFor 7 = .ok (.iload_n 2, 1) := by decide +kernel
theorem dX3_baseNumberFor_8 : decode cX3_baseNumberFor 8 = .ok (.tableswitch 67 0 4 #[36, 43, 50, 57, 62], 36) := by decide +kernel
theorem dX3_baseNumberFor_44 : decode cX3_baseNumberFor 44 = .ok (.aload_n 3, 1) := by decide +kernel
theorem dX3_baseNumberFor_45 : decode cX3_baseNumberFor 45 = .ok (.getfield 75, 3) := by decide +kernel
theorem dX3_baseNumberFor_48 : decode cX3_baseNumberFor 48 = .ok (.iconst 0, 1) := by decide +kernel
theorem dX3_baseNumberFor_49 : decode cX3_baseNumberFor 49 = .ok (.iaload, 1) := by decide +kernel
theorem dX3_baseNumberFor_50 : decode cX3_baseNumberFor 50 = .ok (.ireturn, 1) := by decide +kernel
theorem dX3_baseNumberFor_51 : decode cX3_baseNumberFor 51 = .ok (.aload_n 3, 1) := by decide +kernel
theorem dX3_baseNumberFor_52 : decode cX3_baseNumberFor 52 = .ok (.getfield 75, 3) := by decide +kernel
theorem dX3_baseNumberFor_55 : decode cX3_baseNumberFor 55 = .ok (.iconst 1, 1) := by decide +kernel
theorem dX3_baseNumberFor_56 : decode cX3_baseNumberFor 56 = .ok (.iaload, 1) := by decide +kernel
theorem dX3_baseNumberFor_57 : decode cX3_baseNumberFor 57 = .ok (.ireturn, 1) := by decide +kernel
theorem dX3_baseNumberFor_58 : decode cX3_baseNumberFor 58 = .ok (.aload_n 3, 1) := by decide +kernel
theorem dX3_baseNumberFor_59 : decode cX3_baseNumberFor 59 = .ok (.getfield 75, 3) := by decide +kernel
theorem dX3_baseNumberFor_62 : decode cX3_baseNumberFor 62 = .ok (.iconst 2, 1) := by decide +kernel
theorem dX3_baseNumberFor_63 : decode cX3_baseNumberFor 63 = .ok (.iaload, 1) := by decide +kernel
theorem dX3_baseNumberFor_64 : decode cX3_baseNumberFor 64 = .ok (.ireturn, 1) := by decide +kernel
theorem dX3_baseNumberFor_65 : decode cX3_baseNumberFor 65 = .ok (.aload_n 3, 1) := by decide +kernel
theorem dX3_baseNumberFor_66 : decode cX3_baseNumberFor 66 = .ok (.getfield 76, 3) := by decide +kernel
theorem dX3_baseNumberFor_69 : decode cX3_baseNumberFor 69 = .ok (.ireturn, 1) := by decide +kernel
theorem dX3_baseNumberFor_70 : decode cX3_baseNumberFor 70 = .ok (.aload_n 3, 1) := by decide +kernel
theorem dX3_baseNumberFor_71 : decode cX3_baseNumberFor 71 = .ok (.getfield 110, 3) := by decide +kernel
theorem dX3_baseNumberFor_74 : decode cX3_baseNumberFor 74 = .ok (.ireturn, 1) := by decide +kernel
theorem dX3_baseNumberFor_75 : decode cX3_baseNumberFor 75 = .ok (.aload_n 0, 1) := by decide +kernel
theorem dX3_baseNumberFor_76 : decode cX3_baseNumberFor 76 = .ok (.iload_n 1, 1) := by decide +kernel
theorem dX3_baseNumberFor_77 : decode cX3_baseNumberFor 77 = .ok (.invokevirtual 153, 3) := by decide +kernel
theorem dX3_baseNumberFor_80 : decode cX3_baseNumberFor 80 = .ok (.ireturn, 1) := by decide +kernel
theorem dX3_canNumberFor_0 : decode cX3_canNumberFor 0 = .ok (.iload_n 2, 1) := by decide +kernel
theorem dX3_canNumberFor_1 : decode cX3_canNumberFor 1 = .ok (.tableswitch 60 0 4 #[35, 40, 45, 50, 55], 35) := by decide +kernel
theorem dX3_canNumberFor_36 : decode cX3_canNumberFor 36 = .ok (.aload_n 1, 1) := by decide +kernel
theorem dX3_canNumberFor_37 : decode cX3_canNumberFor 37 = .ok (.getfield 95, 3) := by decide +kernel
theorem dX3_canNumberFor_40 : decode cX3_canNumberFor 40 = .ok (.ireturn, 1) := by decide +kernel
theorem dX3_canNumberFor_41 : decode cX3_canNumberFor 41 = .ok (.aload_n 1, 1) := by decide +kernel
theorem dX3_canNumberFor_42 : decode cX3_canNumberFor 42 = .ok (.getfield 98, 3) := by decide +kernel
theorem dX3_canNumberFor_45 : decode cX3_canNumberFor 45 = .ok (.ireturn, 1) := by decide +kernel
theorem dX3_canNumberFor_46 : decode cX3_canNumberFor 46 = .ok (.aload_n 1, 1) := by decide +kernel
theorem dX3_canNumberFor_47 : decode cX3_canNumberFor 47 = .ok (.invokevirtual 139, 3) := by decide +kernel
theorem dX3_canNumberFor_50 : decode cX3_canNumberFor 50 = .ok (.ireturn, 1) := by decide +kernel
theorem dX3_canNumberFor_51 : decode cX3_canNumberFor 51 = .ok (.aload_n 1, 1) := by decide +kernel
theorem dX3_canNumberFor_52 : decode cX3_canNumberFor 52 = .ok (.getfield 156, 3) := by decide +kernel
theorem dX3_canNumberFor_55 : decode cX3_canNumberFor 55 = .ok (.ireturn, 1) := by decide +kernel
theorem dX3_canNumberFor_56 : decode cX3_canNumberFor 56 = .ok (.aload_n 1, 1) := by decide +kernel
theorem dX3_canNumberFor_57 : decode cX3_canNumberFor 57 = .ok (.getfield 159, 3) := by decide +kernel
theorem dX3_canNumberFor_60 : decode cX3_canNumberFor 60 = .ok (.ireturn, 1) := by decide +kernel
theorem dX3_canNumberFor_61 : decode cX3_canNumberFor 61 = .ok (.aload_n 0, 1) := by decide +kernel
theorem dX3_canNumberFor_62 : decode cX3_canNumberFor 62 = .ok (.aload_n 1, 1) := by decide +kernel
theorem dX3_canNumberFor_63 : decode cX3_canNumberFor 63 = .ok (.invokevirtual 125, 3) := by decide +kernel
theorem dX3_canNumberFor_66 : decode cX3_canNumberFor 66 = .ok (.ireturn, 1) := by decide +kernel
theorem dX3_accountFor_0 : decode cX3_accountFor 0 = .ok (.iload_n 1, 1) := by decide +kernel
theorem dX3_accountFor_1 : decode cX3_accountFor 1 = .ok (.tableswitch 131 0 11 #[63, 68, 73, 78, 83, 89, 95, 101, 108, 113, 119, 124], 63) := by decide +kernel
theorem dX3_accountFor_64 : decode cX3_accountFor 64 = .ok (.aload_n 0, 1) := by decide +kernel
theorem dX3_accountFor_65 : decode cX3_accountFor 65 = .ok (.getfield 35, 3) := by decide +kernel
theorem dX3_accountFor_68 : decode cX3_accountFor 68 = .ok (.ireturn, 1) := by decide +kernel
theorem dX3_accountFor_69 : decode cX3_accountFor 69 = .ok (.aload_n 0, 1) := by decide +kernel
theorem dX3_accountFor_70 : decode cX3_accountFor 70 = .ok (.getfield 39, 3) := by decide +kernel
theorem dX3_accountFor_73 : decode cX3_accountFor 73 = .ok (.ireturn, 1) := by decide +kernel
theorem dX3_accountFor_74 : decode cX3_accountFor 74 = .ok (.aload_n 0, 1) := by decide +kernel
theorem dX3_accountFor_75 : decode cX3_accountFor 75 = .ok (.getfield 42, 3) := by decide +kernel
theorem dX3_accountFor_78 : decode cX3_accountFor 78 = .ok (.ireturn, 1) := by decide +kernel
theorem dX3_accountFor_79 : decode cX3_accountFor 79 = .ok (.aload_n 0, 1) := by decide +kernel
theorem dX3_accountFor_80 : decode cX3_accountFor 80 = .ok (.getfield 45, 3) := by decide +kernel
theorem dX3_accountFor_83 : decode cX3_accountFor 83 = .ok (.ireturn, 1) := by decide +kernel
theorem dX3_accountFor_84 : decode cX3_accountFor 84 = .ok (.aload_n 0, 1) := by decide +kernel
theorem dX3_accountFor_85 : decode cX3_accountFor 85 = .ok (.iconst 3, 1) := by decide +kernel
theorem dX3_accountFor_86 : decode cX3_accountFor 86 = .ok (.invokevirtual 162, 3) := by decide +kernel
theorem dX3_accountFor_89 : decode cX3_accountFor 89 = .ok (.ireturn, 1) := by decide +kernel
theorem dX3_accountFor_90 : decode cX3_accountFor 90 = .ok (.aload_n 0, 1) := by decide +kernel
theorem dX3_accountFor_91 : decode cX3_accountFor 91 = .ok (.iconst 2, 1) := by decide +kernel
theorem dX3_accountFor_92 : decode cX3_accountFor 92 = .ok (.invokevirtual 165, 3) := by decide +kernel
theorem dX3_accountFor_95 : decode cX3_accountFor 95 = .ok (.ireturn, 1) := by decide +kernel
theorem dX3_accountFor_96 : decode cX3_accountFor 96 = .ok (.aload_n 0, 1) := by decide +kernel
theorem dX3_accountFor_97 : decode cX3_accountFor 97 = .ok (.iconst 5, 1) := by decide +kernel
theorem dX3_accountFor_98 : decode cX3_accountFor 98 = .ok (.invokevirtual 162, 3) := by decide +kernel
theorem dX3_accountFor_101 : decode cX3_accountFor 101 = .ok (.ireturn, 1) := by decide +kernel
theorem dX3_accountFor_102 : decode cX3_accountFor 102 = .ok (.aload_n 0, 1) := by decide +kernel
theorem dX3_accountFor_103 : decode cX3_accountFor 103 = .ok (.bipush 7, 2) := by decide +kernel
theorem dX3_accountFor_105 : decode cX3_accountFor 105 = .ok (.invokevirtual 162, 3) := by decide +kernel
theorem dX3_accountFor_108 : decode cX3_accountFor 108 = .ok (.ireturn, 1) := by decide +kernel
theorem dX3_accountFor_109 : decode cX3_accountFor 109 = .ok (.aload_n 0, 1) := by decide +kernel
theorem dX3_accountFor_110 : decode cX3_accountFor 110 = .ok (.invokevirtual 168, 3) := by decide +kernel
theorem dX3_accountFor_113 : decode cX3_accountFor 113 = .ok (.ireturn, 1) := by decide +kernel
theorem dX3_accountFor_114 : decode cX3_accountFor 114 = .ok (.aload_n 0, 1) := by decide +kernel
theorem dX3_accountFor_115 : decode cX3_accountFor 115 = .ok (.iconst 3, 1) := by decide +kernel
theorem dX3_accountFor_116 : decode cX3_accountFor 116 = .ok (.invokevirtual 165, 3) := by decide +kernel
theorem dX3_accountFor_119 : decode cX3_accountFor 119 = .ok (.ireturn, 1) := by decide +kernel
theorem dX3_accountFor_120 : decode cX3_accountFor 120 = .ok (.aload_n 0, 1) := by decide +kernel
theorem dX3_accountFor_121 : decode cX3_accountFor 121 = .ok (.invokevirtual 171, 3) := by decide +kernel
theorem dX3_accountFor_124 : decode cX3_accountFor 124 = .ok (.ireturn, 1) := by decide +kernel
theorem dX3_accountFor_125 : decode cX3_accountFor 125 = .ok (.aload_n 0, 1) := by decide +kernel
theorem dX3_accountFor_126 : decode cX3_accountFor 126 = .ok (.bipush 8, 2) := by decide +kernel
theorem dX3_accountFor_128 : decode cX3_accountFor 128 = .ok (.invokevirtual 162, 3) := by decide +kernel
theorem dX3_accountFor_131 : decode cX3_accountFor 131 = .ok (.ireturn, 1) := by decide +kernel
theorem dX3_accountFor_132 : decode cX3_accountFor 132 = .ok (.aload_n 0, 1) := by decide +kernel
theorem dX3_accountFor_133 : decode cX3_accountFor 133 = .ok (.getfield 48, 3) := by decide +kernel
theorem dX3_accountFor_136 : decode cX3_accountFor 136 = .ok (.ireturn, 1) := by decide +kernel
theorem dX3_sumOfColorants_0 : decode cX3_sumOfColorants 0 = .ok (.iconst 0, 1) := by decide +kernel
theorem dX3_sumOfColorants_1 : decode cX3_sumOfColorants 1 = .ok (.istore_n 2, 1) := by decide +kernel
theorem dX3_sumOfColorants_2 : decode cX3_sumOfColorants 2 = .ok (.iconst 0, 1) := by decide +kernel
theorem dX3_sumOfColorants_3 : decode cX3_sumOfColorants 3 = .ok (.istore_n 3, 1) := by decide +kernel
theorem dX3_sumOfColorants_4 : decode cX3_sumOfColorants 4 = .ok (.iload_n 3, 1) := by decide +kernel
theorem dX3_sumOfColorants_5 : decode cX3_sumOfColorants 5 = .ok (.aload_n 0, 1) := by decide +kernel
theorem dX3_sumOfColorants_6 : decode cX3_sumOfColorants 6 = .ok (.getfield 35, 3) := by decide +kernel
theorem dX3_sumOfColorants_9 : decode cX3_sumOfColorants 9 = .ok (.if_icmp .ge 22, 3) := by decide +kernel
theorem dX3_sumOfColorants_12 : decode cX3_sumOfColorants 12 = .ok (.iload_n 2, 1) := by decide +kernel
theorem dX3_sumOfColorants_13 : decode cX3_sumOfColorants 13 = .ok (.aload_n 0, 1) := by decide +kernel
theorem dX3_sumOfColorants_14 : decode cX3_sumOfColorants 14 = .ok (.getfield 11, 3) := by decide +kernel
theorem dX3_sumOfColorants_17 : decode cX3_sumOfColorants 17 = .ok (.iload_n 3, 1) := by decide +kernel
theorem dX3_sumOfColorants_18 : decode cX3_sumOfColorants 18 = .ok (.aaload, 1) := by decide +kernel
theorem dX3_sumOfColorants_19 : decode cX3_sumOfColorants 19 = .ok (.iload_n 1, 1) := by decide +kernel
theorem dX3_sumOfColorants_20 : decode cX3_sumOfColorants 20 = .ok (.invokevirtual 174, 3) := by decide +kernel
theorem dX3_sumOfColorants_23 : decode cX3_sumOfColorants 23 = .ok (.iadd, 1) := by decide +kernel
theorem dX3_sumOfColorants_24 : decode cX3_sumOfColorants 24 = .ok (.istore_n 2, 1) := by decide +kernel
theorem dX3_sumOfColorants_25 : decode cX3_sumOfColorants 25 = .ok (.iinc 3 1, 3) := by decide +kernel
theorem dX3_sumOfColorants_28 : decode cX3_sumOfColorants 28 = .ok (.goto (-24), 3) := by decide +kernel
theorem dX3_sumOfColorants_31 : decode cX3_sumOfColorants 31 = .ok (.iload_n 2, 1) := by decide +kernel
theorem dX3_sumOfColorants_32 : decode cX3_sumOfColorants 32 = .ok (.ireturn, 1) := by decide +kernel
theorem dX3_sumOfCans_0 : decode cX3_sumOfCans 0 = .ok (.iconst 0, 1) := by decide +kernel
theorem dX3_sumOfCans_1 : decode cX3_sumOfCans 1 = .ok (.istore_n 2, 1) := by decide +kernel
theorem dX3_sumOfCans_2 : decode cX3_sumOfCans 2 = .ok (.iconst 0, 1) := by decide +kernel
theorem dX3_sumOfCans_3 : decode cX3_sumOfCans 3 = .ok (.istore_n 3, 1) := by decide +kernel
theorem dX3_sumOfCans_4 : decode cX3_sumOfCans 4 = .ok (.iload_n 3, 1) := by decide +kernel
theorem dX3_sumOfCans_5 : decode cX3_sumOfCans 5 = .ok (.aload_n 0, 1) := by decide +kernel
theorem dX3_sumOfCans_6 : decode cX3_sumOfCans 6 = .ok (.getfield 45, 3) := by decide +kernel
theorem dX3_sumOfCans_9 : decode cX3_sumOfCans 9 = .ok (.if_icmp .ge 23, 3) := by decide +kernel
theorem dX3_sumOfCans_12 : decode cX3_sumOfCans 12 = .ok (.iload_n 2, 1) := by decide +kernel
theorem dX3_sumOfCans_13 : decode cX3_sumOfCans 13 = .ok (.aload_n 0, 1) := by decide +kernel
theorem dX3_sumOfCans_14 : decode cX3_sumOfCans 14 = .ok (.aload_n 0, 1) := by decide +kernel
theorem dX3_sumOfCans_15 : decode cX3_sumOfCans 15 = .ok (.getfield 31, 3) := by decide +kernel
theorem dX3_sumOfCans_18 : decode cX3_sumOfCans 18 = .ok (.iload_n 3, 1) := by decide +kernel
theorem dX3_sumOfCans_19 : decode cX3_sumOfCans 19 = .ok (.aaload, 1) := by decide +kernel
theorem dX3_sumOfCans_20 : decode cX3_sumOfCans 20 = .ok (.iload_n 1, 1) := by decide +kernel
theorem dX3_sumOfCans_21 : decode cX3_sumOfCans 21 = .ok (.invokevirtual 177, 3) := by decide +kernel
theorem dX3_sumOfCans_24 : decode cX3_sumOfCans 24 = .ok (.iadd, 1) := by decide +kernel
theorem dX3_sumOfCans_25 : decode cX3_sumOfCans 25 = .ok (.istore_n 2, 1) := by decide +kernel
theorem dX3_sumOfCans_26 : decode cX3_sumOfCans 26 = .ok (.iinc 3 1, 3) := by decide +kernel
theorem dX3_sumOfCans_29 : decode cX3_sumOfCans 29 = .ok (.goto (-25), 3) := by decide +kernel
theorem dX3_sumOfCans_32 : decode cX3_sumOfCans 32 = .ok (.iload_n 2, 1) := by decide +kernel
theorem dX3_sumOfCans_33 : decode cX3_sumOfCans 33 = .ok (.ireturn, 1) := by decide +kernel
theorem dX3_sumOfStocks_0 : decode cX3_sumOfStocks 0 = .ok (.iconst 0, 1) := by decide +kernel
theorem dX3_sumOfStocks_1 : decode cX3_sumOfStocks 1 = .ok (.istore_n 1, 1) := by decide +kernel
theorem dX3_sumOfStocks_2 : decode cX3_sumOfStocks 2 = .ok (.iconst 0, 1) := by decide +kernel
theorem dX3_sumOfStocks_3 : decode cX3_sumOfStocks 3 = .ok (.istore_n 2, 1) := by decide +kernel
theorem dX3_sumOfStocks_4 : decode cX3_sumOfStocks 4 = .ok (.iload_n 2, 1) := by decide +kernel
theorem dX3_sumOfStocks_5 : decode cX3_sumOfStocks 5 = .ok (.aload_n 0, 1) := by decide +kernel
theorem dX3_sumOfStocks_6 : decode cX3_sumOfStocks 6 = .ok (.getfield 39, 3) := by decide +kernel
theorem dX3_sumOfStocks_9 : decode cX3_sumOfStocks 9 = .ok (.if_icmp .ge 21, 3) := by decide +kernel
theorem dX3_sumOfStocks_12 : decode cX3_sumOfStocks 12 = .ok (.iload_n 1, 1) := by decide +kernel
theorem dX3_sumOfStocks_13 : decode cX3_sumOfStocks 13 = .ok (.aload_n 0, 1) := by decide +kernel
theorem dX3_sumOfStocks_14 : decode cX3_sumOfStocks 14 = .ok (.getfield 19, 3) := by decide +kernel
theorem dX3_sumOfStocks_17 : decode cX3_sumOfStocks 17 = .ok (.iload_n 2, 1) := by decide +kernel
theorem dX3_sumOfStocks_18 : decode cX3_sumOfStocks 18 = .ok (.aaload, 1) := by decide +kernel
theorem dX3_sumOfStocks_19 : decode cX3_sumOfStocks 19 = .ok (.getfield 110, 3) := by decide +kernel
theorem dX3_sumOfStocks_22 : decode cX3_sumOfStocks 22 = .ok (.iadd, 1) := by decide +kernel
theorem dX3_sumOfStocks_23 : decode cX3_sumOfStocks 23 = .ok (.istore_n 1, 1) := by decide +kernel
theorem dX3_sumOfStocks_24 : decode cX3_sumOfStocks 24 = .ok (.iinc 2 1, 3) := by decide +kernel
theorem dX3_sumOfStocks_27 : decode cX3_sumOfStocks 27 = .ok (.goto (-23), 3) := by decide +kernel
theorem dX3_sumOfStocks_30 : decode cX3_sumOfStocks 30 = .ok (.iload_n 1, 1) := by decide +kernel
theorem dX3_sumOfStocks_31 : decode cX3_sumOfStocks 31 = .ok (.ireturn, 1) := by decide +kernel
theorem dX3_sumOfCarries_0 : decode cX3_sumOfCarries 0 = .ok (.iconst 0, 1) := by decide +kernel
theorem dX3_sumOfCarries_1 : decode cX3_sumOfCarries 1 = .ok (.istore_n 1, 1) := by decide +kernel
theorem dX3_sumOfCarries_2 : decode cX3_sumOfCarries 2 = .ok (.iconst 0, 1) := by decide +kernel
theorem dX3_sumOfCarries_3 : decode cX3_sumOfCarries 3 = .ok (.istore_n 2, 1) := by decide +kernel
theorem dX3_sumOfCarries_4 : decode cX3_sumOfCarries 4 = .ok (.iload_n 2, 1) := by decide +kernel
theorem dX3_sumOfCarries_5 : decode cX3_sumOfCarries 5 = .ok (.aload_n 0, 1) := by decide +kernel
theorem dX3_sumOfCarries_6 : decode cX3_sumOfCarries 6 = .ok (.getfield 42, 3) := by decide +kernel
theorem dX3_sumOfCarries_9 : decode cX3_sumOfCarries 9 = .ok (.if_icmp .ge 39, 3) := by decide +kernel
theorem dX3_sumOfCarries_12 : decode cX3_sumOfCarries 12 = .ok (.iconst 0, 1) := by decide +kernel
theorem dX3_sumOfCarries_13 : decode cX3_sumOfCarries 13 = .ok (.istore_n 3, 1) := by decide +kernel
theorem dX3_sumOfCarries_14 : decode cX3_sumOfCarries 14 = .ok (.iload_n 3, 1) := by decide +kernel
theorem dX3_sumOfCarries_15 : decode cX3_sumOfCarries 15 = .ok (.aload_n 0, 1) := by decide +kernel
theorem dX3_sumOfCarries_16 : decode cX3_sumOfCarries 16 = .ok (.getfield 35, 3) := by decide +kernel
theorem dX3_sumOfCarries_19 : decode cX3_sumOfCarries 19 = .ok (.if_icmp .ge 23, 3) := by decide +kernel
theorem dX3_sumOfCarries_22 : decode cX3_sumOfCarries 22 = .ok (.iload_n 1, 1) := by decide +kernel
theorem dX3_sumOfCarries_23 : decode cX3_sumOfCarries 23 = .ok (.aload_n 0, 1) := by decide +kernel
theorem dX3_sumOfCarries_24 : decode cX3_sumOfCarries 24 = .ok (.getfield 25, 3) := by decide +kernel
theorem dX3_sumOfCarries_27 : decode cX3_sumOfCarries 27 = .ok (.iload_n 2, 1) := by decide +kernel
theorem dX3_sumOfCarries_28 : decode cX3_sumOfCarries 28 = .ok (.aaload, 1) := by decide +kernel
theorem dX3_sumOfCarries_29 : decode cX3_sumOfCarries 29 = .ok (.getfield 181, 3) := by decide +kernel
theorem dX3_sumOfCarries_32 : decode cX3_sumOfCarries 32 = .ok (.iload_n 3, 1) := by decide +kernel
theorem dX3_sumOfCarries_33 : decode cX3_sumOfCarries 33 = .ok (.iaload, 1) := by decide +kernel
theorem dX3_sumOfCarries_34 : decode cX3_sumOfCarries 34 = .ok (.iadd, 1) := by decide +kernel
theorem dX3_sumOfCarries_35 : decode cX3_sumOfCarries 35 = .ok (.istore_n 1, 1) := by decide +kernel
theorem dX3_sumOfCarries_36 : decode cX3_sumOfCarries 36 = .ok (.iinc 3 1, 3) := by decide +kernel
theorem dX3_sumOfCarries_39 : decode cX3_sumOfCarries 39 = .ok (.goto (-25), 3) := by decide +kernel
theorem dX3_sumOfCarries_42 : decode cX3_sumOfCarries 42 = .ok (.iinc 2 1, 3) := by decide +kernel
theorem dX3_sumOfCarries_45 : decode cX3_sumOfCarries 45 = .ok (.goto (-41), 3) := by decide +kernel
theorem dX3_sumOfCarries_48 : decode cX3_sumOfCarries 48 = .ok (.iload_n 1, 1) := by decide +kernel
theorem dX3_sumOfCarries_49 : decode cX3_sumOfCarries 49 = .ok (.ireturn, 1) := by decide +kernel
theorem dX4_init_0 : decode cX4_init 0 = .ok (.aload_n 0, 1) := by decide +kernel
theorem dX4_init_1 : decode cX4_init 1 = .ok (.invokespecial 3, 3) := by decide +kernel
theorem dX4_init_4 : decode cX4_init 4 = .ok (.aload_n 0, 1) := by decide +kernel
theorem dX4_init_5 : decode cX4_init 5 = .ok (.iconst 0, 1) := by decide +kernel
theorem dX4_init_6 : decode cX4_init 6 = .ok (.putfield 9, 3) := by decide +kernel
theorem dX4_init_9 : decode cX4_init 9 = .ok (.aload_n 0, 1) := by decide +kernel
theorem dX4_init_10 : decode cX4_init 10 = .ok (.bipush 8, 2) := by decide +kernel
theorem dX4_init_12 : decode cX4_init 12 = .ok (.newarray .int, 2) := by decide +kernel
theorem dX4_init_14 : decode cX4_init 14 = .ok (.putfield 15, 3) := by decide +kernel
theorem dX4_init_17 : decode cX4_init 17 = .ok (.aload_n 0, 1) := by decide +kernel
theorem dX4_init_18 : decode cX4_init 18 = .ok (.bipush 8, 2) := by decide +kernel
theorem dX4_init_20 : decode cX4_init 20 = .ok (.newarray .int, 2) := by decide +kernel
theorem dX4_init_22 : decode cX4_init 22 = .ok (.putfield 19, 3) := by decide +kernel
theorem dX4_init_25 : decode cX4_init 25 = .ok (.return_, 1) := by decide +kernel
theorem dX4_copyFrom_0 : decode cX4_copyFrom 0 = .ok (.aload_n 0, 1) := by decide +kernel
theorem dX4_copyFrom_1 : decode cX4_copyFrom 1 = .ok (.aload_n 1, 1) := by decide +kernel
theorem dX4_copyFrom_2 : decode cX4_copyFrom 2 = .ok (.getfield 9, 3) := by decide +kernel
theorem dX4_copyFrom_5 : decode cX4_copyFrom 5 = .ok (.putfield 9, 3) := by decide +kernel
theorem dX4_copyFrom_8 : decode cX4_copyFrom 8 = .ok (.aload_n 1, 1) := by decide +kernel
theorem dX4_copyFrom_9 : decode cX4_copyFrom 9 = .ok (.getfield 15, 3) := by decide +kernel
theorem dX4_copyFrom_12 : decode cX4_copyFrom 12 = .ok (.iconst 0, 1) := by decide +kernel
theorem dX4_copyFrom_13 : decode cX4_copyFrom 13 = .ok (.aload_n 0, 1) := by decide +kernel
theorem dX4_copyFrom_14 : decode cX4_copyFrom 14 = .ok (.getfield 15, 3) := by decide +kernel
theorem dX4_copyFrom_17 : decode cX4_copyFrom 17 = .ok (.iconst 0, 1) := by decide +kernel
theorem dX4_copyFrom_18 : decode cX4_copyFrom 18 = .ok (.bipush 8, 2) := by decide +kernel
theorem dX4_copyFrom_20 : decode cX4_copyFrom 20 = .ok (.invokestatic 22, 3) := by decide +kernel
theorem dX4_copyFrom_23 : decode cX4_copyFrom 23 = .ok (.aload_n 1, 1) := by decide +kernel
theorem dX4_copyFrom_24 : decode cX4_copyFrom 24 = .ok (.getfield 19, 3) := by decide +kernel
theorem dX4_copyFrom_27 : decode cX4_copyFrom 27 = .ok (.iconst 0, 1) := by decide +kernel
theorem dX4_copyFrom_28 : decode cX4_copyFrom 28 = .ok (.aload_n 0, 1) := by decide +kernel
theorem dX4_copyFrom_29 : decode cX4_copyFrom 29 = .ok (.getfield 19, 3) := by decide +kernel
theorem dX4_copyFrom_32 : decode cX4_copyFrom 32 = .ok (.iconst 0, 1) := by decide +kernel
theorem dX4_copyFrom_33 : decode cX4_copyFrom 33 = .ok (.bipush 8, 2) := by decide +kernel
theorem dX4_copyFrom_35 : decode cX4_copyFrom 35 = .ok (.invokestatic 22, 3) := by decide +kernel
theorem dX4_copyFrom_38 : decode cX4_copyFrom 38 = .ok (.return_, 1) := by decide +kernel
theorem dX4_stepsForCans_0 : decode cX4_stepsForCans 0 = .ok (.aload_n 0, 1) := by decide +kernel
theorem dX4_stepsForCans_1 : decode cX4_stepsForCans 1 = .ok (.getfield 15, 3) := by decide +kernel
theorem dX4_stepsForCans_4 : decode cX4_stepsForCans 4 = .ok (.iload_n 1, 1) := by decide +kernel
theorem dX4_stepsForCans_5 : decode cX4_stepsForCans 5 = .ok (.iaload, 1) := by decide +kernel
theorem dX4_stepsForCans_6 : decode cX4_stepsForCans 6 = .ok (.iload_n 2, 1) := by decide +kernel
theorem dX4_stepsForCans_7 : decode cX4_stepsForCans 7 = .ok (.imul, 1) := by decide +kernel
theorem dX4_stepsForCans_8 : decode cX4_stepsForCans 8 = .ok (.aload_n 0, 1) := by decide +kernel
theorem dX4_stepsForCans_9 : decode cX4_stepsForCans 9 = .ok (.getfield 19, 3) := by decide +kernel
theorem dX4_stepsForCans_12 : decode cX4_stepsForCans 12 = .ok (.iload_n 1, 1) := by decide +kernel
theorem dX4_stepsForCans_13 : decode cX4_stepsForCans 13 = .ok (.iaload, 1) := by decide +kernel
theorem dX4_stepsForCans_14 : decode cX4_stepsForCans 14 = .ok (.iadd, 1) := by decide +kernel
theorem dX4_stepsForCans_15 : decode cX4_stepsForCans 15 = .ok (.bipush 100, 2) := by decide +kernel
theorem dX4_stepsForCans_17 : decode cX4_stepsForCans 17 = .ok (.idiv, 1) := by decide +kernel
theorem dX4_stepsForCans_18 : decode cX4_stepsForCans 18 = .ok (.ireturn, 1) := by decide +kernel
theorem dX4_carryOn_0 : decode cX4_carryOn 0 = .ok (.aload_n 0, 1) := by decide +kernel
theorem dX4_carryOn_1 : decode cX4_carryOn 1 = .ok (.getfield 19, 3) := by decide +kernel
theorem dX4_carryOn_4 : decode cX4_carryOn 4 = .ok (.iload_n 1, 1) := by decide +kernel
theorem dX4_carryOn_5 : decode cX4_carryOn 5 = .ok (.aload_n 0, 1) := by decide +kernel
theorem dX4_carryOn_6 : decode cX4_carryOn 6 = .ok (.getfield 15, 3) := by decide +kernel
theorem dX4_carryOn_9 : decode cX4_carryOn 9 = .ok (.iload_n 1, 1) := by decide +kernel
theorem dX4_carryOn_10 : decode cX4_carryOn 10 = .ok (.iaload, 1) := by decide +kernel
theorem dX4_carryOn_11 : decode cX4_carryOn 11 = .ok (.aload_n 0, 1) := by decide +kernel
theorem dX4_carryOn_12 : decode cX4_carryOn 12 = .ok (.getfield 19, 3) := by decide +kernel
theorem dX4_carryOn_15 : decode cX4_carryOn 15 = .ok (.iload_n 1, 1) := by decide +kernel
theorem dX4_carryOn_16 : decode cX4_carryOn 16 = .ok (.iaload, 1) := by decide +kernel
theorem dX4_carryOn_17 : decode cX4_carryOn 17 = .ok (.iadd, 1) := by decide +kernel
theorem dX4_carryOn_18 : decode cX4_carryOn 18 = .ok (.bipush 100, 2) := by decide +kernel
theorem dX4_carryOn_20 : decode cX4_carryOn 20 = .ok (.irem, 1) := by decide +kernel
theorem dX4_carryOn_21 : decode cX4_carryOn 21 = .ok (.iastore, 1) := by decide +kernel
theorem dX4_carryOn_22 : decode cX4_carryOn 22 = .ok (.return_, 1) := by decide +kernel
theorem dX4_differenceFrom_0 : decode cX4_differenceFrom 0 = .ok (.iconst 0, 1) := by decide +kernel
theorem dX4_differenceFrom_1 : decode cX4_differenceFrom 1 = .ok (.istore_n 2, 1) := by decide +kernel
theorem dX4_differenceFrom_2 : decode cX4_differenceFrom 2 = .ok (.iconst 0, 1) := by decide +kernel
theorem dX4_differenceFrom_3 : decode cX4_differenceFrom 3 = .ok (.istore_n 3, 1) := by decide +kernel
theorem dX4_differenceFrom_4 : decode cX4_differenceFrom 4 = .ok (.iload_n 3, 1) := by decide +kernel
theorem dX4_differenceFrom_5 : decode cX4_differenceFrom 5 = .ok (.bipush 8, 2) := by decide +kernel
theorem dX4_differenceFrom_7 : decode cX4_differenceFrom 7 = .ok (.if_icmp .ge 31, 3) := by decide +kernel
theorem dX4_differenceFrom_10 : decode cX4_differenceFrom 10 = .ok (.iload_n 2, 1) := by decide +kernel
theorem dX4_differenceFrom_11 : decode cX4_differenceFrom 11 = .ok (.aload_n 0, 1) := by decide +kernel
theorem dX4_differenceFrom_12 : decode cX4_differenceFrom 12 = .ok (.getfield 15, 3) := by decide +kernel
theorem dX4_differenceFrom_15 : decode cX4_differenceFrom 15 = .ok (.iload_n 3, 1) := by decide +kernel
theorem dX4_differenceFrom_16 : decode cX4_differenceFrom 16 = .ok (.iaload, 1) := by decide +kernel
theorem dX4_differenceFrom_17 : decode cX4_differenceFrom 17 = .ok (.aload_n 1, 1) := by decide +kernel
theorem dX4_differenceFrom_18 : decode cX4_differenceFrom 18 = .ok (.getfield 28, 3) := by decide +kernel
theorem dX4_differenceFrom_21 : decode cX4_differenceFrom 21 = .ok (.iload_n 3, 1) := by decide +kernel
theorem dX4_differenceFrom_22 : decode cX4_differenceFrom 22 = .ok (.iaload, 1) := by decide +kernel
theorem dX4_differenceFrom_23 : decode cX4_differenceFrom 23 = .ok (.bipush 100, 2) := by decide +kernel
theorem dX4_differenceFrom_25 : decode cX4_differenceFrom 25 = .ok (.imul, 1) := by decide +kernel
theorem dX4_differenceFrom_26 : decode cX4_differenceFrom 26 = .ok (.isub, 1) := by decide +kernel
theorem dX4_differenceFrom_27 : decode cX4_differenceFrom 27 = .ok (.invokestatic 33, 3) := by decide +kernel
theorem dX4_differenceFrom_30 : decode cX4_differenceFrom 30 = .ok (.iadd, 1) := by decide +kernel
theorem dX4_differenceFrom_31 : decode cX4_differenceFrom 31 = .ok (.istore_n 2, 1) := by decide +kernel
theorem dX4_differenceFrom_32 : decode cX4_differenceFrom 32 = .ok (.iinc 3 1, 3) := by decide +kernel
theorem dX4_differenceFrom_35 : decode cX4_differenceFrom 35 = .ok (.goto (-31), 3) := by decide +kernel
theorem dX4_differenceFrom_38 : decode cX4_differenceFrom 38 = .ok (.iload_n 2, 1) := by decide +kernel
theorem dX4_differenceFrom_39 : decode cX4_differenceFrom 39 = .ok (.ireturn, 1) := by decide +kernel
theorem dX5_init_0 : decode cX5_init 0 = .ok (.aload_n 0, 1) := by decide +kernel
theorem dX5_init_1 : decode cX5_init 1 = .ok (.invokespecial 3, 3) := by decide +kernel
theorem dX5_init_4 : decode cX5_init 4 = .ok (.aload_n 0, 1) := by decide +kernel
theorem dX5_init_5 : decode cX5_init 5 = .ok (.bipush 60, 2) := by decide +kernel
theorem dX5_init_7 : decode cX5_init 7 = .ok (.newarray .char, 2) := by decide +kernel
theorem dX5_init_9 : decode cX5_init 9 = .ok (.putfield 9, 3) := by decide +kernel
theorem dX5_init_12 : decode cX5_init 12 = .ok (.aload_n 0, 1) := by decide +kernel
theorem dX5_init_13 : decode cX5_init 13 = .ok (.iconst 0, 1) := by decide +kernel
theorem dX5_init_14 : decode cX5_init 14 = .ok (.putfield 15, 3) := by decide +kernel
theorem dX5_init_17 : decode cX5_init 17 = .ok (.aload_n 0, 1) := by decide +kernel
theorem dX5_init_18 : decode cX5_init 18 = .ok (.iconst 0, 1) := by decide +kernel
theorem dX5_init_19 : decode cX5_init 19 = .ok (.putfield 19, 3) := by decide +kernel
theorem dX5_init_22 : decode cX5_init 22 = .ok (.aload_n 0, 1) := by decide +kernel
theorem dX5_init_23 : decode cX5_init 23 = .ok (.iconst 0, 1) := by decide +kernel
theorem dX5_init_24 : decode cX5_init 24 = .ok (.putfield 22, 3) := by decide +kernel
theorem dX5_init_27 : decode cX5_init 27 = .ok (.aload_n 0, 1) := by decide +kernel
theorem dX5_init_28 : decode cX5_init 28 = .ok (.bipush 10, 2) := by decide +kernel
theorem dX5_init_30 : decode cX5_init 30 = .ok (.newarray .int, 2) := by decide +kernel
theorem dX5_init_32 : decode cX5_init 32 = .ok (.putfield 25, 3) := by decide +kernel
theorem dX5_init_35 : decode cX5_init 35 = .ok (.return_, 1) := by decide +kernel
theorem dX5_put_0 : decode cX5_put 0 = .ok (.aload_n 0, 1) := by decide +kernel
theorem dX5_put_1 : decode cX5_put 1 = .ok (.getfield 15, 3) := by decide +kernel
theorem dX5_put_4 : decode cX5_put 4 = .ok (.bipush 60, 2) := by decide +kernel
theorem dX5_put_6 : decode cX5_put 6 = .ok (.if_icmp .ge 23, 3) := by decide +kernel
theorem dX5_put_9 : decode cX5_put 9 = .ok (.aload_n 0, 1) := by decide +kernel
theorem dX5_put_10 : decode cX5_put 10 = .ok (.getfield 9, 3) := by decide +kernel
theorem dX5_put_13 : decode cX5_put 13 = .ok (.aload_n 0, 1) := by decide +kernel
theorem dX5_put_14 : decode cX5_put 14 = .ok (.getfield 15, 3) := by decide +kernel
theorem dX5_put_17 : decode cX5_put 17 = .ok (.iload_n 1, 1) := by decide +kernel
theorem dX5_put_18 : decode cX5_put 18 = .ok (.castore, 1) := by decide +kernel
theorem dX5_put_19 : decode cX5_put 19 = .ok (.aload_n 0, 1) := by decide +kernel
theorem dX5_put_20 : decode cX5_put 20 = .ok (.dup, 1) := by decide +kernel
theorem dX5_put_21 : decode cX5_put 21 = .ok (.getfield 15, 3) := by decide +kernel
theorem dX5_put_24 : decode cX5_put 24 = .ok (.iconst 1, 1) := by decide +kernel
theorem dX5_put_25 : decode cX5_put 25 = .ok (.iadd, 1) := by decide +kernel
theorem dX5_put_26 : decode cX5_put 26 = .ok (.putfield 15, 3) := by decide +kernel
theorem dX5_put_29 : decode cX5_put 29 = .ok (.return_, 1) := by decide +kernel
theorem dX5_empty_0 : decode cX5_empty 0 = .ok (.aload_n 0, 1) := by decide +kernel
theorem dX5_empty_1 : decode cX5_empty 1 = .ok (.iconst 0, 1) := by decide +kernel
theorem dX5_empty_2 : decode cX5_empty 2 = .ok (.putfield 15, 3) := by decide +kernel
theorem dX5_empty_5 : decode cX5_empty 5 = .ok (.return_, 1) := by decide +kernel
theorem dX5_namesFrom_0 : decode cX5_namesFrom 0 = .ok (.iload_n 1, 1) := by decide +kernel
theorem dX5_namesFrom_1 : decode cX5_namesFrom 1 = .ok (.istore_n 2, 1) := by decide +kernel
theorem dX5_namesFrom_2 : decode cX5_namesFrom 2 = .ok (.iload_n 2, 1) := by decide +kernel
theorem dX5_namesFrom_3 : decode cX5_namesFrom 3 = .ok (.bipush 10, 2) := by decide +kernel
theorem dX5_namesFrom_5 : decode cX5_namesFrom 5 = .ok (.if_icmp .ge 21, 3) := by decide +kernel
theorem dX5_namesFrom_8 : decode cX5_namesFrom 8 = .ok (.aload_n 0, 1) := by decide +kernel
theorem dX5_namesFrom_9 : decode cX5_namesFrom 9 = .ok (.getfield 25, 3) := by decide +kernel
theorem dX5_namesFrom_12 : decode cX5_namesFrom 12 = .ok (.iload_n 2, 1) := by decide +kernel
theorem dX5_namesFrom_13 : decode cX5_namesFrom 13 = .ok (.iaload, 1) := by decide +kernel
theorem dX5_namesFrom_14 : decode cX5_namesFrom 14 = .ok (.iconst (-1), 1) := by decide +kernel
theorem dX5_namesFrom_15 : decode cX5_namesFrom 15 = .ok (.if_icmp .eq 5, 3) := by decide +kernel
theorem dX5_namesFrom_18 : decode cX5_namesFrom 18 = .ok (.iconst 1, 1) := by decide +kernel
theorem dX5_namesFrom_19 : decode cX5_namesFrom 19 = .ok (.ireturn, 1) := by decide +kernel
theorem dX5_namesFrom_20 : decode cX5_namesFrom 20 = .ok (.iinc 2 1, 3) := by decide +kernel
theorem dX5_namesFrom_23 : decode cX5_namesFrom 23 = .ok (.goto (-21), 3) := by decide +kernel
theorem dX5_namesFrom_26 : decode cX5_namesFrom 26 = .ok (.iconst 0, 1) := by decide +kernel
theorem dX5_namesFrom_27 : decode cX5_namesFrom 27 = .ok (.ireturn, 1) := by decide +kernel
theorem dX5_readAll_0 : decode cX5_readAll 0 = .ok (.aload_n 0, 1) := by decide +kernel
theorem dX5_readAll_1 : decode cX5_readAll 1 = .ok (.iconst 0, 1) := by decide +kernel
theorem dX5_readAll_2 : decode cX5_readAll 2 = .ok (.putfield 19, 3) := by decide +kernel
theorem dX5_readAll_5 : decode cX5_readAll 5 = .ok (.iconst 0, 1) := by decide +kernel
theorem dX5_readAll_6 : decode cX5_readAll 6 = .ok (.istore_n 1, 1) := by decide +kernel
theorem dX5_readAll_7 : decode cX5_readAll 7 = .ok (.iload_n 1, 1) := by decide +kernel
theorem dX5_readAll_8 : decode cX5_readAll 8 = .ok (.bipush 10, 2) := by decide +kernel
theorem dX5_readAll_10 : decode cX5_readAll 10 = .ok (.if_icmp .ge 16, 3) := by decide +kernel
theorem dX5_readAll_13 : decode cX5_readAll 13 = .ok (.aload_n 0, 1) := by decide +kernel
theorem dX5_readAll_14 : decode cX5_readAll 14 = .ok (.getfield 25, 3) := by decide +kernel
theorem dX5_readAll_17 : decode cX5_readAll 17 = .ok (.iload_n 1, 1) := by decide +kernel
theorem dX5_readAll_18 : decode cX5_readAll 18 = .ok (.iconst (-1), 1) := by decide +kernel
theorem dX5_readAll_19 : decode cX5_readAll 19 = .ok (.iastore, 1) := by decide +kernel
theorem dX5_readAll_20 : decode cX5_readAll 20 = .ok (.iinc 1 1, 3) := by decide +kernel
theorem dX5_readAll_23 : decode cX5_readAll 23 = .ok (.goto (-16), 3) := by decide +kernel
theorem dX5_readAll_26 : decode cX5_readAll 26 = .ok (.aload_n 0, 1) := by decide +kernel
theorem dX5_readAll_27 : decode cX5_readAll 27 = .ok (.invokevirtual 29, 3) := by decide +kernel
theorem dX5_readAll_30 : decode cX5_readAll 30 = .ok (.ifCond .eq 14, 3) := by decide +kernel
theorem dX5_readAll_33 : decode cX5_readAll 33 = .ok (.aload_n 0, 1) := by decide +kernel
theorem dX5_readAll_34 : decode cX5_readAll 34 = .ok (.invokevirtual 33, 3) := by decide +kernel
theorem dX5_readAll_37 : decode cX5_readAll 37 = .ok (.ifCond .eq 7, 3) := by decide +kernel
theorem dX5_readAll_40 : decode cX5_readAll 40 = .ok (.iconst (-1), 1) := by decide +kernel
theorem dX5_readAll_41 : decode cX5_readAll 41 = .ok (.goto 7, 3) := by decide +kernel
theorem dX5_readAll_44 : decode cX5_readAll 44 = .ok (.aload_n 0, 1) := by decide +kernel
theorem dX5_readAll_45 : decode cX5_readAll 45 = .ok (.getfield 19, 3) := by decide +kernel
theorem dX5_readAll_48 : decode cX5_readAll 48 = .ok (.ireturn, 1) := by decide +kernel
theorem dX5_takeBase_0 : decode cX5_takeBase 0 = .ok (.aload_n 0, 1) := by decide +kernel
theorem dX5_takeBase_1 : decode cX5_takeBase 1 = .ok (.bipush 98, 2) := by decide +kernel
theorem dX5_takeBase_3 : decode cX5_takeBase 3 = .ok (.invokevirtual 36, 3) := by decide +kernel
theorem dX5_takeBase_6 : decode cX5_takeBase 6 = .ok (.ifCond .eq 10, 3) := by decide +kernel
theorem dX5_takeBase_9 : decode cX5_takeBase 9 = .ok (.aload_n 0, 1) := by decide +kernel
theorem dX5_takeBase_10 : decode cX5_takeBase 10 = .ok (.invokevirtual 40, 3) := by decide +kernel
theorem dX5_takeBase_13 : decode cX5_takeBase 13 = .ok (.ifCond .ne 5, 3) := by decide +kernel
theorem dX5_takeBase_16 : decode cX5_takeBase 16 = .ok (.iconst 0, 1) := by decide +kernel
theorem dX5_takeBase_17 : decode cX5_takeBase 17 = .ok (.ireturn, 1) := by decide +kernel
theorem dX5_takeBase_18 : decode cX5_takeBase 18 = .ok (.aload_n 0, 1) := by decide +kernel
theorem dX5_takeBase_19 : decode cX5_takeBase 19 = .ok (.aload_n 0, 1) := by decide +kernel
theorem dX5_takeBase_20 : decode cX5_takeBase 20 = .ok (.invokevirtual 43, 3) := by decide +kernel
theorem dX5_takeBase_23 : decode cX5_takeBase 23 = .ok (.putfield 22, 3) := by decide +kernel
theorem dX5_takeBase_26 : decode cX5_takeBase 26 = .ok (.aload_n 0, 1) := by decide +kernel
theorem dX5_takeBase_27 : decode cX5_takeBase 27 = .ok (.bipush 58, 2) := by decide +kernel
theorem dX5_takeBase_29 : decode cX5_takeBase 29 = .ok (.invokevirtual 36, 3) := by decide +kernel
theorem dX5_takeBase_32 : decode cX5_takeBase 32 = .ok (.ireturn, 1) := by decide +kernel
theorem dX5_takeParts_0 : decode cX5_takeParts 0 = .ok (.aload_n 0, 1) := by decide +kernel
theorem dX5_takeParts_1 : decode cX5_takeParts 1 = .ok (.invokevirtual 47, 3) := by decide +kernel
theorem dX5_takeParts_4 : decode cX5_takeParts 4 = .ok (.istore_n 1, 1) := by decide +kernel
theorem dX5_takeParts_5 : decode cX5_takeParts 5 = .ok (.iconst 1, 1) := by decide +kernel
theorem dX5_takeParts_6 : decode cX5_takeParts 6 = .ok (.istore_n 2, 1) := by decide +kernel
theorem dX5_takeParts_7 : decode cX5_takeParts 7 = .ok (.iload_n 2, 1) := by decide +kernel
theorem dX5_takeParts_8 : decode cX5_takeParts 8 = .ok (.bipush 60, 2) := by decide +kernel
theorem dX5_takeParts_10 : decode cX5_takeParts 10 = .ok (.if_icmp .ge 46, 3) := by decide +kernel
theorem dX5_takeParts_13 : decode cX5_takeParts 13 = .ok (.iload_n 1, 1) := by decide +kernel
theorem dX5_takeParts_14 : decode cX5_takeParts 14 = .ok (.ifCond .eq 42, 3) := by decide +kernel
theorem dX5_takeParts_17 : decode cX5_takeParts 17 = .ok (.aload_n 0, 1) := by decide +kernel
theorem dX5_takeParts_18 : decode cX5_takeParts 18 = .ok (.getfield 19, 3) := by decide +kernel
theorem dX5_takeParts_21 : decode cX5_takeParts 21 = .ok (.aload_n 0, 1) := by decide +kernel
theorem dX5_takeParts_22 : decode cX5_takeParts 22 = .ok (.getfield 15, 3) := by decide +kernel
theorem dX5_takeParts_25 : decode cX5_takeParts 25 = .ok (.if_icmp .ge 31, 3) := by decide +kernel
theorem dX5_takeParts_28 : decode cX5_takeParts 28 = .ok (.aload_n 0, 1) := by decide +kernel
theorem dX5_takeParts_29 : decode cX5_takeParts 29 = .ok (.bipush 44, 2) := by decide +kernel
theorem dX5_takeParts_31 : decode cX5_takeParts 31 = .ok (.invokevirtual 36, 3) := by decide +kernel
theorem dX5_takeParts_34 : decode cX5_takeParts 34 = .ok (.ifCond .eq 14, 3) := by decide +kernel
theorem dX5_takeParts_37 : decode cX5_takeParts 37 = .ok (.aload_n 0, 1) := by decide +kernel
theorem dX5_takeParts_38 : decode cX5_takeParts 38 = .ok (.invokevirtual 47, 3) := by decide +kernel
theorem dX5_takeParts_41 : decode cX5_takeParts 41 = .ok (.ifCond .eq 7, 3) := by decide +kernel
theorem dX5_takeParts_44 : decode cX5_takeParts 44 = .ok (.iconst 1, 1) := by decide +kernel
theorem dX5_takeParts_45 : decode cX5_takeParts 45 = .ok (.goto 4, 3) := by decide +kernel
theorem dX5_takeParts_48 : decode cX5_takeParts 48 = .ok (.iconst 0, 1) := by decide +kernel
theorem dX5_takeParts_49 : decode cX5_takeParts 49 = .ok (.istore_n 1, 1) := by decide +kernel
theorem dX5_takeParts_50 : decode cX5_takeParts 50 = .ok (.iinc 2 1, 3) := by decide +kernel
theorem dX5_takeParts_53 : decode cX5_takeParts 53 = .ok (.goto (-46), 3) := by decide +kernel
theorem dX5_takeParts_56 : decode cX5_takeParts 56 = .ok (.iload_n 1, 1) := by decide +kernel
theorem dX5_takeParts_57 : decode cX5_takeParts 57 = .ok (.ireturn, 1) := by decide +kernel
theorem dX5_takePart_0 : decode cX5_takePart 0 = .ok (.aload_n 0, 1) := by decide +kernel
theorem dX5_takePart_1 : decode cX5_takePart 1 = .ok (.invokevirtual 40, 3) := by decide +kernel
theorem dX5_takePart_4 : decode cX5_takePart 4 = .ok (.ifCond .ne 5, 3) := by decide +kernel
theorem dX5_takePart_7 : decode cX5_takePart 7 = .ok (.iconst 0, 1) := by decide +kernel
theorem dX5_takePart_8 : decode cX5_takePart 8 = .ok (.ireturn, 1) := by decide +kernel
theorem dX5_takePart_9 : decode cX5_takePart 9 = .ok (.aload_n 0, 1) := by decide +kernel
theorem dX5_takePart_10 : decode cX5_takePart 10 = .ok (.invokevirtual 43, 3) := by decide +kernel
theorem dX5_takePart_13 : decode cX5_takePart 13 = .ok (.istore_n 1, 1) := by decide +kernel
theorem dX5_takePart_14 : decode cX5_takePart 14 = .ok (.aload_n 0, 1) := by decide +kernel
theorem dX5_takePart_15 : decode cX5_takePart 15 = .ok (.bipush 61, 2) := by decide +kernel
theorem dX5_takePart_17 : decode cX5_takePart 17 = .ok (.invokevirtual 36, 3) := by decide +kernel
theorem dX5_takePart_20 : decode cX5_takePart 20 = .ok (.ifCond .eq 10, 3) := by decide +kernel
theorem dX5_takePart_23 : decode cX5_takePart 23 = .ok (.aload_n 0, 1) := by decide +kernel
theorem dX5_takePart_24 : decode cX5_takePart 24 = .ok (.invokevirtual 40, 3) := by decide +kernel
theorem dX5_takePart_27 : decode cX5_takePart 27 = .ok (.ifCond .ne 5, 3) := by decide +kernel
theorem dX5_takePart_30 : decode cX5_takePart 30 = .ok (.iconst 0, 1) := by decide +kernel
theorem dX5_takePart_31 : decode cX5_takePart 31 = .ok (.ireturn, 1) := by decide +kernel
theorem dX5_takePart_32 : decode cX5_takePart 32 = .ok (.aload_n 0, 1) := by decide +kernel
theorem dX5_takePart_33 : decode cX5_takePart 33 = .ok (.getfield 25, 3) := by decide +kernel
theorem dX5_takePart_36 : decode cX5_takePart 36 = .ok (.iload_n 1, 1) := by decide +kernel
theorem dX5_takePart_37 : decode cX5_takePart 37 = .ok (.aload_n 0, 1) := by decide +kernel
theorem dX5_takePart_38 : decode cX5_takePart 38 = .ok (.invokevirtual 50, 3) := by decide +kernel
theorem dX5_takePart_41 : decode cX5_takePart 41 = .ok (.iastore, 1) := by decide +kernel
theorem dX5_takePart_42 : decode cX5_takePart 42 = .ok (.iconst 1, 1) := by decide +kernel
theorem dX5_takePart_43 : decode cX5_takePart 43 = .ok (.ireturn, 1) := by decide +kernel
theorem dX5_takeAmount_0 : decode cX5_takeAmount 0 = .ok (.aload_n 0, 1) := by decide +kernel
theorem dX5_takeAmount_1 : decode cX5_takeAmount 1 = .ok (.invokevirtual 43, 3) := by decide +kernel
theorem dX5_takeAmount_4 : decode cX5_takeAmount 4 = .ok (.istore_n 1, 1) := by decide +kernel
theorem dX5_takeAmount_5 : decode cX5_takeAmount 5 = .ok (.iload_n 1, 1) := by decide +kernel
theorem dX5_takeAmount_6 : decode cX5_takeAmount 6 = .ok (.ifCond .ne 7, 3) := by decide +kernel
theorem dX5_takeAmount_9 : decode cX5_takeAmount 9 = .ok (.iconst 1, 1) := by decide +kernel
theorem dX5_takeAmount_10 : decode cX5_takeAmount 10 = .ok (.goto 4, 3) := by decide +kernel
theorem dX5_takeAmount_13 : decode cX5_takeAmount 13 = .ok (.iconst 4, 1) := by decide +kernel
theorem dX5_takeAmount_14 : decode cX5_takeAmount 14 = .ok (.istore_n 2, 1) := by decide +kernel
theorem dX5_takeAmount_15 : decode cX5_takeAmount 15 = .ok (.iconst 1, 1) := by decide +kernel
theorem dX5_takeAmount_16 : decode cX5_takeAmount 16 = .ok (.istore_n 3, 1) := by decide +kernel
theorem dX5_takeAmount_17 : decode cX5_takeAmount 17 = .ok (.iload_n 3, 1) := by decide +kernel
theorem dX5_takeAmount_18 : decode cX5_takeAmount 18 = .ok (.iload_n 2, 1) := by decide +kernel
theorem dX5_takeAmount_19 : decode cX5_takeAmount 19 = .ok (.if_icmp .ge 26, 3) := by decide +kernel
theorem dX5_takeAmount_22 : decode cX5_takeAmount 22 = .ok (.aload_n 0, 1) := by decide +kernel
theorem dX5_takeAmount_23 : decode cX5_takeAmount 23 = .ok (.invokevirtual 40, 3) := by decide +kernel
theorem dX5_takeAmount_26 : decode cX5_takeAmount 26 = .ok (.ifCond .eq 19, 3) := by decide +kernel
theorem dX5_takeAmount_29 : decode cX5_takeAmount 29 = .ok (.iload_n 1, 1) := by decide +kernel
theorem dX5_takeAmount_30 : decode cX5_takeAmount 30 = .ok (.bipush 10, 2) := by decide +kernel
theorem dX5_takeAmount_32 : decode cX5_takeAmount 32 = .ok (.imul, 1) := by decide +kernel
theorem dX5_takeAmount_33 : decode cX5_takeAmount 33 = .ok (.aload_n 0, 1) := by decide +kernel
theorem dX5_takeAmount_34 : decode cX5_takeAmount 34 = .ok (.invokevirtual 43, 3) := by decide +kernel
theorem dX5_takeAmount_37 : decode cX5_takeAmount 37 = .ok (.iadd, 1) := by decide +kernel
theorem dX5_takeAmount_38 : decode cX5_takeAmount 38 = .ok (.istore_n 1, 1) := by decide +kernel
theorem dX5_takeAmount_39 : decode cX5_takeAmount 39 = .ok (.iinc 3 1, 3) := by decide +kernel
theorem dX5_takeAmount_42 : decode cX5_takeAmount 42 = .ok (.goto (-25), 3) := by decide +kernel
theorem dX5_takeAmount_45 : decode cX5_takeAmount 45 = .ok (.iload_n 1, 1) := by decide +kernel
theorem dX5_takeAmount_46 : decode cX5_takeAmount 46 = .ok (.ireturn, 1) := by decide +kernel
theorem dX5_takeSign_0 : decode cX5_takeSign 0 = .ok (.aload_n 0, 1) := by decide +kernel
theorem dX5_takeSign_1 : decode cX5_takeSign 1 = .ok (.getfield 19, 3) := by decide +kernel
theorem dX5_takeSign_4 : decode cX5_takeSign 4 = .ok (.aload_n 0, 1) := by decide +kernel
theorem dX5_takeSign_5 : decode cX5_takeSign 5 = .ok (.getfield 15, 3) := by decide +kernel
theorem dX5_takeSign_8 : decode cX5_takeSign 8 = .ok (.if_icmp .ge 16, 3) := by decide +kernel
theorem dX5_takeSign_11 : decode cX5_takeSign 11 = .ok (.aload_n 0, 1) := by decide +kernel
theorem dX5_takeSign_12 : decode cX5_takeSign 12 = .ok (.getfield 9, 3) := by decide +kernel
theorem dX5_takeSign_15 : decode cX5_takeSign 15 = .ok (.aload_n 0, 1) := by decide +kernel
theorem dX5_takeSign_16 : decode cX5_takeSign 16 = .ok (.getfield 19, 3) := by decide +kernel
theorem dX5_takeSign_19 : decode cX5_takeSign 19 = .ok (.caload, 1) := by decide +kernel
theorem dX5_takeSign_20 : decode cX5_takeSign 20 = .ok (.iload_n 1, 1) := by decide +kernel
theorem dX5_takeSign_21 : decode cX5_takeSign 21 = .ok (.if_icmp .eq 5, 3) := by decide +kernel
theorem dX5_takeSign_24 : decode cX5_takeSign 24 = .ok (.iconst 0, 1) := by decide +kernel
theorem dX5_takeSign_25 : decode cX5_takeSign 25 = .ok (.ireturn, 1) := by decide +kernel
theorem dX5_takeSign_26 : decode cX5_takeSign 26 = .ok (.aload_n 0, 1) := by decide +kernel
theorem dX5_takeSign_27 : decode cX5_takeSign 27 = .ok (.dup, 1) := by decide +kernel
theorem dX5_takeSign_28 : decode cX5_takeSign 28 = .ok (.getfield 19, 3) := by decide +kernel
theorem dX5_takeSign_31 : decode cX5_takeSign 31 = .ok (.iconst 1, 1) := by decide +kernel
theorem dX5_takeSign_32 : decode cX5_takeSign 32 = .ok (.iadd, 1) := by decide +kernel
theorem dX5_takeSign_33 : decode cX5_takeSign 33 = .ok (.putfield 19, 3) := by decide +kernel
theorem dX5_takeSign_36 : decode cX5_takeSign 36 = .ok (.iconst 1, 1) := by decide +kernel
theorem dX5_takeSign_37 : decode cX5_takeSign 37 = .ok (.ireturn, 1) := by decide +kernel
theorem dX5_isAtDigit_0 : decode cX5_isAtDigit 0 = .ok (.aload_n 0, 1) := by decide +kernel
theorem dX5_isAtDigit_1 : decode cX5_isAtDigit 1 = .ok (.getfield 19, 3) := by decide +kernel
theorem dX5_isAtDigit_4 : decode cX5_isAtDigit 4 = .ok (.aload_n 0, 1) := by decide +kernel
theorem dX5_isAtDigit_5 : decode cX5_isAtDigit 5 = .ok (.getfield 15, 3) := by decide +kernel
theorem dX5_isAtDigit_8 : decode cX5_isAtDigit 8 = .ok (.if_icmp .ge 35, 3) := by decide +kernel
theorem dX5_isAtDigit_11 : decode cX5_isAtDigit 11 = .ok (.aload_n 0, 1) := by decide +kernel
theorem dX5_isAtDigit_12 : decode cX5_isAtDigit 12 = .ok (.getfield 9, 3) := by decide +kernel
theorem dX5_isAtDigit_15 : decode cX5_isAtDigit 15 = .ok (.aload_n 0, 1) := by decide +kernel
theorem dX5_isAtDigit_16 : decode cX5_isAtDigit 16 = .ok (.getfield 19, 3) := by decide +kernel
theorem dX5_isAtDigit_19 : decode cX5_isAtDigit 19 = .ok (.caload, 1) := by decide +kernel
theorem dX5_isAtDigit_20 : decode cX5_isAtDigit 20 = .ok (.bipush 48, 2) := by decide +kernel
theorem dX5_isAtDigit_22 : decode cX5_isAtDigit 22 = .ok (.if_icmp .lt 21, 3) := by decide +kernel
theorem dX5_isAtDigit_25 : decode cX5_isAtDigit 25 = .ok (.aload_n 0, 1) := by decide +kernel
theorem dX5_isAtDigit_26 : decode cX5_isAtDigit 26 = .ok (.getfield 9, 3) := by decide +kernel
theorem dX5_isAtDigit_29 : decode cX5_isAtDigit 29 = .ok (.aload_n 0, 1) := by decide +kernel
theorem dX5_isAtDigit_30 : decode cX5_isAtDigit 30 = .ok (.getfield 19, 3) := by decide +kernel
theorem dX5_isAtDigit_33 : decode cX5_isAtDigit 33 = .ok (.caload, 1) := by decide +kernel
theorem dX5_isAtDigit_34 : decode cX5_isAtDigit 34 = .ok (.bipush 57, 2) := by decide +kernel
theorem dX5_isAtDigit_36 : decode cX5_isAtDigit 36 = .ok (.if_icmp .gt 7, 3) := by decide +kernel
theorem dX5_isAtDigit_39 : decode cX5_isAtDigit 39 = .ok (.iconst 1, 1) := by decide +kernel
theorem dX5_isAtDigit_40 : decode cX5_isAtDigit 40 = .ok (.goto 4, 3) := by decide +kernel
theorem dX5_isAtDigit_43 : decode cX5_isAtDigit 43 = .ok (.iconst 0, 1) := by decide +kernel
theorem dX5_isAtDigit_44 : decode cX5_isAtDigit 44 = .ok (.ireturn, 1) := by decide +kernel
theorem dX5_takeDigit_0 : decode cX5_takeDigit 0 = .ok (.aload_n 0, 1) := by decide +kernel
theorem dX5_takeDigit_1 : decode cX5_takeDigit 1 = .ok (.getfield 9, 3) := by decide +kernel
theorem dX5_takeDigit_4 : decode cX5_takeDigit 4 = .ok (.aload_n 0, 1) := by decide +kernel
theorem dX5_takeDigit_5 : decode cX5_takeDigit 5 = .ok (.getfield 19, 3) := by decide +kernel
theorem dX5_takeDigit_8 : decode cX5_takeDigit 8 = .ok (.caload, 1) := by decide +kernel
theorem dX5_takeDigit_9 : decode cX5_takeDigit 9 = .ok (.bipush 48, 2) := by decide +kernel
theorem dX5_takeDigit_11 : decode cX5_takeDigit 11 = .ok (.isub, 1) := by decide +kernel
theorem dX5_takeDigit_12 : decode cX5_takeDigit 12 = .ok (.istore_n 1, 1) := by decide +kernel
theorem dX5_takeDigit_13 : decode cX5_takeDigit 13 = .ok (.aload_n 0, 1) := by decide +kernel
theorem dX5_takeDigit_14 : decode cX5_takeDigit 14 = .ok (.dup, 1) := by decide +kernel
theorem dX5_takeDigit_15 : decode cX5_takeDigit 15 = .ok (.getfield 19, 3) := by decide +kernel
theorem dX5_takeDigit_18 : decode cX5_takeDigit 18 = .ok (.iconst 1, 1) := by decide +kernel
theorem dX5_takeDigit_19 : decode cX5_takeDigit 19 = .ok (.iadd, 1) := by decide +kernel
theorem dX5_takeDigit_20 : decode cX5_takeDigit 20 = .ok (.putfield 19, 3) := by decide +kernel
theorem dX5_takeDigit_23 : decode cX5_takeDigit 23 = .ok (.iload_n 1, 1) := by decide +kernel
theorem dX5_takeDigit_24 : decode cX5_takeDigit 24 = .ok (.ireturn, 1) := by decide +kernel
theorem dX6_init_0 : decode cX6_init 0 = .ok (.aload_n 0, 1) := by decide +kernel
theorem dX6_init_1 : decode cX6_init 1 = .ok (.invokespecial 3, 3) := by decide +kernel
theorem dX6_init_4 : decode cX6_init 4 = .ok (.aload_n 0, 1) := by decide +kernel
theorem dX6_init_5 : decode cX6_init 5 = .ok (.bipush 8, 2) := by decide +kernel
theorem dX6_init_7 : decode cX6_init 7 = .ok (.anewarray 9, 3) := by decide +kernel
theorem dX6_init_10 : decode cX6_init 10 = .ok (.putfield 11, 3) := by decide +kernel
theorem dX6_init_13 : decode cX6_init 13 = .ok (.aload_n 0, 1) := by decide +kernel
theorem dX6_init_14 : decode cX6_init 14 = .ok (.iconst 0, 1) := by decide +kernel
theorem dX6_init_15 : decode cX6_init 15 = .ok (.putfield 17, 3) := by decide +kernel
theorem dX6_init_18 : decode cX6_init 18 = .ok (.aload_n 0, 1) := by decide +kernel
theorem dX6_init_19 : decode cX6_init 19 = .ok (.iconst 0, 1) := by decide +kernel
theorem dX6_init_20 : decode cX6_init 20 = .ok (.putfield 21, 3) := by decide +kernel
theorem dX6_init_23 : decode cX6_init 23 = .ok (.iconst 0, 1) := by decide +kernel
theorem dX6_init_24 : decode cX6_init 24 = .ok (.istore_n 1, 1) := by decide +kernel
theorem dX6_init_25 : decode cX6_init 25 = .ok (.iload_n 1, 1) := by decide +kernel
theorem dX6_init_26 : decode cX6_init 26 = .ok (.bipush 8, 2) := by decide +kernel
theorem dX6_init_28 : decode cX6_init 28 = .ok (.if_icmp .ge 22, 3) := by decide +kernel
theorem dX6_init_31 : decode cX6_init 31 = .ok (.aload_n 0, 1) := by decide +kernel
theorem dX6_init_32 : decode cX6_init 32 = .ok (.getfield 11, 3) := by decide +kernel
theorem dX6_init_35 : decode cX6_init 35 = .ok (.iload_n 1, 1) := by decide +kernel
theorem dX6_init_36 : decode cX6_init 36 = .ok (.new 9, 3) := by decide +kernel
theorem dX6_init_39 : decode cX6_init 39 = .ok (.dup, 1) := by decide +kernel
theorem dX6_init_40 : decode cX6_init 40 = .ok (.invokespecial 24, 3) := by decide +kernel
theorem dX6_init_43 : decode cX6_init 43 = .ok (.aastore, 1) := by decide +kernel
theorem dX6_init_44 : decode cX6_init 44 = .ok (.iinc 1 1, 3) := by decide +kernel
theorem dX6_init_47 : decode cX6_init 47 = .ok (.goto (-22), 3) := by decide +kernel
theorem dX6_init_50 : decode cX6_init 50 = .ok (.return_, 1) := by decide +kernel
theorem dX6_keep_0 : decode cX6_keep 0 = .ok (.aload_n 0, 1) := by decide +kernel
theorem dX6_keep_1 : decode cX6_keep 1 = .ok (.getfield 11, 3) := by decide +kernel
theorem dX6_keep_4 : decode cX6_keep 4 = .ok (.aload_n 0, 1) := by decide +kernel
theorem dX6_keep_5 : decode cX6_keep 5 = .ok (.getfield 21, 3) := by decide +kernel
theorem dX6_keep_8 : decode cX6_keep 8 = .ok (.aaload, 1) := by decide +kernel
theorem dX6_keep_9 : decode cX6_keep 9 = .ok (.aload_n 1, 1) := by decide +kernel
theorem dX6_keep_10 : decode cX6_keep 10 = .ok (.invokevirtual 25, 3) := by decide +kernel
theorem dX6_keep_13 : decode cX6_keep 13 = .ok (.aload_n 0, 1) := by decide +kernel
theorem dX6_keep_14 : decode cX6_keep 14 = .ok (.aload_n 0, 1) := by decide +kernel
theorem dX6_keep_15 : decode cX6_keep 15 = .ok (.getfield 21, 3) := by decide +kernel
theorem dX6_keep_18 : decode cX6_keep 18 = .ok (.iconst 1, 1) := by decide +kernel
theorem dX6_keep_19 : decode cX6_keep 19 = .ok (.iadd, 1) := by decide +kernel
theorem dX6_keep_20 : decode cX6_keep 20 = .ok (.bipush 8, 2) := by decide +kernel
theorem dX6_keep_22 : decode cX6_keep 22 = .ok (.irem, 1) := by decide +kernel
theorem dX6_keep_23 : decode cX6_keep 23 = .ok (.putfield 21, 3) := by decide +kernel
theorem dX6_keep_26 : decode cX6_keep 26 = .ok (.aload_n 0, 1) := by decide +kernel
theorem dX6_keep_27 : decode cX6_keep 27 = .ok (.aload_n 0, 1) := by decide +kernel
theorem dX6_keep_28 : decode cX6_keep 28 = .ok (.getfield 17, 3) := by decide +kernel
theorem dX6_keep_31 : decode cX6_keep 31 = .ok (.iconst 1, 1) := by decide +kernel
theorem dX6_keep_32 : decode cX6_keep 32 = .ok (.iadd, 1) := by decide +kernel
theorem dX6_keep_33 : decode cX6_keep 33 = .ok (.bipush 8, 2) := by decide +kernel
theorem dX6_keep_35 : decode cX6_keep 35 = .ok (.invokestatic 29, 3) := by decide +kernel
theorem dX6_keep_38 : decode cX6_keep 38 = .ok (.putfield 17, 3) := by decide +kernel
theorem dX6_keep_41 : decode cX6_keep 41 = .ok (.return_, 1) := by decide +kernel
theorem dX6_giveBack_0 : decode cX6_giveBack 0 = .ok (.aload_n 0, 1) := by decide +kernel
theorem dX6_giveBack_1 : decode cX6_giveBack 1 = .ok (.aload_n 0, 1) := by decide +kernel
theorem dX6_giveBack_2 : decode cX6_giveBack 2 = .ok (.getfield 21, 3) := by decide +kernel
theorem dX6_giveBack_5 : decode cX6_giveBack 5 = .ok (.bipush 8, 2) := by decide +kernel
theorem dX6_giveBack_7 : decode cX6_giveBack 7 = .ok (.iadd, 1) := by decide +kernel
theorem dX6_giveBack_8 : decode cX6_giveBack 8 = .ok (.iconst 1, 1) := by decide +kernel
theorem dX6_giveBack_9 : decode cX6_giveBack 9 = .ok (.isub, 1) := by decide +kernel
theorem dX6_giveBack_10 : decode cX6_giveBack 10 = .ok (.bipush 8, 2) := by decide +kernel
theorem dX6_giveBack_12 : decode cX6_giveBack 12 = .ok (.irem, 1) := by decide +kernel
theorem dX6_giveBack_13 : decode cX6_giveBack 13 = .ok (.putfield 21, 3) := by decide +kernel
theorem dX6_giveBack_16 : decode cX6_giveBack 16 = .ok (.aload_n 0, 1) := by decide +kernel
theorem dX6_giveBack_17 : decode cX6_giveBack 17 = .ok (.dup, 1) := by decide +kernel
theorem dX6_giveBack_18 : decode cX6_giveBack 18 = .ok (.getfield 17, 3) := by decide +kernel
theorem dX6_giveBack_21 : decode cX6_giveBack 21 = .ok (.iconst 1, 1) := by decide +kernel
theorem dX6_giveBack_22 : decode cX6_giveBack 22 = .ok (.isub, 1) := by decide +kernel
theorem dX6_giveBack_23 : decode cX6_giveBack 23 = .ok (.putfield 17, 3) := by decide +kernel
theorem dX6_giveBack_26 : decode cX6_giveBack 26 = .ok (.aload_n 1, 1) := by decide +kernel
theorem dX6_giveBack_27 : decode cX6_giveBack 27 = .ok (.aload_n 0, 1) := by decide +kernel
theorem dX6_giveBack_28 : decode cX6_giveBack 28 = .ok (.getfield 11, 3) := by decide +kernel
theorem dX6_giveBack_31 : decode cX6_giveBack 31 = .ok (.aload_n 0, 1) := by decide +kernel
theorem dX6_giveBack_32 : decode cX6_giveBack 32 = .ok (.getfield 21, 3) := by decide +kernel
theorem dX6_giveBack_35 : decode cX6_giveBack 35 = .ok (.aaload, 1) := by decide +kernel
theorem dX6_giveBack_36 : decode cX6_giveBack 36 = .ok (.invokevirtual 25, 3) := by decide +kernel
theorem dX6_giveBack_39 : decode cX6_giveBack 39 = .ok (.return_, 1) := by decide +kernel
theorem dX6_forget_0 : decode cX6_forget 0 = .ok (.aload_n 0, 1) := by decide +kernel
theorem dX6_forget_1 : decode cX6_forget 1 = .ok (.iconst 0, 1) := by decide +kernel
theorem dX6_forget_2 : decode cX6_forget 2 = .ok (.putfield 17, 3) := by decide +kernel
theorem dX6_forget_5 : decode cX6_forget 5 = .ok (.return_, 1) := by decide +kernel
theorem dX7_init_0 : decode cX7_init 0 = .ok (.aload_n 0, 1) := by decide +kernel
theorem dX7_init_1 : decode cX7_init 1 = .ok (.invokespecial 3, 3) := by decide +kernel
theorem dX7_init_4 : decode cX7_init 4 = .ok (.aload_n 0, 1) := by decide +kernel
theorem dX7_init_5 : decode cX7_init 5 = .ok (.sipush 654, 3) := by decide +kernel
theorem dX7_init_8 : decode cX7_init 8 = .ok (.newarray .char, 2) := by decide +kernel
theorem dX7_init_10 : decode cX7_init 10 = .ok (.putfield 9, 3) := by decide +kernel
theorem dX7_init_13 : decode cX7_init 13 = .ok (.aload_n 0, 1) := by decide +kernel
theorem dX7_init_14 : decode cX7_init 14 = .ok (.iconst 0, 1) := by decide +kernel
theorem dX7_init_15 : decode cX7_init 15 = .ok (.putfield 15, 3) := by decide +kernel
theorem dX7_init_18 : decode cX7_init 18 = .ok (.return_, 1) := by decide +kernel
theorem dX7_write_0 : decode cX7_write 0 = .ok (.aload_n 0, 1) := by decide +kernel
theorem dX7_write_1 : decode cX7_write 1 = .ok (.iconst 0, 1) := by decide +kernel
theorem dX7_write_2 : decode cX7_write 2 = .ok (.putfield 15, 3) := by decide +kernel
theorem dX7_write_5 : decode cX7_write 5 = .ok (.aload_n 0, 1) := by decide +kernel
theorem dX7_write_6 : decode cX7_write 6 = .ok (.bipush 98, 2) := by decide +kernel
theorem dX7_write_8 : decode cX7_write 8 = .ok (.invokevirtual 19, 3) := by decide +kernel
theorem dX7_write_11 : decode cX7_write 11 = .ok (.aload_n 0, 1) := by decide +kernel
theorem dX7_write_12 : decode cX7_write 12 = .ok (.aload_n 1, 1) := by decide +kernel
theorem dX7_write_13 : decode cX7_write 13 = .ok (.getfield 23, 3) := by decide +kernel
theorem dX7_write_16 : decode cX7_write 16 = .ok (.invokevirtual 28, 3) := by decide +kernel
theorem dX7_write_19 : decode cX7_write 19 = .ok (.iconst 0, 1) := by decide +kernel
theorem dX7_write_20 : decode cX7_write 20 = .ok (.istore_n 2, 1) := by decide +kernel
theorem dX7_write_21 : decode cX7_write 21 = .ok (.iload_n 2, 1) := by decide +kernel
theorem dX7_write_22 : decode cX7_write 22 = .ok (.bipush 8, 2) := by decide +kernel
theorem dX7_write_24 : decode cX7_write 24 = .ok (.if_icmp .ge 24, 3) := by decide +kernel
theorem dX7_write_27 : decode cX7_write 27 = .ok (.aload_n 1, 1) := by decide +kernel
theorem dX7_write_28 : decode cX7_write 28 = .ok (.getfield 32, 3) := by decide +kernel
theorem dX7_write_31 : decode cX7_write 31 = .ok (.iload_n 2, 1) := by decide +kernel
theorem dX7_write_32 : decode cX7_write 32 = .ok (.iaload, 1) := by decide +kernel
theorem dX7_write_33 : decode cX7_write 33 = .ok (.ifCond .le 9, 3) := by decide +kernel
theorem dX7_write_36 : decode cX7_write 36 = .ok (.aload_n 0, 1) := by decide +kernel
theorem dX7_write_37 : decode cX7_write 37 = .ok (.aload_n 1, 1) := by decide +kernel
theorem dX7_write_38 : decode cX7_write 38 = .ok (.iload_n 2, 1) := by decide +kernel
theorem dX7_write_39 : decode cX7_write 39 = .ok (.invokevirtual 36, 3) := by decide +kernel
theorem dX7_write_42 : decode cX7_write 42 = .ok (.iinc 2 1, 3) := by decide +kernel
theorem dX7_write_45 : decode cX7_write 45 = .ok (.goto (-24), 3) := by decide +kernel
theorem dX7_write_48 : decode cX7_write 48 = .ok (.aload_n 1, 1) := by decide +kernel
theorem dX7_write_49 : decode cX7_write 49 = .ok (.getfield 40, 3) := by decide +kernel
theorem dX7_write_52 : decode cX7_write 52 = .ok (.ifCond .le 17, 3) := by decide +kernel
theorem dX7_write_55 : decode cX7_write 55 = .ok (.aload_n 0, 1) := by decide +kernel
theorem dX7_write_56 : decode cX7_write 56 = .ok (.bipush 43, 2) := by decide +kernel
theorem dX7_write_58 : decode cX7_write 58 = .ok (.invokevirtual 19, 3) := by decide +kernel
theorem dX7_write_61 : decode cX7_write 61 = .ok (.aload_n 0, 1) := by decide +kernel
theorem dX7_write_62 : decode cX7_write 62 = .ok (.aload_n 1, 1) := by decide +kernel
theorem dX7_write_63 : decode cX7_write 63 = .ok (.getfield 43, 3) := by decide +kernel
theorem dX7_write_66 : decode cX7_write 66 = .ok (.invokevirtual 28, 3) := by decide +kernel
theorem dX7_write_69 : decode cX7_write 69 = .ok (.return_, 1) := by decide +kernel
theorem dX7_putColorant_0 : decode cX7_putColorant 0 = .ok (.aload_n 0, 1) := by decide +kernel
theorem dX7_putColorant_1 : decode cX7_putColorant 1 = .ok (.bipush 44, 2) := by decide +kernel
theorem dX7_putColorant_3 : decode cX7_putColorant 3 = .ok (.invokevirtual 19, 3) := by decide +kernel
theorem dX7_putColorant_6 : decode cX7_putColorant 6 = .ok (.aload_n 0, 1) := by decide +kernel
theorem dX7_putColorant_7 : decode cX7_putColorant 7 = .ok (.iload_n 2, 1) := by decide +kernel
theorem dX7_putColorant_8 : decode cX7_putColorant 8 = .ok (.invokevirtual 28, 3) := by decide +kernel
theorem dX7_putColorant_11 : decode cX7_putColorant 11 = .ok (.aload_n 0, 1) := by decide +kernel
theorem dX7_putColorant_12 : decode cX7_putColorant 12 = .ok (.bipush 61, 2) := by decide +kernel
theorem dX7_putColorant_14 : decode cX7_putColorant 14 = .ok (.invokevirtual 19, 3) := by decide +kernel
theorem dX7_putColorant_17 : decode cX7_putColorant 17 = .ok (.aload_n 0, 1) := by decide +kernel
theorem dX7_putColorant_18 : decode cX7_putColorant 18 = .ok (.aload_n 1, 1) := by decide +kernel
theorem dX7_putColorant_19 : decode cX7_putColorant 19 = .ok (.getfield 32, 3) := by decide +kernel
theorem dX7_putColorant_22 : decode cX7_putColorant 22 = .ok (.iload_n 2, 1) := by decide +kernel
theorem dX7_putColorant_23 : decode cX7_putColorant 23 = .ok (.iaload, 1) := by decide +kernel
theorem dX7_putColorant_24 : decode cX7_putColorant 24 = .ok (.invokevirtual 28, 3) := by decide +kernel
theorem dX7_putColorant_27 : decode cX7_putColorant 27 = .ok (.iconst 0, 1) := by decide +kernel
theorem dX7_putColorant_28 : decode cX7_putColorant 28 = .ok (.istore_n 3, 1) := by decide +kernel
theorem dX7_putColorant_29 : decode cX7_putColorant 29 = .ok (.iload_n 3, 1) := by decide +kernel
theorem dX7_putColorant_30 : decode cX7_putColorant 30 = .ok (.bipush 99, 2) := by decide +kernel
theorem dX7_putColorant_32 : decode cX7_putColorant 32 = .ok (.if_icmp .gt 29, 3) := by decide +kernel
theorem dX7_putColorant_35 : decode cX7_putColorant 35 = .ok (.aload_n 1, 1) := by decide +kernel
theorem dX7_putColorant_36 : decode cX7_putColorant 36 = .ok (.iload_n 2, 1) := by decide +kernel
theorem dX7_putColorant_37 : decode cX7_putColorant 37 = .ok (.iload_n 3, 1) := by decide +kernel
theorem dX7_putColorant_38 : decode cX7_putColorant 38 = .ok (.invokevirtual 46, 3) := by decide +kernel
theorem dX7_putColorant_41 : decode cX7_putColorant 41 = .ok (.ifCond .eq 14, 3) := by decide +kernel
theorem dX7_putColorant_44 : decode cX7_putColorant 44 = .ok (.aload_n 0, 1) := by decide +kernel
theorem dX7_putColorant_45 : decode cX7_putColorant 45 = .ok (.bipush 58, 2) := by decide +kernel
theorem dX7_putColorant_47 : decode cX7_putColorant 47 = .ok (.invokevirtual 19, 3) := by decide +kernel
theorem dX7_putColorant_50 : decode cX7_putColorant 50 = .ok (.aload_n 0, 1) := by decide +kernel
theorem dX7_putColorant_51 : decode cX7_putColorant 51 = .ok (.iload_n 3, 1) := by decide +kernel
theorem dX7_putColorant_52 : decode cX7_putColorant 52 = .ok (.invokevirtual 28, 3) := by decide +kernel
theorem dX7_putColorant_55 : decode cX7_putColorant 55 = .ok (.iinc 3 1, 3) := by decide +kernel
theorem dX7_putColorant_58 : decode cX7_putColorant 58 = .ok (.goto (-29), 3) := by decide +kernel
theorem dX7_putColorant_61 : decode cX7_putColorant 61 = .ok (.return_, 1) := by decide +kernel
theorem dX7_putNumber_0 : decode cX7_putNumber 0 = .ok (.bipush 100, 2) := by decide +kernel
theorem dX7_putNumber_2 : decode cX7_putNumber 2 = .ok (.istore_n 2, 1) := by decide +kernel
theorem dX7_putNumber_3 : decode cX7_putNumber 3 = .ok (.iload_n 2, 1) := by decide +kernel
theorem dX7_putNumber_4 : decode cX7_putNumber 4 = .ok (.iconst 1, 1) := by decide +kernel
theorem dX7_putNumber_5 : decode cX7_putNumber 5 = .ok (.if_icmp .lt 35, 3) := by decide +kernel
theorem dX7_putNumber_8 : decode cX7_putNumber 8 = .ok (.iload_n 1, 1) := by decide +kernel
theorem dX7_putNumber_9 : decode cX7_putNumber 9 = .ok (.iload_n 2, 1) := by decide +kernel
theorem dX7_putNumber_10 : decode cX7_putNumber 10 = .ok (.if_icmp .ge 8, 3) := by decide +kernel
theorem dX7_putNumber_13 : decode cX7_putNumber 13 = .ok (.iload_n 2, 1) := by decide +kernel
theorem dX7_putNumber_14 : decode cX7_putNumber 14 = .ok (.iconst 1, 1) := by decide +kernel
theorem dX7_putNumber_15 : decode cX7_putNumber 15 = .ok (.if_icmp .ne 17, 3) := by decide +kernel
theorem dX7_putNumber_18 : decode cX7_putNumber 18 = .ok (.aload_n 0, 1) := by decide +kernel
theorem dX7_putNumber_19 : decode cX7_putNumber 19 = .ok (.bipush 48, 2) := by decide +kernel
theorem dX7_putNumber_21 : decode cX7_putNumber 21 = .ok (.iload_n 1, 1) := by decide +kernel
theorem dX7_putNumber_22 : decode cX7_putNumber 22 = .ok (.iload_n 2, 1) := by decide +kernel
theorem dX7_putNumber_23 : decode cX7_putNumber 23 = .ok (.idiv, 1) := by decide +kernel
theorem dX7_putNumber_24 : decode cX7_putNumber 24 = .ok (.bipush 10, 2) := by decide +kernel
theorem dX7_putNumber_26 : decode cX7_putNumber 26 = .ok (.irem, 1) := by decide +kernel
theorem dX7_putNumber_27 : decode cX7_putNumber 27 = .ok (.iadd, 1) := by decide +kernel
theorem dX7_putNumber_28 : decode cX7_putNumber 28 = .ok (.i2c, 1) := by decide +kernel
theorem dX7_putNumber_29 : decode cX7_putNumber 29 = .ok (.invokevirtual 19, 3) := by decide +kernel
theorem dX7_putNumber_32 : decode cX7_putNumber 32 = .ok (.iload_n 2, 1) := by decide +kernel
theorem dX7_putNumber_33 : decode cX7_putNumber 33 = .ok (.bipush 10, 2) := by decide +kernel
theorem dX7_putNumber_35 : decode cX7_putNumber 35 = .ok (.idiv, 1) := by decide +kernel
theorem dX7_putNumber_36 : decode cX7_putNumber 36 = .ok (.istore_n 2, 1) := by decide +kernel
theorem dX7_putNumber_37 : decode cX7_putNumber 37 = .ok (.goto (-34), 3) := by decide +kernel
theorem dX7_putNumber_40 : decode cX7_putNumber 40 = .ok (.return_, 1) := by decide +kernel
theorem dX7_put_0 : decode cX7_put 0 = .ok (.aload_n 0, 1) := by decide +kernel
theorem dX7_put_1 : decode cX7_put 1 = .ok (.getfield 15, 3) := by decide +kernel
theorem dX7_put_4 : decode cX7_put 4 = .ok (.sipush 654, 3) := by decide +kernel
theorem dX7_put_7 : decode cX7_put 7 = .ok (.if_icmp .ge 23, 3) := by decide +kernel
theorem dX7_put_10 : decode cX7_put 10 = .ok (.aload_n 0, 1) := by decide +kernel
theorem dX7_put_11 : decode cX7_put 11 = .ok (.getfield 9, 3) := by decide +kernel
theorem dX7_put_14 : decode cX7_put 14 = .ok (.aload_n 0, 1) := by decide +kernel
theorem dX7_put_15 : decode cX7_put 15 = .ok (.getfield 15, 3) := by decide +kernel
theorem dX7_put_18 : decode cX7_put 18 = .ok (.iload_n 1, 1) := by decide +kernel
theorem dX7_put_19 : decode cX7_put 19 = .ok (.castore, 1) := by decide +kernel
theorem dX7_put_20 : decode cX7_put 20 = .ok (.aload_n 0, 1) := by decide +kernel
theorem dX7_put_21 : decode cX7_put 21 = .ok (.dup, 1) := by decide +kernel
theorem dX7_put_22 : decode cX7_put 22 = .ok (.getfield 15, 3) := by decide +kernel
theorem dX7_put_25 : decode cX7_put 25 = .ok (.iconst 1, 1) := by decide +kernel
theorem dX7_put_26 : decode cX7_put 26 = .ok (.iadd, 1) := by decide +kernel
theorem dX7_put_27 : decode cX7_put 27 = .ok (.putfield 15, 3) := by decide +kernel
theorem dX7_put_30 : decode cX7_put 30 = .ok (.return_, 1) := by decide +kernel
theorem dX8_init_0 : decode cX8_init 0 = .ok (.aload_n 0, 1) := by decide +kernel
theorem dX8_init_1 : decode cX8_init 1 = .ok (.invokespecial 3, 3) := by decide +kernel
theorem dX8_init_4 : decode cX8_init 4 = .ok (.aload_n 0, 1) := by decide +kernel
theorem dX8_init_5 : decode cX8_init 5 = .ok (.iconst 3, 1) := by decide +kernel
theorem dX8_init_6 : decode cX8_init 6 = .ok (.newarray .long, 2) := by decide +kernel
theorem dX8_init_8 : decode cX8_init 8 = .ok (.putfield 9, 3) := by decide +kernel
theorem dX8_init_11 : decode cX8_init 11 = .ok (.aload_n 0, 1) := by decide +kernel
theorem dX8_init_12 : decode cX8_init 12 = .ok (.iconst 0, 1) := by decide +kernel
theorem dX8_init_13 : decode cX8_init 13 = .ok (.putfield 15, 3) := by decide +kernel
theorem dX8_init_16 : decode cX8_init 16 = .ok (.aload_n 0, 1) := by decide +kernel
theorem dX8_init_17 : decode cX8_init 17 = .ok (.iconst 0, 1) := by decide +kernel
theorem dX8_init_18 : decode cX8_init 18 = .ok (.putfield 19, 3) := by decide +kernel
theorem dX8_init_21 : decode cX8_init 21 = .ok (.aload_n 0, 1) := by decide +kernel
theorem dX8_init_22 : decode cX8_init 22 = .ok (.bipush 8, 2) := by decide +kernel
theorem dX8_init_24 : decode cX8_init 24 = .ok (.newarray .int, 2) := by decide +kernel
theorem dX8_init_26 : decode cX8_init 26 = .ok (.putfield 22, 3) := by decide +kernel
theorem dX8_init_29 : decode cX8_init 29 = .ok (.return_, 1) := by decide +kernel
theorem dX8_succeeds_0 : decode cX8_succeeds 0 = .ok (.iconst 0, 1) := by decide +kernel
theorem dX8_succeeds_1 : decode cX8_succeeds 1 = .ok (.istore_n 3, 1) := by decide +kernel
theorem dX8_succeeds_2 : decode cX8_succeeds 2 = .ok (.iload_n 3, 1) := by decide +kernel
theorem dX8_succeeds_3 : decode cX8_succeeds 3 = .ok (.bipush 8, 2) := by decide +kernel
theorem dX8_succeeds_5 : decode cX8_succeeds 5 = .ok (.if_icmp .ge 16, 3) := by decide +kernel
theorem dX8_succeeds_8 : decode cX8_succeeds 8 = .ok (.aload_n 0, 1) := by decide +kernel
theorem dX8_succeeds_9 : decode cX8_succeeds 9 = .ok (.getfield 22, 3) := by decide +kernel
theorem dX8_succeeds_12 : decode cX8_succeeds 12 = .ok (.iload_n 3, 1) := by decide +kernel
theorem dX8_succeeds_13 : decode cX8_succeeds 13 = .ok (.iconst 0, 1) := by decide +kernel
theorem dX8_succeeds_14 : decode cX8_succeeds 14 = .ok (.iastore, 1) := by decide +kernel
theorem dX8_succeeds_15 : decode cX8_succeeds 15 = .ok (.iinc 3 1, 3) := by decide +kernel
theorem dX8_succeeds_18 : decode cX8_succeeds 18 = .ok (.goto (-16), 3) := by decide +kernel
theorem dX8_succeeds_21 : decode cX8_succeeds 21 = .ok (.iload_n 2, 1) := by decide +kernel
theorem dX8_succeeds_22 : decode cX8_succeeds 22 = .ok (.bipush 6, 2) := by decide +kernel
theorem dX8_succeeds_24 : decode cX8_succeeds 24 = .ok (.invokestatic 26, 3) := by decide +kernel
theorem dX8_succeeds_27 : decode cX8_succeeds 27 = .ok (.istore_n 3, 1) := by decide +kernel
theorem dX8_succeeds_28 : decode cX8_succeeds 28 = .ok (.iconst 0, 1) := by decide +kernel
theorem dX8_succeeds_29 : decode cX8_succeeds 29 = .ok (.istore 4, 2) := by decide +kernel
theorem dX8_succeeds_31 : decode cX8_succeeds 31 = .ok (.iload 4, 2) := by decide +kernel
theorem dX8_succeeds_33 : decode cX8_succeeds 33 = .ok (.iload_n 3, 1) := by decide +kernel
theorem dX8_succeeds_34 : decode cX8_succeeds 34 = .ok (.if_icmp .gt 28, 3) := by decide +kernel
theorem dX8_succeeds_37 : decode cX8_succeeds 37 = .ok (.aload_n 0, 1) := by decide +kernel
theorem dX8_succeeds_38 : decode cX8_succeeds 38 = .ok (.aload_n 1, 1) := by decide +kernel
theorem dX8_succeeds_39 : decode cX8_succeeds 39 = .ok (.iconst 0, 1) := by decide +kernel
theorem dX8_succeeds_40 : decode cX8_succeeds 40 = .ok (.iload 4, 2) := by decide +kernel
theorem dX8_succeeds_42 : decode cX8_succeeds 42 = .ok (.invokestatic 32, 3) := by decide +kernel
theorem dX8_succeeds_45 : decode cX8_succeeds 45 = .ok (.ifCond .eq 11, 3) := by decide +kernel
theorem dX8_succeeds_48 : decode cX8_succeeds 48 = .ok (.aload_n 0, 1) := by decide +kernel
theorem dX8_succeeds_49 : decode cX8_succeeds 49 = .ok (.iload 4, 2) := by decide +kernel
theorem dX8_succeeds_51 : decode cX8_succeeds 51 = .ok (.putfield 19, 3) := by decide +kernel
theorem dX8_succeeds_54 : decode cX8_succeeds 54 = .ok (.iconst 1, 1) := by decide +kernel
theorem dX8_succeeds_55 : decode cX8_succeeds 55 = .ok (.ireturn, 1) := by decide +kernel
theorem dX8_succeeds_56 : decode cX8_succeeds 56 = .ok (.iinc 4 1, 3) := by decide +kernel
theorem dX8_succeeds_59 : decode cX8_succeeds 59 = .ok (.goto (-28), 3) := by decide +kernel
theorem dX8_succeeds_62 : decode cX8_succeeds 62 = .ok (.iconst 0, 1) := by decide +kernel
theorem dX8_succeeds_63 : decode cX8_succeeds 63 = .ok (.ireturn, 1) := by decide +kernel
theorem dX8_reaches_0 : decode cX8_reaches 0 = .ok (.aload_n 0, 1) := by decide +kernel
theorem dX8_reaches_1 : decode cX8_reaches 1 = .ok (.iload_n 3, 1) := by decide +kernel
theorem dX8_reaches_2 : decode cX8_reaches 2 = .ok (.invokevirtual 36, 3) := by decide +kernel
theorem dX8_reaches_5 : decode cX8_reaches 5 = .ok (.ifCond .ne 5, 3) := by decide +kernel
theorem dX8_reaches_8 : decode cX8_reaches 8 = .ok (.iconst 0, 1) := by decide +kernel
theorem dX8_reaches_9 : decode cX8_reaches 9 = .ok (.ireturn, 1) := by decide +kernel
theorem dX8_reaches_10 : decode cX8_reaches 10 = .ok (.iload_n 3, 1) := by decide +kernel
theorem dX8_reaches_11 : decode cX8_reaches 11 = .ok (.ifCond .ne 5, 3) := by decide +kernel
theorem dX8_reaches_14 : decode cX8_reaches 14 = .ok (.iconst 1, 1) := by decide +kernel
theorem dX8_reaches_15 : decode cX8_reaches 15 = .ok (.ireturn, 1) := by decide +kernel
theorem dX8_reaches_16 : decode cX8_reaches 16 = .ok (.iload_n 2, 1) := by decide +kernel
theorem dX8_reaches_17 : decode cX8_reaches 17 = .ok (.aload_n 1, 1) := by decide +kernel
theorem dX8_reaches_18 : decode cX8_reaches 18 = .ok (.getfield 40, 3) := by decide +kernel
theorem dX8_reaches_21 : decode cX8_reaches 21 = .ok (.if_icmp .lt 5, 3) := by decide +kernel
theorem dX8_reaches_24 : decode cX8_reaches 24 = .ok (.iconst 0, 1) := by decide +kernel
theorem dX8_reaches_25 : decode cX8_reaches 25 = .ok (.ireturn, 1) := by decide +kernel
theorem dX8_reaches_26 : decode cX8_reaches 26 = .ok (.aload_n 1, 1) := by decide +kernel
theorem dX8_reaches_27 : decode cX8_reaches 27 = .ok (.getfield 45, 3) := by decide +kernel
theorem dX8_reaches_30 : decode cX8_reaches 30 = .ok (.iload_n 2, 1) := by decide +kernel
theorem dX8_reaches_31 : decode cX8_reaches 31 = .ok (.aaload, 1) := by decide +kernel
theorem dX8_reaches_32 : decode cX8_reaches 32 = .ok (.astore 4, 2) := by decide +kernel
theorem dX8_reaches_34 : decode cX8_reaches 34 = .ok (.iload_n 3, 1) := by decide +kernel
theorem dX8_reaches_35 : decode cX8_reaches 35 = .ok (.aload 4, 2) := by decide +kernel
theorem dX8_reaches_37 : decode cX8_reaches 37 = .ok (.invokevirtual 49, 3) := by decide +kernel
theorem dX8_reaches_40 : decode cX8_reaches 40 = .ok (.invokestatic 26, 3) := by decide +kernel
theorem dX8_reaches_43 : decode cX8_reaches 43 = .ok (.istore 5, 2) := by decide +kernel
theorem dX8_reaches_45 : decode cX8_reaches 45 = .ok (.iload 5, 2) := by decide +kernel
theorem dX8_reaches_47 : decode cX8_reaches 47 = .ok (.ifCond .lt 35, 3) := by decide +kernel
theorem dX8_reaches_50 : decode cX8_reaches 50 = .ok (.aload_n 0, 1) := by decide +kernel
theorem dX8_reaches_51 : decode cX8_reaches 51 = .ok (.aload 4, 2) := by decide +kernel
theorem dX8_reaches_53 : decode cX8_reaches 53 = .ok (.iload_n 2, 1) := by decide +kernel
theorem dX8_reaches_54 : decode cX8_reaches 54 = .ok (.iload 5, 2) := by decide +kernel
theorem dX8_reaches_56 : decode cX8_reaches 56 = .ok (.invokevirtual 55, 3) := by decide +kernel
theorem dX8_reaches_59 : decode cX8_reaches 59 = .ok (.aload_n 0, 1) := by decide +kernel
theorem dX8_reaches_60 : decode cX8_reaches 60 = .ok (.aload_n 1, 1) := by decide +kernel
theorem dX8_reaches_61 : decode cX8_reaches 61 = .ok (.iload_n 2, 1) := by decide +kernel
theorem dX8_reaches_62 : decode cX8_reaches 62 = .ok (.iconst 1, 1) := by decide +kernel
theorem dX8_reaches_63 : decode cX8_reaches 63 = .ok (.iadd, 1) := by decide +kernel
theorem dX8_reaches_64 : decode cX8_reaches 64 = .ok (.iload_n 3, 1) := by decide +kernel
theorem dX8_reaches_65 : decode cX8_reaches 65 = .ok (.iload 5, 2) := by decide +kernel
theorem dX8_reaches_67 : decode cX8_reaches 67 = .ok (.isub, 1) := by decide +kernel
theorem dX8_reaches_68 : decode cX8_reaches 68 = .ok (.invokestatic 32, 3) := by decide +kernel
theorem dX8_reaches_71 : decode cX8_reaches 71 = .ok (.ifCond .eq 5, 3) := by decide +kernel
theorem dX8_reaches_74 : decode cX8_reaches 74 = .ok (.iconst 1, 1) := by decide +kernel
theorem dX8_reaches_75 : decode cX8_reaches 75 = .ok (.ireturn, 1) := by decide +kernel
theorem dX8_reaches_76 : decode cX8_reaches 76 = .ok (.iinc 5 (-1), 3) := by decide +kernel
theorem dX8_reaches_79 : decode cX8_reaches 79 = .ok (.goto (-34), 3) := by decide +kernel
theorem dX8_reaches_82 : decode cX8_reaches 82 = .ok (.iconst 0, 1) := by decide +kernel
theorem dX8_reaches_83 : decode cX8_reaches 83 = .ok (.ireturn, 1) := by decide +kernel
theorem dX8_choose_0 : decode cX8_choose 0 = .ok (.iload_n 3, 1) := by decide +kernel
theorem dX8_choose_1 : decode cX8_choose 1 = .ok (.aload_n 0, 1) := by decide +kernel
theorem dX8_choose_2 : decode cX8_choose 2 = .ok (.getfield 22, 3) := by decide +kernel
theorem dX8_choose_5 : decode cX8_choose 5 = .ok (.iload_n 2, 1) := by decide +kernel
theorem dX8_choose_6 : decode cX8_choose 6 = .ok (.iaload, 1) := by decide +kernel
theorem dX8_choose_7 : decode cX8_choose 7 = .ok (.isub, 1) := by decide +kernel
theorem dX8_choose_8 : decode cX8_choose 8 = .ok (.istore 4, 2) := by decide +kernel
theorem dX8_choose_10 : decode cX8_choose 10 = .ok (.iconst 0, 1) := by decide +kernel
theorem dX8_choose_11 : decode cX8_choose 11 = .ok (.istore 5, 2) := by decide +kernel
theorem dX8_choose_13 : decode cX8_choose 13 = .ok (.iload 5, 2) := by decide +kernel
theorem dX8_choose_15 : decode cX8_choose 15 = .ok (.iconst 3, 1) := by decide +kernel
theorem dX8_choose_16 : decode cX8_choose 16 = .ok (.if_icmp .ge 31, 3) := by decide +kernel
theorem dX8_choose_19 : decode cX8_choose 19 = .ok (.aload_n 0, 1) := by decide +kernel
theorem dX8_choose_20 : decode cX8_choose 20 = .ok (.getfield 9, 3) := by decide +kernel
theorem dX8_choose_23 : decode cX8_choose 23 = .ok (.iload 5, 2) := by decide +kernel
theorem dX8_choose_25 : decode cX8_choose 25 = .ok (.dup2, 1) := by decide +kernel
theorem dX8_choose_26 : decode cX8_choose 26 = .ok (.laload, 1) := by decide +kernel
theorem dX8_choose_27 : decode cX8_choose 27 = .ok (.aload_n 1, 1) := by decide +kernel
theorem dX8_choose_28 : decode cX8_choose 28 = .ok (.getfield 59, 3) := by decide +kernel
theorem dX8_choose_31 : decode cX8_choose 31 = .ok (.iload 5, 2) := by decide +kernel
theorem dX8_choose_33 : decode cX8_choose 33 = .ok (.iaload, 1) := by decide +kernel
theorem dX8_choose_34 : decode cX8_choose 34 = .ok (.i2l, 1) := by decide +kernel
theorem dX8_choose_35 : decode cX8_choose 35 = .ok (.iload 4, 2) := by decide +kernel
theorem dX8_choose_37 : decode cX8_choose 37 = .ok (.i2l, 1) := by decide +kernel
theorem dX8_choose_38 : decode cX8_choose 38 = .ok (.lmul, 1) := by decide +kernel
theorem dX8_choose_39 : decode cX8_choose 39 = .ok (.lsub, 1) := by decide +kernel
theorem dX8_choose_40 : decode cX8_choose 40 = .ok (.lastore, 1) := by decide +kernel
theorem dX8_choose_41 : decode cX8_choose 41 = .ok (.iinc 5 1, 3) := by decide +kernel
theorem dX8_choose_44 : decode cX8_choose 44 = .ok (.goto (-31), 3) := by decide +kernel
theorem dX8_choose_47 : decode cX8_choose 47 = .ok (.aload_n 0, 1) := by decide +kernel
theorem dX8_choose_48 : decode cX8_choose 48 = .ok (.getfield 22, 3) := by decide +kernel
theorem dX8_choose_51 : decode cX8_choose 51 = .ok (.iload_n 2, 1) := by decide +kernel
theorem dX8_choose_52 : decode cX8_choose 52 = .ok (.iload_n 3, 1) := by decide +kernel
theorem dX8_choose_53 : decode cX8_choose 53 = .ok (.iastore, 1) := by decide +kernel
theorem dX8_choose_54 : decode cX8_choose 54 = .ok (.return_, 1) := by decide +kernel
theorem dX8_isInReach_0 : decode cX8_isInReach 0 = .ok (.iconst 0, 1) := by decide +kernel
theorem dX8_isInReach_1 : decode cX8_isInReach 1 = .ok (.istore_n 2, 1) := by decide +kernel
theorem dX8_isInReach_2 : decode cX8_isInReach 2 = .ok (.iload_n 2, 1) := by decide +kernel
theorem dX8_isInReach_3 : decode cX8_isInReach 3 = .ok (.iconst 3, 1) := by decide +kernel
theorem dX8_isInReach_4 : decode cX8_isInReach 4 = .ok (.if_icmp .ge 47, 3) := by decide +kernel
theorem dX8_isInReach_7 : decode cX8_isInReach 7 = .ok (.aload_n 0, 1) := by decide +kernel
theorem dX8_isInReach_8 : decode cX8_isInReach 8 = .ok (.getfield 9, 3) := by decide +kernel
theorem dX8_isInReach_11 : decode cX8_isInReach 11 = .ok (.iload_n 2, 1) := by decide +kernel
theorem dX8_isInReach_12 : decode cX8_isInReach 12 = .ok (.laload, 1) := by decide +kernel
theorem dX8_isInReach_13 : decode cX8_isInReach 13 = .ok (.aload_n 0, 1) := by decide +kernel
theorem dX8_isInReach_14 : decode cX8_isInReach 14 = .ok (.getfield 15, 3) := by decide +kernel
theorem dX8_isInReach_17 : decode cX8_isInReach 17 = .ok (.ineg, 1) := by decide +kernel
theorem dX8_isInReach_18 : decode cX8_isInReach 18 = .ok (.i2l, 1) := by decide +kernel
theorem dX8_isInReach_19 : decode cX8_isInReach 19 = .ok (.lcmp, 1) := by decide +kernel
theorem dX8_isInReach_20 : decode cX8_isInReach 20 = .ok (.ifCond .lt 23, 3) := by decide +kernel
theorem dX8_isInReach_23 : decode cX8_isInReach 23 = .ok (.aload_n 0, 1) := by decide +kernel
theorem dX8_isInReach_24 : decode cX8_isInReach 24 = .ok (.getfield 9, 3) := by decide +kernel
theorem dX8_isInReach_27 : decode cX8_isInReach 27 = .ok (.iload_n 2, 1) := by decide +kernel
theorem dX8_isInReach_28 : decode cX8_isInReach 28 = .ok (.laload, 1) := by decide +kernel
theorem dX8_isInReach_29 : decode cX8_isInReach 29 = .ok (.aload_n 0, 1) := by decide +kernel
theorem dX8_isInReach_30 : decode cX8_isInReach 30 = .ok (.getfield 15, 3) := by decide +kernel
theorem dX8_isInReach_33 : decode cX8_isInReach 33 = .ok (.iload_n 1, 1) := by decide +kernel
theorem dX8_isInReach_34 : decode cX8_isInReach 34 = .ok (.bipush 9, 2) := by decide +kernel
theorem dX8_isInReach_36 : decode cX8_isInReach 36 = .ok (.imul, 1) := by decide +kernel
theorem dX8_isInReach_37 : decode cX8_isInReach 37 = .ok (.iadd, 1) := by decide +kernel
theorem dX8_isInReach_38 : decode cX8_isInReach 38 = .ok (.i2l, 1) := by decide +kernel
theorem dX8_isInReach_39 : decode cX8_isInReach 39 = .ok (.lcmp, 1) := by decide +kernel
theorem dX8_isInReach_40 : decode cX8_isInReach 40 = .ok (.ifCond .le 5, 3) := by decide +kernel
theorem dX8_isInReach_43 : decode cX8_isInReach 43 = .ok (.iconst 0, 1) := by decide +kernel
theorem dX8_isInReach_44 : decode cX8_isInReach 44 = .ok (.ireturn, 1) := by decide +kernel
theorem dX8_isInReach_45 : decode cX8_isInReach 45 = .ok (.iinc 2 1, 3) := by decide +kernel
theorem dX8_isInReach_48 : decode cX8_isInReach 48 = .ok (.goto (-46), 3) := by decide +kernel
theorem dX8_isInReach_51 : decode cX8_isInReach 51 = .ok (.iconst 1, 1) := by decide +kernel
theorem dX8_isInReach_52 : decode cX8_isInReach 52 = .ok (.ireturn, 1) := by decide +kernel
theorem dX9_init_0 : decode cX9_init 0 = .ok (.aload_n 0, 1) := by decide +kernel
theorem dX9_init_1 : decode cX9_init 1 = .ok (.invokespecial 3, 3) := by decide +kernel
theorem dX9_init_4 : decode cX9_init 4 = .ok (.aload_n 0, 1) := by decide +kernel
theorem dX9_init_5 : decode cX9_init 5 = .ok (.new 9, 3) := by decide +kernel
theorem dX9_init_8 : decode cX9_init 8 = .ok (.dup, 1) := by decide +kernel
theorem dX9_init_9 : decode cX9_init 9 = .ok (.invokespecial 11, 3) := by decide +kernel
theorem dX9_init_12 : decode cX9_init 12 = .ok (.putfield 12, 3) := by decide +kernel
theorem dX9_init_15 : decode cX9_init 15 = .ok (.aload_n 0, 1) := by decide +kernel
theorem dX9_init_16 : decode cX9_init 16 = .ok (.new 9, 3) := by decide +kernel
theorem dX9_init_19 : decode cX9_init 19 = .ok (.dup, 1) := by decide +kernel
theorem dX9_init_20 : decode cX9_init 20 = .ok (.invokespecial 11, 3) := by decide +kernel
theorem dX9_init_23 : decode cX9_init 23 = .ok (.putfield 16, 3) := by decide +kernel
theorem dX9_init_26 : decode cX9_init 26 = .ok (.aload_n 0, 1) := by decide +kernel
theorem dX9_init_27 : decode cX9_init 27 = .ok (.iconst 0, 1) := by decide +kernel
theorem dX9_init_28 : decode cX9_init 28 = .ok (.putfield 19, 3) := by decide +kernel
theorem dX9_init_31 : decode cX9_init 31 = .ok (.aload_n 0, 1) := by decide +kernel
theorem dX9_init_32 : decode cX9_init 32 = .ok (.new 23, 3) := by decide +kernel
theorem dX9_init_35 : decode cX9_init 35 = .ok (.dup, 1) := by decide +kernel
theorem dX9_init_36 : decode cX9_init 36 = .ok (.invokespecial 25, 3) := by decide +kernel
theorem dX9_init_39 : decode cX9_init 39 = .ok (.putfield 26, 3) := by decide +kernel
theorem dX9_init_42 : decode cX9_init 42 = .ok (.aload_n 0, 1) := by decide +kernel
theorem dX9_init_43 : decode cX9_init 43 = .ok (.new 30, 3) := by decide +kernel
theorem dX9_init_46 : decode cX9_init 46 = .ok (.dup, 1) := by decide +kernel
theorem dX9_init_47 : decode cX9_init 47 = .ok (.invokespecial 32, 3) := by decide +kernel
theorem dX9_init_50 : decode cX9_init 50 = .ok (.putfield 33, 3) := by decide +kernel
theorem dX9_init_53 : decode cX9_init 53 = .ok (.aload_n 0, 1) := by decide +kernel
theorem dX9_init_54 : decode cX9_init 54 = .ok (.iconst (-1), 1) := by decide +kernel
theorem dX9_init_55 : decode cX9_init 55 = .ok (.putfield 37, 3) := by decide +kernel
theorem dX9_init_58 : decode cX9_init 58 = .ok (.aload_n 0, 1) := by decide +kernel
theorem dX9_init_59 : decode cX9_init 59 = .ok (.iconst 0, 1) := by decide +kernel
theorem dX9_init_60 : decode cX9_init 60 = .ok (.putfield 41, 3) := by decide +kernel
theorem dX9_init_63 : decode cX9_init 63 = .ok (.aload_n 0, 1) := by decide +kernel
theorem dX9_init_64 : decode cX9_init 64 = .ok (.iconst (-1), 1) := by decide +kernel
theorem dX9_init_65 : decode cX9_init 65 = .ok (.putfield 44, 3) := by decide +kernel
theorem dX9_init_68 : decode cX9_init 68 = .ok (.aload_n 0, 1) := by decide +kernel
theorem dX9_init_69 : decode cX9_init 69 = .ok (.new 47, 3) := by decide +kernel
theorem dX9_init_72 : decode cX9_init 72 = .ok (.dup, 1) := by decide +kernel
theorem dX9_init_73 : decode cX9_init 73 = .ok (.invokespecial 49, 3) := by decide +kernel
theorem dX9_init_76 : decode cX9_init 76 = .ok (.putfield 50, 3) := by decide +kernel
theorem dX9_init_79 : decode cX9_init 79 = .ok (.aload_n 0, 1) := by decide +kernel
theorem dX9_init_80 : decode cX9_init 80 = .ok (.new 54, 3) := by decide +kernel
theorem dX9_init_83 : decode cX9_init 83 = .ok (.dup, 1) := by decide +kernel
theorem dX9_init_84 : decode cX9_init 84 = .ok (.invokespecial 56, 3) := by decide +kernel
theorem dX9_init_87 : decode cX9_init 87 = .ok (.putfield 57, 3) := by decide +kernel
theorem dX9_init_90 : decode cX9_init 90 = .ok (.return_, 1) := by decide +kernel
theorem dX9_addColorant_0 : decode cX9_addColorant 0 = .ok (.iload_n 1, 1) := by decide +kernel
theorem dX9_addColorant_1 : decode cX9_addColorant 1 = .ok (.iconst 0, 1) := by decide +kernel
theorem dX9_addColorant_2 : decode cX9_addColorant 2 = .ok (.bipush 9, 2) := by decide +kernel
theorem dX9_addColorant_4 : decode cX9_addColorant 4 = .ok (.invokestatic 61, 3) := by decide +kernel
theorem dX9_addColorant_7 : decode cX9_addColorant 7 = .ok (.iload_n 2, 1) := by decide +kernel
theorem dX9_addColorant_8 : decode cX9_addColorant 8 = .ok (.iconst 0, 1) := by decide +kernel
theorem dX9_addColorant_9 : decode cX9_addColorant 9 = .ok (.bipush 9, 2) := by decide +kernel
theorem dX9_addColorant_11 : decode cX9_addColorant 11 = .ok (.invokestatic 61, 3) := by decide +kernel
theorem dX9_addColorant_14 : decode cX9_addColorant 14 = .ok (.iload_n 3, 1) := by decide +kernel
theorem dX9_addColorant_15 : decode cX9_addColorant 15 = .ok (.iconst 0, 1) := by decide +kernel
theorem dX9_addColorant_16 : decode cX9_addColorant 16 = .ok (.bipush 9, 2) := by decide +kernel
theorem dX9_addColorant_18 : decode cX9_addColorant 18 = .ok (.invokestatic 61, 3) := by decide +kernel
theorem dX9_addColorant_21 : decode cX9_addColorant 21 = .ok (.aload_n 0, 1) := by decide +kernel
theorem dX9_addColorant_22 : decode cX9_addColorant 22 = .ok (.getfield 12, 3) := by decide +kernel
theorem dX9_addColorant_25 : decode cX9_addColorant 25 = .ok (.getfield 65, 3) := by decide +kernel
theorem dX9_addColorant_28 : decode cX9_addColorant 28 = .ok (.bipush 8, 2) := by decide +kernel
theorem dX9_addColorant_30 : decode cX9_addColorant 30 = .ok (.if_icmp .lt 13, 3) := by decide +kernel
theorem dX9_addColorant_33 : decode cX9_addColorant 33 = .ok (.new 68, 3) := by decide +kernel
theorem dX9_addColorant_36 : decode cX9_addColorant 36 = .ok (.dup, 1) := by decide +kernel
theorem dX9_addColorant_37 : decode cX9_addColorant 37 = .ok (.ldc 70, 2) := by decide +kernel
theorem dX9_addColorant_39 : decode cX9_addColorant 39 = .ok (.invokespecial 72, 3) := by decide +kernel
theorem dX9_addColorant_42 : decode cX9_addColorant 42 = .ok (.athrow, 1) := by decide +kernel
theorem dX9_addColorant_43 : decode cX9_addColorant 43 = .ok (.aload_n 0, 1) := by decide +kernel
theorem dX9_addColorant_44 : decode cX9_addColorant 44 = .ok (.getfield 26, 3) := by decide +kernel
theorem dX9_addColorant_47 : decode cX9_addColorant 47 = .ok (.aload_n 0, 1) := by decide +kernel
theorem dX9_addColorant_48 : decode cX9_addColorant 48 = .ok (.getfield 12, 3) := by decide +kernel
theorem dX9_addColorant_51 : decode cX9_addColorant 51 = .ok (.invokevirtual 75, 3) := by decide +kernel
theorem dX9_addColorant_54 : decode cX9_addColorant 54 = .ok (.aload_n 0, 1) := by decide +kernel
theorem dX9_addColorant_55 : decode cX9_addColorant 55 = .ok (.getfield 12, 3) := by decide +kernel
theorem dX9_addColorant_58 : decode cX9_addColorant 58 = .ok (.iload_n 1, 1) := by decide +kernel
theorem dX9_addColorant_59 : decode cX9_addColorant 59 = .ok (.iload_n 2, 1) := by decide +kernel
theorem dX9_addColorant_60 : decode cX9_addColorant 60 = .ok (.iload_n 3, 1) := by decide +kernel
theorem dX9_addColorant_61 : decode cX9_addColorant 61 = .ok (.invokevirtual 79, 3) := by decide +kernel
theorem dX9_addColorant_64 : decode cX9_addColorant 64 = .ok (.ireturn, 1) := by decide +kernel
theorem dX9_setLife_0 : decode cX9_setLife 0 = .ok (.aload_n 0, 1) := by decide +kernel
theorem dX9_setLife_1 : decode cX9_setLife 1 = .ok (.iload_n 1, 1) := by decide +kernel
theorem dX9_setLife_2 : decode cX9_setLife 2 = .ok (.invokevirtual 83, 3) := by decide +kernel
theorem dX9_setLife_5 : decode cX9_setLife 5 = .ok (.iload_n 2, 1) := by decide +kernel
theorem dX9_setLife_6 : decode cX9_setLife 6 = .ok (.iconst 1, 1) := by decide +kernel
theorem dX9_setLife_7 : decode cX9_setLife 7 = .ok (.bipush 99, 2) := by decide +kernel
theorem dX9_setLife_9 : decode cX9_setLife 9 = .ok (.invokestatic 61, 3) := by decide +kernel
theorem dX9_setLife_12 : decode cX9_setLife 12 = .ok (.aload_n 0, 1) := by decide +kernel
theorem dX9_setLife_13 : decode cX9_setLife 13 = .ok (.getfield 26, 3) := by decide +kernel
theorem dX9_setLife_16 : decode cX9_setLife 16 = .ok (.aload_n 0, 1) := by decide +kernel
theorem dX9_setLife_17 : decode cX9_setLife 17 = .ok (.getfield 12, 3) := by decide +kernel
theorem dX9_setLife_20 : decode cX9_setLife 20 = .ok (.invokevirtual 75, 3) := by decide +kernel
theorem dX9_setLife_23 : decode cX9_setLife 23 = .ok (.aload_n 0, 1) := by decide +kernel
theorem dX9_setLife_24 : decode cX9_setLife 24 = .ok (.getfield 12, 3) := by decide +kernel
theorem dX9_setLife_27 : decode cX9_setLife 27 = .ok (.getfield 87, 3) := by decide +kernel
theorem dX9_setLife_30 : decode cX9_setLife 30 = .ok (.iload_n 1, 1) := by decide +kernel
theorem dX9_setLife_31 : decode cX9_setLife 31 = .ok (.aaload, 1) := by decide +kernel
theorem dX9_setLife_32 : decode cX9_setLife 32 = .ok (.astore_n 3, 1) := by decide +kernel
theorem dX9_setLife_33 : decode cX9_setLife 33 = .ok (.aload_n 3, 1) := by decide +kernel
theorem dX9_setLife_34 : decode cX9_setLife 34 = .ok (.getfield 91, 3) := by decide +kernel
theorem dX9_setLife_37 : decode cX9_setLife 37 = .ok (.istore 4, 2) := by decide +kernel
theorem dX9_setLife_39 : decode cX9_setLife 39 = .ok (.aload_n 3, 1) := by decide +kernel
theorem dX9_setLife_40 : decode cX9_setLife 40 = .ok (.iload_n 2, 1) := by decide +kernel
theorem dX9_setLife_41 : decode cX9_setLife 41 = .ok (.putfield 91, 3) := by decide +kernel
theorem dX9_setLife_44 : decode cX9_setLife 44 = .ok (.iload 4, 2) := by decide +kernel
theorem dX9_setLife_46 : decode cX9_setLife 46 = .ok (.ireturn, 1) := by decide +kernel
theorem dX9_refill_0 : decode cX9_refill 0 = .ok (.aload_n 0, 1) := by decide +kernel
theorem dX9_refill_1 : decode cX9_refill 1 = .ok (.iload_n 1, 1) := by decide +kernel
theorem dX9_refill_2 : decode cX9_refill 2 = .ok (.invokevirtual 83, 3) := by decide +kernel
theorem dX9_refill_5 : decode cX9_refill 5 = .ok (.iload_n 2, 1) := by decide +kernel
theorem dX9_refill_6 : decode cX9_refill 6 = .ok (.iconst 0, 1) := by decide +kernel
theorem dX9_refill_7 : decode cX9_refill 7 = .ok (.bipush 99, 2) := by decide +kernel
theorem dX9_refill_9 : decode cX9_refill 9 = .ok (.invokestatic 61, 3) := by decide +kernel
theorem dX9_refill_12 : decode cX9_refill 12 = .ok (.iload_n 3, 1) := by decide +kernel
theorem dX9_refill_13 : decode cX9_refill 13 = .ok (.iconst 1, 1) := by decide +kernel
theorem dX9_refill_14 : decode cX9_refill 14 = .ok (.sipush 500, 3) := by decide +kernel
theorem dX9_refill_17 : decode cX9_refill 17 = .ok (.invokestatic 61, 3) := by decide +kernel
theorem dX9_refill_20 : decode cX9_refill 20 = .ok (.aload_n 0, 1) := by decide +kernel
theorem dX9_refill_21 : decode cX9_refill 21 = .ok (.getfield 12, 3) := by decide +kernel
theorem dX9_refill_24 : decode cX9_refill 24 = .ok (.getfield 87, 3) := by decide +kernel
theorem dX9_refill_27 : decode cX9_refill 27 = .ok (.iload_n 1, 1) := by decide +kernel
theorem dX9_refill_28 : decode cX9_refill 28 = .ok (.aaload, 1) := by decide +kernel
theorem dX9_refill_29 : decode cX9_refill 29 = .ok (.astore 4, 2) := by decide +kernel
theorem dX9_refill_31 : decode cX9_refill 31 = .ok (.aload_n 0, 1) := by decide +kernel
theorem dX9_refill_32 : decode cX9_refill 32 = .ok (.aload 4, 2) := by decide +kernel
theorem dX9_refill_34 : decode cX9_refill 34 = .ok (.getfield 96, 3) := by decide +kernel
theorem dX9_refill_37 : decode cX9_refill 37 = .ok (.bipush 12, 2) := by decide +kernel
theorem dX9_refill_39 : decode cX9_refill 39 = .ok (.if_icmp .lt 7, 3) := by decide +kernel
theorem dX9_refill_42 : decode cX9_refill 42 = .ok (.iconst 2, 1) := by decide +kernel
theorem dX9_refill_43 : decode cX9_refill 43 = .ok (.goto 4, 3) := by decide +kernel
theorem dX9_refill_46 : decode cX9_refill 46 = .ok (.iconst 0, 1) := by decide +kernel
theorem dX9_refill_47 : decode cX9_refill 47 = .ok (.iconst (-1), 1) := by decide +kernel
theorem dX9_refill_48 : decode cX9_refill 48 = .ok (.invokevirtual 99, 3) := by decide +kernel
theorem dX9_refill_51 : decode cX9_refill 51 = .ok (.aload_n 0, 1) := by decide +kernel
theorem dX9_refill_52 : decode cX9_refill 52 = .ok (.getfield 26, 3) := by decide +kernel
theorem dX9_refill_55 : decode cX9_refill 55 = .ok (.aload_n 0, 1) := by decide +kernel
theorem dX9_refill_56 : decode cX9_refill 56 = .ok (.getfield 12, 3) := by decide +kernel
theorem dX9_refill_59 : decode cX9_refill 59 = .ok (.invokevirtual 75, 3) := by decide +kernel
theorem dX9_refill_62 : decode cX9_refill 62 = .ok (.aload 4, 2) := by decide +kernel
theorem dX9_refill_64 : decode cX9_refill 64 = .ok (.iload_n 2, 1) := by decide +kernel
theorem dX9_refill_65 : decode cX9_refill 65 = .ok (.iload_n 3, 1) := by decide +kernel
theorem dX9_refill_66 : decode cX9_refill 66 = .ok (.aload_n 0, 1) := by decide +kernel
theorem dX9_refill_67 : decode cX9_refill 67 = .ok (.getfield 12, 3) := by decide +kernel
theorem dX9_refill_70 : decode cX9_refill 70 = .ok (.getfield 103, 3) := by decide +kernel
theorem dX9_refill_73 : decode cX9_refill 73 = .ok (.invokevirtual 106, 3) := by decide +kernel
theorem dX9_refill_76 : decode cX9_refill 76 = .ok (.aload 4, 2) := by decide +kernel
theorem dX9_refill_78 : decode cX9_refill 78 = .ok (.invokevirtual 109, 3) := by decide +kernel
theorem dX9_refill_81 : decode cX9_refill 81 = .ok (.ireturn, 1) := by decide +kernel
theorem dX9_recall_0 : decode cX9_recall 0 = .ok (.aload_n 0, 1) := by decide +kernel
theorem dX9_recall_1 : decode cX9_recall 1 = .ok (.iload_n 1, 1) := by decide +kernel
theorem dX9_recall_2 : decode cX9_recall 2 = .ok (.invokevirtual 83, 3) := by decide +kernel
theorem dX9_recall_5 : decode cX9_recall 5 = .ok (.iload_n 2, 1) := by decide +kernel
theorem dX9_recall_6 : decode cX9_recall 6 = .ok (.iconst 0, 1) := by decide +kernel
theorem dX9_recall_7 : decode cX9_recall 7 = .ok (.bipush 99, 2) := by decide +kernel
theorem dX9_recall_9 : decode cX9_recall 9 = .ok (.invokestatic 61, 3) := by decide +kernel
theorem dX9_recall_12 : decode cX9_recall 12 = .ok (.aload_n 0, 1) := by decide +kernel
theorem dX9_recall_13 : decode cX9_recall 13 = .ok (.getfield 26, 3) := by decide +kernel
theorem dX9_recall_16 : decode cX9_recall 16 = .ok (.aload_n 0, 1) := by decide +kernel
theorem dX9_recall_17 : decode cX9_recall 17 = .ok (.getfield 12, 3) := by decide +kernel
theorem dX9_recall_20 : decode cX9_recall 20 = .ok (.invokevirtual 75, 3) := by decide +kernel
theorem dX9_recall_23 : decode cX9_recall 23 = .ok (.aload_n 0, 1) := by decide +kernel
theorem dX9_recall_24 : decode cX9_recall 24 = .ok (.getfield 12, 3) := by decide +kernel
theorem dX9_recall_27 : decode cX9_recall 27 = .ok (.getfield 87, 3) := by decide +kernel
theorem dX9_recall_30 : decode cX9_recall 30 = .ok (.iload_n 1, 1) := by decide +kernel
theorem dX9_recall_31 : decode cX9_recall 31 = .ok (.aaload, 1) := by decide +kernel
theorem dX9_recall_32 : decode cX9_recall 32 = .ok (.iload_n 2, 1) := by decide +kernel
theorem dX9_recall_33 : decode cX9_recall 33 = .ok (.invokevirtual 113, 3) := by decide +kernel
theorem dX9_recall_36 : decode cX9_recall 36 = .ok (.ireturn, 1) := by decide +kernel
theorem dX9_colorant_0 : decode cX9_colorant 0 = .ok (.aload_n 0, 1) := by decide +kernel
theorem dX9_colorant_1 : decode cX9_colorant 1 = .ok (.iload_n 1, 1) := by decide +kernel
theorem dX9_colorant_2 : decode cX9_colorant 2 = .ok (.invokevirtual 83, 3) := by decide +kernel
theorem dX9_colorant_5 : decode cX9_colorant 5 = .ok (.iload_n 2, 1) := by decide +kernel
theorem dX9_colorant_6 : decode cX9_colorant 6 = .ok (.iconst 0, 1) := by decide +kernel
theorem dX9_colorant_7 : decode cX9_colorant 7 = .ok (.bipush 9, 2) := by decide +kernel
theorem dX9_colorant_9 : decode cX9_colorant 9 = .ok (.invokestatic 61, 3) := by decide +kernel
theorem dX9_colorant_12 : decode cX9_colorant 12 = .ok (.aload_n 0, 1) := by decide +kernel
theorem dX9_colorant_13 : decode cX9_colorant 13 = .ok (.getfield 12, 3) := by decide +kernel
theorem dX9_colorant_16 : decode cX9_colorant 16 = .ok (.getfield 87, 3) := by decide +kernel
theorem dX9_colorant_19 : decode cX9_colorant 19 = .ok (.iload_n 1, 1) := by decide +kernel
theorem dX9_colorant_20 : decode cX9_colorant 20 = .ok (.aaload, 1) := by decide +kernel
theorem dX9_colorant_21 : decode cX9_colorant 21 = .ok (.iload_n 2, 1) := by decide +kernel
theorem dX9_colorant_22 : decode cX9_colorant 22 = .ok (.invokevirtual 117, 3) := by decide +kernel
theorem dX9_colorant_25 : decode cX9_colorant 25 = .ok (.ireturn, 1) := by decide +kernel
theorem dX9_lot_0 : decode cX9_lot 0 = .ok (.aload_n 0, 1) := by decide +kernel
theorem dX9_lot_1 : decode cX9_lot 1 = .ok (.iload_n 1, 1) := by decide +kernel
theorem dX9_lot_2 : decode cX9_lot 2 = .ok (.invokevirtual 83, 3) := by decide +kernel
theorem dX9_lot_5 : decode cX9_lot 5 = .ok (.aload_n 0, 1) := by decide +kernel
theorem dX9_lot_6 : decode cX9_lot 6 = .ok (.getfield 12, 3) := by decide +kernel
theorem dX9_lot_9 : decode cX9_lot 9 = .ok (.getfield 87, 3) := by decide +kernel
theorem dX9_lot_12 : decode cX9_lot 12 = .ok (.iload_n 1, 1) := by decide +kernel
theorem dX9_lot_13 : decode cX9_lot 13 = .ok (.aaload, 1) := by decide +kernel
theorem dX9_lot_14 : decode cX9_lot 14 = .ok (.astore 4, 2) := by decide +kernel
theorem dX9_lot_16 : decode cX9_lot 16 = .ok (.iload_n 2, 1) := by decide +kernel
theorem dX9_lot_17 : decode cX9_lot 17 = .ok (.ifCond .lt 12, 3) := by decide +kernel
theorem dX9_lot_20 : decode cX9_lot 20 = .ok (.iload_n 2, 1) := by decide +kernel
theorem dX9_lot_21 : decode cX9_lot 21 = .ok (.aload 4, 2) := by decide +kernel
theorem dX9_lot_23 : decode cX9_lot 23 = .ok (.getfield 96, 3) := by decide +kernel
theorem dX9_lot_26 : decode cX9_lot 26 = .ok (.if_icmp .lt 13, 3) := by decide +kernel
theorem dX9_lot_29 : decode cX9_lot 29 = .ok (.new 120, 3) := by decide +kernel
theorem dX9_lot_32 : decode cX9_lot 32 = .ok (.dup, 1) := by decide +kernel
theorem dX9_lot_33 : decode cX9_lot 33 = .ok (.ldc 122, 2) := by decide +kernel
theorem dX9_lot_35 : decode cX9_lot 35 = .ok (.invokespecial 124, 3) := by decide +kernel
theorem dX9_lot_38 : decode cX9_lot 38 = .ok (.athrow, 1) := by decide +kernel
theorem dX9_lot_39 : decode cX9_lot 39 = .ok (.iload_n 3, 1) := by decide +kernel
theorem dX9_lot_40 : decode cX9_lot 40 = .ok (.iconst 0, 1) := by decide +kernel
theorem dX9_lot_41 : decode cX9_lot 41 = .ok (.iconst 2, 1) := by decide +kernel
theorem dX9_lot_42 : decode cX9_lot 42 = .ok (.invokestatic 61, 3) := by decide +kernel
theorem dX9_lot_45 : decode cX9_lot 45 = .ok (.aload 4, 2) := by decide +kernel
theorem dX9_lot_47 : decode cX9_lot 47 = .ok (.iload_n 2, 1) := by decide +kernel
theorem dX9_lot_48 : decode cX9_lot 48 = .ok (.iload_n 3, 1) := by decide +kernel
theorem dX9_lot_49 : decode cX9_lot 49 = .ok (.invokevirtual 125, 3) := by decide +kernel
theorem dX9_lot_52 : decode cX9_lot 52 = .ok (.ireturn, 1) := by decide +kernel
theorem dX9_pass_0 : decode cX9_pass 0 = .ok (.iload_n 1, 1) := by decide +kernel
theorem dX9_pass_1 : decode cX9_pass 1 = .ok (.iconst 1, 1) := by decide +kernel
theorem dX9_pass_2 : decode cX9_pass 2 = .ok (.bipush 99, 2) := by decide +kernel
theorem dX9_pass_4 : decode cX9_pass 4 = .ok (.invokestatic 61, 3) := by decide +kernel
theorem dX9_pass_7 : decode cX9_pass 7 = .ok (.aload_n 0, 1) := by decide +kernel
theorem dX9_pass_8 : decode cX9_pass 8 = .ok (.getfield 12, 3) := by decide +kernel
theorem dX9_pass_11 : decode cX9_pass 11 = .ok (.getfield 103, 3) := by decide +kernel
theorem dX9_pass_14 : decode cX9_pass 14 = .ok (.iload_n 1, 1) := by decide +kernel
theorem dX9_pass_15 : decode cX9_pass 15 = .ok (.iadd, 1) := by decide +kernel
theorem dX9_pass_16 : decode cX9_pass 16 = .ok (.iconst 0, 1) := by decide +kernel
theorem dX9_pass_17 : decode cX9_pass 17 = .ok (.sipush 400, 3) := by decide +kernel
theorem dX9_pass_20 : decode cX9_pass 20 = .ok (.invokestatic 61, 3) := by decide +kernel
theorem dX9_pass_23 : decode cX9_pass 23 = .ok (.aload_n 0, 1) := by decide +kernel
theorem dX9_pass_24 : decode cX9_pass 24 = .ok (.getfield 26, 3) := by decide +kernel
theorem dX9_pass_27 : decode cX9_pass 27 = .ok (.aload_n 0, 1) := by decide +kernel
theorem dX9_pass_28 : decode cX9_pass 28 = .ok (.getfield 12, 3) := by decide +kernel
theorem dX9_pass_31 : decode cX9_pass 31 = .ok (.invokevirtual 75, 3) := by decide +kernel
theorem dX9_pass_34 : decode cX9_pass 34 = .ok (.aload_n 0, 1) := by decide +kernel
theorem dX9_pass_35 : decode cX9_pass 35 = .ok (.getfield 12, 3) := by decide +kernel
theorem dX9_pass_38 : decode cX9_pass 38 = .ok (.aload_n 0, 1) := by decide +kernel
theorem dX9_pass_39 : decode cX9_pass 39 = .ok (.getfield 12, 3) := by decide +kernel
theorem dX9_pass_42 : decode cX9_pass 42 = .ok (.getfield 103, 3) := by decide +kernel
theorem dX9_pass_45 : decode cX9_pass 45 = .ok (.iload_n 1, 1) := by decide +kernel
theorem dX9_pass_46 : decode cX9_pass 46 = .ok (.iadd, 1) := by decide +kernel
theorem dX9_pass_47 : decode cX9_pass 47 = .ok (.invokevirtual 129, 3) := by decide +kernel
theorem dX9_pass_50 : decode cX9_pass 50 = .ok (.ireturn, 1) := by decide +kernel
theorem dX9_addBase_0 : decode cX9_addBase 0 = .ok (.iload_n 1, 1) := by decide +kernel
theorem dX9_addBase_1 : decode cX9_addBase 1 = .ok (.iconst 0, 1) := by decide +kernel
theorem dX9_addBase_2 : decode cX9_addBase 2 = .ok (.bipush 99, 2) := by decide +kernel
theorem dX9_addBase_4 : decode cX9_addBase 4 = .ok (.invokestatic 61, 3) := by decide +kernel
theorem dX9_addBase_7 : decode cX9_addBase 7 = .ok (.iload_n 2, 1) := by decide +kernel
theorem dX9_addBase_8 : decode cX9_addBase 8 = .ok (.iconst 0, 1) := by decide +kernel
theorem dX9_addBase_9 : decode cX9_addBase 9 = .ok (.bipush 99, 2) := by decide +kernel
theorem dX9_addBase_11 : decode cX9_addBase 11 = .ok (.invokestatic 61, 3) := by decide +kernel
theorem dX9_addBase_14 : decode cX9_addBase 14 = .ok (.iload_n 3, 1) := by decide +kernel
theorem dX9_addBase_15 : decode cX9_addBase 15 = .ok (.iconst 0, 1) := by decide +kernel
theorem dX9_addBase_16 : decode cX9_addBase 16 = .ok (.bipush 99, 2) := by decide +kernel
theorem dX9_addBase_18 : decode cX9_addBase 18 = .ok (.invokestatic 61, 3) := by decide +kernel
theorem dX9_addBase_21 : decode cX9_addBase 21 = .ok (.iload 4, 2) := by decide +kernel
theorem dX9_addBase_23 : decode cX9_addBase 23 = .ok (.iconst 0, 1) := by decide +kernel
theorem dX9_addBase_24 : decode cX9_addBase 24 = .ok (.sipush 200, 3) := by decide +kernel
theorem dX9_addBase_27 : decode cX9_addBase 27 = .ok (.invokestatic 61, 3) := by decide +kernel
theorem dX9_addBase_30 : decode cX9_addBase 30 = .ok (.aload_n 0, 1) := by decide +kernel
theorem dX9_addBase_31 : decode cX9_addBase 31 = .ok (.getfield 12, 3) := by decide +kernel
theorem dX9_addBase_34 : decode cX9_addBase 34 = .ok (.getfield 132, 3) := by decide +kernel
theorem dX9_addBase_37 : decode cX9_addBase 37 = .ok (.bipush 6, 2) := by decide +kernel
theorem dX9_addBase_39 : decode cX9_addBase 39 = .ok (.if_icmp .lt 13, 3) := by decide +kernel
theorem dX9_addBase_42 : decode cX9_addBase 42 = .ok (.new 68, 3) := by decide +kernel
theorem dX9_addBase_45 : decode cX9_addBase 45 = .ok (.dup, 1) := by decide +kernel
theorem dX9_addBase_46 : decode cX9_addBase 46 = .ok (.ldc 135, 2) := by decide +kernel
theorem dX9_addBase_48 : decode cX9_addBase 48 = .ok (.invokespecial 72, 3) := by decide +kernel
theorem dX9_addBase_51 : decode cX9_addBase 51 = .ok (.athrow, 1) := by decide +kernel
theorem dX9_addBase_52 : decode cX9_addBase 52 = .ok (.aload_n 0, 1) := by decide +kernel
theorem dX9_addBase_53 : decode cX9_addBase 53 = .ok (.getfield 26, 3) := by decide +kernel
theorem dX9_addBase_56 : decode cX9_addBase 56 = .ok (.aload_n 0, 1) := by decide +kernel
theorem dX9_addBase_57 : decode cX9_addBase 57 = .ok (.getfield 12, 3) := by decide +kernel
theorem dX9_addBase_60 : decode cX9_addBase 60 = .ok (.invokevirtual 75, 3) := by decide +kernel
theorem dX9_addBase_63 : decode cX9_addBase 63 = .ok (.aload_n 0, 1) := by decide +kernel
theorem dX9_addBase_64 : decode cX9_addBase 64 = .ok (.getfield 12, 3) := by decide +kernel
theorem dX9_addBase_67 : decode cX9_addBase 67 = .ok (.iload_n 1, 1) := by decide +kernel
theorem dX9_addBase_68 : decode cX9_addBase 68 = .ok (.iload_n 2, 1) := by decide +kernel
theorem dX9_addBase_69 : decode cX9_addBase 69 = .ok (.iload_n 3, 1) := by decide +kernel
theorem dX9_addBase_70 : decode cX9_addBase 70 = .ok (.iload 4, 2) := by decide +kernel
theorem dX9_addBase_72 : decode cX9_addBase 72 = .ok (.invokevirtual 137, 3) := by decide +kernel
theorem dX9_addBase_75 : decode cX9_addBase 75 = .ok (.ireturn, 1) := by decide +kernel
theorem dX9_setStock_0 : decode cX9_setStock 0 = .ok (.aload_n 0, 1) := by decide +kernel
theorem dX9_setStock_1 : decode cX9_setStock 1 = .ok (.iload_n 1, 1) := by decide +kernel
theorem dX9_setStock_2 : decode cX9_setStock 2 = .ok (.invokevirtual 141, 3) := by decide +kernel
theorem dX9_setStock_5 : decode cX9_setStock 5 = .ok (.iload_n 2, 1) := by decide +kernel
theorem dX9_setStock_6 : decode cX9_setStock 6 = .ok (.iconst 0, 1) := by decide +kernel
theorem dX9_setStock_7 : decode cX9_setStock 7 = .ok (.bipush 99, 2) := by decide +kernel
theorem dX9_setStock_9 : decode cX9_setStock 9 = .ok (.invokestatic 61, 3) := by decide +kernel
theorem dX9_setStock_12 : decode cX9_setStock 12 = .ok (.aload_n 0, 1) := by decide +kernel
theorem dX9_setStock_13 : decode cX9_setStock 13 = .ok (.getfield 26, 3) := by decide +kernel
theorem dX9_setStock_16 : decode cX9_setStock 16 = .ok (.aload_n 0, 1) := by decide +kernel
theorem dX9_setStock_17 : decode cX9_setStock 17 = .ok (.getfield 12, 3) := by decide +kernel
theorem dX9_setStock_20 : decode cX9_setStock 20 = .ok (.invokevirtual 75, 3) := by decide +kernel
theorem dX9_setStock_23 : decode cX9_setStock 23 = .ok (.aload_n 0, 1) := by decide +kernel
theorem dX9_setStock_24 : decode cX9_setStock 24 = .ok (.getfield 12, 3) := by decide +kernel
theorem dX9_setStock_27 : decode cX9_setStock 27 = .ok (.getfield 144, 3) := by decide +kernel
theorem dX9_setStock_30 : decode cX9_setStock 30 = .ok (.iload_n 1, 1) := by decide +kernel
theorem dX9_setStock_31 : decode cX9_setStock 31 = .ok (.aaload, 1) := by decide +kernel
theorem dX9_setStock_32 : decode cX9_setStock 32 = .ok (.astore_n 3, 1) := by decide +kernel
theorem dX9_setStock_33 : decode cX9_setStock 33 = .ok (.aload_n 3, 1) := by decide +kernel
theorem dX9_setStock_34 : decode cX9_setStock 34 = .ok (.getfield 148, 3) := by decide +kernel
theorem dX9_setStock_37 : decode cX9_setStock 37 = .ok (.istore 4, 2) := by decide +kernel
theorem dX9_setStock_39 : decode cX9_setStock 39 = .ok (.aload_n 3, 1) := by decide +kernel
theorem dX9_setStock_40 : decode cX9_setStock 40 = .ok (.iload_n 2, 1) := by decide +kernel
theorem dX9_setStock_41 : decode cX9_setStock 41 = .ok (.putfield 148, 3) := by decide +kernel
theorem dX9_setStock_44 : decode cX9_setStock 44 = .ok (.iload 4, 2) := by decide +kernel
theorem dX9_setStock_46 : decode cX9_setStock 46 = .ok (.ireturn, 1) := by decide +kernel
theorem dX9_base_0 : decode cX9_base 0 = .ok (.aload_n 0, 1) := by decide +kernel
theorem dX9_base_1 : decode cX9_base 1 = .ok (.iload_n 1, 1) := by decide +kernel
theorem dX9_base_2 : decode cX9_base 2 = .ok (.invokevirtual 141, 3) := by decide +kernel
theorem dX9_base_5 : decode cX9_base 5 = .ok (.iload_n 2, 1) := by decide +kernel
theorem dX9_base_6 : decode cX9_base 6 = .ok (.iconst 0, 1) := by decide +kernel
theorem dX9_base_7 : decode cX9_base 7 = .ok (.iconst 5, 1) := by decide +kernel
theorem dX9_base_8 : decode cX9_base 8 = .ok (.invokestatic 61, 3) := by decide +kernel
theorem dX9_base_11 : decode cX9_base 11 = .ok (.aload_n 0, 1) := by decide +kernel
theorem dX9_base_12 : decode cX9_base 12 = .ok (.getfield 12, 3) := by decide +kernel
theorem dX9_base_15 : decode cX9_base 15 = .ok (.iload_n 1, 1) := by decide +kernel
theorem dX9_base_16 : decode cX9_base 16 = .ok (.iload_n 2, 1) := by decide +kernel
theorem dX9_base_17 : decode cX9_base 17 = .ok (.invokevirtual 153, 3) := by decide +kernel
theorem dX9_base_20 : decode cX9_base 20 = .ok (.ireturn, 1) := by decide +kernel
theorem dX9_append_0 : decode cX9_append 0 = .ok (.aload_n 0, 1) := by decide +kernel
theorem dX9_append_1 : decode cX9_append 1 = .ok (.getfield 33, 3) := by decide +kernel
theorem dX9_append_4 : decode cX9_append 4 = .ok (.getfield 156, 3) := by decide +kernel
theorem dX9_append_7 : decode cX9_append 7 = .ok (.bipush 60, 2) := by decide +kernel
theorem dX9_append_9 : decode cX9_append 9 = .ok (.if_icmp .lt 13, 3) := by decide +kernel
theorem dX9_append_12 : decode cX9_append 12 = .ok (.new 68, 3) := by decide +kernel
theorem dX9_append_15 : decode cX9_append 15 = .ok (.dup, 1) := by decide +kernel
theorem dX9_append_16 : decode cX9_append 16 = .ok (.ldc 159, 2) := by decide +kernel
theorem dX9_append_18 : decode cX9_append 18 = .ok (.invokespecial 72, 3) := by decide +kernel
theorem dX9_append_21 : decode cX9_append 21 = .ok (.athrow, 1) := by decide +kernel
theorem dX9_append_22 : decode cX9_append 22 = .ok (.aload_n 0, 1) := by decide +kernel
theorem dX9_append_23 : decode cX9_append 23 = .ok (.getfield 33, 3) := by decide +kernel
theorem dX9_append_26 : decode cX9_append 26 = .ok (.iload_n 1, 1) := by decide +kernel
theorem dX9_append_27 : decode cX9_append 27 = .ok (.invokevirtual 161, 3) := by decide +kernel
theorem dX9_append_30 : decode cX9_append 30 = .ok (.return_, 1) := by decide +kernel
theorem dX9_readFormula_0 : decode cX9_readFormula 0 = .ok (.aload_n 0, 1) := by decide +kernel
theorem dX9_readFormula_1 : decode cX9_readFormula 1 = .ok (.aload_n 0, 1) := by decide +kernel
theorem dX9_readFormula_2 : decode cX9_readFormula 2 = .ok (.getfield 33, 3) := by decide +kernel
theorem dX9_readFormula_5 : decode cX9_readFormula 5 = .ok (.invokevirtual 165, 3) := by decide +kernel
theorem dX9_readFormula_8 : decode cX9_readFormula 8 = .ok (.putfield 37, 3) := by decide +kernel
theorem dX9_readFormula_11 : decode cX9_readFormula 11 = .ok (.aload_n 0, 1) := by decide +kernel
theorem dX9_readFormula_12 : decode cX9_readFormula 12 = .ok (.getfield 33, 3) := by decide +kernel
theorem dX9_readFormula_15 : decode cX9_readFormula 15 = .ok (.invokevirtual 168, 3) := by decide +kernel
theorem dX9_readFormula_18 : decode cX9_readFormula 18 = .ok (.aload_n 0, 1) := by decide +kernel
theorem dX9_readFormula_19 : decode cX9_readFormula 19 = .ok (.getfield 37, 3) := by decide +kernel
theorem dX9_readFormula_22 : decode cX9_readFormula 22 = .ok (.iconst (-1), 1) := by decide +kernel
theorem dX9_readFormula_23 : decode cX9_readFormula 23 = .ok (.if_icmp .eq 13, 3) := by decide +kernel
theorem dX9_readFormula_26 : decode cX9_readFormula 26 = .ok (.new 171, 3) := by decide +kernel
theorem dX9_readFormula_29 : decode cX9_readFormula 29 = .ok (.dup, 1) := by decide +kernel
theorem dX9_readFormula_30 : decode cX9_readFormula 30 = .ok (.ldc 173, 2) := by decide +kernel
theorem dX9_readFormula_32 : decode cX9_readFormula 32 = .ok (.invokespecial 175, 3) := by decide +kernel
theorem dX9_readFormula_35 : decode cX9_readFormula 35 = .ok (.athrow, 1) := by decide +kernel
theorem dX9_readFormula_36 : decode cX9_readFormula 36 = .ok (.aload_n 0, 1) := by decide +kernel
theorem dX9_readFormula_37 : decode cX9_readFormula 37 = .ok (.aload_n 0, 1) := by decide +kernel
theorem dX9_readFormula_38 : decode cX9_readFormula 38 = .ok (.getfield 12, 3) := by decide +kernel
theorem dX9_readFormula_41 : decode cX9_readFormula 41 = .ok (.aload_n 0, 1) := by decide +kernel
theorem dX9_readFormula_42 : decode cX9_readFormula 42 = .ok (.getfield 33, 3) := by decide +kernel
theorem dX9_readFormula_45 : decode cX9_readFormula 45 = .ok (.invokevirtual 176, 3) := by decide +kernel
theorem dX9_readFormula_48 : decode cX9_readFormula 48 = .ok (.iconst (-1), 1) := by decide +kernel
theorem dX9_readFormula_49 : decode cX9_readFormula 49 = .ok (.invokevirtual 99, 3) := by decide +kernel
theorem dX9_readFormula_52 : decode cX9_readFormula 52 = .ok (.aload_n 0, 1) := by decide +kernel
theorem dX9_readFormula_53 : decode cX9_readFormula 53 = .ok (.getfield 26, 3) := by decide +kernel
theorem dX9_readFormula_56 : decode cX9_readFormula 56 = .ok (.aload_n 0, 1) := by decide +kernel
theorem dX9_readFormula_57 : decode cX9_readFormula 57 = .ok (.getfield 12, 3) := by decide +kernel
theorem dX9_readFormula_60 : decode cX9_readFormula 60 = .ok (.invokevirtual 75, 3) := by decide +kernel
theorem dX9_readFormula_63 : decode cX9_readFormula 63 = .ok (.aload_n 0, 1) := by decide +kernel
theorem dX9_readFormula_64 : decode cX9_readFormula 64 = .ok (.getfield 12, 3) := by decide +kernel
theorem dX9_readFormula_67 : decode cX9_readFormula 67 = .ok (.aload_n 0, 1) := by decide +kernel
theorem dX9_readFormula_68 : decode cX9_readFormula 68 = .ok (.getfield 33, 3) := by decide +kernel
theorem dX9_readFormula_71 : decode cX9_readFormula 71 = .ok (.invokevirtual 180, 3) := by decide +kernel
theorem dX9_readFormula_74 : decode cX9_readFormula 74 = .ok (.ireturn, 1) := by decide +kernel
theorem dX9_faultPosition_0 : decode cX9_faultPosition 0 = .ok (.aload_n 0, 1) := by decide +kernel
theorem dX9_faultPosition_1 : decode cX9_faultPosition 1 = .ok (.getfield 37, 3) := by decide +kernel
theorem dX9_faultPosition_4 : decode cX9_faultPosition 4 = .ok (.ireturn, 1) := by decide +kernel
theorem dX9_setAmount_0 : decode cX9_setAmount 0 = .ok (.aload_n 0, 1) := by decide +kernel
theorem dX9_setAmount_1 : decode cX9_setAmount 1 = .ok (.iload_n 1, 1) := by decide +kernel
theorem dX9_setAmount_2 : decode cX9_setAmount 2 = .ok (.invokevirtual 183, 3) := by decide +kernel
theorem dX9_setAmount_5 : decode cX9_setAmount 5 = .ok (.aload_n 0, 1) := by decide +kernel
theorem dX9_setAmount_6 : decode cX9_setAmount 6 = .ok (.iload_n 2, 1) := by decide +kernel
theorem dX9_setAmount_7 : decode cX9_setAmount 7 = .ok (.invokevirtual 83, 3) := by decide +kernel
theorem dX9_setAmount_10 : decode cX9_setAmount 10 = .ok (.iload_n 3, 1) := by decide +kernel
theorem dX9_setAmount_11 : decode cX9_setAmount 11 = .ok (.iconst 0, 1) := by decide +kernel
theorem dX9_setAmount_12 : decode cX9_setAmount 12 = .ok (.sipush 9999, 3) := by decide +kernel
theorem dX9_setAmount_15 : decode cX9_setAmount 15 = .ok (.invokestatic 61, 3) := by decide +kernel
theorem dX9_setAmount_18 : decode cX9_setAmount 18 = .ok (.aload_n 0, 1) := by decide +kernel
theorem dX9_setAmount_19 : decode cX9_setAmount 19 = .ok (.getfield 26, 3) := by decide +kernel
theorem dX9_setAmount_22 : decode cX9_setAmount 22 = .ok (.aload_n 0, 1) := by decide +kernel
theorem dX9_setAmount_23 : decode cX9_setAmount 23 = .ok (.getfield 12, 3) := by decide +kernel
theorem dX9_setAmount_26 : decode cX9_setAmount 26 = .ok (.invokevirtual 75, 3) := by decide +kernel
theorem dX9_setAmount_29 : decode cX9_setAmount 29 = .ok (.aload_n 0, 1) := by decide +kernel
theorem dX9_setAmount_30 : decode cX9_setAmount 30 = .ok (.getfield 12, 3) := by decide +kernel
theorem dX9_setAmount_33 : decode cX9_setAmount 33 = .ok (.getfield 186, 3) := by decide +kernel
theorem dX9_setAmount_36 : decode cX9_setAmount 36 = .ok (.iload_n 1, 1) := by decide +kernel
theorem dX9_setAmount_37 : decode cX9_setAmount 37 = .ok (.aaload, 1) := by decide +kernel
theorem dX9_setAmount_38 : decode cX9_setAmount 38 = .ok (.astore 4, 2) := by decide +kernel
theorem dX9_setAmount_40 : decode cX9_setAmount 40 = .ok (.aload 4, 2) := by decide +kernel
theorem dX9_setAmount_42 : decode cX9_setAmount 42 = .ok (.getfield 190, 3) := by decide +kernel
theorem dX9_setAmount_45 : decode cX9_setAmount 45 = .ok (.iload_n 2, 1) := by decide +kernel
theorem dX9_setAmount_46 : decode cX9_setAmount 46 = .ok (.iaload, 1) := by decide +kernel
theorem dX9_setAmount_47 : decode cX9_setAmount 47 = .ok (.istore 5, 2) := by decide +kernel
theorem dX9_setAmount_49 : decode cX9_setAmount 49 = .ok (.aload 4, 2) := by decide +kernel
theorem dX9_setAmount_51 : decode cX9_setAmount 51 = .ok (.getfield 190, 3) := by decide +kernel
theorem dX9_setAmount_54 : decode cX9_setAmount 54 = .ok (.iload_n 2, 1) := by decide +kernel
theorem dX9_setAmount_55 : decode cX9_setAmount 55 = .ok (.iload_n 3, 1) := by decide +kernel
theorem dX9_setAmount_56 : decode cX9_setAmount 56 = .ok (.iastore, 1) := by decide +kernel
theorem dX9_setAmount_57 : decode cX9_setAmount 57 = .ok (.aload 4, 2) := by decide +kernel
theorem dX9_setAmount_59 : decode cX9_setAmount 59 = .ok (.getfield 196, 3) := by decide +kernel
theorem dX9_setAmount_62 : decode cX9_setAmount 62 = .ok (.iload_n 2, 1) := by decide +kernel
theorem dX9_setAmount_63 : decode cX9_setAmount 63 = .ok (.iconst 0, 1) := by decide +kernel
theorem dX9_setAmount_64 : decode cX9_setAmount 64 = .ok (.iastore, 1) := by decide +kernel
theorem dX9_setAmount_65 : decode cX9_setAmount 65 = .ok (.iload 5, 2) := by decide +kernel
theorem dX9_setAmount_67 : decode cX9_setAmount 67 = .ok (.ireturn, 1) := by decide +kernel
theorem dX9_amount_0 : decode cX9_amount 0 = .ok (.aload_n 0, 1) := by decide +kernel
theorem dX9_amount_1 : decode cX9_amount 1 = .ok (.iload_n 1, 1) := by decide +kernel
theorem dX9_amount_2 : decode cX9_amount 2 = .ok (.invokevirtual 183, 3) := by decide +kernel
theorem dX9_amount_5 : decode cX9_amount 5 = .ok (.aload_n 0, 1) := by decide +kernel
theorem dX9_amount_6 : decode cX9_amount 6 = .ok (.iload_n 2, 1) := by decide +kernel
theorem dX9_amount_7 : decode cX9_amount 7 = .ok (.invokevirtual 83, 3) := by decide +kernel
theorem dX9_amount_10 : decode cX9_amount 10 = .ok (.aload_n 0, 1) := by decide +kernel
theorem dX9_amount_11 : decode cX9_amount 11 = .ok (.getfield 12, 3) := by decide +kernel
theorem dX9_amount_14 : decode cX9_amount 14 = .ok (.getfield 186, 3) := by decide +kernel
theorem dX9_amount_17 : decode cX9_amount 17 = .ok (.iload_n 1, 1) := by decide +kernel
theorem dX9_amount_18 : decode cX9_amount 18 = .ok (.aaload, 1) := by decide +kernel
theorem dX9_amount_19 : decode cX9_amount 19 = .ok (.astore 4, 2) := by decide +kernel
theorem dX9_amount_21 : decode cX9_amount 21 = .ok (.iload_n 3, 1) := by decide +kernel
theorem dX9_amount_22 : decode cX9_amount 22 = .ok (.ifCond .eq 13, 3) := by decide +kernel
theorem dX9_amount_25 : decode cX9_amount 25 = .ok (.aload 4, 2) := by decide +kernel
theorem dX9_amount_27 : decode cX9_amount 27 = .ok (.getfield 196, 3) := by decide +kernel
theorem dX9_amount_30 : decode cX9_amount 30 = .ok (.iload_n 2, 1) := by decide +kernel
theorem dX9_amount_31 : decode cX9_amount 31 = .ok (.iaload, 1) := by decide +kernel
theorem dX9_amount_32 : decode cX9_amount 32 = .ok (.goto 10, 3) := by decide +kernel
theorem dX9_amount_35 : decode cX9_amount 35 = .ok (.aload 4, 2) := by decide +kernel
theorem dX9_amount_37 : decode cX9_amount 37 = .ok (.getfield 190, 3) := by decide +kernel
theorem dX9_amount_40 : decode cX9_amount 40 = .ok (.iload_n 2, 1) := by decide +kernel
theorem dX9_amount_41 : decode cX9_amount 41 = .ok (.iaload, 1) := by decide +kernel
theorem dX9_amount_42 : decode cX9_amount 42 = .ok (.ireturn, 1) := by decide +kernel
theorem dX9_baseOf_0 : decode cX9_baseOf 0 = .ok (.aload_n 0, 1) := by decide +kernel
theorem dX9_baseOf_1 : decode cX9_baseOf 1 = .ok (.iload_n 1, 1) := by decide +kernel
theorem dX9_baseOf_2 : decode cX9_baseOf 2 = .ok (.invokevirtual 183, 3) := by decide +kernel
theorem dX9_baseOf_5 : decode cX9_baseOf 5 = .ok (.aload_n 0, 1) := by decide +kernel
theorem dX9_baseOf_6 : decode cX9_baseOf 6 = .ok (.getfield 12, 3) := by decide +kernel
theorem dX9_baseOf_9 : decode cX9_baseOf 9 = .ok (.getfield 186, 3) := by decide +kernel
theorem dX9_baseOf_12 : decode cX9_baseOf 12 = .ok (.iload_n 1, 1) := by decide +kernel
theorem dX9_baseOf_13 : decode cX9_baseOf 13 = .ok (.aaload, 1) := by decide +kernel
theorem dX9_baseOf_14 : decode cX9_baseOf 14 = .ok (.getfield 199, 3) := by decide +kernel
theorem dX9_baseOf_17 : decode cX9_baseOf 17 = .ok (.ireturn, 1) := by decide +kernel
theorem dX9_closest_0 : decode cX9_closest 0 = .ok (.aload_n 0, 1) := by decide +kernel
theorem dX9_closest_1 : decode cX9_closest 1 = .ok (.iload_n 1, 1) := by decide +kernel
theorem dX9_closest_2 : decode cX9_closest 2 = .ok (.invokevirtual 202, 3) := by decide +kernel
theorem dX9_closest_5 : decode cX9_closest 5 = .ok (.aload_n 0, 1) := by decide +kernel
theorem dX9_closest_6 : decode cX9_closest 6 = .ok (.getfield 12, 3) := by decide +kernel
theorem dX9_closest_9 : decode cX9_closest 9 = .ok (.aload_n 0, 1) := by decide +kernel
theorem dX9_closest_10 : decode cX9_closest 10 = .ok (.getfield 12, 3) := by decide +kernel
theorem dX9_closest_13 : decode cX9_closest 13 = .ok (.getfield 205, 3) := by decide +kernel
theorem dX9_closest_16 : decode cX9_closest 16 = .ok (.iload_n 1, 1) := by decide +kernel
theorem dX9_closest_17 : decode cX9_closest 17 = .ok (.aaload, 1) := by decide +kernel
theorem dX9_closest_18 : decode cX9_closest 18 = .ok (.invokevirtual 209, 3) := by decide +kernel
theorem dX9_closest_21 : decode cX9_closest 21 = .ok (.ireturn, 1) := by decide +kernel
theorem dX9_mix_0 : decode cX9_mix 0 = .ok (.aload_n 0, 1) := by decide +kernel
theorem dX9_mix_1 : decode cX9_mix 1 = .ok (.iload_n 1, 1) := by decide +kernel
theorem dX9_mix_2 : decode cX9_mix 2 = .ok (.invokevirtual 183, 3) := by decide +kernel
theorem dX9_mix_5 : decode cX9_mix 5 = .ok (.aload_n 0, 1) := by decide +kernel
theorem dX9_mix_6 : decode cX9_mix 6 = .ok (.getfield 12, 3) := by decide +kernel
theorem dX9_mix_9 : decode cX9_mix 9 = .ok (.getfield 186, 3) := by decide +kernel
theorem dX9_mix_12 : decode cX9_mix 12 = .ok (.iload_n 1, 1) := by decide +kernel
theorem dX9_mix_13 : decode cX9_mix 13 = .ok (.aaload, 1) := by decide +kernel
theorem dX9_mix_14 : decode cX9_mix 14 = .ok (.astore_n 2, 1) := by decide +kernel
theorem dX9_mix_15 : decode cX9_mix 15 = .ok (.aload_n 0, 1) := by decide +kernel
theorem dX9_mix_16 : decode cX9_mix 16 = .ok (.aload_n 0, 1) := by decide +kernel
theorem dX9_mix_17 : decode cX9_mix 17 = .ok (.getfield 12, 3) := by decide +kernel
theorem dX9_mix_20 : decode cX9_mix 20 = .ok (.aload_n 2, 1) := by decide +kernel
theorem dX9_mix_21 : decode cX9_mix 21 = .ok (.invokevirtual 213, 3) := by decide +kernel
theorem dX9_mix_24 : decode cX9_mix 24 = .ok (.aload_n 0, 1) := by decide +kernel
theorem dX9_mix_25 : decode cX9_mix 25 = .ok (.getfield 12, 3) := by decide +kernel
theorem dX9_mix_28 : decode cX9_mix 28 = .ok (.aload_n 2, 1) := by decide +kernel
theorem dX9_mix_29 : decode cX9_mix 29 = .ok (.iconst 1, 1) := by decide +kernel
theorem dX9_mix_30 : decode cX9_mix 30 = .ok (.invokevirtual 217, 3) := by decide +kernel
theorem dX9_mix_33 : decode cX9_mix 33 = .ok (.invokevirtual 99, 3) := by decide +kernel
theorem dX9_mix_36 : decode cX9_mix 36 = .ok (.aload_n 0, 1) := by decide +kernel
theorem dX9_mix_37 : decode cX9_mix 37 = .ok (.getfield 26, 3) := by decide +kernel
theorem dX9_mix_40 : decode cX9_mix 40 = .ok (.aload_n 0, 1) := by decide +kernel
theorem dX9_mix_41 : decode cX9_mix 41 = .ok (.getfield 12, 3) := by decide +kernel
theorem dX9_mix_44 : decode cX9_mix 44 = .ok (.invokevirtual 75, 3) := by decide +kernel
theorem dX9_mix_47 : decode cX9_mix 47 = .ok (.aload_n 0, 1) := by decide +kernel
theorem dX9_mix_48 : decode cX9_mix 48 = .ok (.getfield 12, 3) := by decide +kernel
theorem dX9_mix_51 : decode cX9_mix 51 = .ok (.iload_n 1, 1) := by decide +kernel
theorem dX9_mix_52 : decode cX9_mix 52 = .ok (.invokevirtual 221, 3) := by decide +kernel
theorem dX9_mix_55 : decode cX9_mix 55 = .ok (.ireturn, 1) := by decide +kernel
theorem dX9_possible_0 : decode cX9_possible 0 = .ok (.aload_n 0, 1) := by decide +kernel
theorem dX9_possible_1 : decode cX9_possible 1 = .ok (.iload_n 1, 1) := by decide +kernel
theorem dX9_possible_2 : decode cX9_possible 2 = .ok (.invokevirtual 183, 3) := by decide +kernel
theorem dX9_possible_5 : decode cX9_possible 5 = .ok (.aload_n 0, 1) := by decide +kernel
theorem dX9_possible_6 : decode cX9_possible 6 = .ok (.getfield 12, 3) := by decide +kernel
theorem dX9_possible_9 : decode cX9_possible 9 = .ok (.aload_n 0, 1) := by decide +kernel
theorem dX9_possible_10 : decode cX9_possible 10 = .ok (.getfield 12, 3) := by decide +kernel
theorem dX9_possible_13 : decode cX9_possible 13 = .ok (.getfield 186, 3) := by decide +kernel
theorem dX9_possible_16 : decode cX9_possible 16 = .ok (.iload_n 1, 1) := by decide +kernel
theorem dX9_possible_17 : decode cX9_possible 17 = .ok (.aaload, 1) := by decide +kernel
theorem dX9_possible_18 : decode cX9_possible 18 = .ok (.invokevirtual 224, 3) := by decide +kernel
theorem dX9_possible_21 : decode cX9_possible 21 = .ok (.ireturn, 1) := by decide +kernel
theorem dX9_refusal_0 : decode cX9_refusal 0 = .ok (.aload_n 0, 1) := by decide +kernel
theorem dX9_refusal_1 : decode cX9_refusal 1 = .ok (.getfield 41, 3) := by decide +kernel
theorem dX9_refusal_4 : decode cX9_refusal 4 = .ok (.ifCond .ne 13, 3) := by decide +kernel
theorem dX9_refusal_7 : decode cX9_refusal 7 = .ok (.new 120, 3) := by decide +kernel
theorem dX9_refusal_10 : decode cX9_refusal 10 = .ok (.dup, 1) := by decide +kernel
theorem dX9_refusal_11 : decode cX9_refusal 11 = .ok (.ldc 227, 2) := by decide +kernel
theorem dX9_refusal_13 : decode cX9_refusal 13 = .ok (.invokespecial 124, 3) := by decide +kernel
theorem dX9_refusal_16 : decode cX9_refusal 16 = .ok (.athrow, 1) := by decide +kernel
theorem dX9_refusal_17 : decode cX9_refusal 17 = .ok (.aload_n 0, 1) := by decide +kernel
theorem dX9_refusal_18 : decode cX9_refusal 18 = .ok (.getfield 41, 3) := by decide +kernel
theorem dX9_refusal_21 : decode cX9_refusal 21 = .ok (.ireturn, 1) := by decide +kernel
theorem dX9_lacking_0 : decode cX9_lacking 0 = .ok (.aload_n 0, 1) := by decide +kernel
theorem dX9_lacking_1 : decode cX9_lacking 1 = .ok (.getfield 41, 3) := by decide +kernel
theorem dX9_lacking_4 : decode cX9_lacking 4 = .ok (.iconst 5, 1) := by decide +kernel
theorem dX9_lacking_5 : decode cX9_lacking 5 = .ok (.if_icmp .eq 13, 3) := by decide +kernel
theorem dX9_lacking_8 : decode cX9_lacking 8 = .ok (.new 120, 3) := by decide +kernel
theorem dX9_lacking_11 : decode cX9_lacking 11 = .ok (.dup, 1) := by decide +kernel
theorem dX9_lacking_12 : decode cX9_lacking 12 = .ok (.ldc 229, 2) := by decide +kernel
theorem dX9_lacking_14 : decode cX9_lacking 14 = .ok (.invokespecial 124, 3) := by decide +kernel
theorem dX9_lacking_17 : decode cX9_lacking 17 = .ok (.athrow, 1) := by decide +kernel
theorem dX9_lacking_18 : decode cX9_lacking 18 = .ok (.aload_n 0, 1) := by decide +kernel
theorem dX9_lacking_19 : decode cX9_lacking 19 = .ok (.getfield 44, 3) := by decide +kernel
theorem dX9_lacking_22 : decode cX9_lacking 22 = .ok (.ireturn, 1) := by decide +kernel
theorem dX9_steps_0 : decode cX9_steps 0 = .ok (.aload_n 0, 1) := by decide +kernel
theorem dX9_steps_1 : decode cX9_steps 1 = .ok (.iload_n 1, 1) := by decide +kernel
theorem dX9_steps_2 : decode cX9_steps 2 = .ok (.invokevirtual 202, 3) := by decide +kernel
theorem dX9_steps_5 : decode cX9_steps 5 = .ok (.aload_n 0, 1) := by decide +kernel
theorem dX9_steps_6 : decode cX9_steps 6 = .ok (.iload_n 2, 1) := by decide +kernel
theorem dX9_steps_7 : decode cX9_steps 7 = .ok (.invokevirtual 83, 3) := by decide +kernel
theorem dX9_steps_10 : decode cX9_steps 10 = .ok (.aload_n 0, 1) := by decide +kernel
theorem dX9_steps_11 : decode cX9_steps 11 = .ok (.getfield 12, 3) := by decide +kernel
theorem dX9_steps_14 : decode cX9_steps 14 = .ok (.getfield 205, 3) := by decide +kernel
theorem dX9_steps_17 : decode cX9_steps 17 = .ok (.iload_n 1, 1) := by decide +kernel
theorem dX9_steps_18 : decode cX9_steps 18 = .ok (.aaload, 1) := by decide +kernel
theorem dX9_steps_19 : decode cX9_steps 19 = .ok (.getfield 231, 3) := by decide +kernel
theorem dX9_steps_22 : decode cX9_steps 22 = .ok (.iload_n 2, 1) := by decide +kernel
theorem dX9_steps_23 : decode cX9_steps 23 = .ok (.iaload, 1) := by decide +kernel
theorem dX9_steps_24 : decode cX9_steps 24 = .ok (.ireturn, 1) := by decide +kernel
theorem dX9_can_0 : decode cX9_can 0 = .ok (.aload_n 0, 1) := by decide +kernel
theorem dX9_can_1 : decode cX9_can 1 = .ok (.iload_n 1, 1) := by decide +kernel
theorem dX9_can_2 : decode cX9_can 2 = .ok (.invokevirtual 202, 3) := by decide +kernel
theorem dX9_can_5 : decode cX9_can 5 = .ok (.iload_n 2, 1) := by decide +kernel
theorem dX9_can_6 : decode cX9_can 6 = .ok (.iconst 0, 1) := by decide +kernel
theorem dX9_can_7 : decode cX9_can 7 = .ok (.iconst 5, 1) := by decide +kernel
theorem dX9_can_8 : decode cX9_can 8 = .ok (.invokestatic 61, 3) := by decide +kernel
theorem dX9_can_11 : decode cX9_can 11 = .ok (.aload_n 0, 1) := by decide +kernel
theorem dX9_can_12 : decode cX9_can 12 = .ok (.getfield 12, 3) := by decide +kernel
theorem dX9_can_15 : decode cX9_can 15 = .ok (.aload_n 0, 1) := by decide +kernel
theorem dX9_can_16 : decode cX9_can 16 = .ok (.getfield 12, 3) := by decide +kernel
theorem dX9_can_19 : decode cX9_can 19 = .ok (.getfield 205, 3) := by decide +kernel
theorem dX9_can_22 : decode cX9_can 22 = .ok (.iload_n 1, 1) := by decide +kernel
theorem dX9_can_23 : decode cX9_can 23 = .ok (.aaload, 1) := by decide +kernel
theorem dX9_can_24 : decode cX9_can 24 = .ok (.iload_n 2, 1) := by decide +kernel
theorem dX9_can_25 : decode cX9_can 25 = .ok (.invokevirtual 236, 3) := by decide +kernel
theorem dX9_can_28 : decode cX9_can 28 = .ok (.ireturn, 1) := by decide +kernel
theorem dX9_colour_0 : decode cX9_colour 0 = .ok (.aload_n 0, 1) := by decide +kernel
theorem dX9_colour_1 : decode cX9_colour 1 = .ok (.iload_n 1, 1) := by decide +kernel
theorem dX9_colour_2 : decode cX9_colour 2 = .ok (.invokevirtual 202, 3) := by decide +kernel
theorem dX9_colour_5 : decode cX9_colour 5 = .ok (.iload_n 2, 1) := by decide +kernel
theorem dX9_colour_6 : decode cX9_colour 6 = .ok (.iconst 0, 1) := by decide +kernel
theorem dX9_colour_7 : decode cX9_colour 7 = .ok (.iconst 2, 1) := by decide +kernel
theorem dX9_colour_8 : decode cX9_colour 8 = .ok (.invokestatic 61, 3) := by decide +kernel
theorem dX9_colour_11 : decode cX9_colour 11 = .ok (.aload_n 0, 1) := by decide +kernel
theorem dX9_colour_12 : decode cX9_colour 12 = .ok (.getfield 12, 3) := by decide +kernel
theorem dX9_colour_15 : decode cX9_colour 15 = .ok (.aload_n 0, 1) := by decide +kernel
theorem dX9_colour_16 : decode cX9_colour 16 = .ok (.getfield 12, 3) := by decide +kernel
theorem dX9_colour_19 : decode cX9_colour 19 = .ok (.getfield 205, 3) := by decide +kernel
theorem dX9_colour_22 : decode cX9_colour 22 = .ok (.iload_n 1, 1) := by decide +kernel
theorem dX9_colour_23 : decode cX9_colour 23 = .ok (.aaload, 1) := by decide +kernel
theorem dX9_colour_24 : decode cX9_colour 24 = .ok (.iload_n 2, 1) := by decide +kernel
theorem dX9_colour_25 : decode cX9_colour 25 = .ok (.invokevirtual 240, 3) := by decide +kernel
theorem dX9_colour_28 : decode cX9_colour 28 = .ok (.ireturn, 1) := by decide +kernel
theorem dX9_correct_0 : decode cX9_correct 0 = .ok (.aload_n 0, 1) := by decide +kernel
theorem dX9_correct_1 : decode cX9_correct 1 = .ok (.iload_n 1, 1) := by decide +kernel
theorem dX9_correct_2 : decode cX9_correct 2 = .ok (.invokevirtual 202, 3) := by decide +kernel
theorem dX9_correct_5 : decode cX9_correct 5 = .ok (.aload_n 0, 1) := by decide +kernel
theorem dX9_correct_6 : decode cX9_correct 6 = .ok (.iload_n 2, 1) := by decide +kernel
theorem dX9_correct_7 : decode cX9_correct 7 = .ok (.invokevirtual 83, 3) := by decide +kernel
theorem dX9_correct_10 : decode cX9_correct 10 = .ok (.iload_n 3, 1) := by decide +kernel
theorem dX9_correct_11 : decode cX9_correct 11 = .ok (.iconst 1, 1) := by decide +kernel
theorem dX9_correct_12 : decode cX9_correct 12 = .ok (.bipush 50, 2) := by decide +kernel
theorem dX9_correct_14 : decode cX9_correct 14 = .ok (.invokestatic 61, 3) := by decide +kernel
theorem dX9_correct_17 : decode cX9_correct 17 = .ok (.aload_n 0, 1) := by decide +kernel
theorem dX9_correct_18 : decode cX9_correct 18 = .ok (.getfield 12, 3) := by decide +kernel
theorem dX9_correct_21 : decode cX9_correct 21 = .ok (.getfield 205, 3) := by decide +kernel
theorem dX9_correct_24 : decode cX9_correct 24 = .ok (.iload_n 1, 1) := by decide +kernel
theorem dX9_correct_25 : decode cX9_correct 25 = .ok (.aaload, 1) := by decide +kernel
theorem dX9_correct_26 : decode cX9_correct 26 = .ok (.astore 4, 2) := by decide +kernel
theorem dX9_correct_28 : decode cX9_correct 28 = .ok (.aload_n 0, 1) := by decide +kernel
theorem dX9_correct_29 : decode cX9_correct 29 = .ok (.aload_n 0, 1) := by decide +kernel
theorem dX9_correct_30 : decode cX9_correct 30 = .ok (.getfield 12, 3) := by decide +kernel
theorem dX9_correct_33 : decode cX9_correct 33 = .ok (.aload 4, 2) := by decide +kernel
theorem dX9_correct_35 : decode cX9_correct 35 = .ok (.iload_n 2, 1) := by decide +kernel
theorem dX9_correct_36 : decode cX9_correct 36 = .ok (.iload_n 3, 1) := by decide +kernel
theorem dX9_correct_37 : decode cX9_correct 37 = .ok (.invokevirtual 243, 3) := by decide +kernel
theorem dX9_correct_40 : decode cX9_correct 40 = .ok (.iload_n 2, 1) := by decide +kernel
theorem dX9_correct_41 : decode cX9_correct 41 = .ok (.invokevirtual 99, 3) := by decide +kernel
theorem dX9_correct_44 : decode cX9_correct 44 = .ok (.aload_n 0, 1) := by decide +kernel
theorem dX9_correct_45 : decode cX9_correct 45 = .ok (.getfield 26, 3) := by decide +kernel
theorem dX9_correct_48 : decode cX9_correct 48 = .ok (.aload_n 0, 1) := by decide +kernel
theorem dX9_correct_49 : decode cX9_correct 49 = .ok (.getfield 12, 3) := by decide +kernel
theorem dX9_correct_52 : decode cX9_correct 52 = .ok (.invokevirtual 75, 3) := by decide +kernel
theorem dX9_correct_55 : decode cX9_correct 55 = .ok (.aload_n 0, 1) := by decide +kernel
theorem dX9_correct_56 : decode cX9_correct 56 = .ok (.getfield 12, 3) := by decide +kernel
theorem dX9_correct_59 : decode cX9_correct 59 = .ok (.getfield 87, 3) := by decide +kernel
theorem dX9_correct_62 : decode cX9_correct 62 = .ok (.iload_n 2, 1) := by decide +kernel
theorem dX9_correct_63 : decode cX9_correct 63 = .ok (.aaload, 1) := by decide +kernel
theorem dX9_correct_64 : decode cX9_correct 64 = .ok (.aload 4, 2) := by decide +kernel
theorem dX9_correct_66 : decode cX9_correct 66 = .ok (.iload_n 2, 1) := by decide +kernel
theorem dX9_correct_67 : decode cX9_correct 67 = .ok (.iload_n 3, 1) := by decide +kernel
theorem dX9_correct_68 : decode cX9_correct 68 = .ok (.invokevirtual 247, 3) := by decide +kernel
theorem dX9_correct_71 : decode cX9_correct 71 = .ok (.aload 4, 2) := by decide +kernel
theorem dX9_correct_73 : decode cX9_correct 73 = .ok (.dup, 1) := by decide +kernel
theorem dX9_correct_74 : decode cX9_correct 74 = .ok (.getfield 251, 3) := by decide +kernel
theorem dX9_correct_77 : decode cX9_correct 77 = .ok (.iconst 1, 1) := by decide +kernel
theorem dX9_correct_78 : decode cX9_correct 78 = .ok (.iadd, 1) := by decide +kernel
theorem dX9_correct_79 : decode cX9_correct 79 = .ok (.putfield 251, 3) := by decide +kernel
theorem dX9_correct_82 : decode cX9_correct 82 = .ok (.aload 4, 2) := by decide +kernel
theorem dX9_correct_84 : decode cX9_correct 84 = .ok (.dup, 1) := by decide +kernel
theorem dX9_correct_85 : decode cX9_correct 85 = .ok (.getfield 254, 3) := by decide +kernel
theorem dX9_correct_88 : decode cX9_correct 88 = .ok (.iload_n 3, 1) := by decide +kernel
theorem dX9_correct_89 : decode cX9_correct 89 = .ok (.iadd, 1) := by decide +kernel
theorem dX9_correct_90 : decode cX9_correct 90 = .ok (.putfield 254, 3) := by decide +kernel
theorem dX9_correct_93 : decode cX9_correct 93 = .ok (.aload 4, 2) := by decide +kernel
theorem dX9_correct_95 : decode cX9_correct 95 = .ok (.invokevirtual 257, 3) := by decide +kernel
theorem dX9_correct_98 : decode cX9_correct 98 = .ok (.ireturn, 1) := by decide +kernel
theorem dX9_least_0 : decode cX9_least 0 = .ok (.aload_n 0, 1) := by decide +kernel
theorem dX9_least_1 : decode cX9_least 1 = .ok (.iload_n 1, 1) := by decide +kernel
theorem dX9_least_2 : decode cX9_least 2 = .ok (.invokevirtual 202, 3) := by decide +kernel
theorem dX9_least_5 : decode cX9_least 5 = .ok (.iload 6, 2) := by decide +kernel
theorem dX9_least_7 : decode cX9_least 7 = .ok (.iconst (-1), 1) := by decide +kernel
theorem dX9_least_8 : decode cX9_least 8 = .ok (.if_icmp .eq 9, 3) := by decide +kernel
theorem dX9_least_11 : decode cX9_least 11 = .ok (.aload_n 0, 1) := by decide +kernel
theorem dX9_least_12 : decode cX9_least 12 = .ok (.iload 6, 2) := by decide +kernel
theorem dX9_least_14 : decode cX9_least 14 = .ok (.invokevirtual 83, 3) := by decide +kernel
theorem dX9_least_17 : decode cX9_least 17 = .ok (.iload 5, 2) := by decide +kernel
theorem dX9_least_19 : decode cX9_least 19 = .ok (.iconst 0, 1) := by decide +kernel
theorem dX9_least_20 : decode cX9_least 20 = .ok (.bipush 99, 2) := by decide +kernel
theorem dX9_least_22 : decode cX9_least 22 = .ok (.invokestatic 61, 3) := by decide +kernel
theorem dX9_least_25 : decode cX9_least 25 = .ok (.aload_n 0, 1) := by decide +kernel
theorem dX9_least_26 : decode cX9_least 26 = .ok (.getfield 12, 3) := by decide +kernel
theorem dX9_least_29 : decode cX9_least 29 = .ok (.getfield 205, 3) := by decide +kernel
theorem dX9_least_32 : decode cX9_least 32 = .ok (.iload_n 1, 1) := by decide +kernel
theorem dX9_least_33 : decode cX9_least 33 = .ok (.aaload, 1) := by decide +kernel
theorem dX9_least_34 : decode cX9_least 34 = .ok (.astore 7, 2) := by decide +kernel
theorem dX9_least_36 : decode cX9_least 36 = .ok (.aload_n 0, 1) := by decide +kernel
theorem dX9_least_37 : decode cX9_least 37 = .ok (.getfield 50, 3) := by decide +kernel
theorem dX9_least_40 : decode cX9_least 40 = .ok (.getfield 260, 3) := by decide +kernel
theorem dX9_least_43 : decode cX9_least 43 = .ok (.iconst 0, 1) := by decide +kernel
theorem dX9_least_44 : decode cX9_least 44 = .ok (.iload_n 2, 1) := by decide +kernel
theorem dX9_least_45 : decode cX9_least 45 = .ok (.i2l, 1) := by decide +kernel
theorem dX9_least_46 : decode cX9_least 46 = .ok (.aload_n 0, 1) := by decide +kernel
theorem dX9_least_47 : decode cX9_least 47 = .ok (.getfield 12, 3) := by decide +kernel
theorem dX9_least_50 : decode cX9_least 50 = .ok (.aload 7, 2) := by decide +kernel
theorem dX9_least_52 : decode cX9_least 52 = .ok (.iconst 0, 1) := by decide +kernel
theorem dX9_least_53 : decode cX9_least 53 = .ok (.invokevirtual 240, 3) := by decide +kernel
theorem dX9_least_56 : decode cX9_least 56 = .ok (.i2l, 1) := by decide +kernel
theorem dX9_least_57 : decode cX9_least 57 = .ok (.lsub, 1) := by decide +kernel
theorem dX9_least_58 : decode cX9_least 58 = .ok (.lastore, 1) := by decide +kernel
theorem dX9_least_59 : decode cX9_least 59 = .ok (.aload_n 0, 1) := by decide +kernel
theorem dX9_least_60 : decode cX9_least 60 = .ok (.getfield 50, 3) := by decide +kernel
theorem dX9_least_63 : decode cX9_least 63 = .ok (.getfield 260, 3) := by decide +kernel
theorem dX9_least_66 : decode cX9_least 66 = .ok (.iconst 1, 1) := by decide +kernel
theorem dX9_least_67 : decode cX9_least 67 = .ok (.iload_n 3, 1) := by decide +kernel
theorem dX9_least_68 : decode cX9_least 68 = .ok (.i2l, 1) := by decide +kernel
theorem dX9_least_69 : decode cX9_least 69 = .ok (.aload_n 0, 1) := by decide +kernel
theorem dX9_least_70 : decode cX9_least 70 = .ok (.getfield 12, 3) := by decide +kernel
theorem dX9_least_73 : decode cX9_least 73 = .ok (.aload 7, 2) := by decide +kernel
theorem dX9_least_75 : decode cX9_least 75 = .ok (.iconst 1, 1) := by decide +kernel
theorem dX9_least_76 : decode cX9_least 76 = .ok (.invokevirtual 240, 3) := by decide +kernel
theorem dX9_least_79 : decode cX9_least 79 = .ok (.i2l, 1) := by decide +kernel
theorem dX9_least_80 : decode cX9_least 80 = .ok (.lsub, 1) := by decide +kernel
theorem dX9_least_81 : decode cX9_least 81 = .ok (.lastore, 1) := by decide +kernel
theorem dX9_least_82 : decode cX9_least 82 = .ok (.aload_n 0, 1) := by decide +kernel
theorem dX9_least_83 : decode cX9_least 83 = .ok (.getfield 50, 3) := by decide +kernel
theorem dX9_least_86 : decode cX9_least 86 = .ok (.getfield 260, 3) := by decide +kernel
theorem dX9_least_89 : decode cX9_least 89 = .ok (.iconst 2, 1) := by decide +kernel
theorem dX9_least_90 : decode cX9_least 90 = .ok (.iload 4, 2) := by decide +kernel
theorem dX9_least_92 : decode cX9_least 92 = .ok (.i2l, 1) := by decide +kernel
theorem dX9_least_93 : decode cX9_least 93 = .ok (.aload_n 0, 1) := by decide +kernel
theorem dX9_least_94 : decode cX9_least 94 = .ok (.getfield 12, 3) := by decide +kernel
theorem dX9_least_97 : decode cX9_least 97 = .ok (.aload 7, 2) := by decide +kernel
theorem dX9_least_99 : decode cX9_least 99 = .ok (.iconst 2, 1) := by decide +kernel
theorem dX9_least_100 : decode cX9_least 100 = .ok (.invokevirtual 240, 3) := by decide +kernel
theorem dX9_least_103 : decode cX9_least 103 = .ok (.i2l, 1) := by decide +kernel
theorem dX9_least_104 : decode cX9_least 104 = .ok (.lsub, 1) := by decide +kernel
theorem dX9_least_105 : decode cX9_least 105 = .ok (.lastore, 1) := by decide +kernel
theorem dX9_least_106 : decode cX9_least 106 = .ok (.aload_n 0, 1) := by decide +kernel
theorem dX9_least_107 : decode cX9_least 107 = .ok (.getfield 50, 3) := by decide +kernel
theorem dX9_least_110 : decode cX9_least 110 = .ok (.iload 5, 2) := by decide +kernel
theorem dX9_least_112 : decode cX9_least 112 = .ok (.putfield 264, 3) := by decide +kernel
theorem dX9_least_115 : decode cX9_least 115 = .ok (.aload_n 0, 1) := by decide +kernel
theorem dX9_least_116 : decode cX9_least 116 = .ok (.getfield 50, 3) := by decide +kernel
theorem dX9_least_119 : decode cX9_least 119 = .ok (.aload_n 0, 1) := by decide +kernel
theorem dX9_least_120 : decode cX9_least 120 = .ok (.getfield 12, 3) := by decide +kernel
theorem dX9_least_123 : decode cX9_least 123 = .ok (.aload_n 0, 1) := by decide +kernel
theorem dX9_least_124 : decode cX9_least 124 = .ok (.getfield 12, 3) := by decide +kernel
theorem dX9_least_127 : decode cX9_least 127 = .ok (.aload 7, 2) := by decide +kernel
theorem dX9_least_129 : decode cX9_least 129 = .ok (.invokevirtual 267, 3) := by decide +kernel
theorem dX9_least_132 : decode cX9_least 132 = .ok (.invokevirtual 270, 3) := by decide +kernel
theorem dX9_least_135 : decode cX9_least 135 = .ok (.ifCond .ne 14, 3) := by decide +kernel
theorem dX9_least_138 : decode cX9_least 138 = .ok (.new 120, 3) := by decide +kernel
theorem dX9_least_141 : decode cX9_least 141 = .ok (.dup, 1) := by decide +kernel
theorem dX9_least_142 : decode cX9_least 142 = .ok (.ldc_w 274, 3) := by decide +kernel
theorem dX9_least_145 : decode cX9_least 145 = .ok (.invokespecial 124, 3) := by decide +kernel
theorem dX9_least_148 : decode cX9_least 148 = .ok (.athrow, 1) := by decide +kernel
theorem dX9_least_149 : decode cX9_least 149 = .ok (.iload 6, 2) := by decide +kernel
theorem dX9_least_151 : decode cX9_least 151 = .ok (.iconst (-1), 1) := by decide +kernel
theorem dX9_least_152 : decode cX9_least 152 = .ok (.if_icmp .ne 13, 3) := by decide +kernel
theorem dX9_least_155 : decode cX9_least 155 = .ok (.aload_n 0, 1) := by decide +kernel
theorem dX9_least_156 : decode cX9_least 156 = .ok (.getfield 50, 3) := by decide +kernel
theorem dX9_least_159 : decode cX9_least 159 = .ok (.getfield 276, 3) := by decide +kernel
theorem dX9_least_162 : decode cX9_least 162 = .ok (.goto 13, 3) := by decide +kernel
theorem dX9_least_165 : decode cX9_least 165 = .ok (.aload_n 0, 1) := by decide +kernel
theorem dX9_least_166 : decode cX9_least 166 = .ok (.getfield 50, 3) := by decide +kernel
theorem dX9_least_169 : decode cX9_least 169 = .ok (.getfield 279, 3) := by decide +kernel
theorem dX9_least_172 : decode cX9_least 172 = .ok (.iload 6, 2) := by decide +kernel
theorem dX9_least_174 : decode cX9_least 174 = .ok (.iaload, 1) := by decide +kernel
theorem dX9_least_175 : decode cX9_least 175 = .ok (.ireturn, 1) := by decide +kernel
theorem dX9_hasLot_0 : decode cX9_hasLot 0 = .ok (.aload_n 0, 1) := by decide +kernel
theorem dX9_hasLot_1 : decode cX9_hasLot 1 = .ok (.iload_n 1, 1) := by decide +kernel
theorem dX9_hasLot_2 : decode cX9_hasLot 2 = .ok (.invokevirtual 202, 3) := by decide +kernel
theorem dX9_hasLot_5 : decode cX9_hasLot 5 = .ok (.aload_n 0, 1) := by decide +kernel
theorem dX9_hasLot_6 : decode cX9_hasLot 6 = .ok (.iload_n 2, 1) := by decide +kernel
theorem dX9_hasLot_7 : decode cX9_hasLot 7 = .ok (.invokevirtual 83, 3) := by decide +kernel
theorem dX9_hasLot_10 : decode cX9_hasLot 10 = .ok (.iload_n 3, 1) := by decide +kernel
theorem dX9_hasLot_11 : decode cX9_hasLot 11 = .ok (.iconst 0, 1) := by decide +kernel
theorem dX9_hasLot_12 : decode cX9_hasLot 12 = .ok (.bipush 99, 2) := by decide +kernel
theorem dX9_hasLot_14 : decode cX9_hasLot 14 = .ok (.invokestatic 61, 3) := by decide +kernel
theorem dX9_hasLot_17 : decode cX9_hasLot 17 = .ok (.aload_n 0, 1) := by decide +kernel
theorem dX9_hasLot_18 : decode cX9_hasLot 18 = .ok (.getfield 12, 3) := by decide +kernel
theorem dX9_hasLot_21 : decode cX9_hasLot 21 = .ok (.getfield 205, 3) := by decide +kernel
theorem dX9_hasLot_24 : decode cX9_hasLot 24 = .ok (.iload_n 1, 1) := by decide +kernel
theorem dX9_hasLot_25 : decode cX9_hasLot 25 = .ok (.aaload, 1) := by decide +kernel
theorem dX9_hasLot_26 : decode cX9_hasLot 26 = .ok (.iload_n 2, 1) := by decide +kernel
theorem dX9_hasLot_27 : decode cX9_hasLot 27 = .ok (.iload_n 3, 1) := by decide +kernel
theorem dX9_hasLot_28 : decode cX9_hasLot 28 = .ok (.invokevirtual 282, 3) := by decide +kernel
theorem dX9_hasLot_31 : decode cX9_hasLot 31 = .ok (.ireturn, 1) := by decide +kernel
theorem dX9_canWith_0 : decode cX9_canWith 0 = .ok (.aload_n 0, 1) := by decide +kernel
theorem dX9_canWith_1 : decode cX9_canWith 1 = .ok (.iload_n 1, 1) := by decide +kernel
theorem dX9_canWith_2 : decode cX9_canWith 2 = .ok (.invokevirtual 83, 3) := by decide +kernel
theorem dX9_canWith_5 : decode cX9_canWith 5 = .ok (.iload_n 2, 1) := by decide +kernel
theorem dX9_canWith_6 : decode cX9_canWith 6 = .ok (.iconst 0, 1) := by decide +kernel
theorem dX9_canWith_7 : decode cX9_canWith 7 = .ok (.bipush 99, 2) := by decide +kernel
theorem dX9_canWith_9 : decode cX9_canWith 9 = .ok (.invokestatic 61, 3) := by decide +kernel
theorem dX9_canWith_12 : decode cX9_canWith 12 = .ok (.aload_n 0, 1) := by decide +kernel
theorem dX9_canWith_13 : decode cX9_canWith 13 = .ok (.getfield 12, 3) := by decide +kernel
theorem dX9_canWith_16 : decode cX9_canWith 16 = .ok (.iload_n 1, 1) := by decide +kernel
theorem dX9_canWith_17 : decode cX9_canWith 17 = .ok (.iload_n 2, 1) := by decide +kernel
theorem dX9_canWith_18 : decode cX9_canWith 18 = .ok (.iload_n 3, 1) := by decide +kernel
theorem dX9_canWith_19 : decode cX9_canWith 19 = .ok (.invokevirtual 286, 3) := by decide +kernel
theorem dX9_canWith_22 : decode cX9_canWith 22 = .ok (.istore 4, 2) := by decide +kernel
theorem dX9_canWith_24 : decode cX9_canWith 24 = .ok (.iload 4, 2) := by decide +kernel
theorem dX9_canWith_26 : decode cX9_canWith 26 = .ok (.ifCond .ge 14, 3) := by decide +kernel
theorem dX9_canWith_29 : decode cX9_canWith 29 = .ok (.new 120, 3) := by decide +kernel
theorem dX9_canWith_32 : decode cX9_canWith 32 = .ok (.dup, 1) := by decide +kernel
theorem dX9_canWith_33 : decode cX9_canWith 33 = .ok (.ldc_w 289, 3) := by decide +kernel
theorem dX9_canWith_36 : decode cX9_canWith 36 = .ok (.invokespecial 124, 3) := by decide +kernel
theorem dX9_canWith_39 : decode cX9_canWith 39 = .ok (.athrow, 1) := by decide +kernel
theorem dX9_canWith_40 : decode cX9_canWith 40 = .ok (.iload 4, 2) := by decide +kernel
theorem dX9_canWith_42 : decode cX9_canWith 42 = .ok (.ireturn, 1) := by decide +kernel
theorem dX9_formulasWith_0 : decode cX9_formulasWith 0 = .ok (.aload_n 0, 1) := by decide +kernel
theorem dX9_formulasWith_1 : decode cX9_formulasWith 1 = .ok (.iload_n 1, 1) := by decide +kernel
theorem dX9_formulasWith_2 : decode cX9_formulasWith 2 = .ok (.invokevirtual 83, 3) := by decide +kernel
theorem dX9_formulasWith_5 : decode cX9_formulasWith 5 = .ok (.iload_n 2, 1) := by decide +kernel
theorem dX9_formulasWith_6 : decode cX9_formulasWith 6 = .ok (.iconst 0, 1) := by decide +kernel
theorem dX9_formulasWith_7 : decode cX9_formulasWith 7 = .ok (.bipush 99, 2) := by decide +kernel
theorem dX9_formulasWith_9 : decode cX9_formulasWith 9 = .ok (.invokestatic 61, 3) := by decide +kernel
theorem dX9_formulasWith_12 : decode cX9_formulasWith 12 = .ok (.aload_n 0, 1) := by decide +kernel
theorem dX9_formulasWith_13 : decode cX9_formulasWith 13 = .ok (.getfield 12, 3) := by decide +kernel
theorem dX9_formulasWith_16 : decode cX9_formulasWith 16 = .ok (.iload_n 1, 1) := by decide +kernel
theorem dX9_formulasWith_17 : decode cX9_formulasWith 17 = .ok (.iload_n 2, 1) := by decide +kernel
theorem dX9_formulasWith_18 : decode cX9_formulasWith 18 = .ok (.invokevirtual 291, 3) := by decide +kernel
theorem dX9_formulasWith_21 : decode cX9_formulasWith 21 = .ok (.ireturn, 1) := by decide +kernel
theorem dX9_labelLength_0 : decode cX9_labelLength 0 = .ok (.aload_n 0, 1) := by decide +kernel
theorem dX9_labelLength_1 : decode cX9_labelLength 1 = .ok (.iload_n 1, 1) := by decide +kernel
theorem dX9_labelLength_2 : decode cX9_labelLength 2 = .ok (.invokevirtual 202, 3) := by decide +kernel
theorem dX9_labelLength_5 : decode cX9_labelLength 5 = .ok (.aload_n 0, 1) := by decide +kernel
theorem dX9_labelLength_6 : decode cX9_labelLength 6 = .ok (.getfield 57, 3) := by decide +kernel
theorem dX9_labelLength_9 : decode cX9_labelLength 9 = .ok (.aload_n 0, 1) := by decide +kernel
theorem dX9_labelLength_10 : decode cX9_labelLength 10 = .ok (.getfield 12, 3) := by decide +kernel
theorem dX9_labelLength_13 : decode cX9_labelLength 13 = .ok (.getfield 205, 3) := by decide +kernel
theorem dX9_labelLength_16 : decode cX9_labelLength 16 = .ok (.iload_n 1, 1) := by decide +kernel
theorem dX9_labelLength_17 : decode cX9_labelLength 17 = .ok (.aaload, 1) := by decide +kernel
theorem dX9_labelLength_18 : decode cX9_labelLength 18 = .ok (.invokevirtual 294, 3) := by decide +kernel
theorem dX9_labelLength_21 : decode cX9_labelLength 21 = .ok (.aload_n 0, 1) := by decide +kernel
theorem dX9_labelLength_22 : decode cX9_labelLength 22 = .ok (.getfield 57, 3) := by decide +kernel
theorem dX9_labelLength_25 : decode cX9_labelLength 25 = .ok (.getfield 298, 3) := by decide +kernel
theorem dX9_labelLength_28 : decode cX9_labelLength 28 = .ok (.ireturn, 1) := by decide +kernel
theorem dX9_label_0 : decode cX9_label 0 = .ok (.aload_n 0, 1) := by decide +kernel
theorem dX9_label_1 : decode cX9_label 1 = .ok (.iload_n 1, 1) := by decide +kernel
theorem dX9_label_2 : decode cX9_label 2 = .ok (.invokevirtual 202, 3) := by decide +kernel
theorem dX9_label_5 : decode cX9_label 5 = .ok (.aload_n 0, 1) := by decide +kernel
theorem dX9_label_6 : decode cX9_label 6 = .ok (.getfield 57, 3) := by decide +kernel
theorem dX9_label_9 : decode cX9_label 9 = .ok (.aload_n 0, 1) := by decide +kernel
theorem dX9_label_10 : decode cX9_label 10 = .ok (.getfield 12, 3) := by decide +kernel
theorem dX9_label_13 : decode cX9_label 13 = .ok (.getfield 205, 3) := by decide +kernel
theorem dX9_label_16 : decode cX9_label 16 = .ok (.iload_n 1, 1) := by decide +kernel
theorem dX9_label_17 : decode cX9_label 17 = .ok (.aaload, 1) := by decide +kernel
theorem dX9_label_18 : decode cX9_label 18 = .ok (.invokevirtual 294, 3) := by decide +kernel
theorem dX9_label_21 : decode cX9_label 21 = .ok (.iload_n 2, 1) := by decide +kernel
theorem dX9_label_22 : decode cX9_label 22 = .ok (.ifCond .lt 14, 3) := by decide +kernel
theorem dX9_label_25 : decode cX9_label 25 = .ok (.iload_n 2, 1) := by decide +kernel
theorem dX9_label_26 : decode cX9_label 26 = .ok (.aload_n 0, 1) := by decide +kernel
theorem dX9_label_27 : decode cX9_label 27 = .ok (.getfield 57, 3) := by decide +kernel
theorem dX9_label_30 : decode cX9_label 30 = .ok (.getfield 298, 3) := by decide +kernel
theorem dX9_label_33 : decode cX9_label 33 = .ok (.if_icmp .lt 14, 3) := by decide +kernel
theorem dX9_label_36 : decode cX9_label 36 = .ok (.new 120, 3) := by decide +kernel
theorem dX9_label_39 : decode cX9_label 39 = .ok (.dup, 1) := by decide +kernel
theorem dX9_label_40 : decode cX9_label 40 = .ok (.ldc_w 289, 3) := by decide +kernel
theorem dX9_label_43 : decode cX9_label 43 = .ok (.invokespecial 124, 3) := by decide +kernel
theorem dX9_label_46 : decode cX9_label 46 = .ok (.athrow, 1) := by decide +kernel
theorem dX9_label_47 : decode cX9_label 47 = .ok (.aload_n 0, 1) := by decide +kernel
theorem dX9_label_48 : decode cX9_label 48 = .ok (.getfield 57, 3) := by decide +kernel
theorem dX9_label_51 : decode cX9_label 51 = .ok (.getfield 299, 3) := by decide +kernel
theorem dX9_label_54 : decode cX9_label 54 = .ok (.iload_n 2, 1) := by decide +kernel
theorem dX9_label_55 : decode cX9_label 55 = .ok (.caload, 1) := by decide +kernel
theorem dX9_label_56 : decode cX9_label 56 = .ok (.ireturn, 1) := by decide +kernel
theorem dX9_meanSteps_0 : decode cX9_meanSteps 0 = .ok (.aload_n 0, 1) := by decide +kernel
theorem dX9_meanSteps_1 : decode cX9_meanSteps 1 = .ok (.iload_n 1, 1) := by decide +kernel
theorem dX9_meanSteps_2 : decode cX9_meanSteps 2 = .ok (.invokevirtual 183, 3) := by decide +kernel
theorem dX9_meanSteps_5 : decode cX9_meanSteps 5 = .ok (.aload_n 0, 1) := by decide +kernel
theorem dX9_meanSteps_6 : decode cX9_meanSteps 6 = .ok (.getfield 12, 3) := by decide +kernel
theorem dX9_meanSteps_9 : decode cX9_meanSteps 9 = .ok (.iload_n 1, 1) := by decide +kernel
theorem dX9_meanSteps_10 : decode cX9_meanSteps 10 = .ok (.invokevirtual 303, 3) := by decide +kernel
theorem dX9_meanSteps_13 : decode cX9_meanSteps 13 = .ok (.istore_n 2, 1) := by decide +kernel
theorem dX9_meanSteps_14 : decode cX9_meanSteps 14 = .ok (.iload_n 2, 1) := by decide +kernel
theorem dX9_meanSteps_15 : decode cX9_meanSteps 15 = .ok (.ifCond .ne 14, 3) := by decide +kernel
theorem dX9_meanSteps_18 : decode cX9_meanSteps 18 = .ok (.new 306, 3) := by decide +kernel
theorem dX9_meanSteps_21 : decode cX9_meanSteps 21 = .ok (.dup, 1) := by decide +kernel
theorem dX9_meanSteps_22 : decode cX9_meanSteps 22 = .ok (.ldc_w 308, 3) := by decide +kernel
theorem dX9_meanSteps_25 : decode cX9_meanSteps 25 = .ok (.invokespecial 310, 3) := by decide +kernel
theorem dX9_meanSteps_28 : decode cX9_meanSteps 28 = .ok (.athrow, 1) := by decide +kernel
theorem dX9_meanSteps_29 : decode cX9_meanSteps 29 = .ok (.aload_n 0, 1) := by decide +kernel
theorem dX9_meanSteps_30 : decode cX9_meanSteps 30 = .ok (.getfield 12, 3) := by decide +kernel
theorem dX9_meanSteps_33 : decode cX9_meanSteps 33 = .ok (.iload_n 1, 1) := by decide +kernel
theorem dX9_meanSteps_34 : decode cX9_meanSteps 34 = .ok (.invokevirtual 311, 3) := by decide +kernel
theorem dX9_meanSteps_37 : decode cX9_meanSteps 37 = .ok (.i2d, 1) := by decide +kernel
theorem dX9_meanSteps_38 : decode cX9_meanSteps 38 = .ok (.iload_n 2, 1) := by decide +kernel
theorem dX9_meanSteps_39 : decode cX9_meanSteps 39 = .ok (.i2d, 1) := by decide +kernel
theorem dX9_meanSteps_40 : decode cX9_meanSteps 40 = .ok (.ddiv, 1) := by decide +kernel
theorem dX9_meanSteps_41 : decode cX9_meanSteps 41 = .ok (.dreturn, 1) := by decide +kernel
theorem dX9_account_0 : decode cX9_account 0 = .ok (.iload_n 1, 1) := by decide +kernel
theorem dX9_account_1 : decode cX9_account 1 = .ok (.iconst 0, 1) := by decide +kernel
theorem dX9_account_2 : decode cX9_account 2 = .ok (.bipush 12, 2) := by decide +kernel
theorem dX9_account_4 : decode cX9_account 4 = .ok (.invokestatic 61, 3) := by decide +kernel
theorem dX9_account_7 : decode cX9_account 7 = .ok (.aload_n 0, 1) := by decide +kernel
theorem dX9_account_8 : decode cX9_account 8 = .ok (.getfield 12, 3) := by decide +kernel
theorem dX9_account_11 : decode cX9_account 11 = .ok (.iload_n 1, 1) := by decide +kernel
theorem dX9_account_12 : decode cX9_account 12 = .ok (.invokevirtual 314, 3) := by decide +kernel
theorem dX9_account_15 : decode cX9_account 15 = .ok (.ireturn, 1) := by decide +kernel
theorem dX9_undo_0 : decode cX9_undo 0 = .ok (.aload_n 0, 1) := by decide +kernel
theorem dX9_undo_1 : decode cX9_undo 1 = .ok (.getfield 26, 3) := by decide +kernel
theorem dX9_undo_4 : decode cX9_undo 4 = .ok (.getfield 317, 3) := by decide +kernel
theorem dX9_undo_7 : decode cX9_undo 7 = .ok (.ifCond .ne 14, 3) := by decide +kernel
theorem dX9_undo_10 : decode cX9_undo 10 = .ok (.new 68, 3) := by decide +kernel
theorem dX9_undo_13 : decode cX9_undo 13 = .ok (.dup, 1) := by decide +kernel
theorem dX9_undo_14 : decode cX9_undo 14 = .ok (.ldc_w 320, 3) := by decide +kernel
theorem dX9_undo_17 : decode cX9_undo 17 = .ok (.invokespecial 72, 3) := by decide +kernel
theorem dX9_undo_20 : decode cX9_undo 20 = .ok (.athrow, 1) := by decide +kernel
theorem dX9_undo_21 : decode cX9_undo 21 = .ok (.aload_n 0, 1) := by decide +kernel
theorem dX9_undo_22 : decode cX9_undo 22 = .ok (.getfield 26, 3) := by decide +kernel
theorem dX9_undo_25 : decode cX9_undo 25 = .ok (.aload_n 0, 1) := by decide +kernel
theorem dX9_undo_26 : decode cX9_undo 26 = .ok (.getfield 12, 3) := by decide +kernel
theorem dX9_undo_29 : decode cX9_undo 29 = .ok (.invokevirtual 322, 3) := by decide +kernel
theorem dX9_undo_32 : decode cX9_undo 32 = .ok (.aload_n 0, 1) := by decide +kernel
theorem dX9_undo_33 : decode cX9_undo 33 = .ok (.getfield 26, 3) := by decide +kernel
theorem dX9_undo_36 : decode cX9_undo 36 = .ok (.getfield 317, 3) := by decide +kernel
theorem dX9_undo_39 : decode cX9_undo 39 = .ok (.ireturn, 1) := by decide +kernel
theorem dX9_save_0 : decode cX9_save 0 = .ok (.aload_n 0, 1) := by decide +kernel
theorem dX9_save_1 : decode cX9_save 1 = .ok (.getfield 16, 3) := by decide +kernel
theorem dX9_save_4 : decode cX9_save 4 = .ok (.aload_n 0, 1) := by decide +kernel
theorem dX9_save_5 : decode cX9_save 5 = .ok (.getfield 12, 3) := by decide +kernel
theorem dX9_save_8 : decode cX9_save 8 = .ok (.invokevirtual 325, 3) := by decide +kernel
theorem dX9_save_11 : decode cX9_save 11 = .ok (.aload_n 0, 1) := by decide +kernel
theorem dX9_save_12 : decode cX9_save 12 = .ok (.iconst 1, 1) := by decide +kernel
theorem dX9_save_13 : decode cX9_save 13 = .ok (.putfield 19, 3) := by decide +kernel
theorem dX9_save_16 : decode cX9_save 16 = .ok (.return_, 1) := by decide +kernel
theorem dX9_restore_0 : decode cX9_restore 0 = .ok (.aload_n 0, 1) := by decide +kernel
theorem dX9_restore_1 : decode cX9_restore 1 = .ok (.getfield 19, 3) := by decide +kernel
theorem dX9_restore_4 : decode cX9_restore 4 = .ok (.ifCond .ne 14, 3) := by decide +kernel
theorem dX9_restore_7 : decode cX9_restore 7 = .ok (.new 68, 3) := by decide +kernel
theorem dX9_restore_10 : decode cX9_restore 10 = .ok (.dup, 1) := by decide +kernel
theorem dX9_restore_11 : decode cX9_restore 11 = .ok (.ldc_w 328, 3) := by decide +kernel
theorem dX9_restore_14 : decode cX9_restore 14 = .ok (.invokespecial 72, 3) := by decide +kernel
theorem dX9_restore_17 : decode cX9_restore 17 = .ok (.athrow, 1) := by decide +kernel
theorem dX9_restore_18 : decode cX9_restore 18 = .ok (.aload_n 0, 1) := by decide +kernel
theorem dX9_restore_19 : decode cX9_restore 19 = .ok (.getfield 12, 3) := by decide +kernel
theorem dX9_restore_22 : decode cX9_restore 22 = .ok (.aload_n 0, 1) := by decide +kernel
theorem dX9_restore_23 : decode cX9_restore 23 = .ok (.getfield 16, 3) := by decide +kernel
theorem dX9_restore_26 : decode cX9_restore 26 = .ok (.invokevirtual 325, 3) := by decide +kernel
theorem dX9_restore_29 : decode cX9_restore 29 = .ok (.aload_n 0, 1) := by decide +kernel
theorem dX9_restore_30 : decode cX9_restore 30 = .ok (.getfield 26, 3) := by decide +kernel
theorem dX9_restore_33 : decode cX9_restore 33 = .ok (.invokevirtual 330, 3) := by decide +kernel
theorem dX9_restore_36 : decode cX9_restore 36 = .ok (.return_, 1) := by decide +kernel
theorem dX9_requireRange_0 : decode cX9_requireRange 0 = .ok (.iload_n 0, 1) := by decide +kernel
theorem dX9_requireRange_1 : decode cX9_requireRange 1 = .ok (.iload_n 1, 1) := by decide +kernel
theorem dX9_requireRange_2 : decode cX9_requireRange 2 = .ok (.if_icmp .lt 8, 3) := by decide +kernel
theorem dX9_requireRange_5 : decode cX9_requireRange 5 = .ok (.iload_n 0, 1) := by decide +kernel
theorem dX9_requireRange_6 : decode cX9_requireRange 6 = .ok (.iload_n 2, 1) := by decide +kernel
theorem dX9_requireRange_7 : decode cX9_requireRange 7 = .ok (.if_icmp .le 14, 3) := by decide +kernel
theorem dX9_requireRange_10 : decode cX9_requireRange 10 = .ok (.new 171, 3) := by decide +kernel
theorem dX9_requireRange_13 : decode cX9_requireRange 13 = .ok (.dup, 1) := by decide +kernel
theorem dX9_requireRange_14 : decode cX9_requireRange 14 = .ok (.ldc_w 333, 3) := by decide +kernel
theorem dX9_requireRange_17 : decode cX9_requireRange 17 = .ok (.invokespecial 175, 3) := by decide +kernel
theorem dX9_requireRange_20 : decode cX9_requireRange 20 = .ok (.athrow, 1) := by decide +kernel
theorem dX9_requireRange_21 : decode cX9_requireRange 21 = .ok (.return_, 1) := by decide +kernel
theorem dX9_requireColorant_0 : decode cX9_requireColorant 0 = .ok (.iload_n 1, 1) := by decide +kernel
theorem dX9_requireColorant_1 : decode cX9_requireColorant 1 = .ok (.ifCond .lt 14, 3) := by decide +kernel
theorem dX9_requireColorant_4 : decode cX9_requireColorant 4 = .ok (.iload_n 1, 1) := by decide +kernel
theorem dX9_requireColorant_5 : decode cX9_requireColorant 5 = .ok (.aload_n 0, 1) := by decide +kernel
theorem dX9_requireColorant_6 : decode cX9_requireColorant 6 = .ok (.getfield 12, 3) := by decide +kernel
theorem dX9_requireColorant_9 : decode cX9_requireColorant 9 = .ok (.getfield 65, 3) := by decide +kernel
theorem dX9_requireColorant_12 : decode cX9_requireColorant 12 = .ok (.if_icmp .lt 14, 3) := by decide +kernel
theorem dX9_requireColorant_15 : decode cX9_requireColorant 15 = .ok (.new 335, 3) := by decide +kernel
theorem dX9_requireColorant_18 : decode cX9_requireColorant 18 = .ok (.dup, 1) := by decide +kernel
theorem dX9_requireColorant_19 : decode cX9_requireColorant 19 = .ok (.ldc_w 337, 3) := by decide +kernel
theorem dX9_requireColorant_22 : decode cX9_requireColorant 22 = .ok (.invokespecial 339, 3) := by decide +kernel
theorem dX9_requireColorant_25 : decode cX9_requireColorant 25 = .ok (.athrow, 1) := by decide +kernel
theorem dX9_requireColorant_26 : decode cX9_requireColorant 26 = .ok (.return_, 1) := by decide +kernel
theorem dX9_requireBase_0 : decode cX9_requireBase 0 = .ok (.iload_n 1, 1) := by decide +kernel
theorem dX9_requireBase_1 : decode cX9_requireBase 1 = .ok (.ifCond .lt 14, 3) := by decide +kernel
theorem dX9_requireBase_4 : decode cX9_requireBase 4 = .ok (.iload_n 1, 1) := by decide +kernel
theorem dX9_requireBase_5 : decode cX9_requireBase 5 = .ok (.aload_n 0, 1) := by decide +kernel
theorem dX9_requireBase_6 : decode cX9_requireBase 6 = .ok (.getfield 12, 3) := by decide +kernel
theorem dX9_requireBase_9 : decode cX9_requireBase 9 = .ok (.getfield 132, 3) := by decide +kernel
theorem dX9_requireBase_12 : decode cX9_requireBase 12 = .ok (.if_icmp .lt 14, 3) := by decide +kernel
theorem dX9_requireBase_15 : decode cX9_requireBase 15 = .ok (.new 335, 3) := by decide +kernel
theorem dX9_requireBase_18 : decode cX9_requireBase 18 = .ok (.dup, 1) := by decide +kernel
theorem dX9_requireBase_19 : decode cX9_requireBase 19 = .ok (.ldc_w 340, 3) := by decide +kernel
theorem dX9_requireBase_22 : decode cX9_requireBase 22 = .ok (.invokespecial 339, 3) := by decide +kernel
theorem dX9_requireBase_25 : decode cX9_requireBase 25 = .ok (.athrow, 1) := by decide +kernel
theorem dX9_requireBase_26 : decode cX9_requireBase 26 = .ok (.return_, 1) := by decide +kernel
theorem dX9_requireFormula_0 : decode cX9_requireFormula 0 = .ok (.iload_n 1, 1) := by decide +kernel
theorem dX9_requireFormula_1 : decode cX9_requireFormula 1 = .ok (.ifCond .lt 14, 3) := by decide +kernel
theorem dX9_requireFormula_4 : decode cX9_requireFormula 4 = .ok (.iload_n 1, 1) := by decide +kernel
theorem dX9_requireFormula_5 : decode cX9_requireFormula 5 = .ok (.aload_n 0, 1) := by decide +kernel
theorem dX9_requireFormula_6 : decode cX9_requireFormula 6 = .ok (.getfield 12, 3) := by decide +kernel
theorem dX9_requireFormula_9 : decode cX9_requireFormula 9 = .ok (.getfield 342, 3) := by decide +kernel
theorem dX9_requireFormula_12 : decode cX9_requireFormula 12 = .ok (.if_icmp .lt 14, 3) := by decide +kernel
theorem dX9_requireFormula_15 : decode cX9_requireFormula 15 = .ok (.new 335, 3) := by decide +kernel
theorem dX9_requireFormula_18 : decode cX9_requireFormula 18 = .ok (.dup, 1) := by decide +kernel
theorem dX9_requireFormula_19 : decode cX9_requireFormula 19 = .ok (.ldc_w 345, 3) := by decide +kernel
theorem dX9_requireFormula_22 : decode cX9_requireFormula 22 = .ok (.invokespecial 339, 3) := by decide +kernel
theorem dX9_requireFormula_25 : decode cX9_requireFormula 25 = .ok (.athrow, 1) := by decide +kernel
theorem dX9_requireFormula_26 : decode cX9_requireFormula 26 = .ok (.return_, 1) := by decide +kernel
theorem dX9_requireCan_0 : decode cX9_requireCan 0 = .ok (.iload_n 1, 1) := by decide +kernel
theorem dX9_requireCan_1 : decode cX9_requireCan 1 = .ok (.ifCond .lt 14, 3) := by decide +kernel
theorem dX9_requireCan_4 : decode cX9_requireCan 4 = .ok (.iload_n 1, 1) := by decide +kernel
theorem dX9_requireCan_5 : decode cX9_requireCan 5 = .ok (.aload_n 0, 1) := by decide +kernel
theorem dX9_requireCan_6 : decode cX9_requireCan 6 = .ok (.getfield 12, 3) := by decide +kernel
theorem dX9_requireCan_9 : decode cX9_requireCan 9 = .ok (.getfield 347, 3) := by decide +kernel
theorem dX9_requireCan_12 : decode cX9_requireCan 12 = .ok (.if_icmp .lt 14, 3) := by decide +kernel
theorem dX9_requireCan_15 : decode cX9_requireCan 15 = .ok (.new 335, 3) := by decide +kernel
theorem dX9_requireCan_18 : decode cX9_requireCan 18 = .ok (.dup, 1) := by decide +kernel
theorem dX9_requireCan_19 : decode cX9_requireCan 19 = .ok (.ldc_w 350, 3) := by decide +kernel
theorem dX9_requireCan_22 : decode cX9_requireCan 22 = .ok (.invokespecial 339, 3) := by decide +kernel
theorem dX9_requireCan_25 : decode cX9_requireCan 25 = .ok (.athrow, 1) := by decide +kernel
theorem dX9_requireCan_26 : decode cX9_requireCan 26 = .ok (.return_, 1) := by decide +kernel
theorem dX9_stopIfRefused_0 : decode cX9_stopIfRefused 0 = .ok (.iload_n 1, 1) := by decide +kernel
theorem dX9_stopIfRefused_1 : decode cX9_stopIfRefused 1 = .ok (.ifCond .eq 24, 3) := by decide +kernel
theorem dX9_stopIfRefused_4 : decode cX9_stopIfRefused 4 = .ok (.aload_n 0, 1) := by decide +kernel
theorem dX9_stopIfRefused_5 : decode cX9_stopIfRefused 5 = .ok (.iload_n 1, 1) := by decide +kernel
theorem dX9_stopIfRefused_6 : decode cX9_stopIfRefused 6 = .ok (.putfield 41, 3) := by decide +kernel
theorem dX9_stopIfRefused_9 : decode cX9_stopIfRefused 9 = .ok (.aload_n 0, 1) := by decide +kernel
theorem dX9_stopIfRefused_10 : decode cX9_stopIfRefused 10 = .ok (.iload_n 2, 1) := by decide +kernel
theorem dX9_stopIfRefused_11 : decode cX9_stopIfRefused 11 = .ok (.putfield 44, 3) := by decide +kernel
theorem dX9_stopIfRefused_14 : decode cX9_stopIfRefused 14 = .ok (.new 352, 3) := by decide +kernel
theorem dX9_stopIfRefused_17 : decode cX9_stopIfRefused 17 = .ok (.dup, 1) := by decide +kernel
theorem dX9_stopIfRefused_18 : decode cX9_stopIfRefused 18 = .ok (.ldc_w 354, 3) := by decide +kernel
theorem dX9_stopIfRefused_21 : decode cX9_stopIfRefused 21 = .ok (.invokespecial 356, 3) := by decide +kernel
theorem dX9_stopIfRefused_24 : decode cX9_stopIfRefused 24 = .ok (.athrow, 1) := by decide +kernel
theorem dX9_stopIfRefused_25 : decode cX9_stopIfRefused 25 = .ok (.return_, 1) := by decide +kernel
