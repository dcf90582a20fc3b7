theorem dX0_init_0 : decode cX0_init 0 = .ok (.aload_n 0, 1) := by decide +kernel
theorem dX0_init_1 : decode cX0_init 1 = .ok (.invokespecial 3, 3) := by decide +kernel
theorem dX0_init_4 : decode cX0_init 4 = .ok (.aload_n 0, 1) := by decide +kernel
theorem dX0_init_5 : decode cX0_init 5 = .ok (.iconst 5, 1) := by decide +kernel
theorem dX0_init_6 : decode cX0_init 6 = .ok (.newarray .int, 2) := by decide +kernel
theorem dX0_init_8 : decode cX0_init 8 = .ok (.putfield 9, 3) := by decide +kernel
theorem dX0_init_11 : decode cX0_init 11 = .ok (.aload_n 0, 1) := by decide +kernel
theorem dX0_init_12 : decode cX0_init 12 = .ok (.iconst 5, 1) := by decide +kernel
theorem dX0_init_13 : decode cX0_init 13 = .ok (.newarray .int, 2) := by decide +kernel
theorem dX0_init_15 : decode cX0_init 15 = .ok (.putfield 15, 3) := by decide +kernel
theorem dX0_init_18 : decode cX0_init 18 = .ok (.aload_n 0, 1) := by decide +kernel
theorem dX0_init_19 : decode cX0_init 19 = .ok (.iconst 5, 1) := by decide +kernel
theorem dX0_init_20 : decode cX0_init 20 = .ok (.newarray .int, 2) := by decide +kernel
theorem dX0_init_22 : decode cX0_init 22 = .ok (.putfield 18, 3) := by decide +kernel
theorem dX0_init_25 : decode cX0_init 25 = .ok (.return_, 1) := by decide +kernel
theorem dX0_addLast_0 : decode cX0_addLast 0 = .ok (.aload_n 0, 1) := by decide +kernel
theorem dX0_addLast_1 : decode cX0_addLast 1 = .ok (.getfield 21, 3) := by decide +kernel
theorem dX0_addLast_4 : decode cX0_addLast 4 = .ok (.iconst 5, 1) := by decide +kernel
theorem dX0_addLast_5 : decode cX0_addLast 5 = .ok (.if_icmp .lt 5, 3) := by decide +kernel
theorem dX0_addLast_8 : decode cX0_addLast 8 = .ok (.iconst 0, 1) := by decide +kernel
theorem dX0_addLast_9 : decode cX0_addLast 9 = .ok (.ireturn, 1) := by decide +kernel
theorem dX0_addLast_10 : decode cX0_addLast 10 = .ok (.aload_n 0, 1) := by decide +kernel
theorem dX0_addLast_11 : decode cX0_addLast 11 = .ok (.getfield 9, 3) := by decide +kernel
theorem dX0_addLast_14 : decode cX0_addLast 14 = .ok (.aload_n 0, 1) := by decide +kernel
theorem dX0_addLast_15 : decode cX0_addLast 15 = .ok (.getfield 21, 3) := by decide +kernel
theorem dX0_addLast_18 : decode cX0_addLast 18 = .ok (.iload_n 1, 1) := by decide +kernel
theorem dX0_addLast_19 : decode cX0_addLast 19 = .ok (.iastore, 1) := by decide +kernel
theorem dX0_addLast_20 : decode cX0_addLast 20 = .ok (.aload_n 0, 1) := by decide +kernel
theorem dX0_addLast_21 : decode cX0_addLast 21 = .ok (.getfield 15, 3) := by decide +kernel
theorem dX0_addLast_24 : decode cX0_addLast 24 = .ok (.aload_n 0, 1) := by decide +kernel
theorem dX0_addLast_25 : decode cX0_addLast 25 = .ok (.getfield 21, 3) := by decide +kernel
theorem dX0_addLast_28 : decode cX0_addLast 28 = .ok (.iload_n 2, 1) := by decide +kernel
theorem dX0_addLast_29 : decode cX0_addLast 29 = .ok (.iastore, 1) := by decide +kernel
theorem dX0_addLast_30 : decode cX0_addLast 30 = .ok (.aload_n 0, 1) := by decide +kernel
theorem dX0_addLast_31 : decode cX0_addLast 31 = .ok (.getfield 18, 3) := by decide +kernel
theorem dX0_addLast_34 : decode cX0_addLast 34 = .ok (.aload_n 0, 1) := by decide +kernel
theorem dX0_addLast_35 : decode cX0_addLast 35 = .ok (.getfield 21, 3) := by decide +kernel
theorem dX0_addLast_38 : decode cX0_addLast 38 = .ok (.iload_n 3, 1) := by decide +kernel
theorem dX0_addLast_39 : decode cX0_addLast 39 = .ok (.iastore, 1) := by decide +kernel
theorem dX0_addLast_40 : decode cX0_addLast 40 = .ok (.aload_n 0, 1) := by decide +kernel
theorem dX0_addLast_41 : decode cX0_addLast 41 = .ok (.dup, 1) := by decide +kernel
theorem dX0_addLast_42 : decode cX0_addLast 42 = .ok (.getfield 21, 3) := by decide +kernel
theorem dX0_addLast_45 : decode cX0_addLast 45 = .ok (.iconst 1, 1) := by decide +kernel
theorem dX0_addLast_46 : decode cX0_addLast 46 = .ok (.iadd, 1) := by decide +kernel
theorem dX0_addLast_47 : decode cX0_addLast 47 = .ok (.putfield 21, 3) := by decide +kernel
theorem dX0_addLast_50 : decode cX0_addLast 50 = .ok (.iconst 1, 1) := by decide +kernel
theorem dX0_addLast_51 : decode cX0_addLast 51 = .ok (.ireturn, 1) := by decide +kernel
theorem dX0_removeFirst_0 : decode cX0_removeFirst 0 = .ok (.aload_n 0, 1) := by decide +kernel
theorem dX0_removeFirst_1 : decode cX0_removeFirst 1 = .ok (.getfield 21, 3) := by decide +kernel
theorem dX0_removeFirst_4 : decode cX0_removeFirst 4 = .ok (.ifCond .ne 4, 3) := by decide +kernel
theorem dX0_removeFirst_7 : decode cX0_removeFirst 7 = .ok (.return_, 1) := by decide +kernel
theorem dX0_removeFirst_8 : decode cX0_removeFirst 8 = .ok (.aload_n 0, 1) := by decide +kernel
theorem dX0_removeFirst_9 : decode cX0_removeFirst 9 = .ok (.dup, 1) := by decide +kernel
theorem dX0_removeFirst_10 : decode cX0_removeFirst 10 = .ok (.getfield 21, 3) := by decide +kernel
theorem dX0_removeFirst_13 : decode cX0_removeFirst 13 = .ok (.iconst 1, 1) := by decide +kernel
theorem dX0_removeFirst_14 : decode cX0_removeFirst 14 = .ok (.isub, 1) := by decide +kernel
theorem dX0_removeFirst_15 : decode cX0_removeFirst 15 = .ok (.putfield 21, 3) := by decide +kernel
theorem dX0_removeFirst_18 : decode cX0_removeFirst 18 = .ok (.iconst 0, 1) := by decide +kernel
theorem dX0_removeFirst_19 : decode cX0_removeFirst 19 = .ok (.istore_n 1, 1) := by decide +kernel
theorem dX0_removeFirst_20 : decode cX0_removeFirst 20 = .ok (.iload_n 1, 1) := by decide +kernel
theorem dX0_removeFirst_21 : decode cX0_removeFirst 21 = .ok (.aload_n 0, 1) := by decide +kernel
theorem dX0_removeFirst_22 : decode cX0_removeFirst 22 = .ok (.getfield 21, 3) := by decide +kernel
theorem dX0_removeFirst_25 : decode cX0_removeFirst 25 = .ok (.if_icmp .ge 51, 3) := by decide +kernel
theorem dX0_removeFirst_28 : decode cX0_removeFirst 28 = .ok (.aload_n 0, 1) := by decide +kernel
theorem dX0_removeFirst_29 : decode cX0_removeFirst 29 = .ok (.getfield 9, 3) := by decide +kernel
theorem dX0_removeFirst_32 : decode cX0_removeFirst 32 = .ok (.iload_n 1, 1) := by decide +kernel
theorem dX0_removeFirst_33 : decode cX0_removeFirst 33 = .ok (.aload_n 0, 1) := by decide +kernel
theorem dX0_removeFirst_34 : decode cX0_removeFirst 34 = .ok (.getfield 9, 3) := by decide +kernel
theorem dX0_removeFirst_37 : decode cX0_removeFirst 37 = .ok (.iload_n 1, 1) := by decide +kernel
theorem dX0_removeFirst_38 : decode cX0_removeFirst 38 = .ok (.iconst 1, 1) := by decide +kernel
theorem dX0_removeFirst_39 : decode cX0_removeFirst 39 = .ok (.iadd, 1) := by decide +kernel
theorem dX0_removeFirst_40 : decode cX0_removeFirst 40 = .ok (.iaload, 1) := by decide +kernel
theorem dX0_removeFirst_41 : decode cX0_removeFirst 41 = .ok (.iastore, 1) := by decide +kernel
theorem dX0_removeFirst_42 : decode cX0_removeFirst 42 = .ok (.aload_n 0, 1) := by decide +kernel
theorem dX0_removeFirst_43 : decode cX0_removeFirst 43 = .ok (.getfield 15, 3) := by decide +kernel
theorem dX0_removeFirst_46 : decode cX0_removeFirst 46 = .ok (.iload_n 1, 1) := by decide +kernel
theorem dX0_removeFirst_47 : decode cX0_removeFirst 47 = .ok (.aload_n 0, 1) := by decide +kernel
theorem dX0_removeFirst_48 : decode cX0_removeFirst 48 = .ok (.getfield 15, 3) := by decide +kernel
theorem dX0_removeFirst_51 : decode cX0_removeFirst 51 = .ok (.iload_n 1, 1) := by decide +kernel
theorem dX0_removeFirst_52 : decode cX0_removeFirst 52 = .ok (.iconst 1, 1) := by decide +kernel
theorem dX0_removeFirst_53 : decode cX0_removeFirst 53 = .ok (.iadd, 1) := by decide +kernel
theorem dX0_removeFirst_54 : decode cX0_removeFirst 54 = .ok (.iaload, 1) := by decide +kernel
theorem dX0_removeFirst_55 : decode cX0_removeFirst 55 = .ok (.iastore, 1) := by decide +kernel
theorem dX0_removeFirst_56 : decode cX0_removeFirst 56 = .ok (.aload_n 0, 1) := by decide +kernel
theorem dX0_removeFirst_57 : decode cX0_removeFirst 57 = .ok (.getfield 18, 3) := by decide +kernel
theorem dX0_removeFirst_60 : decode cX0_removeFirst 60 = .ok (.iload_n 1, 1) := by decide +kernel
theorem dX0_removeFirst_61 : decode cX0_removeFirst 61 = .ok (.aload_n 0, 1) := by decide +kernel
theorem dX0_removeFirst_62 : decode cX0_removeFirst 62 = .ok (.getfield 18, 3) := by decide +kernel
theorem dX0_removeFirst_65 : decode cX0_removeFirst 65 = .ok (.iload_n 1, 1) := by decide +kernel
theorem dX0_removeFirst_66 : decode cX0_removeFirst 66 = .ok (.iconst 1, 1) := by decide +kernel
theorem dX0_removeFirst_67 : decode cX0_removeFirst 67 = .ok (.iadd, 1) := by decide +kernel
theorem dX0_removeFirst_68 : decode cX0_removeFirst 68 = .ok (.iaload, 1) := by decide +kernel
theorem dX0_removeFirst_69 : decode cX0_removeFirst 69 = .ok (.iastore, 1) := by decide +kernel
theorem dX0_removeFirst_70 : decode cX0_removeFirst 70 = .ok (.iinc 1 1, 3) := by decide +kernel
theorem dX0_removeFirst_73 : decode cX0_removeFirst 73 = .ok (.goto (-53), 3) := by decide +kernel
theorem dX0_removeFirst_76 : decode cX0_removeFirst 76 = .ok (.return_, 1) := by decide +kernel
theorem dX1_init_0 : decode cX1_init 0 = .ok (.aload_n 0, 1) := by decide +kernel
theorem dX1_init_1 : decode cX1_init 1 = .ok (.invokespecial 1, 3) := by decide +kernel
theorem dX1_init_4 : decode cX1_init 4 = .ok (.aload_n 0, 1) := by decide +kernel
theorem dX1_init_5 : decode cX1_init 5 = .ok (.iload_n 1, 1) := by decide +kernel
theorem dX1_init_6 : decode cX1_init 6 = .ok (.putfield 7, 3) := by decide +kernel
theorem dX1_init_9 : decode cX1_init 9 = .ok (.return_, 1) := by decide +kernel
theorem dX1_claims_0 : decode cX1_claims 0 = .ok (.aload_n 0, 1) := by decide +kernel
theorem dX1_claims_1 : decode cX1_claims 1 = .ok (.getfield 13, 3) := by decide +kernel
theorem dX1_claims_4 : decode cX1_claims 4 = .ok (.ifCond .le 7, 3) := by decide +kernel
theorem dX1_claims_7 : decode cX1_claims 7 = .ok (.iconst 1, 1) := by decide +kernel
theorem dX1_claims_8 : decode cX1_claims 8 = .ok (.goto 4, 3) := by decide +kernel
theorem dX1_claims_11 : decode cX1_claims 11 = .ok (.iconst 0, 1) := by decide +kernel
theorem dX1_claims_12 : decode cX1_claims 12 = .ok (.ireturn, 1) := by decide +kernel
theorem dX2_init_0 : decode cX2_init 0 = .ok (.aload_n 0, 1) := by decide +kernel
theorem dX2_init_1 : decode cX2_init 1 = .ok (.invokespecial 3, 3) := by decide +kernel
theorem dX2_init_4 : decode cX2_init 4 = .ok (.aload_n 0, 1) := by decide +kernel
theorem dX2_init_5 : decode cX2_init 5 = .ok (.new 9, 3) := by decide +kernel
theorem dX2_init_8 : decode cX2_init 8 = .ok (.dup, 1) := by decide +kernel
theorem dX2_init_9 : decode cX2_init 9 = .ok (.invokespecial 11, 3) := by decide +kernel
theorem dX2_init_12 : decode cX2_init 12 = .ok (.putfield 12, 3) := by decide +kernel
theorem dX2_init_15 : decode cX2_init 15 = .ok (.aload_n 0, 1) := by decide +kernel
theorem dX2_init_16 : decode cX2_init 16 = .ok (.new 9, 3) := by decide +kernel
theorem dX2_init_19 : decode cX2_init 19 = .ok (.dup, 1) := by decide +kernel
theorem dX2_init_20 : decode cX2_init 20 = .ok (.invokespecial 11, 3) := by decide +kernel
theorem dX2_init_23 : decode cX2_init 23 = .ok (.putfield 18, 3) := by decide +kernel
theorem dX2_init_26 : decode cX2_init 26 = .ok (.aload_n 0, 1) := by decide +kernel
theorem dX2_init_27 : decode cX2_init 27 = .ok (.iconst 1, 1) := by decide +kernel
theorem dX2_init_28 : decode cX2_init 28 = .ok (.putfield 21, 3) := by decide +kernel
theorem dX2_init_31 : decode cX2_init 31 = .ok (.aload_n 0, 1) := by decide +kernel
theorem dX2_init_32 : decode cX2_init 32 = .ok (.iconst (-1), 1) := by decide +kernel
theorem dX2_init_33 : decode cX2_init 33 = .ok (.putfield 25, 3) := by decide +kernel
theorem dX2_init_36 : decode cX2_init 36 = .ok (.aload_n 0, 1) := by decide +kernel
theorem dX2_init_37 : decode cX2_init 37 = .ok (.bipush 20, 2) := by decide +kernel
theorem dX2_init_39 : decode cX2_init 39 = .ok (.putfield 29, 3) := by decide +kernel
theorem dX2_init_42 : decode cX2_init 42 = .ok (.aload_n 0, 1) := by decide +kernel
theorem dX2_init_43 : decode cX2_init 43 = .ok (.iconst (-1), 1) := by decide +kernel
theorem dX2_init_44 : decode cX2_init 44 = .ok (.putfield 32, 3) := by decide +kernel
theorem dX2_init_47 : decode cX2_init 47 = .ok (.aload_n 0, 1) := by decide +kernel
theorem dX2_init_48 : decode cX2_init 48 = .ok (.iconst (-1), 1) := by decide +kernel
theorem dX2_init_49 : decode cX2_init 49 = .ok (.putfield 35, 3) := by decide +kernel
theorem dX2_init_52 : decode cX2_init 52 = .ok (.return_, 1) := by decide +kernel
theorem dX2_queueFor_0 : decode cX2_queueFor 0 = .ok (.iload_n 1, 1) := by decide +kernel
theorem dX2_queueFor_1 : decode cX2_queueFor 1 = .ok (.ifCond .eq 10, 3) := by decide +kernel
theorem dX2_queueFor_4 : decode cX2_queueFor 4 = .ok (.aload_n 0, 1) := by decide +kernel
theorem dX2_queueFor_5 : decode cX2_queueFor 5 = .ok (.getfield 12, 3) := by decide +kernel
theorem dX2_queueFor_8 : decode cX2_queueFor 8 = .ok (.goto 7, 3) := by decide +kernel
theorem dX2_queueFor_11 : decode cX2_queueFor 11 = .ok (.aload_n 0, 1) := by decide +kernel
theorem dX2_queueFor_12 : decode cX2_queueFor 12 = .ok (.getfield 18, 3) := by decide +kernel
theorem dX2_queueFor_15 : decode cX2_queueFor 15 = .ok (.areturn, 1) := by decide +kernel
theorem dX2_leaveRing_0 : decode cX2_leaveRing 0 = .ok (.aload_n 0, 1) := by decide +kernel
theorem dX2_leaveRing_1 : decode cX2_leaveRing 1 = .ok (.iconst (-1), 1) := by decide +kernel
theorem dX2_leaveRing_2 : decode cX2_leaveRing 2 = .ok (.putfield 25, 3) := by decide +kernel
theorem dX2_leaveRing_5 : decode cX2_leaveRing 5 = .ok (.aload_n 0, 1) := by decide +kernel
theorem dX2_leaveRing_6 : decode cX2_leaveRing 6 = .ok (.getfield 12, 3) := by decide +kernel
theorem dX2_leaveRing_9 : decode cX2_leaveRing 9 = .ok (.iconst 0, 1) := by decide +kernel
theorem dX2_leaveRing_10 : decode cX2_leaveRing 10 = .ok (.putfield 38, 3) := by decide +kernel
theorem dX2_leaveRing_13 : decode cX2_leaveRing 13 = .ok (.aload_n 0, 1) := by decide +kernel
theorem dX2_leaveRing_14 : decode cX2_leaveRing 14 = .ok (.getfield 18, 3) := by decide +kernel
theorem dX2_leaveRing_17 : decode cX2_leaveRing 17 = .ok (.iconst 0, 1) := by decide +kernel
theorem dX2_leaveRing_18 : decode cX2_leaveRing 18 = .ok (.putfield 38, 3) := by decide +kernel
theorem dX2_leaveRing_21 : decode cX2_leaveRing 21 = .ok (.return_, 1) := by decide +kernel
theorem dX2_resetTimers_0 : decode cX2_resetTimers 0 = .ok (.aload_n 0, 1) := by decide +kernel
theorem dX2_resetTimers_1 : decode cX2_resetTimers 1 = .ok (.iconst 0, 1) := by decide +kernel
theorem dX2_resetTimers_2 : decode cX2_resetTimers 2 = .ok (.putfield 41, 3) := by decide +kernel
theorem dX2_resetTimers_5 : decode cX2_resetTimers 5 = .ok (.aload_n 0, 1) := by decide +kernel
theorem dX2_resetTimers_6 : decode cX2_resetTimers 6 = .ok (.iconst 0, 1) := by decide +kernel
theorem dX2_resetTimers_7 : decode cX2_resetTimers 7 = .ok (.putfield 44, 3) := by decide +kernel
theorem dX2_resetTimers_10 : decode cX2_resetTimers 10 = .ok (.aload_n 0, 1) := by decide +kernel
theorem dX2_resetTimers_11 : decode cX2_resetTimers 11 = .ok (.iconst 0, 1) := by decide +kernel
theorem dX2_resetTimers_12 : decode cX2_resetTimers 12 = .ok (.putfield 47, 3) := by decide +kernel
theorem dX2_resetTimers_15 : decode cX2_resetTimers 15 = .ok (.aload_n 0, 1) := by decide +kernel
theorem dX2_resetTimers_16 : decode cX2_resetTimers 16 = .ok (.iconst 0, 1) := by decide +kernel
theorem dX2_resetTimers_17 : decode cX2_resetTimers 17 = .ok (.putfield 50, 3) := by decide +kernel
theorem dX2_resetTimers_20 : decode cX2_resetTimers 20 = .ok (.aload_n 0, 1) := by decide +kernel
theorem dX2_resetTimers_21 : decode cX2_resetTimers 21 = .ok (.iconst 0, 1) := by decide +kernel
theorem dX2_resetTimers_22 : decode cX2_resetTimers 22 = .ok (.putfield 53, 3) := by decide +kernel
theorem dX2_resetTimers_25 : decode cX2_resetTimers 25 = .ok (.aload_n 0, 1) := by decide +kernel
theorem dX2_resetTimers_26 : decode cX2_resetTimers 26 = .ok (.iconst 0, 1) := by decide +kernel
theorem dX2_resetTimers_27 : decode cX2_resetTimers 27 = .ok (.putfield 56, 3) := by decide +kernel
theorem dX2_resetTimers_30 : decode cX2_resetTimers 30 = .ok (.return_, 1) := by decide +kernel
theorem dX2_runTimer_0 : decode cX2_runTimer 0 = .ok (.aload_n 0, 1) := by decide +kernel
theorem dX2_runTimer_1 : decode cX2_runTimer 1 = .ok (.dup, 1) := by decide +kernel
theorem dX2_runTimer_2 : decode cX2_runTimer 2 = .ok (.getfield 53, 3) := by decide +kernel
theorem dX2_runTimer_5 : decode cX2_runTimer 5 = .ok (.iconst 1, 1) := by decide +kernel
theorem dX2_runTimer_6 : decode cX2_runTimer 6 = .ok (.iadd, 1) := by decide +kernel
theorem dX2_runTimer_7 : decode cX2_runTimer 7 = .ok (.putfield 53, 3) := by decide +kernel
theorem dX2_runTimer_10 : decode cX2_runTimer 10 = .ok (.aload_n 0, 1) := by decide +kernel
theorem dX2_runTimer_11 : decode cX2_runTimer 11 = .ok (.dup, 1) := by decide +kernel
theorem dX2_runTimer_12 : decode cX2_runTimer 12 = .ok (.getfield 41, 3) := by decide +kernel
theorem dX2_runTimer_15 : decode cX2_runTimer 15 = .ok (.iconst 1, 1) := by decide +kernel
theorem dX2_runTimer_16 : decode cX2_runTimer 16 = .ok (.iadd, 1) := by decide +kernel
theorem dX2_runTimer_17 : decode cX2_runTimer 17 = .ok (.putfield 41, 3) := by decide +kernel
theorem dX2_runTimer_20 : decode cX2_runTimer 20 = .ok (.aload_n 0, 1) := by decide +kernel
theorem dX2_runTimer_21 : decode cX2_runTimer 21 = .ok (.getfield 41, 3) := by decide +kernel
theorem dX2_runTimer_24 : decode cX2_runTimer 24 = .ok (.iload_n 1, 1) := by decide +kernel
theorem dX2_runTimer_25 : decode cX2_runTimer 25 = .ok (.if_icmp .ne 18, 3) := by decide +kernel
theorem dX2_runTimer_28 : decode cX2_runTimer 28 = .ok (.aload_n 0, 1) := by decide +kernel
theorem dX2_runTimer_29 : decode cX2_runTimer 29 = .ok (.iconst 0, 1) := by decide +kernel
theorem dX2_runTimer_30 : decode cX2_runTimer 30 = .ok (.putfield 41, 3) := by decide +kernel
theorem dX2_runTimer_33 : decode cX2_runTimer 33 = .ok (.aload_n 0, 1) := by decide +kernel
theorem dX2_runTimer_34 : decode cX2_runTimer 34 = .ok (.dup, 1) := by decide +kernel
theorem dX2_runTimer_35 : decode cX2_runTimer 35 = .ok (.getfield 44, 3) := by decide +kernel
theorem dX2_runTimer_38 : decode cX2_runTimer 38 = .ok (.iconst 1, 1) := by decide +kernel
theorem dX2_runTimer_39 : decode cX2_runTimer 39 = .ok (.iadd, 1) := by decide +kernel
theorem dX2_runTimer_40 : decode cX2_runTimer 40 = .ok (.putfield 44, 3) := by decide +kernel
theorem dX2_runTimer_43 : decode cX2_runTimer 43 = .ok (.return_, 1) := by decide +kernel
theorem dX2_takeToken_0 : decode cX2_takeToken 0 = .ok (.aload_n 0, 1) := by decide +kernel
theorem dX2_takeToken_1 : decode cX2_takeToken 1 = .ok (.iload_n 1, 1) := by decide +kernel
theorem dX2_takeToken_2 : decode cX2_takeToken 2 = .ok (.putfield 32, 3) := by decide +kernel
theorem dX2_takeToken_5 : decode cX2_takeToken 5 = .ok (.aload_n 0, 1) := by decide +kernel
theorem dX2_takeToken_6 : decode cX2_takeToken 6 = .ok (.aload_n 0, 1) := by decide +kernel
theorem dX2_takeToken_7 : decode cX2_takeToken 7 = .ok (.getfield 59, 3) := by decide +kernel
theorem dX2_takeToken_10 : decode cX2_takeToken 10 = .ok (.aload_n 0, 1) := by decide +kernel
theorem dX2_takeToken_11 : decode cX2_takeToken 11 = .ok (.getfield 53, 3) := by decide +kernel
theorem dX2_takeToken_14 : decode cX2_takeToken 14 = .ok (.i2f, 1) := by decide +kernel
theorem dX2_takeToken_15 : decode cX2_takeToken 15 = .ok (.aload_n 0, 1) := by decide +kernel
theorem dX2_takeToken_16 : decode cX2_takeToken 16 = .ok (.getfield 59, 3) := by decide +kernel
theorem dX2_takeToken_19 : decode cX2_takeToken 19 = .ok (.fsub, 1) := by decide +kernel
theorem dX2_takeToken_20 : decode cX2_takeToken 20 = .ok (.ldc 63, 2) := by decide +kernel
theorem dX2_takeToken_22 : decode cX2_takeToken 22 = .ok (.fmul, 1) := by decide +kernel
theorem dX2_takeToken_23 : decode cX2_takeToken 23 = .ok (.fadd, 1) := by decide +kernel
theorem dX2_takeToken_24 : decode cX2_takeToken 24 = .ok (.putfield 59, 3) := by decide +kernel
theorem dX2_takeToken_27 : decode cX2_takeToken 27 = .ok (.aload_n 0, 1) := by decide +kernel
theorem dX2_takeToken_28 : decode cX2_takeToken 28 = .ok (.iconst 0, 1) := by decide +kernel
theorem dX2_takeToken_29 : decode cX2_takeToken 29 = .ok (.putfield 53, 3) := by decide +kernel
theorem dX2_takeToken_32 : decode cX2_takeToken 32 = .ok (.aload_n 0, 1) := by decide +kernel
theorem dX2_takeToken_33 : decode cX2_takeToken 33 = .ok (.iconst 1, 1) := by decide +kernel
theorem dX2_takeToken_34 : decode cX2_takeToken 34 = .ok (.putfield 56, 3) := by decide +kernel
theorem dX2_takeToken_37 : decode cX2_takeToken 37 = .ok (.aload_n 0, 1) := by decide +kernel
theorem dX2_takeToken_38 : decode cX2_takeToken 38 = .ok (.getfield 44, 3) := by decide +kernel
theorem dX2_takeToken_41 : decode cX2_takeToken 41 = .ok (.ifCond .ne 21, 3) := by decide +kernel
theorem dX2_takeToken_44 : decode cX2_takeToken 44 = .ok (.aload_n 0, 1) := by decide +kernel
theorem dX2_takeToken_45 : decode cX2_takeToken 45 = .ok (.iload_n 2, 1) := by decide +kernel
theorem dX2_takeToken_46 : decode cX2_takeToken 46 = .ok (.aload_n 0, 1) := by decide +kernel
theorem dX2_takeToken_47 : decode cX2_takeToken 47 = .ok (.getfield 41, 3) := by decide +kernel
theorem dX2_takeToken_50 : decode cX2_takeToken 50 = .ok (.isub, 1) := by decide +kernel
theorem dX2_takeToken_51 : decode cX2_takeToken 51 = .ok (.putfield 47, 3) := by decide +kernel
theorem dX2_takeToken_54 : decode cX2_takeToken 54 = .ok (.aload_n 0, 1) := by decide +kernel
theorem dX2_takeToken_55 : decode cX2_takeToken 55 = .ok (.iconst 0, 1) := by decide +kernel
theorem dX2_takeToken_56 : decode cX2_takeToken 56 = .ok (.putfield 41, 3) := by decide +kernel
theorem dX2_takeToken_59 : decode cX2_takeToken 59 = .ok (.goto 13, 3) := by decide +kernel
theorem dX2_takeToken_62 : decode cX2_takeToken 62 = .ok (.aload_n 0, 1) := by decide +kernel
theorem dX2_takeToken_63 : decode cX2_takeToken 63 = .ok (.iconst 0, 1) := by decide +kernel
theorem dX2_takeToken_64 : decode cX2_takeToken 64 = .ok (.putfield 47, 3) := by decide +kernel
theorem dX2_takeToken_67 : decode cX2_takeToken 67 = .ok (.aload_n 0, 1) := by decide +kernel
theorem dX2_takeToken_68 : decode cX2_takeToken 68 = .ok (.iconst 0, 1) := by decide +kernel
theorem dX2_takeToken_69 : decode cX2_takeToken 69 = .ok (.putfield 44, 3) := by decide +kernel
theorem dX2_takeToken_72 : decode cX2_takeToken 72 = .ok (.aload_n 0, 1) := by decide +kernel
theorem dX2_takeToken_73 : decode cX2_takeToken 73 = .ok (.aload_n 0, 1) := by decide +kernel
theorem dX2_takeToken_74 : decode cX2_takeToken 74 = .ok (.getfield 64, 3) := by decide +kernel
theorem dX2_takeToken_77 : decode cX2_takeToken 77 = .ok (.putfield 50, 3) := by decide +kernel
theorem dX2_takeToken_80 : decode cX2_takeToken 80 = .ok (.return_, 1) := by decide +kernel
theorem dX2_mayBeginSynchronous_0 : decode cX2_mayBeginSynchronous 0 = .ok (.aload_n 0, 1) := by decide +kernel
theorem dX2_mayBeginSynchronous_1 : decode cX2_mayBeginSynchronous 1 = .ok (.getfield 12, 3) := by decide +kernel
theorem dX2_mayBeginSynchronous_4 : decode cX2_mayBeginSynchronous 4 = .ok (.getfield 38, 3) := by decide +kernel
theorem dX2_mayBeginSynchronous_7 : decode cX2_mayBeginSynchronous 7 = .ok (.ifCond .le 23, 3) := by decide +kernel
theorem dX2_mayBeginSynchronous_10 : decode cX2_mayBeginSynchronous 10 = .ok (.aload_n 0, 1) := by decide +kernel
theorem dX2_mayBeginSynchronous_11 : decode cX2_mayBeginSynchronous 11 = .ok (.getfield 12, 3) := by decide +kernel
theorem dX2_mayBeginSynchronous_14 : decode cX2_mayBeginSynchronous 14 = .ok (.getfield 67, 3) := by decide +kernel
theorem dX2_mayBeginSynchronous_17 : decode cX2_mayBeginSynchronous 17 = .ok (.iconst 0, 1) := by decide +kernel
theorem dX2_mayBeginSynchronous_18 : decode cX2_mayBeginSynchronous 18 = .ok (.iaload, 1) := by decide +kernel
theorem dX2_mayBeginSynchronous_19 : decode cX2_mayBeginSynchronous 19 = .ok (.aload_n 0, 1) := by decide +kernel
theorem dX2_mayBeginSynchronous_20 : decode cX2_mayBeginSynchronous 20 = .ok (.getfield 50, 3) := by decide +kernel
theorem dX2_mayBeginSynchronous_23 : decode cX2_mayBeginSynchronous 23 = .ok (.if_icmp .gt 7, 3) := by decide +kernel
theorem dX2_mayBeginSynchronous_26 : decode cX2_mayBeginSynchronous 26 = .ok (.iconst 1, 1) := by decide +kernel
theorem dX2_mayBeginSynchronous_27 : decode cX2_mayBeginSynchronous 27 = .ok (.goto 4, 3) := by decide +kernel
theorem dX2_mayBeginSynchronous_30 : decode cX2_mayBeginSynchronous 30 = .ok (.iconst 0, 1) := by decide +kernel
theorem dX2_mayBeginSynchronous_31 : decode cX2_mayBeginSynchronous 31 = .ok (.ireturn, 1) := by decide +kernel
theorem dX2_mayBeginAsynchronous_0 : decode cX2_mayBeginAsynchronous 0 = .ok (.aload_n 0, 1) := by decide +kernel
theorem dX2_mayBeginAsynchronous_1 : decode cX2_mayBeginAsynchronous 1 = .ok (.getfield 18, 3) := by decide +kernel
theorem dX2_mayBeginAsynchronous_4 : decode cX2_mayBeginAsynchronous 4 = .ok (.getfield 38, 3) := by decide +kernel
theorem dX2_mayBeginAsynchronous_7 : decode cX2_mayBeginAsynchronous 7 = .ok (.ifCond .eq 10, 3) := by decide +kernel
theorem dX2_mayBeginAsynchronous_10 : decode cX2_mayBeginAsynchronous 10 = .ok (.aload_n 0, 1) := by decide +kernel
theorem dX2_mayBeginAsynchronous_11 : decode cX2_mayBeginAsynchronous 11 = .ok (.getfield 47, 3) := by decide +kernel
theorem dX2_mayBeginAsynchronous_14 : decode cX2_mayBeginAsynchronous 14 = .ok (.ifCond .gt 5, 3) := by decide +kernel
theorem dX2_mayBeginAsynchronous_17 : decode cX2_mayBeginAsynchronous 17 = .ok (.iconst 0, 1) := by decide +kernel
theorem dX2_mayBeginAsynchronous_18 : decode cX2_mayBeginAsynchronous 18 = .ok (.ireturn, 1) := by decide +kernel
theorem dX2_mayBeginAsynchronous_19 : decode cX2_mayBeginAsynchronous 19 = .ok (.iconst 3, 1) := by decide +kernel
theorem dX2_mayBeginAsynchronous_20 : decode cX2_mayBeginAsynchronous 20 = .ok (.aload_n 0, 1) := by decide +kernel
theorem dX2_mayBeginAsynchronous_21 : decode cX2_mayBeginAsynchronous 21 = .ok (.getfield 18, 3) := by decide +kernel
theorem dX2_mayBeginAsynchronous_24 : decode cX2_mayBeginAsynchronous 24 = .ok (.getfield 71, 3) := by decide +kernel
theorem dX2_mayBeginAsynchronous_27 : decode cX2_mayBeginAsynchronous 27 = .ok (.iconst 0, 1) := by decide +kernel
theorem dX2_mayBeginAsynchronous_28 : decode cX2_mayBeginAsynchronous 28 = .ok (.iaload, 1) := by decide +kernel
theorem dX2_mayBeginAsynchronous_29 : decode cX2_mayBeginAsynchronous 29 = .ok (.isub, 1) := by decide +kernel
theorem dX2_mayBeginAsynchronous_30 : decode cX2_mayBeginAsynchronous 30 = .ok (.iload_n 1, 1) := by decide +kernel
theorem dX2_mayBeginAsynchronous_31 : decode cX2_mayBeginAsynchronous 31 = .ok (.imul, 1) := by decide +kernel
theorem dX2_mayBeginAsynchronous_32 : decode cX2_mayBeginAsynchronous 32 = .ok (.iconst 4, 1) := by decide +kernel
theorem dX2_mayBeginAsynchronous_33 : decode cX2_mayBeginAsynchronous 33 = .ok (.idiv, 1) := by decide +kernel
theorem dX2_mayBeginAsynchronous_34 : decode cX2_mayBeginAsynchronous 34 = .ok (.istore_n 2, 1) := by decide +kernel
theorem dX2_mayBeginAsynchronous_35 : decode cX2_mayBeginAsynchronous 35 = .ok (.aload_n 0, 1) := by decide +kernel
theorem dX2_mayBeginAsynchronous_36 : decode cX2_mayBeginAsynchronous 36 = .ok (.getfield 47, 3) := by decide +kernel
theorem dX2_mayBeginAsynchronous_39 : decode cX2_mayBeginAsynchronous 39 = .ok (.iload_n 2, 1) := by decide +kernel
theorem dX2_mayBeginAsynchronous_40 : decode cX2_mayBeginAsynchronous 40 = .ok (.if_icmp .lt 7, 3) := by decide +kernel
theorem dX2_mayBeginAsynchronous_43 : decode cX2_mayBeginAsynchronous 43 = .ok (.iconst 1, 1) := by decide +kernel
theorem dX2_mayBeginAsynchronous_44 : decode cX2_mayBeginAsynchronous 44 = .ok (.goto 4, 3) := by decide +kernel
theorem dX2_mayBeginAsynchronous_47 : decode cX2_mayBeginAsynchronous 47 = .ok (.iconst 0, 1) := by decide +kernel
theorem dX2_mayBeginAsynchronous_48 : decode cX2_mayBeginAsynchronous 48 = .ok (.ireturn, 1) := by decide +kernel
theorem dX2_receive_0 : decode cX2_receive 0 = .ok (.aload_n 0, 1) := by decide +kernel
theorem dX2_receive_1 : decode cX2_receive 1 = .ok (.dup, 1) := by decide +kernel
theorem dX2_receive_2 : decode cX2_receive 2 = .ok (.getfield 74, 3) := by decide +kernel
theorem dX2_receive_5 : decode cX2_receive 5 = .ok (.iconst 1, 1) := by decide +kernel
theorem dX2_receive_6 : decode cX2_receive 6 = .ok (.iadd, 1) := by decide +kernel
theorem dX2_receive_7 : decode cX2_receive 7 = .ok (.putfield 74, 3) := by decide +kernel
theorem dX2_receive_10 : decode cX2_receive 10 = .ok (.aload_n 0, 1) := by decide +kernel
theorem dX2_receive_11 : decode cX2_receive 11 = .ok (.dup, 1) := by decide +kernel
theorem dX2_receive_12 : decode cX2_receive 12 = .ok (.getfield 77, 3) := by decide +kernel
theorem dX2_receive_15 : decode cX2_receive 15 = .ok (.iload_n 1, 1) := by decide +kernel
theorem dX2_receive_16 : decode cX2_receive 16 = .ok (.iadd, 1) := by decide +kernel
theorem dX2_receive_17 : decode cX2_receive 17 = .ok (.putfield 77, 3) := by decide +kernel
theorem dX2_receive_20 : decode cX2_receive 20 = .ok (.aload_n 0, 1) := by decide +kernel
theorem dX2_receive_21 : decode cX2_receive 21 = .ok (.iload_n 2, 1) := by decide +kernel
theorem dX2_receive_22 : decode cX2_receive 22 = .ok (.putfield 35, 3) := by decide +kernel
theorem dX2_receive_25 : decode cX2_receive 25 = .ok (.return_, 1) := by decide +kernel
theorem dX3_init_0 : decode cX3_init 0 = .ok (.aload_n 0, 1) := by decide +kernel
theorem dX3_init_1 : decode cX3_init 1 = .ok (.invokespecial 1, 3) := by decide +kernel
theorem dX3_init_4 : decode cX3_init 4 = .ok (.aload_n 0, 1) := by decide +kernel
theorem dX3_init_5 : decode cX3_init 5 = .ok (.iload_n 1, 1) := by decide +kernel
theorem dX3_init_6 : decode cX3_init 6 = .ok (.iconst 2, 1) := by decide +kernel
theorem dX3_init_7 : decode cX3_init 7 = .ok (.if_icmp .lt 13, 3) := by decide +kernel
theorem dX3_init_10 : decode cX3_init 10 = .ok (.iload_n 1, 1) := by decide +kernel
theorem dX3_init_11 : decode cX3_init 11 = .ok (.bipush 6, 2) := by decide +kernel
theorem dX3_init_13 : decode cX3_init 13 = .ok (.if_icmp .gt 7, 3) := by decide +kernel
theorem dX3_init_16 : decode cX3_init 16 = .ok (.iload_n 1, 1) := by decide +kernel
theorem dX3_init_17 : decode cX3_init 17 = .ok (.goto 4, 3) := by decide +kernel
theorem dX3_init_20 : decode cX3_init 20 = .ok (.iconst 4, 1) := by decide +kernel
theorem dX3_init_21 : decode cX3_init 21 = .ok (.putfield 9, 3) := by decide +kernel
theorem dX3_init_24 : decode cX3_init 24 = .ok (.aload_n 0, 1) := by decide +kernel
theorem dX3_init_25 : decode cX3_init 25 = .ok (.aload_n 0, 1) := by decide +kernel
theorem dX3_init_26 : decode cX3_init 26 = .ok (.getfield 9, 3) := by decide +kernel
theorem dX3_init_29 : decode cX3_init 29 = .ok (.anewarray 13, 3) := by decide +kernel
theorem dX3_init_32 : decode cX3_init 32 = .ok (.putfield 15, 3) := by decide +kernel
theorem dX3_init_35 : decode cX3_init 35 = .ok (.aload_n 0, 1) := by decide +kernel
theorem dX3_init_36 : decode cX3_init 36 = .ok (.aload_n 0, 1) := by decide +kernel
theorem dX3_init_37 : decode cX3_init 37 = .ok (.getfield 9, 3) := by decide +kernel
theorem dX3_init_40 : decode cX3_init 40 = .ok (.newarray .boolean, 2) := by decide +kernel
theorem dX3_init_42 : decode cX3_init 42 = .ok (.putfield 19, 3) := by decide +kernel
theorem dX3_init_45 : decode cX3_init 45 = .ok (.aload_n 0, 1) := by decide +kernel
theorem dX3_init_46 : decode cX3_init 46 = .ok (.aload_n 0, 1) := by decide +kernel
theorem dX3_init_47 : decode cX3_init 47 = .ok (.getfield 9, 3) := by decide +kernel
theorem dX3_init_50 : decode cX3_init 50 = .ok (.anewarray 23, 3) := by decide +kernel
theorem dX3_init_53 : decode cX3_init 53 = .ok (.putfield 25, 3) := by decide +kernel
theorem dX3_init_56 : decode cX3_init 56 = .ok (.iconst 0, 1) := by decide +kernel
theorem dX3_init_57 : decode cX3_init 57 = .ok (.istore_n 2, 1) := by decide +kernel
theorem dX3_init_58 : decode cX3_init 58 = .ok (.iload_n 2, 1) := by decide +kernel
theorem dX3_init_59 : decode cX3_init 59 = .ok (.aload_n 0, 1) := by decide +kernel
theorem dX3_init_60 : decode cX3_init 60 = .ok (.getfield 9, 3) := by decide +kernel
theorem dX3_init_63 : decode cX3_init 63 = .ok (.if_icmp .ge 43, 3) := by decide +kernel
theorem dX3_init_66 : decode cX3_init 66 = .ok (.aload_n 0, 1) := by decide +kernel
theorem dX3_init_67 : decode cX3_init 67 = .ok (.getfield 15, 3) := by decide +kernel
theorem dX3_init_70 : decode cX3_init 70 = .ok (.iload_n 2, 1) := by decide +kernel
theorem dX3_init_71 : decode cX3_init 71 = .ok (.new 13, 3) := by decide +kernel
theorem dX3_init_74 : decode cX3_init 74 = .ok (.dup, 1) := by decide +kernel
theorem dX3_init_75 : decode cX3_init 75 = .ok (.invokespecial 29, 3) := by decide +kernel
theorem dX3_init_78 : decode cX3_init 78 = .ok (.aastore, 1) := by decide +kernel
theorem dX3_init_79 : decode cX3_init 79 = .ok (.aload_n 0, 1) := by decide +kernel
theorem dX3_init_80 : decode cX3_init 80 = .ok (.getfield 19, 3) := by decide +kernel
theorem dX3_init_83 : decode cX3_init 83 = .ok (.iload_n 2, 1) := by decide +kernel
theorem dX3_init_84 : decode cX3_init 84 = .ok (.iconst 1, 1) := by decide +kernel
theorem dX3_init_85 : decode cX3_init 85 = .ok (.bastore, 1) := by decide +kernel
theorem dX3_init_86 : decode cX3_init 86 = .ok (.aload_n 0, 1) := by decide +kernel
theorem dX3_init_87 : decode cX3_init 87 = .ok (.getfield 25, 3) := by decide +kernel
theorem dX3_init_90 : decode cX3_init 90 = .ok (.iload_n 2, 1) := by decide +kernel
theorem dX3_init_91 : decode cX3_init 91 = .ok (.new 23, 3) := by decide +kernel
theorem dX3_init_94 : decode cX3_init 94 = .ok (.dup, 1) := by decide +kernel
theorem dX3_init_95 : decode cX3_init 95 = .ok (.iload_n 2, 1) := by decide +kernel
theorem dX3_init_96 : decode cX3_init 96 = .ok (.invokespecial 30, 3) := by decide +kernel
theorem dX3_init_99 : decode cX3_init 99 = .ok (.aastore, 1) := by decide +kernel
theorem dX3_init_100 : decode cX3_init 100 = .ok (.iinc 2 1, 3) := by decide +kernel
theorem dX3_init_103 : decode cX3_init 103 = .ok (.goto (-45), 3) := by decide +kernel
theorem dX3_init_106 : decode cX3_init 106 = .ok (.aload_n 0, 1) := by decide +kernel
theorem dX3_init_107 : decode cX3_init 107 = .ok (.invokevirtual 33, 3) := by decide +kernel
theorem dX3_init_110 : decode cX3_init 110 = .ok (.return_, 1) := by decide +kernel
theorem dX3_bid_0 : decode cX3_bid 0 = .ok (.aload_n 0, 1) := by decide +kernel
theorem dX3_bid_1 : decode cX3_bid 1 = .ok (.iload_n 1, 1) := by decide +kernel
theorem dX3_bid_2 : decode cX3_bid 2 = .ok (.invokevirtual 36, 3) := by decide +kernel
theorem dX3_bid_5 : decode cX3_bid 5 = .ok (.ifCond .eq 14, 3) := by decide +kernel
theorem dX3_bid_8 : decode cX3_bid 8 = .ok (.iload_n 2, 1) := by decide +kernel
theorem dX3_bid_9 : decode cX3_bid 9 = .ok (.iconst 4, 1) := by decide +kernel
theorem dX3_bid_10 : decode cX3_bid 10 = .ok (.if_icmp .lt 9, 3) := by decide +kernel
theorem dX3_bid_13 : decode cX3_bid 13 = .ok (.iload_n 2, 1) := by decide +kernel
theorem dX3_bid_14 : decode cX3_bid 14 = .ok (.bipush 60, 2) := by decide +kernel
theorem dX3_bid_16 : decode cX3_bid 16 = .ok (.if_icmp .le 5, 3) := by decide +kernel
theorem dX3_bid_19 : decode cX3_bid 19 = .ok (.iconst 0, 1) := by decide +kernel
theorem dX3_bid_20 : decode cX3_bid 20 = .ok (.ireturn, 1) := by decide +kernel
theorem dX3_bid_21 : decode cX3_bid 21 = .ok (.aload_n 0, 1) := by decide +kernel
theorem dX3_bid_22 : decode cX3_bid 22 = .ok (.getfield 15, 3) := by decide +kernel
theorem dX3_bid_25 : decode cX3_bid 25 = .ok (.iload_n 1, 1) := by decide +kernel
theorem dX3_bid_26 : decode cX3_bid 26 = .ok (.aaload, 1) := by decide +kernel
theorem dX3_bid_27 : decode cX3_bid 27 = .ok (.iload_n 2, 1) := by decide +kernel
theorem dX3_bid_28 : decode cX3_bid 28 = .ok (.putfield 40, 3) := by decide +kernel
theorem dX3_bid_31 : decode cX3_bid 31 = .ok (.iconst 1, 1) := by decide +kernel
theorem dX3_bid_32 : decode cX3_bid 32 = .ok (.ireturn, 1) := by decide +kernel
theorem dX3_allot_0 : decode cX3_allot 0 = .ok (.aload_n 0, 1) := by decide +kernel
theorem dX3_allot_1 : decode cX3_allot 1 = .ok (.iload_n 1, 1) := by decide +kernel
theorem dX3_allot_2 : decode cX3_allot 2 = .ok (.invokevirtual 36, 3) := by decide +kernel
theorem dX3_allot_5 : decode cX3_allot 5 = .ok (.ifCond .eq 13, 3) := by decide +kernel
theorem dX3_allot_8 : decode cX3_allot 8 = .ok (.iload_n 2, 1) := by decide +kernel
theorem dX3_allot_9 : decode cX3_allot 9 = .ok (.ifCond .lt 9, 3) := by decide +kernel
theorem dX3_allot_12 : decode cX3_allot 12 = .ok (.iload_n 2, 1) := by decide +kernel
theorem dX3_allot_13 : decode cX3_allot 13 = .ok (.bipush 20, 2) := by decide +kernel
theorem dX3_allot_15 : decode cX3_allot 15 = .ok (.if_icmp .le 5, 3) := by decide +kernel
theorem dX3_allot_18 : decode cX3_allot 18 = .ok (.iconst 0, 1) := by decide +kernel
theorem dX3_allot_19 : decode cX3_allot 19 = .ok (.ireturn, 1) := by decide +kernel
theorem dX3_allot_20 : decode cX3_allot 20 = .ok (.aload_n 0, 1) := by decide +kernel
theorem dX3_allot_21 : decode cX3_allot 21 = .ok (.getfield 15, 3) := by decide +kernel
theorem dX3_allot_24 : decode cX3_allot 24 = .ok (.iload_n 1, 1) := by decide +kernel
theorem dX3_allot_25 : decode cX3_allot 25 = .ok (.aaload, 1) := by decide +kernel
theorem dX3_allot_26 : decode cX3_allot 26 = .ok (.iload_n 2, 1) := by decide +kernel
theorem dX3_allot_27 : decode cX3_allot 27 = .ok (.putfield 43, 3) := by decide +kernel
theorem dX3_allot_30 : decode cX3_allot 30 = .ok (.iconst 1, 1) := by decide +kernel
theorem dX3_allot_31 : decode cX3_allot 31 = .ok (.ireturn, 1) := by decide +kernel
theorem dX3_send_0 : decode cX3_send 0 = .ok (.aload_n 0, 1) := by decide +kernel
theorem dX3_send_1 : decode cX3_send 1 = .ok (.iload_n 1, 1) := by decide +kernel
theorem dX3_send_2 : decode cX3_send 2 = .ok (.invokevirtual 36, 3) := by decide +kernel
theorem dX3_send_5 : decode cX3_send 5 = .ok (.ifCond .eq 16, 3) := by decide +kernel
theorem dX3_send_8 : decode cX3_send 8 = .ok (.aload_n 0, 1) := by decide +kernel
theorem dX3_send_9 : decode cX3_send 9 = .ok (.iload_n 2, 1) := by decide +kernel
theorem dX3_send_10 : decode cX3_send 10 = .ok (.invokevirtual 36, 3) := by decide +kernel
theorem dX3_send_13 : decode cX3_send 13 = .ok (.ifCond .eq 8, 3) := by decide +kernel
theorem dX3_send_16 : decode cX3_send 16 = .ok (.iload_n 1, 1) := by decide +kernel
theorem dX3_send_17 : decode cX3_send 17 = .ok (.iload_n 2, 1) := by decide +kernel
theorem dX3_send_18 : decode cX3_send 18 = .ok (.if_icmp .ne 5, 3) := by decide +kernel
theorem dX3_send_21 : decode cX3_send 21 = .ok (.iconst 0, 1) := by decide +kernel
theorem dX3_send_22 : decode cX3_send 22 = .ok (.ireturn, 1) := by decide +kernel
theorem dX3_send_23 : decode cX3_send 23 = .ok (.iload_n 3, 1) := by decide +kernel
theorem dX3_send_24 : decode cX3_send 24 = .ok (.iconst 1, 1) := by decide +kernel
theorem dX3_send_25 : decode cX3_send 25 = .ok (.if_icmp .lt 20, 3) := by decide +kernel
theorem dX3_send_28 : decode cX3_send 28 = .ok (.iload_n 3, 1) := by decide +kernel
theorem dX3_send_29 : decode cX3_send 29 = .ok (.bipush 10, 2) := by decide +kernel
theorem dX3_send_31 : decode cX3_send 31 = .ok (.if_icmp .gt 14, 3) := by decide +kernel
theorem dX3_send_34 : decode cX3_send 34 = .ok (.iload 4, 2) := by decide +kernel
theorem dX3_send_36 : decode cX3_send 36 = .ok (.ifCond .lt 9, 3) := by decide +kernel
theorem dX3_send_39 : decode cX3_send 39 = .ok (.iload 4, 2) := by decide +kernel
theorem dX3_send_41 : decode cX3_send 41 = .ok (.iconst 3, 1) := by decide +kernel
theorem dX3_send_42 : decode cX3_send 42 = .ok (.if_icmp .le 5, 3) := by decide +kernel
theorem dX3_send_45 : decode cX3_send 45 = .ok (.iconst 0, 1) := by decide +kernel
theorem dX3_send_46 : decode cX3_send 46 = .ok (.ireturn, 1) := by decide +kernel
theorem dX3_send_47 : decode cX3_send 47 = .ok (.aload_n 0, 1) := by decide +kernel
theorem dX3_send_48 : decode cX3_send 48 = .ok (.getfield 15, 3) := by decide +kernel
theorem dX3_send_51 : decode cX3_send 51 = .ok (.iload_n 1, 1) := by decide +kernel
theorem dX3_send_52 : decode cX3_send 52 = .ok (.aaload, 1) := by decide +kernel
theorem dX3_send_53 : decode cX3_send 53 = .ok (.iload 4, 2) := by decide +kernel
theorem dX3_send_55 : decode cX3_send 55 = .ok (.iconst 3, 1) := by decide +kernel
theorem dX3_send_56 : decode cX3_send 56 = .ok (.if_icmp .ne 7, 3) := by decide +kernel
theorem dX3_send_59 : decode cX3_send 59 = .ok (.iconst 1, 1) := by decide +kernel
theorem dX3_send_60 : decode cX3_send 60 = .ok (.goto 4, 3) := by decide +kernel
theorem dX3_send_63 : decode cX3_send 63 = .ok (.iconst 0, 1) := by decide +kernel
theorem dX3_send_64 : decode cX3_send 64 = .ok (.invokevirtual 46, 3) := by decide +kernel
theorem dX3_send_67 : decode cX3_send 67 = .ok (.iload_n 2, 1) := by decide +kernel
theorem dX3_send_68 : decode cX3_send 68 = .ok (.iload_n 3, 1) := by decide +kernel
theorem dX3_send_69 : decode cX3_send 69 = .ok (.iload 4, 2) := by decide +kernel
theorem dX3_send_71 : decode cX3_send 71 = .ok (.invokevirtual 50, 3) := by decide +kernel
theorem dX3_send_74 : decode cX3_send 74 = .ok (.ireturn, 1) := by decide +kernel
theorem dX3_cable_0 : decode cX3_cable 0 = .ok (.aload_n 0, 1) := by decide +kernel
theorem dX3_cable_1 : decode cX3_cable 1 = .ok (.iload_n 1, 1) := by decide +kernel
theorem dX3_cable_2 : decode cX3_cable 2 = .ok (.invokevirtual 36, 3) := by decide +kernel
theorem dX3_cable_5 : decode cX3_cable 5 = .ok (.ifCond .eq 13, 3) := by decide +kernel
theorem dX3_cable_8 : decode cX3_cable 8 = .ok (.aload_n 0, 1) := by decide +kernel
theorem dX3_cable_9 : decode cX3_cable 9 = .ok (.getfield 19, 3) := by decide +kernel
theorem dX3_cable_12 : decode cX3_cable 12 = .ok (.iload_n 1, 1) := by decide +kernel
theorem dX3_cable_13 : decode cX3_cable 13 = .ok (.baload, 1) := by decide +kernel
theorem dX3_cable_14 : decode cX3_cable 14 = .ok (.iload_n 2, 1) := by decide +kernel
theorem dX3_cable_15 : decode cX3_cable 15 = .ok (.if_icmp .ne 5, 3) := by decide +kernel
theorem dX3_cable_18 : decode cX3_cable 18 = .ok (.iconst 0, 1) := by decide +kernel
theorem dX3_cable_19 : decode cX3_cable 19 = .ok (.ireturn, 1) := by decide +kernel
theorem dX3_cable_20 : decode cX3_cable 20 = .ok (.aload_n 0, 1) := by decide +kernel
theorem dX3_cable_21 : decode cX3_cable 21 = .ok (.getfield 19, 3) := by decide +kernel
theorem dX3_cable_24 : decode cX3_cable 24 = .ok (.iload_n 1, 1) := by decide +kernel
theorem dX3_cable_25 : decode cX3_cable 25 = .ok (.iload_n 2, 1) := by decide +kernel
theorem dX3_cable_26 : decode cX3_cable 26 = .ok (.bastore, 1) := by decide +kernel
theorem dX3_cable_27 : decode cX3_cable 27 = .ok (.aload_n 0, 1) := by decide +kernel
theorem dX3_cable_28 : decode cX3_cable 28 = .ok (.invokevirtual 33, 3) := by decide +kernel
theorem dX3_cable_31 : decode cX3_cable 31 = .ok (.iconst 1, 1) := by decide +kernel
theorem dX3_cable_32 : decode cX3_cable 32 = .ok (.ireturn, 1) := by decide +kernel
theorem dX3_power_0 : decode cX3_power 0 = .ok (.aload_n 0, 1) := by decide +kernel
theorem dX3_power_1 : decode cX3_power 1 = .ok (.iload_n 1, 1) := by decide +kernel
theorem dX3_power_2 : decode cX3_power 2 = .ok (.invokevirtual 36, 3) := by decide +kernel
theorem dX3_power_5 : decode cX3_power 5 = .ok (.ifCond .eq 16, 3) := by decide +kernel
theorem dX3_power_8 : decode cX3_power 8 = .ok (.aload_n 0, 1) := by decide +kernel
theorem dX3_power_9 : decode cX3_power 9 = .ok (.getfield 15, 3) := by decide +kernel
theorem dX3_power_12 : decode cX3_power 12 = .ok (.iload_n 1, 1) := by decide +kernel
theorem dX3_power_13 : decode cX3_power 13 = .ok (.aaload, 1) := by decide +kernel
theorem dX3_power_14 : decode cX3_power 14 = .ok (.getfield 56, 3) := by decide +kernel
theorem dX3_power_17 : decode cX3_power 17 = .ok (.iload_n 2, 1) := by decide +kernel
theorem dX3_power_18 : decode cX3_power 18 = .ok (.if_icmp .ne 5, 3) := by decide +kernel
theorem dX3_power_21 : decode cX3_power 21 = .ok (.iconst 0, 1) := by decide +kernel
theorem dX3_power_22 : decode cX3_power 22 = .ok (.ireturn, 1) := by decide +kernel
theorem dX3_power_23 : decode cX3_power 23 = .ok (.aload_n 0, 1) := by decide +kernel
theorem dX3_power_24 : decode cX3_power 24 = .ok (.getfield 15, 3) := by decide +kernel
theorem dX3_power_27 : decode cX3_power 27 = .ok (.iload_n 1, 1) := by decide +kernel
theorem dX3_power_28 : decode cX3_power 28 = .ok (.aaload, 1) := by decide +kernel
theorem dX3_power_29 : decode cX3_power 29 = .ok (.iload_n 2, 1) := by decide +kernel
theorem dX3_power_30 : decode cX3_power 30 = .ok (.putfield 56, 3) := by decide +kernel
theorem dX3_power_33 : decode cX3_power 33 = .ok (.aload_n 0, 1) := by decide +kernel
theorem dX3_power_34 : decode cX3_power 34 = .ok (.invokevirtual 33, 3) := by decide +kernel
theorem dX3_power_37 : decode cX3_power 37 = .ok (.iload_n 2, 1) := by decide +kernel
theorem dX3_power_38 : decode cX3_power 38 = .ok (.ifCond .ne 12, 3) := by decide +kernel
theorem dX3_power_41 : decode cX3_power 41 = .ok (.aload_n 0, 1) := by decide +kernel
theorem dX3_power_42 : decode cX3_power 42 = .ok (.getfield 15, 3) := by decide +kernel
theorem dX3_power_45 : decode cX3_power 45 = .ok (.iload_n 1, 1) := by decide +kernel
theorem dX3_power_46 : decode cX3_power 46 = .ok (.aaload, 1) := by decide +kernel
theorem dX3_power_47 : decode cX3_power 47 = .ok (.invokevirtual 60, 3) := by decide +kernel
theorem dX3_power_50 : decode cX3_power 50 = .ok (.iconst 1, 1) := by decide +kernel
theorem dX3_power_51 : decode cX3_power 51 = .ok (.ireturn, 1) := by decide +kernel
theorem dX3_tick_0 : decode cX3_tick 0 = .ok (.iload_n 1, 1) := by decide +kernel
theorem dX3_tick_1 : decode cX3_tick 1 = .ok (.iconst 1, 1) := by decide +kernel
theorem dX3_tick_2 : decode cX3_tick 2 = .ok (.if_icmp .lt 9, 3) := by decide +kernel
theorem dX3_tick_5 : decode cX3_tick 5 = .ok (.iload_n 1, 1) := by decide +kernel
theorem dX3_tick_6 : decode cX3_tick 6 = .ok (.bipush 100, 2) := by decide +kernel
theorem dX3_tick_8 : decode cX3_tick 8 = .ok (.if_icmp .le 5, 3) := by decide +kernel
theorem dX3_tick_11 : decode cX3_tick 11 = .ok (.iconst 0, 1) := by decide +kernel
theorem dX3_tick_12 : decode cX3_tick 12 = .ok (.ireturn, 1) := by decide +kernel
theorem dX3_tick_13 : decode cX3_tick 13 = .ok (.iconst 0, 1) := by decide +kernel
theorem dX3_tick_14 : decode cX3_tick 14 = .ok (.istore_n 2, 1) := by decide +kernel
theorem dX3_tick_15 : decode cX3_tick 15 = .ok (.iload_n 2, 1) := by decide +kernel
theorem dX3_tick_16 : decode cX3_tick 16 = .ok (.iload_n 1, 1) := by decide +kernel
theorem dX3_tick_17 : decode cX3_tick 17 = .ok (.if_icmp .ge 45, 3) := by decide +kernel
theorem dX3_tick_20 : decode cX3_tick 20 = .ok (.aload_n 0, 1) := by decide +kernel
theorem dX3_tick_21 : decode cX3_tick 21 = .ok (.dup, 1) := by decide +kernel
theorem dX3_tick_22 : decode cX3_tick 22 = .ok (.getfield 63, 3) := by decide +kernel
theorem dX3_tick_25 : decode cX3_tick 25 = .ok (.iconst 1, 1) := by decide +kernel
theorem dX3_tick_26 : decode cX3_tick 26 = .ok (.iadd, 1) := by decide +kernel
theorem dX3_tick_27 : decode cX3_tick 27 = .ok (.putfield 63, 3) := by decide +kernel
theorem dX3_tick_30 : decode cX3_tick 30 = .ok (.iconst 0, 1) := by decide +kernel
theorem dX3_tick_31 : decode cX3_tick 31 = .ok (.istore_n 3, 1) := by decide +kernel
theorem dX3_tick_32 : decode cX3_tick 32 = .ok (.iload_n 3, 1) := by decide +kernel
theorem dX3_tick_33 : decode cX3_tick 33 = .ok (.aload_n 0, 1) := by decide +kernel
theorem dX3_tick_34 : decode cX3_tick 34 = .ok (.getfield 9, 3) := by decide +kernel
theorem dX3_tick_37 : decode cX3_tick 37 = .ok (.if_icmp .ge 19, 3) := by decide +kernel
theorem dX3_tick_40 : decode cX3_tick 40 = .ok (.aload_n 0, 1) := by decide +kernel
theorem dX3_tick_41 : decode cX3_tick 41 = .ok (.aload_n 0, 1) := by decide +kernel
theorem dX3_tick_42 : decode cX3_tick 42 = .ok (.getfield 25, 3) := by decide +kernel
theorem dX3_tick_45 : decode cX3_tick 45 = .ok (.iload_n 3, 1) := by decide +kernel
theorem dX3_tick_46 : decode cX3_tick 46 = .ok (.aaload, 1) := by decide +kernel
theorem dX3_tick_47 : decode cX3_tick 47 = .ok (.invokevirtual 66, 3) := by decide +kernel
theorem dX3_tick_50 : decode cX3_tick 50 = .ok (.iinc 3 1, 3) := by decide +kernel
theorem dX3_tick_53 : decode cX3_tick 53 = .ok (.goto (-21), 3) := by decide +kernel
theorem dX3_tick_56 : decode cX3_tick 56 = .ok (.iinc 2 1, 3) := by decide +kernel
theorem dX3_tick_59 : decode cX3_tick 59 = .ok (.goto (-44), 3) := by decide +kernel
theorem dX3_tick_62 : decode cX3_tick 62 = .ok (.iconst 1, 1) := by decide +kernel
theorem dX3_tick_63 : decode cX3_tick 63 = .ok (.ireturn, 1) := by decide +kernel
theorem dX3_ring_0 : decode cX3_ring 0 = .ok (.aload_n 0, 1) := by decide +kernel
theorem dX3_ring_1 : decode cX3_ring 1 = .ok (.iload_n 1, 1) := by decide +kernel
theorem dX3_ring_2 : decode cX3_ring 2 = .ok (.invokevirtual 36, 3) := by decide +kernel
theorem dX3_ring_5 : decode cX3_ring 5 = .ok (.ifCond .eq 15, 3) := by decide +kernel
theorem dX3_ring_8 : decode cX3_ring 8 = .ok (.aload_n 0, 1) := by decide +kernel
theorem dX3_ring_9 : decode cX3_ring 9 = .ok (.getfield 15, 3) := by decide +kernel
theorem dX3_ring_12 : decode cX3_ring 12 = .ok (.iload_n 1, 1) := by decide +kernel
theorem dX3_ring_13 : decode cX3_ring 13 = .ok (.aaload, 1) := by decide +kernel
theorem dX3_ring_14 : decode cX3_ring 14 = .ok (.getfield 70, 3) := by decide +kernel
theorem dX3_ring_17 : decode cX3_ring 17 = .ok (.goto 4, 3) := by decide +kernel
theorem dX3_ring_20 : decode cX3_ring 20 = .ok (.iconst (-1), 1) := by decide +kernel
theorem dX3_ring_21 : decode cX3_ring 21 = .ok (.ireturn, 1) := by decide +kernel
theorem dX3_state_0 : decode cX3_state 0 = .ok (.aload_n 0, 1) := by decide +kernel
theorem dX3_state_1 : decode cX3_state 1 = .ok (.iload_n 1, 1) := by decide +kernel
theorem dX3_state_2 : decode cX3_state 2 = .ok (.invokevirtual 73, 3) := by decide +kernel
theorem dX3_state_5 : decode cX3_state 5 = .ok (.iconst (-1), 1) := by decide +kernel
theorem dX3_state_6 : decode cX3_state 6 = .ok (.if_icmp .ne 5, 3) := by decide +kernel
theorem dX3_state_9 : decode cX3_state 9 = .ok (.iconst 0, 1) := by decide +kernel
theorem dX3_state_10 : decode cX3_state 10 = .ok (.ireturn, 1) := by decide +kernel
theorem dX3_state_11 : decode cX3_state 11 = .ok (.aload_n 0, 1) := by decide +kernel
theorem dX3_state_12 : decode cX3_state 12 = .ok (.getfield 25, 3) := by decide +kernel
theorem dX3_state_15 : decode cX3_state 15 = .ok (.aload_n 0, 1) := by decide +kernel
theorem dX3_state_16 : decode cX3_state 16 = .ok (.iload_n 1, 1) := by decide +kernel
theorem dX3_state_17 : decode cX3_state 17 = .ok (.invokevirtual 73, 3) := by decide +kernel
theorem dX3_state_20 : decode cX3_state 20 = .ok (.aaload, 1) := by decide +kernel
theorem dX3_state_21 : decode cX3_state 21 = .ok (.astore_n 2, 1) := by decide +kernel
theorem dX3_state_22 : decode cX3_state 22 = .ok (.aload_n 2, 1) := by decide +kernel
theorem dX3_state_23 : decode cX3_state 23 = .ok (.invokevirtual 77, 3) := by decide +kernel
theorem dX3_state_26 : decode cX3_state 26 = .ok (.ifCond .eq 5, 3) := by decide +kernel
theorem dX3_state_29 : decode cX3_state 29 = .ok (.iconst 1, 1) := by decide +kernel
theorem dX3_state_30 : decode cX3_state 30 = .ok (.ireturn, 1) := by decide +kernel
theorem dX3_state_31 : decode cX3_state 31 = .ok (.aload_n 2, 1) := by decide +kernel
theorem dX3_state_32 : decode cX3_state 32 = .ok (.getfield 81, 3) := by decide +kernel
theorem dX3_state_35 : decode cX3_state 35 = .ok (.ifCond .gt 16, 3) := by decide +kernel
theorem dX3_state_38 : decode cX3_state 38 = .ok (.aload_n 0, 1) := by decide +kernel
theorem dX3_state_39 : decode cX3_state 39 = .ok (.aload_n 2, 1) := by decide +kernel
theorem dX3_state_40 : decode cX3_state 40 = .ok (.aload_n 2, 1) := by decide +kernel
theorem dX3_state_41 : decode cX3_state 41 = .ok (.getfield 84, 3) := by decide +kernel
theorem dX3_state_44 : decode cX3_state 44 = .ok (.invokevirtual 87, 3) := by decide +kernel
theorem dX3_state_47 : decode cX3_state 47 = .ok (.iload_n 1, 1) := by decide +kernel
theorem dX3_state_48 : decode cX3_state 48 = .ok (.if_icmp .eq 5, 3) := by decide +kernel
theorem dX3_state_51 : decode cX3_state 51 = .ok (.iconst 2, 1) := by decide +kernel
theorem dX3_state_52 : decode cX3_state 52 = .ok (.ireturn, 1) := by decide +kernel
theorem dX3_state_53 : decode cX3_state 53 = .ok (.aload_n 2, 1) := by decide +kernel
theorem dX3_state_54 : decode cX3_state 54 = .ok (.getfield 91, 3) := by decide +kernel
theorem dX3_state_57 : decode cX3_state 57 = .ok (.ifCond .le 7, 3) := by decide +kernel
theorem dX3_state_60 : decode cX3_state 60 = .ok (.iconst 4, 1) := by decide +kernel
theorem dX3_state_61 : decode cX3_state 61 = .ok (.goto 4, 3) := by decide +kernel
theorem dX3_state_64 : decode cX3_state 64 = .ok (.iconst 3, 1) := by decide +kernel
theorem dX3_state_65 : decode cX3_state 65 = .ok (.ireturn, 1) := by decide +kernel
theorem dX3_operating_0 : decode cX3_operating 0 = .ok (.aload_n 0, 1) := by decide +kernel
theorem dX3_operating_1 : decode cX3_operating 1 = .ok (.iload_n 1, 1) := by decide +kernel
theorem dX3_operating_2 : decode cX3_operating 2 = .ok (.invokevirtual 73, 3) := by decide +kernel
theorem dX3_operating_5 : decode cX3_operating 5 = .ok (.iconst (-1), 1) := by decide +kernel
theorem dX3_operating_6 : decode cX3_operating 6 = .ok (.if_icmp .ne 5, 3) := by decide +kernel
theorem dX3_operating_9 : decode cX3_operating 9 = .ok (.iconst 0, 1) := by decide +kernel
theorem dX3_operating_10 : decode cX3_operating 10 = .ok (.ireturn, 1) := by decide +kernel
theorem dX3_operating_11 : decode cX3_operating 11 = .ok (.aload_n 0, 1) := by decide +kernel
theorem dX3_operating_12 : decode cX3_operating 12 = .ok (.getfield 25, 3) := by decide +kernel
theorem dX3_operating_15 : decode cX3_operating 15 = .ok (.aload_n 0, 1) := by decide +kernel
theorem dX3_operating_16 : decode cX3_operating 16 = .ok (.iload_n 1, 1) := by decide +kernel
theorem dX3_operating_17 : decode cX3_operating 17 = .ok (.invokevirtual 73, 3) := by decide +kernel
theorem dX3_operating_20 : decode cX3_operating 20 = .ok (.aaload, 1) := by decide +kernel
theorem dX3_operating_21 : decode cX3_operating 21 = .ok (.astore_n 2, 1) := by decide +kernel
theorem dX3_operating_22 : decode cX3_operating 22 = .ok (.aload_n 2, 1) := by decide +kernel
theorem dX3_operating_23 : decode cX3_operating 23 = .ok (.invokevirtual 77, 3) := by decide +kernel
theorem dX3_operating_26 : decode cX3_operating 26 = .ok (.ifCond .eq 7, 3) := by decide +kernel
theorem dX3_operating_29 : decode cX3_operating 29 = .ok (.iconst 0, 1) := by decide +kernel
theorem dX3_operating_30 : decode cX3_operating 30 = .ok (.goto 7, 3) := by decide +kernel
theorem dX3_operating_33 : decode cX3_operating 33 = .ok (.aload_n 2, 1) := by decide +kernel
theorem dX3_operating_34 : decode cX3_operating 34 = .ok (.getfield 94, 3) := by decide +kernel
theorem dX3_operating_37 : decode cX3_operating 37 = .ok (.ireturn, 1) := by decide +kernel
theorem dX3_station_0 : decode cX3_station 0 = .ok (.aload_n 0, 1) := by decide +kernel
theorem dX3_station_1 : decode cX3_station 1 = .ok (.iload_n 1, 1) := by decide +kernel
theorem dX3_station_2 : decode cX3_station 2 = .ok (.invokevirtual 36, 3) := by decide +kernel
theorem dX3_station_5 : decode cX3_station 5 = .ok (.ifCond .ne 5, 3) := by decide +kernel
theorem dX3_station_8 : decode cX3_station 8 = .ok (.iconst (-1), 1) := by decide +kernel
theorem dX3_station_9 : decode cX3_station 9 = .ok (.ireturn, 1) := by decide +kernel
theorem dX3_station_10 : decode cX3_station 10 = .ok (.aload_n 0, 1) := by decide +kernel
theorem dX3_station_11 : decode cX3_station 11 = .ok (.getfield 15, 3) := by decide +kernel
theorem dX3_station_14 : decode cX3_station 14 = .ok (.iload_n 1, 1) := by decide +kernel
theorem dX3_station_15 : decode cX3_station 15 = .ok (.aaload, 1) := by decide +kernel
theorem dX3_station_16 : decode cX3_station 16 = .ok (.astore_n 3, 1) := by decide +kernel
theorem dX3_station_17 : decode cX3_station 17 = .ok (.iload_n 2, 1) := by decide +kernel
theorem dX3_station_18 : decode cX3_station 18 = .ok (.tableswitch 128 0 11 #[62, 67, 72, 77, 82, 90, 98, 103, 108, 113, 118, 123], 62) := by decide +kernel
theorem dX3_station_80 : decode cX3_station 80 = .ok (.aload_n 3, 1) := by decide +kernel
theorem dX3_station_81 : decode cX3_station 81 = .ok (.getfield 97, 3) := by decide +kernel
theorem dX3_station_84 : decode cX3_station 84 = .ok (.ireturn, 1) := by decide +kernel
theorem dX3_station_85 : decode cX3_station 85 = .ok (.aload_n 3, 1) := by decide +kernel
theorem dX3_station_86 : decode cX3_station 86 = .ok (.getfield 100, 3) := by decide +kernel
theorem dX3_station_89 : decode cX3_station 89 = .ok (.ireturn, 1) := by decide +kernel
theorem dX3_station_90 : decode cX3_station 90 = .ok (.aload_n 3, 1) := by decide +kernel
theorem dX3_station_91 : decode cX3_station 91 = .ok (.getfield 103, 3) := by decide +kernel
theorem dX3_station_94 : decode cX3_station 94 = .ok (.ireturn, 1) := by decide +kernel
theorem dX3_station_95 : decode cX3_station 95 = .ok (.aload_n 3, 1) := by decide +kernel
theorem dX3_station_96 : decode cX3_station 96 = .ok (.getfield 106, 3) := by decide +kernel
theorem dX3_station_99 : decode cX3_station 99 = .ok (.ireturn, 1) := by decide +kernel
theorem dX3_station_100 : decode cX3_station 100 = .ok (.aload_n 3, 1) := by decide +kernel
theorem dX3_station_101 : decode cX3_station 101 = .ok (.getfield 109, 3) := by decide +kernel
theorem dX3_station_104 : decode cX3_station 104 = .ok (.getfield 113, 3) := by decide +kernel
theorem dX3_station_107 : decode cX3_station 107 = .ok (.ireturn, 1) := by decide +kernel
theorem dX3_station_108 : decode cX3_station 108 = .ok (.aload_n 3, 1) := by decide +kernel
theorem dX3_station_109 : decode cX3_station 109 = .ok (.getfield 116, 3) := by decide +kernel
theorem dX3_station_112 : decode cX3_station 112 = .ok (.getfield 113, 3) := by decide +kernel
theorem dX3_station_115 : decode cX3_station 115 = .ok (.ireturn, 1) := by decide +kernel
theorem dX3_station_116 : decode cX3_station 116 = .ok (.aload_n 3, 1) := by decide +kernel
theorem dX3_station_117 : decode cX3_station 117 = .ok (.getfield 119, 3) := by decide +kernel
theorem dX3_station_120 : decode cX3_station 120 = .ok (.ireturn, 1) := by decide +kernel
theorem dX3_station_121 : decode cX3_station 121 = .ok (.aload_n 3, 1) := by decide +kernel
theorem dX3_station_122 : decode cX3_station 122 = .ok (.getfield 122, 3) := by decide +kernel
theorem dX3_station_125 : decode cX3_station 125 = .ok (.ireturn, 1) := by decide +kernel
theorem dX3_station_126 : decode cX3_station 126 = .ok (.aload_n 3, 1) := by decide +kernel
theorem dX3_station_127 : decode cX3_station 127 = .ok (.getfield 125, 3) := by decide +kernel
theorem dX3_station_130 : decode cX3_station 130 = .ok (.ireturn, 1) := by decide +kernel
theorem dX3_station_131 : decode cX3_station 131 = .ok (.aload_n 3, 1) := by decide +kernel
theorem dX3_station_132 : decode cX3_station 132 = .ok (.getfield 128, 3) := by decide +kernel
theorem dX3_station_135 : decode cX3_station 135 = .ok (.ireturn, 1) := by decide +kernel
theorem dX3_station_136 : decode cX3_station 136 = .ok (.aload_n 3, 1) := by decide +kernel
theorem dX3_station_137 : decode cX3_station 137 = .ok (.getfield 131, 3) := by decide +kernel
theorem dX3_station_140 : decode cX3_station 140 = .ok (.ireturn, 1) := by decide +kernel
theorem dX3_station_141 : decode cX3_station 141 = .ok (.aload_n 3, 1) := by decide +kernel
theorem dX3_station_142 : decode cX3_station 142 = .ok (.getfield 134, 3) := by decide +kernel
theorem dX3_station_145 : decode cX3_station 145 = .ok (.ireturn, 1) := by decide +kernel
theorem dX3_station_146 : decode cX3_station 146 = .ok (.iconst (-1), 1) := by decide +kernel
theorem dX3_station_147 : decode cX3_station 147 = .ok (.ireturn, 1) := by decide +kernel
theorem dX3_rotation_0 : decode cX3_rotation 0 = .ok (.aload_n 0, 1) := by decide +kernel
theorem dX3_rotation_1 : decode cX3_rotation 1 = .ok (.iload_n 1, 1) := by decide +kernel
theorem dX3_rotation_2 : decode cX3_rotation 2 = .ok (.invokevirtual 36, 3) := by decide +kernel
theorem dX3_rotation_5 : decode cX3_rotation 5 = .ok (.ifCond .eq 15, 3) := by decide +kernel
theorem dX3_rotation_8 : decode cX3_rotation 8 = .ok (.aload_n 0, 1) := by decide +kernel
theorem dX3_rotation_9 : decode cX3_rotation 9 = .ok (.getfield 15, 3) := by decide +kernel
theorem dX3_rotation_12 : decode cX3_rotation 12 = .ok (.iload_n 1, 1) := by decide +kernel
theorem dX3_rotation_13 : decode cX3_rotation 13 = .ok (.aaload, 1) := by decide +kernel
theorem dX3_rotation_14 : decode cX3_rotation 14 = .ok (.getfield 137, 3) := by decide +kernel
theorem dX3_rotation_17 : decode cX3_rotation 17 = .ok (.goto 4, 3) := by decide +kernel
theorem dX3_rotation_20 : decode cX3_rotation 20 = .ok (.fconst 0, 1) := by decide +kernel
theorem dX3_rotation_21 : decode cX3_rotation 21 = .ok (.freturn, 1) := by decide +kernel
theorem dX3_share_0 : decode cX3_share 0 = .ok (.aload_n 0, 1) := by decide +kernel
theorem dX3_share_1 : decode cX3_share 1 = .ok (.iload_n 1, 1) := by decide +kernel
theorem dX3_share_2 : decode cX3_share 2 = .ok (.invokevirtual 36, 3) := by decide +kernel
theorem dX3_share_5 : decode cX3_share 5 = .ok (.ifCond .eq 10, 3) := by decide +kernel
theorem dX3_share_8 : decode cX3_share 8 = .ok (.aload_n 0, 1) := by decide +kernel
theorem dX3_share_9 : decode cX3_share 9 = .ok (.getfield 63, 3) := by decide +kernel
theorem dX3_share_12 : decode cX3_share 12 = .ok (.ifCond .ne 5, 3) := by decide +kernel
theorem dX3_share_15 : decode cX3_share 15 = .ok (.dconst 0, 1) := by decide +kernel
theorem dX3_share_16 : decode cX3_share 16 = .ok (.dreturn, 1) := by decide +kernel
theorem dX3_share_17 : decode cX3_share 17 = .ok (.aload_n 0, 1) := by decide +kernel
theorem dX3_share_18 : decode cX3_share 18 = .ok (.getfield 15, 3) := by decide +kernel
theorem dX3_share_21 : decode cX3_share 21 = .ok (.iload_n 1, 1) := by decide +kernel
theorem dX3_share_22 : decode cX3_share 22 = .ok (.aaload, 1) := by decide +kernel
theorem dX3_share_23 : decode cX3_share 23 = .ok (.getfield 131, 3) := by decide +kernel
theorem dX3_share_26 : decode cX3_share 26 = .ok (.i2d, 1) := by decide +kernel
theorem dX3_share_27 : decode cX3_share 27 = .ok (.aload_n 0, 1) := by decide +kernel
theorem dX3_share_28 : decode cX3_share 28 = .ok (.getfield 63, 3) := by decide +kernel
theorem dX3_share_31 : decode cX3_share 31 = .ok (.i2d, 1) := by decide +kernel
theorem dX3_share_32 : decode cX3_share 32 = .ok (.ddiv, 1) := by decide +kernel
theorem dX3_share_33 : decode cX3_share 33 = .ok (.dreturn, 1) := by decide +kernel
theorem dX3_longest_0 : decode cX3_longest 0 = .ok (.aload_n 0, 1) := by decide +kernel
theorem dX3_longest_1 : decode cX3_longest 1 = .ok (.getfield 141, 3) := by decide +kernel
theorem dX3_longest_4 : decode cX3_longest 4 = .ok (.ireturn, 1) := by decide +kernel
theorem dX3_isStation_0 : decode cX3_isStation 0 = .ok (.iload_n 1, 1) := by decide +kernel
theorem dX3_isStation_1 : decode cX3_isStation 1 = .ok (.ifCond .lt 15, 3) := by decide +kernel
theorem dX3_isStation_4 : decode cX3_isStation 4 = .ok (.iload_n 1, 1) := by decide +kernel
theorem dX3_isStation_5 : decode cX3_isStation 5 = .ok (.aload_n 0, 1) := by decide +kernel
theorem dX3_isStation_6 : decode cX3_isStation 6 = .ok (.getfield 9, 3) := by decide +kernel
theorem dX3_isStation_9 : decode cX3_isStation 9 = .ok (.if_icmp .ge 7, 3) := by decide +kernel
theorem dX3_isStation_12 : decode cX3_isStation 12 = .ok (.iconst 1, 1) := by decide +kernel
theorem dX3_isStation_13 : decode cX3_isStation 13 = .ok (.goto 4, 3) := by decide +kernel
theorem dX3_isStation_16 : decode cX3_isStation 16 = .ok (.iconst 0, 1) := by decide +kernel
theorem dX3_isStation_17 : decode cX3_isStation 17 = .ok (.ireturn, 1) := by decide +kernel
theorem dX3_numberAfter_0 : decode cX3_numberAfter 0 = .ok (.iload_n 1, 1) := by decide +kernel
theorem dX3_numberAfter_1 : decode cX3_numberAfter 1 = .ok (.aload_n 0, 1) := by decide +kernel
theorem dX3_numberAfter_2 : decode cX3_numberAfter 2 = .ok (.getfield 9, 3) := by decide +kernel
theorem dX3_numberAfter_5 : decode cX3_numberAfter 5 = .ok (.iconst 1, 1) := by decide +kernel
theorem dX3_numberAfter_6 : decode cX3_numberAfter 6 = .ok (.isub, 1) := by decide +kernel
theorem dX3_numberAfter_7 : decode cX3_numberAfter 7 = .ok (.if_icmp .ne 7, 3) := by decide +kernel
theorem dX3_numberAfter_10 : decode cX3_numberAfter 10 = .ok (.iconst 0, 1) := by decide +kernel
theorem dX3_numberAfter_11 : decode cX3_numberAfter 11 = .ok (.goto 6, 3) := by decide +kernel
theorem dX3_numberAfter_14 : decode cX3_numberAfter 14 = .ok (.iload_n 1, 1) := by decide +kernel
theorem dX3_numberAfter_15 : decode cX3_numberAfter 15 = .ok (.iconst 1, 1) := by decide +kernel
theorem dX3_numberAfter_16 : decode cX3_numberAfter 16 = .ok (.iadd, 1) := by decide +kernel
theorem dX3_numberAfter_17 : decode cX3_numberAfter 17 = .ok (.ireturn, 1) := by decide +kernel
theorem dX3_numberBefore_0 : decode cX3_numberBefore 0 = .ok (.iload_n 1, 1) := by decide +kernel
theorem dX3_numberBefore_1 : decode cX3_numberBefore 1 = .ok (.ifCond .ne 12, 3) := by decide +kernel
theorem dX3_numberBefore_4 : decode cX3_numberBefore 4 = .ok (.aload_n 0, 1) := by decide +kernel
theorem dX3_numberBefore_5 : decode cX3_numberBefore 5 = .ok (.getfield 9, 3) := by decide +kernel
theorem dX3_numberBefore_8 : decode cX3_numberBefore 8 = .ok (.iconst 1, 1) := by decide +kernel
theorem dX3_numberBefore_9 : decode cX3_numberBefore 9 = .ok (.isub, 1) := by decide +kernel
theorem dX3_numberBefore_10 : decode cX3_numberBefore 10 = .ok (.goto 6, 3) := by decide +kernel
theorem dX3_numberBefore_13 : decode cX3_numberBefore 13 = .ok (.iload_n 1, 1) := by decide +kernel
theorem dX3_numberBefore_14 : decode cX3_numberBefore 14 = .ok (.iconst 1, 1) := by decide +kernel
theorem dX3_numberBefore_15 : decode cX3_numberBefore 15 = .ok (.isub, 1) := by decide +kernel
theorem dX3_numberBefore_16 : decode cX3_numberBefore 16 = .ok (.ireturn, 1) := by decide +kernel
theorem dX3_numberAt_0 : decode cX3_numberAt 0 = .ok (.aload_n 1, 1) := by decide +kernel
theorem dX3_numberAt_1 : decode cX3_numberAt 1 = .ok (.getfield 144, 3) := by decide +kernel
theorem dX3_numberAt_4 : decode cX3_numberAt 4 = .ok (.iload_n 2, 1) := by decide +kernel
theorem dX3_numberAt_5 : decode cX3_numberAt 5 = .ok (.iadd, 1) := by decide +kernel
theorem dX3_numberAt_6 : decode cX3_numberAt 6 = .ok (.istore_n 3, 1) := by decide +kernel
theorem dX3_numberAt_7 : decode cX3_numberAt 7 = .ok (.iload_n 3, 1) := by decide +kernel
theorem dX3_numberAt_8 : decode cX3_numberAt 8 = .ok (.aload_n 0, 1) := by decide +kernel
theorem dX3_numberAt_9 : decode cX3_numberAt 9 = .ok (.getfield 9, 3) := by decide +kernel
theorem dX3_numberAt_12 : decode cX3_numberAt 12 = .ok (.if_icmp .lt 12, 3) := by decide +kernel
theorem dX3_numberAt_15 : decode cX3_numberAt 15 = .ok (.iload_n 3, 1) := by decide +kernel
theorem dX3_numberAt_16 : decode cX3_numberAt 16 = .ok (.aload_n 0, 1) := by decide +kernel
theorem dX3_numberAt_17 : decode cX3_numberAt 17 = .ok (.getfield 9, 3) := by decide +kernel
theorem dX3_numberAt_20 : decode cX3_numberAt 20 = .ok (.isub, 1) := by decide +kernel
theorem dX3_numberAt_21 : decode cX3_numberAt 21 = .ok (.goto 4, 3) := by decide +kernel
theorem dX3_numberAt_24 : decode cX3_numberAt 24 = .ok (.iload_n 3, 1) := by decide +kernel
theorem dX3_numberAt_25 : decode cX3_numberAt 25 = .ok (.ireturn, 1) := by decide +kernel
theorem dX3_stationAt_0 : decode cX3_stationAt 0 = .ok (.aload_n 0, 1) := by decide +kernel
theorem dX3_stationAt_1 : decode cX3_stationAt 1 = .ok (.getfield 15, 3) := by decide +kernel
theorem dX3_stationAt_4 : decode cX3_stationAt 4 = .ok (.aload_n 0, 1) := by decide +kernel
theorem dX3_stationAt_5 : decode cX3_stationAt 5 = .ok (.aload_n 1, 1) := by decide +kernel
theorem dX3_stationAt_6 : decode cX3_stationAt 6 = .ok (.iload_n 2, 1) := by decide +kernel
theorem dX3_stationAt_7 : decode cX3_stationAt 7 = .ok (.invokevirtual 87, 3) := by decide +kernel
theorem dX3_stationAt_10 : decode cX3_stationAt 10 = .ok (.aaload, 1) := by decide +kernel
theorem dX3_stationAt_11 : decode cX3_stationAt 11 = .ok (.areturn, 1) := by decide +kernel
theorem dX3_findRings_0 : decode cX3_findRings 0 = .ok (.aload_n 0, 1) := by decide +kernel
theorem dX3_findRings_1 : decode cX3_findRings 1 = .ok (.invokevirtual 147, 3) := by decide +kernel
theorem dX3_findRings_4 : decode cX3_findRings 4 = .ok (.istore_n 1, 1) := by decide +kernel
theorem dX3_findRings_5 : decode cX3_findRings 5 = .ok (.iconst 0, 1) := by decide +kernel
theorem dX3_findRings_6 : decode cX3_findRings 6 = .ok (.istore_n 2, 1) := by decide +kernel
theorem dX3_findRings_7 : decode cX3_findRings 7 = .ok (.iload_n 2, 1) := by decide +kernel
theorem dX3_findRings_8 : decode cX3_findRings 8 = .ok (.aload_n 0, 1) := by decide +kernel
theorem dX3_findRings_9 : decode cX3_findRings 9 = .ok (.getfield 9, 3) := by decide +kernel
theorem dX3_findRings_12 : decode cX3_findRings 12 = .ok (.if_icmp .ge 85, 3) := by decide +kernel
theorem dX3_findRings_15 : decode cX3_findRings 15 = .ok (.aload_n 0, 1) := by decide +kernel
theorem dX3_findRings_16 : decode cX3_findRings 16 = .ok (.getfield 25, 3) := by decide +kernel
theorem dX3_findRings_19 : decode cX3_findRings 19 = .ok (.iload_n 2, 1) := by decide +kernel
theorem dX3_findRings_20 : decode cX3_findRings 20 = .ok (.aaload, 1) := by decide +kernel
theorem dX3_findRings_21 : decode cX3_findRings 21 = .ok (.astore_n 3, 1) := by decide +kernel
theorem dX3_findRings_22 : decode cX3_findRings 22 = .ok (.iload_n 1, 1) := by decide +kernel
theorem dX3_findRings_23 : decode cX3_findRings 23 = .ok (.ifCond .eq 11, 3) := by decide +kernel
theorem dX3_findRings_26 : decode cX3_findRings 26 = .ok (.iload_n 2, 1) := by decide +kernel
theorem dX3_findRings_27 : decode cX3_findRings 27 = .ok (.ifCond .ne 7, 3) := by decide +kernel
theorem dX3_findRings_30 : decode cX3_findRings 30 = .ok (.iconst 1, 1) := by decide +kernel
theorem dX3_findRings_31 : decode cX3_findRings 31 = .ok (.goto 4, 3) := by decide +kernel
theorem dX3_findRings_34 : decode cX3_findRings 34 = .ok (.iconst 0, 1) := by decide +kernel
theorem dX3_findRings_35 : decode cX3_findRings 35 = .ok (.istore 4, 2) := by decide +kernel
theorem dX3_findRings_37 : decode cX3_findRings 37 = .ok (.iload_n 1, 1) := by decide +kernel
theorem dX3_findRings_38 : decode cX3_findRings 38 = .ok (.ifCond .eq 19, 3) := by decide +kernel
theorem dX3_findRings_41 : decode cX3_findRings 41 = .ok (.iload 4, 2) := by decide +kernel
theorem dX3_findRings_43 : decode cX3_findRings 43 = .ok (.ifCond .eq 10, 3) := by decide +kernel
theorem dX3_findRings_46 : decode cX3_findRings 46 = .ok (.aload_n 0, 1) := by decide +kernel
theorem dX3_findRings_47 : decode cX3_findRings 47 = .ok (.getfield 9, 3) := by decide +kernel
theorem dX3_findRings_50 : decode cX3_findRings 50 = .ok (.goto 12, 3) := by decide +kernel
theorem dX3_findRings_53 : decode cX3_findRings 53 = .ok (.iconst 0, 1) := by decide +kernel
theorem dX3_findRings_54 : decode cX3_findRings 54 = .ok (.goto 8, 3) := by decide +kernel
theorem dX3_findRings_57 : decode cX3_findRings 57 = .ok (.aload_n 0, 1) := by decide +kernel
theorem dX3_findRings_58 : decode cX3_findRings 58 = .ok (.iload_n 2, 1) := by decide +kernel
theorem dX3_findRings_59 : decode cX3_findRings 59 = .ok (.invokevirtual 150, 3) := by decide +kernel
theorem dX3_findRings_62 : decode cX3_findRings 62 = .ok (.istore 5, 2) := by decide +kernel
theorem dX3_findRings_64 : decode cX3_findRings 64 = .ok (.iload 5, 2) := by decide +kernel
theorem dX3_findRings_66 : decode cX3_findRings 66 = .ok (.aload_n 3, 1) := by decide +kernel
theorem dX3_findRings_67 : decode cX3_findRings 67 = .ok (.getfield 153, 3) := by decide +kernel
theorem dX3_findRings_70 : decode cX3_findRings 70 = .ok (.if_icmp .ne 12, 3) := by decide +kernel
theorem dX3_findRings_73 : decode cX3_findRings 73 = .ok (.iload 4, 2) := by decide +kernel
theorem dX3_findRings_75 : decode cX3_findRings 75 = .ok (.aload_n 3, 1) := by decide +kernel
theorem dX3_findRings_76 : decode cX3_findRings 76 = .ok (.getfield 156, 3) := by decide +kernel
theorem dX3_findRings_79 : decode cX3_findRings 79 = .ok (.if_icmp .eq 12, 3) := by decide +kernel
theorem dX3_findRings_82 : decode cX3_findRings 82 = .ok (.aload_n 0, 1) := by decide +kernel
theorem dX3_findRings_83 : decode cX3_findRings 83 = .ok (.aload_n 3, 1) := by decide +kernel
theorem dX3_findRings_84 : decode cX3_findRings 84 = .ok (.iload 5, 2) := by decide +kernel
theorem dX3_findRings_86 : decode cX3_findRings 86 = .ok (.iload 4, 2) := by decide +kernel
theorem dX3_findRings_88 : decode cX3_findRings 88 = .ok (.invokevirtual 159, 3) := by decide +kernel
theorem dX3_findRings_91 : decode cX3_findRings 91 = .ok (.iinc 2 1, 3) := by decide +kernel
theorem dX3_findRings_94 : decode cX3_findRings 94 = .ok (.goto (-87), 3) := by decide +kernel
theorem dX3_findRings_97 : decode cX3_findRings 97 = .ok (.return_, 1) := by decide +kernel
theorem dX3_isUnbroken_0 : decode cX3_isUnbroken 0 = .ok (.iconst 0, 1) := by decide +kernel
theorem dX3_isUnbroken_1 : decode cX3_isUnbroken 1 = .ok (.istore_n 1, 1) := by decide +kernel
theorem dX3_isUnbroken_2 : decode cX3_isUnbroken 2 = .ok (.iload_n 1, 1) := by decide +kernel
theorem dX3_isUnbroken_3 : decode cX3_isUnbroken 3 = .ok (.aload_n 0, 1) := by decide +kernel
theorem dX3_isUnbroken_4 : decode cX3_isUnbroken 4 = .ok (.getfield 9, 3) := by decide +kernel
theorem dX3_isUnbroken_7 : decode cX3_isUnbroken 7 = .ok (.if_icmp .ge 19, 3) := by decide +kernel
theorem dX3_isUnbroken_10 : decode cX3_isUnbroken 10 = .ok (.aload_n 0, 1) := by decide +kernel
theorem dX3_isUnbroken_11 : decode cX3_isUnbroken 11 = .ok (.iload_n 1, 1) := by decide +kernel
theorem dX3_isUnbroken_12 : decode cX3_isUnbroken 12 = .ok (.invokevirtual 163, 3) := by decide +kernel
theorem dX3_isUnbroken_15 : decode cX3_isUnbroken 15 = .ok (.ifCond .ne 5, 3) := by decide +kernel
theorem dX3_isUnbroken_18 : decode cX3_isUnbroken 18 = .ok (.iconst 0, 1) := by decide +kernel
theorem dX3_isUnbroken_19 : decode cX3_isUnbroken 19 = .ok (.ireturn, 1) := by decide +kernel
theorem dX3_isUnbroken_20 : decode cX3_isUnbroken 20 = .ok (.iinc 1 1, 3) := by decide +kernel
theorem dX3_isUnbroken_23 : decode cX3_isUnbroken 23 = .ok (.goto (-21), 3) := by decide +kernel
theorem dX3_isUnbroken_26 : decode cX3_isUnbroken 26 = .ok (.iconst 1, 1) := by decide +kernel
theorem dX3_isUnbroken_27 : decode cX3_isUnbroken 27 = .ok (.ireturn, 1) := by decide +kernel
theorem dX3_isJoinedToNext_0 : decode cX3_isJoinedToNext 0 = .ok (.aload_n 0, 1) := by decide +kernel
theorem dX3_isJoinedToNext_1 : decode cX3_isJoinedToNext 1 = .ok (.getfield 15, 3) := by decide +kernel
theorem dX3_isJoinedToNext_4 : decode cX3_isJoinedToNext 4 = .ok (.iload_n 1, 1) := by decide +kernel
theorem dX3_isJoinedToNext_5 : decode cX3_isJoinedToNext 5 = .ok (.aaload, 1) := by decide +kernel
theorem dX3_isJoinedToNext_6 : decode cX3_isJoinedToNext 6 = .ok (.getfield 56, 3) := by decide +kernel
theorem dX3_isJoinedToNext_9 : decode cX3_isJoinedToNext 9 = .ok (.ifCond .eq 32, 3) := by decide +kernel
theorem dX3_isJoinedToNext_12 : decode cX3_isJoinedToNext 12 = .ok (.aload_n 0, 1) := by decide +kernel
theorem dX3_isJoinedToNext_13 : decode cX3_isJoinedToNext 13 = .ok (.getfield 19, 3) := by decide +kernel
theorem dX3_isJoinedToNext_16 : decode cX3_isJoinedToNext 16 = .ok (.iload_n 1, 1) := by decide +kernel
theorem dX3_isJoinedToNext_17 : decode cX3_isJoinedToNext 17 = .ok (.baload, 1) := by decide +kernel
theorem dX3_isJoinedToNext_18 : decode cX3_isJoinedToNext 18 = .ok (.ifCond .eq 23, 3) := by decide +kernel
theorem dX3_isJoinedToNext_21 : decode cX3_isJoinedToNext 21 = .ok (.aload_n 0, 1) := by decide +kernel
theorem dX3_isJoinedToNext_22 : decode cX3_isJoinedToNext 22 = .ok (.getfield 15, 3) := by decide +kernel
theorem dX3_isJoinedToNext_25 : decode cX3_isJoinedToNext 25 = .ok (.aload_n 0, 1) := by decide +kernel
theorem dX3_isJoinedToNext_26 : decode cX3_isJoinedToNext 26 = .ok (.iload_n 1, 1) := by decide +kernel
theorem dX3_isJoinedToNext_27 : decode cX3_isJoinedToNext 27 = .ok (.invokevirtual 166, 3) := by decide +kernel
theorem dX3_isJoinedToNext_30 : decode cX3_isJoinedToNext 30 = .ok (.aaload, 1) := by decide +kernel
theorem dX3_isJoinedToNext_31 : decode cX3_isJoinedToNext 31 = .ok (.getfield 56, 3) := by decide +kernel
theorem dX3_isJoinedToNext_34 : decode cX3_isJoinedToNext 34 = .ok (.ifCond .eq 7, 3) := by decide +kernel
theorem dX3_isJoinedToNext_37 : decode cX3_isJoinedToNext 37 = .ok (.iconst 1, 1) := by decide +kernel
theorem dX3_isJoinedToNext_38 : decode cX3_isJoinedToNext 38 = .ok (.goto 4, 3) := by decide +kernel
theorem dX3_isJoinedToNext_41 : decode cX3_isJoinedToNext 41 = .ok (.iconst 0, 1) := by decide +kernel
theorem dX3_isJoinedToNext_42 : decode cX3_isJoinedToNext 42 = .ok (.ireturn, 1) := by decide +kernel
theorem dX3_rowLength_0 : decode cX3_rowLength 0 = .ok (.aload_n 0, 1) := by decide +kernel
theorem dX3_rowLength_1 : decode cX3_rowLength 1 = .ok (.getfield 15, 3) := by decide +kernel
theorem dX3_rowLength_4 : decode cX3_rowLength 4 = .ok (.iload_n 1, 1) := by decide +kernel
theorem dX3_rowLength_5 : decode cX3_rowLength 5 = .ok (.aaload, 1) := by decide +kernel
theorem dX3_rowLength_6 : decode cX3_rowLength 6 = .ok (.getfield 56, 3) := by decide +kernel
theorem dX3_rowLength_9 : decode cX3_rowLength 9 = .ok (.ifCond .eq 15, 3) := by decide +kernel
theorem dX3_rowLength_12 : decode cX3_rowLength 12 = .ok (.aload_n 0, 1) := by decide +kernel
theorem dX3_rowLength_13 : decode cX3_rowLength 13 = .ok (.aload_n 0, 1) := by decide +kernel
theorem dX3_rowLength_14 : decode cX3_rowLength 14 = .ok (.iload_n 1, 1) := by decide +kernel
theorem dX3_rowLength_15 : decode cX3_rowLength 15 = .ok (.invokevirtual 169, 3) := by decide +kernel
theorem dX3_rowLength_18 : decode cX3_rowLength 18 = .ok (.invokevirtual 163, 3) := by decide +kernel
theorem dX3_rowLength_21 : decode cX3_rowLength 21 = .ok (.ifCond .eq 5, 3) := by decide +kernel
theorem dX3_rowLength_24 : decode cX3_rowLength 24 = .ok (.iconst 0, 1) := by decide +kernel
theorem dX3_rowLength_25 : decode cX3_rowLength 25 = .ok (.ireturn, 1) := by decide +kernel
theorem dX3_rowLength_26 : decode cX3_rowLength 26 = .ok (.iconst 1, 1) := by decide +kernel
theorem dX3_rowLength_27 : decode cX3_rowLength 27 = .ok (.istore_n 2, 1) := by decide +kernel
theorem dX3_rowLength_28 : decode cX3_rowLength 28 = .ok (.iload_n 1, 1) := by decide +kernel
theorem dX3_rowLength_29 : decode cX3_rowLength 29 = .ok (.istore_n 3, 1) := by decide +kernel
theorem dX3_rowLength_30 : decode cX3_rowLength 30 = .ok (.iload_n 2, 1) := by decide +kernel
theorem dX3_rowLength_31 : decode cX3_rowLength 31 = .ok (.aload_n 0, 1) := by decide +kernel
theorem dX3_rowLength_32 : decode cX3_rowLength 32 = .ok (.getfield 9, 3) := by decide +kernel
theorem dX3_rowLength_35 : decode cX3_rowLength 35 = .ok (.if_icmp .ge 23, 3) := by decide +kernel
theorem dX3_rowLength_38 : decode cX3_rowLength 38 = .ok (.aload_n 0, 1) := by decide +kernel
theorem dX3_rowLength_39 : decode cX3_rowLength 39 = .ok (.iload_n 3, 1) := by decide +kernel
theorem dX3_rowLength_40 : decode cX3_rowLength 40 = .ok (.invokevirtual 163, 3) := by decide +kernel
theorem dX3_rowLength_43 : decode cX3_rowLength 43 = .ok (.ifCond .eq 15, 3) := by decide +kernel
theorem dX3_rowLength_46 : decode cX3_rowLength 46 = .ok (.aload_n 0, 1) := by decide +kernel
theorem dX3_rowLength_47 : decode cX3_rowLength 47 = .ok (.iload_n 3, 1) := by decide +kernel
theorem dX3_rowLength_48 : decode cX3_rowLength 48 = .ok (.invokevirtual 166, 3) := by decide +kernel
theorem dX3_rowLength_51 : decode cX3_rowLength 51 = .ok (.istore_n 3, 1) := by decide +kernel
theorem dX3_rowLength_52 : decode cX3_rowLength 52 = .ok (.iinc 2 1, 3) := by decide +kernel
theorem dX3_rowLength_55 : decode cX3_rowLength 55 = .ok (.goto (-25), 3) := by decide +kernel
theorem dX3_rowLength_58 : decode cX3_rowLength 58 = .ok (.iload_n 2, 1) := by decide +kernel
theorem dX3_rowLength_59 : decode cX3_rowLength 59 = .ok (.ireturn, 1) := by decide +kernel
theorem dX3_reform_0 : decode cX3_reform 0 = .ok (.aload_n 0, 1) := by decide +kernel
theorem dX3_reform_1 : decode cX3_reform 1 = .ok (.aload_n 1, 1) := by decide +kernel
theorem dX3_reform_2 : decode cX3_reform 2 = .ok (.invokevirtual 172, 3) := by decide +kernel
theorem dX3_reform_5 : decode cX3_reform 5 = .ok (.aload_n 1, 1) := by decide +kernel
theorem dX3_reform_6 : decode cX3_reform 6 = .ok (.iload_n 2, 1) := by decide +kernel
theorem dX3_reform_7 : decode cX3_reform 7 = .ok (.putfield 153, 3) := by decide +kernel
theorem dX3_reform_10 : decode cX3_reform 10 = .ok (.aload_n 1, 1) := by decide +kernel
theorem dX3_reform_11 : decode cX3_reform 11 = .ok (.iload_n 3, 1) := by decide +kernel
theorem dX3_reform_12 : decode cX3_reform 12 = .ok (.putfield 156, 3) := by decide +kernel
theorem dX3_reform_15 : decode cX3_reform 15 = .ok (.aload_n 1, 1) := by decide +kernel
theorem dX3_reform_16 : decode cX3_reform 16 = .ok (.iconst 2, 1) := by decide +kernel
theorem dX3_reform_17 : decode cX3_reform 17 = .ok (.iload_n 2, 1) := by decide +kernel
theorem dX3_reform_18 : decode cX3_reform 18 = .ok (.imul, 1) := by decide +kernel
theorem dX3_reform_19 : decode cX3_reform 19 = .ok (.putfield 175, 3) := by decide +kernel
theorem dX3_reform_22 : decode cX3_reform 22 = .ok (.iconst 0, 1) := by decide +kernel
theorem dX3_reform_23 : decode cX3_reform 23 = .ok (.istore 4, 2) := by decide +kernel
theorem dX3_reform_25 : decode cX3_reform 25 = .ok (.iload 4, 2) := by decide +kernel
theorem dX3_reform_27 : decode cX3_reform 27 = .ok (.iload_n 2, 1) := by decide +kernel
theorem dX3_reform_28 : decode cX3_reform 28 = .ok (.if_icmp .ge 23, 3) := by decide +kernel
theorem dX3_reform_31 : decode cX3_reform 31 = .ok (.aload_n 0, 1) := by decide +kernel
theorem dX3_reform_32 : decode cX3_reform 32 = .ok (.aload_n 1, 1) := by decide +kernel
theorem dX3_reform_33 : decode cX3_reform 33 = .ok (.iload 4, 2) := by decide +kernel
theorem dX3_reform_35 : decode cX3_reform 35 = .ok (.invokevirtual 178, 3) := by decide +kernel
theorem dX3_reform_38 : decode cX3_reform 38 = .ok (.aload_n 1, 1) := by decide +kernel
theorem dX3_reform_39 : decode cX3_reform 39 = .ok (.getfield 144, 3) := by decide +kernel
theorem dX3_reform_42 : decode cX3_reform 42 = .ok (.putfield 70, 3) := by decide +kernel
theorem dX3_reform_45 : decode cX3_reform 45 = .ok (.iinc 4 1, 3) := by decide +kernel
theorem dX3_reform_48 : decode cX3_reform 48 = .ok (.goto (-23), 3) := by decide +kernel
theorem dX3_reform_51 : decode cX3_reform 51 = .ok (.return_, 1) := by decide +kernel
theorem dX3_claim_0 : decode cX3_claim 0 = .ok (.aload_n 0, 1) := by decide +kernel
theorem dX3_claim_1 : decode cX3_claim 1 = .ok (.aload_n 1, 1) := by decide +kernel
theorem dX3_claim_2 : decode cX3_claim 2 = .ok (.invokevirtual 172, 3) := by decide +kernel
theorem dX3_claim_5 : decode cX3_claim 5 = .ok (.aload_n 1, 1) := by decide +kernel
theorem dX3_claim_6 : decode cX3_claim 6 = .ok (.iconst 2, 1) := by decide +kernel
theorem dX3_claim_7 : decode cX3_claim 7 = .ok (.aload_n 1, 1) := by decide +kernel
theorem dX3_claim_8 : decode cX3_claim 8 = .ok (.getfield 153, 3) := by decide +kernel
theorem dX3_claim_11 : decode cX3_claim 11 = .ok (.imul, 1) := by decide +kernel
theorem dX3_claim_12 : decode cX3_claim 12 = .ok (.putfield 175, 3) := by decide +kernel
theorem dX3_claim_15 : decode cX3_claim 15 = .ok (.return_, 1) := by decide +kernel
theorem dX3_loseFrameBeingSent_0 : decode cX3_loseFrameBeingSent 0 = .ok (.aload_n 1, 1) := by decide +kernel
theorem dX3_loseFrameBeingSent_1 : decode cX3_loseFrameBeingSent 1 = .ok (.getfield 91, 3) := by decide +kernel
theorem dX3_loseFrameBeingSent_4 : decode cX3_loseFrameBeingSent 4 = .ok (.ifCond .le 39, 3) := by decide +kernel
theorem dX3_loseFrameBeingSent_7 : decode cX3_loseFrameBeingSent 7 = .ok (.aload_n 0, 1) := by decide +kernel
theorem dX3_loseFrameBeingSent_8 : decode cX3_loseFrameBeingSent 8 = .ok (.aload_n 1, 1) := by decide +kernel
theorem dX3_loseFrameBeingSent_9 : decode cX3_loseFrameBeingSent 9 = .ok (.aload_n 1, 1) := by decide +kernel
theorem dX3_loseFrameBeingSent_10 : decode cX3_loseFrameBeingSent 10 = .ok (.getfield 84, 3) := by decide +kernel
theorem dX3_loseFrameBeingSent_13 : decode cX3_loseFrameBeingSent 13 = .ok (.invokevirtual 178, 3) := by decide +kernel
theorem dX3_loseFrameBeingSent_16 : decode cX3_loseFrameBeingSent 16 = .ok (.astore_n 2, 1) := by decide +kernel
theorem dX3_loseFrameBeingSent_17 : decode cX3_loseFrameBeingSent 17 = .ok (.aload_n 2, 1) := by decide +kernel
theorem dX3_loseFrameBeingSent_18 : decode cX3_loseFrameBeingSent 18 = .ok (.aload_n 1, 1) := by decide +kernel
theorem dX3_loseFrameBeingSent_19 : decode cX3_loseFrameBeingSent 19 = .ok (.getfield 182, 3) := by decide +kernel
theorem dX3_loseFrameBeingSent_22 : decode cX3_loseFrameBeingSent 22 = .ok (.invokevirtual 46, 3) := by decide +kernel
theorem dX3_loseFrameBeingSent_25 : decode cX3_loseFrameBeingSent 25 = .ok (.invokevirtual 185, 3) := by decide +kernel
theorem dX3_loseFrameBeingSent_28 : decode cX3_loseFrameBeingSent 28 = .ok (.aload_n 2, 1) := by decide +kernel
theorem dX3_loseFrameBeingSent_29 : decode cX3_loseFrameBeingSent 29 = .ok (.dup, 1) := by decide +kernel
theorem dX3_loseFrameBeingSent_30 : decode cX3_loseFrameBeingSent 30 = .ok (.getfield 134, 3) := by decide +kernel
theorem dX3_loseFrameBeingSent_33 : decode cX3_loseFrameBeingSent 33 = .ok (.iconst 1, 1) := by decide +kernel
theorem dX3_loseFrameBeingSent_34 : decode cX3_loseFrameBeingSent 34 = .ok (.iadd, 1) := by decide +kernel
theorem dX3_loseFrameBeingSent_35 : decode cX3_loseFrameBeingSent 35 = .ok (.putfield 134, 3) := by decide +kernel
theorem dX3_loseFrameBeingSent_38 : decode cX3_loseFrameBeingSent 38 = .ok (.aload_n 1, 1) := by decide +kernel
theorem dX3_loseFrameBeingSent_39 : decode cX3_loseFrameBeingSent 39 = .ok (.iconst 0, 1) := by decide +kernel
theorem dX3_loseFrameBeingSent_40 : decode cX3_loseFrameBeingSent 40 = .ok (.putfield 91, 3) := by decide +kernel
theorem dX3_loseFrameBeingSent_43 : decode cX3_loseFrameBeingSent 43 = .ok (.return_, 1) := by decide +kernel
theorem dX3_passTick_0 : decode cX3_passTick 0 = .ok (.aload_n 1, 1) := by decide +kernel
theorem dX3_passTick_1 : decode cX3_passTick 1 = .ok (.invokevirtual 77, 3) := by decide +kernel
theorem dX3_passTick_4 : decode cX3_passTick 4 = .ok (.ifCond .eq 11, 3) := by decide +kernel
theorem dX3_passTick_7 : decode cX3_passTick 7 = .ok (.aload_n 0, 1) := by decide +kernel
theorem dX3_passTick_8 : decode cX3_passTick 8 = .ok (.aload_n 1, 1) := by decide +kernel
theorem dX3_passTick_9 : decode cX3_passTick 9 = .ok (.invokevirtual 188, 3) := by decide +kernel
theorem dX3_passTick_12 : decode cX3_passTick 12 = .ok (.goto 31, 3) := by decide +kernel
theorem dX3_passTick_15 : decode cX3_passTick 15 = .ok (.aload_n 1, 1) := by decide +kernel
theorem dX3_passTick_16 : decode cX3_passTick 16 = .ok (.getfield 153, 3) := by decide +kernel
theorem dX3_passTick_19 : decode cX3_passTick 19 = .ok (.ifCond .le 24, 3) := by decide +kernel
theorem dX3_passTick_22 : decode cX3_passTick 22 = .ok (.aload_n 0, 1) := by decide +kernel
theorem dX3_passTick_23 : decode cX3_passTick 23 = .ok (.aload_n 1, 1) := by decide +kernel
theorem dX3_passTick_24 : decode cX3_passTick 24 = .ok (.invokevirtual 191, 3) := by decide +kernel
theorem dX3_passTick_27 : decode cX3_passTick 27 = .ok (.ifCond .eq 11, 3) := by decide +kernel
theorem dX3_passTick_30 : decode cX3_passTick 30 = .ok (.aload_n 0, 1) := by decide +kernel
theorem dX3_passTick_31 : decode cX3_passTick 31 = .ok (.aload_n 1, 1) := by decide +kernel
theorem dX3_passTick_32 : decode cX3_passTick 32 = .ok (.invokevirtual 195, 3) := by decide +kernel
theorem dX3_passTick_35 : decode cX3_passTick 35 = .ok (.goto 8, 3) := by decide +kernel
theorem dX3_passTick_38 : decode cX3_passTick 38 = .ok (.aload_n 0, 1) := by decide +kernel
theorem dX3_passTick_39 : decode cX3_passTick 39 = .ok (.aload_n 1, 1) := by decide +kernel
theorem dX3_passTick_40 : decode cX3_passTick 40 = .ok (.invokevirtual 198, 3) := by decide +kernel
theorem dX3_passTick_43 : decode cX3_passTick 43 = .ok (.return_, 1) := by decide +kernel
theorem dX3_passClaim_0 : decode cX3_passClaim 0 = .ok (.aload_n 1, 1) := by decide +kernel
theorem dX3_passClaim_1 : decode cX3_passClaim 1 = .ok (.dup, 1) := by decide +kernel
theorem dX3_passClaim_2 : decode cX3_passClaim 2 = .ok (.getfield 175, 3) := by decide +kernel
theorem dX3_passClaim_5 : decode cX3_passClaim 5 = .ok (.iconst 1, 1) := by decide +kernel
theorem dX3_passClaim_6 : decode cX3_passClaim 6 = .ok (.isub, 1) := by decide +kernel
theorem dX3_passClaim_7 : decode cX3_passClaim 7 = .ok (.putfield 175, 3) := by decide +kernel
theorem dX3_passClaim_10 : decode cX3_passClaim 10 = .ok (.aload_n 1, 1) := by decide +kernel
theorem dX3_passClaim_11 : decode cX3_passClaim 11 = .ok (.getfield 175, 3) := by decide +kernel
theorem dX3_passClaim_14 : decode cX3_passClaim 14 = .ok (.ifCond .ne 8, 3) := by decide +kernel
theorem dX3_passClaim_17 : decode cX3_passClaim 17 = .ok (.aload_n 0, 1) := by decide +kernel
theorem dX3_passClaim_18 : decode cX3_passClaim 18 = .ok (.aload_n 1, 1) := by decide +kernel
theorem dX3_passClaim_19 : decode cX3_passClaim 19 = .ok (.invokevirtual 201, 3) := by decide +kernel
theorem dX3_passClaim_22 : decode cX3_passClaim 22 = .ok (.return_, 1) := by decide +kernel
theorem dX3_operate_0 : decode cX3_operate 0 = .ok (.aload_n 0, 1) := by decide +kernel
theorem dX3_operate_1 : decode cX3_operate 1 = .ok (.aload_n 1, 1) := by decide +kernel
theorem dX3_operate_2 : decode cX3_operate 2 = .ok (.invokevirtual 204, 3) := by decide +kernel
theorem dX3_operate_5 : decode cX3_operate 5 = .ok (.istore_n 2, 1) := by decide +kernel
theorem dX3_operate_6 : decode cX3_operate 6 = .ok (.iconst 0, 1) := by decide +kernel
theorem dX3_operate_7 : decode cX3_operate 7 = .ok (.istore_n 3, 1) := by decide +kernel
theorem dX3_operate_8 : decode cX3_operate 8 = .ok (.iload_n 3, 1) := by decide +kernel
theorem dX3_operate_9 : decode cX3_operate 9 = .ok (.aload_n 1, 1) := by decide +kernel
theorem dX3_operate_10 : decode cX3_operate 10 = .ok (.getfield 153, 3) := by decide +kernel
theorem dX3_operate_13 : decode cX3_operate 13 = .ok (.if_icmp .ge 18, 3) := by decide +kernel
theorem dX3_operate_16 : decode cX3_operate 16 = .ok (.aload_n 0, 1) := by decide +kernel
theorem dX3_operate_17 : decode cX3_operate 17 = .ok (.aload_n 1, 1) := by decide +kernel
theorem dX3_operate_18 : decode cX3_operate 18 = .ok (.iload_n 3, 1) := by decide +kernel
theorem dX3_operate_19 : decode cX3_operate 19 = .ok (.invokevirtual 178, 3) := by decide +kernel
theorem dX3_operate_22 : decode cX3_operate 22 = .ok (.invokevirtual 208, 3) := by decide +kernel
theorem dX3_operate_25 : decode cX3_operate 25 = .ok (.iinc 3 1, 3) := by decide +kernel
theorem dX3_operate_28 : decode cX3_operate 28 = .ok (.goto (-20), 3) := by decide +kernel
theorem dX3_operate_31 : decode cX3_operate 31 = .ok (.aload_n 1, 1) := by decide +kernel
theorem dX3_operate_32 : decode cX3_operate 32 = .ok (.aload_n 0, 1) := by decide +kernel
theorem dX3_operate_33 : decode cX3_operate 33 = .ok (.aload_n 1, 1) := by decide +kernel
theorem dX3_operate_34 : decode cX3_operate 34 = .ok (.iload_n 2, 1) := by decide +kernel
theorem dX3_operate_35 : decode cX3_operate 35 = .ok (.invokevirtual 178, 3) := by decide +kernel
theorem dX3_operate_38 : decode cX3_operate 38 = .ok (.getfield 40, 3) := by decide +kernel
theorem dX3_operate_41 : decode cX3_operate 41 = .ok (.putfield 94, 3) := by decide +kernel
theorem dX3_operate_44 : decode cX3_operate 44 = .ok (.aload_n 1, 1) := by decide +kernel
theorem dX3_operate_45 : decode cX3_operate 45 = .ok (.iload_n 2, 1) := by decide +kernel
theorem dX3_operate_46 : decode cX3_operate 46 = .ok (.putfield 84, 3) := by decide +kernel
theorem dX3_operate_49 : decode cX3_operate 49 = .ok (.aload_n 0, 1) := by decide +kernel
theorem dX3_operate_50 : decode cX3_operate 50 = .ok (.aload_n 1, 1) := by decide +kernel
theorem dX3_operate_51 : decode cX3_operate 51 = .ok (.invokevirtual 211, 3) := by decide +kernel
theorem dX3_operate_54 : decode cX3_operate 54 = .ok (.return_, 1) := by decide +kernel
theorem dX3_winningPlace_0 : decode cX3_winningPlace 0 = .ok (.iconst 0, 1) := by decide +kernel
theorem dX3_winningPlace_1 : decode cX3_winningPlace 1 = .ok (.istore_n 2, 1) := by decide +kernel
theorem dX3_winningPlace_2 : decode cX3_winningPlace 2 = .ok (.iconst 1, 1) := by decide +kernel
theorem dX3_winningPlace_3 : decode cX3_winningPlace 3 = .ok (.istore_n 3, 1) := by decide +kernel
theorem dX3_winningPlace_4 : decode cX3_winningPlace 4 = .ok (.iload_n 3, 1) := by decide +kernel
theorem dX3_winningPlace_5 : decode cX3_winningPlace 5 = .ok (.aload_n 1, 1) := by decide +kernel
theorem dX3_winningPlace_6 : decode cX3_winningPlace 6 = .ok (.getfield 153, 3) := by decide +kernel
theorem dX3_winningPlace_9 : decode cX3_winningPlace 9 = .ok (.if_icmp .ge 74, 3) := by decide +kernel
theorem dX3_winningPlace_12 : decode cX3_winningPlace 12 = .ok (.aload_n 0, 1) := by decide +kernel
theorem dX3_winningPlace_13 : decode cX3_winningPlace 13 = .ok (.aload_n 1, 1) := by decide +kernel
theorem dX3_winningPlace_14 : decode cX3_winningPlace 14 = .ok (.iload_n 3, 1) := by decide +kernel
theorem dX3_winningPlace_15 : decode cX3_winningPlace 15 = .ok (.invokevirtual 178, 3) := by decide +kernel
theorem dX3_winningPlace_18 : decode cX3_winningPlace 18 = .ok (.getfield 40, 3) := by decide +kernel
theorem dX3_winningPlace_21 : decode cX3_winningPlace 21 = .ok (.istore 4, 2) := by decide +kernel
theorem dX3_winningPlace_23 : decode cX3_winningPlace 23 = .ok (.aload_n 0, 1) := by decide +kernel
theorem dX3_winningPlace_24 : decode cX3_winningPlace 24 = .ok (.aload_n 1, 1) := by decide +kernel
theorem dX3_winningPlace_25 : decode cX3_winningPlace 25 = .ok (.iload_n 2, 1) := by decide +kernel
theorem dX3_winningPlace_26 : decode cX3_winningPlace 26 = .ok (.invokevirtual 178, 3) := by decide +kernel
theorem dX3_winningPlace_29 : decode cX3_winningPlace 29 = .ok (.getfield 40, 3) := by decide +kernel
theorem dX3_winningPlace_32 : decode cX3_winningPlace 32 = .ok (.istore 5, 2) := by decide +kernel
theorem dX3_winningPlace_34 : decode cX3_winningPlace 34 = .ok (.aload_n 0, 1) := by decide +kernel
theorem dX3_winningPlace_35 : decode cX3_winningPlace 35 = .ok (.aload_n 1, 1) := by decide +kernel
theorem dX3_winningPlace_36 : decode cX3_winningPlace 36 = .ok (.iload_n 3, 1) := by decide +kernel
theorem dX3_winningPlace_37 : decode cX3_winningPlace 37 = .ok (.invokevirtual 87, 3) := by decide +kernel
theorem dX3_winningPlace_40 : decode cX3_winningPlace 40 = .ok (.aload_n 0, 1) := by decide +kernel
theorem dX3_winningPlace_41 : decode cX3_winningPlace 41 = .ok (.aload_n 1, 1) := by decide +kernel
theorem dX3_winningPlace_42 : decode cX3_winningPlace 42 = .ok (.iload_n 2, 1) := by decide +kernel
theorem dX3_winningPlace_43 : decode cX3_winningPlace 43 = .ok (.invokevirtual 87, 3) := by decide +kernel
theorem dX3_winningPlace_46 : decode cX3_winningPlace 46 = .ok (.if_icmp .le 7, 3) := by decide +kernel
theorem dX3_winningPlace_49 : decode cX3_winningPlace 49 = .ok (.iconst 1, 1) := by decide +kernel
theorem dX3_winningPlace_50 : decode cX3_winningPlace 50 = .ok (.goto 4, 3) := by decide +kernel
theorem dX3_winningPlace_53 : decode cX3_winningPlace 53 = .ok (.iconst 0, 1) := by decide +kernel
theorem dX3_winningPlace_54 : decode cX3_winningPlace 54 = .ok (.istore 6, 2) := by decide +kernel
theorem dX3_winningPlace_56 : decode cX3_winningPlace 56 = .ok (.iload 4, 2) := by decide +kernel
theorem dX3_winningPlace_58 : decode cX3_winningPlace 58 = .ok (.iload 5, 2) := by decide +kernel
theorem dX3_winningPlace_60 : decode cX3_winningPlace 60 = .ok (.if_icmp .lt 15, 3) := by decide +kernel
theorem dX3_winningPlace_63 : decode cX3_winningPlace 63 = .ok (.iload 4, 2) := by decide +kernel
theorem dX3_winningPlace_65 : decode cX3_winningPlace 65 = .ok (.iload 5, 2) := by decide +kernel
theorem dX3_winningPlace_67 : decode cX3_winningPlace 67 = .ok (.if_icmp .ne 10, 3) := by decide +kernel
theorem dX3_winningPlace_70 : decode cX3_winningPlace 70 = .ok (.iload 6, 2) := by decide +kernel
theorem dX3_winningPlace_72 : decode cX3_winningPlace 72 = .ok (.ifCond .eq 5, 3) := by decide +kernel
theorem dX3_winningPlace_75 : decode cX3_winningPlace 75 = .ok (.iload_n 3, 1) := by decide +kernel
theorem dX3_winningPlace_76 : decode cX3_winningPlace 76 = .ok (.istore_n 2, 1) := by decide +kernel
theorem dX3_winningPlace_77 : decode cX3_winningPlace 77 = .ok (.iinc 3 1, 3) := by decide +kernel
theorem dX3_winningPlace_80 : decode cX3_winningPlace 80 = .ok (.goto (-76), 3) := by decide +kernel
theorem dX3_winningPlace_83 : decode cX3_winningPlace 83 = .ok (.iload_n 2, 1) := by decide +kernel
theorem dX3_winningPlace_84 : decode cX3_winningPlace 84 = .ok (.ireturn, 1) := by decide +kernel
theorem dX3_runTimers_0 : decode cX3_runTimers 0 = .ok (.iconst 0, 1) := by decide +kernel
theorem dX3_runTimers_1 : decode cX3_runTimers 1 = .ok (.istore_n 2, 1) := by decide +kernel
theorem dX3_runTimers_2 : decode cX3_runTimers 2 = .ok (.iload_n 2, 1) := by decide +kernel
theorem dX3_runTimers_3 : decode cX3_runTimers 3 = .ok (.aload_n 1, 1) := by decide +kernel
theorem dX3_runTimers_4 : decode cX3_runTimers 4 = .ok (.getfield 153, 3) := by decide +kernel
theorem dX3_runTimers_7 : decode cX3_runTimers 7 = .ok (.if_icmp .ge 34, 3) := by decide +kernel
theorem dX3_runTimers_10 : decode cX3_runTimers 10 = .ok (.aload_n 0, 1) := by decide +kernel
theorem dX3_runTimers_11 : decode cX3_runTimers 11 = .ok (.aload_n 1, 1) := by decide +kernel
theorem dX3_runTimers_12 : decode cX3_runTimers 12 = .ok (.iload_n 2, 1) := by decide +kernel
theorem dX3_runTimers_13 : decode cX3_runTimers 13 = .ok (.invokevirtual 178, 3) := by decide +kernel
theorem dX3_runTimers_16 : decode cX3_runTimers 16 = .ok (.astore_n 3, 1) := by decide +kernel
theorem dX3_runTimers_17 : decode cX3_runTimers 17 = .ok (.aload_n 3, 1) := by decide +kernel
theorem dX3_runTimers_18 : decode cX3_runTimers 18 = .ok (.aload_n 1, 1) := by decide +kernel
theorem dX3_runTimers_19 : decode cX3_runTimers 19 = .ok (.getfield 94, 3) := by decide +kernel
theorem dX3_runTimers_22 : decode cX3_runTimers 22 = .ok (.invokevirtual 214, 3) := by decide +kernel
theorem dX3_runTimers_25 : decode cX3_runTimers 25 = .ok (.aload_n 3, 1) := by decide +kernel
theorem dX3_runTimers_26 : decode cX3_runTimers 26 = .ok (.getfield 100, 3) := by decide +kernel
theorem dX3_runTimers_29 : decode cX3_runTimers 29 = .ok (.iconst 2, 1) := by decide +kernel
theorem dX3_runTimers_30 : decode cX3_runTimers 30 = .ok (.if_icmp .lt 5, 3) := by decide +kernel
theorem dX3_runTimers_33 : decode cX3_runTimers 33 = .ok (.iconst 0, 1) := by decide +kernel
theorem dX3_runTimers_34 : decode cX3_runTimers 34 = .ok (.ireturn, 1) := by decide +kernel
theorem dX3_runTimers_35 : decode cX3_runTimers 35 = .ok (.iinc 2 1, 3) := by decide +kernel
theorem dX3_runTimers_38 : decode cX3_runTimers 38 = .ok (.goto (-36), 3) := by decide +kernel
theorem dX3_runTimers_41 : decode cX3_runTimers 41 = .ok (.iconst 1, 1) := by decide +kernel
theorem dX3_runTimers_42 : decode cX3_runTimers 42 = .ok (.ireturn, 1) := by decide +kernel
theorem dX3_passToken_0 : decode cX3_passToken 0 = .ok (.aload_n 1, 1) := by decide +kernel
theorem dX3_passToken_1 : decode cX3_passToken 1 = .ok (.getfield 81, 3) := by decide +kernel
theorem dX3_passToken_4 : decode cX3_passToken 4 = .ok (.ifCond .le 26, 3) := by decide +kernel
theorem dX3_passToken_7 : decode cX3_passToken 7 = .ok (.aload_n 1, 1) := by decide +kernel
theorem dX3_passToken_8 : decode cX3_passToken 8 = .ok (.dup, 1) := by decide +kernel
theorem dX3_passToken_9 : decode cX3_passToken 9 = .ok (.getfield 81, 3) := by decide +kernel
theorem dX3_passToken_12 : decode cX3_passToken 12 = .ok (.iconst 1, 1) := by decide +kernel
theorem dX3_passToken_13 : decode cX3_passToken 13 = .ok (.isub, 1) := by decide +kernel
theorem dX3_passToken_14 : decode cX3_passToken 14 = .ok (.putfield 81, 3) := by decide +kernel
theorem dX3_passToken_17 : decode cX3_passToken 17 = .ok (.aload_n 1, 1) := by decide +kernel
theorem dX3_passToken_18 : decode cX3_passToken 18 = .ok (.getfield 81, 3) := by decide +kernel
theorem dX3_passToken_21 : decode cX3_passToken 21 = .ok (.ifCond .ne 8, 3) := by decide +kernel
theorem dX3_passToken_24 : decode cX3_passToken 24 = .ok (.aload_n 0, 1) := by decide +kernel
theorem dX3_passToken_25 : decode cX3_passToken 25 = .ok (.aload_n 1, 1) := by decide +kernel
theorem dX3_passToken_26 : decode cX3_passToken 26 = .ok (.invokevirtual 217, 3) := by decide +kernel
theorem dX3_passToken_29 : decode cX3_passToken 29 = .ok (.return_, 1) := by decide +kernel
theorem dX3_passToken_30 : decode cX3_passToken 30 = .ok (.aload_n 1, 1) := by decide +kernel
theorem dX3_passToken_31 : decode cX3_passToken 31 = .ok (.getfield 91, 3) := by decide +kernel
theorem dX3_passToken_34 : decode cX3_passToken 34 = .ok (.ifCond .le 8, 3) := by decide +kernel
theorem dX3_passToken_37 : decode cX3_passToken 37 = .ok (.aload_n 0, 1) := by decide +kernel
theorem dX3_passToken_38 : decode cX3_passToken 38 = .ok (.aload_n 1, 1) := by decide +kernel
theorem dX3_passToken_39 : decode cX3_passToken 39 = .ok (.invokevirtual 220, 3) := by decide +kernel
theorem dX3_passToken_42 : decode cX3_passToken 42 = .ok (.aload_n 1, 1) := by decide +kernel
theorem dX3_passToken_43 : decode cX3_passToken 43 = .ok (.getfield 91, 3) := by decide +kernel
theorem dX3_passToken_46 : decode cX3_passToken 46 = .ok (.ifCond .ne 8, 3) := by decide +kernel
theorem dX3_passToken_49 : decode cX3_passToken 49 = .ok (.aload_n 0, 1) := by decide +kernel
theorem dX3_passToken_50 : decode cX3_passToken 50 = .ok (.aload_n 1, 1) := by decide +kernel
theorem dX3_passToken_51 : decode cX3_passToken 51 = .ok (.invokevirtual 223, 3) := by decide +kernel
theorem dX3_passToken_54 : decode cX3_passToken 54 = .ok (.return_, 1) := by decide +kernel
theorem dX3_arrive_0 : decode cX3_arrive 0 = .ok (.aload_n 0, 1) := by decide +kernel
theorem dX3_arrive_1 : decode cX3_arrive 1 = .ok (.aload_n 1, 1) := by decide +kernel
theorem dX3_arrive_2 : decode cX3_arrive 2 = .ok (.aload_n 1, 1) := by decide +kernel
theorem dX3_arrive_3 : decode cX3_arrive 3 = .ok (.getfield 84, 3) := by decide +kernel
theorem dX3_arrive_6 : decode cX3_arrive 6 = .ok (.invokevirtual 178, 3) := by decide +kernel
theorem dX3_arrive_9 : decode cX3_arrive 9 = .ok (.astore_n 2, 1) := by decide +kernel
theorem dX3_arrive_10 : decode cX3_arrive 10 = .ok (.aload_n 2, 1) := by decide +kernel
theorem dX3_arrive_11 : decode cX3_arrive 11 = .ok (.getfield 226, 3) := by decide +kernel
theorem dX3_arrive_14 : decode cX3_arrive 14 = .ok (.ifCond .eq 22, 3) := by decide +kernel
theorem dX3_arrive_17 : decode cX3_arrive 17 = .ok (.aload_n 2, 1) := by decide +kernel
theorem dX3_arrive_18 : decode cX3_arrive 18 = .ok (.getfield 229, 3) := by decide +kernel
theorem dX3_arrive_21 : decode cX3_arrive 21 = .ok (.aload_n 0, 1) := by decide +kernel
theorem dX3_arrive_22 : decode cX3_arrive 22 = .ok (.getfield 141, 3) := by decide +kernel
theorem dX3_arrive_25 : decode cX3_arrive 25 = .ok (.if_icmp .le 11, 3) := by decide +kernel
theorem dX3_arrive_28 : decode cX3_arrive 28 = .ok (.aload_n 0, 1) := by decide +kernel
theorem dX3_arrive_29 : decode cX3_arrive 29 = .ok (.aload_n 2, 1) := by decide +kernel
theorem dX3_arrive_30 : decode cX3_arrive 30 = .ok (.getfield 229, 3) := by decide +kernel
theorem dX3_arrive_33 : decode cX3_arrive 33 = .ok (.putfield 141, 3) := by decide +kernel
theorem dX3_arrive_36 : decode cX3_arrive 36 = .ok (.aload_n 1, 1) := by decide +kernel
theorem dX3_arrive_37 : decode cX3_arrive 37 = .ok (.getfield 84, 3) := by decide +kernel
theorem dX3_arrive_40 : decode cX3_arrive 40 = .ok (.ifCond .ne 12, 3) := by decide +kernel
theorem dX3_arrive_43 : decode cX3_arrive 43 = .ok (.aload_n 1, 1) := by decide +kernel
theorem dX3_arrive_44 : decode cX3_arrive 44 = .ok (.getfield 153, 3) := by decide +kernel
theorem dX3_arrive_47 : decode cX3_arrive 47 = .ok (.iconst 1, 1) := by decide +kernel
theorem dX3_arrive_48 : decode cX3_arrive 48 = .ok (.isub, 1) := by decide +kernel
theorem dX3_arrive_49 : decode cX3_arrive 49 = .ok (.goto 9, 3) := by decide +kernel
theorem dX3_arrive_52 : decode cX3_arrive 52 = .ok (.aload_n 1, 1) := by decide +kernel
theorem dX3_arrive_53 : decode cX3_arrive 53 = .ok (.getfield 84, 3) := by decide +kernel
theorem dX3_arrive_56 : decode cX3_arrive 56 = .ok (.iconst 1, 1) := by decide +kernel
theorem dX3_arrive_57 : decode cX3_arrive 57 = .ok (.isub, 1) := by decide +kernel
theorem dX3_arrive_58 : decode cX3_arrive 58 = .ok (.istore_n 3, 1) := by decide +kernel
theorem dX3_arrive_59 : decode cX3_arrive 59 = .ok (.aload_n 2, 1) := by decide +kernel
theorem dX3_arrive_60 : decode cX3_arrive 60 = .ok (.aload_n 0, 1) := by decide +kernel
theorem dX3_arrive_61 : decode cX3_arrive 61 = .ok (.aload_n 1, 1) := by decide +kernel
theorem dX3_arrive_62 : decode cX3_arrive 62 = .ok (.iload_n 3, 1) := by decide +kernel
theorem dX3_arrive_63 : decode cX3_arrive 63 = .ok (.invokevirtual 87, 3) := by decide +kernel
theorem dX3_arrive_66 : decode cX3_arrive 66 = .ok (.aload_n 1, 1) := by decide +kernel
theorem dX3_arrive_67 : decode cX3_arrive 67 = .ok (.getfield 94, 3) := by decide +kernel
theorem dX3_arrive_70 : decode cX3_arrive 70 = .ok (.invokevirtual 232, 3) := by decide +kernel
theorem dX3_arrive_73 : decode cX3_arrive 73 = .ok (.aload_n 1, 1) := by decide +kernel
theorem dX3_arrive_74 : decode cX3_arrive 74 = .ok (.iconst 0, 1) := by decide +kernel
theorem dX3_arrive_75 : decode cX3_arrive 75 = .ok (.putfield 236, 3) := by decide +kernel
theorem dX3_arrive_78 : decode cX3_arrive 78 = .ok (.return_, 1) := by decide +kernel
theorem dX3_leave_0 : decode cX3_leave 0 = .ok (.aload_n 1, 1) := by decide +kernel
theorem dX3_leave_1 : decode cX3_leave 1 = .ok (.getfield 84, 3) := by decide +kernel
theorem dX3_leave_4 : decode cX3_leave 4 = .ok (.aload_n 1, 1) := by decide +kernel
theorem dX3_leave_5 : decode cX3_leave 5 = .ok (.getfield 153, 3) := by decide +kernel
theorem dX3_leave_8 : decode cX3_leave 8 = .ok (.iconst 1, 1) := by decide +kernel
theorem dX3_leave_9 : decode cX3_leave 9 = .ok (.isub, 1) := by decide +kernel
theorem dX3_leave_10 : decode cX3_leave 10 = .ok (.if_icmp .ne 7, 3) := by decide +kernel
theorem dX3_leave_13 : decode cX3_leave 13 = .ok (.iconst 1, 1) := by decide +kernel
theorem dX3_leave_14 : decode cX3_leave 14 = .ok (.goto 4, 3) := by decide +kernel
theorem dX3_leave_17 : decode cX3_leave 17 = .ok (.iconst 0, 1) := by decide +kernel
theorem dX3_leave_18 : decode cX3_leave 18 = .ok (.istore_n 2, 1) := by decide +kernel
theorem dX3_leave_19 : decode cX3_leave 19 = .ok (.aload_n 1, 1) := by decide +kernel
theorem dX3_leave_20 : decode cX3_leave 20 = .ok (.iload_n 2, 1) := by decide +kernel
theorem dX3_leave_21 : decode cX3_leave 21 = .ok (.ifCond .eq 17, 3) := by decide +kernel
theorem dX3_leave_24 : decode cX3_leave 24 = .ok (.aload_n 1, 1) := by decide +kernel
theorem dX3_leave_25 : decode cX3_leave 25 = .ok (.getfield 156, 3) := by decide +kernel
theorem dX3_leave_28 : decode cX3_leave 28 = .ok (.ifCond .ne 10, 3) := by decide +kernel
theorem dX3_leave_31 : decode cX3_leave 31 = .ok (.aload_n 1, 1) := by decide +kernel
theorem dX3_leave_32 : decode cX3_leave 32 = .ok (.getfield 153, 3) := by decide +kernel
theorem dX3_leave_35 : decode cX3_leave 35 = .ok (.goto 4, 3) := by decide +kernel
theorem dX3_leave_38 : decode cX3_leave 38 = .ok (.iconst 1, 1) := by decide +kernel
theorem dX3_leave_39 : decode cX3_leave 39 = .ok (.putfield 81, 3) := by decide +kernel
theorem dX3_leave_42 : decode cX3_leave 42 = .ok (.aload_n 1, 1) := by decide +kernel
theorem dX3_leave_43 : decode cX3_leave 43 = .ok (.iload_n 2, 1) := by decide +kernel
theorem dX3_leave_44 : decode cX3_leave 44 = .ok (.ifCond .eq 7, 3) := by decide +kernel
theorem dX3_leave_47 : decode cX3_leave 47 = .ok (.iconst 0, 1) := by decide +kernel
theorem dX3_leave_48 : decode cX3_leave 48 = .ok (.goto 9, 3) := by decide +kernel
theorem dX3_leave_51 : decode cX3_leave 51 = .ok (.aload_n 1, 1) := by decide +kernel
theorem dX3_leave_52 : decode cX3_leave 52 = .ok (.getfield 84, 3) := by decide +kernel
theorem dX3_leave_55 : decode cX3_leave 55 = .ok (.iconst 1, 1) := by decide +kernel
theorem dX3_leave_56 : decode cX3_leave 56 = .ok (.iadd, 1) := by decide +kernel
theorem dX3_leave_57 : decode cX3_leave 57 = .ok (.putfield 84, 3) := by decide +kernel
theorem dX3_leave_60 : decode cX3_leave 60 = .ok (.return_, 1) := by decide +kernel
theorem dX3_passFrame_0 : decode cX3_passFrame 0 = .ok (.aload_n 0, 1) := by decide +kernel
theorem dX3_passFrame_1 : decode cX3_passFrame 1 = .ok (.aload_n 1, 1) := by decide +kernel
theorem dX3_passFrame_2 : decode cX3_passFrame 2 = .ok (.aload_n 1, 1) := by decide +kernel
theorem dX3_passFrame_3 : decode cX3_passFrame 3 = .ok (.getfield 84, 3) := by decide +kernel
theorem dX3_passFrame_6 : decode cX3_passFrame 6 = .ok (.invokevirtual 178, 3) := by decide +kernel
theorem dX3_passFrame_9 : decode cX3_passFrame 9 = .ok (.astore_n 2, 1) := by decide +kernel
theorem dX3_passFrame_10 : decode cX3_passFrame 10 = .ok (.aload_n 1, 1) := by decide +kernel
theorem dX3_passFrame_11 : decode cX3_passFrame 11 = .ok (.dup, 1) := by decide +kernel
theorem dX3_passFrame_12 : decode cX3_passFrame 12 = .ok (.getfield 91, 3) := by decide +kernel
theorem dX3_passFrame_15 : decode cX3_passFrame 15 = .ok (.iconst 1, 1) := by decide +kernel
theorem dX3_passFrame_16 : decode cX3_passFrame 16 = .ok (.isub, 1) := by decide +kernel
theorem dX3_passFrame_17 : decode cX3_passFrame 17 = .ok (.putfield 91, 3) := by decide +kernel
theorem dX3_passFrame_20 : decode cX3_passFrame 20 = .ok (.aload_n 1, 1) := by decide +kernel
theorem dX3_passFrame_21 : decode cX3_passFrame 21 = .ok (.getfield 182, 3) := by decide +kernel
theorem dX3_passFrame_24 : decode cX3_passFrame 24 = .ok (.ifCond .ne 20, 3) := by decide +kernel
theorem dX3_passFrame_27 : decode cX3_passFrame 27 = .ok (.aload_n 2, 1) := by decide +kernel
theorem dX3_passFrame_28 : decode cX3_passFrame 28 = .ok (.getfield 103, 3) := by decide +kernel
theorem dX3_passFrame_31 : decode cX3_passFrame 31 = .ok (.ifCond .le 13, 3) := by decide +kernel
theorem dX3_passFrame_34 : decode cX3_passFrame 34 = .ok (.aload_n 2, 1) := by decide +kernel
theorem dX3_passFrame_35 : decode cX3_passFrame 35 = .ok (.dup, 1) := by decide +kernel
theorem dX3_passFrame_36 : decode cX3_passFrame 36 = .ok (.getfield 103, 3) := by decide +kernel
theorem dX3_passFrame_39 : decode cX3_passFrame 39 = .ok (.iconst 1, 1) := by decide +kernel
theorem dX3_passFrame_40 : decode cX3_passFrame 40 = .ok (.isub, 1) := by decide +kernel
theorem dX3_passFrame_41 : decode cX3_passFrame 41 = .ok (.putfield 103, 3) := by decide +kernel
theorem dX3_passFrame_44 : decode cX3_passFrame 44 = .ok (.aload_n 1, 1) := by decide +kernel
theorem dX3_passFrame_45 : decode cX3_passFrame 45 = .ok (.getfield 91, 3) := by decide +kernel
theorem dX3_passFrame_48 : decode cX3_passFrame 48 = .ok (.ifCond .ne 9, 3) := by decide +kernel
theorem dX3_passFrame_51 : decode cX3_passFrame 51 = .ok (.aload_n 0, 1) := by decide +kernel
theorem dX3_passFrame_52 : decode cX3_passFrame 52 = .ok (.aload_n 1, 1) := by decide +kernel
theorem dX3_passFrame_53 : decode cX3_passFrame 53 = .ok (.aload_n 2, 1) := by decide +kernel
theorem dX3_passFrame_54 : decode cX3_passFrame 54 = .ok (.invokevirtual 239, 3) := by decide +kernel
theorem dX3_passFrame_57 : decode cX3_passFrame 57 = .ok (.return_, 1) := by decide +kernel
theorem dX3_finishFrame_0 : decode cX3_finishFrame 0 = .ok (.aload_n 2, 1) := by decide +kernel
theorem dX3_finishFrame_1 : decode cX3_finishFrame 1 = .ok (.aload_n 1, 1) := by decide +kernel
theorem dX3_finishFrame_2 : decode cX3_finishFrame 2 = .ok (.getfield 182, 3) := by decide +kernel
theorem dX3_finishFrame_5 : decode cX3_finishFrame 5 = .ok (.invokevirtual 46, 3) := by decide +kernel
theorem dX3_finishFrame_8 : decode cX3_finishFrame 8 = .ok (.astore_n 3, 1) := by decide +kernel
theorem dX3_finishFrame_9 : decode cX3_finishFrame 9 = .ok (.aload_n 3, 1) := by decide +kernel
theorem dX3_finishFrame_10 : decode cX3_finishFrame 10 = .ok (.getfield 243, 3) := by decide +kernel
theorem dX3_finishFrame_13 : decode cX3_finishFrame 13 = .ok (.iconst 0, 1) := by decide +kernel
theorem dX3_finishFrame_14 : decode cX3_finishFrame 14 = .ok (.iaload, 1) := by decide +kernel
theorem dX3_finishFrame_15 : decode cX3_finishFrame 15 = .ok (.istore 4, 2) := by decide +kernel
theorem dX3_finishFrame_17 : decode cX3_finishFrame 17 = .ok (.aload_n 0, 1) := by decide +kernel
theorem dX3_finishFrame_18 : decode cX3_finishFrame 18 = .ok (.getfield 15, 3) := by decide +kernel
theorem dX3_finishFrame_21 : decode cX3_finishFrame 21 = .ok (.aload_n 3, 1) := by decide +kernel
theorem dX3_finishFrame_22 : decode cX3_finishFrame 22 = .ok (.getfield 247, 3) := by decide +kernel
theorem dX3_finishFrame_25 : decode cX3_finishFrame 25 = .ok (.iconst 0, 1) := by decide +kernel
theorem dX3_finishFrame_26 : decode cX3_finishFrame 26 = .ok (.iaload, 1) := by decide +kernel
theorem dX3_finishFrame_27 : decode cX3_finishFrame 27 = .ok (.aaload, 1) := by decide +kernel
theorem dX3_finishFrame_28 : decode cX3_finishFrame 28 = .ok (.astore 5, 2) := by decide +kernel
theorem dX3_finishFrame_30 : decode cX3_finishFrame 30 = .ok (.aload 5, 2) := by decide +kernel
theorem dX3_finishFrame_32 : decode cX3_finishFrame 32 = .ok (.getfield 70, 3) := by decide +kernel
theorem dX3_finishFrame_35 : decode cX3_finishFrame 35 = .ok (.aload_n 1, 1) := by decide +kernel
theorem dX3_finishFrame_36 : decode cX3_finishFrame 36 = .ok (.getfield 144, 3) := by decide +kernel
theorem dX3_finishFrame_39 : decode cX3_finishFrame 39 = .ok (.if_icmp .ne 22, 3) := by decide +kernel
theorem dX3_finishFrame_42 : decode cX3_finishFrame 42 = .ok (.aload 5, 2) := by decide +kernel
theorem dX3_finishFrame_44 : decode cX3_finishFrame 44 = .ok (.iload 4, 2) := by decide +kernel
theorem dX3_finishFrame_46 : decode cX3_finishFrame 46 = .ok (.aload_n 0, 1) := by decide +kernel
theorem dX3_finishFrame_47 : decode cX3_finishFrame 47 = .ok (.aload_n 1, 1) := by decide +kernel
theorem dX3_finishFrame_48 : decode cX3_finishFrame 48 = .ok (.aload_n 1, 1) := by decide +kernel
theorem dX3_finishFrame_49 : decode cX3_finishFrame 49 = .ok (.getfield 84, 3) := by decide +kernel
theorem dX3_finishFrame_52 : decode cX3_finishFrame 52 = .ok (.invokevirtual 87, 3) := by decide +kernel
theorem dX3_finishFrame_55 : decode cX3_finishFrame 55 = .ok (.invokevirtual 250, 3) := by decide +kernel
theorem dX3_finishFrame_58 : decode cX3_finishFrame 58 = .ok (.goto 13, 3) := by decide +kernel
theorem dX3_finishFrame_61 : decode cX3_finishFrame 61 = .ok (.aload_n 2, 1) := by decide +kernel
theorem dX3_finishFrame_62 : decode cX3_finishFrame 62 = .ok (.dup, 1) := by decide +kernel
theorem dX3_finishFrame_63 : decode cX3_finishFrame 63 = .ok (.getfield 134, 3) := by decide +kernel
theorem dX3_finishFrame_66 : decode cX3_finishFrame 66 = .ok (.iconst 1, 1) := by decide +kernel
theorem dX3_finishFrame_67 : decode cX3_finishFrame 67 = .ok (.iadd, 1) := by decide +kernel
theorem dX3_finishFrame_68 : decode cX3_finishFrame 68 = .ok (.putfield 134, 3) := by decide +kernel
theorem dX3_finishFrame_71 : decode cX3_finishFrame 71 = .ok (.aload_n 2, 1) := by decide +kernel
theorem dX3_finishFrame_72 : decode cX3_finishFrame 72 = .ok (.dup, 1) := by decide +kernel
theorem dX3_finishFrame_73 : decode cX3_finishFrame 73 = .ok (.getfield 131, 3) := by decide +kernel
theorem dX3_finishFrame_76 : decode cX3_finishFrame 76 = .ok (.iload 4, 2) := by decide +kernel
theorem dX3_finishFrame_78 : decode cX3_finishFrame 78 = .ok (.iadd, 1) := by decide +kernel
theorem dX3_finishFrame_79 : decode cX3_finishFrame 79 = .ok (.putfield 131, 3) := by decide +kernel
theorem dX3_finishFrame_82 : decode cX3_finishFrame 82 = .ok (.aload_n 3, 1) := by decide +kernel
theorem dX3_finishFrame_83 : decode cX3_finishFrame 83 = .ok (.invokevirtual 185, 3) := by decide +kernel
theorem dX3_finishFrame_86 : decode cX3_finishFrame 86 = .ok (.return_, 1) := by decide +kernel
theorem dX3_beginFrameOrLeave_0 : decode cX3_beginFrameOrLeave 0 = .ok (.aload_n 0, 1) := by decide +kernel
theorem dX3_beginFrameOrLeave_1 : decode cX3_beginFrameOrLeave 1 = .ok (.aload_n 1, 1) := by decide +kernel
theorem dX3_beginFrameOrLeave_2 : decode cX3_beginFrameOrLeave 2 = .ok (.aload_n 1, 1) := by decide +kernel
theorem dX3_beginFrameOrLeave_3 : decode cX3_beginFrameOrLeave 3 = .ok (.getfield 84, 3) := by decide +kernel
theorem dX3_beginFrameOrLeave_6 : decode cX3_beginFrameOrLeave 6 = .ok (.invokevirtual 178, 3) := by decide +kernel
theorem dX3_beginFrameOrLeave_9 : decode cX3_beginFrameOrLeave 9 = .ok (.astore_n 2, 1) := by decide +kernel
theorem dX3_beginFrameOrLeave_10 : decode cX3_beginFrameOrLeave 10 = .ok (.aload_n 1, 1) := by decide +kernel
theorem dX3_beginFrameOrLeave_11 : decode cX3_beginFrameOrLeave 11 = .ok (.getfield 236, 3) := by decide +kernel
theorem dX3_beginFrameOrLeave_14 : decode cX3_beginFrameOrLeave 14 = .ok (.ifCond .ne 44, 3) := by decide +kernel
theorem dX3_beginFrameOrLeave_17 : decode cX3_beginFrameOrLeave 17 = .ok (.aload_n 2, 1) := by decide +kernel
theorem dX3_beginFrameOrLeave_18 : decode cX3_beginFrameOrLeave 18 = .ok (.invokevirtual 253, 3) := by decide +kernel
theorem dX3_beginFrameOrLeave_21 : decode cX3_beginFrameOrLeave 21 = .ok (.ifCond .eq 37, 3) := by decide +kernel
theorem dX3_beginFrameOrLeave_24 : decode cX3_beginFrameOrLeave 24 = .ok (.aload_n 1, 1) := by decide +kernel
theorem dX3_beginFrameOrLeave_25 : decode cX3_beginFrameOrLeave 25 = .ok (.iconst 1, 1) := by decide +kernel
theorem dX3_beginFrameOrLeave_26 : decode cX3_beginFrameOrLeave 26 = .ok (.putfield 182, 3) := by decide +kernel
theorem dX3_beginFrameOrLeave_29 : decode cX3_beginFrameOrLeave 29 = .ok (.aload_n 1, 1) := by decide +kernel
theorem dX3_beginFrameOrLeave_30 : decode cX3_beginFrameOrLeave 30 = .ok (.aload_n 2, 1) := by decide +kernel
theorem dX3_beginFrameOrLeave_31 : decode cX3_beginFrameOrLeave 31 = .ok (.getfield 109, 3) := by decide +kernel
theorem dX3_beginFrameOrLeave_34 : decode cX3_beginFrameOrLeave 34 = .ok (.getfield 243, 3) := by decide +kernel
theorem dX3_beginFrameOrLeave_37 : decode cX3_beginFrameOrLeave 37 = .ok (.iconst 0, 1) := by decide +kernel
theorem dX3_beginFrameOrLeave_38 : decode cX3_beginFrameOrLeave 38 = .ok (.iaload, 1) := by decide +kernel
theorem dX3_beginFrameOrLeave_39 : decode cX3_beginFrameOrLeave 39 = .ok (.putfield 91, 3) := by decide +kernel
theorem dX3_beginFrameOrLeave_42 : decode cX3_beginFrameOrLeave 42 = .ok (.aload_n 2, 1) := by decide +kernel
theorem dX3_beginFrameOrLeave_43 : decode cX3_beginFrameOrLeave 43 = .ok (.dup, 1) := by decide +kernel
theorem dX3_beginFrameOrLeave_44 : decode cX3_beginFrameOrLeave 44 = .ok (.getfield 106, 3) := by decide +kernel
theorem dX3_beginFrameOrLeave_47 : decode cX3_beginFrameOrLeave 47 = .ok (.aload_n 1, 1) := by decide +kernel
theorem dX3_beginFrameOrLeave_48 : decode cX3_beginFrameOrLeave 48 = .ok (.getfield 91, 3) := by decide +kernel
theorem dX3_beginFrameOrLeave_51 : decode cX3_beginFrameOrLeave 51 = .ok (.isub, 1) := by decide +kernel
theorem dX3_beginFrameOrLeave_52 : decode cX3_beginFrameOrLeave 52 = .ok (.putfield 106, 3) := by decide +kernel
theorem dX3_beginFrameOrLeave_55 : decode cX3_beginFrameOrLeave 55 = .ok (.goto 45, 3) := by decide +kernel
theorem dX3_beginFrameOrLeave_58 : decode cX3_beginFrameOrLeave 58 = .ok (.aload_n 2, 1) := by decide +kernel
theorem dX3_beginFrameOrLeave_59 : decode cX3_beginFrameOrLeave 59 = .ok (.aload_n 1, 1) := by decide +kernel
theorem dX3_beginFrameOrLeave_60 : decode cX3_beginFrameOrLeave 60 = .ok (.getfield 94, 3) := by decide +kernel
theorem dX3_beginFrameOrLeave_63 : decode cX3_beginFrameOrLeave 63 = .ok (.invokevirtual 256, 3) := by decide +kernel
theorem dX3_beginFrameOrLeave_66 : decode cX3_beginFrameOrLeave 66 = .ok (.ifCond .eq 29, 3) := by decide +kernel
theorem dX3_beginFrameOrLeave_69 : decode cX3_beginFrameOrLeave 69 = .ok (.aload_n 1, 1) := by decide +kernel
theorem dX3_beginFrameOrLeave_70 : decode cX3_beginFrameOrLeave 70 = .ok (.iconst 0, 1) := by decide +kernel
theorem dX3_beginFrameOrLeave_71 : decode cX3_beginFrameOrLeave 71 = .ok (.putfield 182, 3) := by decide +kernel
theorem dX3_beginFrameOrLeave_74 : decode cX3_beginFrameOrLeave 74 = .ok (.aload_n 1, 1) := by decide +kernel
theorem dX3_beginFrameOrLeave_75 : decode cX3_beginFrameOrLeave 75 = .ok (.iconst 1, 1) := by decide +kernel
theorem dX3_beginFrameOrLeave_76 : decode cX3_beginFrameOrLeave 76 = .ok (.putfield 236, 3) := by decide +kernel
theorem dX3_beginFrameOrLeave_79 : decode cX3_beginFrameOrLeave 79 = .ok (.aload_n 1, 1) := by decide +kernel
theorem dX3_beginFrameOrLeave_80 : decode cX3_beginFrameOrLeave 80 = .ok (.aload_n 2, 1) := by decide +kernel
theorem dX3_beginFrameOrLeave_81 : decode cX3_beginFrameOrLeave 81 = .ok (.getfield 116, 3) := by decide +kernel
theorem dX3_beginFrameOrLeave_84 : decode cX3_beginFrameOrLeave 84 = .ok (.getfield 243, 3) := by decide +kernel
theorem dX3_beginFrameOrLeave_87 : decode cX3_beginFrameOrLeave 87 = .ok (.iconst 0, 1) := by decide +kernel
theorem dX3_beginFrameOrLeave_88 : decode cX3_beginFrameOrLeave 88 = .ok (.iaload, 1) := by decide +kernel
theorem dX3_beginFrameOrLeave_89 : decode cX3_beginFrameOrLeave 89 = .ok (.putfield 91, 3) := by decide +kernel
theorem dX3_beginFrameOrLeave_92 : decode cX3_beginFrameOrLeave 92 = .ok (.goto 8, 3) := by decide +kernel
theorem dX3_beginFrameOrLeave_95 : decode cX3_beginFrameOrLeave 95 = .ok (.aload_n 0, 1) := by decide +kernel
theorem dX3_beginFrameOrLeave_96 : decode cX3_beginFrameOrLeave 96 = .ok (.aload_n 1, 1) := by decide +kernel
theorem dX3_beginFrameOrLeave_97 : decode cX3_beginFrameOrLeave 97 = .ok (.invokevirtual 211, 3) := by decide +kernel
theorem dX3_beginFrameOrLeave_100 : decode cX3_beginFrameOrLeave 100 = .ok (.return_, 1) := by decide +kernel
