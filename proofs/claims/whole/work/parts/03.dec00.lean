theorem dX0_init_0 : decode cX0_init 0 = .ok (.aload_n 0, 1) := by decide +kernel
theorem dX0_init_1 : decode cX0_init 1 = .ok (.invokespecial 3, 3) := by decide +kernel
theorem dX0_init_4 : decode cX0_init 4 = .ok (.aload_n 0, 1) := by decide +kernel
theorem dX0_init_5 : decode cX0_init 5 = .ok (.sipush 343, 3) := by decide +kernel
theorem dX0_init_8 : decode cX0_init 8 = .ok (.newarray .long, 2) := by decide +kernel
theorem dX0_init_10 : decode cX0_init 10 = .ok (.putfield 9, 3) := by decide +kernel
theorem dX0_init_13 : decode cX0_init 13 = .ok (.aload_n 0, 1) := by decide +kernel
theorem dX0_init_14 : decode cX0_init 14 = .ok (.bipush 7, 2) := by decide +kernel
theorem dX0_init_16 : decode cX0_init 16 = .ok (.newarray .int, 2) := by decide +kernel
theorem dX0_init_18 : decode cX0_init 18 = .ok (.putfield 15, 3) := by decide +kernel
theorem dX0_init_21 : decode cX0_init 21 = .ok (.aload_n 0, 1) := by decide +kernel
theorem dX0_init_22 : decode cX0_init 22 = .ok (.iconst 3, 1) := by decide +kernel
theorem dX0_init_23 : decode cX0_init 23 = .ok (.newarray .int, 2) := by decide +kernel
theorem dX0_init_25 : decode cX0_init 25 = .ok (.putfield 19, 3) := by decide +kernel
theorem dX0_init_28 : decode cX0_init 28 = .ok (.aload_n 0, 1) := by decide +kernel
theorem dX0_init_29 : decode cX0_init 29 = .ok (.aload_n 1, 1) := by decide +kernel
theorem dX0_init_30 : decode cX0_init 30 = .ok (.putfield 22, 3) := by decide +kernel
theorem dX0_init_33 : decode cX0_init 33 = .ok (.aload_n 0, 1) := by decide +kernel
theorem dX0_init_34 : decode cX0_init 34 = .ok (.aload_n 2, 1) := by decide +kernel
theorem dX0_init_35 : decode cX0_init 35 = .ok (.putfield 26, 3) := by decide +kernel
theorem dX0_init_38 : decode cX0_init 38 = .ok (.return_, 1) := by decide +kernel
theorem dX0_start_0 : decode cX0_start 0 = .ok (.aload_n 0, 1) := by decide +kernel
theorem dX0_start_1 : decode cX0_start 1 = .ok (.iload_n 3, 1) := by decide +kernel
theorem dX0_start_2 : decode cX0_start 2 = .ok (.putfield 29, 3) := by decide +kernel
theorem dX0_start_5 : decode cX0_start 5 = .ok (.aload_n 0, 1) := by decide +kernel
theorem dX0_start_6 : decode cX0_start 6 = .ok (.iconst 0, 1) := by decide +kernel
theorem dX0_start_7 : decode cX0_start 7 = .ok (.putfield 33, 3) := by decide +kernel
theorem dX0_start_10 : decode cX0_start 10 = .ok (.iconst 0, 1) := by decide +kernel
theorem dX0_start_11 : decode cX0_start 11 = .ok (.istore 4, 2) := by decide +kernel
theorem dX0_start_13 : decode cX0_start 13 = .ok (.iload 4, 2) := by decide +kernel
theorem dX0_start_15 : decode cX0_start 15 = .ok (.aload_n 0, 1) := by decide +kernel
theorem dX0_start_16 : decode cX0_start 16 = .ok (.getfield 22, 3) := by decide +kernel
theorem dX0_start_19 : decode cX0_start 19 = .ok (.getfield 36, 3) := by decide +kernel
theorem dX0_start_22 : decode cX0_start 22 = .ok (.getfield 42, 3) := by decide +kernel
theorem dX0_start_25 : decode cX0_start 25 = .ok (.iload_n 1, 1) := by decide +kernel
theorem dX0_start_26 : decode cX0_start 26 = .ok (.iaload, 1) := by decide +kernel
theorem dX0_start_27 : decode cX0_start 27 = .ok (.if_icmp .ge 47, 3) := by decide +kernel
theorem dX0_start_30 : decode cX0_start 30 = .ok (.iload 4, 2) := by decide +kernel
theorem dX0_start_32 : decode cX0_start 32 = .ok (.iload_n 2, 1) := by decide +kernel
theorem dX0_start_33 : decode cX0_start 33 = .ok (.if_icmp .eq 35, 3) := by decide +kernel
theorem dX0_start_36 : decode cX0_start 36 = .ok (.aload_n 0, 1) := by decide +kernel
theorem dX0_start_37 : decode cX0_start 37 = .ok (.getfield 19, 3) := by decide +kernel
theorem dX0_start_40 : decode cX0_start 40 = .ok (.aload_n 0, 1) := by decide +kernel
theorem dX0_start_41 : decode cX0_start 41 = .ok (.getfield 33, 3) := by decide +kernel
theorem dX0_start_44 : decode cX0_start 44 = .ok (.aload_n 0, 1) := by decide +kernel
theorem dX0_start_45 : decode cX0_start 45 = .ok (.getfield 22, 3) := by decide +kernel
theorem dX0_start_48 : decode cX0_start 48 = .ok (.getfield 36, 3) := by decide +kernel
theorem dX0_start_51 : decode cX0_start 51 = .ok (.iload_n 1, 1) := by decide +kernel
theorem dX0_start_52 : decode cX0_start 52 = .ok (.iload 4, 2) := by decide +kernel
theorem dX0_start_54 : decode cX0_start 54 = .ok (.invokevirtual 47, 3) := by decide +kernel
theorem dX0_start_57 : decode cX0_start 57 = .ok (.iastore, 1) := by decide +kernel
theorem dX0_start_58 : decode cX0_start 58 = .ok (.aload_n 0, 1) := by decide +kernel
theorem dX0_start_59 : decode cX0_start 59 = .ok (.dup, 1) := by decide +kernel
theorem dX0_start_60 : decode cX0_start 60 = .ok (.getfield 33, 3) := by decide +kernel
theorem dX0_start_63 : decode cX0_start 63 = .ok (.iconst 1, 1) := by decide +kernel
theorem dX0_start_64 : decode cX0_start 64 = .ok (.iadd, 1) := by decide +kernel
theorem dX0_start_65 : decode cX0_start 65 = .ok (.putfield 33, 3) := by decide +kernel
theorem dX0_start_68 : decode cX0_start 68 = .ok (.iinc 4 1, 3) := by decide +kernel
theorem dX0_start_71 : decode cX0_start 71 = .ok (.goto (-58), 3) := by decide +kernel
theorem dX0_start_74 : decode cX0_start 74 = .ok (.aload_n 0, 1) := by decide +kernel
theorem dX0_start_75 : decode cX0_start 75 = .ok (.getstatic 51, 3) := by decide +kernel
theorem dX0_start_78 : decode cX0_start 78 = .ok (.aload_n 0, 1) := by decide +kernel
theorem dX0_start_79 : decode cX0_start 79 = .ok (.getfield 33, 3) := by decide +kernel
theorem dX0_start_82 : decode cX0_start 82 = .ok (.iaload, 1) := by decide +kernel
theorem dX0_start_83 : decode cX0_start 83 = .ok (.putfield 54, 3) := by decide +kernel
theorem dX0_start_86 : decode cX0_start 86 = .ok (.iconst 0, 1) := by decide +kernel
theorem dX0_start_87 : decode cX0_start 87 = .ok (.istore 4, 2) := by decide +kernel
theorem dX0_start_89 : decode cX0_start 89 = .ok (.iload 4, 2) := by decide +kernel
theorem dX0_start_91 : decode cX0_start 91 = .ok (.aload_n 0, 1) := by decide +kernel
theorem dX0_start_92 : decode cX0_start 92 = .ok (.getfield 54, 3) := by decide +kernel
theorem dX0_start_95 : decode cX0_start 95 = .ok (.if_icmp .ge 17, 3) := by decide +kernel
theorem dX0_start_98 : decode cX0_start 98 = .ok (.aload_n 0, 1) := by decide +kernel
theorem dX0_start_99 : decode cX0_start 99 = .ok (.getfield 9, 3) := by decide +kernel
theorem dX0_start_102 : decode cX0_start 102 = .ok (.iload 4, 2) := by decide +kernel
theorem dX0_start_104 : decode cX0_start 104 = .ok (.lconst 0, 1) := by decide +kernel
theorem dX0_start_105 : decode cX0_start 105 = .ok (.lastore, 1) := by decide +kernel
theorem dX0_start_106 : decode cX0_start 106 = .ok (.iinc 4 1, 3) := by decide +kernel
theorem dX0_start_109 : decode cX0_start 109 = .ok (.goto (-20), 3) := by decide +kernel
theorem dX0_start_112 : decode cX0_start 112 = .ok (.return_, 1) := by decide +kernel
theorem dX0_addSet_0 : decode cX0_addSet 0 = .ok (.iconst 0, 1) := by decide +kernel
theorem dX0_addSet_1 : decode cX0_addSet 1 = .ok (.istore_n 3, 1) := by decide +kernel
theorem dX0_addSet_2 : decode cX0_addSet 2 = .ok (.iload_n 3, 1) := by decide +kernel
theorem dX0_addSet_3 : decode cX0_addSet 3 = .ok (.aload_n 0, 1) := by decide +kernel
theorem dX0_addSet_4 : decode cX0_addSet 4 = .ok (.getfield 22, 3) := by decide +kernel
theorem dX0_addSet_7 : decode cX0_addSet 7 = .ok (.getfield 57, 3) := by decide +kernel
theorem dX0_addSet_10 : decode cX0_addSet 10 = .ok (.getfield 61, 3) := by decide +kernel
theorem dX0_addSet_13 : decode cX0_addSet 13 = .ok (.if_icmp .ge 33, 3) := by decide +kernel
theorem dX0_addSet_16 : decode cX0_addSet 16 = .ok (.aload_n 0, 1) := by decide +kernel
theorem dX0_addSet_17 : decode cX0_addSet 17 = .ok (.getfield 22, 3) := by decide +kernel
theorem dX0_addSet_20 : decode cX0_addSet 20 = .ok (.getfield 57, 3) := by decide +kernel
theorem dX0_addSet_23 : decode cX0_addSet 23 = .ok (.iload_n 3, 1) := by decide +kernel
theorem dX0_addSet_24 : decode cX0_addSet 24 = .ok (.aload_n 0, 1) := by decide +kernel
theorem dX0_addSet_25 : decode cX0_addSet 25 = .ok (.getfield 29, 3) := by decide +kernel
theorem dX0_addSet_28 : decode cX0_addSet 28 = .ok (.lload_n 1, 1) := by decide +kernel
theorem dX0_addSet_29 : decode cX0_addSet 29 = .ok (.invokevirtual 66, 3) := by decide +kernel
theorem dX0_addSet_32 : decode cX0_addSet 32 = .ok (.ifCond .eq 8, 3) := by decide +kernel
theorem dX0_addSet_35 : decode cX0_addSet 35 = .ok (.aload_n 0, 1) := by decide +kernel
theorem dX0_addSet_36 : decode cX0_addSet 36 = .ok (.iload_n 3, 1) := by decide +kernel
theorem dX0_addSet_37 : decode cX0_addSet 37 = .ok (.invokevirtual 70, 3) := by decide +kernel
theorem dX0_addSet_40 : decode cX0_addSet 40 = .ok (.iinc 3 1, 3) := by decide +kernel
theorem dX0_addSet_43 : decode cX0_addSet 43 = .ok (.goto (-41), 3) := by decide +kernel
theorem dX0_addSet_46 : decode cX0_addSet 46 = .ok (.return_, 1) := by decide +kernel
theorem dX0_addSight_0 : decode cX0_addSight 0 = .ok (.aload_n 0, 1) := by decide +kernel
theorem dX0_addSight_1 : decode cX0_addSight 1 = .ok (.iload_n 1, 1) := by decide +kernel
theorem dX0_addSight_2 : decode cX0_addSight 2 = .ok (.invokevirtual 74, 3) := by decide +kernel
theorem dX0_addSight_5 : decode cX0_addSight 5 = .ok (.iconst 0, 1) := by decide +kernel
theorem dX0_addSight_6 : decode cX0_addSight 6 = .ok (.istore_n 2, 1) := by decide +kernel
theorem dX0_addSight_7 : decode cX0_addSight 7 = .ok (.iload_n 2, 1) := by decide +kernel
theorem dX0_addSight_8 : decode cX0_addSight 8 = .ok (.aload_n 0, 1) := by decide +kernel
theorem dX0_addSight_9 : decode cX0_addSight 9 = .ok (.getfield 54, 3) := by decide +kernel
theorem dX0_addSight_12 : decode cX0_addSight 12 = .ok (.if_icmp .ge 27, 3) := by decide +kernel
theorem dX0_addSight_15 : decode cX0_addSight 15 = .ok (.aload_n 0, 1) := by decide +kernel
theorem dX0_addSight_16 : decode cX0_addSight 16 = .ok (.getfield 9, 3) := by decide +kernel
theorem dX0_addSight_19 : decode cX0_addSight 19 = .ok (.iload_n 2, 1) := by decide +kernel
theorem dX0_addSight_20 : decode cX0_addSight 20 = .ok (.dup2, 1) := by decide +kernel
theorem dX0_addSight_21 : decode cX0_addSight 21 = .ok (.laload, 1) := by decide +kernel
theorem dX0_addSight_22 : decode cX0_addSight 22 = .ok (.aload_n 0, 1) := by decide +kernel
theorem dX0_addSight_23 : decode cX0_addSight 23 = .ok (.getfield 26, 3) := by decide +kernel
theorem dX0_addSight_26 : decode cX0_addSight 26 = .ok (.iload_n 2, 1) := by decide +kernel
theorem dX0_addSight_27 : decode cX0_addSight 27 = .ok (.laload, 1) := by decide +kernel
theorem dX0_addSight_28 : decode cX0_addSight 28 = .ok (.invokestatic 77, 3) := by decide +kernel
theorem dX0_addSight_31 : decode cX0_addSight 31 = .ok (.ladd, 1) := by decide +kernel
theorem dX0_addSight_32 : decode cX0_addSight 32 = .ok (.lastore, 1) := by decide +kernel
theorem dX0_addSight_33 : decode cX0_addSight 33 = .ok (.iinc 2 1, 3) := by decide +kernel
theorem dX0_addSight_36 : decode cX0_addSight 36 = .ok (.goto (-29), 3) := by decide +kernel
theorem dX0_addSight_39 : decode cX0_addSight 39 = .ok (.return_, 1) := by decide +kernel
theorem dX0_dropSight_0 : decode cX0_dropSight 0 = .ok (.aload_n 0, 1) := by decide +kernel
theorem dX0_dropSight_1 : decode cX0_dropSight 1 = .ok (.iload_n 1, 1) := by decide +kernel
theorem dX0_dropSight_2 : decode cX0_dropSight 2 = .ok (.invokevirtual 74, 3) := by decide +kernel
theorem dX0_dropSight_5 : decode cX0_dropSight 5 = .ok (.iconst 0, 1) := by decide +kernel
theorem dX0_dropSight_6 : decode cX0_dropSight 6 = .ok (.istore_n 2, 1) := by decide +kernel
theorem dX0_dropSight_7 : decode cX0_dropSight 7 = .ok (.iload_n 2, 1) := by decide +kernel
theorem dX0_dropSight_8 : decode cX0_dropSight 8 = .ok (.aload_n 0, 1) := by decide +kernel
theorem dX0_dropSight_9 : decode cX0_dropSight 9 = .ok (.getfield 54, 3) := by decide +kernel
theorem dX0_dropSight_12 : decode cX0_dropSight 12 = .ok (.if_icmp .ge 27, 3) := by decide +kernel
theorem dX0_dropSight_15 : decode cX0_dropSight 15 = .ok (.aload_n 0, 1) := by decide +kernel
theorem dX0_dropSight_16 : decode cX0_dropSight 16 = .ok (.getfield 9, 3) := by decide +kernel
theorem dX0_dropSight_19 : decode cX0_dropSight 19 = .ok (.iload_n 2, 1) := by decide +kernel
theorem dX0_dropSight_20 : decode cX0_dropSight 20 = .ok (.dup2, 1) := by decide +kernel
theorem dX0_dropSight_21 : decode cX0_dropSight 21 = .ok (.laload, 1) := by decide +kernel
theorem dX0_dropSight_22 : decode cX0_dropSight 22 = .ok (.aload_n 0, 1) := by decide +kernel
theorem dX0_dropSight_23 : decode cX0_dropSight 23 = .ok (.getfield 26, 3) := by decide +kernel
theorem dX0_dropSight_26 : decode cX0_dropSight 26 = .ok (.iload_n 2, 1) := by decide +kernel
theorem dX0_dropSight_27 : decode cX0_dropSight 27 = .ok (.laload, 1) := by decide +kernel
theorem dX0_dropSight_28 : decode cX0_dropSight 28 = .ok (.invokestatic 77, 3) := by decide +kernel
theorem dX0_dropSight_31 : decode cX0_dropSight 31 = .ok (.lsub, 1) := by decide +kernel
theorem dX0_dropSight_32 : decode cX0_dropSight 32 = .ok (.lastore, 1) := by decide +kernel
theorem dX0_dropSight_33 : decode cX0_dropSight 33 = .ok (.iinc 2 1, 3) := by decide +kernel
theorem dX0_dropSight_36 : decode cX0_dropSight 36 = .ok (.goto (-29), 3) := by decide +kernel
theorem dX0_dropSight_39 : decode cX0_dropSight 39 = .ok (.return_, 1) := by decide +kernel
theorem dX0_fitTry_0 : decode cX0_fitTry 0 = .ok (.iconst 0, 1) := by decide +kernel
theorem dX0_fitTry_1 : decode cX0_fitTry 1 = .ok (.istore_n 1, 1) := by decide +kernel
theorem dX0_fitTry_2 : decode cX0_fitTry 2 = .ok (.iconst 1, 1) := by decide +kernel
theorem dX0_fitTry_3 : decode cX0_fitTry 3 = .ok (.istore_n 2, 1) := by decide +kernel
theorem dX0_fitTry_4 : decode cX0_fitTry 4 = .ok (.iload_n 2, 1) := by decide +kernel
theorem dX0_fitTry_5 : decode cX0_fitTry 5 = .ok (.aload_n 0, 1) := by decide +kernel
theorem dX0_fitTry_6 : decode cX0_fitTry 6 = .ok (.getfield 54, 3) := by decide +kernel
theorem dX0_fitTry_9 : decode cX0_fitTry 9 = .ok (.if_icmp .ge 27, 3) := by decide +kernel
theorem dX0_fitTry_12 : decode cX0_fitTry 12 = .ok (.aload_n 0, 1) := by decide +kernel
theorem dX0_fitTry_13 : decode cX0_fitTry 13 = .ok (.getfield 9, 3) := by decide +kernel
theorem dX0_fitTry_16 : decode cX0_fitTry 16 = .ok (.iload_n 2, 1) := by decide +kernel
theorem dX0_fitTry_17 : decode cX0_fitTry 17 = .ok (.laload, 1) := by decide +kernel
theorem dX0_fitTry_18 : decode cX0_fitTry 18 = .ok (.aload_n 0, 1) := by decide +kernel
theorem dX0_fitTry_19 : decode cX0_fitTry 19 = .ok (.getfield 9, 3) := by decide +kernel
theorem dX0_fitTry_22 : decode cX0_fitTry 22 = .ok (.iload_n 1, 1) := by decide +kernel
theorem dX0_fitTry_23 : decode cX0_fitTry 23 = .ok (.laload, 1) := by decide +kernel
theorem dX0_fitTry_24 : decode cX0_fitTry 24 = .ok (.lcmp, 1) := by decide +kernel
theorem dX0_fitTry_25 : decode cX0_fitTry 25 = .ok (.ifCond .ge 5, 3) := by decide +kernel
theorem dX0_fitTry_28 : decode cX0_fitTry 28 = .ok (.iload_n 2, 1) := by decide +kernel
theorem dX0_fitTry_29 : decode cX0_fitTry 29 = .ok (.istore_n 1, 1) := by decide +kernel
theorem dX0_fitTry_30 : decode cX0_fitTry 30 = .ok (.iinc 2 1, 3) := by decide +kernel
theorem dX0_fitTry_33 : decode cX0_fitTry 33 = .ok (.goto (-29), 3) := by decide +kernel
theorem dX0_fitTry_36 : decode cX0_fitTry 36 = .ok (.iload_n 1, 1) := by decide +kernel
theorem dX0_fitTry_37 : decode cX0_fitTry 37 = .ok (.ireturn, 1) := by decide +kernel
theorem dX0_fitNumbers_0 : decode cX0_fitNumbers 0 = .ok (.aload_n 0, 1) := by decide +kernel
theorem dX0_fitNumbers_1 : decode cX0_fitNumbers 1 = .ok (.invokevirtual 83, 3) := by decide +kernel
theorem dX0_fitNumbers_4 : decode cX0_fitNumbers 4 = .ok (.istore_n 1, 1) := by decide +kernel
theorem dX0_fitNumbers_5 : decode cX0_fitNumbers 5 = .ok (.iconst 0, 1) := by decide +kernel
theorem dX0_fitNumbers_6 : decode cX0_fitNumbers 6 = .ok (.istore_n 2, 1) := by decide +kernel
theorem dX0_fitNumbers_7 : decode cX0_fitNumbers 7 = .ok (.iconst 0, 1) := by decide +kernel
theorem dX0_fitNumbers_8 : decode cX0_fitNumbers 8 = .ok (.istore_n 3, 1) := by decide +kernel
theorem dX0_fitNumbers_9 : decode cX0_fitNumbers 9 = .ok (.iload_n 3, 1) := by decide +kernel
theorem dX0_fitNumbers_10 : decode cX0_fitNumbers 10 = .ok (.aload_n 0, 1) := by decide +kernel
theorem dX0_fitNumbers_11 : decode cX0_fitNumbers 11 = .ok (.getfield 33, 3) := by decide +kernel
theorem dX0_fitNumbers_14 : decode cX0_fitNumbers 14 = .ok (.if_icmp .ge 24, 3) := by decide +kernel
theorem dX0_fitNumbers_17 : decode cX0_fitNumbers 17 = .ok (.iload_n 2, 1) := by decide +kernel
theorem dX0_fitNumbers_18 : decode cX0_fitNumbers 18 = .ok (.aload_n 0, 1) := by decide +kernel
theorem dX0_fitNumbers_19 : decode cX0_fitNumbers 19 = .ok (.iload_n 1, 1) := by decide +kernel
theorem dX0_fitNumbers_20 : decode cX0_fitNumbers 20 = .ok (.iload_n 3, 1) := by decide +kernel
theorem dX0_fitNumbers_21 : decode cX0_fitNumbers 21 = .ok (.invokevirtual 87, 3) := by decide +kernel
theorem dX0_fitNumbers_24 : decode cX0_fitNumbers 24 = .ok (.getstatic 51, 3) := by decide +kernel
theorem dX0_fitNumbers_27 : decode cX0_fitNumbers 27 = .ok (.iload_n 3, 1) := by decide +kernel
theorem dX0_fitNumbers_28 : decode cX0_fitNumbers 28 = .ok (.iaload, 1) := by decide +kernel
theorem dX0_fitNumbers_29 : decode cX0_fitNumbers 29 = .ok (.imul, 1) := by decide +kernel
theorem dX0_fitNumbers_30 : decode cX0_fitNumbers 30 = .ok (.iadd, 1) := by decide +kernel
theorem dX0_fitNumbers_31 : decode cX0_fitNumbers 31 = .ok (.istore_n 2, 1) := by decide +kernel
theorem dX0_fitNumbers_32 : decode cX0_fitNumbers 32 = .ok (.iinc 3 1, 3) := by decide +kernel
theorem dX0_fitNumbers_35 : decode cX0_fitNumbers 35 = .ok (.goto (-26), 3) := by decide +kernel
theorem dX0_fitNumbers_38 : decode cX0_fitNumbers 38 = .ok (.iload_n 2, 1) := by decide +kernel
theorem dX0_fitNumbers_39 : decode cX0_fitNumbers 39 = .ok (.ireturn, 1) := by decide +kernel
theorem dX0_leastSum_0 : decode cX0_leastSum 0 = .ok (.aload_n 0, 1) := by decide +kernel
theorem dX0_leastSum_1 : decode cX0_leastSum 1 = .ok (.getfield 9, 3) := by decide +kernel
theorem dX0_leastSum_4 : decode cX0_leastSum 4 = .ok (.aload_n 0, 1) := by decide +kernel
theorem dX0_leastSum_5 : decode cX0_leastSum 5 = .ok (.invokevirtual 83, 3) := by decide +kernel
theorem dX0_leastSum_8 : decode cX0_leastSum 8 = .ok (.laload, 1) := by decide +kernel
theorem dX0_leastSum_9 : decode cX0_leastSum 9 = .ok (.lreturn, 1) := by decide +kernel
theorem dX0_score_0 : decode cX0_score 0 = .ok (.aload_n 0, 1) := by decide +kernel
theorem dX0_score_1 : decode cX0_score 1 = .ok (.invokevirtual 90, 3) := by decide +kernel
theorem dX0_score_4 : decode cX0_score 4 = .ok (.aload_n 0, 1) := by decide +kernel
theorem dX0_score_5 : decode cX0_score 5 = .ok (.invokevirtual 94, 3) := by decide +kernel
theorem dX0_score_8 : decode cX0_score 8 = .ok (.ladd, 1) := by decide +kernel
theorem dX0_score_9 : decode cX0_score 9 = .ok (.lreturn, 1) := by decide +kernel
theorem dX0_scoreWith_0 : decode cX0_scoreWith 0 = .ok (.aload_n 0, 1) := by decide +kernel
theorem dX0_scoreWith_1 : decode cX0_scoreWith 1 = .ok (.iload_n 1, 1) := by decide +kernel
theorem dX0_scoreWith_2 : decode cX0_scoreWith 2 = .ok (.invokevirtual 74, 3) := by decide +kernel
theorem dX0_scoreWith_5 : decode cX0_scoreWith 5 = .ok (.ldc2_w 97, 3) := by decide +kernel
theorem dX0_scoreWith_8 : decode cX0_scoreWith 8 = .ok (.lstore_n 2, 1) := by decide +kernel
theorem dX0_scoreWith_9 : decode cX0_scoreWith 9 = .ok (.iconst 0, 1) := by decide +kernel
theorem dX0_scoreWith_10 : decode cX0_scoreWith 10 = .ok (.istore 4, 2) := by decide +kernel
theorem dX0_scoreWith_12 : decode cX0_scoreWith 12 = .ok (.iload 4, 2) := by decide +kernel
theorem dX0_scoreWith_14 : decode cX0_scoreWith 14 = .ok (.aload_n 0, 1) := by decide +kernel
theorem dX0_scoreWith_15 : decode cX0_scoreWith 15 = .ok (.getfield 54, 3) := by decide +kernel
theorem dX0_scoreWith_18 : decode cX0_scoreWith 18 = .ok (.if_icmp .ge 32, 3) := by decide +kernel
theorem dX0_scoreWith_21 : decode cX0_scoreWith 21 = .ok (.lload_n 2, 1) := by decide +kernel
theorem dX0_scoreWith_22 : decode cX0_scoreWith 22 = .ok (.aload_n 0, 1) := by decide +kernel
theorem dX0_scoreWith_23 : decode cX0_scoreWith 23 = .ok (.getfield 9, 3) := by decide +kernel
theorem dX0_scoreWith_26 : decode cX0_scoreWith 26 = .ok (.iload 4, 2) := by decide +kernel
theorem dX0_scoreWith_28 : decode cX0_scoreWith 28 = .ok (.laload, 1) := by decide +kernel
theorem dX0_scoreWith_29 : decode cX0_scoreWith 29 = .ok (.aload_n 0, 1) := by decide +kernel
theorem dX0_scoreWith_30 : decode cX0_scoreWith 30 = .ok (.getfield 26, 3) := by decide +kernel
theorem dX0_scoreWith_33 : decode cX0_scoreWith 33 = .ok (.iload 4, 2) := by decide +kernel
theorem dX0_scoreWith_35 : decode cX0_scoreWith 35 = .ok (.laload, 1) := by decide +kernel
theorem dX0_scoreWith_36 : decode cX0_scoreWith 36 = .ok (.invokestatic 77, 3) := by decide +kernel
theorem dX0_scoreWith_39 : decode cX0_scoreWith 39 = .ok (.ladd, 1) := by decide +kernel
theorem dX0_scoreWith_40 : decode cX0_scoreWith 40 = .ok (.invokestatic 99, 3) := by decide +kernel
theorem dX0_scoreWith_43 : decode cX0_scoreWith 43 = .ok (.lstore_n 2, 1) := by decide +kernel
theorem dX0_scoreWith_44 : decode cX0_scoreWith 44 = .ok (.iinc 4 1, 3) := by decide +kernel
theorem dX0_scoreWith_47 : decode cX0_scoreWith 47 = .ok (.goto (-35), 3) := by decide +kernel
theorem dX0_scoreWith_50 : decode cX0_scoreWith 50 = .ok (.lload_n 2, 1) := by decide +kernel
theorem dX0_scoreWith_51 : decode cX0_scoreWith 51 = .ok (.aload_n 0, 1) := by decide +kernel
theorem dX0_scoreWith_52 : decode cX0_scoreWith 52 = .ok (.invokevirtual 94, 3) := by decide +kernel
theorem dX0_scoreWith_55 : decode cX0_scoreWith 55 = .ok (.ladd, 1) := by decide +kernel
theorem dX0_scoreWith_56 : decode cX0_scoreWith 56 = .ok (.lreturn, 1) := by decide +kernel
theorem dX0_bitsWithin_0 : decode cX0_bitsWithin 0 = .ok (.iconst 0, 1) := by decide +kernel
theorem dX0_bitsWithin_1 : decode cX0_bitsWithin 1 = .ok (.istore_n 3, 1) := by decide +kernel
theorem dX0_bitsWithin_2 : decode cX0_bitsWithin 2 = .ok (.iload_n 3, 1) := by decide +kernel
theorem dX0_bitsWithin_3 : decode cX0_bitsWithin 3 = .ok (.aload_n 0, 1) := by decide +kernel
theorem dX0_bitsWithin_4 : decode cX0_bitsWithin 4 = .ok (.getfield 22, 3) := by decide +kernel
theorem dX0_bitsWithin_7 : decode cX0_bitsWithin 7 = .ok (.getfield 57, 3) := by decide +kernel
theorem dX0_bitsWithin_10 : decode cX0_bitsWithin 10 = .ok (.getfield 61, 3) := by decide +kernel
theorem dX0_bitsWithin_13 : decode cX0_bitsWithin 13 = .ok (.if_icmp .ge 80, 3) := by decide +kernel
theorem dX0_bitsWithin_16 : decode cX0_bitsWithin 16 = .ok (.aload_n 0, 1) := by decide +kernel
theorem dX0_bitsWithin_17 : decode cX0_bitsWithin 17 = .ok (.getfield 22, 3) := by decide +kernel
theorem dX0_bitsWithin_20 : decode cX0_bitsWithin 20 = .ok (.getfield 57, 3) := by decide +kernel
theorem dX0_bitsWithin_23 : decode cX0_bitsWithin 23 = .ok (.iload_n 3, 1) := by decide +kernel
theorem dX0_bitsWithin_24 : decode cX0_bitsWithin 24 = .ok (.aload_n 0, 1) := by decide +kernel
theorem dX0_bitsWithin_25 : decode cX0_bitsWithin 25 = .ok (.getfield 29, 3) := by decide +kernel
theorem dX0_bitsWithin_28 : decode cX0_bitsWithin 28 = .ok (.ldc2_w 103, 3) := by decide +kernel
theorem dX0_bitsWithin_31 : decode cX0_bitsWithin 31 = .ok (.invokevirtual 66, 3) := by decide +kernel
theorem dX0_bitsWithin_34 : decode cX0_bitsWithin 34 = .ok (.ifCond .eq 53, 3) := by decide +kernel
theorem dX0_bitsWithin_37 : decode cX0_bitsWithin 37 = .ok (.aload_n 0, 1) := by decide +kernel
theorem dX0_bitsWithin_38 : decode cX0_bitsWithin 38 = .ok (.iload_n 3, 1) := by decide +kernel
theorem dX0_bitsWithin_39 : decode cX0_bitsWithin 39 = .ok (.invokevirtual 74, 3) := by decide +kernel
theorem dX0_bitsWithin_42 : decode cX0_bitsWithin 42 = .ok (.iconst 0, 1) := by decide +kernel
theorem dX0_bitsWithin_43 : decode cX0_bitsWithin 43 = .ok (.istore 4, 2) := by decide +kernel
theorem dX0_bitsWithin_45 : decode cX0_bitsWithin 45 = .ok (.iload 4, 2) := by decide +kernel
theorem dX0_bitsWithin_47 : decode cX0_bitsWithin 47 = .ok (.aload_n 0, 1) := by decide +kernel
theorem dX0_bitsWithin_48 : decode cX0_bitsWithin 48 = .ok (.getfield 54, 3) := by decide +kernel
theorem dX0_bitsWithin_51 : decode cX0_bitsWithin 51 = .ok (.if_icmp .ge 36, 3) := by decide +kernel
theorem dX0_bitsWithin_54 : decode cX0_bitsWithin 54 = .ok (.aload_n 0, 1) := by decide +kernel
theorem dX0_bitsWithin_55 : decode cX0_bitsWithin 55 = .ok (.getfield 9, 3) := by decide +kernel
theorem dX0_bitsWithin_58 : decode cX0_bitsWithin 58 = .ok (.iload 4, 2) := by decide +kernel
theorem dX0_bitsWithin_60 : decode cX0_bitsWithin 60 = .ok (.aload_n 0, 1) := by decide +kernel
theorem dX0_bitsWithin_61 : decode cX0_bitsWithin 61 = .ok (.getfield 9, 3) := by decide +kernel
theorem dX0_bitsWithin_64 : decode cX0_bitsWithin 64 = .ok (.iload 4, 2) := by decide +kernel
theorem dX0_bitsWithin_66 : decode cX0_bitsWithin 66 = .ok (.laload, 1) := by decide +kernel
theorem dX0_bitsWithin_67 : decode cX0_bitsWithin 67 = .ok (.aload_n 0, 1) := by decide +kernel
theorem dX0_bitsWithin_68 : decode cX0_bitsWithin 68 = .ok (.getfield 26, 3) := by decide +kernel
theorem dX0_bitsWithin_71 : decode cX0_bitsWithin 71 = .ok (.iload 4, 2) := by decide +kernel
theorem dX0_bitsWithin_73 : decode cX0_bitsWithin 73 = .ok (.laload, 1) := by decide +kernel
theorem dX0_bitsWithin_74 : decode cX0_bitsWithin 74 = .ok (.invokestatic 77, 3) := by decide +kernel
theorem dX0_bitsWithin_77 : decode cX0_bitsWithin 77 = .ok (.invokestatic 105, 3) := by decide +kernel
theorem dX0_bitsWithin_80 : decode cX0_bitsWithin 80 = .ok (.lastore, 1) := by decide +kernel
theorem dX0_bitsWithin_81 : decode cX0_bitsWithin 81 = .ok (.iinc 4 1, 3) := by decide +kernel
theorem dX0_bitsWithin_84 : decode cX0_bitsWithin 84 = .ok (.goto (-39), 3) := by decide +kernel
theorem dX0_bitsWithin_87 : decode cX0_bitsWithin 87 = .ok (.iinc 3 1, 3) := by decide +kernel
theorem dX0_bitsWithin_90 : decode cX0_bitsWithin 90 = .ok (.goto (-88), 3) := by decide +kernel
theorem dX0_bitsWithin_93 : decode cX0_bitsWithin 93 = .ok (.iconst 0, 1) := by decide +kernel
theorem dX0_bitsWithin_94 : decode cX0_bitsWithin 94 = .ok (.istore_n 3, 1) := by decide +kernel
theorem dX0_bitsWithin_95 : decode cX0_bitsWithin 95 = .ok (.iconst 0, 1) := by decide +kernel
theorem dX0_bitsWithin_96 : decode cX0_bitsWithin 96 = .ok (.istore 4, 2) := by decide +kernel
theorem dX0_bitsWithin_98 : decode cX0_bitsWithin 98 = .ok (.iload 4, 2) := by decide +kernel
theorem dX0_bitsWithin_100 : decode cX0_bitsWithin 100 = .ok (.aload_n 0, 1) := by decide +kernel
theorem dX0_bitsWithin_101 : decode cX0_bitsWithin 101 = .ok (.getfield 54, 3) := by decide +kernel
theorem dX0_bitsWithin_104 : decode cX0_bitsWithin 104 = .ok (.if_icmp .ge 34, 3) := by decide +kernel
theorem dX0_bitsWithin_107 : decode cX0_bitsWithin 107 = .ok (.aload_n 0, 1) := by decide +kernel
theorem dX0_bitsWithin_108 : decode cX0_bitsWithin 108 = .ok (.getfield 9, 3) := by decide +kernel
theorem dX0_bitsWithin_111 : decode cX0_bitsWithin 111 = .ok (.iload 4, 2) := by decide +kernel
theorem dX0_bitsWithin_113 : decode cX0_bitsWithin 113 = .ok (.laload, 1) := by decide +kernel
theorem dX0_bitsWithin_114 : decode cX0_bitsWithin 114 = .ok (.iload_n 1, 1) := by decide +kernel
theorem dX0_bitsWithin_115 : decode cX0_bitsWithin 115 = .ok (.i2l, 1) := by decide +kernel
theorem dX0_bitsWithin_116 : decode cX0_bitsWithin 116 = .ok (.lcmp, 1) := by decide +kernel
theorem dX0_bitsWithin_117 : decode cX0_bitsWithin 117 = .ok (.ifCond .gt 15, 3) := by decide +kernel
theorem dX0_bitsWithin_120 : decode cX0_bitsWithin 120 = .ok (.iload_n 3, 1) := by decide +kernel
theorem dX0_bitsWithin_121 : decode cX0_bitsWithin 121 = .ok (.iconst 1, 1) := by decide +kernel
theorem dX0_bitsWithin_122 : decode cX0_bitsWithin 122 = .ok (.aload_n 0, 1) := by decide +kernel
theorem dX0_bitsWithin_123 : decode cX0_bitsWithin 123 = .ok (.iload 4, 2) := by decide +kernel
theorem dX0_bitsWithin_125 : decode cX0_bitsWithin 125 = .ok (.iload_n 2, 1) := by decide +kernel
theorem dX0_bitsWithin_126 : decode cX0_bitsWithin 126 = .ok (.invokevirtual 87, 3) := by decide +kernel
theorem dX0_bitsWithin_129 : decode cX0_bitsWithin 129 = .ok (.ishl, 1) := by decide +kernel
theorem dX0_bitsWithin_130 : decode cX0_bitsWithin 130 = .ok (.ior, 1) := by decide +kernel
theorem dX0_bitsWithin_131 : decode cX0_bitsWithin 131 = .ok (.istore_n 3, 1) := by decide +kernel
theorem dX0_bitsWithin_132 : decode cX0_bitsWithin 132 = .ok (.iinc 4 1, 3) := by decide +kernel
theorem dX0_bitsWithin_135 : decode cX0_bitsWithin 135 = .ok (.goto (-37), 3) := by decide +kernel
theorem dX0_bitsWithin_138 : decode cX0_bitsWithin 138 = .ok (.iload_n 3, 1) := by decide +kernel
theorem dX0_bitsWithin_139 : decode cX0_bitsWithin 139 = .ok (.ireturn, 1) := by decide +kernel
theorem dX0_price_0 : decode cX0_price 0 = .ok (.aload_n 0, 1) := by decide +kernel
theorem dX0_price_1 : decode cX0_price 1 = .ok (.getfield 22, 3) := by decide +kernel
theorem dX0_price_4 : decode cX0_price 4 = .ok (.getfield 108, 3) := by decide +kernel
theorem dX0_price_7 : decode cX0_price 7 = .ok (.iconst 3, 1) := by decide +kernel
theorem dX0_price_8 : decode cX0_price 8 = .ok (.iaload, 1) := by decide +kernel
theorem dX0_price_9 : decode cX0_price 9 = .ok (.i2l, 1) := by decide +kernel
theorem dX0_price_10 : decode cX0_price 10 = .ok (.aload_n 0, 1) := by decide +kernel
theorem dX0_price_11 : decode cX0_price 11 = .ok (.getfield 33, 3) := by decide +kernel
theorem dX0_price_14 : decode cX0_price 14 = .ok (.i2l, 1) := by decide +kernel
theorem dX0_price_15 : decode cX0_price 15 = .ok (.lmul, 1) := by decide +kernel
theorem dX0_price_16 : decode cX0_price 16 = .ok (.lreturn, 1) := by decide +kernel
theorem dX0_digitOf_0 : decode cX0_digitOf 0 = .ok (.iload_n 1, 1) := by decide +kernel
theorem dX0_digitOf_1 : decode cX0_digitOf 1 = .ok (.getstatic 51, 3) := by decide +kernel
theorem dX0_digitOf_4 : decode cX0_digitOf 4 = .ok (.aload_n 0, 1) := by decide +kernel
theorem dX0_digitOf_5 : decode cX0_digitOf 5 = .ok (.getfield 33, 3) := by decide +kernel
theorem dX0_digitOf_8 : decode cX0_digitOf 8 = .ok (.iconst 1, 1) := by decide +kernel
theorem dX0_digitOf_9 : decode cX0_digitOf 9 = .ok (.isub, 1) := by decide +kernel
theorem dX0_digitOf_10 : decode cX0_digitOf 10 = .ok (.iload_n 2, 1) := by decide +kernel
theorem dX0_digitOf_11 : decode cX0_digitOf 11 = .ok (.isub, 1) := by decide +kernel
theorem dX0_digitOf_12 : decode cX0_digitOf 12 = .ok (.iaload, 1) := by decide +kernel
theorem dX0_digitOf_13 : decode cX0_digitOf 13 = .ok (.idiv, 1) := by decide +kernel
theorem dX0_digitOf_14 : decode cX0_digitOf 14 = .ok (.bipush 7, 2) := by decide +kernel
theorem dX0_digitOf_16 : decode cX0_digitOf 16 = .ok (.irem, 1) := by decide +kernel
theorem dX0_digitOf_17 : decode cX0_digitOf 17 = .ok (.ireturn, 1) := by decide +kernel
theorem dX0_spread_0 : decode cX0_spread 0 = .ok (.aload_n 0, 1) := by decide +kernel
theorem dX0_spread_1 : decode cX0_spread 1 = .ok (.getfield 22, 3) := by decide +kernel
theorem dX0_spread_4 : decode cX0_spread 4 = .ok (.getfield 57, 3) := by decide +kernel
theorem dX0_spread_7 : decode cX0_spread 7 = .ok (.getfield 111, 3) := by decide +kernel
theorem dX0_spread_10 : decode cX0_spread 10 = .ok (.iload_n 1, 1) := by decide +kernel
theorem dX0_spread_11 : decode cX0_spread 11 = .ok (.iaload, 1) := by decide +kernel
theorem dX0_spread_12 : decode cX0_spread 12 = .ok (.istore_n 2, 1) := by decide +kernel
theorem dX0_spread_13 : decode cX0_spread 13 = .ok (.aload_n 0, 1) := by decide +kernel
theorem dX0_spread_14 : decode cX0_spread 14 = .ok (.getfield 22, 3) := by decide +kernel
theorem dX0_spread_17 : decode cX0_spread 17 = .ok (.aload_n 0, 1) := by decide +kernel
theorem dX0_spread_18 : decode cX0_spread 18 = .ok (.getfield 29, 3) := by decide +kernel
theorem dX0_spread_21 : decode cX0_spread 21 = .ok (.iload_n 2, 1) := by decide +kernel
theorem dX0_spread_22 : decode cX0_spread 22 = .ok (.invokevirtual 114, 3) := by decide +kernel
theorem dX0_spread_25 : decode cX0_spread 25 = .ok (.lstore_n 3, 1) := by decide +kernel
theorem dX0_spread_26 : decode cX0_spread 26 = .ok (.aload_n 0, 1) := by decide +kernel
theorem dX0_spread_27 : decode cX0_spread 27 = .ok (.getfield 22, 3) := by decide +kernel
theorem dX0_spread_30 : decode cX0_spread 30 = .ok (.lload_n 3, 1) := by decide +kernel
theorem dX0_spread_31 : decode cX0_spread 31 = .ok (.invokevirtual 118, 3) := by decide +kernel
theorem dX0_spread_34 : decode cX0_spread 34 = .ok (.istore 5, 2) := by decide +kernel
theorem dX0_spread_36 : decode cX0_spread 36 = .ok (.aload_n 0, 1) := by decide +kernel
theorem dX0_spread_37 : decode cX0_spread 37 = .ok (.getfield 26, 3) := by decide +kernel
theorem dX0_spread_40 : decode cX0_spread 40 = .ok (.iconst 0, 1) := by decide +kernel
theorem dX0_spread_41 : decode cX0_spread 41 = .ok (.aload_n 0, 1) := by decide +kernel
theorem dX0_spread_42 : decode cX0_spread 42 = .ok (.getfield 22, 3) := by decide +kernel
theorem dX0_spread_45 : decode cX0_spread 45 = .ok (.iload_n 1, 1) := by decide +kernel
theorem dX0_spread_46 : decode cX0_spread 46 = .ok (.invokevirtual 122, 3) := by decide +kernel
theorem dX0_spread_49 : decode cX0_spread 49 = .ok (.lload_n 3, 1) := by decide +kernel
theorem dX0_spread_50 : decode cX0_spread 50 = .ok (.lsub, 1) := by decide +kernel
theorem dX0_spread_51 : decode cX0_spread 51 = .ok (.lastore, 1) := by decide +kernel
theorem dX0_spread_52 : decode cX0_spread 52 = .ok (.iconst 0, 1) := by decide +kernel
theorem dX0_spread_53 : decode cX0_spread 53 = .ok (.istore 6, 2) := by decide +kernel
theorem dX0_spread_55 : decode cX0_spread 55 = .ok (.iload 6, 2) := by decide +kernel
theorem dX0_spread_57 : decode cX0_spread 57 = .ok (.aload_n 0, 1) := by decide +kernel
theorem dX0_spread_58 : decode cX0_spread 58 = .ok (.getfield 33, 3) := by decide +kernel
theorem dX0_spread_61 : decode cX0_spread 61 = .ok (.if_icmp .ge 67, 3) := by decide +kernel
theorem dX0_spread_64 : decode cX0_spread 64 = .ok (.iconst 0, 1) := by decide +kernel
theorem dX0_spread_65 : decode cX0_spread 65 = .ok (.istore 7, 2) := by decide +kernel
theorem dX0_spread_67 : decode cX0_spread 67 = .ok (.iload 7, 2) := by decide +kernel
theorem dX0_spread_69 : decode cX0_spread 69 = .ok (.bipush 7, 2) := by decide +kernel
theorem dX0_spread_71 : decode cX0_spread 71 = .ok (.if_icmp .ge 41, 3) := by decide +kernel
theorem dX0_spread_74 : decode cX0_spread 74 = .ok (.aload_n 0, 1) := by decide +kernel
theorem dX0_spread_75 : decode cX0_spread 75 = .ok (.getfield 15, 3) := by decide +kernel
theorem dX0_spread_78 : decode cX0_spread 78 = .ok (.iload 7, 2) := by decide +kernel
theorem dX0_spread_80 : decode cX0_spread 80 = .ok (.aload_n 0, 1) := by decide +kernel
theorem dX0_spread_81 : decode cX0_spread 81 = .ok (.getfield 22, 3) := by decide +kernel
theorem dX0_spread_84 : decode cX0_spread 84 = .ok (.aload_n 0, 1) := by decide +kernel
theorem dX0_spread_85 : decode cX0_spread 85 = .ok (.getfield 19, 3) := by decide +kernel
theorem dX0_spread_88 : decode cX0_spread 88 = .ok (.iload 6, 2) := by decide +kernel
theorem dX0_spread_90 : decode cX0_spread 90 = .ok (.iaload, 1) := by decide +kernel
theorem dX0_spread_91 : decode cX0_spread 91 = .ok (.iload 7, 2) := by decide +kernel
theorem dX0_spread_93 : decode cX0_spread 93 = .ok (.iconst 3, 1) := by decide +kernel
theorem dX0_spread_94 : decode cX0_spread 94 = .ok (.isub, 1) := by decide +kernel
theorem dX0_spread_95 : decode cX0_spread 95 = .ok (.aload_n 0, 1) := by decide +kernel
theorem dX0_spread_96 : decode cX0_spread 96 = .ok (.getfield 29, 3) := by decide +kernel
theorem dX0_spread_99 : decode cX0_spread 99 = .ok (.iload_n 2, 1) := by decide +kernel
theorem dX0_spread_100 : decode cX0_spread 100 = .ok (.iload 5, 2) := by decide +kernel
theorem dX0_spread_102 : decode cX0_spread 102 = .ok (.invokevirtual 126, 3) := by decide +kernel
theorem dX0_spread_105 : decode cX0_spread 105 = .ok (.iastore, 1) := by decide +kernel
theorem dX0_spread_106 : decode cX0_spread 106 = .ok (.iinc 7 1, 3) := by decide +kernel
theorem dX0_spread_109 : decode cX0_spread 109 = .ok (.goto (-42), 3) := by decide +kernel
theorem dX0_spread_112 : decode cX0_spread 112 = .ok (.aload_n 0, 1) := by decide +kernel
theorem dX0_spread_113 : decode cX0_spread 113 = .ok (.getstatic 51, 3) := by decide +kernel
theorem dX0_spread_116 : decode cX0_spread 116 = .ok (.iload 6, 2) := by decide +kernel
theorem dX0_spread_118 : decode cX0_spread 118 = .ok (.iaload, 1) := by decide +kernel
theorem dX0_spread_119 : decode cX0_spread 119 = .ok (.invokevirtual 130, 3) := by decide +kernel
theorem dX0_spread_122 : decode cX0_spread 122 = .ok (.iinc 6 1, 3) := by decide +kernel
theorem dX0_spread_125 : decode cX0_spread 125 = .ok (.goto (-70), 3) := by decide +kernel
theorem dX0_spread_128 : decode cX0_spread 128 = .ok (.return_, 1) := by decide +kernel
theorem dX0_widen_0 : decode cX0_widen 0 = .ok (.iload_n 1, 1) := by decide +kernel
theorem dX0_widen_1 : decode cX0_widen 1 = .ok (.iconst 1, 1) := by decide +kernel
theorem dX0_widen_2 : decode cX0_widen 2 = .ok (.isub, 1) := by decide +kernel
theorem dX0_widen_3 : decode cX0_widen 3 = .ok (.istore_n 2, 1) := by decide +kernel
theorem dX0_widen_4 : decode cX0_widen 4 = .ok (.iload_n 2, 1) := by decide +kernel
theorem dX0_widen_5 : decode cX0_widen 5 = .ok (.ifCond .lt 54, 3) := by decide +kernel
theorem dX0_widen_8 : decode cX0_widen 8 = .ok (.aload_n 0, 1) := by decide +kernel
theorem dX0_widen_9 : decode cX0_widen 9 = .ok (.getfield 26, 3) := by decide +kernel
theorem dX0_widen_12 : decode cX0_widen 12 = .ok (.iload_n 2, 1) := by decide +kernel
theorem dX0_widen_13 : decode cX0_widen 13 = .ok (.laload, 1) := by decide +kernel
theorem dX0_widen_14 : decode cX0_widen 14 = .ok (.lstore_n 3, 1) := by decide +kernel
theorem dX0_widen_15 : decode cX0_widen 15 = .ok (.iconst 0, 1) := by decide +kernel
theorem dX0_widen_16 : decode cX0_widen 16 = .ok (.istore 5, 2) := by decide +kernel
theorem dX0_widen_18 : decode cX0_widen 18 = .ok (.iload 5, 2) := by decide +kernel
theorem dX0_widen_20 : decode cX0_widen 20 = .ok (.bipush 7, 2) := by decide +kernel
theorem dX0_widen_22 : decode cX0_widen 22 = .ok (.if_icmp .ge 31, 3) := by decide +kernel
theorem dX0_widen_25 : decode cX0_widen 25 = .ok (.aload_n 0, 1) := by decide +kernel
theorem dX0_widen_26 : decode cX0_widen 26 = .ok (.getfield 26, 3) := by decide +kernel
theorem dX0_widen_29 : decode cX0_widen 29 = .ok (.iload_n 2, 1) := by decide +kernel
theorem dX0_widen_30 : decode cX0_widen 30 = .ok (.bipush 7, 2) := by decide +kernel
theorem dX0_widen_32 : decode cX0_widen 32 = .ok (.imul, 1) := by decide +kernel
theorem dX0_widen_33 : decode cX0_widen 33 = .ok (.iload 5, 2) := by decide +kernel
theorem dX0_widen_35 : decode cX0_widen 35 = .ok (.iadd, 1) := by decide +kernel
theorem dX0_widen_36 : decode cX0_widen 36 = .ok (.lload_n 3, 1) := by decide +kernel
theorem dX0_widen_37 : decode cX0_widen 37 = .ok (.aload_n 0, 1) := by decide +kernel
theorem dX0_widen_38 : decode cX0_widen 38 = .ok (.getfield 15, 3) := by decide +kernel
theorem dX0_widen_41 : decode cX0_widen 41 = .ok (.iload 5, 2) := by decide +kernel
theorem dX0_widen_43 : decode cX0_widen 43 = .ok (.iaload, 1) := by decide +kernel
theorem dX0_widen_44 : decode cX0_widen 44 = .ok (.i2l, 1) := by decide +kernel
theorem dX0_widen_45 : decode cX0_widen 45 = .ok (.lsub, 1) := by decide +kernel
theorem dX0_widen_46 : decode cX0_widen 46 = .ok (.lastore, 1) := by decide +kernel
theorem dX0_widen_47 : decode cX0_widen 47 = .ok (.iinc 5 1, 3) := by decide +kernel
theorem dX0_widen_50 : decode cX0_widen 50 = .ok (.goto (-32), 3) := by decide +kernel
theorem dX0_widen_53 : decode cX0_widen 53 = .ok (.iinc 2 (-1), 3) := by decide +kernel
theorem dX0_widen_56 : decode cX0_widen 56 = .ok (.goto (-52), 3) := by decide +kernel
theorem dX0_widen_59 : decode cX0_widen 59 = .ok (.return_, 1) := by decide +kernel
theorem dX1_init_0 : decode cX1_init 0 = .ok (.aload_n 0, 1) := by decide +kernel
theorem dX1_init_1 : decode cX1_init 1 = .ok (.invokespecial 3, 3) := by decide +kernel
theorem dX1_init_4 : decode cX1_init 4 = .ok (.aload_n 0, 1) := by decide +kernel
theorem dX1_init_5 : decode cX1_init 5 = .ok (.bipush 8, 2) := by decide +kernel
theorem dX1_init_7 : decode cX1_init 7 = .ok (.anewarray 9, 3) := by decide +kernel
theorem dX1_init_10 : decode cX1_init 10 = .ok (.putfield 11, 3) := by decide +kernel
theorem dX1_init_13 : decode cX1_init 13 = .ok (.aload_n 0, 1) := by decide +kernel
theorem dX1_init_14 : decode cX1_init 14 = .ok (.bipush 8, 2) := by decide +kernel
theorem dX1_init_16 : decode cX1_init 16 = .ok (.newarray .int, 2) := by decide +kernel
theorem dX1_init_18 : decode cX1_init 18 = .ok (.putfield 17, 3) := by decide +kernel
theorem dX1_init_21 : decode cX1_init 21 = .ok (.aload_n 0, 1) := by decide +kernel
theorem dX1_init_22 : decode cX1_init 22 = .ok (.aload_n 1, 1) := by decide +kernel
theorem dX1_init_23 : decode cX1_init 23 = .ok (.putfield 21, 3) := by decide +kernel
theorem dX1_init_26 : decode cX1_init 26 = .ok (.sipush 343, 3) := by decide +kernel
theorem dX1_init_29 : decode cX1_init 29 = .ok (.newarray .long, 2) := by decide +kernel
theorem dX1_init_31 : decode cX1_init 31 = .ok (.astore_n 2, 1) := by decide +kernel
theorem dX1_init_32 : decode cX1_init 32 = .ok (.iconst 0, 1) := by decide +kernel
theorem dX1_init_33 : decode cX1_init 33 = .ok (.istore_n 3, 1) := by decide +kernel
theorem dX1_init_34 : decode cX1_init 34 = .ok (.iload_n 3, 1) := by decide +kernel
theorem dX1_init_35 : decode cX1_init 35 = .ok (.bipush 8, 2) := by decide +kernel
theorem dX1_init_37 : decode cX1_init 37 = .ok (.if_icmp .ge 24, 3) := by decide +kernel
theorem dX1_init_40 : decode cX1_init 40 = .ok (.aload_n 0, 1) := by decide +kernel
theorem dX1_init_41 : decode cX1_init 41 = .ok (.getfield 11, 3) := by decide +kernel
theorem dX1_init_44 : decode cX1_init 44 = .ok (.iload_n 3, 1) := by decide +kernel
theorem dX1_init_45 : decode cX1_init 45 = .ok (.new 9, 3) := by decide +kernel
theorem dX1_init_48 : decode cX1_init 48 = .ok (.dup, 1) := by decide +kernel
theorem dX1_init_49 : decode cX1_init 49 = .ok (.aload_n 1, 1) := by decide +kernel
theorem dX1_init_50 : decode cX1_init 50 = .ok (.aload_n 2, 1) := by decide +kernel
theorem dX1_init_51 : decode cX1_init 51 = .ok (.invokespecial 25, 3) := by decide +kernel
theorem dX1_init_54 : decode cX1_init 54 = .ok (.aastore, 1) := by decide +kernel
theorem dX1_init_55 : decode cX1_init 55 = .ok (.iinc 3 1, 3) := by decide +kernel
theorem dX1_init_58 : decode cX1_init 58 = .ok (.goto (-24), 3) := by decide +kernel
theorem dX1_init_61 : decode cX1_init 61 = .ok (.return_, 1) := by decide +kernel
theorem dX1_fitted_0 : decode cX1_fitted 0 = .ok (.aload_n 0, 1) := by decide +kernel
theorem dX1_fitted_1 : decode cX1_fitted 1 = .ok (.getfield 11, 3) := by decide +kernel
theorem dX1_fitted_4 : decode cX1_fitted 4 = .ok (.iload_n 1, 1) := by decide +kernel
theorem dX1_fitted_5 : decode cX1_fitted 5 = .ok (.aaload, 1) := by decide +kernel
theorem dX1_fitted_6 : decode cX1_fitted 6 = .ok (.astore 6, 2) := by decide +kernel
theorem dX1_fitted_8 : decode cX1_fitted 8 = .ok (.aload 6, 2) := by decide +kernel
theorem dX1_fitted_10 : decode cX1_fitted 10 = .ok (.iload_n 1, 1) := by decide +kernel
theorem dX1_fitted_11 : decode cX1_fitted 11 = .ok (.iload_n 2, 1) := by decide +kernel
theorem dX1_fitted_12 : decode cX1_fitted 12 = .ok (.iload_n 3, 1) := by decide +kernel
theorem dX1_fitted_13 : decode cX1_fitted 13 = .ok (.invokevirtual 28, 3) := by decide +kernel
theorem dX1_fitted_16 : decode cX1_fitted 16 = .ok (.aload 6, 2) := by decide +kernel
theorem dX1_fitted_18 : decode cX1_fitted 18 = .ok (.lload 4, 2) := by decide +kernel
theorem dX1_fitted_20 : decode cX1_fitted 20 = .ok (.invokevirtual 32, 3) := by decide +kernel
theorem dX1_fitted_23 : decode cX1_fitted 23 = .ok (.aload 6, 2) := by decide +kernel
theorem dX1_fitted_25 : decode cX1_fitted 25 = .ok (.areturn, 1) := by decide +kernel
theorem dX1_gather_0 : decode cX1_gather 0 = .ok (.iconst 0, 1) := by decide +kernel
theorem dX1_gather_1 : decode cX1_gather 1 = .ok (.istore 4, 2) := by decide +kernel
theorem dX1_gather_3 : decode cX1_gather 3 = .ok (.iload 4, 2) := by decide +kernel
theorem dX1_gather_5 : decode cX1_gather 5 = .ok (.aload_n 0, 1) := by decide +kernel
theorem dX1_gather_6 : decode cX1_gather 6 = .ok (.getfield 21, 3) := by decide +kernel
theorem dX1_gather_9 : decode cX1_gather 9 = .ok (.getfield 36, 3) := by decide +kernel
theorem dX1_gather_12 : decode cX1_gather 12 = .ok (.getfield 42, 3) := by decide +kernel
theorem dX1_gather_15 : decode cX1_gather 15 = .ok (.if_icmp .ge 34, 3) := by decide +kernel
theorem dX1_gather_18 : decode cX1_gather 18 = .ok (.aload_n 0, 1) := by decide +kernel
theorem dX1_gather_19 : decode cX1_gather 19 = .ok (.getfield 11, 3) := by decide +kernel
theorem dX1_gather_22 : decode cX1_gather 22 = .ok (.iload 4, 2) := by decide +kernel
theorem dX1_gather_24 : decode cX1_gather 24 = .ok (.aaload, 1) := by decide +kernel
theorem dX1_gather_25 : decode cX1_gather 25 = .ok (.iload 4, 2) := by decide +kernel
theorem dX1_gather_27 : decode cX1_gather 27 = .ok (.iconst (-1), 1) := by decide +kernel
theorem dX1_gather_28 : decode cX1_gather 28 = .ok (.iload_n 1, 1) := by decide +kernel
theorem dX1_gather_29 : decode cX1_gather 29 = .ok (.invokevirtual 28, 3) := by decide +kernel
theorem dX1_gather_32 : decode cX1_gather 32 = .ok (.aload_n 0, 1) := by decide +kernel
theorem dX1_gather_33 : decode cX1_gather 33 = .ok (.getfield 11, 3) := by decide +kernel
theorem dX1_gather_36 : decode cX1_gather 36 = .ok (.iload 4, 2) := by decide +kernel
theorem dX1_gather_38 : decode cX1_gather 38 = .ok (.aaload, 1) := by decide +kernel
theorem dX1_gather_39 : decode cX1_gather 39 = .ok (.lload_n 2, 1) := by decide +kernel
theorem dX1_gather_40 : decode cX1_gather 40 = .ok (.invokevirtual 32, 3) := by decide +kernel
theorem dX1_gather_43 : decode cX1_gather 43 = .ok (.iinc 4 1, 3) := by decide +kernel
theorem dX1_gather_46 : decode cX1_gather 46 = .ok (.goto (-43), 3) := by decide +kernel
theorem dX1_gather_49 : decode cX1_gather 49 = .ok (.return_, 1) := by decide +kernel
theorem dX1_bestNow_0 : decode cX1_bestNow 0 = .ok (.iconst 0, 1) := by decide +kernel
theorem dX1_bestNow_1 : decode cX1_bestNow 1 = .ok (.istore_n 1, 1) := by decide +kernel
theorem dX1_bestNow_2 : decode cX1_bestNow 2 = .ok (.ldc2_w 48, 3) := by decide +kernel
theorem dX1_bestNow_5 : decode cX1_bestNow 5 = .ok (.lstore_n 2, 1) := by decide +kernel
theorem dX1_bestNow_6 : decode cX1_bestNow 6 = .ok (.iconst 0, 1) := by decide +kernel
theorem dX1_bestNow_7 : decode cX1_bestNow 7 = .ok (.istore 4, 2) := by decide +kernel
theorem dX1_bestNow_9 : decode cX1_bestNow 9 = .ok (.iload 4, 2) := by decide +kernel
theorem dX1_bestNow_11 : decode cX1_bestNow 11 = .ok (.aload_n 0, 1) := by decide +kernel
theorem dX1_bestNow_12 : decode cX1_bestNow 12 = .ok (.getfield 21, 3) := by decide +kernel
theorem dX1_bestNow_15 : decode cX1_bestNow 15 = .ok (.getfield 36, 3) := by decide +kernel
theorem dX1_bestNow_18 : decode cX1_bestNow 18 = .ok (.getfield 42, 3) := by decide +kernel
theorem dX1_bestNow_21 : decode cX1_bestNow 21 = .ok (.if_icmp .ge 34, 3) := by decide +kernel
theorem dX1_bestNow_24 : decode cX1_bestNow 24 = .ok (.aload_n 0, 1) := by decide +kernel
theorem dX1_bestNow_25 : decode cX1_bestNow 25 = .ok (.getfield 11, 3) := by decide +kernel
theorem dX1_bestNow_28 : decode cX1_bestNow 28 = .ok (.iload 4, 2) := by decide +kernel
theorem dX1_bestNow_30 : decode cX1_bestNow 30 = .ok (.aaload, 1) := by decide +kernel
theorem dX1_bestNow_31 : decode cX1_bestNow 31 = .ok (.invokevirtual 50, 3) := by decide +kernel
theorem dX1_bestNow_34 : decode cX1_bestNow 34 = .ok (.lstore 5, 2) := by decide +kernel
theorem dX1_bestNow_36 : decode cX1_bestNow 36 = .ok (.lload 5, 2) := by decide +kernel
theorem dX1_bestNow_38 : decode cX1_bestNow 38 = .ok (.lload_n 2, 1) := by decide +kernel
theorem dX1_bestNow_39 : decode cX1_bestNow 39 = .ok (.lcmp, 1) := by decide +kernel
theorem dX1_bestNow_40 : decode cX1_bestNow 40 = .ok (.ifCond .ge 9, 3) := by decide +kernel
theorem dX1_bestNow_43 : decode cX1_bestNow 43 = .ok (.lload 5, 2) := by decide +kernel
theorem dX1_bestNow_45 : decode cX1_bestNow 45 = .ok (.lstore_n 2, 1) := by decide +kernel
theorem dX1_bestNow_46 : decode cX1_bestNow 46 = .ok (.iload 4, 2) := by decide +kernel
theorem dX1_bestNow_48 : decode cX1_bestNow 48 = .ok (.istore_n 1, 1) := by decide +kernel
theorem dX1_bestNow_49 : decode cX1_bestNow 49 = .ok (.iinc 4 1, 3) := by decide +kernel
theorem dX1_bestNow_52 : decode cX1_bestNow 52 = .ok (.goto (-43), 3) := by decide +kernel
theorem dX1_bestNow_55 : decode cX1_bestNow 55 = .ok (.iload_n 1, 1) := by decide +kernel
theorem dX1_bestNow_56 : decode cX1_bestNow 56 = .ok (.ireturn, 1) := by decide +kernel
theorem dX1_lightOfAll_0 : decode cX1_lightOfAll 0 = .ok (.aload_n 0, 1) := by decide +kernel
theorem dX1_lightOfAll_1 : decode cX1_lightOfAll 1 = .ok (.getfield 21, 3) := by decide +kernel
theorem dX1_lightOfAll_4 : decode cX1_lightOfAll 4 = .ok (.getfield 36, 3) := by decide +kernel
theorem dX1_lightOfAll_7 : decode cX1_lightOfAll 7 = .ok (.iload_n 1, 1) := by decide +kernel
theorem dX1_lightOfAll_8 : decode cX1_lightOfAll 8 = .ok (.iconst 2, 1) := by decide +kernel
theorem dX1_lightOfAll_9 : decode cX1_lightOfAll 9 = .ok (.invokevirtual 54, 3) := by decide +kernel
theorem dX1_lightOfAll_12 : decode cX1_lightOfAll 12 = .ok (.istore_n 2, 1) := by decide +kernel
theorem dX1_lightOfAll_13 : decode cX1_lightOfAll 13 = .ok (.bipush 127, 2) := by decide +kernel
theorem dX1_lightOfAll_15 : decode cX1_lightOfAll 15 = .ok (.istore_n 3, 1) := by decide +kernel
theorem dX1_lightOfAll_16 : decode cX1_lightOfAll 16 = .ok (.iconst 0, 1) := by decide +kernel
theorem dX1_lightOfAll_17 : decode cX1_lightOfAll 17 = .ok (.istore 4, 2) := by decide +kernel
theorem dX1_lightOfAll_19 : decode cX1_lightOfAll 19 = .ok (.iload 4, 2) := by decide +kernel
theorem dX1_lightOfAll_21 : decode cX1_lightOfAll 21 = .ok (.iconst 4, 1) := by decide +kernel
theorem dX1_lightOfAll_22 : decode cX1_lightOfAll 22 = .ok (.if_icmp .ge 60, 3) := by decide +kernel
theorem dX1_lightOfAll_25 : decode cX1_lightOfAll 25 = .ok (.aload_n 0, 1) := by decide +kernel
theorem dX1_lightOfAll_26 : decode cX1_lightOfAll 26 = .ok (.getfield 21, 3) := by decide +kernel
theorem dX1_lightOfAll_29 : decode cX1_lightOfAll 29 = .ok (.getfield 58, 3) := by decide +kernel
theorem dX1_lightOfAll_32 : decode cX1_lightOfAll 32 = .ok (.getfield 62, 3) := by decide +kernel
theorem dX1_lightOfAll_35 : decode cX1_lightOfAll 35 = .ok (.iload 4, 2) := by decide +kernel
theorem dX1_lightOfAll_37 : decode cX1_lightOfAll 37 = .ok (.baload, 1) := by decide +kernel
theorem dX1_lightOfAll_38 : decode cX1_lightOfAll 38 = .ok (.ifCond .eq 38, 3) := by decide +kernel
theorem dX1_lightOfAll_41 : decode cX1_lightOfAll 41 = .ok (.aload_n 0, 1) := by decide +kernel
theorem dX1_lightOfAll_42 : decode cX1_lightOfAll 42 = .ok (.getfield 11, 3) := by decide +kernel
theorem dX1_lightOfAll_45 : decode cX1_lightOfAll 45 = .ok (.iload_n 1, 1) := by decide +kernel
theorem dX1_lightOfAll_46 : decode cX1_lightOfAll 46 = .ok (.aaload, 1) := by decide +kernel
theorem dX1_lightOfAll_47 : decode cX1_lightOfAll 47 = .ok (.iload_n 1, 1) := by decide +kernel
theorem dX1_lightOfAll_48 : decode cX1_lightOfAll 48 = .ok (.iconst (-1), 1) := by decide +kernel
theorem dX1_lightOfAll_49 : decode cX1_lightOfAll 49 = .ok (.iload 4, 2) := by decide +kernel
theorem dX1_lightOfAll_51 : decode cX1_lightOfAll 51 = .ok (.invokevirtual 28, 3) := by decide +kernel
theorem dX1_lightOfAll_54 : decode cX1_lightOfAll 54 = .ok (.iload_n 3, 1) := by decide +kernel
theorem dX1_lightOfAll_55 : decode cX1_lightOfAll 55 = .ok (.aload_n 0, 1) := by decide +kernel
theorem dX1_lightOfAll_56 : decode cX1_lightOfAll 56 = .ok (.getfield 11, 3) := by decide +kernel
theorem dX1_lightOfAll_59 : decode cX1_lightOfAll 59 = .ok (.iload_n 1, 1) := by decide +kernel
theorem dX1_lightOfAll_60 : decode cX1_lightOfAll 60 = .ok (.aaload, 1) := by decide +kernel
theorem dX1_lightOfAll_61 : decode cX1_lightOfAll 61 = .ok (.aload_n 0, 1) := by decide +kernel
theorem dX1_lightOfAll_62 : decode cX1_lightOfAll 62 = .ok (.getfield 21, 3) := by decide +kernel
theorem dX1_lightOfAll_65 : decode cX1_lightOfAll 65 = .ok (.getfield 68, 3) := by decide +kernel
theorem dX1_lightOfAll_68 : decode cX1_lightOfAll 68 = .ok (.iconst 4, 1) := by decide +kernel
theorem dX1_lightOfAll_69 : decode cX1_lightOfAll 69 = .ok (.iaload, 1) := by decide +kernel
theorem dX1_lightOfAll_70 : decode cX1_lightOfAll 70 = .ok (.iload_n 2, 1) := by decide +kernel
theorem dX1_lightOfAll_71 : decode cX1_lightOfAll 71 = .ok (.invokevirtual 71, 3) := by decide +kernel
theorem dX1_lightOfAll_74 : decode cX1_lightOfAll 74 = .ok (.iand, 1) := by decide +kernel
theorem dX1_lightOfAll_75 : decode cX1_lightOfAll 75 = .ok (.istore_n 3, 1) := by decide +kernel
theorem dX1_lightOfAll_76 : decode cX1_lightOfAll 76 = .ok (.iinc 4 1, 3) := by decide +kernel
theorem dX1_lightOfAll_79 : decode cX1_lightOfAll 79 = .ok (.goto (-60), 3) := by decide +kernel
theorem dX1_lightOfAll_82 : decode cX1_lightOfAll 82 = .ok (.iload_n 3, 1) := by decide +kernel
theorem dX1_lightOfAll_83 : decode cX1_lightOfAll 83 = .ok (.ireturn, 1) := by decide +kernel
theorem dX1_turningSights_0 : decode cX1_turningSights 0 = .ok (.aload_n 0, 1) := by decide +kernel
theorem dX1_turningSights_1 : decode cX1_turningSights 1 = .ok (.invokevirtual 74, 3) := by decide +kernel
theorem dX1_turningSights_4 : decode cX1_turningSights 4 = .ok (.istore 4, 2) := by decide +kernel
theorem dX1_turningSights_6 : decode cX1_turningSights 6 = .ok (.aload_n 0, 1) := by decide +kernel
theorem dX1_turningSights_7 : decode cX1_turningSights 7 = .ok (.iload_n 1, 1) := by decide +kernel
theorem dX1_turningSights_8 : decode cX1_turningSights 8 = .ok (.lload_n 2, 1) := by decide +kernel
theorem dX1_turningSights_9 : decode cX1_turningSights 9 = .ok (.invokevirtual 78, 3) := by decide +kernel
theorem dX1_turningSights_12 : decode cX1_turningSights 12 = .ok (.istore 5, 2) := by decide +kernel
theorem dX1_turningSights_14 : decode cX1_turningSights 14 = .ok (.iconst 0, 1) := by decide +kernel
theorem dX1_turningSights_15 : decode cX1_turningSights 15 = .ok (.istore 6, 2) := by decide +kernel
theorem dX1_turningSights_17 : decode cX1_turningSights 17 = .ok (.iload 6, 2) := by decide +kernel
theorem dX1_turningSights_19 : decode cX1_turningSights 19 = .ok (.iload 5, 2) := by decide +kernel
theorem dX1_turningSights_21 : decode cX1_turningSights 21 = .ok (.if_icmp .ge 35, 3) := by decide +kernel
theorem dX1_turningSights_24 : decode cX1_turningSights 24 = .ok (.aload_n 0, 1) := by decide +kernel
theorem dX1_turningSights_25 : decode cX1_turningSights 25 = .ok (.aload_n 0, 1) := by decide +kernel
theorem dX1_turningSights_26 : decode cX1_turningSights 26 = .ok (.getfield 17, 3) := by decide +kernel
theorem dX1_turningSights_29 : decode cX1_turningSights 29 = .ok (.iload 6, 2) := by decide +kernel
theorem dX1_turningSights_31 : decode cX1_turningSights 31 = .ok (.iaload, 1) := by decide +kernel
theorem dX1_turningSights_32 : decode cX1_turningSights 32 = .ok (.invokevirtual 82, 3) := by decide +kernel
theorem dX1_turningSights_35 : decode cX1_turningSights 35 = .ok (.iload 4, 2) := by decide +kernel
theorem dX1_turningSights_37 : decode cX1_turningSights 37 = .ok (.if_icmp .eq 13, 3) := by decide +kernel
theorem dX1_turningSights_40 : decode cX1_turningSights 40 = .ok (.lconst 1, 1) := by decide +kernel
theorem dX1_turningSights_41 : decode cX1_turningSights 41 = .ok (.aload_n 0, 1) := by decide +kernel
theorem dX1_turningSights_42 : decode cX1_turningSights 42 = .ok (.getfield 17, 3) := by decide +kernel
theorem dX1_turningSights_45 : decode cX1_turningSights 45 = .ok (.iload 6, 2) := by decide +kernel
theorem dX1_turningSights_47 : decode cX1_turningSights 47 = .ok (.iaload, 1) := by decide +kernel
theorem dX1_turningSights_48 : decode cX1_turningSights 48 = .ok (.lshl, 1) := by decide +kernel
theorem dX1_turningSights_49 : decode cX1_turningSights 49 = .ok (.lreturn, 1) := by decide +kernel
theorem dX1_turningSights_50 : decode cX1_turningSights 50 = .ok (.iinc 6 1, 3) := by decide +kernel
theorem dX1_turningSights_53 : decode cX1_turningSights 53 = .ok (.goto (-36), 3) := by decide +kernel
theorem dX1_turningSights_56 : decode cX1_turningSights 56 = .ok (.iconst 1, 1) := by decide +kernel
theorem dX1_turningSights_57 : decode cX1_turningSights 57 = .ok (.istore 6, 2) := by decide +kernel
theorem dX1_turningSights_59 : decode cX1_turningSights 59 = .ok (.iload 6, 2) := by decide +kernel
theorem dX1_turningSights_61 : decode cX1_turningSights 61 = .ok (.iload 5, 2) := by decide +kernel
theorem dX1_turningSights_63 : decode cX1_turningSights 63 = .ok (.if_icmp .ge 83, 3) := by decide +kernel
theorem dX1_turningSights_66 : decode cX1_turningSights 66 = .ok (.aload_n 0, 1) := by decide +kernel
theorem dX1_turningSights_67 : decode cX1_turningSights 67 = .ok (.aload_n 0, 1) := by decide +kernel
theorem dX1_turningSights_68 : decode cX1_turningSights 68 = .ok (.getfield 17, 3) := by decide +kernel
theorem dX1_turningSights_71 : decode cX1_turningSights 71 = .ok (.iload 6, 2) := by decide +kernel
theorem dX1_turningSights_73 : decode cX1_turningSights 73 = .ok (.iaload, 1) := by decide +kernel
theorem dX1_turningSights_74 : decode cX1_turningSights 74 = .ok (.invokevirtual 86, 3) := by decide +kernel
theorem dX1_turningSights_77 : decode cX1_turningSights 77 = .ok (.iconst 0, 1) := by decide +kernel
theorem dX1_turningSights_78 : decode cX1_turningSights 78 = .ok (.istore 7, 2) := by decide +kernel
theorem dX1_turningSights_80 : decode cX1_turningSights 80 = .ok (.iload 7, 2) := by decide +kernel
theorem dX1_turningSights_82 : decode cX1_turningSights 82 = .ok (.iload 6, 2) := by decide +kernel
theorem dX1_turningSights_84 : decode cX1_turningSights 84 = .ok (.if_icmp .ge 45, 3) := by decide +kernel
theorem dX1_turningSights_87 : decode cX1_turningSights 87 = .ok (.aload_n 0, 1) := by decide +kernel
theorem dX1_turningSights_88 : decode cX1_turningSights 88 = .ok (.aload_n 0, 1) := by decide +kernel
theorem dX1_turningSights_89 : decode cX1_turningSights 89 = .ok (.getfield 17, 3) := by decide +kernel
theorem dX1_turningSights_92 : decode cX1_turningSights 92 = .ok (.iload 7, 2) := by decide +kernel
theorem dX1_turningSights_94 : decode cX1_turningSights 94 = .ok (.iaload, 1) := by decide +kernel
theorem dX1_turningSights_95 : decode cX1_turningSights 95 = .ok (.invokevirtual 82, 3) := by decide +kernel
theorem dX1_turningSights_98 : decode cX1_turningSights 98 = .ok (.iload 4, 2) := by decide +kernel
theorem dX1_turningSights_100 : decode cX1_turningSights 100 = .ok (.if_icmp .eq 23, 3) := by decide +kernel
theorem dX1_turningSights_103 : decode cX1_turningSights 103 = .ok (.lconst 1, 1) := by decide +kernel
theorem dX1_turningSights_104 : decode cX1_turningSights 104 = .ok (.aload_n 0, 1) := by decide +kernel
theorem dX1_turningSights_105 : decode cX1_turningSights 105 = .ok (.getfield 17, 3) := by decide +kernel
theorem dX1_turningSights_108 : decode cX1_turningSights 108 = .ok (.iload 7, 2) := by decide +kernel
theorem dX1_turningSights_110 : decode cX1_turningSights 110 = .ok (.iaload, 1) := by decide +kernel
theorem dX1_turningSights_111 : decode cX1_turningSights 111 = .ok (.lshl, 1) := by decide +kernel
theorem dX1_turningSights_112 : decode cX1_turningSights 112 = .ok (.lconst 1, 1) := by decide +kernel
theorem dX1_turningSights_113 : decode cX1_turningSights 113 = .ok (.aload_n 0, 1) := by decide +kernel
theorem dX1_turningSights_114 : decode cX1_turningSights 114 = .ok (.getfield 17, 3) := by decide +kernel
theorem dX1_turningSights_117 : decode cX1_turningSights 117 = .ok (.iload 6, 2) := by decide +kernel
theorem dX1_turningSights_119 : decode cX1_turningSights 119 = .ok (.iaload, 1) := by decide +kernel
theorem dX1_turningSights_120 : decode cX1_turningSights 120 = .ok (.lshl, 1) := by decide +kernel
theorem dX1_turningSights_121 : decode cX1_turningSights 121 = .ok (.lor, 1) := by decide +kernel
theorem dX1_turningSights_122 : decode cX1_turningSights 122 = .ok (.lreturn, 1) := by decide +kernel
theorem dX1_turningSights_123 : decode cX1_turningSights 123 = .ok (.iinc 7 1, 3) := by decide +kernel
theorem dX1_turningSights_126 : decode cX1_turningSights 126 = .ok (.goto (-46), 3) := by decide +kernel
theorem dX1_turningSights_129 : decode cX1_turningSights 129 = .ok (.aload_n 0, 1) := by decide +kernel
theorem dX1_turningSights_130 : decode cX1_turningSights 130 = .ok (.aload_n 0, 1) := by decide +kernel
theorem dX1_turningSights_131 : decode cX1_turningSights 131 = .ok (.getfield 17, 3) := by decide +kernel
theorem dX1_turningSights_134 : decode cX1_turningSights 134 = .ok (.iload 6, 2) := by decide +kernel
theorem dX1_turningSights_136 : decode cX1_turningSights 136 = .ok (.iaload, 1) := by decide +kernel
theorem dX1_turningSights_137 : decode cX1_turningSights 137 = .ok (.invokevirtual 90, 3) := by decide +kernel
theorem dX1_turningSights_140 : decode cX1_turningSights 140 = .ok (.iinc 6 1, 3) := by decide +kernel
theorem dX1_turningSights_143 : decode cX1_turningSights 143 = .ok (.goto (-84), 3) := by decide +kernel
theorem dX1_turningSights_146 : decode cX1_turningSights 146 = .ok (.ldc2_w 93, 3) := by decide +kernel
theorem dX1_turningSights_149 : decode cX1_turningSights 149 = .ok (.lreturn, 1) := by decide +kernel
theorem dX1_findOthers_0 : decode cX1_findOthers 0 = .ok (.iconst 0, 1) := by decide +kernel
theorem dX1_findOthers_1 : decode cX1_findOthers 1 = .ok (.istore 4, 2) := by decide +kernel
theorem dX1_findOthers_3 : decode cX1_findOthers 3 = .ok (.iconst 0, 1) := by decide +kernel
theorem dX1_findOthers_4 : decode cX1_findOthers 4 = .ok (.istore 5, 2) := by decide +kernel
theorem dX1_findOthers_6 : decode cX1_findOthers 6 = .ok (.iload 5, 2) := by decide +kernel
theorem dX1_findOthers_8 : decode cX1_findOthers 8 = .ok (.aload_n 0, 1) := by decide +kernel
theorem dX1_findOthers_9 : decode cX1_findOthers 9 = .ok (.getfield 21, 3) := by decide +kernel
theorem dX1_findOthers_12 : decode cX1_findOthers 12 = .ok (.getfield 95, 3) := by decide +kernel
theorem dX1_findOthers_15 : decode cX1_findOthers 15 = .ok (.getfield 99, 3) := by decide +kernel
theorem dX1_findOthers_18 : decode cX1_findOthers 18 = .ok (.if_icmp .ge 49, 3) := by decide +kernel
theorem dX1_findOthers_21 : decode cX1_findOthers 21 = .ok (.iload 4, 2) := by decide +kernel
theorem dX1_findOthers_23 : decode cX1_findOthers 23 = .ok (.bipush 8, 2) := by decide +kernel
theorem dX1_findOthers_25 : decode cX1_findOthers 25 = .ok (.if_icmp .ge 42, 3) := by decide +kernel
theorem dX1_findOthers_28 : decode cX1_findOthers 28 = .ok (.aload_n 0, 1) := by decide +kernel
theorem dX1_findOthers_29 : decode cX1_findOthers 29 = .ok (.getfield 21, 3) := by decide +kernel
theorem dX1_findOthers_32 : decode cX1_findOthers 32 = .ok (.getfield 95, 3) := by decide +kernel
theorem dX1_findOthers_35 : decode cX1_findOthers 35 = .ok (.iload 5, 2) := by decide +kernel
theorem dX1_findOthers_37 : decode cX1_findOthers 37 = .ok (.iload_n 1, 1) := by decide +kernel
theorem dX1_findOthers_38 : decode cX1_findOthers 38 = .ok (.lload_n 2, 1) := by decide +kernel
theorem dX1_findOthers_39 : decode cX1_findOthers 39 = .ok (.ldc2_w 102, 3) := by decide +kernel
theorem dX1_findOthers_42 : decode cX1_findOthers 42 = .ok (.lxor, 1) := by decide +kernel
theorem dX1_findOthers_43 : decode cX1_findOthers 43 = .ok (.invokevirtual 104, 3) := by decide +kernel
theorem dX1_findOthers_46 : decode cX1_findOthers 46 = .ok (.ifCond .eq 15, 3) := by decide +kernel
theorem dX1_findOthers_49 : decode cX1_findOthers 49 = .ok (.aload_n 0, 1) := by decide +kernel
theorem dX1_findOthers_50 : decode cX1_findOthers 50 = .ok (.getfield 17, 3) := by decide +kernel
theorem dX1_findOthers_53 : decode cX1_findOthers 53 = .ok (.iload 4, 2) := by decide +kernel
theorem dX1_findOthers_55 : decode cX1_findOthers 55 = .ok (.iload 5, 2) := by decide +kernel
theorem dX1_findOthers_57 : decode cX1_findOthers 57 = .ok (.iastore, 1) := by decide +kernel
theorem dX1_findOthers_58 : decode cX1_findOthers 58 = .ok (.iinc 4 1, 3) := by decide +kernel
theorem dX1_findOthers_61 : decode cX1_findOthers 61 = .ok (.iinc 5 1, 3) := by decide +kernel
theorem dX1_findOthers_64 : decode cX1_findOthers 64 = .ok (.goto (-58), 3) := by decide +kernel
theorem dX1_findOthers_67 : decode cX1_findOthers 67 = .ok (.iload 4, 2) := by decide +kernel
theorem dX1_findOthers_69 : decode cX1_findOthers 69 = .ok (.ireturn, 1) := by decide +kernel
theorem dX1_bestWith_0 : decode cX1_bestWith 0 = .ok (.iconst 0, 1) := by decide +kernel
theorem dX1_bestWith_1 : decode cX1_bestWith 1 = .ok (.istore_n 2, 1) := by decide +kernel
theorem dX1_bestWith_2 : decode cX1_bestWith 2 = .ok (.ldc2_w 48, 3) := by decide +kernel
theorem dX1_bestWith_5 : decode cX1_bestWith 5 = .ok (.lstore_n 3, 1) := by decide +kernel
theorem dX1_bestWith_6 : decode cX1_bestWith 6 = .ok (.iconst 0, 1) := by decide +kernel
theorem dX1_bestWith_7 : decode cX1_bestWith 7 = .ok (.istore 5, 2) := by decide +kernel
theorem dX1_bestWith_9 : decode cX1_bestWith 9 = .ok (.iload 5, 2) := by decide +kernel
theorem dX1_bestWith_11 : decode cX1_bestWith 11 = .ok (.aload_n 0, 1) := by decide +kernel
theorem dX1_bestWith_12 : decode cX1_bestWith 12 = .ok (.getfield 21, 3) := by decide +kernel
theorem dX1_bestWith_15 : decode cX1_bestWith 15 = .ok (.getfield 36, 3) := by decide +kernel
theorem dX1_bestWith_18 : decode cX1_bestWith 18 = .ok (.getfield 42, 3) := by decide +kernel
theorem dX1_bestWith_21 : decode cX1_bestWith 21 = .ok (.if_icmp .ge 35, 3) := by decide +kernel
theorem dX1_bestWith_24 : decode cX1_bestWith 24 = .ok (.aload_n 0, 1) := by decide +kernel
theorem dX1_bestWith_25 : decode cX1_bestWith 25 = .ok (.getfield 11, 3) := by decide +kernel
theorem dX1_bestWith_28 : decode cX1_bestWith 28 = .ok (.iload 5, 2) := by decide +kernel
theorem dX1_bestWith_30 : decode cX1_bestWith 30 = .ok (.aaload, 1) := by decide +kernel
theorem dX1_bestWith_31 : decode cX1_bestWith 31 = .ok (.iload_n 1, 1) := by decide +kernel
theorem dX1_bestWith_32 : decode cX1_bestWith 32 = .ok (.invokevirtual 108, 3) := by decide +kernel
theorem dX1_bestWith_35 : decode cX1_bestWith 35 = .ok (.lstore 6, 2) := by decide +kernel
theorem dX1_bestWith_37 : decode cX1_bestWith 37 = .ok (.lload 6, 2) := by decide +kernel
theorem dX1_bestWith_39 : decode cX1_bestWith 39 = .ok (.lload_n 3, 1) := by decide +kernel
theorem dX1_bestWith_40 : decode cX1_bestWith 40 = .ok (.lcmp, 1) := by decide +kernel
theorem dX1_bestWith_41 : decode cX1_bestWith 41 = .ok (.ifCond .ge 9, 3) := by decide +kernel
theorem dX1_bestWith_44 : decode cX1_bestWith 44 = .ok (.lload 6, 2) := by decide +kernel
theorem dX1_bestWith_46 : decode cX1_bestWith 46 = .ok (.lstore_n 3, 1) := by decide +kernel
theorem dX1_bestWith_47 : decode cX1_bestWith 47 = .ok (.iload 5, 2) := by decide +kernel
theorem dX1_bestWith_49 : decode cX1_bestWith 49 = .ok (.istore_n 2, 1) := by decide +kernel
theorem dX1_bestWith_50 : decode cX1_bestWith 50 = .ok (.iinc 5 1, 3) := by decide +kernel
theorem dX1_bestWith_53 : decode cX1_bestWith 53 = .ok (.goto (-44), 3) := by decide +kernel
theorem dX1_bestWith_56 : decode cX1_bestWith 56 = .ok (.iload_n 2, 1) := by decide +kernel
theorem dX1_bestWith_57 : decode cX1_bestWith 57 = .ok (.ireturn, 1) := by decide +kernel
theorem dX1_addToAll_0 : decode cX1_addToAll 0 = .ok (.iconst 0, 1) := by decide +kernel
theorem dX1_addToAll_1 : decode cX1_addToAll 1 = .ok (.istore_n 2, 1) := by decide +kernel
theorem dX1_addToAll_2 : decode cX1_addToAll 2 = .ok (.iload_n 2, 1) := by decide +kernel
theorem dX1_addToAll_3 : decode cX1_addToAll 3 = .ok (.aload_n 0, 1) := by decide +kernel
theorem dX1_addToAll_4 : decode cX1_addToAll 4 = .ok (.getfield 21, 3) := by decide +kernel
theorem dX1_addToAll_7 : decode cX1_addToAll 7 = .ok (.getfield 36, 3) := by decide +kernel
theorem dX1_addToAll_10 : decode cX1_addToAll 10 = .ok (.getfield 42, 3) := by decide +kernel
theorem dX1_addToAll_13 : decode cX1_addToAll 13 = .ok (.if_icmp .ge 19, 3) := by decide +kernel
theorem dX1_addToAll_16 : decode cX1_addToAll 16 = .ok (.aload_n 0, 1) := by decide +kernel
theorem dX1_addToAll_17 : decode cX1_addToAll 17 = .ok (.getfield 11, 3) := by decide +kernel
theorem dX1_addToAll_20 : decode cX1_addToAll 20 = .ok (.iload_n 2, 1) := by decide +kernel
theorem dX1_addToAll_21 : decode cX1_addToAll 21 = .ok (.aaload, 1) := by decide +kernel
theorem dX1_addToAll_22 : decode cX1_addToAll 22 = .ok (.iload_n 1, 1) := by decide +kernel
theorem dX1_addToAll_23 : decode cX1_addToAll 23 = .ok (.invokevirtual 112, 3) := by decide +kernel
theorem dX1_addToAll_26 : decode cX1_addToAll 26 = .ok (.iinc 2 1, 3) := by decide +kernel
theorem dX1_addToAll_29 : decode cX1_addToAll 29 = .ok (.goto (-27), 3) := by decide +kernel
theorem dX1_addToAll_32 : decode cX1_addToAll 32 = .ok (.return_, 1) := by decide +kernel
theorem dX1_dropFromAll_0 : decode cX1_dropFromAll 0 = .ok (.iconst 0, 1) := by decide +kernel
theorem dX1_dropFromAll_1 : decode cX1_dropFromAll 1 = .ok (.istore_n 2, 1) := by decide +kernel
theorem dX1_dropFromAll_2 : decode cX1_dropFromAll 2 = .ok (.iload_n 2, 1) := by decide +kernel
theorem dX1_dropFromAll_3 : decode cX1_dropFromAll 3 = .ok (.aload_n 0, 1) := by decide +kernel
theorem dX1_dropFromAll_4 : decode cX1_dropFromAll 4 = .ok (.getfield 21, 3) := by decide +kernel
theorem dX1_dropFromAll_7 : decode cX1_dropFromAll 7 = .ok (.getfield 36, 3) := by decide +kernel
theorem dX1_dropFromAll_10 : decode cX1_dropFromAll 10 = .ok (.getfield 42, 3) := by decide +kernel
theorem dX1_dropFromAll_13 : decode cX1_dropFromAll 13 = .ok (.if_icmp .ge 19, 3) := by decide +kernel
theorem dX1_dropFromAll_16 : decode cX1_dropFromAll 16 = .ok (.aload_n 0, 1) := by decide +kernel
theorem dX1_dropFromAll_17 : decode cX1_dropFromAll 17 = .ok (.getfield 11, 3) := by decide +kernel
theorem dX1_dropFromAll_20 : decode cX1_dropFromAll 20 = .ok (.iload_n 2, 1) := by decide +kernel
theorem dX1_dropFromAll_21 : decode cX1_dropFromAll 21 = .ok (.aaload, 1) := by decide +kernel
theorem dX1_dropFromAll_22 : decode cX1_dropFromAll 22 = .ok (.iload_n 1, 1) := by decide +kernel
theorem dX1_dropFromAll_23 : decode cX1_dropFromAll 23 = .ok (.invokevirtual 115, 3) := by decide +kernel
theorem dX1_dropFromAll_26 : decode cX1_dropFromAll 26 = .ok (.iinc 2 1, 3) := by decide +kernel
theorem dX1_dropFromAll_29 : decode cX1_dropFromAll 29 = .ok (.goto (-27), 3) := by decide +kernel
theorem dX1_dropFromAll_32 : decode cX1_dropFromAll 32 = .ok (.return_, 1) := by decide +kernel
theorem dX2_init_0 : decode cX2_init 0 = .ok (.aload_n 0, 1) := by decide +kernel
theorem dX2_init_1 : decode cX2_init 1 = .ok (.invokespecial 3, 3) := by decide +kernel
theorem dX2_init_4 : decode cX2_init 4 = .ok (.aload_n 0, 1) := by decide +kernel
theorem dX2_init_5 : decode cX2_init 5 = .ok (.iconst 4, 1) := by decide +kernel
theorem dX2_init_6 : decode cX2_init 6 = .ok (.newarray .boolean, 2) := by decide +kernel
theorem dX2_init_8 : decode cX2_init 8 = .ok (.putfield 9, 3) := by decide +kernel
theorem dX2_init_11 : decode cX2_init 11 = .ok (.aload_n 0, 1) := by decide +kernel
theorem dX2_init_12 : decode cX2_init 12 = .ok (.iconst 4, 1) := by decide +kernel
theorem dX2_init_13 : decode cX2_init 13 = .ok (.newarray .int, 2) := by decide +kernel
theorem dX2_init_15 : decode cX2_init 15 = .ok (.putfield 15, 3) := by decide +kernel
theorem dX2_init_18 : decode cX2_init 18 = .ok (.aload_n 0, 1) := by decide +kernel
theorem dX2_init_19 : decode cX2_init 19 = .ok (.iconst 4, 1) := by decide +kernel
theorem dX2_init_20 : decode cX2_init 20 = .ok (.newarray .int, 2) := by decide +kernel
theorem dX2_init_22 : decode cX2_init 22 = .ok (.putfield 19, 3) := by decide +kernel
theorem dX2_init_25 : decode cX2_init 25 = .ok (.aload_n 0, 1) := by decide +kernel
theorem dX2_init_26 : decode cX2_init 26 = .ok (.iconst 4, 1) := by decide +kernel
theorem dX2_init_27 : decode cX2_init 27 = .ok (.newarray .int, 2) := by decide +kernel
theorem dX2_init_29 : decode cX2_init 29 = .ok (.putfield 22, 3) := by decide +kernel
theorem dX2_init_32 : decode cX2_init 32 = .ok (.aload_n 0, 1) := by decide +kernel
theorem dX2_init_33 : decode cX2_init 33 = .ok (.iconst 4, 1) := by decide +kernel
theorem dX2_init_34 : decode cX2_init 34 = .ok (.newarray .int, 2) := by decide +kernel
theorem dX2_init_36 : decode cX2_init 36 = .ok (.putfield 25, 3) := by decide +kernel
theorem dX2_init_39 : decode cX2_init 39 = .ok (.aload_n 0, 1) := by decide +kernel
theorem dX2_init_40 : decode cX2_init 40 = .ok (.bipush 16, 2) := by decide +kernel
theorem dX2_init_42 : decode cX2_init 42 = .ok (.newarray .int, 2) := by decide +kernel
theorem dX2_init_44 : decode cX2_init 44 = .ok (.putfield 28, 3) := by decide +kernel
theorem dX2_init_47 : decode cX2_init 47 = .ok (.aload_n 0, 1) := by decide +kernel
theorem dX2_init_48 : decode cX2_init 48 = .ok (.iconst 4, 1) := by decide +kernel
theorem dX2_init_49 : decode cX2_init 49 = .ok (.newarray .int, 2) := by decide +kernel
theorem dX2_init_51 : decode cX2_init 51 = .ok (.putfield 31, 3) := by decide +kernel
theorem dX2_init_54 : decode cX2_init 54 = .ok (.aload_n 0, 1) := by decide +kernel
theorem dX2_init_55 : decode cX2_init 55 = .ok (.iconst 4, 1) := by decide +kernel
theorem dX2_init_56 : decode cX2_init 56 = .ok (.newarray .int, 2) := by decide +kernel
theorem dX2_init_58 : decode cX2_init 58 = .ok (.dup, 1) := by decide +kernel
theorem dX2_init_59 : decode cX2_init 59 = .ok (.iconst 0, 1) := by decide +kernel
theorem dX2_init_60 : decode cX2_init 60 = .ok (.sipush 1000, 3) := by decide +kernel
theorem dX2_init_63 : decode cX2_init 63 = .ok (.iastore, 1) := by decide +kernel
theorem dX2_init_64 : decode cX2_init 64 = .ok (.dup, 1) := by decide +kernel
theorem dX2_init_65 : decode cX2_init 65 = .ok (.iconst 1, 1) := by decide +kernel
theorem dX2_init_66 : decode cX2_init 66 = .ok (.sipush 1000, 3) := by decide +kernel
theorem dX2_init_69 : decode cX2_init 69 = .ok (.iastore, 1) := by decide +kernel
theorem dX2_init_70 : decode cX2_init 70 = .ok (.dup, 1) := by decide +kernel
theorem dX2_init_71 : decode cX2_init 71 = .ok (.iconst 2, 1) := by decide +kernel
theorem dX2_init_72 : decode cX2_init 72 = .ok (.sipush 1000, 3) := by decide +kernel
theorem dX2_init_75 : decode cX2_init 75 = .ok (.iastore, 1) := by decide +kernel
theorem dX2_init_76 : decode cX2_init 76 = .ok (.dup, 1) := by decide +kernel
theorem dX2_init_77 : decode cX2_init 77 = .ok (.iconst 3, 1) := by decide +kernel
theorem dX2_init_78 : decode cX2_init 78 = .ok (.sipush 1000, 3) := by decide +kernel
theorem dX2_init_81 : decode cX2_init 81 = .ok (.iastore, 1) := by decide +kernel
theorem dX2_init_82 : decode cX2_init 82 = .ok (.putfield 34, 3) := by decide +kernel
theorem dX2_init_85 : decode cX2_init 85 = .ok (.return_, 1) := by decide +kernel
theorem dX2_tell_0 : decode cX2_tell 0 = .ok (.aload_n 0, 1) := by decide +kernel
theorem dX2_tell_1 : decode cX2_tell 1 = .ok (.getfield 9, 3) := by decide +kernel
theorem dX2_tell_4 : decode cX2_tell 4 = .ok (.iload_n 1, 1) := by decide +kernel
theorem dX2_tell_5 : decode cX2_tell 5 = .ok (.baload, 1) := by decide +kernel
theorem dX2_tell_6 : decode cX2_tell 6 = .ok (.ifCond .ne 7, 3) := by decide +kernel
theorem dX2_tell_9 : decode cX2_tell 9 = .ok (.iconst 1, 1) := by decide +kernel
theorem dX2_tell_10 : decode cX2_tell 10 = .ok (.goto 4, 3) := by decide +kernel
theorem dX2_tell_13 : decode cX2_tell 13 = .ok (.iconst 0, 1) := by decide +kernel
theorem dX2_tell_14 : decode cX2_tell 14 = .ok (.istore 6, 2) := by decide +kernel
theorem dX2_tell_16 : decode cX2_tell 16 = .ok (.aload_n 0, 1) := by decide +kernel
theorem dX2_tell_17 : decode cX2_tell 17 = .ok (.getfield 9, 3) := by decide +kernel
theorem dX2_tell_20 : decode cX2_tell 20 = .ok (.iload_n 1, 1) := by decide +kernel
theorem dX2_tell_21 : decode cX2_tell 21 = .ok (.iconst 1, 1) := by decide +kernel
theorem dX2_tell_22 : decode cX2_tell 22 = .ok (.bastore, 1) := by decide +kernel
theorem dX2_tell_23 : decode cX2_tell 23 = .ok (.aload_n 0, 1) := by decide +kernel
theorem dX2_tell_24 : decode cX2_tell 24 = .ok (.getfield 15, 3) := by decide +kernel
theorem dX2_tell_27 : decode cX2_tell 27 = .ok (.iload_n 1, 1) := by decide +kernel
theorem dX2_tell_28 : decode cX2_tell 28 = .ok (.iload_n 2, 1) := by decide +kernel
theorem dX2_tell_29 : decode cX2_tell 29 = .ok (.iastore, 1) := by decide +kernel
theorem dX2_tell_30 : decode cX2_tell 30 = .ok (.aload_n 0, 1) := by decide +kernel
theorem dX2_tell_31 : decode cX2_tell 31 = .ok (.getfield 19, 3) := by decide +kernel
theorem dX2_tell_34 : decode cX2_tell 34 = .ok (.iload_n 1, 1) := by decide +kernel
theorem dX2_tell_35 : decode cX2_tell 35 = .ok (.iload_n 3, 1) := by decide +kernel
theorem dX2_tell_36 : decode cX2_tell 36 = .ok (.iastore, 1) := by decide +kernel
theorem dX2_tell_37 : decode cX2_tell 37 = .ok (.aload_n 0, 1) := by decide +kernel
theorem dX2_tell_38 : decode cX2_tell 38 = .ok (.getfield 22, 3) := by decide +kernel
theorem dX2_tell_41 : decode cX2_tell 41 = .ok (.iload_n 1, 1) := by decide +kernel
theorem dX2_tell_42 : decode cX2_tell 42 = .ok (.iload 4, 2) := by decide +kernel
theorem dX2_tell_44 : decode cX2_tell 44 = .ok (.iastore, 1) := by decide +kernel
theorem dX2_tell_45 : decode cX2_tell 45 = .ok (.aload_n 0, 1) := by decide +kernel
theorem dX2_tell_46 : decode cX2_tell 46 = .ok (.getfield 25, 3) := by decide +kernel
theorem dX2_tell_49 : decode cX2_tell 49 = .ok (.iload_n 1, 1) := by decide +kernel
theorem dX2_tell_50 : decode cX2_tell 50 = .ok (.iload 5, 2) := by decide +kernel
theorem dX2_tell_52 : decode cX2_tell 52 = .ok (.iastore, 1) := by decide +kernel
theorem dX2_tell_53 : decode cX2_tell 53 = .ok (.iload 6, 2) := by decide +kernel
theorem dX2_tell_55 : decode cX2_tell 55 = .ok (.ireturn, 1) := by decide +kernel
theorem dX2_size_0 : decode cX2_size 0 = .ok (.iconst 0, 1) := by decide +kernel
theorem dX2_size_1 : decode cX2_size 1 = .ok (.istore_n 1, 1) := by decide +kernel
theorem dX2_size_2 : decode cX2_size 2 = .ok (.iconst 0, 1) := by decide +kernel
theorem dX2_size_3 : decode cX2_size 3 = .ok (.istore_n 2, 1) := by decide +kernel
theorem dX2_size_4 : decode cX2_size 4 = .ok (.iload_n 2, 1) := by decide +kernel
theorem dX2_size_5 : decode cX2_size 5 = .ok (.iconst 4, 1) := by decide +kernel
theorem dX2_size_6 : decode cX2_size 6 = .ok (.if_icmp .ge 26, 3) := by decide +kernel
theorem dX2_size_9 : decode cX2_size 9 = .ok (.iload_n 1, 1) := by decide +kernel
theorem dX2_size_10 : decode cX2_size 10 = .ok (.aload_n 0, 1) := by decide +kernel
theorem dX2_size_11 : decode cX2_size 11 = .ok (.getfield 9, 3) := by decide +kernel
theorem dX2_size_14 : decode cX2_size 14 = .ok (.iload_n 2, 1) := by decide +kernel
theorem dX2_size_15 : decode cX2_size 15 = .ok (.baload, 1) := by decide +kernel
theorem dX2_size_16 : decode cX2_size 16 = .ok (.ifCond .eq 7, 3) := by decide +kernel
theorem dX2_size_19 : decode cX2_size 19 = .ok (.iconst 1, 1) := by decide +kernel
theorem dX2_size_20 : decode cX2_size 20 = .ok (.goto 4, 3) := by decide +kernel
theorem dX2_size_23 : decode cX2_size 23 = .ok (.iconst 0, 1) := by decide +kernel
theorem dX2_size_24 : decode cX2_size 24 = .ok (.iadd, 1) := by decide +kernel
theorem dX2_size_25 : decode cX2_size 25 = .ok (.istore_n 1, 1) := by decide +kernel
theorem dX2_size_26 : decode cX2_size 26 = .ok (.iinc 2 1, 3) := by decide +kernel
theorem dX2_size_29 : decode cX2_size 29 = .ok (.goto (-25), 3) := by decide +kernel
theorem dX2_size_32 : decode cX2_size 32 = .ok (.iload_n 1, 1) := by decide +kernel
theorem dX2_size_33 : decode cX2_size 33 = .ok (.ireturn, 1) := by decide +kernel
theorem dX2_rhythmOf_0 : decode cX2_rhythmOf 0 = .ok (.aload_n 0, 1) := by decide +kernel
theorem dX2_rhythmOf_1 : decode cX2_rhythmOf 1 = .ok (.getfield 19, 3) := by decide +kernel
theorem dX2_rhythmOf_4 : decode cX2_rhythmOf 4 = .ok (.iload_n 2, 1) := by decide +kernel
theorem dX2_rhythmOf_5 : decode cX2_rhythmOf 5 = .ok (.iaload, 1) := by decide +kernel
theorem dX2_rhythmOf_6 : decode cX2_rhythmOf 6 = .ok (.i2l, 1) := by decide +kernel
theorem dX2_rhythmOf_7 : decode cX2_rhythmOf 7 = .ok (.aload_n 0, 1) := by decide +kernel
theorem dX2_rhythmOf_8 : decode cX2_rhythmOf 8 = .ok (.getfield 19, 3) := by decide +kernel
theorem dX2_rhythmOf_11 : decode cX2_rhythmOf 11 = .ok (.iload_n 3, 1) := by decide +kernel
theorem dX2_rhythmOf_12 : decode cX2_rhythmOf 12 = .ok (.iaload, 1) := by decide +kernel
theorem dX2_rhythmOf_13 : decode cX2_rhythmOf 13 = .ok (.i2l, 1) := by decide +kernel
theorem dX2_rhythmOf_14 : decode cX2_rhythmOf 14 = .ok (.lmul, 1) := by decide +kernel
theorem dX2_rhythmOf_15 : decode cX2_rhythmOf 15 = .ok (.lstore 4, 2) := by decide +kernel
theorem dX2_rhythmOf_17 : decode cX2_rhythmOf 17 = .ok (.aload_n 0, 1) := by decide +kernel
theorem dX2_rhythmOf_18 : decode cX2_rhythmOf 18 = .ok (.getfield 19, 3) := by decide +kernel
theorem dX2_rhythmOf_21 : decode cX2_rhythmOf 21 = .ok (.iload_n 1, 1) := by decide +kernel
theorem dX2_rhythmOf_22 : decode cX2_rhythmOf 22 = .ok (.iaload, 1) := by decide +kernel
theorem dX2_rhythmOf_23 : decode cX2_rhythmOf 23 = .ok (.i2l, 1) := by decide +kernel
theorem dX2_rhythmOf_24 : decode cX2_rhythmOf 24 = .ok (.aload_n 0, 1) := by decide +kernel
theorem dX2_rhythmOf_25 : decode cX2_rhythmOf 25 = .ok (.getfield 19, 3) := by decide +kernel
theorem dX2_rhythmOf_28 : decode cX2_rhythmOf 28 = .ok (.iload_n 3, 1) := by decide +kernel
theorem dX2_rhythmOf_29 : decode cX2_rhythmOf 29 = .ok (.iaload, 1) := by decide +kernel
theorem dX2_rhythmOf_30 : decode cX2_rhythmOf 30 = .ok (.i2l, 1) := by decide +kernel
theorem dX2_rhythmOf_31 : decode cX2_rhythmOf 31 = .ok (.lmul, 1) := by decide +kernel
theorem dX2_rhythmOf_32 : decode cX2_rhythmOf 32 = .ok (.lstore 6, 2) := by decide +kernel
theorem dX2_rhythmOf_34 : decode cX2_rhythmOf 34 = .ok (.aload_n 0, 1) := by decide +kernel
theorem dX2_rhythmOf_35 : decode cX2_rhythmOf 35 = .ok (.getfield 19, 3) := by decide +kernel
theorem dX2_rhythmOf_38 : decode cX2_rhythmOf 38 = .ok (.iload_n 1, 1) := by decide +kernel
theorem dX2_rhythmOf_39 : decode cX2_rhythmOf 39 = .ok (.iaload, 1) := by decide +kernel
theorem dX2_rhythmOf_40 : decode cX2_rhythmOf 40 = .ok (.i2l, 1) := by decide +kernel
theorem dX2_rhythmOf_41 : decode cX2_rhythmOf 41 = .ok (.aload_n 0, 1) := by decide +kernel
theorem dX2_rhythmOf_42 : decode cX2_rhythmOf 42 = .ok (.getfield 19, 3) := by decide +kernel
theorem dX2_rhythmOf_45 : decode cX2_rhythmOf 45 = .ok (.iload_n 2, 1) := by decide +kernel
theorem dX2_rhythmOf_46 : decode cX2_rhythmOf 46 = .ok (.iaload, 1) := by decide +kernel
theorem dX2_rhythmOf_47 : decode cX2_rhythmOf 47 = .ok (.i2l, 1) := by decide +kernel
theorem dX2_rhythmOf_48 : decode cX2_rhythmOf 48 = .ok (.lmul, 1) := by decide +kernel
theorem dX2_rhythmOf_49 : decode cX2_rhythmOf 49 = .ok (.lstore 8, 2) := by decide +kernel
theorem dX2_rhythmOf_51 : decode cX2_rhythmOf 51 = .ok (.ldc2_w 37, 3) := by decide +kernel
theorem dX2_rhythmOf_54 : decode cX2_rhythmOf 54 = .ok (.lstore 10, 2) := by decide +kernel
theorem dX2_rhythmOf_56 : decode cX2_rhythmOf 56 = .ok (.iconst 0, 1) := by decide +kernel
theorem dX2_rhythmOf_57 : decode cX2_rhythmOf 57 = .ok (.istore 12, 2) := by decide +kernel
theorem dX2_rhythmOf_59 : decode cX2_rhythmOf 59 = .ok (.iconst 0, 1) := by decide +kernel
theorem dX2_rhythmOf_60 : decode cX2_rhythmOf 60 = .ok (.istore 13, 2) := by decide +kernel
theorem dX2_rhythmOf_62 : decode cX2_rhythmOf 62 = .ok (.iload 13, 2) := by decide +kernel
theorem dX2_rhythmOf_64 : decode cX2_rhythmOf 64 = .ok (.sipush 343, 3) := by decide +kernel
theorem dX2_rhythmOf_67 : decode cX2_rhythmOf 67 = .ok (.if_icmp .ge 151, 3) := by decide +kernel
theorem dX2_rhythmOf_70 : decode cX2_rhythmOf 70 = .ok (.iload 13, 2) := by decide +kernel
theorem dX2_rhythmOf_72 : decode cX2_rhythmOf 72 = .ok (.bipush 49, 2) := by decide +kernel
theorem dX2_rhythmOf_74 : decode cX2_rhythmOf 74 = .ok (.idiv, 1) := by decide +kernel
theorem dX2_rhythmOf_75 : decode cX2_rhythmOf 75 = .ok (.iconst 3, 1) := by decide +kernel
theorem dX2_rhythmOf_76 : decode cX2_rhythmOf 76 = .ok (.isub, 1) := by decide +kernel
theorem dX2_rhythmOf_77 : decode cX2_rhythmOf 77 = .ok (.istore 14, 2) := by decide +kernel
theorem dX2_rhythmOf_79 : decode cX2_rhythmOf 79 = .ok (.iload 13, 2) := by decide +kernel
theorem dX2_rhythmOf_81 : decode cX2_rhythmOf 81 = .ok (.bipush 7, 2) := by decide +kernel
theorem dX2_rhythmOf_83 : decode cX2_rhythmOf 83 = .ok (.idiv, 1) := by decide +kernel
theorem dX2_rhythmOf_84 : decode cX2_rhythmOf 84 = .ok (.bipush 7, 2) := by decide +kernel
theorem dX2_rhythmOf_86 : decode cX2_rhythmOf 86 = .ok (.irem, 1) := by decide +kernel
theorem dX2_rhythmOf_87 : decode cX2_rhythmOf 87 = .ok (.iconst 3, 1) := by decide +kernel
theorem dX2_rhythmOf_88 : decode cX2_rhythmOf 88 = .ok (.isub, 1) := by decide +kernel
theorem dX2_rhythmOf_89 : decode cX2_rhythmOf 89 = .ok (.istore 15, 2) := by decide +kernel
theorem dX2_rhythmOf_91 : decode cX2_rhythmOf 91 = .ok (.iload 13, 2) := by decide +kernel
theorem dX2_rhythmOf_93 : decode cX2_rhythmOf 93 = .ok (.bipush 7, 2) := by decide +kernel
theorem dX2_rhythmOf_95 : decode cX2_rhythmOf 95 = .ok (.irem, 1) := by decide +kernel
theorem dX2_rhythmOf_96 : decode cX2_rhythmOf 96 = .ok (.iconst 3, 1) := by decide +kernel
theorem dX2_rhythmOf_97 : decode cX2_rhythmOf 97 = .ok (.isub, 1) := by decide +kernel
theorem dX2_rhythmOf_98 : decode cX2_rhythmOf 98 = .ok (.istore 16, 2) := by decide +kernel
theorem dX2_rhythmOf_100 : decode cX2_rhythmOf 100 = .ok (.iload 14, 2) := by decide +kernel
theorem dX2_rhythmOf_102 : decode cX2_rhythmOf 102 = .ok (.ifCond .eq 16, 3) := by decide +kernel
theorem dX2_rhythmOf_105 : decode cX2_rhythmOf 105 = .ok (.iload 14, 2) := by decide +kernel
theorem dX2_rhythmOf_107 : decode cX2_rhythmOf 107 = .ok (.ifCond .le 7, 3) := by decide +kernel
theorem dX2_rhythmOf_110 : decode cX2_rhythmOf 110 = .ok (.iconst 1, 1) := by decide +kernel
theorem dX2_rhythmOf_111 : decode cX2_rhythmOf 111 = .ok (.goto 35, 3) := by decide +kernel
theorem dX2_rhythmOf_114 : decode cX2_rhythmOf 114 = .ok (.iconst 0, 1) := by decide +kernel
theorem dX2_rhythmOf_115 : decode cX2_rhythmOf 115 = .ok (.goto 31, 3) := by decide +kernel
theorem dX2_rhythmOf_118 : decode cX2_rhythmOf 118 = .ok (.iload 15, 2) := by decide +kernel
theorem dX2_rhythmOf_120 : decode cX2_rhythmOf 120 = .ok (.ifCond .eq 16, 3) := by decide +kernel
theorem dX2_rhythmOf_123 : decode cX2_rhythmOf 123 = .ok (.iload 15, 2) := by decide +kernel
theorem dX2_rhythmOf_125 : decode cX2_rhythmOf 125 = .ok (.ifCond .le 7, 3) := by decide +kernel
theorem dX2_rhythmOf_128 : decode cX2_rhythmOf 128 = .ok (.iconst 1, 1) := by decide +kernel
theorem dX2_rhythmOf_129 : decode cX2_rhythmOf 129 = .ok (.goto 17, 3) := by decide +kernel
theorem dX2_rhythmOf_132 : decode cX2_rhythmOf 132 = .ok (.iconst 0, 1) := by decide +kernel
theorem dX2_rhythmOf_133 : decode cX2_rhythmOf 133 = .ok (.goto 13, 3) := by decide +kernel
theorem dX2_rhythmOf_136 : decode cX2_rhythmOf 136 = .ok (.iload 16, 2) := by decide +kernel
theorem dX2_rhythmOf_138 : decode cX2_rhythmOf 138 = .ok (.ifCond .le 7, 3) := by decide +kernel
theorem dX2_rhythmOf_141 : decode cX2_rhythmOf 141 = .ok (.iconst 1, 1) := by decide +kernel
theorem dX2_rhythmOf_142 : decode cX2_rhythmOf 142 = .ok (.goto 4, 3) := by decide +kernel
theorem dX2_rhythmOf_145 : decode cX2_rhythmOf 145 = .ok (.iconst 0, 1) := by decide +kernel
theorem dX2_rhythmOf_146 : decode cX2_rhythmOf 146 = .ok (.istore 17, 2) := by decide +kernel
theorem dX2_rhythmOf_148 : decode cX2_rhythmOf 148 = .ok (.iload 14, 2) := by decide +kernel
theorem dX2_rhythmOf_150 : decode cX2_rhythmOf 150 = .ok (.i2l, 1) := by decide +kernel
theorem dX2_rhythmOf_151 : decode cX2_rhythmOf 151 = .ok (.lload 4, 2) := by decide +kernel
theorem dX2_rhythmOf_153 : decode cX2_rhythmOf 153 = .ok (.lmul, 1) := by decide +kernel
theorem dX2_rhythmOf_154 : decode cX2_rhythmOf 154 = .ok (.iload 15, 2) := by decide +kernel
theorem dX2_rhythmOf_156 : decode cX2_rhythmOf 156 = .ok (.i2l, 1) := by decide +kernel
theorem dX2_rhythmOf_157 : decode cX2_rhythmOf 157 = .ok (.lload 6, 2) := by decide +kernel
theorem dX2_rhythmOf_159 : decode cX2_rhythmOf 159 = .ok (.lmul, 1) := by decide +kernel
theorem dX2_rhythmOf_160 : decode cX2_rhythmOf 160 = .ok (.ladd, 1) := by decide +kernel
theorem dX2_rhythmOf_161 : decode cX2_rhythmOf 161 = .ok (.iload 16, 2) := by decide +kernel
theorem dX2_rhythmOf_163 : decode cX2_rhythmOf 163 = .ok (.i2l, 1) := by decide +kernel
theorem dX2_rhythmOf_164 : decode cX2_rhythmOf 164 = .ok (.lload 8, 2) := by decide +kernel
theorem dX2_rhythmOf_166 : decode cX2_rhythmOf 166 = .ok (.lmul, 1) := by decide +kernel
theorem dX2_rhythmOf_167 : decode cX2_rhythmOf 167 = .ok (.ladd, 1) := by decide +kernel
theorem dX2_rhythmOf_168 : decode cX2_rhythmOf 168 = .ok (.invokestatic 39, 3) := by decide +kernel
theorem dX2_rhythmOf_171 : decode cX2_rhythmOf 171 = .ok (.lstore 18, 2) := by decide +kernel
theorem dX2_rhythmOf_173 : decode cX2_rhythmOf 173 = .ok (.iload 17, 2) := by decide +kernel
theorem dX2_rhythmOf_175 : decode cX2_rhythmOf 175 = .ok (.ifCond .eq 37, 3) := by decide +kernel
theorem dX2_rhythmOf_178 : decode cX2_rhythmOf 178 = .ok (.lload 18, 2) := by decide +kernel
theorem dX2_rhythmOf_180 : decode cX2_rhythmOf 180 = .ok (.lload 10, 2) := by decide +kernel
theorem dX2_rhythmOf_182 : decode cX2_rhythmOf 182 = .ok (.lcmp, 1) := by decide +kernel
theorem dX2_rhythmOf_183 : decode cX2_rhythmOf 183 = .ok (.ifCond .ge 29, 3) := by decide +kernel
theorem dX2_rhythmOf_186 : decode cX2_rhythmOf 186 = .ok (.lload 18, 2) := by decide +kernel
theorem dX2_rhythmOf_188 : decode cX2_rhythmOf 188 = .ok (.lstore 10, 2) := by decide +kernel
theorem dX2_rhythmOf_190 : decode cX2_rhythmOf 190 = .ok (.bipush 100, 2) := by decide +kernel
theorem dX2_rhythmOf_192 : decode cX2_rhythmOf 192 = .ok (.iload 14, 2) := by decide +kernel
theorem dX2_rhythmOf_194 : decode cX2_rhythmOf 194 = .ok (.iconst 3, 1) := by decide +kernel
theorem dX2_rhythmOf_195 : decode cX2_rhythmOf 195 = .ok (.iadd, 1) := by decide +kernel
theorem dX2_rhythmOf_196 : decode cX2_rhythmOf 196 = .ok (.imul, 1) := by decide +kernel
theorem dX2_rhythmOf_197 : decode cX2_rhythmOf 197 = .ok (.bipush 10, 2) := by decide +kernel
theorem dX2_rhythmOf_199 : decode cX2_rhythmOf 199 = .ok (.iload 15, 2) := by decide +kernel
theorem dX2_rhythmOf_201 : decode cX2_rhythmOf 201 = .ok (.iconst 3, 1) := by decide +kernel
theorem dX2_rhythmOf_202 : decode cX2_rhythmOf 202 = .ok (.iadd, 1) := by decide +kernel
theorem dX2_rhythmOf_203 : decode cX2_rhythmOf 203 = .ok (.imul, 1) := by decide +kernel
theorem dX2_rhythmOf_204 : decode cX2_rhythmOf 204 = .ok (.iadd, 1) := by decide +kernel
theorem dX2_rhythmOf_205 : decode cX2_rhythmOf 205 = .ok (.iload 16, 2) := by decide +kernel
theorem dX2_rhythmOf_207 : decode cX2_rhythmOf 207 = .ok (.iadd, 1) := by decide +kernel
theorem dX2_rhythmOf_208 : decode cX2_rhythmOf 208 = .ok (.iconst 3, 1) := by decide +kernel
theorem dX2_rhythmOf_209 : decode cX2_rhythmOf 209 = .ok (.iadd, 1) := by decide +kernel
theorem dX2_rhythmOf_210 : decode cX2_rhythmOf 210 = .ok (.istore 12, 2) := by decide +kernel
theorem dX2_rhythmOf_212 : decode cX2_rhythmOf 212 = .ok (.iinc 13 1, 3) := by decide +kernel
theorem dX2_rhythmOf_215 : decode cX2_rhythmOf 215 = .ok (.goto (-153), 3) := by decide +kernel
theorem dX2_rhythmOf_218 : decode cX2_rhythmOf 218 = .ok (.iload 12, 2) := by decide +kernel
theorem dX2_rhythmOf_220 : decode cX2_rhythmOf 220 = .ok (.ireturn, 1) := by decide +kernel
theorem dX2_copyFrom_0 : decode cX2_copyFrom 0 = .ok (.iconst 0, 1) := by decide +kernel
theorem dX2_copyFrom_1 : decode cX2_copyFrom 1 = .ok (.istore_n 2, 1) := by decide +kernel
theorem dX2_copyFrom_2 : decode cX2_copyFrom 2 = .ok (.iload_n 2, 1) := by decide +kernel
theorem dX2_copyFrom_3 : decode cX2_copyFrom 3 = .ok (.iconst 4, 1) := by decide +kernel
theorem dX2_copyFrom_4 : decode cX2_copyFrom 4 = .ok (.if_icmp .ge 21, 3) := by decide +kernel
theorem dX2_copyFrom_7 : decode cX2_copyFrom 7 = .ok (.aload_n 0, 1) := by decide +kernel
theorem dX2_copyFrom_8 : decode cX2_copyFrom 8 = .ok (.getfield 9, 3) := by decide +kernel
theorem dX2_copyFrom_11 : decode cX2_copyFrom 11 = .ok (.iload_n 2, 1) := by decide +kernel
theorem dX2_copyFrom_12 : decode cX2_copyFrom 12 = .ok (.aload_n 1, 1) := by decide +kernel
theorem dX2_copyFrom_13 : decode cX2_copyFrom 13 = .ok (.getfield 9, 3) := by decide +kernel
theorem dX2_copyFrom_16 : decode cX2_copyFrom 16 = .ok (.iload_n 2, 1) := by decide +kernel
theorem dX2_copyFrom_17 : decode cX2_copyFrom 17 = .ok (.baload, 1) := by decide +kernel
theorem dX2_copyFrom_18 : decode cX2_copyFrom 18 = .ok (.bastore, 1) := by decide +kernel
theorem dX2_copyFrom_19 : decode cX2_copyFrom 19 = .ok (.iinc 2 1, 3) := by decide +kernel
theorem dX2_copyFrom_22 : decode cX2_copyFrom 22 = .ok (.goto (-20), 3) := by decide +kernel
theorem dX2_copyFrom_25 : decode cX2_copyFrom 25 = .ok (.aload_n 1, 1) := by decide +kernel
theorem dX2_copyFrom_26 : decode cX2_copyFrom 26 = .ok (.getfield 15, 3) := by decide +kernel
theorem dX2_copyFrom_29 : decode cX2_copyFrom 29 = .ok (.aload_n 0, 1) := by decide +kernel
theorem dX2_copyFrom_30 : decode cX2_copyFrom 30 = .ok (.getfield 15, 3) := by decide +kernel
theorem dX2_copyFrom_33 : decode cX2_copyFrom 33 = .ok (.invokestatic 45, 3) := by decide +kernel
theorem dX2_copyFrom_36 : decode cX2_copyFrom 36 = .ok (.aload_n 1, 1) := by decide +kernel
theorem dX2_copyFrom_37 : decode cX2_copyFrom 37 = .ok (.getfield 19, 3) := by decide +kernel
theorem dX2_copyFrom_40 : decode cX2_copyFrom 40 = .ok (.aload_n 0, 1) := by decide +kernel
theorem dX2_copyFrom_41 : decode cX2_copyFrom 41 = .ok (.getfield 19, 3) := by decide +kernel
theorem dX2_copyFrom_44 : decode cX2_copyFrom 44 = .ok (.invokestatic 45, 3) := by decide +kernel
theorem dX2_copyFrom_47 : decode cX2_copyFrom 47 = .ok (.aload_n 1, 1) := by decide +kernel
theorem dX2_copyFrom_48 : decode cX2_copyFrom 48 = .ok (.getfield 22, 3) := by decide +kernel
theorem dX2_copyFrom_51 : decode cX2_copyFrom 51 = .ok (.aload_n 0, 1) := by decide +kernel
theorem dX2_copyFrom_52 : decode cX2_copyFrom 52 = .ok (.getfield 22, 3) := by decide +kernel
theorem dX2_copyFrom_55 : decode cX2_copyFrom 55 = .ok (.invokestatic 45, 3) := by decide +kernel
theorem dX2_copyFrom_58 : decode cX2_copyFrom 58 = .ok (.aload_n 1, 1) := by decide +kernel
theorem dX2_copyFrom_59 : decode cX2_copyFrom 59 = .ok (.getfield 25, 3) := by decide +kernel
theorem dX2_copyFrom_62 : decode cX2_copyFrom 62 = .ok (.aload_n 0, 1) := by decide +kernel
theorem dX2_copyFrom_63 : decode cX2_copyFrom 63 = .ok (.getfield 25, 3) := by decide +kernel
theorem dX2_copyFrom_66 : decode cX2_copyFrom 66 = .ok (.invokestatic 45, 3) := by decide +kernel
theorem dX2_copyFrom_69 : decode cX2_copyFrom 69 = .ok (.aload_n 1, 1) := by decide +kernel
theorem dX2_copyFrom_70 : decode cX2_copyFrom 70 = .ok (.getfield 28, 3) := by decide +kernel
theorem dX2_copyFrom_73 : decode cX2_copyFrom 73 = .ok (.aload_n 0, 1) := by decide +kernel
theorem dX2_copyFrom_74 : decode cX2_copyFrom 74 = .ok (.getfield 28, 3) := by decide +kernel
theorem dX2_copyFrom_77 : decode cX2_copyFrom 77 = .ok (.invokestatic 45, 3) := by decide +kernel
theorem dX2_copyFrom_80 : decode cX2_copyFrom 80 = .ok (.aload_n 1, 1) := by decide +kernel
theorem dX2_copyFrom_81 : decode cX2_copyFrom 81 = .ok (.getfield 31, 3) := by decide +kernel
theorem dX2_copyFrom_84 : decode cX2_copyFrom 84 = .ok (.aload_n 0, 1) := by decide +kernel
theorem dX2_copyFrom_85 : decode cX2_copyFrom 85 = .ok (.getfield 31, 3) := by decide +kernel
theorem dX2_copyFrom_88 : decode cX2_copyFrom 88 = .ok (.invokestatic 45, 3) := by decide +kernel
theorem dX2_copyFrom_91 : decode cX2_copyFrom 91 = .ok (.aload_n 1, 1) := by decide +kernel
theorem dX2_copyFrom_92 : decode cX2_copyFrom 92 = .ok (.getfield 34, 3) := by decide +kernel
theorem dX2_copyFrom_95 : decode cX2_copyFrom 95 = .ok (.aload_n 0, 1) := by decide +kernel
theorem dX2_copyFrom_96 : decode cX2_copyFrom 96 = .ok (.getfield 34, 3) := by decide +kernel
theorem dX2_copyFrom_99 : decode cX2_copyFrom 99 = .ok (.invokestatic 45, 3) := by decide +kernel
theorem dX2_copyFrom_102 : decode cX2_copyFrom 102 = .ok (.return_, 1) := by decide +kernel
theorem dX3_init_0 : decode cX3_init 0 = .ok (.aload_n 0, 1) := by decide +kernel
theorem dX3_init_1 : decode cX3_init 1 = .ok (.invokespecial 3, 3) := by decide +kernel
theorem dX3_init_4 : decode cX3_init 4 = .ok (.aload_n 0, 1) := by decide +kernel
theorem dX3_init_5 : decode cX3_init 5 = .ok (.bipush 40, 2) := by decide +kernel
theorem dX3_init_7 : decode cX3_init 7 = .ok (.newarray .int, 2) := by decide +kernel
theorem dX3_init_9 : decode cX3_init 9 = .ok (.putfield 9, 3) := by decide +kernel
theorem dX3_init_12 : decode cX3_init 12 = .ok (.aload_n 0, 1) := by decide +kernel
theorem dX3_init_13 : decode cX3_init 13 = .ok (.bipush 40, 2) := by decide +kernel
theorem dX3_init_15 : decode cX3_init 15 = .ok (.newarray .int, 2) := by decide +kernel
theorem dX3_init_17 : decode cX3_init 17 = .ok (.putfield 15, 3) := by decide +kernel
theorem dX3_init_20 : decode cX3_init 20 = .ok (.aload_n 0, 1) := by decide +kernel
theorem dX3_init_21 : decode cX3_init 21 = .ok (.bipush 40, 2) := by decide +kernel
theorem dX3_init_23 : decode cX3_init 23 = .ok (.newarray .int, 2) := by decide +kernel
theorem dX3_init_25 : decode cX3_init 25 = .ok (.putfield 18, 3) := by decide +kernel
theorem dX3_init_28 : decode cX3_init 28 = .ok (.aload_n 0, 1) := by decide +kernel
theorem dX3_init_29 : decode cX3_init 29 = .ok (.bipush 40, 2) := by decide +kernel
theorem dX3_init_31 : decode cX3_init 31 = .ok (.newarray .int, 2) := by decide +kernel
theorem dX3_init_33 : decode cX3_init 33 = .ok (.putfield 21, 3) := by decide +kernel
theorem dX3_init_36 : decode cX3_init 36 = .ok (.aload_n 0, 1) := by decide +kernel
theorem dX3_init_37 : decode cX3_init 37 = .ok (.bipush 40, 2) := by decide +kernel
theorem dX3_init_39 : decode cX3_init 39 = .ok (.newarray .int, 2) := by decide +kernel
theorem dX3_init_41 : decode cX3_init 41 = .ok (.putfield 24, 3) := by decide +kernel
theorem dX3_init_44 : decode cX3_init 44 = .ok (.aload_n 0, 1) := by decide +kernel
theorem dX3_init_45 : decode cX3_init 45 = .ok (.bipush 40, 2) := by decide +kernel
theorem dX3_init_47 : decode cX3_init 47 = .ok (.newarray .int, 2) := by decide +kernel
theorem dX3_init_49 : decode cX3_init 49 = .ok (.putfield 27, 3) := by decide +kernel
theorem dX3_init_52 : decode cX3_init 52 = .ok (.aload_n 0, 1) := by decide +kernel
theorem dX3_init_53 : decode cX3_init 53 = .ok (.bipush 40, 2) := by decide +kernel
theorem dX3_init_55 : decode cX3_init 55 = .ok (.newarray .int, 2) := by decide +kernel
theorem dX3_init_57 : decode cX3_init 57 = .ok (.putfield 30, 3) := by decide +kernel
theorem dX3_init_60 : decode cX3_init 60 = .ok (.aload_n 0, 1) := by decide +kernel
theorem dX3_init_61 : decode cX3_init 61 = .ok (.sipush 160, 3) := by decide +kernel
theorem dX3_init_64 : decode cX3_init 64 = .ok (.newarray .int, 2) := by decide +kernel
theorem dX3_init_66 : decode cX3_init 66 = .ok (.putfield 33, 3) := by decide +kernel
theorem dX3_init_69 : decode cX3_init 69 = .ok (.return_, 1) := by decide +kernel
theorem dX3_add_0 : decode cX3_add 0 = .ok (.aload_n 0, 1) := by decide +kernel
theorem dX3_add_1 : decode cX3_add 1 = .ok (.getfield 36, 3) := by decide +kernel
theorem dX3_add_4 : decode cX3_add 4 = .ok (.bipush 40, 2) := by decide +kernel
theorem dX3_add_6 : decode cX3_add 6 = .ok (.if_icmp .lt 4, 3) := by decide +kernel
theorem dX3_add_9 : decode cX3_add 9 = .ok (.return_, 1) := by decide +kernel
theorem dX3_add_10 : decode cX3_add 10 = .ok (.aload_n 0, 1) := by decide +kernel
theorem dX3_add_11 : decode cX3_add 11 = .ok (.getfield 9, 3) := by decide +kernel
theorem dX3_add_14 : decode cX3_add 14 = .ok (.aload_n 0, 1) := by decide +kernel
theorem dX3_add_15 : decode cX3_add 15 = .ok (.getfield 36, 3) := by decide +kernel
theorem dX3_add_18 : decode cX3_add 18 = .ok (.iload_n 1, 1) := by decide +kernel
theorem dX3_add_19 : decode cX3_add 19 = .ok (.iastore, 1) := by decide +kernel
theorem dX3_add_20 : decode cX3_add 20 = .ok (.aload_n 0, 1) := by decide +kernel
theorem dX3_add_21 : decode cX3_add 21 = .ok (.getfield 15, 3) := by decide +kernel
theorem dX3_add_24 : decode cX3_add 24 = .ok (.aload_n 0, 1) := by decide +kernel
theorem dX3_add_25 : decode cX3_add 25 = .ok (.getfield 36, 3) := by decide +kernel
theorem dX3_add_28 : decode cX3_add 28 = .ok (.iload_n 2, 1) := by decide +kernel
theorem dX3_add_29 : decode cX3_add 29 = .ok (.iastore, 1) := by decide +kernel
theorem dX3_add_30 : decode cX3_add 30 = .ok (.aload_n 0, 1) := by decide +kernel
theorem dX3_add_31 : decode cX3_add 31 = .ok (.getfield 18, 3) := by decide +kernel
theorem dX3_add_34 : decode cX3_add 34 = .ok (.aload_n 0, 1) := by decide +kernel
theorem dX3_add_35 : decode cX3_add 35 = .ok (.getfield 36, 3) := by decide +kernel
theorem dX3_add_38 : decode cX3_add 38 = .ok (.iload_n 3, 1) := by decide +kernel
theorem dX3_add_39 : decode cX3_add 39 = .ok (.iastore, 1) := by decide +kernel
theorem dX3_add_40 : decode cX3_add 40 = .ok (.aload_n 0, 1) := by decide +kernel
theorem dX3_add_41 : decode cX3_add 41 = .ok (.getfield 21, 3) := by decide +kernel
theorem dX3_add_44 : decode cX3_add 44 = .ok (.aload_n 0, 1) := by decide +kernel
theorem dX3_add_45 : decode cX3_add 45 = .ok (.getfield 36, 3) := by decide +kernel
theorem dX3_add_48 : decode cX3_add 48 = .ok (.iload 4, 2) := by decide +kernel
theorem dX3_add_50 : decode cX3_add 50 = .ok (.iastore, 1) := by decide +kernel
theorem dX3_add_51 : decode cX3_add 51 = .ok (.aload_n 0, 1) := by decide +kernel
theorem dX3_add_52 : decode cX3_add 52 = .ok (.getfield 24, 3) := by decide +kernel
theorem dX3_add_55 : decode cX3_add 55 = .ok (.aload_n 0, 1) := by decide +kernel
theorem dX3_add_56 : decode cX3_add 56 = .ok (.getfield 36, 3) := by decide +kernel
theorem dX3_add_59 : decode cX3_add 59 = .ok (.iload 5, 2) := by decide +kernel
theorem dX3_add_61 : decode cX3_add 61 = .ok (.iastore, 1) := by decide +kernel
theorem dX3_add_62 : decode cX3_add 62 = .ok (.aload_n 0, 1) := by decide +kernel
theorem dX3_add_63 : decode cX3_add 63 = .ok (.getfield 27, 3) := by decide +kernel
theorem dX3_add_66 : decode cX3_add 66 = .ok (.aload_n 0, 1) := by decide +kernel
theorem dX3_add_67 : decode cX3_add 67 = .ok (.getfield 36, 3) := by decide +kernel
theorem dX3_add_70 : decode cX3_add 70 = .ok (.iload 6, 2) := by decide +kernel
theorem dX3_add_72 : decode cX3_add 72 = .ok (.iastore, 1) := by decide +kernel
theorem dX3_add_73 : decode cX3_add 73 = .ok (.aload_n 0, 1) := by decide +kernel
theorem dX3_add_74 : decode cX3_add 74 = .ok (.getfield 30, 3) := by decide +kernel
theorem dX3_add_77 : decode cX3_add 77 = .ok (.aload_n 0, 1) := by decide +kernel
theorem dX3_add_78 : decode cX3_add 78 = .ok (.getfield 36, 3) := by decide +kernel
theorem dX3_add_81 : decode cX3_add 81 = .ok (.iload 7, 2) := by decide +kernel
theorem dX3_add_83 : decode cX3_add 83 = .ok (.iastore, 1) := by decide +kernel
theorem dX3_add_84 : decode cX3_add 84 = .ok (.iconst 0, 1) := by decide +kernel
theorem dX3_add_85 : decode cX3_add 85 = .ok (.istore 8, 2) := by decide +kernel
theorem dX3_add_87 : decode cX3_add 87 = .ok (.iload 8, 2) := by decide +kernel
theorem dX3_add_89 : decode cX3_add 89 = .ok (.iconst 4, 1) := by decide +kernel
theorem dX3_add_90 : decode cX3_add 90 = .ok (.if_icmp .ge 25, 3) := by decide +kernel
theorem dX3_add_93 : decode cX3_add 93 = .ok (.aload_n 0, 1) := by decide +kernel
theorem dX3_add_94 : decode cX3_add 94 = .ok (.getfield 33, 3) := by decide +kernel
theorem dX3_add_97 : decode cX3_add 97 = .ok (.aload_n 0, 1) := by decide +kernel
theorem dX3_add_98 : decode cX3_add 98 = .ok (.getfield 36, 3) := by decide +kernel
theorem dX3_add_101 : decode cX3_add 101 = .ok (.iconst 4, 1) := by decide +kernel
theorem dX3_add_102 : decode cX3_add 102 = .ok (.imul, 1) := by decide +kernel
theorem dX3_add_103 : decode cX3_add 103 = .ok (.iload 8, 2) := by decide +kernel
theorem dX3_add_105 : decode cX3_add 105 = .ok (.iadd, 1) := by decide +kernel
theorem dX3_add_106 : decode cX3_add 106 = .ok (.bipush (-9), 2) := by decide +kernel
theorem dX3_add_108 : decode cX3_add 108 = .ok (.iastore, 1) := by decide +kernel
theorem dX3_add_109 : decode cX3_add 109 = .ok (.iinc 8 1, 3) := by decide +kernel
theorem dX3_add_112 : decode cX3_add 112 = .ok (.goto (-25), 3) := by decide +kernel
theorem dX3_add_115 : decode cX3_add 115 = .ok (.aload_n 0, 1) := by decide +kernel
theorem dX3_add_116 : decode cX3_add 116 = .ok (.dup, 1) := by decide +kernel
theorem dX3_add_117 : decode cX3_add 117 = .ok (.getfield 36, 3) := by decide +kernel
theorem dX3_add_120 : decode cX3_add 120 = .ok (.iconst 1, 1) := by decide +kernel
theorem dX3_add_121 : decode cX3_add 121 = .ok (.iadd, 1) := by decide +kernel
theorem dX3_add_122 : decode cX3_add 122 = .ok (.putfield 36, 3) := by decide +kernel
theorem dX3_add_125 : decode cX3_add 125 = .ok (.return_, 1) := by decide +kernel
theorem dX3_isIn_0 : decode cX3_isIn 0 = .ok (.lload_n 3, 1) := by decide +kernel
theorem dX3_isIn_1 : decode cX3_isIn 1 = .ok (.iload_n 1, 1) := by decide +kernel
theorem dX3_isIn_2 : decode cX3_isIn 2 = .ok (.lushr, 1) := by decide +kernel
theorem dX3_isIn_3 : decode cX3_isIn 3 = .ok (.lconst 1, 1) := by decide +kernel
theorem dX3_isIn_4 : decode cX3_isIn 4 = .ok (.land, 1) := by decide +kernel
theorem dX3_isIn_5 : decode cX3_isIn 5 = .ok (.lconst 1, 1) := by decide +kernel
theorem dX3_isIn_6 : decode cX3_isIn 6 = .ok (.lcmp, 1) := by decide +kernel
theorem dX3_isIn_7 : decode cX3_isIn 7 = .ok (.ifCond .ne 27, 3) := by decide +kernel
theorem dX3_isIn_10 : decode cX3_isIn 10 = .ok (.aload_n 0, 1) := by decide +kernel
theorem dX3_isIn_11 : decode cX3_isIn 11 = .ok (.getfield 9, 3) := by decide +kernel
theorem dX3_isIn_14 : decode cX3_isIn 14 = .ok (.iload_n 1, 1) := by decide +kernel
theorem dX3_isIn_15 : decode cX3_isIn 15 = .ok (.iaload, 1) := by decide +kernel
theorem dX3_isIn_16 : decode cX3_isIn 16 = .ok (.iload_n 2, 1) := by decide +kernel
theorem dX3_isIn_17 : decode cX3_isIn 17 = .ok (.if_icmp .ne 17, 3) := by decide +kernel
theorem dX3_isIn_20 : decode cX3_isIn 20 = .ok (.aload_n 0, 1) := by decide +kernel
theorem dX3_isIn_21 : decode cX3_isIn 21 = .ok (.getfield 18, 3) := by decide +kernel
theorem dX3_isIn_24 : decode cX3_isIn 24 = .ok (.iload_n 1, 1) := by decide +kernel
theorem dX3_isIn_25 : decode cX3_isIn 25 = .ok (.iaload, 1) := by decide +kernel
theorem dX3_isIn_26 : decode cX3_isIn 26 = .ok (.iconst 5, 1) := by decide +kernel
theorem dX3_isIn_27 : decode cX3_isIn 27 = .ok (.if_icmp .eq 7, 3) := by decide +kernel
theorem dX3_isIn_30 : decode cX3_isIn 30 = .ok (.iconst 1, 1) := by decide +kernel
theorem dX3_isIn_31 : decode cX3_isIn 31 = .ok (.goto 4, 3) := by decide +kernel
theorem dX3_isIn_34 : decode cX3_isIn 34 = .ok (.iconst 0, 1) := by decide +kernel
theorem dX3_isIn_35 : decode cX3_isIn 35 = .ok (.ireturn, 1) := by decide +kernel
theorem dX3_post_0 : decode cX3_post 0 = .ok (.iload_n 1, 1) := by decide +kernel
theorem dX3_post_1 : decode cX3_post 1 = .ok (.iconst 4, 1) := by decide +kernel
theorem dX3_post_2 : decode cX3_post 2 = .ok (.imul, 1) := by decide +kernel
theorem dX3_post_3 : decode cX3_post 3 = .ok (.iload_n 2, 1) := by decide +kernel
theorem dX3_post_4 : decode cX3_post 4 = .ok (.iadd, 1) := by decide +kernel
theorem dX3_post_5 : decode cX3_post 5 = .ok (.istore 4, 2) := by decide +kernel
theorem dX3_post_7 : decode cX3_post 7 = .ok (.aload_n 0, 1) := by decide +kernel
theorem dX3_post_8 : decode cX3_post 8 = .ok (.getfield 33, 3) := by decide +kernel
theorem dX3_post_11 : decode cX3_post 11 = .ok (.iload 4, 2) := by decide +kernel
theorem dX3_post_13 : decode cX3_post 13 = .ok (.iaload, 1) := by decide +kernel
theorem dX3_post_14 : decode cX3_post 14 = .ok (.istore 5, 2) := by decide +kernel
theorem dX3_post_16 : decode cX3_post 16 = .ok (.aload_n 0, 1) := by decide +kernel
theorem dX3_post_17 : decode cX3_post 17 = .ok (.getfield 33, 3) := by decide +kernel
theorem dX3_post_20 : decode cX3_post 20 = .ok (.iload 4, 2) := by decide +kernel
theorem dX3_post_22 : decode cX3_post 22 = .ok (.iload_n 3, 1) := by decide +kernel
theorem dX3_post_23 : decode cX3_post 23 = .ok (.iastore, 1) := by decide +kernel
theorem dX3_post_24 : decode cX3_post 24 = .ok (.iload 5, 2) := by decide +kernel
theorem dX3_post_26 : decode cX3_post 26 = .ok (.ireturn, 1) := by decide +kernel
theorem dX3_cameTo_0 : decode cX3_cameTo 0 = .ok (.lconst 0, 1) := by decide +kernel
theorem dX3_cameTo_1 : decode cX3_cameTo 1 = .ok (.lstore_n 3, 1) := by decide +kernel
theorem dX3_cameTo_2 : decode cX3_cameTo 2 = .ok (.iconst 0, 1) := by decide +kernel
theorem dX3_cameTo_3 : decode cX3_cameTo 3 = .ok (.istore 5, 2) := by decide +kernel
theorem dX3_cameTo_5 : decode cX3_cameTo 5 = .ok (.iload 5, 2) := by decide +kernel
theorem dX3_cameTo_7 : decode cX3_cameTo 7 = .ok (.aload_n 0, 1) := by decide +kernel
theorem dX3_cameTo_8 : decode cX3_cameTo 8 = .ok (.getfield 36, 3) := by decide +kernel
theorem dX3_cameTo_11 : decode cX3_cameTo 11 = .ok (.if_icmp .ge 42, 3) := by decide +kernel
theorem dX3_cameTo_14 : decode cX3_cameTo 14 = .ok (.aload_n 0, 1) := by decide +kernel
theorem dX3_cameTo_15 : decode cX3_cameTo 15 = .ok (.getfield 33, 3) := by decide +kernel
theorem dX3_cameTo_18 : decode cX3_cameTo 18 = .ok (.iload 5, 2) := by decide +kernel
theorem dX3_cameTo_20 : decode cX3_cameTo 20 = .ok (.iconst 4, 1) := by decide +kernel
theorem dX3_cameTo_21 : decode cX3_cameTo 21 = .ok (.imul, 1) := by decide +kernel
theorem dX3_cameTo_22 : decode cX3_cameTo 22 = .ok (.iload_n 1, 1) := by decide +kernel
theorem dX3_cameTo_23 : decode cX3_cameTo 23 = .ok (.iadd, 1) := by decide +kernel
theorem dX3_cameTo_24 : decode cX3_cameTo 24 = .ok (.iaload, 1) := by decide +kernel
theorem dX3_cameTo_25 : decode cX3_cameTo 25 = .ok (.istore 6, 2) := by decide +kernel
theorem dX3_cameTo_27 : decode cX3_cameTo 27 = .ok (.iload 6, 2) := by decide +kernel
theorem dX3_cameTo_29 : decode cX3_cameTo 29 = .ok (.bipush (-9), 2) := by decide +kernel
theorem dX3_cameTo_31 : decode cX3_cameTo 31 = .ok (.if_icmp .eq 16, 3) := by decide +kernel
theorem dX3_cameTo_34 : decode cX3_cameTo 34 = .ok (.iload 6, 2) := by decide +kernel
theorem dX3_cameTo_36 : decode cX3_cameTo 36 = .ok (.iload_n 2, 1) := by decide +kernel
theorem dX3_cameTo_37 : decode cX3_cameTo 37 = .ok (.if_icmp .gt 10, 3) := by decide +kernel
theorem dX3_cameTo_40 : decode cX3_cameTo 40 = .ok (.lload_n 3, 1) := by decide +kernel
theorem dX3_cameTo_41 : decode cX3_cameTo 41 = .ok (.lconst 1, 1) := by decide +kernel
theorem dX3_cameTo_42 : decode cX3_cameTo 42 = .ok (.iload 5, 2) := by decide +kernel
theorem dX3_cameTo_44 : decode cX3_cameTo 44 = .ok (.lshl, 1) := by decide +kernel
theorem dX3_cameTo_45 : decode cX3_cameTo 45 = .ok (.lor, 1) := by decide +kernel
theorem dX3_cameTo_46 : decode cX3_cameTo 46 = .ok (.lstore_n 3, 1) := by decide +kernel
theorem dX3_cameTo_47 : decode cX3_cameTo 47 = .ok (.iinc 5 1, 3) := by decide +kernel
theorem dX3_cameTo_50 : decode cX3_cameTo 50 = .ok (.goto (-45), 3) := by decide +kernel
theorem dX3_cameTo_53 : decode cX3_cameTo 53 = .ok (.lload_n 3, 1) := by decide +kernel
theorem dX3_cameTo_54 : decode cX3_cameTo 54 = .ok (.lreturn, 1) := by decide +kernel
theorem dX3_sentOf_0 : decode cX3_sentOf 0 = .ok (.iconst 0, 1) := by decide +kernel
theorem dX3_sentOf_1 : decode cX3_sentOf 1 = .ok (.istore_n 2, 1) := by decide +kernel
theorem dX3_sentOf_2 : decode cX3_sentOf 2 = .ok (.iconst 0, 1) := by decide +kernel
theorem dX3_sentOf_3 : decode cX3_sentOf 3 = .ok (.istore_n 3, 1) := by decide +kernel
theorem dX3_sentOf_4 : decode cX3_sentOf 4 = .ok (.iload_n 3, 1) := by decide +kernel
theorem dX3_sentOf_5 : decode cX3_sentOf 5 = .ok (.iconst 4, 1) := by decide +kernel
theorem dX3_sentOf_6 : decode cX3_sentOf 6 = .ok (.if_icmp .ge 32, 3) := by decide +kernel
theorem dX3_sentOf_9 : decode cX3_sentOf 9 = .ok (.iload_n 2, 1) := by decide +kernel
theorem dX3_sentOf_10 : decode cX3_sentOf 10 = .ok (.aload_n 0, 1) := by decide +kernel
theorem dX3_sentOf_11 : decode cX3_sentOf 11 = .ok (.getfield 33, 3) := by decide +kernel
theorem dX3_sentOf_14 : decode cX3_sentOf 14 = .ok (.iload_n 1, 1) := by decide +kernel
theorem dX3_sentOf_15 : decode cX3_sentOf 15 = .ok (.iconst 4, 1) := by decide +kernel
theorem dX3_sentOf_16 : decode cX3_sentOf 16 = .ok (.imul, 1) := by decide +kernel
theorem dX3_sentOf_17 : decode cX3_sentOf 17 = .ok (.iload_n 3, 1) := by decide +kernel
theorem dX3_sentOf_18 : decode cX3_sentOf 18 = .ok (.iadd, 1) := by decide +kernel
theorem dX3_sentOf_19 : decode cX3_sentOf 19 = .ok (.iaload, 1) := by decide +kernel
theorem dX3_sentOf_20 : decode cX3_sentOf 20 = .ok (.bipush (-9), 2) := by decide +kernel
theorem dX3_sentOf_22 : decode cX3_sentOf 22 = .ok (.if_icmp .eq 7, 3) := by decide +kernel
theorem dX3_sentOf_25 : decode cX3_sentOf 25 = .ok (.iconst 1, 1) := by decide +kernel
theorem dX3_sentOf_26 : decode cX3_sentOf 26 = .ok (.goto 4, 3) := by decide +kernel
theorem dX3_sentOf_29 : decode cX3_sentOf 29 = .ok (.iconst 0, 1) := by decide +kernel
theorem dX3_sentOf_30 : decode cX3_sentOf 30 = .ok (.iadd, 1) := by decide +kernel
theorem dX3_sentOf_31 : decode cX3_sentOf 31 = .ok (.istore_n 2, 1) := by decide +kernel
theorem dX3_sentOf_32 : decode cX3_sentOf 32 = .ok (.iinc 3 1, 3) := by decide +kernel
theorem dX3_sentOf_35 : decode cX3_sentOf 35 = .ok (.goto (-31), 3) := by decide +kernel
theorem dX3_sentOf_38 : decode cX3_sentOf 38 = .ok (.iload_n 2, 1) := by decide +kernel
theorem dX3_sentOf_39 : decode cX3_sentOf 39 = .ok (.ireturn, 1) := by decide +kernel
theorem dX3_sent_0 : decode cX3_sent 0 = .ok (.iconst 0, 1) := by decide +kernel
theorem dX3_sent_1 : decode cX3_sent 1 = .ok (.istore_n 1, 1) := by decide +kernel
theorem dX3_sent_2 : decode cX3_sent 2 = .ok (.iconst 0, 1) := by decide +kernel
theorem dX3_sent_3 : decode cX3_sent 3 = .ok (.istore_n 2, 1) := by decide +kernel
theorem dX3_sent_4 : decode cX3_sent 4 = .ok (.iload_n 2, 1) := by decide +kernel
theorem dX3_sent_5 : decode cX3_sent 5 = .ok (.aload_n 0, 1) := by decide +kernel
theorem dX3_sent_6 : decode cX3_sent 6 = .ok (.getfield 36, 3) := by decide +kernel
theorem dX3_sent_9 : decode cX3_sent 9 = .ok (.if_icmp .ge 17, 3) := by decide +kernel
theorem dX3_sent_12 : decode cX3_sent 12 = .ok (.iload_n 1, 1) := by decide +kernel
theorem dX3_sent_13 : decode cX3_sent 13 = .ok (.aload_n 0, 1) := by decide +kernel
theorem dX3_sent_14 : decode cX3_sent 14 = .ok (.iload_n 2, 1) := by decide +kernel
theorem dX3_sent_15 : decode cX3_sent 15 = .ok (.invokevirtual 40, 3) := by decide +kernel
theorem dX3_sent_18 : decode cX3_sent 18 = .ok (.iadd, 1) := by decide +kernel
theorem dX3_sent_19 : decode cX3_sent 19 = .ok (.istore_n 1, 1) := by decide +kernel
theorem dX3_sent_20 : decode cX3_sent 20 = .ok (.iinc 2 1, 3) := by decide +kernel
theorem dX3_sent_23 : decode cX3_sent 23 = .ok (.goto (-19), 3) := by decide +kernel
theorem dX3_sent_26 : decode cX3_sent 26 = .ok (.iload_n 1, 1) := by decide +kernel
theorem dX3_sent_27 : decode cX3_sent 27 = .ok (.ireturn, 1) := by decide +kernel
theorem dX3_clouded_0 : decode cX3_clouded 0 = .ok (.iconst 0, 1) := by decide +kernel
theorem dX3_clouded_1 : decode cX3_clouded 1 = .ok (.istore_n 1, 1) := by decide +kernel
theorem dX3_clouded_2 : decode cX3_clouded 2 = .ok (.iconst 0, 1) := by decide +kernel
theorem dX3_clouded_3 : decode cX3_clouded 3 = .ok (.istore_n 2, 1) := by decide +kernel
theorem dX3_clouded_4 : decode cX3_clouded 4 = .ok (.iload_n 2, 1) := by decide +kernel
theorem dX3_clouded_5 : decode cX3_clouded 5 = .ok (.aload_n 0, 1) := by decide +kernel
theorem dX3_clouded_6 : decode cX3_clouded 6 = .ok (.getfield 36, 3) := by decide +kernel
theorem dX3_clouded_9 : decode cX3_clouded 9 = .ok (.if_icmp .ge 27, 3) := by decide +kernel
theorem dX3_clouded_12 : decode cX3_clouded 12 = .ok (.iload_n 1, 1) := by decide +kernel
theorem dX3_clouded_13 : decode cX3_clouded 13 = .ok (.aload_n 0, 1) := by decide +kernel
theorem dX3_clouded_14 : decode cX3_clouded 14 = .ok (.getfield 18, 3) := by decide +kernel
theorem dX3_clouded_17 : decode cX3_clouded 17 = .ok (.iload_n 2, 1) := by decide +kernel
theorem dX3_clouded_18 : decode cX3_clouded 18 = .ok (.iaload, 1) := by decide +kernel
theorem dX3_clouded_19 : decode cX3_clouded 19 = .ok (.iconst 5, 1) := by decide +kernel
theorem dX3_clouded_20 : decode cX3_clouded 20 = .ok (.if_icmp .ne 7, 3) := by decide +kernel
theorem dX3_clouded_23 : decode cX3_clouded 23 = .ok (.iconst 1, 1) := by decide +kernel
theorem dX3_clouded_24 : decode cX3_clouded 24 = .ok (.goto 4, 3) := by decide +kernel
theorem dX3_clouded_27 : decode cX3_clouded 27 = .ok (.iconst 0, 1) := by decide +kernel
theorem dX3_clouded_28 : decode cX3_clouded 28 = .ok (.iadd, 1) := by decide +kernel
theorem dX3_clouded_29 : decode cX3_clouded 29 = .ok (.istore_n 1, 1) := by decide +kernel
theorem dX3_clouded_30 : decode cX3_clouded 30 = .ok (.iinc 2 1, 3) := by decide +kernel
theorem dX3_clouded_33 : decode cX3_clouded 33 = .ok (.goto (-29), 3) := by decide +kernel
theorem dX3_clouded_36 : decode cX3_clouded 36 = .ok (.iload_n 1, 1) := by decide +kernel
theorem dX3_clouded_37 : decode cX3_clouded 37 = .ok (.ireturn, 1) := by decide +kernel
theorem dX3_copyFrom_0 : decode cX3_copyFrom 0 = .ok (.aload_n 1, 1) := by decide +kernel
theorem dX3_copyFrom_1 : decode cX3_copyFrom 1 = .ok (.getfield 9, 3) := by decide +kernel
theorem dX3_copyFrom_4 : decode cX3_copyFrom 4 = .ok (.aload_n 0, 1) := by decide +kernel
theorem dX3_copyFrom_5 : decode cX3_copyFrom 5 = .ok (.getfield 9, 3) := by decide +kernel
theorem dX3_copyFrom_8 : decode cX3_copyFrom 8 = .ok (.invokestatic 44, 3) := by decide +kernel
theorem dX3_copyFrom_11 : decode cX3_copyFrom 11 = .ok (.aload_n 1, 1) := by decide +kernel
theorem dX3_copyFrom_12 : decode cX3_copyFrom 12 = .ok (.getfield 15, 3) := by decide +kernel
theorem dX3_copyFrom_15 : decode cX3_copyFrom 15 = .ok (.aload_n 0, 1) := by decide +kernel
theorem dX3_copyFrom_16 : decode cX3_copyFrom 16 = .ok (.getfield 15, 3) := by decide +kernel
theorem dX3_copyFrom_19 : decode cX3_copyFrom 19 = .ok (.invokestatic 44, 3) := by decide +kernel
theorem dX3_copyFrom_22 : decode cX3_copyFrom 22 = .ok (.aload_n 1, 1) := by decide +kernel
theorem dX3_copyFrom_23 : decode cX3_copyFrom 23 = .ok (.getfield 18, 3) := by decide +kernel
theorem dX3_copyFrom_26 : decode cX3_copyFrom 26 = .ok (.aload_n 0, 1) := by decide +kernel
theorem dX3_copyFrom_27 : decode cX3_copyFrom 27 = .ok (.getfield 18, 3) := by decide +kernel
theorem dX3_copyFrom_30 : decode cX3_copyFrom 30 = .ok (.invokestatic 44, 3) := by decide +kernel
theorem dX3_copyFrom_33 : decode cX3_copyFrom 33 = .ok (.aload_n 1, 1) := by decide +kernel
theorem dX3_copyFrom_34 : decode cX3_copyFrom 34 = .ok (.getfield 21, 3) := by decide +kernel
theorem dX3_copyFrom_37 : decode cX3_copyFrom 37 = .ok (.aload_n 0, 1) := by decide +kernel
theorem dX3_copyFrom_38 : decode cX3_copyFrom 38 = .ok (.getfield 21, 3) := by decide +kernel
theorem dX3_copyFrom_41 : decode cX3_copyFrom 41 = .ok (.invokestatic 44, 3) := by decide +kernel
theorem dX3_copyFrom_44 : decode cX3_copyFrom 44 = .ok (.aload_n 1, 1) := by decide +kernel
theorem dX3_copyFrom_45 : decode cX3_copyFrom 45 = .ok (.getfield 24, 3) := by decide +kernel
theorem dX3_copyFrom_48 : decode cX3_copyFrom 48 = .ok (.aload_n 0, 1) := by decide +kernel
theorem dX3_copyFrom_49 : decode cX3_copyFrom 49 = .ok (.getfield 24, 3) := by decide +kernel
theorem dX3_copyFrom_52 : decode cX3_copyFrom 52 = .ok (.invokestatic 44, 3) := by decide +kernel
theorem dX3_copyFrom_55 : decode cX3_copyFrom 55 = .ok (.aload_n 1, 1) := by decide +kernel
theorem dX3_copyFrom_56 : decode cX3_copyFrom 56 = .ok (.getfield 27, 3) := by decide +kernel
theorem dX3_copyFrom_59 : decode cX3_copyFrom 59 = .ok (.aload_n 0, 1) := by decide +kernel
theorem dX3_copyFrom_60 : decode cX3_copyFrom 60 = .ok (.getfield 27, 3) := by decide +kernel
theorem dX3_copyFrom_63 : decode cX3_copyFrom 63 = .ok (.invokestatic 44, 3) := by decide +kernel
theorem dX3_copyFrom_66 : decode cX3_copyFrom 66 = .ok (.aload_n 1, 1) := by decide +kernel
theorem dX3_copyFrom_67 : decode cX3_copyFrom 67 = .ok (.getfield 30, 3) := by decide +kernel
theorem dX3_copyFrom_70 : decode cX3_copyFrom 70 = .ok (.aload_n 0, 1) := by decide +kernel
theorem dX3_copyFrom_71 : decode cX3_copyFrom 71 = .ok (.getfield 30, 3) := by decide +kernel
theorem dX3_copyFrom_74 : decode cX3_copyFrom 74 = .ok (.invokestatic 44, 3) := by decide +kernel
theorem dX3_copyFrom_77 : decode cX3_copyFrom 77 = .ok (.aload_n 1, 1) := by decide +kernel
theorem dX3_copyFrom_78 : decode cX3_copyFrom 78 = .ok (.getfield 33, 3) := by decide +kernel
theorem dX3_copyFrom_81 : decode cX3_copyFrom 81 = .ok (.aload_n 0, 1) := by decide +kernel
theorem dX3_copyFrom_82 : decode cX3_copyFrom 82 = .ok (.getfield 33, 3) := by decide +kernel
theorem dX3_copyFrom_85 : decode cX3_copyFrom 85 = .ok (.invokestatic 44, 3) := by decide +kernel
theorem dX3_copyFrom_88 : decode cX3_copyFrom 88 = .ok (.aload_n 0, 1) := by decide +kernel
theorem dX3_copyFrom_89 : decode cX3_copyFrom 89 = .ok (.aload_n 1, 1) := by decide +kernel
theorem dX3_copyFrom_90 : decode cX3_copyFrom 90 = .ok (.getfield 36, 3) := by decide +kernel
theorem dX3_copyFrom_93 : decode cX3_copyFrom 93 = .ok (.putfield 36, 3) := by decide +kernel
theorem dX3_copyFrom_96 : decode cX3_copyFrom 96 = .ok (.return_, 1) := by decide +kernel
theorem dX4_init_0 : decode cX4_init 0 = .ok (.aload_n 0, 1) := by decide +kernel
theorem dX4_init_1 : decode cX4_init 1 = .ok (.invokespecial 3, 3) := by decide +kernel
theorem dX4_init_4 : decode cX4_init 4 = .ok (.aload_n 0, 1) := by decide +kernel
theorem dX4_init_5 : decode cX4_init 5 = .ok (.bipush 24, 2) := by decide +kernel
theorem dX4_init_7 : decode cX4_init 7 = .ok (.newarray .int, 2) := by decide +kernel
theorem dX4_init_9 : decode cX4_init 9 = .ok (.putfield 9, 3) := by decide +kernel
theorem dX4_init_12 : decode cX4_init 12 = .ok (.aload_n 0, 1) := by decide +kernel
theorem dX4_init_13 : decode cX4_init 13 = .ok (.bipush 8, 2) := by decide +kernel
theorem dX4_init_15 : decode cX4_init 15 = .ok (.newarray .int, 2) := by decide +kernel
theorem dX4_init_17 : decode cX4_init 17 = .ok (.putfield 15, 3) := by decide +kernel
theorem dX4_init_20 : decode cX4_init 20 = .ok (.return_, 1) := by decide +kernel
theorem dX4_add_0 : decode cX4_add 0 = .ok (.aload_n 0, 1) := by decide +kernel
theorem dX4_add_1 : decode cX4_add 1 = .ok (.getfield 18, 3) := by decide +kernel
theorem dX4_add_4 : decode cX4_add 4 = .ok (.bipush 8, 2) := by decide +kernel
theorem dX4_add_6 : decode cX4_add 6 = .ok (.if_icmp .lt 4, 3) := by decide +kernel
theorem dX4_add_9 : decode cX4_add 9 = .ok (.return_, 1) := by decide +kernel
theorem dX4_add_10 : decode cX4_add 10 = .ok (.iconst 0, 1) := by decide +kernel
theorem dX4_add_11 : decode cX4_add 11 = .ok (.istore_n 2, 1) := by decide +kernel
theorem dX4_add_12 : decode cX4_add 12 = .ok (.iload_n 2, 1) := by decide +kernel
theorem dX4_add_13 : decode cX4_add 13 = .ok (.aload_n 1, 1) := by decide +kernel
theorem dX4_add_14 : decode cX4_add 14 = .ok (.getfield 22, 3) := by decide +kernel
theorem dX4_add_17 : decode cX4_add 17 = .ok (.if_icmp .ge 28, 3) := by decide +kernel
theorem dX4_add_20 : decode cX4_add 20 = .ok (.aload_n 0, 1) := by decide +kernel
theorem dX4_add_21 : decode cX4_add 21 = .ok (.getfield 9, 3) := by decide +kernel
theorem dX4_add_24 : decode cX4_add 24 = .ok (.aload_n 0, 1) := by decide +kernel
theorem dX4_add_25 : decode cX4_add 25 = .ok (.getfield 18, 3) := by decide +kernel
theorem dX4_add_28 : decode cX4_add 28 = .ok (.iconst 3, 1) := by decide +kernel
theorem dX4_add_29 : decode cX4_add 29 = .ok (.imul, 1) := by decide +kernel
theorem dX4_add_30 : decode cX4_add 30 = .ok (.iload_n 2, 1) := by decide +kernel
theorem dX4_add_31 : decode cX4_add 31 = .ok (.iadd, 1) := by decide +kernel
theorem dX4_add_32 : decode cX4_add 32 = .ok (.aload_n 1, 1) := by decide +kernel
theorem dX4_add_33 : decode cX4_add 33 = .ok (.getfield 27, 3) := by decide +kernel
theorem dX4_add_36 : decode cX4_add 36 = .ok (.iload_n 2, 1) := by decide +kernel
theorem dX4_add_37 : decode cX4_add 37 = .ok (.iaload, 1) := by decide +kernel
theorem dX4_add_38 : decode cX4_add 38 = .ok (.iastore, 1) := by decide +kernel
theorem dX4_add_39 : decode cX4_add 39 = .ok (.iinc 2 1, 3) := by decide +kernel
theorem dX4_add_42 : decode cX4_add 42 = .ok (.goto (-30), 3) := by decide +kernel
theorem dX4_add_45 : decode cX4_add 45 = .ok (.aload_n 0, 1) := by decide +kernel
theorem dX4_add_46 : decode cX4_add 46 = .ok (.getfield 15, 3) := by decide +kernel
theorem dX4_add_49 : decode cX4_add 49 = .ok (.aload_n 0, 1) := by decide +kernel
theorem dX4_add_50 : decode cX4_add 50 = .ok (.getfield 18, 3) := by decide +kernel
theorem dX4_add_53 : decode cX4_add 53 = .ok (.aload_n 1, 1) := by decide +kernel
theorem dX4_add_54 : decode cX4_add 54 = .ok (.getfield 22, 3) := by decide +kernel
theorem dX4_add_57 : decode cX4_add 57 = .ok (.iastore, 1) := by decide +kernel
theorem dX4_add_58 : decode cX4_add 58 = .ok (.aload_n 0, 1) := by decide +kernel
theorem dX4_add_59 : decode cX4_add 59 = .ok (.dup, 1) := by decide +kernel
theorem dX4_add_60 : decode cX4_add 60 = .ok (.getfield 18, 3) := by decide +kernel
theorem dX4_add_63 : decode cX4_add 63 = .ok (.iconst 1, 1) := by decide +kernel
theorem dX4_add_64 : decode cX4_add 64 = .ok (.iadd, 1) := by decide +kernel
theorem dX4_add_65 : decode cX4_add 65 = .ok (.putfield 18, 3) := by decide +kernel
theorem dX4_add_68 : decode cX4_add 68 = .ok (.return_, 1) := by decide +kernel
theorem dX4_termOf_0 : decode cX4_termOf 0 = .ok (.aload_n 0, 1) := by decide +kernel
theorem dX4_termOf_1 : decode cX4_termOf 1 = .ok (.getfield 9, 3) := by decide +kernel
theorem dX4_termOf_4 : decode cX4_termOf 4 = .ok (.iload_n 1, 1) := by decide +kernel
theorem dX4_termOf_5 : decode cX4_termOf 5 = .ok (.iconst 3, 1) := by decide +kernel
theorem dX4_termOf_6 : decode cX4_termOf 6 = .ok (.imul, 1) := by decide +kernel
theorem dX4_termOf_7 : decode cX4_termOf 7 = .ok (.iload_n 2, 1) := by decide +kernel
theorem dX4_termOf_8 : decode cX4_termOf 8 = .ok (.iadd, 1) := by decide +kernel
theorem dX4_termOf_9 : decode cX4_termOf 9 = .ok (.iaload, 1) := by decide +kernel
theorem dX4_termOf_10 : decode cX4_termOf 10 = .ok (.ireturn, 1) := by decide +kernel
theorem dX4_placeOf_0 : decode cX4_placeOf 0 = .ok (.iconst 0, 1) := by decide +kernel
theorem dX4_placeOf_1 : decode cX4_placeOf 1 = .ok (.istore_n 3, 1) := by decide +kernel
theorem dX4_placeOf_2 : decode cX4_placeOf 2 = .ok (.iload_n 3, 1) := by decide +kernel
theorem dX4_placeOf_3 : decode cX4_placeOf 3 = .ok (.aload_n 0, 1) := by decide +kernel
theorem dX4_placeOf_4 : decode cX4_placeOf 4 = .ok (.getfield 15, 3) := by decide +kernel
theorem dX4_placeOf_7 : decode cX4_placeOf 7 = .ok (.iload_n 1, 1) := by decide +kernel
theorem dX4_placeOf_8 : decode cX4_placeOf 8 = .ok (.iaload, 1) := by decide +kernel
theorem dX4_placeOf_9 : decode cX4_placeOf 9 = .ok (.if_icmp .ge 21, 3) := by decide +kernel
theorem dX4_placeOf_12 : decode cX4_placeOf 12 = .ok (.aload_n 0, 1) := by decide +kernel
theorem dX4_placeOf_13 : decode cX4_placeOf 13 = .ok (.iload_n 1, 1) := by decide +kernel
theorem dX4_placeOf_14 : decode cX4_placeOf 14 = .ok (.iload_n 3, 1) := by decide +kernel
theorem dX4_placeOf_15 : decode cX4_placeOf 15 = .ok (.invokevirtual 28, 3) := by decide +kernel
theorem dX4_placeOf_18 : decode cX4_placeOf 18 = .ok (.iload_n 2, 1) := by decide +kernel
theorem dX4_placeOf_19 : decode cX4_placeOf 19 = .ok (.if_icmp .ne 5, 3) := by decide +kernel
theorem dX4_placeOf_22 : decode cX4_placeOf 22 = .ok (.iload_n 3, 1) := by decide +kernel
theorem dX4_placeOf_23 : decode cX4_placeOf 23 = .ok (.ireturn, 1) := by decide +kernel
theorem dX4_placeOf_24 : decode cX4_placeOf 24 = .ok (.iinc 3 1, 3) := by decide +kernel
theorem dX4_placeOf_27 : decode cX4_placeOf 27 = .ok (.goto (-25), 3) := by decide +kernel
theorem dX4_placeOf_30 : decode cX4_placeOf 30 = .ok (.iconst (-1), 1) := by decide +kernel
theorem dX4_placeOf_31 : decode cX4_placeOf 31 = .ok (.ireturn, 1) := by decide +kernel
theorem dX4_copyFrom_0 : decode cX4_copyFrom 0 = .ok (.aload_n 1, 1) := by decide +kernel
theorem dX4_copyFrom_1 : decode cX4_copyFrom 1 = .ok (.getfield 9, 3) := by decide +kernel
theorem dX4_copyFrom_4 : decode cX4_copyFrom 4 = .ok (.aload_n 0, 1) := by decide +kernel
theorem dX4_copyFrom_5 : decode cX4_copyFrom 5 = .ok (.getfield 9, 3) := by decide +kernel
theorem dX4_copyFrom_8 : decode cX4_copyFrom 8 = .ok (.invokestatic 32, 3) := by decide +kernel
theorem dX4_copyFrom_11 : decode cX4_copyFrom 11 = .ok (.aload_n 1, 1) := by decide +kernel
theorem dX4_copyFrom_12 : decode cX4_copyFrom 12 = .ok (.getfield 15, 3) := by decide +kernel
theorem dX4_copyFrom_15 : decode cX4_copyFrom 15 = .ok (.aload_n 0, 1) := by decide +kernel
theorem dX4_copyFrom_16 : decode cX4_copyFrom 16 = .ok (.getfield 15, 3) := by decide +kernel
theorem dX4_copyFrom_19 : decode cX4_copyFrom 19 = .ok (.invokestatic 32, 3) := by decide +kernel
theorem dX4_copyFrom_22 : decode cX4_copyFrom 22 = .ok (.aload_n 0, 1) := by decide +kernel
theorem dX4_copyFrom_23 : decode cX4_copyFrom 23 = .ok (.aload_n 1, 1) := by decide +kernel
theorem dX4_copyFrom_24 : decode cX4_copyFrom 24 = .ok (.getfield 18, 3) := by decide +kernel
theorem dX4_copyFrom_27 : decode cX4_copyFrom 27 = .ok (.putfield 18, 3) := by decide +kernel
theorem dX4_copyFrom_30 : decode cX4_copyFrom 30 = .ok (.return_, 1) := by decide +kernel
theorem dX5_init_0 : decode cX5_init 0 = .ok (.aload_n 0, 1) := by decide +kernel
theorem dX5_init_1 : decode cX5_init 1 = .ok (.invokespecial 3, 3) := by decide +kernel
theorem dX5_init_4 : decode cX5_init 4 = .ok (.aload_n 0, 1) := by decide +kernel
theorem dX5_init_5 : decode cX5_init 5 = .ok (.bipush 20, 2) := by decide +kernel
theorem dX5_init_7 : decode cX5_init 7 = .ok (.newarray .int, 2) := by decide +kernel
theorem dX5_init_9 : decode cX5_init 9 = .ok (.putfield 9, 3) := by decide +kernel
theorem dX5_init_12 : decode cX5_init 12 = .ok (.aload_n 0, 1) := by decide +kernel
theorem dX5_init_13 : decode cX5_init 13 = .ok (.iconst 3, 1) := by decide +kernel
theorem dX5_init_14 : decode cX5_init 14 = .ok (.newarray .int, 2) := by decide +kernel
theorem dX5_init_16 : decode cX5_init 16 = .ok (.putfield 15, 3) := by decide +kernel
theorem dX5_init_19 : decode cX5_init 19 = .ok (.return_, 1) := by decide +kernel
theorem dX5_add_0 : decode cX5_add 0 = .ok (.aload_n 0, 1) := by decide +kernel
theorem dX5_add_1 : decode cX5_add 1 = .ok (.getfield 18, 3) := by decide +kernel
theorem dX5_add_4 : decode cX5_add 4 = .ok (.bipush 20, 2) := by decide +kernel
theorem dX5_add_6 : decode cX5_add 6 = .ok (.if_icmp .ge 23, 3) := by decide +kernel
theorem dX5_add_9 : decode cX5_add 9 = .ok (.aload_n 0, 1) := by decide +kernel
theorem dX5_add_10 : decode cX5_add 10 = .ok (.getfield 9, 3) := by decide +kernel
theorem dX5_add_13 : decode cX5_add 13 = .ok (.aload_n 0, 1) := by decide +kernel
theorem dX5_add_14 : decode cX5_add 14 = .ok (.getfield 18, 3) := by decide +kernel
theorem dX5_add_17 : decode cX5_add 17 = .ok (.iload_n 1, 1) := by decide +kernel
theorem dX5_add_18 : decode cX5_add 18 = .ok (.iastore, 1) := by decide +kernel
theorem dX5_add_19 : decode cX5_add 19 = .ok (.aload_n 0, 1) := by decide +kernel
theorem dX5_add_20 : decode cX5_add 20 = .ok (.dup, 1) := by decide +kernel
theorem dX5_add_21 : decode cX5_add 21 = .ok (.getfield 18, 3) := by decide +kernel
theorem dX5_add_24 : decode cX5_add 24 = .ok (.iconst 1, 1) := by decide +kernel
theorem dX5_add_25 : decode cX5_add 25 = .ok (.iadd, 1) := by decide +kernel
theorem dX5_add_26 : decode cX5_add 26 = .ok (.putfield 18, 3) := by decide +kernel
theorem dX5_add_29 : decode cX5_add 29 = .ok (.return_, 1) := by decide +kernel
theorem dX5_faultPlace_0 : decode cX5_faultPlace 0 = .ok (.aload_n 0, 1) := by decide +kernel
theorem dX5_faultPlace_1 : decode cX5_faultPlace 1 = .ok (.iconst 0, 1) := by decide +kernel
theorem dX5_faultPlace_2 : decode cX5_faultPlace 2 = .ok (.putfield 22, 3) := by decide +kernel
theorem dX5_faultPlace_5 : decode cX5_faultPlace 5 = .ok (.iconst 0, 1) := by decide +kernel
theorem dX5_faultPlace_6 : decode cX5_faultPlace 6 = .ok (.istore_n 1, 1) := by decide +kernel
theorem dX5_faultPlace_7 : decode cX5_faultPlace 7 = .ok (.iload_n 1, 1) := by decide +kernel
theorem dX5_faultPlace_8 : decode cX5_faultPlace 8 = .ok (.aload_n 0, 1) := by decide +kernel
theorem dX5_faultPlace_9 : decode cX5_faultPlace 9 = .ok (.getfield 18, 3) := by decide +kernel
theorem dX5_faultPlace_12 : decode cX5_faultPlace 12 = .ok (.if_icmp .gt 63, 3) := by decide +kernel
theorem dX5_faultPlace_15 : decode cX5_faultPlace 15 = .ok (.aload_n 0, 1) := by decide +kernel
theorem dX5_faultPlace_16 : decode cX5_faultPlace 16 = .ok (.iload_n 1, 1) := by decide +kernel
theorem dX5_faultPlace_17 : decode cX5_faultPlace 17 = .ok (.invokevirtual 25, 3) := by decide +kernel
theorem dX5_faultPlace_20 : decode cX5_faultPlace 20 = .ok (.istore_n 2, 1) := by decide +kernel
theorem dX5_faultPlace_21 : decode cX5_faultPlace 21 = .ok (.iload_n 2, 1) := by decide +kernel
theorem dX5_faultPlace_22 : decode cX5_faultPlace 22 = .ok (.ifCond .lt 5, 3) := by decide +kernel
theorem dX5_faultPlace_25 : decode cX5_faultPlace 25 = .ok (.iload_n 2, 1) := by decide +kernel
theorem dX5_faultPlace_26 : decode cX5_faultPlace 26 = .ok (.ireturn, 1) := by decide +kernel
theorem dX5_faultPlace_27 : decode cX5_faultPlace 27 = .ok (.iload_n 1, 1) := by decide +kernel
theorem dX5_faultPlace_28 : decode cX5_faultPlace 28 = .ok (.aload_n 0, 1) := by decide +kernel
theorem dX5_faultPlace_29 : decode cX5_faultPlace 29 = .ok (.getfield 9, 3) := by decide +kernel
theorem dX5_faultPlace_32 : decode cX5_faultPlace 32 = .ok (.iload_n 1, 1) := by decide +kernel
theorem dX5_faultPlace_33 : decode cX5_faultPlace 33 = .ok (.iaload, 1) := by decide +kernel
theorem dX5_faultPlace_34 : decode cX5_faultPlace 34 = .ok (.bipush 112, 2) := by decide +kernel
theorem dX5_faultPlace_36 : decode cX5_faultPlace 36 = .ok (.if_icmp .ne 7, 3) := by decide +kernel
theorem dX5_faultPlace_39 : decode cX5_faultPlace 39 = .ok (.iconst 2, 1) := by decide +kernel
theorem dX5_faultPlace_40 : decode cX5_faultPlace 40 = .ok (.goto 4, 3) := by decide +kernel
theorem dX5_faultPlace_43 : decode cX5_faultPlace 43 = .ok (.iconst 1, 1) := by decide +kernel
theorem dX5_faultPlace_44 : decode cX5_faultPlace 44 = .ok (.iadd, 1) := by decide +kernel
theorem dX5_faultPlace_45 : decode cX5_faultPlace 45 = .ok (.istore_n 1, 1) := by decide +kernel
theorem dX5_faultPlace_46 : decode cX5_faultPlace 46 = .ok (.iload_n 1, 1) := by decide +kernel
theorem dX5_faultPlace_47 : decode cX5_faultPlace 47 = .ok (.aload_n 0, 1) := by decide +kernel
theorem dX5_faultPlace_48 : decode cX5_faultPlace 48 = .ok (.getfield 18, 3) := by decide +kernel
theorem dX5_faultPlace_51 : decode cX5_faultPlace 51 = .ok (.if_icmp .lt 5, 3) := by decide +kernel
theorem dX5_faultPlace_54 : decode cX5_faultPlace 54 = .ok (.iconst (-1), 1) := by decide +kernel
theorem dX5_faultPlace_55 : decode cX5_faultPlace 55 = .ok (.ireturn, 1) := by decide +kernel
theorem dX5_faultPlace_56 : decode cX5_faultPlace 56 = .ok (.aload_n 0, 1) := by decide +kernel
theorem dX5_faultPlace_57 : decode cX5_faultPlace 57 = .ok (.getfield 9, 3) := by decide +kernel
theorem dX5_faultPlace_60 : decode cX5_faultPlace 60 = .ok (.iload_n 1, 1) := by decide +kernel
theorem dX5_faultPlace_61 : decode cX5_faultPlace 61 = .ok (.iaload, 1) := by decide +kernel
theorem dX5_faultPlace_62 : decode cX5_faultPlace 62 = .ok (.bipush 43, 2) := by decide +kernel
theorem dX5_faultPlace_64 : decode cX5_faultPlace 64 = .ok (.if_icmp .eq 5, 3) := by decide +kernel
theorem dX5_faultPlace_67 : decode cX5_faultPlace 67 = .ok (.iload_n 1, 1) := by decide +kernel
theorem dX5_faultPlace_68 : decode cX5_faultPlace 68 = .ok (.ireturn, 1) := by decide +kernel
theorem dX5_faultPlace_69 : decode cX5_faultPlace 69 = .ok (.iinc 1 1, 3) := by decide +kernel
theorem dX5_faultPlace_72 : decode cX5_faultPlace 72 = .ok (.goto (-65), 3) := by decide +kernel
theorem dX5_faultPlace_75 : decode cX5_faultPlace 75 = .ok (.aload_n 0, 1) := by decide +kernel
theorem dX5_faultPlace_76 : decode cX5_faultPlace 76 = .ok (.getfield 18, 3) := by decide +kernel
theorem dX5_faultPlace_79 : decode cX5_faultPlace 79 = .ok (.ireturn, 1) := by decide +kernel
theorem dX5_readTerm_0 : decode cX5_readTerm 0 = .ok (.iload_n 1, 1) := by decide +kernel
theorem dX5_readTerm_1 : decode cX5_readTerm 1 = .ok (.aload_n 0, 1) := by decide +kernel
theorem dX5_readTerm_2 : decode cX5_readTerm 2 = .ok (.getfield 18, 3) := by decide +kernel
theorem dX5_readTerm_5 : decode cX5_readTerm 5 = .ok (.if_icmp .ge 11, 3) := by decide +kernel
theorem dX5_readTerm_8 : decode cX5_readTerm 8 = .ok (.aload_n 0, 1) := by decide +kernel
theorem dX5_readTerm_9 : decode cX5_readTerm 9 = .ok (.getfield 22, 3) := by decide +kernel
theorem dX5_readTerm_12 : decode cX5_readTerm 12 = .ok (.iconst 3, 1) := by decide +kernel
theorem dX5_readTerm_13 : decode cX5_readTerm 13 = .ok (.if_icmp .lt 5, 3) := by decide +kernel
theorem dX5_readTerm_16 : decode cX5_readTerm 16 = .ok (.iload_n 1, 1) := by decide +kernel
theorem dX5_readTerm_17 : decode cX5_readTerm 17 = .ok (.ireturn, 1) := by decide +kernel
theorem dX5_readTerm_18 : decode cX5_readTerm 18 = .ok (.aload_n 0, 1) := by decide +kernel
theorem dX5_readTerm_19 : decode cX5_readTerm 19 = .ok (.iload_n 1, 1) := by decide +kernel
theorem dX5_readTerm_20 : decode cX5_readTerm 20 = .ok (.invokevirtual 29, 3) := by decide +kernel
theorem dX5_readTerm_23 : decode cX5_readTerm 23 = .ok (.istore_n 2, 1) := by decide +kernel
theorem dX5_readTerm_24 : decode cX5_readTerm 24 = .ok (.iload_n 2, 1) := by decide +kernel
theorem dX5_readTerm_25 : decode cX5_readTerm 25 = .ok (.ifCond .ge 22, 3) := by decide +kernel
theorem dX5_readTerm_28 : decode cX5_readTerm 28 = .ok (.aload_n 0, 1) := by decide +kernel
theorem dX5_readTerm_29 : decode cX5_readTerm 29 = .ok (.getfield 9, 3) := by decide +kernel
theorem dX5_readTerm_32 : decode cX5_readTerm 32 = .ok (.iload_n 1, 1) := by decide +kernel
theorem dX5_readTerm_33 : decode cX5_readTerm 33 = .ok (.iaload, 1) := by decide +kernel
theorem dX5_readTerm_34 : decode cX5_readTerm 34 = .ok (.bipush 112, 2) := by decide +kernel
theorem dX5_readTerm_36 : decode cX5_readTerm 36 = .ok (.if_icmp .ne 9, 3) := by decide +kernel
theorem dX5_readTerm_39 : decode cX5_readTerm 39 = .ok (.iload_n 1, 1) := by decide +kernel
theorem dX5_readTerm_40 : decode cX5_readTerm 40 = .ok (.iconst 1, 1) := by decide +kernel
theorem dX5_readTerm_41 : decode cX5_readTerm 41 = .ok (.iadd, 1) := by decide +kernel
theorem dX5_readTerm_42 : decode cX5_readTerm 42 = .ok (.goto 4, 3) := by decide +kernel
theorem dX5_readTerm_45 : decode cX5_readTerm 45 = .ok (.iload_n 1, 1) := by decide +kernel
theorem dX5_readTerm_46 : decode cX5_readTerm 46 = .ok (.ireturn, 1) := by decide +kernel
theorem dX5_readTerm_47 : decode cX5_readTerm 47 = .ok (.iconst 0, 1) := by decide +kernel
theorem dX5_readTerm_48 : decode cX5_readTerm 48 = .ok (.istore_n 3, 1) := by decide +kernel
theorem dX5_readTerm_49 : decode cX5_readTerm 49 = .ok (.iload_n 3, 1) := by decide +kernel
theorem dX5_readTerm_50 : decode cX5_readTerm 50 = .ok (.aload_n 0, 1) := by decide +kernel
theorem dX5_readTerm_51 : decode cX5_readTerm 51 = .ok (.getfield 22, 3) := by decide +kernel
theorem dX5_readTerm_54 : decode cX5_readTerm 54 = .ok (.if_icmp .ge 21, 3) := by decide +kernel
theorem dX5_readTerm_57 : decode cX5_readTerm 57 = .ok (.aload_n 0, 1) := by decide +kernel
theorem dX5_readTerm_58 : decode cX5_readTerm 58 = .ok (.getfield 15, 3) := by decide +kernel
theorem dX5_readTerm_61 : decode cX5_readTerm 61 = .ok (.iload_n 3, 1) := by decide +kernel
theorem dX5_readTerm_62 : decode cX5_readTerm 62 = .ok (.iaload, 1) := by decide +kernel
theorem dX5_readTerm_63 : decode cX5_readTerm 63 = .ok (.iload_n 2, 1) := by decide +kernel
theorem dX5_readTerm_64 : decode cX5_readTerm 64 = .ok (.if_icmp .ne 5, 3) := by decide +kernel
theorem dX5_readTerm_67 : decode cX5_readTerm 67 = .ok (.iload_n 1, 1) := by decide +kernel
theorem dX5_readTerm_68 : decode cX5_readTerm 68 = .ok (.ireturn, 1) := by decide +kernel
theorem dX5_readTerm_69 : decode cX5_readTerm 69 = .ok (.iinc 3 1, 3) := by decide +kernel
theorem dX5_readTerm_72 : decode cX5_readTerm 72 = .ok (.goto (-23), 3) := by decide +kernel
theorem dX5_readTerm_75 : decode cX5_readTerm 75 = .ok (.aload_n 0, 1) := by decide +kernel
theorem dX5_readTerm_76 : decode cX5_readTerm 76 = .ok (.getfield 15, 3) := by decide +kernel
theorem dX5_readTerm_79 : decode cX5_readTerm 79 = .ok (.aload_n 0, 1) := by decide +kernel
theorem dX5_readTerm_80 : decode cX5_readTerm 80 = .ok (.getfield 22, 3) := by decide +kernel
theorem dX5_readTerm_83 : decode cX5_readTerm 83 = .ok (.iload_n 2, 1) := by decide +kernel
theorem dX5_readTerm_84 : decode cX5_readTerm 84 = .ok (.iastore, 1) := by decide +kernel
theorem dX5_readTerm_85 : decode cX5_readTerm 85 = .ok (.aload_n 0, 1) := by decide +kernel
theorem dX5_readTerm_86 : decode cX5_readTerm 86 = .ok (.dup, 1) := by decide +kernel
theorem dX5_readTerm_87 : decode cX5_readTerm 87 = .ok (.getfield 22, 3) := by decide +kernel
theorem dX5_readTerm_90 : decode cX5_readTerm 90 = .ok (.iconst 1, 1) := by decide +kernel
theorem dX5_readTerm_91 : decode cX5_readTerm 91 = .ok (.iadd, 1) := by decide +kernel
theorem dX5_readTerm_92 : decode cX5_readTerm 92 = .ok (.putfield 22, 3) := by decide +kernel
theorem dX5_readTerm_95 : decode cX5_readTerm 95 = .ok (.iconst (-1), 1) := by decide +kernel
theorem dX5_readTerm_96 : decode cX5_readTerm 96 = .ok (.ireturn, 1) := by decide +kernel
theorem dX5_termAt_0 : decode cX5_termAt 0 = .ok (.aload_n 0, 1) := by decide +kernel
theorem dX5_termAt_1 : decode cX5_termAt 1 = .ok (.getfield 9, 3) := by decide +kernel
theorem dX5_termAt_4 : decode cX5_termAt 4 = .ok (.iload_n 1, 1) := by decide +kernel
theorem dX5_termAt_5 : decode cX5_termAt 5 = .ok (.iaload, 1) := by decide +kernel
theorem dX5_termAt_6 : decode cX5_termAt 6 = .ok (.lookupswitch 90 #[(101, 42), (108, 46), (111, 44), (112, 48)], 42) := by decide +kernel
theorem dX5_termAt_48 : decode cX5_termAt 48 = .ok (.iconst 0, 1) := by decide +kernel
theorem dX5_termAt_49 : decode cX5_termAt 49 = .ok (.ireturn, 1) := by decide +kernel
theorem dX5_termAt_50 : decode cX5_termAt 50 = .ok (.iconst 1, 1) := by decide +kernel
theorem dX5_termAt_51 : decode cX5_termAt 51 = .ok (.ireturn, 1) := by decide +kernel
theorem dX5_termAt_52 : decode cX5_termAt 52 = .ok (.iconst 2, 1) := by decide +kernel
theorem dX5_termAt_53 : decode cX5_termAt 53 = .ok (.ireturn, 1) := by decide +kernel
theorem dX5_termAt_54 : decode cX5_termAt 54 = .ok (.iload_n 1, 1) := by decide +kernel
theorem dX5_termAt_55 : decode cX5_termAt 55 = .ok (.iconst 1, 1) := by decide +kernel
theorem dX5_termAt_56 : decode cX5_termAt 56 = .ok (.iadd, 1) := by decide +kernel
theorem dX5_termAt_57 : decode cX5_termAt 57 = .ok (.aload_n 0, 1) := by decide +kernel
theorem dX5_termAt_58 : decode cX5_termAt 58 = .ok (.getfield 18, 3) := by decide +kernel
theorem dX5_termAt_61 : decode cX5_termAt 61 = .ok (.if_icmp .ge 17, 3) := by decide +kernel
theorem dX5_termAt_64 : decode cX5_termAt 64 = .ok (.aload_n 0, 1) := by decide +kernel
theorem dX5_termAt_65 : decode cX5_termAt 65 = .ok (.getfield 9, 3) := by decide +kernel
theorem dX5_termAt_68 : decode cX5_termAt 68 = .ok (.iload_n 1, 1) := by decide +kernel
theorem dX5_termAt_69 : decode cX5_termAt 69 = .ok (.iconst 1, 1) := by decide +kernel
theorem dX5_termAt_70 : decode cX5_termAt 70 = .ok (.iadd, 1) := by decide +kernel
theorem dX5_termAt_71 : decode cX5_termAt 71 = .ok (.iaload, 1) := by decide +kernel
theorem dX5_termAt_72 : decode cX5_termAt 72 = .ok (.bipush 48, 2) := by decide +kernel
theorem dX5_termAt_74 : decode cX5_termAt 74 = .ok (.isub, 1) := by decide +kernel
theorem dX5_termAt_75 : decode cX5_termAt 75 = .ok (.goto 4, 3) := by decide +kernel
theorem dX5_termAt_78 : decode cX5_termAt 78 = .ok (.iconst (-1), 1) := by decide +kernel
theorem dX5_termAt_79 : decode cX5_termAt 79 = .ok (.istore_n 2, 1) := by decide +kernel
theorem dX5_termAt_80 : decode cX5_termAt 80 = .ok (.iload_n 2, 1) := by decide +kernel
theorem dX5_termAt_81 : decode cX5_termAt 81 = .ok (.iconst 4, 1) := by decide +kernel
theorem dX5_termAt_82 : decode cX5_termAt 82 = .ok (.invokestatic 32, 3) := by decide +kernel
theorem dX5_termAt_85 : decode cX5_termAt 85 = .ok (.ifCond .eq 9, 3) := by decide +kernel
theorem dX5_termAt_88 : decode cX5_termAt 88 = .ok (.iconst 3, 1) := by decide +kernel
theorem dX5_termAt_89 : decode cX5_termAt 89 = .ok (.iload_n 2, 1) := by decide +kernel
theorem dX5_termAt_90 : decode cX5_termAt 90 = .ok (.iadd, 1) := by decide +kernel
theorem dX5_termAt_91 : decode cX5_termAt 91 = .ok (.goto 4, 3) := by decide +kernel
theorem dX5_termAt_94 : decode cX5_termAt 94 = .ok (.iconst (-1), 1) := by decide +kernel
theorem dX5_termAt_95 : decode cX5_termAt 95 = .ok (.ireturn, 1) := by decide +kernel
theorem dX5_termAt_96 : decode cX5_termAt 96 = .ok (.iconst (-1), 1) := by decide +kernel
theorem dX5_termAt_97 : decode cX5_termAt 97 = .ok (.ireturn, 1) := by decide +kernel
theorem dX6_init_0 : decode cX6_init 0 = .ok (.aload_n 0, 1) := by decide +kernel
theorem dX6_init_1 : decode cX6_init 1 = .ok (.invokespecial 3, 3) := by decide +kernel
theorem dX6_init_4 : decode cX6_init 4 = .ok (.aload_n 0, 1) := by decide +kernel
theorem dX6_init_5 : decode cX6_init 5 = .ok (.bipush 6, 2) := by decide +kernel
theorem dX6_init_7 : decode cX6_init 7 = .ok (.newarray .int, 2) := by decide +kernel
theorem dX6_init_9 : decode cX6_init 9 = .ok (.putfield 9, 3) := by decide +kernel
theorem dX6_init_12 : decode cX6_init 12 = .ok (.aload_n 0, 1) := by decide +kernel
theorem dX6_init_13 : decode cX6_init 13 = .ok (.iconst 4, 1) := by decide +kernel
theorem dX6_init_14 : decode cX6_init 14 = .ok (.newarray .int, 2) := by decide +kernel
theorem dX6_init_16 : decode cX6_init 16 = .ok (.putfield 15, 3) := by decide +kernel
theorem dX6_init_19 : decode cX6_init 19 = .ok (.aload_n 0, 1) := by decide +kernel
theorem dX6_init_20 : decode cX6_init 20 = .ok (.iconst 4, 1) := by decide +kernel
theorem dX6_init_21 : decode cX6_init 21 = .ok (.newarray .int, 2) := by decide +kernel
theorem dX6_init_23 : decode cX6_init 23 = .ok (.putfield 18, 3) := by decide +kernel
theorem dX6_init_26 : decode cX6_init 26 = .ok (.aload_n 0, 1) := by decide +kernel
theorem dX6_init_27 : decode cX6_init 27 = .ok (.iconst 4, 1) := by decide +kernel
theorem dX6_init_28 : decode cX6_init 28 = .ok (.newarray .int, 2) := by decide +kernel
theorem dX6_init_30 : decode cX6_init 30 = .ok (.putfield 21, 3) := by decide +kernel
theorem dX6_init_33 : decode cX6_init 33 = .ok (.return_, 1) := by decide +kernel
theorem dX6_rowOf_0 : decode cX6_rowOf 0 = .ok (.iload_n 1, 1) := by decide +kernel
theorem dX6_rowOf_1 : decode cX6_rowOf 1 = .ok (.tableswitch 42 0 2 #[27, 32, 37], 27) := by decide +kernel
theorem dX6_rowOf_28 : decode cX6_rowOf 28 = .ok (.aload_n 0, 1) := by decide +kernel
theorem dX6_rowOf_29 : decode cX6_rowOf 29 = .ok (.getfield 9, 3) := by decide +kernel
theorem dX6_rowOf_32 : decode cX6_rowOf 32 = .ok (.areturn, 1) := by decide +kernel
theorem dX6_rowOf_33 : decode cX6_rowOf 33 = .ok (.aload_n 0, 1) := by decide +kernel
theorem dX6_rowOf_34 : decode cX6_rowOf 34 = .ok (.getfield 15, 3) := by decide +kernel
theorem dX6_rowOf_37 : decode cX6_rowOf 37 = .ok (.areturn, 1) := by decide +kernel
theorem dX6_rowOf_38 : decode cX6_rowOf 38 = .ok (.aload_n 0, 1) := by decide +kernel
theorem dX6_rowOf_39 : decode cX6_rowOf 39 = .ok (.getfield 18, 3) := by decide +kernel
theorem dX6_rowOf_42 : decode cX6_rowOf 42 = .ok (.areturn, 1) := by decide +kernel
theorem dX6_rowOf_43 : decode cX6_rowOf 43 = .ok (.aload_n 0, 1) := by decide +kernel
theorem dX6_rowOf_44 : decode cX6_rowOf 44 = .ok (.getfield 21, 3) := by decide +kernel
theorem dX6_rowOf_47 : decode cX6_rowOf 47 = .ok (.areturn, 1) := by decide +kernel
theorem dX6_copyFrom_0 : decode cX6_copyFrom 0 = .ok (.iconst 0, 1) := by decide +kernel
theorem dX6_copyFrom_1 : decode cX6_copyFrom 1 = .ok (.istore_n 2, 1) := by decide +kernel
theorem dX6_copyFrom_2 : decode cX6_copyFrom 2 = .ok (.iload_n 2, 1) := by decide +kernel
theorem dX6_copyFrom_3 : decode cX6_copyFrom 3 = .ok (.iconst 3, 1) := by decide +kernel
theorem dX6_copyFrom_4 : decode cX6_copyFrom 4 = .ok (.if_icmp .gt 22, 3) := by decide +kernel
theorem dX6_copyFrom_7 : decode cX6_copyFrom 7 = .ok (.aload_n 1, 1) := by decide +kernel
theorem dX6_copyFrom_8 : decode cX6_copyFrom 8 = .ok (.iload_n 2, 1) := by decide +kernel
theorem dX6_copyFrom_9 : decode cX6_copyFrom 9 = .ok (.invokevirtual 24, 3) := by decide +kernel
theorem dX6_copyFrom_12 : decode cX6_copyFrom 12 = .ok (.aload_n 0, 1) := by decide +kernel
theorem dX6_copyFrom_13 : decode cX6_copyFrom 13 = .ok (.iload_n 2, 1) := by decide +kernel
theorem dX6_copyFrom_14 : decode cX6_copyFrom 14 = .ok (.invokevirtual 24, 3) := by decide +kernel
theorem dX6_copyFrom_17 : decode cX6_copyFrom 17 = .ok (.invokestatic 28, 3) := by decide +kernel
theorem dX6_copyFrom_20 : decode cX6_copyFrom 20 = .ok (.iinc 2 1, 3) := by decide +kernel
theorem dX6_copyFrom_23 : decode cX6_copyFrom 23 = .ok (.goto (-21), 3) := by decide +kernel
theorem dX6_copyFrom_26 : decode cX6_copyFrom 26 = .ok (.return_, 1) := by decide +kernel
theorem dX7_init_0 : decode cX7_init 0 = .ok (.aload_n 0, 1) := by decide +kernel
theorem dX7_init_1 : decode cX7_init 1 = .ok (.invokespecial 3, 3) := by decide +kernel
theorem dX7_init_4 : decode cX7_init 4 = .ok (.aload_n 0, 1) := by decide +kernel
theorem dX7_init_5 : decode cX7_init 5 = .ok (.bipush 96, 2) := by decide +kernel
theorem dX7_init_7 : decode cX7_init 7 = .ok (.newarray .long, 2) := by decide +kernel
theorem dX7_init_9 : decode cX7_init 9 = .ok (.putfield 9, 3) := by decide +kernel
theorem dX7_init_12 : decode cX7_init 12 = .ok (.aload_n 0, 1) := by decide +kernel
theorem dX7_init_13 : decode cX7_init 13 = .ok (.sipush 336, 3) := by decide +kernel
theorem dX7_init_16 : decode cX7_init 16 = .ok (.newarray .long, 2) := by decide +kernel
theorem dX7_init_18 : decode cX7_init 18 = .ok (.putfield 15, 3) := by decide +kernel
theorem dX7_init_21 : decode cX7_init 21 = .ok (.aload_n 0, 1) := by decide +kernel
theorem dX7_init_22 : decode cX7_init 22 = .ok (.iconst 4, 1) := by decide +kernel
theorem dX7_init_23 : decode cX7_init 23 = .ok (.newarray .int, 2) := by decide +kernel
theorem dX7_init_25 : decode cX7_init 25 = .ok (.putfield 18, 3) := by decide +kernel
theorem dX7_init_28 : decode cX7_init 28 = .ok (.aload_n 0, 1) := by decide +kernel
theorem dX7_init_29 : decode cX7_init 29 = .ok (.aload_n 1, 1) := by decide +kernel
theorem dX7_init_30 : decode cX7_init 30 = .ok (.putfield 22, 3) := by decide +kernel
theorem dX7_init_33 : decode cX7_init 33 = .ok (.return_, 1) := by decide +kernel
theorem dX7_hear_0 : decode cX7_hear 0 = .ok (.iconst 0, 1) := by decide +kernel
theorem dX7_hear_1 : decode cX7_hear 1 = .ok (.istore 6, 2) := by decide +kernel
theorem dX7_hear_3 : decode cX7_hear 3 = .ok (.iload 6, 2) := by decide +kernel
theorem dX7_hear_5 : decode cX7_hear 5 = .ok (.iload 4, 2) := by decide +kernel
theorem dX7_hear_7 : decode cX7_hear 7 = .ok (.if_icmp .ge 36, 3) := by decide +kernel
theorem dX7_hear_10 : decode cX7_hear 10 = .ok (.aload_n 0, 1) := by decide +kernel
theorem dX7_hear_11 : decode cX7_hear 11 = .ok (.getfield 9, 3) := by decide +kernel
theorem dX7_hear_14 : decode cX7_hear 14 = .ok (.iload_n 1, 1) := by decide +kernel
theorem dX7_hear_15 : decode cX7_hear 15 = .ok (.bipush 12, 2) := by decide +kernel
theorem dX7_hear_17 : decode cX7_hear 17 = .ok (.imul, 1) := by decide +kernel
theorem dX7_hear_18 : decode cX7_hear 18 = .ok (.iload 6, 2) := by decide +kernel
theorem dX7_hear_20 : decode cX7_hear 20 = .ok (.iadd, 1) := by decide +kernel
theorem dX7_hear_21 : decode cX7_hear 21 = .ok (.aload_n 0, 1) := by decide +kernel
theorem dX7_hear_22 : decode cX7_hear 22 = .ok (.getfield 22, 3) := by decide +kernel
theorem dX7_hear_25 : decode cX7_hear 25 = .ok (.iload_n 1, 1) := by decide +kernel
theorem dX7_hear_26 : decode cX7_hear 26 = .ok (.iload_n 2, 1) := by decide +kernel
theorem dX7_hear_27 : decode cX7_hear 27 = .ok (.iload_n 3, 1) := by decide +kernel
theorem dX7_hear_28 : decode cX7_hear 28 = .ok (.iload 6, 2) := by decide +kernel
theorem dX7_hear_30 : decode cX7_hear 30 = .ok (.iadd, 1) := by decide +kernel
theorem dX7_hear_31 : decode cX7_hear 31 = .ok (.iload 5, 2) := by decide +kernel
theorem dX7_hear_33 : decode cX7_hear 33 = .ok (.invokevirtual 26, 3) := by decide +kernel
theorem dX7_hear_36 : decode cX7_hear 36 = .ok (.lastore, 1) := by decide +kernel
theorem dX7_hear_37 : decode cX7_hear 37 = .ok (.iinc 6 1, 3) := by decide +kernel
theorem dX7_hear_40 : decode cX7_hear 40 = .ok (.goto (-37), 3) := by decide +kernel
theorem dX7_hear_43 : decode cX7_hear 43 = .ok (.return_, 1) := by decide +kernel
theorem dX7_compareTables_0 : decode cX7_compareTables 0 = .ok (.aload_n 0, 1) := by decide +kernel
theorem dX7_compareTables_1 : decode cX7_compareTables 1 = .ok (.iconst 0, 1) := by decide +kernel
theorem dX7_compareTables_2 : decode cX7_compareTables 2 = .ok (.putfield 32, 3) := by decide +kernel
theorem dX7_compareTables_5 : decode cX7_compareTables 5 = .ok (.iconst 0, 1) := by decide +kernel
theorem dX7_compareTables_6 : decode cX7_compareTables 6 = .ok (.istore_n 2, 1) := by decide +kernel
theorem dX7_compareTables_7 : decode cX7_compareTables 7 = .ok (.iload_n 2, 1) := by decide +kernel
theorem dX7_compareTables_8 : decode cX7_compareTables 8 = .ok (.aload_n 0, 1) := by decide +kernel
theorem dX7_compareTables_9 : decode cX7_compareTables 9 = .ok (.getfield 22, 3) := by decide +kernel
theorem dX7_compareTables_12 : decode cX7_compareTables 12 = .ok (.getfield 36, 3) := by decide +kernel
theorem dX7_compareTables_15 : decode cX7_compareTables 15 = .ok (.getfield 40, 3) := by decide +kernel
theorem dX7_compareTables_18 : decode cX7_compareTables 18 = .ok (.if_icmp .ge 90, 3) := by decide +kernel
theorem dX7_compareTables_21 : decode cX7_compareTables 21 = .ok (.iconst 0, 1) := by decide +kernel
theorem dX7_compareTables_22 : decode cX7_compareTables 22 = .ok (.istore_n 3, 1) := by decide +kernel
theorem dX7_compareTables_23 : decode cX7_compareTables 23 = .ok (.iload_n 3, 1) := by decide +kernel
theorem dX7_compareTables_24 : decode cX7_compareTables 24 = .ok (.iload_n 2, 1) := by decide +kernel
theorem dX7_compareTables_25 : decode cX7_compareTables 25 = .ok (.if_icmp .ge 77, 3) := by decide +kernel
theorem dX7_compareTables_28 : decode cX7_compareTables 28 = .ok (.iconst 0, 1) := by decide +kernel
theorem dX7_compareTables_29 : decode cX7_compareTables 29 = .ok (.istore 4, 2) := by decide +kernel
theorem dX7_compareTables_31 : decode cX7_compareTables 31 = .ok (.iload 4, 2) := by decide +kernel
theorem dX7_compareTables_33 : decode cX7_compareTables 33 = .ok (.iload_n 1, 1) := by decide +kernel
theorem dX7_compareTables_34 : decode cX7_compareTables 34 = .ok (.if_icmp .ge 52, 3) := by decide +kernel
theorem dX7_compareTables_37 : decode cX7_compareTables 37 = .ok (.aload_n 0, 1) := by decide +kernel
theorem dX7_compareTables_38 : decode cX7_compareTables 38 = .ok (.getfield 15, 3) := by decide +kernel
theorem dX7_compareTables_41 : decode cX7_compareTables 41 = .ok (.aload_n 0, 1) := by decide +kernel
theorem dX7_compareTables_42 : decode cX7_compareTables 42 = .ok (.getfield 32, 3) := by decide +kernel
theorem dX7_compareTables_45 : decode cX7_compareTables 45 = .ok (.bipush 12, 2) := by decide +kernel
theorem dX7_compareTables_47 : decode cX7_compareTables 47 = .ok (.imul, 1) := by decide +kernel
theorem dX7_compareTables_48 : decode cX7_compareTables 48 = .ok (.iload 4, 2) := by decide +kernel
theorem dX7_compareTables_50 : decode cX7_compareTables 50 = .ok (.iadd, 1) := by decide +kernel
theorem dX7_compareTables_51 : decode cX7_compareTables 51 = .ok (.aload_n 0, 1) := by decide +kernel
theorem dX7_compareTables_52 : decode cX7_compareTables 52 = .ok (.getfield 9, 3) := by decide +kernel
theorem dX7_compareTables_55 : decode cX7_compareTables 55 = .ok (.iload_n 2, 1) := by decide +kernel
theorem dX7_compareTables_56 : decode cX7_compareTables 56 = .ok (.bipush 12, 2) := by decide +kernel
theorem dX7_compareTables_58 : decode cX7_compareTables 58 = .ok (.imul, 1) := by decide +kernel
theorem dX7_compareTables_59 : decode cX7_compareTables 59 = .ok (.iload 4, 2) := by decide +kernel
theorem dX7_compareTables_61 : decode cX7_compareTables 61 = .ok (.iadd, 1) := by decide +kernel
theorem dX7_compareTables_62 : decode cX7_compareTables 62 = .ok (.laload, 1) := by decide +kernel
theorem dX7_compareTables_63 : decode cX7_compareTables 63 = .ok (.aload_n 0, 1) := by decide +kernel
theorem dX7_compareTables_64 : decode cX7_compareTables 64 = .ok (.getfield 9, 3) := by decide +kernel
theorem dX7_compareTables_67 : decode cX7_compareTables 67 = .ok (.iload_n 3, 1) := by decide +kernel
theorem dX7_compareTables_68 : decode cX7_compareTables 68 = .ok (.bipush 12, 2) := by decide +kernel
theorem dX7_compareTables_70 : decode cX7_compareTables 70 = .ok (.imul, 1) := by decide +kernel
theorem dX7_compareTables_71 : decode cX7_compareTables 71 = .ok (.iload 4, 2) := by decide +kernel
theorem dX7_compareTables_73 : decode cX7_compareTables 73 = .ok (.iadd, 1) := by decide +kernel
theorem dX7_compareTables_74 : decode cX7_compareTables 74 = .ok (.laload, 1) := by decide +kernel
theorem dX7_compareTables_75 : decode cX7_compareTables 75 = .ok (.lsub, 1) := by decide +kernel
theorem dX7_compareTables_76 : decode cX7_compareTables 76 = .ok (.invokestatic 45, 3) := by decide +kernel
theorem dX7_compareTables_79 : decode cX7_compareTables 79 = .ok (.lastore, 1) := by decide +kernel
theorem dX7_compareTables_80 : decode cX7_compareTables 80 = .ok (.iinc 4 1, 3) := by decide +kernel
theorem dX7_compareTables_83 : decode cX7_compareTables 83 = .ok (.goto (-52), 3) := by decide +kernel
theorem dX7_compareTables_86 : decode cX7_compareTables 86 = .ok (.aload_n 0, 1) := by decide +kernel
theorem dX7_compareTables_87 : decode cX7_compareTables 87 = .ok (.dup, 1) := by decide +kernel
theorem dX7_compareTables_88 : decode cX7_compareTables 88 = .ok (.getfield 32, 3) := by decide +kernel
theorem dX7_compareTables_91 : decode cX7_compareTables 91 = .ok (.iconst 1, 1) := by decide +kernel
theorem dX7_compareTables_92 : decode cX7_compareTables 92 = .ok (.iadd, 1) := by decide +kernel
theorem dX7_compareTables_93 : decode cX7_compareTables 93 = .ok (.putfield 32, 3) := by decide +kernel
theorem dX7_compareTables_96 : decode cX7_compareTables 96 = .ok (.iinc 3 1, 3) := by decide +kernel
theorem dX7_compareTables_99 : decode cX7_compareTables 99 = .ok (.goto (-76), 3) := by decide +kernel
theorem dX7_compareTables_102 : decode cX7_compareTables 102 = .ok (.iinc 2 1, 3) := by decide +kernel
theorem dX7_compareTables_105 : decode cX7_compareTables 105 = .ok (.goto (-98), 3) := by decide +kernel
theorem dX7_compareTables_108 : decode cX7_compareTables 108 = .ok (.return_, 1) := by decide +kernel
theorem dX7_bestNights_0 : decode cX7_bestNights 0 = .ok (.ldc2_w 51, 3) := by decide +kernel
theorem dX7_bestNights_3 : decode cX7_bestNights 3 = .ok (.lstore_n 3, 1) := by decide +kernel
theorem dX7_bestNights_4 : decode cX7_bestNights 4 = .ok (.iconst 0, 1) := by decide +kernel
theorem dX7_bestNights_5 : decode cX7_bestNights 5 = .ok (.istore 5, 2) := by decide +kernel
theorem dX7_bestNights_7 : decode cX7_bestNights 7 = .ok (.iconst 0, 1) := by decide +kernel
theorem dX7_bestNights_8 : decode cX7_bestNights 8 = .ok (.istore 6, 2) := by decide +kernel
theorem dX7_bestNights_10 : decode cX7_bestNights 10 = .ok (.iload 6, 2) := by decide +kernel
theorem dX7_bestNights_12 : decode cX7_bestNights 12 = .ok (.iconst 1, 1) := by decide +kernel
theorem dX7_bestNights_13 : decode cX7_bestNights 13 = .ok (.iload_n 1, 1) := by decide +kernel
theorem dX7_bestNights_14 : decode cX7_bestNights 14 = .ok (.ishl, 1) := by decide +kernel
theorem dX7_bestNights_15 : decode cX7_bestNights 15 = .ok (.if_icmp .ge 46, 3) := by decide +kernel
theorem dX7_bestNights_18 : decode cX7_bestNights 18 = .ok (.iload 6, 2) := by decide +kernel
theorem dX7_bestNights_20 : decode cX7_bestNights 20 = .ok (.invokestatic 53, 3) := by decide +kernel
theorem dX7_bestNights_23 : decode cX7_bestNights 23 = .ok (.iload_n 2, 1) := by decide +kernel
theorem dX7_bestNights_24 : decode cX7_bestNights 24 = .ok (.if_icmp .ne 31, 3) := by decide +kernel
theorem dX7_bestNights_27 : decode cX7_bestNights 27 = .ok (.aload_n 0, 1) := by decide +kernel
theorem dX7_bestNights_28 : decode cX7_bestNights 28 = .ok (.iload 6, 2) := by decide +kernel
theorem dX7_bestNights_30 : decode cX7_bestNights 30 = .ok (.iload_n 1, 1) := by decide +kernel
theorem dX7_bestNights_31 : decode cX7_bestNights 31 = .ok (.invokevirtual 59, 3) := by decide +kernel
theorem dX7_bestNights_34 : decode cX7_bestNights 34 = .ok (.aload_n 0, 1) := by decide +kernel
theorem dX7_bestNights_35 : decode cX7_bestNights 35 = .ok (.iload_n 2, 1) := by decide +kernel
theorem dX7_bestNights_36 : decode cX7_bestNights 36 = .ok (.invokevirtual 63, 3) := by decide +kernel
theorem dX7_bestNights_39 : decode cX7_bestNights 39 = .ok (.lstore 7, 2) := by decide +kernel
theorem dX7_bestNights_41 : decode cX7_bestNights 41 = .ok (.lload 7, 2) := by decide +kernel
theorem dX7_bestNights_43 : decode cX7_bestNights 43 = .ok (.lload_n 3, 1) := by decide +kernel
theorem dX7_bestNights_44 : decode cX7_bestNights 44 = .ok (.lcmp, 1) := by decide +kernel
theorem dX7_bestNights_45 : decode cX7_bestNights 45 = .ok (.ifCond .le 10, 3) := by decide +kernel
theorem dX7_bestNights_48 : decode cX7_bestNights 48 = .ok (.lload 7, 2) := by decide +kernel
theorem dX7_bestNights_50 : decode cX7_bestNights 50 = .ok (.lstore_n 3, 1) := by decide +kernel
theorem dX7_bestNights_51 : decode cX7_bestNights 51 = .ok (.iload 6, 2) := by decide +kernel
theorem dX7_bestNights_53 : decode cX7_bestNights 53 = .ok (.istore 5, 2) := by decide +kernel
theorem dX7_bestNights_55 : decode cX7_bestNights 55 = .ok (.iinc 6 1, 3) := by decide +kernel
theorem dX7_bestNights_58 : decode cX7_bestNights 58 = .ok (.goto (-48), 3) := by decide +kernel
theorem dX7_bestNights_61 : decode cX7_bestNights 61 = .ok (.iload 5, 2) := by decide +kernel
theorem dX7_bestNights_63 : decode cX7_bestNights 63 = .ok (.ireturn, 1) := by decide +kernel
theorem dX7_pick_0 : decode cX7_pick 0 = .ok (.iconst 0, 1) := by decide +kernel
theorem dX7_pick_1 : decode cX7_pick 1 = .ok (.istore_n 3, 1) := by decide +kernel
theorem dX7_pick_2 : decode cX7_pick 2 = .ok (.iconst 0, 1) := by decide +kernel
theorem dX7_pick_3 : decode cX7_pick 3 = .ok (.istore 4, 2) := by decide +kernel
theorem dX7_pick_5 : decode cX7_pick 5 = .ok (.iload 4, 2) := by decide +kernel
theorem dX7_pick_7 : decode cX7_pick 7 = .ok (.iload_n 2, 1) := by decide +kernel
theorem dX7_pick_8 : decode cX7_pick 8 = .ok (.if_icmp .ge 35, 3) := by decide +kernel
theorem dX7_pick_11 : decode cX7_pick 11 = .ok (.iload_n 3, 1) := by decide +kernel
theorem dX7_pick_12 : decode cX7_pick 12 = .ok (.iconst 4, 1) := by decide +kernel
theorem dX7_pick_13 : decode cX7_pick 13 = .ok (.if_icmp .ge 30, 3) := by decide +kernel
theorem dX7_pick_16 : decode cX7_pick 16 = .ok (.iload_n 1, 1) := by decide +kernel
theorem dX7_pick_17 : decode cX7_pick 17 = .ok (.iload 4, 2) := by decide +kernel
theorem dX7_pick_19 : decode cX7_pick 19 = .ok (.ishr, 1) := by decide +kernel
theorem dX7_pick_20 : decode cX7_pick 20 = .ok (.iconst 1, 1) := by decide +kernel
theorem dX7_pick_21 : decode cX7_pick 21 = .ok (.iand, 1) := by decide +kernel
theorem dX7_pick_22 : decode cX7_pick 22 = .ok (.iconst 1, 1) := by decide +kernel
theorem dX7_pick_23 : decode cX7_pick 23 = .ok (.if_icmp .ne 14, 3) := by decide +kernel
theorem dX7_pick_26 : decode cX7_pick 26 = .ok (.aload_n 0, 1) := by decide +kernel
theorem dX7_pick_27 : decode cX7_pick 27 = .ok (.getfield 18, 3) := by decide +kernel
theorem dX7_pick_30 : decode cX7_pick 30 = .ok (.iload_n 3, 1) := by decide +kernel
theorem dX7_pick_31 : decode cX7_pick 31 = .ok (.iload 4, 2) := by decide +kernel
theorem dX7_pick_33 : decode cX7_pick 33 = .ok (.iastore, 1) := by decide +kernel
theorem dX7_pick_34 : decode cX7_pick 34 = .ok (.iinc 3 1, 3) := by decide +kernel
theorem dX7_pick_37 : decode cX7_pick 37 = .ok (.iinc 4 1, 3) := by decide +kernel
theorem dX7_pick_40 : decode cX7_pick 40 = .ok (.goto (-35), 3) := by decide +kernel
theorem dX7_pick_43 : decode cX7_pick 43 = .ok (.return_, 1) := by decide +kernel
theorem dX7_gapsOfPicked_0 : decode cX7_gapsOfPicked 0 = .ok (.lconst 0, 1) := by decide +kernel
theorem dX7_gapsOfPicked_1 : decode cX7_gapsOfPicked 1 = .ok (.lstore_n 2, 1) := by decide +kernel
theorem dX7_gapsOfPicked_2 : decode cX7_gapsOfPicked 2 = .ok (.iconst 0, 1) := by decide +kernel
theorem dX7_gapsOfPicked_3 : decode cX7_gapsOfPicked 3 = .ok (.istore 4, 2) := by decide +kernel
theorem dX7_gapsOfPicked_5 : decode cX7_gapsOfPicked 5 = .ok (.iload 4, 2) := by decide +kernel
theorem dX7_gapsOfPicked_7 : decode cX7_gapsOfPicked 7 = .ok (.aload_n 0, 1) := by decide +kernel
theorem dX7_gapsOfPicked_8 : decode cX7_gapsOfPicked 8 = .ok (.getfield 32, 3) := by decide +kernel
theorem dX7_gapsOfPicked_11 : decode cX7_gapsOfPicked 11 = .ok (.if_icmp .ge 57, 3) := by decide +kernel
theorem dX7_gapsOfPicked_14 : decode cX7_gapsOfPicked 14 = .ok (.lconst 0, 1) := by decide +kernel
theorem dX7_gapsOfPicked_15 : decode cX7_gapsOfPicked 15 = .ok (.lstore 5, 2) := by decide +kernel
theorem dX7_gapsOfPicked_17 : decode cX7_gapsOfPicked 17 = .ok (.iconst 0, 1) := by decide +kernel
theorem dX7_gapsOfPicked_18 : decode cX7_gapsOfPicked 18 = .ok (.istore 7, 2) := by decide +kernel
theorem dX7_gapsOfPicked_20 : decode cX7_gapsOfPicked 20 = .ok (.iload 7, 2) := by decide +kernel
theorem dX7_gapsOfPicked_22 : decode cX7_gapsOfPicked 22 = .ok (.iload_n 1, 1) := by decide +kernel
theorem dX7_gapsOfPicked_23 : decode cX7_gapsOfPicked 23 = .ok (.if_icmp .ge 34, 3) := by decide +kernel
theorem dX7_gapsOfPicked_26 : decode cX7_gapsOfPicked 26 = .ok (.lload 5, 2) := by decide +kernel
theorem dX7_gapsOfPicked_28 : decode cX7_gapsOfPicked 28 = .ok (.aload_n 0, 1) := by decide +kernel
theorem dX7_gapsOfPicked_29 : decode cX7_gapsOfPicked 29 = .ok (.getfield 15, 3) := by decide +kernel
theorem dX7_gapsOfPicked_32 : decode cX7_gapsOfPicked 32 = .ok (.iload 4, 2) := by decide +kernel
theorem dX7_gapsOfPicked_34 : decode cX7_gapsOfPicked 34 = .ok (.bipush 12, 2) := by decide +kernel
theorem dX7_gapsOfPicked_36 : decode cX7_gapsOfPicked 36 = .ok (.imul, 1) := by decide +kernel
theorem dX7_gapsOfPicked_37 : decode cX7_gapsOfPicked 37 = .ok (.aload_n 0, 1) := by decide +kernel
theorem dX7_gapsOfPicked_38 : decode cX7_gapsOfPicked 38 = .ok (.getfield 18, 3) := by decide +kernel
theorem dX7_gapsOfPicked_41 : decode cX7_gapsOfPicked 41 = .ok (.iload 7, 2) := by decide +kernel
theorem dX7_gapsOfPicked_43 : decode cX7_gapsOfPicked 43 = .ok (.iaload, 1) := by decide +kernel
theorem dX7_gapsOfPicked_44 : decode cX7_gapsOfPicked 44 = .ok (.iadd, 1) := by decide +kernel
theorem dX7_gapsOfPicked_45 : decode cX7_gapsOfPicked 45 = .ok (.laload, 1) := by decide +kernel
theorem dX7_gapsOfPicked_46 : decode cX7_gapsOfPicked 46 = .ok (.invokestatic 67, 3) := by decide +kernel
theorem dX7_gapsOfPicked_49 : decode cX7_gapsOfPicked 49 = .ok (.lstore 5, 2) := by decide +kernel
theorem dX7_gapsOfPicked_51 : decode cX7_gapsOfPicked 51 = .ok (.iinc 7 1, 3) := by decide +kernel
theorem dX7_gapsOfPicked_54 : decode cX7_gapsOfPicked 54 = .ok (.goto (-34), 3) := by decide +kernel
theorem dX7_gapsOfPicked_57 : decode cX7_gapsOfPicked 57 = .ok (.lload_n 2, 1) := by decide +kernel
theorem dX7_gapsOfPicked_58 : decode cX7_gapsOfPicked 58 = .ok (.lload 5, 2) := by decide +kernel
theorem dX7_gapsOfPicked_60 : decode cX7_gapsOfPicked 60 = .ok (.ladd, 1) := by decide +kernel
theorem dX7_gapsOfPicked_61 : decode cX7_gapsOfPicked 61 = .ok (.lstore_n 2, 1) := by decide +kernel
theorem dX7_gapsOfPicked_62 : decode cX7_gapsOfPicked 62 = .ok (.iinc 4 1, 3) := by decide +kernel
theorem dX7_gapsOfPicked_65 : decode cX7_gapsOfPicked 65 = .ok (.goto (-60), 3) := by decide +kernel
theorem dX7_gapsOfPicked_68 : decode cX7_gapsOfPicked 68 = .ok (.lload_n 2, 1) := by decide +kernel
theorem dX7_gapsOfPicked_69 : decode cX7_gapsOfPicked 69 = .ok (.lreturn, 1) := by decide +kernel
theorem dX8_init_0 : decode cX8_init 0 = .ok (.aload_n 0, 1) := by decide +kernel
theorem dX8_init_1 : decode cX8_init 1 = .ok (.invokespecial 3, 3) := by decide +kernel
theorem dX8_init_4 : decode cX8_init 4 = .ok (.aload_n 0, 1) := by decide +kernel
theorem dX8_init_5 : decode cX8_init 5 = .ok (.iconst 5, 1) := by decide +kernel
theorem dX8_init_6 : decode cX8_init 6 = .ok (.newarray .int, 2) := by decide +kernel
theorem dX8_init_8 : decode cX8_init 8 = .ok (.dup, 1) := by decide +kernel
theorem dX8_init_9 : decode cX8_init 9 = .ok (.iconst 0, 1) := by decide +kernel
theorem dX8_init_10 : decode cX8_init 10 = .ok (.iconst 0, 1) := by decide +kernel
theorem dX8_init_11 : decode cX8_init 11 = .ok (.iastore, 1) := by decide +kernel
theorem dX8_init_12 : decode cX8_init 12 = .ok (.dup, 1) := by decide +kernel
theorem dX8_init_13 : decode cX8_init 13 = .ok (.iconst 1, 1) := by decide +kernel
theorem dX8_init_14 : decode cX8_init 14 = .ok (.ldc 9, 2) := by decide +kernel
theorem dX8_init_16 : decode cX8_init 16 = .ok (.iastore, 1) := by decide +kernel
theorem dX8_init_17 : decode cX8_init 17 = .ok (.dup, 1) := by decide +kernel
theorem dX8_init_18 : decode cX8_init 18 = .ok (.iconst 2, 1) := by decide +kernel
theorem dX8_init_19 : decode cX8_init 19 = .ok (.bipush 10, 2) := by decide +kernel
theorem dX8_init_21 : decode cX8_init 21 = .ok (.iastore, 1) := by decide +kernel
theorem dX8_init_22 : decode cX8_init 22 = .ok (.dup, 1) := by decide +kernel
theorem dX8_init_23 : decode cX8_init 23 = .ok (.iconst 3, 1) := by decide +kernel
theorem dX8_init_24 : decode cX8_init 24 = .ok (.bipush 50, 2) := by decide +kernel
theorem dX8_init_26 : decode cX8_init 26 = .ok (.iastore, 1) := by decide +kernel
theorem dX8_init_27 : decode cX8_init 27 = .ok (.dup, 1) := by decide +kernel
theorem dX8_init_28 : decode cX8_init 28 = .ok (.iconst 4, 1) := by decide +kernel
theorem dX8_init_29 : decode cX8_init 29 = .ok (.bipush 60, 2) := by decide +kernel
theorem dX8_init_31 : decode cX8_init 31 = .ok (.iastore, 1) := by decide +kernel
theorem dX8_init_32 : decode cX8_init 32 = .ok (.putfield 10, 3) := by decide +kernel
theorem dX8_init_35 : decode cX8_init 35 = .ok (.aload_n 0, 1) := by decide +kernel
theorem dX8_init_36 : decode cX8_init 36 = .ok (.new 16, 3) := by decide +kernel
theorem dX8_init_39 : decode cX8_init 39 = .ok (.dup, 1) := by decide +kernel
theorem dX8_init_40 : decode cX8_init 40 = .ok (.invokespecial 18, 3) := by decide +kernel
theorem dX8_init_43 : decode cX8_init 43 = .ok (.putfield 19, 3) := by decide +kernel
theorem dX8_init_46 : decode cX8_init 46 = .ok (.aload_n 0, 1) := by decide +kernel
theorem dX8_init_47 : decode cX8_init 47 = .ok (.new 23, 3) := by decide +kernel
theorem dX8_init_50 : decode cX8_init 50 = .ok (.dup, 1) := by decide +kernel
theorem dX8_init_51 : decode cX8_init 51 = .ok (.invokespecial 25, 3) := by decide +kernel
theorem dX8_init_54 : decode cX8_init 54 = .ok (.putfield 26, 3) := by decide +kernel
theorem dX8_init_57 : decode cX8_init 57 = .ok (.aload_n 0, 1) := by decide +kernel
theorem dX8_init_58 : decode cX8_init 58 = .ok (.new 30, 3) := by decide +kernel
theorem dX8_init_61 : decode cX8_init 61 = .ok (.dup, 1) := by decide +kernel
theorem dX8_init_62 : decode cX8_init 62 = .ok (.invokespecial 32, 3) := by decide +kernel
theorem dX8_init_65 : decode cX8_init 65 = .ok (.putfield 33, 3) := by decide +kernel
theorem dX8_init_68 : decode cX8_init 68 = .ok (.aload_n 0, 1) := by decide +kernel
theorem dX8_init_69 : decode cX8_init 69 = .ok (.new 37, 3) := by decide +kernel
theorem dX8_init_72 : decode cX8_init 72 = .ok (.dup, 1) := by decide +kernel
theorem dX8_init_73 : decode cX8_init 73 = .ok (.invokespecial 39, 3) := by decide +kernel
theorem dX8_init_76 : decode cX8_init 76 = .ok (.putfield 40, 3) := by decide +kernel
theorem dX8_init_79 : decode cX8_init 79 = .ok (.return_, 1) := by decide +kernel
theorem dX8_copyFrom_0 : decode cX8_copyFrom 0 = .ok (.aload_n 1, 1) := by decide +kernel
theorem dX8_copyFrom_1 : decode cX8_copyFrom 1 = .ok (.getfield 10, 3) := by decide +kernel
theorem dX8_copyFrom_4 : decode cX8_copyFrom 4 = .ok (.aload_n 0, 1) := by decide +kernel
theorem dX8_copyFrom_5 : decode cX8_copyFrom 5 = .ok (.getfield 10, 3) := by decide +kernel
theorem dX8_copyFrom_8 : decode cX8_copyFrom 8 = .ok (.invokestatic 44, 3) := by decide +kernel
theorem dX8_copyFrom_11 : decode cX8_copyFrom 11 = .ok (.aload_n 0, 1) := by decide +kernel
theorem dX8_copyFrom_12 : decode cX8_copyFrom 12 = .ok (.getfield 19, 3) := by decide +kernel
theorem dX8_copyFrom_15 : decode cX8_copyFrom 15 = .ok (.aload_n 1, 1) := by decide +kernel
theorem dX8_copyFrom_16 : decode cX8_copyFrom 16 = .ok (.getfield 19, 3) := by decide +kernel
theorem dX8_copyFrom_19 : decode cX8_copyFrom 19 = .ok (.invokevirtual 48, 3) := by decide +kernel
theorem dX8_copyFrom_22 : decode cX8_copyFrom 22 = .ok (.aload_n 0, 1) := by decide +kernel
theorem dX8_copyFrom_23 : decode cX8_copyFrom 23 = .ok (.getfield 26, 3) := by decide +kernel
theorem dX8_copyFrom_26 : decode cX8_copyFrom 26 = .ok (.aload_n 1, 1) := by decide +kernel
theorem dX8_copyFrom_27 : decode cX8_copyFrom 27 = .ok (.getfield 26, 3) := by decide +kernel
theorem dX8_copyFrom_30 : decode cX8_copyFrom 30 = .ok (.invokevirtual 52, 3) := by decide +kernel
theorem dX8_copyFrom_33 : decode cX8_copyFrom 33 = .ok (.aload_n 0, 1) := by decide +kernel
theorem dX8_copyFrom_34 : decode cX8_copyFrom 34 = .ok (.getfield 33, 3) := by decide +kernel
theorem dX8_copyFrom_37 : decode cX8_copyFrom 37 = .ok (.aload_n 1, 1) := by decide +kernel
theorem dX8_copyFrom_38 : decode cX8_copyFrom 38 = .ok (.getfield 33, 3) := by decide +kernel
theorem dX8_copyFrom_41 : decode cX8_copyFrom 41 = .ok (.invokevirtual 55, 3) := by decide +kernel
theorem dX8_copyFrom_44 : decode cX8_copyFrom 44 = .ok (.aload_n 0, 1) := by decide +kernel
theorem dX8_copyFrom_45 : decode cX8_copyFrom 45 = .ok (.getfield 40, 3) := by decide +kernel
theorem dX8_copyFrom_48 : decode cX8_copyFrom 48 = .ok (.aload_n 1, 1) := by decide +kernel
theorem dX8_copyFrom_49 : decode cX8_copyFrom 49 = .ok (.getfield 40, 3) := by decide +kernel
theorem dX8_copyFrom_52 : decode cX8_copyFrom 52 = .ok (.invokevirtual 58, 3) := by decide +kernel
theorem dX8_copyFrom_55 : decode cX8_copyFrom 55 = .ok (.return_, 1) := by decide +kernel
theorem dX8_farOf_0 : decode cX8_farOf 0 = .ok (.aload_n 0, 1) := by decide +kernel
theorem dX8_farOf_1 : decode cX8_farOf 1 = .ok (.getfield 10, 3) := by decide +kernel
theorem dX8_farOf_4 : decode cX8_farOf 4 = .ok (.iconst 1, 1) := by decide +kernel
theorem dX8_farOf_5 : decode cX8_farOf 5 = .ok (.iaload, 1) := by decide +kernel
theorem dX8_farOf_6 : decode cX8_farOf 6 = .ok (.getstatic 61, 3) := by decide +kernel
theorem dX8_farOf_9 : decode cX8_farOf 9 = .ok (.iconst 1, 1) := by decide +kernel
theorem dX8_farOf_10 : decode cX8_farOf 10 = .ok (.iaload, 1) := by decide +kernel
theorem dX8_farOf_11 : decode cX8_farOf 11 = .ok (.invokestatic 64, 3) := by decide +kernel
theorem dX8_farOf_14 : decode cX8_farOf 14 = .ok (.istore_n 3, 1) := by decide +kernel
theorem dX8_farOf_15 : decode cX8_farOf 15 = .ok (.lload_n 1, 1) := by decide +kernel
theorem dX8_farOf_16 : decode cX8_farOf 16 = .ok (.iload_n 3, 1) := by decide +kernel
theorem dX8_farOf_17 : decode cX8_farOf 17 = .ok (.i2l, 1) := by decide +kernel
theorem dX8_farOf_18 : decode cX8_farOf 18 = .ok (.lrem, 1) := by decide +kernel
theorem dX8_farOf_19 : decode cX8_farOf 19 = .ok (.ldc2_w 70, 3) := by decide +kernel
theorem dX8_farOf_22 : decode cX8_farOf 22 = .ok (.lmul, 1) := by decide +kernel
theorem dX8_farOf_23 : decode cX8_farOf 23 = .ok (.iload_n 3, 1) := by decide +kernel
theorem dX8_farOf_24 : decode cX8_farOf 24 = .ok (.i2l, 1) := by decide +kernel
theorem dX8_farOf_25 : decode cX8_farOf 25 = .ok (.ldiv, 1) := by decide +kernel
theorem dX8_farOf_26 : decode cX8_farOf 26 = .ok (.lstore 4, 2) := by decide +kernel
theorem dX8_farOf_28 : decode cX8_farOf 28 = .ok (.lload 4, 2) := by decide +kernel
theorem dX8_farOf_30 : decode cX8_farOf 30 = .ok (.ldc2_w 70, 3) := by decide +kernel
theorem dX8_farOf_33 : decode cX8_farOf 33 = .ok (.lload 4, 2) := by decide +kernel
theorem dX8_farOf_35 : decode cX8_farOf 35 = .ok (.lsub, 1) := by decide +kernel
theorem dX8_farOf_36 : decode cX8_farOf 36 = .ok (.invokestatic 72, 3) := by decide +kernel
theorem dX8_farOf_39 : decode cX8_farOf 39 = .ok (.l2i, 1) := by decide +kernel
theorem dX8_farOf_40 : decode cX8_farOf 40 = .ok (.ireturn, 1) := by decide +kernel
theorem dX8_fadesAt_0 : decode cX8_fadesAt 0 = .ok (.aload_n 0, 1) := by decide +kernel
theorem dX8_fadesAt_1 : decode cX8_fadesAt 1 = .ok (.getfield 19, 3) := by decide +kernel
theorem dX8_fadesAt_4 : decode cX8_fadesAt 4 = .ok (.getfield 76, 3) := by decide +kernel
theorem dX8_fadesAt_7 : decode cX8_fadesAt 7 = .ok (.iload_n 1, 1) := by decide +kernel
theorem dX8_fadesAt_8 : decode cX8_fadesAt 8 = .ok (.iaload, 1) := by decide +kernel
theorem dX8_fadesAt_9 : decode cX8_fadesAt 9 = .ok (.i2l, 1) := by decide +kernel
theorem dX8_fadesAt_10 : decode cX8_fadesAt 10 = .ok (.iload_n 2, 1) := by decide +kernel
theorem dX8_fadesAt_11 : decode cX8_fadesAt 11 = .ok (.i2l, 1) := by decide +kernel
theorem dX8_fadesAt_12 : decode cX8_fadesAt 12 = .ok (.aload_n 0, 1) := by decide +kernel
theorem dX8_fadesAt_13 : decode cX8_fadesAt 13 = .ok (.getfield 19, 3) := by decide +kernel
theorem dX8_fadesAt_16 : decode cX8_fadesAt 16 = .ok (.getfield 79, 3) := by decide +kernel
theorem dX8_fadesAt_19 : decode cX8_fadesAt 19 = .ok (.iload_n 1, 1) := by decide +kernel
theorem dX8_fadesAt_20 : decode cX8_fadesAt 20 = .ok (.iaload, 1) := by decide +kernel
theorem dX8_fadesAt_21 : decode cX8_fadesAt 21 = .ok (.i2l, 1) := by decide +kernel
theorem dX8_fadesAt_22 : decode cX8_fadesAt 22 = .ok (.lmul, 1) := by decide +kernel
theorem dX8_fadesAt_23 : decode cX8_fadesAt 23 = .ok (.ladd, 1) := by decide +kernel
theorem dX8_fadesAt_24 : decode cX8_fadesAt 24 = .ok (.aload_n 0, 1) := by decide +kernel
theorem dX8_fadesAt_25 : decode cX8_fadesAt 25 = .ok (.getfield 19, 3) := by decide +kernel
theorem dX8_fadesAt_28 : decode cX8_fadesAt 28 = .ok (.getfield 82, 3) := by decide +kernel
theorem dX8_fadesAt_31 : decode cX8_fadesAt 31 = .ok (.iload_n 1, 1) := by decide +kernel
theorem dX8_fadesAt_32 : decode cX8_fadesAt 32 = .ok (.iaload, 1) := by decide +kernel
theorem dX8_fadesAt_33 : decode cX8_fadesAt 33 = .ok (.iload_n 2, 1) := by decide +kernel
theorem dX8_fadesAt_34 : decode cX8_fadesAt 34 = .ok (.invokestatic 85, 3) := by decide +kernel
theorem dX8_fadesAt_37 : decode cX8_fadesAt 37 = .ok (.imul, 1) := by decide +kernel
theorem dX8_fadesAt_38 : decode cX8_fadesAt 38 = .ok (.i2l, 1) := by decide +kernel
theorem dX8_fadesAt_39 : decode cX8_fadesAt 39 = .ok (.ladd, 1) := by decide +kernel
theorem dX8_fadesAt_40 : decode cX8_fadesAt 40 = .ok (.lstore_n 3, 1) := by decide +kernel
theorem dX8_fadesAt_41 : decode cX8_fadesAt 41 = .ok (.iconst 0, 1) := by decide +kernel
theorem dX8_fadesAt_42 : decode cX8_fadesAt 42 = .ok (.istore 5, 2) := by decide +kernel
theorem dX8_fadesAt_44 : decode cX8_fadesAt 44 = .ok (.iload 5, 2) := by decide +kernel
theorem dX8_fadesAt_46 : decode cX8_fadesAt 46 = .ok (.iconst 4, 1) := by decide +kernel
theorem dX8_fadesAt_47 : decode cX8_fadesAt 47 = .ok (.if_icmp .ge 56, 3) := by decide +kernel
theorem dX8_fadesAt_50 : decode cX8_fadesAt 50 = .ok (.iload 5, 2) := by decide +kernel
theorem dX8_fadesAt_52 : decode cX8_fadesAt 52 = .ok (.iload_n 1, 1) := by decide +kernel
theorem dX8_fadesAt_53 : decode cX8_fadesAt 53 = .ok (.if_icmp .eq 44, 3) := by decide +kernel
theorem dX8_fadesAt_56 : decode cX8_fadesAt 56 = .ok (.aload_n 0, 1) := by decide +kernel
theorem dX8_fadesAt_57 : decode cX8_fadesAt 57 = .ok (.getfield 19, 3) := by decide +kernel
theorem dX8_fadesAt_60 : decode cX8_fadesAt 60 = .ok (.getfield 89, 3) := by decide +kernel
theorem dX8_fadesAt_63 : decode cX8_fadesAt 63 = .ok (.iload 5, 2) := by decide +kernel
theorem dX8_fadesAt_65 : decode cX8_fadesAt 65 = .ok (.baload, 1) := by decide +kernel
theorem dX8_fadesAt_66 : decode cX8_fadesAt 66 = .ok (.ifCond .eq 31, 3) := by decide +kernel
theorem dX8_fadesAt_69 : decode cX8_fadesAt 69 = .ok (.lload_n 3, 1) := by decide +kernel
theorem dX8_fadesAt_70 : decode cX8_fadesAt 70 = .ok (.aload_n 0, 1) := by decide +kernel
theorem dX8_fadesAt_71 : decode cX8_fadesAt 71 = .ok (.getfield 19, 3) := by decide +kernel
theorem dX8_fadesAt_74 : decode cX8_fadesAt 74 = .ok (.getfield 93, 3) := by decide +kernel
theorem dX8_fadesAt_77 : decode cX8_fadesAt 77 = .ok (.iload_n 1, 1) := by decide +kernel
theorem dX8_fadesAt_78 : decode cX8_fadesAt 78 = .ok (.iconst 4, 1) := by decide +kernel
theorem dX8_fadesAt_79 : decode cX8_fadesAt 79 = .ok (.imul, 1) := by decide +kernel
theorem dX8_fadesAt_80 : decode cX8_fadesAt 80 = .ok (.iload 5, 2) := by decide +kernel
theorem dX8_fadesAt_82 : decode cX8_fadesAt 82 = .ok (.iadd, 1) := by decide +kernel
theorem dX8_fadesAt_83 : decode cX8_fadesAt 83 = .ok (.iaload, 1) := by decide +kernel
theorem dX8_fadesAt_84 : decode cX8_fadesAt 84 = .ok (.iload_n 2, 1) := by decide +kernel
theorem dX8_fadesAt_85 : decode cX8_fadesAt 85 = .ok (.iload 5, 2) := by decide +kernel
theorem dX8_fadesAt_87 : decode cX8_fadesAt 87 = .ok (.iconst 1, 1) := by decide +kernel
theorem dX8_fadesAt_88 : decode cX8_fadesAt 88 = .ok (.iadd, 1) := by decide +kernel
theorem dX8_fadesAt_89 : decode cX8_fadesAt 89 = .ok (.imul, 1) := by decide +kernel
theorem dX8_fadesAt_90 : decode cX8_fadesAt 90 = .ok (.invokestatic 85, 3) := by decide +kernel
theorem dX8_fadesAt_93 : decode cX8_fadesAt 93 = .ok (.imul, 1) := by decide +kernel
theorem dX8_fadesAt_94 : decode cX8_fadesAt 94 = .ok (.i2l, 1) := by decide +kernel
theorem dX8_fadesAt_95 : decode cX8_fadesAt 95 = .ok (.ladd, 1) := by decide +kernel
theorem dX8_fadesAt_96 : decode cX8_fadesAt 96 = .ok (.lstore_n 3, 1) := by decide +kernel
theorem dX8_fadesAt_97 : decode cX8_fadesAt 97 = .ok (.iinc 5 1, 3) := by decide +kernel
theorem dX8_fadesAt_100 : decode cX8_fadesAt 100 = .ok (.goto (-56), 3) := by decide +kernel
theorem dX8_fadesAt_103 : decode cX8_fadesAt 103 = .ok (.lload_n 3, 1) := by decide +kernel
theorem dX8_fadesAt_104 : decode cX8_fadesAt 104 = .ok (.lreturn, 1) := by decide +kernel
theorem dX8_seenAt_0 : decode cX8_seenAt 0 = .ok (.aload_n 0, 1) := by decide +kernel
theorem dX8_seenAt_1 : decode cX8_seenAt 1 = .ok (.iload_n 1, 1) := by decide +kernel
theorem dX8_seenAt_2 : decode cX8_seenAt 2 = .ok (.iload_n 2, 1) := by decide +kernel
theorem dX8_seenAt_3 : decode cX8_seenAt 3 = .ok (.invokevirtual 96, 3) := by decide +kernel
theorem dX8_seenAt_6 : decode cX8_seenAt 6 = .ok (.lstore_n 3, 1) := by decide +kernel
theorem dX8_seenAt_7 : decode cX8_seenAt 7 = .ok (.lload_n 3, 1) := by decide +kernel
theorem dX8_seenAt_8 : decode cX8_seenAt 8 = .ok (.aload_n 0, 1) := by decide +kernel
theorem dX8_seenAt_9 : decode cX8_seenAt 9 = .ok (.getfield 10, 3) := by decide +kernel
theorem dX8_seenAt_12 : decode cX8_seenAt 12 = .ok (.iconst 0, 1) := by decide +kernel
theorem dX8_seenAt_13 : decode cX8_seenAt 13 = .ok (.iaload, 1) := by decide +kernel
theorem dX8_seenAt_14 : decode cX8_seenAt 14 = .ok (.aload_n 0, 1) := by decide +kernel
theorem dX8_seenAt_15 : decode cX8_seenAt 15 = .ok (.lload_n 3, 1) := by decide +kernel
theorem dX8_seenAt_16 : decode cX8_seenAt 16 = .ok (.invokevirtual 100, 3) := by decide +kernel
theorem dX8_seenAt_19 : decode cX8_seenAt 19 = .ok (.imul, 1) := by decide +kernel
theorem dX8_seenAt_20 : decode cX8_seenAt 20 = .ok (.sipush 1000, 3) := by decide +kernel
theorem dX8_seenAt_23 : decode cX8_seenAt 23 = .ok (.idiv, 1) := by decide +kernel
theorem dX8_seenAt_24 : decode cX8_seenAt 24 = .ok (.i2l, 1) := by decide +kernel
theorem dX8_seenAt_25 : decode cX8_seenAt 25 = .ok (.ladd, 1) := by decide +kernel
theorem dX8_seenAt_26 : decode cX8_seenAt 26 = .ok (.lreturn, 1) := by decide +kernel
theorem dX8_putRight_0 : decode cX8_putRight 0 = .ok (.aload_n 0, 1) := by decide +kernel
theorem dX8_putRight_1 : decode cX8_putRight 1 = .ok (.getfield 33, 3) := by decide +kernel
theorem dX8_putRight_4 : decode cX8_putRight 4 = .ok (.getfield 104, 3) := by decide +kernel
theorem dX8_putRight_7 : decode cX8_putRight 7 = .ok (.iload_n 1, 1) := by decide +kernel
theorem dX8_putRight_8 : decode cX8_putRight 8 = .ok (.iaload, 1) := by decide +kernel
theorem dX8_putRight_9 : decode cX8_putRight 9 = .ok (.aload_n 0, 1) := by decide +kernel
theorem dX8_putRight_10 : decode cX8_putRight 10 = .ok (.iload_n 1, 1) := by decide +kernel
theorem dX8_putRight_11 : decode cX8_putRight 11 = .ok (.invokevirtual 107, 3) := by decide +kernel
theorem dX8_putRight_14 : decode cX8_putRight 14 = .ok (.isub, 1) := by decide +kernel
theorem dX8_putRight_15 : decode cX8_putRight 15 = .ok (.aload_n 0, 1) := by decide +kernel
theorem dX8_putRight_16 : decode cX8_putRight 16 = .ok (.iload_n 1, 1) := by decide +kernel
theorem dX8_putRight_17 : decode cX8_putRight 17 = .ok (.invokevirtual 110, 3) := by decide +kernel
theorem dX8_putRight_20 : decode cX8_putRight 20 = .ok (.isub, 1) := by decide +kernel
theorem dX8_putRight_21 : decode cX8_putRight 21 = .ok (.i2l, 1) := by decide +kernel
theorem dX8_putRight_22 : decode cX8_putRight 22 = .ok (.aload_n 0, 1) := by decide +kernel
theorem dX8_putRight_23 : decode cX8_putRight 23 = .ok (.iload_n 1, 1) := by decide +kernel
theorem dX8_putRight_24 : decode cX8_putRight 24 = .ok (.invokevirtual 113, 3) := by decide +kernel
theorem dX8_putRight_27 : decode cX8_putRight 27 = .ok (.ladd, 1) := by decide +kernel
theorem dX8_putRight_28 : decode cX8_putRight 28 = .ok (.lreturn, 1) := by decide +kernel
theorem dX8_leanOf_0 : decode cX8_leanOf 0 = .ok (.aload_n 0, 1) := by decide +kernel
theorem dX8_leanOf_1 : decode cX8_leanOf 1 = .ok (.getfield 26, 3) := by decide +kernel
theorem dX8_leanOf_4 : decode cX8_leanOf 4 = .ok (.getfield 117, 3) := by decide +kernel
theorem dX8_leanOf_7 : decode cX8_leanOf 7 = .ok (.aload_n 0, 1) := by decide +kernel
theorem dX8_leanOf_8 : decode cX8_leanOf 8 = .ok (.getfield 33, 3) := by decide +kernel
theorem dX8_leanOf_11 : decode cX8_leanOf 11 = .ok (.getfield 120, 3) := by decide +kernel
theorem dX8_leanOf_14 : decode cX8_leanOf 14 = .ok (.iload_n 1, 1) := by decide +kernel
theorem dX8_leanOf_15 : decode cX8_leanOf 15 = .ok (.iaload, 1) := by decide +kernel
theorem dX8_leanOf_16 : decode cX8_leanOf 16 = .ok (.iaload, 1) := by decide +kernel
theorem dX8_leanOf_17 : decode cX8_leanOf 17 = .ok (.ireturn, 1) := by decide +kernel
theorem dX8_offsetOf_0 : decode cX8_offsetOf 0 = .ok (.aload_n 0, 1) := by decide +kernel
theorem dX8_offsetOf_1 : decode cX8_offsetOf 1 = .ok (.getfield 33, 3) := by decide +kernel
theorem dX8_offsetOf_4 : decode cX8_offsetOf 4 = .ok (.getfield 123, 3) := by decide +kernel
theorem dX8_offsetOf_7 : decode cX8_offsetOf 7 = .ok (.iload_n 1, 1) := by decide +kernel
theorem dX8_offsetOf_8 : decode cX8_offsetOf 8 = .ok (.iaload, 1) := by decide +kernel
theorem dX8_offsetOf_9 : decode cX8_offsetOf 9 = .ok (.bipush 7, 2) := by decide +kernel
theorem dX8_offsetOf_11 : decode cX8_offsetOf 11 = .ok (.if_icmp .ne 23, 3) := by decide +kernel
theorem dX8_offsetOf_14 : decode cX8_offsetOf 14 = .ok (.aload_n 0, 1) := by decide +kernel
theorem dX8_offsetOf_15 : decode cX8_offsetOf 15 = .ok (.getfield 26, 3) := by decide +kernel
theorem dX8_offsetOf_18 : decode cX8_offsetOf 18 = .ok (.getfield 126, 3) := by decide +kernel
theorem dX8_offsetOf_21 : decode cX8_offsetOf 21 = .ok (.aload_n 0, 1) := by decide +kernel
theorem dX8_offsetOf_22 : decode cX8_offsetOf 22 = .ok (.getfield 33, 3) := by decide +kernel
theorem dX8_offsetOf_25 : decode cX8_offsetOf 25 = .ok (.getfield 129, 3) := by decide +kernel
theorem dX8_offsetOf_28 : decode cX8_offsetOf 28 = .ok (.iload_n 1, 1) := by decide +kernel
theorem dX8_offsetOf_29 : decode cX8_offsetOf 29 = .ok (.iaload, 1) := by decide +kernel
theorem dX8_offsetOf_30 : decode cX8_offsetOf 30 = .ok (.iaload, 1) := by decide +kernel
theorem dX8_offsetOf_31 : decode cX8_offsetOf 31 = .ok (.goto 4, 3) := by decide +kernel
theorem dX8_offsetOf_34 : decode cX8_offsetOf 34 = .ok (.iconst 0, 1) := by decide +kernel
theorem dX8_offsetOf_35 : decode cX8_offsetOf 35 = .ok (.ireturn, 1) := by decide +kernel
theorem dX8_kindOf_0 : decode cX8_kindOf 0 = .ok (.aload_n 0, 1) := by decide +kernel
theorem dX8_kindOf_1 : decode cX8_kindOf 1 = .ok (.getfield 33, 3) := by decide +kernel
theorem dX8_kindOf_4 : decode cX8_kindOf 4 = .ok (.getfield 123, 3) := by decide +kernel
theorem dX8_kindOf_7 : decode cX8_kindOf 7 = .ok (.iload_n 1, 1) := by decide +kernel
theorem dX8_kindOf_8 : decode cX8_kindOf 8 = .ok (.iaload, 1) := by decide +kernel
theorem dX8_kindOf_9 : decode cX8_kindOf 9 = .ok (.tableswitch 109 2 6 #[35, 55, 59, 109, 63], 35) := by decide +kernel
theorem dX8_kindOf_44 : decode cX8_kindOf 44 = .ok (.aload_n 0, 1) := by decide +kernel
theorem dX8_kindOf_45 : decode cX8_kindOf 45 = .ok (.getfield 19, 3) := by decide +kernel
theorem dX8_kindOf_48 : decode cX8_kindOf 48 = .ok (.getfield 132, 3) := by decide +kernel
theorem dX8_kindOf_51 : decode cX8_kindOf 51 = .ok (.aload_n 0, 1) := by decide +kernel
theorem dX8_kindOf_52 : decode cX8_kindOf 52 = .ok (.getfield 33, 3) := by decide +kernel
theorem dX8_kindOf_55 : decode cX8_kindOf 55 = .ok (.getfield 135, 3) := by decide +kernel
theorem dX8_kindOf_58 : decode cX8_kindOf 58 = .ok (.iload_n 1, 1) := by decide +kernel
theorem dX8_kindOf_59 : decode cX8_kindOf 59 = .ok (.iaload, 1) := by decide +kernel
theorem dX8_kindOf_60 : decode cX8_kindOf 60 = .ok (.iaload, 1) := by decide +kernel
theorem dX8_kindOf_61 : decode cX8_kindOf 61 = .ok (.ineg, 1) := by decide +kernel
theorem dX8_kindOf_62 : decode cX8_kindOf 62 = .ok (.i2l, 1) := by decide +kernel
theorem dX8_kindOf_63 : decode cX8_kindOf 63 = .ok (.lreturn, 1) := by decide +kernel
theorem dX8_kindOf_64 : decode cX8_kindOf 64 = .ok (.ldc2_w 138, 3) := by decide +kernel
theorem dX8_kindOf_67 : decode cX8_kindOf 67 = .ok (.lreturn, 1) := by decide +kernel
theorem dX8_kindOf_68 : decode cX8_kindOf 68 = .ok (.ldc2_w 140, 3) := by decide +kernel
theorem dX8_kindOf_71 : decode cX8_kindOf 71 = .ok (.lreturn, 1) := by decide +kernel
theorem dX8_kindOf_72 : decode cX8_kindOf 72 = .ok (.aload_n 0, 1) := by decide +kernel
theorem dX8_kindOf_73 : decode cX8_kindOf 73 = .ok (.getfield 33, 3) := by decide +kernel
theorem dX8_kindOf_76 : decode cX8_kindOf 76 = .ok (.getfield 142, 3) := by decide +kernel
theorem dX8_kindOf_79 : decode cX8_kindOf 79 = .ok (.iload_n 1, 1) := by decide +kernel
theorem dX8_kindOf_80 : decode cX8_kindOf 80 = .ok (.iaload, 1) := by decide +kernel
theorem dX8_kindOf_81 : decode cX8_kindOf 81 = .ok (.istore_n 2, 1) := by decide +kernel
theorem dX8_kindOf_82 : decode cX8_kindOf 82 = .ok (.aload_n 0, 1) := by decide +kernel
theorem dX8_kindOf_83 : decode cX8_kindOf 83 = .ok (.getfield 26, 3) := by decide +kernel
theorem dX8_kindOf_86 : decode cX8_kindOf 86 = .ok (.getfield 145, 3) := by decide +kernel
theorem dX8_kindOf_89 : decode cX8_kindOf 89 = .ok (.iload_n 2, 1) := by decide +kernel
theorem dX8_kindOf_90 : decode cX8_kindOf 90 = .ok (.iaload, 1) := by decide +kernel
theorem dX8_kindOf_91 : decode cX8_kindOf 91 = .ok (.i2l, 1) := by decide +kernel
theorem dX8_kindOf_92 : decode cX8_kindOf 92 = .ok (.aload_n 0, 1) := by decide +kernel
theorem dX8_kindOf_93 : decode cX8_kindOf 93 = .ok (.getfield 33, 3) := by decide +kernel
theorem dX8_kindOf_96 : decode cX8_kindOf 96 = .ok (.getfield 104, 3) := by decide +kernel
theorem dX8_kindOf_99 : decode cX8_kindOf 99 = .ok (.iload_n 1, 1) := by decide +kernel
theorem dX8_kindOf_100 : decode cX8_kindOf 100 = .ok (.iaload, 1) := by decide +kernel
theorem dX8_kindOf_101 : decode cX8_kindOf 101 = .ok (.aload_n 0, 1) := by decide +kernel
theorem dX8_kindOf_102 : decode cX8_kindOf 102 = .ok (.getfield 26, 3) := by decide +kernel
theorem dX8_kindOf_105 : decode cX8_kindOf 105 = .ok (.getfield 148, 3) := by decide +kernel
theorem dX8_kindOf_108 : decode cX8_kindOf 108 = .ok (.iload_n 2, 1) := by decide +kernel
theorem dX8_kindOf_109 : decode cX8_kindOf 109 = .ok (.iaload, 1) := by decide +kernel
theorem dX8_kindOf_110 : decode cX8_kindOf 110 = .ok (.isub, 1) := by decide +kernel
theorem dX8_kindOf_111 : decode cX8_kindOf 111 = .ok (.i2l, 1) := by decide +kernel
theorem dX8_kindOf_112 : decode cX8_kindOf 112 = .ok (.lmul, 1) := by decide +kernel
theorem dX8_kindOf_113 : decode cX8_kindOf 113 = .ok (.ldc2_w 151, 3) := by decide +kernel
theorem dX8_kindOf_116 : decode cX8_kindOf 116 = .ok (.ldiv, 1) := by decide +kernel
theorem dX8_kindOf_117 : decode cX8_kindOf 117 = .ok (.lreturn, 1) := by decide +kernel
theorem dX8_kindOf_118 : decode cX8_kindOf 118 = .ok (.lconst 0, 1) := by decide +kernel
theorem dX8_kindOf_119 : decode cX8_kindOf 119 = .ok (.lreturn, 1) := by decide +kernel
theorem dX8_guessedAt_0 : decode cX8_guessedAt 0 = .ok (.aload_n 0, 1) := by decide +kernel
theorem dX8_guessedAt_1 : decode cX8_guessedAt 1 = .ok (.getfield 19, 3) := by decide +kernel
theorem dX8_guessedAt_4 : decode cX8_guessedAt 4 = .ok (.getfield 153, 3) := by decide +kernel
theorem dX8_guessedAt_7 : decode cX8_guessedAt 7 = .ok (.iload_n 1, 1) := by decide +kernel
theorem dX8_guessedAt_8 : decode cX8_guessedAt 8 = .ok (.iaload, 1) := by decide +kernel
theorem dX8_guessedAt_9 : decode cX8_guessedAt 9 = .ok (.i2l, 1) := by decide +kernel
theorem dX8_guessedAt_10 : decode cX8_guessedAt 10 = .ok (.iload_n 2, 1) := by decide +kernel
theorem dX8_guessedAt_11 : decode cX8_guessedAt 11 = .ok (.i2l, 1) := by decide +kernel
theorem dX8_guessedAt_12 : decode cX8_guessedAt 12 = .ok (.aload_n 0, 1) := by decide +kernel
theorem dX8_guessedAt_13 : decode cX8_guessedAt 13 = .ok (.getfield 19, 3) := by decide +kernel
theorem dX8_guessedAt_16 : decode cX8_guessedAt 16 = .ok (.getfield 156, 3) := by decide +kernel
theorem dX8_guessedAt_19 : decode cX8_guessedAt 19 = .ok (.iload_n 1, 1) := by decide +kernel
theorem dX8_guessedAt_20 : decode cX8_guessedAt 20 = .ok (.iaload, 1) := by decide +kernel
theorem dX8_guessedAt_21 : decode cX8_guessedAt 21 = .ok (.i2l, 1) := by decide +kernel
theorem dX8_guessedAt_22 : decode cX8_guessedAt 22 = .ok (.lmul, 1) := by decide +kernel
theorem dX8_guessedAt_23 : decode cX8_guessedAt 23 = .ok (.ladd, 1) := by decide +kernel
theorem dX8_guessedAt_24 : decode cX8_guessedAt 24 = .ok (.lreturn, 1) := by decide +kernel
theorem dX8_share_0 : decode cX8_share 0 = .ok (.iload_n 2, 1) := by decide +kernel
theorem dX8_share_1 : decode cX8_share 1 = .ok (.aload_n 0, 1) := by decide +kernel
theorem dX8_share_2 : decode cX8_share 2 = .ok (.getfield 10, 3) := by decide +kernel
theorem dX8_share_5 : decode cX8_share 5 = .ok (.iconst 2, 1) := by decide +kernel
theorem dX8_share_6 : decode cX8_share 6 = .ok (.iaload, 1) := by decide +kernel
theorem dX8_share_7 : decode cX8_share 7 = .ok (.imul, 1) := by decide +kernel
theorem dX8_share_8 : decode cX8_share 8 = .ok (.istore 6, 2) := by decide +kernel
theorem dX8_share_10 : decode cX8_share 10 = .ok (.iload_n 1, 1) := by decide +kernel
theorem dX8_share_11 : decode cX8_share 11 = .ok (.tableswitch 46 0 2 #[25, 28, 37], 25) := by decide +kernel
theorem dX8_share_36 : decode cX8_share 36 = .ok (.iload 6, 2) := by decide +kernel
theorem dX8_share_38 : decode cX8_share 38 = .ok (.ireturn, 1) := by decide +kernel
theorem dX8_share_39 : decode cX8_share 39 = .ok (.iload 6, 2) := by decide +kernel
theorem dX8_share_41 : decode cX8_share 41 = .ok (.iload 4, 2) := by decide +kernel
theorem dX8_share_43 : decode cX8_share 43 = .ok (.invokestatic 85, 3) := by decide +kernel
theorem dX8_share_46 : decode cX8_share 46 = .ok (.imul, 1) := by decide +kernel
theorem dX8_share_47 : decode cX8_share 47 = .ok (.ireturn, 1) := by decide +kernel
theorem dX8_share_48 : decode cX8_share 48 = .ok (.iload 6, 2) := by decide +kernel
theorem dX8_share_50 : decode cX8_share 50 = .ok (.iload 5, 2) := by decide +kernel
theorem dX8_share_52 : decode cX8_share 52 = .ok (.imul, 1) := by decide +kernel
theorem dX8_share_53 : decode cX8_share 53 = .ok (.bipush 100, 2) := by decide +kernel
theorem dX8_share_55 : decode cX8_share 55 = .ok (.idiv, 1) := by decide +kernel
theorem dX8_share_56 : decode cX8_share 56 = .ok (.ireturn, 1) := by decide +kernel
theorem dX8_share_57 : decode cX8_share 57 = .ok (.iload_n 1, 1) := by decide +kernel
theorem dX8_share_58 : decode cX8_share 58 = .ok (.iconst 3, 1) := by decide +kernel
theorem dX8_share_59 : decode cX8_share 59 = .ok (.isub, 1) := by decide +kernel
theorem dX8_share_60 : decode cX8_share 60 = .ok (.istore 7, 2) := by decide +kernel
theorem dX8_share_62 : decode cX8_share 62 = .ok (.iload 7, 2) := by decide +kernel
theorem dX8_share_64 : decode cX8_share 64 = .ok (.iload_n 3, 1) := by decide +kernel
theorem dX8_share_65 : decode cX8_share 65 = .ok (.if_icmp .ne 7, 3) := by decide +kernel
theorem dX8_share_68 : decode cX8_share 68 = .ok (.iconst 0, 1) := by decide +kernel
theorem dX8_share_69 : decode cX8_share 69 = .ok (.goto 16, 3) := by decide +kernel
theorem dX8_share_72 : decode cX8_share 72 = .ok (.iload 6, 2) := by decide +kernel
theorem dX8_share_74 : decode cX8_share 74 = .ok (.iload 4, 2) := by decide +kernel
theorem dX8_share_76 : decode cX8_share 76 = .ok (.iload 7, 2) := by decide +kernel
theorem dX8_share_78 : decode cX8_share 78 = .ok (.iconst 1, 1) := by decide +kernel
theorem dX8_share_79 : decode cX8_share 79 = .ok (.iadd, 1) := by decide +kernel
theorem dX8_share_80 : decode cX8_share 80 = .ok (.imul, 1) := by decide +kernel
theorem dX8_share_81 : decode cX8_share 81 = .ok (.invokestatic 85, 3) := by decide +kernel
theorem dX8_share_84 : decode cX8_share 84 = .ok (.imul, 1) := by decide +kernel
theorem dX8_share_85 : decode cX8_share 85 = .ok (.ireturn, 1) := by decide +kernel
theorem dX8_said_0 : decode cX8_said 0 = .ok (.aload_n 0, 1) := by decide +kernel
theorem dX8_said_1 : decode cX8_said 1 = .ok (.iload_n 2, 1) := by decide +kernel
theorem dX8_said_2 : decode cX8_said 2 = .ok (.iload_n 3, 1) := by decide +kernel
theorem dX8_said_3 : decode cX8_said 3 = .ok (.invokevirtual 159, 3) := by decide +kernel
theorem dX8_said_6 : decode cX8_said 6 = .ok (.lstore 5, 2) := by decide +kernel
theorem dX8_said_8 : decode cX8_said 8 = .ok (.aload_n 0, 1) := by decide +kernel
theorem dX8_said_9 : decode cX8_said 9 = .ok (.lload 5, 2) := by decide +kernel
theorem dX8_said_11 : decode cX8_said 11 = .ok (.invokevirtual 100, 3) := by decide +kernel
theorem dX8_said_14 : decode cX8_said 14 = .ok (.istore 7, 2) := by decide +kernel
theorem dX8_said_16 : decode cX8_said 16 = .ok (.lload 5, 2) := by decide +kernel
theorem dX8_said_18 : decode cX8_said 18 = .ok (.lstore 8, 2) := by decide +kernel
theorem dX8_said_20 : decode cX8_said 20 = .ok (.iload 4, 2) := by decide +kernel
theorem dX8_said_22 : decode cX8_said 22 = .ok (.istore 10, 2) := by decide +kernel
theorem dX8_said_24 : decode cX8_said 24 = .ok (.iconst 0, 1) := by decide +kernel
theorem dX8_said_25 : decode cX8_said 25 = .ok (.istore 11, 2) := by decide +kernel
theorem dX8_said_27 : decode cX8_said 27 = .ok (.iload 11, 2) := by decide +kernel
theorem dX8_said_29 : decode cX8_said 29 = .ok (.aload_n 0, 1) := by decide +kernel
theorem dX8_said_30 : decode cX8_said 30 = .ok (.getfield 40, 3) := by decide +kernel
theorem dX8_said_33 : decode cX8_said 33 = .ok (.getfield 162, 3) := by decide +kernel
theorem dX8_said_36 : decode cX8_said 36 = .ok (.iload_n 1, 1) := by decide +kernel
theorem dX8_said_37 : decode cX8_said 37 = .ok (.iaload, 1) := by decide +kernel
theorem dX8_said_38 : decode cX8_said 38 = .ok (.if_icmp .ge 47, 3) := by decide +kernel
theorem dX8_said_41 : decode cX8_said 41 = .ok (.lload 8, 2) := by decide +kernel
theorem dX8_said_43 : decode cX8_said 43 = .ok (.aload_n 0, 1) := by decide +kernel
theorem dX8_said_44 : decode cX8_said 44 = .ok (.aload_n 0, 1) := by decide +kernel
theorem dX8_said_45 : decode cX8_said 45 = .ok (.getfield 40, 3) := by decide +kernel
theorem dX8_said_48 : decode cX8_said 48 = .ok (.iload_n 1, 1) := by decide +kernel
theorem dX8_said_49 : decode cX8_said 49 = .ok (.iload 11, 2) := by decide +kernel
theorem dX8_said_51 : decode cX8_said 51 = .ok (.invokevirtual 165, 3) := by decide +kernel
theorem dX8_said_54 : decode cX8_said 54 = .ok (.iload 10, 2) := by decide +kernel
theorem dX8_said_56 : decode cX8_said 56 = .ok (.bipush 7, 2) := by decide +kernel
theorem dX8_said_58 : decode cX8_said 58 = .ok (.irem, 1) := by decide +kernel
theorem dX8_said_59 : decode cX8_said 59 = .ok (.iconst 3, 1) := by decide +kernel
theorem dX8_said_60 : decode cX8_said 60 = .ok (.isub, 1) := by decide +kernel
theorem dX8_said_61 : decode cX8_said 61 = .ok (.iload_n 2, 1) := by decide +kernel
theorem dX8_said_62 : decode cX8_said 62 = .ok (.iload_n 3, 1) := by decide +kernel
theorem dX8_said_63 : decode cX8_said 63 = .ok (.iload 7, 2) := by decide +kernel
theorem dX8_said_65 : decode cX8_said 65 = .ok (.invokevirtual 168, 3) := by decide +kernel
theorem dX8_said_68 : decode cX8_said 68 = .ok (.i2l, 1) := by decide +kernel
theorem dX8_said_69 : decode cX8_said 69 = .ok (.ladd, 1) := by decide +kernel
theorem dX8_said_70 : decode cX8_said 70 = .ok (.lstore 8, 2) := by decide +kernel
theorem dX8_said_72 : decode cX8_said 72 = .ok (.iload 10, 2) := by decide +kernel
theorem dX8_said_74 : decode cX8_said 74 = .ok (.bipush 7, 2) := by decide +kernel
theorem dX8_said_76 : decode cX8_said 76 = .ok (.idiv, 1) := by decide +kernel
theorem dX8_said_77 : decode cX8_said 77 = .ok (.istore 10, 2) := by decide +kernel
theorem dX8_said_79 : decode cX8_said 79 = .ok (.iinc 11 1, 3) := by decide +kernel
theorem dX8_said_82 : decode cX8_said 82 = .ok (.goto (-55), 3) := by decide +kernel
theorem dX8_said_85 : decode cX8_said 85 = .ok (.lload 8, 2) := by decide +kernel
theorem dX8_said_87 : decode cX8_said 87 = .ok (.lreturn, 1) := by decide +kernel
theorem dX8_leftOf_0 : decode cX8_leftOf 0 = .ok (.aload_n 0, 1) := by decide +kernel
theorem dX8_leftOf_1 : decode cX8_leftOf 1 = .ok (.iload_n 1, 1) := by decide +kernel
theorem dX8_leftOf_2 : decode cX8_leftOf 2 = .ok (.invokevirtual 172, 3) := by decide +kernel
theorem dX8_leftOf_5 : decode cX8_leftOf 5 = .ok (.aload_n 0, 1) := by decide +kernel
theorem dX8_leftOf_6 : decode cX8_leftOf 6 = .ok (.iload_n 2, 1) := by decide +kernel
theorem dX8_leftOf_7 : decode cX8_leftOf 7 = .ok (.aload_n 0, 1) := by decide +kernel
theorem dX8_leftOf_8 : decode cX8_leftOf 8 = .ok (.getfield 33, 3) := by decide +kernel
theorem dX8_leftOf_11 : decode cX8_leftOf 11 = .ok (.getfield 135, 3) := by decide +kernel
theorem dX8_leftOf_14 : decode cX8_leftOf 14 = .ok (.iload_n 1, 1) := by decide +kernel
theorem dX8_leftOf_15 : decode cX8_leftOf 15 = .ok (.iaload, 1) := by decide +kernel
theorem dX8_leftOf_16 : decode cX8_leftOf 16 = .ok (.aload_n 0, 1) := by decide +kernel
theorem dX8_leftOf_17 : decode cX8_leftOf 17 = .ok (.getfield 33, 3) := by decide +kernel
theorem dX8_leftOf_20 : decode cX8_leftOf 20 = .ok (.getfield 175, 3) := by decide +kernel
theorem dX8_leftOf_23 : decode cX8_leftOf 23 = .ok (.iload_n 1, 1) := by decide +kernel
theorem dX8_leftOf_24 : decode cX8_leftOf 24 = .ok (.iaload, 1) := by decide +kernel
theorem dX8_leftOf_25 : decode cX8_leftOf 25 = .ok (.iload_n 3, 1) := by decide +kernel
theorem dX8_leftOf_26 : decode cX8_leftOf 26 = .ok (.invokevirtual 178, 3) := by decide +kernel
theorem dX8_leftOf_29 : decode cX8_leftOf 29 = .ok (.lsub, 1) := by decide +kernel
theorem dX8_leftOf_30 : decode cX8_leftOf 30 = .ok (.lreturn, 1) := by decide +kernel
theorem dX8_seasonOf_0 : decode cX8_seasonOf 0 = .ok (.lconst 0, 1) := by decide +kernel
theorem dX8_seasonOf_1 : decode cX8_seasonOf 1 = .ok (.lstore 6, 2) := by decide +kernel
theorem dX8_seasonOf_3 : decode cX8_seasonOf 3 = .ok (.iconst 0, 1) := by decide +kernel
theorem dX8_seasonOf_4 : decode cX8_seasonOf 4 = .ok (.istore 8, 2) := by decide +kernel
theorem dX8_seasonOf_6 : decode cX8_seasonOf 6 = .ok (.iload 8, 2) := by decide +kernel
theorem dX8_seasonOf_8 : decode cX8_seasonOf 8 = .ok (.aload_n 0, 1) := by decide +kernel
theorem dX8_seasonOf_9 : decode cX8_seasonOf 9 = .ok (.getfield 33, 3) := by decide +kernel
theorem dX8_seasonOf_12 : decode cX8_seasonOf 12 = .ok (.getfield 182, 3) := by decide +kernel
theorem dX8_seasonOf_15 : decode cX8_seasonOf 15 = .ok (.if_icmp .ge 72, 3) := by decide +kernel
theorem dX8_seasonOf_18 : decode cX8_seasonOf 18 = .ok (.aload_n 0, 1) := by decide +kernel
theorem dX8_seasonOf_19 : decode cX8_seasonOf 19 = .ok (.getfield 33, 3) := by decide +kernel
theorem dX8_seasonOf_22 : decode cX8_seasonOf 22 = .ok (.iload 8, 2) := by decide +kernel
theorem dX8_seasonOf_24 : decode cX8_seasonOf 24 = .ok (.iload_n 2, 1) := by decide +kernel
theorem dX8_seasonOf_25 : decode cX8_seasonOf 25 = .ok (.lload_n 3, 1) := by decide +kernel
theorem dX8_seasonOf_26 : decode cX8_seasonOf 26 = .ok (.invokevirtual 186, 3) := by decide +kernel
theorem dX8_seasonOf_29 : decode cX8_seasonOf 29 = .ok (.ifCond .eq 52, 3) := by decide +kernel
theorem dX8_seasonOf_32 : decode cX8_seasonOf 32 = .ok (.aload_n 0, 1) := by decide +kernel
theorem dX8_seasonOf_33 : decode cX8_seasonOf 33 = .ok (.iload 8, 2) := by decide +kernel
theorem dX8_seasonOf_35 : decode cX8_seasonOf 35 = .ok (.iload_n 1, 1) := by decide +kernel
theorem dX8_seasonOf_36 : decode cX8_seasonOf 36 = .ok (.iload 5, 2) := by decide +kernel
theorem dX8_seasonOf_38 : decode cX8_seasonOf 38 = .ok (.invokevirtual 190, 3) := by decide +kernel
theorem dX8_seasonOf_41 : decode cX8_seasonOf 41 = .ok (.lstore 9, 2) := by decide +kernel
theorem dX8_seasonOf_43 : decode cX8_seasonOf 43 = .ok (.lload 6, 2) := by decide +kernel
theorem dX8_seasonOf_45 : decode cX8_seasonOf 45 = .ok (.aload_n 0, 1) := by decide +kernel
theorem dX8_seasonOf_46 : decode cX8_seasonOf 46 = .ok (.aload_n 0, 1) := by decide +kernel
theorem dX8_seasonOf_47 : decode cX8_seasonOf 47 = .ok (.iload_n 2, 1) := by decide +kernel
theorem dX8_seasonOf_48 : decode cX8_seasonOf 48 = .ok (.aload_n 0, 1) := by decide +kernel
theorem dX8_seasonOf_49 : decode cX8_seasonOf 49 = .ok (.getfield 33, 3) := by decide +kernel
theorem dX8_seasonOf_52 : decode cX8_seasonOf 52 = .ok (.getfield 175, 3) := by decide +kernel
theorem dX8_seasonOf_55 : decode cX8_seasonOf 55 = .ok (.iload 8, 2) := by decide +kernel
theorem dX8_seasonOf_57 : decode cX8_seasonOf 57 = .ok (.iaload, 1) := by decide +kernel
theorem dX8_seasonOf_58 : decode cX8_seasonOf 58 = .ok (.invokevirtual 159, 3) := by decide +kernel
theorem dX8_seasonOf_61 : decode cX8_seasonOf 61 = .ok (.invokevirtual 100, 3) := by decide +kernel
theorem dX8_seasonOf_64 : decode cX8_seasonOf 64 = .ok (.sipush 500, 3) := by decide +kernel
theorem dX8_seasonOf_67 : decode cX8_seasonOf 67 = .ok (.if_icmp .le 8, 3) := by decide +kernel
theorem dX8_seasonOf_70 : decode cX8_seasonOf 70 = .ok (.lload 9, 2) := by decide +kernel
theorem dX8_seasonOf_72 : decode cX8_seasonOf 72 = .ok (.goto 6, 3) := by decide +kernel
theorem dX8_seasonOf_75 : decode cX8_seasonOf 75 = .ok (.lload 9, 2) := by decide +kernel
theorem dX8_seasonOf_77 : decode cX8_seasonOf 77 = .ok (.lneg, 1) := by decide +kernel
theorem dX8_seasonOf_78 : decode cX8_seasonOf 78 = .ok (.ladd, 1) := by decide +kernel
theorem dX8_seasonOf_79 : decode cX8_seasonOf 79 = .ok (.lstore 6, 2) := by decide +kernel
theorem dX8_seasonOf_81 : decode cX8_seasonOf 81 = .ok (.iinc 8 1, 3) := by decide +kernel
theorem dX8_seasonOf_84 : decode cX8_seasonOf 84 = .ok (.goto (-78), 3) := by decide +kernel
theorem dX8_seasonOf_87 : decode cX8_seasonOf 87 = .ok (.lload 6, 2) := by decide +kernel
theorem dX8_seasonOf_89 : decode cX8_seasonOf 89 = .ok (.lreturn, 1) := by decide +kernel
theorem dX8_furthestApart_0 : decode cX8_furthestApart 0 = .ok (.ldc2_w 194, 3) := by decide +kernel
theorem dX8_furthestApart_3 : decode cX8_furthestApart 3 = .ok (.lstore 8, 2) := by decide +kernel
theorem dX8_furthestApart_5 : decode cX8_furthestApart 5 = .ok (.iload 6, 2) := by decide +kernel
theorem dX8_furthestApart_7 : decode cX8_furthestApart 7 = .ok (.istore 10, 2) := by decide +kernel
theorem dX8_furthestApart_9 : decode cX8_furthestApart 9 = .ok (.iload 6, 2) := by decide +kernel
theorem dX8_furthestApart_11 : decode cX8_furthestApart 11 = .ok (.istore 11, 2) := by decide +kernel
theorem dX8_furthestApart_13 : decode cX8_furthestApart 13 = .ok (.iload 11, 2) := by decide +kernel
theorem dX8_furthestApart_15 : decode cX8_furthestApart 15 = .ok (.iload 7, 2) := by decide +kernel
theorem dX8_furthestApart_17 : decode cX8_furthestApart 17 = .ok (.if_icmp .gt 52, 3) := by decide +kernel
theorem dX8_furthestApart_20 : decode cX8_furthestApart 20 = .ok (.aload_n 0, 1) := by decide +kernel
theorem dX8_furthestApart_21 : decode cX8_furthestApart 21 = .ok (.iload_n 1, 1) := by decide +kernel
theorem dX8_furthestApart_22 : decode cX8_furthestApart 22 = .ok (.iload 5, 2) := by decide +kernel
theorem dX8_furthestApart_24 : decode cX8_furthestApart 24 = .ok (.iload 11, 2) := by decide +kernel
theorem dX8_furthestApart_26 : decode cX8_furthestApart 26 = .ok (.iload_n 2, 1) := by decide +kernel
theorem dX8_furthestApart_27 : decode cX8_furthestApart 27 = .ok (.invokevirtual 178, 3) := by decide +kernel
theorem dX8_furthestApart_30 : decode cX8_furthestApart 30 = .ok (.aload_n 0, 1) := by decide +kernel
theorem dX8_furthestApart_31 : decode cX8_furthestApart 31 = .ok (.iload_n 3, 1) := by decide +kernel
theorem dX8_furthestApart_32 : decode cX8_furthestApart 32 = .ok (.iload 5, 2) := by decide +kernel
theorem dX8_furthestApart_34 : decode cX8_furthestApart 34 = .ok (.iload 11, 2) := by decide +kernel
theorem dX8_furthestApart_36 : decode cX8_furthestApart 36 = .ok (.iload 4, 2) := by decide +kernel
theorem dX8_furthestApart_38 : decode cX8_furthestApart 38 = .ok (.invokevirtual 178, 3) := by decide +kernel
theorem dX8_furthestApart_41 : decode cX8_furthestApart 41 = .ok (.lsub, 1) := by decide +kernel
theorem dX8_furthestApart_42 : decode cX8_furthestApart 42 = .ok (.invokestatic 196, 3) := by decide +kernel
theorem dX8_furthestApart_45 : decode cX8_furthestApart 45 = .ok (.lstore 12, 2) := by decide +kernel
theorem dX8_furthestApart_47 : decode cX8_furthestApart 47 = .ok (.lload 12, 2) := by decide +kernel
theorem dX8_furthestApart_49 : decode cX8_furthestApart 49 = .ok (.lload 8, 2) := by decide +kernel
theorem dX8_furthestApart_51 : decode cX8_furthestApart 51 = .ok (.lcmp, 1) := by decide +kernel
theorem dX8_furthestApart_52 : decode cX8_furthestApart 52 = .ok (.ifCond .le 11, 3) := by decide +kernel
theorem dX8_furthestApart_55 : decode cX8_furthestApart 55 = .ok (.lload 12, 2) := by decide +kernel
theorem dX8_furthestApart_57 : decode cX8_furthestApart 57 = .ok (.lstore 8, 2) := by decide +kernel
theorem dX8_furthestApart_59 : decode cX8_furthestApart 59 = .ok (.iload 11, 2) := by decide +kernel
theorem dX8_furthestApart_61 : decode cX8_furthestApart 61 = .ok (.istore 10, 2) := by decide +kernel
theorem dX8_furthestApart_63 : decode cX8_furthestApart 63 = .ok (.iinc 11 1, 3) := by decide +kernel
theorem dX8_furthestApart_66 : decode cX8_furthestApart 66 = .ok (.goto (-53), 3) := by decide +kernel
theorem dX8_furthestApart_69 : decode cX8_furthestApart 69 = .ok (.iload 10, 2) := by decide +kernel
theorem dX8_furthestApart_71 : decode cX8_furthestApart 71 = .ok (.ireturn, 1) := by decide +kernel
theorem dX8_hasPair_0 : decode cX8_hasPair 0 = .ok (.iconst 0, 1) := by decide +kernel
theorem dX8_hasPair_1 : decode cX8_hasPair 1 = .ok (.istore 4, 2) := by decide +kernel
theorem dX8_hasPair_3 : decode cX8_hasPair 3 = .ok (.iload 4, 2) := by decide +kernel
theorem dX8_hasPair_5 : decode cX8_hasPair 5 = .ok (.aload_n 0, 1) := by decide +kernel
theorem dX8_hasPair_6 : decode cX8_hasPair 6 = .ok (.getfield 33, 3) := by decide +kernel
theorem dX8_hasPair_9 : decode cX8_hasPair 9 = .ok (.getfield 182, 3) := by decide +kernel
theorem dX8_hasPair_12 : decode cX8_hasPair 12 = .ok (.if_icmp .ge 46, 3) := by decide +kernel
theorem dX8_hasPair_15 : decode cX8_hasPair 15 = .ok (.iconst 0, 1) := by decide +kernel
theorem dX8_hasPair_16 : decode cX8_hasPair 16 = .ok (.istore 5, 2) := by decide +kernel
theorem dX8_hasPair_18 : decode cX8_hasPair 18 = .ok (.iload 5, 2) := by decide +kernel
theorem dX8_hasPair_20 : decode cX8_hasPair 20 = .ok (.aload_n 0, 1) := by decide +kernel
theorem dX8_hasPair_21 : decode cX8_hasPair 21 = .ok (.getfield 33, 3) := by decide +kernel
theorem dX8_hasPair_24 : decode cX8_hasPair 24 = .ok (.getfield 182, 3) := by decide +kernel
theorem dX8_hasPair_27 : decode cX8_hasPair 27 = .ok (.if_icmp .ge 25, 3) := by decide +kernel
theorem dX8_hasPair_30 : decode cX8_hasPair 30 = .ok (.aload_n 0, 1) := by decide +kernel
theorem dX8_hasPair_31 : decode cX8_hasPair 31 = .ok (.iload 4, 2) := by decide +kernel
theorem dX8_hasPair_33 : decode cX8_hasPair 33 = .ok (.iload 5, 2) := by decide +kernel
theorem dX8_hasPair_35 : decode cX8_hasPair 35 = .ok (.iload_n 1, 1) := by decide +kernel
theorem dX8_hasPair_36 : decode cX8_hasPair 36 = .ok (.iload_n 2, 1) := by decide +kernel
theorem dX8_hasPair_37 : decode cX8_hasPair 37 = .ok (.iload_n 3, 1) := by decide +kernel
theorem dX8_hasPair_38 : decode cX8_hasPair 38 = .ok (.invokevirtual 200, 3) := by decide +kernel
theorem dX8_hasPair_41 : decode cX8_hasPair 41 = .ok (.ifCond .eq 5, 3) := by decide +kernel
theorem dX8_hasPair_44 : decode cX8_hasPair 44 = .ok (.iconst 1, 1) := by decide +kernel
theorem dX8_hasPair_45 : decode cX8_hasPair 45 = .ok (.ireturn, 1) := by decide +kernel
theorem dX8_hasPair_46 : decode cX8_hasPair 46 = .ok (.iinc 5 1, 3) := by decide +kernel
theorem dX8_hasPair_49 : decode cX8_hasPair 49 = .ok (.goto (-31), 3) := by decide +kernel
theorem dX8_hasPair_52 : decode cX8_hasPair 52 = .ok (.iinc 4 1, 3) := by decide +kernel
theorem dX8_hasPair_55 : decode cX8_hasPair 55 = .ok (.goto (-52), 3) := by decide +kernel
theorem dX8_hasPair_58 : decode cX8_hasPair 58 = .ok (.iconst 0, 1) := by decide +kernel
theorem dX8_hasPair_59 : decode cX8_hasPair 59 = .ok (.ireturn, 1) := by decide +kernel
theorem dX8_leastApart_0 : decode cX8_leastApart 0 = .ok (.ldc2_w 204, 3) := by decide +kernel
theorem dX8_leastApart_3 : decode cX8_leastApart 3 = .ok (.lstore 4, 2) := by decide +kernel
