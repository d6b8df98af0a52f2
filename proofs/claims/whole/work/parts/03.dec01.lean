theorem dX8_leastApart_5 : decode cX8_leastApart 5 = .ok (.iconst 0, 1) := by decide +kernel
theorem dX8_leastApart_6 : decode cX8_leastApart 6 = .ok (.istore 6, 2) := by decide +kernel
theorem dX8_leastApart_8 : decode cX8_leastApart 8 = .ok (.iload 6, 2) := by decide +kernel
theorem dX8_leastApart_10 : decode cX8_leastApart 10 = .ok (.aload_n 0, 1) := by decide +kernel
theorem dX8_leastApart_11 : decode cX8_leastApart 11 = .ok (.getfield 33, 3) := by decide +kernel
theorem dX8_leastApart_14 : decode cX8_leastApart 14 = .ok (.getfield 182, 3) := by decide +kernel
theorem dX8_leastApart_17 : decode cX8_leastApart 17 = .ok (.if_icmp .ge 66, 3) := by decide +kernel
theorem dX8_leastApart_20 : decode cX8_leastApart 20 = .ok (.iconst 0, 1) := by decide +kernel
theorem dX8_leastApart_21 : decode cX8_leastApart 21 = .ok (.istore 7, 2) := by decide +kernel
theorem dX8_leastApart_23 : decode cX8_leastApart 23 = .ok (.iload 7, 2) := by decide +kernel
theorem dX8_leastApart_25 : decode cX8_leastApart 25 = .ok (.aload_n 0, 1) := by decide +kernel
theorem dX8_leastApart_26 : decode cX8_leastApart 26 = .ok (.getfield 33, 3) := by decide +kernel
theorem dX8_leastApart_29 : decode cX8_leastApart 29 = .ok (.getfield 182, 3) := by decide +kernel
theorem dX8_leastApart_32 : decode cX8_leastApart 32 = .ok (.if_icmp .ge 45, 3) := by decide +kernel
theorem dX8_leastApart_35 : decode cX8_leastApart 35 = .ok (.aload_n 0, 1) := by decide +kernel
theorem dX8_leastApart_36 : decode cX8_leastApart 36 = .ok (.iload 6, 2) := by decide +kernel
theorem dX8_leastApart_38 : decode cX8_leastApart 38 = .ok (.iload 7, 2) := by decide +kernel
theorem dX8_leastApart_40 : decode cX8_leastApart 40 = .ok (.iload_n 1, 1) := by decide +kernel
theorem dX8_leastApart_41 : decode cX8_leastApart 41 = .ok (.iload_n 2, 1) := by decide +kernel
theorem dX8_leastApart_42 : decode cX8_leastApart 42 = .ok (.iload_n 3, 1) := by decide +kernel
theorem dX8_leastApart_43 : decode cX8_leastApart 43 = .ok (.invokevirtual 200, 3) := by decide +kernel
theorem dX8_leastApart_46 : decode cX8_leastApart 46 = .ok (.ifCond .eq 25, 3) := by decide +kernel
theorem dX8_leastApart_49 : decode cX8_leastApart 49 = .ok (.lload 4, 2) := by decide +kernel
theorem dX8_leastApart_51 : decode cX8_leastApart 51 = .ok (.aload_n 0, 1) := by decide +kernel
theorem dX8_leastApart_52 : decode cX8_leastApart 52 = .ok (.iload 6, 2) := by decide +kernel
theorem dX8_leastApart_54 : decode cX8_leastApart 54 = .ok (.iload_n 3, 1) := by decide +kernel
theorem dX8_leastApart_55 : decode cX8_leastApart 55 = .ok (.invokevirtual 206, 3) := by decide +kernel
theorem dX8_leastApart_58 : decode cX8_leastApart 58 = .ok (.aload_n 0, 1) := by decide +kernel
theorem dX8_leastApart_59 : decode cX8_leastApart 59 = .ok (.iload 7, 2) := by decide +kernel
theorem dX8_leastApart_61 : decode cX8_leastApart 61 = .ok (.iload_n 3, 1) := by decide +kernel
theorem dX8_leastApart_62 : decode cX8_leastApart 62 = .ok (.invokevirtual 206, 3) := by decide +kernel
theorem dX8_leastApart_65 : decode cX8_leastApart 65 = .ok (.lsub, 1) := by decide +kernel
theorem dX8_leastApart_66 : decode cX8_leastApart 66 = .ok (.invokestatic 72, 3) := by decide +kernel
theorem dX8_leastApart_69 : decode cX8_leastApart 69 = .ok (.lstore 4, 2) := by decide +kernel
theorem dX8_leastApart_71 : decode cX8_leastApart 71 = .ok (.iinc 7 1, 3) := by decide +kernel
theorem dX8_leastApart_74 : decode cX8_leastApart 74 = .ok (.goto (-51), 3) := by decide +kernel
theorem dX8_leastApart_77 : decode cX8_leastApart 77 = .ok (.iinc 6 1, 3) := by decide +kernel
theorem dX8_leastApart_80 : decode cX8_leastApart 80 = .ok (.goto (-72), 3) := by decide +kernel
theorem dX8_leastApart_83 : decode cX8_leastApart 83 = .ok (.lload 4, 2) := by decide +kernel
theorem dX8_leastApart_85 : decode cX8_leastApart 85 = .ok (.lreturn, 1) := by decide +kernel
theorem dX8_isPair_0 : decode cX8_isPair 0 = .ok (.iload 5, 2) := by decide +kernel
theorem dX8_isPair_2 : decode cX8_isPair 2 = .ok (.ifCond .eq 38, 3) := by decide +kernel
theorem dX8_isPair_5 : decode cX8_isPair 5 = .ok (.aload_n 0, 1) := by decide +kernel
theorem dX8_isPair_6 : decode cX8_isPair 6 = .ok (.getfield 33, 3) := by decide +kernel
theorem dX8_isPair_9 : decode cX8_isPair 9 = .ok (.getfield 129, 3) := by decide +kernel
theorem dX8_isPair_12 : decode cX8_isPair 12 = .ok (.iload_n 1, 1) := by decide +kernel
theorem dX8_isPair_13 : decode cX8_isPair 13 = .ok (.iaload, 1) := by decide +kernel
theorem dX8_isPair_14 : decode cX8_isPair 14 = .ok (.iload_n 3, 1) := by decide +kernel
theorem dX8_isPair_15 : decode cX8_isPair 15 = .ok (.if_icmp .ne 21, 3) := by decide +kernel
theorem dX8_isPair_18 : decode cX8_isPair 18 = .ok (.aload_n 0, 1) := by decide +kernel
theorem dX8_isPair_19 : decode cX8_isPair 19 = .ok (.getfield 33, 3) := by decide +kernel
theorem dX8_isPair_22 : decode cX8_isPair 22 = .ok (.getfield 129, 3) := by decide +kernel
theorem dX8_isPair_25 : decode cX8_isPair 25 = .ok (.iload_n 2, 1) := by decide +kernel
theorem dX8_isPair_26 : decode cX8_isPair 26 = .ok (.iaload, 1) := by decide +kernel
theorem dX8_isPair_27 : decode cX8_isPair 27 = .ok (.iload 4, 2) := by decide +kernel
theorem dX8_isPair_29 : decode cX8_isPair 29 = .ok (.if_icmp .ne 7, 3) := by decide +kernel
theorem dX8_isPair_32 : decode cX8_isPair 32 = .ok (.iconst 1, 1) := by decide +kernel
theorem dX8_isPair_33 : decode cX8_isPair 33 = .ok (.goto 39, 3) := by decide +kernel
theorem dX8_isPair_36 : decode cX8_isPair 36 = .ok (.iconst 0, 1) := by decide +kernel
theorem dX8_isPair_37 : decode cX8_isPair 37 = .ok (.goto 35, 3) := by decide +kernel
theorem dX8_isPair_40 : decode cX8_isPair 40 = .ok (.aload_n 0, 1) := by decide +kernel
theorem dX8_isPair_41 : decode cX8_isPair 41 = .ok (.getfield 33, 3) := by decide +kernel
theorem dX8_isPair_44 : decode cX8_isPair 44 = .ok (.getfield 120, 3) := by decide +kernel
theorem dX8_isPair_47 : decode cX8_isPair 47 = .ok (.iload_n 1, 1) := by decide +kernel
theorem dX8_isPair_48 : decode cX8_isPair 48 = .ok (.iaload, 1) := by decide +kernel
theorem dX8_isPair_49 : decode cX8_isPair 49 = .ok (.iload_n 3, 1) := by decide +kernel
theorem dX8_isPair_50 : decode cX8_isPair 50 = .ok (.if_icmp .ne 21, 3) := by decide +kernel
theorem dX8_isPair_53 : decode cX8_isPair 53 = .ok (.aload_n 0, 1) := by decide +kernel
theorem dX8_isPair_54 : decode cX8_isPair 54 = .ok (.getfield 33, 3) := by decide +kernel
theorem dX8_isPair_57 : decode cX8_isPair 57 = .ok (.getfield 120, 3) := by decide +kernel
theorem dX8_isPair_60 : decode cX8_isPair 60 = .ok (.iload_n 2, 1) := by decide +kernel
theorem dX8_isPair_61 : decode cX8_isPair 61 = .ok (.iaload, 1) := by decide +kernel
theorem dX8_isPair_62 : decode cX8_isPair 62 = .ok (.iload 4, 2) := by decide +kernel
theorem dX8_isPair_64 : decode cX8_isPair 64 = .ok (.if_icmp .ne 7, 3) := by decide +kernel
theorem dX8_isPair_67 : decode cX8_isPair 67 = .ok (.iconst 1, 1) := by decide +kernel
theorem dX8_isPair_68 : decode cX8_isPair 68 = .ok (.goto 4, 3) := by decide +kernel
theorem dX8_isPair_71 : decode cX8_isPair 71 = .ok (.iconst 0, 1) := by decide +kernel
theorem dX8_isPair_72 : decode cX8_isPair 72 = .ok (.istore 6, 2) := by decide +kernel
theorem dX8_isPair_74 : decode cX8_isPair 74 = .ok (.iload 6, 2) := by decide +kernel
theorem dX8_isPair_76 : decode cX8_isPair 76 = .ok (.ifCond .eq 75, 3) := by decide +kernel
theorem dX8_isPair_79 : decode cX8_isPair 79 = .ok (.aload_n 0, 1) := by decide +kernel
theorem dX8_isPair_80 : decode cX8_isPair 80 = .ok (.getfield 33, 3) := by decide +kernel
theorem dX8_isPair_83 : decode cX8_isPair 83 = .ok (.getfield 135, 3) := by decide +kernel
theorem dX8_isPair_86 : decode cX8_isPair 86 = .ok (.iload_n 1, 1) := by decide +kernel
theorem dX8_isPair_87 : decode cX8_isPair 87 = .ok (.iaload, 1) := by decide +kernel
theorem dX8_isPair_88 : decode cX8_isPair 88 = .ok (.aload_n 0, 1) := by decide +kernel
theorem dX8_isPair_89 : decode cX8_isPair 89 = .ok (.getfield 33, 3) := by decide +kernel
theorem dX8_isPair_92 : decode cX8_isPair 92 = .ok (.getfield 135, 3) := by decide +kernel
theorem dX8_isPair_95 : decode cX8_isPair 95 = .ok (.iload_n 2, 1) := by decide +kernel
theorem dX8_isPair_96 : decode cX8_isPair 96 = .ok (.iaload, 1) := by decide +kernel
theorem dX8_isPair_97 : decode cX8_isPair 97 = .ok (.if_icmp .ne 54, 3) := by decide +kernel
theorem dX8_isPair_100 : decode cX8_isPair 100 = .ok (.aload_n 0, 1) := by decide +kernel
theorem dX8_isPair_101 : decode cX8_isPair 101 = .ok (.getfield 33, 3) := by decide +kernel
theorem dX8_isPair_104 : decode cX8_isPair 104 = .ok (.getfield 175, 3) := by decide +kernel
theorem dX8_isPair_107 : decode cX8_isPair 107 = .ok (.iload_n 1, 1) := by decide +kernel
theorem dX8_isPair_108 : decode cX8_isPair 108 = .ok (.iaload, 1) := by decide +kernel
theorem dX8_isPair_109 : decode cX8_isPair 109 = .ok (.aload_n 0, 1) := by decide +kernel
theorem dX8_isPair_110 : decode cX8_isPair 110 = .ok (.getfield 33, 3) := by decide +kernel
theorem dX8_isPair_113 : decode cX8_isPair 113 = .ok (.getfield 175, 3) := by decide +kernel
theorem dX8_isPair_116 : decode cX8_isPair 116 = .ok (.iload_n 2, 1) := by decide +kernel
theorem dX8_isPair_117 : decode cX8_isPair 117 = .ok (.iaload, 1) := by decide +kernel
theorem dX8_isPair_118 : decode cX8_isPair 118 = .ok (.if_icmp .ne 33, 3) := by decide +kernel
theorem dX8_isPair_121 : decode cX8_isPair 121 = .ok (.aload_n 0, 1) := by decide +kernel
theorem dX8_isPair_122 : decode cX8_isPair 122 = .ok (.getfield 33, 3) := by decide +kernel
theorem dX8_isPair_125 : decode cX8_isPair 125 = .ok (.getfield 123, 3) := by decide +kernel
theorem dX8_isPair_128 : decode cX8_isPair 128 = .ok (.iload_n 1, 1) := by decide +kernel
theorem dX8_isPair_129 : decode cX8_isPair 129 = .ok (.iaload, 1) := by decide +kernel
theorem dX8_isPair_130 : decode cX8_isPair 130 = .ok (.iconst 5, 1) := by decide +kernel
theorem dX8_isPair_131 : decode cX8_isPair 131 = .ok (.if_icmp .eq 20, 3) := by decide +kernel
theorem dX8_isPair_134 : decode cX8_isPair 134 = .ok (.aload_n 0, 1) := by decide +kernel
theorem dX8_isPair_135 : decode cX8_isPair 135 = .ok (.getfield 33, 3) := by decide +kernel
theorem dX8_isPair_138 : decode cX8_isPair 138 = .ok (.getfield 123, 3) := by decide +kernel
theorem dX8_isPair_141 : decode cX8_isPair 141 = .ok (.iload_n 2, 1) := by decide +kernel
theorem dX8_isPair_142 : decode cX8_isPair 142 = .ok (.iaload, 1) := by decide +kernel
theorem dX8_isPair_143 : decode cX8_isPair 143 = .ok (.iconst 5, 1) := by decide +kernel
theorem dX8_isPair_144 : decode cX8_isPair 144 = .ok (.if_icmp .eq 7, 3) := by decide +kernel
theorem dX8_isPair_147 : decode cX8_isPair 147 = .ok (.iconst 1, 1) := by decide +kernel
theorem dX8_isPair_148 : decode cX8_isPair 148 = .ok (.goto 4, 3) := by decide +kernel
theorem dX8_isPair_151 : decode cX8_isPair 151 = .ok (.iconst 0, 1) := by decide +kernel
theorem dX8_isPair_152 : decode cX8_isPair 152 = .ok (.ireturn, 1) := by decide +kernel
theorem dX8_rawRight_0 : decode cX8_rawRight 0 = .ok (.aload_n 0, 1) := by decide +kernel
theorem dX8_rawRight_1 : decode cX8_rawRight 1 = .ok (.iload_n 1, 1) := by decide +kernel
theorem dX8_rawRight_2 : decode cX8_rawRight 2 = .ok (.invokevirtual 172, 3) := by decide +kernel
theorem dX8_rawRight_5 : decode cX8_rawRight 5 = .ok (.iload_n 2, 1) := by decide +kernel
theorem dX8_rawRight_6 : decode cX8_rawRight 6 = .ok (.ifCond .eq 11, 3) := by decide +kernel
theorem dX8_rawRight_9 : decode cX8_rawRight 9 = .ok (.aload_n 0, 1) := by decide +kernel
theorem dX8_rawRight_10 : decode cX8_rawRight 10 = .ok (.iload_n 1, 1) := by decide +kernel
theorem dX8_rawRight_11 : decode cX8_rawRight 11 = .ok (.invokevirtual 110, 3) := by decide +kernel
theorem dX8_rawRight_14 : decode cX8_rawRight 14 = .ok (.goto 8, 3) := by decide +kernel
theorem dX8_rawRight_17 : decode cX8_rawRight 17 = .ok (.aload_n 0, 1) := by decide +kernel
theorem dX8_rawRight_18 : decode cX8_rawRight 18 = .ok (.iload_n 1, 1) := by decide +kernel
theorem dX8_rawRight_19 : decode cX8_rawRight 19 = .ok (.invokevirtual 107, 3) := by decide +kernel
theorem dX8_rawRight_22 : decode cX8_rawRight 22 = .ok (.i2l, 1) := by decide +kernel
theorem dX8_rawRight_23 : decode cX8_rawRight 23 = .ok (.ladd, 1) := by decide +kernel
theorem dX8_rawRight_24 : decode cX8_rawRight 24 = .ok (.lreturn, 1) := by decide +kernel
theorem dX9_init_0 : decode cX9_init 0 = .ok (.aload_n 0, 1) := by decide +kernel
theorem dX9_init_1 : decode cX9_init 1 = .ok (.invokespecial 1, 3) := by decide +kernel
theorem dX9_init_4 : decode cX9_init 4 = .ok (.aload_n 0, 1) := by decide +kernel
theorem dX9_init_5 : decode cX9_init 5 = .ok (.new 7, 3) := by decide +kernel
theorem dX9_init_8 : decode cX9_init 8 = .ok (.dup, 1) := by decide +kernel
theorem dX9_init_9 : decode cX9_init 9 = .ok (.invokespecial 9, 3) := by decide +kernel
theorem dX9_init_12 : decode cX9_init 12 = .ok (.putfield 10, 3) := by decide +kernel
theorem dX9_init_15 : decode cX9_init 15 = .ok (.aload_n 0, 1) := by decide +kernel
theorem dX9_init_16 : decode cX9_init 16 = .ok (.new 7, 3) := by decide +kernel
theorem dX9_init_19 : decode cX9_init 19 = .ok (.dup, 1) := by decide +kernel
theorem dX9_init_20 : decode cX9_init 20 = .ok (.invokespecial 9, 3) := by decide +kernel
theorem dX9_init_23 : decode cX9_init 23 = .ok (.putfield 16, 3) := by decide +kernel
theorem dX9_init_26 : decode cX9_init 26 = .ok (.aload_n 0, 1) := by decide +kernel
theorem dX9_init_27 : decode cX9_init 27 = .ok (.new 19, 3) := by decide +kernel
theorem dX9_init_30 : decode cX9_init 30 = .ok (.dup, 1) := by decide +kernel
theorem dX9_init_31 : decode cX9_init 31 = .ok (.invokespecial 21, 3) := by decide +kernel
theorem dX9_init_34 : decode cX9_init 34 = .ok (.putfield 22, 3) := by decide +kernel
theorem dX9_init_37 : decode cX9_init 37 = .ok (.aload_n 0, 1) := by decide +kernel
theorem dX9_init_38 : decode cX9_init 38 = .ok (.bipush 80, 2) := by decide +kernel
theorem dX9_init_40 : decode cX9_init 40 = .ok (.newarray .int, 2) := by decide +kernel
theorem dX9_init_42 : decode cX9_init 42 = .ok (.putfield 26, 3) := by decide +kernel
theorem dX9_init_45 : decode cX9_init 45 = .ok (.aload_n 0, 1) := by decide +kernel
theorem dX9_init_46 : decode cX9_init 46 = .ok (.bipush 6, 2) := by decide +kernel
theorem dX9_init_48 : decode cX9_init 48 = .ok (.newarray .int, 2) := by decide +kernel
theorem dX9_init_50 : decode cX9_init 50 = .ok (.putfield 30, 3) := by decide +kernel
theorem dX9_init_53 : decode cX9_init 53 = .ok (.aload_n 0, 1) := by decide +kernel
theorem dX9_init_54 : decode cX9_init 54 = .ok (.new 33, 3) := by decide +kernel
theorem dX9_init_57 : decode cX9_init 57 = .ok (.dup, 1) := by decide +kernel
theorem dX9_init_58 : decode cX9_init 58 = .ok (.aload_n 0, 1) := by decide +kernel
theorem dX9_init_59 : decode cX9_init 59 = .ok (.getfield 10, 3) := by decide +kernel
theorem dX9_init_62 : decode cX9_init 62 = .ok (.invokespecial 35, 3) := by decide +kernel
theorem dX9_init_65 : decode cX9_init 65 = .ok (.putfield 38, 3) := by decide +kernel
theorem dX9_init_68 : decode cX9_init 68 = .ok (.aload_n 0, 1) := by decide +kernel
theorem dX9_init_69 : decode cX9_init 69 = .ok (.new 42, 3) := by decide +kernel
theorem dX9_init_72 : decode cX9_init 72 = .ok (.dup, 1) := by decide +kernel
theorem dX9_init_73 : decode cX9_init 73 = .ok (.aload_n 0, 1) := by decide +kernel
theorem dX9_init_74 : decode cX9_init 74 = .ok (.getfield 10, 3) := by decide +kernel
theorem dX9_init_77 : decode cX9_init 77 = .ok (.invokespecial 44, 3) := by decide +kernel
theorem dX9_init_80 : decode cX9_init 80 = .ok (.putfield 45, 3) := by decide +kernel
theorem dX9_init_83 : decode cX9_init 83 = .ok (.return_, 1) := by decide +kernel
theorem dX9_moon_0 : decode cX9_moon 0 = .ok (.iload_n 1, 1) := by decide +kernel
theorem dX9_moon_1 : decode cX9_moon 1 = .ok (.iconst 4, 1) := by decide +kernel
theorem dX9_moon_2 : decode cX9_moon 2 = .ok (.invokestatic 49, 3) := by decide +kernel
theorem dX9_moon_5 : decode cX9_moon 5 = .ok (.ifCond .eq 7, 3) := by decide +kernel
theorem dX9_moon_8 : decode cX9_moon 8 = .ok (.iconst 0, 1) := by decide +kernel
theorem dX9_moon_9 : decode cX9_moon 9 = .ok (.goto 4, 3) := by decide +kernel
theorem dX9_moon_12 : decode cX9_moon 12 = .ok (.iconst (-1), 1) := by decide +kernel
theorem dX9_moon_13 : decode cX9_moon 13 = .ok (.istore 6, 2) := by decide +kernel
theorem dX9_moon_15 : decode cX9_moon 15 = .ok (.iload 6, 2) := by decide +kernel
theorem dX9_moon_17 : decode cX9_moon 17 = .ok (.iload_n 2, 1) := by decide +kernel
theorem dX9_moon_18 : decode cX9_moon 18 = .ok (.iconst 0, 1) := by decide +kernel
theorem dX9_moon_19 : decode cX9_moon 19 = .ok (.ldc 53, 2) := by decide +kernel
theorem dX9_moon_21 : decode cX9_moon 21 = .ok (.invokestatic 54, 3) := by decide +kernel
theorem dX9_moon_24 : decode cX9_moon 24 = .ok (.invokestatic 58, 3) := by decide +kernel
theorem dX9_moon_27 : decode cX9_moon 27 = .ok (.istore 6, 2) := by decide +kernel
theorem dX9_moon_29 : decode cX9_moon 29 = .ok (.iload 6, 2) := by decide +kernel
theorem dX9_moon_31 : decode cX9_moon 31 = .ok (.iload_n 3, 1) := by decide +kernel
theorem dX9_moon_32 : decode cX9_moon 32 = .ok (.sipush 1000, 3) := by decide +kernel
theorem dX9_moon_35 : decode cX9_moon 35 = .ok (.ldc 53, 2) := by decide +kernel
theorem dX9_moon_37 : decode cX9_moon 37 = .ok (.invokestatic 54, 3) := by decide +kernel
theorem dX9_moon_40 : decode cX9_moon 40 = .ok (.invokestatic 58, 3) := by decide +kernel
theorem dX9_moon_43 : decode cX9_moon 43 = .ok (.istore 6, 2) := by decide +kernel
theorem dX9_moon_45 : decode cX9_moon 45 = .ok (.iload 6, 2) := by decide +kernel
theorem dX9_moon_47 : decode cX9_moon 47 = .ok (.iload 4, 2) := by decide +kernel
theorem dX9_moon_49 : decode cX9_moon 49 = .ok (.iconst 0, 1) := by decide +kernel
theorem dX9_moon_50 : decode cX9_moon 50 = .ok (.bipush 99, 2) := by decide +kernel
theorem dX9_moon_52 : decode cX9_moon 52 = .ok (.invokestatic 54, 3) := by decide +kernel
theorem dX9_moon_55 : decode cX9_moon 55 = .ok (.invokestatic 58, 3) := by decide +kernel
theorem dX9_moon_58 : decode cX9_moon 58 = .ok (.istore 6, 2) := by decide +kernel
theorem dX9_moon_60 : decode cX9_moon 60 = .ok (.iload 6, 2) := by decide +kernel
theorem dX9_moon_62 : decode cX9_moon 62 = .ok (.iload 5, 2) := by decide +kernel
theorem dX9_moon_64 : decode cX9_moon 64 = .ok (.iconst 0, 1) := by decide +kernel
theorem dX9_moon_65 : decode cX9_moon 65 = .ok (.sipush 9999, 3) := by decide +kernel
theorem dX9_moon_68 : decode cX9_moon 68 = .ok (.invokestatic 54, 3) := by decide +kernel
theorem dX9_moon_71 : decode cX9_moon 71 = .ok (.invokestatic 58, 3) := by decide +kernel
theorem dX9_moon_74 : decode cX9_moon 74 = .ok (.istore 6, 2) := by decide +kernel
theorem dX9_moon_76 : decode cX9_moon 76 = .ok (.iload 6, 2) := by decide +kernel
theorem dX9_moon_78 : decode cX9_moon 78 = .ok (.ifCond .eq 10, 3) := by decide +kernel
theorem dX9_moon_81 : decode cX9_moon 81 = .ok (.aload_n 0, 1) := by decide +kernel
theorem dX9_moon_82 : decode cX9_moon 82 = .ok (.iload 6, 2) := by decide +kernel
theorem dX9_moon_84 : decode cX9_moon 84 = .ok (.invokevirtual 62, 3) := by decide +kernel
theorem dX9_moon_87 : decode cX9_moon 87 = .ok (.ireturn, 1) := by decide +kernel
theorem dX9_moon_88 : decode cX9_moon 88 = .ok (.aload_n 0, 1) := by decide +kernel
theorem dX9_moon_89 : decode cX9_moon 89 = .ok (.getfield 10, 3) := by decide +kernel
theorem dX9_moon_92 : decode cX9_moon 92 = .ok (.getfield 66, 3) := by decide +kernel
theorem dX9_moon_95 : decode cX9_moon 95 = .ok (.iload_n 1, 1) := by decide +kernel
theorem dX9_moon_96 : decode cX9_moon 96 = .ok (.iload_n 2, 1) := by decide +kernel
theorem dX9_moon_97 : decode cX9_moon 97 = .ok (.iload_n 3, 1) := by decide +kernel
theorem dX9_moon_98 : decode cX9_moon 98 = .ok (.iload 4, 2) := by decide +kernel
theorem dX9_moon_100 : decode cX9_moon 100 = .ok (.iload 5, 2) := by decide +kernel
theorem dX9_moon_102 : decode cX9_moon 102 = .ok (.invokevirtual 70, 3) := by decide +kernel
theorem dX9_moon_105 : decode cX9_moon 105 = .ok (.ifCond .eq 7, 3) := by decide +kernel
theorem dX9_moon_108 : decode cX9_moon 108 = .ok (.iconst 1, 1) := by decide +kernel
theorem dX9_moon_109 : decode cX9_moon 109 = .ok (.goto 4, 3) := by decide +kernel
theorem dX9_moon_112 : decode cX9_moon 112 = .ok (.iconst 0, 1) := by decide +kernel
theorem dX9_moon_113 : decode cX9_moon 113 = .ok (.ireturn, 1) := by decide +kernel
theorem dX9_pull_0 : decode cX9_pull 0 = .ok (.aload_n 0, 1) := by decide +kernel
theorem dX9_pull_1 : decode cX9_pull 1 = .ok (.iload_n 1, 1) := by decide +kernel
theorem dX9_pull_2 : decode cX9_pull 2 = .ok (.invokevirtual 76, 3) := by decide +kernel
theorem dX9_pull_5 : decode cX9_pull 5 = .ok (.aload_n 0, 1) := by decide +kernel
theorem dX9_pull_6 : decode cX9_pull 6 = .ok (.iload_n 2, 1) := by decide +kernel
theorem dX9_pull_7 : decode cX9_pull 7 = .ok (.invokevirtual 76, 3) := by decide +kernel
theorem dX9_pull_10 : decode cX9_pull 10 = .ok (.invokestatic 58, 3) := by decide +kernel
theorem dX9_pull_13 : decode cX9_pull 13 = .ok (.istore 4, 2) := by decide +kernel
theorem dX9_pull_15 : decode cX9_pull 15 = .ok (.iload 4, 2) := by decide +kernel
theorem dX9_pull_17 : decode cX9_pull 17 = .ok (.iload_n 1, 1) := by decide +kernel
theorem dX9_pull_18 : decode cX9_pull 18 = .ok (.iload_n 2, 1) := by decide +kernel
theorem dX9_pull_19 : decode cX9_pull 19 = .ok (.if_icmp .ne 7, 3) := by decide +kernel
theorem dX9_pull_22 : decode cX9_pull 22 = .ok (.iconst (-1), 1) := by decide +kernel
theorem dX9_pull_23 : decode cX9_pull 23 = .ok (.goto 4, 3) := by decide +kernel
theorem dX9_pull_26 : decode cX9_pull 26 = .ok (.iconst 0, 1) := by decide +kernel
theorem dX9_pull_27 : decode cX9_pull 27 = .ok (.invokestatic 58, 3) := by decide +kernel
theorem dX9_pull_30 : decode cX9_pull 30 = .ok (.istore 4, 2) := by decide +kernel
theorem dX9_pull_32 : decode cX9_pull 32 = .ok (.iload 4, 2) := by decide +kernel
theorem dX9_pull_34 : decode cX9_pull 34 = .ok (.iload_n 3, 1) := by decide +kernel
theorem dX9_pull_35 : decode cX9_pull 35 = .ok (.bipush (-9), 2) := by decide +kernel
theorem dX9_pull_37 : decode cX9_pull 37 = .ok (.bipush 9, 2) := by decide +kernel
theorem dX9_pull_39 : decode cX9_pull 39 = .ok (.invokestatic 54, 3) := by decide +kernel
theorem dX9_pull_42 : decode cX9_pull 42 = .ok (.invokestatic 58, 3) := by decide +kernel
theorem dX9_pull_45 : decode cX9_pull 45 = .ok (.istore 4, 2) := by decide +kernel
theorem dX9_pull_47 : decode cX9_pull 47 = .ok (.iload 4, 2) := by decide +kernel
theorem dX9_pull_49 : decode cX9_pull 49 = .ok (.ifCond .eq 13, 3) := by decide +kernel
theorem dX9_pull_52 : decode cX9_pull 52 = .ok (.bipush (-100), 2) := by decide +kernel
theorem dX9_pull_54 : decode cX9_pull 54 = .ok (.aload_n 0, 1) := by decide +kernel
theorem dX9_pull_55 : decode cX9_pull 55 = .ok (.iload 4, 2) := by decide +kernel
theorem dX9_pull_57 : decode cX9_pull 57 = .ok (.invokevirtual 62, 3) := by decide +kernel
theorem dX9_pull_60 : decode cX9_pull 60 = .ok (.iadd, 1) := by decide +kernel
theorem dX9_pull_61 : decode cX9_pull 61 = .ok (.ireturn, 1) := by decide +kernel
theorem dX9_pull_62 : decode cX9_pull 62 = .ok (.iload_n 1, 1) := by decide +kernel
theorem dX9_pull_63 : decode cX9_pull 63 = .ok (.iconst 4, 1) := by decide +kernel
theorem dX9_pull_64 : decode cX9_pull 64 = .ok (.imul, 1) := by decide +kernel
theorem dX9_pull_65 : decode cX9_pull 65 = .ok (.iload_n 2, 1) := by decide +kernel
theorem dX9_pull_66 : decode cX9_pull 66 = .ok (.iadd, 1) := by decide +kernel
theorem dX9_pull_67 : decode cX9_pull 67 = .ok (.istore 5, 2) := by decide +kernel
theorem dX9_pull_69 : decode cX9_pull 69 = .ok (.aload_n 0, 1) := by decide +kernel
theorem dX9_pull_70 : decode cX9_pull 70 = .ok (.getfield 10, 3) := by decide +kernel
theorem dX9_pull_73 : decode cX9_pull 73 = .ok (.getfield 66, 3) := by decide +kernel
theorem dX9_pull_76 : decode cX9_pull 76 = .ok (.getfield 79, 3) := by decide +kernel
theorem dX9_pull_79 : decode cX9_pull 79 = .ok (.iload 5, 2) := by decide +kernel
theorem dX9_pull_81 : decode cX9_pull 81 = .ok (.iaload, 1) := by decide +kernel
theorem dX9_pull_82 : decode cX9_pull 82 = .ok (.istore 6, 2) := by decide +kernel
theorem dX9_pull_84 : decode cX9_pull 84 = .ok (.aload_n 0, 1) := by decide +kernel
theorem dX9_pull_85 : decode cX9_pull 85 = .ok (.getfield 10, 3) := by decide +kernel
theorem dX9_pull_88 : decode cX9_pull 88 = .ok (.getfield 66, 3) := by decide +kernel
theorem dX9_pull_91 : decode cX9_pull 91 = .ok (.getfield 79, 3) := by decide +kernel
theorem dX9_pull_94 : decode cX9_pull 94 = .ok (.iload 5, 2) := by decide +kernel
theorem dX9_pull_96 : decode cX9_pull 96 = .ok (.iload_n 3, 1) := by decide +kernel
theorem dX9_pull_97 : decode cX9_pull 97 = .ok (.iastore, 1) := by decide +kernel
theorem dX9_pull_98 : decode cX9_pull 98 = .ok (.iload 6, 2) := by decide +kernel
theorem dX9_pull_100 : decode cX9_pull 100 = .ok (.ireturn, 1) := by decide +kernel
theorem dX9_set_0 : decode cX9_set 0 = .ok (.iload_n 1, 1) := by decide +kernel
theorem dX9_set_1 : decode cX9_set 1 = .ok (.iconst 5, 1) := by decide +kernel
theorem dX9_set_2 : decode cX9_set 2 = .ok (.invokestatic 49, 3) := by decide +kernel
theorem dX9_set_5 : decode cX9_set 5 = .ok (.ifCond .ne 10, 3) := by decide +kernel
theorem dX9_set_8 : decode cX9_set 8 = .ok (.aload_n 0, 1) := by decide +kernel
theorem dX9_set_9 : decode cX9_set 9 = .ok (.bipush (-2), 2) := by decide +kernel
theorem dX9_set_11 : decode cX9_set 11 = .ok (.invokevirtual 62, 3) := by decide +kernel
theorem dX9_set_14 : decode cX9_set 14 = .ok (.ireturn, 1) := by decide +kernel
theorem dX9_set_15 : decode cX9_set 15 = .ok (.iload_n 2, 1) := by decide +kernel
theorem dX9_set_16 : decode cX9_set 16 = .ok (.getstatic 82, 3) := by decide +kernel
theorem dX9_set_19 : decode cX9_set 19 = .ok (.iload_n 1, 1) := by decide +kernel
theorem dX9_set_20 : decode cX9_set 20 = .ok (.iaload, 1) := by decide +kernel
theorem dX9_set_21 : decode cX9_set 21 = .ok (.getstatic 85, 3) := by decide +kernel
theorem dX9_set_24 : decode cX9_set 24 = .ok (.iload_n 1, 1) := by decide +kernel
theorem dX9_set_25 : decode cX9_set 25 = .ok (.iaload, 1) := by decide +kernel
theorem dX9_set_26 : decode cX9_set 26 = .ok (.invokestatic 54, 3) := by decide +kernel
theorem dX9_set_29 : decode cX9_set 29 = .ok (.istore_n 3, 1) := by decide +kernel
theorem dX9_set_30 : decode cX9_set 30 = .ok (.iload_n 3, 1) := by decide +kernel
theorem dX9_set_31 : decode cX9_set 31 = .ok (.ifCond .eq 9, 3) := by decide +kernel
theorem dX9_set_34 : decode cX9_set 34 = .ok (.aload_n 0, 1) := by decide +kernel
theorem dX9_set_35 : decode cX9_set 35 = .ok (.iload_n 3, 1) := by decide +kernel
theorem dX9_set_36 : decode cX9_set 36 = .ok (.invokevirtual 62, 3) := by decide +kernel
theorem dX9_set_39 : decode cX9_set 39 = .ok (.ireturn, 1) := by decide +kernel
theorem dX9_set_40 : decode cX9_set 40 = .ok (.aload_n 0, 1) := by decide +kernel
theorem dX9_set_41 : decode cX9_set 41 = .ok (.getfield 10, 3) := by decide +kernel
theorem dX9_set_44 : decode cX9_set 44 = .ok (.getfield 88, 3) := by decide +kernel
theorem dX9_set_47 : decode cX9_set 47 = .ok (.iload_n 1, 1) := by decide +kernel
theorem dX9_set_48 : decode cX9_set 48 = .ok (.iaload, 1) := by decide +kernel
theorem dX9_set_49 : decode cX9_set 49 = .ok (.istore 4, 2) := by decide +kernel
theorem dX9_set_51 : decode cX9_set 51 = .ok (.aload_n 0, 1) := by decide +kernel
theorem dX9_set_52 : decode cX9_set 52 = .ok (.getfield 10, 3) := by decide +kernel
theorem dX9_set_55 : decode cX9_set 55 = .ok (.getfield 88, 3) := by decide +kernel
theorem dX9_set_58 : decode cX9_set 58 = .ok (.iload_n 1, 1) := by decide +kernel
theorem dX9_set_59 : decode cX9_set 59 = .ok (.iload_n 2, 1) := by decide +kernel
theorem dX9_set_60 : decode cX9_set 60 = .ok (.iastore, 1) := by decide +kernel
theorem dX9_set_61 : decode cX9_set 61 = .ok (.iload 4, 2) := by decide +kernel
theorem dX9_set_63 : decode cX9_set 63 = .ok (.ireturn, 1) := by decide +kernel
theorem dX9_fading_0 : decode cX9_fading 0 = .ok (.aload_n 0, 1) := by decide +kernel
theorem dX9_fading_1 : decode cX9_fading 1 = .ok (.iload_n 1, 1) := by decide +kernel
theorem dX9_fading_2 : decode cX9_fading 2 = .ok (.invokevirtual 76, 3) := by decide +kernel
theorem dX9_fading_5 : decode cX9_fading 5 = .ok (.iload_n 2, 1) := by decide +kernel
theorem dX9_fading_6 : decode cX9_fading 6 = .ok (.iconst 0, 1) := by decide +kernel
theorem dX9_fading_7 : decode cX9_fading 7 = .ok (.sipush 999, 3) := by decide +kernel
theorem dX9_fading_10 : decode cX9_fading 10 = .ok (.invokestatic 54, 3) := by decide +kernel
theorem dX9_fading_13 : decode cX9_fading 13 = .ok (.invokestatic 58, 3) := by decide +kernel
theorem dX9_fading_16 : decode cX9_fading 16 = .ok (.istore 4, 2) := by decide +kernel
theorem dX9_fading_18 : decode cX9_fading 18 = .ok (.iload 4, 2) := by decide +kernel
theorem dX9_fading_20 : decode cX9_fading 20 = .ok (.ifCond .eq 10, 3) := by decide +kernel
theorem dX9_fading_23 : decode cX9_fading 23 = .ok (.aload_n 0, 1) := by decide +kernel
theorem dX9_fading_24 : decode cX9_fading 24 = .ok (.iload 4, 2) := by decide +kernel
theorem dX9_fading_26 : decode cX9_fading 26 = .ok (.invokevirtual 91, 3) := by decide +kernel
theorem dX9_fading_29 : decode cX9_fading 29 = .ok (.lreturn, 1) := by decide +kernel
theorem dX9_fading_30 : decode cX9_fading 30 = .ok (.iload_n 3, 1) := by decide +kernel
theorem dX9_fading_31 : decode cX9_fading 31 = .ok (.ifCond .eq 15, 3) := by decide +kernel
theorem dX9_fading_34 : decode cX9_fading 34 = .ok (.aload_n 0, 1) := by decide +kernel
theorem dX9_fading_35 : decode cX9_fading 35 = .ok (.getfield 10, 3) := by decide +kernel
theorem dX9_fading_38 : decode cX9_fading 38 = .ok (.iload_n 1, 1) := by decide +kernel
theorem dX9_fading_39 : decode cX9_fading 39 = .ok (.iload_n 2, 1) := by decide +kernel
theorem dX9_fading_40 : decode cX9_fading 40 = .ok (.invokevirtual 95, 3) := by decide +kernel
theorem dX9_fading_43 : decode cX9_fading 43 = .ok (.goto 12, 3) := by decide +kernel
theorem dX9_fading_46 : decode cX9_fading 46 = .ok (.aload_n 0, 1) := by decide +kernel
theorem dX9_fading_47 : decode cX9_fading 47 = .ok (.getfield 10, 3) := by decide +kernel
theorem dX9_fading_50 : decode cX9_fading 50 = .ok (.iload_n 1, 1) := by decide +kernel
theorem dX9_fading_51 : decode cX9_fading 51 = .ok (.iload_n 2, 1) := by decide +kernel
theorem dX9_fading_52 : decode cX9_fading 52 = .ok (.invokevirtual 99, 3) := by decide +kernel
theorem dX9_fading_55 : decode cX9_fading 55 = .ok (.lreturn, 1) := by decide +kernel
theorem dX9_far_0 : decode cX9_far 0 = .ok (.iload_n 1, 1) := by decide +kernel
theorem dX9_far_1 : decode cX9_far 1 = .ok (.iconst 0, 1) := by decide +kernel
theorem dX9_far_2 : decode cX9_far 2 = .ok (.ldc 102, 2) := by decide +kernel
theorem dX9_far_4 : decode cX9_far 4 = .ok (.invokestatic 54, 3) := by decide +kernel
theorem dX9_far_7 : decode cX9_far 7 = .ok (.istore_n 2, 1) := by decide +kernel
theorem dX9_far_8 : decode cX9_far 8 = .ok (.iload_n 2, 1) := by decide +kernel
theorem dX9_far_9 : decode cX9_far 9 = .ok (.ifCond .eq 11, 3) := by decide +kernel
theorem dX9_far_12 : decode cX9_far 12 = .ok (.aload_n 0, 1) := by decide +kernel
theorem dX9_far_13 : decode cX9_far 13 = .ok (.iload_n 2, 1) := by decide +kernel
theorem dX9_far_14 : decode cX9_far 14 = .ok (.invokevirtual 62, 3) := by decide +kernel
theorem dX9_far_17 : decode cX9_far 17 = .ok (.goto 12, 3) := by decide +kernel
theorem dX9_far_20 : decode cX9_far 20 = .ok (.aload_n 0, 1) := by decide +kernel
theorem dX9_far_21 : decode cX9_far 21 = .ok (.getfield 10, 3) := by decide +kernel
theorem dX9_far_24 : decode cX9_far 24 = .ok (.iload_n 1, 1) := by decide +kernel
theorem dX9_far_25 : decode cX9_far 25 = .ok (.i2l, 1) := by decide +kernel
theorem dX9_far_26 : decode cX9_far 26 = .ok (.invokevirtual 103, 3) := by decide +kernel
theorem dX9_far_29 : decode cX9_far 29 = .ok (.ireturn, 1) := by decide +kernel
theorem dX9_tool_0 : decode cX9_tool 0 = .ok (.iload_n 1, 1) := by decide +kernel
theorem dX9_tool_1 : decode cX9_tool 1 = .ok (.getstatic 107, 3) := by decide +kernel
theorem dX9_tool_4 : decode cX9_tool 4 = .ok (.arraylength, 1) := by decide +kernel
theorem dX9_tool_5 : decode cX9_tool 5 = .ok (.invokestatic 49, 3) := by decide +kernel
theorem dX9_tool_8 : decode cX9_tool 8 = .ok (.ifCond .ne 10, 3) := by decide +kernel
theorem dX9_tool_11 : decode cX9_tool 11 = .ok (.aload_n 0, 1) := by decide +kernel
theorem dX9_tool_12 : decode cX9_tool 12 = .ok (.bipush (-2), 2) := by decide +kernel
theorem dX9_tool_14 : decode cX9_tool 14 = .ok (.invokevirtual 62, 3) := by decide +kernel
theorem dX9_tool_17 : decode cX9_tool 17 = .ok (.ireturn, 1) := by decide +kernel
theorem dX9_tool_18 : decode cX9_tool 18 = .ok (.iload_n 2, 1) := by decide +kernel
theorem dX9_tool_19 : decode cX9_tool 19 = .ok (.getstatic 107, 3) := by decide +kernel
theorem dX9_tool_22 : decode cX9_tool 22 = .ok (.iload_n 1, 1) := by decide +kernel
theorem dX9_tool_23 : decode cX9_tool 23 = .ok (.iaload, 1) := by decide +kernel
theorem dX9_tool_24 : decode cX9_tool 24 = .ok (.invokestatic 49, 3) := by decide +kernel
theorem dX9_tool_27 : decode cX9_tool 27 = .ok (.ifCond .eq 7, 3) := by decide +kernel
theorem dX9_tool_30 : decode cX9_tool 30 = .ok (.iconst 0, 1) := by decide +kernel
theorem dX9_tool_31 : decode cX9_tool 31 = .ok (.goto 4, 3) := by decide +kernel
theorem dX9_tool_34 : decode cX9_tool 34 = .ok (.iconst (-1), 1) := by decide +kernel
theorem dX9_tool_35 : decode cX9_tool 35 = .ok (.istore 4, 2) := by decide +kernel
theorem dX9_tool_37 : decode cX9_tool 37 = .ok (.iload 4, 2) := by decide +kernel
theorem dX9_tool_39 : decode cX9_tool 39 = .ok (.iload_n 3, 1) := by decide +kernel
theorem dX9_tool_40 : decode cX9_tool 40 = .ok (.getstatic 110, 3) := by decide +kernel
theorem dX9_tool_43 : decode cX9_tool 43 = .ok (.iload_n 1, 1) := by decide +kernel
theorem dX9_tool_44 : decode cX9_tool 44 = .ok (.iaload, 1) := by decide +kernel
theorem dX9_tool_45 : decode cX9_tool 45 = .ok (.getstatic 113, 3) := by decide +kernel
theorem dX9_tool_48 : decode cX9_tool 48 = .ok (.iload_n 1, 1) := by decide +kernel
theorem dX9_tool_49 : decode cX9_tool 49 = .ok (.iaload, 1) := by decide +kernel
theorem dX9_tool_50 : decode cX9_tool 50 = .ok (.invokestatic 54, 3) := by decide +kernel
theorem dX9_tool_53 : decode cX9_tool 53 = .ok (.invokestatic 58, 3) := by decide +kernel
theorem dX9_tool_56 : decode cX9_tool 56 = .ok (.istore 4, 2) := by decide +kernel
theorem dX9_tool_58 : decode cX9_tool 58 = .ok (.iload 4, 2) := by decide +kernel
theorem dX9_tool_60 : decode cX9_tool 60 = .ok (.ifCond .eq 10, 3) := by decide +kernel
theorem dX9_tool_63 : decode cX9_tool 63 = .ok (.aload_n 0, 1) := by decide +kernel
theorem dX9_tool_64 : decode cX9_tool 64 = .ok (.iload 4, 2) := by decide +kernel
theorem dX9_tool_66 : decode cX9_tool 66 = .ok (.invokevirtual 62, 3) := by decide +kernel
theorem dX9_tool_69 : decode cX9_tool 69 = .ok (.ireturn, 1) := by decide +kernel
theorem dX9_tool_70 : decode cX9_tool 70 = .ok (.aload_n 0, 1) := by decide +kernel
theorem dX9_tool_71 : decode cX9_tool 71 = .ok (.getfield 10, 3) := by decide +kernel
theorem dX9_tool_74 : decode cX9_tool 74 = .ok (.getfield 116, 3) := by decide +kernel
theorem dX9_tool_77 : decode cX9_tool 77 = .ok (.iload_n 1, 1) := by decide +kernel
theorem dX9_tool_78 : decode cX9_tool 78 = .ok (.invokevirtual 120, 3) := by decide +kernel
theorem dX9_tool_81 : decode cX9_tool 81 = .ok (.iload_n 2, 1) := by decide +kernel
theorem dX9_tool_82 : decode cX9_tool 82 = .ok (.iload_n 3, 1) := by decide +kernel
theorem dX9_tool_83 : decode cX9_tool 83 = .ok (.iastore, 1) := by decide +kernel
theorem dX9_tool_84 : decode cX9_tool 84 = .ok (.iconst 1, 1) := by decide +kernel
theorem dX9_tool_85 : decode cX9_tool 85 = .ok (.ireturn, 1) := by decide +kernel
theorem dX9_sight_0 : decode cX9_sight 0 = .ok (.iload_n 3, 1) := by decide +kernel
theorem dX9_sight_1 : decode cX9_sight 1 = .ok (.sipush 1000, 3) := by decide +kernel
theorem dX9_sight_4 : decode cX9_sight 4 = .ok (.idiv, 1) := by decide +kernel
theorem dX9_sight_5 : decode cX9_sight 5 = .ok (.istore 5, 2) := by decide +kernel
theorem dX9_sight_7 : decode cX9_sight 7 = .ok (.iload_n 3, 1) := by decide +kernel
theorem dX9_sight_8 : decode cX9_sight 8 = .ok (.bipush 100, 2) := by decide +kernel
theorem dX9_sight_10 : decode cX9_sight 10 = .ok (.idiv, 1) := by decide +kernel
theorem dX9_sight_11 : decode cX9_sight 11 = .ok (.bipush 10, 2) := by decide +kernel
theorem dX9_sight_13 : decode cX9_sight 13 = .ok (.irem, 1) := by decide +kernel
theorem dX9_sight_14 : decode cX9_sight 14 = .ok (.istore 6, 2) := by decide +kernel
theorem dX9_sight_16 : decode cX9_sight 16 = .ok (.iload_n 3, 1) := by decide +kernel
theorem dX9_sight_17 : decode cX9_sight 17 = .ok (.bipush 10, 2) := by decide +kernel
theorem dX9_sight_19 : decode cX9_sight 19 = .ok (.idiv, 1) := by decide +kernel
theorem dX9_sight_20 : decode cX9_sight 20 = .ok (.bipush 10, 2) := by decide +kernel
theorem dX9_sight_22 : decode cX9_sight 22 = .ok (.irem, 1) := by decide +kernel
theorem dX9_sight_23 : decode cX9_sight 23 = .ok (.istore 7, 2) := by decide +kernel
theorem dX9_sight_25 : decode cX9_sight 25 = .ok (.iload_n 3, 1) := by decide +kernel
theorem dX9_sight_26 : decode cX9_sight 26 = .ok (.bipush 10, 2) := by decide +kernel
theorem dX9_sight_28 : decode cX9_sight 28 = .ok (.irem, 1) := by decide +kernel
theorem dX9_sight_29 : decode cX9_sight 29 = .ok (.istore 8, 2) := by decide +kernel
theorem dX9_sight_31 : decode cX9_sight 31 = .ok (.aload_n 0, 1) := by decide +kernel
theorem dX9_sight_32 : decode cX9_sight 32 = .ok (.iload_n 1, 1) := by decide +kernel
theorem dX9_sight_33 : decode cX9_sight 33 = .ok (.invokevirtual 76, 3) := by decide +kernel
theorem dX9_sight_36 : decode cX9_sight 36 = .ok (.istore 9, 2) := by decide +kernel
theorem dX9_sight_38 : decode cX9_sight 38 = .ok (.iload 9, 2) := by decide +kernel
theorem dX9_sight_40 : decode cX9_sight 40 = .ok (.iload_n 3, 1) := by decide +kernel
theorem dX9_sight_41 : decode cX9_sight 41 = .ok (.ifCond .lt 10, 3) := by decide +kernel
theorem dX9_sight_44 : decode cX9_sight 44 = .ok (.iload 5, 2) := by decide +kernel
theorem dX9_sight_46 : decode cX9_sight 46 = .ok (.bipush 7, 2) := by decide +kernel
theorem dX9_sight_48 : decode cX9_sight 48 = .ok (.if_icmp .le 8, 3) := by decide +kernel
theorem dX9_sight_51 : decode cX9_sight 51 = .ok (.bipush (-2), 2) := by decide +kernel
theorem dX9_sight_53 : decode cX9_sight 53 = .ok (.goto 4, 3) := by decide +kernel
theorem dX9_sight_56 : decode cX9_sight 56 = .ok (.iconst 0, 1) := by decide +kernel
theorem dX9_sight_57 : decode cX9_sight 57 = .ok (.invokestatic 58, 3) := by decide +kernel
theorem dX9_sight_60 : decode cX9_sight 60 = .ok (.istore 9, 2) := by decide +kernel
theorem dX9_sight_62 : decode cX9_sight 62 = .ok (.iload 9, 2) := by decide +kernel
theorem dX9_sight_64 : decode cX9_sight 64 = .ok (.iload 6, 2) := by decide +kernel
theorem dX9_sight_66 : decode cX9_sight 66 = .ok (.bipush 6, 2) := by decide +kernel
theorem dX9_sight_68 : decode cX9_sight 68 = .ok (.if_icmp .ge 19, 3) := by decide +kernel
theorem dX9_sight_71 : decode cX9_sight 71 = .ok (.iload 7, 2) := by decide +kernel
theorem dX9_sight_73 : decode cX9_sight 73 = .ok (.iconst 4, 1) := by decide +kernel
theorem dX9_sight_74 : decode cX9_sight 74 = .ok (.if_icmp .ge 13, 3) := by decide +kernel
theorem dX9_sight_77 : decode cX9_sight 77 = .ok (.iload 8, 2) := by decide +kernel
theorem dX9_sight_79 : decode cX9_sight 79 = .ok (.iconst 4, 1) := by decide +kernel
theorem dX9_sight_80 : decode cX9_sight 80 = .ok (.if_icmp .ge 7, 3) := by decide +kernel
theorem dX9_sight_83 : decode cX9_sight 83 = .ok (.iconst 0, 1) := by decide +kernel
theorem dX9_sight_84 : decode cX9_sight 84 = .ok (.goto 4, 3) := by decide +kernel
theorem dX9_sight_87 : decode cX9_sight 87 = .ok (.iconst (-1), 1) := by decide +kernel
theorem dX9_sight_88 : decode cX9_sight 88 = .ok (.invokestatic 58, 3) := by decide +kernel
theorem dX9_sight_91 : decode cX9_sight 91 = .ok (.istore 9, 2) := by decide +kernel
theorem dX9_sight_93 : decode cX9_sight 93 = .ok (.iload 9, 2) := by decide +kernel
theorem dX9_sight_95 : decode cX9_sight 95 = .ok (.iload_n 2, 1) := by decide +kernel
theorem dX9_sight_96 : decode cX9_sight 96 = .ok (.ifCond .lt 8, 3) := by decide +kernel
theorem dX9_sight_99 : decode cX9_sight 99 = .ok (.iload 4, 2) := by decide +kernel
theorem dX9_sight_101 : decode cX9_sight 101 = .ok (.ifCond .ge 8, 3) := by decide +kernel
theorem dX9_sight_104 : decode cX9_sight 104 = .ok (.bipush (-4), 2) := by decide +kernel
theorem dX9_sight_106 : decode cX9_sight 106 = .ok (.goto 4, 3) := by decide +kernel
theorem dX9_sight_109 : decode cX9_sight 109 = .ok (.iconst 0, 1) := by decide +kernel
theorem dX9_sight_110 : decode cX9_sight 110 = .ok (.invokestatic 58, 3) := by decide +kernel
theorem dX9_sight_113 : decode cX9_sight 113 = .ok (.istore 9, 2) := by decide +kernel
theorem dX9_sight_115 : decode cX9_sight 115 = .ok (.iload 9, 2) := by decide +kernel
theorem dX9_sight_117 : decode cX9_sight 117 = .ok (.iload_n 2, 1) := by decide +kernel
theorem dX9_sight_118 : decode cX9_sight 118 = .ok (.sipush 999, 3) := by decide +kernel
theorem dX9_sight_121 : decode cX9_sight 121 = .ok (.if_icmp .gt 10, 3) := by decide +kernel
theorem dX9_sight_124 : decode cX9_sight 124 = .ok (.iload 4, 2) := by decide +kernel
theorem dX9_sight_126 : decode cX9_sight 126 = .ok (.ldc 102, 2) := by decide +kernel
theorem dX9_sight_128 : decode cX9_sight 128 = .ok (.if_icmp .le 8, 3) := by decide +kernel
theorem dX9_sight_131 : decode cX9_sight 131 = .ok (.bipush (-6), 2) := by decide +kernel
theorem dX9_sight_133 : decode cX9_sight 133 = .ok (.goto 4, 3) := by decide +kernel
theorem dX9_sight_136 : decode cX9_sight 136 = .ok (.iconst 0, 1) := by decide +kernel
theorem dX9_sight_137 : decode cX9_sight 137 = .ok (.invokestatic 58, 3) := by decide +kernel
theorem dX9_sight_140 : decode cX9_sight 140 = .ok (.istore 9, 2) := by decide +kernel
theorem dX9_sight_142 : decode cX9_sight 142 = .ok (.iload 9, 2) := by decide +kernel
theorem dX9_sight_144 : decode cX9_sight 144 = .ok (.aload_n 0, 1) := by decide +kernel
theorem dX9_sight_145 : decode cX9_sight 145 = .ok (.getfield 10, 3) := by decide +kernel
theorem dX9_sight_148 : decode cX9_sight 148 = .ok (.getfield 126, 3) := by decide +kernel
theorem dX9_sight_151 : decode cX9_sight 151 = .ok (.getfield 130, 3) := by decide +kernel
theorem dX9_sight_154 : decode cX9_sight 154 = .ok (.bipush 40, 2) := by decide +kernel
theorem dX9_sight_156 : decode cX9_sight 156 = .ok (.if_icmp .ge 7, 3) := by decide +kernel
theorem dX9_sight_159 : decode cX9_sight 159 = .ok (.iconst 0, 1) := by decide +kernel
theorem dX9_sight_160 : decode cX9_sight 160 = .ok (.goto 5, 3) := by decide +kernel
theorem dX9_sight_163 : decode cX9_sight 163 = .ok (.bipush (-6), 2) := by decide +kernel
theorem dX9_sight_165 : decode cX9_sight 165 = .ok (.invokestatic 58, 3) := by decide +kernel
theorem dX9_sight_168 : decode cX9_sight 168 = .ok (.istore 9, 2) := by decide +kernel
theorem dX9_sight_170 : decode cX9_sight 170 = .ok (.iload 9, 2) := by decide +kernel
theorem dX9_sight_172 : decode cX9_sight 172 = .ok (.ifCond .eq 10, 3) := by decide +kernel
theorem dX9_sight_175 : decode cX9_sight 175 = .ok (.aload_n 0, 1) := by decide +kernel
theorem dX9_sight_176 : decode cX9_sight 176 = .ok (.iload 9, 2) := by decide +kernel
theorem dX9_sight_178 : decode cX9_sight 178 = .ok (.invokevirtual 62, 3) := by decide +kernel
theorem dX9_sight_181 : decode cX9_sight 181 = .ok (.ireturn, 1) := by decide +kernel
theorem dX9_sight_182 : decode cX9_sight 182 = .ok (.aload_n 0, 1) := by decide +kernel
theorem dX9_sight_183 : decode cX9_sight 183 = .ok (.getfield 10, 3) := by decide +kernel
theorem dX9_sight_186 : decode cX9_sight 186 = .ok (.getfield 126, 3) := by decide +kernel
theorem dX9_sight_189 : decode cX9_sight 189 = .ok (.iload_n 1, 1) := by decide +kernel
theorem dX9_sight_190 : decode cX9_sight 190 = .ok (.iload_n 2, 1) := by decide +kernel
theorem dX9_sight_191 : decode cX9_sight 191 = .ok (.iload 5, 2) := by decide +kernel
theorem dX9_sight_193 : decode cX9_sight 193 = .ok (.iload 6, 2) := by decide +kernel
theorem dX9_sight_195 : decode cX9_sight 195 = .ok (.iload 7, 2) := by decide +kernel
theorem dX9_sight_197 : decode cX9_sight 197 = .ok (.iload 8, 2) := by decide +kernel
theorem dX9_sight_199 : decode cX9_sight 199 = .ok (.iload 4, 2) := by decide +kernel
theorem dX9_sight_201 : decode cX9_sight 201 = .ok (.invokevirtual 136, 3) := by decide +kernel
theorem dX9_sight_204 : decode cX9_sight 204 = .ok (.aload_n 0, 1) := by decide +kernel
theorem dX9_sight_205 : decode cX9_sight 205 = .ok (.getfield 10, 3) := by decide +kernel
theorem dX9_sight_208 : decode cX9_sight 208 = .ok (.getfield 126, 3) := by decide +kernel
theorem dX9_sight_211 : decode cX9_sight 211 = .ok (.getfield 130, 3) := by decide +kernel
theorem dX9_sight_214 : decode cX9_sight 214 = .ok (.iconst 1, 1) := by decide +kernel
theorem dX9_sight_215 : decode cX9_sight 215 = .ok (.isub, 1) := by decide +kernel
theorem dX9_sight_216 : decode cX9_sight 216 = .ok (.ireturn, 1) := by decide +kernel
theorem dX9_right_0 : decode cX9_right 0 = .ok (.aload_n 0, 1) := by decide +kernel
theorem dX9_right_1 : decode cX9_right 1 = .ok (.iload_n 1, 1) := by decide +kernel
theorem dX9_right_2 : decode cX9_right 2 = .ok (.invokevirtual 140, 3) := by decide +kernel
theorem dX9_right_5 : decode cX9_right 5 = .ok (.aload_n 0, 1) := by decide +kernel
theorem dX9_right_6 : decode cX9_right 6 = .ok (.iload_n 1, 1) := by decide +kernel
theorem dX9_right_7 : decode cX9_right 7 = .ok (.invokevirtual 143, 3) := by decide +kernel
theorem dX9_right_10 : decode cX9_right 10 = .ok (.invokestatic 58, 3) := by decide +kernel
theorem dX9_right_13 : decode cX9_right 13 = .ok (.istore_n 2, 1) := by decide +kernel
theorem dX9_right_14 : decode cX9_right 14 = .ok (.iload_n 2, 1) := by decide +kernel
theorem dX9_right_15 : decode cX9_right 15 = .ok (.ifCond .eq 11, 3) := by decide +kernel
theorem dX9_right_18 : decode cX9_right 18 = .ok (.aload_n 0, 1) := by decide +kernel
theorem dX9_right_19 : decode cX9_right 19 = .ok (.iload_n 2, 1) := by decide +kernel
theorem dX9_right_20 : decode cX9_right 20 = .ok (.invokevirtual 91, 3) := by decide +kernel
theorem dX9_right_23 : decode cX9_right 23 = .ok (.goto 11, 3) := by decide +kernel
theorem dX9_right_26 : decode cX9_right 26 = .ok (.aload_n 0, 1) := by decide +kernel
theorem dX9_right_27 : decode cX9_right 27 = .ok (.getfield 10, 3) := by decide +kernel
theorem dX9_right_30 : decode cX9_right 30 = .ok (.iload_n 1, 1) := by decide +kernel
theorem dX9_right_31 : decode cX9_right 31 = .ok (.invokevirtual 146, 3) := by decide +kernel
theorem dX9_right_34 : decode cX9_right 34 = .ok (.lreturn, 1) := by decide +kernel
theorem dX9_put_0 : decode cX9_put 0 = .ok (.aload_n 0, 1) := by decide +kernel
theorem dX9_put_1 : decode cX9_put 1 = .ok (.getfield 149, 3) := by decide +kernel
theorem dX9_put_4 : decode cX9_put 4 = .ok (.bipush 80, 2) := by decide +kernel
theorem dX9_put_6 : decode cX9_put 6 = .ok (.if_icmp .lt 10, 3) := by decide +kernel
theorem dX9_put_9 : decode cX9_put 9 = .ok (.aload_n 0, 1) := by decide +kernel
theorem dX9_put_10 : decode cX9_put 10 = .ok (.bipush (-6), 2) := by decide +kernel
theorem dX9_put_12 : decode cX9_put 12 = .ok (.invokevirtual 62, 3) := by decide +kernel
theorem dX9_put_15 : decode cX9_put 15 = .ok (.ireturn, 1) := by decide +kernel
theorem dX9_put_16 : decode cX9_put 16 = .ok (.aload_n 0, 1) := by decide +kernel
theorem dX9_put_17 : decode cX9_put 17 = .ok (.getfield 26, 3) := by decide +kernel
theorem dX9_put_20 : decode cX9_put 20 = .ok (.aload_n 0, 1) := by decide +kernel
theorem dX9_put_21 : decode cX9_put 21 = .ok (.getfield 149, 3) := by decide +kernel
theorem dX9_put_24 : decode cX9_put 24 = .ok (.iload_n 1, 1) := by decide +kernel
theorem dX9_put_25 : decode cX9_put 25 = .ok (.iastore, 1) := by decide +kernel
theorem dX9_put_26 : decode cX9_put 26 = .ok (.aload_n 0, 1) := by decide +kernel
theorem dX9_put_27 : decode cX9_put 27 = .ok (.dup, 1) := by decide +kernel
theorem dX9_put_28 : decode cX9_put 28 = .ok (.getfield 149, 3) := by decide +kernel
theorem dX9_put_31 : decode cX9_put 31 = .ok (.iconst 1, 1) := by decide +kernel
theorem dX9_put_32 : decode cX9_put 32 = .ok (.iadd, 1) := by decide +kernel
theorem dX9_put_33 : decode cX9_put 33 = .ok (.putfield 149, 3) := by decide +kernel
theorem dX9_put_36 : decode cX9_put 36 = .ok (.aload_n 0, 1) := by decide +kernel
theorem dX9_put_37 : decode cX9_put 37 = .ok (.getfield 149, 3) := by decide +kernel
theorem dX9_put_40 : decode cX9_put 40 = .ok (.ireturn, 1) := by decide +kernel
theorem dX9_read_0 : decode cX9_read 0 = .ok (.iconst 0, 1) := by decide +kernel
theorem dX9_read_1 : decode cX9_read 1 = .ok (.istore_n 1, 1) := by decide +kernel
theorem dX9_read_2 : decode cX9_read 2 = .ok (.iconst 0, 1) := by decide +kernel
theorem dX9_read_3 : decode cX9_read 3 = .ok (.istore_n 2, 1) := by decide +kernel
theorem dX9_read_4 : decode cX9_read 4 = .ok (.iload_n 2, 1) := by decide +kernel
theorem dX9_read_5 : decode cX9_read 5 = .ok (.bipush 8, 2) := by decide +kernel
theorem dX9_read_7 : decode cX9_read 7 = .ok (.iadd, 1) := by decide +kernel
theorem dX9_read_8 : decode cX9_read 8 = .ok (.aload_n 0, 1) := by decide +kernel
theorem dX9_read_9 : decode cX9_read 9 = .ok (.getfield 149, 3) := by decide +kernel
theorem dX9_read_12 : decode cX9_read 12 = .ok (.if_icmp .gt 103, 3) := by decide +kernel
theorem dX9_read_15 : decode cX9_read 15 = .ok (.aload_n 0, 1) := by decide +kernel
theorem dX9_read_16 : decode cX9_read 16 = .ok (.iload_n 2, 1) := by decide +kernel
theorem dX9_read_17 : decode cX9_read 17 = .ok (.invokevirtual 152, 3) := by decide +kernel
theorem dX9_read_20 : decode cX9_read 20 = .ok (.ifCond .ne 6, 3) := by decide +kernel
theorem dX9_read_23 : decode cX9_read 23 = .ok (.goto 92, 3) := by decide +kernel
theorem dX9_read_26 : decode cX9_read 26 = .ok (.aload_n 0, 1) := by decide +kernel
theorem dX9_read_27 : decode cX9_read 27 = .ok (.getfield 26, 3) := by decide +kernel
theorem dX9_read_30 : decode cX9_read 30 = .ok (.iload_n 2, 1) := by decide +kernel
theorem dX9_read_31 : decode cX9_read 31 = .ok (.bipush 6, 2) := by decide +kernel
theorem dX9_read_33 : decode cX9_read 33 = .ok (.iadd, 1) := by decide +kernel
theorem dX9_read_34 : decode cX9_read 34 = .ok (.iaload, 1) := by decide +kernel
theorem dX9_read_35 : decode cX9_read 35 = .ok (.ldc 156, 2) := by decide +kernel
theorem dX9_read_37 : decode cX9_read 37 = .ok (.imul, 1) := by decide +kernel
theorem dX9_read_38 : decode cX9_read 38 = .ok (.aload_n 0, 1) := by decide +kernel
theorem dX9_read_39 : decode cX9_read 39 = .ok (.getfield 26, 3) := by decide +kernel
theorem dX9_read_42 : decode cX9_read 42 = .ok (.iload_n 2, 1) := by decide +kernel
theorem dX9_read_43 : decode cX9_read 43 = .ok (.bipush 7, 2) := by decide +kernel
theorem dX9_read_45 : decode cX9_read 45 = .ok (.iadd, 1) := by decide +kernel
theorem dX9_read_46 : decode cX9_read 46 = .ok (.iaload, 1) := by decide +kernel
theorem dX9_read_47 : decode cX9_read 47 = .ok (.iadd, 1) := by decide +kernel
theorem dX9_read_48 : decode cX9_read 48 = .ok (.istore_n 3, 1) := by decide +kernel
theorem dX9_read_49 : decode cX9_read 49 = .ok (.aload_n 0, 1) := by decide +kernel
theorem dX9_read_50 : decode cX9_read 50 = .ok (.getfield 10, 3) := by decide +kernel
theorem dX9_read_53 : decode cX9_read 53 = .ok (.getfield 126, 3) := by decide +kernel
theorem dX9_read_56 : decode cX9_read 56 = .ok (.aload_n 0, 1) := by decide +kernel
theorem dX9_read_57 : decode cX9_read 57 = .ok (.getfield 26, 3) := by decide +kernel
theorem dX9_read_60 : decode cX9_read 60 = .ok (.iload_n 2, 1) := by decide +kernel
theorem dX9_read_61 : decode cX9_read 61 = .ok (.iaload, 1) := by decide +kernel
theorem dX9_read_62 : decode cX9_read 62 = .ok (.aload_n 0, 1) := by decide +kernel
theorem dX9_read_63 : decode cX9_read 63 = .ok (.getfield 26, 3) := by decide +kernel
theorem dX9_read_66 : decode cX9_read 66 = .ok (.iload_n 2, 1) := by decide +kernel
theorem dX9_read_67 : decode cX9_read 67 = .ok (.iconst 1, 1) := by decide +kernel
theorem dX9_read_68 : decode cX9_read 68 = .ok (.iadd, 1) := by decide +kernel
theorem dX9_read_69 : decode cX9_read 69 = .ok (.iaload, 1) := by decide +kernel
theorem dX9_read_70 : decode cX9_read 70 = .ok (.aload_n 0, 1) := by decide +kernel
theorem dX9_read_71 : decode cX9_read 71 = .ok (.getfield 26, 3) := by decide +kernel
theorem dX9_read_74 : decode cX9_read 74 = .ok (.iload_n 2, 1) := by decide +kernel
theorem dX9_read_75 : decode cX9_read 75 = .ok (.iconst 2, 1) := by decide +kernel
theorem dX9_read_76 : decode cX9_read 76 = .ok (.iadd, 1) := by decide +kernel
theorem dX9_read_77 : decode cX9_read 77 = .ok (.iaload, 1) := by decide +kernel
theorem dX9_read_78 : decode cX9_read 78 = .ok (.aload_n 0, 1) := by decide +kernel
theorem dX9_read_79 : decode cX9_read 79 = .ok (.getfield 26, 3) := by decide +kernel
theorem dX9_read_82 : decode cX9_read 82 = .ok (.iload_n 2, 1) := by decide +kernel
theorem dX9_read_83 : decode cX9_read 83 = .ok (.iconst 3, 1) := by decide +kernel
theorem dX9_read_84 : decode cX9_read 84 = .ok (.iadd, 1) := by decide +kernel
theorem dX9_read_85 : decode cX9_read 85 = .ok (.iaload, 1) := by decide +kernel
theorem dX9_read_86 : decode cX9_read 86 = .ok (.aload_n 0, 1) := by decide +kernel
theorem dX9_read_87 : decode cX9_read 87 = .ok (.getfield 26, 3) := by decide +kernel
theorem dX9_read_90 : decode cX9_read 90 = .ok (.iload_n 2, 1) := by decide +kernel
theorem dX9_read_91 : decode cX9_read 91 = .ok (.iconst 4, 1) := by decide +kernel
theorem dX9_read_92 : decode cX9_read 92 = .ok (.iadd, 1) := by decide +kernel
theorem dX9_read_93 : decode cX9_read 93 = .ok (.iaload, 1) := by decide +kernel
theorem dX9_read_94 : decode cX9_read 94 = .ok (.aload_n 0, 1) := by decide +kernel
theorem dX9_read_95 : decode cX9_read 95 = .ok (.getfield 26, 3) := by decide +kernel
theorem dX9_read_98 : decode cX9_read 98 = .ok (.iload_n 2, 1) := by decide +kernel
theorem dX9_read_99 : decode cX9_read 99 = .ok (.iconst 5, 1) := by decide +kernel
theorem dX9_read_100 : decode cX9_read 100 = .ok (.iadd, 1) := by decide +kernel
theorem dX9_read_101 : decode cX9_read 101 = .ok (.iaload, 1) := by decide +kernel
theorem dX9_read_102 : decode cX9_read 102 = .ok (.iload_n 3, 1) := by decide +kernel
theorem dX9_read_103 : decode cX9_read 103 = .ok (.invokevirtual 136, 3) := by decide +kernel
theorem dX9_read_106 : decode cX9_read 106 = .ok (.iinc 1 1, 3) := by decide +kernel
theorem dX9_read_109 : decode cX9_read 109 = .ok (.iinc 2 8, 3) := by decide +kernel
theorem dX9_read_112 : decode cX9_read 112 = .ok (.goto (-108), 3) := by decide +kernel
theorem dX9_read_115 : decode cX9_read 115 = .ok (.aload_n 0, 1) := by decide +kernel
theorem dX9_read_116 : decode cX9_read 116 = .ok (.iconst 0, 1) := by decide +kernel
theorem dX9_read_117 : decode cX9_read 117 = .ok (.putfield 149, 3) := by decide +kernel
theorem dX9_read_120 : decode cX9_read 120 = .ok (.iload_n 1, 1) := by decide +kernel
theorem dX9_read_121 : decode cX9_read 121 = .ok (.ireturn, 1) := by decide +kernel
theorem dX9_takeBack_0 : decode cX9_takeBack 0 = .ok (.aload_n 0, 1) := by decide +kernel
theorem dX9_takeBack_1 : decode cX9_takeBack 1 = .ok (.getfield 10, 3) := by decide +kernel
theorem dX9_takeBack_4 : decode cX9_takeBack 4 = .ok (.getfield 126, 3) := by decide +kernel
theorem dX9_takeBack_7 : decode cX9_takeBack 7 = .ok (.getfield 130, 3) := by decide +kernel
theorem dX9_takeBack_10 : decode cX9_takeBack 10 = .ok (.iconst 1, 1) := by decide +kernel
theorem dX9_takeBack_11 : decode cX9_takeBack 11 = .ok (.isub, 1) := by decide +kernel
theorem dX9_takeBack_12 : decode cX9_takeBack 12 = .ok (.istore_n 1, 1) := by decide +kernel
theorem dX9_takeBack_13 : decode cX9_takeBack 13 = .ok (.iload_n 1, 1) := by decide +kernel
theorem dX9_takeBack_14 : decode cX9_takeBack 14 = .ok (.ifCond .lt 17, 3) := by decide +kernel
theorem dX9_takeBack_17 : decode cX9_takeBack 17 = .ok (.aload_n 0, 1) := by decide +kernel
theorem dX9_takeBack_18 : decode cX9_takeBack 18 = .ok (.getfield 10, 3) := by decide +kernel
theorem dX9_takeBack_21 : decode cX9_takeBack 21 = .ok (.getfield 126, 3) := by decide +kernel
theorem dX9_takeBack_24 : decode cX9_takeBack 24 = .ok (.iload_n 1, 1) := by decide +kernel
theorem dX9_takeBack_25 : decode cX9_takeBack 25 = .ok (.invokevirtual 157, 3) := by decide +kernel
theorem dX9_takeBack_28 : decode cX9_takeBack 28 = .ok (.ifCond .le 10, 3) := by decide +kernel
theorem dX9_takeBack_31 : decode cX9_takeBack 31 = .ok (.aload_n 0, 1) := by decide +kernel
theorem dX9_takeBack_32 : decode cX9_takeBack 32 = .ok (.bipush (-3), 2) := by decide +kernel
theorem dX9_takeBack_34 : decode cX9_takeBack 34 = .ok (.invokevirtual 62, 3) := by decide +kernel
theorem dX9_takeBack_37 : decode cX9_takeBack 37 = .ok (.ireturn, 1) := by decide +kernel
theorem dX9_takeBack_38 : decode cX9_takeBack 38 = .ok (.aload_n 0, 1) := by decide +kernel
theorem dX9_takeBack_39 : decode cX9_takeBack 39 = .ok (.getfield 10, 3) := by decide +kernel
theorem dX9_takeBack_42 : decode cX9_takeBack 42 = .ok (.getfield 126, 3) := by decide +kernel
theorem dX9_takeBack_45 : decode cX9_takeBack 45 = .ok (.iload_n 1, 1) := by decide +kernel
theorem dX9_takeBack_46 : decode cX9_takeBack 46 = .ok (.putfield 130, 3) := by decide +kernel
theorem dX9_takeBack_49 : decode cX9_takeBack 49 = .ok (.iload_n 1, 1) := by decide +kernel
theorem dX9_takeBack_50 : decode cX9_takeBack 50 = .ok (.ireturn, 1) := by decide +kernel
theorem dX9_feed_0 : decode cX9_feed 0 = .ok (.iload_n 1, 1) := by decide +kernel
theorem dX9_feed_1 : decode cX9_feed 1 = .ok (.iconst 1, 1) := by decide +kernel
theorem dX9_feed_2 : decode cX9_feed 2 = .ok (.bipush 8, 2) := by decide +kernel
theorem dX9_feed_4 : decode cX9_feed 4 = .ok (.invokestatic 54, 3) := by decide +kernel
theorem dX9_feed_7 : decode cX9_feed 7 = .ok (.istore 4, 2) := by decide +kernel
theorem dX9_feed_9 : decode cX9_feed 9 = .ok (.iload 4, 2) := by decide +kernel
theorem dX9_feed_11 : decode cX9_feed 11 = .ok (.aload_n 0, 1) := by decide +kernel
theorem dX9_feed_12 : decode cX9_feed 12 = .ok (.getfield 22, 3) := by decide +kernel
theorem dX9_feed_15 : decode cX9_feed 15 = .ok (.getfield 160, 3) := by decide +kernel
theorem dX9_feed_18 : decode cX9_feed 18 = .ok (.bipush 20, 2) := by decide +kernel
theorem dX9_feed_20 : decode cX9_feed 20 = .ok (.iload_n 1, 1) := by decide +kernel
theorem dX9_feed_21 : decode cX9_feed 21 = .ok (.isub, 1) := by decide +kernel
theorem dX9_feed_22 : decode cX9_feed 22 = .ok (.if_icmp .le 8, 3) := by decide +kernel
theorem dX9_feed_25 : decode cX9_feed 25 = .ok (.bipush (-6), 2) := by decide +kernel
theorem dX9_feed_27 : decode cX9_feed 27 = .ok (.goto 4, 3) := by decide +kernel
theorem dX9_feed_30 : decode cX9_feed 30 = .ok (.iconst 0, 1) := by decide +kernel
theorem dX9_feed_31 : decode cX9_feed 31 = .ok (.invokestatic 58, 3) := by decide +kernel
theorem dX9_feed_34 : decode cX9_feed 34 = .ok (.istore 4, 2) := by decide +kernel
theorem dX9_feed_36 : decode cX9_feed 36 = .ok (.iload 4, 2) := by decide +kernel
theorem dX9_feed_38 : decode cX9_feed 38 = .ok (.ifCond .eq 10, 3) := by decide +kernel
theorem dX9_feed_41 : decode cX9_feed 41 = .ok (.aload_n 0, 1) := by decide +kernel
theorem dX9_feed_42 : decode cX9_feed 42 = .ok (.iload 4, 2) := by decide +kernel
theorem dX9_feed_44 : decode cX9_feed 44 = .ok (.invokevirtual 62, 3) := by decide +kernel
theorem dX9_feed_47 : decode cX9_feed 47 = .ok (.ireturn, 1) := by decide +kernel
theorem dX9_feed_48 : decode cX9_feed 48 = .ok (.iconst 0, 1) := by decide +kernel
theorem dX9_feed_49 : decode cX9_feed 49 = .ok (.istore 5, 2) := by decide +kernel
theorem dX9_feed_51 : decode cX9_feed 51 = .ok (.iload 5, 2) := by decide +kernel
theorem dX9_feed_53 : decode cX9_feed 53 = .ok (.iload_n 1, 1) := by decide +kernel
theorem dX9_feed_54 : decode cX9_feed 54 = .ok (.if_icmp .ge 28, 3) := by decide +kernel
theorem dX9_feed_57 : decode cX9_feed 57 = .ok (.aload_n 0, 1) := by decide +kernel
theorem dX9_feed_58 : decode cX9_feed 58 = .ok (.getfield 22, 3) := by decide +kernel
theorem dX9_feed_61 : decode cX9_feed 61 = .ok (.lload_n 2, 1) := by decide +kernel
theorem dX9_feed_62 : decode cX9_feed 62 = .ok (.bipush 8, 2) := by decide +kernel
theorem dX9_feed_64 : decode cX9_feed 64 = .ok (.iload 5, 2) := by decide +kernel
theorem dX9_feed_66 : decode cX9_feed 66 = .ok (.imul, 1) := by decide +kernel
theorem dX9_feed_67 : decode cX9_feed 67 = .ok (.lushr, 1) := by decide +kernel
theorem dX9_feed_68 : decode cX9_feed 68 = .ok (.l2i, 1) := by decide +kernel
theorem dX9_feed_69 : decode cX9_feed 69 = .ok (.sipush 255, 3) := by decide +kernel
theorem dX9_feed_72 : decode cX9_feed 72 = .ok (.iand, 1) := by decide +kernel
theorem dX9_feed_73 : decode cX9_feed 73 = .ok (.invokevirtual 161, 3) := by decide +kernel
theorem dX9_feed_76 : decode cX9_feed 76 = .ok (.iinc 5 1, 3) := by decide +kernel
theorem dX9_feed_79 : decode cX9_feed 79 = .ok (.goto (-28), 3) := by decide +kernel
theorem dX9_feed_82 : decode cX9_feed 82 = .ok (.aload_n 0, 1) := by decide +kernel
theorem dX9_feed_83 : decode cX9_feed 83 = .ok (.getfield 22, 3) := by decide +kernel
theorem dX9_feed_86 : decode cX9_feed 86 = .ok (.getfield 160, 3) := by decide +kernel
theorem dX9_feed_89 : decode cX9_feed 89 = .ok (.ireturn, 1) := by decide +kernel
theorem dX9_table_0 : decode cX9_table 0 = .ok (.aload_n 0, 1) := by decide +kernel
theorem dX9_table_1 : decode cX9_table 1 = .ok (.getfield 10, 3) := by decide +kernel
theorem dX9_table_4 : decode cX9_table 4 = .ok (.getfield 164, 3) := by decide +kernel
theorem dX9_table_7 : decode cX9_table 7 = .ok (.getfield 168, 3) := by decide +kernel
theorem dX9_table_10 : decode cX9_table 10 = .ok (.bipush 8, 2) := by decide +kernel
theorem dX9_table_12 : decode cX9_table 12 = .ok (.if_icmp .lt 10, 3) := by decide +kernel
theorem dX9_table_15 : decode cX9_table 15 = .ok (.aload_n 0, 1) := by decide +kernel
theorem dX9_table_16 : decode cX9_table 16 = .ok (.bipush (-6), 2) := by decide +kernel
theorem dX9_table_18 : decode cX9_table 18 = .ok (.invokevirtual 62, 3) := by decide +kernel
theorem dX9_table_21 : decode cX9_table 21 = .ok (.ireturn, 1) := by decide +kernel
theorem dX9_table_22 : decode cX9_table 22 = .ok (.aload_n 0, 1) := by decide +kernel
theorem dX9_table_23 : decode cX9_table 23 = .ok (.getfield 22, 3) := by decide +kernel
theorem dX9_table_26 : decode cX9_table 26 = .ok (.invokevirtual 171, 3) := by decide +kernel
theorem dX9_table_29 : decode cX9_table 29 = .ok (.istore_n 1, 1) := by decide +kernel
theorem dX9_table_30 : decode cX9_table 30 = .ok (.aload_n 0, 1) := by decide +kernel
theorem dX9_table_31 : decode cX9_table 31 = .ok (.getfield 22, 3) := by decide +kernel
theorem dX9_table_34 : decode cX9_table 34 = .ok (.iconst 0, 1) := by decide +kernel
theorem dX9_table_35 : decode cX9_table 35 = .ok (.putfield 160, 3) := by decide +kernel
theorem dX9_table_38 : decode cX9_table 38 = .ok (.iload_n 1, 1) := by decide +kernel
theorem dX9_table_39 : decode cX9_table 39 = .ok (.ifCond .lt 8, 3) := by decide +kernel
theorem dX9_table_42 : decode cX9_table 42 = .ok (.bipush (-20), 2) := by decide +kernel
theorem dX9_table_44 : decode cX9_table 44 = .ok (.iload_n 1, 1) := by decide +kernel
theorem dX9_table_45 : decode cX9_table 45 = .ok (.isub, 1) := by decide +kernel
theorem dX9_table_46 : decode cX9_table 46 = .ok (.ireturn, 1) := by decide +kernel
theorem dX9_table_47 : decode cX9_table 47 = .ok (.aload_n 0, 1) := by decide +kernel
theorem dX9_table_48 : decode cX9_table 48 = .ok (.getfield 10, 3) := by decide +kernel
theorem dX9_table_51 : decode cX9_table 51 = .ok (.getfield 164, 3) := by decide +kernel
theorem dX9_table_54 : decode cX9_table 54 = .ok (.aload_n 0, 1) := by decide +kernel
theorem dX9_table_55 : decode cX9_table 55 = .ok (.getfield 22, 3) := by decide +kernel
theorem dX9_table_58 : decode cX9_table 58 = .ok (.invokevirtual 175, 3) := by decide +kernel
theorem dX9_table_61 : decode cX9_table 61 = .ok (.aload_n 0, 1) := by decide +kernel
theorem dX9_table_62 : decode cX9_table 62 = .ok (.getfield 10, 3) := by decide +kernel
theorem dX9_table_65 : decode cX9_table 65 = .ok (.getfield 164, 3) := by decide +kernel
theorem dX9_table_68 : decode cX9_table 68 = .ok (.getfield 168, 3) := by decide +kernel
theorem dX9_table_71 : decode cX9_table 71 = .ok (.iconst 1, 1) := by decide +kernel
theorem dX9_table_72 : decode cX9_table 72 = .ok (.isub, 1) := by decide +kernel
theorem dX9_table_73 : decode cX9_table 73 = .ok (.ireturn, 1) := by decide +kernel
theorem dX9_guess_0 : decode cX9_guess 0 = .ok (.iload_n 1, 1) := by decide +kernel
theorem dX9_guess_1 : decode cX9_guess 1 = .ok (.iconst 4, 1) := by decide +kernel
theorem dX9_guess_2 : decode cX9_guess 2 = .ok (.invokestatic 49, 3) := by decide +kernel
theorem dX9_guess_5 : decode cX9_guess 5 = .ok (.ifCond .eq 7, 3) := by decide +kernel
theorem dX9_guess_8 : decode cX9_guess 8 = .ok (.iconst 0, 1) := by decide +kernel
theorem dX9_guess_9 : decode cX9_guess 9 = .ok (.goto 4, 3) := by decide +kernel
theorem dX9_guess_12 : decode cX9_guess 12 = .ok (.iconst (-1), 1) := by decide +kernel
theorem dX9_guess_13 : decode cX9_guess 13 = .ok (.istore 4, 2) := by decide +kernel
theorem dX9_guess_15 : decode cX9_guess 15 = .ok (.iload 4, 2) := by decide +kernel
theorem dX9_guess_17 : decode cX9_guess 17 = .ok (.iload_n 2, 1) := by decide +kernel
theorem dX9_guess_18 : decode cX9_guess 18 = .ok (.ifCond .lt 10, 3) := by decide +kernel
theorem dX9_guess_21 : decode cX9_guess 21 = .ok (.iload_n 3, 1) := by decide +kernel
theorem dX9_guess_22 : decode cX9_guess 22 = .ok (.sipush 1000, 3) := by decide +kernel
theorem dX9_guess_25 : decode cX9_guess 25 = .ok (.if_icmp .ge 8, 3) := by decide +kernel
theorem dX9_guess_28 : decode cX9_guess 28 = .ok (.bipush (-4), 2) := by decide +kernel
theorem dX9_guess_30 : decode cX9_guess 30 = .ok (.goto 4, 3) := by decide +kernel
theorem dX9_guess_33 : decode cX9_guess 33 = .ok (.iconst 0, 1) := by decide +kernel
theorem dX9_guess_34 : decode cX9_guess 34 = .ok (.invokestatic 58, 3) := by decide +kernel
theorem dX9_guess_37 : decode cX9_guess 37 = .ok (.istore 4, 2) := by decide +kernel
theorem dX9_guess_39 : decode cX9_guess 39 = .ok (.iload 4, 2) := by decide +kernel
theorem dX9_guess_41 : decode cX9_guess 41 = .ok (.iload_n 2, 1) := by decide +kernel
theorem dX9_guess_42 : decode cX9_guess 42 = .ok (.ldc 53, 2) := by decide +kernel
theorem dX9_guess_44 : decode cX9_guess 44 = .ok (.if_icmp .gt 9, 3) := by decide +kernel
theorem dX9_guess_47 : decode cX9_guess 47 = .ok (.iload_n 3, 1) := by decide +kernel
theorem dX9_guess_48 : decode cX9_guess 48 = .ok (.ldc 53, 2) := by decide +kernel
theorem dX9_guess_50 : decode cX9_guess 50 = .ok (.if_icmp .le 8, 3) := by decide +kernel
theorem dX9_guess_53 : decode cX9_guess 53 = .ok (.bipush (-6), 2) := by decide +kernel
theorem dX9_guess_55 : decode cX9_guess 55 = .ok (.goto 4, 3) := by decide +kernel
theorem dX9_guess_58 : decode cX9_guess 58 = .ok (.iconst 0, 1) := by decide +kernel
theorem dX9_guess_59 : decode cX9_guess 59 = .ok (.invokestatic 58, 3) := by decide +kernel
theorem dX9_guess_62 : decode cX9_guess 62 = .ok (.istore 4, 2) := by decide +kernel
theorem dX9_guess_64 : decode cX9_guess 64 = .ok (.iload 4, 2) := by decide +kernel
theorem dX9_guess_66 : decode cX9_guess 66 = .ok (.ifCond .eq 10, 3) := by decide +kernel
theorem dX9_guess_69 : decode cX9_guess 69 = .ok (.aload_n 0, 1) := by decide +kernel
theorem dX9_guess_70 : decode cX9_guess 70 = .ok (.iload 4, 2) := by decide +kernel
theorem dX9_guess_72 : decode cX9_guess 72 = .ok (.invokevirtual 62, 3) := by decide +kernel
theorem dX9_guess_75 : decode cX9_guess 75 = .ok (.ireturn, 1) := by decide +kernel
theorem dX9_guess_76 : decode cX9_guess 76 = .ok (.aload_n 0, 1) := by decide +kernel
theorem dX9_guess_77 : decode cX9_guess 77 = .ok (.getfield 10, 3) := by decide +kernel
theorem dX9_guess_80 : decode cX9_guess 80 = .ok (.getfield 66, 3) := by decide +kernel
theorem dX9_guess_83 : decode cX9_guess 83 = .ok (.getfield 178, 3) := by decide +kernel
theorem dX9_guess_86 : decode cX9_guess 86 = .ok (.iload_n 1, 1) := by decide +kernel
theorem dX9_guess_87 : decode cX9_guess 87 = .ok (.iload_n 2, 1) := by decide +kernel
theorem dX9_guess_88 : decode cX9_guess 88 = .ok (.iastore, 1) := by decide +kernel
theorem dX9_guess_89 : decode cX9_guess 89 = .ok (.aload_n 0, 1) := by decide +kernel
theorem dX9_guess_90 : decode cX9_guess 90 = .ok (.getfield 10, 3) := by decide +kernel
theorem dX9_guess_93 : decode cX9_guess 93 = .ok (.getfield 66, 3) := by decide +kernel
theorem dX9_guess_96 : decode cX9_guess 96 = .ok (.getfield 181, 3) := by decide +kernel
theorem dX9_guess_99 : decode cX9_guess 99 = .ok (.iload_n 1, 1) := by decide +kernel
theorem dX9_guess_100 : decode cX9_guess 100 = .ok (.iload_n 3, 1) := by decide +kernel
theorem dX9_guess_101 : decode cX9_guess 101 = .ok (.iastore, 1) := by decide +kernel
theorem dX9_guess_102 : decode cX9_guess 102 = .ok (.iconst 1, 1) := by decide +kernel
theorem dX9_guess_103 : decode cX9_guess 103 = .ok (.ireturn, 1) := by decide +kernel
theorem dX9_says_0 : decode cX9_says 0 = .ok (.aload_n 0, 1) := by decide +kernel
theorem dX9_says_1 : decode cX9_says 1 = .ok (.iload_n 1, 1) := by decide +kernel
theorem dX9_says_2 : decode cX9_says 2 = .ok (.invokevirtual 184, 3) := by decide +kernel
theorem dX9_says_5 : decode cX9_says 5 = .ok (.aload_n 0, 1) := by decide +kernel
theorem dX9_says_6 : decode cX9_says 6 = .ok (.iload_n 2, 1) := by decide +kernel
theorem dX9_says_7 : decode cX9_says 7 = .ok (.invokevirtual 76, 3) := by decide +kernel
theorem dX9_says_10 : decode cX9_says 10 = .ok (.invokestatic 58, 3) := by decide +kernel
theorem dX9_says_13 : decode cX9_says 13 = .ok (.istore 5, 2) := by decide +kernel
theorem dX9_says_15 : decode cX9_says 15 = .ok (.iload 5, 2) := by decide +kernel
theorem dX9_says_17 : decode cX9_says 17 = .ok (.iload_n 3, 1) := by decide +kernel
theorem dX9_says_18 : decode cX9_says 18 = .ok (.iconst 0, 1) := by decide +kernel
theorem dX9_says_19 : decode cX9_says 19 = .ok (.sipush 999, 3) := by decide +kernel
theorem dX9_says_22 : decode cX9_says 22 = .ok (.invokestatic 54, 3) := by decide +kernel
theorem dX9_says_25 : decode cX9_says 25 = .ok (.invokestatic 58, 3) := by decide +kernel
theorem dX9_says_28 : decode cX9_says 28 = .ok (.istore 5, 2) := by decide +kernel
theorem dX9_says_30 : decode cX9_says 30 = .ok (.iload 5, 2) := by decide +kernel
theorem dX9_says_32 : decode cX9_says 32 = .ok (.ifCond .eq 10, 3) := by decide +kernel
theorem dX9_says_35 : decode cX9_says 35 = .ok (.aload_n 0, 1) := by decide +kernel
theorem dX9_says_36 : decode cX9_says 36 = .ok (.iload 5, 2) := by decide +kernel
theorem dX9_says_38 : decode cX9_says 38 = .ok (.invokevirtual 91, 3) := by decide +kernel
theorem dX9_says_41 : decode cX9_says 41 = .ok (.lreturn, 1) := by decide +kernel
theorem dX9_says_42 : decode cX9_says 42 = .ok (.iload 4, 2) := by decide +kernel
theorem dX9_says_44 : decode cX9_says 44 = .ok (.iconst 0, 1) := by decide +kernel
theorem dX9_says_45 : decode cX9_says 45 = .ok (.getstatic 187, 3) := by decide +kernel
theorem dX9_says_48 : decode cX9_says 48 = .ok (.aload_n 0, 1) := by decide +kernel
theorem dX9_says_49 : decode cX9_says 49 = .ok (.getfield 10, 3) := by decide +kernel
theorem dX9_says_52 : decode cX9_says 52 = .ok (.getfield 164, 3) := by decide +kernel
theorem dX9_says_55 : decode cX9_says 55 = .ok (.getfield 190, 3) := by decide +kernel
theorem dX9_says_58 : decode cX9_says 58 = .ok (.iload_n 1, 1) := by decide +kernel
theorem dX9_says_59 : decode cX9_says 59 = .ok (.iaload, 1) := by decide +kernel
theorem dX9_says_60 : decode cX9_says 60 = .ok (.iaload, 1) := by decide +kernel
theorem dX9_says_61 : decode cX9_says 61 = .ok (.iconst 1, 1) := by decide +kernel
theorem dX9_says_62 : decode cX9_says 62 = .ok (.isub, 1) := by decide +kernel
theorem dX9_says_63 : decode cX9_says 63 = .ok (.invokestatic 54, 3) := by decide +kernel
theorem dX9_says_66 : decode cX9_says 66 = .ok (.istore 5, 2) := by decide +kernel
theorem dX9_says_68 : decode cX9_says 68 = .ok (.iload 5, 2) := by decide +kernel
theorem dX9_says_70 : decode cX9_says 70 = .ok (.ifCond .eq 12, 3) := by decide +kernel
theorem dX9_says_73 : decode cX9_says 73 = .ok (.aload_n 0, 1) := by decide +kernel
theorem dX9_says_74 : decode cX9_says 74 = .ok (.iload 5, 2) := by decide +kernel
theorem dX9_says_76 : decode cX9_says 76 = .ok (.invokevirtual 91, 3) := by decide +kernel
theorem dX9_says_79 : decode cX9_says 79 = .ok (.goto 15, 3) := by decide +kernel
theorem dX9_says_82 : decode cX9_says 82 = .ok (.aload_n 0, 1) := by decide +kernel
theorem dX9_says_83 : decode cX9_says 83 = .ok (.getfield 10, 3) := by decide +kernel
theorem dX9_says_86 : decode cX9_says 86 = .ok (.iload_n 1, 1) := by decide +kernel
theorem dX9_says_87 : decode cX9_says 87 = .ok (.iload_n 2, 1) := by decide +kernel
theorem dX9_says_88 : decode cX9_says 88 = .ok (.iload_n 3, 1) := by decide +kernel
theorem dX9_says_89 : decode cX9_says 89 = .ok (.iload 4, 2) := by decide +kernel
theorem dX9_says_91 : decode cX9_says 91 = .ok (.invokevirtual 193, 3) := by decide +kernel
theorem dX9_says_94 : decode cX9_says 94 = .ok (.lreturn, 1) := by decide +kernel
theorem dX9_fit_0 : decode cX9_fit 0 = .ok (.aload_n 0, 1) := by decide +kernel
theorem dX9_fit_1 : decode cX9_fit 1 = .ok (.iload_n 1, 1) := by decide +kernel
theorem dX9_fit_2 : decode cX9_fit 2 = .ok (.invokevirtual 184, 3) := by decide +kernel
theorem dX9_fit_5 : decode cX9_fit 5 = .ok (.aload_n 0, 1) := by decide +kernel
theorem dX9_fit_6 : decode cX9_fit 6 = .ok (.iload_n 2, 1) := by decide +kernel
theorem dX9_fit_7 : decode cX9_fit 7 = .ok (.invokevirtual 76, 3) := by decide +kernel
theorem dX9_fit_10 : decode cX9_fit 10 = .ok (.invokestatic 58, 3) := by decide +kernel
theorem dX9_fit_13 : decode cX9_fit 13 = .ok (.istore 6, 2) := by decide +kernel
theorem dX9_fit_15 : decode cX9_fit 15 = .ok (.iload 6, 2) := by decide +kernel
theorem dX9_fit_17 : decode cX9_fit 17 = .ok (.iload 5, 2) := by decide +kernel
theorem dX9_fit_19 : decode cX9_fit 19 = .ok (.iconst 3, 1) := by decide +kernel
theorem dX9_fit_20 : decode cX9_fit 20 = .ok (.invokestatic 49, 3) := by decide +kernel
theorem dX9_fit_23 : decode cX9_fit 23 = .ok (.ifCond .eq 7, 3) := by decide +kernel
theorem dX9_fit_26 : decode cX9_fit 26 = .ok (.iconst 0, 1) := by decide +kernel
theorem dX9_fit_27 : decode cX9_fit 27 = .ok (.goto 5, 3) := by decide +kernel
theorem dX9_fit_30 : decode cX9_fit 30 = .ok (.bipush (-2), 2) := by decide +kernel
theorem dX9_fit_32 : decode cX9_fit 32 = .ok (.invokestatic 58, 3) := by decide +kernel
theorem dX9_fit_35 : decode cX9_fit 35 = .ok (.istore 6, 2) := by decide +kernel
theorem dX9_fit_37 : decode cX9_fit 37 = .ok (.iload 6, 2) := by decide +kernel
theorem dX9_fit_39 : decode cX9_fit 39 = .ok (.aload_n 0, 1) := by decide +kernel
theorem dX9_fit_40 : decode cX9_fit 40 = .ok (.lload_n 3, 1) := by decide +kernel
theorem dX9_fit_41 : decode cX9_fit 41 = .ok (.invokevirtual 197, 3) := by decide +kernel
theorem dX9_fit_44 : decode cX9_fit 44 = .ok (.invokestatic 58, 3) := by decide +kernel
theorem dX9_fit_47 : decode cX9_fit 47 = .ok (.istore 6, 2) := by decide +kernel
theorem dX9_fit_49 : decode cX9_fit 49 = .ok (.iload 6, 2) := by decide +kernel
theorem dX9_fit_51 : decode cX9_fit 51 = .ok (.ifCond .eq 10, 3) := by decide +kernel
theorem dX9_fit_54 : decode cX9_fit 54 = .ok (.aload_n 0, 1) := by decide +kernel
theorem dX9_fit_55 : decode cX9_fit 55 = .ok (.iload 6, 2) := by decide +kernel
theorem dX9_fit_57 : decode cX9_fit 57 = .ok (.invokevirtual 91, 3) := by decide +kernel
theorem dX9_fit_60 : decode cX9_fit 60 = .ok (.lreturn, 1) := by decide +kernel
theorem dX9_fit_61 : decode cX9_fit 61 = .ok (.aload_n 0, 1) := by decide +kernel
theorem dX9_fit_62 : decode cX9_fit 62 = .ok (.getfield 38, 3) := by decide +kernel
theorem dX9_fit_65 : decode cX9_fit 65 = .ok (.iload_n 1, 1) := by decide +kernel
theorem dX9_fit_66 : decode cX9_fit 66 = .ok (.iconst (-1), 1) := by decide +kernel
theorem dX9_fit_67 : decode cX9_fit 67 = .ok (.iload_n 2, 1) := by decide +kernel
theorem dX9_fit_68 : decode cX9_fit 68 = .ok (.lload_n 3, 1) := by decide +kernel
theorem dX9_fit_69 : decode cX9_fit 69 = .ok (.invokevirtual 200, 3) := by decide +kernel
theorem dX9_fit_72 : decode cX9_fit 72 = .ok (.astore 7, 2) := by decide +kernel
theorem dX9_fit_74 : decode cX9_fit 74 = .ok (.iload 5, 2) := by decide +kernel
theorem dX9_fit_76 : decode cX9_fit 76 = .ok (.ifCond .ne 10, 3) := by decide +kernel
theorem dX9_fit_79 : decode cX9_fit 79 = .ok (.aload 7, 2) := by decide +kernel
theorem dX9_fit_81 : decode cX9_fit 81 = .ok (.invokevirtual 204, 3) := by decide +kernel
theorem dX9_fit_84 : decode cX9_fit 84 = .ok (.i2l, 1) := by decide +kernel
theorem dX9_fit_85 : decode cX9_fit 85 = .ok (.lreturn, 1) := by decide +kernel
theorem dX9_fit_86 : decode cX9_fit 86 = .ok (.iload 5, 2) := by decide +kernel
theorem dX9_fit_88 : decode cX9_fit 88 = .ok (.iconst 1, 1) := by decide +kernel
theorem dX9_fit_89 : decode cX9_fit 89 = .ok (.if_icmp .ne 11, 3) := by decide +kernel
theorem dX9_fit_92 : decode cX9_fit 92 = .ok (.aload 7, 2) := by decide +kernel
theorem dX9_fit_94 : decode cX9_fit 94 = .ok (.invokevirtual 209, 3) := by decide +kernel
theorem dX9_fit_97 : decode cX9_fit 97 = .ok (.goto 8, 3) := by decide +kernel
theorem dX9_fit_100 : decode cX9_fit 100 = .ok (.aload 7, 2) := by decide +kernel
theorem dX9_fit_102 : decode cX9_fit 102 = .ok (.invokevirtual 213, 3) := by decide +kernel
theorem dX9_fit_105 : decode cX9_fit 105 = .ok (.lreturn, 1) := by decide +kernel
theorem dX9_left_0 : decode cX9_left 0 = .ok (.aload_n 0, 1) := by decide +kernel
theorem dX9_left_1 : decode cX9_left 1 = .ok (.iload_n 1, 1) := by decide +kernel
theorem dX9_left_2 : decode cX9_left 2 = .ok (.invokevirtual 184, 3) := by decide +kernel
theorem dX9_left_5 : decode cX9_left 5 = .ok (.aload_n 0, 1) := by decide +kernel
theorem dX9_left_6 : decode cX9_left 6 = .ok (.iload_n 2, 1) := by decide +kernel
theorem dX9_left_7 : decode cX9_left 7 = .ok (.invokevirtual 140, 3) := by decide +kernel
theorem dX9_left_10 : decode cX9_left 10 = .ok (.invokestatic 58, 3) := by decide +kernel
theorem dX9_left_13 : decode cX9_left 13 = .ok (.istore 5, 2) := by decide +kernel
theorem dX9_left_15 : decode cX9_left 15 = .ok (.iload 5, 2) := by decide +kernel
theorem dX9_left_17 : decode cX9_left 17 = .ok (.aload_n 0, 1) := by decide +kernel
theorem dX9_left_18 : decode cX9_left 18 = .ok (.iload_n 2, 1) := by decide +kernel
theorem dX9_left_19 : decode cX9_left 19 = .ok (.invokevirtual 143, 3) := by decide +kernel
theorem dX9_left_22 : decode cX9_left 22 = .ok (.invokestatic 58, 3) := by decide +kernel
theorem dX9_left_25 : decode cX9_left 25 = .ok (.istore 5, 2) := by decide +kernel
theorem dX9_left_27 : decode cX9_left 27 = .ok (.iload 5, 2) := by decide +kernel
theorem dX9_left_29 : decode cX9_left 29 = .ok (.aload_n 0, 1) := by decide +kernel
theorem dX9_left_30 : decode cX9_left 30 = .ok (.lload_n 3, 1) := by decide +kernel
theorem dX9_left_31 : decode cX9_left 31 = .ok (.invokevirtual 197, 3) := by decide +kernel
theorem dX9_left_34 : decode cX9_left 34 = .ok (.invokestatic 58, 3) := by decide +kernel
theorem dX9_left_37 : decode cX9_left 37 = .ok (.istore 5, 2) := by decide +kernel
theorem dX9_left_39 : decode cX9_left 39 = .ok (.iload 5, 2) := by decide +kernel
theorem dX9_left_41 : decode cX9_left 41 = .ok (.ifCond .eq 10, 3) := by decide +kernel
theorem dX9_left_44 : decode cX9_left 44 = .ok (.aload_n 0, 1) := by decide +kernel
theorem dX9_left_45 : decode cX9_left 45 = .ok (.iload 5, 2) := by decide +kernel
theorem dX9_left_47 : decode cX9_left 47 = .ok (.invokevirtual 91, 3) := by decide +kernel
theorem dX9_left_50 : decode cX9_left 50 = .ok (.lreturn, 1) := by decide +kernel
theorem dX9_left_51 : decode cX9_left 51 = .ok (.aload_n 0, 1) := by decide +kernel
theorem dX9_left_52 : decode cX9_left 52 = .ok (.getfield 38, 3) := by decide +kernel
theorem dX9_left_55 : decode cX9_left 55 = .ok (.iload_n 1, 1) := by decide +kernel
theorem dX9_left_56 : decode cX9_left 56 = .ok (.iconst (-1), 1) := by decide +kernel
theorem dX9_left_57 : decode cX9_left 57 = .ok (.aload_n 0, 1) := by decide +kernel
theorem dX9_left_58 : decode cX9_left 58 = .ok (.getfield 10, 3) := by decide +kernel
theorem dX9_left_61 : decode cX9_left 61 = .ok (.getfield 126, 3) := by decide +kernel
theorem dX9_left_64 : decode cX9_left 64 = .ok (.getfield 216, 3) := by decide +kernel
theorem dX9_left_67 : decode cX9_left 67 = .ok (.iload_n 2, 1) := by decide +kernel
theorem dX9_left_68 : decode cX9_left 68 = .ok (.iaload, 1) := by decide +kernel
theorem dX9_left_69 : decode cX9_left 69 = .ok (.lload_n 3, 1) := by decide +kernel
theorem dX9_left_70 : decode cX9_left 70 = .ok (.invokevirtual 200, 3) := by decide +kernel
theorem dX9_left_73 : decode cX9_left 73 = .ok (.invokevirtual 204, 3) := by decide +kernel
theorem dX9_left_76 : decode cX9_left 76 = .ok (.istore 6, 2) := by decide +kernel
theorem dX9_left_78 : decode cX9_left 78 = .ok (.aload_n 0, 1) := by decide +kernel
theorem dX9_left_79 : decode cX9_left 79 = .ok (.getfield 10, 3) := by decide +kernel
theorem dX9_left_82 : decode cX9_left 82 = .ok (.iload_n 2, 1) := by decide +kernel
theorem dX9_left_83 : decode cX9_left 83 = .ok (.iload_n 1, 1) := by decide +kernel
theorem dX9_left_84 : decode cX9_left 84 = .ok (.iload 6, 2) := by decide +kernel
theorem dX9_left_86 : decode cX9_left 86 = .ok (.invokevirtual 219, 3) := by decide +kernel
theorem dX9_left_89 : decode cX9_left 89 = .ok (.lreturn, 1) := by decide +kernel
theorem dX9_season_0 : decode cX9_season 0 = .ok (.aload_n 0, 1) := by decide +kernel
theorem dX9_season_1 : decode cX9_season 1 = .ok (.iload_n 1, 1) := by decide +kernel
theorem dX9_season_2 : decode cX9_season 2 = .ok (.invokevirtual 184, 3) := by decide +kernel
theorem dX9_season_5 : decode cX9_season 5 = .ok (.aload_n 0, 1) := by decide +kernel
theorem dX9_season_6 : decode cX9_season 6 = .ok (.iload_n 2, 1) := by decide +kernel
theorem dX9_season_7 : decode cX9_season 7 = .ok (.invokevirtual 76, 3) := by decide +kernel
theorem dX9_season_10 : decode cX9_season 10 = .ok (.invokestatic 58, 3) := by decide +kernel
theorem dX9_season_13 : decode cX9_season 13 = .ok (.istore 5, 2) := by decide +kernel
theorem dX9_season_15 : decode cX9_season 15 = .ok (.iload 5, 2) := by decide +kernel
theorem dX9_season_17 : decode cX9_season 17 = .ok (.aload_n 0, 1) := by decide +kernel
theorem dX9_season_18 : decode cX9_season 18 = .ok (.lload_n 3, 1) := by decide +kernel
theorem dX9_season_19 : decode cX9_season 19 = .ok (.invokevirtual 197, 3) := by decide +kernel
theorem dX9_season_22 : decode cX9_season 22 = .ok (.invokestatic 58, 3) := by decide +kernel
theorem dX9_season_25 : decode cX9_season 25 = .ok (.istore 5, 2) := by decide +kernel
theorem dX9_season_27 : decode cX9_season 27 = .ok (.iload 5, 2) := by decide +kernel
theorem dX9_season_29 : decode cX9_season 29 = .ok (.ifCond .eq 10, 3) := by decide +kernel
theorem dX9_season_32 : decode cX9_season 32 = .ok (.aload_n 0, 1) := by decide +kernel
theorem dX9_season_33 : decode cX9_season 33 = .ok (.iload 5, 2) := by decide +kernel
theorem dX9_season_35 : decode cX9_season 35 = .ok (.invokevirtual 91, 3) := by decide +kernel
theorem dX9_season_38 : decode cX9_season 38 = .ok (.lreturn, 1) := by decide +kernel
theorem dX9_season_39 : decode cX9_season 39 = .ok (.aload_n 0, 1) := by decide +kernel
theorem dX9_season_40 : decode cX9_season 40 = .ok (.getfield 38, 3) := by decide +kernel
theorem dX9_season_43 : decode cX9_season 43 = .ok (.iload_n 1, 1) := by decide +kernel
theorem dX9_season_44 : decode cX9_season 44 = .ok (.iconst (-1), 1) := by decide +kernel
theorem dX9_season_45 : decode cX9_season 45 = .ok (.iload_n 2, 1) := by decide +kernel
theorem dX9_season_46 : decode cX9_season 46 = .ok (.lload_n 3, 1) := by decide +kernel
theorem dX9_season_47 : decode cX9_season 47 = .ok (.invokevirtual 200, 3) := by decide +kernel
theorem dX9_season_50 : decode cX9_season 50 = .ok (.invokevirtual 204, 3) := by decide +kernel
theorem dX9_season_53 : decode cX9_season 53 = .ok (.istore 6, 2) := by decide +kernel
theorem dX9_season_55 : decode cX9_season 55 = .ok (.aload_n 0, 1) := by decide +kernel
theorem dX9_season_56 : decode cX9_season 56 = .ok (.getfield 10, 3) := by decide +kernel
theorem dX9_season_59 : decode cX9_season 59 = .ok (.iload_n 1, 1) := by decide +kernel
theorem dX9_season_60 : decode cX9_season 60 = .ok (.iload_n 2, 1) := by decide +kernel
theorem dX9_season_61 : decode cX9_season 61 = .ok (.lload_n 3, 1) := by decide +kernel
theorem dX9_season_62 : decode cX9_season 62 = .ok (.iload 6, 2) := by decide +kernel
theorem dX9_season_64 : decode cX9_season 64 = .ok (.invokevirtual 223, 3) := by decide +kernel
theorem dX9_season_67 : decode cX9_season 67 = .ok (.lreturn, 1) := by decide +kernel
theorem dX9_worth_0 : decode cX9_worth 0 = .ok (.aload_n 0, 1) := by decide +kernel
theorem dX9_worth_1 : decode cX9_worth 1 = .ok (.iload_n 1, 1) := by decide +kernel
theorem dX9_worth_2 : decode cX9_worth 2 = .ok (.invokevirtual 184, 3) := by decide +kernel
theorem dX9_worth_5 : decode cX9_worth 5 = .ok (.aload_n 0, 1) := by decide +kernel
theorem dX9_worth_6 : decode cX9_worth 6 = .ok (.iload_n 3, 1) := by decide +kernel
theorem dX9_worth_7 : decode cX9_worth 7 = .ok (.invokevirtual 76, 3) := by decide +kernel
theorem dX9_worth_10 : decode cX9_worth 10 = .ok (.invokestatic 58, 3) := by decide +kernel
theorem dX9_worth_13 : decode cX9_worth 13 = .ok (.istore 6, 2) := by decide +kernel
theorem dX9_worth_15 : decode cX9_worth 15 = .ok (.iload 6, 2) := by decide +kernel
theorem dX9_worth_17 : decode cX9_worth 17 = .ok (.ifCond .ne 25, 3) := by decide +kernel
theorem dX9_worth_20 : decode cX9_worth 20 = .ok (.iload_n 2, 1) := by decide +kernel
theorem dX9_worth_21 : decode cX9_worth 21 = .ok (.aload_n 0, 1) := by decide +kernel
theorem dX9_worth_22 : decode cX9_worth 22 = .ok (.getfield 10, 3) := by decide +kernel
theorem dX9_worth_25 : decode cX9_worth 25 = .ok (.getfield 164, 3) := by decide +kernel
theorem dX9_worth_28 : decode cX9_worth 28 = .ok (.getfield 190, 3) := by decide +kernel
theorem dX9_worth_31 : decode cX9_worth 31 = .ok (.iload_n 1, 1) := by decide +kernel
theorem dX9_worth_32 : decode cX9_worth 32 = .ok (.iaload, 1) := by decide +kernel
theorem dX9_worth_33 : decode cX9_worth 33 = .ok (.invokestatic 49, 3) := by decide +kernel
theorem dX9_worth_36 : decode cX9_worth 36 = .ok (.ifCond .ne 6, 3) := by decide +kernel
theorem dX9_worth_39 : decode cX9_worth 39 = .ok (.iconst (-1), 1) := by decide +kernel
theorem dX9_worth_40 : decode cX9_worth 40 = .ok (.istore 6, 2) := by decide +kernel
theorem dX9_worth_42 : decode cX9_worth 42 = .ok (.iload 6, 2) := by decide +kernel
theorem dX9_worth_44 : decode cX9_worth 44 = .ok (.aload_n 0, 1) := by decide +kernel
theorem dX9_worth_45 : decode cX9_worth 45 = .ok (.lload 4, 2) := by decide +kernel
theorem dX9_worth_47 : decode cX9_worth 47 = .ok (.invokevirtual 197, 3) := by decide +kernel
theorem dX9_worth_50 : decode cX9_worth 50 = .ok (.invokestatic 58, 3) := by decide +kernel
theorem dX9_worth_53 : decode cX9_worth 53 = .ok (.istore 6, 2) := by decide +kernel
theorem dX9_worth_55 : decode cX9_worth 55 = .ok (.iload 6, 2) := by decide +kernel
theorem dX9_worth_57 : decode cX9_worth 57 = .ok (.ifCond .eq 10, 3) := by decide +kernel
theorem dX9_worth_60 : decode cX9_worth 60 = .ok (.aload_n 0, 1) := by decide +kernel
theorem dX9_worth_61 : decode cX9_worth 61 = .ok (.iload 6, 2) := by decide +kernel
theorem dX9_worth_63 : decode cX9_worth 63 = .ok (.invokevirtual 91, 3) := by decide +kernel
theorem dX9_worth_66 : decode cX9_worth 66 = .ok (.lreturn, 1) := by decide +kernel
theorem dX9_worth_67 : decode cX9_worth 67 = .ok (.aload_n 0, 1) := by decide +kernel
theorem dX9_worth_68 : decode cX9_worth 68 = .ok (.getfield 38, 3) := by decide +kernel
theorem dX9_worth_71 : decode cX9_worth 71 = .ok (.iload_n 1, 1) := by decide +kernel
theorem dX9_worth_72 : decode cX9_worth 72 = .ok (.iconst (-1), 1) := by decide +kernel
theorem dX9_worth_73 : decode cX9_worth 73 = .ok (.iload_n 3, 1) := by decide +kernel
theorem dX9_worth_74 : decode cX9_worth 74 = .ok (.lload 4, 2) := by decide +kernel
theorem dX9_worth_76 : decode cX9_worth 76 = .ok (.invokevirtual 200, 3) := by decide +kernel
theorem dX9_worth_79 : decode cX9_worth 79 = .ok (.invokevirtual 209, 3) := by decide +kernel
theorem dX9_worth_82 : decode cX9_worth 82 = .ok (.lstore 7, 2) := by decide +kernel
theorem dX9_worth_84 : decode cX9_worth 84 = .ok (.aload_n 0, 1) := by decide +kernel
theorem dX9_worth_85 : decode cX9_worth 85 = .ok (.getfield 38, 3) := by decide +kernel
theorem dX9_worth_88 : decode cX9_worth 88 = .ok (.iload_n 1, 1) := by decide +kernel
theorem dX9_worth_89 : decode cX9_worth 89 = .ok (.iload_n 2, 1) := by decide +kernel
theorem dX9_worth_90 : decode cX9_worth 90 = .ok (.iload_n 3, 1) := by decide +kernel
theorem dX9_worth_91 : decode cX9_worth 91 = .ok (.lload 4, 2) := by decide +kernel
theorem dX9_worth_93 : decode cX9_worth 93 = .ok (.invokevirtual 200, 3) := by decide +kernel
theorem dX9_worth_96 : decode cX9_worth 96 = .ok (.invokevirtual 209, 3) := by decide +kernel
theorem dX9_worth_99 : decode cX9_worth 99 = .ok (.lload 7, 2) := by decide +kernel
theorem dX9_worth_101 : decode cX9_worth 101 = .ok (.lsub, 1) := by decide +kernel
theorem dX9_worth_102 : decode cX9_worth 102 = .ok (.lreturn, 1) := by decide +kernel
theorem dX9_best_0 : decode cX9_best 0 = .ok (.aload_n 0, 1) := by decide +kernel
theorem dX9_best_1 : decode cX9_best 1 = .ok (.iload_n 1, 1) := by decide +kernel
theorem dX9_best_2 : decode cX9_best 2 = .ok (.invokevirtual 76, 3) := by decide +kernel
theorem dX9_best_5 : decode cX9_best 5 = .ok (.aload_n 0, 1) := by decide +kernel
theorem dX9_best_6 : decode cX9_best 6 = .ok (.invokevirtual 227, 3) := by decide +kernel
theorem dX9_best_9 : decode cX9_best 9 = .ok (.invokestatic 58, 3) := by decide +kernel
theorem dX9_best_12 : decode cX9_best 12 = .ok (.istore 4, 2) := by decide +kernel
theorem dX9_best_14 : decode cX9_best 14 = .ok (.iload 4, 2) := by decide +kernel
theorem dX9_best_16 : decode cX9_best 16 = .ok (.aload_n 0, 1) := by decide +kernel
theorem dX9_best_17 : decode cX9_best 17 = .ok (.lload_n 2, 1) := by decide +kernel
theorem dX9_best_18 : decode cX9_best 18 = .ok (.invokevirtual 197, 3) := by decide +kernel
theorem dX9_best_21 : decode cX9_best 21 = .ok (.invokestatic 58, 3) := by decide +kernel
theorem dX9_best_24 : decode cX9_best 24 = .ok (.istore 4, 2) := by decide +kernel
theorem dX9_best_26 : decode cX9_best 26 = .ok (.iload 4, 2) := by decide +kernel
theorem dX9_best_28 : decode cX9_best 28 = .ok (.ifCond .eq 10, 3) := by decide +kernel
theorem dX9_best_31 : decode cX9_best 31 = .ok (.aload_n 0, 1) := by decide +kernel
theorem dX9_best_32 : decode cX9_best 32 = .ok (.iload 4, 2) := by decide +kernel
theorem dX9_best_34 : decode cX9_best 34 = .ok (.invokevirtual 62, 3) := by decide +kernel
theorem dX9_best_37 : decode cX9_best 37 = .ok (.ireturn, 1) := by decide +kernel
theorem dX9_best_38 : decode cX9_best 38 = .ok (.aload_n 0, 1) := by decide +kernel
theorem dX9_best_39 : decode cX9_best 39 = .ok (.getfield 38, 3) := by decide +kernel
theorem dX9_best_42 : decode cX9_best 42 = .ok (.iload_n 1, 1) := by decide +kernel
theorem dX9_best_43 : decode cX9_best 43 = .ok (.lload_n 2, 1) := by decide +kernel
theorem dX9_best_44 : decode cX9_best 44 = .ok (.invokevirtual 230, 3) := by decide +kernel
theorem dX9_best_47 : decode cX9_best 47 = .ok (.aload_n 0, 1) := by decide +kernel
theorem dX9_best_48 : decode cX9_best 48 = .ok (.getfield 38, 3) := by decide +kernel
theorem dX9_best_51 : decode cX9_best 51 = .ok (.invokevirtual 234, 3) := by decide +kernel
theorem dX9_best_54 : decode cX9_best 54 = .ok (.ireturn, 1) := by decide +kernel
theorem dX9_allMoons_0 : decode cX9_allMoons 0 = .ok (.aload_n 0, 1) := by decide +kernel
theorem dX9_allMoons_1 : decode cX9_allMoons 1 = .ok (.iload_n 1, 1) := by decide +kernel
theorem dX9_allMoons_2 : decode cX9_allMoons 2 = .ok (.invokevirtual 184, 3) := by decide +kernel
theorem dX9_allMoons_5 : decode cX9_allMoons 5 = .ok (.istore_n 2, 1) := by decide +kernel
theorem dX9_allMoons_6 : decode cX9_allMoons 6 = .ok (.iload_n 2, 1) := by decide +kernel
theorem dX9_allMoons_7 : decode cX9_allMoons 7 = .ok (.ifCond .ne 20, 3) := by decide +kernel
theorem dX9_allMoons_10 : decode cX9_allMoons 10 = .ok (.aload_n 0, 1) := by decide +kernel
theorem dX9_allMoons_11 : decode cX9_allMoons 11 = .ok (.getfield 10, 3) := by decide +kernel
theorem dX9_allMoons_14 : decode cX9_allMoons 14 = .ok (.getfield 164, 3) := by decide +kernel
theorem dX9_allMoons_17 : decode cX9_allMoons 17 = .ok (.iload_n 1, 1) := by decide +kernel
theorem dX9_allMoons_18 : decode cX9_allMoons 18 = .ok (.iconst 2, 1) := by decide +kernel
theorem dX9_allMoons_19 : decode cX9_allMoons 19 = .ok (.invokevirtual 237, 3) := by decide +kernel
theorem dX9_allMoons_22 : decode cX9_allMoons 22 = .ok (.ifCond .ge 5, 3) := by decide +kernel
theorem dX9_allMoons_25 : decode cX9_allMoons 25 = .ok (.iconst (-1), 1) := by decide +kernel
theorem dX9_allMoons_26 : decode cX9_allMoons 26 = .ok (.istore_n 2, 1) := by decide +kernel
theorem dX9_allMoons_27 : decode cX9_allMoons 27 = .ok (.iload_n 2, 1) := by decide +kernel
theorem dX9_allMoons_28 : decode cX9_allMoons 28 = .ok (.ifCond .eq 11, 3) := by decide +kernel
theorem dX9_allMoons_31 : decode cX9_allMoons 31 = .ok (.aload_n 0, 1) := by decide +kernel
theorem dX9_allMoons_32 : decode cX9_allMoons 32 = .ok (.iload_n 2, 1) := by decide +kernel
theorem dX9_allMoons_33 : decode cX9_allMoons 33 = .ok (.invokevirtual 62, 3) := by decide +kernel
theorem dX9_allMoons_36 : decode cX9_allMoons 36 = .ok (.goto 11, 3) := by decide +kernel
theorem dX9_allMoons_39 : decode cX9_allMoons 39 = .ok (.aload_n 0, 1) := by decide +kernel
theorem dX9_allMoons_40 : decode cX9_allMoons 40 = .ok (.getfield 38, 3) := by decide +kernel
theorem dX9_allMoons_43 : decode cX9_allMoons 43 = .ok (.iload_n 1, 1) := by decide +kernel
theorem dX9_allMoons_44 : decode cX9_allMoons 44 = .ok (.invokevirtual 240, 3) := by decide +kernel
theorem dX9_allMoons_47 : decode cX9_allMoons 47 = .ok (.ireturn, 1) := by decide +kernel
theorem dX9_foretold_0 : decode cX9_foretold 0 = .ok (.aload_n 0, 1) := by decide +kernel
theorem dX9_foretold_1 : decode cX9_foretold 1 = .ok (.iload_n 1, 1) := by decide +kernel
theorem dX9_foretold_2 : decode cX9_foretold 2 = .ok (.invokevirtual 184, 3) := by decide +kernel
theorem dX9_foretold_5 : decode cX9_foretold 5 = .ok (.aload_n 0, 1) := by decide +kernel
theorem dX9_foretold_6 : decode cX9_foretold 6 = .ok (.iload_n 2, 1) := by decide +kernel
theorem dX9_foretold_7 : decode cX9_foretold 7 = .ok (.invokevirtual 76, 3) := by decide +kernel
theorem dX9_foretold_10 : decode cX9_foretold 10 = .ok (.invokestatic 58, 3) := by decide +kernel
theorem dX9_foretold_13 : decode cX9_foretold 13 = .ok (.istore 7, 2) := by decide +kernel
theorem dX9_foretold_15 : decode cX9_foretold 15 = .ok (.iload 7, 2) := by decide +kernel
theorem dX9_foretold_17 : decode cX9_foretold 17 = .ok (.iload_n 3, 1) := by decide +kernel
theorem dX9_foretold_18 : decode cX9_foretold 18 = .ok (.iconst 0, 1) := by decide +kernel
theorem dX9_foretold_19 : decode cX9_foretold 19 = .ok (.sipush 999, 3) := by decide +kernel
theorem dX9_foretold_22 : decode cX9_foretold 22 = .ok (.invokestatic 54, 3) := by decide +kernel
theorem dX9_foretold_25 : decode cX9_foretold 25 = .ok (.invokestatic 58, 3) := by decide +kernel
theorem dX9_foretold_28 : decode cX9_foretold 28 = .ok (.istore 7, 2) := by decide +kernel
theorem dX9_foretold_30 : decode cX9_foretold 30 = .ok (.iload 7, 2) := by decide +kernel
theorem dX9_foretold_32 : decode cX9_foretold 32 = .ok (.aload_n 0, 1) := by decide +kernel
theorem dX9_foretold_33 : decode cX9_foretold 33 = .ok (.lload 4, 2) := by decide +kernel
theorem dX9_foretold_35 : decode cX9_foretold 35 = .ok (.invokevirtual 197, 3) := by decide +kernel
theorem dX9_foretold_38 : decode cX9_foretold 38 = .ok (.invokestatic 58, 3) := by decide +kernel
theorem dX9_foretold_41 : decode cX9_foretold 41 = .ok (.istore 7, 2) := by decide +kernel
theorem dX9_foretold_43 : decode cX9_foretold 43 = .ok (.iload 7, 2) := by decide +kernel
theorem dX9_foretold_45 : decode cX9_foretold 45 = .ok (.ifCond .eq 10, 3) := by decide +kernel
theorem dX9_foretold_48 : decode cX9_foretold 48 = .ok (.aload_n 0, 1) := by decide +kernel
theorem dX9_foretold_49 : decode cX9_foretold 49 = .ok (.iload 7, 2) := by decide +kernel
theorem dX9_foretold_51 : decode cX9_foretold 51 = .ok (.invokevirtual 91, 3) := by decide +kernel
theorem dX9_foretold_54 : decode cX9_foretold 54 = .ok (.lreturn, 1) := by decide +kernel
theorem dX9_foretold_55 : decode cX9_foretold 55 = .ok (.aload_n 0, 1) := by decide +kernel
theorem dX9_foretold_56 : decode cX9_foretold 56 = .ok (.getfield 10, 3) := by decide +kernel
theorem dX9_foretold_59 : decode cX9_foretold 59 = .ok (.iload_n 1, 1) := by decide +kernel
theorem dX9_foretold_60 : decode cX9_foretold 60 = .ok (.iload_n 2, 1) := by decide +kernel
theorem dX9_foretold_61 : decode cX9_foretold 61 = .ok (.iload_n 3, 1) := by decide +kernel
theorem dX9_foretold_62 : decode cX9_foretold 62 = .ok (.aload_n 0, 1) := by decide +kernel
theorem dX9_foretold_63 : decode cX9_foretold 63 = .ok (.getfield 38, 3) := by decide +kernel
theorem dX9_foretold_66 : decode cX9_foretold 66 = .ok (.iload_n 1, 1) := by decide +kernel
theorem dX9_foretold_67 : decode cX9_foretold 67 = .ok (.iconst (-1), 1) := by decide +kernel
theorem dX9_foretold_68 : decode cX9_foretold 68 = .ok (.iload_n 2, 1) := by decide +kernel
theorem dX9_foretold_69 : decode cX9_foretold 69 = .ok (.lload 4, 2) := by decide +kernel
theorem dX9_foretold_71 : decode cX9_foretold 71 = .ok (.invokevirtual 200, 3) := by decide +kernel
theorem dX9_foretold_74 : decode cX9_foretold 74 = .ok (.invokevirtual 204, 3) := by decide +kernel
theorem dX9_foretold_77 : decode cX9_foretold 77 = .ok (.invokevirtual 193, 3) := by decide +kernel
theorem dX9_foretold_80 : decode cX9_foretold 80 = .ok (.lstore 8, 2) := by decide +kernel
theorem dX9_foretold_82 : decode cX9_foretold 82 = .ok (.iload 6, 2) := by decide +kernel
theorem dX9_foretold_84 : decode cX9_foretold 84 = .ok (.ifCond .eq 18, 3) := by decide +kernel
theorem dX9_foretold_87 : decode cX9_foretold 87 = .ok (.aload_n 0, 1) := by decide +kernel
theorem dX9_foretold_88 : decode cX9_foretold 88 = .ok (.getfield 10, 3) := by decide +kernel
theorem dX9_foretold_91 : decode cX9_foretold 91 = .ok (.iload_n 2, 1) := by decide +kernel
theorem dX9_foretold_92 : decode cX9_foretold 92 = .ok (.iload_n 3, 1) := by decide +kernel
theorem dX9_foretold_93 : decode cX9_foretold 93 = .ok (.invokevirtual 95, 3) := by decide +kernel
theorem dX9_foretold_96 : decode cX9_foretold 96 = .ok (.lload 8, 2) := by decide +kernel
theorem dX9_foretold_98 : decode cX9_foretold 98 = .ok (.lsub, 1) := by decide +kernel
theorem dX9_foretold_99 : decode cX9_foretold 99 = .ok (.goto 5, 3) := by decide +kernel
theorem dX9_foretold_102 : decode cX9_foretold 102 = .ok (.lload 8, 2) := by decide +kernel
theorem dX9_foretold_104 : decode cX9_foretold 104 = .ok (.lreturn, 1) := by decide +kernel
theorem dX9_parts_0 : decode cX9_parts 0 = .ok (.aload_n 0, 1) := by decide +kernel
theorem dX9_parts_1 : decode cX9_parts 1 = .ok (.iload_n 1, 1) := by decide +kernel
theorem dX9_parts_2 : decode cX9_parts 2 = .ok (.invokevirtual 184, 3) := by decide +kernel
theorem dX9_parts_5 : decode cX9_parts 5 = .ok (.aload_n 0, 1) := by decide +kernel
theorem dX9_parts_6 : decode cX9_parts 6 = .ok (.iload_n 2, 1) := by decide +kernel
theorem dX9_parts_7 : decode cX9_parts 7 = .ok (.invokevirtual 184, 3) := by decide +kernel
theorem dX9_parts_10 : decode cX9_parts 10 = .ok (.invokestatic 58, 3) := by decide +kernel
theorem dX9_parts_13 : decode cX9_parts 13 = .ok (.istore 6, 2) := by decide +kernel
theorem dX9_parts_15 : decode cX9_parts 15 = .ok (.iload 6, 2) := by decide +kernel
theorem dX9_parts_17 : decode cX9_parts 17 = .ok (.aload_n 0, 1) := by decide +kernel
theorem dX9_parts_18 : decode cX9_parts 18 = .ok (.iload_n 3, 1) := by decide +kernel
theorem dX9_parts_19 : decode cX9_parts 19 = .ok (.invokevirtual 76, 3) := by decide +kernel
theorem dX9_parts_22 : decode cX9_parts 22 = .ok (.invokestatic 58, 3) := by decide +kernel
theorem dX9_parts_25 : decode cX9_parts 25 = .ok (.istore 6, 2) := by decide +kernel
theorem dX9_parts_27 : decode cX9_parts 27 = .ok (.iload 6, 2) := by decide +kernel
theorem dX9_parts_29 : decode cX9_parts 29 = .ok (.iload 4, 2) := by decide +kernel
theorem dX9_parts_31 : decode cX9_parts 31 = .ok (.ifCond .lt 8, 3) := by decide +kernel
theorem dX9_parts_34 : decode cX9_parts 34 = .ok (.iload 5, 2) := by decide +kernel
theorem dX9_parts_36 : decode cX9_parts 36 = .ok (.ifCond .ge 8, 3) := by decide +kernel
theorem dX9_parts_39 : decode cX9_parts 39 = .ok (.bipush (-4), 2) := by decide +kernel
theorem dX9_parts_41 : decode cX9_parts 41 = .ok (.goto 4, 3) := by decide +kernel
theorem dX9_parts_44 : decode cX9_parts 44 = .ok (.iconst 0, 1) := by decide +kernel
theorem dX9_parts_45 : decode cX9_parts 45 = .ok (.invokestatic 58, 3) := by decide +kernel
theorem dX9_parts_48 : decode cX9_parts 48 = .ok (.istore 6, 2) := by decide +kernel
theorem dX9_parts_50 : decode cX9_parts 50 = .ok (.iload 6, 2) := by decide +kernel
theorem dX9_parts_52 : decode cX9_parts 52 = .ok (.iload 4, 2) := by decide +kernel
theorem dX9_parts_54 : decode cX9_parts 54 = .ok (.sipush 999, 3) := by decide +kernel
theorem dX9_parts_57 : decode cX9_parts 57 = .ok (.if_icmp .gt 11, 3) := by decide +kernel
theorem dX9_parts_60 : decode cX9_parts 60 = .ok (.iload 5, 2) := by decide +kernel
theorem dX9_parts_62 : decode cX9_parts 62 = .ok (.sipush 999, 3) := by decide +kernel
theorem dX9_parts_65 : decode cX9_parts 65 = .ok (.if_icmp .le 8, 3) := by decide +kernel
theorem dX9_parts_68 : decode cX9_parts 68 = .ok (.bipush (-6), 2) := by decide +kernel
theorem dX9_parts_70 : decode cX9_parts 70 = .ok (.goto 4, 3) := by decide +kernel
theorem dX9_parts_73 : decode cX9_parts 73 = .ok (.iconst 0, 1) := by decide +kernel
theorem dX9_parts_74 : decode cX9_parts 74 = .ok (.invokestatic 58, 3) := by decide +kernel
theorem dX9_parts_77 : decode cX9_parts 77 = .ok (.istore 6, 2) := by decide +kernel
theorem dX9_parts_79 : decode cX9_parts 79 = .ok (.iload 6, 2) := by decide +kernel
theorem dX9_parts_81 : decode cX9_parts 81 = .ok (.iload 5, 2) := by decide +kernel
theorem dX9_parts_83 : decode cX9_parts 83 = .ok (.iload 4, 2) := by decide +kernel
theorem dX9_parts_85 : decode cX9_parts 85 = .ok (.if_icmp .ge 8, 3) := by decide +kernel
theorem dX9_parts_88 : decode cX9_parts 88 = .ok (.bipush (-3), 2) := by decide +kernel
theorem dX9_parts_90 : decode cX9_parts 90 = .ok (.goto 4, 3) := by decide +kernel
theorem dX9_parts_93 : decode cX9_parts 93 = .ok (.iconst 0, 1) := by decide +kernel
theorem dX9_parts_94 : decode cX9_parts 94 = .ok (.invokestatic 58, 3) := by decide +kernel
theorem dX9_parts_97 : decode cX9_parts 97 = .ok (.istore 6, 2) := by decide +kernel
theorem dX9_parts_99 : decode cX9_parts 99 = .ok (.iload 6, 2) := by decide +kernel
theorem dX9_parts_101 : decode cX9_parts 101 = .ok (.ifCond .eq 10, 3) := by decide +kernel
theorem dX9_parts_104 : decode cX9_parts 104 = .ok (.aload_n 0, 1) := by decide +kernel
theorem dX9_parts_105 : decode cX9_parts 105 = .ok (.iload 6, 2) := by decide +kernel
theorem dX9_parts_107 : decode cX9_parts 107 = .ok (.invokevirtual 62, 3) := by decide +kernel
theorem dX9_parts_110 : decode cX9_parts 110 = .ok (.ireturn, 1) := by decide +kernel
theorem dX9_parts_111 : decode cX9_parts 111 = .ok (.aload_n 0, 1) := by decide +kernel
theorem dX9_parts_112 : decode cX9_parts 112 = .ok (.getfield 38, 3) := by decide +kernel
theorem dX9_parts_115 : decode cX9_parts 115 = .ok (.iload_n 1, 1) := by decide +kernel
theorem dX9_parts_116 : decode cX9_parts 116 = .ok (.iconst (-1), 1) := by decide +kernel
theorem dX9_parts_117 : decode cX9_parts 117 = .ok (.iload_n 3, 1) := by decide +kernel
theorem dX9_parts_118 : decode cX9_parts 118 = .ok (.aload_n 0, 1) := by decide +kernel
theorem dX9_parts_119 : decode cX9_parts 119 = .ok (.invokevirtual 243, 3) := by decide +kernel
theorem dX9_parts_122 : decode cX9_parts 122 = .ok (.invokevirtual 200, 3) := by decide +kernel
theorem dX9_parts_125 : decode cX9_parts 125 = .ok (.invokevirtual 204, 3) := by decide +kernel
theorem dX9_parts_128 : decode cX9_parts 128 = .ok (.istore 7, 2) := by decide +kernel
theorem dX9_parts_130 : decode cX9_parts 130 = .ok (.aload_n 0, 1) := by decide +kernel
theorem dX9_parts_131 : decode cX9_parts 131 = .ok (.getfield 38, 3) := by decide +kernel
theorem dX9_parts_134 : decode cX9_parts 134 = .ok (.iload_n 2, 1) := by decide +kernel
theorem dX9_parts_135 : decode cX9_parts 135 = .ok (.iconst (-1), 1) := by decide +kernel
theorem dX9_parts_136 : decode cX9_parts 136 = .ok (.iload_n 3, 1) := by decide +kernel
theorem dX9_parts_137 : decode cX9_parts 137 = .ok (.aload_n 0, 1) := by decide +kernel
theorem dX9_parts_138 : decode cX9_parts 138 = .ok (.invokevirtual 243, 3) := by decide +kernel
theorem dX9_parts_141 : decode cX9_parts 141 = .ok (.invokevirtual 200, 3) := by decide +kernel
theorem dX9_parts_144 : decode cX9_parts 144 = .ok (.invokevirtual 204, 3) := by decide +kernel
theorem dX9_parts_147 : decode cX9_parts 147 = .ok (.istore 8, 2) := by decide +kernel
theorem dX9_parts_149 : decode cX9_parts 149 = .ok (.aload_n 0, 1) := by decide +kernel
theorem dX9_parts_150 : decode cX9_parts 150 = .ok (.getfield 10, 3) := by decide +kernel
theorem dX9_parts_153 : decode cX9_parts 153 = .ok (.iload_n 1, 1) := by decide +kernel
theorem dX9_parts_154 : decode cX9_parts 154 = .ok (.iload 7, 2) := by decide +kernel
theorem dX9_parts_156 : decode cX9_parts 156 = .ok (.iload_n 2, 1) := by decide +kernel
theorem dX9_parts_157 : decode cX9_parts 157 = .ok (.iload 8, 2) := by decide +kernel
theorem dX9_parts_159 : decode cX9_parts 159 = .ok (.iload_n 3, 1) := by decide +kernel
theorem dX9_parts_160 : decode cX9_parts 160 = .ok (.iload 4, 2) := by decide +kernel
theorem dX9_parts_162 : decode cX9_parts 162 = .ok (.iload 5, 2) := by decide +kernel
theorem dX9_parts_164 : decode cX9_parts 164 = .ok (.invokevirtual 246, 3) := by decide +kernel
theorem dX9_parts_167 : decode cX9_parts 167 = .ok (.ireturn, 1) := by decide +kernel
theorem dX9_rhythm_0 : decode cX9_rhythm 0 = .ok (.aload_n 0, 1) := by decide +kernel
theorem dX9_rhythm_1 : decode cX9_rhythm 1 = .ok (.iload_n 1, 1) := by decide +kernel
theorem dX9_rhythm_2 : decode cX9_rhythm 2 = .ok (.invokevirtual 76, 3) := by decide +kernel
theorem dX9_rhythm_5 : decode cX9_rhythm 5 = .ok (.aload_n 0, 1) := by decide +kernel
theorem dX9_rhythm_6 : decode cX9_rhythm 6 = .ok (.iload_n 2, 1) := by decide +kernel
theorem dX9_rhythm_7 : decode cX9_rhythm 7 = .ok (.invokevirtual 76, 3) := by decide +kernel
theorem dX9_rhythm_10 : decode cX9_rhythm 10 = .ok (.invokestatic 58, 3) := by decide +kernel
theorem dX9_rhythm_13 : decode cX9_rhythm 13 = .ok (.istore 4, 2) := by decide +kernel
theorem dX9_rhythm_15 : decode cX9_rhythm 15 = .ok (.iload 4, 2) := by decide +kernel
theorem dX9_rhythm_17 : decode cX9_rhythm 17 = .ok (.aload_n 0, 1) := by decide +kernel
theorem dX9_rhythm_18 : decode cX9_rhythm 18 = .ok (.iload_n 3, 1) := by decide +kernel
theorem dX9_rhythm_19 : decode cX9_rhythm 19 = .ok (.invokevirtual 76, 3) := by decide +kernel
theorem dX9_rhythm_22 : decode cX9_rhythm 22 = .ok (.invokestatic 58, 3) := by decide +kernel
theorem dX9_rhythm_25 : decode cX9_rhythm 25 = .ok (.istore 4, 2) := by decide +kernel
theorem dX9_rhythm_27 : decode cX9_rhythm 27 = .ok (.iload 4, 2) := by decide +kernel
theorem dX9_rhythm_29 : decode cX9_rhythm 29 = .ok (.iload_n 1, 1) := by decide +kernel
theorem dX9_rhythm_30 : decode cX9_rhythm 30 = .ok (.iload_n 2, 1) := by decide +kernel
theorem dX9_rhythm_31 : decode cX9_rhythm 31 = .ok (.if_icmp .eq 13, 3) := by decide +kernel
theorem dX9_rhythm_34 : decode cX9_rhythm 34 = .ok (.iload_n 2, 1) := by decide +kernel
theorem dX9_rhythm_35 : decode cX9_rhythm 35 = .ok (.iload_n 3, 1) := by decide +kernel
theorem dX9_rhythm_36 : decode cX9_rhythm 36 = .ok (.if_icmp .eq 8, 3) := by decide +kernel
theorem dX9_rhythm_39 : decode cX9_rhythm 39 = .ok (.iload_n 1, 1) := by decide +kernel
theorem dX9_rhythm_40 : decode cX9_rhythm 40 = .ok (.iload_n 3, 1) := by decide +kernel
theorem dX9_rhythm_41 : decode cX9_rhythm 41 = .ok (.if_icmp .ne 7, 3) := by decide +kernel
theorem dX9_rhythm_44 : decode cX9_rhythm 44 = .ok (.iconst (-1), 1) := by decide +kernel
theorem dX9_rhythm_45 : decode cX9_rhythm 45 = .ok (.goto 4, 3) := by decide +kernel
theorem dX9_rhythm_48 : decode cX9_rhythm 48 = .ok (.iconst 0, 1) := by decide +kernel
theorem dX9_rhythm_49 : decode cX9_rhythm 49 = .ok (.invokestatic 58, 3) := by decide +kernel
theorem dX9_rhythm_52 : decode cX9_rhythm 52 = .ok (.istore 4, 2) := by decide +kernel
theorem dX9_rhythm_54 : decode cX9_rhythm 54 = .ok (.iload 4, 2) := by decide +kernel
theorem dX9_rhythm_56 : decode cX9_rhythm 56 = .ok (.ifCond .eq 12, 3) := by decide +kernel
theorem dX9_rhythm_59 : decode cX9_rhythm 59 = .ok (.aload_n 0, 1) := by decide +kernel
theorem dX9_rhythm_60 : decode cX9_rhythm 60 = .ok (.iload 4, 2) := by decide +kernel
theorem dX9_rhythm_62 : decode cX9_rhythm 62 = .ok (.invokevirtual 62, 3) := by decide +kernel
theorem dX9_rhythm_65 : decode cX9_rhythm 65 = .ok (.goto 16, 3) := by decide +kernel
theorem dX9_rhythm_68 : decode cX9_rhythm 68 = .ok (.aload_n 0, 1) := by decide +kernel
theorem dX9_rhythm_69 : decode cX9_rhythm 69 = .ok (.getfield 10, 3) := by decide +kernel
theorem dX9_rhythm_72 : decode cX9_rhythm 72 = .ok (.getfield 66, 3) := by decide +kernel
theorem dX9_rhythm_75 : decode cX9_rhythm 75 = .ok (.iload_n 1, 1) := by decide +kernel
theorem dX9_rhythm_76 : decode cX9_rhythm 76 = .ok (.iload_n 2, 1) := by decide +kernel
theorem dX9_rhythm_77 : decode cX9_rhythm 77 = .ok (.iload_n 3, 1) := by decide +kernel
theorem dX9_rhythm_78 : decode cX9_rhythm 78 = .ok (.invokevirtual 250, 3) := by decide +kernel
theorem dX9_rhythm_81 : decode cX9_rhythm 81 = .ok (.ireturn, 1) := by decide +kernel
theorem dX9_apart_0 : decode cX9_apart 0 = .ok (.iload_n 3, 1) := by decide +kernel
theorem dX9_apart_1 : decode cX9_apart 1 = .ok (.iconst 4, 1) := by decide +kernel
theorem dX9_apart_2 : decode cX9_apart 2 = .ok (.invokestatic 49, 3) := by decide +kernel
theorem dX9_apart_5 : decode cX9_apart 5 = .ok (.ifCond .eq 7, 3) := by decide +kernel
theorem dX9_apart_8 : decode cX9_apart 8 = .ok (.iconst 0, 1) := by decide +kernel
theorem dX9_apart_9 : decode cX9_apart 9 = .ok (.goto 5, 3) := by decide +kernel
theorem dX9_apart_12 : decode cX9_apart 12 = .ok (.bipush (-2), 2) := by decide +kernel
theorem dX9_apart_14 : decode cX9_apart 14 = .ok (.istore 4, 2) := by decide +kernel
theorem dX9_apart_16 : decode cX9_apart 16 = .ok (.iload_n 3, 1) := by decide +kernel
theorem dX9_apart_17 : decode cX9_apart 17 = .ok (.iconst 2, 1) := by decide +kernel
theorem dX9_apart_18 : decode cX9_apart 18 = .ok (.if_icmp .ge 7, 3) := by decide +kernel
theorem dX9_apart_21 : decode cX9_apart 21 = .ok (.iconst 1, 1) := by decide +kernel
theorem dX9_apart_22 : decode cX9_apart 22 = .ok (.goto 4, 3) := by decide +kernel
theorem dX9_apart_25 : decode cX9_apart 25 = .ok (.iconst 0, 1) := by decide +kernel
theorem dX9_apart_26 : decode cX9_apart 26 = .ok (.istore 5, 2) := by decide +kernel
theorem dX9_apart_28 : decode cX9_apart 28 = .ok (.iload 5, 2) := by decide +kernel
theorem dX9_apart_30 : decode cX9_apart 30 = .ok (.ifCond .eq 7, 3) := by decide +kernel
theorem dX9_apart_33 : decode cX9_apart 33 = .ok (.iconst 4, 1) := by decide +kernel
theorem dX9_apart_34 : decode cX9_apart 34 = .ok (.goto 5, 3) := by decide +kernel
theorem dX9_apart_37 : decode cX9_apart 37 = .ok (.bipush 6, 2) := by decide +kernel
theorem dX9_apart_39 : decode cX9_apart 39 = .ok (.istore 6, 2) := by decide +kernel
theorem dX9_apart_41 : decode cX9_apart 41 = .ok (.iload 4, 2) := by decide +kernel
theorem dX9_apart_43 : decode cX9_apart 43 = .ok (.iload_n 1, 1) := by decide +kernel
theorem dX9_apart_44 : decode cX9_apart 44 = .ok (.iload 6, 2) := by decide +kernel
theorem dX9_apart_46 : decode cX9_apart 46 = .ok (.invokestatic 49, 3) := by decide +kernel
theorem dX9_apart_49 : decode cX9_apart 49 = .ok (.ifCond .eq 21, 3) := by decide +kernel
theorem dX9_apart_52 : decode cX9_apart 52 = .ok (.iload_n 2, 1) := by decide +kernel
theorem dX9_apart_53 : decode cX9_apart 53 = .ok (.iload 6, 2) := by decide +kernel
theorem dX9_apart_55 : decode cX9_apart 55 = .ok (.invokestatic 49, 3) := by decide +kernel
theorem dX9_apart_58 : decode cX9_apart 58 = .ok (.ifCond .eq 12, 3) := by decide +kernel
theorem dX9_apart_61 : decode cX9_apart 61 = .ok (.iload_n 1, 1) := by decide +kernel
theorem dX9_apart_62 : decode cX9_apart 62 = .ok (.iload_n 2, 1) := by decide +kernel
theorem dX9_apart_63 : decode cX9_apart 63 = .ok (.if_icmp .eq 7, 3) := by decide +kernel
theorem dX9_apart_66 : decode cX9_apart 66 = .ok (.iconst 0, 1) := by decide +kernel
theorem dX9_apart_67 : decode cX9_apart 67 = .ok (.goto 4, 3) := by decide +kernel
theorem dX9_apart_70 : decode cX9_apart 70 = .ok (.iconst (-1), 1) := by decide +kernel
theorem dX9_apart_71 : decode cX9_apart 71 = .ok (.invokestatic 58, 3) := by decide +kernel
theorem dX9_apart_74 : decode cX9_apart 74 = .ok (.istore 4, 2) := by decide +kernel
theorem dX9_apart_76 : decode cX9_apart 76 = .ok (.iload 4, 2) := by decide +kernel
theorem dX9_apart_78 : decode cX9_apart 78 = .ok (.ifCond .ne 21, 3) := by decide +kernel
theorem dX9_apart_81 : decode cX9_apart 81 = .ok (.aload_n 0, 1) := by decide +kernel
theorem dX9_apart_82 : decode cX9_apart 82 = .ok (.getfield 10, 3) := by decide +kernel
theorem dX9_apart_85 : decode cX9_apart 85 = .ok (.iload_n 1, 1) := by decide +kernel
theorem dX9_apart_86 : decode cX9_apart 86 = .ok (.iload_n 2, 1) := by decide +kernel
theorem dX9_apart_87 : decode cX9_apart 87 = .ok (.iload 5, 2) := by decide +kernel
theorem dX9_apart_89 : decode cX9_apart 89 = .ok (.invokevirtual 253, 3) := by decide +kernel
theorem dX9_apart_92 : decode cX9_apart 92 = .ok (.ifCond .ne 7, 3) := by decide +kernel
theorem dX9_apart_95 : decode cX9_apart 95 = .ok (.bipush (-3), 2) := by decide +kernel
theorem dX9_apart_97 : decode cX9_apart 97 = .ok (.istore 4, 2) := by decide +kernel
theorem dX9_apart_99 : decode cX9_apart 99 = .ok (.iload 4, 2) := by decide +kernel
theorem dX9_apart_101 : decode cX9_apart 101 = .ok (.ifCond .eq 10, 3) := by decide +kernel
theorem dX9_apart_104 : decode cX9_apart 104 = .ok (.aload_n 0, 1) := by decide +kernel
theorem dX9_apart_105 : decode cX9_apart 105 = .ok (.iload 4, 2) := by decide +kernel
theorem dX9_apart_107 : decode cX9_apart 107 = .ok (.invokevirtual 91, 3) := by decide +kernel
theorem dX9_apart_110 : decode cX9_apart 110 = .ok (.lreturn, 1) := by decide +kernel
theorem dX9_apart_111 : decode cX9_apart 111 = .ok (.iload_n 3, 1) := by decide +kernel
theorem dX9_apart_112 : decode cX9_apart 112 = .ok (.iconst 1, 1) := by decide +kernel
theorem dX9_apart_113 : decode cX9_apart 113 = .ok (.if_icmp .eq 8, 3) := by decide +kernel
theorem dX9_apart_116 : decode cX9_apart 116 = .ok (.iload_n 3, 1) := by decide +kernel
theorem dX9_apart_117 : decode cX9_apart 117 = .ok (.iconst 3, 1) := by decide +kernel
theorem dX9_apart_118 : decode cX9_apart 118 = .ok (.if_icmp .ne 7, 3) := by decide +kernel
theorem dX9_apart_121 : decode cX9_apart 121 = .ok (.iconst 1, 1) := by decide +kernel
theorem dX9_apart_122 : decode cX9_apart 122 = .ok (.goto 4, 3) := by decide +kernel
theorem dX9_apart_125 : decode cX9_apart 125 = .ok (.iconst 0, 1) := by decide +kernel
theorem dX9_apart_126 : decode cX9_apart 126 = .ok (.istore 7, 2) := by decide +kernel
theorem dX9_apart_128 : decode cX9_apart 128 = .ok (.iload 7, 2) := by decide +kernel
theorem dX9_apart_130 : decode cX9_apart 130 = .ok (.ifCond .eq 18, 3) := by decide +kernel
theorem dX9_apart_133 : decode cX9_apart 133 = .ok (.aload_n 0, 1) := by decide +kernel
theorem dX9_apart_134 : decode cX9_apart 134 = .ok (.getfield 10, 3) := by decide +kernel
theorem dX9_apart_137 : decode cX9_apart 137 = .ok (.iload_n 2, 1) := by decide +kernel
theorem dX9_apart_138 : decode cX9_apart 138 = .ok (.iload_n 1, 1) := by decide +kernel
theorem dX9_apart_139 : decode cX9_apart 139 = .ok (.iload 5, 2) := by decide +kernel
theorem dX9_apart_141 : decode cX9_apart 141 = .ok (.invokevirtual 257, 3) := by decide +kernel
theorem dX9_apart_144 : decode cX9_apart 144 = .ok (.lneg, 1) := by decide +kernel
theorem dX9_apart_145 : decode cX9_apart 145 = .ok (.goto 14, 3) := by decide +kernel
theorem dX9_apart_148 : decode cX9_apart 148 = .ok (.aload_n 0, 1) := by decide +kernel
theorem dX9_apart_149 : decode cX9_apart 149 = .ok (.getfield 10, 3) := by decide +kernel
theorem dX9_apart_152 : decode cX9_apart 152 = .ok (.iload_n 1, 1) := by decide +kernel
theorem dX9_apart_153 : decode cX9_apart 153 = .ok (.iload_n 2, 1) := by decide +kernel
theorem dX9_apart_154 : decode cX9_apart 154 = .ok (.iload 5, 2) := by decide +kernel
theorem dX9_apart_156 : decode cX9_apart 156 = .ok (.invokevirtual 257, 3) := by decide +kernel
theorem dX9_apart_159 : decode cX9_apart 159 = .ok (.lreturn, 1) := by decide +kernel
theorem dX9_send_0 : decode cX9_send 0 = .ok (.aload_n 0, 1) := by decide +kernel
theorem dX9_send_1 : decode cX9_send 1 = .ok (.iload_n 1, 1) := by decide +kernel
theorem dX9_send_2 : decode cX9_send 2 = .ok (.invokevirtual 140, 3) := by decide +kernel
theorem dX9_send_5 : decode cX9_send 5 = .ok (.istore 4, 2) := by decide +kernel
theorem dX9_send_7 : decode cX9_send 7 = .ok (.iload 4, 2) := by decide +kernel
theorem dX9_send_9 : decode cX9_send 9 = .ok (.iload_n 2, 1) := by decide +kernel
theorem dX9_send_10 : decode cX9_send 10 = .ok (.iconst 4, 1) := by decide +kernel
theorem dX9_send_11 : decode cX9_send 11 = .ok (.invokestatic 49, 3) := by decide +kernel
theorem dX9_send_14 : decode cX9_send 14 = .ok (.ifCond .eq 7, 3) := by decide +kernel
theorem dX9_send_17 : decode cX9_send 17 = .ok (.iconst 0, 1) := by decide +kernel
theorem dX9_send_18 : decode cX9_send 18 = .ok (.goto 4, 3) := by decide +kernel
theorem dX9_send_21 : decode cX9_send 21 = .ok (.iconst (-1), 1) := by decide +kernel
theorem dX9_send_22 : decode cX9_send 22 = .ok (.invokestatic 58, 3) := by decide +kernel
theorem dX9_send_25 : decode cX9_send 25 = .ok (.istore 4, 2) := by decide +kernel
theorem dX9_send_27 : decode cX9_send 27 = .ok (.iload 4, 2) := by decide +kernel
theorem dX9_send_29 : decode cX9_send 29 = .ok (.iload_n 3, 1) := by decide +kernel
theorem dX9_send_30 : decode cX9_send 30 = .ok (.iconst (-1), 1) := by decide +kernel
theorem dX9_send_31 : decode cX9_send 31 = .ok (.sipush 999, 3) := by decide +kernel
theorem dX9_send_34 : decode cX9_send 34 = .ok (.invokestatic 54, 3) := by decide +kernel
theorem dX9_send_37 : decode cX9_send 37 = .ok (.invokestatic 58, 3) := by decide +kernel
theorem dX9_send_40 : decode cX9_send 40 = .ok (.istore 4, 2) := by decide +kernel
theorem dX9_send_42 : decode cX9_send 42 = .ok (.iload 4, 2) := by decide +kernel
theorem dX9_send_44 : decode cX9_send 44 = .ok (.ifCond .eq 12, 3) := by decide +kernel
theorem dX9_send_47 : decode cX9_send 47 = .ok (.aload_n 0, 1) := by decide +kernel
theorem dX9_send_48 : decode cX9_send 48 = .ok (.iload 4, 2) := by decide +kernel
theorem dX9_send_50 : decode cX9_send 50 = .ok (.invokevirtual 62, 3) := by decide +kernel
theorem dX9_send_53 : decode cX9_send 53 = .ok (.goto 25, 3) := by decide +kernel
theorem dX9_send_56 : decode cX9_send 56 = .ok (.aload_n 0, 1) := by decide +kernel
theorem dX9_send_57 : decode cX9_send 57 = .ok (.getfield 10, 3) := by decide +kernel
theorem dX9_send_60 : decode cX9_send 60 = .ok (.getfield 126, 3) := by decide +kernel
theorem dX9_send_63 : decode cX9_send 63 = .ok (.iload_n 1, 1) := by decide +kernel
theorem dX9_send_64 : decode cX9_send 64 = .ok (.iload_n 2, 1) := by decide +kernel
theorem dX9_send_65 : decode cX9_send 65 = .ok (.iload_n 3, 1) := by decide +kernel
theorem dX9_send_66 : decode cX9_send 66 = .ok (.ifCond .ge 8, 3) := by decide +kernel
theorem dX9_send_69 : decode cX9_send 69 = .ok (.bipush (-9), 2) := by decide +kernel
theorem dX9_send_71 : decode cX9_send 71 = .ok (.goto 4, 3) := by decide +kernel
theorem dX9_send_74 : decode cX9_send 74 = .ok (.iload_n 3, 1) := by decide +kernel
theorem dX9_send_75 : decode cX9_send 75 = .ok (.invokevirtual 261, 3) := by decide +kernel
theorem dX9_send_78 : decode cX9_send 78 = .ok (.ireturn, 1) := by decide +kernel
theorem dX9_has_0 : decode cX9_has 0 = .ok (.iload_n 1, 1) := by decide +kernel
theorem dX9_has_1 : decode cX9_has 1 = .ok (.iconst 4, 1) := by decide +kernel
theorem dX9_has_2 : decode cX9_has 2 = .ok (.invokestatic 49, 3) := by decide +kernel
theorem dX9_has_5 : decode cX9_has 5 = .ok (.ifCond .eq 7, 3) := by decide +kernel
theorem dX9_has_8 : decode cX9_has 8 = .ok (.iconst 0, 1) := by decide +kernel
theorem dX9_has_9 : decode cX9_has 9 = .ok (.goto 4, 3) := by decide +kernel
theorem dX9_has_12 : decode cX9_has 12 = .ok (.iconst (-1), 1) := by decide +kernel
theorem dX9_has_13 : decode cX9_has 13 = .ok (.istore_n 3, 1) := by decide +kernel
theorem dX9_has_14 : decode cX9_has 14 = .ok (.iload_n 3, 1) := by decide +kernel
theorem dX9_has_15 : decode cX9_has 15 = .ok (.iload_n 2, 1) := by decide +kernel
theorem dX9_has_16 : decode cX9_has 16 = .ok (.iconst 0, 1) := by decide +kernel
theorem dX9_has_17 : decode cX9_has 17 = .ok (.sipush 999, 3) := by decide +kernel
theorem dX9_has_20 : decode cX9_has 20 = .ok (.invokestatic 54, 3) := by decide +kernel
theorem dX9_has_23 : decode cX9_has 23 = .ok (.invokestatic 58, 3) := by decide +kernel
theorem dX9_has_26 : decode cX9_has 26 = .ok (.istore_n 3, 1) := by decide +kernel
theorem dX9_has_27 : decode cX9_has 27 = .ok (.iload_n 3, 1) := by decide +kernel
theorem dX9_has_28 : decode cX9_has 28 = .ok (.ifCond .eq 11, 3) := by decide +kernel
theorem dX9_has_31 : decode cX9_has 31 = .ok (.aload_n 0, 1) := by decide +kernel
theorem dX9_has_32 : decode cX9_has 32 = .ok (.iload_n 3, 1) := by decide +kernel
theorem dX9_has_33 : decode cX9_has 33 = .ok (.invokevirtual 91, 3) := by decide +kernel
theorem dX9_has_36 : decode cX9_has 36 = .ok (.goto 15, 3) := by decide +kernel
theorem dX9_has_39 : decode cX9_has 39 = .ok (.aload_n 0, 1) := by decide +kernel
theorem dX9_has_40 : decode cX9_has 40 = .ok (.getfield 10, 3) := by decide +kernel
theorem dX9_has_43 : decode cX9_has 43 = .ok (.getfield 126, 3) := by decide +kernel
theorem dX9_has_46 : decode cX9_has 46 = .ok (.iload_n 1, 1) := by decide +kernel
theorem dX9_has_47 : decode cX9_has 47 = .ok (.iload_n 2, 1) := by decide +kernel
theorem dX9_has_48 : decode cX9_has 48 = .ok (.invokevirtual 264, 3) := by decide +kernel
theorem dX9_has_51 : decode cX9_has 51 = .ok (.lreturn, 1) := by decide +kernel
theorem dX9_believes_0 : decode cX9_believes 0 = .ok (.aload_n 0, 1) := by decide +kernel
theorem dX9_believes_1 : decode cX9_believes 1 = .ok (.iload_n 1, 1) := by decide +kernel
theorem dX9_believes_2 : decode cX9_believes 2 = .ok (.iload_n 2, 1) := by decide +kernel
theorem dX9_believes_3 : decode cX9_believes 3 = .ok (.iload_n 3, 1) := by decide +kernel
theorem dX9_believes_4 : decode cX9_believes 4 = .ok (.invokevirtual 267, 3) := by decide +kernel
theorem dX9_believes_7 : decode cX9_believes 7 = .ok (.istore 4, 2) := by decide +kernel
theorem dX9_believes_9 : decode cX9_believes 9 = .ok (.iload 4, 2) := by decide +kernel
theorem dX9_believes_11 : decode cX9_believes 11 = .ok (.ifCond .eq 10, 3) := by decide +kernel
theorem dX9_believes_14 : decode cX9_believes 14 = .ok (.aload_n 0, 1) := by decide +kernel
theorem dX9_believes_15 : decode cX9_believes 15 = .ok (.iload 4, 2) := by decide +kernel
theorem dX9_believes_17 : decode cX9_believes 17 = .ok (.invokevirtual 62, 3) := by decide +kernel
theorem dX9_believes_20 : decode cX9_believes 20 = .ok (.ireturn, 1) := by decide +kernel
theorem dX9_believes_21 : decode cX9_believes 21 = .ok (.aload_n 0, 1) := by decide +kernel
theorem dX9_believes_22 : decode cX9_believes 22 = .ok (.getfield 38, 3) := by decide +kernel
theorem dX9_believes_25 : decode cX9_believes 25 = .ok (.iload_n 3, 1) := by decide +kernel
theorem dX9_believes_26 : decode cX9_believes 26 = .ok (.aload_n 0, 1) := by decide +kernel
theorem dX9_believes_27 : decode cX9_believes 27 = .ok (.getfield 10, 3) := by decide +kernel
theorem dX9_believes_30 : decode cX9_believes 30 = .ok (.getfield 126, 3) := by decide +kernel
theorem dX9_believes_33 : decode cX9_believes 33 = .ok (.iload_n 1, 1) := by decide +kernel
theorem dX9_believes_34 : decode cX9_believes 34 = .ok (.iload_n 2, 1) := by decide +kernel
theorem dX9_believes_35 : decode cX9_believes 35 = .ok (.invokevirtual 264, 3) := by decide +kernel
theorem dX9_believes_38 : decode cX9_believes 38 = .ok (.invokevirtual 230, 3) := by decide +kernel
theorem dX9_believes_41 : decode cX9_believes 41 = .ok (.aload_n 0, 1) := by decide +kernel
theorem dX9_believes_42 : decode cX9_believes 42 = .ok (.getfield 38, 3) := by decide +kernel
theorem dX9_believes_45 : decode cX9_believes 45 = .ok (.invokevirtual 234, 3) := by decide +kernel
theorem dX9_believes_48 : decode cX9_believes 48 = .ok (.ireturn, 1) := by decide +kernel
theorem dX9_turn_0 : decode cX9_turn 0 = .ok (.aload_n 0, 1) := by decide +kernel
theorem dX9_turn_1 : decode cX9_turn 1 = .ok (.iload_n 1, 1) := by decide +kernel
theorem dX9_turn_2 : decode cX9_turn 2 = .ok (.iload_n 2, 1) := by decide +kernel
theorem dX9_turn_3 : decode cX9_turn 3 = .ok (.iload_n 3, 1) := by decide +kernel
theorem dX9_turn_4 : decode cX9_turn 4 = .ok (.invokevirtual 267, 3) := by decide +kernel
theorem dX9_turn_7 : decode cX9_turn 7 = .ok (.istore 4, 2) := by decide +kernel
theorem dX9_turn_9 : decode cX9_turn 9 = .ok (.iload 4, 2) := by decide +kernel
theorem dX9_turn_11 : decode cX9_turn 11 = .ok (.ifCond .eq 10, 3) := by decide +kernel
theorem dX9_turn_14 : decode cX9_turn 14 = .ok (.aload_n 0, 1) := by decide +kernel
theorem dX9_turn_15 : decode cX9_turn 15 = .ok (.iload 4, 2) := by decide +kernel
theorem dX9_turn_17 : decode cX9_turn 17 = .ok (.invokevirtual 91, 3) := by decide +kernel
theorem dX9_turn_20 : decode cX9_turn 20 = .ok (.lreturn, 1) := by decide +kernel
theorem dX9_turn_21 : decode cX9_turn 21 = .ok (.aload_n 0, 1) := by decide +kernel
theorem dX9_turn_22 : decode cX9_turn 22 = .ok (.getfield 10, 3) := by decide +kernel
theorem dX9_turn_25 : decode cX9_turn 25 = .ok (.getfield 126, 3) := by decide +kernel
theorem dX9_turn_28 : decode cX9_turn 28 = .ok (.iload_n 1, 1) := by decide +kernel
theorem dX9_turn_29 : decode cX9_turn 29 = .ok (.iload_n 2, 1) := by decide +kernel
theorem dX9_turn_30 : decode cX9_turn 30 = .ok (.invokevirtual 264, 3) := by decide +kernel
theorem dX9_turn_33 : decode cX9_turn 33 = .ok (.lstore 5, 2) := by decide +kernel
theorem dX9_turn_35 : decode cX9_turn 35 = .ok (.aload_n 0, 1) := by decide +kernel
theorem dX9_turn_36 : decode cX9_turn 36 = .ok (.getfield 38, 3) := by decide +kernel
theorem dX9_turn_39 : decode cX9_turn 39 = .ok (.iload_n 3, 1) := by decide +kernel
theorem dX9_turn_40 : decode cX9_turn 40 = .ok (.lload 5, 2) := by decide +kernel
theorem dX9_turn_42 : decode cX9_turn 42 = .ok (.invokevirtual 230, 3) := by decide +kernel
theorem dX9_turn_45 : decode cX9_turn 45 = .ok (.aload_n 0, 1) := by decide +kernel
theorem dX9_turn_46 : decode cX9_turn 46 = .ok (.getfield 38, 3) := by decide +kernel
theorem dX9_turn_49 : decode cX9_turn 49 = .ok (.iload_n 3, 1) := by decide +kernel
theorem dX9_turn_50 : decode cX9_turn 50 = .ok (.lload 5, 2) := by decide +kernel
theorem dX9_turn_52 : decode cX9_turn 52 = .ok (.invokevirtual 270, 3) := by decide +kernel
theorem dX9_turn_55 : decode cX9_turn 55 = .ok (.lreturn, 1) := by decide +kernel
theorem dX9_watch_0 : decode cX9_watch 0 = .ok (.aload_n 0, 1) := by decide +kernel
theorem dX9_watch_1 : decode cX9_watch 1 = .ok (.iload_n 1, 1) := by decide +kernel
theorem dX9_watch_2 : decode cX9_watch 2 = .ok (.invokevirtual 76, 3) := by decide +kernel
theorem dX9_watch_5 : decode cX9_watch 5 = .ok (.istore 5, 2) := by decide +kernel
theorem dX9_watch_7 : decode cX9_watch 7 = .ok (.iload 5, 2) := by decide +kernel
theorem dX9_watch_9 : decode cX9_watch 9 = .ok (.iload 4, 2) := by decide +kernel
theorem dX9_watch_11 : decode cX9_watch 11 = .ok (.iconst 1, 1) := by decide +kernel
theorem dX9_watch_12 : decode cX9_watch 12 = .ok (.if_icmp .lt 11, 3) := by decide +kernel
theorem dX9_watch_15 : decode cX9_watch 15 = .ok (.iload_n 2, 1) := by decide +kernel
theorem dX9_watch_16 : decode cX9_watch 16 = .ok (.ifCond .lt 7, 3) := by decide +kernel
theorem dX9_watch_19 : decode cX9_watch 19 = .ok (.iload_n 3, 1) := by decide +kernel
theorem dX9_watch_20 : decode cX9_watch 20 = .ok (.ifCond .ge 8, 3) := by decide +kernel
theorem dX9_watch_23 : decode cX9_watch 23 = .ok (.bipush (-4), 2) := by decide +kernel
theorem dX9_watch_25 : decode cX9_watch 25 = .ok (.goto 4, 3) := by decide +kernel
theorem dX9_watch_28 : decode cX9_watch 28 = .ok (.iconst 0, 1) := by decide +kernel
theorem dX9_watch_29 : decode cX9_watch 29 = .ok (.invokestatic 58, 3) := by decide +kernel
theorem dX9_watch_32 : decode cX9_watch 32 = .ok (.istore 5, 2) := by decide +kernel
theorem dX9_watch_34 : decode cX9_watch 34 = .ok (.iload 5, 2) := by decide +kernel
theorem dX9_watch_36 : decode cX9_watch 36 = .ok (.iload 4, 2) := by decide +kernel
theorem dX9_watch_38 : decode cX9_watch 38 = .ok (.iconst 4, 1) := by decide +kernel
theorem dX9_watch_39 : decode cX9_watch 39 = .ok (.if_icmp .gt 17, 3) := by decide +kernel
theorem dX9_watch_42 : decode cX9_watch 42 = .ok (.iload_n 2, 1) := by decide +kernel
theorem dX9_watch_43 : decode cX9_watch 43 = .ok (.sipush 999, 3) := by decide +kernel
theorem dX9_watch_46 : decode cX9_watch 46 = .ok (.if_icmp .gt 10, 3) := by decide +kernel
theorem dX9_watch_49 : decode cX9_watch 49 = .ok (.iload_n 3, 1) := by decide +kernel
theorem dX9_watch_50 : decode cX9_watch 50 = .ok (.sipush 999, 3) := by decide +kernel
theorem dX9_watch_53 : decode cX9_watch 53 = .ok (.if_icmp .le 8, 3) := by decide +kernel
theorem dX9_watch_56 : decode cX9_watch 56 = .ok (.bipush (-6), 2) := by decide +kernel
theorem dX9_watch_58 : decode cX9_watch 58 = .ok (.goto 4, 3) := by decide +kernel
theorem dX9_watch_61 : decode cX9_watch 61 = .ok (.iconst 0, 1) := by decide +kernel
theorem dX9_watch_62 : decode cX9_watch 62 = .ok (.invokestatic 58, 3) := by decide +kernel
theorem dX9_watch_65 : decode cX9_watch 65 = .ok (.istore 5, 2) := by decide +kernel
theorem dX9_watch_67 : decode cX9_watch 67 = .ok (.iload 5, 2) := by decide +kernel
theorem dX9_watch_69 : decode cX9_watch 69 = .ok (.iload 5, 2) := by decide +kernel
theorem dX9_watch_71 : decode cX9_watch 71 = .ok (.ifCond .ne 16, 3) := by decide +kernel
theorem dX9_watch_74 : decode cX9_watch 74 = .ok (.iload_n 3, 1) := by decide +kernel
theorem dX9_watch_75 : decode cX9_watch 75 = .ok (.iload_n 2, 1) := by decide +kernel
theorem dX9_watch_76 : decode cX9_watch 76 = .ok (.isub, 1) := by decide +kernel
theorem dX9_watch_77 : decode cX9_watch 77 = .ok (.bipush 12, 2) := by decide +kernel
theorem dX9_watch_79 : decode cX9_watch 79 = .ok (.if_icmp .lt 8, 3) := by decide +kernel
theorem dX9_watch_82 : decode cX9_watch 82 = .ok (.bipush (-6), 2) := by decide +kernel
theorem dX9_watch_84 : decode cX9_watch 84 = .ok (.goto 4, 3) := by decide +kernel
theorem dX9_watch_87 : decode cX9_watch 87 = .ok (.iconst 0, 1) := by decide +kernel
theorem dX9_watch_88 : decode cX9_watch 88 = .ok (.invokestatic 58, 3) := by decide +kernel
theorem dX9_watch_91 : decode cX9_watch 91 = .ok (.istore 5, 2) := by decide +kernel
theorem dX9_watch_93 : decode cX9_watch 93 = .ok (.iload 5, 2) := by decide +kernel
theorem dX9_watch_95 : decode cX9_watch 95 = .ok (.iload 5, 2) := by decide +kernel
theorem dX9_watch_97 : decode cX9_watch 97 = .ok (.ifCond .ne 18, 3) := by decide +kernel
theorem dX9_watch_100 : decode cX9_watch 100 = .ok (.iload_n 3, 1) := by decide +kernel
theorem dX9_watch_101 : decode cX9_watch 101 = .ok (.iload_n 2, 1) := by decide +kernel
theorem dX9_watch_102 : decode cX9_watch 102 = .ok (.isub, 1) := by decide +kernel
theorem dX9_watch_103 : decode cX9_watch 103 = .ok (.iconst 1, 1) := by decide +kernel
theorem dX9_watch_104 : decode cX9_watch 104 = .ok (.iadd, 1) := by decide +kernel
theorem dX9_watch_105 : decode cX9_watch 105 = .ok (.iload 4, 2) := by decide +kernel
theorem dX9_watch_107 : decode cX9_watch 107 = .ok (.if_icmp .ge 8, 3) := by decide +kernel
theorem dX9_watch_110 : decode cX9_watch 110 = .ok (.bipush (-3), 2) := by decide +kernel
theorem dX9_watch_112 : decode cX9_watch 112 = .ok (.goto 4, 3) := by decide +kernel
theorem dX9_watch_115 : decode cX9_watch 115 = .ok (.iconst 0, 1) := by decide +kernel
theorem dX9_watch_116 : decode cX9_watch 116 = .ok (.invokestatic 58, 3) := by decide +kernel
theorem dX9_watch_119 : decode cX9_watch 119 = .ok (.istore 5, 2) := by decide +kernel
theorem dX9_watch_121 : decode cX9_watch 121 = .ok (.iload 5, 2) := by decide +kernel
theorem dX9_watch_123 : decode cX9_watch 123 = .ok (.ifCond .eq 10, 3) := by decide +kernel
theorem dX9_watch_126 : decode cX9_watch 126 = .ok (.aload_n 0, 1) := by decide +kernel
theorem dX9_watch_127 : decode cX9_watch 127 = .ok (.iload 5, 2) := by decide +kernel
theorem dX9_watch_129 : decode cX9_watch 129 = .ok (.invokevirtual 62, 3) := by decide +kernel
theorem dX9_watch_132 : decode cX9_watch 132 = .ok (.ireturn, 1) := by decide +kernel
theorem dX9_watch_133 : decode cX9_watch 133 = .ok (.iload_n 3, 1) := by decide +kernel
theorem dX9_watch_134 : decode cX9_watch 134 = .ok (.iload_n 2, 1) := by decide +kernel
theorem dX9_watch_135 : decode cX9_watch 135 = .ok (.isub, 1) := by decide +kernel
theorem dX9_watch_136 : decode cX9_watch 136 = .ok (.iconst 1, 1) := by decide +kernel
theorem dX9_watch_137 : decode cX9_watch 137 = .ok (.iadd, 1) := by decide +kernel
theorem dX9_watch_138 : decode cX9_watch 138 = .ok (.istore 6, 2) := by decide +kernel
theorem dX9_watch_140 : decode cX9_watch 140 = .ok (.iconst 0, 1) := by decide +kernel
theorem dX9_watch_141 : decode cX9_watch 141 = .ok (.istore 7, 2) := by decide +kernel
theorem dX9_watch_143 : decode cX9_watch 143 = .ok (.iload 7, 2) := by decide +kernel
theorem dX9_watch_145 : decode cX9_watch 145 = .ok (.aload_n 0, 1) := by decide +kernel
theorem dX9_watch_146 : decode cX9_watch 146 = .ok (.getfield 10, 3) := by decide +kernel
theorem dX9_watch_149 : decode cX9_watch 149 = .ok (.getfield 164, 3) := by decide +kernel
theorem dX9_watch_152 : decode cX9_watch 152 = .ok (.getfield 168, 3) := by decide +kernel
theorem dX9_watch_155 : decode cX9_watch 155 = .ok (.if_icmp .ge 40, 3) := by decide +kernel
theorem dX9_watch_158 : decode cX9_watch 158 = .ok (.aload_n 0, 1) := by decide +kernel
theorem dX9_watch_159 : decode cX9_watch 159 = .ok (.getfield 45, 3) := by decide +kernel
theorem dX9_watch_162 : decode cX9_watch 162 = .ok (.iload 7, 2) := by decide +kernel
theorem dX9_watch_164 : decode cX9_watch 164 = .ok (.iload_n 1, 1) := by decide +kernel
theorem dX9_watch_165 : decode cX9_watch 165 = .ok (.iload_n 2, 1) := by decide +kernel
theorem dX9_watch_166 : decode cX9_watch 166 = .ok (.iload 6, 2) := by decide +kernel
theorem dX9_watch_168 : decode cX9_watch 168 = .ok (.aload_n 0, 1) := by decide +kernel
theorem dX9_watch_169 : decode cX9_watch 169 = .ok (.getfield 38, 3) := by decide +kernel
theorem dX9_watch_172 : decode cX9_watch 172 = .ok (.iload 7, 2) := by decide +kernel
theorem dX9_watch_174 : decode cX9_watch 174 = .ok (.iconst (-1), 1) := by decide +kernel
theorem dX9_watch_175 : decode cX9_watch 175 = .ok (.iload_n 1, 1) := by decide +kernel
theorem dX9_watch_176 : decode cX9_watch 176 = .ok (.aload_n 0, 1) := by decide +kernel
theorem dX9_watch_177 : decode cX9_watch 177 = .ok (.invokevirtual 243, 3) := by decide +kernel
theorem dX9_watch_180 : decode cX9_watch 180 = .ok (.invokevirtual 200, 3) := by decide +kernel
theorem dX9_watch_183 : decode cX9_watch 183 = .ok (.invokevirtual 204, 3) := by decide +kernel
theorem dX9_watch_186 : decode cX9_watch 186 = .ok (.invokevirtual 274, 3) := by decide +kernel
theorem dX9_watch_189 : decode cX9_watch 189 = .ok (.iinc 7 1, 3) := by decide +kernel
theorem dX9_watch_192 : decode cX9_watch 192 = .ok (.goto (-49), 3) := by decide +kernel
theorem dX9_watch_195 : decode cX9_watch 195 = .ok (.aload_n 0, 1) := by decide +kernel
theorem dX9_watch_196 : decode cX9_watch 196 = .ok (.getfield 45, 3) := by decide +kernel
theorem dX9_watch_199 : decode cX9_watch 199 = .ok (.iload 6, 2) := by decide +kernel
theorem dX9_watch_201 : decode cX9_watch 201 = .ok (.invokevirtual 278, 3) := by decide +kernel
theorem dX9_watch_204 : decode cX9_watch 204 = .ok (.aload_n 0, 1) := by decide +kernel
theorem dX9_watch_205 : decode cX9_watch 205 = .ok (.getfield 45, 3) := by decide +kernel
theorem dX9_watch_208 : decode cX9_watch 208 = .ok (.iload 6, 2) := by decide +kernel
theorem dX9_watch_210 : decode cX9_watch 210 = .ok (.iload 4, 2) := by decide +kernel
theorem dX9_watch_212 : decode cX9_watch 212 = .ok (.invokevirtual 281, 3) := by decide +kernel
theorem dX9_watch_215 : decode cX9_watch 215 = .ok (.ireturn, 1) := by decide +kernel
theorem dX9_image_0 : decode cX9_image 0 = .ok (.aload_n 0, 1) := by decide +kernel
theorem dX9_image_1 : decode cX9_image 1 = .ok (.getfield 16, 3) := by decide +kernel
theorem dX9_image_4 : decode cX9_image 4 = .ok (.aload_n 0, 1) := by decide +kernel
theorem dX9_image_5 : decode cX9_image 5 = .ok (.getfield 10, 3) := by decide +kernel
theorem dX9_image_8 : decode cX9_image 8 = .ok (.invokevirtual 284, 3) := by decide +kernel
theorem dX9_image_11 : decode cX9_image 11 = .ok (.aload_n 0, 1) := by decide +kernel
theorem dX9_image_12 : decode cX9_image 12 = .ok (.iconst 1, 1) := by decide +kernel
theorem dX9_image_13 : decode cX9_image 13 = .ok (.putfield 287, 3) := by decide +kernel
theorem dX9_image_16 : decode cX9_image 16 = .ok (.aload_n 0, 1) := by decide +kernel
theorem dX9_image_17 : decode cX9_image 17 = .ok (.getfield 10, 3) := by decide +kernel
theorem dX9_image_20 : decode cX9_image 20 = .ok (.getfield 126, 3) := by decide +kernel
theorem dX9_image_23 : decode cX9_image 23 = .ok (.getfield 130, 3) := by decide +kernel
theorem dX9_image_26 : decode cX9_image 26 = .ok (.ireturn, 1) := by decide +kernel
theorem dX9_restore_0 : decode cX9_restore 0 = .ok (.aload_n 0, 1) := by decide +kernel
theorem dX9_restore_1 : decode cX9_restore 1 = .ok (.getfield 287, 3) := by decide +kernel
theorem dX9_restore_4 : decode cX9_restore 4 = .ok (.ifCond .ne 10, 3) := by decide +kernel
theorem dX9_restore_7 : decode cX9_restore 7 = .ok (.aload_n 0, 1) := by decide +kernel
theorem dX9_restore_8 : decode cX9_restore 8 = .ok (.bipush (-3), 2) := by decide +kernel
theorem dX9_restore_10 : decode cX9_restore 10 = .ok (.invokevirtual 62, 3) := by decide +kernel
theorem dX9_restore_13 : decode cX9_restore 13 = .ok (.ireturn, 1) := by decide +kernel
theorem dX9_restore_14 : decode cX9_restore 14 = .ok (.aload_n 0, 1) := by decide +kernel
theorem dX9_restore_15 : decode cX9_restore 15 = .ok (.getfield 10, 3) := by decide +kernel
theorem dX9_restore_18 : decode cX9_restore 18 = .ok (.aload_n 0, 1) := by decide +kernel
theorem dX9_restore_19 : decode cX9_restore 19 = .ok (.getfield 16, 3) := by decide +kernel
theorem dX9_restore_22 : decode cX9_restore 22 = .ok (.invokevirtual 284, 3) := by decide +kernel
theorem dX9_restore_25 : decode cX9_restore 25 = .ok (.aload_n 0, 1) := by decide +kernel
theorem dX9_restore_26 : decode cX9_restore 26 = .ok (.getfield 10, 3) := by decide +kernel
theorem dX9_restore_29 : decode cX9_restore 29 = .ok (.getfield 126, 3) := by decide +kernel
theorem dX9_restore_32 : decode cX9_restore 32 = .ok (.getfield 130, 3) := by decide +kernel
theorem dX9_restore_35 : decode cX9_restore 35 = .ok (.ireturn, 1) := by decide +kernel
theorem dX9_count_0 : decode cX9_count 0 = .ok (.iload_n 1, 1) := by decide +kernel
theorem dX9_count_1 : decode cX9_count 1 = .ok (.tableswitch 111 0 6 #[43, 54, 65, 76, 87, 92, 100], 43) := by decide +kernel
theorem dX9_count_44 : decode cX9_count 44 = .ok (.aload_n 0, 1) := by decide +kernel
theorem dX9_count_45 : decode cX9_count 45 = .ok (.getfield 10, 3) := by decide +kernel
theorem dX9_count_48 : decode cX9_count 48 = .ok (.getfield 66, 3) := by decide +kernel
theorem dX9_count_51 : decode cX9_count 51 = .ok (.invokevirtual 291, 3) := by decide +kernel
theorem dX9_count_54 : decode cX9_count 54 = .ok (.ireturn, 1) := by decide +kernel
theorem dX9_count_55 : decode cX9_count 55 = .ok (.aload_n 0, 1) := by decide +kernel
theorem dX9_count_56 : decode cX9_count 56 = .ok (.getfield 10, 3) := by decide +kernel
theorem dX9_count_59 : decode cX9_count 59 = .ok (.getfield 126, 3) := by decide +kernel
theorem dX9_count_62 : decode cX9_count 62 = .ok (.getfield 130, 3) := by decide +kernel
theorem dX9_count_65 : decode cX9_count 65 = .ok (.ireturn, 1) := by decide +kernel
theorem dX9_count_66 : decode cX9_count 66 = .ok (.aload_n 0, 1) := by decide +kernel
theorem dX9_count_67 : decode cX9_count 67 = .ok (.getfield 10, 3) := by decide +kernel
theorem dX9_count_70 : decode cX9_count 70 = .ok (.getfield 126, 3) := by decide +kernel
theorem dX9_count_73 : decode cX9_count 73 = .ok (.invokevirtual 293, 3) := by decide +kernel
theorem dX9_count_76 : decode cX9_count 76 = .ok (.ireturn, 1) := by decide +kernel
theorem dX9_count_77 : decode cX9_count 77 = .ok (.aload_n 0, 1) := by decide +kernel
theorem dX9_count_78 : decode cX9_count 78 = .ok (.getfield 10, 3) := by decide +kernel
theorem dX9_count_81 : decode cX9_count 81 = .ok (.getfield 164, 3) := by decide +kernel
theorem dX9_count_84 : decode cX9_count 84 = .ok (.getfield 168, 3) := by decide +kernel
theorem dX9_count_87 : decode cX9_count 87 = .ok (.ireturn, 1) := by decide +kernel
theorem dX9_count_88 : decode cX9_count 88 = .ok (.aload_n 0, 1) := by decide +kernel
theorem dX9_count_89 : decode cX9_count 89 = .ok (.getfield 149, 3) := by decide +kernel
theorem dX9_count_92 : decode cX9_count 92 = .ok (.ireturn, 1) := by decide +kernel
theorem dX9_count_93 : decode cX9_count 93 = .ok (.aload_n 0, 1) := by decide +kernel
theorem dX9_count_94 : decode cX9_count 94 = .ok (.getfield 22, 3) := by decide +kernel
theorem dX9_count_97 : decode cX9_count 97 = .ok (.getfield 160, 3) := by decide +kernel
theorem dX9_count_100 : decode cX9_count 100 = .ok (.ireturn, 1) := by decide +kernel
theorem dX9_count_101 : decode cX9_count 101 = .ok (.aload_n 0, 1) := by decide +kernel
theorem dX9_count_102 : decode cX9_count 102 = .ok (.getfield 10, 3) := by decide +kernel
theorem dX9_count_105 : decode cX9_count 105 = .ok (.getfield 126, 3) := by decide +kernel
theorem dX9_count_108 : decode cX9_count 108 = .ok (.invokevirtual 296, 3) := by decide +kernel
theorem dX9_count_111 : decode cX9_count 111 = .ok (.ireturn, 1) := by decide +kernel
theorem dX9_count_112 : decode cX9_count 112 = .ok (.iload_n 1, 1) := by decide +kernel
theorem dX9_count_113 : decode cX9_count 113 = .ok (.bipush 11, 2) := by decide +kernel
theorem dX9_count_115 : decode cX9_count 115 = .ok (.if_icmp .lt 21, 3) := by decide +kernel
theorem dX9_count_118 : decode cX9_count 118 = .ok (.iload_n 1, 1) := by decide +kernel
theorem dX9_count_119 : decode cX9_count 119 = .ok (.bipush 16, 2) := by decide +kernel
theorem dX9_count_121 : decode cX9_count 121 = .ok (.if_icmp .gt 15, 3) := by decide +kernel
theorem dX9_count_124 : decode cX9_count 124 = .ok (.aload_n 0, 1) := by decide +kernel
theorem dX9_count_125 : decode cX9_count 125 = .ok (.getfield 30, 3) := by decide +kernel
theorem dX9_count_128 : decode cX9_count 128 = .ok (.iload_n 1, 1) := by decide +kernel
theorem dX9_count_129 : decode cX9_count 129 = .ok (.bipush 11, 2) := by decide +kernel
theorem dX9_count_131 : decode cX9_count 131 = .ok (.isub, 1) := by decide +kernel
theorem dX9_count_132 : decode cX9_count 132 = .ok (.iaload, 1) := by decide +kernel
theorem dX9_count_133 : decode cX9_count 133 = .ok (.goto 5, 3) := by decide +kernel
theorem dX9_count_136 : decode cX9_count 136 = .ok (.bipush (-9), 2) := by decide +kernel
theorem dX9_count_138 : decode cX9_count 138 = .ok (.ireturn, 1) := by decide +kernel
theorem dX9_refuse_0 : decode cX9_refuse 0 = .ok (.iconst (-1), 1) := by decide +kernel
theorem dX9_refuse_1 : decode cX9_refuse 1 = .ok (.iload_n 1, 1) := by decide +kernel
theorem dX9_refuse_2 : decode cX9_refuse 2 = .ok (.isub, 1) := by decide +kernel
theorem dX9_refuse_3 : decode cX9_refuse 3 = .ok (.istore_n 2, 1) := by decide +kernel
theorem dX9_refuse_4 : decode cX9_refuse 4 = .ok (.iload_n 2, 1) := by decide +kernel
theorem dX9_refuse_5 : decode cX9_refuse 5 = .ok (.bipush 6, 2) := by decide +kernel
theorem dX9_refuse_7 : decode cX9_refuse 7 = .ok (.invokestatic 49, 3) := by decide +kernel
theorem dX9_refuse_10 : decode cX9_refuse 10 = .ok (.ifCond .eq 13, 3) := by decide +kernel
theorem dX9_refuse_13 : decode cX9_refuse 13 = .ok (.aload_n 0, 1) := by decide +kernel
theorem dX9_refuse_14 : decode cX9_refuse 14 = .ok (.getfield 30, 3) := by decide +kernel
theorem dX9_refuse_17 : decode cX9_refuse 17 = .ok (.iload_n 2, 1) := by decide +kernel
theorem dX9_refuse_18 : decode cX9_refuse 18 = .ok (.dup2, 1) := by decide +kernel
theorem dX9_refuse_19 : decode cX9_refuse 19 = .ok (.iaload, 1) := by decide +kernel
theorem dX9_refuse_20 : decode cX9_refuse 20 = .ok (.iconst 1, 1) := by decide +kernel
theorem dX9_refuse_21 : decode cX9_refuse 21 = .ok (.iadd, 1) := by decide +kernel
theorem dX9_refuse_22 : decode cX9_refuse 22 = .ok (.iastore, 1) := by decide +kernel
theorem dX9_refuse_23 : decode cX9_refuse 23 = .ok (.iload_n 1, 1) := by decide +kernel
theorem dX9_refuse_24 : decode cX9_refuse 24 = .ok (.ireturn, 1) := by decide +kernel
theorem dX9_refuseLong_0 : decode cX9_refuseLong 0 = .ok (.ldc2_w 299, 3) := by decide +kernel
theorem dX9_refuseLong_3 : decode cX9_refuseLong 3 = .ok (.aload_n 0, 1) := by decide +kernel
theorem dX9_refuseLong_4 : decode cX9_refuseLong 4 = .ok (.iload_n 1, 1) := by decide +kernel
theorem dX9_refuseLong_5 : decode cX9_refuseLong 5 = .ok (.invokevirtual 62, 3) := by decide +kernel
theorem dX9_refuseLong_8 : decode cX9_refuseLong 8 = .ok (.i2l, 1) := by decide +kernel
theorem dX9_refuseLong_9 : decode cX9_refuseLong 9 = .ok (.ladd, 1) := by decide +kernel
theorem dX9_refuseLong_10 : decode cX9_refuseLong 10 = .ok (.lreturn, 1) := by decide +kernel
theorem dX9_noMoon_0 : decode cX9_noMoon 0 = .ok (.iload_n 1, 1) := by decide +kernel
theorem dX9_noMoon_1 : decode cX9_noMoon 1 = .ok (.iconst 4, 1) := by decide +kernel
theorem dX9_noMoon_2 : decode cX9_noMoon 2 = .ok (.invokestatic 49, 3) := by decide +kernel
theorem dX9_noMoon_5 : decode cX9_noMoon 5 = .ok (.ifCond .eq 22, 3) := by decide +kernel
theorem dX9_noMoon_8 : decode cX9_noMoon 8 = .ok (.aload_n 0, 1) := by decide +kernel
theorem dX9_noMoon_9 : decode cX9_noMoon 9 = .ok (.getfield 10, 3) := by decide +kernel
theorem dX9_noMoon_12 : decode cX9_noMoon 12 = .ok (.getfield 66, 3) := by decide +kernel
theorem dX9_noMoon_15 : decode cX9_noMoon 15 = .ok (.getfield 301, 3) := by decide +kernel
theorem dX9_noMoon_18 : decode cX9_noMoon 18 = .ok (.iload_n 1, 1) := by decide +kernel
theorem dX9_noMoon_19 : decode cX9_noMoon 19 = .ok (.baload, 1) := by decide +kernel
theorem dX9_noMoon_20 : decode cX9_noMoon 20 = .ok (.ifCond .eq 7, 3) := by decide +kernel
theorem dX9_noMoon_23 : decode cX9_noMoon 23 = .ok (.iconst 0, 1) := by decide +kernel
theorem dX9_noMoon_24 : decode cX9_noMoon 24 = .ok (.goto 4, 3) := by decide +kernel
theorem dX9_noMoon_27 : decode cX9_noMoon 27 = .ok (.iconst (-1), 1) := by decide +kernel
theorem dX9_noMoon_28 : decode cX9_noMoon 28 = .ok (.ireturn, 1) := by decide +kernel
theorem dX9_noSight_0 : decode cX9_noSight 0 = .ok (.iload_n 1, 1) := by decide +kernel
theorem dX9_noSight_1 : decode cX9_noSight 1 = .ok (.aload_n 0, 1) := by decide +kernel
theorem dX9_noSight_2 : decode cX9_noSight 2 = .ok (.getfield 10, 3) := by decide +kernel
theorem dX9_noSight_5 : decode cX9_noSight 5 = .ok (.getfield 126, 3) := by decide +kernel
theorem dX9_noSight_8 : decode cX9_noSight 8 = .ok (.getfield 130, 3) := by decide +kernel
theorem dX9_noSight_11 : decode cX9_noSight 11 = .ok (.invokestatic 49, 3) := by decide +kernel
theorem dX9_noSight_14 : decode cX9_noSight 14 = .ok (.ifCond .eq 7, 3) := by decide +kernel
theorem dX9_noSight_17 : decode cX9_noSight 17 = .ok (.iconst 0, 1) := by decide +kernel
theorem dX9_noSight_18 : decode cX9_noSight 18 = .ok (.goto 4, 3) := by decide +kernel
theorem dX9_noSight_21 : decode cX9_noSight 21 = .ok (.iconst (-1), 1) := by decide +kernel
theorem dX9_noSight_22 : decode cX9_noSight 22 = .ok (.ireturn, 1) := by decide +kernel
theorem dX9_cloudedSight_0 : decode cX9_cloudedSight 0 = .ok (.iload_n 1, 1) := by decide +kernel
theorem dX9_cloudedSight_1 : decode cX9_cloudedSight 1 = .ok (.aload_n 0, 1) := by decide +kernel
theorem dX9_cloudedSight_2 : decode cX9_cloudedSight 2 = .ok (.getfield 10, 3) := by decide +kernel
theorem dX9_cloudedSight_5 : decode cX9_cloudedSight 5 = .ok (.getfield 126, 3) := by decide +kernel
theorem dX9_cloudedSight_8 : decode cX9_cloudedSight 8 = .ok (.getfield 130, 3) := by decide +kernel
theorem dX9_cloudedSight_11 : decode cX9_cloudedSight 11 = .ok (.invokestatic 49, 3) := by decide +kernel
theorem dX9_cloudedSight_14 : decode cX9_cloudedSight 14 = .ok (.ifCond .eq 24, 3) := by decide +kernel
theorem dX9_cloudedSight_17 : decode cX9_cloudedSight 17 = .ok (.aload_n 0, 1) := by decide +kernel
theorem dX9_cloudedSight_18 : decode cX9_cloudedSight 18 = .ok (.getfield 10, 3) := by decide +kernel
theorem dX9_cloudedSight_21 : decode cX9_cloudedSight 21 = .ok (.getfield 126, 3) := by decide +kernel
theorem dX9_cloudedSight_24 : decode cX9_cloudedSight 24 = .ok (.getfield 305, 3) := by decide +kernel
theorem dX9_cloudedSight_27 : decode cX9_cloudedSight 27 = .ok (.iload_n 1, 1) := by decide +kernel
theorem dX9_cloudedSight_28 : decode cX9_cloudedSight 28 = .ok (.iaload, 1) := by decide +kernel
theorem dX9_cloudedSight_29 : decode cX9_cloudedSight 29 = .ok (.iconst 5, 1) := by decide +kernel
theorem dX9_cloudedSight_30 : decode cX9_cloudedSight 30 = .ok (.if_icmp .ne 8, 3) := by decide +kernel
theorem dX9_cloudedSight_33 : decode cX9_cloudedSight 33 = .ok (.bipush (-3), 2) := by decide +kernel
theorem dX9_cloudedSight_35 : decode cX9_cloudedSight 35 = .ok (.goto 4, 3) := by decide +kernel
theorem dX9_cloudedSight_38 : decode cX9_cloudedSight 38 = .ok (.iconst 0, 1) := by decide +kernel
theorem dX9_cloudedSight_39 : decode cX9_cloudedSight 39 = .ok (.ireturn, 1) := by decide +kernel
theorem dX9_noTable_0 : decode cX9_noTable 0 = .ok (.iload_n 1, 1) := by decide +kernel
theorem dX9_noTable_1 : decode cX9_noTable 1 = .ok (.aload_n 0, 1) := by decide +kernel
theorem dX9_noTable_2 : decode cX9_noTable 2 = .ok (.getfield 10, 3) := by decide +kernel
theorem dX9_noTable_5 : decode cX9_noTable 5 = .ok (.getfield 164, 3) := by decide +kernel
theorem dX9_noTable_8 : decode cX9_noTable 8 = .ok (.getfield 168, 3) := by decide +kernel
theorem dX9_noTable_11 : decode cX9_noTable 11 = .ok (.invokestatic 49, 3) := by decide +kernel
theorem dX9_noTable_14 : decode cX9_noTable 14 = .ok (.ifCond .eq 7, 3) := by decide +kernel
theorem dX9_noTable_17 : decode cX9_noTable 17 = .ok (.iconst 0, 1) := by decide +kernel
theorem dX9_noTable_18 : decode cX9_noTable 18 = .ok (.goto 4, 3) := by decide +kernel
theorem dX9_noTable_21 : decode cX9_noTable 21 = .ok (.iconst (-1), 1) := by decide +kernel
theorem dX9_noTable_22 : decode cX9_noTable 22 = .ok (.ireturn, 1) := by decide +kernel
theorem dX9_noTables_0 : decode cX9_noTables 0 = .ok (.aload_n 0, 1) := by decide +kernel
theorem dX9_noTables_1 : decode cX9_noTables 1 = .ok (.getfield 10, 3) := by decide +kernel
theorem dX9_noTables_4 : decode cX9_noTables 4 = .ok (.getfield 164, 3) := by decide +kernel
theorem dX9_noTables_7 : decode cX9_noTables 7 = .ok (.getfield 168, 3) := by decide +kernel
theorem dX9_noTables_10 : decode cX9_noTables 10 = .ok (.ifCond .le 7, 3) := by decide +kernel
theorem dX9_noTables_13 : decode cX9_noTables 13 = .ok (.iconst 0, 1) := by decide +kernel
theorem dX9_noTables_14 : decode cX9_noTables 14 = .ok (.goto 5, 3) := by decide +kernel
theorem dX9_noTables_17 : decode cX9_noTables 17 = .ok (.bipush (-3), 2) := by decide +kernel
theorem dX9_noTables_19 : decode cX9_noTables 19 = .ok (.ireturn, 1) := by decide +kernel
theorem dX9_wrongSet_0 : decode cX9_wrongSet 0 = .ok (.lload_n 1, 1) := by decide +kernel
theorem dX9_wrongSet_1 : decode cX9_wrongSet 1 = .ok (.lconst 0, 1) := by decide +kernel
theorem dX9_wrongSet_2 : decode cX9_wrongSet 2 = .ok (.lcmp, 1) := by decide +kernel
theorem dX9_wrongSet_3 : decode cX9_wrongSet 3 = .ok (.ifCond .ge 6, 3) := by decide +kernel
theorem dX9_wrongSet_6 : decode cX9_wrongSet 6 = .ok (.bipush (-4), 2) := by decide +kernel
theorem dX9_wrongSet_8 : decode cX9_wrongSet 8 = .ok (.ireturn, 1) := by decide +kernel
theorem dX9_wrongSet_9 : decode cX9_wrongSet 9 = .ok (.lload_n 1, 1) := by decide +kernel
theorem dX9_wrongSet_10 : decode cX9_wrongSet 10 = .ok (.aload_n 0, 1) := by decide +kernel
theorem dX9_wrongSet_11 : decode cX9_wrongSet 11 = .ok (.invokevirtual 243, 3) := by decide +kernel
theorem dX9_wrongSet_14 : decode cX9_wrongSet 14 = .ok (.lcmp, 1) := by decide +kernel
theorem dX9_wrongSet_15 : decode cX9_wrongSet 15 = .ok (.ifCond .le 8, 3) := by decide +kernel
theorem dX9_wrongSet_18 : decode cX9_wrongSet 18 = .ok (.bipush (-6), 2) := by decide +kernel
theorem dX9_wrongSet_20 : decode cX9_wrongSet 20 = .ok (.goto 4, 3) := by decide +kernel
theorem dX9_wrongSet_23 : decode cX9_wrongSet 23 = .ok (.iconst 0, 1) := by decide +kernel
theorem dX9_wrongSet_24 : decode cX9_wrongSet 24 = .ok (.ireturn, 1) := by decide +kernel
theorem dX9_wrongHolding_0 : decode cX9_wrongHolding 0 = .ok (.iload_n 1, 1) := by decide +kernel
theorem dX9_wrongHolding_1 : decode cX9_wrongHolding 1 = .ok (.iconst 4, 1) := by decide +kernel
theorem dX9_wrongHolding_2 : decode cX9_wrongHolding 2 = .ok (.invokestatic 49, 3) := by decide +kernel
theorem dX9_wrongHolding_5 : decode cX9_wrongHolding 5 = .ok (.ifCond .eq 7, 3) := by decide +kernel
theorem dX9_wrongHolding_8 : decode cX9_wrongHolding 8 = .ok (.iconst 0, 1) := by decide +kernel
theorem dX9_wrongHolding_9 : decode cX9_wrongHolding 9 = .ok (.goto 4, 3) := by decide +kernel
theorem dX9_wrongHolding_12 : decode cX9_wrongHolding 12 = .ok (.iconst (-1), 1) := by decide +kernel
theorem dX9_wrongHolding_13 : decode cX9_wrongHolding 13 = .ok (.istore 4, 2) := by decide +kernel
theorem dX9_wrongHolding_15 : decode cX9_wrongHolding 15 = .ok (.iload 4, 2) := by decide +kernel
theorem dX9_wrongHolding_17 : decode cX9_wrongHolding 17 = .ok (.aload_n 0, 1) := by decide +kernel
theorem dX9_wrongHolding_18 : decode cX9_wrongHolding 18 = .ok (.iload_n 3, 1) := by decide +kernel
theorem dX9_wrongHolding_19 : decode cX9_wrongHolding 19 = .ok (.invokevirtual 76, 3) := by decide +kernel
theorem dX9_wrongHolding_22 : decode cX9_wrongHolding 22 = .ok (.invokestatic 58, 3) := by decide +kernel
theorem dX9_wrongHolding_25 : decode cX9_wrongHolding 25 = .ok (.istore 4, 2) := by decide +kernel
theorem dX9_wrongHolding_27 : decode cX9_wrongHolding 27 = .ok (.iload 4, 2) := by decide +kernel
theorem dX9_wrongHolding_29 : decode cX9_wrongHolding 29 = .ok (.aload_n 0, 1) := by decide +kernel
theorem dX9_wrongHolding_30 : decode cX9_wrongHolding 30 = .ok (.invokevirtual 227, 3) := by decide +kernel
theorem dX9_wrongHolding_33 : decode cX9_wrongHolding 33 = .ok (.invokestatic 58, 3) := by decide +kernel
theorem dX9_wrongHolding_36 : decode cX9_wrongHolding 36 = .ok (.istore 4, 2) := by decide +kernel
theorem dX9_wrongHolding_38 : decode cX9_wrongHolding 38 = .ok (.iload 4, 2) := by decide +kernel
theorem dX9_wrongHolding_40 : decode cX9_wrongHolding 40 = .ok (.iload_n 2, 1) := by decide +kernel
theorem dX9_wrongHolding_41 : decode cX9_wrongHolding 41 = .ok (.iconst 0, 1) := by decide +kernel
theorem dX9_wrongHolding_42 : decode cX9_wrongHolding 42 = .ok (.sipush 999, 3) := by decide +kernel
theorem dX9_wrongHolding_45 : decode cX9_wrongHolding 45 = .ok (.invokestatic 54, 3) := by decide +kernel
theorem dX9_wrongHolding_48 : decode cX9_wrongHolding 48 = .ok (.invokestatic 58, 3) := by decide +kernel
theorem dX9_wrongHolding_51 : decode cX9_wrongHolding 51 = .ok (.ireturn, 1) := by decide +kernel
theorem dX9_allSights_0 : decode cX9_allSights 0 = .ok (.lconst 1, 1) := by decide +kernel
theorem dX9_allSights_1 : decode cX9_allSights 1 = .ok (.aload_n 0, 1) := by decide +kernel
theorem dX9_allSights_2 : decode cX9_allSights 2 = .ok (.getfield 10, 3) := by decide +kernel
theorem dX9_allSights_5 : decode cX9_allSights 5 = .ok (.getfield 126, 3) := by decide +kernel
theorem dX9_allSights_8 : decode cX9_allSights 8 = .ok (.getfield 130, 3) := by decide +kernel
theorem dX9_allSights_11 : decode cX9_allSights 11 = .ok (.lshl, 1) := by decide +kernel
theorem dX9_allSights_12 : decode cX9_allSights 12 = .ok (.lconst 1, 1) := by decide +kernel
theorem dX9_allSights_13 : decode cX9_allSights 13 = .ok (.lsub, 1) := by decide +kernel
theorem dX9_allSights_14 : decode cX9_allSights 14 = .ok (.lreturn, 1) := by decide +kernel
theorem dX9_isRowAsTold_0 : decode cX9_isRowAsTold 0 = .ok (.iconst 0, 1) := by decide +kernel
theorem dX9_isRowAsTold_1 : decode cX9_isRowAsTold 1 = .ok (.istore_n 2, 1) := by decide +kernel
theorem dX9_isRowAsTold_2 : decode cX9_isRowAsTold 2 = .ok (.iload_n 2, 1) := by decide +kernel
theorem dX9_isRowAsTold_3 : decode cX9_isRowAsTold 3 = .ok (.bipush 8, 2) := by decide +kernel
theorem dX9_isRowAsTold_5 : decode cX9_isRowAsTold 5 = .ok (.if_icmp .ge 33, 3) := by decide +kernel
theorem dX9_isRowAsTold_8 : decode cX9_isRowAsTold 8 = .ok (.aload_n 0, 1) := by decide +kernel
theorem dX9_isRowAsTold_9 : decode cX9_isRowAsTold 9 = .ok (.getfield 26, 3) := by decide +kernel
theorem dX9_isRowAsTold_12 : decode cX9_isRowAsTold 12 = .ok (.iload_n 1, 1) := by decide +kernel
theorem dX9_isRowAsTold_13 : decode cX9_isRowAsTold 13 = .ok (.iload_n 2, 1) := by decide +kernel
theorem dX9_isRowAsTold_14 : decode cX9_isRowAsTold 14 = .ok (.iadd, 1) := by decide +kernel
theorem dX9_isRowAsTold_15 : decode cX9_isRowAsTold 15 = .ok (.iaload, 1) := by decide +kernel
theorem dX9_isRowAsTold_16 : decode cX9_isRowAsTold 16 = .ok (.istore_n 3, 1) := by decide +kernel
theorem dX9_isRowAsTold_17 : decode cX9_isRowAsTold 17 = .ok (.iload_n 3, 1) := by decide +kernel
theorem dX9_isRowAsTold_18 : decode cX9_isRowAsTold 18 = .ok (.ifCond .lt 12, 3) := by decide +kernel
theorem dX9_isRowAsTold_21 : decode cX9_isRowAsTold 21 = .ok (.iload_n 3, 1) := by decide +kernel
theorem dX9_isRowAsTold_22 : decode cX9_isRowAsTold 22 = .ok (.getstatic 308, 3) := by decide +kernel
theorem dX9_isRowAsTold_25 : decode cX9_isRowAsTold 25 = .ok (.iload_n 2, 1) := by decide +kernel
theorem dX9_isRowAsTold_26 : decode cX9_isRowAsTold 26 = .ok (.iaload, 1) := by decide +kernel
theorem dX9_isRowAsTold_27 : decode cX9_isRowAsTold 27 = .ok (.if_icmp .le 5, 3) := by decide +kernel
theorem dX9_isRowAsTold_30 : decode cX9_isRowAsTold 30 = .ok (.iconst 0, 1) := by decide +kernel
theorem dX9_isRowAsTold_31 : decode cX9_isRowAsTold 31 = .ok (.ireturn, 1) := by decide +kernel
theorem dX9_isRowAsTold_32 : decode cX9_isRowAsTold 32 = .ok (.iinc 2 1, 3) := by decide +kernel
theorem dX9_isRowAsTold_35 : decode cX9_isRowAsTold 35 = .ok (.goto (-33), 3) := by decide +kernel
theorem dX9_isRowAsTold_38 : decode cX9_isRowAsTold 38 = .ok (.aload_n 0, 1) := by decide +kernel
theorem dX9_isRowAsTold_39 : decode cX9_isRowAsTold 39 = .ok (.aload_n 0, 1) := by decide +kernel
theorem dX9_isRowAsTold_40 : decode cX9_isRowAsTold 40 = .ok (.getfield 26, 3) := by decide +kernel
theorem dX9_isRowAsTold_43 : decode cX9_isRowAsTold 43 = .ok (.iload_n 1, 1) := by decide +kernel
theorem dX9_isRowAsTold_44 : decode cX9_isRowAsTold 44 = .ok (.iaload, 1) := by decide +kernel
theorem dX9_isRowAsTold_45 : decode cX9_isRowAsTold 45 = .ok (.invokevirtual 76, 3) := by decide +kernel
theorem dX9_isRowAsTold_48 : decode cX9_isRowAsTold 48 = .ok (.ifCond .ne 22, 3) := by decide +kernel
theorem dX9_isRowAsTold_51 : decode cX9_isRowAsTold 51 = .ok (.aload_n 0, 1) := by decide +kernel
theorem dX9_isRowAsTold_52 : decode cX9_isRowAsTold 52 = .ok (.getfield 10, 3) := by decide +kernel
theorem dX9_isRowAsTold_55 : decode cX9_isRowAsTold 55 = .ok (.getfield 126, 3) := by decide +kernel
theorem dX9_isRowAsTold_58 : decode cX9_isRowAsTold 58 = .ok (.getfield 130, 3) := by decide +kernel
theorem dX9_isRowAsTold_61 : decode cX9_isRowAsTold 61 = .ok (.bipush 40, 2) := by decide +kernel
theorem dX9_isRowAsTold_63 : decode cX9_isRowAsTold 63 = .ok (.if_icmp .ge 7, 3) := by decide +kernel
theorem dX9_isRowAsTold_66 : decode cX9_isRowAsTold 66 = .ok (.iconst 1, 1) := by decide +kernel
theorem dX9_isRowAsTold_67 : decode cX9_isRowAsTold 67 = .ok (.goto 4, 3) := by decide +kernel
theorem dX9_isRowAsTold_70 : decode cX9_isRowAsTold 70 = .ok (.iconst 0, 1) := by decide +kernel
theorem dX9_isRowAsTold_71 : decode cX9_isRowAsTold 71 = .ok (.ireturn, 1) := by decide +kernel
theorem dX9_then_0 : decode cX9_then 0 = .ok (.iload_n 0, 1) := by decide +kernel
theorem dX9_then_1 : decode cX9_then 1 = .ok (.ifCond .eq 7, 3) := by decide +kernel
theorem dX9_then_4 : decode cX9_then 4 = .ok (.iload_n 0, 1) := by decide +kernel
theorem dX9_then_5 : decode cX9_then 5 = .ok (.goto 4, 3) := by decide +kernel
theorem dX9_then_8 : decode cX9_then 8 = .ok (.iload_n 1, 1) := by decide +kernel
theorem dX9_then_9 : decode cX9_then 9 = .ok (.ireturn, 1) := by decide +kernel
theorem dX9_outside_0 : decode cX9_outside 0 = .ok (.iload_n 0, 1) := by decide +kernel
theorem dX9_outside_1 : decode cX9_outside 1 = .ok (.iload_n 1, 1) := by decide +kernel
theorem dX9_outside_2 : decode cX9_outside 2 = .ok (.if_icmp .ge 6, 3) := by decide +kernel
theorem dX9_outside_5 : decode cX9_outside 5 = .ok (.bipush (-4), 2) := by decide +kernel
theorem dX9_outside_7 : decode cX9_outside 7 = .ok (.ireturn, 1) := by decide +kernel
theorem dX9_outside_8 : decode cX9_outside 8 = .ok (.iload_n 0, 1) := by decide +kernel
theorem dX9_outside_9 : decode cX9_outside 9 = .ok (.iload_n 2, 1) := by decide +kernel
theorem dX9_outside_10 : decode cX9_outside 10 = .ok (.if_icmp .le 8, 3) := by decide +kernel
theorem dX9_outside_13 : decode cX9_outside 13 = .ok (.bipush (-6), 2) := by decide +kernel
theorem dX9_outside_15 : decode cX9_outside 15 = .ok (.goto 4, 3) := by decide +kernel
theorem dX9_outside_18 : decode cX9_outside 18 = .ok (.iconst 0, 1) := by decide +kernel
theorem dX9_outside_19 : decode cX9_outside 19 = .ok (.ireturn, 1) := by decide +kernel
theorem dX9_isWithin_0 : decode cX9_isWithin 0 = .ok (.iload_n 0, 1) := by decide +kernel
theorem dX9_isWithin_1 : decode cX9_isWithin 1 = .ok (.ifCond .lt 12, 3) := by decide +kernel
theorem dX9_isWithin_4 : decode cX9_isWithin 4 = .ok (.iload_n 0, 1) := by decide +kernel
theorem dX9_isWithin_5 : decode cX9_isWithin 5 = .ok (.iload_n 1, 1) := by decide +kernel
theorem dX9_isWithin_6 : decode cX9_isWithin 6 = .ok (.if_icmp .ge 7, 3) := by decide +kernel
theorem dX9_isWithin_9 : decode cX9_isWithin 9 = .ok (.iconst 1, 1) := by decide +kernel
theorem dX9_isWithin_10 : decode cX9_isWithin 10 = .ok (.goto 4, 3) := by decide +kernel
theorem dX9_isWithin_13 : decode cX9_isWithin 13 = .ok (.iconst 0, 1) := by decide +kernel
theorem dX9_isWithin_14 : decode cX9_isWithin 14 = .ok (.ireturn, 1) := by decide +kernel
theorem dX9_waveOf_0 : decode cX9_waveOf 0 = .ok (.getstatic 311, 3) := by decide +kernel
theorem dX9_waveOf_3 : decode cX9_waveOf 3 = .ok (.iload_n 0, 1) := by decide +kernel
theorem dX9_waveOf_4 : decode cX9_waveOf 4 = .ok (.bipush 7, 2) := by decide +kernel
theorem dX9_waveOf_6 : decode cX9_waveOf 6 = .ok (.iand, 1) := by decide +kernel
theorem dX9_waveOf_7 : decode cX9_waveOf 7 = .ok (.iaload, 1) := by decide +kernel
theorem dX9_waveOf_8 : decode cX9_waveOf 8 = .ok (.ireturn, 1) := by decide +kernel
theorem dX9_copy_0 : decode cX9_copy 0 = .ok (.aload_n 0, 1) := by decide +kernel
theorem dX9_copy_1 : decode cX9_copy 1 = .ok (.iconst 0, 1) := by decide +kernel
theorem dX9_copy_2 : decode cX9_copy 2 = .ok (.aload_n 1, 1) := by decide +kernel
theorem dX9_copy_3 : decode cX9_copy 3 = .ok (.iconst 0, 1) := by decide +kernel
theorem dX9_copy_4 : decode cX9_copy 4 = .ok (.aload_n 0, 1) := by decide +kernel
theorem dX9_copy_5 : decode cX9_copy 5 = .ok (.arraylength, 1) := by decide +kernel
theorem dX9_copy_6 : decode cX9_copy 6 = .ok (.aload_n 1, 1) := by decide +kernel
theorem dX9_copy_7 : decode cX9_copy 7 = .ok (.arraylength, 1) := by decide +kernel
theorem dX9_copy_8 : decode cX9_copy 8 = .ok (.invokestatic 314, 3) := by decide +kernel
theorem dX9_copy_11 : decode cX9_copy 11 = .ok (.invokestatic 319, 3) := by decide +kernel
theorem dX9_copy_14 : decode cX9_copy 14 = .ok (.return_, 1) := by decide +kernel
theorem dX10_init_0 : decode cX10_init 0 = .ok (.aload_n 0, 1) := by decide +kernel
theorem dX10_init_1 : decode cX10_init 1 = .ok (.invokespecial 1, 3) := by decide +kernel
theorem dX10_init_4 : decode cX10_init 4 = .ok (.aload_n 0, 1) := by decide +kernel
theorem dX10_init_5 : decode cX10_init 5 = .ok (.bipush 7, 2) := by decide +kernel
theorem dX10_init_7 : decode cX10_init 7 = .ok (.newarray .int, 2) := by decide +kernel
theorem dX10_init_9 : decode cX10_init 9 = .ok (.putfield 7, 3) := by decide +kernel
theorem dX10_init_12 : decode cX10_init 12 = .ok (.aload_n 0, 1) := by decide +kernel
theorem dX10_init_13 : decode cX10_init 13 = .ok (.iconst 4, 1) := by decide +kernel
theorem dX10_init_14 : decode cX10_init 14 = .ok (.newarray .int, 2) := by decide +kernel
theorem dX10_init_16 : decode cX10_init 16 = .ok (.putfield 13, 3) := by decide +kernel
theorem dX10_init_19 : decode cX10_init 19 = .ok (.aload_n 0, 1) := by decide +kernel
theorem dX10_init_20 : decode cX10_init 20 = .ok (.iconst 4, 1) := by decide +kernel
theorem dX10_init_21 : decode cX10_init 21 = .ok (.newarray .int, 2) := by decide +kernel
theorem dX10_init_23 : decode cX10_init 23 = .ok (.putfield 16, 3) := by decide +kernel
theorem dX10_init_26 : decode cX10_init 26 = .ok (.aload_n 0, 1) := by decide +kernel
theorem dX10_init_27 : decode cX10_init 27 = .ok (.iconst 4, 1) := by decide +kernel
theorem dX10_init_28 : decode cX10_init 28 = .ok (.newarray .int, 2) := by decide +kernel
theorem dX10_init_30 : decode cX10_init 30 = .ok (.putfield 19, 3) := by decide +kernel
theorem dX10_init_33 : decode cX10_init 33 = .ok (.aload_n 0, 1) := by decide +kernel
theorem dX10_init_34 : decode cX10_init 34 = .ok (.iconst 4, 1) := by decide +kernel
theorem dX10_init_35 : decode cX10_init 35 = .ok (.newarray .int, 2) := by decide +kernel
theorem dX10_init_37 : decode cX10_init 37 = .ok (.putfield 22, 3) := by decide +kernel
theorem dX10_init_40 : decode cX10_init 40 = .ok (.aload_n 0, 1) := by decide +kernel
theorem dX10_init_41 : decode cX10_init 41 = .ok (.bipush 16, 2) := by decide +kernel
theorem dX10_init_43 : decode cX10_init 43 = .ok (.newarray .int, 2) := by decide +kernel
theorem dX10_init_45 : decode cX10_init 45 = .ok (.putfield 25, 3) := by decide +kernel
theorem dX10_init_48 : decode cX10_init 48 = .ok (.aload_n 0, 1) := by decide +kernel
theorem dX10_init_49 : decode cX10_init 49 = .ok (.iconst 5, 1) := by decide +kernel
theorem dX10_init_50 : decode cX10_init 50 = .ok (.newarray .int, 2) := by decide +kernel
theorem dX10_init_52 : decode cX10_init 52 = .ok (.putfield 28, 3) := by decide +kernel
theorem dX10_init_55 : decode cX10_init 55 = .ok (.aload_n 0, 1) := by decide +kernel
theorem dX10_init_56 : decode cX10_init 56 = .ok (.iconst 4, 1) := by decide +kernel
theorem dX10_init_57 : decode cX10_init 57 = .ok (.newarray .boolean, 2) := by decide +kernel
theorem dX10_init_59 : decode cX10_init 59 = .ok (.putfield 31, 3) := by decide +kernel
theorem dX10_init_62 : decode cX10_init 62 = .ok (.aload_n 0, 1) := by decide +kernel
theorem dX10_init_63 : decode cX10_init 63 = .ok (.bipush 8, 2) := by decide +kernel
theorem dX10_init_65 : decode cX10_init 65 = .ok (.newarray .int, 2) := by decide +kernel
theorem dX10_init_67 : decode cX10_init 67 = .ok (.dup, 1) := by decide +kernel
theorem dX10_init_68 : decode cX10_init 68 = .ok (.iconst 0, 1) := by decide +kernel
theorem dX10_init_69 : decode cX10_init 69 = .ok (.iconst 0, 1) := by decide +kernel
theorem dX10_init_70 : decode cX10_init 70 = .ok (.iastore, 1) := by decide +kernel
theorem dX10_init_71 : decode cX10_init 71 = .ok (.dup, 1) := by decide +kernel
theorem dX10_init_72 : decode cX10_init 72 = .ok (.iconst 1, 1) := by decide +kernel
theorem dX10_init_73 : decode cX10_init 73 = .ok (.iconst 3, 1) := by decide +kernel
theorem dX10_init_74 : decode cX10_init 74 = .ok (.iastore, 1) := by decide +kernel
theorem dX10_init_75 : decode cX10_init 75 = .ok (.dup, 1) := by decide +kernel
theorem dX10_init_76 : decode cX10_init 76 = .ok (.iconst 2, 1) := by decide +kernel
theorem dX10_init_77 : decode cX10_init 77 = .ok (.iconst 4, 1) := by decide +kernel
theorem dX10_init_78 : decode cX10_init 78 = .ok (.iastore, 1) := by decide +kernel
theorem dX10_init_79 : decode cX10_init 79 = .ok (.dup, 1) := by decide +kernel
theorem dX10_init_80 : decode cX10_init 80 = .ok (.iconst 3, 1) := by decide +kernel
theorem dX10_init_81 : decode cX10_init 81 = .ok (.iconst 3, 1) := by decide +kernel
theorem dX10_init_82 : decode cX10_init 82 = .ok (.iastore, 1) := by decide +kernel
theorem dX10_init_83 : decode cX10_init 83 = .ok (.dup, 1) := by decide +kernel
theorem dX10_init_84 : decode cX10_init 84 = .ok (.iconst 4, 1) := by decide +kernel
theorem dX10_init_85 : decode cX10_init 85 = .ok (.iconst 0, 1) := by decide +kernel
theorem dX10_init_86 : decode cX10_init 86 = .ok (.iastore, 1) := by decide +kernel
theorem dX10_init_87 : decode cX10_init 87 = .ok (.dup, 1) := by decide +kernel
theorem dX10_init_88 : decode cX10_init 88 = .ok (.iconst 5, 1) := by decide +kernel
theorem dX10_init_89 : decode cX10_init 89 = .ok (.bipush (-3), 2) := by decide +kernel
theorem dX10_init_91 : decode cX10_init 91 = .ok (.iastore, 1) := by decide +kernel
theorem dX10_init_92 : decode cX10_init 92 = .ok (.dup, 1) := by decide +kernel
theorem dX10_init_93 : decode cX10_init 93 = .ok (.bipush 6, 2) := by decide +kernel
theorem dX10_init_95 : decode cX10_init 95 = .ok (.bipush (-4), 2) := by decide +kernel
theorem dX10_init_97 : decode cX10_init 97 = .ok (.iastore, 1) := by decide +kernel
theorem dX10_init_98 : decode cX10_init 98 = .ok (.dup, 1) := by decide +kernel
theorem dX10_init_99 : decode cX10_init 99 = .ok (.bipush 7, 2) := by decide +kernel
theorem dX10_init_101 : decode cX10_init 101 = .ok (.bipush (-3), 2) := by decide +kernel
theorem dX10_init_103 : decode cX10_init 103 = .ok (.iastore, 1) := by decide +kernel
theorem dX10_init_104 : decode cX10_init 104 = .ok (.putfield 35, 3) := by decide +kernel
theorem dX10_init_107 : decode cX10_init 107 = .ok (.aload_n 0, 1) := by decide +kernel
theorem dX10_init_108 : decode cX10_init 108 = .ok (.bipush 6, 2) := by decide +kernel
theorem dX10_init_110 : decode cX10_init 110 = .ok (.newarray .int, 2) := by decide +kernel
theorem dX10_init_112 : decode cX10_init 112 = .ok (.putfield 38, 3) := by decide +kernel
theorem dX10_init_115 : decode cX10_init 115 = .ok (.aload_n 0, 1) := by decide +kernel
theorem dX10_init_116 : decode cX10_init 116 = .ok (.iconst 4, 1) := by decide +kernel
theorem dX10_init_117 : decode cX10_init 117 = .ok (.newarray .int, 2) := by decide +kernel
theorem dX10_init_119 : decode cX10_init 119 = .ok (.putfield 41, 3) := by decide +kernel
theorem dX10_init_122 : decode cX10_init 122 = .ok (.aload_n 0, 1) := by decide +kernel
theorem dX10_init_123 : decode cX10_init 123 = .ok (.iconst 4, 1) := by decide +kernel
theorem dX10_init_124 : decode cX10_init 124 = .ok (.newarray .int, 2) := by decide +kernel
theorem dX10_init_126 : decode cX10_init 126 = .ok (.putfield 44, 3) := by decide +kernel
theorem dX10_init_129 : decode cX10_init 129 = .ok (.aload_n 0, 1) := by decide +kernel
theorem dX10_init_130 : decode cX10_init 130 = .ok (.iconst 4, 1) := by decide +kernel
theorem dX10_init_131 : decode cX10_init 131 = .ok (.newarray .int, 2) := by decide +kernel
theorem dX10_init_133 : decode cX10_init 133 = .ok (.putfield 47, 3) := by decide +kernel
theorem dX10_init_136 : decode cX10_init 136 = .ok (.aload_n 0, 1) := by decide +kernel
theorem dX10_init_137 : decode cX10_init 137 = .ok (.bipush 40, 2) := by decide +kernel
theorem dX10_init_139 : decode cX10_init 139 = .ok (.newarray .int, 2) := by decide +kernel
theorem dX10_init_141 : decode cX10_init 141 = .ok (.putfield 50, 3) := by decide +kernel
theorem dX10_init_144 : decode cX10_init 144 = .ok (.aload_n 0, 1) := by decide +kernel
theorem dX10_init_145 : decode cX10_init 145 = .ok (.bipush 40, 2) := by decide +kernel
theorem dX10_init_147 : decode cX10_init 147 = .ok (.newarray .int, 2) := by decide +kernel
theorem dX10_init_149 : decode cX10_init 149 = .ok (.putfield 53, 3) := by decide +kernel
theorem dX10_init_152 : decode cX10_init 152 = .ok (.aload_n 0, 1) := by decide +kernel
theorem dX10_init_153 : decode cX10_init 153 = .ok (.bipush 40, 2) := by decide +kernel
theorem dX10_init_155 : decode cX10_init 155 = .ok (.newarray .int, 2) := by decide +kernel
theorem dX10_init_157 : decode cX10_init 157 = .ok (.putfield 56, 3) := by decide +kernel
theorem dX10_init_160 : decode cX10_init 160 = .ok (.aload_n 0, 1) := by decide +kernel
theorem dX10_init_161 : decode cX10_init 161 = .ok (.bipush 40, 2) := by decide +kernel
theorem dX10_init_163 : decode cX10_init 163 = .ok (.newarray .int, 2) := by decide +kernel
theorem dX10_init_165 : decode cX10_init 165 = .ok (.putfield 59, 3) := by decide +kernel
theorem dX10_init_168 : decode cX10_init 168 = .ok (.aload_n 0, 1) := by decide +kernel
theorem dX10_init_169 : decode cX10_init 169 = .ok (.bipush 40, 2) := by decide +kernel
theorem dX10_init_171 : decode cX10_init 171 = .ok (.newarray .int, 2) := by decide +kernel
theorem dX10_init_173 : decode cX10_init 173 = .ok (.putfield 62, 3) := by decide +kernel
theorem dX10_init_176 : decode cX10_init 176 = .ok (.aload_n 0, 1) := by decide +kernel
theorem dX10_init_177 : decode cX10_init 177 = .ok (.bipush 40, 2) := by decide +kernel
theorem dX10_init_179 : decode cX10_init 179 = .ok (.newarray .int, 2) := by decide +kernel
theorem dX10_init_181 : decode cX10_init 181 = .ok (.putfield 65, 3) := by decide +kernel
theorem dX10_init_184 : decode cX10_init 184 = .ok (.aload_n 0, 1) := by decide +kernel
theorem dX10_init_185 : decode cX10_init 185 = .ok (.bipush 40, 2) := by decide +kernel
theorem dX10_init_187 : decode cX10_init 187 = .ok (.newarray .int, 2) := by decide +kernel
theorem dX10_init_189 : decode cX10_init 189 = .ok (.putfield 68, 3) := by decide +kernel
theorem dX10_init_192 : decode cX10_init 192 = .ok (.aload_n 0, 1) := by decide +kernel
theorem dX10_init_193 : decode cX10_init 193 = .ok (.bipush 80, 2) := by decide +kernel
theorem dX10_init_195 : decode cX10_init 195 = .ok (.newarray .int, 2) := by decide +kernel
theorem dX10_init_197 : decode cX10_init 197 = .ok (.putfield 71, 3) := by decide +kernel
theorem dX10_init_200 : decode cX10_init 200 = .ok (.aload_n 0, 1) := by decide +kernel
theorem dX10_init_201 : decode cX10_init 201 = .ok (.bipush 20, 2) := by decide +kernel
theorem dX10_init_203 : decode cX10_init 203 = .ok (.newarray .int, 2) := by decide +kernel
theorem dX10_init_205 : decode cX10_init 205 = .ok (.putfield 74, 3) := by decide +kernel
theorem dX10_init_208 : decode cX10_init 208 = .ok (.aload_n 0, 1) := by decide +kernel
theorem dX10_init_209 : decode cX10_init 209 = .ok (.bipush 72, 2) := by decide +kernel
theorem dX10_init_211 : decode cX10_init 211 = .ok (.newarray .int, 2) := by decide +kernel
theorem dX10_init_213 : decode cX10_init 213 = .ok (.putfield 77, 3) := by decide +kernel
theorem dX10_init_216 : decode cX10_init 216 = .ok (.aload_n 0, 1) := by decide +kernel
theorem dX10_init_217 : decode cX10_init 217 = .ok (.bipush 9, 2) := by decide +kernel
theorem dX10_init_219 : decode cX10_init 219 = .ok (.newarray .int, 2) := by decide +kernel
theorem dX10_init_221 : decode cX10_init 221 = .ok (.putfield 80, 3) := by decide +kernel
theorem dX10_init_224 : decode cX10_init 224 = .ok (.aload_n 0, 1) := by decide +kernel
theorem dX10_init_225 : decode cX10_init 225 = .ok (.iconst 4, 1) := by decide +kernel
theorem dX10_init_226 : decode cX10_init 226 = .ok (.newarray .int, 2) := by decide +kernel
theorem dX10_init_228 : decode cX10_init 228 = .ok (.putfield 83, 3) := by decide +kernel
theorem dX10_init_231 : decode cX10_init 231 = .ok (.aload_n 0, 1) := by decide +kernel
theorem dX10_init_232 : decode cX10_init 232 = .ok (.iconst 4, 1) := by decide +kernel
theorem dX10_init_233 : decode cX10_init 233 = .ok (.newarray .int, 2) := by decide +kernel
theorem dX10_init_235 : decode cX10_init 235 = .ok (.putfield 86, 3) := by decide +kernel
theorem dX10_init_238 : decode cX10_init 238 = .ok (.aload_n 0, 1) := by decide +kernel
theorem dX10_init_239 : decode cX10_init 239 = .ok (.bipush 40, 2) := by decide +kernel
theorem dX10_init_241 : decode cX10_init 241 = .ok (.newarray .int, 2) := by decide +kernel
theorem dX10_init_243 : decode cX10_init 243 = .ok (.putfield 89, 3) := by decide +kernel
theorem dX10_init_246 : decode cX10_init 246 = .ok (.aload_n 0, 1) := by decide +kernel
theorem dX10_init_247 : decode cX10_init 247 = .ok (.bipush 8, 2) := by decide +kernel
theorem dX10_init_249 : decode cX10_init 249 = .ok (.newarray .int, 2) := by decide +kernel
theorem dX10_init_251 : decode cX10_init 251 = .ok (.putfield 92, 3) := by decide +kernel
theorem dX10_init_254 : decode cX10_init 254 = .ok (.aload_n 0, 1) := by decide +kernel
theorem dX10_init_255 : decode cX10_init 255 = .ok (.sipush 360, 3) := by decide +kernel
theorem dX10_init_258 : decode cX10_init 258 = .ok (.newarray .long, 2) := by decide +kernel
theorem dX10_init_260 : decode cX10_init 260 = .ok (.putfield 95, 3) := by decide +kernel
theorem dX10_init_263 : decode cX10_init 263 = .ok (.aload_n 0, 1) := by decide +kernel
theorem dX10_init_264 : decode cX10_init 264 = .ok (.sipush 2240, 3) := by decide +kernel
theorem dX10_init_267 : decode cX10_init 267 = .ok (.newarray .long, 2) := by decide +kernel
theorem dX10_init_269 : decode cX10_init 269 = .ok (.putfield 99, 3) := by decide +kernel
theorem dX10_init_272 : decode cX10_init 272 = .ok (.aload_n 0, 1) := by decide +kernel
theorem dX10_init_273 : decode cX10_init 273 = .ok (.bipush 8, 2) := by decide +kernel
theorem dX10_init_275 : decode cX10_init 275 = .ok (.newarray .int, 2) := by decide +kernel
theorem dX10_init_277 : decode cX10_init 277 = .ok (.putfield 102, 3) := by decide +kernel
theorem dX10_init_280 : decode cX10_init 280 = .ok (.aload_n 0, 1) := by decide +kernel
theorem dX10_init_281 : decode cX10_init 281 = .ok (.sipush 160, 3) := by decide +kernel
theorem dX10_init_284 : decode cX10_init 284 = .ok (.newarray .int, 2) := by decide +kernel
theorem dX10_init_286 : decode cX10_init 286 = .ok (.putfield 105, 3) := by decide +kernel
theorem dX10_init_289 : decode cX10_init 289 = .ok (.aload_n 0, 1) := by decide +kernel
theorem dX10_init_290 : decode cX10_init 290 = .ok (.sipush 1000, 3) := by decide +kernel
theorem dX10_init_293 : decode cX10_init 293 = .ok (.newarray .int, 2) := by decide +kernel
theorem dX10_init_295 : decode cX10_init 295 = .ok (.putfield 108, 3) := by decide +kernel
theorem dX10_init_298 : decode cX10_init 298 = .ok (.aload_n 0, 1) := by decide +kernel
theorem dX10_init_299 : decode cX10_init 299 = .ok (.getfield 28, 3) := by decide +kernel
theorem dX10_init_302 : decode cX10_init 302 = .ok (.iconst 1, 1) := by decide +kernel
theorem dX10_init_303 : decode cX10_init 303 = .ok (.ldc 111, 2) := by decide +kernel
theorem dX10_init_305 : decode cX10_init 305 = .ok (.iastore, 1) := by decide +kernel
theorem dX10_init_306 : decode cX10_init 306 = .ok (.aload_n 0, 1) := by decide +kernel
theorem dX10_init_307 : decode cX10_init 307 = .ok (.getfield 28, 3) := by decide +kernel
theorem dX10_init_310 : decode cX10_init 310 = .ok (.iconst 2, 1) := by decide +kernel
theorem dX10_init_311 : decode cX10_init 311 = .ok (.bipush 10, 2) := by decide +kernel
theorem dX10_init_313 : decode cX10_init 313 = .ok (.iastore, 1) := by decide +kernel
theorem dX10_init_314 : decode cX10_init 314 = .ok (.aload_n 0, 1) := by decide +kernel
theorem dX10_init_315 : decode cX10_init 315 = .ok (.getfield 28, 3) := by decide +kernel
theorem dX10_init_318 : decode cX10_init 318 = .ok (.iconst 3, 1) := by decide +kernel
theorem dX10_init_319 : decode cX10_init 319 = .ok (.bipush 50, 2) := by decide +kernel
theorem dX10_init_321 : decode cX10_init 321 = .ok (.iastore, 1) := by decide +kernel
theorem dX10_init_322 : decode cX10_init 322 = .ok (.aload_n 0, 1) := by decide +kernel
theorem dX10_init_323 : decode cX10_init 323 = .ok (.getfield 28, 3) := by decide +kernel
theorem dX10_init_326 : decode cX10_init 326 = .ok (.iconst 4, 1) := by decide +kernel
theorem dX10_init_327 : decode cX10_init 327 = .ok (.bipush 60, 2) := by decide +kernel
theorem dX10_init_329 : decode cX10_init 329 = .ok (.iastore, 1) := by decide +kernel
theorem dX10_init_330 : decode cX10_init 330 = .ok (.iconst 0, 1) := by decide +kernel
theorem dX10_init_331 : decode cX10_init 331 = .ok (.istore_n 1, 1) := by decide +kernel
theorem dX10_init_332 : decode cX10_init 332 = .ok (.iload_n 1, 1) := by decide +kernel
theorem dX10_init_333 : decode cX10_init 333 = .ok (.iconst 4, 1) := by decide +kernel
theorem dX10_init_334 : decode cX10_init 334 = .ok (.if_icmp .ge 18, 3) := by decide +kernel
theorem dX10_init_337 : decode cX10_init 337 = .ok (.aload_n 0, 1) := by decide +kernel
theorem dX10_init_338 : decode cX10_init 338 = .ok (.getfield 86, 3) := by decide +kernel
theorem dX10_init_341 : decode cX10_init 341 = .ok (.iload_n 1, 1) := by decide +kernel
theorem dX10_init_342 : decode cX10_init 342 = .ok (.sipush 1000, 3) := by decide +kernel
theorem dX10_init_345 : decode cX10_init 345 = .ok (.iastore, 1) := by decide +kernel
theorem dX10_init_346 : decode cX10_init 346 = .ok (.iinc 1 1, 3) := by decide +kernel
theorem dX10_init_349 : decode cX10_init 349 = .ok (.goto (-17), 3) := by decide +kernel
theorem dX10_init_352 : decode cX10_init 352 = .ok (.return_, 1) := by decide +kernel
theorem dX10_no_0 : decode cX10_no 0 = .ok (.aload_n 0, 1) := by decide +kernel
theorem dX10_no_1 : decode cX10_no 1 = .ok (.getfield 7, 3) := by decide +kernel
theorem dX10_no_4 : decode cX10_no 4 = .ok (.iload_n 1, 1) := by decide +kernel
theorem dX10_no_5 : decode cX10_no 5 = .ok (.ineg, 1) := by decide +kernel
theorem dX10_no_6 : decode cX10_no 6 = .ok (.dup2, 1) := by decide +kernel
theorem dX10_no_7 : decode cX10_no 7 = .ok (.iaload, 1) := by decide +kernel
theorem dX10_no_8 : decode cX10_no 8 = .ok (.iconst 1, 1) := by decide +kernel
theorem dX10_no_9 : decode cX10_no 9 = .ok (.iadd, 1) := by decide +kernel
theorem dX10_no_10 : decode cX10_no 10 = .ok (.iastore, 1) := by decide +kernel
theorem dX10_no_11 : decode cX10_no 11 = .ok (.iload_n 1, 1) := by decide +kernel
theorem dX10_no_12 : decode cX10_no 12 = .ok (.ireturn, 1) := by decide +kernel
theorem dX10_noLong_0 : decode cX10_noLong 0 = .ok (.aload_n 0, 1) := by decide +kernel
theorem dX10_noLong_1 : decode cX10_noLong 1 = .ok (.getfield 7, 3) := by decide +kernel
theorem dX10_noLong_4 : decode cX10_noLong 4 = .ok (.iload_n 1, 1) := by decide +kernel
theorem dX10_noLong_5 : decode cX10_noLong 5 = .ok (.ineg, 1) := by decide +kernel
theorem dX10_noLong_6 : decode cX10_noLong 6 = .ok (.dup2, 1) := by decide +kernel
theorem dX10_noLong_7 : decode cX10_noLong 7 = .ok (.iaload, 1) := by decide +kernel
theorem dX10_noLong_8 : decode cX10_noLong 8 = .ok (.iconst 1, 1) := by decide +kernel
theorem dX10_noLong_9 : decode cX10_noLong 9 = .ok (.iadd, 1) := by decide +kernel
theorem dX10_noLong_10 : decode cX10_noLong 10 = .ok (.iastore, 1) := by decide +kernel
theorem dX10_noLong_11 : decode cX10_noLong 11 = .ok (.iload_n 1, 1) := by decide +kernel
theorem dX10_noLong_12 : decode cX10_noLong 12 = .ok (.i2l, 1) := by decide +kernel
theorem dX10_noLong_13 : decode cX10_noLong 13 = .ok (.ldc2_w 112, 3) := by decide +kernel
theorem dX10_noLong_16 : decode cX10_noLong 16 = .ok (.lsub, 1) := by decide +kernel
theorem dX10_noLong_17 : decode cX10_noLong 17 = .ok (.lreturn, 1) := by decide +kernel
theorem dX10_isIn_0 : decode cX10_isIn 0 = .ok (.lload_n 0, 1) := by decide +kernel
theorem dX10_isIn_1 : decode cX10_isIn 1 = .ok (.lload_n 2, 1) := by decide +kernel
theorem dX10_isIn_2 : decode cX10_isIn 2 = .ok (.lcmp, 1) := by decide +kernel
theorem dX10_isIn_3 : decode cX10_isIn 3 = .ok (.ifCond .lt 14, 3) := by decide +kernel
theorem dX10_isIn_6 : decode cX10_isIn 6 = .ok (.lload_n 0, 1) := by decide +kernel
theorem dX10_isIn_7 : decode cX10_isIn 7 = .ok (.lload 4, 2) := by decide +kernel
theorem dX10_isIn_9 : decode cX10_isIn 9 = .ok (.lcmp, 1) := by decide +kernel
theorem dX10_isIn_10 : decode cX10_isIn 10 = .ok (.ifCond .gt 7, 3) := by decide +kernel
theorem dX10_isIn_13 : decode cX10_isIn 13 = .ok (.iconst 1, 1) := by decide +kernel
theorem dX10_isIn_14 : decode cX10_isIn 14 = .ok (.goto 4, 3) := by decide +kernel
theorem dX10_isIn_17 : decode cX10_isIn 17 = .ok (.iconst 0, 1) := by decide +kernel
theorem dX10_isIn_18 : decode cX10_isIn 18 = .ok (.ireturn, 1) := by decide +kernel
theorem dX10_out_0 : decode cX10_out 0 = .ok (.lload_n 0, 1) := by decide +kernel
theorem dX10_out_1 : decode cX10_out 1 = .ok (.lload_n 2, 1) := by decide +kernel
theorem dX10_out_2 : decode cX10_out 2 = .ok (.lcmp, 1) := by decide +kernel
theorem dX10_out_3 : decode cX10_out 3 = .ok (.ifCond .ge 8, 3) := by decide +kernel
theorem dX10_out_6 : decode cX10_out 6 = .ok (.bipush (-4), 2) := by decide +kernel
theorem dX10_out_8 : decode cX10_out 8 = .ok (.goto 16, 3) := by decide +kernel
theorem dX10_out_11 : decode cX10_out 11 = .ok (.lload_n 0, 1) := by decide +kernel
theorem dX10_out_12 : decode cX10_out 12 = .ok (.lload 4, 2) := by decide +kernel
theorem dX10_out_14 : decode cX10_out 14 = .ok (.lcmp, 1) := by decide +kernel
theorem dX10_out_15 : decode cX10_out 15 = .ok (.ifCond .le 8, 3) := by decide +kernel
theorem dX10_out_18 : decode cX10_out 18 = .ok (.bipush (-6), 2) := by decide +kernel
theorem dX10_out_20 : decode cX10_out 20 = .ok (.goto 4, 3) := by decide +kernel
theorem dX10_out_23 : decode cX10_out 23 = .ok (.iconst 0, 1) := by decide +kernel
theorem dX10_out_24 : decode cX10_out 24 = .ok (.ireturn, 1) := by decide +kernel
theorem dX10_isMoon_0 : decode cX10_isMoon 0 = .ok (.iload_n 1, 1) := by decide +kernel
theorem dX10_isMoon_1 : decode cX10_isMoon 1 = .ok (.ifCond .lt 21, 3) := by decide +kernel
theorem dX10_isMoon_4 : decode cX10_isMoon 4 = .ok (.iload_n 1, 1) := by decide +kernel
theorem dX10_isMoon_5 : decode cX10_isMoon 5 = .ok (.iconst 4, 1) := by decide +kernel
theorem dX10_isMoon_6 : decode cX10_isMoon 6 = .ok (.if_icmp .ge 16, 3) := by decide +kernel
theorem dX10_isMoon_9 : decode cX10_isMoon 9 = .ok (.aload_n 0, 1) := by decide +kernel
theorem dX10_isMoon_10 : decode cX10_isMoon 10 = .ok (.getfield 31, 3) := by decide +kernel
theorem dX10_isMoon_13 : decode cX10_isMoon 13 = .ok (.iload_n 1, 1) := by decide +kernel
theorem dX10_isMoon_14 : decode cX10_isMoon 14 = .ok (.baload, 1) := by decide +kernel
theorem dX10_isMoon_15 : decode cX10_isMoon 15 = .ok (.ifCond .eq 7, 3) := by decide +kernel
theorem dX10_isMoon_18 : decode cX10_isMoon 18 = .ok (.iconst 1, 1) := by decide +kernel
theorem dX10_isMoon_19 : decode cX10_isMoon 19 = .ok (.goto 4, 3) := by decide +kernel
theorem dX10_isMoon_22 : decode cX10_isMoon 22 = .ok (.iconst 0, 1) := by decide +kernel
theorem dX10_isMoon_23 : decode cX10_isMoon 23 = .ok (.ireturn, 1) := by decide +kernel
theorem dX10_moon_0 : decode cX10_moon 0 = .ok (.iload_n 1, 1) := by decide +kernel
theorem dX10_moon_1 : decode cX10_moon 1 = .ok (.i2l, 1) := by decide +kernel
theorem dX10_moon_2 : decode cX10_moon 2 = .ok (.lconst 0, 1) := by decide +kernel
theorem dX10_moon_3 : decode cX10_moon 3 = .ok (.ldc2_w 114, 3) := by decide +kernel
theorem dX10_moon_6 : decode cX10_moon 6 = .ok (.invokestatic 116, 3) := by decide +kernel
theorem dX10_moon_9 : decode cX10_moon 9 = .ok (.ifCond .ne 9, 3) := by decide +kernel
theorem dX10_moon_12 : decode cX10_moon 12 = .ok (.aload_n 0, 1) := by decide +kernel
theorem dX10_moon_13 : decode cX10_moon 13 = .ok (.iconst (-1), 1) := by decide +kernel
theorem dX10_moon_14 : decode cX10_moon 14 = .ok (.invokevirtual 120, 3) := by decide +kernel
theorem dX10_moon_17 : decode cX10_moon 17 = .ok (.ireturn, 1) := by decide +kernel
theorem dX10_moon_18 : decode cX10_moon 18 = .ok (.iload_n 2, 1) := by decide +kernel
theorem dX10_moon_19 : decode cX10_moon 19 = .ok (.i2l, 1) := by decide +kernel
theorem dX10_moon_20 : decode cX10_moon 20 = .ok (.lconst 0, 1) := by decide +kernel
theorem dX10_moon_21 : decode cX10_moon 21 = .ok (.ldc2_w 124, 3) := by decide +kernel
theorem dX10_moon_24 : decode cX10_moon 24 = .ok (.invokestatic 126, 3) := by decide +kernel
theorem dX10_moon_27 : decode cX10_moon 27 = .ok (.istore 6, 2) := by decide +kernel
theorem dX10_moon_29 : decode cX10_moon 29 = .ok (.iload 6, 2) := by decide +kernel
theorem dX10_moon_31 : decode cX10_moon 31 = .ok (.ifCond .ne 16, 3) := by decide +kernel
theorem dX10_moon_34 : decode cX10_moon 34 = .ok (.iload_n 3, 1) := by decide +kernel
theorem dX10_moon_35 : decode cX10_moon 35 = .ok (.i2l, 1) := by decide +kernel
theorem dX10_moon_36 : decode cX10_moon 36 = .ok (.ldc2_w 130, 3) := by decide +kernel
theorem dX10_moon_39 : decode cX10_moon 39 = .ok (.ldc2_w 124, 3) := by decide +kernel
theorem dX10_moon_42 : decode cX10_moon 42 = .ok (.invokestatic 126, 3) := by decide +kernel
theorem dX10_moon_45 : decode cX10_moon 45 = .ok (.istore 6, 2) := by decide +kernel
theorem dX10_moon_47 : decode cX10_moon 47 = .ok (.iload 6, 2) := by decide +kernel
theorem dX10_moon_49 : decode cX10_moon 49 = .ok (.ifCond .ne 15, 3) := by decide +kernel
theorem dX10_moon_52 : decode cX10_moon 52 = .ok (.iload 4, 2) := by decide +kernel
theorem dX10_moon_54 : decode cX10_moon 54 = .ok (.i2l, 1) := by decide +kernel
theorem dX10_moon_55 : decode cX10_moon 55 = .ok (.lconst 0, 1) := by decide +kernel
theorem dX10_moon_56 : decode cX10_moon 56 = .ok (.ldc2_w 132, 3) := by decide +kernel
theorem dX10_moon_59 : decode cX10_moon 59 = .ok (.invokestatic 126, 3) := by decide +kernel
theorem dX10_moon_62 : decode cX10_moon 62 = .ok (.istore 6, 2) := by decide +kernel
theorem dX10_moon_64 : decode cX10_moon 64 = .ok (.iload 6, 2) := by decide +kernel
theorem dX10_moon_66 : decode cX10_moon 66 = .ok (.ifCond .ne 15, 3) := by decide +kernel
theorem dX10_moon_69 : decode cX10_moon 69 = .ok (.iload 5, 2) := by decide +kernel
theorem dX10_moon_71 : decode cX10_moon 71 = .ok (.i2l, 1) := by decide +kernel
theorem dX10_moon_72 : decode cX10_moon 72 = .ok (.lconst 0, 1) := by decide +kernel
theorem dX10_moon_73 : decode cX10_moon 73 = .ok (.ldc2_w 134, 3) := by decide +kernel
theorem dX10_moon_76 : decode cX10_moon 76 = .ok (.invokestatic 126, 3) := by decide +kernel
theorem dX10_moon_79 : decode cX10_moon 79 = .ok (.istore 6, 2) := by decide +kernel
theorem dX10_moon_81 : decode cX10_moon 81 = .ok (.iload 6, 2) := by decide +kernel
theorem dX10_moon_83 : decode cX10_moon 83 = .ok (.ifCond .eq 10, 3) := by decide +kernel
theorem dX10_moon_86 : decode cX10_moon 86 = .ok (.aload_n 0, 1) := by decide +kernel
theorem dX10_moon_87 : decode cX10_moon 87 = .ok (.iload 6, 2) := by decide +kernel
theorem dX10_moon_89 : decode cX10_moon 89 = .ok (.invokevirtual 120, 3) := by decide +kernel
theorem dX10_moon_92 : decode cX10_moon 92 = .ok (.ireturn, 1) := by decide +kernel
theorem dX10_moon_93 : decode cX10_moon 93 = .ok (.aload_n 0, 1) := by decide +kernel
theorem dX10_moon_94 : decode cX10_moon 94 = .ok (.getfield 31, 3) := by decide +kernel
theorem dX10_moon_97 : decode cX10_moon 97 = .ok (.iload_n 1, 1) := by decide +kernel
theorem dX10_moon_98 : decode cX10_moon 98 = .ok (.baload, 1) := by decide +kernel
theorem dX10_moon_99 : decode cX10_moon 99 = .ok (.ifCond .eq 7, 3) := by decide +kernel
theorem dX10_moon_102 : decode cX10_moon 102 = .ok (.iconst 0, 1) := by decide +kernel
theorem dX10_moon_103 : decode cX10_moon 103 = .ok (.goto 4, 3) := by decide +kernel
theorem dX10_moon_106 : decode cX10_moon 106 = .ok (.iconst 1, 1) := by decide +kernel
theorem dX10_moon_107 : decode cX10_moon 107 = .ok (.istore 7, 2) := by decide +kernel
theorem dX10_moon_109 : decode cX10_moon 109 = .ok (.aload_n 0, 1) := by decide +kernel
theorem dX10_moon_110 : decode cX10_moon 110 = .ok (.getfield 31, 3) := by decide +kernel
theorem dX10_moon_113 : decode cX10_moon 113 = .ok (.iload_n 1, 1) := by decide +kernel
theorem dX10_moon_114 : decode cX10_moon 114 = .ok (.iconst 1, 1) := by decide +kernel
theorem dX10_moon_115 : decode cX10_moon 115 = .ok (.bastore, 1) := by decide +kernel
theorem dX10_moon_116 : decode cX10_moon 116 = .ok (.aload_n 0, 1) := by decide +kernel
theorem dX10_moon_117 : decode cX10_moon 117 = .ok (.getfield 13, 3) := by decide +kernel
theorem dX10_moon_120 : decode cX10_moon 120 = .ok (.iload_n 1, 1) := by decide +kernel
theorem dX10_moon_121 : decode cX10_moon 121 = .ok (.iload_n 2, 1) := by decide +kernel
theorem dX10_moon_122 : decode cX10_moon 122 = .ok (.iastore, 1) := by decide +kernel
theorem dX10_moon_123 : decode cX10_moon 123 = .ok (.aload_n 0, 1) := by decide +kernel
theorem dX10_moon_124 : decode cX10_moon 124 = .ok (.getfield 16, 3) := by decide +kernel
theorem dX10_moon_127 : decode cX10_moon 127 = .ok (.iload_n 1, 1) := by decide +kernel
theorem dX10_moon_128 : decode cX10_moon 128 = .ok (.iload_n 3, 1) := by decide +kernel
theorem dX10_moon_129 : decode cX10_moon 129 = .ok (.iastore, 1) := by decide +kernel
theorem dX10_moon_130 : decode cX10_moon 130 = .ok (.aload_n 0, 1) := by decide +kernel
theorem dX10_moon_131 : decode cX10_moon 131 = .ok (.getfield 19, 3) := by decide +kernel
theorem dX10_moon_134 : decode cX10_moon 134 = .ok (.iload_n 1, 1) := by decide +kernel
theorem dX10_moon_135 : decode cX10_moon 135 = .ok (.iload 4, 2) := by decide +kernel
theorem dX10_moon_137 : decode cX10_moon 137 = .ok (.iastore, 1) := by decide +kernel
theorem dX10_moon_138 : decode cX10_moon 138 = .ok (.aload_n 0, 1) := by decide +kernel
theorem dX10_moon_139 : decode cX10_moon 139 = .ok (.getfield 22, 3) := by decide +kernel
theorem dX10_moon_142 : decode cX10_moon 142 = .ok (.iload_n 1, 1) := by decide +kernel
theorem dX10_moon_143 : decode cX10_moon 143 = .ok (.iload 5, 2) := by decide +kernel
theorem dX10_moon_145 : decode cX10_moon 145 = .ok (.iastore, 1) := by decide +kernel
theorem dX10_moon_146 : decode cX10_moon 146 = .ok (.iload 7, 2) := by decide +kernel
theorem dX10_moon_148 : decode cX10_moon 148 = .ok (.ireturn, 1) := by decide +kernel
theorem dX10_pull_0 : decode cX10_pull 0 = .ok (.aload_n 0, 1) := by decide +kernel
theorem dX10_pull_1 : decode cX10_pull 1 = .ok (.iload_n 1, 1) := by decide +kernel
theorem dX10_pull_2 : decode cX10_pull 2 = .ok (.invokevirtual 136, 3) := by decide +kernel
theorem dX10_pull_5 : decode cX10_pull 5 = .ok (.ifCond .eq 16, 3) := by decide +kernel
theorem dX10_pull_8 : decode cX10_pull 8 = .ok (.aload_n 0, 1) := by decide +kernel
theorem dX10_pull_9 : decode cX10_pull 9 = .ok (.iload_n 2, 1) := by decide +kernel
theorem dX10_pull_10 : decode cX10_pull 10 = .ok (.invokevirtual 136, 3) := by decide +kernel
theorem dX10_pull_13 : decode cX10_pull 13 = .ok (.ifCond .eq 8, 3) := by decide +kernel
theorem dX10_pull_16 : decode cX10_pull 16 = .ok (.iload_n 1, 1) := by decide +kernel
theorem dX10_pull_17 : decode cX10_pull 17 = .ok (.iload_n 2, 1) := by decide +kernel
theorem dX10_pull_18 : decode cX10_pull 18 = .ok (.if_icmp .ne 7, 3) := by decide +kernel
theorem dX10_pull_21 : decode cX10_pull 21 = .ok (.iconst (-1), 1) := by decide +kernel
theorem dX10_pull_22 : decode cX10_pull 22 = .ok (.goto 14, 3) := by decide +kernel
theorem dX10_pull_25 : decode cX10_pull 25 = .ok (.iload_n 3, 1) := by decide +kernel
theorem dX10_pull_26 : decode cX10_pull 26 = .ok (.i2l, 1) := by decide +kernel
theorem dX10_pull_27 : decode cX10_pull 27 = .ok (.ldc2_w 140, 3) := by decide +kernel
theorem dX10_pull_30 : decode cX10_pull 30 = .ok (.ldc2_w 142, 3) := by decide +kernel
theorem dX10_pull_33 : decode cX10_pull 33 = .ok (.invokestatic 126, 3) := by decide +kernel
theorem dX10_pull_36 : decode cX10_pull 36 = .ok (.istore 4, 2) := by decide +kernel
theorem dX10_pull_38 : decode cX10_pull 38 = .ok (.iload 4, 2) := by decide +kernel
theorem dX10_pull_40 : decode cX10_pull 40 = .ok (.ifCond .eq 13, 3) := by decide +kernel
theorem dX10_pull_43 : decode cX10_pull 43 = .ok (.aload_n 0, 1) := by decide +kernel
theorem dX10_pull_44 : decode cX10_pull 44 = .ok (.iload 4, 2) := by decide +kernel
theorem dX10_pull_46 : decode cX10_pull 46 = .ok (.invokevirtual 120, 3) := by decide +kernel
theorem dX10_pull_49 : decode cX10_pull 49 = .ok (.bipush 100, 2) := by decide +kernel
theorem dX10_pull_51 : decode cX10_pull 51 = .ok (.isub, 1) := by decide +kernel
theorem dX10_pull_52 : decode cX10_pull 52 = .ok (.ireturn, 1) := by decide +kernel
theorem dX10_pull_53 : decode cX10_pull 53 = .ok (.aload_n 0, 1) := by decide +kernel
theorem dX10_pull_54 : decode cX10_pull 54 = .ok (.getfield 25, 3) := by decide +kernel
theorem dX10_pull_57 : decode cX10_pull 57 = .ok (.iconst 4, 1) := by decide +kernel
theorem dX10_pull_58 : decode cX10_pull 58 = .ok (.iload_n 1, 1) := by decide +kernel
theorem dX10_pull_59 : decode cX10_pull 59 = .ok (.imul, 1) := by decide +kernel
theorem dX10_pull_60 : decode cX10_pull 60 = .ok (.iload_n 2, 1) := by decide +kernel
theorem dX10_pull_61 : decode cX10_pull 61 = .ok (.iadd, 1) := by decide +kernel
theorem dX10_pull_62 : decode cX10_pull 62 = .ok (.iaload, 1) := by decide +kernel
theorem dX10_pull_63 : decode cX10_pull 63 = .ok (.istore 5, 2) := by decide +kernel
theorem dX10_pull_65 : decode cX10_pull 65 = .ok (.aload_n 0, 1) := by decide +kernel
theorem dX10_pull_66 : decode cX10_pull 66 = .ok (.getfield 25, 3) := by decide +kernel
theorem dX10_pull_69 : decode cX10_pull 69 = .ok (.iconst 4, 1) := by decide +kernel
theorem dX10_pull_70 : decode cX10_pull 70 = .ok (.iload_n 1, 1) := by decide +kernel
theorem dX10_pull_71 : decode cX10_pull 71 = .ok (.imul, 1) := by decide +kernel
theorem dX10_pull_72 : decode cX10_pull 72 = .ok (.iload_n 2, 1) := by decide +kernel
theorem dX10_pull_73 : decode cX10_pull 73 = .ok (.iadd, 1) := by decide +kernel
theorem dX10_pull_74 : decode cX10_pull 74 = .ok (.iload_n 3, 1) := by decide +kernel
theorem dX10_pull_75 : decode cX10_pull 75 = .ok (.iastore, 1) := by decide +kernel
theorem dX10_pull_76 : decode cX10_pull 76 = .ok (.iload 5, 2) := by decide +kernel
theorem dX10_pull_78 : decode cX10_pull 78 = .ok (.ireturn, 1) := by decide +kernel
theorem dX10_set_0 : decode cX10_set 0 = .ok (.iload_n 1, 1) := by decide +kernel
theorem dX10_set_1 : decode cX10_set 1 = .ok (.i2l, 1) := by decide +kernel
theorem dX10_set_2 : decode cX10_set 2 = .ok (.lconst 0, 1) := by decide +kernel
theorem dX10_set_3 : decode cX10_set 3 = .ok (.ldc2_w 144, 3) := by decide +kernel
theorem dX10_set_6 : decode cX10_set 6 = .ok (.invokestatic 116, 3) := by decide +kernel
theorem dX10_set_9 : decode cX10_set 9 = .ok (.ifCond .ne 10, 3) := by decide +kernel
theorem dX10_set_12 : decode cX10_set 12 = .ok (.aload_n 0, 1) := by decide +kernel
theorem dX10_set_13 : decode cX10_set 13 = .ok (.bipush (-2), 2) := by decide +kernel
theorem dX10_set_15 : decode cX10_set 15 = .ok (.invokevirtual 120, 3) := by decide +kernel
theorem dX10_set_18 : decode cX10_set 18 = .ok (.ireturn, 1) := by decide +kernel
theorem dX10_set_19 : decode cX10_set 19 = .ok (.iload_n 2, 1) := by decide +kernel
theorem dX10_set_20 : decode cX10_set 20 = .ok (.i2l, 1) := by decide +kernel
theorem dX10_set_21 : decode cX10_set 21 = .ok (.iload_n 1, 1) := by decide +kernel
theorem dX10_set_22 : decode cX10_set 22 = .ok (.iconst 1, 1) := by decide +kernel
theorem dX10_set_23 : decode cX10_set 23 = .ok (.if_icmp .ne 9, 3) := by decide +kernel
theorem dX10_set_26 : decode cX10_set 26 = .ok (.ldc2_w 130, 3) := by decide +kernel
theorem dX10_set_29 : decode cX10_set 29 = .ok (.goto 13, 3) := by decide +kernel
theorem dX10_set_32 : decode cX10_set 32 = .ok (.iload_n 1, 1) := by decide +kernel
theorem dX10_set_33 : decode cX10_set 33 = .ok (.iconst 2, 1) := by decide +kernel
theorem dX10_set_34 : decode cX10_set 34 = .ok (.if_icmp .ne 7, 3) := by decide +kernel
theorem dX10_set_37 : decode cX10_set 37 = .ok (.lconst 1, 1) := by decide +kernel
theorem dX10_set_38 : decode cX10_set 38 = .ok (.goto 4, 3) := by decide +kernel
theorem dX10_set_41 : decode cX10_set 41 = .ok (.lconst 0, 1) := by decide +kernel
theorem dX10_set_42 : decode cX10_set 42 = .ok (.iload_n 1, 1) := by decide +kernel
theorem dX10_set_43 : decode cX10_set 43 = .ok (.ifCond .ne 9, 3) := by decide +kernel
theorem dX10_set_46 : decode cX10_set 46 = .ok (.ldc2_w 146, 3) := by decide +kernel
theorem dX10_set_49 : decode cX10_set 49 = .ok (.goto 39, 3) := by decide +kernel
theorem dX10_set_52 : decode cX10_set 52 = .ok (.iload_n 1, 1) := by decide +kernel
theorem dX10_set_53 : decode cX10_set 53 = .ok (.iconst 1, 1) := by decide +kernel
theorem dX10_set_54 : decode cX10_set 54 = .ok (.if_icmp .ne 9, 3) := by decide +kernel
theorem dX10_set_57 : decode cX10_set 57 = .ok (.ldc2_w 148, 3) := by decide +kernel
theorem dX10_set_60 : decode cX10_set 60 = .ok (.goto 28, 3) := by decide +kernel
theorem dX10_set_63 : decode cX10_set 63 = .ok (.iload_n 1, 1) := by decide +kernel
theorem dX10_set_64 : decode cX10_set 64 = .ok (.iconst 2, 1) := by decide +kernel
theorem dX10_set_65 : decode cX10_set 65 = .ok (.if_icmp .ne 9, 3) := by decide +kernel
theorem dX10_set_68 : decode cX10_set 68 = .ok (.ldc2_w 150, 3) := by decide +kernel
theorem dX10_set_71 : decode cX10_set 71 = .ok (.goto 17, 3) := by decide +kernel
theorem dX10_set_74 : decode cX10_set 74 = .ok (.iload_n 1, 1) := by decide +kernel
theorem dX10_set_75 : decode cX10_set 75 = .ok (.iconst 3, 1) := by decide +kernel
theorem dX10_set_76 : decode cX10_set 76 = .ok (.if_icmp .ne 9, 3) := by decide +kernel
theorem dX10_set_79 : decode cX10_set 79 = .ok (.ldc2_w 134, 3) := by decide +kernel
theorem dX10_set_82 : decode cX10_set 82 = .ok (.goto 6, 3) := by decide +kernel
theorem dX10_set_85 : decode cX10_set 85 = .ok (.ldc2_w 152, 3) := by decide +kernel
theorem dX10_set_88 : decode cX10_set 88 = .ok (.invokestatic 126, 3) := by decide +kernel
theorem dX10_set_91 : decode cX10_set 91 = .ok (.istore_n 3, 1) := by decide +kernel
theorem dX10_set_92 : decode cX10_set 92 = .ok (.iload_n 3, 1) := by decide +kernel
theorem dX10_set_93 : decode cX10_set 93 = .ok (.ifCond .eq 9, 3) := by decide +kernel
theorem dX10_set_96 : decode cX10_set 96 = .ok (.aload_n 0, 1) := by decide +kernel
theorem dX10_set_97 : decode cX10_set 97 = .ok (.iload_n 3, 1) := by decide +kernel
theorem dX10_set_98 : decode cX10_set 98 = .ok (.invokevirtual 120, 3) := by decide +kernel
theorem dX10_set_101 : decode cX10_set 101 = .ok (.ireturn, 1) := by decide +kernel
theorem dX10_set_102 : decode cX10_set 102 = .ok (.aload_n 0, 1) := by decide +kernel
theorem dX10_set_103 : decode cX10_set 103 = .ok (.getfield 28, 3) := by decide +kernel
theorem dX10_set_106 : decode cX10_set 106 = .ok (.iload_n 1, 1) := by decide +kernel
theorem dX10_set_107 : decode cX10_set 107 = .ok (.iaload, 1) := by decide +kernel
theorem dX10_set_108 : decode cX10_set 108 = .ok (.istore 4, 2) := by decide +kernel
theorem dX10_set_110 : decode cX10_set 110 = .ok (.aload_n 0, 1) := by decide +kernel
theorem dX10_set_111 : decode cX10_set 111 = .ok (.getfield 28, 3) := by decide +kernel
theorem dX10_set_114 : decode cX10_set 114 = .ok (.iload_n 1, 1) := by decide +kernel
theorem dX10_set_115 : decode cX10_set 115 = .ok (.iload_n 2, 1) := by decide +kernel
theorem dX10_set_116 : decode cX10_set 116 = .ok (.iastore, 1) := by decide +kernel
theorem dX10_set_117 : decode cX10_set 117 = .ok (.iload 4, 2) := by decide +kernel
theorem dX10_set_119 : decode cX10_set 119 = .ok (.ireturn, 1) := by decide +kernel
theorem dX10_waveOf_0 : decode cX10_waveOf 0 = .ok (.aload_n 0, 1) := by decide +kernel
theorem dX10_waveOf_1 : decode cX10_waveOf 1 = .ok (.getfield 35, 3) := by decide +kernel
theorem dX10_waveOf_4 : decode cX10_waveOf 4 = .ok (.iload_n 1, 1) := by decide +kernel
theorem dX10_waveOf_5 : decode cX10_waveOf 5 = .ok (.bipush 8, 2) := by decide +kernel
theorem dX10_waveOf_7 : decode cX10_waveOf 7 = .ok (.irem, 1) := by decide +kernel
theorem dX10_waveOf_8 : decode cX10_waveOf 8 = .ok (.iaload, 1) := by decide +kernel
theorem dX10_waveOf_9 : decode cX10_waveOf 9 = .ok (.ireturn, 1) := by decide +kernel
theorem dX10_farOf_0 : decode cX10_farOf 0 = .ok (.lload_n 1, 1) := by decide +kernel
theorem dX10_farOf_1 : decode cX10_farOf 1 = .ok (.aload_n 0, 1) := by decide +kernel
theorem dX10_farOf_2 : decode cX10_farOf 2 = .ok (.getfield 28, 3) := by decide +kernel
theorem dX10_farOf_5 : decode cX10_farOf 5 = .ok (.iconst 1, 1) := by decide +kernel
theorem dX10_farOf_6 : decode cX10_farOf 6 = .ok (.iaload, 1) := by decide +kernel
theorem dX10_farOf_7 : decode cX10_farOf 7 = .ok (.i2l, 1) := by decide +kernel
theorem dX10_farOf_8 : decode cX10_farOf 8 = .ok (.lrem, 1) := by decide +kernel
theorem dX10_farOf_9 : decode cX10_farOf 9 = .ok (.ldc2_w 146, 3) := by decide +kernel
theorem dX10_farOf_12 : decode cX10_farOf 12 = .ok (.lmul, 1) := by decide +kernel
theorem dX10_farOf_13 : decode cX10_farOf 13 = .ok (.aload_n 0, 1) := by decide +kernel
theorem dX10_farOf_14 : decode cX10_farOf 14 = .ok (.getfield 28, 3) := by decide +kernel
theorem dX10_farOf_17 : decode cX10_farOf 17 = .ok (.iconst 1, 1) := by decide +kernel
theorem dX10_farOf_18 : decode cX10_farOf 18 = .ok (.iaload, 1) := by decide +kernel
theorem dX10_farOf_19 : decode cX10_farOf 19 = .ok (.i2l, 1) := by decide +kernel
theorem dX10_farOf_20 : decode cX10_farOf 20 = .ok (.ldiv, 1) := by decide +kernel
theorem dX10_farOf_21 : decode cX10_farOf 21 = .ok (.lstore_n 3, 1) := by decide +kernel
theorem dX10_farOf_22 : decode cX10_farOf 22 = .ok (.lload_n 3, 1) := by decide +kernel
theorem dX10_farOf_23 : decode cX10_farOf 23 = .ok (.ldc2_w 146, 3) := by decide +kernel
theorem dX10_farOf_26 : decode cX10_farOf 26 = .ok (.lload_n 3, 1) := by decide +kernel
theorem dX10_farOf_27 : decode cX10_farOf 27 = .ok (.lsub, 1) := by decide +kernel
theorem dX10_farOf_28 : decode cX10_farOf 28 = .ok (.lcmp, 1) := by decide +kernel
theorem dX10_farOf_29 : decode cX10_farOf 29 = .ok (.ifCond .ge 7, 3) := by decide +kernel
theorem dX10_farOf_32 : decode cX10_farOf 32 = .ok (.lload_n 3, 1) := by decide +kernel
theorem dX10_farOf_33 : decode cX10_farOf 33 = .ok (.goto 8, 3) := by decide +kernel
theorem dX10_farOf_36 : decode cX10_farOf 36 = .ok (.ldc2_w 146, 3) := by decide +kernel
theorem dX10_farOf_39 : decode cX10_farOf 39 = .ok (.lload_n 3, 1) := by decide +kernel
theorem dX10_farOf_40 : decode cX10_farOf 40 = .ok (.lsub, 1) := by decide +kernel
theorem dX10_farOf_41 : decode cX10_farOf 41 = .ok (.lreturn, 1) := by decide +kernel
theorem dX10_fadingOf_0 : decode cX10_fadingOf 0 = .ok (.aload_n 0, 1) := by decide +kernel
theorem dX10_fadingOf_1 : decode cX10_fadingOf 1 = .ok (.getfield 13, 3) := by decide +kernel
theorem dX10_fadingOf_4 : decode cX10_fadingOf 4 = .ok (.iload_n 1, 1) := by decide +kernel
theorem dX10_fadingOf_5 : decode cX10_fadingOf 5 = .ok (.iaload, 1) := by decide +kernel
theorem dX10_fadingOf_6 : decode cX10_fadingOf 6 = .ok (.i2l, 1) := by decide +kernel
theorem dX10_fadingOf_7 : decode cX10_fadingOf 7 = .ok (.iload_n 2, 1) := by decide +kernel
theorem dX10_fadingOf_8 : decode cX10_fadingOf 8 = .ok (.i2l, 1) := by decide +kernel
theorem dX10_fadingOf_9 : decode cX10_fadingOf 9 = .ok (.aload_n 0, 1) := by decide +kernel
theorem dX10_fadingOf_10 : decode cX10_fadingOf 10 = .ok (.getfield 16, 3) := by decide +kernel
theorem dX10_fadingOf_13 : decode cX10_fadingOf 13 = .ok (.iload_n 1, 1) := by decide +kernel
theorem dX10_fadingOf_14 : decode cX10_fadingOf 14 = .ok (.iaload, 1) := by decide +kernel
theorem dX10_fadingOf_15 : decode cX10_fadingOf 15 = .ok (.i2l, 1) := by decide +kernel
theorem dX10_fadingOf_16 : decode cX10_fadingOf 16 = .ok (.lmul, 1) := by decide +kernel
theorem dX10_fadingOf_17 : decode cX10_fadingOf 17 = .ok (.ladd, 1) := by decide +kernel
theorem dX10_fadingOf_18 : decode cX10_fadingOf 18 = .ok (.aload_n 0, 1) := by decide +kernel
theorem dX10_fadingOf_19 : decode cX10_fadingOf 19 = .ok (.getfield 19, 3) := by decide +kernel
theorem dX10_fadingOf_22 : decode cX10_fadingOf 22 = .ok (.iload_n 1, 1) := by decide +kernel
