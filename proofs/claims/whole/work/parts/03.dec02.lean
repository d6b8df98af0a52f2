theorem dX10_fadingOf_23 : decode cX10_fadingOf 23 = .ok (.iaload, 1) := by decide +kernel
theorem dX10_fadingOf_24 : decode cX10_fadingOf 24 = .ok (.aload_n 0, 1) := by decide +kernel
theorem dX10_fadingOf_25 : decode cX10_fadingOf 25 = .ok (.iload_n 2, 1) := by decide +kernel
theorem dX10_fadingOf_26 : decode cX10_fadingOf 26 = .ok (.invokevirtual 154, 3) := by decide +kernel
theorem dX10_fadingOf_29 : decode cX10_fadingOf 29 = .ok (.imul, 1) := by decide +kernel
theorem dX10_fadingOf_30 : decode cX10_fadingOf 30 = .ok (.i2l, 1) := by decide +kernel
theorem dX10_fadingOf_31 : decode cX10_fadingOf 31 = .ok (.ladd, 1) := by decide +kernel
theorem dX10_fadingOf_32 : decode cX10_fadingOf 32 = .ok (.lstore 4, 2) := by decide +kernel
theorem dX10_fadingOf_34 : decode cX10_fadingOf 34 = .ok (.iconst 0, 1) := by decide +kernel
theorem dX10_fadingOf_35 : decode cX10_fadingOf 35 = .ok (.istore 6, 2) := by decide +kernel
theorem dX10_fadingOf_37 : decode cX10_fadingOf 37 = .ok (.iload 6, 2) := by decide +kernel
theorem dX10_fadingOf_39 : decode cX10_fadingOf 39 = .ok (.iconst 4, 1) := by decide +kernel
theorem dX10_fadingOf_40 : decode cX10_fadingOf 40 = .ok (.if_icmp .ge 57, 3) := by decide +kernel
theorem dX10_fadingOf_43 : decode cX10_fadingOf 43 = .ok (.lload 4, 2) := by decide +kernel
theorem dX10_fadingOf_45 : decode cX10_fadingOf 45 = .ok (.iload 6, 2) := by decide +kernel
theorem dX10_fadingOf_47 : decode cX10_fadingOf 47 = .ok (.iload_n 1, 1) := by decide +kernel
theorem dX10_fadingOf_48 : decode cX10_fadingOf 48 = .ok (.if_icmp .eq 39, 3) := by decide +kernel
theorem dX10_fadingOf_51 : decode cX10_fadingOf 51 = .ok (.aload_n 0, 1) := by decide +kernel
theorem dX10_fadingOf_52 : decode cX10_fadingOf 52 = .ok (.getfield 31, 3) := by decide +kernel
theorem dX10_fadingOf_55 : decode cX10_fadingOf 55 = .ok (.iload 6, 2) := by decide +kernel
theorem dX10_fadingOf_57 : decode cX10_fadingOf 57 = .ok (.baload, 1) := by decide +kernel
theorem dX10_fadingOf_58 : decode cX10_fadingOf 58 = .ok (.ifCond .eq 29, 3) := by decide +kernel
theorem dX10_fadingOf_61 : decode cX10_fadingOf 61 = .ok (.aload_n 0, 1) := by decide +kernel
theorem dX10_fadingOf_62 : decode cX10_fadingOf 62 = .ok (.getfield 25, 3) := by decide +kernel
theorem dX10_fadingOf_65 : decode cX10_fadingOf 65 = .ok (.iconst 4, 1) := by decide +kernel
theorem dX10_fadingOf_66 : decode cX10_fadingOf 66 = .ok (.iload_n 1, 1) := by decide +kernel
theorem dX10_fadingOf_67 : decode cX10_fadingOf 67 = .ok (.imul, 1) := by decide +kernel
theorem dX10_fadingOf_68 : decode cX10_fadingOf 68 = .ok (.iload 6, 2) := by decide +kernel
theorem dX10_fadingOf_70 : decode cX10_fadingOf 70 = .ok (.iadd, 1) := by decide +kernel
theorem dX10_fadingOf_71 : decode cX10_fadingOf 71 = .ok (.iaload, 1) := by decide +kernel
theorem dX10_fadingOf_72 : decode cX10_fadingOf 72 = .ok (.aload_n 0, 1) := by decide +kernel
theorem dX10_fadingOf_73 : decode cX10_fadingOf 73 = .ok (.iload_n 2, 1) := by decide +kernel
theorem dX10_fadingOf_74 : decode cX10_fadingOf 74 = .ok (.iload 6, 2) := by decide +kernel
theorem dX10_fadingOf_76 : decode cX10_fadingOf 76 = .ok (.iconst 1, 1) := by decide +kernel
theorem dX10_fadingOf_77 : decode cX10_fadingOf 77 = .ok (.iadd, 1) := by decide +kernel
theorem dX10_fadingOf_78 : decode cX10_fadingOf 78 = .ok (.imul, 1) := by decide +kernel
theorem dX10_fadingOf_79 : decode cX10_fadingOf 79 = .ok (.invokevirtual 154, 3) := by decide +kernel
theorem dX10_fadingOf_82 : decode cX10_fadingOf 82 = .ok (.imul, 1) := by decide +kernel
theorem dX10_fadingOf_83 : decode cX10_fadingOf 83 = .ok (.i2l, 1) := by decide +kernel
theorem dX10_fadingOf_84 : decode cX10_fadingOf 84 = .ok (.goto 4, 3) := by decide +kernel
theorem dX10_fadingOf_87 : decode cX10_fadingOf 87 = .ok (.lconst 0, 1) := by decide +kernel
theorem dX10_fadingOf_88 : decode cX10_fadingOf 88 = .ok (.ladd, 1) := by decide +kernel
theorem dX10_fadingOf_89 : decode cX10_fadingOf 89 = .ok (.lstore 4, 2) := by decide +kernel
theorem dX10_fadingOf_91 : decode cX10_fadingOf 91 = .ok (.iinc 6 1, 3) := by decide +kernel
theorem dX10_fadingOf_94 : decode cX10_fadingOf 94 = .ok (.goto (-57), 3) := by decide +kernel
theorem dX10_fadingOf_97 : decode cX10_fadingOf 97 = .ok (.iload_n 3, 1) := by decide +kernel
theorem dX10_fadingOf_98 : decode cX10_fadingOf 98 = .ok (.ifCond .eq 27, 3) := by decide +kernel
theorem dX10_fadingOf_101 : decode cX10_fadingOf 101 = .ok (.lload 4, 2) := by decide +kernel
theorem dX10_fadingOf_103 : decode cX10_fadingOf 103 = .ok (.aload_n 0, 1) := by decide +kernel
theorem dX10_fadingOf_104 : decode cX10_fadingOf 104 = .ok (.getfield 28, 3) := by decide +kernel
theorem dX10_fadingOf_107 : decode cX10_fadingOf 107 = .ok (.iconst 0, 1) := by decide +kernel
theorem dX10_fadingOf_108 : decode cX10_fadingOf 108 = .ok (.iaload, 1) := by decide +kernel
theorem dX10_fadingOf_109 : decode cX10_fadingOf 109 = .ok (.i2l, 1) := by decide +kernel
theorem dX10_fadingOf_110 : decode cX10_fadingOf 110 = .ok (.aload_n 0, 1) := by decide +kernel
theorem dX10_fadingOf_111 : decode cX10_fadingOf 111 = .ok (.lload 4, 2) := by decide +kernel
theorem dX10_fadingOf_113 : decode cX10_fadingOf 113 = .ok (.invokevirtual 157, 3) := by decide +kernel
theorem dX10_fadingOf_116 : decode cX10_fadingOf 116 = .ok (.lmul, 1) := by decide +kernel
theorem dX10_fadingOf_117 : decode cX10_fadingOf 117 = .ok (.ldc2_w 130, 3) := by decide +kernel
theorem dX10_fadingOf_120 : decode cX10_fadingOf 120 = .ok (.ldiv, 1) := by decide +kernel
theorem dX10_fadingOf_121 : decode cX10_fadingOf 121 = .ok (.ladd, 1) := by decide +kernel
theorem dX10_fadingOf_122 : decode cX10_fadingOf 122 = .ok (.goto 5, 3) := by decide +kernel
theorem dX10_fadingOf_125 : decode cX10_fadingOf 125 = .ok (.lload 4, 2) := by decide +kernel
theorem dX10_fadingOf_127 : decode cX10_fadingOf 127 = .ok (.lreturn, 1) := by decide +kernel
theorem dX10_fading_0 : decode cX10_fading 0 = .ok (.aload_n 0, 1) := by decide +kernel
theorem dX10_fading_1 : decode cX10_fading 1 = .ok (.iload_n 1, 1) := by decide +kernel
theorem dX10_fading_2 : decode cX10_fading 2 = .ok (.invokevirtual 136, 3) := by decide +kernel
theorem dX10_fading_5 : decode cX10_fading 5 = .ok (.ifCond .ne 9, 3) := by decide +kernel
theorem dX10_fading_8 : decode cX10_fading 8 = .ok (.aload_n 0, 1) := by decide +kernel
theorem dX10_fading_9 : decode cX10_fading 9 = .ok (.iconst (-1), 1) := by decide +kernel
theorem dX10_fading_10 : decode cX10_fading 10 = .ok (.invokevirtual 161, 3) := by decide +kernel
theorem dX10_fading_13 : decode cX10_fading 13 = .ok (.lreturn, 1) := by decide +kernel
theorem dX10_fading_14 : decode cX10_fading 14 = .ok (.iload_n 2, 1) := by decide +kernel
theorem dX10_fading_15 : decode cX10_fading 15 = .ok (.i2l, 1) := by decide +kernel
theorem dX10_fading_16 : decode cX10_fading 16 = .ok (.lconst 0, 1) := by decide +kernel
theorem dX10_fading_17 : decode cX10_fading 17 = .ok (.ldc2_w 152, 3) := by decide +kernel
theorem dX10_fading_20 : decode cX10_fading 20 = .ok (.invokestatic 126, 3) := by decide +kernel
theorem dX10_fading_23 : decode cX10_fading 23 = .ok (.istore 4, 2) := by decide +kernel
theorem dX10_fading_25 : decode cX10_fading 25 = .ok (.iload 4, 2) := by decide +kernel
theorem dX10_fading_27 : decode cX10_fading 27 = .ok (.ifCond .eq 12, 3) := by decide +kernel
theorem dX10_fading_30 : decode cX10_fading 30 = .ok (.aload_n 0, 1) := by decide +kernel
theorem dX10_fading_31 : decode cX10_fading 31 = .ok (.iload 4, 2) := by decide +kernel
theorem dX10_fading_33 : decode cX10_fading 33 = .ok (.invokevirtual 161, 3) := by decide +kernel
theorem dX10_fading_36 : decode cX10_fading 36 = .ok (.goto 10, 3) := by decide +kernel
theorem dX10_fading_39 : decode cX10_fading 39 = .ok (.aload_n 0, 1) := by decide +kernel
theorem dX10_fading_40 : decode cX10_fading 40 = .ok (.iload_n 1, 1) := by decide +kernel
theorem dX10_fading_41 : decode cX10_fading 41 = .ok (.iload_n 2, 1) := by decide +kernel
theorem dX10_fading_42 : decode cX10_fading 42 = .ok (.iload_n 3, 1) := by decide +kernel
theorem dX10_fading_43 : decode cX10_fading 43 = .ok (.invokevirtual 165, 3) := by decide +kernel
theorem dX10_fading_46 : decode cX10_fading 46 = .ok (.lreturn, 1) := by decide +kernel
theorem dX10_far_0 : decode cX10_far 0 = .ok (.iload_n 1, 1) := by decide +kernel
theorem dX10_far_1 : decode cX10_far 1 = .ok (.i2l, 1) := by decide +kernel
theorem dX10_far_2 : decode cX10_far 2 = .ok (.lconst 0, 1) := by decide +kernel
theorem dX10_far_3 : decode cX10_far 3 = .ok (.ldc2_w 169, 3) := by decide +kernel
theorem dX10_far_6 : decode cX10_far 6 = .ok (.invokestatic 126, 3) := by decide +kernel
theorem dX10_far_9 : decode cX10_far 9 = .ok (.istore_n 2, 1) := by decide +kernel
theorem dX10_far_10 : decode cX10_far 10 = .ok (.iload_n 2, 1) := by decide +kernel
theorem dX10_far_11 : decode cX10_far 11 = .ok (.ifCond .eq 11, 3) := by decide +kernel
theorem dX10_far_14 : decode cX10_far 14 = .ok (.aload_n 0, 1) := by decide +kernel
theorem dX10_far_15 : decode cX10_far 15 = .ok (.iload_n 2, 1) := by decide +kernel
theorem dX10_far_16 : decode cX10_far 16 = .ok (.invokevirtual 120, 3) := by decide +kernel
theorem dX10_far_19 : decode cX10_far 19 = .ok (.goto 10, 3) := by decide +kernel
theorem dX10_far_22 : decode cX10_far 22 = .ok (.aload_n 0, 1) := by decide +kernel
theorem dX10_far_23 : decode cX10_far 23 = .ok (.iload_n 1, 1) := by decide +kernel
theorem dX10_far_24 : decode cX10_far 24 = .ok (.i2l, 1) := by decide +kernel
theorem dX10_far_25 : decode cX10_far 25 = .ok (.invokevirtual 157, 3) := by decide +kernel
theorem dX10_far_28 : decode cX10_far 28 = .ok (.l2i, 1) := by decide +kernel
theorem dX10_far_29 : decode cX10_far 29 = .ok (.ireturn, 1) := by decide +kernel
theorem dX10_tool_0 : decode cX10_tool 0 = .ok (.iload_n 1, 1) := by decide +kernel
theorem dX10_tool_1 : decode cX10_tool 1 = .ok (.i2l, 1) := by decide +kernel
theorem dX10_tool_2 : decode cX10_tool 2 = .ok (.lconst 0, 1) := by decide +kernel
theorem dX10_tool_3 : decode cX10_tool 3 = .ok (.ldc2_w 114, 3) := by decide +kernel
theorem dX10_tool_6 : decode cX10_tool 6 = .ok (.invokestatic 116, 3) := by decide +kernel
theorem dX10_tool_9 : decode cX10_tool 9 = .ok (.ifCond .ne 10, 3) := by decide +kernel
theorem dX10_tool_12 : decode cX10_tool 12 = .ok (.aload_n 0, 1) := by decide +kernel
theorem dX10_tool_13 : decode cX10_tool 13 = .ok (.bipush (-2), 2) := by decide +kernel
theorem dX10_tool_15 : decode cX10_tool 15 = .ok (.invokevirtual 120, 3) := by decide +kernel
theorem dX10_tool_18 : decode cX10_tool 18 = .ok (.ireturn, 1) := by decide +kernel
theorem dX10_tool_19 : decode cX10_tool 19 = .ok (.iload_n 2, 1) := by decide +kernel
theorem dX10_tool_20 : decode cX10_tool 20 = .ok (.i2l, 1) := by decide +kernel
theorem dX10_tool_21 : decode cX10_tool 21 = .ok (.lconst 0, 1) := by decide +kernel
theorem dX10_tool_22 : decode cX10_tool 22 = .ok (.iload_n 1, 1) := by decide +kernel
theorem dX10_tool_23 : decode cX10_tool 23 = .ok (.ifCond .ne 9, 3) := by decide +kernel
theorem dX10_tool_26 : decode cX10_tool 26 = .ok (.ldc2_w 171, 3) := by decide +kernel
theorem dX10_tool_29 : decode cX10_tool 29 = .ok (.goto 6, 3) := by decide +kernel
theorem dX10_tool_32 : decode cX10_tool 32 = .ok (.ldc2_w 114, 3) := by decide +kernel
theorem dX10_tool_35 : decode cX10_tool 35 = .ok (.invokestatic 116, 3) := by decide +kernel
theorem dX10_tool_38 : decode cX10_tool 38 = .ok (.ifCond .ne 9, 3) := by decide +kernel
theorem dX10_tool_41 : decode cX10_tool 41 = .ok (.aload_n 0, 1) := by decide +kernel
theorem dX10_tool_42 : decode cX10_tool 42 = .ok (.iconst (-1), 1) := by decide +kernel
theorem dX10_tool_43 : decode cX10_tool 43 = .ok (.invokevirtual 120, 3) := by decide +kernel
theorem dX10_tool_46 : decode cX10_tool 46 = .ok (.ireturn, 1) := by decide +kernel
theorem dX10_tool_47 : decode cX10_tool 47 = .ok (.iload_n 1, 1) := by decide +kernel
theorem dX10_tool_48 : decode cX10_tool 48 = .ok (.iconst 2, 1) := by decide +kernel
theorem dX10_tool_49 : decode cX10_tool 49 = .ok (.if_icmp .ne 15, 3) := by decide +kernel
theorem dX10_tool_52 : decode cX10_tool 52 = .ok (.iload_n 3, 1) := by decide +kernel
theorem dX10_tool_53 : decode cX10_tool 53 = .ok (.i2l, 1) := by decide +kernel
theorem dX10_tool_54 : decode cX10_tool 54 = .ok (.lconst 0, 1) := by decide +kernel
theorem dX10_tool_55 : decode cX10_tool 55 = .ok (.ldc2_w 173, 3) := by decide +kernel
theorem dX10_tool_58 : decode cX10_tool 58 = .ok (.invokestatic 126, 3) := by decide +kernel
theorem dX10_tool_61 : decode cX10_tool 61 = .ok (.goto 33, 3) := by decide +kernel
theorem dX10_tool_64 : decode cX10_tool 64 = .ok (.iload_n 1, 1) := by decide +kernel
theorem dX10_tool_65 : decode cX10_tool 65 = .ok (.iconst 3, 1) := by decide +kernel
theorem dX10_tool_66 : decode cX10_tool 66 = .ok (.if_icmp .ne 17, 3) := by decide +kernel
theorem dX10_tool_69 : decode cX10_tool 69 = .ok (.iload_n 3, 1) := by decide +kernel
theorem dX10_tool_70 : decode cX10_tool 70 = .ok (.i2l, 1) := by decide +kernel
theorem dX10_tool_71 : decode cX10_tool 71 = .ok (.ldc2_w 175, 3) := by decide +kernel
theorem dX10_tool_74 : decode cX10_tool 74 = .ok (.ldc2_w 177, 3) := by decide +kernel
theorem dX10_tool_77 : decode cX10_tool 77 = .ok (.invokestatic 126, 3) := by decide +kernel
theorem dX10_tool_80 : decode cX10_tool 80 = .ok (.goto 14, 3) := by decide +kernel
theorem dX10_tool_83 : decode cX10_tool 83 = .ok (.iload_n 3, 1) := by decide +kernel
theorem dX10_tool_84 : decode cX10_tool 84 = .ok (.i2l, 1) := by decide +kernel
theorem dX10_tool_85 : decode cX10_tool 85 = .ok (.ldc2_w 179, 3) := by decide +kernel
theorem dX10_tool_88 : decode cX10_tool 88 = .ok (.ldc2_w 132, 3) := by decide +kernel
theorem dX10_tool_91 : decode cX10_tool 91 = .ok (.invokestatic 126, 3) := by decide +kernel
theorem dX10_tool_94 : decode cX10_tool 94 = .ok (.istore 4, 2) := by decide +kernel
theorem dX10_tool_96 : decode cX10_tool 96 = .ok (.iload 4, 2) := by decide +kernel
theorem dX10_tool_98 : decode cX10_tool 98 = .ok (.ifCond .eq 10, 3) := by decide +kernel
theorem dX10_tool_101 : decode cX10_tool 101 = .ok (.aload_n 0, 1) := by decide +kernel
theorem dX10_tool_102 : decode cX10_tool 102 = .ok (.iload 4, 2) := by decide +kernel
theorem dX10_tool_104 : decode cX10_tool 104 = .ok (.invokevirtual 120, 3) := by decide +kernel
theorem dX10_tool_107 : decode cX10_tool 107 = .ok (.ireturn, 1) := by decide +kernel
theorem dX10_tool_108 : decode cX10_tool 108 = .ok (.iload_n 1, 1) := by decide +kernel
theorem dX10_tool_109 : decode cX10_tool 109 = .ok (.ifCond .ne 10, 3) := by decide +kernel
theorem dX10_tool_112 : decode cX10_tool 112 = .ok (.aload_n 0, 1) := by decide +kernel
theorem dX10_tool_113 : decode cX10_tool 113 = .ok (.getfield 38, 3) := by decide +kernel
theorem dX10_tool_116 : decode cX10_tool 116 = .ok (.iload_n 2, 1) := by decide +kernel
theorem dX10_tool_117 : decode cX10_tool 117 = .ok (.iload_n 3, 1) := by decide +kernel
theorem dX10_tool_118 : decode cX10_tool 118 = .ok (.iastore, 1) := by decide +kernel
theorem dX10_tool_119 : decode cX10_tool 119 = .ok (.iload_n 1, 1) := by decide +kernel
theorem dX10_tool_120 : decode cX10_tool 120 = .ok (.iconst 1, 1) := by decide +kernel
theorem dX10_tool_121 : decode cX10_tool 121 = .ok (.if_icmp .ne 10, 3) := by decide +kernel
theorem dX10_tool_124 : decode cX10_tool 124 = .ok (.aload_n 0, 1) := by decide +kernel
theorem dX10_tool_125 : decode cX10_tool 125 = .ok (.getfield 41, 3) := by decide +kernel
theorem dX10_tool_128 : decode cX10_tool 128 = .ok (.iload_n 2, 1) := by decide +kernel
theorem dX10_tool_129 : decode cX10_tool 129 = .ok (.iload_n 3, 1) := by decide +kernel
theorem dX10_tool_130 : decode cX10_tool 130 = .ok (.iastore, 1) := by decide +kernel
theorem dX10_tool_131 : decode cX10_tool 131 = .ok (.iload_n 1, 1) := by decide +kernel
theorem dX10_tool_132 : decode cX10_tool 132 = .ok (.iconst 2, 1) := by decide +kernel
theorem dX10_tool_133 : decode cX10_tool 133 = .ok (.if_icmp .ne 10, 3) := by decide +kernel
theorem dX10_tool_136 : decode cX10_tool 136 = .ok (.aload_n 0, 1) := by decide +kernel
theorem dX10_tool_137 : decode cX10_tool 137 = .ok (.getfield 44, 3) := by decide +kernel
theorem dX10_tool_140 : decode cX10_tool 140 = .ok (.iload_n 2, 1) := by decide +kernel
theorem dX10_tool_141 : decode cX10_tool 141 = .ok (.iload_n 3, 1) := by decide +kernel
theorem dX10_tool_142 : decode cX10_tool 142 = .ok (.iastore, 1) := by decide +kernel
theorem dX10_tool_143 : decode cX10_tool 143 = .ok (.iload_n 1, 1) := by decide +kernel
theorem dX10_tool_144 : decode cX10_tool 144 = .ok (.iconst 3, 1) := by decide +kernel
theorem dX10_tool_145 : decode cX10_tool 145 = .ok (.if_icmp .ne 10, 3) := by decide +kernel
theorem dX10_tool_148 : decode cX10_tool 148 = .ok (.aload_n 0, 1) := by decide +kernel
theorem dX10_tool_149 : decode cX10_tool 149 = .ok (.getfield 47, 3) := by decide +kernel
theorem dX10_tool_152 : decode cX10_tool 152 = .ok (.iload_n 2, 1) := by decide +kernel
theorem dX10_tool_153 : decode cX10_tool 153 = .ok (.iload_n 3, 1) := by decide +kernel
theorem dX10_tool_154 : decode cX10_tool 154 = .ok (.iastore, 1) := by decide +kernel
theorem dX10_tool_155 : decode cX10_tool 155 = .ok (.iconst 1, 1) := by decide +kernel
theorem dX10_tool_156 : decode cX10_tool 156 = .ok (.ireturn, 1) := by decide +kernel
theorem dX10_tells_0 : decode cX10_tells 0 = .ok (.aload_n 0, 1) := by decide +kernel
theorem dX10_tells_1 : decode cX10_tells 1 = .ok (.getfield 50, 3) := by decide +kernel
theorem dX10_tells_4 : decode cX10_tells 4 = .ok (.aload_n 0, 1) := by decide +kernel
theorem dX10_tells_5 : decode cX10_tells 5 = .ok (.getfield 181, 3) := by decide +kernel
theorem dX10_tells_8 : decode cX10_tells 8 = .ok (.iload_n 1, 1) := by decide +kernel
theorem dX10_tells_9 : decode cX10_tells 9 = .ok (.iastore, 1) := by decide +kernel
theorem dX10_tells_10 : decode cX10_tells 10 = .ok (.aload_n 0, 1) := by decide +kernel
theorem dX10_tells_11 : decode cX10_tells 11 = .ok (.getfield 53, 3) := by decide +kernel
theorem dX10_tells_14 : decode cX10_tells 14 = .ok (.aload_n 0, 1) := by decide +kernel
theorem dX10_tells_15 : decode cX10_tells 15 = .ok (.getfield 181, 3) := by decide +kernel
theorem dX10_tells_18 : decode cX10_tells 18 = .ok (.iload_n 2, 1) := by decide +kernel
theorem dX10_tells_19 : decode cX10_tells 19 = .ok (.iastore, 1) := by decide +kernel
theorem dX10_tells_20 : decode cX10_tells 20 = .ok (.aload_n 0, 1) := by decide +kernel
theorem dX10_tells_21 : decode cX10_tells 21 = .ok (.getfield 56, 3) := by decide +kernel
theorem dX10_tells_24 : decode cX10_tells 24 = .ok (.aload_n 0, 1) := by decide +kernel
theorem dX10_tells_25 : decode cX10_tells 25 = .ok (.getfield 181, 3) := by decide +kernel
theorem dX10_tells_28 : decode cX10_tells 28 = .ok (.iload_n 3, 1) := by decide +kernel
theorem dX10_tells_29 : decode cX10_tells 29 = .ok (.iastore, 1) := by decide +kernel
theorem dX10_tells_30 : decode cX10_tells 30 = .ok (.aload_n 0, 1) := by decide +kernel
theorem dX10_tells_31 : decode cX10_tells 31 = .ok (.getfield 59, 3) := by decide +kernel
theorem dX10_tells_34 : decode cX10_tells 34 = .ok (.aload_n 0, 1) := by decide +kernel
theorem dX10_tells_35 : decode cX10_tells 35 = .ok (.getfield 181, 3) := by decide +kernel
theorem dX10_tells_38 : decode cX10_tells 38 = .ok (.iload 4, 2) := by decide +kernel
theorem dX10_tells_40 : decode cX10_tells 40 = .ok (.iastore, 1) := by decide +kernel
theorem dX10_tells_41 : decode cX10_tells 41 = .ok (.aload_n 0, 1) := by decide +kernel
theorem dX10_tells_42 : decode cX10_tells 42 = .ok (.getfield 62, 3) := by decide +kernel
theorem dX10_tells_45 : decode cX10_tells 45 = .ok (.aload_n 0, 1) := by decide +kernel
theorem dX10_tells_46 : decode cX10_tells 46 = .ok (.getfield 181, 3) := by decide +kernel
theorem dX10_tells_49 : decode cX10_tells 49 = .ok (.iload 5, 2) := by decide +kernel
theorem dX10_tells_51 : decode cX10_tells 51 = .ok (.iastore, 1) := by decide +kernel
theorem dX10_tells_52 : decode cX10_tells 52 = .ok (.aload_n 0, 1) := by decide +kernel
theorem dX10_tells_53 : decode cX10_tells 53 = .ok (.getfield 65, 3) := by decide +kernel
theorem dX10_tells_56 : decode cX10_tells 56 = .ok (.aload_n 0, 1) := by decide +kernel
theorem dX10_tells_57 : decode cX10_tells 57 = .ok (.getfield 181, 3) := by decide +kernel
theorem dX10_tells_60 : decode cX10_tells 60 = .ok (.iload 6, 2) := by decide +kernel
theorem dX10_tells_62 : decode cX10_tells 62 = .ok (.iastore, 1) := by decide +kernel
theorem dX10_tells_63 : decode cX10_tells 63 = .ok (.aload_n 0, 1) := by decide +kernel
theorem dX10_tells_64 : decode cX10_tells 64 = .ok (.getfield 68, 3) := by decide +kernel
theorem dX10_tells_67 : decode cX10_tells 67 = .ok (.aload_n 0, 1) := by decide +kernel
theorem dX10_tells_68 : decode cX10_tells 68 = .ok (.getfield 181, 3) := by decide +kernel
theorem dX10_tells_71 : decode cX10_tells 71 = .ok (.iload 7, 2) := by decide +kernel
theorem dX10_tells_73 : decode cX10_tells 73 = .ok (.iastore, 1) := by decide +kernel
theorem dX10_tells_74 : decode cX10_tells 74 = .ok (.iconst 0, 1) := by decide +kernel
theorem dX10_tells_75 : decode cX10_tells 75 = .ok (.istore 8, 2) := by decide +kernel
theorem dX10_tells_77 : decode cX10_tells 77 = .ok (.iload 8, 2) := by decide +kernel
theorem dX10_tells_79 : decode cX10_tells 79 = .ok (.iconst 4, 1) := by decide +kernel
theorem dX10_tells_80 : decode cX10_tells 80 = .ok (.if_icmp .ge 25, 3) := by decide +kernel
theorem dX10_tells_83 : decode cX10_tells 83 = .ok (.aload_n 0, 1) := by decide +kernel
theorem dX10_tells_84 : decode cX10_tells 84 = .ok (.getfield 105, 3) := by decide +kernel
theorem dX10_tells_87 : decode cX10_tells 87 = .ok (.bipush 40, 2) := by decide +kernel
theorem dX10_tells_89 : decode cX10_tells 89 = .ok (.iload 8, 2) := by decide +kernel
theorem dX10_tells_91 : decode cX10_tells 91 = .ok (.imul, 1) := by decide +kernel
theorem dX10_tells_92 : decode cX10_tells 92 = .ok (.aload_n 0, 1) := by decide +kernel
theorem dX10_tells_93 : decode cX10_tells 93 = .ok (.getfield 181, 3) := by decide +kernel
theorem dX10_tells_96 : decode cX10_tells 96 = .ok (.iadd, 1) := by decide +kernel
theorem dX10_tells_97 : decode cX10_tells 97 = .ok (.iconst 0, 1) := by decide +kernel
theorem dX10_tells_98 : decode cX10_tells 98 = .ok (.iastore, 1) := by decide +kernel
theorem dX10_tells_99 : decode cX10_tells 99 = .ok (.iinc 8 1, 3) := by decide +kernel
theorem dX10_tells_102 : decode cX10_tells 102 = .ok (.goto (-25), 3) := by decide +kernel
theorem dX10_tells_105 : decode cX10_tells 105 = .ok (.aload_n 0, 1) := by decide +kernel
theorem dX10_tells_106 : decode cX10_tells 106 = .ok (.dup, 1) := by decide +kernel
theorem dX10_tells_107 : decode cX10_tells 107 = .ok (.getfield 181, 3) := by decide +kernel
theorem dX10_tells_110 : decode cX10_tells 110 = .ok (.iconst 1, 1) := by decide +kernel
theorem dX10_tells_111 : decode cX10_tells 111 = .ok (.iadd, 1) := by decide +kernel
theorem dX10_tells_112 : decode cX10_tells 112 = .ok (.putfield 181, 3) := by decide +kernel
theorem dX10_tells_115 : decode cX10_tells 115 = .ok (.aload_n 0, 1) := by decide +kernel
theorem dX10_tells_116 : decode cX10_tells 116 = .ok (.getfield 181, 3) := by decide +kernel
theorem dX10_tells_119 : decode cX10_tells 119 = .ok (.iconst 1, 1) := by decide +kernel
theorem dX10_tells_120 : decode cX10_tells 120 = .ok (.isub, 1) := by decide +kernel
theorem dX10_tells_121 : decode cX10_tells 121 = .ok (.ireturn, 1) := by decide +kernel
theorem dX10_sight_0 : decode cX10_sight 0 = .ok (.aload_n 0, 1) := by decide +kernel
theorem dX10_sight_1 : decode cX10_sight 1 = .ok (.iload_n 1, 1) := by decide +kernel
theorem dX10_sight_2 : decode cX10_sight 2 = .ok (.invokevirtual 136, 3) := by decide +kernel
theorem dX10_sight_5 : decode cX10_sight 5 = .ok (.ifCond .ne 9, 3) := by decide +kernel
theorem dX10_sight_8 : decode cX10_sight 8 = .ok (.aload_n 0, 1) := by decide +kernel
theorem dX10_sight_9 : decode cX10_sight 9 = .ok (.iconst (-1), 1) := by decide +kernel
theorem dX10_sight_10 : decode cX10_sight 10 = .ok (.invokevirtual 120, 3) := by decide +kernel
theorem dX10_sight_13 : decode cX10_sight 13 = .ok (.ireturn, 1) := by decide +kernel
theorem dX10_sight_14 : decode cX10_sight 14 = .ok (.iload_n 3, 1) := by decide +kernel
theorem dX10_sight_15 : decode cX10_sight 15 = .ok (.ifCond .lt 13, 3) := by decide +kernel
theorem dX10_sight_18 : decode cX10_sight 18 = .ok (.iload_n 3, 1) := by decide +kernel
theorem dX10_sight_19 : decode cX10_sight 19 = .ok (.sipush 1000, 3) := by decide +kernel
theorem dX10_sight_22 : decode cX10_sight 22 = .ok (.idiv, 1) := by decide +kernel
theorem dX10_sight_23 : decode cX10_sight 23 = .ok (.bipush 7, 2) := by decide +kernel
theorem dX10_sight_25 : decode cX10_sight 25 = .ok (.if_icmp .le 10, 3) := by decide +kernel
theorem dX10_sight_28 : decode cX10_sight 28 = .ok (.aload_n 0, 1) := by decide +kernel
theorem dX10_sight_29 : decode cX10_sight 29 = .ok (.bipush (-2), 2) := by decide +kernel
theorem dX10_sight_31 : decode cX10_sight 31 = .ok (.invokevirtual 120, 3) := by decide +kernel
theorem dX10_sight_34 : decode cX10_sight 34 = .ok (.ireturn, 1) := by decide +kernel
theorem dX10_sight_35 : decode cX10_sight 35 = .ok (.iload_n 3, 1) := by decide +kernel
theorem dX10_sight_36 : decode cX10_sight 36 = .ok (.bipush 100, 2) := by decide +kernel
theorem dX10_sight_38 : decode cX10_sight 38 = .ok (.idiv, 1) := by decide +kernel
theorem dX10_sight_39 : decode cX10_sight 39 = .ok (.bipush 10, 2) := by decide +kernel
theorem dX10_sight_41 : decode cX10_sight 41 = .ok (.irem, 1) := by decide +kernel
theorem dX10_sight_42 : decode cX10_sight 42 = .ok (.iconst 5, 1) := by decide +kernel
theorem dX10_sight_43 : decode cX10_sight 43 = .ok (.if_icmp .gt 22, 3) := by decide +kernel
theorem dX10_sight_46 : decode cX10_sight 46 = .ok (.iload_n 3, 1) := by decide +kernel
theorem dX10_sight_47 : decode cX10_sight 47 = .ok (.bipush 10, 2) := by decide +kernel
theorem dX10_sight_49 : decode cX10_sight 49 = .ok (.idiv, 1) := by decide +kernel
theorem dX10_sight_50 : decode cX10_sight 50 = .ok (.bipush 10, 2) := by decide +kernel
theorem dX10_sight_52 : decode cX10_sight 52 = .ok (.irem, 1) := by decide +kernel
theorem dX10_sight_53 : decode cX10_sight 53 = .ok (.iconst 3, 1) := by decide +kernel
theorem dX10_sight_54 : decode cX10_sight 54 = .ok (.if_icmp .gt 11, 3) := by decide +kernel
theorem dX10_sight_57 : decode cX10_sight 57 = .ok (.iload_n 3, 1) := by decide +kernel
theorem dX10_sight_58 : decode cX10_sight 58 = .ok (.bipush 10, 2) := by decide +kernel
theorem dX10_sight_60 : decode cX10_sight 60 = .ok (.irem, 1) := by decide +kernel
theorem dX10_sight_61 : decode cX10_sight 61 = .ok (.iconst 3, 1) := by decide +kernel
theorem dX10_sight_62 : decode cX10_sight 62 = .ok (.if_icmp .le 9, 3) := by decide +kernel
theorem dX10_sight_65 : decode cX10_sight 65 = .ok (.aload_n 0, 1) := by decide +kernel
theorem dX10_sight_66 : decode cX10_sight 66 = .ok (.iconst (-1), 1) := by decide +kernel
theorem dX10_sight_67 : decode cX10_sight 67 = .ok (.invokevirtual 120, 3) := by decide +kernel
theorem dX10_sight_70 : decode cX10_sight 70 = .ok (.ireturn, 1) := by decide +kernel
theorem dX10_sight_71 : decode cX10_sight 71 = .ok (.iload_n 2, 1) := by decide +kernel
theorem dX10_sight_72 : decode cX10_sight 72 = .ok (.ifCond .lt 8, 3) := by decide +kernel
theorem dX10_sight_75 : decode cX10_sight 75 = .ok (.iload 4, 2) := by decide +kernel
theorem dX10_sight_77 : decode cX10_sight 77 = .ok (.ifCond .ge 8, 3) := by decide +kernel
theorem dX10_sight_80 : decode cX10_sight 80 = .ok (.bipush (-4), 2) := by decide +kernel
theorem dX10_sight_82 : decode cX10_sight 82 = .ok (.goto 32, 3) := by decide +kernel
theorem dX10_sight_85 : decode cX10_sight 85 = .ok (.iload_n 2, 1) := by decide +kernel
theorem dX10_sight_86 : decode cX10_sight 86 = .ok (.sipush 999, 3) := by decide +kernel
theorem dX10_sight_89 : decode cX10_sight 89 = .ok (.if_icmp .gt 19, 3) := by decide +kernel
theorem dX10_sight_92 : decode cX10_sight 92 = .ok (.iload 4, 2) := by decide +kernel
theorem dX10_sight_94 : decode cX10_sight 94 = .ok (.ldc 185, 2) := by decide +kernel
theorem dX10_sight_96 : decode cX10_sight 96 = .ok (.if_icmp .gt 12, 3) := by decide +kernel
theorem dX10_sight_99 : decode cX10_sight 99 = .ok (.aload_n 0, 1) := by decide +kernel
theorem dX10_sight_100 : decode cX10_sight 100 = .ok (.getfield 181, 3) := by decide +kernel
theorem dX10_sight_103 : decode cX10_sight 103 = .ok (.bipush 40, 2) := by decide +kernel
theorem dX10_sight_105 : decode cX10_sight 105 = .ok (.if_icmp .ne 8, 3) := by decide +kernel
theorem dX10_sight_108 : decode cX10_sight 108 = .ok (.bipush (-6), 2) := by decide +kernel
theorem dX10_sight_110 : decode cX10_sight 110 = .ok (.goto 4, 3) := by decide +kernel
theorem dX10_sight_113 : decode cX10_sight 113 = .ok (.iconst 0, 1) := by decide +kernel
theorem dX10_sight_114 : decode cX10_sight 114 = .ok (.istore 5, 2) := by decide +kernel
theorem dX10_sight_116 : decode cX10_sight 116 = .ok (.iload 5, 2) := by decide +kernel
theorem dX10_sight_118 : decode cX10_sight 118 = .ok (.ifCond .eq 12, 3) := by decide +kernel
theorem dX10_sight_121 : decode cX10_sight 121 = .ok (.aload_n 0, 1) := by decide +kernel
theorem dX10_sight_122 : decode cX10_sight 122 = .ok (.iload 5, 2) := by decide +kernel
theorem dX10_sight_124 : decode cX10_sight 124 = .ok (.invokevirtual 120, 3) := by decide +kernel
theorem dX10_sight_127 : decode cX10_sight 127 = .ok (.goto 34, 3) := by decide +kernel
theorem dX10_sight_130 : decode cX10_sight 130 = .ok (.aload_n 0, 1) := by decide +kernel
theorem dX10_sight_131 : decode cX10_sight 131 = .ok (.iload_n 1, 1) := by decide +kernel
theorem dX10_sight_132 : decode cX10_sight 132 = .ok (.iload_n 2, 1) := by decide +kernel
theorem dX10_sight_133 : decode cX10_sight 133 = .ok (.iload_n 3, 1) := by decide +kernel
theorem dX10_sight_134 : decode cX10_sight 134 = .ok (.sipush 1000, 3) := by decide +kernel
theorem dX10_sight_137 : decode cX10_sight 137 = .ok (.idiv, 1) := by decide +kernel
theorem dX10_sight_138 : decode cX10_sight 138 = .ok (.iload_n 3, 1) := by decide +kernel
theorem dX10_sight_139 : decode cX10_sight 139 = .ok (.bipush 100, 2) := by decide +kernel
theorem dX10_sight_141 : decode cX10_sight 141 = .ok (.idiv, 1) := by decide +kernel
theorem dX10_sight_142 : decode cX10_sight 142 = .ok (.bipush 10, 2) := by decide +kernel
theorem dX10_sight_144 : decode cX10_sight 144 = .ok (.irem, 1) := by decide +kernel
theorem dX10_sight_145 : decode cX10_sight 145 = .ok (.iload_n 3, 1) := by decide +kernel
theorem dX10_sight_146 : decode cX10_sight 146 = .ok (.bipush 10, 2) := by decide +kernel
theorem dX10_sight_148 : decode cX10_sight 148 = .ok (.idiv, 1) := by decide +kernel
theorem dX10_sight_149 : decode cX10_sight 149 = .ok (.bipush 10, 2) := by decide +kernel
theorem dX10_sight_151 : decode cX10_sight 151 = .ok (.irem, 1) := by decide +kernel
theorem dX10_sight_152 : decode cX10_sight 152 = .ok (.iload_n 3, 1) := by decide +kernel
theorem dX10_sight_153 : decode cX10_sight 153 = .ok (.bipush 10, 2) := by decide +kernel
theorem dX10_sight_155 : decode cX10_sight 155 = .ok (.irem, 1) := by decide +kernel
theorem dX10_sight_156 : decode cX10_sight 156 = .ok (.iload 4, 2) := by decide +kernel
theorem dX10_sight_158 : decode cX10_sight 158 = .ok (.invokevirtual 186, 3) := by decide +kernel
theorem dX10_sight_161 : decode cX10_sight 161 = .ok (.ireturn, 1) := by decide +kernel
theorem dX10_isSight_0 : decode cX10_isSight 0 = .ok (.iload_n 1, 1) := by decide +kernel
theorem dX10_isSight_1 : decode cX10_isSight 1 = .ok (.ifCond .lt 15, 3) := by decide +kernel
theorem dX10_isSight_4 : decode cX10_isSight 4 = .ok (.iload_n 1, 1) := by decide +kernel
theorem dX10_isSight_5 : decode cX10_isSight 5 = .ok (.aload_n 0, 1) := by decide +kernel
theorem dX10_isSight_6 : decode cX10_isSight 6 = .ok (.getfield 181, 3) := by decide +kernel
theorem dX10_isSight_9 : decode cX10_isSight 9 = .ok (.if_icmp .ge 7, 3) := by decide +kernel
theorem dX10_isSight_12 : decode cX10_isSight 12 = .ok (.iconst 1, 1) := by decide +kernel
theorem dX10_isSight_13 : decode cX10_isSight 13 = .ok (.goto 4, 3) := by decide +kernel
theorem dX10_isSight_16 : decode cX10_isSight 16 = .ok (.iconst 0, 1) := by decide +kernel
theorem dX10_isSight_17 : decode cX10_isSight 17 = .ok (.ireturn, 1) := by decide +kernel
theorem dX10_rightOf_0 : decode cX10_rightOf 0 = .ok (.aload_n 0, 1) := by decide +kernel
theorem dX10_rightOf_1 : decode cX10_rightOf 1 = .ok (.getfield 68, 3) := by decide +kernel
theorem dX10_rightOf_4 : decode cX10_rightOf 4 = .ok (.iload_n 1, 1) := by decide +kernel
theorem dX10_rightOf_5 : decode cX10_rightOf 5 = .ok (.iaload, 1) := by decide +kernel
theorem dX10_rightOf_6 : decode cX10_rightOf 6 = .ok (.i2l, 1) := by decide +kernel
theorem dX10_rightOf_7 : decode cX10_rightOf 7 = .ok (.lstore 4, 2) := by decide +kernel
theorem dX10_rightOf_9 : decode cX10_rightOf 9 = .ok (.iload_n 2, 1) := by decide +kernel
theorem dX10_rightOf_10 : decode cX10_rightOf 10 = .ok (.ifCond .eq 20, 3) := by decide +kernel
theorem dX10_rightOf_13 : decode cX10_rightOf 13 = .ok (.lload 4, 2) := by decide +kernel
theorem dX10_rightOf_15 : decode cX10_rightOf 15 = .ok (.aload_n 0, 1) := by decide +kernel
theorem dX10_rightOf_16 : decode cX10_rightOf 16 = .ok (.getfield 38, 3) := by decide +kernel
theorem dX10_rightOf_19 : decode cX10_rightOf 19 = .ok (.aload_n 0, 1) := by decide +kernel
theorem dX10_rightOf_20 : decode cX10_rightOf 20 = .ok (.getfield 59, 3) := by decide +kernel
theorem dX10_rightOf_23 : decode cX10_rightOf 23 = .ok (.iload_n 1, 1) := by decide +kernel
theorem dX10_rightOf_24 : decode cX10_rightOf 24 = .ok (.iaload, 1) := by decide +kernel
theorem dX10_rightOf_25 : decode cX10_rightOf 25 = .ok (.iaload, 1) := by decide +kernel
theorem dX10_rightOf_26 : decode cX10_rightOf 26 = .ok (.i2l, 1) := by decide +kernel
theorem dX10_rightOf_27 : decode cX10_rightOf 27 = .ok (.lsub, 1) := by decide +kernel
theorem dX10_rightOf_28 : decode cX10_rightOf 28 = .ok (.lstore 4, 2) := by decide +kernel
theorem dX10_rightOf_30 : decode cX10_rightOf 30 = .ok (.aload_n 0, 1) := by decide +kernel
theorem dX10_rightOf_31 : decode cX10_rightOf 31 = .ok (.getfield 56, 3) := by decide +kernel
theorem dX10_rightOf_34 : decode cX10_rightOf 34 = .ok (.iload_n 1, 1) := by decide +kernel
theorem dX10_rightOf_35 : decode cX10_rightOf 35 = .ok (.iaload, 1) := by decide +kernel
theorem dX10_rightOf_36 : decode cX10_rightOf 36 = .ok (.tableswitch 135 2 7 #[40, 56, 63, 135, 70, 110], 40) := by decide +kernel
theorem dX10_rightOf_76 : decode cX10_rightOf 76 = .ok (.lload 4, 2) := by decide +kernel
theorem dX10_rightOf_78 : decode cX10_rightOf 78 = .ok (.aload_n 0, 1) := by decide +kernel
theorem dX10_rightOf_79 : decode cX10_rightOf 79 = .ok (.getfield 22, 3) := by decide +kernel
theorem dX10_rightOf_82 : decode cX10_rightOf 82 = .ok (.aload_n 0, 1) := by decide +kernel
theorem dX10_rightOf_83 : decode cX10_rightOf 83 = .ok (.getfield 50, 3) := by decide +kernel
theorem dX10_rightOf_86 : decode cX10_rightOf 86 = .ok (.iload_n 1, 1) := by decide +kernel
theorem dX10_rightOf_87 : decode cX10_rightOf 87 = .ok (.iaload, 1) := by decide +kernel
theorem dX10_rightOf_88 : decode cX10_rightOf 88 = .ok (.iaload, 1) := by decide +kernel
theorem dX10_rightOf_89 : decode cX10_rightOf 89 = .ok (.i2l, 1) := by decide +kernel
theorem dX10_rightOf_90 : decode cX10_rightOf 90 = .ok (.lsub, 1) := by decide +kernel
theorem dX10_rightOf_91 : decode cX10_rightOf 91 = .ok (.lreturn, 1) := by decide +kernel
theorem dX10_rightOf_92 : decode cX10_rightOf 92 = .ok (.lload 4, 2) := by decide +kernel
theorem dX10_rightOf_94 : decode cX10_rightOf 94 = .ok (.ldc2_w 190, 3) := by decide +kernel
theorem dX10_rightOf_97 : decode cX10_rightOf 97 = .ok (.lsub, 1) := by decide +kernel
theorem dX10_rightOf_98 : decode cX10_rightOf 98 = .ok (.lreturn, 1) := by decide +kernel
theorem dX10_rightOf_99 : decode cX10_rightOf 99 = .ok (.lload 4, 2) := by decide +kernel
theorem dX10_rightOf_101 : decode cX10_rightOf 101 = .ok (.ldc2_w 192, 3) := by decide +kernel
theorem dX10_rightOf_104 : decode cX10_rightOf 104 = .ok (.ladd, 1) := by decide +kernel
theorem dX10_rightOf_105 : decode cX10_rightOf 105 = .ok (.lreturn, 1) := by decide +kernel
theorem dX10_rightOf_106 : decode cX10_rightOf 106 = .ok (.lload 4, 2) := by decide +kernel
theorem dX10_rightOf_108 : decode cX10_rightOf 108 = .ok (.aload_n 0, 1) := by decide +kernel
theorem dX10_rightOf_109 : decode cX10_rightOf 109 = .ok (.getfield 41, 3) := by decide +kernel
theorem dX10_rightOf_112 : decode cX10_rightOf 112 = .ok (.aload_n 0, 1) := by decide +kernel
theorem dX10_rightOf_113 : decode cX10_rightOf 113 = .ok (.getfield 62, 3) := by decide +kernel
theorem dX10_rightOf_116 : decode cX10_rightOf 116 = .ok (.iload_n 1, 1) := by decide +kernel
theorem dX10_rightOf_117 : decode cX10_rightOf 117 = .ok (.iaload, 1) := by decide +kernel
theorem dX10_rightOf_118 : decode cX10_rightOf 118 = .ok (.iaload, 1) := by decide +kernel
theorem dX10_rightOf_119 : decode cX10_rightOf 119 = .ok (.i2l, 1) := by decide +kernel
theorem dX10_rightOf_120 : decode cX10_rightOf 120 = .ok (.aload_n 0, 1) := by decide +kernel
theorem dX10_rightOf_121 : decode cX10_rightOf 121 = .ok (.getfield 68, 3) := by decide +kernel
theorem dX10_rightOf_124 : decode cX10_rightOf 124 = .ok (.iload_n 1, 1) := by decide +kernel
theorem dX10_rightOf_125 : decode cX10_rightOf 125 = .ok (.iaload, 1) := by decide +kernel
theorem dX10_rightOf_126 : decode cX10_rightOf 126 = .ok (.aload_n 0, 1) := by decide +kernel
theorem dX10_rightOf_127 : decode cX10_rightOf 127 = .ok (.getfield 44, 3) := by decide +kernel
theorem dX10_rightOf_130 : decode cX10_rightOf 130 = .ok (.aload_n 0, 1) := by decide +kernel
theorem dX10_rightOf_131 : decode cX10_rightOf 131 = .ok (.getfield 62, 3) := by decide +kernel
theorem dX10_rightOf_134 : decode cX10_rightOf 134 = .ok (.iload_n 1, 1) := by decide +kernel
theorem dX10_rightOf_135 : decode cX10_rightOf 135 = .ok (.iaload, 1) := by decide +kernel
theorem dX10_rightOf_136 : decode cX10_rightOf 136 = .ok (.iaload, 1) := by decide +kernel
theorem dX10_rightOf_137 : decode cX10_rightOf 137 = .ok (.isub, 1) := by decide +kernel
theorem dX10_rightOf_138 : decode cX10_rightOf 138 = .ok (.i2l, 1) := by decide +kernel
theorem dX10_rightOf_139 : decode cX10_rightOf 139 = .ok (.lmul, 1) := by decide +kernel
theorem dX10_rightOf_140 : decode cX10_rightOf 140 = .ok (.ldc2_w 194, 3) := by decide +kernel
theorem dX10_rightOf_143 : decode cX10_rightOf 143 = .ok (.ldiv, 1) := by decide +kernel
theorem dX10_rightOf_144 : decode cX10_rightOf 144 = .ok (.ladd, 1) := by decide +kernel
theorem dX10_rightOf_145 : decode cX10_rightOf 145 = .ok (.lreturn, 1) := by decide +kernel
theorem dX10_rightOf_146 : decode cX10_rightOf 146 = .ok (.iload_n 3, 1) := by decide +kernel
theorem dX10_rightOf_147 : decode cX10_rightOf 147 = .ok (.ifCond .eq 21, 3) := by decide +kernel
theorem dX10_rightOf_150 : decode cX10_rightOf 150 = .ok (.lload 4, 2) := by decide +kernel
theorem dX10_rightOf_152 : decode cX10_rightOf 152 = .ok (.aload_n 0, 1) := by decide +kernel
theorem dX10_rightOf_153 : decode cX10_rightOf 153 = .ok (.getfield 47, 3) := by decide +kernel
theorem dX10_rightOf_156 : decode cX10_rightOf 156 = .ok (.aload_n 0, 1) := by decide +kernel
theorem dX10_rightOf_157 : decode cX10_rightOf 157 = .ok (.getfield 65, 3) := by decide +kernel
theorem dX10_rightOf_160 : decode cX10_rightOf 160 = .ok (.iload_n 1, 1) := by decide +kernel
theorem dX10_rightOf_161 : decode cX10_rightOf 161 = .ok (.iaload, 1) := by decide +kernel
theorem dX10_rightOf_162 : decode cX10_rightOf 162 = .ok (.iaload, 1) := by decide +kernel
theorem dX10_rightOf_163 : decode cX10_rightOf 163 = .ok (.i2l, 1) := by decide +kernel
theorem dX10_rightOf_164 : decode cX10_rightOf 164 = .ok (.lsub, 1) := by decide +kernel
theorem dX10_rightOf_165 : decode cX10_rightOf 165 = .ok (.goto 5, 3) := by decide +kernel
theorem dX10_rightOf_168 : decode cX10_rightOf 168 = .ok (.lload 4, 2) := by decide +kernel
theorem dX10_rightOf_170 : decode cX10_rightOf 170 = .ok (.lreturn, 1) := by decide +kernel
theorem dX10_rightOf_171 : decode cX10_rightOf 171 = .ok (.lload 4, 2) := by decide +kernel
theorem dX10_rightOf_173 : decode cX10_rightOf 173 = .ok (.lreturn, 1) := by decide +kernel
theorem dX10_right_0 : decode cX10_right 0 = .ok (.aload_n 0, 1) := by decide +kernel
theorem dX10_right_1 : decode cX10_right 1 = .ok (.iload_n 1, 1) := by decide +kernel
theorem dX10_right_2 : decode cX10_right 2 = .ok (.invokevirtual 196, 3) := by decide +kernel
theorem dX10_right_5 : decode cX10_right 5 = .ok (.ifCond .ne 9, 3) := by decide +kernel
theorem dX10_right_8 : decode cX10_right 8 = .ok (.aload_n 0, 1) := by decide +kernel
theorem dX10_right_9 : decode cX10_right 9 = .ok (.iconst (-1), 1) := by decide +kernel
theorem dX10_right_10 : decode cX10_right 10 = .ok (.invokevirtual 161, 3) := by decide +kernel
theorem dX10_right_13 : decode cX10_right 13 = .ok (.lreturn, 1) := by decide +kernel
theorem dX10_right_14 : decode cX10_right 14 = .ok (.aload_n 0, 1) := by decide +kernel
theorem dX10_right_15 : decode cX10_right 15 = .ok (.getfield 56, 3) := by decide +kernel
theorem dX10_right_18 : decode cX10_right 18 = .ok (.iload_n 1, 1) := by decide +kernel
theorem dX10_right_19 : decode cX10_right 19 = .ok (.iaload, 1) := by decide +kernel
theorem dX10_right_20 : decode cX10_right 20 = .ok (.iconst 5, 1) := by decide +kernel
theorem dX10_right_21 : decode cX10_right 21 = .ok (.if_icmp .ne 12, 3) := by decide +kernel
theorem dX10_right_24 : decode cX10_right 24 = .ok (.aload_n 0, 1) := by decide +kernel
theorem dX10_right_25 : decode cX10_right 25 = .ok (.bipush (-3), 2) := by decide +kernel
theorem dX10_right_27 : decode cX10_right 27 = .ok (.invokevirtual 161, 3) := by decide +kernel
theorem dX10_right_30 : decode cX10_right 30 = .ok (.goto 10, 3) := by decide +kernel
theorem dX10_right_33 : decode cX10_right 33 = .ok (.aload_n 0, 1) := by decide +kernel
theorem dX10_right_34 : decode cX10_right 34 = .ok (.iload_n 1, 1) := by decide +kernel
theorem dX10_right_35 : decode cX10_right 35 = .ok (.iconst 1, 1) := by decide +kernel
theorem dX10_right_36 : decode cX10_right 36 = .ok (.iconst 1, 1) := by decide +kernel
theorem dX10_right_37 : decode cX10_right 37 = .ok (.invokevirtual 199, 3) := by decide +kernel
theorem dX10_right_40 : decode cX10_right 40 = .ok (.lreturn, 1) := by decide +kernel
theorem dX10_put_0 : decode cX10_put 0 = .ok (.aload_n 0, 1) := by decide +kernel
theorem dX10_put_1 : decode cX10_put 1 = .ok (.getfield 203, 3) := by decide +kernel
theorem dX10_put_4 : decode cX10_put 4 = .ok (.bipush 80, 2) := by decide +kernel
theorem dX10_put_6 : decode cX10_put 6 = .ok (.if_icmp .ne 10, 3) := by decide +kernel
theorem dX10_put_9 : decode cX10_put 9 = .ok (.aload_n 0, 1) := by decide +kernel
theorem dX10_put_10 : decode cX10_put 10 = .ok (.bipush (-6), 2) := by decide +kernel
theorem dX10_put_12 : decode cX10_put 12 = .ok (.invokevirtual 120, 3) := by decide +kernel
theorem dX10_put_15 : decode cX10_put 15 = .ok (.ireturn, 1) := by decide +kernel
theorem dX10_put_16 : decode cX10_put 16 = .ok (.aload_n 0, 1) := by decide +kernel
theorem dX10_put_17 : decode cX10_put 17 = .ok (.getfield 71, 3) := by decide +kernel
theorem dX10_put_20 : decode cX10_put 20 = .ok (.aload_n 0, 1) := by decide +kernel
theorem dX10_put_21 : decode cX10_put 21 = .ok (.getfield 203, 3) := by decide +kernel
theorem dX10_put_24 : decode cX10_put 24 = .ok (.iload_n 1, 1) := by decide +kernel
theorem dX10_put_25 : decode cX10_put 25 = .ok (.iastore, 1) := by decide +kernel
theorem dX10_put_26 : decode cX10_put 26 = .ok (.aload_n 0, 1) := by decide +kernel
theorem dX10_put_27 : decode cX10_put 27 = .ok (.dup, 1) := by decide +kernel
theorem dX10_put_28 : decode cX10_put 28 = .ok (.getfield 203, 3) := by decide +kernel
theorem dX10_put_31 : decode cX10_put 31 = .ok (.iconst 1, 1) := by decide +kernel
theorem dX10_put_32 : decode cX10_put 32 = .ok (.iadd, 1) := by decide +kernel
theorem dX10_put_33 : decode cX10_put 33 = .ok (.putfield 203, 3) := by decide +kernel
theorem dX10_put_36 : decode cX10_put 36 = .ok (.aload_n 0, 1) := by decide +kernel
theorem dX10_put_37 : decode cX10_put 37 = .ok (.getfield 203, 3) := by decide +kernel
theorem dX10_put_40 : decode cX10_put 40 = .ok (.ireturn, 1) := by decide +kernel
theorem dX10_read_0 : decode cX10_read 0 = .ok (.iconst 0, 1) := by decide +kernel
theorem dX10_read_1 : decode cX10_read 1 = .ok (.istore_n 1, 1) := by decide +kernel
theorem dX10_read_2 : decode cX10_read 2 = .ok (.iconst 0, 1) := by decide +kernel
theorem dX10_read_3 : decode cX10_read 3 = .ok (.istore_n 2, 1) := by decide +kernel
theorem dX10_read_4 : decode cX10_read 4 = .ok (.iload_n 2, 1) := by decide +kernel
theorem dX10_read_5 : decode cX10_read 5 = .ok (.bipush 8, 2) := by decide +kernel
theorem dX10_read_7 : decode cX10_read 7 = .ok (.iadd, 1) := by decide +kernel
theorem dX10_read_8 : decode cX10_read 8 = .ok (.aload_n 0, 1) := by decide +kernel
theorem dX10_read_9 : decode cX10_read 9 = .ok (.getfield 203, 3) := by decide +kernel
theorem dX10_read_12 : decode cX10_read 12 = .ok (.if_icmp .gt 249, 3) := by decide +kernel
theorem dX10_read_15 : decode cX10_read 15 = .ok (.aload_n 0, 1) := by decide +kernel
theorem dX10_read_16 : decode cX10_read 16 = .ok (.aload_n 0, 1) := by decide +kernel
theorem dX10_read_17 : decode cX10_read 17 = .ok (.getfield 71, 3) := by decide +kernel
theorem dX10_read_20 : decode cX10_read 20 = .ok (.iload_n 2, 1) := by decide +kernel
theorem dX10_read_21 : decode cX10_read 21 = .ok (.iaload, 1) := by decide +kernel
theorem dX10_read_22 : decode cX10_read 22 = .ok (.invokevirtual 136, 3) := by decide +kernel
theorem dX10_read_25 : decode cX10_read 25 = .ok (.ifCond .eq 236, 3) := by decide +kernel
theorem dX10_read_28 : decode cX10_read 28 = .ok (.aload_n 0, 1) := by decide +kernel
theorem dX10_read_29 : decode cX10_read 29 = .ok (.getfield 71, 3) := by decide +kernel
theorem dX10_read_32 : decode cX10_read 32 = .ok (.iload_n 2, 1) := by decide +kernel
theorem dX10_read_33 : decode cX10_read 33 = .ok (.iconst 1, 1) := by decide +kernel
theorem dX10_read_34 : decode cX10_read 34 = .ok (.iadd, 1) := by decide +kernel
theorem dX10_read_35 : decode cX10_read 35 = .ok (.iaload, 1) := by decide +kernel
theorem dX10_read_36 : decode cX10_read 36 = .ok (.i2l, 1) := by decide +kernel
theorem dX10_read_37 : decode cX10_read 37 = .ok (.lconst 0, 1) := by decide +kernel
theorem dX10_read_38 : decode cX10_read 38 = .ok (.ldc2_w 152, 3) := by decide +kernel
theorem dX10_read_41 : decode cX10_read 41 = .ok (.invokestatic 116, 3) := by decide +kernel
theorem dX10_read_44 : decode cX10_read 44 = .ok (.ifCond .eq 217, 3) := by decide +kernel
theorem dX10_read_47 : decode cX10_read 47 = .ok (.aload_n 0, 1) := by decide +kernel
theorem dX10_read_48 : decode cX10_read 48 = .ok (.getfield 71, 3) := by decide +kernel
theorem dX10_read_51 : decode cX10_read 51 = .ok (.iload_n 2, 1) := by decide +kernel
theorem dX10_read_52 : decode cX10_read 52 = .ok (.iconst 2, 1) := by decide +kernel
theorem dX10_read_53 : decode cX10_read 53 = .ok (.iadd, 1) := by decide +kernel
theorem dX10_read_54 : decode cX10_read 54 = .ok (.iaload, 1) := by decide +kernel
theorem dX10_read_55 : decode cX10_read 55 = .ok (.i2l, 1) := by decide +kernel
theorem dX10_read_56 : decode cX10_read 56 = .ok (.lconst 0, 1) := by decide +kernel
theorem dX10_read_57 : decode cX10_read 57 = .ok (.ldc2_w 206, 3) := by decide +kernel
theorem dX10_read_60 : decode cX10_read 60 = .ok (.invokestatic 116, 3) := by decide +kernel
theorem dX10_read_63 : decode cX10_read 63 = .ok (.ifCond .eq 198, 3) := by decide +kernel
theorem dX10_read_66 : decode cX10_read 66 = .ok (.aload_n 0, 1) := by decide +kernel
theorem dX10_read_67 : decode cX10_read 67 = .ok (.getfield 71, 3) := by decide +kernel
theorem dX10_read_70 : decode cX10_read 70 = .ok (.iload_n 2, 1) := by decide +kernel
theorem dX10_read_71 : decode cX10_read 71 = .ok (.iconst 3, 1) := by decide +kernel
theorem dX10_read_72 : decode cX10_read 72 = .ok (.iadd, 1) := by decide +kernel
theorem dX10_read_73 : decode cX10_read 73 = .ok (.iaload, 1) := by decide +kernel
theorem dX10_read_74 : decode cX10_read 74 = .ok (.i2l, 1) := by decide +kernel
theorem dX10_read_75 : decode cX10_read 75 = .ok (.lconst 0, 1) := by decide +kernel
theorem dX10_read_76 : decode cX10_read 76 = .ok (.ldc2_w 171, 3) := by decide +kernel
theorem dX10_read_79 : decode cX10_read 79 = .ok (.invokestatic 116, 3) := by decide +kernel
theorem dX10_read_82 : decode cX10_read 82 = .ok (.ifCond .eq 179, 3) := by decide +kernel
theorem dX10_read_85 : decode cX10_read 85 = .ok (.aload_n 0, 1) := by decide +kernel
theorem dX10_read_86 : decode cX10_read 86 = .ok (.getfield 71, 3) := by decide +kernel
theorem dX10_read_89 : decode cX10_read 89 = .ok (.iload_n 2, 1) := by decide +kernel
theorem dX10_read_90 : decode cX10_read 90 = .ok (.iconst 4, 1) := by decide +kernel
theorem dX10_read_91 : decode cX10_read 91 = .ok (.iadd, 1) := by decide +kernel
theorem dX10_read_92 : decode cX10_read 92 = .ok (.iaload, 1) := by decide +kernel
theorem dX10_read_93 : decode cX10_read 93 = .ok (.i2l, 1) := by decide +kernel
theorem dX10_read_94 : decode cX10_read 94 = .ok (.lconst 0, 1) := by decide +kernel
theorem dX10_read_95 : decode cX10_read 95 = .ok (.ldc2_w 114, 3) := by decide +kernel
theorem dX10_read_98 : decode cX10_read 98 = .ok (.invokestatic 116, 3) := by decide +kernel
theorem dX10_read_101 : decode cX10_read 101 = .ok (.ifCond .eq 160, 3) := by decide +kernel
theorem dX10_read_104 : decode cX10_read 104 = .ok (.aload_n 0, 1) := by decide +kernel
theorem dX10_read_105 : decode cX10_read 105 = .ok (.getfield 71, 3) := by decide +kernel
theorem dX10_read_108 : decode cX10_read 108 = .ok (.iload_n 2, 1) := by decide +kernel
theorem dX10_read_109 : decode cX10_read 109 = .ok (.iconst 5, 1) := by decide +kernel
theorem dX10_read_110 : decode cX10_read 110 = .ok (.iadd, 1) := by decide +kernel
theorem dX10_read_111 : decode cX10_read 111 = .ok (.iaload, 1) := by decide +kernel
theorem dX10_read_112 : decode cX10_read 112 = .ok (.i2l, 1) := by decide +kernel
theorem dX10_read_113 : decode cX10_read 113 = .ok (.lconst 0, 1) := by decide +kernel
theorem dX10_read_114 : decode cX10_read 114 = .ok (.ldc2_w 114, 3) := by decide +kernel
theorem dX10_read_117 : decode cX10_read 117 = .ok (.invokestatic 116, 3) := by decide +kernel
theorem dX10_read_120 : decode cX10_read 120 = .ok (.ifCond .eq 141, 3) := by decide +kernel
theorem dX10_read_123 : decode cX10_read 123 = .ok (.aload_n 0, 1) := by decide +kernel
theorem dX10_read_124 : decode cX10_read 124 = .ok (.getfield 71, 3) := by decide +kernel
theorem dX10_read_127 : decode cX10_read 127 = .ok (.iload_n 2, 1) := by decide +kernel
theorem dX10_read_128 : decode cX10_read 128 = .ok (.bipush 6, 2) := by decide +kernel
theorem dX10_read_130 : decode cX10_read 130 = .ok (.iadd, 1) := by decide +kernel
theorem dX10_read_131 : decode cX10_read 131 = .ok (.iaload, 1) := by decide +kernel
theorem dX10_read_132 : decode cX10_read 132 = .ok (.i2l, 1) := by decide +kernel
theorem dX10_read_133 : decode cX10_read 133 = .ok (.lconst 0, 1) := by decide +kernel
theorem dX10_read_134 : decode cX10_read 134 = .ok (.ldc2_w 208, 3) := by decide +kernel
theorem dX10_read_137 : decode cX10_read 137 = .ok (.invokestatic 116, 3) := by decide +kernel
theorem dX10_read_140 : decode cX10_read 140 = .ok (.ifCond .eq 121, 3) := by decide +kernel
theorem dX10_read_143 : decode cX10_read 143 = .ok (.aload_n 0, 1) := by decide +kernel
theorem dX10_read_144 : decode cX10_read 144 = .ok (.getfield 71, 3) := by decide +kernel
theorem dX10_read_147 : decode cX10_read 147 = .ok (.iload_n 2, 1) := by decide +kernel
theorem dX10_read_148 : decode cX10_read 148 = .ok (.bipush 7, 2) := by decide +kernel
theorem dX10_read_150 : decode cX10_read 150 = .ok (.iadd, 1) := by decide +kernel
theorem dX10_read_151 : decode cX10_read 151 = .ok (.iaload, 1) := by decide +kernel
theorem dX10_read_152 : decode cX10_read 152 = .ok (.i2l, 1) := by decide +kernel
theorem dX10_read_153 : decode cX10_read 153 = .ok (.lconst 0, 1) := by decide +kernel
theorem dX10_read_154 : decode cX10_read 154 = .ok (.ldc2_w 210, 3) := by decide +kernel
theorem dX10_read_157 : decode cX10_read 157 = .ok (.invokestatic 116, 3) := by decide +kernel
theorem dX10_read_160 : decode cX10_read 160 = .ok (.ifCond .eq 101, 3) := by decide +kernel
theorem dX10_read_163 : decode cX10_read 163 = .ok (.aload_n 0, 1) := by decide +kernel
theorem dX10_read_164 : decode cX10_read 164 = .ok (.getfield 181, 3) := by decide +kernel
theorem dX10_read_167 : decode cX10_read 167 = .ok (.bipush 40, 2) := by decide +kernel
theorem dX10_read_169 : decode cX10_read 169 = .ok (.if_icmp .ge 92, 3) := by decide +kernel
theorem dX10_read_172 : decode cX10_read 172 = .ok (.iload_n 1, 1) := by decide +kernel
theorem dX10_read_173 : decode cX10_read 173 = .ok (.aload_n 0, 1) := by decide +kernel
theorem dX10_read_174 : decode cX10_read 174 = .ok (.aload_n 0, 1) := by decide +kernel
theorem dX10_read_175 : decode cX10_read 175 = .ok (.getfield 71, 3) := by decide +kernel
theorem dX10_read_178 : decode cX10_read 178 = .ok (.iload_n 2, 1) := by decide +kernel
theorem dX10_read_179 : decode cX10_read 179 = .ok (.iaload, 1) := by decide +kernel
theorem dX10_read_180 : decode cX10_read 180 = .ok (.aload_n 0, 1) := by decide +kernel
theorem dX10_read_181 : decode cX10_read 181 = .ok (.getfield 71, 3) := by decide +kernel
theorem dX10_read_184 : decode cX10_read 184 = .ok (.iload_n 2, 1) := by decide +kernel
theorem dX10_read_185 : decode cX10_read 185 = .ok (.iconst 1, 1) := by decide +kernel
theorem dX10_read_186 : decode cX10_read 186 = .ok (.iadd, 1) := by decide +kernel
theorem dX10_read_187 : decode cX10_read 187 = .ok (.iaload, 1) := by decide +kernel
theorem dX10_read_188 : decode cX10_read 188 = .ok (.aload_n 0, 1) := by decide +kernel
theorem dX10_read_189 : decode cX10_read 189 = .ok (.getfield 71, 3) := by decide +kernel
theorem dX10_read_192 : decode cX10_read 192 = .ok (.iload_n 2, 1) := by decide +kernel
theorem dX10_read_193 : decode cX10_read 193 = .ok (.iconst 2, 1) := by decide +kernel
theorem dX10_read_194 : decode cX10_read 194 = .ok (.iadd, 1) := by decide +kernel
theorem dX10_read_195 : decode cX10_read 195 = .ok (.iaload, 1) := by decide +kernel
theorem dX10_read_196 : decode cX10_read 196 = .ok (.aload_n 0, 1) := by decide +kernel
theorem dX10_read_197 : decode cX10_read 197 = .ok (.getfield 71, 3) := by decide +kernel
theorem dX10_read_200 : decode cX10_read 200 = .ok (.iload_n 2, 1) := by decide +kernel
theorem dX10_read_201 : decode cX10_read 201 = .ok (.iconst 3, 1) := by decide +kernel
theorem dX10_read_202 : decode cX10_read 202 = .ok (.iadd, 1) := by decide +kernel
theorem dX10_read_203 : decode cX10_read 203 = .ok (.iaload, 1) := by decide +kernel
theorem dX10_read_204 : decode cX10_read 204 = .ok (.aload_n 0, 1) := by decide +kernel
theorem dX10_read_205 : decode cX10_read 205 = .ok (.getfield 71, 3) := by decide +kernel
theorem dX10_read_208 : decode cX10_read 208 = .ok (.iload_n 2, 1) := by decide +kernel
theorem dX10_read_209 : decode cX10_read 209 = .ok (.iconst 4, 1) := by decide +kernel
theorem dX10_read_210 : decode cX10_read 210 = .ok (.iadd, 1) := by decide +kernel
theorem dX10_read_211 : decode cX10_read 211 = .ok (.iaload, 1) := by decide +kernel
theorem dX10_read_212 : decode cX10_read 212 = .ok (.aload_n 0, 1) := by decide +kernel
theorem dX10_read_213 : decode cX10_read 213 = .ok (.getfield 71, 3) := by decide +kernel
theorem dX10_read_216 : decode cX10_read 216 = .ok (.iload_n 2, 1) := by decide +kernel
theorem dX10_read_217 : decode cX10_read 217 = .ok (.iconst 5, 1) := by decide +kernel
theorem dX10_read_218 : decode cX10_read 218 = .ok (.iadd, 1) := by decide +kernel
theorem dX10_read_219 : decode cX10_read 219 = .ok (.iaload, 1) := by decide +kernel
theorem dX10_read_220 : decode cX10_read 220 = .ok (.ldc 212, 2) := by decide +kernel
theorem dX10_read_222 : decode cX10_read 222 = .ok (.aload_n 0, 1) := by decide +kernel
theorem dX10_read_223 : decode cX10_read 223 = .ok (.getfield 71, 3) := by decide +kernel
theorem dX10_read_226 : decode cX10_read 226 = .ok (.iload_n 2, 1) := by decide +kernel
theorem dX10_read_227 : decode cX10_read 227 = .ok (.bipush 6, 2) := by decide +kernel
theorem dX10_read_229 : decode cX10_read 229 = .ok (.iadd, 1) := by decide +kernel
theorem dX10_read_230 : decode cX10_read 230 = .ok (.iaload, 1) := by decide +kernel
theorem dX10_read_231 : decode cX10_read 231 = .ok (.imul, 1) := by decide +kernel
theorem dX10_read_232 : decode cX10_read 232 = .ok (.aload_n 0, 1) := by decide +kernel
theorem dX10_read_233 : decode cX10_read 233 = .ok (.getfield 71, 3) := by decide +kernel
theorem dX10_read_236 : decode cX10_read 236 = .ok (.iload_n 2, 1) := by decide +kernel
theorem dX10_read_237 : decode cX10_read 237 = .ok (.bipush 7, 2) := by decide +kernel
theorem dX10_read_239 : decode cX10_read 239 = .ok (.iadd, 1) := by decide +kernel
theorem dX10_read_240 : decode cX10_read 240 = .ok (.iaload, 1) := by decide +kernel
theorem dX10_read_241 : decode cX10_read 241 = .ok (.iadd, 1) := by decide +kernel
theorem dX10_read_242 : decode cX10_read 242 = .ok (.invokevirtual 186, 3) := by decide +kernel
theorem dX10_read_245 : decode cX10_read 245 = .ok (.ifCond .ge 7, 3) := by decide +kernel
theorem dX10_read_248 : decode cX10_read 248 = .ok (.iconst 0, 1) := by decide +kernel
theorem dX10_read_249 : decode cX10_read 249 = .ok (.goto 4, 3) := by decide +kernel
theorem dX10_read_252 : decode cX10_read 252 = .ok (.iconst 1, 1) := by decide +kernel
theorem dX10_read_253 : decode cX10_read 253 = .ok (.iadd, 1) := by decide +kernel
theorem dX10_read_254 : decode cX10_read 254 = .ok (.istore_n 1, 1) := by decide +kernel
theorem dX10_read_255 : decode cX10_read 255 = .ok (.iinc 2 8, 3) := by decide +kernel
theorem dX10_read_258 : decode cX10_read 258 = .ok (.goto (-254), 3) := by decide +kernel
theorem dX10_read_261 : decode cX10_read 261 = .ok (.aload_n 0, 1) := by decide +kernel
theorem dX10_read_262 : decode cX10_read 262 = .ok (.iconst 0, 1) := by decide +kernel
theorem dX10_read_263 : decode cX10_read 263 = .ok (.putfield 203, 3) := by decide +kernel
theorem dX10_read_266 : decode cX10_read 266 = .ok (.iload_n 1, 1) := by decide +kernel
theorem dX10_read_267 : decode cX10_read 267 = .ok (.ireturn, 1) := by decide +kernel
theorem dX10_isSent_0 : decode cX10_isSent 0 = .ok (.aload_n 0, 1) := by decide +kernel
theorem dX10_isSent_1 : decode cX10_isSent 1 = .ok (.getfield 105, 3) := by decide +kernel
theorem dX10_isSent_4 : decode cX10_isSent 4 = .ok (.iload_n 1, 1) := by decide +kernel
theorem dX10_isSent_5 : decode cX10_isSent 5 = .ok (.iaload, 1) := by decide +kernel
theorem dX10_isSent_6 : decode cX10_isSent 6 = .ok (.ifCond .gt 39, 3) := by decide +kernel
theorem dX10_isSent_9 : decode cX10_isSent 9 = .ok (.aload_n 0, 1) := by decide +kernel
theorem dX10_isSent_10 : decode cX10_isSent 10 = .ok (.getfield 105, 3) := by decide +kernel
theorem dX10_isSent_13 : decode cX10_isSent 13 = .ok (.bipush 40, 2) := by decide +kernel
theorem dX10_isSent_15 : decode cX10_isSent 15 = .ok (.iload_n 1, 1) := by decide +kernel
theorem dX10_isSent_16 : decode cX10_isSent 16 = .ok (.iadd, 1) := by decide +kernel
theorem dX10_isSent_17 : decode cX10_isSent 17 = .ok (.iaload, 1) := by decide +kernel
theorem dX10_isSent_18 : decode cX10_isSent 18 = .ok (.ifCond .gt 27, 3) := by decide +kernel
theorem dX10_isSent_21 : decode cX10_isSent 21 = .ok (.aload_n 0, 1) := by decide +kernel
theorem dX10_isSent_22 : decode cX10_isSent 22 = .ok (.getfield 105, 3) := by decide +kernel
theorem dX10_isSent_25 : decode cX10_isSent 25 = .ok (.bipush 80, 2) := by decide +kernel
theorem dX10_isSent_27 : decode cX10_isSent 27 = .ok (.iload_n 1, 1) := by decide +kernel
theorem dX10_isSent_28 : decode cX10_isSent 28 = .ok (.iadd, 1) := by decide +kernel
theorem dX10_isSent_29 : decode cX10_isSent 29 = .ok (.iaload, 1) := by decide +kernel
theorem dX10_isSent_30 : decode cX10_isSent 30 = .ok (.ifCond .gt 15, 3) := by decide +kernel
theorem dX10_isSent_33 : decode cX10_isSent 33 = .ok (.aload_n 0, 1) := by decide +kernel
theorem dX10_isSent_34 : decode cX10_isSent 34 = .ok (.getfield 105, 3) := by decide +kernel
theorem dX10_isSent_37 : decode cX10_isSent 37 = .ok (.bipush 120, 2) := by decide +kernel
theorem dX10_isSent_39 : decode cX10_isSent 39 = .ok (.iload_n 1, 1) := by decide +kernel
theorem dX10_isSent_40 : decode cX10_isSent 40 = .ok (.iadd, 1) := by decide +kernel
theorem dX10_isSent_41 : decode cX10_isSent 41 = .ok (.iaload, 1) := by decide +kernel
theorem dX10_isSent_42 : decode cX10_isSent 42 = .ok (.ifCond .le 7, 3) := by decide +kernel
theorem dX10_isSent_45 : decode cX10_isSent 45 = .ok (.iconst 1, 1) := by decide +kernel
theorem dX10_isSent_46 : decode cX10_isSent 46 = .ok (.goto 4, 3) := by decide +kernel
theorem dX10_isSent_49 : decode cX10_isSent 49 = .ok (.iconst 0, 1) := by decide +kernel
theorem dX10_isSent_50 : decode cX10_isSent 50 = .ok (.ireturn, 1) := by decide +kernel
theorem dX10_takeBack_0 : decode cX10_takeBack 0 = .ok (.aload_n 0, 1) := by decide +kernel
theorem dX10_takeBack_1 : decode cX10_takeBack 1 = .ok (.getfield 181, 3) := by decide +kernel
theorem dX10_takeBack_4 : decode cX10_takeBack 4 = .ok (.ifCond .eq 16, 3) := by decide +kernel
theorem dX10_takeBack_7 : decode cX10_takeBack 7 = .ok (.aload_n 0, 1) := by decide +kernel
theorem dX10_takeBack_8 : decode cX10_takeBack 8 = .ok (.aload_n 0, 1) := by decide +kernel
theorem dX10_takeBack_9 : decode cX10_takeBack 9 = .ok (.getfield 181, 3) := by decide +kernel
theorem dX10_takeBack_12 : decode cX10_takeBack 12 = .ok (.iconst 1, 1) := by decide +kernel
theorem dX10_takeBack_13 : decode cX10_takeBack 13 = .ok (.isub, 1) := by decide +kernel
theorem dX10_takeBack_14 : decode cX10_takeBack 14 = .ok (.invokevirtual 213, 3) := by decide +kernel
theorem dX10_takeBack_17 : decode cX10_takeBack 17 = .ok (.ifCond .eq 10, 3) := by decide +kernel
theorem dX10_takeBack_20 : decode cX10_takeBack 20 = .ok (.aload_n 0, 1) := by decide +kernel
theorem dX10_takeBack_21 : decode cX10_takeBack 21 = .ok (.bipush (-3), 2) := by decide +kernel
theorem dX10_takeBack_23 : decode cX10_takeBack 23 = .ok (.invokevirtual 120, 3) := by decide +kernel
theorem dX10_takeBack_26 : decode cX10_takeBack 26 = .ok (.ireturn, 1) := by decide +kernel
theorem dX10_takeBack_27 : decode cX10_takeBack 27 = .ok (.aload_n 0, 1) := by decide +kernel
theorem dX10_takeBack_28 : decode cX10_takeBack 28 = .ok (.dup, 1) := by decide +kernel
theorem dX10_takeBack_29 : decode cX10_takeBack 29 = .ok (.getfield 181, 3) := by decide +kernel
theorem dX10_takeBack_32 : decode cX10_takeBack 32 = .ok (.iconst 1, 1) := by decide +kernel
theorem dX10_takeBack_33 : decode cX10_takeBack 33 = .ok (.isub, 1) := by decide +kernel
theorem dX10_takeBack_34 : decode cX10_takeBack 34 = .ok (.putfield 181, 3) := by decide +kernel
theorem dX10_takeBack_37 : decode cX10_takeBack 37 = .ok (.aload_n 0, 1) := by decide +kernel
theorem dX10_takeBack_38 : decode cX10_takeBack 38 = .ok (.getfield 181, 3) := by decide +kernel
theorem dX10_takeBack_41 : decode cX10_takeBack 41 = .ok (.ireturn, 1) := by decide +kernel
theorem dX10_feed_0 : decode cX10_feed 0 = .ok (.iload_n 1, 1) := by decide +kernel
theorem dX10_feed_1 : decode cX10_feed 1 = .ok (.i2l, 1) := by decide +kernel
theorem dX10_feed_2 : decode cX10_feed 2 = .ok (.lconst 1, 1) := by decide +kernel
theorem dX10_feed_3 : decode cX10_feed 3 = .ok (.ldc2_w 216, 3) := by decide +kernel
theorem dX10_feed_6 : decode cX10_feed 6 = .ok (.invokestatic 126, 3) := by decide +kernel
theorem dX10_feed_9 : decode cX10_feed 9 = .ok (.istore 4, 2) := by decide +kernel
theorem dX10_feed_11 : decode cX10_feed 11 = .ok (.iload 4, 2) := by decide +kernel
theorem dX10_feed_13 : decode cX10_feed 13 = .ok (.ifCond .ne 18, 3) := by decide +kernel
theorem dX10_feed_16 : decode cX10_feed 16 = .ok (.aload_n 0, 1) := by decide +kernel
theorem dX10_feed_17 : decode cX10_feed 17 = .ok (.getfield 218, 3) := by decide +kernel
theorem dX10_feed_20 : decode cX10_feed 20 = .ok (.iload_n 1, 1) := by decide +kernel
theorem dX10_feed_21 : decode cX10_feed 21 = .ok (.iadd, 1) := by decide +kernel
theorem dX10_feed_22 : decode cX10_feed 22 = .ok (.bipush 20, 2) := by decide +kernel
theorem dX10_feed_24 : decode cX10_feed 24 = .ok (.if_icmp .le 7, 3) := by decide +kernel
theorem dX10_feed_27 : decode cX10_feed 27 = .ok (.bipush (-6), 2) := by decide +kernel
theorem dX10_feed_29 : decode cX10_feed 29 = .ok (.istore 4, 2) := by decide +kernel
theorem dX10_feed_31 : decode cX10_feed 31 = .ok (.iload 4, 2) := by decide +kernel
theorem dX10_feed_33 : decode cX10_feed 33 = .ok (.ifCond .eq 10, 3) := by decide +kernel
theorem dX10_feed_36 : decode cX10_feed 36 = .ok (.aload_n 0, 1) := by decide +kernel
theorem dX10_feed_37 : decode cX10_feed 37 = .ok (.iload 4, 2) := by decide +kernel
theorem dX10_feed_39 : decode cX10_feed 39 = .ok (.invokevirtual 120, 3) := by decide +kernel
theorem dX10_feed_42 : decode cX10_feed 42 = .ok (.ireturn, 1) := by decide +kernel
theorem dX10_feed_43 : decode cX10_feed 43 = .ok (.iconst 0, 1) := by decide +kernel
theorem dX10_feed_44 : decode cX10_feed 44 = .ok (.istore 5, 2) := by decide +kernel
theorem dX10_feed_46 : decode cX10_feed 46 = .ok (.iload 5, 2) := by decide +kernel
theorem dX10_feed_48 : decode cX10_feed 48 = .ok (.iload_n 1, 1) := by decide +kernel
theorem dX10_feed_49 : decode cX10_feed 49 = .ok (.if_icmp .ge 40, 3) := by decide +kernel
theorem dX10_feed_52 : decode cX10_feed 52 = .ok (.aload_n 0, 1) := by decide +kernel
theorem dX10_feed_53 : decode cX10_feed 53 = .ok (.getfield 74, 3) := by decide +kernel
theorem dX10_feed_56 : decode cX10_feed 56 = .ok (.aload_n 0, 1) := by decide +kernel
theorem dX10_feed_57 : decode cX10_feed 57 = .ok (.getfield 218, 3) := by decide +kernel
theorem dX10_feed_60 : decode cX10_feed 60 = .ok (.lload_n 2, 1) := by decide +kernel
theorem dX10_feed_61 : decode cX10_feed 61 = .ok (.bipush 8, 2) := by decide +kernel
theorem dX10_feed_63 : decode cX10_feed 63 = .ok (.iload 5, 2) := by decide +kernel
theorem dX10_feed_65 : decode cX10_feed 65 = .ok (.imul, 1) := by decide +kernel
theorem dX10_feed_66 : decode cX10_feed 66 = .ok (.lshr, 1) := by decide +kernel
theorem dX10_feed_67 : decode cX10_feed 67 = .ok (.ldc2_w 221, 3) := by decide +kernel
theorem dX10_feed_70 : decode cX10_feed 70 = .ok (.land, 1) := by decide +kernel
theorem dX10_feed_71 : decode cX10_feed 71 = .ok (.l2i, 1) := by decide +kernel
theorem dX10_feed_72 : decode cX10_feed 72 = .ok (.iastore, 1) := by decide +kernel
theorem dX10_feed_73 : decode cX10_feed 73 = .ok (.aload_n 0, 1) := by decide +kernel
theorem dX10_feed_74 : decode cX10_feed 74 = .ok (.dup, 1) := by decide +kernel
theorem dX10_feed_75 : decode cX10_feed 75 = .ok (.getfield 218, 3) := by decide +kernel
theorem dX10_feed_78 : decode cX10_feed 78 = .ok (.iconst 1, 1) := by decide +kernel
theorem dX10_feed_79 : decode cX10_feed 79 = .ok (.iadd, 1) := by decide +kernel
theorem dX10_feed_80 : decode cX10_feed 80 = .ok (.putfield 218, 3) := by decide +kernel
theorem dX10_feed_83 : decode cX10_feed 83 = .ok (.iinc 5 1, 3) := by decide +kernel
theorem dX10_feed_86 : decode cX10_feed 86 = .ok (.goto (-40), 3) := by decide +kernel
theorem dX10_feed_89 : decode cX10_feed 89 = .ok (.aload_n 0, 1) := by decide +kernel
theorem dX10_feed_90 : decode cX10_feed 90 = .ok (.getfield 218, 3) := by decide +kernel
theorem dX10_feed_93 : decode cX10_feed 93 = .ok (.ireturn, 1) := by decide +kernel
theorem dX10_sign_0 : decode cX10_sign 0 = .ok (.aload_n 0, 1) := by decide +kernel
theorem dX10_sign_1 : decode cX10_sign 1 = .ok (.getfield 223, 3) := by decide +kernel
theorem dX10_sign_4 : decode cX10_sign 4 = .ok (.aload_n 0, 1) := by decide +kernel
theorem dX10_sign_5 : decode cX10_sign 5 = .ok (.getfield 218, 3) := by decide +kernel
theorem dX10_sign_8 : decode cX10_sign 8 = .ok (.if_icmp .ge 15, 3) := by decide +kernel
theorem dX10_sign_11 : decode cX10_sign 11 = .ok (.aload_n 0, 1) := by decide +kernel
theorem dX10_sign_12 : decode cX10_sign 12 = .ok (.getfield 74, 3) := by decide +kernel
theorem dX10_sign_15 : decode cX10_sign 15 = .ok (.aload_n 0, 1) := by decide +kernel
theorem dX10_sign_16 : decode cX10_sign 16 = .ok (.getfield 223, 3) := by decide +kernel
theorem dX10_sign_19 : decode cX10_sign 19 = .ok (.iaload, 1) := by decide +kernel
theorem dX10_sign_20 : decode cX10_sign 20 = .ok (.goto 4, 3) := by decide +kernel
theorem dX10_sign_23 : decode cX10_sign 23 = .ok (.iconst (-1), 1) := by decide +kernel
theorem dX10_sign_24 : decode cX10_sign 24 = .ok (.ireturn, 1) := by decide +kernel
theorem dX10_oneTerm_0 : decode cX10_oneTerm 0 = .ok (.aload_n 0, 1) := by decide +kernel
theorem dX10_oneTerm_1 : decode cX10_oneTerm 1 = .ok (.invokevirtual 226, 3) := by decide +kernel
theorem dX10_oneTerm_4 : decode cX10_oneTerm 4 = .ok (.istore_n 2, 1) := by decide +kernel
theorem dX10_oneTerm_5 : decode cX10_oneTerm 5 = .ok (.iload_n 2, 1) := by decide +kernel
theorem dX10_oneTerm_6 : decode cX10_oneTerm 6 = .ok (.bipush 101, 2) := by decide +kernel
theorem dX10_oneTerm_8 : decode cX10_oneTerm 8 = .ok (.if_icmp .ne 7, 3) := by decide +kernel
theorem dX10_oneTerm_11 : decode cX10_oneTerm 11 = .ok (.iconst 0, 1) := by decide +kernel
theorem dX10_oneTerm_12 : decode cX10_oneTerm 12 = .ok (.goto 34, 3) := by decide +kernel
theorem dX10_oneTerm_15 : decode cX10_oneTerm 15 = .ok (.iload_n 2, 1) := by decide +kernel
theorem dX10_oneTerm_16 : decode cX10_oneTerm 16 = .ok (.bipush 111, 2) := by decide +kernel
theorem dX10_oneTerm_18 : decode cX10_oneTerm 18 = .ok (.if_icmp .ne 7, 3) := by decide +kernel
theorem dX10_oneTerm_21 : decode cX10_oneTerm 21 = .ok (.iconst 1, 1) := by decide +kernel
theorem dX10_oneTerm_22 : decode cX10_oneTerm 22 = .ok (.goto 24, 3) := by decide +kernel
theorem dX10_oneTerm_25 : decode cX10_oneTerm 25 = .ok (.iload_n 2, 1) := by decide +kernel
theorem dX10_oneTerm_26 : decode cX10_oneTerm 26 = .ok (.bipush 108, 2) := by decide +kernel
theorem dX10_oneTerm_28 : decode cX10_oneTerm 28 = .ok (.if_icmp .ne 7, 3) := by decide +kernel
theorem dX10_oneTerm_31 : decode cX10_oneTerm 31 = .ok (.iconst 2, 1) := by decide +kernel
theorem dX10_oneTerm_32 : decode cX10_oneTerm 32 = .ok (.goto 14, 3) := by decide +kernel
theorem dX10_oneTerm_35 : decode cX10_oneTerm 35 = .ok (.iload_n 2, 1) := by decide +kernel
theorem dX10_oneTerm_36 : decode cX10_oneTerm 36 = .ok (.bipush 112, 2) := by decide +kernel
theorem dX10_oneTerm_38 : decode cX10_oneTerm 38 = .ok (.if_icmp .ne 7, 3) := by decide +kernel
theorem dX10_oneTerm_41 : decode cX10_oneTerm 41 = .ok (.iconst 3, 1) := by decide +kernel
theorem dX10_oneTerm_42 : decode cX10_oneTerm 42 = .ok (.goto 4, 3) := by decide +kernel
theorem dX10_oneTerm_45 : decode cX10_oneTerm 45 = .ok (.iconst (-1), 1) := by decide +kernel
theorem dX10_oneTerm_46 : decode cX10_oneTerm 46 = .ok (.istore_n 3, 1) := by decide +kernel
theorem dX10_oneTerm_47 : decode cX10_oneTerm 47 = .ok (.iload_n 3, 1) := by decide +kernel
theorem dX10_oneTerm_48 : decode cX10_oneTerm 48 = .ok (.ifCond .lt 13, 3) := by decide +kernel
theorem dX10_oneTerm_51 : decode cX10_oneTerm 51 = .ok (.aload_n 0, 1) := by decide +kernel
theorem dX10_oneTerm_52 : decode cX10_oneTerm 52 = .ok (.getfield 80, 3) := by decide +kernel
theorem dX10_oneTerm_55 : decode cX10_oneTerm 55 = .ok (.iload_n 1, 1) := by decide +kernel
theorem dX10_oneTerm_56 : decode cX10_oneTerm 56 = .ok (.iaload, 1) := by decide +kernel
theorem dX10_oneTerm_57 : decode cX10_oneTerm 57 = .ok (.iconst 3, 1) := by decide +kernel
theorem dX10_oneTerm_58 : decode cX10_oneTerm 58 = .ok (.if_icmp .ne 5, 3) := by decide +kernel
theorem dX10_oneTerm_61 : decode cX10_oneTerm 61 = .ok (.iconst 0, 1) := by decide +kernel
theorem dX10_oneTerm_62 : decode cX10_oneTerm 62 = .ok (.ireturn, 1) := by decide +kernel
theorem dX10_oneTerm_63 : decode cX10_oneTerm 63 = .ok (.aload_n 0, 1) := by decide +kernel
theorem dX10_oneTerm_64 : decode cX10_oneTerm 64 = .ok (.getfield 223, 3) := by decide +kernel
theorem dX10_oneTerm_67 : decode cX10_oneTerm 67 = .ok (.istore 4, 2) := by decide +kernel
theorem dX10_oneTerm_69 : decode cX10_oneTerm 69 = .ok (.aload_n 0, 1) := by decide +kernel
theorem dX10_oneTerm_70 : decode cX10_oneTerm 70 = .ok (.dup, 1) := by decide +kernel
theorem dX10_oneTerm_71 : decode cX10_oneTerm 71 = .ok (.getfield 223, 3) := by decide +kernel
theorem dX10_oneTerm_74 : decode cX10_oneTerm 74 = .ok (.iconst 1, 1) := by decide +kernel
theorem dX10_oneTerm_75 : decode cX10_oneTerm 75 = .ok (.iadd, 1) := by decide +kernel
theorem dX10_oneTerm_76 : decode cX10_oneTerm 76 = .ok (.putfield 223, 3) := by decide +kernel
theorem dX10_oneTerm_79 : decode cX10_oneTerm 79 = .ok (.iload_n 3, 1) := by decide +kernel
theorem dX10_oneTerm_80 : decode cX10_oneTerm 80 = .ok (.iconst 3, 1) := by decide +kernel
theorem dX10_oneTerm_81 : decode cX10_oneTerm 81 = .ok (.if_icmp .ne 42, 3) := by decide +kernel
theorem dX10_oneTerm_84 : decode cX10_oneTerm 84 = .ok (.aload_n 0, 1) := by decide +kernel
theorem dX10_oneTerm_85 : decode cX10_oneTerm 85 = .ok (.invokevirtual 226, 3) := by decide +kernel
theorem dX10_oneTerm_88 : decode cX10_oneTerm 88 = .ok (.i2l, 1) := by decide +kernel
theorem dX10_oneTerm_89 : decode cX10_oneTerm 89 = .ok (.ldc2_w 230, 3) := by decide +kernel
theorem dX10_oneTerm_92 : decode cX10_oneTerm 92 = .ok (.ldc2_w 232, 3) := by decide +kernel
theorem dX10_oneTerm_95 : decode cX10_oneTerm 95 = .ok (.invokestatic 116, 3) := by decide +kernel
theorem dX10_oneTerm_98 : decode cX10_oneTerm 98 = .ok (.ifCond .ne 5, 3) := by decide +kernel
theorem dX10_oneTerm_101 : decode cX10_oneTerm 101 = .ok (.iconst 0, 1) := by decide +kernel
theorem dX10_oneTerm_102 : decode cX10_oneTerm 102 = .ok (.ireturn, 1) := by decide +kernel
theorem dX10_oneTerm_103 : decode cX10_oneTerm 103 = .ok (.iload_n 3, 1) := by decide +kernel
theorem dX10_oneTerm_104 : decode cX10_oneTerm 104 = .ok (.aload_n 0, 1) := by decide +kernel
theorem dX10_oneTerm_105 : decode cX10_oneTerm 105 = .ok (.invokevirtual 226, 3) := by decide +kernel
theorem dX10_oneTerm_108 : decode cX10_oneTerm 108 = .ok (.bipush 48, 2) := by decide +kernel
theorem dX10_oneTerm_110 : decode cX10_oneTerm 110 = .ok (.isub, 1) := by decide +kernel
theorem dX10_oneTerm_111 : decode cX10_oneTerm 111 = .ok (.iadd, 1) := by decide +kernel
theorem dX10_oneTerm_112 : decode cX10_oneTerm 112 = .ok (.istore_n 3, 1) := by decide +kernel
theorem dX10_oneTerm_113 : decode cX10_oneTerm 113 = .ok (.aload_n 0, 1) := by decide +kernel
theorem dX10_oneTerm_114 : decode cX10_oneTerm 114 = .ok (.dup, 1) := by decide +kernel
theorem dX10_oneTerm_115 : decode cX10_oneTerm 115 = .ok (.getfield 223, 3) := by decide +kernel
theorem dX10_oneTerm_118 : decode cX10_oneTerm 118 = .ok (.iconst 1, 1) := by decide +kernel
theorem dX10_oneTerm_119 : decode cX10_oneTerm 119 = .ok (.iadd, 1) := by decide +kernel
theorem dX10_oneTerm_120 : decode cX10_oneTerm 120 = .ok (.putfield 223, 3) := by decide +kernel
theorem dX10_oneTerm_123 : decode cX10_oneTerm 123 = .ok (.iconst 0, 1) := by decide +kernel
theorem dX10_oneTerm_124 : decode cX10_oneTerm 124 = .ok (.istore 5, 2) := by decide +kernel
theorem dX10_oneTerm_126 : decode cX10_oneTerm 126 = .ok (.iload 5, 2) := by decide +kernel
theorem dX10_oneTerm_128 : decode cX10_oneTerm 128 = .ok (.aload_n 0, 1) := by decide +kernel
theorem dX10_oneTerm_129 : decode cX10_oneTerm 129 = .ok (.getfield 80, 3) := by decide +kernel
theorem dX10_oneTerm_132 : decode cX10_oneTerm 132 = .ok (.iload_n 1, 1) := by decide +kernel
theorem dX10_oneTerm_133 : decode cX10_oneTerm 133 = .ok (.iaload, 1) := by decide +kernel
theorem dX10_oneTerm_134 : decode cX10_oneTerm 134 = .ok (.if_icmp .ge 33, 3) := by decide +kernel
theorem dX10_oneTerm_137 : decode cX10_oneTerm 137 = .ok (.aload_n 0, 1) := by decide +kernel
theorem dX10_oneTerm_138 : decode cX10_oneTerm 138 = .ok (.getfield 77, 3) := by decide +kernel
theorem dX10_oneTerm_141 : decode cX10_oneTerm 141 = .ok (.bipush 8, 2) := by decide +kernel
theorem dX10_oneTerm_143 : decode cX10_oneTerm 143 = .ok (.iload_n 1, 1) := by decide +kernel
theorem dX10_oneTerm_144 : decode cX10_oneTerm 144 = .ok (.imul, 1) := by decide +kernel
theorem dX10_oneTerm_145 : decode cX10_oneTerm 145 = .ok (.iload 5, 2) := by decide +kernel
theorem dX10_oneTerm_147 : decode cX10_oneTerm 147 = .ok (.iadd, 1) := by decide +kernel
theorem dX10_oneTerm_148 : decode cX10_oneTerm 148 = .ok (.iaload, 1) := by decide +kernel
theorem dX10_oneTerm_149 : decode cX10_oneTerm 149 = .ok (.iload_n 3, 1) := by decide +kernel
theorem dX10_oneTerm_150 : decode cX10_oneTerm 150 = .ok (.if_icmp .ne 11, 3) := by decide +kernel
theorem dX10_oneTerm_153 : decode cX10_oneTerm 153 = .ok (.aload_n 0, 1) := by decide +kernel
theorem dX10_oneTerm_154 : decode cX10_oneTerm 154 = .ok (.iload 4, 2) := by decide +kernel
theorem dX10_oneTerm_156 : decode cX10_oneTerm 156 = .ok (.putfield 223, 3) := by decide +kernel
theorem dX10_oneTerm_159 : decode cX10_oneTerm 159 = .ok (.iconst 0, 1) := by decide +kernel
theorem dX10_oneTerm_160 : decode cX10_oneTerm 160 = .ok (.ireturn, 1) := by decide +kernel
theorem dX10_oneTerm_161 : decode cX10_oneTerm 161 = .ok (.iinc 5 1, 3) := by decide +kernel
theorem dX10_oneTerm_164 : decode cX10_oneTerm 164 = .ok (.goto (-38), 3) := by decide +kernel
theorem dX10_oneTerm_167 : decode cX10_oneTerm 167 = .ok (.aload_n 0, 1) := by decide +kernel
theorem dX10_oneTerm_168 : decode cX10_oneTerm 168 = .ok (.getfield 77, 3) := by decide +kernel
theorem dX10_oneTerm_171 : decode cX10_oneTerm 171 = .ok (.bipush 8, 2) := by decide +kernel
theorem dX10_oneTerm_173 : decode cX10_oneTerm 173 = .ok (.iload_n 1, 1) := by decide +kernel
theorem dX10_oneTerm_174 : decode cX10_oneTerm 174 = .ok (.imul, 1) := by decide +kernel
theorem dX10_oneTerm_175 : decode cX10_oneTerm 175 = .ok (.aload_n 0, 1) := by decide +kernel
theorem dX10_oneTerm_176 : decode cX10_oneTerm 176 = .ok (.getfield 80, 3) := by decide +kernel
theorem dX10_oneTerm_179 : decode cX10_oneTerm 179 = .ok (.iload_n 1, 1) := by decide +kernel
theorem dX10_oneTerm_180 : decode cX10_oneTerm 180 = .ok (.iaload, 1) := by decide +kernel
theorem dX10_oneTerm_181 : decode cX10_oneTerm 181 = .ok (.iadd, 1) := by decide +kernel
theorem dX10_oneTerm_182 : decode cX10_oneTerm 182 = .ok (.iload_n 3, 1) := by decide +kernel
theorem dX10_oneTerm_183 : decode cX10_oneTerm 183 = .ok (.iastore, 1) := by decide +kernel
theorem dX10_oneTerm_184 : decode cX10_oneTerm 184 = .ok (.aload_n 0, 1) := by decide +kernel
theorem dX10_oneTerm_185 : decode cX10_oneTerm 185 = .ok (.getfield 80, 3) := by decide +kernel
theorem dX10_oneTerm_188 : decode cX10_oneTerm 188 = .ok (.iload_n 1, 1) := by decide +kernel
theorem dX10_oneTerm_189 : decode cX10_oneTerm 189 = .ok (.dup2, 1) := by decide +kernel
theorem dX10_oneTerm_190 : decode cX10_oneTerm 190 = .ok (.iaload, 1) := by decide +kernel
theorem dX10_oneTerm_191 : decode cX10_oneTerm 191 = .ok (.iconst 1, 1) := by decide +kernel
theorem dX10_oneTerm_192 : decode cX10_oneTerm 192 = .ok (.iadd, 1) := by decide +kernel
theorem dX10_oneTerm_193 : decode cX10_oneTerm 193 = .ok (.iastore, 1) := by decide +kernel
theorem dX10_oneTerm_194 : decode cX10_oneTerm 194 = .ok (.iconst 1, 1) := by decide +kernel
theorem dX10_oneTerm_195 : decode cX10_oneTerm 195 = .ok (.ireturn, 1) := by decide +kernel
theorem dX10_reads_0 : decode cX10_reads 0 = .ok (.aload_n 0, 1) := by decide +kernel
theorem dX10_reads_1 : decode cX10_reads 1 = .ok (.iconst 0, 1) := by decide +kernel
theorem dX10_reads_2 : decode cX10_reads 2 = .ok (.putfield 223, 3) := by decide +kernel
theorem dX10_reads_5 : decode cX10_reads 5 = .ok (.aload_n 0, 1) := by decide +kernel
theorem dX10_reads_6 : decode cX10_reads 6 = .ok (.getfield 80, 3) := by decide +kernel
theorem dX10_reads_9 : decode cX10_reads 9 = .ok (.iload_n 1, 1) := by decide +kernel
theorem dX10_reads_10 : decode cX10_reads 10 = .ok (.iconst 0, 1) := by decide +kernel
theorem dX10_reads_11 : decode cX10_reads 11 = .ok (.iastore, 1) := by decide +kernel
theorem dX10_reads_12 : decode cX10_reads 12 = .ok (.iconst 1, 1) := by decide +kernel
theorem dX10_reads_13 : decode cX10_reads 13 = .ok (.istore_n 2, 1) := by decide +kernel
theorem dX10_reads_14 : decode cX10_reads 14 = .ok (.iload_n 2, 1) := by decide +kernel
theorem dX10_reads_15 : decode cX10_reads 15 = .ok (.ifCond .eq 49, 3) := by decide +kernel
theorem dX10_reads_18 : decode cX10_reads 18 = .ok (.aload_n 0, 1) := by decide +kernel
theorem dX10_reads_19 : decode cX10_reads 19 = .ok (.iload_n 1, 1) := by decide +kernel
theorem dX10_reads_20 : decode cX10_reads 20 = .ok (.invokevirtual 234, 3) := by decide +kernel
theorem dX10_reads_23 : decode cX10_reads 23 = .ok (.ifCond .ne 5, 3) := by decide +kernel
theorem dX10_reads_26 : decode cX10_reads 26 = .ok (.iconst 0, 1) := by decide +kernel
theorem dX10_reads_27 : decode cX10_reads 27 = .ok (.ireturn, 1) := by decide +kernel
theorem dX10_reads_28 : decode cX10_reads 28 = .ok (.aload_n 0, 1) := by decide +kernel
theorem dX10_reads_29 : decode cX10_reads 29 = .ok (.invokevirtual 226, 3) := by decide +kernel
theorem dX10_reads_32 : decode cX10_reads 32 = .ok (.bipush 43, 2) := by decide +kernel
theorem dX10_reads_34 : decode cX10_reads 34 = .ok (.if_icmp .ne 7, 3) := by decide +kernel
theorem dX10_reads_37 : decode cX10_reads 37 = .ok (.iconst 1, 1) := by decide +kernel
theorem dX10_reads_38 : decode cX10_reads 38 = .ok (.goto 4, 3) := by decide +kernel
theorem dX10_reads_41 : decode cX10_reads 41 = .ok (.iconst 0, 1) := by decide +kernel
theorem dX10_reads_42 : decode cX10_reads 42 = .ok (.istore_n 2, 1) := by decide +kernel
theorem dX10_reads_43 : decode cX10_reads 43 = .ok (.aload_n 0, 1) := by decide +kernel
theorem dX10_reads_44 : decode cX10_reads 44 = .ok (.dup, 1) := by decide +kernel
theorem dX10_reads_45 : decode cX10_reads 45 = .ok (.getfield 223, 3) := by decide +kernel
theorem dX10_reads_48 : decode cX10_reads 48 = .ok (.iload_n 2, 1) := by decide +kernel
theorem dX10_reads_49 : decode cX10_reads 49 = .ok (.ifCond .eq 7, 3) := by decide +kernel
theorem dX10_reads_52 : decode cX10_reads 52 = .ok (.iconst 1, 1) := by decide +kernel
theorem dX10_reads_53 : decode cX10_reads 53 = .ok (.goto 4, 3) := by decide +kernel
theorem dX10_reads_56 : decode cX10_reads 56 = .ok (.iconst 0, 1) := by decide +kernel
theorem dX10_reads_57 : decode cX10_reads 57 = .ok (.iadd, 1) := by decide +kernel
theorem dX10_reads_58 : decode cX10_reads 58 = .ok (.putfield 223, 3) := by decide +kernel
theorem dX10_reads_61 : decode cX10_reads 61 = .ok (.goto (-47), 3) := by decide +kernel
theorem dX10_reads_64 : decode cX10_reads 64 = .ok (.aload_n 0, 1) := by decide +kernel
theorem dX10_reads_65 : decode cX10_reads 65 = .ok (.getfield 223, 3) := by decide +kernel
theorem dX10_reads_68 : decode cX10_reads 68 = .ok (.aload_n 0, 1) := by decide +kernel
theorem dX10_reads_69 : decode cX10_reads 69 = .ok (.getfield 218, 3) := by decide +kernel
theorem dX10_reads_72 : decode cX10_reads 72 = .ok (.if_icmp .ne 7, 3) := by decide +kernel
theorem dX10_reads_75 : decode cX10_reads 75 = .ok (.iconst 1, 1) := by decide +kernel
theorem dX10_reads_76 : decode cX10_reads 76 = .ok (.goto 4, 3) := by decide +kernel
theorem dX10_reads_79 : decode cX10_reads 79 = .ok (.iconst 0, 1) := by decide +kernel
theorem dX10_reads_80 : decode cX10_reads 80 = .ok (.ireturn, 1) := by decide +kernel
theorem dX10_table_0 : decode cX10_table 0 = .ok (.aload_n 0, 1) := by decide +kernel
theorem dX10_table_1 : decode cX10_table 1 = .ok (.getfield 237, 3) := by decide +kernel
theorem dX10_table_4 : decode cX10_table 4 = .ok (.bipush 8, 2) := by decide +kernel
theorem dX10_table_6 : decode cX10_table 6 = .ok (.if_icmp .ne 10, 3) := by decide +kernel
theorem dX10_table_9 : decode cX10_table 9 = .ok (.aload_n 0, 1) := by decide +kernel
theorem dX10_table_10 : decode cX10_table 10 = .ok (.bipush (-6), 2) := by decide +kernel
theorem dX10_table_12 : decode cX10_table 12 = .ok (.invokevirtual 120, 3) := by decide +kernel
theorem dX10_table_15 : decode cX10_table 15 = .ok (.ireturn, 1) := by decide +kernel
theorem dX10_table_16 : decode cX10_table 16 = .ok (.aload_n 0, 1) := by decide +kernel
theorem dX10_table_17 : decode cX10_table 17 = .ok (.aload_n 0, 1) := by decide +kernel
theorem dX10_table_18 : decode cX10_table 18 = .ok (.getfield 237, 3) := by decide +kernel
theorem dX10_table_21 : decode cX10_table 21 = .ok (.invokevirtual 240, 3) := by decide +kernel
theorem dX10_table_24 : decode cX10_table 24 = .ok (.istore_n 1, 1) := by decide +kernel
theorem dX10_table_25 : decode cX10_table 25 = .ok (.aload_n 0, 1) := by decide +kernel
theorem dX10_table_26 : decode cX10_table 26 = .ok (.iconst 0, 1) := by decide +kernel
theorem dX10_table_27 : decode cX10_table 27 = .ok (.putfield 218, 3) := by decide +kernel
theorem dX10_table_30 : decode cX10_table 30 = .ok (.iload_n 1, 1) := by decide +kernel
theorem dX10_table_31 : decode cX10_table 31 = .ok (.ifCond .ne 11, 3) := by decide +kernel
theorem dX10_table_34 : decode cX10_table 34 = .ok (.bipush (-20), 2) := by decide +kernel
theorem dX10_table_36 : decode cX10_table 36 = .ok (.aload_n 0, 1) := by decide +kernel
theorem dX10_table_37 : decode cX10_table 37 = .ok (.getfield 223, 3) := by decide +kernel
theorem dX10_table_40 : decode cX10_table 40 = .ok (.isub, 1) := by decide +kernel
theorem dX10_table_41 : decode cX10_table 41 = .ok (.ireturn, 1) := by decide +kernel
theorem dX10_table_42 : decode cX10_table 42 = .ok (.aload_n 0, 1) := by decide +kernel
theorem dX10_table_43 : decode cX10_table 43 = .ok (.dup, 1) := by decide +kernel
theorem dX10_table_44 : decode cX10_table 44 = .ok (.getfield 237, 3) := by decide +kernel
theorem dX10_table_47 : decode cX10_table 47 = .ok (.iconst 1, 1) := by decide +kernel
theorem dX10_table_48 : decode cX10_table 48 = .ok (.iadd, 1) := by decide +kernel
theorem dX10_table_49 : decode cX10_table 49 = .ok (.putfield 237, 3) := by decide +kernel
theorem dX10_table_52 : decode cX10_table 52 = .ok (.aload_n 0, 1) := by decide +kernel
theorem dX10_table_53 : decode cX10_table 53 = .ok (.getfield 237, 3) := by decide +kernel
theorem dX10_table_56 : decode cX10_table 56 = .ok (.iconst 1, 1) := by decide +kernel
theorem dX10_table_57 : decode cX10_table 57 = .ok (.isub, 1) := by decide +kernel
theorem dX10_table_58 : decode cX10_table 58 = .ok (.ireturn, 1) := by decide +kernel
theorem dX10_isTable_0 : decode cX10_isTable 0 = .ok (.iload_n 1, 1) := by decide +kernel
theorem dX10_isTable_1 : decode cX10_isTable 1 = .ok (.ifCond .lt 15, 3) := by decide +kernel
theorem dX10_isTable_4 : decode cX10_isTable 4 = .ok (.iload_n 1, 1) := by decide +kernel
theorem dX10_isTable_5 : decode cX10_isTable 5 = .ok (.aload_n 0, 1) := by decide +kernel
theorem dX10_isTable_6 : decode cX10_isTable 6 = .ok (.getfield 237, 3) := by decide +kernel
theorem dX10_isTable_9 : decode cX10_isTable 9 = .ok (.if_icmp .ge 7, 3) := by decide +kernel
theorem dX10_isTable_12 : decode cX10_isTable 12 = .ok (.iconst 1, 1) := by decide +kernel
theorem dX10_isTable_13 : decode cX10_isTable 13 = .ok (.goto 4, 3) := by decide +kernel
theorem dX10_isTable_16 : decode cX10_isTable 16 = .ok (.iconst 0, 1) := by decide +kernel
theorem dX10_isTable_17 : decode cX10_isTable 17 = .ok (.ireturn, 1) := by decide +kernel
theorem dX10_guess_0 : decode cX10_guess 0 = .ok (.iload_n 1, 1) := by decide +kernel
theorem dX10_guess_1 : decode cX10_guess 1 = .ok (.i2l, 1) := by decide +kernel
theorem dX10_guess_2 : decode cX10_guess 2 = .ok (.lconst 0, 1) := by decide +kernel
theorem dX10_guess_3 : decode cX10_guess 3 = .ok (.ldc2_w 114, 3) := by decide +kernel
theorem dX10_guess_6 : decode cX10_guess 6 = .ok (.invokestatic 116, 3) := by decide +kernel
theorem dX10_guess_9 : decode cX10_guess 9 = .ok (.ifCond .ne 9, 3) := by decide +kernel
theorem dX10_guess_12 : decode cX10_guess 12 = .ok (.aload_n 0, 1) := by decide +kernel
theorem dX10_guess_13 : decode cX10_guess 13 = .ok (.iconst (-1), 1) := by decide +kernel
theorem dX10_guess_14 : decode cX10_guess 14 = .ok (.invokevirtual 120, 3) := by decide +kernel
theorem dX10_guess_17 : decode cX10_guess 17 = .ok (.ireturn, 1) := by decide +kernel
theorem dX10_guess_18 : decode cX10_guess 18 = .ok (.iload_n 2, 1) := by decide +kernel
theorem dX10_guess_19 : decode cX10_guess 19 = .ok (.ifCond .lt 10, 3) := by decide +kernel
theorem dX10_guess_22 : decode cX10_guess 22 = .ok (.iload_n 3, 1) := by decide +kernel
theorem dX10_guess_23 : decode cX10_guess 23 = .ok (.sipush 1000, 3) := by decide +kernel
theorem dX10_guess_26 : decode cX10_guess 26 = .ok (.if_icmp .ge 8, 3) := by decide +kernel
theorem dX10_guess_29 : decode cX10_guess 29 = .ok (.bipush (-4), 2) := by decide +kernel
theorem dX10_guess_31 : decode cX10_guess 31 = .ok (.goto 21, 3) := by decide +kernel
theorem dX10_guess_34 : decode cX10_guess 34 = .ok (.iload_n 2, 1) := by decide +kernel
theorem dX10_guess_35 : decode cX10_guess 35 = .ok (.ldc 243, 2) := by decide +kernel
theorem dX10_guess_37 : decode cX10_guess 37 = .ok (.if_icmp .gt 9, 3) := by decide +kernel
theorem dX10_guess_40 : decode cX10_guess 40 = .ok (.iload_n 3, 1) := by decide +kernel
theorem dX10_guess_41 : decode cX10_guess 41 = .ok (.ldc 243, 2) := by decide +kernel
theorem dX10_guess_43 : decode cX10_guess 43 = .ok (.if_icmp .le 8, 3) := by decide +kernel
theorem dX10_guess_46 : decode cX10_guess 46 = .ok (.bipush (-6), 2) := by decide +kernel
theorem dX10_guess_48 : decode cX10_guess 48 = .ok (.goto 4, 3) := by decide +kernel
theorem dX10_guess_51 : decode cX10_guess 51 = .ok (.iconst 0, 1) := by decide +kernel
theorem dX10_guess_52 : decode cX10_guess 52 = .ok (.istore 4, 2) := by decide +kernel
theorem dX10_guess_54 : decode cX10_guess 54 = .ok (.iload 4, 2) := by decide +kernel
theorem dX10_guess_56 : decode cX10_guess 56 = .ok (.ifCond .eq 10, 3) := by decide +kernel
theorem dX10_guess_59 : decode cX10_guess 59 = .ok (.aload_n 0, 1) := by decide +kernel
theorem dX10_guess_60 : decode cX10_guess 60 = .ok (.iload 4, 2) := by decide +kernel
theorem dX10_guess_62 : decode cX10_guess 62 = .ok (.invokevirtual 120, 3) := by decide +kernel
theorem dX10_guess_65 : decode cX10_guess 65 = .ok (.ireturn, 1) := by decide +kernel
theorem dX10_guess_66 : decode cX10_guess 66 = .ok (.aload_n 0, 1) := by decide +kernel
theorem dX10_guess_67 : decode cX10_guess 67 = .ok (.getfield 83, 3) := by decide +kernel
theorem dX10_guess_70 : decode cX10_guess 70 = .ok (.iload_n 1, 1) := by decide +kernel
theorem dX10_guess_71 : decode cX10_guess 71 = .ok (.iload_n 2, 1) := by decide +kernel
theorem dX10_guess_72 : decode cX10_guess 72 = .ok (.iastore, 1) := by decide +kernel
theorem dX10_guess_73 : decode cX10_guess 73 = .ok (.aload_n 0, 1) := by decide +kernel
theorem dX10_guess_74 : decode cX10_guess 74 = .ok (.getfield 86, 3) := by decide +kernel
theorem dX10_guess_77 : decode cX10_guess 77 = .ok (.iload_n 1, 1) := by decide +kernel
theorem dX10_guess_78 : decode cX10_guess 78 = .ok (.iload_n 3, 1) := by decide +kernel
theorem dX10_guess_79 : decode cX10_guess 79 = .ok (.iastore, 1) := by decide +kernel
theorem dX10_guess_80 : decode cX10_guess 80 = .ok (.iconst 1, 1) := by decide +kernel
theorem dX10_guess_81 : decode cX10_guess 81 = .ok (.ireturn, 1) := by decide +kernel
theorem dX10_guessed_0 : decode cX10_guessed 0 = .ok (.aload_n 0, 1) := by decide +kernel
theorem dX10_guessed_1 : decode cX10_guessed 1 = .ok (.getfield 83, 3) := by decide +kernel
theorem dX10_guessed_4 : decode cX10_guessed 4 = .ok (.iload_n 1, 1) := by decide +kernel
theorem dX10_guessed_5 : decode cX10_guessed 5 = .ok (.iaload, 1) := by decide +kernel
theorem dX10_guessed_6 : decode cX10_guessed 6 = .ok (.i2l, 1) := by decide +kernel
theorem dX10_guessed_7 : decode cX10_guessed 7 = .ok (.iload_n 2, 1) := by decide +kernel
theorem dX10_guessed_8 : decode cX10_guessed 8 = .ok (.i2l, 1) := by decide +kernel
theorem dX10_guessed_9 : decode cX10_guessed 9 = .ok (.aload_n 0, 1) := by decide +kernel
theorem dX10_guessed_10 : decode cX10_guessed 10 = .ok (.getfield 86, 3) := by decide +kernel
theorem dX10_guessed_13 : decode cX10_guessed 13 = .ok (.iload_n 1, 1) := by decide +kernel
theorem dX10_guessed_14 : decode cX10_guessed 14 = .ok (.iaload, 1) := by decide +kernel
theorem dX10_guessed_15 : decode cX10_guessed 15 = .ok (.i2l, 1) := by decide +kernel
theorem dX10_guessed_16 : decode cX10_guessed 16 = .ok (.lmul, 1) := by decide +kernel
theorem dX10_guessed_17 : decode cX10_guessed 17 = .ok (.ladd, 1) := by decide +kernel
theorem dX10_guessed_18 : decode cX10_guessed 18 = .ok (.lreturn, 1) := by decide +kernel
theorem dX10_adds_0 : decode cX10_adds 0 = .ok (.iload_n 2, 1) := by decide +kernel
theorem dX10_adds_1 : decode cX10_adds 1 = .ok (.aload_n 0, 1) := by decide +kernel
theorem dX10_adds_2 : decode cX10_adds 2 = .ok (.getfield 28, 3) := by decide +kernel
theorem dX10_adds_5 : decode cX10_adds 5 = .ok (.iconst 2, 1) := by decide +kernel
theorem dX10_adds_6 : decode cX10_adds 6 = .ok (.iaload, 1) := by decide +kernel
theorem dX10_adds_7 : decode cX10_adds 7 = .ok (.imul, 1) := by decide +kernel
theorem dX10_adds_8 : decode cX10_adds 8 = .ok (.i2l, 1) := by decide +kernel
theorem dX10_adds_9 : decode cX10_adds 9 = .ok (.lstore 5, 2) := by decide +kernel
theorem dX10_adds_11 : decode cX10_adds 11 = .ok (.iload_n 1, 1) := by decide +kernel
theorem dX10_adds_12 : decode cX10_adds 12 = .ok (.tableswitch 61 0 2 #[28, 31, 42], 28) := by decide +kernel
theorem dX10_adds_40 : decode cX10_adds 40 = .ok (.lload 5, 2) := by decide +kernel
theorem dX10_adds_42 : decode cX10_adds 42 = .ok (.lreturn, 1) := by decide +kernel
theorem dX10_adds_43 : decode cX10_adds 43 = .ok (.lload 5, 2) := by decide +kernel
theorem dX10_adds_45 : decode cX10_adds 45 = .ok (.aload_n 0, 1) := by decide +kernel
theorem dX10_adds_46 : decode cX10_adds 46 = .ok (.iload 4, 2) := by decide +kernel
theorem dX10_adds_48 : decode cX10_adds 48 = .ok (.invokevirtual 154, 3) := by decide +kernel
theorem dX10_adds_51 : decode cX10_adds 51 = .ok (.i2l, 1) := by decide +kernel
theorem dX10_adds_52 : decode cX10_adds 52 = .ok (.lmul, 1) := by decide +kernel
theorem dX10_adds_53 : decode cX10_adds 53 = .ok (.lreturn, 1) := by decide +kernel
theorem dX10_adds_54 : decode cX10_adds 54 = .ok (.lload 5, 2) := by decide +kernel
theorem dX10_adds_56 : decode cX10_adds 56 = .ok (.aload_n 0, 1) := by decide +kernel
theorem dX10_adds_57 : decode cX10_adds 57 = .ok (.aload_n 0, 1) := by decide +kernel
theorem dX10_adds_58 : decode cX10_adds 58 = .ok (.iload_n 3, 1) := by decide +kernel
theorem dX10_adds_59 : decode cX10_adds 59 = .ok (.iload 4, 2) := by decide +kernel
theorem dX10_adds_61 : decode cX10_adds 61 = .ok (.invokevirtual 244, 3) := by decide +kernel
theorem dX10_adds_64 : decode cX10_adds 64 = .ok (.invokevirtual 157, 3) := by decide +kernel
theorem dX10_adds_67 : decode cX10_adds 67 = .ok (.lmul, 1) := by decide +kernel
theorem dX10_adds_68 : decode cX10_adds 68 = .ok (.ldc2_w 248, 3) := by decide +kernel
theorem dX10_adds_71 : decode cX10_adds 71 = .ok (.ldiv, 1) := by decide +kernel
theorem dX10_adds_72 : decode cX10_adds 72 = .ok (.lreturn, 1) := by decide +kernel
theorem dX10_adds_73 : decode cX10_adds 73 = .ok (.iload_n 1, 1) := by decide +kernel
theorem dX10_adds_74 : decode cX10_adds 74 = .ok (.iconst 3, 1) := by decide +kernel
theorem dX10_adds_75 : decode cX10_adds 75 = .ok (.isub, 1) := by decide +kernel
theorem dX10_adds_76 : decode cX10_adds 76 = .ok (.iload_n 3, 1) := by decide +kernel
theorem dX10_adds_77 : decode cX10_adds 77 = .ok (.if_icmp .ne 7, 3) := by decide +kernel
theorem dX10_adds_80 : decode cX10_adds 80 = .ok (.lconst 0, 1) := by decide +kernel
theorem dX10_adds_81 : decode cX10_adds 81 = .ok (.goto 17, 3) := by decide +kernel
theorem dX10_adds_84 : decode cX10_adds 84 = .ok (.lload 5, 2) := by decide +kernel
theorem dX10_adds_86 : decode cX10_adds 86 = .ok (.aload_n 0, 1) := by decide +kernel
theorem dX10_adds_87 : decode cX10_adds 87 = .ok (.iload 4, 2) := by decide +kernel
theorem dX10_adds_89 : decode cX10_adds 89 = .ok (.iload_n 1, 1) := by decide +kernel
theorem dX10_adds_90 : decode cX10_adds 90 = .ok (.iconst 2, 1) := by decide +kernel
theorem dX10_adds_91 : decode cX10_adds 91 = .ok (.isub, 1) := by decide +kernel
theorem dX10_adds_92 : decode cX10_adds 92 = .ok (.imul, 1) := by decide +kernel
theorem dX10_adds_93 : decode cX10_adds 93 = .ok (.invokevirtual 154, 3) := by decide +kernel
theorem dX10_adds_96 : decode cX10_adds 96 = .ok (.i2l, 1) := by decide +kernel
theorem dX10_adds_97 : decode cX10_adds 97 = .ok (.lmul, 1) := by decide +kernel
theorem dX10_adds_98 : decode cX10_adds 98 = .ok (.lreturn, 1) := by decide +kernel
theorem dX10_digit_0 : decode cX10_digit 0 = .ok (.iload_n 0, 1) := by decide +kernel
theorem dX10_digit_1 : decode cX10_digit 1 = .ok (.istore_n 2, 1) := by decide +kernel
theorem dX10_digit_2 : decode cX10_digit 2 = .ok (.iconst 0, 1) := by decide +kernel
theorem dX10_digit_3 : decode cX10_digit 3 = .ok (.istore_n 3, 1) := by decide +kernel
theorem dX10_digit_4 : decode cX10_digit 4 = .ok (.iload_n 3, 1) := by decide +kernel
theorem dX10_digit_5 : decode cX10_digit 5 = .ok (.iload_n 1, 1) := by decide +kernel
theorem dX10_digit_6 : decode cX10_digit 6 = .ok (.if_icmp .ge 14, 3) := by decide +kernel
theorem dX10_digit_9 : decode cX10_digit 9 = .ok (.iload_n 2, 1) := by decide +kernel
theorem dX10_digit_10 : decode cX10_digit 10 = .ok (.bipush 7, 2) := by decide +kernel
theorem dX10_digit_12 : decode cX10_digit 12 = .ok (.idiv, 1) := by decide +kernel
theorem dX10_digit_13 : decode cX10_digit 13 = .ok (.istore_n 2, 1) := by decide +kernel
theorem dX10_digit_14 : decode cX10_digit 14 = .ok (.iinc 3 1, 3) := by decide +kernel
theorem dX10_digit_17 : decode cX10_digit 17 = .ok (.goto (-13), 3) := by decide +kernel
theorem dX10_digit_20 : decode cX10_digit 20 = .ok (.iload_n 2, 1) := by decide +kernel
theorem dX10_digit_21 : decode cX10_digit 21 = .ok (.bipush 7, 2) := by decide +kernel
theorem dX10_digit_23 : decode cX10_digit 23 = .ok (.irem, 1) := by decide +kernel
theorem dX10_digit_24 : decode cX10_digit 24 = .ok (.iconst 3, 1) := by decide +kernel
theorem dX10_digit_25 : decode cX10_digit 25 = .ok (.isub, 1) := by decide +kernel
theorem dX10_digit_26 : decode cX10_digit 26 = .ok (.ireturn, 1) := by decide +kernel
theorem dX10_power_0 : decode cX10_power 0 = .ok (.iconst 1, 1) := by decide +kernel
theorem dX10_power_1 : decode cX10_power 1 = .ok (.istore_n 1, 1) := by decide +kernel
theorem dX10_power_2 : decode cX10_power 2 = .ok (.iconst 0, 1) := by decide +kernel
theorem dX10_power_3 : decode cX10_power 3 = .ok (.istore_n 2, 1) := by decide +kernel
theorem dX10_power_4 : decode cX10_power 4 = .ok (.iload_n 2, 1) := by decide +kernel
theorem dX10_power_5 : decode cX10_power 5 = .ok (.iload_n 0, 1) := by decide +kernel
theorem dX10_power_6 : decode cX10_power 6 = .ok (.if_icmp .ge 14, 3) := by decide +kernel
theorem dX10_power_9 : decode cX10_power 9 = .ok (.iload_n 1, 1) := by decide +kernel
theorem dX10_power_10 : decode cX10_power 10 = .ok (.bipush 7, 2) := by decide +kernel
theorem dX10_power_12 : decode cX10_power 12 = .ok (.imul, 1) := by decide +kernel
theorem dX10_power_13 : decode cX10_power 13 = .ok (.istore_n 1, 1) := by decide +kernel
theorem dX10_power_14 : decode cX10_power 14 = .ok (.iinc 2 1, 3) := by decide +kernel
theorem dX10_power_17 : decode cX10_power 17 = .ok (.goto (-13), 3) := by decide +kernel
theorem dX10_power_20 : decode cX10_power 20 = .ok (.iload_n 1, 1) := by decide +kernel
theorem dX10_power_21 : decode cX10_power 21 = .ok (.ireturn, 1) := by decide +kernel
theorem dX10_saysOf_0 : decode cX10_saysOf 0 = .ok (.aload_n 0, 1) := by decide +kernel
theorem dX10_saysOf_1 : decode cX10_saysOf 1 = .ok (.iload_n 2, 1) := by decide +kernel
theorem dX10_saysOf_2 : decode cX10_saysOf 2 = .ok (.iload_n 3, 1) := by decide +kernel
theorem dX10_saysOf_3 : decode cX10_saysOf 3 = .ok (.invokevirtual 244, 3) := by decide +kernel
theorem dX10_saysOf_6 : decode cX10_saysOf 6 = .ok (.lstore 5, 2) := by decide +kernel
theorem dX10_saysOf_8 : decode cX10_saysOf 8 = .ok (.iconst 0, 1) := by decide +kernel
theorem dX10_saysOf_9 : decode cX10_saysOf 9 = .ok (.istore 7, 2) := by decide +kernel
theorem dX10_saysOf_11 : decode cX10_saysOf 11 = .ok (.iload 7, 2) := by decide +kernel
theorem dX10_saysOf_13 : decode cX10_saysOf 13 = .ok (.aload_n 0, 1) := by decide +kernel
theorem dX10_saysOf_14 : decode cX10_saysOf 14 = .ok (.getfield 80, 3) := by decide +kernel
theorem dX10_saysOf_17 : decode cX10_saysOf 17 = .ok (.iload_n 1, 1) := by decide +kernel
theorem dX10_saysOf_18 : decode cX10_saysOf 18 = .ok (.iaload, 1) := by decide +kernel
theorem dX10_saysOf_19 : decode cX10_saysOf 19 = .ok (.if_icmp .ge 39, 3) := by decide +kernel
theorem dX10_saysOf_22 : decode cX10_saysOf 22 = .ok (.lload 5, 2) := by decide +kernel
theorem dX10_saysOf_24 : decode cX10_saysOf 24 = .ok (.aload_n 0, 1) := by decide +kernel
theorem dX10_saysOf_25 : decode cX10_saysOf 25 = .ok (.aload_n 0, 1) := by decide +kernel
theorem dX10_saysOf_26 : decode cX10_saysOf 26 = .ok (.getfield 77, 3) := by decide +kernel
theorem dX10_saysOf_29 : decode cX10_saysOf 29 = .ok (.bipush 8, 2) := by decide +kernel
theorem dX10_saysOf_31 : decode cX10_saysOf 31 = .ok (.iload_n 1, 1) := by decide +kernel
theorem dX10_saysOf_32 : decode cX10_saysOf 32 = .ok (.imul, 1) := by decide +kernel
theorem dX10_saysOf_33 : decode cX10_saysOf 33 = .ok (.iload 7, 2) := by decide +kernel
theorem dX10_saysOf_35 : decode cX10_saysOf 35 = .ok (.iadd, 1) := by decide +kernel
theorem dX10_saysOf_36 : decode cX10_saysOf 36 = .ok (.iaload, 1) := by decide +kernel
theorem dX10_saysOf_37 : decode cX10_saysOf 37 = .ok (.iload 4, 2) := by decide +kernel
theorem dX10_saysOf_39 : decode cX10_saysOf 39 = .ok (.iload 7, 2) := by decide +kernel
theorem dX10_saysOf_41 : decode cX10_saysOf 41 = .ok (.invokestatic 250, 3) := by decide +kernel
theorem dX10_saysOf_44 : decode cX10_saysOf 44 = .ok (.iload_n 2, 1) := by decide +kernel
theorem dX10_saysOf_45 : decode cX10_saysOf 45 = .ok (.iload_n 3, 1) := by decide +kernel
theorem dX10_saysOf_46 : decode cX10_saysOf 46 = .ok (.invokevirtual 254, 3) := by decide +kernel
theorem dX10_saysOf_49 : decode cX10_saysOf 49 = .ok (.ladd, 1) := by decide +kernel
theorem dX10_saysOf_50 : decode cX10_saysOf 50 = .ok (.lstore 5, 2) := by decide +kernel
theorem dX10_saysOf_52 : decode cX10_saysOf 52 = .ok (.iinc 7 1, 3) := by decide +kernel
theorem dX10_saysOf_55 : decode cX10_saysOf 55 = .ok (.goto (-44), 3) := by decide +kernel
theorem dX10_saysOf_58 : decode cX10_saysOf 58 = .ok (.lload 5, 2) := by decide +kernel
theorem dX10_saysOf_60 : decode cX10_saysOf 60 = .ok (.lreturn, 1) := by decide +kernel
theorem dX10_says_0 : decode cX10_says 0 = .ok (.aload_n 0, 1) := by decide +kernel
theorem dX10_says_1 : decode cX10_says 1 = .ok (.iload_n 1, 1) := by decide +kernel
theorem dX10_says_2 : decode cX10_says 2 = .ok (.invokevirtual 258, 3) := by decide +kernel
theorem dX10_says_5 : decode cX10_says 5 = .ok (.ifCond .eq 11, 3) := by decide +kernel
theorem dX10_says_8 : decode cX10_says 8 = .ok (.aload_n 0, 1) := by decide +kernel
theorem dX10_says_9 : decode cX10_says 9 = .ok (.iload_n 2, 1) := by decide +kernel
theorem dX10_says_10 : decode cX10_says 10 = .ok (.invokevirtual 136, 3) := by decide +kernel
theorem dX10_says_13 : decode cX10_says 13 = .ok (.ifCond .ne 9, 3) := by decide +kernel
theorem dX10_says_16 : decode cX10_says 16 = .ok (.aload_n 0, 1) := by decide +kernel
theorem dX10_says_17 : decode cX10_says 17 = .ok (.iconst (-1), 1) := by decide +kernel
theorem dX10_says_18 : decode cX10_says 18 = .ok (.invokevirtual 161, 3) := by decide +kernel
theorem dX10_says_21 : decode cX10_says 21 = .ok (.lreturn, 1) := by decide +kernel
theorem dX10_says_22 : decode cX10_says 22 = .ok (.iload_n 3, 1) := by decide +kernel
theorem dX10_says_23 : decode cX10_says 23 = .ok (.i2l, 1) := by decide +kernel
theorem dX10_says_24 : decode cX10_says 24 = .ok (.lconst 0, 1) := by decide +kernel
theorem dX10_says_25 : decode cX10_says 25 = .ok (.ldc2_w 152, 3) := by decide +kernel
theorem dX10_says_28 : decode cX10_says 28 = .ok (.invokestatic 126, 3) := by decide +kernel
theorem dX10_says_31 : decode cX10_says 31 = .ok (.istore 5, 2) := by decide +kernel
theorem dX10_says_33 : decode cX10_says 33 = .ok (.iload 5, 2) := by decide +kernel
theorem dX10_says_35 : decode cX10_says 35 = .ok (.ifCond .ne 24, 3) := by decide +kernel
theorem dX10_says_38 : decode cX10_says 38 = .ok (.iload 4, 2) := by decide +kernel
theorem dX10_says_40 : decode cX10_says 40 = .ok (.i2l, 1) := by decide +kernel
theorem dX10_says_41 : decode cX10_says 41 = .ok (.lconst 0, 1) := by decide +kernel
theorem dX10_says_42 : decode cX10_says 42 = .ok (.aload_n 0, 1) := by decide +kernel
theorem dX10_says_43 : decode cX10_says 43 = .ok (.getfield 80, 3) := by decide +kernel
theorem dX10_says_46 : decode cX10_says 46 = .ok (.iload_n 1, 1) := by decide +kernel
theorem dX10_says_47 : decode cX10_says 47 = .ok (.iaload, 1) := by decide +kernel
theorem dX10_says_48 : decode cX10_says 48 = .ok (.invokestatic 261, 3) := by decide +kernel
theorem dX10_says_51 : decode cX10_says 51 = .ok (.iconst 1, 1) := by decide +kernel
theorem dX10_says_52 : decode cX10_says 52 = .ok (.isub, 1) := by decide +kernel
theorem dX10_says_53 : decode cX10_says 53 = .ok (.i2l, 1) := by decide +kernel
theorem dX10_says_54 : decode cX10_says 54 = .ok (.invokestatic 126, 3) := by decide +kernel
theorem dX10_says_57 : decode cX10_says 57 = .ok (.istore 5, 2) := by decide +kernel
theorem dX10_says_59 : decode cX10_says 59 = .ok (.iload 5, 2) := by decide +kernel
theorem dX10_says_61 : decode cX10_says 61 = .ok (.ifCond .eq 12, 3) := by decide +kernel
theorem dX10_says_64 : decode cX10_says 64 = .ok (.aload_n 0, 1) := by decide +kernel
theorem dX10_says_65 : decode cX10_says 65 = .ok (.iload 5, 2) := by decide +kernel
theorem dX10_says_67 : decode cX10_says 67 = .ok (.invokevirtual 161, 3) := by decide +kernel
theorem dX10_says_70 : decode cX10_says 70 = .ok (.goto 12, 3) := by decide +kernel
theorem dX10_says_73 : decode cX10_says 73 = .ok (.aload_n 0, 1) := by decide +kernel
theorem dX10_says_74 : decode cX10_says 74 = .ok (.iload_n 1, 1) := by decide +kernel
theorem dX10_says_75 : decode cX10_says 75 = .ok (.iload_n 2, 1) := by decide +kernel
theorem dX10_says_76 : decode cX10_says 76 = .ok (.iload_n 3, 1) := by decide +kernel
theorem dX10_says_77 : decode cX10_says 77 = .ok (.iload 4, 2) := by decide +kernel
theorem dX10_says_79 : decode cX10_says 79 = .ok (.invokevirtual 264, 3) := by decide +kernel
theorem dX10_says_82 : decode cX10_says 82 = .ok (.lreturn, 1) := by decide +kernel
theorem dX10_findMine_0 : decode cX10_findMine 0 = .ok (.aload_n 0, 1) := by decide +kernel
theorem dX10_findMine_1 : decode cX10_findMine 1 = .ok (.iconst 0, 1) := by decide +kernel
theorem dX10_findMine_2 : decode cX10_findMine 2 = .ok (.putfield 267, 3) := by decide +kernel
theorem dX10_findMine_5 : decode cX10_findMine 5 = .ok (.iconst 0, 1) := by decide +kernel
theorem dX10_findMine_6 : decode cX10_findMine 6 = .ok (.istore 4, 2) := by decide +kernel
theorem dX10_findMine_8 : decode cX10_findMine 8 = .ok (.iload 4, 2) := by decide +kernel
theorem dX10_findMine_10 : decode cX10_findMine 10 = .ok (.aload_n 0, 1) := by decide +kernel
theorem dX10_findMine_11 : decode cX10_findMine 11 = .ok (.getfield 181, 3) := by decide +kernel
theorem dX10_findMine_14 : decode cX10_findMine 14 = .ok (.if_icmp .ge 66, 3) := by decide +kernel
theorem dX10_findMine_17 : decode cX10_findMine 17 = .ok (.aload_n 0, 1) := by decide +kernel
theorem dX10_findMine_18 : decode cX10_findMine 18 = .ok (.getfield 50, 3) := by decide +kernel
theorem dX10_findMine_21 : decode cX10_findMine 21 = .ok (.iload 4, 2) := by decide +kernel
theorem dX10_findMine_23 : decode cX10_findMine 23 = .ok (.iaload, 1) := by decide +kernel
theorem dX10_findMine_24 : decode cX10_findMine 24 = .ok (.iload_n 1, 1) := by decide +kernel
theorem dX10_findMine_25 : decode cX10_findMine 25 = .ok (.if_icmp .ne 49, 3) := by decide +kernel
theorem dX10_findMine_28 : decode cX10_findMine 28 = .ok (.aload_n 0, 1) := by decide +kernel
theorem dX10_findMine_29 : decode cX10_findMine 29 = .ok (.getfield 56, 3) := by decide +kernel
theorem dX10_findMine_32 : decode cX10_findMine 32 = .ok (.iload 4, 2) := by decide +kernel
theorem dX10_findMine_34 : decode cX10_findMine 34 = .ok (.iaload, 1) := by decide +kernel
theorem dX10_findMine_35 : decode cX10_findMine 35 = .ok (.iconst 5, 1) := by decide +kernel
theorem dX10_findMine_36 : decode cX10_findMine 36 = .ok (.if_icmp .eq 38, 3) := by decide +kernel
theorem dX10_findMine_39 : decode cX10_findMine 39 = .ok (.lload_n 2, 1) := by decide +kernel
theorem dX10_findMine_40 : decode cX10_findMine 40 = .ok (.iload 4, 2) := by decide +kernel
theorem dX10_findMine_42 : decode cX10_findMine 42 = .ok (.lshr, 1) := by decide +kernel
theorem dX10_findMine_43 : decode cX10_findMine 43 = .ok (.lconst 1, 1) := by decide +kernel
theorem dX10_findMine_44 : decode cX10_findMine 44 = .ok (.land, 1) := by decide +kernel
theorem dX10_findMine_45 : decode cX10_findMine 45 = .ok (.lconst 0, 1) := by decide +kernel
theorem dX10_findMine_46 : decode cX10_findMine 46 = .ok (.lcmp, 1) := by decide +kernel
theorem dX10_findMine_47 : decode cX10_findMine 47 = .ok (.ifCond .ne 6, 3) := by decide +kernel
theorem dX10_findMine_50 : decode cX10_findMine 50 = .ok (.goto 24, 3) := by decide +kernel
theorem dX10_findMine_53 : decode cX10_findMine 53 = .ok (.aload_n 0, 1) := by decide +kernel
theorem dX10_findMine_54 : decode cX10_findMine 54 = .ok (.getfield 89, 3) := by decide +kernel
theorem dX10_findMine_57 : decode cX10_findMine 57 = .ok (.aload_n 0, 1) := by decide +kernel
theorem dX10_findMine_58 : decode cX10_findMine 58 = .ok (.getfield 267, 3) := by decide +kernel
theorem dX10_findMine_61 : decode cX10_findMine 61 = .ok (.iload 4, 2) := by decide +kernel
theorem dX10_findMine_63 : decode cX10_findMine 63 = .ok (.iastore, 1) := by decide +kernel
theorem dX10_findMine_64 : decode cX10_findMine 64 = .ok (.aload_n 0, 1) := by decide +kernel
theorem dX10_findMine_65 : decode cX10_findMine 65 = .ok (.dup, 1) := by decide +kernel
theorem dX10_findMine_66 : decode cX10_findMine 66 = .ok (.getfield 267, 3) := by decide +kernel
theorem dX10_findMine_69 : decode cX10_findMine 69 = .ok (.iconst 1, 1) := by decide +kernel
theorem dX10_findMine_70 : decode cX10_findMine 70 = .ok (.iadd, 1) := by decide +kernel
theorem dX10_findMine_71 : decode cX10_findMine 71 = .ok (.putfield 267, 3) := by decide +kernel
theorem dX10_findMine_74 : decode cX10_findMine 74 = .ok (.iinc 4 1, 3) := by decide +kernel
theorem dX10_findMine_77 : decode cX10_findMine 77 = .ok (.goto (-69), 3) := by decide +kernel
theorem dX10_findMine_80 : decode cX10_findMine 80 = .ok (.return_, 1) := by decide +kernel
theorem dX10_findAdds_0 : decode cX10_findAdds 0 = .ok (.iconst 0, 1) := by decide +kernel
theorem dX10_findAdds_1 : decode cX10_findAdds 1 = .ok (.istore_n 3, 1) := by decide +kernel
theorem dX10_findAdds_2 : decode cX10_findAdds 2 = .ok (.iload_n 3, 1) := by decide +kernel
theorem dX10_findAdds_3 : decode cX10_findAdds 3 = .ok (.aload_n 0, 1) := by decide +kernel
theorem dX10_findAdds_4 : decode cX10_findAdds 4 = .ok (.getfield 267, 3) := by decide +kernel
theorem dX10_findAdds_7 : decode cX10_findAdds 7 = .ok (.if_icmp .ge 126, 3) := by decide +kernel
theorem dX10_findAdds_10 : decode cX10_findAdds 10 = .ok (.aload_n 0, 1) := by decide +kernel
theorem dX10_findAdds_11 : decode cX10_findAdds 11 = .ok (.getfield 53, 3) := by decide +kernel
theorem dX10_findAdds_14 : decode cX10_findAdds 14 = .ok (.aload_n 0, 1) := by decide +kernel
theorem dX10_findAdds_15 : decode cX10_findAdds 15 = .ok (.getfield 89, 3) := by decide +kernel
theorem dX10_findAdds_18 : decode cX10_findAdds 18 = .ok (.iload_n 3, 1) := by decide +kernel
theorem dX10_findAdds_19 : decode cX10_findAdds 19 = .ok (.iaload, 1) := by decide +kernel
theorem dX10_findAdds_20 : decode cX10_findAdds 20 = .ok (.iaload, 1) := by decide +kernel
theorem dX10_findAdds_21 : decode cX10_findAdds 21 = .ok (.istore 4, 2) := by decide +kernel
theorem dX10_findAdds_23 : decode cX10_findAdds 23 = .ok (.aload_n 0, 1) := by decide +kernel
theorem dX10_findAdds_24 : decode cX10_findAdds 24 = .ok (.getfield 95, 3) := by decide +kernel
theorem dX10_findAdds_27 : decode cX10_findAdds 27 = .ok (.iload_n 3, 1) := by decide +kernel
theorem dX10_findAdds_28 : decode cX10_findAdds 28 = .ok (.aload_n 0, 1) := by decide +kernel
theorem dX10_findAdds_29 : decode cX10_findAdds 29 = .ok (.aload_n 0, 1) := by decide +kernel
theorem dX10_findAdds_30 : decode cX10_findAdds 30 = .ok (.getfield 89, 3) := by decide +kernel
theorem dX10_findAdds_33 : decode cX10_findAdds 33 = .ok (.iload_n 3, 1) := by decide +kernel
theorem dX10_findAdds_34 : decode cX10_findAdds 34 = .ok (.iaload, 1) := by decide +kernel
theorem dX10_findAdds_35 : decode cX10_findAdds 35 = .ok (.iconst 1, 1) := by decide +kernel
theorem dX10_findAdds_36 : decode cX10_findAdds 36 = .ok (.iconst 1, 1) := by decide +kernel
theorem dX10_findAdds_37 : decode cX10_findAdds 37 = .ok (.invokevirtual 199, 3) := by decide +kernel
theorem dX10_findAdds_40 : decode cX10_findAdds 40 = .ok (.aload_n 0, 1) := by decide +kernel
theorem dX10_findAdds_41 : decode cX10_findAdds 41 = .ok (.iload_n 2, 1) := by decide +kernel
theorem dX10_findAdds_42 : decode cX10_findAdds 42 = .ok (.iload 4, 2) := by decide +kernel
theorem dX10_findAdds_44 : decode cX10_findAdds 44 = .ok (.invokevirtual 244, 3) := by decide +kernel
theorem dX10_findAdds_47 : decode cX10_findAdds 47 = .ok (.lsub, 1) := by decide +kernel
theorem dX10_findAdds_48 : decode cX10_findAdds 48 = .ok (.lastore, 1) := by decide +kernel
theorem dX10_findAdds_49 : decode cX10_findAdds 49 = .ok (.iconst 0, 1) := by decide +kernel
theorem dX10_findAdds_50 : decode cX10_findAdds 50 = .ok (.istore 5, 2) := by decide +kernel
theorem dX10_findAdds_52 : decode cX10_findAdds 52 = .ok (.iload 5, 2) := by decide +kernel
theorem dX10_findAdds_54 : decode cX10_findAdds 54 = .ok (.aload_n 0, 1) := by decide +kernel
theorem dX10_findAdds_55 : decode cX10_findAdds 55 = .ok (.getfield 80, 3) := by decide +kernel
theorem dX10_findAdds_58 : decode cX10_findAdds 58 = .ok (.iload_n 1, 1) := by decide +kernel
theorem dX10_findAdds_59 : decode cX10_findAdds 59 = .ok (.iaload, 1) := by decide +kernel
theorem dX10_findAdds_60 : decode cX10_findAdds 60 = .ok (.if_icmp .ge 67, 3) := by decide +kernel
theorem dX10_findAdds_63 : decode cX10_findAdds 63 = .ok (.iconst 0, 1) := by decide +kernel
theorem dX10_findAdds_64 : decode cX10_findAdds 64 = .ok (.istore 6, 2) := by decide +kernel
theorem dX10_findAdds_66 : decode cX10_findAdds 66 = .ok (.iload 6, 2) := by decide +kernel
theorem dX10_findAdds_68 : decode cX10_findAdds 68 = .ok (.bipush 7, 2) := by decide +kernel
theorem dX10_findAdds_70 : decode cX10_findAdds 70 = .ok (.if_icmp .ge 51, 3) := by decide +kernel
theorem dX10_findAdds_73 : decode cX10_findAdds 73 = .ok (.aload_n 0, 1) := by decide +kernel
theorem dX10_findAdds_74 : decode cX10_findAdds 74 = .ok (.getfield 99, 3) := by decide +kernel
theorem dX10_findAdds_77 : decode cX10_findAdds 77 = .ok (.sipush 280, 3) := by decide +kernel
theorem dX10_findAdds_80 : decode cX10_findAdds 80 = .ok (.iload 5, 2) := by decide +kernel
theorem dX10_findAdds_82 : decode cX10_findAdds 82 = .ok (.imul, 1) := by decide +kernel
theorem dX10_findAdds_83 : decode cX10_findAdds 83 = .ok (.bipush 40, 2) := by decide +kernel
theorem dX10_findAdds_85 : decode cX10_findAdds 85 = .ok (.iload 6, 2) := by decide +kernel
theorem dX10_findAdds_87 : decode cX10_findAdds 87 = .ok (.imul, 1) := by decide +kernel
theorem dX10_findAdds_88 : decode cX10_findAdds 88 = .ok (.iadd, 1) := by decide +kernel
theorem dX10_findAdds_89 : decode cX10_findAdds 89 = .ok (.iload_n 3, 1) := by decide +kernel
theorem dX10_findAdds_90 : decode cX10_findAdds 90 = .ok (.iadd, 1) := by decide +kernel
theorem dX10_findAdds_91 : decode cX10_findAdds 91 = .ok (.aload_n 0, 1) := by decide +kernel
theorem dX10_findAdds_92 : decode cX10_findAdds 92 = .ok (.aload_n 0, 1) := by decide +kernel
theorem dX10_findAdds_93 : decode cX10_findAdds 93 = .ok (.getfield 77, 3) := by decide +kernel
theorem dX10_findAdds_96 : decode cX10_findAdds 96 = .ok (.bipush 8, 2) := by decide +kernel
theorem dX10_findAdds_98 : decode cX10_findAdds 98 = .ok (.iload_n 1, 1) := by decide +kernel
theorem dX10_findAdds_99 : decode cX10_findAdds 99 = .ok (.imul, 1) := by decide +kernel
theorem dX10_findAdds_100 : decode cX10_findAdds 100 = .ok (.iload 5, 2) := by decide +kernel
theorem dX10_findAdds_102 : decode cX10_findAdds 102 = .ok (.iadd, 1) := by decide +kernel
theorem dX10_findAdds_103 : decode cX10_findAdds 103 = .ok (.iaload, 1) := by decide +kernel
theorem dX10_findAdds_104 : decode cX10_findAdds 104 = .ok (.iload 6, 2) := by decide +kernel
theorem dX10_findAdds_106 : decode cX10_findAdds 106 = .ok (.iconst 3, 1) := by decide +kernel
theorem dX10_findAdds_107 : decode cX10_findAdds 107 = .ok (.isub, 1) := by decide +kernel
theorem dX10_findAdds_108 : decode cX10_findAdds 108 = .ok (.iload_n 2, 1) := by decide +kernel
theorem dX10_findAdds_109 : decode cX10_findAdds 109 = .ok (.iload 4, 2) := by decide +kernel
theorem dX10_findAdds_111 : decode cX10_findAdds 111 = .ok (.invokevirtual 254, 3) := by decide +kernel
theorem dX10_findAdds_114 : decode cX10_findAdds 114 = .ok (.lastore, 1) := by decide +kernel
theorem dX10_findAdds_115 : decode cX10_findAdds 115 = .ok (.iinc 6 1, 3) := by decide +kernel
theorem dX10_findAdds_118 : decode cX10_findAdds 118 = .ok (.goto (-52), 3) := by decide +kernel
theorem dX10_findAdds_121 : decode cX10_findAdds 121 = .ok (.iinc 5 1, 3) := by decide +kernel
theorem dX10_findAdds_124 : decode cX10_findAdds 124 = .ok (.goto (-72), 3) := by decide +kernel
theorem dX10_findAdds_127 : decode cX10_findAdds 127 = .ok (.iinc 3 1, 3) := by decide +kernel
theorem dX10_findAdds_130 : decode cX10_findAdds 130 = .ok (.goto (-128), 3) := by decide +kernel
theorem dX10_findAdds_133 : decode cX10_findAdds 133 = .ok (.return_, 1) := by decide +kernel
theorem dX10_goesOn_0 : decode cX10_goesOn 0 = .ok (.iconst 0, 1) := by decide +kernel
theorem dX10_goesOn_1 : decode cX10_goesOn 1 = .ok (.istore_n 2, 1) := by decide +kernel
theorem dX10_goesOn_2 : decode cX10_goesOn 2 = .ok (.iload_n 2, 1) := by decide +kernel
theorem dX10_goesOn_3 : decode cX10_goesOn 3 = .ok (.aload_n 0, 1) := by decide +kernel
theorem dX10_goesOn_4 : decode cX10_goesOn 4 = .ok (.getfield 267, 3) := by decide +kernel
theorem dX10_goesOn_7 : decode cX10_goesOn 7 = .ok (.if_icmp .ge 56, 3) := by decide +kernel
theorem dX10_goesOn_10 : decode cX10_goesOn 10 = .ok (.aload_n 0, 1) := by decide +kernel
theorem dX10_goesOn_11 : decode cX10_goesOn 11 = .ok (.getfield 95, 3) := by decide +kernel
theorem dX10_goesOn_14 : decode cX10_goesOn 14 = .ok (.bipush 40, 2) := by decide +kernel
theorem dX10_goesOn_16 : decode cX10_goesOn 16 = .ok (.iload_n 1, 1) := by decide +kernel
theorem dX10_goesOn_17 : decode cX10_goesOn 17 = .ok (.iconst 1, 1) := by decide +kernel
theorem dX10_goesOn_18 : decode cX10_goesOn 18 = .ok (.iadd, 1) := by decide +kernel
theorem dX10_goesOn_19 : decode cX10_goesOn 19 = .ok (.imul, 1) := by decide +kernel
theorem dX10_goesOn_20 : decode cX10_goesOn 20 = .ok (.iload_n 2, 1) := by decide +kernel
theorem dX10_goesOn_21 : decode cX10_goesOn 21 = .ok (.iadd, 1) := by decide +kernel
theorem dX10_goesOn_22 : decode cX10_goesOn 22 = .ok (.aload_n 0, 1) := by decide +kernel
theorem dX10_goesOn_23 : decode cX10_goesOn 23 = .ok (.getfield 95, 3) := by decide +kernel
theorem dX10_goesOn_26 : decode cX10_goesOn 26 = .ok (.bipush 40, 2) := by decide +kernel
theorem dX10_goesOn_28 : decode cX10_goesOn 28 = .ok (.iload_n 1, 1) := by decide +kernel
theorem dX10_goesOn_29 : decode cX10_goesOn 29 = .ok (.imul, 1) := by decide +kernel
theorem dX10_goesOn_30 : decode cX10_goesOn 30 = .ok (.iload_n 2, 1) := by decide +kernel
theorem dX10_goesOn_31 : decode cX10_goesOn 31 = .ok (.iadd, 1) := by decide +kernel
theorem dX10_goesOn_32 : decode cX10_goesOn 32 = .ok (.laload, 1) := by decide +kernel
theorem dX10_goesOn_33 : decode cX10_goesOn 33 = .ok (.aload_n 0, 1) := by decide +kernel
theorem dX10_goesOn_34 : decode cX10_goesOn 34 = .ok (.getfield 99, 3) := by decide +kernel
theorem dX10_goesOn_37 : decode cX10_goesOn 37 = .ok (.sipush 280, 3) := by decide +kernel
theorem dX10_goesOn_40 : decode cX10_goesOn 40 = .ok (.iload_n 1, 1) := by decide +kernel
theorem dX10_goesOn_41 : decode cX10_goesOn 41 = .ok (.imul, 1) := by decide +kernel
theorem dX10_goesOn_42 : decode cX10_goesOn 42 = .ok (.bipush 40, 2) := by decide +kernel
theorem dX10_goesOn_44 : decode cX10_goesOn 44 = .ok (.aload_n 0, 1) := by decide +kernel
theorem dX10_goesOn_45 : decode cX10_goesOn 45 = .ok (.getfield 92, 3) := by decide +kernel
theorem dX10_goesOn_48 : decode cX10_goesOn 48 = .ok (.iload_n 1, 1) := by decide +kernel
theorem dX10_goesOn_49 : decode cX10_goesOn 49 = .ok (.iaload, 1) := by decide +kernel
theorem dX10_goesOn_50 : decode cX10_goesOn 50 = .ok (.imul, 1) := by decide +kernel
theorem dX10_goesOn_51 : decode cX10_goesOn 51 = .ok (.iadd, 1) := by decide +kernel
theorem dX10_goesOn_52 : decode cX10_goesOn 52 = .ok (.iload_n 2, 1) := by decide +kernel
theorem dX10_goesOn_53 : decode cX10_goesOn 53 = .ok (.iadd, 1) := by decide +kernel
theorem dX10_goesOn_54 : decode cX10_goesOn 54 = .ok (.laload, 1) := by decide +kernel
theorem dX10_goesOn_55 : decode cX10_goesOn 55 = .ok (.lsub, 1) := by decide +kernel
theorem dX10_goesOn_56 : decode cX10_goesOn 56 = .ok (.lastore, 1) := by decide +kernel
theorem dX10_goesOn_57 : decode cX10_goesOn 57 = .ok (.iinc 2 1, 3) := by decide +kernel
theorem dX10_goesOn_60 : decode cX10_goesOn 60 = .ok (.goto (-58), 3) := by decide +kernel
theorem dX10_goesOn_63 : decode cX10_goesOn 63 = .ok (.return_, 1) := by decide +kernel
theorem dX10_counts_0 : decode cX10_counts 0 = .ok (.iload_n 1, 1) := by decide +kernel
theorem dX10_counts_1 : decode cX10_counts 1 = .ok (.iconst 1, 1) := by decide +kernel
theorem dX10_counts_2 : decode cX10_counts 2 = .ok (.isub, 1) := by decide +kernel
theorem dX10_counts_3 : decode cX10_counts 3 = .ok (.istore_n 2, 1) := by decide +kernel
theorem dX10_counts_4 : decode cX10_counts 4 = .ok (.iload_n 2, 1) := by decide +kernel
theorem dX10_counts_5 : decode cX10_counts 5 = .ok (.ifCond .lt 27, 3) := by decide +kernel
theorem dX10_counts_8 : decode cX10_counts 8 = .ok (.aload_n 0, 1) := by decide +kernel
theorem dX10_counts_9 : decode cX10_counts 9 = .ok (.getfield 92, 3) := by decide +kernel
theorem dX10_counts_12 : decode cX10_counts 12 = .ok (.iload_n 2, 1) := by decide +kernel
theorem dX10_counts_13 : decode cX10_counts 13 = .ok (.iaload, 1) := by decide +kernel
theorem dX10_counts_14 : decode cX10_counts 14 = .ok (.bipush 6, 2) := by decide +kernel
theorem dX10_counts_16 : decode cX10_counts 16 = .ok (.if_icmp .ne 16, 3) := by decide +kernel
theorem dX10_counts_19 : decode cX10_counts 19 = .ok (.aload_n 0, 1) := by decide +kernel
theorem dX10_counts_20 : decode cX10_counts 20 = .ok (.getfield 92, 3) := by decide +kernel
theorem dX10_counts_23 : decode cX10_counts 23 = .ok (.iload_n 2, 1) := by decide +kernel
theorem dX10_counts_24 : decode cX10_counts 24 = .ok (.iconst 0, 1) := by decide +kernel
theorem dX10_counts_25 : decode cX10_counts 25 = .ok (.iastore, 1) := by decide +kernel
theorem dX10_counts_26 : decode cX10_counts 26 = .ok (.iinc 2 (-1), 3) := by decide +kernel
theorem dX10_counts_29 : decode cX10_counts 29 = .ok (.goto (-25), 3) := by decide +kernel
theorem dX10_counts_32 : decode cX10_counts 32 = .ok (.iload_n 2, 1) := by decide +kernel
theorem dX10_counts_33 : decode cX10_counts 33 = .ok (.ifCond .lt 13, 3) := by decide +kernel
theorem dX10_counts_36 : decode cX10_counts 36 = .ok (.aload_n 0, 1) := by decide +kernel
theorem dX10_counts_37 : decode cX10_counts 37 = .ok (.getfield 92, 3) := by decide +kernel
theorem dX10_counts_40 : decode cX10_counts 40 = .ok (.iload_n 2, 1) := by decide +kernel
theorem dX10_counts_41 : decode cX10_counts 41 = .ok (.dup2, 1) := by decide +kernel
theorem dX10_counts_42 : decode cX10_counts 42 = .ok (.iaload, 1) := by decide +kernel
theorem dX10_counts_43 : decode cX10_counts 43 = .ok (.iconst 1, 1) := by decide +kernel
theorem dX10_counts_44 : decode cX10_counts 44 = .ok (.iadd, 1) := by decide +kernel
theorem dX10_counts_45 : decode cX10_counts 45 = .ok (.iastore, 1) := by decide +kernel
theorem dX10_counts_46 : decode cX10_counts 46 = .ok (.iload_n 2, 1) := by decide +kernel
theorem dX10_counts_47 : decode cX10_counts 47 = .ok (.ireturn, 1) := by decide +kernel
theorem dX10_findFit_0 : decode cX10_findFit 0 = .ok (.aload_n 0, 1) := by decide +kernel
theorem dX10_findFit_1 : decode cX10_findFit 1 = .ok (.iload_n 2, 1) := by decide +kernel
theorem dX10_findFit_2 : decode cX10_findFit 2 = .ok (.lload_n 3, 1) := by decide +kernel
theorem dX10_findFit_3 : decode cX10_findFit 3 = .ok (.invokevirtual 270, 3) := by decide +kernel
theorem dX10_findFit_6 : decode cX10_findFit 6 = .ok (.aload_n 0, 1) := by decide +kernel
theorem dX10_findFit_7 : decode cX10_findFit 7 = .ok (.iload_n 1, 1) := by decide +kernel
theorem dX10_findFit_8 : decode cX10_findFit 8 = .ok (.iload_n 2, 1) := by decide +kernel
theorem dX10_findFit_9 : decode cX10_findFit 9 = .ok (.invokevirtual 274, 3) := by decide +kernel
theorem dX10_findFit_12 : decode cX10_findFit 12 = .ok (.aload_n 0, 1) := by decide +kernel
theorem dX10_findFit_13 : decode cX10_findFit 13 = .ok (.getfield 80, 3) := by decide +kernel
theorem dX10_findFit_16 : decode cX10_findFit 16 = .ok (.iload_n 1, 1) := by decide +kernel
theorem dX10_findFit_17 : decode cX10_findFit 17 = .ok (.iaload, 1) := by decide +kernel
theorem dX10_findFit_18 : decode cX10_findFit 18 = .ok (.istore 5, 2) := by decide +kernel
theorem dX10_findFit_20 : decode cX10_findFit 20 = .ok (.aload_n 0, 1) := by decide +kernel
theorem dX10_findFit_21 : decode cX10_findFit 21 = .ok (.ldc2_w 278, 3) := by decide +kernel
theorem dX10_findFit_24 : decode cX10_findFit 24 = .ok (.putfield 280, 3) := by decide +kernel
theorem dX10_findFit_27 : decode cX10_findFit 27 = .ok (.iconst 0, 1) := by decide +kernel
theorem dX10_findFit_28 : decode cX10_findFit 28 = .ok (.istore 6, 2) := by decide +kernel
theorem dX10_findFit_30 : decode cX10_findFit 30 = .ok (.iconst 0, 1) := by decide +kernel
theorem dX10_findFit_31 : decode cX10_findFit 31 = .ok (.istore 7, 2) := by decide +kernel
theorem dX10_findFit_33 : decode cX10_findFit 33 = .ok (.iload 7, 2) := by decide +kernel
theorem dX10_findFit_35 : decode cX10_findFit 35 = .ok (.iload 5, 2) := by decide +kernel
theorem dX10_findFit_37 : decode cX10_findFit 37 = .ok (.if_icmp .ge 17, 3) := by decide +kernel
theorem dX10_findFit_40 : decode cX10_findFit 40 = .ok (.aload_n 0, 1) := by decide +kernel
theorem dX10_findFit_41 : decode cX10_findFit 41 = .ok (.getfield 92, 3) := by decide +kernel
theorem dX10_findFit_44 : decode cX10_findFit 44 = .ok (.iload 7, 2) := by decide +kernel
theorem dX10_findFit_46 : decode cX10_findFit 46 = .ok (.iconst 0, 1) := by decide +kernel
theorem dX10_findFit_47 : decode cX10_findFit 47 = .ok (.iastore, 1) := by decide +kernel
theorem dX10_findFit_48 : decode cX10_findFit 48 = .ok (.iinc 7 1, 3) := by decide +kernel
theorem dX10_findFit_51 : decode cX10_findFit 51 = .ok (.goto (-18), 3) := by decide +kernel
theorem dX10_findFit_54 : decode cX10_findFit 54 = .ok (.iload 6, 2) := by decide +kernel
theorem dX10_findFit_56 : decode cX10_findFit 56 = .ok (.ifCond .lt 177, 3) := by decide +kernel
theorem dX10_findFit_59 : decode cX10_findFit 59 = .ok (.iload 6, 2) := by decide +kernel
theorem dX10_findFit_61 : decode cX10_findFit 61 = .ok (.istore 7, 2) := by decide +kernel
theorem dX10_findFit_63 : decode cX10_findFit 63 = .ok (.iload 7, 2) := by decide +kernel
theorem dX10_findFit_65 : decode cX10_findFit 65 = .ok (.iload 5, 2) := by decide +kernel
theorem dX10_findFit_67 : decode cX10_findFit 67 = .ok (.if_icmp .ge 15, 3) := by decide +kernel
theorem dX10_findFit_70 : decode cX10_findFit 70 = .ok (.aload_n 0, 1) := by decide +kernel
theorem dX10_findFit_71 : decode cX10_findFit 71 = .ok (.iload 7, 2) := by decide +kernel
theorem dX10_findFit_73 : decode cX10_findFit 73 = .ok (.invokevirtual 284, 3) := by decide +kernel
theorem dX10_findFit_76 : decode cX10_findFit 76 = .ok (.iinc 7 1, 3) := by decide +kernel
theorem dX10_findFit_79 : decode cX10_findFit 79 = .ok (.goto (-16), 3) := by decide +kernel
theorem dX10_findFit_82 : decode cX10_findFit 82 = .ok (.lconst 0, 1) := by decide +kernel
theorem dX10_findFit_83 : decode cX10_findFit 83 = .ok (.lstore 7, 2) := by decide +kernel
theorem dX10_findFit_85 : decode cX10_findFit 85 = .ok (.iconst 0, 1) := by decide +kernel
theorem dX10_findFit_86 : decode cX10_findFit 86 = .ok (.istore 9, 2) := by decide +kernel
theorem dX10_findFit_88 : decode cX10_findFit 88 = .ok (.iload 9, 2) := by decide +kernel
theorem dX10_findFit_90 : decode cX10_findFit 90 = .ok (.aload_n 0, 1) := by decide +kernel
theorem dX10_findFit_91 : decode cX10_findFit 91 = .ok (.getfield 267, 3) := by decide +kernel
theorem dX10_findFit_94 : decode cX10_findFit 94 = .ok (.if_icmp .ge 62, 3) := by decide +kernel
theorem dX10_findFit_97 : decode cX10_findFit 97 = .ok (.lload 7, 2) := by decide +kernel
theorem dX10_findFit_99 : decode cX10_findFit 99 = .ok (.aload_n 0, 1) := by decide +kernel
theorem dX10_findFit_100 : decode cX10_findFit 100 = .ok (.getfield 95, 3) := by decide +kernel
theorem dX10_findFit_103 : decode cX10_findFit 103 = .ok (.bipush 40, 2) := by decide +kernel
theorem dX10_findFit_105 : decode cX10_findFit 105 = .ok (.iload 5, 2) := by decide +kernel
theorem dX10_findFit_107 : decode cX10_findFit 107 = .ok (.imul, 1) := by decide +kernel
theorem dX10_findFit_108 : decode cX10_findFit 108 = .ok (.iload 9, 2) := by decide +kernel
theorem dX10_findFit_110 : decode cX10_findFit 110 = .ok (.iadd, 1) := by decide +kernel
theorem dX10_findFit_111 : decode cX10_findFit 111 = .ok (.laload, 1) := by decide +kernel
theorem dX10_findFit_112 : decode cX10_findFit 112 = .ok (.lconst 0, 1) := by decide +kernel
theorem dX10_findFit_113 : decode cX10_findFit 113 = .ok (.lcmp, 1) := by decide +kernel
theorem dX10_findFit_114 : decode cX10_findFit 114 = .ok (.ifCond .ge 20, 3) := by decide +kernel
theorem dX10_findFit_117 : decode cX10_findFit 117 = .ok (.aload_n 0, 1) := by decide +kernel
theorem dX10_findFit_118 : decode cX10_findFit 118 = .ok (.getfield 95, 3) := by decide +kernel
theorem dX10_findFit_121 : decode cX10_findFit 121 = .ok (.bipush 40, 2) := by decide +kernel
theorem dX10_findFit_123 : decode cX10_findFit 123 = .ok (.iload 5, 2) := by decide +kernel
theorem dX10_findFit_125 : decode cX10_findFit 125 = .ok (.imul, 1) := by decide +kernel
theorem dX10_findFit_126 : decode cX10_findFit 126 = .ok (.iload 9, 2) := by decide +kernel
theorem dX10_findFit_128 : decode cX10_findFit 128 = .ok (.iadd, 1) := by decide +kernel
theorem dX10_findFit_129 : decode cX10_findFit 129 = .ok (.laload, 1) := by decide +kernel
theorem dX10_findFit_130 : decode cX10_findFit 130 = .ok (.lneg, 1) := by decide +kernel
theorem dX10_findFit_131 : decode cX10_findFit 131 = .ok (.goto 16, 3) := by decide +kernel
theorem dX10_findFit_134 : decode cX10_findFit 134 = .ok (.aload_n 0, 1) := by decide +kernel
theorem dX10_findFit_135 : decode cX10_findFit 135 = .ok (.getfield 95, 3) := by decide +kernel
theorem dX10_findFit_138 : decode cX10_findFit 138 = .ok (.bipush 40, 2) := by decide +kernel
theorem dX10_findFit_140 : decode cX10_findFit 140 = .ok (.iload 5, 2) := by decide +kernel
theorem dX10_findFit_142 : decode cX10_findFit 142 = .ok (.imul, 1) := by decide +kernel
theorem dX10_findFit_143 : decode cX10_findFit 143 = .ok (.iload 9, 2) := by decide +kernel
theorem dX10_findFit_145 : decode cX10_findFit 145 = .ok (.iadd, 1) := by decide +kernel
theorem dX10_findFit_146 : decode cX10_findFit 146 = .ok (.laload, 1) := by decide +kernel
theorem dX10_findFit_147 : decode cX10_findFit 147 = .ok (.ladd, 1) := by decide +kernel
theorem dX10_findFit_148 : decode cX10_findFit 148 = .ok (.lstore 7, 2) := by decide +kernel
theorem dX10_findFit_150 : decode cX10_findFit 150 = .ok (.iinc 9 1, 3) := by decide +kernel
theorem dX10_findFit_153 : decode cX10_findFit 153 = .ok (.goto (-65), 3) := by decide +kernel
theorem dX10_findFit_156 : decode cX10_findFit 156 = .ok (.aload_n 0, 1) := by decide +kernel
theorem dX10_findFit_157 : decode cX10_findFit 157 = .ok (.getfield 280, 3) := by decide +kernel
theorem dX10_findFit_160 : decode cX10_findFit 160 = .ok (.lconst 0, 1) := by decide +kernel
theorem dX10_findFit_161 : decode cX10_findFit 161 = .ok (.lcmp, 1) := by decide +kernel
theorem dX10_findFit_162 : decode cX10_findFit 162 = .ok (.ifCond .lt 13, 3) := by decide +kernel
theorem dX10_findFit_165 : decode cX10_findFit 165 = .ok (.lload 7, 2) := by decide +kernel
theorem dX10_findFit_167 : decode cX10_findFit 167 = .ok (.aload_n 0, 1) := by decide +kernel
theorem dX10_findFit_168 : decode cX10_findFit 168 = .ok (.getfield 280, 3) := by decide +kernel
theorem dX10_findFit_171 : decode cX10_findFit 171 = .ok (.lcmp, 1) := by decide +kernel
theorem dX10_findFit_172 : decode cX10_findFit 172 = .ok (.ifCond .ge 50, 3) := by decide +kernel
theorem dX10_findFit_175 : decode cX10_findFit 175 = .ok (.aload_n 0, 1) := by decide +kernel
theorem dX10_findFit_176 : decode cX10_findFit 176 = .ok (.lload 7, 2) := by decide +kernel
theorem dX10_findFit_178 : decode cX10_findFit 178 = .ok (.putfield 280, 3) := by decide +kernel
theorem dX10_findFit_181 : decode cX10_findFit 181 = .ok (.aload_n 0, 1) := by decide +kernel
theorem dX10_findFit_182 : decode cX10_findFit 182 = .ok (.iconst 0, 1) := by decide +kernel
theorem dX10_findFit_183 : decode cX10_findFit 183 = .ok (.putfield 288, 3) := by decide +kernel
theorem dX10_findFit_186 : decode cX10_findFit 186 = .ok (.iload 5, 2) := by decide +kernel
theorem dX10_findFit_188 : decode cX10_findFit 188 = .ok (.iconst 1, 1) := by decide +kernel
theorem dX10_findFit_189 : decode cX10_findFit 189 = .ok (.isub, 1) := by decide +kernel
theorem dX10_findFit_190 : decode cX10_findFit 190 = .ok (.istore 9, 2) := by decide +kernel
theorem dX10_findFit_192 : decode cX10_findFit 192 = .ok (.iload 9, 2) := by decide +kernel
theorem dX10_findFit_194 : decode cX10_findFit 194 = .ok (.ifCond .lt 28, 3) := by decide +kernel
theorem dX10_findFit_197 : decode cX10_findFit 197 = .ok (.aload_n 0, 1) := by decide +kernel
theorem dX10_findFit_198 : decode cX10_findFit 198 = .ok (.bipush 7, 2) := by decide +kernel
theorem dX10_findFit_200 : decode cX10_findFit 200 = .ok (.aload_n 0, 1) := by decide +kernel
theorem dX10_findFit_201 : decode cX10_findFit 201 = .ok (.getfield 288, 3) := by decide +kernel
theorem dX10_findFit_204 : decode cX10_findFit 204 = .ok (.imul, 1) := by decide +kernel
theorem dX10_findFit_205 : decode cX10_findFit 205 = .ok (.aload_n 0, 1) := by decide +kernel
theorem dX10_findFit_206 : decode cX10_findFit 206 = .ok (.getfield 92, 3) := by decide +kernel
theorem dX10_findFit_209 : decode cX10_findFit 209 = .ok (.iload 9, 2) := by decide +kernel
theorem dX10_findFit_211 : decode cX10_findFit 211 = .ok (.iaload, 1) := by decide +kernel
theorem dX10_findFit_212 : decode cX10_findFit 212 = .ok (.iadd, 1) := by decide +kernel
theorem dX10_findFit_213 : decode cX10_findFit 213 = .ok (.putfield 288, 3) := by decide +kernel
theorem dX10_findFit_216 : decode cX10_findFit 216 = .ok (.iinc 9 (-1), 3) := by decide +kernel
theorem dX10_findFit_219 : decode cX10_findFit 219 = .ok (.goto (-27), 3) := by decide +kernel
theorem dX10_findFit_222 : decode cX10_findFit 222 = .ok (.aload_n 0, 1) := by decide +kernel
theorem dX10_findFit_223 : decode cX10_findFit 223 = .ok (.iload 5, 2) := by decide +kernel
theorem dX10_findFit_225 : decode cX10_findFit 225 = .ok (.invokevirtual 291, 3) := by decide +kernel
theorem dX10_findFit_228 : decode cX10_findFit 228 = .ok (.istore 6, 2) := by decide +kernel
theorem dX10_findFit_230 : decode cX10_findFit 230 = .ok (.goto (-176), 3) := by decide +kernel
theorem dX10_findFit_233 : decode cX10_findFit 233 = .ok (.return_, 1) := by decide +kernel
theorem dX10_notSet_0 : decode cX10_notSet 0 = .ok (.lload_n 1, 1) := by decide +kernel
theorem dX10_notSet_1 : decode cX10_notSet 1 = .ok (.lconst 0, 1) := by decide +kernel
theorem dX10_notSet_2 : decode cX10_notSet 2 = .ok (.lcmp, 1) := by decide +kernel
theorem dX10_notSet_3 : decode cX10_notSet 3 = .ok (.ifCond .ge 8, 3) := by decide +kernel
theorem dX10_notSet_6 : decode cX10_notSet 6 = .ok (.bipush (-4), 2) := by decide +kernel
theorem dX10_notSet_8 : decode cX10_notSet 8 = .ok (.goto 20, 3) := by decide +kernel
theorem dX10_notSet_11 : decode cX10_notSet 11 = .ok (.lload_n 1, 1) := by decide +kernel
theorem dX10_notSet_12 : decode cX10_notSet 12 = .ok (.aload_n 0, 1) := by decide +kernel
theorem dX10_notSet_13 : decode cX10_notSet 13 = .ok (.getfield 181, 3) := by decide +kernel
theorem dX10_notSet_16 : decode cX10_notSet 16 = .ok (.lshr, 1) := by decide +kernel
theorem dX10_notSet_17 : decode cX10_notSet 17 = .ok (.lconst 0, 1) := by decide +kernel
theorem dX10_notSet_18 : decode cX10_notSet 18 = .ok (.lcmp, 1) := by decide +kernel
theorem dX10_notSet_19 : decode cX10_notSet 19 = .ok (.ifCond .eq 8, 3) := by decide +kernel
theorem dX10_notSet_22 : decode cX10_notSet 22 = .ok (.bipush (-6), 2) := by decide +kernel
theorem dX10_notSet_24 : decode cX10_notSet 24 = .ok (.goto 4, 3) := by decide +kernel
theorem dX10_notSet_27 : decode cX10_notSet 27 = .ok (.iconst 0, 1) := by decide +kernel
theorem dX10_notSet_28 : decode cX10_notSet 28 = .ok (.ireturn, 1) := by decide +kernel
theorem dX10_score_0 : decode cX10_score 0 = .ok (.aload_n 0, 1) := by decide +kernel
theorem dX10_score_1 : decode cX10_score 1 = .ok (.iload_n 1, 1) := by decide +kernel
theorem dX10_score_2 : decode cX10_score 2 = .ok (.iload_n 2, 1) := by decide +kernel
theorem dX10_score_3 : decode cX10_score 3 = .ok (.lload_n 3, 1) := by decide +kernel
theorem dX10_score_4 : decode cX10_score 4 = .ok (.invokevirtual 294, 3) := by decide +kernel
theorem dX10_score_7 : decode cX10_score 7 = .ok (.aload_n 0, 1) := by decide +kernel
theorem dX10_score_8 : decode cX10_score 8 = .ok (.getfield 280, 3) := by decide +kernel
theorem dX10_score_11 : decode cX10_score 11 = .ok (.aload_n 0, 1) := by decide +kernel
theorem dX10_score_12 : decode cX10_score 12 = .ok (.getfield 28, 3) := by decide +kernel
theorem dX10_score_15 : decode cX10_score 15 = .ok (.iconst 3, 1) := by decide +kernel
theorem dX10_score_16 : decode cX10_score 16 = .ok (.iaload, 1) := by decide +kernel
theorem dX10_score_17 : decode cX10_score 17 = .ok (.i2l, 1) := by decide +kernel
theorem dX10_score_18 : decode cX10_score 18 = .ok (.aload_n 0, 1) := by decide +kernel
theorem dX10_score_19 : decode cX10_score 19 = .ok (.getfield 80, 3) := by decide +kernel
theorem dX10_score_22 : decode cX10_score 22 = .ok (.iload_n 1, 1) := by decide +kernel
theorem dX10_score_23 : decode cX10_score 23 = .ok (.iaload, 1) := by decide +kernel
theorem dX10_score_24 : decode cX10_score 24 = .ok (.i2l, 1) := by decide +kernel
theorem dX10_score_25 : decode cX10_score 25 = .ok (.lmul, 1) := by decide +kernel
theorem dX10_score_26 : decode cX10_score 26 = .ok (.ladd, 1) := by decide +kernel
theorem dX10_score_27 : decode cX10_score 27 = .ok (.lreturn, 1) := by decide +kernel
theorem dX10_fit_0 : decode cX10_fit 0 = .ok (.aload_n 0, 1) := by decide +kernel
theorem dX10_fit_1 : decode cX10_fit 1 = .ok (.iload_n 1, 1) := by decide +kernel
theorem dX10_fit_2 : decode cX10_fit 2 = .ok (.invokevirtual 258, 3) := by decide +kernel
theorem dX10_fit_5 : decode cX10_fit 5 = .ok (.ifCond .eq 11, 3) := by decide +kernel
theorem dX10_fit_8 : decode cX10_fit 8 = .ok (.aload_n 0, 1) := by decide +kernel
theorem dX10_fit_9 : decode cX10_fit 9 = .ok (.iload_n 2, 1) := by decide +kernel
theorem dX10_fit_10 : decode cX10_fit 10 = .ok (.invokevirtual 136, 3) := by decide +kernel
theorem dX10_fit_13 : decode cX10_fit 13 = .ok (.ifCond .ne 9, 3) := by decide +kernel
theorem dX10_fit_16 : decode cX10_fit 16 = .ok (.aload_n 0, 1) := by decide +kernel
theorem dX10_fit_17 : decode cX10_fit 17 = .ok (.iconst (-1), 1) := by decide +kernel
theorem dX10_fit_18 : decode cX10_fit 18 = .ok (.invokevirtual 161, 3) := by decide +kernel
theorem dX10_fit_21 : decode cX10_fit 21 = .ok (.lreturn, 1) := by decide +kernel
theorem dX10_fit_22 : decode cX10_fit 22 = .ok (.iload 5, 2) := by decide +kernel
theorem dX10_fit_24 : decode cX10_fit 24 = .ok (.i2l, 1) := by decide +kernel
theorem dX10_fit_25 : decode cX10_fit 25 = .ok (.lconst 0, 1) := by decide +kernel
theorem dX10_fit_26 : decode cX10_fit 26 = .ok (.ldc2_w 298, 3) := by decide +kernel
theorem dX10_fit_29 : decode cX10_fit 29 = .ok (.invokestatic 116, 3) := by decide +kernel
theorem dX10_fit_32 : decode cX10_fit 32 = .ok (.ifCond .ne 10, 3) := by decide +kernel
theorem dX10_fit_35 : decode cX10_fit 35 = .ok (.aload_n 0, 1) := by decide +kernel
theorem dX10_fit_36 : decode cX10_fit 36 = .ok (.bipush (-2), 2) := by decide +kernel
theorem dX10_fit_38 : decode cX10_fit 38 = .ok (.invokevirtual 161, 3) := by decide +kernel
theorem dX10_fit_41 : decode cX10_fit 41 = .ok (.lreturn, 1) := by decide +kernel
theorem dX10_fit_42 : decode cX10_fit 42 = .ok (.aload_n 0, 1) := by decide +kernel
theorem dX10_fit_43 : decode cX10_fit 43 = .ok (.lload_n 3, 1) := by decide +kernel
theorem dX10_fit_44 : decode cX10_fit 44 = .ok (.invokevirtual 300, 3) := by decide +kernel
theorem dX10_fit_47 : decode cX10_fit 47 = .ok (.istore 6, 2) := by decide +kernel
theorem dX10_fit_49 : decode cX10_fit 49 = .ok (.iload 6, 2) := by decide +kernel
theorem dX10_fit_51 : decode cX10_fit 51 = .ok (.ifCond .eq 10, 3) := by decide +kernel
theorem dX10_fit_54 : decode cX10_fit 54 = .ok (.aload_n 0, 1) := by decide +kernel
theorem dX10_fit_55 : decode cX10_fit 55 = .ok (.iload 6, 2) := by decide +kernel
theorem dX10_fit_57 : decode cX10_fit 57 = .ok (.invokevirtual 161, 3) := by decide +kernel
theorem dX10_fit_60 : decode cX10_fit 60 = .ok (.lreturn, 1) := by decide +kernel
theorem dX10_fit_61 : decode cX10_fit 61 = .ok (.aload_n 0, 1) := by decide +kernel
theorem dX10_fit_62 : decode cX10_fit 62 = .ok (.iload_n 1, 1) := by decide +kernel
theorem dX10_fit_63 : decode cX10_fit 63 = .ok (.iload_n 2, 1) := by decide +kernel
theorem dX10_fit_64 : decode cX10_fit 64 = .ok (.lload_n 3, 1) := by decide +kernel
theorem dX10_fit_65 : decode cX10_fit 65 = .ok (.invokevirtual 304, 3) := by decide +kernel
theorem dX10_fit_68 : decode cX10_fit 68 = .ok (.lstore 7, 2) := by decide +kernel
theorem dX10_fit_70 : decode cX10_fit 70 = .ok (.iload 5, 2) := by decide +kernel
theorem dX10_fit_72 : decode cX10_fit 72 = .ok (.ifCond .ne 11, 3) := by decide +kernel
theorem dX10_fit_75 : decode cX10_fit 75 = .ok (.aload_n 0, 1) := by decide +kernel
theorem dX10_fit_76 : decode cX10_fit 76 = .ok (.getfield 288, 3) := by decide +kernel
theorem dX10_fit_79 : decode cX10_fit 79 = .ok (.i2l, 1) := by decide +kernel
theorem dX10_fit_80 : decode cX10_fit 80 = .ok (.goto 18, 3) := by decide +kernel
theorem dX10_fit_83 : decode cX10_fit 83 = .ok (.iload 5, 2) := by decide +kernel
theorem dX10_fit_85 : decode cX10_fit 85 = .ok (.iconst 1, 1) := by decide +kernel
theorem dX10_fit_86 : decode cX10_fit 86 = .ok (.if_icmp .ne 8, 3) := by decide +kernel
theorem dX10_fit_89 : decode cX10_fit 89 = .ok (.lload 7, 2) := by decide +kernel
theorem dX10_fit_91 : decode cX10_fit 91 = .ok (.goto 7, 3) := by decide +kernel
theorem dX10_fit_94 : decode cX10_fit 94 = .ok (.aload_n 0, 1) := by decide +kernel
theorem dX10_fit_95 : decode cX10_fit 95 = .ok (.getfield 280, 3) := by decide +kernel
theorem dX10_fit_98 : decode cX10_fit 98 = .ok (.lreturn, 1) := by decide +kernel
theorem dX10_leftOf_0 : decode cX10_leftOf 0 = .ok (.aload_n 0, 1) := by decide +kernel
theorem dX10_leftOf_1 : decode cX10_leftOf 1 = .ok (.iload_n 2, 1) := by decide +kernel
theorem dX10_leftOf_2 : decode cX10_leftOf 2 = .ok (.iconst 1, 1) := by decide +kernel
theorem dX10_leftOf_3 : decode cX10_leftOf 3 = .ok (.iconst 1, 1) := by decide +kernel
theorem dX10_leftOf_4 : decode cX10_leftOf 4 = .ok (.invokevirtual 199, 3) := by decide +kernel
theorem dX10_leftOf_7 : decode cX10_leftOf 7 = .ok (.aload_n 0, 1) := by decide +kernel
theorem dX10_leftOf_8 : decode cX10_leftOf 8 = .ok (.iload_n 1, 1) := by decide +kernel
theorem dX10_leftOf_9 : decode cX10_leftOf 9 = .ok (.aload_n 0, 1) := by decide +kernel
theorem dX10_leftOf_10 : decode cX10_leftOf 10 = .ok (.getfield 50, 3) := by decide +kernel
theorem dX10_leftOf_13 : decode cX10_leftOf 13 = .ok (.iload_n 2, 1) := by decide +kernel
theorem dX10_leftOf_14 : decode cX10_leftOf 14 = .ok (.iaload, 1) := by decide +kernel
theorem dX10_leftOf_15 : decode cX10_leftOf 15 = .ok (.aload_n 0, 1) := by decide +kernel
theorem dX10_leftOf_16 : decode cX10_leftOf 16 = .ok (.getfield 53, 3) := by decide +kernel
theorem dX10_leftOf_19 : decode cX10_leftOf 19 = .ok (.iload_n 2, 1) := by decide +kernel
theorem dX10_leftOf_20 : decode cX10_leftOf 20 = .ok (.iaload, 1) := by decide +kernel
theorem dX10_leftOf_21 : decode cX10_leftOf 21 = .ok (.aload_n 0, 1) := by decide +kernel
theorem dX10_leftOf_22 : decode cX10_leftOf 22 = .ok (.getfield 288, 3) := by decide +kernel
theorem dX10_leftOf_25 : decode cX10_leftOf 25 = .ok (.invokevirtual 264, 3) := by decide +kernel
theorem dX10_leftOf_28 : decode cX10_leftOf 28 = .ok (.lsub, 1) := by decide +kernel
theorem dX10_leftOf_29 : decode cX10_leftOf 29 = .ok (.lreturn, 1) := by decide +kernel
theorem dX10_left_0 : decode cX10_left 0 = .ok (.aload_n 0, 1) := by decide +kernel
theorem dX10_left_1 : decode cX10_left 1 = .ok (.iload_n 1, 1) := by decide +kernel
theorem dX10_left_2 : decode cX10_left 2 = .ok (.invokevirtual 258, 3) := by decide +kernel
theorem dX10_left_5 : decode cX10_left 5 = .ok (.ifCond .eq 11, 3) := by decide +kernel
theorem dX10_left_8 : decode cX10_left 8 = .ok (.aload_n 0, 1) := by decide +kernel
theorem dX10_left_9 : decode cX10_left 9 = .ok (.iload_n 2, 1) := by decide +kernel
theorem dX10_left_10 : decode cX10_left 10 = .ok (.invokevirtual 196, 3) := by decide +kernel
theorem dX10_left_13 : decode cX10_left 13 = .ok (.ifCond .ne 9, 3) := by decide +kernel
theorem dX10_left_16 : decode cX10_left 16 = .ok (.aload_n 0, 1) := by decide +kernel
theorem dX10_left_17 : decode cX10_left 17 = .ok (.iconst (-1), 1) := by decide +kernel
theorem dX10_left_18 : decode cX10_left 18 = .ok (.invokevirtual 161, 3) := by decide +kernel
theorem dX10_left_21 : decode cX10_left 21 = .ok (.lreturn, 1) := by decide +kernel
theorem dX10_left_22 : decode cX10_left 22 = .ok (.aload_n 0, 1) := by decide +kernel
theorem dX10_left_23 : decode cX10_left 23 = .ok (.getfield 56, 3) := by decide +kernel
theorem dX10_left_26 : decode cX10_left 26 = .ok (.iload_n 2, 1) := by decide +kernel
theorem dX10_left_27 : decode cX10_left 27 = .ok (.iaload, 1) := by decide +kernel
theorem dX10_left_28 : decode cX10_left 28 = .ok (.iconst 5, 1) := by decide +kernel
theorem dX10_left_29 : decode cX10_left 29 = .ok (.if_icmp .ne 10, 3) := by decide +kernel
theorem dX10_left_32 : decode cX10_left 32 = .ok (.aload_n 0, 1) := by decide +kernel
theorem dX10_left_33 : decode cX10_left 33 = .ok (.bipush (-3), 2) := by decide +kernel
theorem dX10_left_35 : decode cX10_left 35 = .ok (.invokevirtual 161, 3) := by decide +kernel
theorem dX10_left_38 : decode cX10_left 38 = .ok (.lreturn, 1) := by decide +kernel
theorem dX10_left_39 : decode cX10_left 39 = .ok (.aload_n 0, 1) := by decide +kernel
theorem dX10_left_40 : decode cX10_left 40 = .ok (.lload_n 3, 1) := by decide +kernel
theorem dX10_left_41 : decode cX10_left 41 = .ok (.invokevirtual 300, 3) := by decide +kernel
theorem dX10_left_44 : decode cX10_left 44 = .ok (.istore 5, 2) := by decide +kernel
theorem dX10_left_46 : decode cX10_left 46 = .ok (.iload 5, 2) := by decide +kernel
theorem dX10_left_48 : decode cX10_left 48 = .ok (.ifCond .eq 10, 3) := by decide +kernel
theorem dX10_left_51 : decode cX10_left 51 = .ok (.aload_n 0, 1) := by decide +kernel
theorem dX10_left_52 : decode cX10_left 52 = .ok (.iload 5, 2) := by decide +kernel
theorem dX10_left_54 : decode cX10_left 54 = .ok (.invokevirtual 161, 3) := by decide +kernel
theorem dX10_left_57 : decode cX10_left 57 = .ok (.lreturn, 1) := by decide +kernel
theorem dX10_left_58 : decode cX10_left 58 = .ok (.aload_n 0, 1) := by decide +kernel
theorem dX10_left_59 : decode cX10_left 59 = .ok (.iload_n 1, 1) := by decide +kernel
theorem dX10_left_60 : decode cX10_left 60 = .ok (.aload_n 0, 1) := by decide +kernel
theorem dX10_left_61 : decode cX10_left 61 = .ok (.getfield 50, 3) := by decide +kernel
theorem dX10_left_64 : decode cX10_left 64 = .ok (.iload_n 2, 1) := by decide +kernel
theorem dX10_left_65 : decode cX10_left 65 = .ok (.iaload, 1) := by decide +kernel
theorem dX10_left_66 : decode cX10_left 66 = .ok (.lload_n 3, 1) := by decide +kernel
theorem dX10_left_67 : decode cX10_left 67 = .ok (.invokevirtual 294, 3) := by decide +kernel
theorem dX10_left_70 : decode cX10_left 70 = .ok (.aload_n 0, 1) := by decide +kernel
theorem dX10_left_71 : decode cX10_left 71 = .ok (.iload_n 1, 1) := by decide +kernel
theorem dX10_left_72 : decode cX10_left 72 = .ok (.iload_n 2, 1) := by decide +kernel
theorem dX10_left_73 : decode cX10_left 73 = .ok (.invokevirtual 308, 3) := by decide +kernel
theorem dX10_left_76 : decode cX10_left 76 = .ok (.lreturn, 1) := by decide +kernel
theorem dX10_season_0 : decode cX10_season 0 = .ok (.aload_n 0, 1) := by decide +kernel
theorem dX10_season_1 : decode cX10_season 1 = .ok (.iload_n 1, 1) := by decide +kernel
theorem dX10_season_2 : decode cX10_season 2 = .ok (.invokevirtual 258, 3) := by decide +kernel
theorem dX10_season_5 : decode cX10_season 5 = .ok (.ifCond .eq 11, 3) := by decide +kernel
theorem dX10_season_8 : decode cX10_season 8 = .ok (.aload_n 0, 1) := by decide +kernel
theorem dX10_season_9 : decode cX10_season 9 = .ok (.iload_n 2, 1) := by decide +kernel
theorem dX10_season_10 : decode cX10_season 10 = .ok (.invokevirtual 136, 3) := by decide +kernel
theorem dX10_season_13 : decode cX10_season 13 = .ok (.ifCond .ne 9, 3) := by decide +kernel
theorem dX10_season_16 : decode cX10_season 16 = .ok (.aload_n 0, 1) := by decide +kernel
theorem dX10_season_17 : decode cX10_season 17 = .ok (.iconst (-1), 1) := by decide +kernel
theorem dX10_season_18 : decode cX10_season 18 = .ok (.invokevirtual 161, 3) := by decide +kernel
theorem dX10_season_21 : decode cX10_season 21 = .ok (.lreturn, 1) := by decide +kernel
theorem dX10_season_22 : decode cX10_season 22 = .ok (.aload_n 0, 1) := by decide +kernel
theorem dX10_season_23 : decode cX10_season 23 = .ok (.lload_n 3, 1) := by decide +kernel
theorem dX10_season_24 : decode cX10_season 24 = .ok (.invokevirtual 300, 3) := by decide +kernel
theorem dX10_season_27 : decode cX10_season 27 = .ok (.istore 5, 2) := by decide +kernel
theorem dX10_season_29 : decode cX10_season 29 = .ok (.iload 5, 2) := by decide +kernel
theorem dX10_season_31 : decode cX10_season 31 = .ok (.ifCond .eq 10, 3) := by decide +kernel
theorem dX10_season_34 : decode cX10_season 34 = .ok (.aload_n 0, 1) := by decide +kernel
theorem dX10_season_35 : decode cX10_season 35 = .ok (.iload 5, 2) := by decide +kernel
theorem dX10_season_37 : decode cX10_season 37 = .ok (.invokevirtual 161, 3) := by decide +kernel
theorem dX10_season_40 : decode cX10_season 40 = .ok (.lreturn, 1) := by decide +kernel
theorem dX10_season_41 : decode cX10_season 41 = .ok (.aload_n 0, 1) := by decide +kernel
theorem dX10_season_42 : decode cX10_season 42 = .ok (.iload_n 1, 1) := by decide +kernel
theorem dX10_season_43 : decode cX10_season 43 = .ok (.iload_n 2, 1) := by decide +kernel
theorem dX10_season_44 : decode cX10_season 44 = .ok (.lload_n 3, 1) := by decide +kernel
theorem dX10_season_45 : decode cX10_season 45 = .ok (.invokevirtual 294, 3) := by decide +kernel
theorem dX10_season_48 : decode cX10_season 48 = .ok (.lconst 0, 1) := by decide +kernel
theorem dX10_season_49 : decode cX10_season 49 = .ok (.lstore 6, 2) := by decide +kernel
theorem dX10_season_51 : decode cX10_season 51 = .ok (.iconst 0, 1) := by decide +kernel
theorem dX10_season_52 : decode cX10_season 52 = .ok (.istore 8, 2) := by decide +kernel
theorem dX10_season_54 : decode cX10_season 54 = .ok (.iload 8, 2) := by decide +kernel
theorem dX10_season_56 : decode cX10_season 56 = .ok (.aload_n 0, 1) := by decide +kernel
theorem dX10_season_57 : decode cX10_season 57 = .ok (.getfield 267, 3) := by decide +kernel
theorem dX10_season_60 : decode cX10_season 60 = .ok (.if_icmp .ge 64, 3) := by decide +kernel
theorem dX10_season_63 : decode cX10_season 63 = .ok (.aload_n 0, 1) := by decide +kernel
theorem dX10_season_64 : decode cX10_season 64 = .ok (.iload_n 1, 1) := by decide +kernel
theorem dX10_season_65 : decode cX10_season 65 = .ok (.aload_n 0, 1) := by decide +kernel
theorem dX10_season_66 : decode cX10_season 66 = .ok (.getfield 89, 3) := by decide +kernel
theorem dX10_season_69 : decode cX10_season 69 = .ok (.iload 8, 2) := by decide +kernel
theorem dX10_season_71 : decode cX10_season 71 = .ok (.iaload, 1) := by decide +kernel
theorem dX10_season_72 : decode cX10_season 72 = .ok (.invokevirtual 308, 3) := by decide +kernel
theorem dX10_season_75 : decode cX10_season 75 = .ok (.lstore 9, 2) := by decide +kernel
theorem dX10_season_77 : decode cX10_season 77 = .ok (.lload 6, 2) := by decide +kernel
theorem dX10_season_79 : decode cX10_season 79 = .ok (.aload_n 0, 1) := by decide +kernel
theorem dX10_season_80 : decode cX10_season 80 = .ok (.aload_n 0, 1) := by decide +kernel
theorem dX10_season_81 : decode cX10_season 81 = .ok (.iload_n 2, 1) := by decide +kernel
theorem dX10_season_82 : decode cX10_season 82 = .ok (.aload_n 0, 1) := by decide +kernel
theorem dX10_season_83 : decode cX10_season 83 = .ok (.getfield 53, 3) := by decide +kernel
theorem dX10_season_86 : decode cX10_season 86 = .ok (.aload_n 0, 1) := by decide +kernel
theorem dX10_season_87 : decode cX10_season 87 = .ok (.getfield 89, 3) := by decide +kernel
theorem dX10_season_90 : decode cX10_season 90 = .ok (.iload 8, 2) := by decide +kernel
theorem dX10_season_92 : decode cX10_season 92 = .ok (.iaload, 1) := by decide +kernel
theorem dX10_season_93 : decode cX10_season 93 = .ok (.iaload, 1) := by decide +kernel
theorem dX10_season_94 : decode cX10_season 94 = .ok (.invokevirtual 244, 3) := by decide +kernel
theorem dX10_season_97 : decode cX10_season 97 = .ok (.invokevirtual 157, 3) := by decide +kernel
theorem dX10_season_100 : decode cX10_season 100 = .ok (.ldc2_w 311, 3) := by decide +kernel
theorem dX10_season_103 : decode cX10_season 103 = .ok (.lcmp, 1) := by decide +kernel
theorem dX10_season_104 : decode cX10_season 104 = .ok (.ifCond .le 8, 3) := by decide +kernel
theorem dX10_season_107 : decode cX10_season 107 = .ok (.lload 9, 2) := by decide +kernel
theorem dX10_season_109 : decode cX10_season 109 = .ok (.goto 6, 3) := by decide +kernel
theorem dX10_season_112 : decode cX10_season 112 = .ok (.lload 9, 2) := by decide +kernel
theorem dX10_season_114 : decode cX10_season 114 = .ok (.lneg, 1) := by decide +kernel
theorem dX10_season_115 : decode cX10_season 115 = .ok (.ladd, 1) := by decide +kernel
theorem dX10_season_116 : decode cX10_season 116 = .ok (.lstore 6, 2) := by decide +kernel
theorem dX10_season_118 : decode cX10_season 118 = .ok (.iinc 8 1, 3) := by decide +kernel
theorem dX10_season_121 : decode cX10_season 121 = .ok (.goto (-67), 3) := by decide +kernel
theorem dX10_season_124 : decode cX10_season 124 = .ok (.lload 6, 2) := by decide +kernel
theorem dX10_season_126 : decode cX10_season 126 = .ok (.lreturn, 1) := by decide +kernel
theorem dX10_worth_0 : decode cX10_worth 0 = .ok (.aload_n 0, 1) := by decide +kernel
theorem dX10_worth_1 : decode cX10_worth 1 = .ok (.iload_n 1, 1) := by decide +kernel
theorem dX10_worth_2 : decode cX10_worth 2 = .ok (.invokevirtual 258, 3) := by decide +kernel
theorem dX10_worth_5 : decode cX10_worth 5 = .ok (.ifCond .eq 29, 3) := by decide +kernel
theorem dX10_worth_8 : decode cX10_worth 8 = .ok (.iload_n 2, 1) := by decide +kernel
theorem dX10_worth_9 : decode cX10_worth 9 = .ok (.i2l, 1) := by decide +kernel
theorem dX10_worth_10 : decode cX10_worth 10 = .ok (.lconst 0, 1) := by decide +kernel
theorem dX10_worth_11 : decode cX10_worth 11 = .ok (.aload_n 0, 1) := by decide +kernel
theorem dX10_worth_12 : decode cX10_worth 12 = .ok (.getfield 80, 3) := by decide +kernel
theorem dX10_worth_15 : decode cX10_worth 15 = .ok (.iload_n 1, 1) := by decide +kernel
theorem dX10_worth_16 : decode cX10_worth 16 = .ok (.iaload, 1) := by decide +kernel
theorem dX10_worth_17 : decode cX10_worth 17 = .ok (.iconst 1, 1) := by decide +kernel
theorem dX10_worth_18 : decode cX10_worth 18 = .ok (.isub, 1) := by decide +kernel
theorem dX10_worth_19 : decode cX10_worth 19 = .ok (.i2l, 1) := by decide +kernel
theorem dX10_worth_20 : decode cX10_worth 20 = .ok (.invokestatic 116, 3) := by decide +kernel
theorem dX10_worth_23 : decode cX10_worth 23 = .ok (.ifCond .eq 11, 3) := by decide +kernel
theorem dX10_worth_26 : decode cX10_worth 26 = .ok (.aload_n 0, 1) := by decide +kernel
theorem dX10_worth_27 : decode cX10_worth 27 = .ok (.iload_n 3, 1) := by decide +kernel
theorem dX10_worth_28 : decode cX10_worth 28 = .ok (.invokevirtual 136, 3) := by decide +kernel
theorem dX10_worth_31 : decode cX10_worth 31 = .ok (.ifCond .ne 9, 3) := by decide +kernel
theorem dX10_worth_34 : decode cX10_worth 34 = .ok (.aload_n 0, 1) := by decide +kernel
theorem dX10_worth_35 : decode cX10_worth 35 = .ok (.iconst (-1), 1) := by decide +kernel
theorem dX10_worth_36 : decode cX10_worth 36 = .ok (.invokevirtual 161, 3) := by decide +kernel
theorem dX10_worth_39 : decode cX10_worth 39 = .ok (.lreturn, 1) := by decide +kernel
theorem dX10_worth_40 : decode cX10_worth 40 = .ok (.aload_n 0, 1) := by decide +kernel
theorem dX10_worth_41 : decode cX10_worth 41 = .ok (.lload 4, 2) := by decide +kernel
theorem dX10_worth_43 : decode cX10_worth 43 = .ok (.invokevirtual 300, 3) := by decide +kernel
theorem dX10_worth_46 : decode cX10_worth 46 = .ok (.istore 6, 2) := by decide +kernel
theorem dX10_worth_48 : decode cX10_worth 48 = .ok (.iload 6, 2) := by decide +kernel
theorem dX10_worth_50 : decode cX10_worth 50 = .ok (.ifCond .eq 10, 3) := by decide +kernel
theorem dX10_worth_53 : decode cX10_worth 53 = .ok (.aload_n 0, 1) := by decide +kernel
theorem dX10_worth_54 : decode cX10_worth 54 = .ok (.iload 6, 2) := by decide +kernel
theorem dX10_worth_56 : decode cX10_worth 56 = .ok (.invokevirtual 161, 3) := by decide +kernel
theorem dX10_worth_59 : decode cX10_worth 59 = .ok (.lreturn, 1) := by decide +kernel
theorem dX10_worth_60 : decode cX10_worth 60 = .ok (.aload_n 0, 1) := by decide +kernel
theorem dX10_worth_61 : decode cX10_worth 61 = .ok (.iload_n 1, 1) := by decide +kernel
theorem dX10_worth_62 : decode cX10_worth 62 = .ok (.iload_n 3, 1) := by decide +kernel
theorem dX10_worth_63 : decode cX10_worth 63 = .ok (.lload 4, 2) := by decide +kernel
theorem dX10_worth_65 : decode cX10_worth 65 = .ok (.invokevirtual 304, 3) := by decide +kernel
theorem dX10_worth_68 : decode cX10_worth 68 = .ok (.lstore 7, 2) := by decide +kernel
theorem dX10_worth_70 : decode cX10_worth 70 = .ok (.aload_n 0, 1) := by decide +kernel
theorem dX10_worth_71 : decode cX10_worth 71 = .ok (.getfield 80, 3) := by decide +kernel
theorem dX10_worth_74 : decode cX10_worth 74 = .ok (.bipush 8, 2) := by decide +kernel
theorem dX10_worth_76 : decode cX10_worth 76 = .ok (.iconst 0, 1) := by decide +kernel
theorem dX10_worth_77 : decode cX10_worth 77 = .ok (.iastore, 1) := by decide +kernel
theorem dX10_worth_78 : decode cX10_worth 78 = .ok (.iconst 0, 1) := by decide +kernel
theorem dX10_worth_79 : decode cX10_worth 79 = .ok (.istore 9, 2) := by decide +kernel
theorem dX10_worth_81 : decode cX10_worth 81 = .ok (.iload 9, 2) := by decide +kernel
theorem dX10_worth_83 : decode cX10_worth 83 = .ok (.aload_n 0, 1) := by decide +kernel
theorem dX10_worth_84 : decode cX10_worth 84 = .ok (.getfield 80, 3) := by decide +kernel
theorem dX10_worth_87 : decode cX10_worth 87 = .ok (.iload_n 1, 1) := by decide +kernel
theorem dX10_worth_88 : decode cX10_worth 88 = .ok (.iaload, 1) := by decide +kernel
theorem dX10_worth_89 : decode cX10_worth 89 = .ok (.if_icmp .ge 56, 3) := by decide +kernel
theorem dX10_worth_92 : decode cX10_worth 92 = .ok (.iload 9, 2) := by decide +kernel
theorem dX10_worth_94 : decode cX10_worth 94 = .ok (.iload_n 2, 1) := by decide +kernel
theorem dX10_worth_95 : decode cX10_worth 95 = .ok (.if_icmp .ne 6, 3) := by decide +kernel
theorem dX10_worth_98 : decode cX10_worth 98 = .ok (.goto 41, 3) := by decide +kernel
theorem dX10_worth_101 : decode cX10_worth 101 = .ok (.aload_n 0, 1) := by decide +kernel
theorem dX10_worth_102 : decode cX10_worth 102 = .ok (.getfield 77, 3) := by decide +kernel
theorem dX10_worth_105 : decode cX10_worth 105 = .ok (.bipush 64, 2) := by decide +kernel
theorem dX10_worth_107 : decode cX10_worth 107 = .ok (.aload_n 0, 1) := by decide +kernel
theorem dX10_worth_108 : decode cX10_worth 108 = .ok (.getfield 80, 3) := by decide +kernel
theorem dX10_worth_111 : decode cX10_worth 111 = .ok (.bipush 8, 2) := by decide +kernel
theorem dX10_worth_113 : decode cX10_worth 113 = .ok (.iaload, 1) := by decide +kernel
theorem dX10_worth_114 : decode cX10_worth 114 = .ok (.iadd, 1) := by decide +kernel
theorem dX10_worth_115 : decode cX10_worth 115 = .ok (.aload_n 0, 1) := by decide +kernel
theorem dX10_worth_116 : decode cX10_worth 116 = .ok (.getfield 77, 3) := by decide +kernel
theorem dX10_worth_119 : decode cX10_worth 119 = .ok (.bipush 8, 2) := by decide +kernel
theorem dX10_worth_121 : decode cX10_worth 121 = .ok (.iload_n 1, 1) := by decide +kernel
theorem dX10_worth_122 : decode cX10_worth 122 = .ok (.imul, 1) := by decide +kernel
theorem dX10_worth_123 : decode cX10_worth 123 = .ok (.iload 9, 2) := by decide +kernel
theorem dX10_worth_125 : decode cX10_worth 125 = .ok (.iadd, 1) := by decide +kernel
theorem dX10_worth_126 : decode cX10_worth 126 = .ok (.iaload, 1) := by decide +kernel
theorem dX10_worth_127 : decode cX10_worth 127 = .ok (.iastore, 1) := by decide +kernel
theorem dX10_worth_128 : decode cX10_worth 128 = .ok (.aload_n 0, 1) := by decide +kernel
theorem dX10_worth_129 : decode cX10_worth 129 = .ok (.getfield 80, 3) := by decide +kernel
theorem dX10_worth_132 : decode cX10_worth 132 = .ok (.bipush 8, 2) := by decide +kernel
theorem dX10_worth_134 : decode cX10_worth 134 = .ok (.dup2, 1) := by decide +kernel
theorem dX10_worth_135 : decode cX10_worth 135 = .ok (.iaload, 1) := by decide +kernel
theorem dX10_worth_136 : decode cX10_worth 136 = .ok (.iconst 1, 1) := by decide +kernel
theorem dX10_worth_137 : decode cX10_worth 137 = .ok (.iadd, 1) := by decide +kernel
theorem dX10_worth_138 : decode cX10_worth 138 = .ok (.iastore, 1) := by decide +kernel
theorem dX10_worth_139 : decode cX10_worth 139 = .ok (.iinc 9 1, 3) := by decide +kernel
theorem dX10_worth_142 : decode cX10_worth 142 = .ok (.goto (-61), 3) := by decide +kernel
theorem dX10_worth_145 : decode cX10_worth 145 = .ok (.aload_n 0, 1) := by decide +kernel
theorem dX10_worth_146 : decode cX10_worth 146 = .ok (.bipush 8, 2) := by decide +kernel
theorem dX10_worth_148 : decode cX10_worth 148 = .ok (.iload_n 3, 1) := by decide +kernel
theorem dX10_worth_149 : decode cX10_worth 149 = .ok (.lload 4, 2) := by decide +kernel
theorem dX10_worth_151 : decode cX10_worth 151 = .ok (.invokevirtual 304, 3) := by decide +kernel
theorem dX10_worth_154 : decode cX10_worth 154 = .ok (.lload 7, 2) := by decide +kernel
theorem dX10_worth_156 : decode cX10_worth 156 = .ok (.lsub, 1) := by decide +kernel
theorem dX10_worth_157 : decode cX10_worth 157 = .ok (.lreturn, 1) := by decide +kernel
theorem dX10_bestOf_0 : decode cX10_bestOf 0 = .ok (.iconst (-1), 1) := by decide +kernel
theorem dX10_bestOf_1 : decode cX10_bestOf 1 = .ok (.istore 4, 2) := by decide +kernel
theorem dX10_bestOf_3 : decode cX10_bestOf 3 = .ok (.lconst 0, 1) := by decide +kernel
theorem dX10_bestOf_4 : decode cX10_bestOf 4 = .ok (.lstore 5, 2) := by decide +kernel
theorem dX10_bestOf_6 : decode cX10_bestOf 6 = .ok (.iconst 0, 1) := by decide +kernel
theorem dX10_bestOf_7 : decode cX10_bestOf 7 = .ok (.istore 7, 2) := by decide +kernel
theorem dX10_bestOf_9 : decode cX10_bestOf 9 = .ok (.iload 7, 2) := by decide +kernel
theorem dX10_bestOf_11 : decode cX10_bestOf 11 = .ok (.aload_n 0, 1) := by decide +kernel
theorem dX10_bestOf_12 : decode cX10_bestOf 12 = .ok (.getfield 237, 3) := by decide +kernel
theorem dX10_bestOf_15 : decode cX10_bestOf 15 = .ok (.if_icmp .ge 43, 3) := by decide +kernel
theorem dX10_bestOf_18 : decode cX10_bestOf 18 = .ok (.aload_n 0, 1) := by decide +kernel
theorem dX10_bestOf_19 : decode cX10_bestOf 19 = .ok (.iload 7, 2) := by decide +kernel
theorem dX10_bestOf_21 : decode cX10_bestOf 21 = .ok (.iload_n 1, 1) := by decide +kernel
theorem dX10_bestOf_22 : decode cX10_bestOf 22 = .ok (.lload_n 2, 1) := by decide +kernel
theorem dX10_bestOf_23 : decode cX10_bestOf 23 = .ok (.invokevirtual 304, 3) := by decide +kernel
theorem dX10_bestOf_26 : decode cX10_bestOf 26 = .ok (.lstore 8, 2) := by decide +kernel
theorem dX10_bestOf_28 : decode cX10_bestOf 28 = .ok (.iload 4, 2) := by decide +kernel
theorem dX10_bestOf_30 : decode cX10_bestOf 30 = .ok (.ifCond .lt 14, 3) := by decide +kernel
theorem dX10_bestOf_33 : decode cX10_bestOf 33 = .ok (.lload 8, 2) := by decide +kernel
theorem dX10_bestOf_35 : decode cX10_bestOf 35 = .ok (.lload 5, 2) := by decide +kernel
theorem dX10_bestOf_37 : decode cX10_bestOf 37 = .ok (.lcmp, 1) := by decide +kernel
theorem dX10_bestOf_38 : decode cX10_bestOf 38 = .ok (.ifCond .lt 6, 3) := by decide +kernel
theorem dX10_bestOf_41 : decode cX10_bestOf 41 = .ok (.goto 11, 3) := by decide +kernel
theorem dX10_bestOf_44 : decode cX10_bestOf 44 = .ok (.iload 7, 2) := by decide +kernel
theorem dX10_bestOf_46 : decode cX10_bestOf 46 = .ok (.istore 4, 2) := by decide +kernel
theorem dX10_bestOf_48 : decode cX10_bestOf 48 = .ok (.lload 8, 2) := by decide +kernel
theorem dX10_bestOf_50 : decode cX10_bestOf 50 = .ok (.lstore 5, 2) := by decide +kernel
theorem dX10_bestOf_52 : decode cX10_bestOf 52 = .ok (.iinc 7 1, 3) := by decide +kernel
theorem dX10_bestOf_55 : decode cX10_bestOf 55 = .ok (.goto (-46), 3) := by decide +kernel
theorem dX10_bestOf_58 : decode cX10_bestOf 58 = .ok (.iload 4, 2) := by decide +kernel
theorem dX10_bestOf_60 : decode cX10_bestOf 60 = .ok (.ireturn, 1) := by decide +kernel
theorem dX10_best_0 : decode cX10_best 0 = .ok (.aload_n 0, 1) := by decide +kernel
theorem dX10_best_1 : decode cX10_best 1 = .ok (.iload_n 1, 1) := by decide +kernel
theorem dX10_best_2 : decode cX10_best 2 = .ok (.invokevirtual 136, 3) := by decide +kernel
theorem dX10_best_5 : decode cX10_best 5 = .ok (.ifCond .ne 9, 3) := by decide +kernel
theorem dX10_best_8 : decode cX10_best 8 = .ok (.aload_n 0, 1) := by decide +kernel
theorem dX10_best_9 : decode cX10_best 9 = .ok (.iconst (-1), 1) := by decide +kernel
theorem dX10_best_10 : decode cX10_best 10 = .ok (.invokevirtual 120, 3) := by decide +kernel
theorem dX10_best_13 : decode cX10_best 13 = .ok (.ireturn, 1) := by decide +kernel
theorem dX10_best_14 : decode cX10_best 14 = .ok (.aload_n 0, 1) := by decide +kernel
theorem dX10_best_15 : decode cX10_best 15 = .ok (.getfield 237, 3) := by decide +kernel
theorem dX10_best_18 : decode cX10_best 18 = .ok (.ifCond .ne 8, 3) := by decide +kernel
theorem dX10_best_21 : decode cX10_best 21 = .ok (.bipush (-3), 2) := by decide +kernel
theorem dX10_best_23 : decode cX10_best 23 = .ok (.goto 8, 3) := by decide +kernel
theorem dX10_best_26 : decode cX10_best 26 = .ok (.aload_n 0, 1) := by decide +kernel
theorem dX10_best_27 : decode cX10_best 27 = .ok (.lload_n 2, 1) := by decide +kernel
theorem dX10_best_28 : decode cX10_best 28 = .ok (.invokevirtual 300, 3) := by decide +kernel
theorem dX10_best_31 : decode cX10_best 31 = .ok (.istore 4, 2) := by decide +kernel
theorem dX10_best_33 : decode cX10_best 33 = .ok (.iload 4, 2) := by decide +kernel
theorem dX10_best_35 : decode cX10_best 35 = .ok (.ifCond .eq 12, 3) := by decide +kernel
theorem dX10_best_38 : decode cX10_best 38 = .ok (.aload_n 0, 1) := by decide +kernel
theorem dX10_best_39 : decode cX10_best 39 = .ok (.iload 4, 2) := by decide +kernel
theorem dX10_best_41 : decode cX10_best 41 = .ok (.invokevirtual 120, 3) := by decide +kernel
theorem dX10_best_44 : decode cX10_best 44 = .ok (.goto 9, 3) := by decide +kernel
theorem dX10_best_47 : decode cX10_best 47 = .ok (.aload_n 0, 1) := by decide +kernel
theorem dX10_best_48 : decode cX10_best 48 = .ok (.iload_n 1, 1) := by decide +kernel
theorem dX10_best_49 : decode cX10_best 49 = .ok (.lload_n 2, 1) := by decide +kernel
theorem dX10_best_50 : decode cX10_best 50 = .ok (.invokevirtual 313, 3) := by decide +kernel
theorem dX10_best_53 : decode cX10_best 53 = .ok (.ireturn, 1) := by decide +kernel
theorem dX10_allSights_0 : decode cX10_allSights 0 = .ok (.lconst 1, 1) := by decide +kernel
theorem dX10_allSights_1 : decode cX10_allSights 1 = .ok (.aload_n 0, 1) := by decide +kernel
theorem dX10_allSights_2 : decode cX10_allSights 2 = .ok (.getfield 181, 3) := by decide +kernel
theorem dX10_allSights_5 : decode cX10_allSights 5 = .ok (.lshl, 1) := by decide +kernel
theorem dX10_allSights_6 : decode cX10_allSights 6 = .ok (.lconst 1, 1) := by decide +kernel
theorem dX10_allSights_7 : decode cX10_allSights 7 = .ok (.lsub, 1) := by decide +kernel
theorem dX10_allSights_8 : decode cX10_allSights 8 = .ok (.lreturn, 1) := by decide +kernel
theorem dX10_isSlack_0 : decode cX10_isSlack 0 = .ok (.aload_n 0, 1) := by decide +kernel
theorem dX10_isSlack_1 : decode cX10_isSlack 1 = .ok (.getfield 80, 3) := by decide +kernel
theorem dX10_isSlack_4 : decode cX10_isSlack 4 = .ok (.iload_n 1, 1) := by decide +kernel
theorem dX10_isSlack_5 : decode cX10_isSlack 5 = .ok (.iaload, 1) := by decide +kernel
theorem dX10_isSlack_6 : decode cX10_isSlack 6 = .ok (.istore 4, 2) := by decide +kernel
theorem dX10_isSlack_8 : decode cX10_isSlack 8 = .ok (.iconst 0, 1) := by decide +kernel
theorem dX10_isSlack_9 : decode cX10_isSlack 9 = .ok (.istore 5, 2) := by decide +kernel
theorem dX10_isSlack_11 : decode cX10_isSlack 11 = .ok (.iconst 0, 1) := by decide +kernel
theorem dX10_isSlack_12 : decode cX10_isSlack 12 = .ok (.istore 6, 2) := by decide +kernel
theorem dX10_isSlack_14 : decode cX10_isSlack 14 = .ok (.iload 6, 2) := by decide +kernel
theorem dX10_isSlack_16 : decode cX10_isSlack 16 = .ok (.iload 4, 2) := by decide +kernel
theorem dX10_isSlack_18 : decode cX10_isSlack 18 = .ok (.if_icmp .ge 17, 3) := by decide +kernel
theorem dX10_isSlack_21 : decode cX10_isSlack 21 = .ok (.aload_n 0, 1) := by decide +kernel
theorem dX10_isSlack_22 : decode cX10_isSlack 22 = .ok (.getfield 92, 3) := by decide +kernel
theorem dX10_isSlack_25 : decode cX10_isSlack 25 = .ok (.iload 6, 2) := by decide +kernel
theorem dX10_isSlack_27 : decode cX10_isSlack 27 = .ok (.iconst 0, 1) := by decide +kernel
theorem dX10_isSlack_28 : decode cX10_isSlack 28 = .ok (.iastore, 1) := by decide +kernel
theorem dX10_isSlack_29 : decode cX10_isSlack 29 = .ok (.iinc 6 1, 3) := by decide +kernel
theorem dX10_isSlack_32 : decode cX10_isSlack 32 = .ok (.goto (-18), 3) := by decide +kernel
theorem dX10_isSlack_35 : decode cX10_isSlack 35 = .ok (.iload 5, 2) := by decide +kernel
theorem dX10_isSlack_37 : decode cX10_isSlack 37 = .ok (.ifCond .lt 117, 3) := by decide +kernel
theorem dX10_isSlack_40 : decode cX10_isSlack 40 = .ok (.iload 5, 2) := by decide +kernel
theorem dX10_isSlack_42 : decode cX10_isSlack 42 = .ok (.istore 6, 2) := by decide +kernel
theorem dX10_isSlack_44 : decode cX10_isSlack 44 = .ok (.iload 6, 2) := by decide +kernel
theorem dX10_isSlack_46 : decode cX10_isSlack 46 = .ok (.iload 4, 2) := by decide +kernel
theorem dX10_isSlack_48 : decode cX10_isSlack 48 = .ok (.if_icmp .ge 15, 3) := by decide +kernel
theorem dX10_isSlack_51 : decode cX10_isSlack 51 = .ok (.aload_n 0, 1) := by decide +kernel
theorem dX10_isSlack_52 : decode cX10_isSlack 52 = .ok (.iload 6, 2) := by decide +kernel
theorem dX10_isSlack_54 : decode cX10_isSlack 54 = .ok (.invokevirtual 284, 3) := by decide +kernel
theorem dX10_isSlack_57 : decode cX10_isSlack 57 = .ok (.iinc 6 1, 3) := by decide +kernel
theorem dX10_isSlack_60 : decode cX10_isSlack 60 = .ok (.goto (-16), 3) := by decide +kernel
theorem dX10_isSlack_63 : decode cX10_isSlack 63 = .ok (.aload_n 0, 1) := by decide +kernel
theorem dX10_isSlack_64 : decode cX10_isSlack 64 = .ok (.getfield 92, 3) := by decide +kernel
theorem dX10_isSlack_67 : decode cX10_isSlack 67 = .ok (.iload_n 2, 1) := by decide +kernel
theorem dX10_isSlack_68 : decode cX10_isSlack 68 = .ok (.iaload, 1) := by decide +kernel
theorem dX10_isSlack_69 : decode cX10_isSlack 69 = .ok (.iload_n 3, 1) := by decide +kernel
theorem dX10_isSlack_70 : decode cX10_isSlack 70 = .ok (.if_icmp .ne 7, 3) := by decide +kernel
theorem dX10_isSlack_73 : decode cX10_isSlack 73 = .ok (.iconst 1, 1) := by decide +kernel
theorem dX10_isSlack_74 : decode cX10_isSlack 74 = .ok (.goto 4, 3) := by decide +kernel
theorem dX10_isSlack_77 : decode cX10_isSlack 77 = .ok (.iconst 0, 1) := by decide +kernel
theorem dX10_isSlack_78 : decode cX10_isSlack 78 = .ok (.istore 6, 2) := by decide +kernel
theorem dX10_isSlack_80 : decode cX10_isSlack 80 = .ok (.iconst 0, 1) := by decide +kernel
theorem dX10_isSlack_81 : decode cX10_isSlack 81 = .ok (.istore 7, 2) := by decide +kernel
theorem dX10_isSlack_83 : decode cX10_isSlack 83 = .ok (.iload 7, 2) := by decide +kernel
theorem dX10_isSlack_85 : decode cX10_isSlack 85 = .ok (.aload_n 0, 1) := by decide +kernel
theorem dX10_isSlack_86 : decode cX10_isSlack 86 = .ok (.getfield 267, 3) := by decide +kernel
theorem dX10_isSlack_89 : decode cX10_isSlack 89 = .ok (.if_icmp .ge 47, 3) := by decide +kernel
theorem dX10_isSlack_92 : decode cX10_isSlack 92 = .ok (.iload 6, 2) := by decide +kernel
theorem dX10_isSlack_94 : decode cX10_isSlack 94 = .ok (.ifCond .eq 42, 3) := by decide +kernel
theorem dX10_isSlack_97 : decode cX10_isSlack 97 = .ok (.aload_n 0, 1) := by decide +kernel
theorem dX10_isSlack_98 : decode cX10_isSlack 98 = .ok (.getfield 95, 3) := by decide +kernel
theorem dX10_isSlack_101 : decode cX10_isSlack 101 = .ok (.bipush 40, 2) := by decide +kernel
theorem dX10_isSlack_103 : decode cX10_isSlack 103 = .ok (.iload 4, 2) := by decide +kernel
theorem dX10_isSlack_105 : decode cX10_isSlack 105 = .ok (.imul, 1) := by decide +kernel
theorem dX10_isSlack_106 : decode cX10_isSlack 106 = .ok (.iload 7, 2) := by decide +kernel
theorem dX10_isSlack_108 : decode cX10_isSlack 108 = .ok (.iadd, 1) := by decide +kernel
theorem dX10_isSlack_109 : decode cX10_isSlack 109 = .ok (.laload, 1) := by decide +kernel
theorem dX10_isSlack_110 : decode cX10_isSlack 110 = .ok (.aload_n 0, 1) := by decide +kernel
theorem dX10_isSlack_111 : decode cX10_isSlack 111 = .ok (.getfield 28, 3) := by decide +kernel
theorem dX10_isSlack_114 : decode cX10_isSlack 114 = .ok (.iconst 4, 1) := by decide +kernel
theorem dX10_isSlack_115 : decode cX10_isSlack 115 = .ok (.iaload, 1) := by decide +kernel
theorem dX10_isSlack_116 : decode cX10_isSlack 116 = .ok (.ineg, 1) := by decide +kernel
theorem dX10_isSlack_117 : decode cX10_isSlack 117 = .ok (.i2l, 1) := by decide +kernel
theorem dX10_isSlack_118 : decode cX10_isSlack 118 = .ok (.aload_n 0, 1) := by decide +kernel
theorem dX10_isSlack_119 : decode cX10_isSlack 119 = .ok (.getfield 28, 3) := by decide +kernel
theorem dX10_isSlack_122 : decode cX10_isSlack 122 = .ok (.iconst 4, 1) := by decide +kernel
theorem dX10_isSlack_123 : decode cX10_isSlack 123 = .ok (.iaload, 1) := by decide +kernel
theorem dX10_isSlack_124 : decode cX10_isSlack 124 = .ok (.i2l, 1) := by decide +kernel
theorem dX10_isSlack_125 : decode cX10_isSlack 125 = .ok (.invokestatic 116, 3) := by decide +kernel
theorem dX10_isSlack_128 : decode cX10_isSlack 128 = .ok (.istore 6, 2) := by decide +kernel
theorem dX10_isSlack_130 : decode cX10_isSlack 130 = .ok (.iinc 7 1, 3) := by decide +kernel
theorem dX10_isSlack_133 : decode cX10_isSlack 133 = .ok (.goto (-50), 3) := by decide +kernel
theorem dX10_isSlack_136 : decode cX10_isSlack 136 = .ok (.iload 6, 2) := by decide +kernel
theorem dX10_isSlack_138 : decode cX10_isSlack 138 = .ok (.ifCond .eq 5, 3) := by decide +kernel
theorem dX10_isSlack_141 : decode cX10_isSlack 141 = .ok (.iconst 1, 1) := by decide +kernel
theorem dX10_isSlack_142 : decode cX10_isSlack 142 = .ok (.ireturn, 1) := by decide +kernel
theorem dX10_isSlack_143 : decode cX10_isSlack 143 = .ok (.aload_n 0, 1) := by decide +kernel
theorem dX10_isSlack_144 : decode cX10_isSlack 144 = .ok (.iload 4, 2) := by decide +kernel
theorem dX10_isSlack_146 : decode cX10_isSlack 146 = .ok (.invokevirtual 291, 3) := by decide +kernel
theorem dX10_isSlack_149 : decode cX10_isSlack 149 = .ok (.istore 5, 2) := by decide +kernel
theorem dX10_isSlack_151 : decode cX10_isSlack 151 = .ok (.goto (-116), 3) := by decide +kernel
theorem dX10_isSlack_154 : decode cX10_isSlack 154 = .ok (.iconst 0, 1) := by decide +kernel
theorem dX10_isSlack_155 : decode cX10_isSlack 155 = .ok (.ireturn, 1) := by decide +kernel
theorem dX10_allMoons_0 : decode cX10_allMoons 0 = .ok (.iconst (-1), 1) := by decide +kernel
theorem dX10_allMoons_1 : decode cX10_allMoons 1 = .ok (.istore_n 2, 1) := by decide +kernel
theorem dX10_allMoons_2 : decode cX10_allMoons 2 = .ok (.iconst 0, 1) := by decide +kernel
theorem dX10_allMoons_3 : decode cX10_allMoons 3 = .ok (.istore_n 3, 1) := by decide +kernel
theorem dX10_allMoons_4 : decode cX10_allMoons 4 = .ok (.aload_n 0, 1) := by decide +kernel
theorem dX10_allMoons_5 : decode cX10_allMoons 5 = .ok (.iload_n 1, 1) := by decide +kernel
theorem dX10_allMoons_6 : decode cX10_allMoons 6 = .ok (.invokevirtual 258, 3) := by decide +kernel
theorem dX10_allMoons_9 : decode cX10_allMoons 9 = .ok (.ifCond .eq 40, 3) := by decide +kernel
theorem dX10_allMoons_12 : decode cX10_allMoons 12 = .ok (.iload_n 3, 1) := by decide +kernel
theorem dX10_allMoons_13 : decode cX10_allMoons 13 = .ok (.aload_n 0, 1) := by decide +kernel
theorem dX10_allMoons_14 : decode cX10_allMoons 14 = .ok (.getfield 80, 3) := by decide +kernel
theorem dX10_allMoons_17 : decode cX10_allMoons 17 = .ok (.iload_n 1, 1) := by decide +kernel
theorem dX10_allMoons_18 : decode cX10_allMoons 18 = .ok (.iaload, 1) := by decide +kernel
theorem dX10_allMoons_19 : decode cX10_allMoons 19 = .ok (.if_icmp .ge 30, 3) := by decide +kernel
theorem dX10_allMoons_22 : decode cX10_allMoons 22 = .ok (.aload_n 0, 1) := by decide +kernel
theorem dX10_allMoons_23 : decode cX10_allMoons 23 = .ok (.getfield 77, 3) := by decide +kernel
theorem dX10_allMoons_26 : decode cX10_allMoons 26 = .ok (.bipush 8, 2) := by decide +kernel
theorem dX10_allMoons_28 : decode cX10_allMoons 28 = .ok (.iload_n 1, 1) := by decide +kernel
theorem dX10_allMoons_29 : decode cX10_allMoons 29 = .ok (.imul, 1) := by decide +kernel
theorem dX10_allMoons_30 : decode cX10_allMoons 30 = .ok (.iload_n 3, 1) := by decide +kernel
theorem dX10_allMoons_31 : decode cX10_allMoons 31 = .ok (.iadd, 1) := by decide +kernel
theorem dX10_allMoons_32 : decode cX10_allMoons 32 = .ok (.iaload, 1) := by decide +kernel
theorem dX10_allMoons_33 : decode cX10_allMoons 33 = .ok (.iconst 2, 1) := by decide +kernel
theorem dX10_allMoons_34 : decode cX10_allMoons 34 = .ok (.if_icmp .ne 7, 3) := by decide +kernel
theorem dX10_allMoons_37 : decode cX10_allMoons 37 = .ok (.iload_n 3, 1) := by decide +kernel
theorem dX10_allMoons_38 : decode cX10_allMoons 38 = .ok (.goto 4, 3) := by decide +kernel
theorem dX10_allMoons_41 : decode cX10_allMoons 41 = .ok (.iload_n 2, 1) := by decide +kernel
theorem dX10_allMoons_42 : decode cX10_allMoons 42 = .ok (.istore_n 2, 1) := by decide +kernel
theorem dX10_allMoons_43 : decode cX10_allMoons 43 = .ok (.iinc 3 1, 3) := by decide +kernel
theorem dX10_allMoons_46 : decode cX10_allMoons 46 = .ok (.goto (-42), 3) := by decide +kernel
theorem dX10_allMoons_49 : decode cX10_allMoons 49 = .ok (.iload_n 2, 1) := by decide +kernel
theorem dX10_allMoons_50 : decode cX10_allMoons 50 = .ok (.ifCond .ge 9, 3) := by decide +kernel
theorem dX10_allMoons_53 : decode cX10_allMoons 53 = .ok (.aload_n 0, 1) := by decide +kernel
theorem dX10_allMoons_54 : decode cX10_allMoons 54 = .ok (.iconst (-1), 1) := by decide +kernel
theorem dX10_allMoons_55 : decode cX10_allMoons 55 = .ok (.invokevirtual 120, 3) := by decide +kernel
theorem dX10_allMoons_58 : decode cX10_allMoons 58 = .ok (.ireturn, 1) := by decide +kernel
theorem dX10_allMoons_59 : decode cX10_allMoons 59 = .ok (.iconst 0, 1) := by decide +kernel
theorem dX10_allMoons_60 : decode cX10_allMoons 60 = .ok (.istore_n 3, 1) := by decide +kernel
theorem dX10_allMoons_61 : decode cX10_allMoons 61 = .ok (.iconst 0, 1) := by decide +kernel
theorem dX10_allMoons_62 : decode cX10_allMoons 62 = .ok (.istore 4, 2) := by decide +kernel
theorem dX10_allMoons_64 : decode cX10_allMoons 64 = .ok (.iload 4, 2) := by decide +kernel
theorem dX10_allMoons_66 : decode cX10_allMoons 66 = .ok (.bipush 7, 2) := by decide +kernel
theorem dX10_allMoons_68 : decode cX10_allMoons 68 = .ok (.if_icmp .ge 88, 3) := by decide +kernel
theorem dX10_allMoons_71 : decode cX10_allMoons 71 = .ok (.iconst 1, 1) := by decide +kernel
theorem dX10_allMoons_72 : decode cX10_allMoons 72 = .ok (.istore 5, 2) := by decide +kernel
theorem dX10_allMoons_74 : decode cX10_allMoons 74 = .ok (.iconst 0, 1) := by decide +kernel
theorem dX10_allMoons_75 : decode cX10_allMoons 75 = .ok (.istore 6, 2) := by decide +kernel
theorem dX10_allMoons_77 : decode cX10_allMoons 77 = .ok (.iload 6, 2) := by decide +kernel
theorem dX10_allMoons_79 : decode cX10_allMoons 79 = .ok (.iconst 4, 1) := by decide +kernel
theorem dX10_allMoons_80 : decode cX10_allMoons 80 = .ok (.if_icmp .ge 54, 3) := by decide +kernel
theorem dX10_allMoons_83 : decode cX10_allMoons 83 = .ok (.iload 5, 2) := by decide +kernel
theorem dX10_allMoons_85 : decode cX10_allMoons 85 = .ok (.ifCond .eq 49, 3) := by decide +kernel
theorem dX10_allMoons_88 : decode cX10_allMoons 88 = .ok (.aload_n 0, 1) := by decide +kernel
theorem dX10_allMoons_89 : decode cX10_allMoons 89 = .ok (.getfield 31, 3) := by decide +kernel
theorem dX10_allMoons_92 : decode cX10_allMoons 92 = .ok (.iload 6, 2) := by decide +kernel
theorem dX10_allMoons_94 : decode cX10_allMoons 94 = .ok (.baload, 1) := by decide +kernel
theorem dX10_allMoons_95 : decode cX10_allMoons 95 = .ok (.ifCond .ne 6, 3) := by decide +kernel
theorem dX10_allMoons_98 : decode cX10_allMoons 98 = .ok (.goto 30, 3) := by decide +kernel
theorem dX10_allMoons_101 : decode cX10_allMoons 101 = .ok (.aload_n 0, 1) := by decide +kernel
theorem dX10_allMoons_102 : decode cX10_allMoons 102 = .ok (.iload 6, 2) := by decide +kernel
theorem dX10_allMoons_104 : decode cX10_allMoons 104 = .ok (.aload_n 0, 1) := by decide +kernel
theorem dX10_allMoons_105 : decode cX10_allMoons 105 = .ok (.invokevirtual 317, 3) := by decide +kernel
theorem dX10_allMoons_108 : decode cX10_allMoons 108 = .ok (.invokevirtual 270, 3) := by decide +kernel
theorem dX10_allMoons_111 : decode cX10_allMoons 111 = .ok (.aload_n 0, 1) := by decide +kernel
theorem dX10_allMoons_112 : decode cX10_allMoons 112 = .ok (.iload_n 1, 1) := by decide +kernel
theorem dX10_allMoons_113 : decode cX10_allMoons 113 = .ok (.iload 6, 2) := by decide +kernel
theorem dX10_allMoons_115 : decode cX10_allMoons 115 = .ok (.invokevirtual 274, 3) := by decide +kernel
theorem dX10_allMoons_118 : decode cX10_allMoons 118 = .ok (.aload_n 0, 1) := by decide +kernel
theorem dX10_allMoons_119 : decode cX10_allMoons 119 = .ok (.iload_n 1, 1) := by decide +kernel
theorem dX10_allMoons_120 : decode cX10_allMoons 120 = .ok (.iload_n 2, 1) := by decide +kernel
theorem dX10_allMoons_121 : decode cX10_allMoons 121 = .ok (.iload 4, 2) := by decide +kernel
theorem dX10_allMoons_123 : decode cX10_allMoons 123 = .ok (.invokevirtual 321, 3) := by decide +kernel
theorem dX10_allMoons_126 : decode cX10_allMoons 126 = .ok (.istore 5, 2) := by decide +kernel
theorem dX10_allMoons_128 : decode cX10_allMoons 128 = .ok (.iinc 6 1, 3) := by decide +kernel
theorem dX10_allMoons_131 : decode cX10_allMoons 131 = .ok (.goto (-54), 3) := by decide +kernel
theorem dX10_allMoons_134 : decode cX10_allMoons 134 = .ok (.iload_n 3, 1) := by decide +kernel
theorem dX10_allMoons_135 : decode cX10_allMoons 135 = .ok (.iload 5, 2) := by decide +kernel
theorem dX10_allMoons_137 : decode cX10_allMoons 137 = .ok (.ifCond .eq 10, 3) := by decide +kernel
theorem dX10_allMoons_140 : decode cX10_allMoons 140 = .ok (.iconst 1, 1) := by decide +kernel
theorem dX10_allMoons_141 : decode cX10_allMoons 141 = .ok (.iload 4, 2) := by decide +kernel
theorem dX10_allMoons_143 : decode cX10_allMoons 143 = .ok (.ishl, 1) := by decide +kernel
theorem dX10_allMoons_144 : decode cX10_allMoons 144 = .ok (.goto 4, 3) := by decide +kernel
theorem dX10_allMoons_147 : decode cX10_allMoons 147 = .ok (.iconst 0, 1) := by decide +kernel
theorem dX10_allMoons_148 : decode cX10_allMoons 148 = .ok (.ior, 1) := by decide +kernel
theorem dX10_allMoons_149 : decode cX10_allMoons 149 = .ok (.istore_n 3, 1) := by decide +kernel
theorem dX10_allMoons_150 : decode cX10_allMoons 150 = .ok (.iinc 4 1, 3) := by decide +kernel
theorem dX10_allMoons_153 : decode cX10_allMoons 153 = .ok (.goto (-89), 3) := by decide +kernel
theorem dX10_allMoons_156 : decode cX10_allMoons 156 = .ok (.iload_n 3, 1) := by decide +kernel
theorem dX10_allMoons_157 : decode cX10_allMoons 157 = .ok (.ireturn, 1) := by decide +kernel
theorem dX10_foretold_0 : decode cX10_foretold 0 = .ok (.aload_n 0, 1) := by decide +kernel
theorem dX10_foretold_1 : decode cX10_foretold 1 = .ok (.iload_n 1, 1) := by decide +kernel
theorem dX10_foretold_2 : decode cX10_foretold 2 = .ok (.invokevirtual 258, 3) := by decide +kernel
theorem dX10_foretold_5 : decode cX10_foretold 5 = .ok (.ifCond .eq 11, 3) := by decide +kernel
theorem dX10_foretold_8 : decode cX10_foretold 8 = .ok (.aload_n 0, 1) := by decide +kernel
theorem dX10_foretold_9 : decode cX10_foretold 9 = .ok (.iload_n 2, 1) := by decide +kernel
theorem dX10_foretold_10 : decode cX10_foretold 10 = .ok (.invokevirtual 136, 3) := by decide +kernel
theorem dX10_foretold_13 : decode cX10_foretold 13 = .ok (.ifCond .ne 9, 3) := by decide +kernel
theorem dX10_foretold_16 : decode cX10_foretold 16 = .ok (.aload_n 0, 1) := by decide +kernel
theorem dX10_foretold_17 : decode cX10_foretold 17 = .ok (.iconst (-1), 1) := by decide +kernel
theorem dX10_foretold_18 : decode cX10_foretold 18 = .ok (.invokevirtual 161, 3) := by decide +kernel
theorem dX10_foretold_21 : decode cX10_foretold 21 = .ok (.lreturn, 1) := by decide +kernel
theorem dX10_foretold_22 : decode cX10_foretold 22 = .ok (.iload_n 3, 1) := by decide +kernel
theorem dX10_foretold_23 : decode cX10_foretold 23 = .ok (.i2l, 1) := by decide +kernel
theorem dX10_foretold_24 : decode cX10_foretold 24 = .ok (.lconst 0, 1) := by decide +kernel
theorem dX10_foretold_25 : decode cX10_foretold 25 = .ok (.ldc2_w 152, 3) := by decide +kernel
theorem dX10_foretold_28 : decode cX10_foretold 28 = .ok (.invokestatic 126, 3) := by decide +kernel
theorem dX10_foretold_31 : decode cX10_foretold 31 = .ok (.istore 7, 2) := by decide +kernel
theorem dX10_foretold_33 : decode cX10_foretold 33 = .ok (.iload 7, 2) := by decide +kernel
theorem dX10_foretold_35 : decode cX10_foretold 35 = .ok (.ifCond .ne 11, 3) := by decide +kernel
theorem dX10_foretold_38 : decode cX10_foretold 38 = .ok (.aload_n 0, 1) := by decide +kernel
theorem dX10_foretold_39 : decode cX10_foretold 39 = .ok (.lload 4, 2) := by decide +kernel
theorem dX10_foretold_41 : decode cX10_foretold 41 = .ok (.invokevirtual 300, 3) := by decide +kernel
theorem dX10_foretold_44 : decode cX10_foretold 44 = .ok (.istore 7, 2) := by decide +kernel
theorem dX10_foretold_46 : decode cX10_foretold 46 = .ok (.iload 7, 2) := by decide +kernel
theorem dX10_foretold_48 : decode cX10_foretold 48 = .ok (.ifCond .eq 10, 3) := by decide +kernel
theorem dX10_foretold_51 : decode cX10_foretold 51 = .ok (.aload_n 0, 1) := by decide +kernel
theorem dX10_foretold_52 : decode cX10_foretold 52 = .ok (.iload 7, 2) := by decide +kernel
theorem dX10_foretold_54 : decode cX10_foretold 54 = .ok (.invokevirtual 161, 3) := by decide +kernel
theorem dX10_foretold_57 : decode cX10_foretold 57 = .ok (.lreturn, 1) := by decide +kernel
theorem dX10_foretold_58 : decode cX10_foretold 58 = .ok (.aload_n 0, 1) := by decide +kernel
theorem dX10_foretold_59 : decode cX10_foretold 59 = .ok (.iload_n 1, 1) := by decide +kernel
theorem dX10_foretold_60 : decode cX10_foretold 60 = .ok (.iload_n 2, 1) := by decide +kernel
theorem dX10_foretold_61 : decode cX10_foretold 61 = .ok (.lload 4, 2) := by decide +kernel
theorem dX10_foretold_63 : decode cX10_foretold 63 = .ok (.invokevirtual 294, 3) := by decide +kernel
theorem dX10_foretold_66 : decode cX10_foretold 66 = .ok (.aload_n 0, 1) := by decide +kernel
theorem dX10_foretold_67 : decode cX10_foretold 67 = .ok (.iload_n 1, 1) := by decide +kernel
theorem dX10_foretold_68 : decode cX10_foretold 68 = .ok (.iload_n 2, 1) := by decide +kernel
theorem dX10_foretold_69 : decode cX10_foretold 69 = .ok (.iload_n 3, 1) := by decide +kernel
theorem dX10_foretold_70 : decode cX10_foretold 70 = .ok (.aload_n 0, 1) := by decide +kernel
theorem dX10_foretold_71 : decode cX10_foretold 71 = .ok (.getfield 288, 3) := by decide +kernel
theorem dX10_foretold_74 : decode cX10_foretold 74 = .ok (.invokevirtual 264, 3) := by decide +kernel
theorem dX10_foretold_77 : decode cX10_foretold 77 = .ok (.lstore 8, 2) := by decide +kernel
theorem dX10_foretold_79 : decode cX10_foretold 79 = .ok (.iload 6, 2) := by decide +kernel
theorem dX10_foretold_81 : decode cX10_foretold 81 = .ok (.ifCond .eq 16, 3) := by decide +kernel
theorem dX10_foretold_84 : decode cX10_foretold 84 = .ok (.aload_n 0, 1) := by decide +kernel
theorem dX10_foretold_85 : decode cX10_foretold 85 = .ok (.iload_n 2, 1) := by decide +kernel
theorem dX10_foretold_86 : decode cX10_foretold 86 = .ok (.iload_n 3, 1) := by decide +kernel
theorem dX10_foretold_87 : decode cX10_foretold 87 = .ok (.iconst 1, 1) := by decide +kernel
theorem dX10_foretold_88 : decode cX10_foretold 88 = .ok (.invokevirtual 165, 3) := by decide +kernel
theorem dX10_foretold_91 : decode cX10_foretold 91 = .ok (.lload 8, 2) := by decide +kernel
theorem dX10_foretold_93 : decode cX10_foretold 93 = .ok (.lsub, 1) := by decide +kernel
theorem dX10_foretold_94 : decode cX10_foretold 94 = .ok (.goto 5, 3) := by decide +kernel
theorem dX10_foretold_97 : decode cX10_foretold 97 = .ok (.lload 8, 2) := by decide +kernel
theorem dX10_foretold_99 : decode cX10_foretold 99 = .ok (.lreturn, 1) := by decide +kernel
theorem dX10_findFits_0 : decode cX10_findFits 0 = .ok (.iconst 0, 1) := by decide +kernel
theorem dX10_findFits_1 : decode cX10_findFits 1 = .ok (.istore_n 2, 1) := by decide +kernel
theorem dX10_findFits_2 : decode cX10_findFits 2 = .ok (.iload_n 2, 1) := by decide +kernel
theorem dX10_findFits_3 : decode cX10_findFits 3 = .ok (.aload_n 0, 1) := by decide +kernel
theorem dX10_findFits_4 : decode cX10_findFits 4 = .ok (.getfield 237, 3) := by decide +kernel
theorem dX10_findFits_7 : decode cX10_findFits 7 = .ok (.if_icmp .ge 29, 3) := by decide +kernel
theorem dX10_findFits_10 : decode cX10_findFits 10 = .ok (.aload_n 0, 1) := by decide +kernel
theorem dX10_findFits_11 : decode cX10_findFits 11 = .ok (.iload_n 2, 1) := by decide +kernel
theorem dX10_findFits_12 : decode cX10_findFits 12 = .ok (.iload_n 1, 1) := by decide +kernel
theorem dX10_findFits_13 : decode cX10_findFits 13 = .ok (.aload_n 0, 1) := by decide +kernel
theorem dX10_findFits_14 : decode cX10_findFits 14 = .ok (.invokevirtual 317, 3) := by decide +kernel
theorem dX10_findFits_17 : decode cX10_findFits 17 = .ok (.invokevirtual 294, 3) := by decide +kernel
theorem dX10_findFits_20 : decode cX10_findFits 20 = .ok (.aload_n 0, 1) := by decide +kernel
theorem dX10_findFits_21 : decode cX10_findFits 21 = .ok (.getfield 102, 3) := by decide +kernel
theorem dX10_findFits_24 : decode cX10_findFits 24 = .ok (.iload_n 2, 1) := by decide +kernel
theorem dX10_findFits_25 : decode cX10_findFits 25 = .ok (.aload_n 0, 1) := by decide +kernel
theorem dX10_findFits_26 : decode cX10_findFits 26 = .ok (.getfield 288, 3) := by decide +kernel
theorem dX10_findFits_29 : decode cX10_findFits 29 = .ok (.iastore, 1) := by decide +kernel
theorem dX10_findFits_30 : decode cX10_findFits 30 = .ok (.iinc 2 1, 3) := by decide +kernel
theorem dX10_findFits_33 : decode cX10_findFits 33 = .ok (.goto (-31), 3) := by decide +kernel
theorem dX10_findFits_36 : decode cX10_findFits 36 = .ok (.return_, 1) := by decide +kernel
theorem dX10_apartAt_0 : decode cX10_apartAt 0 = .ok (.aload_n 0, 1) := by decide +kernel
theorem dX10_apartAt_1 : decode cX10_apartAt 1 = .ok (.iload_n 1, 1) := by decide +kernel
theorem dX10_apartAt_2 : decode cX10_apartAt 2 = .ok (.iload_n 3, 1) := by decide +kernel
theorem dX10_apartAt_3 : decode cX10_apartAt 3 = .ok (.iload 4, 2) := by decide +kernel
theorem dX10_apartAt_5 : decode cX10_apartAt 5 = .ok (.aload_n 0, 1) := by decide +kernel
theorem dX10_apartAt_6 : decode cX10_apartAt 6 = .ok (.getfield 102, 3) := by decide +kernel
theorem dX10_apartAt_9 : decode cX10_apartAt 9 = .ok (.iload_n 1, 1) := by decide +kernel
theorem dX10_apartAt_10 : decode cX10_apartAt 10 = .ok (.iaload, 1) := by decide +kernel
theorem dX10_apartAt_11 : decode cX10_apartAt 11 = .ok (.invokevirtual 264, 3) := by decide +kernel
theorem dX10_apartAt_14 : decode cX10_apartAt 14 = .ok (.aload_n 0, 1) := by decide +kernel
theorem dX10_apartAt_15 : decode cX10_apartAt 15 = .ok (.iload_n 2, 1) := by decide +kernel
theorem dX10_apartAt_16 : decode cX10_apartAt 16 = .ok (.iload_n 3, 1) := by decide +kernel
theorem dX10_apartAt_17 : decode cX10_apartAt 17 = .ok (.iload 4, 2) := by decide +kernel
theorem dX10_apartAt_19 : decode cX10_apartAt 19 = .ok (.aload_n 0, 1) := by decide +kernel
theorem dX10_apartAt_20 : decode cX10_apartAt 20 = .ok (.getfield 102, 3) := by decide +kernel
theorem dX10_apartAt_23 : decode cX10_apartAt 23 = .ok (.iload_n 2, 1) := by decide +kernel
theorem dX10_apartAt_24 : decode cX10_apartAt 24 = .ok (.iaload, 1) := by decide +kernel
theorem dX10_apartAt_25 : decode cX10_apartAt 25 = .ok (.invokevirtual 264, 3) := by decide +kernel
theorem dX10_apartAt_28 : decode cX10_apartAt 28 = .ok (.lsub, 1) := by decide +kernel
theorem dX10_apartAt_29 : decode cX10_apartAt 29 = .ok (.lstore 5, 2) := by decide +kernel
theorem dX10_apartAt_31 : decode cX10_apartAt 31 = .ok (.lload 5, 2) := by decide +kernel
theorem dX10_apartAt_33 : decode cX10_apartAt 33 = .ok (.lconst 0, 1) := by decide +kernel
theorem dX10_apartAt_34 : decode cX10_apartAt 34 = .ok (.lcmp, 1) := by decide +kernel
theorem dX10_apartAt_35 : decode cX10_apartAt 35 = .ok (.ifCond .ge 9, 3) := by decide +kernel
theorem dX10_apartAt_38 : decode cX10_apartAt 38 = .ok (.lload 5, 2) := by decide +kernel
theorem dX10_apartAt_40 : decode cX10_apartAt 40 = .ok (.lneg, 1) := by decide +kernel
theorem dX10_apartAt_41 : decode cX10_apartAt 41 = .ok (.goto 5, 3) := by decide +kernel
theorem dX10_apartAt_44 : decode cX10_apartAt 44 = .ok (.lload 5, 2) := by decide +kernel
theorem dX10_apartAt_46 : decode cX10_apartAt 46 = .ok (.lreturn, 1) := by decide +kernel
theorem dX10_parts_0 : decode cX10_parts 0 = .ok (.aload_n 0, 1) := by decide +kernel
theorem dX10_parts_1 : decode cX10_parts 1 = .ok (.iload_n 1, 1) := by decide +kernel
theorem dX10_parts_2 : decode cX10_parts 2 = .ok (.invokevirtual 258, 3) := by decide +kernel
theorem dX10_parts_5 : decode cX10_parts 5 = .ok (.ifCond .eq 19, 3) := by decide +kernel
theorem dX10_parts_8 : decode cX10_parts 8 = .ok (.aload_n 0, 1) := by decide +kernel
theorem dX10_parts_9 : decode cX10_parts 9 = .ok (.iload_n 2, 1) := by decide +kernel
theorem dX10_parts_10 : decode cX10_parts 10 = .ok (.invokevirtual 258, 3) := by decide +kernel
theorem dX10_parts_13 : decode cX10_parts 13 = .ok (.ifCond .eq 11, 3) := by decide +kernel
theorem dX10_parts_16 : decode cX10_parts 16 = .ok (.aload_n 0, 1) := by decide +kernel
theorem dX10_parts_17 : decode cX10_parts 17 = .ok (.iload_n 3, 1) := by decide +kernel
theorem dX10_parts_18 : decode cX10_parts 18 = .ok (.invokevirtual 136, 3) := by decide +kernel
theorem dX10_parts_21 : decode cX10_parts 21 = .ok (.ifCond .ne 9, 3) := by decide +kernel
theorem dX10_parts_24 : decode cX10_parts 24 = .ok (.aload_n 0, 1) := by decide +kernel
theorem dX10_parts_25 : decode cX10_parts 25 = .ok (.iconst (-1), 1) := by decide +kernel
theorem dX10_parts_26 : decode cX10_parts 26 = .ok (.invokevirtual 120, 3) := by decide +kernel
theorem dX10_parts_29 : decode cX10_parts 29 = .ok (.ireturn, 1) := by decide +kernel
theorem dX10_parts_30 : decode cX10_parts 30 = .ok (.iload 4, 2) := by decide +kernel
theorem dX10_parts_32 : decode cX10_parts 32 = .ok (.ifCond .lt 8, 3) := by decide +kernel
theorem dX10_parts_35 : decode cX10_parts 35 = .ok (.iload 5, 2) := by decide +kernel
theorem dX10_parts_37 : decode cX10_parts 37 = .ok (.ifCond .ge 8, 3) := by decide +kernel
theorem dX10_parts_40 : decode cX10_parts 40 = .ok (.bipush (-4), 2) := by decide +kernel
theorem dX10_parts_42 : decode cX10_parts 42 = .ok (.goto 37, 3) := by decide +kernel
theorem dX10_parts_45 : decode cX10_parts 45 = .ok (.iload 4, 2) := by decide +kernel
theorem dX10_parts_47 : decode cX10_parts 47 = .ok (.sipush 999, 3) := by decide +kernel
theorem dX10_parts_50 : decode cX10_parts 50 = .ok (.if_icmp .gt 11, 3) := by decide +kernel
theorem dX10_parts_53 : decode cX10_parts 53 = .ok (.iload 5, 2) := by decide +kernel
theorem dX10_parts_55 : decode cX10_parts 55 = .ok (.sipush 999, 3) := by decide +kernel
theorem dX10_parts_58 : decode cX10_parts 58 = .ok (.if_icmp .le 8, 3) := by decide +kernel
theorem dX10_parts_61 : decode cX10_parts 61 = .ok (.bipush (-6), 2) := by decide +kernel
theorem dX10_parts_63 : decode cX10_parts 63 = .ok (.goto 16, 3) := by decide +kernel
theorem dX10_parts_66 : decode cX10_parts 66 = .ok (.iload 5, 2) := by decide +kernel
theorem dX10_parts_68 : decode cX10_parts 68 = .ok (.iload 4, 2) := by decide +kernel
theorem dX10_parts_70 : decode cX10_parts 70 = .ok (.if_icmp .ge 8, 3) := by decide +kernel
theorem dX10_parts_73 : decode cX10_parts 73 = .ok (.bipush (-3), 2) := by decide +kernel
theorem dX10_parts_75 : decode cX10_parts 75 = .ok (.goto 4, 3) := by decide +kernel
theorem dX10_parts_78 : decode cX10_parts 78 = .ok (.iconst 0, 1) := by decide +kernel
theorem dX10_parts_79 : decode cX10_parts 79 = .ok (.istore 6, 2) := by decide +kernel
theorem dX10_parts_81 : decode cX10_parts 81 = .ok (.iload 6, 2) := by decide +kernel
theorem dX10_parts_83 : decode cX10_parts 83 = .ok (.ifCond .eq 10, 3) := by decide +kernel
theorem dX10_parts_86 : decode cX10_parts 86 = .ok (.aload_n 0, 1) := by decide +kernel
theorem dX10_parts_87 : decode cX10_parts 87 = .ok (.iload 6, 2) := by decide +kernel
theorem dX10_parts_89 : decode cX10_parts 89 = .ok (.invokevirtual 120, 3) := by decide +kernel
theorem dX10_parts_92 : decode cX10_parts 92 = .ok (.ireturn, 1) := by decide +kernel
theorem dX10_parts_93 : decode cX10_parts 93 = .ok (.aload_n 0, 1) := by decide +kernel
theorem dX10_parts_94 : decode cX10_parts 94 = .ok (.iload_n 3, 1) := by decide +kernel
theorem dX10_parts_95 : decode cX10_parts 95 = .ok (.invokevirtual 325, 3) := by decide +kernel
theorem dX10_parts_98 : decode cX10_parts 98 = .ok (.iload 4, 2) := by decide +kernel
theorem dX10_parts_100 : decode cX10_parts 100 = .ok (.istore 7, 2) := by decide +kernel
theorem dX10_parts_102 : decode cX10_parts 102 = .ok (.iload 4, 2) := by decide +kernel
theorem dX10_parts_104 : decode cX10_parts 104 = .ok (.iconst 1, 1) := by decide +kernel
theorem dX10_parts_105 : decode cX10_parts 105 = .ok (.iadd, 1) := by decide +kernel
theorem dX10_parts_106 : decode cX10_parts 106 = .ok (.istore 8, 2) := by decide +kernel
theorem dX10_parts_108 : decode cX10_parts 108 = .ok (.iload 8, 2) := by decide +kernel
theorem dX10_parts_110 : decode cX10_parts 110 = .ok (.iload 5, 2) := by decide +kernel
theorem dX10_parts_112 : decode cX10_parts 112 = .ok (.if_icmp .gt 40, 3) := by decide +kernel
theorem dX10_parts_115 : decode cX10_parts 115 = .ok (.aload_n 0, 1) := by decide +kernel
theorem dX10_parts_116 : decode cX10_parts 116 = .ok (.iload_n 1, 1) := by decide +kernel
theorem dX10_parts_117 : decode cX10_parts 117 = .ok (.iload_n 2, 1) := by decide +kernel
theorem dX10_parts_118 : decode cX10_parts 118 = .ok (.iload_n 3, 1) := by decide +kernel
theorem dX10_parts_119 : decode cX10_parts 119 = .ok (.iload 8, 2) := by decide +kernel
theorem dX10_parts_121 : decode cX10_parts 121 = .ok (.invokevirtual 328, 3) := by decide +kernel
theorem dX10_parts_124 : decode cX10_parts 124 = .ok (.aload_n 0, 1) := by decide +kernel
theorem dX10_parts_125 : decode cX10_parts 125 = .ok (.iload_n 1, 1) := by decide +kernel
theorem dX10_parts_126 : decode cX10_parts 126 = .ok (.iload_n 2, 1) := by decide +kernel
theorem dX10_parts_127 : decode cX10_parts 127 = .ok (.iload_n 3, 1) := by decide +kernel
theorem dX10_parts_128 : decode cX10_parts 128 = .ok (.iload 7, 2) := by decide +kernel
theorem dX10_parts_130 : decode cX10_parts 130 = .ok (.invokevirtual 328, 3) := by decide +kernel
theorem dX10_parts_133 : decode cX10_parts 133 = .ok (.lcmp, 1) := by decide +kernel
theorem dX10_parts_134 : decode cX10_parts 134 = .ok (.ifCond .le 8, 3) := by decide +kernel
theorem dX10_parts_137 : decode cX10_parts 137 = .ok (.iload 8, 2) := by decide +kernel
theorem dX10_parts_139 : decode cX10_parts 139 = .ok (.goto 5, 3) := by decide +kernel
theorem dX10_parts_142 : decode cX10_parts 142 = .ok (.iload 7, 2) := by decide +kernel
theorem dX10_parts_144 : decode cX10_parts 144 = .ok (.istore 7, 2) := by decide +kernel
theorem dX10_parts_146 : decode cX10_parts 146 = .ok (.iinc 8 1, 3) := by decide +kernel
theorem dX10_parts_149 : decode cX10_parts 149 = .ok (.goto (-41), 3) := by decide +kernel
theorem dX10_parts_152 : decode cX10_parts 152 = .ok (.iload 7, 2) := by decide +kernel
theorem dX10_parts_154 : decode cX10_parts 154 = .ok (.ireturn, 1) := by decide +kernel
theorem dX10_rhythm_0 : decode cX10_rhythm 0 = .ok (.aload_n 0, 1) := by decide +kernel
theorem dX10_rhythm_1 : decode cX10_rhythm 1 = .ok (.iload_n 1, 1) := by decide +kernel
theorem dX10_rhythm_2 : decode cX10_rhythm 2 = .ok (.invokevirtual 136, 3) := by decide +kernel
theorem dX10_rhythm_5 : decode cX10_rhythm 5 = .ok (.ifCond .eq 34, 3) := by decide +kernel
theorem dX10_rhythm_8 : decode cX10_rhythm 8 = .ok (.aload_n 0, 1) := by decide +kernel
theorem dX10_rhythm_9 : decode cX10_rhythm 9 = .ok (.iload_n 2, 1) := by decide +kernel
theorem dX10_rhythm_10 : decode cX10_rhythm 10 = .ok (.invokevirtual 136, 3) := by decide +kernel
theorem dX10_rhythm_13 : decode cX10_rhythm 13 = .ok (.ifCond .eq 26, 3) := by decide +kernel
theorem dX10_rhythm_16 : decode cX10_rhythm 16 = .ok (.aload_n 0, 1) := by decide +kernel
theorem dX10_rhythm_17 : decode cX10_rhythm 17 = .ok (.iload_n 3, 1) := by decide +kernel
theorem dX10_rhythm_18 : decode cX10_rhythm 18 = .ok (.invokevirtual 136, 3) := by decide +kernel
theorem dX10_rhythm_21 : decode cX10_rhythm 21 = .ok (.ifCond .eq 18, 3) := by decide +kernel
theorem dX10_rhythm_24 : decode cX10_rhythm 24 = .ok (.iload_n 1, 1) := by decide +kernel
theorem dX10_rhythm_25 : decode cX10_rhythm 25 = .ok (.iload_n 2, 1) := by decide +kernel
theorem dX10_rhythm_26 : decode cX10_rhythm 26 = .ok (.if_icmp .eq 13, 3) := by decide +kernel
theorem dX10_rhythm_29 : decode cX10_rhythm 29 = .ok (.iload_n 2, 1) := by decide +kernel
theorem dX10_rhythm_30 : decode cX10_rhythm 30 = .ok (.iload_n 3, 1) := by decide +kernel
theorem dX10_rhythm_31 : decode cX10_rhythm 31 = .ok (.if_icmp .eq 8, 3) := by decide +kernel
theorem dX10_rhythm_34 : decode cX10_rhythm 34 = .ok (.iload_n 1, 1) := by decide +kernel
theorem dX10_rhythm_35 : decode cX10_rhythm 35 = .ok (.iload_n 3, 1) := by decide +kernel
theorem dX10_rhythm_36 : decode cX10_rhythm 36 = .ok (.if_icmp .ne 9, 3) := by decide +kernel
theorem dX10_rhythm_39 : decode cX10_rhythm 39 = .ok (.aload_n 0, 1) := by decide +kernel
theorem dX10_rhythm_40 : decode cX10_rhythm 40 = .ok (.iconst (-1), 1) := by decide +kernel
theorem dX10_rhythm_41 : decode cX10_rhythm 41 = .ok (.invokevirtual 120, 3) := by decide +kernel
theorem dX10_rhythm_44 : decode cX10_rhythm 44 = .ok (.ireturn, 1) := by decide +kernel
theorem dX10_rhythm_45 : decode cX10_rhythm 45 = .ok (.aload_n 0, 1) := by decide +kernel
theorem dX10_rhythm_46 : decode cX10_rhythm 46 = .ok (.getfield 16, 3) := by decide +kernel
theorem dX10_rhythm_49 : decode cX10_rhythm 49 = .ok (.iload_n 2, 1) := by decide +kernel
theorem dX10_rhythm_50 : decode cX10_rhythm 50 = .ok (.iaload, 1) := by decide +kernel
theorem dX10_rhythm_51 : decode cX10_rhythm 51 = .ok (.i2l, 1) := by decide +kernel
theorem dX10_rhythm_52 : decode cX10_rhythm 52 = .ok (.aload_n 0, 1) := by decide +kernel
theorem dX10_rhythm_53 : decode cX10_rhythm 53 = .ok (.getfield 16, 3) := by decide +kernel
theorem dX10_rhythm_56 : decode cX10_rhythm 56 = .ok (.iload_n 3, 1) := by decide +kernel
theorem dX10_rhythm_57 : decode cX10_rhythm 57 = .ok (.iaload, 1) := by decide +kernel
theorem dX10_rhythm_58 : decode cX10_rhythm 58 = .ok (.i2l, 1) := by decide +kernel
theorem dX10_rhythm_59 : decode cX10_rhythm 59 = .ok (.lmul, 1) := by decide +kernel
theorem dX10_rhythm_60 : decode cX10_rhythm 60 = .ok (.lstore 4, 2) := by decide +kernel
theorem dX10_rhythm_62 : decode cX10_rhythm 62 = .ok (.aload_n 0, 1) := by decide +kernel
theorem dX10_rhythm_63 : decode cX10_rhythm 63 = .ok (.getfield 16, 3) := by decide +kernel
theorem dX10_rhythm_66 : decode cX10_rhythm 66 = .ok (.iload_n 1, 1) := by decide +kernel
theorem dX10_rhythm_67 : decode cX10_rhythm 67 = .ok (.iaload, 1) := by decide +kernel
theorem dX10_rhythm_68 : decode cX10_rhythm 68 = .ok (.i2l, 1) := by decide +kernel
theorem dX10_rhythm_69 : decode cX10_rhythm 69 = .ok (.aload_n 0, 1) := by decide +kernel
theorem dX10_rhythm_70 : decode cX10_rhythm 70 = .ok (.getfield 16, 3) := by decide +kernel
theorem dX10_rhythm_73 : decode cX10_rhythm 73 = .ok (.iload_n 3, 1) := by decide +kernel
theorem dX10_rhythm_74 : decode cX10_rhythm 74 = .ok (.iaload, 1) := by decide +kernel
theorem dX10_rhythm_75 : decode cX10_rhythm 75 = .ok (.i2l, 1) := by decide +kernel
theorem dX10_rhythm_76 : decode cX10_rhythm 76 = .ok (.lmul, 1) := by decide +kernel
theorem dX10_rhythm_77 : decode cX10_rhythm 77 = .ok (.lstore 6, 2) := by decide +kernel
theorem dX10_rhythm_79 : decode cX10_rhythm 79 = .ok (.aload_n 0, 1) := by decide +kernel
theorem dX10_rhythm_80 : decode cX10_rhythm 80 = .ok (.getfield 16, 3) := by decide +kernel
theorem dX10_rhythm_83 : decode cX10_rhythm 83 = .ok (.iload_n 1, 1) := by decide +kernel
theorem dX10_rhythm_84 : decode cX10_rhythm 84 = .ok (.iaload, 1) := by decide +kernel
theorem dX10_rhythm_85 : decode cX10_rhythm 85 = .ok (.i2l, 1) := by decide +kernel
theorem dX10_rhythm_86 : decode cX10_rhythm 86 = .ok (.aload_n 0, 1) := by decide +kernel
theorem dX10_rhythm_87 : decode cX10_rhythm 87 = .ok (.getfield 16, 3) := by decide +kernel
theorem dX10_rhythm_90 : decode cX10_rhythm 90 = .ok (.iload_n 2, 1) := by decide +kernel
theorem dX10_rhythm_91 : decode cX10_rhythm 91 = .ok (.iaload, 1) := by decide +kernel
theorem dX10_rhythm_92 : decode cX10_rhythm 92 = .ok (.i2l, 1) := by decide +kernel
theorem dX10_rhythm_93 : decode cX10_rhythm 93 = .ok (.lmul, 1) := by decide +kernel
theorem dX10_rhythm_94 : decode cX10_rhythm 94 = .ok (.lstore 8, 2) := by decide +kernel
theorem dX10_rhythm_96 : decode cX10_rhythm 96 = .ok (.bipush (-9), 2) := by decide +kernel
theorem dX10_rhythm_98 : decode cX10_rhythm 98 = .ok (.istore 10, 2) := by decide +kernel
theorem dX10_rhythm_100 : decode cX10_rhythm 100 = .ok (.lconst 0, 1) := by decide +kernel
theorem dX10_rhythm_101 : decode cX10_rhythm 101 = .ok (.lstore 11, 2) := by decide +kernel
theorem dX10_rhythm_103 : decode cX10_rhythm 103 = .ok (.bipush (-3), 2) := by decide +kernel
theorem dX10_rhythm_105 : decode cX10_rhythm 105 = .ok (.istore 13, 2) := by decide +kernel
theorem dX10_rhythm_107 : decode cX10_rhythm 107 = .ok (.iload 13, 2) := by decide +kernel
theorem dX10_rhythm_109 : decode cX10_rhythm 109 = .ok (.iconst 4, 1) := by decide +kernel
theorem dX10_rhythm_110 : decode cX10_rhythm 110 = .ok (.if_icmp .ge 151, 3) := by decide +kernel
theorem dX10_rhythm_113 : decode cX10_rhythm 113 = .ok (.bipush (-3), 2) := by decide +kernel
theorem dX10_rhythm_115 : decode cX10_rhythm 115 = .ok (.istore 14, 2) := by decide +kernel
theorem dX10_rhythm_117 : decode cX10_rhythm 117 = .ok (.iload 14, 2) := by decide +kernel
theorem dX10_rhythm_119 : decode cX10_rhythm 119 = .ok (.iconst 4, 1) := by decide +kernel
theorem dX10_rhythm_120 : decode cX10_rhythm 120 = .ok (.if_icmp .ge 135, 3) := by decide +kernel
theorem dX10_rhythm_123 : decode cX10_rhythm 123 = .ok (.bipush (-3), 2) := by decide +kernel
theorem dX10_rhythm_125 : decode cX10_rhythm 125 = .ok (.istore 15, 2) := by decide +kernel
theorem dX10_rhythm_127 : decode cX10_rhythm 127 = .ok (.iload 15, 2) := by decide +kernel
theorem dX10_rhythm_129 : decode cX10_rhythm 129 = .ok (.iconst 4, 1) := by decide +kernel
theorem dX10_rhythm_130 : decode cX10_rhythm 130 = .ok (.if_icmp .ge 119, 3) := by decide +kernel
theorem dX10_rhythm_133 : decode cX10_rhythm 133 = .ok (.iload 13, 2) := by decide +kernel
theorem dX10_rhythm_135 : decode cX10_rhythm 135 = .ok (.ifCond .eq 8, 3) := by decide +kernel
theorem dX10_rhythm_138 : decode cX10_rhythm 138 = .ok (.iload 13, 2) := by decide +kernel
theorem dX10_rhythm_140 : decode cX10_rhythm 140 = .ok (.goto 15, 3) := by decide +kernel
theorem dX10_rhythm_143 : decode cX10_rhythm 143 = .ok (.iload 14, 2) := by decide +kernel
theorem dX10_rhythm_145 : decode cX10_rhythm 145 = .ok (.ifCond .eq 8, 3) := by decide +kernel
theorem dX10_rhythm_148 : decode cX10_rhythm 148 = .ok (.iload 14, 2) := by decide +kernel
theorem dX10_rhythm_150 : decode cX10_rhythm 150 = .ok (.goto 5, 3) := by decide +kernel
theorem dX10_rhythm_153 : decode cX10_rhythm 153 = .ok (.iload 15, 2) := by decide +kernel
theorem dX10_rhythm_155 : decode cX10_rhythm 155 = .ok (.istore 16, 2) := by decide +kernel
theorem dX10_rhythm_157 : decode cX10_rhythm 157 = .ok (.iload 16, 2) := by decide +kernel
theorem dX10_rhythm_159 : decode cX10_rhythm 159 = .ok (.ifCond .gt 6, 3) := by decide +kernel
theorem dX10_rhythm_162 : decode cX10_rhythm 162 = .ok (.goto 81, 3) := by decide +kernel
theorem dX10_rhythm_165 : decode cX10_rhythm 165 = .ok (.iload 13, 2) := by decide +kernel
theorem dX10_rhythm_167 : decode cX10_rhythm 167 = .ok (.i2l, 1) := by decide +kernel
theorem dX10_rhythm_168 : decode cX10_rhythm 168 = .ok (.lload 4, 2) := by decide +kernel
theorem dX10_rhythm_170 : decode cX10_rhythm 170 = .ok (.lmul, 1) := by decide +kernel
theorem dX10_rhythm_171 : decode cX10_rhythm 171 = .ok (.iload 14, 2) := by decide +kernel
theorem dX10_rhythm_173 : decode cX10_rhythm 173 = .ok (.i2l, 1) := by decide +kernel
theorem dX10_rhythm_174 : decode cX10_rhythm 174 = .ok (.lload 6, 2) := by decide +kernel
theorem dX10_rhythm_176 : decode cX10_rhythm 176 = .ok (.lmul, 1) := by decide +kernel
theorem dX10_rhythm_177 : decode cX10_rhythm 177 = .ok (.ladd, 1) := by decide +kernel
theorem dX10_rhythm_178 : decode cX10_rhythm 178 = .ok (.iload 15, 2) := by decide +kernel
theorem dX10_rhythm_180 : decode cX10_rhythm 180 = .ok (.i2l, 1) := by decide +kernel
theorem dX10_rhythm_181 : decode cX10_rhythm 181 = .ok (.lload 8, 2) := by decide +kernel
theorem dX10_rhythm_183 : decode cX10_rhythm 183 = .ok (.lmul, 1) := by decide +kernel
theorem dX10_rhythm_184 : decode cX10_rhythm 184 = .ok (.ladd, 1) := by decide +kernel
theorem dX10_rhythm_185 : decode cX10_rhythm 185 = .ok (.lstore 17, 2) := by decide +kernel
theorem dX10_rhythm_187 : decode cX10_rhythm 187 = .ok (.lload 17, 2) := by decide +kernel
theorem dX10_rhythm_189 : decode cX10_rhythm 189 = .ok (.lconst 0, 1) := by decide +kernel
theorem dX10_rhythm_190 : decode cX10_rhythm 190 = .ok (.lcmp, 1) := by decide +kernel
theorem dX10_rhythm_191 : decode cX10_rhythm 191 = .ok (.ifCond .ge 8, 3) := by decide +kernel
theorem dX10_rhythm_194 : decode cX10_rhythm 194 = .ok (.lload 17, 2) := by decide +kernel
theorem dX10_rhythm_196 : decode cX10_rhythm 196 = .ok (.lneg, 1) := by decide +kernel
theorem dX10_rhythm_197 : decode cX10_rhythm 197 = .ok (.lstore 17, 2) := by decide +kernel
theorem dX10_rhythm_199 : decode cX10_rhythm 199 = .ok (.iload 10, 2) := by decide +kernel
theorem dX10_rhythm_201 : decode cX10_rhythm 201 = .ok (.bipush (-9), 2) := by decide +kernel
theorem dX10_rhythm_203 : decode cX10_rhythm 203 = .ok (.if_icmp .eq 14, 3) := by decide +kernel
theorem dX10_rhythm_206 : decode cX10_rhythm 206 = .ok (.lload 17, 2) := by decide +kernel
theorem dX10_rhythm_208 : decode cX10_rhythm 208 = .ok (.lload 11, 2) := by decide +kernel
theorem dX10_rhythm_210 : decode cX10_rhythm 210 = .ok (.lcmp, 1) := by decide +kernel
theorem dX10_rhythm_211 : decode cX10_rhythm 211 = .ok (.ifCond .lt 6, 3) := by decide +kernel
theorem dX10_rhythm_214 : decode cX10_rhythm 214 = .ok (.goto 29, 3) := by decide +kernel
theorem dX10_rhythm_217 : decode cX10_rhythm 217 = .ok (.bipush 100, 2) := by decide +kernel
theorem dX10_rhythm_219 : decode cX10_rhythm 219 = .ok (.iload 13, 2) := by decide +kernel
theorem dX10_rhythm_221 : decode cX10_rhythm 221 = .ok (.iconst 3, 1) := by decide +kernel
theorem dX10_rhythm_222 : decode cX10_rhythm 222 = .ok (.iadd, 1) := by decide +kernel
theorem dX10_rhythm_223 : decode cX10_rhythm 223 = .ok (.imul, 1) := by decide +kernel
theorem dX10_rhythm_224 : decode cX10_rhythm 224 = .ok (.bipush 10, 2) := by decide +kernel
theorem dX10_rhythm_226 : decode cX10_rhythm 226 = .ok (.iload 14, 2) := by decide +kernel
theorem dX10_rhythm_228 : decode cX10_rhythm 228 = .ok (.iconst 3, 1) := by decide +kernel
theorem dX10_rhythm_229 : decode cX10_rhythm 229 = .ok (.iadd, 1) := by decide +kernel
theorem dX10_rhythm_230 : decode cX10_rhythm 230 = .ok (.imul, 1) := by decide +kernel
theorem dX10_rhythm_231 : decode cX10_rhythm 231 = .ok (.iadd, 1) := by decide +kernel
theorem dX10_rhythm_232 : decode cX10_rhythm 232 = .ok (.iload 15, 2) := by decide +kernel
theorem dX10_rhythm_234 : decode cX10_rhythm 234 = .ok (.iadd, 1) := by decide +kernel
