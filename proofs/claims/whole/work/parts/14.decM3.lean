theorem dX10_heldPitch_0 : decode cX10_heldPitch 0 = .ok (.bipush 100, 2) := by decide +kernel
theorem dX10_heldPitch_2 : decode cX10_heldPitch 2 = .ok (.sipush 999, 3) := by decide +kernel
theorem dX10_heldPitch_5 : decode cX10_heldPitch 5 = .ok (.iload_n 0, 1) := by decide +kernel
theorem dX10_heldPitch_6 : decode cX10_heldPitch 6 = .ok (.invokestatic 336, 3) := by decide +kernel
theorem dX10_heldPitch_9 : decode cX10_heldPitch 9 = .ok (.invokestatic 328, 3) := by decide +kernel
theorem dX10_heldPitch_12 : decode cX10_heldPitch 12 = .ok (.ireturn, 1) := by decide +kernel
theorem dX10_layAgainst_0 : decode cX10_layAgainst 0 = .ok (.iconst 0, 1) := by decide +kernel
theorem dX10_layAgainst_1 : decode cX10_layAgainst 1 = .ok (.istore 4, 2) := by decide +kernel
theorem dX10_layAgainst_3 : decode cX10_layAgainst 3 = .ok (.iload 4, 2) := by decide +kernel
theorem dX10_layAgainst_5 : decode cX10_layAgainst 5 = .ok (.bipush 25, 2) := by decide +kernel
theorem dX10_layAgainst_7 : decode cX10_layAgainst 7 = .ok (.if_icmp .ge 149, 3) := by decide +kernel
theorem dX10_layAgainst_10 : decode cX10_layAgainst 10 = .ok (.aload_n 0, 1) := by decide +kernel
theorem dX10_layAgainst_11 : decode cX10_layAgainst 11 = .ok (.iconst 1, 1) := by decide +kernel
theorem dX10_layAgainst_12 : decode cX10_layAgainst 12 = .ok (.iconst 0, 1) := by decide +kernel
theorem dX10_layAgainst_13 : decode cX10_layAgainst 13 = .ok (.invokevirtual 414, 3) := by decide +kernel
theorem dX10_layAgainst_16 : decode cX10_layAgainst 16 = .ok (.aload_n 0, 1) := by decide +kernel
theorem dX10_layAgainst_17 : decode cX10_layAgainst 17 = .ok (.getfield 78, 3) := by decide +kernel
theorem dX10_layAgainst_20 : decode cX10_layAgainst 20 = .ok (.bipush 8, 2) := by decide +kernel
theorem dX10_layAgainst_22 : decode cX10_layAgainst 22 = .ok (.iload_n 1, 1) := by decide +kernel
theorem dX10_layAgainst_23 : decode cX10_layAgainst 23 = .ok (.iadd, 1) := by decide +kernel
theorem dX10_layAgainst_24 : decode cX10_layAgainst 24 = .ok (.aload_n 0, 1) := by decide +kernel
theorem dX10_layAgainst_25 : decode cX10_layAgainst 25 = .ok (.getfield 78, 3) := by decide +kernel
theorem dX10_layAgainst_28 : decode cX10_layAgainst 28 = .ok (.iload_n 1, 1) := by decide +kernel
theorem dX10_layAgainst_29 : decode cX10_layAgainst 29 = .ok (.iaload, 1) := by decide +kernel
theorem dX10_layAgainst_30 : decode cX10_layAgainst 30 = .ok (.iload 4, 2) := by decide +kernel
theorem dX10_layAgainst_32 : decode cX10_layAgainst 32 = .ok (.iconst 5, 1) := by decide +kernel
theorem dX10_layAgainst_33 : decode cX10_layAgainst 33 = .ok (.idiv, 1) := by decide +kernel
theorem dX10_layAgainst_34 : decode cX10_layAgainst 34 = .ok (.iadd, 1) := by decide +kernel
theorem dX10_layAgainst_35 : decode cX10_layAgainst 35 = .ok (.iconst 2, 1) := by decide +kernel
theorem dX10_layAgainst_36 : decode cX10_layAgainst 36 = .ok (.isub, 1) := by decide +kernel
theorem dX10_layAgainst_37 : decode cX10_layAgainst 37 = .ok (.invokestatic 441, 3) := by decide +kernel
theorem dX10_layAgainst_40 : decode cX10_layAgainst 40 = .ok (.iastore, 1) := by decide +kernel
theorem dX10_layAgainst_41 : decode cX10_layAgainst 41 = .ok (.aload_n 0, 1) := by decide +kernel
theorem dX10_layAgainst_42 : decode cX10_layAgainst 42 = .ok (.getfield 78, 3) := by decide +kernel
theorem dX10_layAgainst_45 : decode cX10_layAgainst 45 = .ok (.bipush 8, 2) := by decide +kernel
theorem dX10_layAgainst_47 : decode cX10_layAgainst 47 = .ok (.iload_n 2, 1) := by decide +kernel
theorem dX10_layAgainst_48 : decode cX10_layAgainst 48 = .ok (.iadd, 1) := by decide +kernel
theorem dX10_layAgainst_49 : decode cX10_layAgainst 49 = .ok (.aload_n 0, 1) := by decide +kernel
theorem dX10_layAgainst_50 : decode cX10_layAgainst 50 = .ok (.getfield 78, 3) := by decide +kernel
theorem dX10_layAgainst_53 : decode cX10_layAgainst 53 = .ok (.iload_n 2, 1) := by decide +kernel
theorem dX10_layAgainst_54 : decode cX10_layAgainst 54 = .ok (.iaload, 1) := by decide +kernel
theorem dX10_layAgainst_55 : decode cX10_layAgainst 55 = .ok (.iload 4, 2) := by decide +kernel
theorem dX10_layAgainst_57 : decode cX10_layAgainst 57 = .ok (.iconst 5, 1) := by decide +kernel
theorem dX10_layAgainst_58 : decode cX10_layAgainst 58 = .ok (.irem, 1) := by decide +kernel
theorem dX10_layAgainst_59 : decode cX10_layAgainst 59 = .ok (.iadd, 1) := by decide +kernel
theorem dX10_layAgainst_60 : decode cX10_layAgainst 60 = .ok (.iconst 2, 1) := by decide +kernel
theorem dX10_layAgainst_61 : decode cX10_layAgainst 61 = .ok (.isub, 1) := by decide +kernel
theorem dX10_layAgainst_62 : decode cX10_layAgainst 62 = .ok (.invokestatic 441, 3) := by decide +kernel
theorem dX10_layAgainst_65 : decode cX10_layAgainst 65 = .ok (.iastore, 1) := by decide +kernel
theorem dX10_layAgainst_66 : decode cX10_layAgainst 66 = .ok (.aload_n 0, 1) := by decide +kernel
theorem dX10_layAgainst_67 : decode cX10_layAgainst 67 = .ok (.iconst 1, 1) := by decide +kernel
theorem dX10_layAgainst_68 : decode cX10_layAgainst 68 = .ok (.iload_n 3, 1) := by decide +kernel
theorem dX10_layAgainst_69 : decode cX10_layAgainst 69 = .ok (.aload_n 0, 1) := by decide +kernel
theorem dX10_layAgainst_70 : decode cX10_layAgainst 70 = .ok (.iconst 1, 1) := by decide +kernel
theorem dX10_layAgainst_71 : decode cX10_layAgainst 71 = .ok (.iload_n 3, 1) := by decide +kernel
theorem dX10_layAgainst_72 : decode cX10_layAgainst 72 = .ok (.invokevirtual 385, 3) := by decide +kernel
theorem dX10_layAgainst_75 : decode cX10_layAgainst 75 = .ok (.invokevirtual 388, 3) := by decide +kernel
theorem dX10_layAgainst_78 : decode cX10_layAgainst 78 = .ok (.istore 5, 2) := by decide +kernel
theorem dX10_layAgainst_80 : decode cX10_layAgainst 80 = .ok (.aload_n 0, 1) := by decide +kernel
theorem dX10_layAgainst_81 : decode cX10_layAgainst 81 = .ok (.getfield 102, 3) := by decide +kernel
theorem dX10_layAgainst_84 : decode cX10_layAgainst 84 = .ok (.iload 4, 2) := by decide +kernel
theorem dX10_layAgainst_86 : decode cX10_layAgainst 86 = .ok (.iload 5, 2) := by decide +kernel
theorem dX10_layAgainst_88 : decode cX10_layAgainst 88 = .ok (.ifCond .eq 8, 3) := by decide +kernel
theorem dX10_layAgainst_91 : decode cX10_layAgainst 91 = .ok (.bipush 20, 2) := by decide +kernel
theorem dX10_layAgainst_93 : decode cX10_layAgainst 93 = .ok (.goto 4, 3) := by decide +kernel
theorem dX10_layAgainst_96 : decode cX10_layAgainst 96 = .ok (.iconst 0, 1) := by decide +kernel
theorem dX10_layAgainst_97 : decode cX10_layAgainst 97 = .ok (.aload_n 0, 1) := by decide +kernel
theorem dX10_layAgainst_98 : decode cX10_layAgainst 98 = .ok (.getfield 13, 3) := by decide +kernel
theorem dX10_layAgainst_101 : decode cX10_layAgainst 101 = .ok (.iconst 5, 1) := by decide +kernel
theorem dX10_layAgainst_102 : decode cX10_layAgainst 102 = .ok (.iaload, 1) := by decide +kernel
theorem dX10_layAgainst_103 : decode cX10_layAgainst 103 = .ok (.iload 4, 2) := by decide +kernel
theorem dX10_layAgainst_105 : decode cX10_layAgainst 105 = .ok (.iconst 5, 1) := by decide +kernel
theorem dX10_layAgainst_106 : decode cX10_layAgainst 106 = .ok (.idiv, 1) := by decide +kernel
theorem dX10_layAgainst_107 : decode cX10_layAgainst 107 = .ok (.iconst 2, 1) := by decide +kernel
theorem dX10_layAgainst_108 : decode cX10_layAgainst 108 = .ok (.isub, 1) := by decide +kernel
theorem dX10_layAgainst_109 : decode cX10_layAgainst 109 = .ok (.invokestatic 334, 3) := by decide +kernel
theorem dX10_layAgainst_112 : decode cX10_layAgainst 112 = .ok (.imul, 1) := by decide +kernel
theorem dX10_layAgainst_113 : decode cX10_layAgainst 113 = .ok (.isub, 1) := by decide +kernel
theorem dX10_layAgainst_114 : decode cX10_layAgainst 114 = .ok (.iastore, 1) := by decide +kernel
theorem dX10_layAgainst_115 : decode cX10_layAgainst 115 = .ok (.aload_n 0, 1) := by decide +kernel
theorem dX10_layAgainst_116 : decode cX10_layAgainst 116 = .ok (.getfield 105, 3) := by decide +kernel
theorem dX10_layAgainst_119 : decode cX10_layAgainst 119 = .ok (.iload 4, 2) := by decide +kernel
theorem dX10_layAgainst_121 : decode cX10_layAgainst 121 = .ok (.iload 5, 2) := by decide +kernel
theorem dX10_layAgainst_123 : decode cX10_layAgainst 123 = .ok (.ifCond .eq 7, 3) := by decide +kernel
theorem dX10_layAgainst_126 : decode cX10_layAgainst 126 = .ok (.iconst 0, 1) := by decide +kernel
theorem dX10_layAgainst_127 : decode cX10_layAgainst 127 = .ok (.goto 5, 3) := by decide +kernel
theorem dX10_layAgainst_130 : decode cX10_layAgainst 130 = .ok (.bipush 20, 2) := by decide +kernel
theorem dX10_layAgainst_132 : decode cX10_layAgainst 132 = .ok (.aload_n 0, 1) := by decide +kernel
theorem dX10_layAgainst_133 : decode cX10_layAgainst 133 = .ok (.getfield 13, 3) := by decide +kernel
theorem dX10_layAgainst_136 : decode cX10_layAgainst 136 = .ok (.iconst 5, 1) := by decide +kernel
theorem dX10_layAgainst_137 : decode cX10_layAgainst 137 = .ok (.iaload, 1) := by decide +kernel
theorem dX10_layAgainst_138 : decode cX10_layAgainst 138 = .ok (.iload 4, 2) := by decide +kernel
theorem dX10_layAgainst_140 : decode cX10_layAgainst 140 = .ok (.iconst 5, 1) := by decide +kernel
theorem dX10_layAgainst_141 : decode cX10_layAgainst 141 = .ok (.irem, 1) := by decide +kernel
theorem dX10_layAgainst_142 : decode cX10_layAgainst 142 = .ok (.iconst 2, 1) := by decide +kernel
theorem dX10_layAgainst_143 : decode cX10_layAgainst 143 = .ok (.isub, 1) := by decide +kernel
theorem dX10_layAgainst_144 : decode cX10_layAgainst 144 = .ok (.invokestatic 334, 3) := by decide +kernel
theorem dX10_layAgainst_147 : decode cX10_layAgainst 147 = .ok (.imul, 1) := by decide +kernel
theorem dX10_layAgainst_148 : decode cX10_layAgainst 148 = .ok (.isub, 1) := by decide +kernel
theorem dX10_layAgainst_149 : decode cX10_layAgainst 149 = .ok (.iastore, 1) := by decide +kernel
theorem dX10_layAgainst_150 : decode cX10_layAgainst 150 = .ok (.iinc 4 1, 3) := by decide +kernel
theorem dX10_layAgainst_153 : decode cX10_layAgainst 153 = .ok (.goto (-150), 3) := by decide +kernel
theorem dX10_layAgainst_156 : decode cX10_layAgainst 156 = .ok (.return_, 1) := by decide +kernel
theorem dX10_isRest_0 : decode cX10_isRest 0 = .ok (.iconst 0, 1) := by decide +kernel
theorem dX10_isRest_1 : decode cX10_isRest 1 = .ok (.istore_n 2, 1) := by decide +kernel
theorem dX10_isRest_2 : decode cX10_isRest 2 = .ok (.iload_n 2, 1) := by decide +kernel
theorem dX10_isRest_3 : decode cX10_isRest 3 = .ok (.iconst 5, 1) := by decide +kernel
theorem dX10_isRest_4 : decode cX10_isRest 4 = .ok (.if_icmp .ge 53, 3) := by decide +kernel
theorem dX10_isRest_7 : decode cX10_isRest 7 = .ok (.aload_n 0, 1) := by decide +kernel
theorem dX10_isRest_8 : decode cX10_isRest 8 = .ok (.getfield 102, 3) := by decide +kernel
theorem dX10_isRest_11 : decode cX10_isRest 11 = .ok (.iconst 5, 1) := by decide +kernel
theorem dX10_isRest_12 : decode cX10_isRest 12 = .ok (.iload_n 2, 1) := by decide +kernel
theorem dX10_isRest_13 : decode cX10_isRest 13 = .ok (.imul, 1) := by decide +kernel
theorem dX10_isRest_14 : decode cX10_isRest 14 = .ok (.iload_n 1, 1) := by decide +kernel
theorem dX10_isRest_15 : decode cX10_isRest 15 = .ok (.iconst 5, 1) := by decide +kernel
theorem dX10_isRest_16 : decode cX10_isRest 16 = .ok (.irem, 1) := by decide +kernel
theorem dX10_isRest_17 : decode cX10_isRest 17 = .ok (.iadd, 1) := by decide +kernel
theorem dX10_isRest_18 : decode cX10_isRest 18 = .ok (.iaload, 1) := by decide +kernel
theorem dX10_isRest_19 : decode cX10_isRest 19 = .ok (.aload_n 0, 1) := by decide +kernel
theorem dX10_isRest_20 : decode cX10_isRest 20 = .ok (.getfield 102, 3) := by decide +kernel
theorem dX10_isRest_23 : decode cX10_isRest 23 = .ok (.iload_n 1, 1) := by decide +kernel
theorem dX10_isRest_24 : decode cX10_isRest 24 = .ok (.iaload, 1) := by decide +kernel
theorem dX10_isRest_25 : decode cX10_isRest 25 = .ok (.if_icmp .gt 24, 3) := by decide +kernel
theorem dX10_isRest_28 : decode cX10_isRest 28 = .ok (.aload_n 0, 1) := by decide +kernel
theorem dX10_isRest_29 : decode cX10_isRest 29 = .ok (.getfield 105, 3) := by decide +kernel
theorem dX10_isRest_32 : decode cX10_isRest 32 = .ok (.iload_n 1, 1) := by decide +kernel
theorem dX10_isRest_33 : decode cX10_isRest 33 = .ok (.iconst 5, 1) := by decide +kernel
theorem dX10_isRest_34 : decode cX10_isRest 34 = .ok (.idiv, 1) := by decide +kernel
theorem dX10_isRest_35 : decode cX10_isRest 35 = .ok (.iconst 5, 1) := by decide +kernel
theorem dX10_isRest_36 : decode cX10_isRest 36 = .ok (.imul, 1) := by decide +kernel
theorem dX10_isRest_37 : decode cX10_isRest 37 = .ok (.iload_n 2, 1) := by decide +kernel
theorem dX10_isRest_38 : decode cX10_isRest 38 = .ok (.iadd, 1) := by decide +kernel
theorem dX10_isRest_39 : decode cX10_isRest 39 = .ok (.iaload, 1) := by decide +kernel
theorem dX10_isRest_40 : decode cX10_isRest 40 = .ok (.aload_n 0, 1) := by decide +kernel
theorem dX10_isRest_41 : decode cX10_isRest 41 = .ok (.getfield 105, 3) := by decide +kernel
theorem dX10_isRest_44 : decode cX10_isRest 44 = .ok (.iload_n 1, 1) := by decide +kernel
theorem dX10_isRest_45 : decode cX10_isRest 45 = .ok (.iaload, 1) := by decide +kernel
theorem dX10_isRest_46 : decode cX10_isRest 46 = .ok (.if_icmp .le 5, 3) := by decide +kernel
theorem dX10_isRest_49 : decode cX10_isRest 49 = .ok (.iconst 0, 1) := by decide +kernel
theorem dX10_isRest_50 : decode cX10_isRest 50 = .ok (.ireturn, 1) := by decide +kernel
theorem dX10_isRest_51 : decode cX10_isRest 51 = .ok (.iinc 2 1, 3) := by decide +kernel
theorem dX10_isRest_54 : decode cX10_isRest 54 = .ok (.goto (-52), 3) := by decide +kernel
theorem dX10_isRest_57 : decode cX10_isRest 57 = .ok (.iconst 1, 1) := by decide +kernel
theorem dX10_isRest_58 : decode cX10_isRest 58 = .ok (.ireturn, 1) := by decide +kernel
theorem dX10_restOf_0 : decode cX10_restOf 0 = .ok (.iconst 0, 1) := by decide +kernel
theorem dX10_restOf_1 : decode cX10_restOf 1 = .ok (.istore_n 2, 1) := by decide +kernel
theorem dX10_restOf_2 : decode cX10_restOf 2 = .ok (.iconst 0, 1) := by decide +kernel
theorem dX10_restOf_3 : decode cX10_restOf 3 = .ok (.istore_n 3, 1) := by decide +kernel
theorem dX10_restOf_4 : decode cX10_restOf 4 = .ok (.iload_n 3, 1) := by decide +kernel
theorem dX10_restOf_5 : decode cX10_restOf 5 = .ok (.bipush 25, 2) := by decide +kernel
theorem dX10_restOf_7 : decode cX10_restOf 7 = .ok (.if_icmp .ge 39, 3) := by decide +kernel
theorem dX10_restOf_10 : decode cX10_restOf 10 = .ok (.aload_n 0, 1) := by decide +kernel
theorem dX10_restOf_11 : decode cX10_restOf 11 = .ok (.iload_n 3, 1) := by decide +kernel
theorem dX10_restOf_12 : decode cX10_restOf 12 = .ok (.invokevirtual 444, 3) := by decide +kernel
theorem dX10_restOf_15 : decode cX10_restOf 15 = .ok (.ifCond .ne 6, 3) := by decide +kernel
theorem dX10_restOf_18 : decode cX10_restOf 18 = .ok (.goto 22, 3) := by decide +kernel
theorem dX10_restOf_21 : decode cX10_restOf 21 = .ok (.iload_n 2, 1) := by decide +kernel
theorem dX10_restOf_22 : decode cX10_restOf 22 = .ok (.iload_n 1, 1) := by decide +kernel
theorem dX10_restOf_23 : decode cX10_restOf 23 = .ok (.if_icmp .ne 14, 3) := by decide +kernel
theorem dX10_restOf_26 : decode cX10_restOf 26 = .ok (.bipush 10, 2) := by decide +kernel
theorem dX10_restOf_28 : decode cX10_restOf 28 = .ok (.iload_n 3, 1) := by decide +kernel
theorem dX10_restOf_29 : decode cX10_restOf 29 = .ok (.iconst 5, 1) := by decide +kernel
theorem dX10_restOf_30 : decode cX10_restOf 30 = .ok (.idiv, 1) := by decide +kernel
theorem dX10_restOf_31 : decode cX10_restOf 31 = .ok (.imul, 1) := by decide +kernel
theorem dX10_restOf_32 : decode cX10_restOf 32 = .ok (.iload_n 3, 1) := by decide +kernel
theorem dX10_restOf_33 : decode cX10_restOf 33 = .ok (.iconst 5, 1) := by decide +kernel
theorem dX10_restOf_34 : decode cX10_restOf 34 = .ok (.irem, 1) := by decide +kernel
theorem dX10_restOf_35 : decode cX10_restOf 35 = .ok (.iadd, 1) := by decide +kernel
theorem dX10_restOf_36 : decode cX10_restOf 36 = .ok (.ireturn, 1) := by decide +kernel
theorem dX10_restOf_37 : decode cX10_restOf 37 = .ok (.iinc 2 1, 3) := by decide +kernel
theorem dX10_restOf_40 : decode cX10_restOf 40 = .ok (.iinc 3 1, 3) := by decide +kernel
theorem dX10_restOf_43 : decode cX10_restOf 43 = .ok (.goto (-39), 3) := by decide +kernel
theorem dX10_restOf_46 : decode cX10_restOf 46 = .ok (.iload_n 1, 1) := by decide +kernel
theorem dX10_restOf_47 : decode cX10_restOf 47 = .ok (.iconst (-1), 1) := by decide +kernel
theorem dX10_restOf_48 : decode cX10_restOf 48 = .ok (.if_icmp .ne 7, 3) := by decide +kernel
theorem dX10_restOf_51 : decode cX10_restOf 51 = .ok (.iload_n 2, 1) := by decide +kernel
theorem dX10_restOf_52 : decode cX10_restOf 52 = .ok (.goto 5, 3) := by decide +kernel
theorem dX10_restOf_55 : decode cX10_restOf 55 = .ok (.bipush (-2), 2) := by decide +kernel
theorem dX10_restOf_57 : decode cX10_restOf 57 = .ok (.ireturn, 1) := by decide +kernel
theorem dX10_areAgainst_0 : decode cX10_areAgainst 0 = .ok (.aload_n 0, 1) := by decide +kernel
theorem dX10_areAgainst_1 : decode cX10_areAgainst 1 = .ok (.iload_n 1, 1) := by decide +kernel
theorem dX10_areAgainst_2 : decode cX10_areAgainst 2 = .ok (.invokevirtual 404, 3) := by decide +kernel
theorem dX10_areAgainst_5 : decode cX10_areAgainst 5 = .ok (.ifCond .eq 27, 3) := by decide +kernel
theorem dX10_areAgainst_8 : decode cX10_areAgainst 8 = .ok (.aload_n 0, 1) := by decide +kernel
theorem dX10_areAgainst_9 : decode cX10_areAgainst 9 = .ok (.iload_n 2, 1) := by decide +kernel
theorem dX10_areAgainst_10 : decode cX10_areAgainst 10 = .ok (.invokevirtual 404, 3) := by decide +kernel
theorem dX10_areAgainst_13 : decode cX10_areAgainst 13 = .ok (.ifCond .eq 19, 3) := by decide +kernel
theorem dX10_areAgainst_16 : decode cX10_areAgainst 16 = .ok (.iload_n 1, 1) := by decide +kernel
theorem dX10_areAgainst_17 : decode cX10_areAgainst 17 = .ok (.iload_n 2, 1) := by decide +kernel
theorem dX10_areAgainst_18 : decode cX10_areAgainst 18 = .ok (.if_icmp .eq 14, 3) := by decide +kernel
theorem dX10_areAgainst_21 : decode cX10_areAgainst 21 = .ok (.iload_n 3, 1) := by decide +kernel
theorem dX10_areAgainst_22 : decode cX10_areAgainst 22 = .ok (.invokestatic 407, 3) := by decide +kernel
theorem dX10_areAgainst_25 : decode cX10_areAgainst 25 = .ok (.ifCond .eq 7, 3) := by decide +kernel
theorem dX10_areAgainst_28 : decode cX10_areAgainst 28 = .ok (.iconst 1, 1) := by decide +kernel
theorem dX10_areAgainst_29 : decode cX10_areAgainst 29 = .ok (.goto 4, 3) := by decide +kernel
theorem dX10_areAgainst_32 : decode cX10_areAgainst 32 = .ok (.iconst 0, 1) := by decide +kernel
theorem dX10_areAgainst_33 : decode cX10_areAgainst 33 = .ok (.ireturn, 1) := by decide +kernel
theorem dX10_rests_0 : decode cX10_rests 0 = .ok (.aload_n 0, 1) := by decide +kernel
theorem dX10_rests_1 : decode cX10_rests 1 = .ok (.iconst 0, 1) := by decide +kernel
theorem dX10_rests_2 : decode cX10_rests 2 = .ok (.putfield 130, 3) := by decide +kernel
theorem dX10_rests_5 : decode cX10_rests 5 = .ok (.aload_n 0, 1) := by decide +kernel
theorem dX10_rests_6 : decode cX10_rests 6 = .ok (.iload_n 1, 1) := by decide +kernel
theorem dX10_rests_7 : decode cX10_rests 7 = .ok (.iload_n 2, 1) := by decide +kernel
theorem dX10_rests_8 : decode cX10_rests 8 = .ok (.iload_n 3, 1) := by decide +kernel
theorem dX10_rests_9 : decode cX10_rests 9 = .ok (.invokevirtual 447, 3) := by decide +kernel
theorem dX10_rests_12 : decode cX10_rests 12 = .ok (.ifCond .ne 5, 3) := by decide +kernel
theorem dX10_rests_15 : decode cX10_rests 15 = .ok (.iconst (-1), 1) := by decide +kernel
theorem dX10_rests_16 : decode cX10_rests 16 = .ok (.ireturn, 1) := by decide +kernel
theorem dX10_rests_17 : decode cX10_rests 17 = .ok (.aload_n 0, 1) := by decide +kernel
theorem dX10_rests_18 : decode cX10_rests 18 = .ok (.iload_n 1, 1) := by decide +kernel
theorem dX10_rests_19 : decode cX10_rests 19 = .ok (.iload_n 2, 1) := by decide +kernel
theorem dX10_rests_20 : decode cX10_rests 20 = .ok (.iload_n 3, 1) := by decide +kernel
theorem dX10_rests_21 : decode cX10_rests 21 = .ok (.invokevirtual 450, 3) := by decide +kernel
theorem dX10_rests_24 : decode cX10_rests 24 = .ok (.aload_n 0, 1) := by decide +kernel
theorem dX10_rests_25 : decode cX10_rests 25 = .ok (.iconst (-1), 1) := by decide +kernel
theorem dX10_rests_26 : decode cX10_rests 26 = .ok (.invokevirtual 454, 3) := by decide +kernel
theorem dX10_rests_29 : decode cX10_rests 29 = .ok (.ireturn, 1) := by decide +kernel
theorem dX10_rest_0 : decode cX10_rest 0 = .ok (.aload_n 0, 1) := by decide +kernel
theorem dX10_rest_1 : decode cX10_rest 1 = .ok (.iconst 0, 1) := by decide +kernel
theorem dX10_rest_2 : decode cX10_rest 2 = .ok (.putfield 130, 3) := by decide +kernel
theorem dX10_rest_5 : decode cX10_rest 5 = .ok (.aload_n 0, 1) := by decide +kernel
theorem dX10_rest_6 : decode cX10_rest 6 = .ok (.iload_n 1, 1) := by decide +kernel
theorem dX10_rest_7 : decode cX10_rest 7 = .ok (.iload_n 2, 1) := by decide +kernel
theorem dX10_rest_8 : decode cX10_rest 8 = .ok (.iload_n 3, 1) := by decide +kernel
theorem dX10_rest_9 : decode cX10_rest 9 = .ok (.invokevirtual 447, 3) := by decide +kernel
theorem dX10_rest_12 : decode cX10_rest 12 = .ok (.ifCond .eq 8, 3) := by decide +kernel
theorem dX10_rest_15 : decode cX10_rest 15 = .ok (.iload 4, 2) := by decide +kernel
theorem dX10_rest_17 : decode cX10_rest 17 = .ok (.ifCond .ge 5, 3) := by decide +kernel
theorem dX10_rest_20 : decode cX10_rest 20 = .ok (.iconst (-1), 1) := by decide +kernel
theorem dX10_rest_21 : decode cX10_rest 21 = .ok (.ireturn, 1) := by decide +kernel
theorem dX10_rest_22 : decode cX10_rest 22 = .ok (.aload_n 0, 1) := by decide +kernel
theorem dX10_rest_23 : decode cX10_rest 23 = .ok (.iload_n 1, 1) := by decide +kernel
theorem dX10_rest_24 : decode cX10_rest 24 = .ok (.iload_n 2, 1) := by decide +kernel
theorem dX10_rest_25 : decode cX10_rest 25 = .ok (.iload_n 3, 1) := by decide +kernel
theorem dX10_rest_26 : decode cX10_rest 26 = .ok (.invokevirtual 450, 3) := by decide +kernel
theorem dX10_rest_29 : decode cX10_rest 29 = .ok (.aload_n 0, 1) := by decide +kernel
theorem dX10_rest_30 : decode cX10_rest 30 = .ok (.iload 4, 2) := by decide +kernel
theorem dX10_rest_32 : decode cX10_rest 32 = .ok (.invokevirtual 454, 3) := by decide +kernel
theorem dX10_rest_35 : decode cX10_rest 35 = .ok (.ireturn, 1) := by decide +kernel
theorem dX10_common_0 : decode cX10_common 0 = .ok (.iload_n 0, 1) := by decide +kernel
theorem dX10_common_1 : decode cX10_common 1 = .ok (.istore_n 2, 1) := by decide +kernel
theorem dX10_common_2 : decode cX10_common 2 = .ok (.iload_n 1, 1) := by decide +kernel
theorem dX10_common_3 : decode cX10_common 3 = .ok (.istore_n 3, 1) := by decide +kernel
theorem dX10_common_4 : decode cX10_common 4 = .ok (.iload_n 3, 1) := by decide +kernel
theorem dX10_common_5 : decode cX10_common 5 = .ok (.ifCond .eq 16, 3) := by decide +kernel
theorem dX10_common_8 : decode cX10_common 8 = .ok (.iload_n 2, 1) := by decide +kernel
theorem dX10_common_9 : decode cX10_common 9 = .ok (.iload_n 3, 1) := by decide +kernel
theorem dX10_common_10 : decode cX10_common 10 = .ok (.irem, 1) := by decide +kernel
theorem dX10_common_11 : decode cX10_common 11 = .ok (.istore 4, 2) := by decide +kernel
theorem dX10_common_13 : decode cX10_common 13 = .ok (.iload_n 3, 1) := by decide +kernel
theorem dX10_common_14 : decode cX10_common 14 = .ok (.istore_n 2, 1) := by decide +kernel
theorem dX10_common_15 : decode cX10_common 15 = .ok (.iload 4, 2) := by decide +kernel
theorem dX10_common_17 : decode cX10_common 17 = .ok (.istore_n 3, 1) := by decide +kernel
theorem dX10_common_18 : decode cX10_common 18 = .ok (.goto (-14), 3) := by decide +kernel
theorem dX10_common_21 : decode cX10_common 21 = .ok (.iload_n 2, 1) := by decide +kernel
theorem dX10_common_22 : decode cX10_common 22 = .ok (.ireturn, 1) := by decide +kernel
theorem dX10_likely_0 : decode cX10_likely 0 = .ok (.aload_n 0, 1) := by decide +kernel
theorem dX10_likely_1 : decode cX10_likely 1 = .ok (.iconst 0, 1) := by decide +kernel
theorem dX10_likely_2 : decode cX10_likely 2 = .ok (.putfield 130, 3) := by decide +kernel
theorem dX10_likely_5 : decode cX10_likely 5 = .ok (.aload_n 0, 1) := by decide +kernel
theorem dX10_likely_6 : decode cX10_likely 6 = .ok (.iload_n 1, 1) := by decide +kernel
theorem dX10_likely_7 : decode cX10_likely 7 = .ok (.invokevirtual 401, 3) := by decide +kernel
theorem dX10_likely_10 : decode cX10_likely 10 = .ok (.ifCond .eq 12, 3) := by decide +kernel
theorem dX10_likely_13 : decode cX10_likely 13 = .ok (.iload_n 2, 1) := by decide +kernel
theorem dX10_likely_14 : decode cX10_likely 14 = .ok (.ifCond .lt 8, 3) := by decide +kernel
theorem dX10_likely_17 : decode cX10_likely 17 = .ok (.iload_n 2, 1) := by decide +kernel
theorem dX10_likely_18 : decode cX10_likely 18 = .ok (.iconst 1, 1) := by decide +kernel
theorem dX10_likely_19 : decode cX10_likely 19 = .ok (.if_icmp .le 5, 3) := by decide +kernel
theorem dX10_likely_22 : decode cX10_likely 22 = .ok (.iconst (-1), 1) := by decide +kernel
theorem dX10_likely_23 : decode cX10_likely 23 = .ok (.ireturn, 1) := by decide +kernel
theorem dX10_likely_24 : decode cX10_likely 24 = .ok (.iconst 0, 1) := by decide +kernel
theorem dX10_likely_25 : decode cX10_likely 25 = .ok (.istore_n 3, 1) := by decide +kernel
theorem dX10_likely_26 : decode cX10_likely 26 = .ok (.iconst 0, 1) := by decide +kernel
theorem dX10_likely_27 : decode cX10_likely 27 = .ok (.istore 4, 2) := by decide +kernel
theorem dX10_likely_29 : decode cX10_likely 29 = .ok (.iload 4, 2) := by decide +kernel
theorem dX10_likely_31 : decode cX10_likely 31 = .ok (.bipush 10, 2) := by decide +kernel
theorem dX10_likely_33 : decode cX10_likely 33 = .ok (.if_icmp .ge 48, 3) := by decide +kernel
theorem dX10_likely_36 : decode cX10_likely 36 = .ok (.aload_n 0, 1) := by decide +kernel
theorem dX10_likely_37 : decode cX10_likely 37 = .ok (.iload 4, 2) := by decide +kernel
theorem dX10_likely_39 : decode cX10_likely 39 = .ok (.putfield 93, 3) := by decide +kernel
theorem dX10_likely_42 : decode cX10_likely 42 = .ok (.iload_n 3, 1) := by decide +kernel
theorem dX10_likely_43 : decode cX10_likely 43 = .ok (.aload_n 0, 1) := by decide +kernel
theorem dX10_likely_44 : decode cX10_likely 44 = .ok (.iconst 0, 1) := by decide +kernel
theorem dX10_likely_45 : decode cX10_likely 45 = .ok (.aload_n 0, 1) := by decide +kernel
theorem dX10_likely_46 : decode cX10_likely 46 = .ok (.getfield 34, 3) := by decide +kernel
theorem dX10_likely_49 : decode cX10_likely 49 = .ok (.iload_n 1, 1) := by decide +kernel
theorem dX10_likely_50 : decode cX10_likely 50 = .ok (.iaload, 1) := by decide +kernel
theorem dX10_likely_51 : decode cX10_likely 51 = .ok (.aload_n 0, 1) := by decide +kernel
theorem dX10_likely_52 : decode cX10_likely 52 = .ok (.iconst 0, 1) := by decide +kernel
theorem dX10_likely_53 : decode cX10_likely 53 = .ok (.aload_n 0, 1) := by decide +kernel
theorem dX10_likely_54 : decode cX10_likely 54 = .ok (.getfield 34, 3) := by decide +kernel
theorem dX10_likely_57 : decode cX10_likely 57 = .ok (.iload_n 1, 1) := by decide +kernel
theorem dX10_likely_58 : decode cX10_likely 58 = .ok (.iaload, 1) := by decide +kernel
theorem dX10_likely_59 : decode cX10_likely 59 = .ok (.invokevirtual 385, 3) := by decide +kernel
theorem dX10_likely_62 : decode cX10_likely 62 = .ok (.invokevirtual 388, 3) := by decide +kernel
theorem dX10_likely_65 : decode cX10_likely 65 = .ok (.ifCond .eq 7, 3) := by decide +kernel
theorem dX10_likely_68 : decode cX10_likely 68 = .ok (.iconst 1, 1) := by decide +kernel
theorem dX10_likely_69 : decode cX10_likely 69 = .ok (.goto 4, 3) := by decide +kernel
theorem dX10_likely_72 : decode cX10_likely 72 = .ok (.iconst 0, 1) := by decide +kernel
theorem dX10_likely_73 : decode cX10_likely 73 = .ok (.iadd, 1) := by decide +kernel
theorem dX10_likely_74 : decode cX10_likely 74 = .ok (.istore_n 3, 1) := by decide +kernel
theorem dX10_likely_75 : decode cX10_likely 75 = .ok (.iinc 4 1, 3) := by decide +kernel
theorem dX10_likely_78 : decode cX10_likely 78 = .ok (.goto (-49), 3) := by decide +kernel
theorem dX10_likely_81 : decode cX10_likely 81 = .ok (.aload_n 0, 1) := by decide +kernel
theorem dX10_likely_82 : decode cX10_likely 82 = .ok (.iconst (-1), 1) := by decide +kernel
theorem dX10_likely_83 : decode cX10_likely 83 = .ok (.putfield 93, 3) := by decide +kernel
theorem dX10_likely_86 : decode cX10_likely 86 = .ok (.iload_n 3, 1) := by decide +kernel
theorem dX10_likely_87 : decode cX10_likely 87 = .ok (.bipush 10, 2) := by decide +kernel
theorem dX10_likely_89 : decode cX10_likely 89 = .ok (.invokestatic 457, 3) := by decide +kernel
theorem dX10_likely_92 : decode cX10_likely 92 = .ok (.istore 4, 2) := by decide +kernel
theorem dX10_likely_94 : decode cX10_likely 94 = .ok (.iload_n 2, 1) := by decide +kernel
theorem dX10_likely_95 : decode cX10_likely 95 = .ok (.ifCond .ne 10, 3) := by decide +kernel
theorem dX10_likely_98 : decode cX10_likely 98 = .ok (.iload_n 3, 1) := by decide +kernel
theorem dX10_likely_99 : decode cX10_likely 99 = .ok (.iload 4, 2) := by decide +kernel
theorem dX10_likely_101 : decode cX10_likely 101 = .ok (.idiv, 1) := by decide +kernel
theorem dX10_likely_102 : decode cX10_likely 102 = .ok (.goto 8, 3) := by decide +kernel
theorem dX10_likely_105 : decode cX10_likely 105 = .ok (.bipush 10, 2) := by decide +kernel
theorem dX10_likely_107 : decode cX10_likely 107 = .ok (.iload 4, 2) := by decide +kernel
theorem dX10_likely_109 : decode cX10_likely 109 = .ok (.idiv, 1) := by decide +kernel
theorem dX10_likely_110 : decode cX10_likely 110 = .ok (.ireturn, 1) := by decide +kernel
theorem dX10_power_0 : decode cX10_power 0 = .ok (.iconst 1, 1) := by decide +kernel
theorem dX10_power_1 : decode cX10_power 1 = .ok (.istore_n 2, 1) := by decide +kernel
theorem dX10_power_2 : decode cX10_power 2 = .ok (.iconst 0, 1) := by decide +kernel
theorem dX10_power_3 : decode cX10_power 3 = .ok (.istore_n 3, 1) := by decide +kernel
theorem dX10_power_4 : decode cX10_power 4 = .ok (.iload_n 3, 1) := by decide +kernel
theorem dX10_power_5 : decode cX10_power 5 = .ok (.iload_n 1, 1) := by decide +kernel
theorem dX10_power_6 : decode cX10_power 6 = .ok (.if_icmp .ge 13, 3) := by decide +kernel
theorem dX10_power_9 : decode cX10_power 9 = .ok (.iload_n 2, 1) := by decide +kernel
theorem dX10_power_10 : decode cX10_power 10 = .ok (.iload_n 0, 1) := by decide +kernel
theorem dX10_power_11 : decode cX10_power 11 = .ok (.imul, 1) := by decide +kernel
theorem dX10_power_12 : decode cX10_power 12 = .ok (.istore_n 2, 1) := by decide +kernel
theorem dX10_power_13 : decode cX10_power 13 = .ok (.iinc 3 1, 3) := by decide +kernel
theorem dX10_power_16 : decode cX10_power 16 = .ok (.goto (-12), 3) := by decide +kernel
theorem dX10_power_19 : decode cX10_power 19 = .ok (.iload_n 2, 1) := by decide +kernel
theorem dX10_power_20 : decode cX10_power 20 = .ok (.ireturn, 1) := by decide +kernel
theorem dX10_layOrder_0 : decode cX10_layOrder 0 = .ok (.aload_n 0, 1) := by decide +kernel
theorem dX10_layOrder_1 : decode cX10_layOrder 1 = .ok (.iconst 0, 1) := by decide +kernel
theorem dX10_layOrder_2 : decode cX10_layOrder 2 = .ok (.putfield 460, 3) := by decide +kernel
theorem dX10_layOrder_5 : decode cX10_layOrder 5 = .ok (.iconst 0, 1) := by decide +kernel
theorem dX10_layOrder_6 : decode cX10_layOrder 6 = .ok (.istore_n 2, 1) := by decide +kernel
theorem dX10_layOrder_7 : decode cX10_layOrder 7 = .ok (.iload_n 2, 1) := by decide +kernel
theorem dX10_layOrder_8 : decode cX10_layOrder 8 = .ok (.aload_n 0, 1) := by decide +kernel
theorem dX10_layOrder_9 : decode cX10_layOrder 9 = .ok (.getfield 13, 3) := by decide +kernel
theorem dX10_layOrder_12 : decode cX10_layOrder 12 = .ok (.iconst 1, 1) := by decide +kernel
theorem dX10_layOrder_13 : decode cX10_layOrder 13 = .ok (.iaload, 1) := by decide +kernel
theorem dX10_layOrder_14 : decode cX10_layOrder 14 = .ok (.if_icmp .ge 50, 3) := by decide +kernel
theorem dX10_layOrder_17 : decode cX10_layOrder 17 = .ok (.aload_n 0, 1) := by decide +kernel
theorem dX10_layOrder_18 : decode cX10_layOrder 18 = .ok (.getfield 460, 3) := by decide +kernel
theorem dX10_layOrder_21 : decode cX10_layOrder 21 = .ok (.iconst 4, 1) := by decide +kernel
theorem dX10_layOrder_22 : decode cX10_layOrder 22 = .ok (.if_icmp .ge 42, 3) := by decide +kernel
theorem dX10_layOrder_25 : decode cX10_layOrder 25 = .ok (.aload_n 0, 1) := by decide +kernel
theorem dX10_layOrder_26 : decode cX10_layOrder 26 = .ok (.getfield 84, 3) := by decide +kernel
theorem dX10_layOrder_29 : decode cX10_layOrder 29 = .ok (.iload_n 2, 1) := by decide +kernel
theorem dX10_layOrder_30 : decode cX10_layOrder 30 = .ok (.iaload, 1) := by decide +kernel
theorem dX10_layOrder_31 : decode cX10_layOrder 31 = .ok (.iconst (-1), 1) := by decide +kernel
theorem dX10_layOrder_32 : decode cX10_layOrder 32 = .ok (.if_icmp .eq 6, 3) := by decide +kernel
theorem dX10_layOrder_35 : decode cX10_layOrder 35 = .ok (.goto 23, 3) := by decide +kernel
theorem dX10_layOrder_38 : decode cX10_layOrder 38 = .ok (.aload_n 0, 1) := by decide +kernel
theorem dX10_layOrder_39 : decode cX10_layOrder 39 = .ok (.getfield 108, 3) := by decide +kernel
theorem dX10_layOrder_42 : decode cX10_layOrder 42 = .ok (.aload_n 0, 1) := by decide +kernel
theorem dX10_layOrder_43 : decode cX10_layOrder 43 = .ok (.getfield 460, 3) := by decide +kernel
theorem dX10_layOrder_46 : decode cX10_layOrder 46 = .ok (.iload_n 2, 1) := by decide +kernel
theorem dX10_layOrder_47 : decode cX10_layOrder 47 = .ok (.iastore, 1) := by decide +kernel
theorem dX10_layOrder_48 : decode cX10_layOrder 48 = .ok (.aload_n 0, 1) := by decide +kernel
theorem dX10_layOrder_49 : decode cX10_layOrder 49 = .ok (.dup, 1) := by decide +kernel
theorem dX10_layOrder_50 : decode cX10_layOrder 50 = .ok (.getfield 460, 3) := by decide +kernel
theorem dX10_layOrder_53 : decode cX10_layOrder 53 = .ok (.iconst 1, 1) := by decide +kernel
theorem dX10_layOrder_54 : decode cX10_layOrder 54 = .ok (.iadd, 1) := by decide +kernel
theorem dX10_layOrder_55 : decode cX10_layOrder 55 = .ok (.putfield 460, 3) := by decide +kernel
theorem dX10_layOrder_58 : decode cX10_layOrder 58 = .ok (.iinc 2 1, 3) := by decide +kernel
theorem dX10_layOrder_61 : decode cX10_layOrder 61 = .ok (.goto (-54), 3) := by decide +kernel
theorem dX10_layOrder_64 : decode cX10_layOrder 64 = .ok (.aload_n 0, 1) := by decide +kernel
theorem dX10_layOrder_65 : decode cX10_layOrder 65 = .ok (.iconst (-1), 1) := by decide +kernel
theorem dX10_layOrder_66 : decode cX10_layOrder 66 = .ok (.putfield 463, 3) := by decide +kernel
theorem dX10_layOrder_69 : decode cX10_layOrder 69 = .ok (.iconst 0, 1) := by decide +kernel
theorem dX10_layOrder_70 : decode cX10_layOrder 70 = .ok (.istore_n 2, 1) := by decide +kernel
theorem dX10_layOrder_71 : decode cX10_layOrder 71 = .ok (.iload_n 2, 1) := by decide +kernel
theorem dX10_layOrder_72 : decode cX10_layOrder 72 = .ok (.iload_n 1, 1) := by decide +kernel
theorem dX10_layOrder_73 : decode cX10_layOrder 73 = .ok (.aload_n 0, 1) := by decide +kernel
theorem dX10_layOrder_74 : decode cX10_layOrder 74 = .ok (.getfield 460, 3) := by decide +kernel
theorem dX10_layOrder_77 : decode cX10_layOrder 77 = .ok (.invokestatic 466, 3) := by decide +kernel
theorem dX10_layOrder_80 : decode cX10_layOrder 80 = .ok (.if_icmp .ge 108, 3) := by decide +kernel
theorem dX10_layOrder_83 : decode cX10_layOrder 83 = .ok (.aload_n 0, 1) := by decide +kernel
theorem dX10_layOrder_84 : decode cX10_layOrder 84 = .ok (.iconst 1, 1) := by decide +kernel
theorem dX10_layOrder_85 : decode cX10_layOrder 85 = .ok (.iconst 0, 1) := by decide +kernel
theorem dX10_layOrder_86 : decode cX10_layOrder 86 = .ok (.invokevirtual 414, 3) := by decide +kernel
theorem dX10_layOrder_89 : decode cX10_layOrder 89 = .ok (.iconst 0, 1) := by decide +kernel
theorem dX10_layOrder_90 : decode cX10_layOrder 90 = .ok (.istore_n 3, 1) := by decide +kernel
theorem dX10_layOrder_91 : decode cX10_layOrder 91 = .ok (.iload_n 3, 1) := by decide +kernel
theorem dX10_layOrder_92 : decode cX10_layOrder 92 = .ok (.aload_n 0, 1) := by decide +kernel
theorem dX10_layOrder_93 : decode cX10_layOrder 93 = .ok (.getfield 460, 3) := by decide +kernel
theorem dX10_layOrder_96 : decode cX10_layOrder 96 = .ok (.if_icmp .ge 46, 3) := by decide +kernel
theorem dX10_layOrder_99 : decode cX10_layOrder 99 = .ok (.aload_n 0, 1) := by decide +kernel
theorem dX10_layOrder_100 : decode cX10_layOrder 100 = .ok (.getfield 81, 3) := by decide +kernel
theorem dX10_layOrder_103 : decode cX10_layOrder 103 = .ok (.bipush 10, 2) := by decide +kernel
theorem dX10_layOrder_105 : decode cX10_layOrder 105 = .ok (.aload_n 0, 1) := by decide +kernel
theorem dX10_layOrder_106 : decode cX10_layOrder 106 = .ok (.getfield 108, 3) := by decide +kernel
theorem dX10_layOrder_109 : decode cX10_layOrder 109 = .ok (.iload_n 3, 1) := by decide +kernel
theorem dX10_layOrder_110 : decode cX10_layOrder 110 = .ok (.iaload, 1) := by decide +kernel
theorem dX10_layOrder_111 : decode cX10_layOrder 111 = .ok (.iadd, 1) := by decide +kernel
theorem dX10_layOrder_112 : decode cX10_layOrder 112 = .ok (.aload_n 0, 1) := by decide +kernel
theorem dX10_layOrder_113 : decode cX10_layOrder 113 = .ok (.getfield 66, 3) := by decide +kernel
theorem dX10_layOrder_116 : decode cX10_layOrder 116 = .ok (.iconst 0, 1) := by decide +kernel
theorem dX10_layOrder_117 : decode cX10_layOrder 117 = .ok (.iaload, 1) := by decide +kernel
theorem dX10_layOrder_118 : decode cX10_layOrder 118 = .ok (.iload_n 2, 1) := by decide +kernel
theorem dX10_layOrder_119 : decode cX10_layOrder 119 = .ok (.iload_n 1, 1) := by decide +kernel
theorem dX10_layOrder_120 : decode cX10_layOrder 120 = .ok (.aload_n 0, 1) := by decide +kernel
theorem dX10_layOrder_121 : decode cX10_layOrder 121 = .ok (.getfield 460, 3) := by decide +kernel
theorem dX10_layOrder_124 : decode cX10_layOrder 124 = .ok (.iconst 1, 1) := by decide +kernel
theorem dX10_layOrder_125 : decode cX10_layOrder 125 = .ok (.isub, 1) := by decide +kernel
theorem dX10_layOrder_126 : decode cX10_layOrder 126 = .ok (.iload_n 3, 1) := by decide +kernel
theorem dX10_layOrder_127 : decode cX10_layOrder 127 = .ok (.isub, 1) := by decide +kernel
theorem dX10_layOrder_128 : decode cX10_layOrder 128 = .ok (.invokestatic 466, 3) := by decide +kernel
theorem dX10_layOrder_131 : decode cX10_layOrder 131 = .ok (.idiv, 1) := by decide +kernel
theorem dX10_layOrder_132 : decode cX10_layOrder 132 = .ok (.iload_n 1, 1) := by decide +kernel
theorem dX10_layOrder_133 : decode cX10_layOrder 133 = .ok (.irem, 1) := by decide +kernel
theorem dX10_layOrder_134 : decode cX10_layOrder 134 = .ok (.iadd, 1) := by decide +kernel
theorem dX10_layOrder_135 : decode cX10_layOrder 135 = .ok (.iastore, 1) := by decide +kernel
theorem dX10_layOrder_136 : decode cX10_layOrder 136 = .ok (.iinc 3 1, 3) := by decide +kernel
theorem dX10_layOrder_139 : decode cX10_layOrder 139 = .ok (.goto (-48), 3) := by decide +kernel
theorem dX10_layOrder_142 : decode cX10_layOrder 142 = .ok (.aload_n 0, 1) := by decide +kernel
theorem dX10_layOrder_143 : decode cX10_layOrder 143 = .ok (.iload_n 1, 1) := by decide +kernel
theorem dX10_layOrder_144 : decode cX10_layOrder 144 = .ok (.invokevirtual 420, 3) := by decide +kernel
theorem dX10_layOrder_147 : decode cX10_layOrder 147 = .ok (.aload_n 0, 1) := by decide +kernel
theorem dX10_layOrder_148 : decode cX10_layOrder 148 = .ok (.iconst 1, 1) := by decide +kernel
theorem dX10_layOrder_149 : decode cX10_layOrder 149 = .ok (.iconst 1, 1) := by decide +kernel
theorem dX10_layOrder_150 : decode cX10_layOrder 150 = .ok (.invokevirtual 423, 3) := by decide +kernel
theorem dX10_layOrder_153 : decode cX10_layOrder 153 = .ok (.aload_n 0, 1) := by decide +kernel
theorem dX10_layOrder_154 : decode cX10_layOrder 154 = .ok (.iconst 0, 1) := by decide +kernel
theorem dX10_layOrder_155 : decode cX10_layOrder 155 = .ok (.iconst 1, 1) := by decide +kernel
theorem dX10_layOrder_156 : decode cX10_layOrder 156 = .ok (.invokevirtual 423, 3) := by decide +kernel
theorem dX10_layOrder_159 : decode cX10_layOrder 159 = .ok (.isub, 1) := by decide +kernel
theorem dX10_layOrder_160 : decode cX10_layOrder 160 = .ok (.istore_n 3, 1) := by decide +kernel
theorem dX10_layOrder_161 : decode cX10_layOrder 161 = .ok (.iload_n 3, 1) := by decide +kernel
theorem dX10_layOrder_162 : decode cX10_layOrder 162 = .ok (.aload_n 0, 1) := by decide +kernel
theorem dX10_layOrder_163 : decode cX10_layOrder 163 = .ok (.getfield 463, 3) := by decide +kernel
theorem dX10_layOrder_166 : decode cX10_layOrder 166 = .ok (.if_icmp .gt 6, 3) := by decide +kernel
theorem dX10_layOrder_169 : decode cX10_layOrder 169 = .ok (.goto 13, 3) := by decide +kernel
theorem dX10_layOrder_172 : decode cX10_layOrder 172 = .ok (.aload_n 0, 1) := by decide +kernel
theorem dX10_layOrder_173 : decode cX10_layOrder 173 = .ok (.iload_n 3, 1) := by decide +kernel
theorem dX10_layOrder_174 : decode cX10_layOrder 174 = .ok (.putfield 463, 3) := by decide +kernel
theorem dX10_layOrder_177 : decode cX10_layOrder 177 = .ok (.aload_n 0, 1) := by decide +kernel
theorem dX10_layOrder_178 : decode cX10_layOrder 178 = .ok (.iload_n 2, 1) := by decide +kernel
theorem dX10_layOrder_179 : decode cX10_layOrder 179 = .ok (.putfield 469, 3) := by decide +kernel
theorem dX10_layOrder_182 : decode cX10_layOrder 182 = .ok (.iinc 2 1, 3) := by decide +kernel
theorem dX10_layOrder_185 : decode cX10_layOrder 185 = .ok (.goto (-114), 3) := by decide +kernel
theorem dX10_layOrder_188 : decode cX10_layOrder 188 = .ok (.return_, 1) := by decide +kernel
theorem dX10_order_0 : decode cX10_order 0 = .ok (.aload_n 0, 1) := by decide +kernel
theorem dX10_order_1 : decode cX10_order 1 = .ok (.iconst 0, 1) := by decide +kernel
theorem dX10_order_2 : decode cX10_order 2 = .ok (.putfield 130, 3) := by decide +kernel
theorem dX10_order_5 : decode cX10_order 5 = .ok (.iload_n 1, 1) := by decide +kernel
theorem dX10_order_6 : decode cX10_order 6 = .ok (.iconst 1, 1) := by decide +kernel
theorem dX10_order_7 : decode cX10_order 7 = .ok (.if_icmp .lt 17, 3) := by decide +kernel
theorem dX10_order_10 : decode cX10_order 10 = .ok (.iload_n 1, 1) := by decide +kernel
theorem dX10_order_11 : decode cX10_order 11 = .ok (.iconst 4, 1) := by decide +kernel
theorem dX10_order_12 : decode cX10_order 12 = .ok (.if_icmp .gt 12, 3) := by decide +kernel
theorem dX10_order_15 : decode cX10_order 15 = .ok (.iload_n 2, 1) := by decide +kernel
theorem dX10_order_16 : decode cX10_order 16 = .ok (.ifCond .lt 8, 3) := by decide +kernel
theorem dX10_order_19 : decode cX10_order 19 = .ok (.iload_n 2, 1) := by decide +kernel
theorem dX10_order_20 : decode cX10_order 20 = .ok (.iconst 4, 1) := by decide +kernel
theorem dX10_order_21 : decode cX10_order 21 = .ok (.if_icmp .le 5, 3) := by decide +kernel
theorem dX10_order_24 : decode cX10_order 24 = .ok (.iconst (-1), 1) := by decide +kernel
theorem dX10_order_25 : decode cX10_order 25 = .ok (.ireturn, 1) := by decide +kernel
theorem dX10_order_26 : decode cX10_order 26 = .ok (.aload_n 0, 1) := by decide +kernel
theorem dX10_order_27 : decode cX10_order 27 = .ok (.iload_n 1, 1) := by decide +kernel
theorem dX10_order_28 : decode cX10_order 28 = .ok (.invokevirtual 472, 3) := by decide +kernel
theorem dX10_order_31 : decode cX10_order 31 = .ok (.iload_n 2, 1) := by decide +kernel
theorem dX10_order_32 : decode cX10_order 32 = .ok (.iconst 4, 1) := by decide +kernel
theorem dX10_order_33 : decode cX10_order 33 = .ok (.if_icmp .ne 8, 3) := by decide +kernel
theorem dX10_order_36 : decode cX10_order 36 = .ok (.aload_n 0, 1) := by decide +kernel
theorem dX10_order_37 : decode cX10_order 37 = .ok (.getfield 463, 3) := by decide +kernel
theorem dX10_order_40 : decode cX10_order 40 = .ok (.ireturn, 1) := by decide +kernel
theorem dX10_order_41 : decode cX10_order 41 = .ok (.iload_n 2, 1) := by decide +kernel
theorem dX10_order_42 : decode cX10_order 42 = .ok (.aload_n 0, 1) := by decide +kernel
theorem dX10_order_43 : decode cX10_order 43 = .ok (.getfield 460, 3) := by decide +kernel
theorem dX10_order_46 : decode cX10_order 46 = .ok (.if_icmp .ge 25, 3) := by decide +kernel
theorem dX10_order_49 : decode cX10_order 49 = .ok (.aload_n 0, 1) := by decide +kernel
theorem dX10_order_50 : decode cX10_order 50 = .ok (.getfield 469, 3) := by decide +kernel
theorem dX10_order_53 : decode cX10_order 53 = .ok (.iload_n 1, 1) := by decide +kernel
theorem dX10_order_54 : decode cX10_order 54 = .ok (.aload_n 0, 1) := by decide +kernel
theorem dX10_order_55 : decode cX10_order 55 = .ok (.getfield 460, 3) := by decide +kernel
theorem dX10_order_58 : decode cX10_order 58 = .ok (.iconst 1, 1) := by decide +kernel
theorem dX10_order_59 : decode cX10_order 59 = .ok (.isub, 1) := by decide +kernel
theorem dX10_order_60 : decode cX10_order 60 = .ok (.iload_n 2, 1) := by decide +kernel
theorem dX10_order_61 : decode cX10_order 61 = .ok (.isub, 1) := by decide +kernel
theorem dX10_order_62 : decode cX10_order 62 = .ok (.invokestatic 466, 3) := by decide +kernel
theorem dX10_order_65 : decode cX10_order 65 = .ok (.idiv, 1) := by decide +kernel
theorem dX10_order_66 : decode cX10_order 66 = .ok (.iload_n 1, 1) := by decide +kernel
theorem dX10_order_67 : decode cX10_order 67 = .ok (.irem, 1) := by decide +kernel
theorem dX10_order_68 : decode cX10_order 68 = .ok (.goto 5, 3) := by decide +kernel
theorem dX10_order_71 : decode cX10_order 71 = .ok (.bipush (-2), 2) := by decide +kernel
theorem dX10_order_73 : decode cX10_order 73 = .ok (.ireturn, 1) := by decide +kernel
theorem dX10_room_0 : decode cX10_room 0 = .ok (.aload_n 0, 1) := by decide +kernel
theorem dX10_room_1 : decode cX10_room 1 = .ok (.iconst 0, 1) := by decide +kernel
theorem dX10_room_2 : decode cX10_room 2 = .ok (.putfield 130, 3) := by decide +kernel
theorem dX10_room_5 : decode cX10_room 5 = .ok (.aload_n 0, 1) := by decide +kernel
theorem dX10_room_6 : decode cX10_room 6 = .ok (.iload_n 1, 1) := by decide +kernel
theorem dX10_room_7 : decode cX10_room 7 = .ok (.invokevirtual 404, 3) := by decide +kernel
theorem dX10_room_10 : decode cX10_room 10 = .ok (.ifCond .eq 10, 3) := by decide +kernel
theorem dX10_room_13 : decode cX10_room 13 = .ok (.iload_n 2, 1) := by decide +kernel
theorem dX10_room_14 : decode cX10_room 14 = .ok (.invokestatic 407, 3) := by decide +kernel
theorem dX10_room_17 : decode cX10_room 17 = .ok (.ifCond .ne 5, 3) := by decide +kernel
theorem dX10_room_20 : decode cX10_room 20 = .ok (.iconst (-1), 1) := by decide +kernel
theorem dX10_room_21 : decode cX10_room 21 = .ok (.ireturn, 1) := by decide +kernel
theorem dX10_room_22 : decode cX10_room 22 = .ok (.iconst 0, 1) := by decide +kernel
theorem dX10_room_23 : decode cX10_room 23 = .ok (.istore_n 3, 1) := by decide +kernel
theorem dX10_room_24 : decode cX10_room 24 = .ok (.iload_n 3, 1) := by decide +kernel
theorem dX10_room_25 : decode cX10_room 25 = .ok (.sipush 900, 3) := by decide +kernel
theorem dX10_room_28 : decode cX10_room 28 = .ok (.if_icmp .ge 64, 3) := by decide +kernel
theorem dX10_room_31 : decode cX10_room 31 = .ok (.iconst (-1), 1) := by decide +kernel
theorem dX10_room_32 : decode cX10_room 32 = .ok (.istore 4, 2) := by decide +kernel
theorem dX10_room_34 : decode cX10_room 34 = .ok (.iload 4, 2) := by decide +kernel
theorem dX10_room_36 : decode cX10_room 36 = .ok (.iconst 2, 1) := by decide +kernel
theorem dX10_room_37 : decode cX10_room 37 = .ok (.if_icmp .ge 49, 3) := by decide +kernel
theorem dX10_room_40 : decode cX10_room 40 = .ok (.aload_n 0, 1) := by decide +kernel
theorem dX10_room_41 : decode cX10_room 41 = .ok (.getfield 78, 3) := by decide +kernel
theorem dX10_room_44 : decode cX10_room 44 = .ok (.iload_n 1, 1) := by decide +kernel
theorem dX10_room_45 : decode cX10_room 45 = .ok (.iaload, 1) := by decide +kernel
theorem dX10_room_46 : decode cX10_room 46 = .ok (.iload 4, 2) := by decide +kernel
theorem dX10_room_48 : decode cX10_room 48 = .ok (.iload_n 3, 1) := by decide +kernel
theorem dX10_room_49 : decode cX10_room 49 = .ok (.imul, 1) := by decide +kernel
theorem dX10_room_50 : decode cX10_room 50 = .ok (.iadd, 1) := by decide +kernel
theorem dX10_room_51 : decode cX10_room 51 = .ok (.istore 5, 2) := by decide +kernel
theorem dX10_room_53 : decode cX10_room 53 = .ok (.iload 5, 2) := by decide +kernel
theorem dX10_room_55 : decode cX10_room 55 = .ok (.invokestatic 407, 3) := by decide +kernel
theorem dX10_room_58 : decode cX10_room 58 = .ok (.ifCond .eq 22, 3) := by decide +kernel
theorem dX10_room_61 : decode cX10_room 61 = .ok (.aload_n 0, 1) := by decide +kernel
theorem dX10_room_62 : decode cX10_room 62 = .ok (.iconst 0, 1) := by decide +kernel
theorem dX10_room_63 : decode cX10_room 63 = .ok (.iload 5, 2) := by decide +kernel
theorem dX10_room_65 : decode cX10_room 65 = .ok (.iload_n 2, 1) := by decide +kernel
theorem dX10_room_66 : decode cX10_room 66 = .ok (.invokevirtual 342, 3) := by decide +kernel
theorem dX10_room_69 : decode cX10_room 69 = .ok (.aload_n 0, 1) := by decide +kernel
theorem dX10_room_70 : decode cX10_room 70 = .ok (.getfield 22, 3) := by decide +kernel
theorem dX10_room_73 : decode cX10_room 73 = .ok (.iload_n 1, 1) := by decide +kernel
theorem dX10_room_74 : decode cX10_room 74 = .ok (.iaload, 1) := by decide +kernel
theorem dX10_room_75 : decode cX10_room 75 = .ok (.if_icmp .gt 5, 3) := by decide +kernel
theorem dX10_room_78 : decode cX10_room 78 = .ok (.iload_n 3, 1) := by decide +kernel
theorem dX10_room_79 : decode cX10_room 79 = .ok (.ireturn, 1) := by decide +kernel
theorem dX10_room_80 : decode cX10_room 80 = .ok (.iinc 4 2, 3) := by decide +kernel
theorem dX10_room_83 : decode cX10_room 83 = .ok (.goto (-49), 3) := by decide +kernel
theorem dX10_room_86 : decode cX10_room 86 = .ok (.iinc 3 1, 3) := by decide +kernel
theorem dX10_room_89 : decode cX10_room 89 = .ok (.goto (-65), 3) := by decide +kernel
theorem dX10_room_92 : decode cX10_room 92 = .ok (.bipush (-2), 2) := by decide +kernel
theorem dX10_room_94 : decode cX10_room 94 = .ok (.ireturn, 1) := by decide +kernel
theorem dX10_minute_0 : decode cX10_minute 0 = .ok (.aload_n 0, 1) := by decide +kernel
theorem dX10_minute_1 : decode cX10_minute 1 = .ok (.iconst 0, 1) := by decide +kernel
theorem dX10_minute_2 : decode cX10_minute 2 = .ok (.putfield 130, 3) := by decide +kernel
theorem dX10_minute_5 : decode cX10_minute 5 = .ok (.aload_n 0, 1) := by decide +kernel
theorem dX10_minute_6 : decode cX10_minute 6 = .ok (.iload_n 1, 1) := by decide +kernel
theorem dX10_minute_7 : decode cX10_minute 7 = .ok (.invokevirtual 401, 3) := by decide +kernel
theorem dX10_minute_10 : decode cX10_minute 10 = .ok (.ifCond .eq 12, 3) := by decide +kernel
theorem dX10_minute_13 : decode cX10_minute 13 = .ok (.aload_n 0, 1) := by decide +kernel
theorem dX10_minute_14 : decode cX10_minute 14 = .ok (.getfield 283, 3) := by decide +kernel
theorem dX10_minute_17 : decode cX10_minute 17 = .ok (.bipush 24, 2) := by decide +kernel
theorem dX10_minute_19 : decode cX10_minute 19 = .ok (.if_icmp .ne 5, 3) := by decide +kernel
theorem dX10_minute_22 : decode cX10_minute 22 = .ok (.iconst (-1), 1) := by decide +kernel
theorem dX10_minute_23 : decode cX10_minute 23 = .ok (.ireturn, 1) := by decide +kernel
theorem dX10_minute_24 : decode cX10_minute 24 = .ok (.aload_n 0, 1) := by decide +kernel
theorem dX10_minute_25 : decode cX10_minute 25 = .ok (.getfield 114, 3) := by decide +kernel
theorem dX10_minute_28 : decode cX10_minute 28 = .ok (.aload_n 0, 1) := by decide +kernel
theorem dX10_minute_29 : decode cX10_minute 29 = .ok (.getfield 283, 3) := by decide +kernel
theorem dX10_minute_32 : decode cX10_minute 32 = .ok (.iload_n 1, 1) := by decide +kernel
theorem dX10_minute_33 : decode cX10_minute 33 = .ok (.iastore, 1) := by decide +kernel
theorem dX10_minute_34 : decode cX10_minute 34 = .ok (.aload_n 0, 1) := by decide +kernel
theorem dX10_minute_35 : decode cX10_minute 35 = .ok (.getfield 117, 3) := by decide +kernel
theorem dX10_minute_38 : decode cX10_minute 38 = .ok (.aload_n 0, 1) := by decide +kernel
theorem dX10_minute_39 : decode cX10_minute 39 = .ok (.getfield 283, 3) := by decide +kernel
theorem dX10_minute_42 : decode cX10_minute 42 = .ok (.iload_n 2, 1) := by decide +kernel
theorem dX10_minute_43 : decode cX10_minute 43 = .ok (.bastore, 1) := by decide +kernel
theorem dX10_minute_44 : decode cX10_minute 44 = .ok (.aload_n 0, 1) := by decide +kernel
theorem dX10_minute_45 : decode cX10_minute 45 = .ok (.getfield 121, 3) := by decide +kernel
theorem dX10_minute_48 : decode cX10_minute 48 = .ok (.aload_n 0, 1) := by decide +kernel
theorem dX10_minute_49 : decode cX10_minute 49 = .ok (.getfield 283, 3) := by decide +kernel
theorem dX10_minute_52 : decode cX10_minute 52 = .ok (.iconst (-1), 1) := by decide +kernel
theorem dX10_minute_53 : decode cX10_minute 53 = .ok (.iastore, 1) := by decide +kernel
theorem dX10_minute_54 : decode cX10_minute 54 = .ok (.aload_n 0, 1) := by decide +kernel
theorem dX10_minute_55 : decode cX10_minute 55 = .ok (.dup, 1) := by decide +kernel
theorem dX10_minute_56 : decode cX10_minute 56 = .ok (.getfield 283, 3) := by decide +kernel
theorem dX10_minute_59 : decode cX10_minute 59 = .ok (.iconst 1, 1) := by decide +kernel
theorem dX10_minute_60 : decode cX10_minute 60 = .ok (.iadd, 1) := by decide +kernel
theorem dX10_minute_61 : decode cX10_minute 61 = .ok (.putfield 283, 3) := by decide +kernel
theorem dX10_minute_64 : decode cX10_minute 64 = .ok (.aload_n 0, 1) := by decide +kernel
theorem dX10_minute_65 : decode cX10_minute 65 = .ok (.getfield 283, 3) := by decide +kernel
theorem dX10_minute_68 : decode cX10_minute 68 = .ok (.iconst 1, 1) := by decide +kernel
theorem dX10_minute_69 : decode cX10_minute 69 = .ok (.isub, 1) := by decide +kernel
theorem dX10_minute_70 : decode cX10_minute 70 = .ok (.ireturn, 1) := by decide +kernel
theorem dX10_out_0 : decode cX10_out 0 = .ok (.aload_n 0, 1) := by decide +kernel
theorem dX10_out_1 : decode cX10_out 1 = .ok (.iconst 0, 1) := by decide +kernel
theorem dX10_out_2 : decode cX10_out 2 = .ok (.putfield 130, 3) := by decide +kernel
theorem dX10_out_5 : decode cX10_out 5 = .ok (.iload_n 1, 1) := by decide +kernel
theorem dX10_out_6 : decode cX10_out 6 = .ok (.ifCond .lt 20, 3) := by decide +kernel
theorem dX10_out_9 : decode cX10_out 9 = .ok (.iload_n 1, 1) := by decide +kernel
theorem dX10_out_10 : decode cX10_out 10 = .ok (.aload_n 0, 1) := by decide +kernel
theorem dX10_out_11 : decode cX10_out 11 = .ok (.getfield 283, 3) := by decide +kernel
theorem dX10_out_14 : decode cX10_out 14 = .ok (.if_icmp .ge 12, 3) := by decide +kernel
theorem dX10_out_17 : decode cX10_out 17 = .ok (.aload_n 0, 1) := by decide +kernel
theorem dX10_out_18 : decode cX10_out 18 = .ok (.getfield 283, 3) := by decide +kernel
theorem dX10_out_21 : decode cX10_out 21 = .ok (.bipush 24, 2) := by decide +kernel
theorem dX10_out_23 : decode cX10_out 23 = .ok (.if_icmp .ne 5, 3) := by decide +kernel
theorem dX10_out_26 : decode cX10_out 26 = .ok (.iconst (-1), 1) := by decide +kernel
theorem dX10_out_27 : decode cX10_out 27 = .ok (.ireturn, 1) := by decide +kernel
theorem dX10_out_28 : decode cX10_out 28 = .ok (.aload_n 0, 1) := by decide +kernel
theorem dX10_out_29 : decode cX10_out 29 = .ok (.getfield 121, 3) := by decide +kernel
theorem dX10_out_32 : decode cX10_out 32 = .ok (.aload_n 0, 1) := by decide +kernel
theorem dX10_out_33 : decode cX10_out 33 = .ok (.getfield 283, 3) := by decide +kernel
theorem dX10_out_36 : decode cX10_out 36 = .ok (.iload_n 1, 1) := by decide +kernel
theorem dX10_out_37 : decode cX10_out 37 = .ok (.iastore, 1) := by decide +kernel
theorem dX10_out_38 : decode cX10_out 38 = .ok (.aload_n 0, 1) := by decide +kernel
theorem dX10_out_39 : decode cX10_out 39 = .ok (.dup, 1) := by decide +kernel
theorem dX10_out_40 : decode cX10_out 40 = .ok (.getfield 283, 3) := by decide +kernel
theorem dX10_out_43 : decode cX10_out 43 = .ok (.iconst 1, 1) := by decide +kernel
theorem dX10_out_44 : decode cX10_out 44 = .ok (.iadd, 1) := by decide +kernel
theorem dX10_out_45 : decode cX10_out 45 = .ok (.putfield 283, 3) := by decide +kernel
theorem dX10_out_48 : decode cX10_out 48 = .ok (.aload_n 0, 1) := by decide +kernel
theorem dX10_out_49 : decode cX10_out 49 = .ok (.getfield 283, 3) := by decide +kernel
theorem dX10_out_52 : decode cX10_out 52 = .ok (.iconst 1, 1) := by decide +kernel
theorem dX10_out_53 : decode cX10_out 53 = .ok (.isub, 1) := by decide +kernel
theorem dX10_out_54 : decode cX10_out 54 = .ok (.ireturn, 1) := by decide +kernel
theorem dX10_known_0 : decode cX10_known 0 = .ok (.aload_n 0, 1) := by decide +kernel
theorem dX10_known_1 : decode cX10_known 1 = .ok (.iconst 0, 1) := by decide +kernel
theorem dX10_known_2 : decode cX10_known 2 = .ok (.putfield 130, 3) := by decide +kernel
theorem dX10_known_5 : decode cX10_known 5 = .ok (.iload_n 1, 1) := by decide +kernel
theorem dX10_known_6 : decode cX10_known 6 = .ok (.iconst (-1), 1) := by decide +kernel
theorem dX10_known_7 : decode cX10_known 7 = .ok (.if_icmp .lt 11, 3) := by decide +kernel
theorem dX10_known_10 : decode cX10_known 10 = .ok (.iload_n 1, 1) := by decide +kernel
theorem dX10_known_11 : decode cX10_known 11 = .ok (.aload_n 0, 1) := by decide +kernel
theorem dX10_known_12 : decode cX10_known 12 = .ok (.getfield 283, 3) := by decide +kernel
theorem dX10_known_15 : decode cX10_known 15 = .ok (.if_icmp .le 5, 3) := by decide +kernel
theorem dX10_known_18 : decode cX10_known 18 = .ok (.iconst 0, 1) := by decide +kernel
theorem dX10_known_19 : decode cX10_known 19 = .ok (.ireturn, 1) := by decide +kernel
theorem dX10_known_20 : decode cX10_known 20 = .ok (.aload_n 0, 1) := by decide +kernel
theorem dX10_known_21 : decode cX10_known 21 = .ok (.iload_n 1, 1) := by decide +kernel
theorem dX10_known_22 : decode cX10_known 22 = .ok (.putfield 111, 3) := by decide +kernel
theorem dX10_known_25 : decode cX10_known 25 = .ok (.iconst 1, 1) := by decide +kernel
theorem dX10_known_26 : decode cX10_known 26 = .ok (.ireturn, 1) := by decide +kernel
theorem dX10_knownMany_0 : decode cX10_knownMany 0 = .ok (.aload_n 0, 1) := by decide +kernel
theorem dX10_knownMany_1 : decode cX10_knownMany 1 = .ok (.getfield 111, 3) := by decide +kernel
theorem dX10_knownMany_4 : decode cX10_knownMany 4 = .ok (.iconst (-1), 1) := by decide +kernel
theorem dX10_knownMany_5 : decode cX10_knownMany 5 = .ok (.if_icmp .ne 10, 3) := by decide +kernel
theorem dX10_knownMany_8 : decode cX10_knownMany 8 = .ok (.aload_n 0, 1) := by decide +kernel
theorem dX10_knownMany_9 : decode cX10_knownMany 9 = .ok (.getfield 283, 3) := by decide +kernel
theorem dX10_knownMany_12 : decode cX10_knownMany 12 = .ok (.goto 7, 3) := by decide +kernel
theorem dX10_knownMany_15 : decode cX10_knownMany 15 = .ok (.aload_n 0, 1) := by decide +kernel
theorem dX10_knownMany_16 : decode cX10_knownMany 16 = .ok (.getfield 111, 3) := by decide +kernel
theorem dX10_knownMany_19 : decode cX10_knownMany 19 = .ok (.ireturn, 1) := by decide +kernel
theorem dX10_fitsWidth_0 : decode cX10_fitsWidth 0 = .ok (.aload_n 0, 1) := by decide +kernel
theorem dX10_fitsWidth_1 : decode cX10_fitsWidth 1 = .ok (.iconst 1, 1) := by decide +kernel
theorem dX10_fitsWidth_2 : decode cX10_fitsWidth 2 = .ok (.invokevirtual 313, 3) := by decide +kernel
theorem dX10_fitsWidth_5 : decode cX10_fitsWidth 5 = .ok (.aload_n 0, 1) := by decide +kernel
theorem dX10_fitsWidth_6 : decode cX10_fitsWidth 6 = .ok (.iload_n 1, 1) := by decide +kernel
theorem dX10_fitsWidth_7 : decode cX10_fitsWidth 7 = .ok (.iconst 1, 1) := by decide +kernel
theorem dX10_fitsWidth_8 : decode cX10_fitsWidth 8 = .ok (.iadd, 1) := by decide +kernel
theorem dX10_fitsWidth_9 : decode cX10_fitsWidth 9 = .ok (.invokevirtual 420, 3) := by decide +kernel
theorem dX10_fitsWidth_12 : decode cX10_fitsWidth 12 = .ok (.iconst 0, 1) := by decide +kernel
theorem dX10_fitsWidth_13 : decode cX10_fitsWidth 13 = .ok (.istore_n 2, 1) := by decide +kernel
theorem dX10_fitsWidth_14 : decode cX10_fitsWidth 14 = .ok (.iload_n 2, 1) := by decide +kernel
theorem dX10_fitsWidth_15 : decode cX10_fitsWidth 15 = .ok (.aload_n 0, 1) := by decide +kernel
theorem dX10_fitsWidth_16 : decode cX10_fitsWidth 16 = .ok (.invokevirtual 475, 3) := by decide +kernel
theorem dX10_fitsWidth_19 : decode cX10_fitsWidth 19 = .ok (.if_icmp .ge 65, 3) := by decide +kernel
theorem dX10_fitsWidth_22 : decode cX10_fitsWidth 22 = .ok (.aload_n 0, 1) := by decide +kernel
theorem dX10_fitsWidth_23 : decode cX10_fitsWidth 23 = .ok (.getfield 124, 3) := by decide +kernel
theorem dX10_fitsWidth_26 : decode cX10_fitsWidth 26 = .ok (.iload_n 2, 1) := by decide +kernel
theorem dX10_fitsWidth_27 : decode cX10_fitsWidth 27 = .ok (.baload, 1) := by decide +kernel
theorem dX10_fitsWidth_28 : decode cX10_fitsWidth 28 = .ok (.ifCond .ne 50, 3) := by decide +kernel
theorem dX10_fitsWidth_31 : decode cX10_fitsWidth 31 = .ok (.aload_n 0, 1) := by decide +kernel
theorem dX10_fitsWidth_32 : decode cX10_fitsWidth 32 = .ok (.getfield 121, 3) := by decide +kernel
theorem dX10_fitsWidth_35 : decode cX10_fitsWidth 35 = .ok (.iload_n 2, 1) := by decide +kernel
theorem dX10_fitsWidth_36 : decode cX10_fitsWidth 36 = .ok (.iaload, 1) := by decide +kernel
theorem dX10_fitsWidth_37 : decode cX10_fitsWidth 37 = .ok (.iconst (-1), 1) := by decide +kernel
theorem dX10_fitsWidth_38 : decode cX10_fitsWidth 38 = .ok (.if_icmp .eq 6, 3) := by decide +kernel
theorem dX10_fitsWidth_41 : decode cX10_fitsWidth 41 = .ok (.goto 37, 3) := by decide +kernel
theorem dX10_fitsWidth_44 : decode cX10_fitsWidth 44 = .ok (.aload_n 0, 1) := by decide +kernel
theorem dX10_fitsWidth_45 : decode cX10_fitsWidth 45 = .ok (.getfield 84, 3) := by decide +kernel
theorem dX10_fitsWidth_48 : decode cX10_fitsWidth 48 = .ok (.bipush 10, 2) := by decide +kernel
theorem dX10_fitsWidth_50 : decode cX10_fitsWidth 50 = .ok (.aload_n 0, 1) := by decide +kernel
theorem dX10_fitsWidth_51 : decode cX10_fitsWidth 51 = .ok (.getfield 114, 3) := by decide +kernel
theorem dX10_fitsWidth_54 : decode cX10_fitsWidth 54 = .ok (.iload_n 2, 1) := by decide +kernel
theorem dX10_fitsWidth_55 : decode cX10_fitsWidth 55 = .ok (.iaload, 1) := by decide +kernel
theorem dX10_fitsWidth_56 : decode cX10_fitsWidth 56 = .ok (.iadd, 1) := by decide +kernel
theorem dX10_fitsWidth_57 : decode cX10_fitsWidth 57 = .ok (.iaload, 1) := by decide +kernel
theorem dX10_fitsWidth_58 : decode cX10_fitsWidth 58 = .ok (.iconst 1, 1) := by decide +kernel
theorem dX10_fitsWidth_59 : decode cX10_fitsWidth 59 = .ok (.if_icmp .ne 7, 3) := by decide +kernel
theorem dX10_fitsWidth_62 : decode cX10_fitsWidth 62 = .ok (.iconst 1, 1) := by decide +kernel
theorem dX10_fitsWidth_63 : decode cX10_fitsWidth 63 = .ok (.goto 4, 3) := by decide +kernel
theorem dX10_fitsWidth_66 : decode cX10_fitsWidth 66 = .ok (.iconst 0, 1) := by decide +kernel
theorem dX10_fitsWidth_67 : decode cX10_fitsWidth 67 = .ok (.aload_n 0, 1) := by decide +kernel
theorem dX10_fitsWidth_68 : decode cX10_fitsWidth 68 = .ok (.getfield 117, 3) := by decide +kernel
theorem dX10_fitsWidth_71 : decode cX10_fitsWidth 71 = .ok (.iload_n 2, 1) := by decide +kernel
theorem dX10_fitsWidth_72 : decode cX10_fitsWidth 72 = .ok (.baload, 1) := by decide +kernel
theorem dX10_fitsWidth_73 : decode cX10_fitsWidth 73 = .ok (.if_icmp .eq 5, 3) := by decide +kernel
theorem dX10_fitsWidth_76 : decode cX10_fitsWidth 76 = .ok (.iconst 0, 1) := by decide +kernel
theorem dX10_fitsWidth_77 : decode cX10_fitsWidth 77 = .ok (.ireturn, 1) := by decide +kernel
theorem dX10_fitsWidth_78 : decode cX10_fitsWidth 78 = .ok (.iinc 2 1, 3) := by decide +kernel
theorem dX10_fitsWidth_81 : decode cX10_fitsWidth 81 = .ok (.goto (-67), 3) := by decide +kernel
theorem dX10_fitsWidth_84 : decode cX10_fitsWidth 84 = .ok (.iconst 1, 1) := by decide +kernel
theorem dX10_fitsWidth_85 : decode cX10_fitsWidth 85 = .ok (.ireturn, 1) := by decide +kernel
theorem dX10_widths_0 : decode cX10_widths 0 = .ok (.aload_n 0, 1) := by decide +kernel
theorem dX10_widths_1 : decode cX10_widths 1 = .ok (.iconst 0, 1) := by decide +kernel
theorem dX10_widths_2 : decode cX10_widths 2 = .ok (.putfield 130, 3) := by decide +kernel
theorem dX10_widths_5 : decode cX10_widths 5 = .ok (.aload_n 0, 1) := by decide +kernel
theorem dX10_widths_6 : decode cX10_widths 6 = .ok (.iload_n 1, 1) := by decide +kernel
theorem dX10_widths_7 : decode cX10_widths 7 = .ok (.invokevirtual 404, 3) := by decide +kernel
theorem dX10_widths_10 : decode cX10_widths 10 = .ok (.ifCond .ne 5, 3) := by decide +kernel
theorem dX10_widths_13 : decode cX10_widths 13 = .ok (.iconst (-1), 1) := by decide +kernel
theorem dX10_widths_14 : decode cX10_widths 14 = .ok (.ireturn, 1) := by decide +kernel
theorem dX10_widths_15 : decode cX10_widths 15 = .ok (.iconst (-1), 1) := by decide +kernel
theorem dX10_widths_16 : decode cX10_widths 16 = .ok (.istore_n 2, 1) := by decide +kernel
theorem dX10_widths_17 : decode cX10_widths 17 = .ok (.iconst 0, 1) := by decide +kernel
theorem dX10_widths_18 : decode cX10_widths 18 = .ok (.istore_n 3, 1) := by decide +kernel
theorem dX10_widths_19 : decode cX10_widths 19 = .ok (.iload_n 3, 1) := by decide +kernel
theorem dX10_widths_20 : decode cX10_widths 20 = .ok (.aload_n 0, 1) := by decide +kernel
theorem dX10_widths_21 : decode cX10_widths 21 = .ok (.invokevirtual 475, 3) := by decide +kernel
theorem dX10_widths_24 : decode cX10_widths 24 = .ok (.if_icmp .ge 16, 3) := by decide +kernel
theorem dX10_widths_27 : decode cX10_widths 27 = .ok (.aload_n 0, 1) := by decide +kernel
theorem dX10_widths_28 : decode cX10_widths 28 = .ok (.getfield 124, 3) := by decide +kernel
theorem dX10_widths_31 : decode cX10_widths 31 = .ok (.iload_n 3, 1) := by decide +kernel
theorem dX10_widths_32 : decode cX10_widths 32 = .ok (.iconst 0, 1) := by decide +kernel
theorem dX10_widths_33 : decode cX10_widths 33 = .ok (.bastore, 1) := by decide +kernel
theorem dX10_widths_34 : decode cX10_widths 34 = .ok (.iinc 3 1, 3) := by decide +kernel
theorem dX10_widths_37 : decode cX10_widths 37 = .ok (.goto (-18), 3) := by decide +kernel
theorem dX10_widths_40 : decode cX10_widths 40 = .ok (.aload_n 0, 1) := by decide +kernel
theorem dX10_widths_41 : decode cX10_widths 41 = .ok (.invokevirtual 475, 3) := by decide +kernel
theorem dX10_widths_44 : decode cX10_widths 44 = .ok (.iconst 1, 1) := by decide +kernel
theorem dX10_widths_45 : decode cX10_widths 45 = .ok (.isub, 1) := by decide +kernel
theorem dX10_widths_46 : decode cX10_widths 46 = .ok (.istore_n 3, 1) := by decide +kernel
theorem dX10_widths_47 : decode cX10_widths 47 = .ok (.iload_n 3, 1) := by decide +kernel
theorem dX10_widths_48 : decode cX10_widths 48 = .ok (.ifCond .lt 40, 3) := by decide +kernel
theorem dX10_widths_51 : decode cX10_widths 51 = .ok (.aload_n 0, 1) := by decide +kernel
theorem dX10_widths_52 : decode cX10_widths 52 = .ok (.getfield 124, 3) := by decide +kernel
theorem dX10_widths_55 : decode cX10_widths 55 = .ok (.iload_n 3, 1) := by decide +kernel
theorem dX10_widths_56 : decode cX10_widths 56 = .ok (.baload, 1) := by decide +kernel
theorem dX10_widths_57 : decode cX10_widths 57 = .ok (.ifCond .ne 25, 3) := by decide +kernel
theorem dX10_widths_60 : decode cX10_widths 60 = .ok (.aload_n 0, 1) := by decide +kernel
theorem dX10_widths_61 : decode cX10_widths 61 = .ok (.getfield 121, 3) := by decide +kernel
theorem dX10_widths_64 : decode cX10_widths 64 = .ok (.iload_n 3, 1) := by decide +kernel
theorem dX10_widths_65 : decode cX10_widths 65 = .ok (.iaload, 1) := by decide +kernel
theorem dX10_widths_66 : decode cX10_widths 66 = .ok (.iconst (-1), 1) := by decide +kernel
theorem dX10_widths_67 : decode cX10_widths 67 = .ok (.if_icmp .eq 15, 3) := by decide +kernel
theorem dX10_widths_70 : decode cX10_widths 70 = .ok (.aload_n 0, 1) := by decide +kernel
theorem dX10_widths_71 : decode cX10_widths 71 = .ok (.getfield 124, 3) := by decide +kernel
theorem dX10_widths_74 : decode cX10_widths 74 = .ok (.aload_n 0, 1) := by decide +kernel
theorem dX10_widths_75 : decode cX10_widths 75 = .ok (.getfield 121, 3) := by decide +kernel
theorem dX10_widths_78 : decode cX10_widths 78 = .ok (.iload_n 3, 1) := by decide +kernel
theorem dX10_widths_79 : decode cX10_widths 79 = .ok (.iaload, 1) := by decide +kernel
theorem dX10_widths_80 : decode cX10_widths 80 = .ok (.iconst 1, 1) := by decide +kernel
theorem dX10_widths_81 : decode cX10_widths 81 = .ok (.bastore, 1) := by decide +kernel
theorem dX10_widths_82 : decode cX10_widths 82 = .ok (.iinc 3 (-1), 3) := by decide +kernel
theorem dX10_widths_85 : decode cX10_widths 85 = .ok (.goto (-38), 3) := by decide +kernel
theorem dX10_widths_88 : decode cX10_widths 88 = .ok (.iconst 0, 1) := by decide +kernel
theorem dX10_widths_89 : decode cX10_widths 89 = .ok (.istore_n 3, 1) := by decide +kernel
theorem dX10_widths_90 : decode cX10_widths 90 = .ok (.iload_n 3, 1) := by decide +kernel
theorem dX10_widths_91 : decode cX10_widths 91 = .ok (.aload_n 0, 1) := by decide +kernel
theorem dX10_widths_92 : decode cX10_widths 92 = .ok (.invokevirtual 475, 3) := by decide +kernel
theorem dX10_widths_95 : decode cX10_widths 95 = .ok (.if_icmp .ge 44, 3) := by decide +kernel
theorem dX10_widths_98 : decode cX10_widths 98 = .ok (.aload_n 0, 1) := by decide +kernel
theorem dX10_widths_99 : decode cX10_widths 99 = .ok (.getfield 124, 3) := by decide +kernel
theorem dX10_widths_102 : decode cX10_widths 102 = .ok (.iload_n 3, 1) := by decide +kernel
theorem dX10_widths_103 : decode cX10_widths 103 = .ok (.baload, 1) := by decide +kernel
theorem dX10_widths_104 : decode cX10_widths 104 = .ok (.ifCond .ne 29, 3) := by decide +kernel
theorem dX10_widths_107 : decode cX10_widths 107 = .ok (.aload_n 0, 1) := by decide +kernel
theorem dX10_widths_108 : decode cX10_widths 108 = .ok (.getfield 121, 3) := by decide +kernel
theorem dX10_widths_111 : decode cX10_widths 111 = .ok (.iload_n 3, 1) := by decide +kernel
theorem dX10_widths_112 : decode cX10_widths 112 = .ok (.iaload, 1) := by decide +kernel
theorem dX10_widths_113 : decode cX10_widths 113 = .ok (.iconst (-1), 1) := by decide +kernel
theorem dX10_widths_114 : decode cX10_widths 114 = .ok (.if_icmp .ne 19, 3) := by decide +kernel
theorem dX10_widths_117 : decode cX10_widths 117 = .ok (.iload_n 2, 1) := by decide +kernel
theorem dX10_widths_118 : decode cX10_widths 118 = .ok (.aload_n 0, 1) := by decide +kernel
theorem dX10_widths_119 : decode cX10_widths 119 = .ok (.getfield 37, 3) := by decide +kernel
theorem dX10_widths_122 : decode cX10_widths 122 = .ok (.aload_n 0, 1) := by decide +kernel
theorem dX10_widths_123 : decode cX10_widths 123 = .ok (.getfield 114, 3) := by decide +kernel
theorem dX10_widths_126 : decode cX10_widths 126 = .ok (.iload_n 3, 1) := by decide +kernel
theorem dX10_widths_127 : decode cX10_widths 127 = .ok (.iaload, 1) := by decide +kernel
theorem dX10_widths_128 : decode cX10_widths 128 = .ok (.iaload, 1) := by decide +kernel
theorem dX10_widths_129 : decode cX10_widths 129 = .ok (.invokestatic 328, 3) := by decide +kernel
theorem dX10_widths_132 : decode cX10_widths 132 = .ok (.istore_n 2, 1) := by decide +kernel
theorem dX10_widths_133 : decode cX10_widths 133 = .ok (.iinc 3 1, 3) := by decide +kernel
theorem dX10_widths_136 : decode cX10_widths 136 = .ok (.goto (-46), 3) := by decide +kernel
theorem dX10_widths_139 : decode cX10_widths 139 = .ok (.iconst 0, 1) := by decide +kernel
theorem dX10_widths_140 : decode cX10_widths 140 = .ok (.istore_n 3, 1) := by decide +kernel
theorem dX10_widths_141 : decode cX10_widths 141 = .ok (.aload_n 0, 1) := by decide +kernel
theorem dX10_widths_142 : decode cX10_widths 142 = .ok (.iload_n 1, 1) := by decide +kernel
theorem dX10_widths_143 : decode cX10_widths 143 = .ok (.putfield 96, 3) := by decide +kernel
theorem dX10_widths_146 : decode cX10_widths 146 = .ok (.iconst 0, 1) := by decide +kernel
theorem dX10_widths_147 : decode cX10_widths 147 = .ok (.istore 4, 2) := by decide +kernel
theorem dX10_widths_149 : decode cX10_widths 149 = .ok (.iload 4, 2) := by decide +kernel
theorem dX10_widths_151 : decode cX10_widths 151 = .ok (.bipush 10, 2) := by decide +kernel
theorem dX10_widths_153 : decode cX10_widths 153 = .ok (.if_icmp .ge 37, 3) := by decide +kernel
theorem dX10_widths_156 : decode cX10_widths 156 = .ok (.aload_n 0, 1) := by decide +kernel
theorem dX10_widths_157 : decode cX10_widths 157 = .ok (.bipush 10, 2) := by decide +kernel
theorem dX10_widths_159 : decode cX10_widths 159 = .ok (.iload 4, 2) := by decide +kernel
theorem dX10_widths_161 : decode cX10_widths 161 = .ok (.imul, 1) := by decide +kernel
theorem dX10_widths_162 : decode cX10_widths 162 = .ok (.putfield 322, 3) := by decide +kernel
theorem dX10_widths_165 : decode cX10_widths 165 = .ok (.iload_n 3, 1) := by decide +kernel
theorem dX10_widths_166 : decode cX10_widths 166 = .ok (.aload_n 0, 1) := by decide +kernel
theorem dX10_widths_167 : decode cX10_widths 167 = .ok (.iload_n 2, 1) := by decide +kernel
theorem dX10_widths_168 : decode cX10_widths 168 = .ok (.invokevirtual 478, 3) := by decide +kernel
theorem dX10_widths_171 : decode cX10_widths 171 = .ok (.ifCond .eq 10, 3) := by decide +kernel
theorem dX10_widths_174 : decode cX10_widths 174 = .ok (.iconst 1, 1) := by decide +kernel
theorem dX10_widths_175 : decode cX10_widths 175 = .ok (.iload 4, 2) := by decide +kernel
theorem dX10_widths_177 : decode cX10_widths 177 = .ok (.ishl, 1) := by decide +kernel
theorem dX10_widths_178 : decode cX10_widths 178 = .ok (.goto 4, 3) := by decide +kernel
theorem dX10_widths_181 : decode cX10_widths 181 = .ok (.iconst 0, 1) := by decide +kernel
theorem dX10_widths_182 : decode cX10_widths 182 = .ok (.ior, 1) := by decide +kernel
theorem dX10_widths_183 : decode cX10_widths 183 = .ok (.istore_n 3, 1) := by decide +kernel
theorem dX10_widths_184 : decode cX10_widths 184 = .ok (.iinc 4 1, 3) := by decide +kernel
theorem dX10_widths_187 : decode cX10_widths 187 = .ok (.goto (-38), 3) := by decide +kernel
theorem dX10_widths_190 : decode cX10_widths 190 = .ok (.aload_n 0, 1) := by decide +kernel
theorem dX10_widths_191 : decode cX10_widths 191 = .ok (.iconst (-1), 1) := by decide +kernel
theorem dX10_widths_192 : decode cX10_widths 192 = .ok (.putfield 96, 3) := by decide +kernel
theorem dX10_widths_195 : decode cX10_widths 195 = .ok (.iload_n 3, 1) := by decide +kernel
theorem dX10_widths_196 : decode cX10_widths 196 = .ok (.ireturn, 1) := by decide +kernel
theorem dX10_chance_0 : decode cX10_chance 0 = .ok (.aload_n 0, 1) := by decide +kernel
theorem dX10_chance_1 : decode cX10_chance 1 = .ok (.iconst 0, 1) := by decide +kernel
theorem dX10_chance_2 : decode cX10_chance 2 = .ok (.putfield 130, 3) := by decide +kernel
theorem dX10_chance_5 : decode cX10_chance 5 = .ok (.iload_n 1, 1) := by decide +kernel
theorem dX10_chance_6 : decode cX10_chance 6 = .ok (.ifCond .lt 24, 3) := by decide +kernel
theorem dX10_chance_9 : decode cX10_chance 9 = .ok (.iload_n 2, 1) := by decide +kernel
theorem dX10_chance_10 : decode cX10_chance 10 = .ok (.iconst 1, 1) := by decide +kernel
theorem dX10_chance_11 : decode cX10_chance 11 = .ok (.if_icmp .lt 19, 3) := by decide +kernel
theorem dX10_chance_14 : decode cX10_chance 14 = .ok (.iload_n 2, 1) := by decide +kernel
theorem dX10_chance_15 : decode cX10_chance 15 = .ok (.bipush 99, 2) := by decide +kernel
theorem dX10_chance_17 : decode cX10_chance 17 = .ok (.if_icmp .gt 13, 3) := by decide +kernel
theorem dX10_chance_20 : decode cX10_chance 20 = .ok (.iload_n 3, 1) := by decide +kernel
theorem dX10_chance_21 : decode cX10_chance 21 = .ok (.ifCond .lt 9, 3) := by decide +kernel
theorem dX10_chance_24 : decode cX10_chance 24 = .ok (.iload_n 3, 1) := by decide +kernel
theorem dX10_chance_25 : decode cX10_chance 25 = .ok (.bipush 10, 2) := by decide +kernel
theorem dX10_chance_27 : decode cX10_chance 27 = .ok (.if_icmp .le 5, 3) := by decide +kernel
theorem dX10_chance_30 : decode cX10_chance 30 = .ok (.iconst (-1), 1) := by decide +kernel
theorem dX10_chance_31 : decode cX10_chance 31 = .ok (.ireturn, 1) := by decide +kernel
theorem dX10_chance_32 : decode cX10_chance 32 = .ok (.iload_n 1, 1) := by decide +kernel
theorem dX10_chance_33 : decode cX10_chance 33 = .ok (.istore 4, 2) := by decide +kernel
theorem dX10_chance_35 : decode cX10_chance 35 = .ok (.iconst 0, 1) := by decide +kernel
theorem dX10_chance_36 : decode cX10_chance 36 = .ok (.istore 5, 2) := by decide +kernel
theorem dX10_chance_38 : decode cX10_chance 38 = .ok (.iconst 0, 1) := by decide +kernel
theorem dX10_chance_39 : decode cX10_chance 39 = .ok (.istore 6, 2) := by decide +kernel
theorem dX10_chance_41 : decode cX10_chance 41 = .ok (.iload 6, 2) := by decide +kernel
theorem dX10_chance_43 : decode cX10_chance 43 = .ok (.bipush 10, 2) := by decide +kernel
theorem dX10_chance_45 : decode cX10_chance 45 = .ok (.if_icmp .ge 95, 3) := by decide +kernel
theorem dX10_chance_48 : decode cX10_chance 48 = .ok (.aload_n 0, 1) := by decide +kernel
theorem dX10_chance_49 : decode cX10_chance 49 = .ok (.iconst 1, 1) := by decide +kernel
theorem dX10_chance_50 : decode cX10_chance 50 = .ok (.iconst 0, 1) := by decide +kernel
theorem dX10_chance_51 : decode cX10_chance 51 = .ok (.invokevirtual 414, 3) := by decide +kernel
theorem dX10_chance_54 : decode cX10_chance 54 = .ok (.iconst 0, 1) := by decide +kernel
theorem dX10_chance_55 : decode cX10_chance 55 = .ok (.istore 7, 2) := by decide +kernel
theorem dX10_chance_57 : decode cX10_chance 57 = .ok (.iload 7, 2) := by decide +kernel
theorem dX10_chance_59 : decode cX10_chance 59 = .ok (.iload_n 2, 1) := by decide +kernel
theorem dX10_chance_60 : decode cX10_chance 60 = .ok (.if_icmp .ge 42, 3) := by decide +kernel
theorem dX10_chance_63 : decode cX10_chance 63 = .ok (.iload 4, 2) := by decide +kernel
theorem dX10_chance_65 : decode cX10_chance 65 = .ok (.ldc_w 481, 3) := by decide +kernel
theorem dX10_chance_68 : decode cX10_chance 68 = .ok (.imul, 1) := by decide +kernel
theorem dX10_chance_69 : decode cX10_chance 69 = .ok (.sipush 12345, 3) := by decide +kernel
theorem dX10_chance_72 : decode cX10_chance 72 = .ok (.iadd, 1) := by decide +kernel
theorem dX10_chance_73 : decode cX10_chance 73 = .ok (.ldc_w 482, 3) := by decide +kernel
theorem dX10_chance_76 : decode cX10_chance 76 = .ok (.iand, 1) := by decide +kernel
theorem dX10_chance_77 : decode cX10_chance 77 = .ok (.istore 4, 2) := by decide +kernel
theorem dX10_chance_79 : decode cX10_chance 79 = .ok (.aload_n 0, 1) := by decide +kernel
theorem dX10_chance_80 : decode cX10_chance 80 = .ok (.iload 4, 2) := by decide +kernel
theorem dX10_chance_82 : decode cX10_chance 82 = .ok (.bipush 16, 2) := by decide +kernel
theorem dX10_chance_84 : decode cX10_chance 84 = .ok (.ishr, 1) := by decide +kernel
theorem dX10_chance_85 : decode cX10_chance 85 = .ok (.bipush 10, 2) := by decide +kernel
theorem dX10_chance_87 : decode cX10_chance 87 = .ok (.irem, 1) := by decide +kernel
theorem dX10_chance_88 : decode cX10_chance 88 = .ok (.putfield 93, 3) := by decide +kernel
theorem dX10_chance_91 : decode cX10_chance 91 = .ok (.aload_n 0, 1) := by decide +kernel
theorem dX10_chance_92 : decode cX10_chance 92 = .ok (.iconst 1, 1) := by decide +kernel
theorem dX10_chance_93 : decode cX10_chance 93 = .ok (.invokevirtual 398, 3) := by decide +kernel
theorem dX10_chance_96 : decode cX10_chance 96 = .ok (.iinc 7 1, 3) := by decide +kernel
theorem dX10_chance_99 : decode cX10_chance 99 = .ok (.goto (-42), 3) := by decide +kernel
theorem dX10_chance_102 : decode cX10_chance 102 = .ok (.aload_n 0, 1) := by decide +kernel
theorem dX10_chance_103 : decode cX10_chance 103 = .ok (.iconst (-1), 1) := by decide +kernel
theorem dX10_chance_104 : decode cX10_chance 104 = .ok (.putfield 93, 3) := by decide +kernel
theorem dX10_chance_107 : decode cX10_chance 107 = .ok (.iload 5, 2) := by decide +kernel
theorem dX10_chance_109 : decode cX10_chance 109 = .ok (.aload_n 0, 1) := by decide +kernel
theorem dX10_chance_110 : decode cX10_chance 110 = .ok (.iconst 1, 1) := by decide +kernel
theorem dX10_chance_111 : decode cX10_chance 111 = .ok (.iconst 1, 1) := by decide +kernel
theorem dX10_chance_112 : decode cX10_chance 112 = .ok (.invokevirtual 423, 3) := by decide +kernel
theorem dX10_chance_115 : decode cX10_chance 115 = .ok (.aload_n 0, 1) := by decide +kernel
theorem dX10_chance_116 : decode cX10_chance 116 = .ok (.iconst 0, 1) := by decide +kernel
theorem dX10_chance_117 : decode cX10_chance 117 = .ok (.iconst 1, 1) := by decide +kernel
theorem dX10_chance_118 : decode cX10_chance 118 = .ok (.invokevirtual 423, 3) := by decide +kernel
theorem dX10_chance_121 : decode cX10_chance 121 = .ok (.isub, 1) := by decide +kernel
theorem dX10_chance_122 : decode cX10_chance 122 = .ok (.iload_n 3, 1) := by decide +kernel
theorem dX10_chance_123 : decode cX10_chance 123 = .ok (.if_icmp .lt 7, 3) := by decide +kernel
theorem dX10_chance_126 : decode cX10_chance 126 = .ok (.iconst 1, 1) := by decide +kernel
theorem dX10_chance_127 : decode cX10_chance 127 = .ok (.goto 4, 3) := by decide +kernel
theorem dX10_chance_130 : decode cX10_chance 130 = .ok (.iconst 0, 1) := by decide +kernel
theorem dX10_chance_131 : decode cX10_chance 131 = .ok (.iadd, 1) := by decide +kernel
theorem dX10_chance_132 : decode cX10_chance 132 = .ok (.istore 5, 2) := by decide +kernel
theorem dX10_chance_134 : decode cX10_chance 134 = .ok (.iinc 6 1, 3) := by decide +kernel
theorem dX10_chance_137 : decode cX10_chance 137 = .ok (.goto (-96), 3) := by decide +kernel
theorem dX10_chance_140 : decode cX10_chance 140 = .ok (.iload 5, 2) := by decide +kernel
theorem dX10_chance_142 : decode cX10_chance 142 = .ok (.ireturn, 1) := by decide +kernel
theorem dX10_tried_0 : decode cX10_tried 0 = .ok (.aload_n 0, 1) := by decide +kernel
theorem dX10_tried_1 : decode cX10_tried 1 = .ok (.iconst 0, 1) := by decide +kernel
theorem dX10_tried_2 : decode cX10_tried 2 = .ok (.putfield 130, 3) := by decide +kernel
theorem dX10_tried_5 : decode cX10_tried 5 = .ok (.iload_n 1, 1) := by decide +kernel
theorem dX10_tried_6 : decode cX10_tried 6 = .ok (.iconst 2, 1) := by decide +kernel
theorem dX10_tried_7 : decode cX10_tried 7 = .ok (.if_icmp .ne 11, 3) := by decide +kernel
theorem dX10_tried_10 : decode cX10_tried 10 = .ok (.aload_n 0, 1) := by decide +kernel
theorem dX10_tried_11 : decode cX10_tried 11 = .ok (.iload_n 2, 1) := by decide +kernel
theorem dX10_tried_12 : decode cX10_tried 12 = .ok (.invokevirtual 404, 3) := by decide +kernel
theorem dX10_tried_15 : decode cX10_tried 15 = .ok (.goto 21, 3) := by decide +kernel
theorem dX10_tried_18 : decode cX10_tried 18 = .ok (.iload_n 1, 1) := by decide +kernel
theorem dX10_tried_19 : decode cX10_tried 19 = .ok (.ifCond .lt 16, 3) := by decide +kernel
theorem dX10_tried_22 : decode cX10_tried 22 = .ok (.iload_n 1, 1) := by decide +kernel
theorem dX10_tried_23 : decode cX10_tried 23 = .ok (.iconst 5, 1) := by decide +kernel
theorem dX10_tried_24 : decode cX10_tried 24 = .ok (.if_icmp .gt 11, 3) := by decide +kernel
theorem dX10_tried_27 : decode cX10_tried 27 = .ok (.iload_n 2, 1) := by decide +kernel
theorem dX10_tried_28 : decode cX10_tried 28 = .ok (.ifCond .ne 7, 3) := by decide +kernel
theorem dX10_tried_31 : decode cX10_tried 31 = .ok (.iconst 1, 1) := by decide +kernel
theorem dX10_tried_32 : decode cX10_tried 32 = .ok (.goto 4, 3) := by decide +kernel
theorem dX10_tried_35 : decode cX10_tried 35 = .ok (.iconst 0, 1) := by decide +kernel
theorem dX10_tried_36 : decode cX10_tried 36 = .ok (.istore 4, 2) := by decide +kernel
theorem dX10_tried_38 : decode cX10_tried 38 = .ok (.iload 4, 2) := by decide +kernel
theorem dX10_tried_40 : decode cX10_tried 40 = .ok (.ifCond .eq 13, 3) := by decide +kernel
theorem dX10_tried_43 : decode cX10_tried 43 = .ok (.iload_n 3, 1) := by decide +kernel
theorem dX10_tried_44 : decode cX10_tried 44 = .ok (.ifCond .lt 9, 3) := by decide +kernel
theorem dX10_tried_47 : decode cX10_tried 47 = .ok (.iload_n 3, 1) := by decide +kernel
theorem dX10_tried_48 : decode cX10_tried 48 = .ok (.bipush 99, 2) := by decide +kernel
theorem dX10_tried_50 : decode cX10_tried 50 = .ok (.if_icmp .le 5, 3) := by decide +kernel
theorem dX10_tried_53 : decode cX10_tried 53 = .ok (.iconst (-1), 1) := by decide +kernel
theorem dX10_tried_54 : decode cX10_tried 54 = .ok (.ireturn, 1) := by decide +kernel
theorem dX10_tried_55 : decode cX10_tried 55 = .ok (.aload_n 0, 1) := by decide +kernel
theorem dX10_tried_56 : decode cX10_tried 56 = .ok (.iload_n 1, 1) := by decide +kernel
theorem dX10_tried_57 : decode cX10_tried 57 = .ok (.putfield 316, 3) := by decide +kernel
theorem dX10_tried_60 : decode cX10_tried 60 = .ok (.aload_n 0, 1) := by decide +kernel
theorem dX10_tried_61 : decode cX10_tried 61 = .ok (.iload_n 2, 1) := by decide +kernel
theorem dX10_tried_62 : decode cX10_tried 62 = .ok (.putfield 90, 3) := by decide +kernel
theorem dX10_tried_65 : decode cX10_tried 65 = .ok (.aload_n 0, 1) := by decide +kernel
theorem dX10_tried_66 : decode cX10_tried 66 = .ok (.iconst 1, 1) := by decide +kernel
theorem dX10_tried_67 : decode cX10_tried 67 = .ok (.iconst 0, 1) := by decide +kernel
theorem dX10_tried_68 : decode cX10_tried 68 = .ok (.invokevirtual 414, 3) := by decide +kernel
theorem dX10_tried_71 : decode cX10_tried 71 = .ok (.aload_n 0, 1) := by decide +kernel
theorem dX10_tried_72 : decode cX10_tried 72 = .ok (.iload_n 3, 1) := by decide +kernel
theorem dX10_tried_73 : decode cX10_tried 73 = .ok (.invokevirtual 420, 3) := by decide +kernel
theorem dX10_tried_76 : decode cX10_tried 76 = .ok (.aload_n 0, 1) := by decide +kernel
theorem dX10_tried_77 : decode cX10_tried 77 = .ok (.iconst 0, 1) := by decide +kernel
theorem dX10_tried_78 : decode cX10_tried 78 = .ok (.putfield 316, 3) := by decide +kernel
theorem dX10_tried_81 : decode cX10_tried 81 = .ok (.aload_n 0, 1) := by decide +kernel
theorem dX10_tried_82 : decode cX10_tried 82 = .ok (.iconst (-1), 1) := by decide +kernel
theorem dX10_tried_83 : decode cX10_tried 83 = .ok (.putfield 90, 3) := by decide +kernel
theorem dX10_tried_86 : decode cX10_tried 86 = .ok (.aload_n 0, 1) := by decide +kernel
theorem dX10_tried_87 : decode cX10_tried 87 = .ok (.iconst 1, 1) := by decide +kernel
theorem dX10_tried_88 : decode cX10_tried 88 = .ok (.iconst 1, 1) := by decide +kernel
theorem dX10_tried_89 : decode cX10_tried 89 = .ok (.invokevirtual 423, 3) := by decide +kernel
theorem dX10_tried_92 : decode cX10_tried 92 = .ok (.aload_n 0, 1) := by decide +kernel
theorem dX10_tried_93 : decode cX10_tried 93 = .ok (.iconst 0, 1) := by decide +kernel
theorem dX10_tried_94 : decode cX10_tried 94 = .ok (.iconst 1, 1) := by decide +kernel
theorem dX10_tried_95 : decode cX10_tried 95 = .ok (.invokevirtual 423, 3) := by decide +kernel
theorem dX10_tried_98 : decode cX10_tried 98 = .ok (.isub, 1) := by decide +kernel
theorem dX10_tried_99 : decode cX10_tried 99 = .ok (.ireturn, 1) := by decide +kernel
theorem dX10_undo_0 : decode cX10_undo 0 = .ok (.aload_n 0, 1) := by decide +kernel
theorem dX10_undo_1 : decode cX10_undo 1 = .ok (.iconst 0, 1) := by decide +kernel
theorem dX10_undo_2 : decode cX10_undo 2 = .ok (.putfield 130, 3) := by decide +kernel
theorem dX10_undo_5 : decode cX10_undo 5 = .ok (.aload_n 0, 1) := by decide +kernel
theorem dX10_undo_6 : decode cX10_undo 6 = .ok (.getfield 290, 3) := by decide +kernel
theorem dX10_undo_9 : decode cX10_undo 9 = .ok (.ifCond .ne 5, 3) := by decide +kernel
theorem dX10_undo_12 : decode cX10_undo 12 = .ok (.iconst (-1), 1) := by decide +kernel
theorem dX10_undo_13 : decode cX10_undo 13 = .ok (.ireturn, 1) := by decide +kernel
theorem dX10_undo_14 : decode cX10_undo 14 = .ok (.aload_n 0, 1) := by decide +kernel
theorem dX10_undo_15 : decode cX10_undo 15 = .ok (.dup, 1) := by decide +kernel
theorem dX10_undo_16 : decode cX10_undo 16 = .ok (.getfield 290, 3) := by decide +kernel
theorem dX10_undo_19 : decode cX10_undo 19 = .ok (.iconst 1, 1) := by decide +kernel
theorem dX10_undo_20 : decode cX10_undo 20 = .ok (.isub, 1) := by decide +kernel
theorem dX10_undo_21 : decode cX10_undo 21 = .ok (.putfield 290, 3) := by decide +kernel
theorem dX10_undo_24 : decode cX10_undo 24 = .ok (.aload_n 0, 1) := by decide +kernel
theorem dX10_undo_25 : decode cX10_undo 25 = .ok (.iconst 0, 1) := by decide +kernel
theorem dX10_undo_26 : decode cX10_undo 26 = .ok (.iconst 3, 1) := by decide +kernel
theorem dX10_undo_27 : decode cX10_undo 27 = .ok (.aload_n 0, 1) := by decide +kernel
theorem dX10_undo_28 : decode cX10_undo 28 = .ok (.getfield 290, 3) := by decide +kernel
theorem dX10_undo_31 : decode cX10_undo 31 = .ok (.iadd, 1) := by decide +kernel
theorem dX10_undo_32 : decode cX10_undo 32 = .ok (.invokevirtual 414, 3) := by decide +kernel
theorem dX10_undo_35 : decode cX10_undo 35 = .ok (.aload_n 0, 1) := by decide +kernel
theorem dX10_undo_36 : decode cX10_undo 36 = .ok (.getfield 290, 3) := by decide +kernel
theorem dX10_undo_39 : decode cX10_undo 39 = .ok (.ireturn, 1) := by decide +kernel
theorem dX10_keep_0 : decode cX10_keep 0 = .ok (.aload_n 0, 1) := by decide +kernel
theorem dX10_keep_1 : decode cX10_keep 1 = .ok (.iconst 0, 1) := by decide +kernel
theorem dX10_keep_2 : decode cX10_keep 2 = .ok (.putfield 130, 3) := by decide +kernel
theorem dX10_keep_5 : decode cX10_keep 5 = .ok (.aload_n 0, 1) := by decide +kernel
theorem dX10_keep_6 : decode cX10_keep 6 = .ok (.iconst 2, 1) := by decide +kernel
theorem dX10_keep_7 : decode cX10_keep 7 = .ok (.iconst 0, 1) := by decide +kernel
theorem dX10_keep_8 : decode cX10_keep 8 = .ok (.invokevirtual 414, 3) := by decide +kernel
theorem dX10_keep_11 : decode cX10_keep 11 = .ok (.aload_n 0, 1) := by decide +kernel
theorem dX10_keep_12 : decode cX10_keep 12 = .ok (.iconst 1, 1) := by decide +kernel
theorem dX10_keep_13 : decode cX10_keep 13 = .ok (.putfield 286, 3) := by decide +kernel
theorem dX10_keep_16 : decode cX10_keep 16 = .ok (.aload_n 0, 1) := by decide +kernel
theorem dX10_keep_17 : decode cX10_keep 17 = .ok (.getfield 66, 3) := by decide +kernel
theorem dX10_keep_20 : decode cX10_keep 20 = .ok (.iconst 0, 1) := by decide +kernel
theorem dX10_keep_21 : decode cX10_keep 21 = .ok (.iaload, 1) := by decide +kernel
theorem dX10_keep_22 : decode cX10_keep 22 = .ok (.ireturn, 1) := by decide +kernel
theorem dX10_back_0 : decode cX10_back 0 = .ok (.aload_n 0, 1) := by decide +kernel
theorem dX10_back_1 : decode cX10_back 1 = .ok (.iconst 0, 1) := by decide +kernel
theorem dX10_back_2 : decode cX10_back 2 = .ok (.putfield 130, 3) := by decide +kernel
theorem dX10_back_5 : decode cX10_back 5 = .ok (.aload_n 0, 1) := by decide +kernel
theorem dX10_back_6 : decode cX10_back 6 = .ok (.getfield 286, 3) := by decide +kernel
theorem dX10_back_9 : decode cX10_back 9 = .ok (.ifCond .ne 5, 3) := by decide +kernel
theorem dX10_back_12 : decode cX10_back 12 = .ok (.iconst (-1), 1) := by decide +kernel
theorem dX10_back_13 : decode cX10_back 13 = .ok (.ireturn, 1) := by decide +kernel
theorem dX10_back_14 : decode cX10_back 14 = .ok (.aload_n 0, 1) := by decide +kernel
theorem dX10_back_15 : decode cX10_back 15 = .ok (.iconst 0, 1) := by decide +kernel
theorem dX10_back_16 : decode cX10_back 16 = .ok (.iconst 2, 1) := by decide +kernel
theorem dX10_back_17 : decode cX10_back 17 = .ok (.invokevirtual 414, 3) := by decide +kernel
theorem dX10_back_20 : decode cX10_back 20 = .ok (.aload_n 0, 1) := by decide +kernel
theorem dX10_back_21 : decode cX10_back 21 = .ok (.iconst 0, 1) := by decide +kernel
theorem dX10_back_22 : decode cX10_back 22 = .ok (.putfield 290, 3) := by decide +kernel
theorem dX10_back_25 : decode cX10_back 25 = .ok (.aload_n 0, 1) := by decide +kernel
theorem dX10_back_26 : decode cX10_back 26 = .ok (.getfield 66, 3) := by decide +kernel
theorem dX10_back_29 : decode cX10_back 29 = .ok (.iconst 0, 1) := by decide +kernel
theorem dX10_back_30 : decode cX10_back 30 = .ok (.iaload, 1) := by decide +kernel
theorem dX10_back_31 : decode cX10_back 31 = .ok (.ireturn, 1) := by decide +kernel
theorem dX10_count_0 : decode cX10_count 0 = .ok (.aload_n 0, 1) := by decide +kernel
theorem dX10_count_1 : decode cX10_count 1 = .ok (.iconst 0, 1) := by decide +kernel
theorem dX10_count_2 : decode cX10_count 2 = .ok (.putfield 130, 3) := by decide +kernel
theorem dX10_count_5 : decode cX10_count 5 = .ok (.iload_n 1, 1) := by decide +kernel
theorem dX10_count_6 : decode cX10_count 6 = .ok (.tableswitch 180 0 14 #[74, 81, 88, 99, 106, 114, 121, 128, 135, 142, 149, 155, 165, 170, 175], 74) := by decide +kernel
theorem dX10_count_80 : decode cX10_count 80 = .ok (.aload_n 0, 1) := by decide +kernel
theorem dX10_count_81 : decode cX10_count 81 = .ok (.getfield 13, 3) := by decide +kernel
theorem dX10_count_84 : decode cX10_count 84 = .ok (.iconst 0, 1) := by decide +kernel
theorem dX10_count_85 : decode cX10_count 85 = .ok (.iaload, 1) := by decide +kernel
theorem dX10_count_86 : decode cX10_count 86 = .ok (.ireturn, 1) := by decide +kernel
theorem dX10_count_87 : decode cX10_count 87 = .ok (.aload_n 0, 1) := by decide +kernel
theorem dX10_count_88 : decode cX10_count 88 = .ok (.getfield 13, 3) := by decide +kernel
theorem dX10_count_91 : decode cX10_count 91 = .ok (.iconst 1, 1) := by decide +kernel
theorem dX10_count_92 : decode cX10_count 92 = .ok (.iaload, 1) := by decide +kernel
theorem dX10_count_93 : decode cX10_count 93 = .ok (.ireturn, 1) := by decide +kernel
theorem dX10_count_94 : decode cX10_count 94 = .ok (.aload_n 0, 1) := by decide +kernel
theorem dX10_count_95 : decode cX10_count 95 = .ok (.getfield 13, 3) := by decide +kernel
theorem dX10_count_98 : decode cX10_count 98 = .ok (.bipush 9, 2) := by decide +kernel
theorem dX10_count_100 : decode cX10_count 100 = .ok (.iaload, 1) := by decide +kernel
theorem dX10_count_101 : decode cX10_count 101 = .ok (.invokestatic 438, 3) := by decide +kernel
theorem dX10_count_104 : decode cX10_count 104 = .ok (.ireturn, 1) := by decide +kernel
theorem dX10_count_105 : decode cX10_count 105 = .ok (.aload_n 0, 1) := by decide +kernel
theorem dX10_count_106 : decode cX10_count 106 = .ok (.getfield 13, 3) := by decide +kernel
theorem dX10_count_109 : decode cX10_count 109 = .ok (.iconst 3, 1) := by decide +kernel
theorem dX10_count_110 : decode cX10_count 110 = .ok (.iaload, 1) := by decide +kernel
theorem dX10_count_111 : decode cX10_count 111 = .ok (.ireturn, 1) := by decide +kernel
theorem dX10_count_112 : decode cX10_count 112 = .ok (.aload_n 0, 1) := by decide +kernel
theorem dX10_count_113 : decode cX10_count 113 = .ok (.getfield 13, 3) := by decide +kernel
theorem dX10_count_116 : decode cX10_count 116 = .ok (.bipush 8, 2) := by decide +kernel
theorem dX10_count_118 : decode cX10_count 118 = .ok (.iaload, 1) := by decide +kernel
theorem dX10_count_119 : decode cX10_count 119 = .ok (.ireturn, 1) := by decide +kernel
theorem dX10_count_120 : decode cX10_count 120 = .ok (.aload_n 0, 1) := by decide +kernel
theorem dX10_count_121 : decode cX10_count 121 = .ok (.getfield 66, 3) := by decide +kernel
theorem dX10_count_124 : decode cX10_count 124 = .ok (.iconst 0, 1) := by decide +kernel
theorem dX10_count_125 : decode cX10_count 125 = .ok (.iaload, 1) := by decide +kernel
theorem dX10_count_126 : decode cX10_count 126 = .ok (.ireturn, 1) := by decide +kernel
theorem dX10_count_127 : decode cX10_count 127 = .ok (.aload_n 0, 1) := by decide +kernel
theorem dX10_count_128 : decode cX10_count 128 = .ok (.getfield 69, 3) := by decide +kernel
theorem dX10_count_131 : decode cX10_count 131 = .ok (.iconst 0, 1) := by decide +kernel
theorem dX10_count_132 : decode cX10_count 132 = .ok (.iaload, 1) := by decide +kernel
theorem dX10_count_133 : decode cX10_count 133 = .ok (.ireturn, 1) := by decide +kernel
theorem dX10_count_134 : decode cX10_count 134 = .ok (.aload_n 0, 1) := by decide +kernel
theorem dX10_count_135 : decode cX10_count 135 = .ok (.getfield 72, 3) := by decide +kernel
theorem dX10_count_138 : decode cX10_count 138 = .ok (.iconst 0, 1) := by decide +kernel
theorem dX10_count_139 : decode cX10_count 139 = .ok (.iaload, 1) := by decide +kernel
theorem dX10_count_140 : decode cX10_count 140 = .ok (.ireturn, 1) := by decide +kernel
theorem dX10_count_141 : decode cX10_count 141 = .ok (.aload_n 0, 1) := by decide +kernel
theorem dX10_count_142 : decode cX10_count 142 = .ok (.iconst 0, 1) := by decide +kernel
theorem dX10_count_143 : decode cX10_count 143 = .ok (.iconst 1, 1) := by decide +kernel
theorem dX10_count_144 : decode cX10_count 144 = .ok (.invokevirtual 423, 3) := by decide +kernel
theorem dX10_count_147 : decode cX10_count 147 = .ok (.ireturn, 1) := by decide +kernel
theorem dX10_count_148 : decode cX10_count 148 = .ok (.aload_n 0, 1) := by decide +kernel
theorem dX10_count_149 : decode cX10_count 149 = .ok (.iconst 0, 1) := by decide +kernel
theorem dX10_count_150 : decode cX10_count 150 = .ok (.iconst 0, 1) := by decide +kernel
theorem dX10_count_151 : decode cX10_count 151 = .ok (.invokevirtual 423, 3) := by decide +kernel
theorem dX10_count_154 : decode cX10_count 154 = .ok (.ireturn, 1) := by decide +kernel
theorem dX10_count_155 : decode cX10_count 155 = .ok (.aload_n 0, 1) := by decide +kernel
theorem dX10_count_156 : decode cX10_count 156 = .ok (.iconst 0, 1) := by decide +kernel
theorem dX10_count_157 : decode cX10_count 157 = .ok (.invokevirtual 426, 3) := by decide +kernel
theorem dX10_count_160 : decode cX10_count 160 = .ok (.ireturn, 1) := by decide +kernel
theorem dX10_count_161 : decode cX10_count 161 = .ok (.aload_n 0, 1) := by decide +kernel
theorem dX10_count_162 : decode cX10_count 162 = .ok (.getfield 75, 3) := by decide +kernel
theorem dX10_count_165 : decode cX10_count 165 = .ok (.iconst 0, 1) := by decide +kernel
theorem dX10_count_166 : decode cX10_count 166 = .ok (.iaload, 1) := by decide +kernel
theorem dX10_count_167 : decode cX10_count 167 = .ok (.invokestatic 438, 3) := by decide +kernel
theorem dX10_count_170 : decode cX10_count 170 = .ok (.ireturn, 1) := by decide +kernel
theorem dX10_count_171 : decode cX10_count 171 = .ok (.aload_n 0, 1) := by decide +kernel
theorem dX10_count_172 : decode cX10_count 172 = .ok (.getfield 283, 3) := by decide +kernel
theorem dX10_count_175 : decode cX10_count 175 = .ok (.ireturn, 1) := by decide +kernel
theorem dX10_count_176 : decode cX10_count 176 = .ok (.aload_n 0, 1) := by decide +kernel
theorem dX10_count_177 : decode cX10_count 177 = .ok (.invokevirtual 475, 3) := by decide +kernel
theorem dX10_count_180 : decode cX10_count 180 = .ok (.ireturn, 1) := by decide +kernel
theorem dX10_count_181 : decode cX10_count 181 = .ok (.aload_n 0, 1) := by decide +kernel
theorem dX10_count_182 : decode cX10_count 182 = .ok (.getfield 290, 3) := by decide +kernel
theorem dX10_count_185 : decode cX10_count 185 = .ok (.ireturn, 1) := by decide +kernel
theorem dX10_count_186 : decode cX10_count 186 = .ok (.iconst (-1), 1) := by decide +kernel
theorem dX10_count_187 : decode cX10_count 187 = .ok (.ireturn, 1) := by decide +kernel
