theorem dX10_goesOn_0 : decode cX10_goesOn 0 = .ok (.iconst 0, 1) := by decide +kernel
theorem dX10_goesOn_1 : decode cX10_goesOn 1 = .ok (.istore_n 2, 1) := by decide +kernel
theorem dX10_goesOn_2 : decode cX10_goesOn 2 = .ok (.iload_n 2, 1) := by decide +kernel
theorem dX10_goesOn_3 : decode cX10_goesOn 3 = .ok (.iload_n 1, 1) := by decide +kernel
theorem dX10_goesOn_4 : decode cX10_goesOn 4 = .ok (.if_icmp .ge 14, 3) := by decide +kernel
theorem dX10_goesOn_7 : decode cX10_goesOn 7 = .ok (.aload_n 0, 1) := by decide +kernel
theorem dX10_goesOn_8 : decode cX10_goesOn 8 = .ok (.iconst 1, 1) := by decide +kernel
theorem dX10_goesOn_9 : decode cX10_goesOn 9 = .ok (.invokevirtual 398, 3) := by decide +kernel
theorem dX10_goesOn_12 : decode cX10_goesOn 12 = .ok (.iinc 2 1, 3) := by decide +kernel
theorem dX10_goesOn_15 : decode cX10_goesOn 15 = .ok (.goto (-13), 3) := by decide +kernel
theorem dX10_goesOn_18 : decode cX10_goesOn 18 = .ok (.return_, 1) := by decide +kernel
theorem dX10_manyOf_0 : decode cX10_manyOf 0 = .ok (.iconst 0, 1) := by decide +kernel
theorem dX10_manyOf_1 : decode cX10_manyOf 1 = .ok (.istore_n 3, 1) := by decide +kernel
theorem dX10_manyOf_2 : decode cX10_manyOf 2 = .ok (.iconst 0, 1) := by decide +kernel
theorem dX10_manyOf_3 : decode cX10_manyOf 3 = .ok (.istore 4, 2) := by decide +kernel
theorem dX10_manyOf_5 : decode cX10_manyOf 5 = .ok (.iload 4, 2) := by decide +kernel
theorem dX10_manyOf_7 : decode cX10_manyOf 7 = .ok (.aload_n 0, 1) := by decide +kernel
theorem dX10_manyOf_8 : decode cX10_manyOf 8 = .ok (.getfield 13, 3) := by decide +kernel
theorem dX10_manyOf_11 : decode cX10_manyOf 11 = .ok (.iconst 1, 1) := by decide +kernel
theorem dX10_manyOf_12 : decode cX10_manyOf 12 = .ok (.iaload, 1) := by decide +kernel
theorem dX10_manyOf_13 : decode cX10_manyOf 13 = .ok (.if_icmp .ge 33, 3) := by decide +kernel
theorem dX10_manyOf_16 : decode cX10_manyOf 16 = .ok (.iload_n 3, 1) := by decide +kernel
theorem dX10_manyOf_17 : decode cX10_manyOf 17 = .ok (.aload_n 0, 1) := by decide +kernel
theorem dX10_manyOf_18 : decode cX10_manyOf 18 = .ok (.getfield 84, 3) := by decide +kernel
theorem dX10_manyOf_21 : decode cX10_manyOf 21 = .ok (.bipush 10, 2) := by decide +kernel
theorem dX10_manyOf_23 : decode cX10_manyOf 23 = .ok (.iload_n 1, 1) := by decide +kernel
theorem dX10_manyOf_24 : decode cX10_manyOf 24 = .ok (.imul, 1) := by decide +kernel
theorem dX10_manyOf_25 : decode cX10_manyOf 25 = .ok (.iload 4, 2) := by decide +kernel
theorem dX10_manyOf_27 : decode cX10_manyOf 27 = .ok (.iadd, 1) := by decide +kernel
theorem dX10_manyOf_28 : decode cX10_manyOf 28 = .ok (.iaload, 1) := by decide +kernel
theorem dX10_manyOf_29 : decode cX10_manyOf 29 = .ok (.iload_n 2, 1) := by decide +kernel
theorem dX10_manyOf_30 : decode cX10_manyOf 30 = .ok (.if_icmp .ne 7, 3) := by decide +kernel
theorem dX10_manyOf_33 : decode cX10_manyOf 33 = .ok (.iconst 1, 1) := by decide +kernel
theorem dX10_manyOf_34 : decode cX10_manyOf 34 = .ok (.goto 4, 3) := by decide +kernel
theorem dX10_manyOf_37 : decode cX10_manyOf 37 = .ok (.iconst 0, 1) := by decide +kernel
theorem dX10_manyOf_38 : decode cX10_manyOf 38 = .ok (.iadd, 1) := by decide +kernel
theorem dX10_manyOf_39 : decode cX10_manyOf 39 = .ok (.istore_n 3, 1) := by decide +kernel
theorem dX10_manyOf_40 : decode cX10_manyOf 40 = .ok (.iinc 4 1, 3) := by decide +kernel
theorem dX10_manyOf_43 : decode cX10_manyOf 43 = .ok (.goto (-38), 3) := by decide +kernel
theorem dX10_manyOf_46 : decode cX10_manyOf 46 = .ok (.iload_n 3, 1) := by decide +kernel
theorem dX10_manyOf_47 : decode cX10_manyOf 47 = .ok (.ireturn, 1) := by decide +kernel
theorem dX10_heardAll_0 : decode cX10_heardAll 0 = .ok (.iconst 0, 1) := by decide +kernel
theorem dX10_heardAll_1 : decode cX10_heardAll 1 = .ok (.istore_n 2, 1) := by decide +kernel
theorem dX10_heardAll_2 : decode cX10_heardAll 2 = .ok (.iconst 0, 1) := by decide +kernel
theorem dX10_heardAll_3 : decode cX10_heardAll 3 = .ok (.istore_n 3, 1) := by decide +kernel
theorem dX10_heardAll_4 : decode cX10_heardAll 4 = .ok (.iload_n 3, 1) := by decide +kernel
theorem dX10_heardAll_5 : decode cX10_heardAll 5 = .ok (.aload_n 0, 1) := by decide +kernel
theorem dX10_heardAll_6 : decode cX10_heardAll 6 = .ok (.getfield 13, 3) := by decide +kernel
theorem dX10_heardAll_9 : decode cX10_heardAll 9 = .ok (.iconst 1, 1) := by decide +kernel
theorem dX10_heardAll_10 : decode cX10_heardAll 10 = .ok (.iaload, 1) := by decide +kernel
theorem dX10_heardAll_11 : decode cX10_heardAll 11 = .ok (.if_icmp .ge 27, 3) := by decide +kernel
theorem dX10_heardAll_14 : decode cX10_heardAll 14 = .ok (.iload_n 2, 1) := by decide +kernel
theorem dX10_heardAll_15 : decode cX10_heardAll 15 = .ok (.iconst 0, 1) := by decide +kernel
theorem dX10_heardAll_16 : decode cX10_heardAll 16 = .ok (.aload_n 0, 1) := by decide +kernel
theorem dX10_heardAll_17 : decode cX10_heardAll 17 = .ok (.getfield 87, 3) := by decide +kernel
theorem dX10_heardAll_20 : decode cX10_heardAll 20 = .ok (.bipush 10, 2) := by decide +kernel
theorem dX10_heardAll_22 : decode cX10_heardAll 22 = .ok (.iload_n 1, 1) := by decide +kernel
theorem dX10_heardAll_23 : decode cX10_heardAll 23 = .ok (.imul, 1) := by decide +kernel
theorem dX10_heardAll_24 : decode cX10_heardAll 24 = .ok (.iload_n 3, 1) := by decide +kernel
theorem dX10_heardAll_25 : decode cX10_heardAll 25 = .ok (.iadd, 1) := by decide +kernel
theorem dX10_heardAll_26 : decode cX10_heardAll 26 = .ok (.iaload, 1) := by decide +kernel
theorem dX10_heardAll_27 : decode cX10_heardAll 27 = .ok (.invokestatic 328, 3) := by decide +kernel
theorem dX10_heardAll_30 : decode cX10_heardAll 30 = .ok (.iadd, 1) := by decide +kernel
theorem dX10_heardAll_31 : decode cX10_heardAll 31 = .ok (.istore_n 2, 1) := by decide +kernel
theorem dX10_heardAll_32 : decode cX10_heardAll 32 = .ok (.iinc 3 1, 3) := by decide +kernel
theorem dX10_heardAll_35 : decode cX10_heardAll 35 = .ok (.goto (-31), 3) := by decide +kernel
theorem dX10_heardAll_38 : decode cX10_heardAll 38 = .ok (.iload_n 2, 1) := by decide +kernel
theorem dX10_heardAll_39 : decode cX10_heardAll 39 = .ok (.ireturn, 1) := by decide +kernel
theorem dX10_motion_0 : decode cX10_motion 0 = .ok (.aload_n 0, 1) := by decide +kernel
theorem dX10_motion_1 : decode cX10_motion 1 = .ok (.aload_n 0, 1) := by decide +kernel
theorem dX10_motion_2 : decode cX10_motion 2 = .ok (.iload_n 1, 1) := by decide +kernel
theorem dX10_motion_3 : decode cX10_motion 3 = .ok (.invokevirtual 401, 3) := by decide +kernel
theorem dX10_motion_6 : decode cX10_motion 6 = .ok (.ifCond .ne 7, 3) := by decide +kernel
theorem dX10_motion_9 : decode cX10_motion 9 = .ok (.iconst 1, 1) := by decide +kernel
theorem dX10_motion_10 : decode cX10_motion 10 = .ok (.goto 17, 3) := by decide +kernel
theorem dX10_motion_13 : decode cX10_motion 13 = .ok (.iload_n 2, 1) := by decide +kernel
theorem dX10_motion_14 : decode cX10_motion 14 = .ok (.ifCond .lt 8, 3) := by decide +kernel
theorem dX10_motion_17 : decode cX10_motion 17 = .ok (.iload_n 2, 1) := by decide +kernel
theorem dX10_motion_18 : decode cX10_motion 18 = .ok (.iconst 3, 1) := by decide +kernel
theorem dX10_motion_19 : decode cX10_motion 19 = .ok (.if_icmp .le 7, 3) := by decide +kernel
theorem dX10_motion_22 : decode cX10_motion 22 = .ok (.iconst 2, 1) := by decide +kernel
theorem dX10_motion_23 : decode cX10_motion 23 = .ok (.goto 4, 3) := by decide +kernel
theorem dX10_motion_26 : decode cX10_motion 26 = .ok (.iconst 0, 1) := by decide +kernel
theorem dX10_motion_27 : decode cX10_motion 27 = .ok (.putfield 130, 3) := by decide +kernel
theorem dX10_motion_30 : decode cX10_motion 30 = .ok (.aload_n 0, 1) := by decide +kernel
theorem dX10_motion_31 : decode cX10_motion 31 = .ok (.getfield 130, 3) := by decide +kernel
theorem dX10_motion_34 : decode cX10_motion 34 = .ok (.ifCond .eq 5, 3) := by decide +kernel
theorem dX10_motion_37 : decode cX10_motion 37 = .ok (.iconst 0, 1) := by decide +kernel
theorem dX10_motion_38 : decode cX10_motion 38 = .ok (.ireturn, 1) := by decide +kernel
theorem dX10_motion_39 : decode cX10_motion 39 = .ok (.iload_n 2, 1) := by decide +kernel
theorem dX10_motion_40 : decode cX10_motion 40 = .ok (.tableswitch 49 0 2 #[28, 35, 42], 28) := by decide +kernel
theorem dX10_motion_68 : decode cX10_motion 68 = .ok (.aload_n 0, 1) := by decide +kernel
theorem dX10_motion_69 : decode cX10_motion 69 = .ok (.getfield 34, 3) := by decide +kernel
theorem dX10_motion_72 : decode cX10_motion 72 = .ok (.iload_n 1, 1) := by decide +kernel
theorem dX10_motion_73 : decode cX10_motion 73 = .ok (.iaload, 1) := by decide +kernel
theorem dX10_motion_74 : decode cX10_motion 74 = .ok (.ireturn, 1) := by decide +kernel
theorem dX10_motion_75 : decode cX10_motion 75 = .ok (.aload_n 0, 1) := by decide +kernel
theorem dX10_motion_76 : decode cX10_motion 76 = .ok (.getfield 81, 3) := by decide +kernel
theorem dX10_motion_79 : decode cX10_motion 79 = .ok (.iload_n 1, 1) := by decide +kernel
theorem dX10_motion_80 : decode cX10_motion 80 = .ok (.iaload, 1) := by decide +kernel
theorem dX10_motion_81 : decode cX10_motion 81 = .ok (.ireturn, 1) := by decide +kernel
theorem dX10_motion_82 : decode cX10_motion 82 = .ok (.aload_n 0, 1) := by decide +kernel
theorem dX10_motion_83 : decode cX10_motion 83 = .ok (.getfield 84, 3) := by decide +kernel
theorem dX10_motion_86 : decode cX10_motion 86 = .ok (.iload_n 1, 1) := by decide +kernel
theorem dX10_motion_87 : decode cX10_motion 87 = .ok (.iaload, 1) := by decide +kernel
theorem dX10_motion_88 : decode cX10_motion 88 = .ok (.ireturn, 1) := by decide +kernel
theorem dX10_motion_89 : decode cX10_motion 89 = .ok (.aload_n 0, 1) := by decide +kernel
theorem dX10_motion_90 : decode cX10_motion 90 = .ok (.getfield 87, 3) := by decide +kernel
theorem dX10_motion_93 : decode cX10_motion 93 = .ok (.iload_n 1, 1) := by decide +kernel
theorem dX10_motion_94 : decode cX10_motion 94 = .ok (.iaload, 1) := by decide +kernel
theorem dX10_motion_95 : decode cX10_motion 95 = .ok (.ireturn, 1) := by decide +kernel
theorem dX10_fork_0 : decode cX10_fork 0 = .ok (.aload_n 0, 1) := by decide +kernel
theorem dX10_fork_1 : decode cX10_fork 1 = .ok (.iconst 0, 1) := by decide +kernel
theorem dX10_fork_2 : decode cX10_fork 2 = .ok (.putfield 130, 3) := by decide +kernel
theorem dX10_fork_5 : decode cX10_fork 5 = .ok (.aload_n 0, 1) := by decide +kernel
theorem dX10_fork_6 : decode cX10_fork 6 = .ok (.iload_n 1, 1) := by decide +kernel
theorem dX10_fork_7 : decode cX10_fork 7 = .ok (.invokevirtual 404, 3) := by decide +kernel
theorem dX10_fork_10 : decode cX10_fork 10 = .ok (.ifCond .ne 5, 3) := by decide +kernel
theorem dX10_fork_13 : decode cX10_fork 13 = .ok (.iconst (-1), 1) := by decide +kernel
theorem dX10_fork_14 : decode cX10_fork 14 = .ok (.ireturn, 1) := by decide +kernel
theorem dX10_fork_15 : decode cX10_fork 15 = .ok (.iload_n 2, 1) := by decide +kernel
theorem dX10_fork_16 : decode cX10_fork 16 = .ok (.tableswitch 93 0 5 #[40, 47, 54, 61, 68, 82], 40) := by decide +kernel
theorem dX10_fork_56 : decode cX10_fork 56 = .ok (.aload_n 0, 1) := by decide +kernel
theorem dX10_fork_57 : decode cX10_fork 57 = .ok (.getfield 78, 3) := by decide +kernel
theorem dX10_fork_60 : decode cX10_fork 60 = .ok (.iload_n 1, 1) := by decide +kernel
theorem dX10_fork_61 : decode cX10_fork 61 = .ok (.iaload, 1) := by decide +kernel
theorem dX10_fork_62 : decode cX10_fork 62 = .ok (.ireturn, 1) := by decide +kernel
theorem dX10_fork_63 : decode cX10_fork 63 = .ok (.aload_n 0, 1) := by decide +kernel
theorem dX10_fork_64 : decode cX10_fork 64 = .ok (.getfield 22, 3) := by decide +kernel
theorem dX10_fork_67 : decode cX10_fork 67 = .ok (.iload_n 1, 1) := by decide +kernel
theorem dX10_fork_68 : decode cX10_fork 68 = .ok (.iaload, 1) := by decide +kernel
theorem dX10_fork_69 : decode cX10_fork 69 = .ok (.ireturn, 1) := by decide +kernel
theorem dX10_fork_70 : decode cX10_fork 70 = .ok (.aload_n 0, 1) := by decide +kernel
theorem dX10_fork_71 : decode cX10_fork 71 = .ok (.getfield 25, 3) := by decide +kernel
theorem dX10_fork_74 : decode cX10_fork 74 = .ok (.iload_n 1, 1) := by decide +kernel
theorem dX10_fork_75 : decode cX10_fork 75 = .ok (.iaload, 1) := by decide +kernel
theorem dX10_fork_76 : decode cX10_fork 76 = .ok (.ireturn, 1) := by decide +kernel
theorem dX10_fork_77 : decode cX10_fork 77 = .ok (.aload_n 0, 1) := by decide +kernel
theorem dX10_fork_78 : decode cX10_fork 78 = .ok (.getfield 28, 3) := by decide +kernel
theorem dX10_fork_81 : decode cX10_fork 81 = .ok (.iload_n 1, 1) := by decide +kernel
theorem dX10_fork_82 : decode cX10_fork 82 = .ok (.iaload, 1) := by decide +kernel
theorem dX10_fork_83 : decode cX10_fork 83 = .ok (.ireturn, 1) := by decide +kernel
theorem dX10_fork_84 : decode cX10_fork 84 = .ok (.aload_n 0, 1) := by decide +kernel
theorem dX10_fork_85 : decode cX10_fork 85 = .ok (.iload_n 1, 1) := by decide +kernel
theorem dX10_fork_86 : decode cX10_fork 86 = .ok (.invokevirtual 365, 3) := by decide +kernel
theorem dX10_fork_89 : decode cX10_fork 89 = .ok (.ifCond .eq 7, 3) := by decide +kernel
theorem dX10_fork_92 : decode cX10_fork 92 = .ok (.iconst 1, 1) := by decide +kernel
theorem dX10_fork_93 : decode cX10_fork 93 = .ok (.goto 4, 3) := by decide +kernel
theorem dX10_fork_96 : decode cX10_fork 96 = .ok (.iconst 0, 1) := by decide +kernel
theorem dX10_fork_97 : decode cX10_fork 97 = .ok (.ireturn, 1) := by decide +kernel
theorem dX10_fork_98 : decode cX10_fork 98 = .ok (.aload_n 0, 1) := by decide +kernel
theorem dX10_fork_99 : decode cX10_fork 99 = .ok (.getfield 75, 3) := by decide +kernel
theorem dX10_fork_102 : decode cX10_fork 102 = .ok (.iconst 0, 1) := by decide +kernel
theorem dX10_fork_103 : decode cX10_fork 103 = .ok (.iaload, 1) := by decide +kernel
theorem dX10_fork_104 : decode cX10_fork 104 = .ok (.iload_n 1, 1) := by decide +kernel
theorem dX10_fork_105 : decode cX10_fork 105 = .ok (.ishr, 1) := by decide +kernel
theorem dX10_fork_106 : decode cX10_fork 106 = .ok (.iconst 1, 1) := by decide +kernel
theorem dX10_fork_107 : decode cX10_fork 107 = .ok (.iand, 1) := by decide +kernel
theorem dX10_fork_108 : decode cX10_fork 108 = .ok (.ireturn, 1) := by decide +kernel
theorem dX10_fork_109 : decode cX10_fork 109 = .ok (.iconst (-1), 1) := by decide +kernel
theorem dX10_fork_110 : decode cX10_fork 110 = .ok (.ireturn, 1) := by decide +kernel
theorem dX10_wet_0 : decode cX10_wet 0 = .ok (.aload_n 0, 1) := by decide +kernel
theorem dX10_wet_1 : decode cX10_wet 1 = .ok (.iconst 0, 1) := by decide +kernel
theorem dX10_wet_2 : decode cX10_wet 2 = .ok (.putfield 130, 3) := by decide +kernel
theorem dX10_wet_5 : decode cX10_wet 5 = .ok (.iload_n 1, 1) := by decide +kernel
theorem dX10_wet_6 : decode cX10_wet 6 = .ok (.ifCond .lt 18, 3) := by decide +kernel
theorem dX10_wet_9 : decode cX10_wet 9 = .ok (.iload_n 1, 1) := by decide +kernel
theorem dX10_wet_10 : decode cX10_wet 10 = .ok (.sipush 9999, 3) := by decide +kernel
theorem dX10_wet_13 : decode cX10_wet 13 = .ok (.if_icmp .gt 11, 3) := by decide +kernel
theorem dX10_wet_16 : decode cX10_wet 16 = .ok (.aload_n 0, 1) := by decide +kernel
theorem dX10_wet_17 : decode cX10_wet 17 = .ok (.iload_n 1, 1) := by decide +kernel
theorem dX10_wet_18 : decode cX10_wet 18 = .ok (.invokevirtual 319, 3) := by decide +kernel
theorem dX10_wet_21 : decode cX10_wet 21 = .ok (.goto 4, 3) := by decide +kernel
theorem dX10_wet_24 : decode cX10_wet 24 = .ok (.iconst (-1), 1) := by decide +kernel
theorem dX10_wet_25 : decode cX10_wet 25 = .ok (.ireturn, 1) := by decide +kernel
theorem dX10_beats_0 : decode cX10_beats 0 = .ok (.aload_n 0, 1) := by decide +kernel
theorem dX10_beats_1 : decode cX10_beats 1 = .ok (.iconst 0, 1) := by decide +kernel
theorem dX10_beats_2 : decode cX10_beats 2 = .ok (.putfield 130, 3) := by decide +kernel
theorem dX10_beats_5 : decode cX10_beats 5 = .ok (.aload_n 0, 1) := by decide +kernel
theorem dX10_beats_6 : decode cX10_beats 6 = .ok (.iload_n 1, 1) := by decide +kernel
theorem dX10_beats_7 : decode cX10_beats 7 = .ok (.invokevirtual 404, 3) := by decide +kernel
theorem dX10_beats_10 : decode cX10_beats 10 = .ok (.ifCond .eq 25, 3) := by decide +kernel
theorem dX10_beats_13 : decode cX10_beats 13 = .ok (.iload_n 2, 1) := by decide +kernel
theorem dX10_beats_14 : decode cX10_beats 14 = .ok (.invokestatic 407, 3) := by decide +kernel
theorem dX10_beats_17 : decode cX10_beats 17 = .ok (.ifCond .eq 18, 3) := by decide +kernel
theorem dX10_beats_20 : decode cX10_beats 20 = .ok (.aload_n 0, 1) := by decide +kernel
theorem dX10_beats_21 : decode cX10_beats 21 = .ok (.iconst 0, 1) := by decide +kernel
theorem dX10_beats_22 : decode cX10_beats 22 = .ok (.aload_n 0, 1) := by decide +kernel
theorem dX10_beats_23 : decode cX10_beats 23 = .ok (.getfield 78, 3) := by decide +kernel
theorem dX10_beats_26 : decode cX10_beats 26 = .ok (.iload_n 1, 1) := by decide +kernel
theorem dX10_beats_27 : decode cX10_beats 27 = .ok (.iaload, 1) := by decide +kernel
theorem dX10_beats_28 : decode cX10_beats 28 = .ok (.iload_n 2, 1) := by decide +kernel
theorem dX10_beats_29 : decode cX10_beats 29 = .ok (.invokevirtual 342, 3) := by decide +kernel
theorem dX10_beats_32 : decode cX10_beats 32 = .ok (.goto 4, 3) := by decide +kernel
theorem dX10_beats_35 : decode cX10_beats 35 = .ok (.iconst (-1), 1) := by decide +kernel
theorem dX10_beats_36 : decode cX10_beats 36 = .ok (.ireturn, 1) := by decide +kernel
theorem dX10_hums_0 : decode cX10_hums 0 = .ok (.aload_n 0, 1) := by decide +kernel
theorem dX10_hums_1 : decode cX10_hums 1 = .ok (.iconst 0, 1) := by decide +kernel
theorem dX10_hums_2 : decode cX10_hums 2 = .ok (.putfield 130, 3) := by decide +kernel
theorem dX10_hums_5 : decode cX10_hums 5 = .ok (.aload_n 0, 1) := by decide +kernel
theorem dX10_hums_6 : decode cX10_hums 6 = .ok (.iload_n 1, 1) := by decide +kernel
theorem dX10_hums_7 : decode cX10_hums 7 = .ok (.invokevirtual 404, 3) := by decide +kernel
theorem dX10_hums_10 : decode cX10_hums 10 = .ok (.ifCond .eq 20, 3) := by decide +kernel
theorem dX10_hums_13 : decode cX10_hums 13 = .ok (.iload_n 2, 1) := by decide +kernel
theorem dX10_hums_14 : decode cX10_hums 14 = .ok (.invokestatic 407, 3) := by decide +kernel
theorem dX10_hums_17 : decode cX10_hums 17 = .ok (.ifCond .eq 13, 3) := by decide +kernel
theorem dX10_hums_20 : decode cX10_hums 20 = .ok (.aload_n 0, 1) := by decide +kernel
theorem dX10_hums_21 : decode cX10_hums 21 = .ok (.iconst 0, 1) := by decide +kernel
theorem dX10_hums_22 : decode cX10_hums 22 = .ok (.iload_n 1, 1) := by decide +kernel
theorem dX10_hums_23 : decode cX10_hums 23 = .ok (.iload_n 2, 1) := by decide +kernel
theorem dX10_hums_24 : decode cX10_hums 24 = .ok (.invokevirtual 382, 3) := by decide +kernel
theorem dX10_hums_27 : decode cX10_hums 27 = .ok (.goto 4, 3) := by decide +kernel
theorem dX10_hums_30 : decode cX10_hums 30 = .ok (.iconst (-1), 1) := by decide +kernel
theorem dX10_hums_31 : decode cX10_hums 31 = .ok (.ireturn, 1) := by decide +kernel
theorem dX10_struck_0 : decode cX10_struck 0 = .ok (.aload_n 0, 1) := by decide +kernel
theorem dX10_struck_1 : decode cX10_struck 1 = .ok (.iconst 0, 1) := by decide +kernel
theorem dX10_struck_2 : decode cX10_struck 2 = .ok (.putfield 130, 3) := by decide +kernel
theorem dX10_struck_5 : decode cX10_struck 5 = .ok (.iload_n 1, 1) := by decide +kernel
theorem dX10_struck_6 : decode cX10_struck 6 = .ok (.invokestatic 407, 3) := by decide +kernel
theorem dX10_struck_9 : decode cX10_struck 9 = .ok (.ifCond .eq 12, 3) := by decide +kernel
theorem dX10_struck_12 : decode cX10_struck 12 = .ok (.iload_n 2, 1) := by decide +kernel
theorem dX10_struck_13 : decode cX10_struck 13 = .ok (.ifCond .lt 8, 3) := by decide +kernel
theorem dX10_struck_16 : decode cX10_struck 16 = .ok (.iload_n 2, 1) := by decide +kernel
theorem dX10_struck_17 : decode cX10_struck 17 = .ok (.iconst 2, 1) := by decide +kernel
theorem dX10_struck_18 : decode cX10_struck 18 = .ok (.if_icmp .le 5, 3) := by decide +kernel
theorem dX10_struck_21 : decode cX10_struck 21 = .ok (.iconst (-1), 1) := by decide +kernel
theorem dX10_struck_22 : decode cX10_struck 22 = .ok (.ireturn, 1) := by decide +kernel
theorem dX10_struck_23 : decode cX10_struck 23 = .ok (.iload_n 2, 1) := by decide +kernel
theorem dX10_struck_24 : decode cX10_struck 24 = .ok (.ifCond .ne 10, 3) := by decide +kernel
theorem dX10_struck_27 : decode cX10_struck 27 = .ok (.aload_n 0, 1) := by decide +kernel
theorem dX10_struck_28 : decode cX10_struck 28 = .ok (.iconst 0, 1) := by decide +kernel
theorem dX10_struck_29 : decode cX10_struck 29 = .ok (.iload_n 1, 1) := by decide +kernel
theorem dX10_struck_30 : decode cX10_struck 30 = .ok (.invokevirtual 385, 3) := by decide +kernel
theorem dX10_struck_33 : decode cX10_struck 33 = .ok (.ireturn, 1) := by decide +kernel
theorem dX10_struck_34 : decode cX10_struck 34 = .ok (.iload_n 2, 1) := by decide +kernel
theorem dX10_struck_35 : decode cX10_struck 35 = .ok (.iconst 1, 1) := by decide +kernel
theorem dX10_struck_36 : decode cX10_struck 36 = .ok (.if_icmp .ne 24, 3) := by decide +kernel
theorem dX10_struck_39 : decode cX10_struck 39 = .ok (.aload_n 0, 1) := by decide +kernel
theorem dX10_struck_40 : decode cX10_struck 40 = .ok (.iconst 0, 1) := by decide +kernel
theorem dX10_struck_41 : decode cX10_struck 41 = .ok (.iload_n 1, 1) := by decide +kernel
theorem dX10_struck_42 : decode cX10_struck 42 = .ok (.aload_n 0, 1) := by decide +kernel
theorem dX10_struck_43 : decode cX10_struck 43 = .ok (.iconst 0, 1) := by decide +kernel
theorem dX10_struck_44 : decode cX10_struck 44 = .ok (.iload_n 1, 1) := by decide +kernel
theorem dX10_struck_45 : decode cX10_struck 45 = .ok (.invokevirtual 385, 3) := by decide +kernel
theorem dX10_struck_48 : decode cX10_struck 48 = .ok (.invokevirtual 388, 3) := by decide +kernel
theorem dX10_struck_51 : decode cX10_struck 51 = .ok (.ifCond .eq 7, 3) := by decide +kernel
theorem dX10_struck_54 : decode cX10_struck 54 = .ok (.iconst 1, 1) := by decide +kernel
theorem dX10_struck_55 : decode cX10_struck 55 = .ok (.goto 4, 3) := by decide +kernel
theorem dX10_struck_58 : decode cX10_struck 58 = .ok (.iconst 0, 1) := by decide +kernel
theorem dX10_struck_59 : decode cX10_struck 59 = .ok (.ireturn, 1) := by decide +kernel
theorem dX10_struck_60 : decode cX10_struck 60 = .ok (.iconst 0, 1) := by decide +kernel
theorem dX10_struck_61 : decode cX10_struck 61 = .ok (.istore_n 3, 1) := by decide +kernel
theorem dX10_struck_62 : decode cX10_struck 62 = .ok (.iconst 0, 1) := by decide +kernel
theorem dX10_struck_63 : decode cX10_struck 63 = .ok (.istore 4, 2) := by decide +kernel
theorem dX10_struck_65 : decode cX10_struck 65 = .ok (.iload 4, 2) := by decide +kernel
theorem dX10_struck_67 : decode cX10_struck 67 = .ok (.aload_n 0, 1) := by decide +kernel
theorem dX10_struck_68 : decode cX10_struck 68 = .ok (.getfield 13, 3) := by decide +kernel
theorem dX10_struck_71 : decode cX10_struck 71 = .ok (.iconst 0, 1) := by decide +kernel
theorem dX10_struck_72 : decode cX10_struck 72 = .ok (.iaload, 1) := by decide +kernel
theorem dX10_struck_73 : decode cX10_struck 73 = .ok (.if_icmp .ge 28, 3) := by decide +kernel
theorem dX10_struck_76 : decode cX10_struck 76 = .ok (.iload_n 3, 1) := by decide +kernel
theorem dX10_struck_77 : decode cX10_struck 77 = .ok (.aload_n 0, 1) := by decide +kernel
theorem dX10_struck_78 : decode cX10_struck 78 = .ok (.iconst 0, 1) := by decide +kernel
theorem dX10_struck_79 : decode cX10_struck 79 = .ok (.iload 4, 2) := by decide +kernel
theorem dX10_struck_81 : decode cX10_struck 81 = .ok (.iload_n 1, 1) := by decide +kernel
theorem dX10_struck_82 : decode cX10_struck 82 = .ok (.invokevirtual 382, 3) := by decide +kernel
theorem dX10_struck_85 : decode cX10_struck 85 = .ok (.ifCond .le 7, 3) := by decide +kernel
theorem dX10_struck_88 : decode cX10_struck 88 = .ok (.iconst 1, 1) := by decide +kernel
theorem dX10_struck_89 : decode cX10_struck 89 = .ok (.goto 4, 3) := by decide +kernel
theorem dX10_struck_92 : decode cX10_struck 92 = .ok (.iconst 0, 1) := by decide +kernel
theorem dX10_struck_93 : decode cX10_struck 93 = .ok (.iadd, 1) := by decide +kernel
theorem dX10_struck_94 : decode cX10_struck 94 = .ok (.istore_n 3, 1) := by decide +kernel
theorem dX10_struck_95 : decode cX10_struck 95 = .ok (.iinc 4 1, 3) := by decide +kernel
theorem dX10_struck_98 : decode cX10_struck 98 = .ok (.goto (-33), 3) := by decide +kernel
theorem dX10_struck_101 : decode cX10_struck 101 = .ok (.iload_n 3, 1) := by decide +kernel
theorem dX10_struck_102 : decode cX10_struck 102 = .ok (.ireturn, 1) := by decide +kernel
theorem dX10_law_0 : decode cX10_law 0 = .ok (.aload_n 0, 1) := by decide +kernel
theorem dX10_law_1 : decode cX10_law 1 = .ok (.iconst 0, 1) := by decide +kernel
theorem dX10_law_2 : decode cX10_law 2 = .ok (.putfield 130, 3) := by decide +kernel
theorem dX10_law_5 : decode cX10_law 5 = .ok (.iload_n 1, 1) := by decide +kernel
theorem dX10_law_6 : decode cX10_law 6 = .ok (.ifCond .lt 41, 3) := by decide +kernel
theorem dX10_law_9 : decode cX10_law 9 = .ok (.iload_n 1, 1) := by decide +kernel
theorem dX10_law_10 : decode cX10_law 10 = .ok (.iconst 2, 1) := by decide +kernel
theorem dX10_law_11 : decode cX10_law 11 = .ok (.if_icmp .gt 36, 3) := by decide +kernel
theorem dX10_law_14 : decode cX10_law 14 = .ok (.aload_n 0, 1) := by decide +kernel
theorem dX10_law_15 : decode cX10_law 15 = .ok (.iload_n 1, 1) := by decide +kernel
theorem dX10_law_16 : decode cX10_law 16 = .ok (.invokevirtual 350, 3) := by decide +kernel
theorem dX10_law_19 : decode cX10_law 19 = .ok (.ifCond .eq 28, 3) := by decide +kernel
theorem dX10_law_22 : decode cX10_law 22 = .ok (.iload_n 1, 1) := by decide +kernel
theorem dX10_law_23 : decode cX10_law 23 = .ok (.iconst 2, 1) := by decide +kernel
theorem dX10_law_24 : decode cX10_law 24 = .ok (.if_icmp .eq 11, 3) := by decide +kernel
theorem dX10_law_27 : decode cX10_law 27 = .ok (.aload_n 0, 1) := by decide +kernel
theorem dX10_law_28 : decode cX10_law 28 = .ok (.iload_n 2, 1) := by decide +kernel
theorem dX10_law_29 : decode cX10_law 29 = .ok (.invokevirtual 404, 3) := by decide +kernel
theorem dX10_law_32 : decode cX10_law 32 = .ok (.ifCond .eq 15, 3) := by decide +kernel
theorem dX10_law_35 : decode cX10_law 35 = .ok (.iload_n 1, 1) := by decide +kernel
theorem dX10_law_36 : decode cX10_law 36 = .ok (.iconst 1, 1) := by decide +kernel
theorem dX10_law_37 : decode cX10_law 37 = .ok (.if_icmp .eq 14, 3) := by decide +kernel
theorem dX10_law_40 : decode cX10_law 40 = .ok (.iload_n 3, 1) := by decide +kernel
theorem dX10_law_41 : decode cX10_law 41 = .ok (.invokestatic 407, 3) := by decide +kernel
theorem dX10_law_44 : decode cX10_law 44 = .ok (.ifCond .ne 7, 3) := by decide +kernel
theorem dX10_law_47 : decode cX10_law 47 = .ok (.ldc2_w 412, 3) := by decide +kernel
theorem dX10_law_50 : decode cX10_law 50 = .ok (.lreturn, 1) := by decide +kernel
theorem dX10_law_51 : decode cX10_law 51 = .ok (.iload_n 1, 1) := by decide +kernel
theorem dX10_law_52 : decode cX10_law 52 = .ok (.ifCond .ne 19, 3) := by decide +kernel
theorem dX10_law_55 : decode cX10_law 55 = .ok (.aload_n 0, 1) := by decide +kernel
theorem dX10_law_56 : decode cX10_law 56 = .ok (.iconst 0, 1) := by decide +kernel
theorem dX10_law_57 : decode cX10_law 57 = .ok (.iload_n 2, 1) := by decide +kernel
theorem dX10_law_58 : decode cX10_law 58 = .ok (.aload_n 0, 1) := by decide +kernel
theorem dX10_law_59 : decode cX10_law 59 = .ok (.getfield 78, 3) := by decide +kernel
theorem dX10_law_62 : decode cX10_law 62 = .ok (.iload_n 2, 1) := by decide +kernel
theorem dX10_law_63 : decode cX10_law 63 = .ok (.iaload, 1) := by decide +kernel
theorem dX10_law_64 : decode cX10_law 64 = .ok (.iload_n 3, 1) := by decide +kernel
theorem dX10_law_65 : decode cX10_law 65 = .ok (.invokevirtual 361, 3) := by decide +kernel
theorem dX10_law_68 : decode cX10_law 68 = .ok (.goto 36, 3) := by decide +kernel
theorem dX10_law_71 : decode cX10_law 71 = .ok (.iload_n 1, 1) := by decide +kernel
theorem dX10_law_72 : decode cX10_law 72 = .ok (.iconst 1, 1) := by decide +kernel
theorem dX10_law_73 : decode cX10_law 73 = .ok (.if_icmp .ne 12, 3) := by decide +kernel
theorem dX10_law_76 : decode cX10_law 76 = .ok (.aload_n 0, 1) := by decide +kernel
theorem dX10_law_77 : decode cX10_law 77 = .ok (.iconst 0, 1) := by decide +kernel
theorem dX10_law_78 : decode cX10_law 78 = .ok (.iload_n 2, 1) := by decide +kernel
theorem dX10_law_79 : decode cX10_law 79 = .ok (.invokevirtual 395, 3) := by decide +kernel
theorem dX10_law_82 : decode cX10_law 82 = .ok (.goto 22, 3) := by decide +kernel
theorem dX10_law_85 : decode cX10_law 85 = .ok (.aload_n 0, 1) := by decide +kernel
theorem dX10_law_86 : decode cX10_law 86 = .ok (.iconst 0, 1) := by decide +kernel
theorem dX10_law_87 : decode cX10_law 87 = .ok (.iload_n 3, 1) := by decide +kernel
theorem dX10_law_88 : decode cX10_law 88 = .ok (.invokevirtual 385, 3) := by decide +kernel
theorem dX10_law_91 : decode cX10_law 91 = .ok (.istore 4, 2) := by decide +kernel
theorem dX10_law_93 : decode cX10_law 93 = .ok (.aload_n 0, 1) := by decide +kernel
theorem dX10_law_94 : decode cX10_law 94 = .ok (.iconst 0, 1) := by decide +kernel
theorem dX10_law_95 : decode cX10_law 95 = .ok (.iconst 0, 1) := by decide +kernel
theorem dX10_law_96 : decode cX10_law 96 = .ok (.iload_n 3, 1) := by decide +kernel
theorem dX10_law_97 : decode cX10_law 97 = .ok (.iconst 0, 1) := by decide +kernel
theorem dX10_law_98 : decode cX10_law 98 = .ok (.iload 4, 2) := by decide +kernel
theorem dX10_law_100 : decode cX10_law 100 = .ok (.iconst 0, 1) := by decide +kernel
theorem dX10_law_101 : decode cX10_law 101 = .ok (.invokevirtual 346, 3) := by decide +kernel
theorem dX10_law_104 : decode cX10_law 104 = .ok (.aload_n 0, 1) := by decide +kernel
theorem dX10_law_105 : decode cX10_law 105 = .ok (.iload_n 1, 1) := by decide +kernel
theorem dX10_law_106 : decode cX10_law 106 = .ok (.invokevirtual 353, 3) := by decide +kernel
theorem dX10_law_109 : decode cX10_law 109 = .ok (.ifCond .eq 12, 3) := by decide +kernel
theorem dX10_law_112 : decode cX10_law 112 = .ok (.aload_n 0, 1) := by decide +kernel
theorem dX10_law_113 : decode cX10_law 113 = .ok (.getfield 63, 3) := by decide +kernel
theorem dX10_law_116 : decode cX10_law 116 = .ok (.iconst 0, 1) := by decide +kernel
theorem dX10_law_117 : decode cX10_law 117 = .ok (.laload, 1) := by decide +kernel
theorem dX10_law_118 : decode cX10_law 118 = .ok (.goto 6, 3) := by decide +kernel
theorem dX10_law_121 : decode cX10_law 121 = .ok (.ldc2_w 412, 3) := by decide +kernel
theorem dX10_law_124 : decode cX10_law 124 = .ok (.lreturn, 1) := by decide +kernel
theorem dX10_keepNow_0 : decode cX10_keepNow 0 = .ok (.aload_n 0, 1) := by decide +kernel
theorem dX10_keepNow_1 : decode cX10_keepNow 1 = .ok (.getfield 290, 3) := by decide +kernel
theorem dX10_keepNow_4 : decode cX10_keepNow 4 = .ok (.bipush 20, 2) := by decide +kernel
theorem dX10_keepNow_6 : decode cX10_keepNow 6 = .ok (.if_icmp .ne 39, 3) := by decide +kernel
theorem dX10_keepNow_9 : decode cX10_keepNow 9 = .ok (.iconst 1, 1) := by decide +kernel
theorem dX10_keepNow_10 : decode cX10_keepNow 10 = .ok (.istore_n 1, 1) := by decide +kernel
theorem dX10_keepNow_11 : decode cX10_keepNow 11 = .ok (.iload_n 1, 1) := by decide +kernel
theorem dX10_keepNow_12 : decode cX10_keepNow 12 = .ok (.bipush 20, 2) := by decide +kernel
theorem dX10_keepNow_14 : decode cX10_keepNow 14 = .ok (.if_icmp .ge 21, 3) := by decide +kernel
theorem dX10_keepNow_17 : decode cX10_keepNow 17 = .ok (.aload_n 0, 1) := by decide +kernel
theorem dX10_keepNow_18 : decode cX10_keepNow 18 = .ok (.iconst 3, 1) := by decide +kernel
theorem dX10_keepNow_19 : decode cX10_keepNow 19 = .ok (.iload_n 1, 1) := by decide +kernel
theorem dX10_keepNow_20 : decode cX10_keepNow 20 = .ok (.iadd, 1) := by decide +kernel
theorem dX10_keepNow_21 : decode cX10_keepNow 21 = .ok (.iconst 1, 1) := by decide +kernel
theorem dX10_keepNow_22 : decode cX10_keepNow 22 = .ok (.isub, 1) := by decide +kernel
theorem dX10_keepNow_23 : decode cX10_keepNow 23 = .ok (.iconst 3, 1) := by decide +kernel
theorem dX10_keepNow_24 : decode cX10_keepNow 24 = .ok (.iload_n 1, 1) := by decide +kernel
theorem dX10_keepNow_25 : decode cX10_keepNow 25 = .ok (.iadd, 1) := by decide +kernel
theorem dX10_keepNow_26 : decode cX10_keepNow 26 = .ok (.invokevirtual 414, 3) := by decide +kernel
theorem dX10_keepNow_29 : decode cX10_keepNow 29 = .ok (.iinc 1 1, 3) := by decide +kernel
theorem dX10_keepNow_32 : decode cX10_keepNow 32 = .ok (.goto (-21), 3) := by decide +kernel
theorem dX10_keepNow_35 : decode cX10_keepNow 35 = .ok (.aload_n 0, 1) := by decide +kernel
theorem dX10_keepNow_36 : decode cX10_keepNow 36 = .ok (.dup, 1) := by decide +kernel
theorem dX10_keepNow_37 : decode cX10_keepNow 37 = .ok (.getfield 290, 3) := by decide +kernel
theorem dX10_keepNow_40 : decode cX10_keepNow 40 = .ok (.iconst 1, 1) := by decide +kernel
theorem dX10_keepNow_41 : decode cX10_keepNow 41 = .ok (.isub, 1) := by decide +kernel
theorem dX10_keepNow_42 : decode cX10_keepNow 42 = .ok (.putfield 290, 3) := by decide +kernel
theorem dX10_keepNow_45 : decode cX10_keepNow 45 = .ok (.aload_n 0, 1) := by decide +kernel
theorem dX10_keepNow_46 : decode cX10_keepNow 46 = .ok (.iconst 3, 1) := by decide +kernel
theorem dX10_keepNow_47 : decode cX10_keepNow 47 = .ok (.aload_n 0, 1) := by decide +kernel
theorem dX10_keepNow_48 : decode cX10_keepNow 48 = .ok (.getfield 290, 3) := by decide +kernel
theorem dX10_keepNow_51 : decode cX10_keepNow 51 = .ok (.iadd, 1) := by decide +kernel
theorem dX10_keepNow_52 : decode cX10_keepNow 52 = .ok (.iconst 0, 1) := by decide +kernel
theorem dX10_keepNow_53 : decode cX10_keepNow 53 = .ok (.invokevirtual 414, 3) := by decide +kernel
theorem dX10_keepNow_56 : decode cX10_keepNow 56 = .ok (.aload_n 0, 1) := by decide +kernel
theorem dX10_keepNow_57 : decode cX10_keepNow 57 = .ok (.dup, 1) := by decide +kernel
theorem dX10_keepNow_58 : decode cX10_keepNow 58 = .ok (.getfield 290, 3) := by decide +kernel
theorem dX10_keepNow_61 : decode cX10_keepNow 61 = .ok (.iconst 1, 1) := by decide +kernel
theorem dX10_keepNow_62 : decode cX10_keepNow 62 = .ok (.iadd, 1) := by decide +kernel
theorem dX10_keepNow_63 : decode cX10_keepNow 63 = .ok (.putfield 290, 3) := by decide +kernel
theorem dX10_keepNow_66 : decode cX10_keepNow 66 = .ok (.return_, 1) := by decide +kernel
theorem dX10_touch_0 : decode cX10_touch 0 = .ok (.aload_n 0, 1) := by decide +kernel
theorem dX10_touch_1 : decode cX10_touch 1 = .ok (.iconst 0, 1) := by decide +kernel
theorem dX10_touch_2 : decode cX10_touch 2 = .ok (.putfield 130, 3) := by decide +kernel
theorem dX10_touch_5 : decode cX10_touch 5 = .ok (.aload_n 0, 1) := by decide +kernel
theorem dX10_touch_6 : decode cX10_touch 6 = .ok (.iload_n 1, 1) := by decide +kernel
theorem dX10_touch_7 : decode cX10_touch 7 = .ok (.invokevirtual 404, 3) := by decide +kernel
theorem dX10_touch_10 : decode cX10_touch 10 = .ok (.ifCond .eq 26, 3) := by decide +kernel
theorem dX10_touch_13 : decode cX10_touch 13 = .ok (.aload_n 0, 1) := by decide +kernel
theorem dX10_touch_14 : decode cX10_touch 14 = .ok (.getfield 75, 3) := by decide +kernel
theorem dX10_touch_17 : decode cX10_touch 17 = .ok (.iconst 0, 1) := by decide +kernel
theorem dX10_touch_18 : decode cX10_touch 18 = .ok (.iaload, 1) := by decide +kernel
theorem dX10_touch_19 : decode cX10_touch 19 = .ok (.iload_n 1, 1) := by decide +kernel
theorem dX10_touch_20 : decode cX10_touch 20 = .ok (.ishr, 1) := by decide +kernel
theorem dX10_touch_21 : decode cX10_touch 21 = .ok (.iconst 1, 1) := by decide +kernel
theorem dX10_touch_22 : decode cX10_touch 22 = .ok (.iand, 1) := by decide +kernel
theorem dX10_touch_23 : decode cX10_touch 23 = .ok (.iconst 1, 1) := by decide +kernel
theorem dX10_touch_24 : decode cX10_touch 24 = .ok (.if_icmp .ne 7, 3) := by decide +kernel
theorem dX10_touch_27 : decode cX10_touch 27 = .ok (.iconst 1, 1) := by decide +kernel
theorem dX10_touch_28 : decode cX10_touch 28 = .ok (.goto 4, 3) := by decide +kernel
theorem dX10_touch_31 : decode cX10_touch 31 = .ok (.iconst 0, 1) := by decide +kernel
theorem dX10_touch_32 : decode cX10_touch 32 = .ok (.iload_n 2, 1) := by decide +kernel
theorem dX10_touch_33 : decode cX10_touch 33 = .ok (.if_icmp .ne 5, 3) := by decide +kernel
theorem dX10_touch_36 : decode cX10_touch 36 = .ok (.iconst 0, 1) := by decide +kernel
theorem dX10_touch_37 : decode cX10_touch 37 = .ok (.ireturn, 1) := by decide +kernel
theorem dX10_touch_38 : decode cX10_touch 38 = .ok (.aload_n 0, 1) := by decide +kernel
theorem dX10_touch_39 : decode cX10_touch 39 = .ok (.invokevirtual 417, 3) := by decide +kernel
theorem dX10_touch_42 : decode cX10_touch 42 = .ok (.aload_n 0, 1) := by decide +kernel
theorem dX10_touch_43 : decode cX10_touch 43 = .ok (.getfield 75, 3) := by decide +kernel
theorem dX10_touch_46 : decode cX10_touch 46 = .ok (.iconst 0, 1) := by decide +kernel
theorem dX10_touch_47 : decode cX10_touch 47 = .ok (.dup2, 1) := by decide +kernel
theorem dX10_touch_48 : decode cX10_touch 48 = .ok (.iaload, 1) := by decide +kernel
theorem dX10_touch_49 : decode cX10_touch 49 = .ok (.iconst 1, 1) := by decide +kernel
theorem dX10_touch_50 : decode cX10_touch 50 = .ok (.iload_n 1, 1) := by decide +kernel
theorem dX10_touch_51 : decode cX10_touch 51 = .ok (.ishl, 1) := by decide +kernel
theorem dX10_touch_52 : decode cX10_touch 52 = .ok (.ixor, 1) := by decide +kernel
theorem dX10_touch_53 : decode cX10_touch 53 = .ok (.iastore, 1) := by decide +kernel
theorem dX10_touch_54 : decode cX10_touch 54 = .ok (.iconst 1, 1) := by decide +kernel
theorem dX10_touch_55 : decode cX10_touch 55 = .ok (.ireturn, 1) := by decide +kernel
theorem dX10_file_0 : decode cX10_file 0 = .ok (.aload_n 0, 1) := by decide +kernel
theorem dX10_file_1 : decode cX10_file 1 = .ok (.iconst 0, 1) := by decide +kernel
theorem dX10_file_2 : decode cX10_file 2 = .ok (.putfield 130, 3) := by decide +kernel
theorem dX10_file_5 : decode cX10_file 5 = .ok (.aload_n 0, 1) := by decide +kernel
theorem dX10_file_6 : decode cX10_file 6 = .ok (.iload_n 1, 1) := by decide +kernel
theorem dX10_file_7 : decode cX10_file 7 = .ok (.invokevirtual 404, 3) := by decide +kernel
theorem dX10_file_10 : decode cX10_file 10 = .ok (.ifCond .eq 33, 3) := by decide +kernel
theorem dX10_file_13 : decode cX10_file 13 = .ok (.iload_n 2, 1) := by decide +kernel
theorem dX10_file_14 : decode cX10_file 14 = .ok (.bipush (-99), 2) := by decide +kernel
theorem dX10_file_16 : decode cX10_file 16 = .ok (.if_icmp .lt 27, 3) := by decide +kernel
theorem dX10_file_19 : decode cX10_file 19 = .ok (.iload_n 2, 1) := by decide +kernel
theorem dX10_file_20 : decode cX10_file 20 = .ok (.bipush 99, 2) := by decide +kernel
theorem dX10_file_22 : decode cX10_file 22 = .ok (.if_icmp .gt 21, 3) := by decide +kernel
theorem dX10_file_25 : decode cX10_file 25 = .ok (.iload_n 2, 1) := by decide +kernel
theorem dX10_file_26 : decode cX10_file 26 = .ok (.ifCond .eq 17, 3) := by decide +kernel
theorem dX10_file_29 : decode cX10_file 29 = .ok (.aload_n 0, 1) := by decide +kernel
theorem dX10_file_30 : decode cX10_file 30 = .ok (.getfield 78, 3) := by decide +kernel
theorem dX10_file_33 : decode cX10_file 33 = .ok (.iload_n 1, 1) := by decide +kernel
theorem dX10_file_34 : decode cX10_file 34 = .ok (.iaload, 1) := by decide +kernel
theorem dX10_file_35 : decode cX10_file 35 = .ok (.iload_n 2, 1) := by decide +kernel
theorem dX10_file_36 : decode cX10_file 36 = .ok (.iadd, 1) := by decide +kernel
theorem dX10_file_37 : decode cX10_file 37 = .ok (.invokestatic 407, 3) := by decide +kernel
theorem dX10_file_40 : decode cX10_file 40 = .ok (.ifCond .ne 5, 3) := by decide +kernel
theorem dX10_file_43 : decode cX10_file 43 = .ok (.iconst (-1), 1) := by decide +kernel
theorem dX10_file_44 : decode cX10_file 44 = .ok (.ireturn, 1) := by decide +kernel
theorem dX10_file_45 : decode cX10_file 45 = .ok (.aload_n 0, 1) := by decide +kernel
theorem dX10_file_46 : decode cX10_file 46 = .ok (.getfield 13, 3) := by decide +kernel
theorem dX10_file_49 : decode cX10_file 49 = .ok (.iconst 5, 1) := by decide +kernel
theorem dX10_file_50 : decode cX10_file 50 = .ok (.iaload, 1) := by decide +kernel
theorem dX10_file_51 : decode cX10_file 51 = .ok (.iload_n 2, 1) := by decide +kernel
theorem dX10_file_52 : decode cX10_file 52 = .ok (.invokestatic 334, 3) := by decide +kernel
theorem dX10_file_55 : decode cX10_file 55 = .ok (.imul, 1) := by decide +kernel
theorem dX10_file_56 : decode cX10_file 56 = .ok (.istore_n 3, 1) := by decide +kernel
theorem dX10_file_57 : decode cX10_file 57 = .ok (.iload_n 3, 1) := by decide +kernel
theorem dX10_file_58 : decode cX10_file 58 = .ok (.aload_n 0, 1) := by decide +kernel
theorem dX10_file_59 : decode cX10_file 59 = .ok (.getfield 69, 3) := by decide +kernel
theorem dX10_file_62 : decode cX10_file 62 = .ok (.iconst 0, 1) := by decide +kernel
theorem dX10_file_63 : decode cX10_file 63 = .ok (.iaload, 1) := by decide +kernel
theorem dX10_file_64 : decode cX10_file 64 = .ok (.if_icmp .le 6, 3) := by decide +kernel
theorem dX10_file_67 : decode cX10_file 67 = .ok (.bipush (-2), 2) := by decide +kernel
theorem dX10_file_69 : decode cX10_file 69 = .ok (.ireturn, 1) := by decide +kernel
theorem dX10_file_70 : decode cX10_file 70 = .ok (.aload_n 0, 1) := by decide +kernel
theorem dX10_file_71 : decode cX10_file 71 = .ok (.invokevirtual 417, 3) := by decide +kernel
theorem dX10_file_74 : decode cX10_file 74 = .ok (.aload_n 0, 1) := by decide +kernel
theorem dX10_file_75 : decode cX10_file 75 = .ok (.getfield 69, 3) := by decide +kernel
theorem dX10_file_78 : decode cX10_file 78 = .ok (.iconst 0, 1) := by decide +kernel
theorem dX10_file_79 : decode cX10_file 79 = .ok (.dup2, 1) := by decide +kernel
theorem dX10_file_80 : decode cX10_file 80 = .ok (.iaload, 1) := by decide +kernel
theorem dX10_file_81 : decode cX10_file 81 = .ok (.iload_n 3, 1) := by decide +kernel
theorem dX10_file_82 : decode cX10_file 82 = .ok (.isub, 1) := by decide +kernel
theorem dX10_file_83 : decode cX10_file 83 = .ok (.iastore, 1) := by decide +kernel
theorem dX10_file_84 : decode cX10_file 84 = .ok (.aload_n 0, 1) := by decide +kernel
theorem dX10_file_85 : decode cX10_file 85 = .ok (.getfield 72, 3) := by decide +kernel
theorem dX10_file_88 : decode cX10_file 88 = .ok (.iconst 0, 1) := by decide +kernel
theorem dX10_file_89 : decode cX10_file 89 = .ok (.dup2, 1) := by decide +kernel
theorem dX10_file_90 : decode cX10_file 90 = .ok (.iaload, 1) := by decide +kernel
theorem dX10_file_91 : decode cX10_file 91 = .ok (.iload_n 3, 1) := by decide +kernel
theorem dX10_file_92 : decode cX10_file 92 = .ok (.iadd, 1) := by decide +kernel
theorem dX10_file_93 : decode cX10_file 93 = .ok (.iastore, 1) := by decide +kernel
theorem dX10_file_94 : decode cX10_file 94 = .ok (.aload_n 0, 1) := by decide +kernel
theorem dX10_file_95 : decode cX10_file 95 = .ok (.getfield 78, 3) := by decide +kernel
theorem dX10_file_98 : decode cX10_file 98 = .ok (.iload_n 1, 1) := by decide +kernel
theorem dX10_file_99 : decode cX10_file 99 = .ok (.dup2, 1) := by decide +kernel
theorem dX10_file_100 : decode cX10_file 100 = .ok (.iaload, 1) := by decide +kernel
theorem dX10_file_101 : decode cX10_file 101 = .ok (.iload_n 2, 1) := by decide +kernel
theorem dX10_file_102 : decode cX10_file 102 = .ok (.iadd, 1) := by decide +kernel
theorem dX10_file_103 : decode cX10_file 103 = .ok (.iastore, 1) := by decide +kernel
theorem dX10_file_104 : decode cX10_file 104 = .ok (.aload_n 0, 1) := by decide +kernel
theorem dX10_file_105 : decode cX10_file 105 = .ok (.getfield 78, 3) := by decide +kernel
theorem dX10_file_108 : decode cX10_file 108 = .ok (.iload_n 1, 1) := by decide +kernel
theorem dX10_file_109 : decode cX10_file 109 = .ok (.iaload, 1) := by decide +kernel
theorem dX10_file_110 : decode cX10_file 110 = .ok (.ireturn, 1) := by decide +kernel
theorem dX10_put_0 : decode cX10_put 0 = .ok (.aload_n 0, 1) := by decide +kernel
theorem dX10_put_1 : decode cX10_put 1 = .ok (.iconst 0, 1) := by decide +kernel
theorem dX10_put_2 : decode cX10_put 2 = .ok (.putfield 130, 3) := by decide +kernel
theorem dX10_put_5 : decode cX10_put 5 = .ok (.aload_n 0, 1) := by decide +kernel
theorem dX10_put_6 : decode cX10_put 6 = .ok (.iload_n 1, 1) := by decide +kernel
theorem dX10_put_7 : decode cX10_put 7 = .ok (.invokevirtual 401, 3) := by decide +kernel
theorem dX10_put_10 : decode cX10_put 10 = .ok (.ifCond .eq 40, 3) := by decide +kernel
theorem dX10_put_13 : decode cX10_put 13 = .ok (.iload_n 2, 1) := by decide +kernel
theorem dX10_put_14 : decode cX10_put 14 = .ok (.aload_n 0, 1) := by decide +kernel
theorem dX10_put_15 : decode cX10_put 15 = .ok (.getfield 66, 3) := by decide +kernel
theorem dX10_put_18 : decode cX10_put 18 = .ok (.iconst 0, 1) := by decide +kernel
theorem dX10_put_19 : decode cX10_put 19 = .ok (.iaload, 1) := by decide +kernel
theorem dX10_put_20 : decode cX10_put 20 = .ok (.if_icmp .lt 30, 3) := by decide +kernel
theorem dX10_put_23 : decode cX10_put 23 = .ok (.iload_n 2, 1) := by decide +kernel
theorem dX10_put_24 : decode cX10_put 24 = .ok (.sipush 9999, 3) := by decide +kernel
theorem dX10_put_27 : decode cX10_put 27 = .ok (.if_icmp .gt 23, 3) := by decide +kernel
theorem dX10_put_30 : decode cX10_put 30 = .ok (.aload_n 0, 1) := by decide +kernel
theorem dX10_put_31 : decode cX10_put 31 = .ok (.getfield 84, 3) := by decide +kernel
theorem dX10_put_34 : decode cX10_put 34 = .ok (.iload_n 1, 1) := by decide +kernel
theorem dX10_put_35 : decode cX10_put 35 = .ok (.iaload, 1) := by decide +kernel
theorem dX10_put_36 : decode cX10_put 36 = .ok (.iconst (-1), 1) := by decide +kernel
theorem dX10_put_37 : decode cX10_put 37 = .ok (.if_icmp .ne 13, 3) := by decide +kernel
theorem dX10_put_40 : decode cX10_put 40 = .ok (.aload_n 0, 1) := by decide +kernel
theorem dX10_put_41 : decode cX10_put 41 = .ok (.getfield 81, 3) := by decide +kernel
theorem dX10_put_44 : decode cX10_put 44 = .ok (.iload_n 1, 1) := by decide +kernel
theorem dX10_put_45 : decode cX10_put 45 = .ok (.iaload, 1) := by decide +kernel
theorem dX10_put_46 : decode cX10_put 46 = .ok (.iload_n 2, 1) := by decide +kernel
theorem dX10_put_47 : decode cX10_put 47 = .ok (.if_icmp .ne 5, 3) := by decide +kernel
theorem dX10_put_50 : decode cX10_put 50 = .ok (.iconst 0, 1) := by decide +kernel
theorem dX10_put_51 : decode cX10_put 51 = .ok (.ireturn, 1) := by decide +kernel
theorem dX10_put_52 : decode cX10_put 52 = .ok (.aload_n 0, 1) := by decide +kernel
theorem dX10_put_53 : decode cX10_put 53 = .ok (.invokevirtual 417, 3) := by decide +kernel
theorem dX10_put_56 : decode cX10_put 56 = .ok (.aload_n 0, 1) := by decide +kernel
theorem dX10_put_57 : decode cX10_put 57 = .ok (.getfield 81, 3) := by decide +kernel
theorem dX10_put_60 : decode cX10_put 60 = .ok (.iload_n 1, 1) := by decide +kernel
theorem dX10_put_61 : decode cX10_put 61 = .ok (.iload_n 2, 1) := by decide +kernel
theorem dX10_put_62 : decode cX10_put 62 = .ok (.iastore, 1) := by decide +kernel
theorem dX10_put_63 : decode cX10_put 63 = .ok (.iconst 1, 1) := by decide +kernel
theorem dX10_put_64 : decode cX10_put 64 = .ok (.ireturn, 1) := by decide +kernel
theorem dX10_earn_0 : decode cX10_earn 0 = .ok (.aload_n 0, 1) := by decide +kernel
theorem dX10_earn_1 : decode cX10_earn 1 = .ok (.iconst 0, 1) := by decide +kernel
theorem dX10_earn_2 : decode cX10_earn 2 = .ok (.putfield 130, 3) := by decide +kernel
theorem dX10_earn_5 : decode cX10_earn 5 = .ok (.iload_n 1, 1) := by decide +kernel
theorem dX10_earn_6 : decode cX10_earn 6 = .ok (.iconst 1, 1) := by decide +kernel
theorem dX10_earn_7 : decode cX10_earn 7 = .ok (.if_icmp .lt 23, 3) := by decide +kernel
theorem dX10_earn_10 : decode cX10_earn 10 = .ok (.iload_n 1, 1) := by decide +kernel
theorem dX10_earn_11 : decode cX10_earn 11 = .ok (.bipush 99, 2) := by decide +kernel
theorem dX10_earn_13 : decode cX10_earn 13 = .ok (.if_icmp .gt 17, 3) := by decide +kernel
theorem dX10_earn_16 : decode cX10_earn 16 = .ok (.aload_n 0, 1) := by decide +kernel
theorem dX10_earn_17 : decode cX10_earn 17 = .ok (.getfield 69, 3) := by decide +kernel
theorem dX10_earn_20 : decode cX10_earn 20 = .ok (.iconst 0, 1) := by decide +kernel
theorem dX10_earn_21 : decode cX10_earn 21 = .ok (.iaload, 1) := by decide +kernel
theorem dX10_earn_22 : decode cX10_earn 22 = .ok (.iload_n 1, 1) := by decide +kernel
theorem dX10_earn_23 : decode cX10_earn 23 = .ok (.iadd, 1) := by decide +kernel
theorem dX10_earn_24 : decode cX10_earn 24 = .ok (.sipush 9999, 3) := by decide +kernel
theorem dX10_earn_27 : decode cX10_earn 27 = .ok (.if_icmp .le 5, 3) := by decide +kernel
theorem dX10_earn_30 : decode cX10_earn 30 = .ok (.iconst (-1), 1) := by decide +kernel
theorem dX10_earn_31 : decode cX10_earn 31 = .ok (.ireturn, 1) := by decide +kernel
theorem dX10_earn_32 : decode cX10_earn 32 = .ok (.aload_n 0, 1) := by decide +kernel
theorem dX10_earn_33 : decode cX10_earn 33 = .ok (.invokevirtual 417, 3) := by decide +kernel
theorem dX10_earn_36 : decode cX10_earn 36 = .ok (.aload_n 0, 1) := by decide +kernel
theorem dX10_earn_37 : decode cX10_earn 37 = .ok (.getfield 69, 3) := by decide +kernel
theorem dX10_earn_40 : decode cX10_earn 40 = .ok (.iconst 0, 1) := by decide +kernel
theorem dX10_earn_41 : decode cX10_earn 41 = .ok (.dup2, 1) := by decide +kernel
theorem dX10_earn_42 : decode cX10_earn 42 = .ok (.iaload, 1) := by decide +kernel
theorem dX10_earn_43 : decode cX10_earn 43 = .ok (.iload_n 1, 1) := by decide +kernel
theorem dX10_earn_44 : decode cX10_earn 44 = .ok (.iadd, 1) := by decide +kernel
theorem dX10_earn_45 : decode cX10_earn 45 = .ok (.iastore, 1) := by decide +kernel
theorem dX10_earn_46 : decode cX10_earn 46 = .ok (.aload_n 0, 1) := by decide +kernel
theorem dX10_earn_47 : decode cX10_earn 47 = .ok (.getfield 69, 3) := by decide +kernel
theorem dX10_earn_50 : decode cX10_earn 50 = .ok (.iconst 0, 1) := by decide +kernel
theorem dX10_earn_51 : decode cX10_earn 51 = .ok (.iaload, 1) := by decide +kernel
theorem dX10_earn_52 : decode cX10_earn 52 = .ok (.ireturn, 1) := by decide +kernel
theorem dX10_go_0 : decode cX10_go 0 = .ok (.aload_n 0, 1) := by decide +kernel
theorem dX10_go_1 : decode cX10_go 1 = .ok (.iconst 0, 1) := by decide +kernel
theorem dX10_go_2 : decode cX10_go 2 = .ok (.putfield 130, 3) := by decide +kernel
theorem dX10_go_5 : decode cX10_go 5 = .ok (.iload_n 1, 1) := by decide +kernel
theorem dX10_go_6 : decode cX10_go 6 = .ok (.ifCond .lt 23, 3) := by decide +kernel
theorem dX10_go_9 : decode cX10_go 9 = .ok (.iload_n 1, 1) := by decide +kernel
theorem dX10_go_10 : decode cX10_go 10 = .ok (.bipush 99, 2) := by decide +kernel
theorem dX10_go_12 : decode cX10_go 12 = .ok (.if_icmp .gt 17, 3) := by decide +kernel
theorem dX10_go_15 : decode cX10_go 15 = .ok (.aload_n 0, 1) := by decide +kernel
theorem dX10_go_16 : decode cX10_go 16 = .ok (.getfield 66, 3) := by decide +kernel
theorem dX10_go_19 : decode cX10_go 19 = .ok (.iconst 0, 1) := by decide +kernel
theorem dX10_go_20 : decode cX10_go 20 = .ok (.iaload, 1) := by decide +kernel
theorem dX10_go_21 : decode cX10_go 21 = .ok (.iload_n 1, 1) := by decide +kernel
theorem dX10_go_22 : decode cX10_go 22 = .ok (.iadd, 1) := by decide +kernel
theorem dX10_go_23 : decode cX10_go 23 = .ok (.sipush 9900, 3) := by decide +kernel
theorem dX10_go_26 : decode cX10_go 26 = .ok (.if_icmp .le 5, 3) := by decide +kernel
theorem dX10_go_29 : decode cX10_go 29 = .ok (.iconst (-1), 1) := by decide +kernel
theorem dX10_go_30 : decode cX10_go 30 = .ok (.ireturn, 1) := by decide +kernel
theorem dX10_go_31 : decode cX10_go 31 = .ok (.iload_n 1, 1) := by decide +kernel
theorem dX10_go_32 : decode cX10_go 32 = .ok (.ifCond .le 8, 3) := by decide +kernel
theorem dX10_go_35 : decode cX10_go 35 = .ok (.aload_n 0, 1) := by decide +kernel
theorem dX10_go_36 : decode cX10_go 36 = .ok (.iconst 0, 1) := by decide +kernel
theorem dX10_go_37 : decode cX10_go 37 = .ok (.putfield 290, 3) := by decide +kernel
theorem dX10_go_40 : decode cX10_go 40 = .ok (.iconst 0, 1) := by decide +kernel
theorem dX10_go_41 : decode cX10_go 41 = .ok (.istore_n 2, 1) := by decide +kernel
theorem dX10_go_42 : decode cX10_go 42 = .ok (.iload_n 2, 1) := by decide +kernel
theorem dX10_go_43 : decode cX10_go 43 = .ok (.iload_n 1, 1) := by decide +kernel
theorem dX10_go_44 : decode cX10_go 44 = .ok (.if_icmp .ge 14, 3) := by decide +kernel
theorem dX10_go_47 : decode cX10_go 47 = .ok (.aload_n 0, 1) := by decide +kernel
theorem dX10_go_48 : decode cX10_go 48 = .ok (.iconst 0, 1) := by decide +kernel
theorem dX10_go_49 : decode cX10_go 49 = .ok (.invokevirtual 398, 3) := by decide +kernel
theorem dX10_go_52 : decode cX10_go 52 = .ok (.iinc 2 1, 3) := by decide +kernel
theorem dX10_go_55 : decode cX10_go 55 = .ok (.goto (-13), 3) := by decide +kernel
theorem dX10_go_58 : decode cX10_go 58 = .ok (.aload_n 0, 1) := by decide +kernel
theorem dX10_go_59 : decode cX10_go 59 = .ok (.getfield 66, 3) := by decide +kernel
theorem dX10_go_62 : decode cX10_go 62 = .ok (.iconst 0, 1) := by decide +kernel
theorem dX10_go_63 : decode cX10_go 63 = .ok (.iaload, 1) := by decide +kernel
theorem dX10_go_64 : decode cX10_go 64 = .ok (.ireturn, 1) := by decide +kernel
theorem dX10_ahead_0 : decode cX10_ahead 0 = .ok (.aload_n 0, 1) := by decide +kernel
theorem dX10_ahead_1 : decode cX10_ahead 1 = .ok (.iconst 0, 1) := by decide +kernel
theorem dX10_ahead_2 : decode cX10_ahead 2 = .ok (.putfield 130, 3) := by decide +kernel
theorem dX10_ahead_5 : decode cX10_ahead 5 = .ok (.iload_n 1, 1) := by decide +kernel
theorem dX10_ahead_6 : decode cX10_ahead 6 = .ok (.ifCond .lt 31, 3) := by decide +kernel
theorem dX10_ahead_9 : decode cX10_ahead 9 = .ok (.iload_n 1, 1) := by decide +kernel
theorem dX10_ahead_10 : decode cX10_ahead 10 = .ok (.bipush 99, 2) := by decide +kernel
theorem dX10_ahead_12 : decode cX10_ahead 12 = .ok (.if_icmp .gt 25, 3) := by decide +kernel
theorem dX10_ahead_15 : decode cX10_ahead 15 = .ok (.iload_n 2, 1) := by decide +kernel
theorem dX10_ahead_16 : decode cX10_ahead 16 = .ok (.ifCond .lt 21, 3) := by decide +kernel
theorem dX10_ahead_19 : decode cX10_ahead 19 = .ok (.iload_n 2, 1) := by decide +kernel
theorem dX10_ahead_20 : decode cX10_ahead 20 = .ok (.iconst 3, 1) := by decide +kernel
theorem dX10_ahead_21 : decode cX10_ahead 21 = .ok (.if_icmp .gt 16, 3) := by decide +kernel
theorem dX10_ahead_24 : decode cX10_ahead 24 = .ok (.iload_n 2, 1) := by decide +kernel
theorem dX10_ahead_25 : decode cX10_ahead 25 = .ok (.iconst 3, 1) := by decide +kernel
theorem dX10_ahead_26 : decode cX10_ahead 26 = .ok (.if_icmp .ne 13, 3) := by decide +kernel
theorem dX10_ahead_29 : decode cX10_ahead 29 = .ok (.aload_n 0, 1) := by decide +kernel
theorem dX10_ahead_30 : decode cX10_ahead 30 = .ok (.iload_n 3, 1) := by decide +kernel
theorem dX10_ahead_31 : decode cX10_ahead 31 = .ok (.invokevirtual 404, 3) := by decide +kernel
theorem dX10_ahead_34 : decode cX10_ahead 34 = .ok (.ifCond .ne 5, 3) := by decide +kernel
theorem dX10_ahead_37 : decode cX10_ahead 37 = .ok (.iconst (-1), 1) := by decide +kernel
theorem dX10_ahead_38 : decode cX10_ahead 38 = .ok (.ireturn, 1) := by decide +kernel
theorem dX10_ahead_39 : decode cX10_ahead 39 = .ok (.aload_n 0, 1) := by decide +kernel
theorem dX10_ahead_40 : decode cX10_ahead 40 = .ok (.iconst 1, 1) := by decide +kernel
theorem dX10_ahead_41 : decode cX10_ahead 41 = .ok (.iconst 0, 1) := by decide +kernel
theorem dX10_ahead_42 : decode cX10_ahead 42 = .ok (.invokevirtual 414, 3) := by decide +kernel
theorem dX10_ahead_45 : decode cX10_ahead 45 = .ok (.aload_n 0, 1) := by decide +kernel
theorem dX10_ahead_46 : decode cX10_ahead 46 = .ok (.iload_n 1, 1) := by decide +kernel
theorem dX10_ahead_47 : decode cX10_ahead 47 = .ok (.invokevirtual 420, 3) := by decide +kernel
theorem dX10_ahead_50 : decode cX10_ahead 50 = .ok (.iload_n 2, 1) := by decide +kernel
theorem dX10_ahead_51 : decode cX10_ahead 51 = .ok (.tableswitch 65 0 2 #[25, 39, 53], 25) := by decide +kernel
theorem dX10_ahead_76 : decode cX10_ahead 76 = .ok (.aload_n 0, 1) := by decide +kernel
theorem dX10_ahead_77 : decode cX10_ahead 77 = .ok (.iconst 1, 1) := by decide +kernel
theorem dX10_ahead_78 : decode cX10_ahead 78 = .ok (.iconst 1, 1) := by decide +kernel
theorem dX10_ahead_79 : decode cX10_ahead 79 = .ok (.invokevirtual 423, 3) := by decide +kernel
theorem dX10_ahead_82 : decode cX10_ahead 82 = .ok (.aload_n 0, 1) := by decide +kernel
theorem dX10_ahead_83 : decode cX10_ahead 83 = .ok (.iconst 0, 1) := by decide +kernel
theorem dX10_ahead_84 : decode cX10_ahead 84 = .ok (.iconst 1, 1) := by decide +kernel
theorem dX10_ahead_85 : decode cX10_ahead 85 = .ok (.invokevirtual 423, 3) := by decide +kernel
theorem dX10_ahead_88 : decode cX10_ahead 88 = .ok (.isub, 1) := by decide +kernel
theorem dX10_ahead_89 : decode cX10_ahead 89 = .ok (.ireturn, 1) := by decide +kernel
theorem dX10_ahead_90 : decode cX10_ahead 90 = .ok (.aload_n 0, 1) := by decide +kernel
theorem dX10_ahead_91 : decode cX10_ahead 91 = .ok (.iconst 1, 1) := by decide +kernel
theorem dX10_ahead_92 : decode cX10_ahead 92 = .ok (.iconst 0, 1) := by decide +kernel
theorem dX10_ahead_93 : decode cX10_ahead 93 = .ok (.invokevirtual 423, 3) := by decide +kernel
theorem dX10_ahead_96 : decode cX10_ahead 96 = .ok (.aload_n 0, 1) := by decide +kernel
theorem dX10_ahead_97 : decode cX10_ahead 97 = .ok (.iconst 0, 1) := by decide +kernel
theorem dX10_ahead_98 : decode cX10_ahead 98 = .ok (.iconst 0, 1) := by decide +kernel
theorem dX10_ahead_99 : decode cX10_ahead 99 = .ok (.invokevirtual 423, 3) := by decide +kernel
theorem dX10_ahead_102 : decode cX10_ahead 102 = .ok (.isub, 1) := by decide +kernel
theorem dX10_ahead_103 : decode cX10_ahead 103 = .ok (.ireturn, 1) := by decide +kernel
theorem dX10_ahead_104 : decode cX10_ahead 104 = .ok (.aload_n 0, 1) := by decide +kernel
theorem dX10_ahead_105 : decode cX10_ahead 105 = .ok (.iconst 1, 1) := by decide +kernel
theorem dX10_ahead_106 : decode cX10_ahead 106 = .ok (.invokevirtual 426, 3) := by decide +kernel
theorem dX10_ahead_109 : decode cX10_ahead 109 = .ok (.aload_n 0, 1) := by decide +kernel
theorem dX10_ahead_110 : decode cX10_ahead 110 = .ok (.iconst 0, 1) := by decide +kernel
theorem dX10_ahead_111 : decode cX10_ahead 111 = .ok (.invokevirtual 426, 3) := by decide +kernel
theorem dX10_ahead_114 : decode cX10_ahead 114 = .ok (.isub, 1) := by decide +kernel
theorem dX10_ahead_115 : decode cX10_ahead 115 = .ok (.ireturn, 1) := by decide +kernel
theorem dX10_ahead_116 : decode cX10_ahead 116 = .ok (.aload_n 0, 1) := by decide +kernel
theorem dX10_ahead_117 : decode cX10_ahead 117 = .ok (.getfield 78, 3) := by decide +kernel
theorem dX10_ahead_120 : decode cX10_ahead 120 = .ok (.bipush 8, 2) := by decide +kernel
theorem dX10_ahead_122 : decode cX10_ahead 122 = .ok (.iload_n 3, 1) := by decide +kernel
theorem dX10_ahead_123 : decode cX10_ahead 123 = .ok (.iadd, 1) := by decide +kernel
theorem dX10_ahead_124 : decode cX10_ahead 124 = .ok (.iaload, 1) := by decide +kernel
theorem dX10_ahead_125 : decode cX10_ahead 125 = .ok (.ireturn, 1) := by decide +kernel
theorem dX10_best_0 : decode cX10_best 0 = .ok (.aload_n 0, 1) := by decide +kernel
theorem dX10_best_1 : decode cX10_best 1 = .ok (.iconst 0, 1) := by decide +kernel
theorem dX10_best_2 : decode cX10_best 2 = .ok (.putfield 130, 3) := by decide +kernel
theorem dX10_best_5 : decode cX10_best 5 = .ok (.iload_n 1, 1) := by decide +kernel
theorem dX10_best_6 : decode cX10_best 6 = .ok (.ifCond .lt 8, 3) := by decide +kernel
theorem dX10_best_9 : decode cX10_best 9 = .ok (.iload_n 1, 1) := by decide +kernel
theorem dX10_best_10 : decode cX10_best 10 = .ok (.iconst 1, 1) := by decide +kernel
theorem dX10_best_11 : decode cX10_best 11 = .ok (.if_icmp .le 5, 3) := by decide +kernel
theorem dX10_best_14 : decode cX10_best 14 = .ok (.iconst (-1), 1) := by decide +kernel
theorem dX10_best_15 : decode cX10_best 15 = .ok (.ireturn, 1) := by decide +kernel
theorem dX10_best_16 : decode cX10_best 16 = .ok (.bipush 100, 2) := by decide +kernel
theorem dX10_best_18 : decode cX10_best 18 = .ok (.istore_n 2, 1) := by decide +kernel
theorem dX10_best_19 : decode cX10_best 19 = .ok (.iconst (-1), 1) := by decide +kernel
theorem dX10_best_20 : decode cX10_best 20 = .ok (.istore_n 3, 1) := by decide +kernel
theorem dX10_best_21 : decode cX10_best 21 = .ok (.bipush 100, 2) := by decide +kernel
theorem dX10_best_23 : decode cX10_best 23 = .ok (.istore 4, 2) := by decide +kernel
theorem dX10_best_25 : decode cX10_best 25 = .ok (.iload 4, 2) := by decide +kernel
theorem dX10_best_27 : decode cX10_best 27 = .ok (.sipush 999, 3) := by decide +kernel
theorem dX10_best_30 : decode cX10_best 30 = .ok (.if_icmp .gt 33, 3) := by decide +kernel
theorem dX10_best_33 : decode cX10_best 33 = .ok (.aload_n 0, 1) := by decide +kernel
theorem dX10_best_34 : decode cX10_best 34 = .ok (.iconst 0, 1) := by decide +kernel
theorem dX10_best_35 : decode cX10_best 35 = .ok (.iload 4, 2) := by decide +kernel
theorem dX10_best_37 : decode cX10_best 37 = .ok (.invokevirtual 385, 3) := by decide +kernel
theorem dX10_best_40 : decode cX10_best 40 = .ok (.istore 5, 2) := by decide +kernel
theorem dX10_best_42 : decode cX10_best 42 = .ok (.iload 5, 2) := by decide +kernel
theorem dX10_best_44 : decode cX10_best 44 = .ok (.iload_n 3, 1) := by decide +kernel
theorem dX10_best_45 : decode cX10_best 45 = .ok (.if_icmp .gt 6, 3) := by decide +kernel
theorem dX10_best_48 : decode cX10_best 48 = .ok (.goto 9, 3) := by decide +kernel
theorem dX10_best_51 : decode cX10_best 51 = .ok (.iload 4, 2) := by decide +kernel
theorem dX10_best_53 : decode cX10_best 53 = .ok (.istore_n 2, 1) := by decide +kernel
theorem dX10_best_54 : decode cX10_best 54 = .ok (.iload 5, 2) := by decide +kernel
theorem dX10_best_56 : decode cX10_best 56 = .ok (.istore_n 3, 1) := by decide +kernel
theorem dX10_best_57 : decode cX10_best 57 = .ok (.iinc 4 1, 3) := by decide +kernel
theorem dX10_best_60 : decode cX10_best 60 = .ok (.goto (-35), 3) := by decide +kernel
theorem dX10_best_63 : decode cX10_best 63 = .ok (.iload_n 1, 1) := by decide +kernel
theorem dX10_best_64 : decode cX10_best 64 = .ok (.ifCond .ne 7, 3) := by decide +kernel
theorem dX10_best_67 : decode cX10_best 67 = .ok (.iload_n 2, 1) := by decide +kernel
theorem dX10_best_68 : decode cX10_best 68 = .ok (.goto 4, 3) := by decide +kernel
theorem dX10_best_71 : decode cX10_best 71 = .ok (.iload_n 3, 1) := by decide +kernel
theorem dX10_best_72 : decode cX10_best 72 = .ok (.ireturn, 1) := by decide +kernel
theorem dX10_open_0 : decode cX10_open 0 = .ok (.aload_n 0, 1) := by decide +kernel
theorem dX10_open_1 : decode cX10_open 1 = .ok (.iconst 0, 1) := by decide +kernel
theorem dX10_open_2 : decode cX10_open 2 = .ok (.putfield 130, 3) := by decide +kernel
theorem dX10_open_5 : decode cX10_open 5 = .ok (.iconst 0, 1) := by decide +kernel
theorem dX10_open_6 : decode cX10_open 6 = .ok (.istore_n 1, 1) := by decide +kernel
theorem dX10_open_7 : decode cX10_open 7 = .ok (.bipush 100, 2) := by decide +kernel
theorem dX10_open_9 : decode cX10_open 9 = .ok (.istore_n 2, 1) := by decide +kernel
theorem dX10_open_10 : decode cX10_open 10 = .ok (.iload_n 2, 1) := by decide +kernel
theorem dX10_open_11 : decode cX10_open 11 = .ok (.sipush 999, 3) := by decide +kernel
theorem dX10_open_14 : decode cX10_open 14 = .ok (.if_icmp .gt 32, 3) := by decide +kernel
theorem dX10_open_17 : decode cX10_open 17 = .ok (.iload_n 1, 1) := by decide +kernel
theorem dX10_open_18 : decode cX10_open 18 = .ok (.aload_n 0, 1) := by decide +kernel
theorem dX10_open_19 : decode cX10_open 19 = .ok (.iconst 0, 1) := by decide +kernel
theorem dX10_open_20 : decode cX10_open 20 = .ok (.iload_n 2, 1) := by decide +kernel
theorem dX10_open_21 : decode cX10_open 21 = .ok (.aload_n 0, 1) := by decide +kernel
theorem dX10_open_22 : decode cX10_open 22 = .ok (.iconst 0, 1) := by decide +kernel
theorem dX10_open_23 : decode cX10_open 23 = .ok (.iload_n 2, 1) := by decide +kernel
theorem dX10_open_24 : decode cX10_open 24 = .ok (.invokevirtual 385, 3) := by decide +kernel
theorem dX10_open_27 : decode cX10_open 27 = .ok (.invokevirtual 388, 3) := by decide +kernel
theorem dX10_open_30 : decode cX10_open 30 = .ok (.ifCond .eq 7, 3) := by decide +kernel
theorem dX10_open_33 : decode cX10_open 33 = .ok (.iconst 1, 1) := by decide +kernel
theorem dX10_open_34 : decode cX10_open 34 = .ok (.goto 4, 3) := by decide +kernel
theorem dX10_open_37 : decode cX10_open 37 = .ok (.iconst 0, 1) := by decide +kernel
theorem dX10_open_38 : decode cX10_open 38 = .ok (.iadd, 1) := by decide +kernel
theorem dX10_open_39 : decode cX10_open 39 = .ok (.istore_n 1, 1) := by decide +kernel
theorem dX10_open_40 : decode cX10_open 40 = .ok (.iinc 2 1, 3) := by decide +kernel
theorem dX10_open_43 : decode cX10_open 43 = .ok (.goto (-33), 3) := by decide +kernel
theorem dX10_open_46 : decode cX10_open 46 = .ok (.iload_n 1, 1) := by decide +kernel
theorem dX10_open_47 : decode cX10_open 47 = .ok (.ireturn, 1) := by decide +kernel
theorem dX10_nines_0 : decode cX10_nines 0 = .ok (.iconst 1, 1) := by decide +kernel
theorem dX10_nines_1 : decode cX10_nines 1 = .ok (.istore_n 1, 1) := by decide +kernel
theorem dX10_nines_2 : decode cX10_nines 2 = .ok (.iconst 0, 1) := by decide +kernel
theorem dX10_nines_3 : decode cX10_nines 3 = .ok (.istore_n 2, 1) := by decide +kernel
theorem dX10_nines_4 : decode cX10_nines 4 = .ok (.iload_n 2, 1) := by decide +kernel
theorem dX10_nines_5 : decode cX10_nines 5 = .ok (.iload_n 0, 1) := by decide +kernel
theorem dX10_nines_6 : decode cX10_nines 6 = .ok (.if_icmp .ge 14, 3) := by decide +kernel
theorem dX10_nines_9 : decode cX10_nines 9 = .ok (.iload_n 1, 1) := by decide +kernel
theorem dX10_nines_10 : decode cX10_nines 10 = .ok (.bipush 9, 2) := by decide +kernel
theorem dX10_nines_12 : decode cX10_nines 12 = .ok (.imul, 1) := by decide +kernel
theorem dX10_nines_13 : decode cX10_nines 13 = .ok (.istore_n 1, 1) := by decide +kernel
theorem dX10_nines_14 : decode cX10_nines 14 = .ok (.iinc 2 1, 3) := by decide +kernel
theorem dX10_nines_17 : decode cX10_nines 17 = .ok (.goto (-13), 3) := by decide +kernel
theorem dX10_nines_20 : decode cX10_nines 20 = .ok (.iload_n 1, 1) := by decide +kernel
theorem dX10_nines_21 : decode cX10_nines 21 = .ok (.ireturn, 1) := by decide +kernel
theorem dX10_layFiled_0 : decode cX10_layFiled 0 = .ok (.iconst 0, 1) := by decide +kernel
theorem dX10_layFiled_1 : decode cX10_layFiled 1 = .ok (.istore_n 3, 1) := by decide +kernel
theorem dX10_layFiled_2 : decode cX10_layFiled 2 = .ok (.iload_n 3, 1) := by decide +kernel
theorem dX10_layFiled_3 : decode cX10_layFiled 3 = .ok (.iload_n 1, 1) := by decide +kernel
theorem dX10_layFiled_4 : decode cX10_layFiled 4 = .ok (.if_icmp .ge 88, 3) := by decide +kernel
theorem dX10_layFiled_7 : decode cX10_layFiled 7 = .ok (.iconst 0, 1) := by decide +kernel
theorem dX10_layFiled_8 : decode cX10_layFiled 8 = .ok (.istore 4, 2) := by decide +kernel
theorem dX10_layFiled_10 : decode cX10_layFiled 10 = .ok (.iload 4, 2) := by decide +kernel
theorem dX10_layFiled_12 : decode cX10_layFiled 12 = .ok (.bipush 9, 2) := by decide +kernel
theorem dX10_layFiled_14 : decode cX10_layFiled 14 = .ok (.if_icmp .ge 72, 3) := by decide +kernel
theorem dX10_layFiled_17 : decode cX10_layFiled 17 = .ok (.aload_n 0, 1) := by decide +kernel
theorem dX10_layFiled_18 : decode cX10_layFiled 18 = .ok (.getfield 78, 3) := by decide +kernel
theorem dX10_layFiled_21 : decode cX10_layFiled 21 = .ok (.iload_n 3, 1) := by decide +kernel
theorem dX10_layFiled_22 : decode cX10_layFiled 22 = .ok (.iaload, 1) := by decide +kernel
theorem dX10_layFiled_23 : decode cX10_layFiled 23 = .ok (.iload 4, 2) := by decide +kernel
theorem dX10_layFiled_25 : decode cX10_layFiled 25 = .ok (.iadd, 1) := by decide +kernel
theorem dX10_layFiled_26 : decode cX10_layFiled 26 = .ok (.iconst 4, 1) := by decide +kernel
theorem dX10_layFiled_27 : decode cX10_layFiled 27 = .ok (.isub, 1) := by decide +kernel
theorem dX10_layFiled_28 : decode cX10_layFiled 28 = .ok (.istore 5, 2) := by decide +kernel
theorem dX10_layFiled_30 : decode cX10_layFiled 30 = .ok (.iload 5, 2) := by decide +kernel
theorem dX10_layFiled_32 : decode cX10_layFiled 32 = .ok (.invokestatic 407, 3) := by decide +kernel
theorem dX10_layFiled_35 : decode cX10_layFiled 35 = .ok (.istore 6, 2) := by decide +kernel
theorem dX10_layFiled_37 : decode cX10_layFiled 37 = .ok (.aload_n 0, 1) := by decide +kernel
theorem dX10_layFiled_38 : decode cX10_layFiled 38 = .ok (.getfield 99, 3) := by decide +kernel
theorem dX10_layFiled_41 : decode cX10_layFiled 41 = .ok (.bipush 9, 2) := by decide +kernel
theorem dX10_layFiled_43 : decode cX10_layFiled 43 = .ok (.iload_n 3, 1) := by decide +kernel
theorem dX10_layFiled_44 : decode cX10_layFiled 44 = .ok (.imul, 1) := by decide +kernel
theorem dX10_layFiled_45 : decode cX10_layFiled 45 = .ok (.iload 4, 2) := by decide +kernel
theorem dX10_layFiled_47 : decode cX10_layFiled 47 = .ok (.iadd, 1) := by decide +kernel
theorem dX10_layFiled_48 : decode cX10_layFiled 48 = .ok (.iload 6, 2) := by decide +kernel
theorem dX10_layFiled_50 : decode cX10_layFiled 50 = .ok (.ifCond .ne 7, 3) := by decide +kernel
theorem dX10_layFiled_53 : decode cX10_layFiled 53 = .ok (.iconst (-1), 1) := by decide +kernel
theorem dX10_layFiled_54 : decode cX10_layFiled 54 = .ok (.goto 25, 3) := by decide +kernel
theorem dX10_layFiled_57 : decode cX10_layFiled 57 = .ok (.aload_n 0, 1) := by decide +kernel
theorem dX10_layFiled_58 : decode cX10_layFiled 58 = .ok (.iconst 0, 1) := by decide +kernel
theorem dX10_layFiled_59 : decode cX10_layFiled 59 = .ok (.iload_n 3, 1) := by decide +kernel
theorem dX10_layFiled_60 : decode cX10_layFiled 60 = .ok (.invokevirtual 374, 3) := by decide +kernel
theorem dX10_layFiled_63 : decode cX10_layFiled 63 = .ok (.ifCond .eq 7, 3) := by decide +kernel
theorem dX10_layFiled_66 : decode cX10_layFiled 66 = .ok (.iconst 0, 1) := by decide +kernel
theorem dX10_layFiled_67 : decode cX10_layFiled 67 = .ok (.goto 12, 3) := by decide +kernel
theorem dX10_layFiled_70 : decode cX10_layFiled 70 = .ok (.aload_n 0, 1) := by decide +kernel
theorem dX10_layFiled_71 : decode cX10_layFiled 71 = .ok (.iconst 0, 1) := by decide +kernel
theorem dX10_layFiled_72 : decode cX10_layFiled 72 = .ok (.iload_n 3, 1) := by decide +kernel
theorem dX10_layFiled_73 : decode cX10_layFiled 73 = .ok (.iload 5, 2) := by decide +kernel
theorem dX10_layFiled_75 : decode cX10_layFiled 75 = .ok (.iload_n 2, 1) := by decide +kernel
theorem dX10_layFiled_76 : decode cX10_layFiled 76 = .ok (.invokevirtual 378, 3) := by decide +kernel
theorem dX10_layFiled_79 : decode cX10_layFiled 79 = .ok (.iastore, 1) := by decide +kernel
theorem dX10_layFiled_80 : decode cX10_layFiled 80 = .ok (.iinc 4 1, 3) := by decide +kernel
theorem dX10_layFiled_83 : decode cX10_layFiled 83 = .ok (.goto (-73), 3) := by decide +kernel
theorem dX10_layFiled_86 : decode cX10_layFiled 86 = .ok (.iinc 3 1, 3) := by decide +kernel
theorem dX10_layFiled_89 : decode cX10_layFiled 89 = .ok (.goto (-87), 3) := by decide +kernel
theorem dX10_layFiled_92 : decode cX10_layFiled 92 = .ok (.return_, 1) := by decide +kernel
theorem dX10_bribe_0 : decode cX10_bribe 0 = .ok (.aload_n 0, 1) := by decide +kernel
theorem dX10_bribe_1 : decode cX10_bribe 1 = .ok (.iconst 0, 1) := by decide +kernel
theorem dX10_bribe_2 : decode cX10_bribe 2 = .ok (.putfield 130, 3) := by decide +kernel
theorem dX10_bribe_5 : decode cX10_bribe 5 = .ok (.iload_n 1, 1) := by decide +kernel
theorem dX10_bribe_6 : decode cX10_bribe 6 = .ok (.invokestatic 407, 3) := by decide +kernel
theorem dX10_bribe_9 : decode cX10_bribe 9 = .ok (.ifCond .eq 12, 3) := by decide +kernel
theorem dX10_bribe_12 : decode cX10_bribe 12 = .ok (.iload_n 2, 1) := by decide +kernel
theorem dX10_bribe_13 : decode cX10_bribe 13 = .ok (.ifCond .lt 8, 3) := by decide +kernel
theorem dX10_bribe_16 : decode cX10_bribe 16 = .ok (.iload_n 2, 1) := by decide +kernel
theorem dX10_bribe_17 : decode cX10_bribe 17 = .ok (.iconst 4, 1) := by decide +kernel
theorem dX10_bribe_18 : decode cX10_bribe 18 = .ok (.if_icmp .le 7, 3) := by decide +kernel
theorem dX10_bribe_21 : decode cX10_bribe 21 = .ok (.ldc_w 431, 3) := by decide +kernel
theorem dX10_bribe_24 : decode cX10_bribe 24 = .ok (.ireturn, 1) := by decide +kernel
theorem dX10_bribe_25 : decode cX10_bribe 25 = .ok (.iconst 4, 1) := by decide +kernel
theorem dX10_bribe_26 : decode cX10_bribe 26 = .ok (.aload_n 0, 1) := by decide +kernel
theorem dX10_bribe_27 : decode cX10_bribe 27 = .ok (.getfield 13, 3) := by decide +kernel
theorem dX10_bribe_30 : decode cX10_bribe 30 = .ok (.iconst 0, 1) := by decide +kernel
theorem dX10_bribe_31 : decode cX10_bribe 31 = .ok (.iaload, 1) := by decide +kernel
theorem dX10_bribe_32 : decode cX10_bribe 32 = .ok (.invokestatic 336, 3) := by decide +kernel
theorem dX10_bribe_35 : decode cX10_bribe 35 = .ok (.istore_n 3, 1) := by decide +kernel
theorem dX10_bribe_36 : decode cX10_bribe 36 = .ok (.iload_n 2, 1) := by decide +kernel
theorem dX10_bribe_37 : decode cX10_bribe 37 = .ok (.iconst 4, 1) := by decide +kernel
theorem dX10_bribe_38 : decode cX10_bribe 38 = .ok (.if_icmp .ge 11, 3) := by decide +kernel
theorem dX10_bribe_41 : decode cX10_bribe 41 = .ok (.iload_n 2, 1) := by decide +kernel
theorem dX10_bribe_42 : decode cX10_bribe 42 = .ok (.iload_n 3, 1) := by decide +kernel
theorem dX10_bribe_43 : decode cX10_bribe 43 = .ok (.if_icmp .lt 6, 3) := by decide +kernel
theorem dX10_bribe_46 : decode cX10_bribe 46 = .ok (.bipush (-9), 2) := by decide +kernel
theorem dX10_bribe_48 : decode cX10_bribe 48 = .ok (.ireturn, 1) := by decide +kernel
theorem dX10_bribe_49 : decode cX10_bribe 49 = .ok (.aload_n 0, 1) := by decide +kernel
theorem dX10_bribe_50 : decode cX10_bribe 50 = .ok (.iload_n 3, 1) := by decide +kernel
theorem dX10_bribe_51 : decode cX10_bribe 51 = .ok (.iload_n 1, 1) := by decide +kernel
theorem dX10_bribe_52 : decode cX10_bribe 52 = .ok (.invokevirtual 432, 3) := by decide +kernel
theorem dX10_bribe_55 : decode cX10_bribe 55 = .ok (.iconst 0, 1) := by decide +kernel
theorem dX10_bribe_56 : decode cX10_bribe 56 = .ok (.istore 4, 2) := by decide +kernel
theorem dX10_bribe_58 : decode cX10_bribe 58 = .ok (.iload_n 3, 1) := by decide +kernel
theorem dX10_bribe_59 : decode cX10_bribe 59 = .ok (.istore 5, 2) := by decide +kernel
theorem dX10_bribe_61 : decode cX10_bribe 61 = .ok (.iload 5, 2) := by decide +kernel
theorem dX10_bribe_63 : decode cX10_bribe 63 = .ok (.aload_n 0, 1) := by decide +kernel
theorem dX10_bribe_64 : decode cX10_bribe 64 = .ok (.getfield 13, 3) := by decide +kernel
theorem dX10_bribe_67 : decode cX10_bribe 67 = .ok (.iconst 0, 1) := by decide +kernel
theorem dX10_bribe_68 : decode cX10_bribe 68 = .ok (.iaload, 1) := by decide +kernel
theorem dX10_bribe_69 : decode cX10_bribe 69 = .ok (.if_icmp .ge 22, 3) := by decide +kernel
theorem dX10_bribe_72 : decode cX10_bribe 72 = .ok (.iload 4, 2) := by decide +kernel
theorem dX10_bribe_74 : decode cX10_bribe 74 = .ok (.aload_n 0, 1) := by decide +kernel
theorem dX10_bribe_75 : decode cX10_bribe 75 = .ok (.iconst 0, 1) := by decide +kernel
theorem dX10_bribe_76 : decode cX10_bribe 76 = .ok (.iload 5, 2) := by decide +kernel
theorem dX10_bribe_78 : decode cX10_bribe 78 = .ok (.iload_n 1, 1) := by decide +kernel
theorem dX10_bribe_79 : decode cX10_bribe 79 = .ok (.invokevirtual 382, 3) := by decide +kernel
theorem dX10_bribe_82 : decode cX10_bribe 82 = .ok (.iadd, 1) := by decide +kernel
theorem dX10_bribe_83 : decode cX10_bribe 83 = .ok (.istore 4, 2) := by decide +kernel
theorem dX10_bribe_85 : decode cX10_bribe 85 = .ok (.iinc 5 1, 3) := by decide +kernel
theorem dX10_bribe_88 : decode cX10_bribe 88 = .ok (.goto (-27), 3) := by decide +kernel
theorem dX10_bribe_91 : decode cX10_bribe 91 = .ok (.iconst (-1), 1) := by decide +kernel
theorem dX10_bribe_92 : decode cX10_bribe 92 = .ok (.istore 5, 2) := by decide +kernel
theorem dX10_bribe_94 : decode cX10_bribe 94 = .ok (.iconst 0, 1) := by decide +kernel
theorem dX10_bribe_95 : decode cX10_bribe 95 = .ok (.istore 6, 2) := by decide +kernel
theorem dX10_bribe_97 : decode cX10_bribe 97 = .ok (.iconst 0, 1) := by decide +kernel
theorem dX10_bribe_98 : decode cX10_bribe 98 = .ok (.istore 7, 2) := by decide +kernel
theorem dX10_bribe_100 : decode cX10_bribe 100 = .ok (.iload 7, 2) := by decide +kernel
theorem dX10_bribe_102 : decode cX10_bribe 102 = .ok (.iload_n 3, 1) := by decide +kernel
theorem dX10_bribe_103 : decode cX10_bribe 103 = .ok (.invokestatic 435, 3) := by decide +kernel
theorem dX10_bribe_106 : decode cX10_bribe 106 = .ok (.if_icmp .ge 155, 3) := by decide +kernel
theorem dX10_bribe_109 : decode cX10_bribe 109 = .ok (.iload 4, 2) := by decide +kernel
theorem dX10_bribe_111 : decode cX10_bribe 111 = .ok (.istore 8, 2) := by decide +kernel
theorem dX10_bribe_113 : decode cX10_bribe 113 = .ok (.iconst 0, 1) := by decide +kernel
theorem dX10_bribe_114 : decode cX10_bribe 114 = .ok (.istore 9, 2) := by decide +kernel
theorem dX10_bribe_116 : decode cX10_bribe 116 = .ok (.iconst 1, 1) := by decide +kernel
theorem dX10_bribe_117 : decode cX10_bribe 117 = .ok (.istore 10, 2) := by decide +kernel
theorem dX10_bribe_119 : decode cX10_bribe 119 = .ok (.iconst 0, 1) := by decide +kernel
theorem dX10_bribe_120 : decode cX10_bribe 120 = .ok (.istore 11, 2) := by decide +kernel
theorem dX10_bribe_122 : decode cX10_bribe 122 = .ok (.iload 11, 2) := by decide +kernel
theorem dX10_bribe_124 : decode cX10_bribe 124 = .ok (.iload_n 3, 1) := by decide +kernel
theorem dX10_bribe_125 : decode cX10_bribe 125 = .ok (.if_icmp .ge 90, 3) := by decide +kernel
theorem dX10_bribe_128 : decode cX10_bribe 128 = .ok (.iload 7, 2) := by decide +kernel
theorem dX10_bribe_130 : decode cX10_bribe 130 = .ok (.iload_n 3, 1) := by decide +kernel
theorem dX10_bribe_131 : decode cX10_bribe 131 = .ok (.iconst 1, 1) := by decide +kernel
theorem dX10_bribe_132 : decode cX10_bribe 132 = .ok (.isub, 1) := by decide +kernel
theorem dX10_bribe_133 : decode cX10_bribe 133 = .ok (.iload 11, 2) := by decide +kernel
theorem dX10_bribe_135 : decode cX10_bribe 135 = .ok (.isub, 1) := by decide +kernel
theorem dX10_bribe_136 : decode cX10_bribe 136 = .ok (.invokestatic 435, 3) := by decide +kernel
theorem dX10_bribe_139 : decode cX10_bribe 139 = .ok (.idiv, 1) := by decide +kernel
theorem dX10_bribe_140 : decode cX10_bribe 140 = .ok (.bipush 9, 2) := by decide +kernel
theorem dX10_bribe_142 : decode cX10_bribe 142 = .ok (.irem, 1) := by decide +kernel
theorem dX10_bribe_143 : decode cX10_bribe 143 = .ok (.istore 12, 2) := by decide +kernel
theorem dX10_bribe_145 : decode cX10_bribe 145 = .ok (.iload 10, 2) := by decide +kernel
theorem dX10_bribe_147 : decode cX10_bribe 147 = .ok (.aload_n 0, 1) := by decide +kernel
theorem dX10_bribe_148 : decode cX10_bribe 148 = .ok (.getfield 99, 3) := by decide +kernel
theorem dX10_bribe_151 : decode cX10_bribe 151 = .ok (.bipush 9, 2) := by decide +kernel
theorem dX10_bribe_153 : decode cX10_bribe 153 = .ok (.iload 11, 2) := by decide +kernel
theorem dX10_bribe_155 : decode cX10_bribe 155 = .ok (.imul, 1) := by decide +kernel
theorem dX10_bribe_156 : decode cX10_bribe 156 = .ok (.iload 12, 2) := by decide +kernel
theorem dX10_bribe_158 : decode cX10_bribe 158 = .ok (.iadd, 1) := by decide +kernel
theorem dX10_bribe_159 : decode cX10_bribe 159 = .ok (.iaload, 1) := by decide +kernel
theorem dX10_bribe_160 : decode cX10_bribe 160 = .ok (.iconst (-1), 1) := by decide +kernel
theorem dX10_bribe_161 : decode cX10_bribe 161 = .ok (.if_icmp .eq 7, 3) := by decide +kernel
theorem dX10_bribe_164 : decode cX10_bribe 164 = .ok (.iconst 1, 1) := by decide +kernel
theorem dX10_bribe_165 : decode cX10_bribe 165 = .ok (.goto 4, 3) := by decide +kernel
theorem dX10_bribe_168 : decode cX10_bribe 168 = .ok (.iconst 0, 1) := by decide +kernel
theorem dX10_bribe_169 : decode cX10_bribe 169 = .ok (.iand, 1) := by decide +kernel
theorem dX10_bribe_170 : decode cX10_bribe 170 = .ok (.istore 10, 2) := by decide +kernel
theorem dX10_bribe_172 : decode cX10_bribe 172 = .ok (.iload 8, 2) := by decide +kernel
theorem dX10_bribe_174 : decode cX10_bribe 174 = .ok (.aload_n 0, 1) := by decide +kernel
theorem dX10_bribe_175 : decode cX10_bribe 175 = .ok (.getfield 99, 3) := by decide +kernel
theorem dX10_bribe_178 : decode cX10_bribe 178 = .ok (.bipush 9, 2) := by decide +kernel
theorem dX10_bribe_180 : decode cX10_bribe 180 = .ok (.iload 11, 2) := by decide +kernel
theorem dX10_bribe_182 : decode cX10_bribe 182 = .ok (.imul, 1) := by decide +kernel
theorem dX10_bribe_183 : decode cX10_bribe 183 = .ok (.iload 12, 2) := by decide +kernel
theorem dX10_bribe_185 : decode cX10_bribe 185 = .ok (.iadd, 1) := by decide +kernel
theorem dX10_bribe_186 : decode cX10_bribe 186 = .ok (.iaload, 1) := by decide +kernel
theorem dX10_bribe_187 : decode cX10_bribe 187 = .ok (.iadd, 1) := by decide +kernel
theorem dX10_bribe_188 : decode cX10_bribe 188 = .ok (.istore 8, 2) := by decide +kernel
theorem dX10_bribe_190 : decode cX10_bribe 190 = .ok (.iload 9, 2) := by decide +kernel
theorem dX10_bribe_192 : decode cX10_bribe 192 = .ok (.aload_n 0, 1) := by decide +kernel
theorem dX10_bribe_193 : decode cX10_bribe 193 = .ok (.getfield 13, 3) := by decide +kernel
theorem dX10_bribe_196 : decode cX10_bribe 196 = .ok (.iconst 5, 1) := by decide +kernel
theorem dX10_bribe_197 : decode cX10_bribe 197 = .ok (.iaload, 1) := by decide +kernel
theorem dX10_bribe_198 : decode cX10_bribe 198 = .ok (.iload 12, 2) := by decide +kernel
theorem dX10_bribe_200 : decode cX10_bribe 200 = .ok (.iconst 4, 1) := by decide +kernel
theorem dX10_bribe_201 : decode cX10_bribe 201 = .ok (.isub, 1) := by decide +kernel
theorem dX10_bribe_202 : decode cX10_bribe 202 = .ok (.invokestatic 334, 3) := by decide +kernel
theorem dX10_bribe_205 : decode cX10_bribe 205 = .ok (.imul, 1) := by decide +kernel
theorem dX10_bribe_206 : decode cX10_bribe 206 = .ok (.iadd, 1) := by decide +kernel
theorem dX10_bribe_207 : decode cX10_bribe 207 = .ok (.istore 9, 2) := by decide +kernel
theorem dX10_bribe_209 : decode cX10_bribe 209 = .ok (.iinc 11 1, 3) := by decide +kernel
theorem dX10_bribe_212 : decode cX10_bribe 212 = .ok (.goto (-90), 3) := by decide +kernel
theorem dX10_bribe_215 : decode cX10_bribe 215 = .ok (.iload 10, 2) := by decide +kernel
theorem dX10_bribe_217 : decode cX10_bribe 217 = .ok (.ifCond .eq 38, 3) := by decide +kernel
theorem dX10_bribe_220 : decode cX10_bribe 220 = .ok (.iload 5, 2) := by decide +kernel
theorem dX10_bribe_222 : decode cX10_bribe 222 = .ok (.iconst (-1), 1) := by decide +kernel
theorem dX10_bribe_223 : decode cX10_bribe 223 = .ok (.if_icmp .eq 10, 3) := by decide +kernel
theorem dX10_bribe_226 : decode cX10_bribe 226 = .ok (.iload 9, 2) := by decide +kernel
theorem dX10_bribe_228 : decode cX10_bribe 228 = .ok (.iload 6, 2) := by decide +kernel
theorem dX10_bribe_230 : decode cX10_bribe 230 = .ok (.if_icmp .ge 25, 3) := by decide +kernel
theorem dX10_bribe_233 : decode cX10_bribe 233 = .ok (.aload_n 0, 1) := by decide +kernel
theorem dX10_bribe_234 : decode cX10_bribe 234 = .ok (.iconst 0, 1) := by decide +kernel
theorem dX10_bribe_235 : decode cX10_bribe 235 = .ok (.iload_n 1, 1) := by decide +kernel
theorem dX10_bribe_236 : decode cX10_bribe 236 = .ok (.iload 8, 2) := by decide +kernel
theorem dX10_bribe_238 : decode cX10_bribe 238 = .ok (.invokevirtual 388, 3) := by decide +kernel
theorem dX10_bribe_241 : decode cX10_bribe 241 = .ok (.ifCond .ne 6, 3) := by decide +kernel
theorem dX10_bribe_244 : decode cX10_bribe 244 = .ok (.goto 11, 3) := by decide +kernel
theorem dX10_bribe_247 : decode cX10_bribe 247 = .ok (.iload 7, 2) := by decide +kernel
theorem dX10_bribe_249 : decode cX10_bribe 249 = .ok (.istore 5, 2) := by decide +kernel
theorem dX10_bribe_251 : decode cX10_bribe 251 = .ok (.iload 9, 2) := by decide +kernel
theorem dX10_bribe_253 : decode cX10_bribe 253 = .ok (.istore 6, 2) := by decide +kernel
theorem dX10_bribe_255 : decode cX10_bribe 255 = .ok (.iinc 7 1, 3) := by decide +kernel
theorem dX10_bribe_258 : decode cX10_bribe 258 = .ok (.goto (-158), 3) := by decide +kernel
theorem dX10_bribe_261 : decode cX10_bribe 261 = .ok (.iload 5, 2) := by decide +kernel
theorem dX10_bribe_263 : decode cX10_bribe 263 = .ok (.iconst (-1), 1) := by decide +kernel
theorem dX10_bribe_264 : decode cX10_bribe 264 = .ok (.if_icmp .ne 6, 3) := by decide +kernel
theorem dX10_bribe_267 : decode cX10_bribe 267 = .ok (.bipush (-8), 2) := by decide +kernel
theorem dX10_bribe_269 : decode cX10_bribe 269 = .ok (.ireturn, 1) := by decide +kernel
theorem dX10_bribe_270 : decode cX10_bribe 270 = .ok (.iload_n 2, 1) := by decide +kernel
theorem dX10_bribe_271 : decode cX10_bribe 271 = .ok (.iconst 4, 1) := by decide +kernel
theorem dX10_bribe_272 : decode cX10_bribe 272 = .ok (.if_icmp .ne 8, 3) := by decide +kernel
theorem dX10_bribe_275 : decode cX10_bribe 275 = .ok (.iload 6, 2) := by decide +kernel
theorem dX10_bribe_277 : decode cX10_bribe 277 = .ok (.goto 19, 3) := by decide +kernel
theorem dX10_bribe_280 : decode cX10_bribe 280 = .ok (.iload 5, 2) := by decide +kernel
theorem dX10_bribe_282 : decode cX10_bribe 282 = .ok (.iload_n 3, 1) := by decide +kernel
theorem dX10_bribe_283 : decode cX10_bribe 283 = .ok (.iconst 1, 1) := by decide +kernel
theorem dX10_bribe_284 : decode cX10_bribe 284 = .ok (.isub, 1) := by decide +kernel
theorem dX10_bribe_285 : decode cX10_bribe 285 = .ok (.iload_n 2, 1) := by decide +kernel
theorem dX10_bribe_286 : decode cX10_bribe 286 = .ok (.isub, 1) := by decide +kernel
theorem dX10_bribe_287 : decode cX10_bribe 287 = .ok (.invokestatic 435, 3) := by decide +kernel
theorem dX10_bribe_290 : decode cX10_bribe 290 = .ok (.idiv, 1) := by decide +kernel
theorem dX10_bribe_291 : decode cX10_bribe 291 = .ok (.bipush 9, 2) := by decide +kernel
theorem dX10_bribe_293 : decode cX10_bribe 293 = .ok (.irem, 1) := by decide +kernel
theorem dX10_bribe_294 : decode cX10_bribe 294 = .ok (.iconst 4, 1) := by decide +kernel
theorem dX10_bribe_295 : decode cX10_bribe 295 = .ok (.isub, 1) := by decide +kernel
theorem dX10_bribe_296 : decode cX10_bribe 296 = .ok (.ireturn, 1) := by decide +kernel
theorem dX10_swing_0 : decode cX10_swing 0 = .ok (.aload_n 0, 1) := by decide +kernel
theorem dX10_swing_1 : decode cX10_swing 1 = .ok (.iconst 0, 1) := by decide +kernel
theorem dX10_swing_2 : decode cX10_swing 2 = .ok (.putfield 130, 3) := by decide +kernel
theorem dX10_swing_5 : decode cX10_swing 5 = .ok (.aload_n 0, 1) := by decide +kernel
theorem dX10_swing_6 : decode cX10_swing 6 = .ok (.iload_n 1, 1) := by decide +kernel
theorem dX10_swing_7 : decode cX10_swing 7 = .ok (.invokevirtual 404, 3) := by decide +kernel
theorem dX10_swing_10 : decode cX10_swing 10 = .ok (.ifCond .eq 10, 3) := by decide +kernel
theorem dX10_swing_13 : decode cX10_swing 13 = .ok (.iload_n 2, 1) := by decide +kernel
theorem dX10_swing_14 : decode cX10_swing 14 = .ok (.invokestatic 407, 3) := by decide +kernel
theorem dX10_swing_17 : decode cX10_swing 17 = .ok (.ifCond .ne 5, 3) := by decide +kernel
theorem dX10_swing_20 : decode cX10_swing 20 = .ok (.iconst (-1), 1) := by decide +kernel
theorem dX10_swing_21 : decode cX10_swing 21 = .ok (.ireturn, 1) := by decide +kernel
theorem dX10_swing_22 : decode cX10_swing 22 = .ok (.aload_n 0, 1) := by decide +kernel
theorem dX10_swing_23 : decode cX10_swing 23 = .ok (.iconst 0, 1) := by decide +kernel
theorem dX10_swing_24 : decode cX10_swing 24 = .ok (.iload_n 1, 1) := by decide +kernel
theorem dX10_swing_25 : decode cX10_swing 25 = .ok (.iload_n 2, 1) := by decide +kernel
theorem dX10_swing_26 : decode cX10_swing 26 = .ok (.invokevirtual 382, 3) := by decide +kernel
theorem dX10_swing_29 : decode cX10_swing 29 = .ok (.istore_n 3, 1) := by decide +kernel
theorem dX10_swing_30 : decode cX10_swing 30 = .ok (.iconst 0, 1) := by decide +kernel
theorem dX10_swing_31 : decode cX10_swing 31 = .ok (.istore 4, 2) := by decide +kernel
theorem dX10_swing_33 : decode cX10_swing 33 = .ok (.iconst 0, 1) := by decide +kernel
theorem dX10_swing_34 : decode cX10_swing 34 = .ok (.istore 5, 2) := by decide +kernel
theorem dX10_swing_36 : decode cX10_swing 36 = .ok (.iload 5, 2) := by decide +kernel
theorem dX10_swing_38 : decode cX10_swing 38 = .ok (.iconst 1, 1) := by decide +kernel
theorem dX10_swing_39 : decode cX10_swing 39 = .ok (.aload_n 0, 1) := by decide +kernel
theorem dX10_swing_40 : decode cX10_swing 40 = .ok (.getfield 13, 3) := by decide +kernel
theorem dX10_swing_43 : decode cX10_swing 43 = .ok (.iconst 0, 1) := by decide +kernel
theorem dX10_swing_44 : decode cX10_swing 44 = .ok (.iaload, 1) := by decide +kernel
theorem dX10_swing_45 : decode cX10_swing 45 = .ok (.ishl, 1) := by decide +kernel
theorem dX10_swing_46 : decode cX10_swing 46 = .ok (.if_icmp .ge 107, 3) := by decide +kernel
theorem dX10_swing_49 : decode cX10_swing 49 = .ok (.iload 5, 2) := by decide +kernel
theorem dX10_swing_51 : decode cX10_swing 51 = .ok (.iload_n 1, 1) := by decide +kernel
theorem dX10_swing_52 : decode cX10_swing 52 = .ok (.ishr, 1) := by decide +kernel
theorem dX10_swing_53 : decode cX10_swing 53 = .ok (.iconst 1, 1) := by decide +kernel
theorem dX10_swing_54 : decode cX10_swing 54 = .ok (.iand, 1) := by decide +kernel
theorem dX10_swing_55 : decode cX10_swing 55 = .ok (.iconst 1, 1) := by decide +kernel
theorem dX10_swing_56 : decode cX10_swing 56 = .ok (.if_icmp .ne 6, 3) := by decide +kernel
theorem dX10_swing_59 : decode cX10_swing 59 = .ok (.goto 88, 3) := by decide +kernel
theorem dX10_swing_62 : decode cX10_swing 62 = .ok (.iconst 0, 1) := by decide +kernel
theorem dX10_swing_63 : decode cX10_swing 63 = .ok (.istore 6, 2) := by decide +kernel
theorem dX10_swing_65 : decode cX10_swing 65 = .ok (.iconst 0, 1) := by decide +kernel
theorem dX10_swing_66 : decode cX10_swing 66 = .ok (.istore 7, 2) := by decide +kernel
theorem dX10_swing_68 : decode cX10_swing 68 = .ok (.iload 7, 2) := by decide +kernel
theorem dX10_swing_70 : decode cX10_swing 70 = .ok (.aload_n 0, 1) := by decide +kernel
theorem dX10_swing_71 : decode cX10_swing 71 = .ok (.getfield 13, 3) := by decide +kernel
theorem dX10_swing_74 : decode cX10_swing 74 = .ok (.iconst 0, 1) := by decide +kernel
theorem dX10_swing_75 : decode cX10_swing 75 = .ok (.iaload, 1) := by decide +kernel
theorem dX10_swing_76 : decode cX10_swing 76 = .ok (.if_icmp .ge 37, 3) := by decide +kernel
theorem dX10_swing_79 : decode cX10_swing 79 = .ok (.iload 6, 2) := by decide +kernel
theorem dX10_swing_81 : decode cX10_swing 81 = .ok (.iload 5, 2) := by decide +kernel
theorem dX10_swing_83 : decode cX10_swing 83 = .ok (.iload 7, 2) := by decide +kernel
theorem dX10_swing_85 : decode cX10_swing 85 = .ok (.ishr, 1) := by decide +kernel
theorem dX10_swing_86 : decode cX10_swing 86 = .ok (.iconst 1, 1) := by decide +kernel
theorem dX10_swing_87 : decode cX10_swing 87 = .ok (.iand, 1) := by decide +kernel
theorem dX10_swing_88 : decode cX10_swing 88 = .ok (.iconst 1, 1) := by decide +kernel
theorem dX10_swing_89 : decode cX10_swing 89 = .ok (.if_icmp .ne 14, 3) := by decide +kernel
theorem dX10_swing_92 : decode cX10_swing 92 = .ok (.aload_n 0, 1) := by decide +kernel
theorem dX10_swing_93 : decode cX10_swing 93 = .ok (.iconst 0, 1) := by decide +kernel
theorem dX10_swing_94 : decode cX10_swing 94 = .ok (.iload 7, 2) := by decide +kernel
theorem dX10_swing_96 : decode cX10_swing 96 = .ok (.iload_n 2, 1) := by decide +kernel
theorem dX10_swing_97 : decode cX10_swing 97 = .ok (.invokevirtual 382, 3) := by decide +kernel
theorem dX10_swing_100 : decode cX10_swing 100 = .ok (.goto 4, 3) := by decide +kernel
theorem dX10_swing_103 : decode cX10_swing 103 = .ok (.iconst 0, 1) := by decide +kernel
theorem dX10_swing_104 : decode cX10_swing 104 = .ok (.iadd, 1) := by decide +kernel
theorem dX10_swing_105 : decode cX10_swing 105 = .ok (.istore 6, 2) := by decide +kernel
theorem dX10_swing_107 : decode cX10_swing 107 = .ok (.iinc 7 1, 3) := by decide +kernel
theorem dX10_swing_110 : decode cX10_swing 110 = .ok (.goto (-42), 3) := by decide +kernel
theorem dX10_swing_113 : decode cX10_swing 113 = .ok (.iload 4, 2) := by decide +kernel
theorem dX10_swing_115 : decode cX10_swing 115 = .ok (.iload 6, 2) := by decide +kernel
theorem dX10_swing_117 : decode cX10_swing 117 = .ok (.aload_n 0, 1) := by decide +kernel
theorem dX10_swing_118 : decode cX10_swing 118 = .ok (.getfield 13, 3) := by decide +kernel
theorem dX10_swing_121 : decode cX10_swing 121 = .ok (.iconst 2, 1) := by decide +kernel
theorem dX10_swing_122 : decode cX10_swing 122 = .ok (.iaload, 1) := by decide +kernel
theorem dX10_swing_123 : decode cX10_swing 123 = .ok (.if_icmp .ge 20, 3) := by decide +kernel
theorem dX10_swing_126 : decode cX10_swing 126 = .ok (.iload 6, 2) := by decide +kernel
theorem dX10_swing_128 : decode cX10_swing 128 = .ok (.iload_n 3, 1) := by decide +kernel
theorem dX10_swing_129 : decode cX10_swing 129 = .ok (.iadd, 1) := by decide +kernel
theorem dX10_swing_130 : decode cX10_swing 130 = .ok (.aload_n 0, 1) := by decide +kernel
theorem dX10_swing_131 : decode cX10_swing 131 = .ok (.getfield 13, 3) := by decide +kernel
theorem dX10_swing_134 : decode cX10_swing 134 = .ok (.iconst 2, 1) := by decide +kernel
theorem dX10_swing_135 : decode cX10_swing 135 = .ok (.iaload, 1) := by decide +kernel
theorem dX10_swing_136 : decode cX10_swing 136 = .ok (.if_icmp .lt 7, 3) := by decide +kernel
theorem dX10_swing_139 : decode cX10_swing 139 = .ok (.iconst 1, 1) := by decide +kernel
theorem dX10_swing_140 : decode cX10_swing 140 = .ok (.goto 4, 3) := by decide +kernel
theorem dX10_swing_143 : decode cX10_swing 143 = .ok (.iconst 0, 1) := by decide +kernel
theorem dX10_swing_144 : decode cX10_swing 144 = .ok (.iadd, 1) := by decide +kernel
theorem dX10_swing_145 : decode cX10_swing 145 = .ok (.istore 4, 2) := by decide +kernel
theorem dX10_swing_147 : decode cX10_swing 147 = .ok (.iinc 5 1, 3) := by decide +kernel
theorem dX10_swing_150 : decode cX10_swing 150 = .ok (.goto (-114), 3) := by decide +kernel
theorem dX10_swing_153 : decode cX10_swing 153 = .ok (.iload 4, 2) := by decide +kernel
theorem dX10_swing_155 : decode cX10_swing 155 = .ok (.ireturn, 1) := by decide +kernel
theorem dX10_bitsOf_0 : decode cX10_bitsOf 0 = .ok (.iconst 0, 1) := by decide +kernel
theorem dX10_bitsOf_1 : decode cX10_bitsOf 1 = .ok (.istore_n 1, 1) := by decide +kernel
theorem dX10_bitsOf_2 : decode cX10_bitsOf 2 = .ok (.iconst 0, 1) := by decide +kernel
theorem dX10_bitsOf_3 : decode cX10_bitsOf 3 = .ok (.istore_n 2, 1) := by decide +kernel
theorem dX10_bitsOf_4 : decode cX10_bitsOf 4 = .ok (.iload_n 2, 1) := by decide +kernel
theorem dX10_bitsOf_5 : decode cX10_bitsOf 5 = .ok (.bipush 10, 2) := by decide +kernel
theorem dX10_bitsOf_7 : decode cX10_bitsOf 7 = .ok (.if_icmp .ge 17, 3) := by decide +kernel
theorem dX10_bitsOf_10 : decode cX10_bitsOf 10 = .ok (.iload_n 1, 1) := by decide +kernel
theorem dX10_bitsOf_11 : decode cX10_bitsOf 11 = .ok (.iload_n 0, 1) := by decide +kernel
theorem dX10_bitsOf_12 : decode cX10_bitsOf 12 = .ok (.iload_n 2, 1) := by decide +kernel
theorem dX10_bitsOf_13 : decode cX10_bitsOf 13 = .ok (.ishr, 1) := by decide +kernel
theorem dX10_bitsOf_14 : decode cX10_bitsOf 14 = .ok (.iconst 1, 1) := by decide +kernel
theorem dX10_bitsOf_15 : decode cX10_bitsOf 15 = .ok (.iand, 1) := by decide +kernel
theorem dX10_bitsOf_16 : decode cX10_bitsOf 16 = .ok (.iadd, 1) := by decide +kernel
theorem dX10_bitsOf_17 : decode cX10_bitsOf 17 = .ok (.istore_n 1, 1) := by decide +kernel
theorem dX10_bitsOf_18 : decode cX10_bitsOf 18 = .ok (.iinc 2 1, 3) := by decide +kernel
theorem dX10_bitsOf_21 : decode cX10_bitsOf 21 = .ok (.goto (-17), 3) := by decide +kernel
theorem dX10_bitsOf_24 : decode cX10_bitsOf 24 = .ok (.iload_n 1, 1) := by decide +kernel
theorem dX10_bitsOf_25 : decode cX10_bitsOf 25 = .ok (.ireturn, 1) := by decide +kernel
theorem dX10_censure_0 : decode cX10_censure 0 = .ok (.aload_n 0, 1) := by decide +kernel
theorem dX10_censure_1 : decode cX10_censure 1 = .ok (.iconst 0, 1) := by decide +kernel
theorem dX10_censure_2 : decode cX10_censure 2 = .ok (.putfield 130, 3) := by decide +kernel
theorem dX10_censure_5 : decode cX10_censure 5 = .ok (.iload_n 1, 1) := by decide +kernel
theorem dX10_censure_6 : decode cX10_censure 6 = .ok (.invokestatic 407, 3) := by decide +kernel
theorem dX10_censure_9 : decode cX10_censure 9 = .ok (.ifCond .ne 5, 3) := by decide +kernel
theorem dX10_censure_12 : decode cX10_censure 12 = .ok (.iconst (-1), 1) := by decide +kernel
theorem dX10_censure_13 : decode cX10_censure 13 = .ok (.ireturn, 1) := by decide +kernel
theorem dX10_censure_14 : decode cX10_censure 14 = .ok (.bipush (-2), 2) := by decide +kernel
theorem dX10_censure_16 : decode cX10_censure 16 = .ok (.istore_n 2, 1) := by decide +kernel
theorem dX10_censure_17 : decode cX10_censure 17 = .ok (.iconst 0, 1) := by decide +kernel
theorem dX10_censure_18 : decode cX10_censure 18 = .ok (.istore_n 3, 1) := by decide +kernel
theorem dX10_censure_19 : decode cX10_censure 19 = .ok (.iload_n 3, 1) := by decide +kernel
theorem dX10_censure_20 : decode cX10_censure 20 = .ok (.iconst 1, 1) := by decide +kernel
theorem dX10_censure_21 : decode cX10_censure 21 = .ok (.aload_n 0, 1) := by decide +kernel
theorem dX10_censure_22 : decode cX10_censure 22 = .ok (.getfield 13, 3) := by decide +kernel
theorem dX10_censure_25 : decode cX10_censure 25 = .ok (.iconst 0, 1) := by decide +kernel
theorem dX10_censure_26 : decode cX10_censure 26 = .ok (.iaload, 1) := by decide +kernel
theorem dX10_censure_27 : decode cX10_censure 27 = .ok (.ishl, 1) := by decide +kernel
theorem dX10_censure_28 : decode cX10_censure 28 = .ok (.if_icmp .ge 89, 3) := by decide +kernel
theorem dX10_censure_31 : decode cX10_censure 31 = .ok (.iload_n 2, 1) := by decide +kernel
theorem dX10_censure_32 : decode cX10_censure 32 = .ok (.ifCond .lt 17, 3) := by decide +kernel
theorem dX10_censure_35 : decode cX10_censure 35 = .ok (.iload_n 3, 1) := by decide +kernel
theorem dX10_censure_36 : decode cX10_censure 36 = .ok (.invokestatic 438, 3) := by decide +kernel
theorem dX10_censure_39 : decode cX10_censure 39 = .ok (.iload_n 2, 1) := by decide +kernel
theorem dX10_censure_40 : decode cX10_censure 40 = .ok (.invokestatic 438, 3) := by decide +kernel
theorem dX10_censure_43 : decode cX10_censure 43 = .ok (.if_icmp .lt 6, 3) := by decide +kernel
theorem dX10_censure_46 : decode cX10_censure 46 = .ok (.goto 65, 3) := by decide +kernel
theorem dX10_censure_49 : decode cX10_censure 49 = .ok (.iconst 0, 1) := by decide +kernel
theorem dX10_censure_50 : decode cX10_censure 50 = .ok (.istore 4, 2) := by decide +kernel
theorem dX10_censure_52 : decode cX10_censure 52 = .ok (.iconst 0, 1) := by decide +kernel
theorem dX10_censure_53 : decode cX10_censure 53 = .ok (.istore 5, 2) := by decide +kernel
theorem dX10_censure_55 : decode cX10_censure 55 = .ok (.iload 5, 2) := by decide +kernel
theorem dX10_censure_57 : decode cX10_censure 57 = .ok (.aload_n 0, 1) := by decide +kernel
theorem dX10_censure_58 : decode cX10_censure 58 = .ok (.getfield 13, 3) := by decide +kernel
theorem dX10_censure_61 : decode cX10_censure 61 = .ok (.iconst 0, 1) := by decide +kernel
theorem dX10_censure_62 : decode cX10_censure 62 = .ok (.iaload, 1) := by decide +kernel
theorem dX10_censure_63 : decode cX10_censure 63 = .ok (.if_icmp .ge 35, 3) := by decide +kernel
theorem dX10_censure_66 : decode cX10_censure 66 = .ok (.iload 4, 2) := by decide +kernel
theorem dX10_censure_68 : decode cX10_censure 68 = .ok (.iload_n 3, 1) := by decide +kernel
theorem dX10_censure_69 : decode cX10_censure 69 = .ok (.iload 5, 2) := by decide +kernel
theorem dX10_censure_71 : decode cX10_censure 71 = .ok (.ishr, 1) := by decide +kernel
theorem dX10_censure_72 : decode cX10_censure 72 = .ok (.iconst 1, 1) := by decide +kernel
theorem dX10_censure_73 : decode cX10_censure 73 = .ok (.iand, 1) := by decide +kernel
theorem dX10_censure_74 : decode cX10_censure 74 = .ok (.ifCond .ne 14, 3) := by decide +kernel
theorem dX10_censure_77 : decode cX10_censure 77 = .ok (.aload_n 0, 1) := by decide +kernel
theorem dX10_censure_78 : decode cX10_censure 78 = .ok (.iconst 0, 1) := by decide +kernel
theorem dX10_censure_79 : decode cX10_censure 79 = .ok (.iload 5, 2) := by decide +kernel
theorem dX10_censure_81 : decode cX10_censure 81 = .ok (.iload_n 1, 1) := by decide +kernel
theorem dX10_censure_82 : decode cX10_censure 82 = .ok (.invokevirtual 382, 3) := by decide +kernel
theorem dX10_censure_85 : decode cX10_censure 85 = .ok (.goto 4, 3) := by decide +kernel
theorem dX10_censure_88 : decode cX10_censure 88 = .ok (.iconst 0, 1) := by decide +kernel
theorem dX10_censure_89 : decode cX10_censure 89 = .ok (.iadd, 1) := by decide +kernel
theorem dX10_censure_90 : decode cX10_censure 90 = .ok (.istore 4, 2) := by decide +kernel
theorem dX10_censure_92 : decode cX10_censure 92 = .ok (.iinc 5 1, 3) := by decide +kernel
theorem dX10_censure_95 : decode cX10_censure 95 = .ok (.goto (-40), 3) := by decide +kernel
theorem dX10_censure_98 : decode cX10_censure 98 = .ok (.aload_n 0, 1) := by decide +kernel
theorem dX10_censure_99 : decode cX10_censure 99 = .ok (.iconst 0, 1) := by decide +kernel
theorem dX10_censure_100 : decode cX10_censure 100 = .ok (.iload_n 1, 1) := by decide +kernel
theorem dX10_censure_101 : decode cX10_censure 101 = .ok (.iload 4, 2) := by decide +kernel
theorem dX10_censure_103 : decode cX10_censure 103 = .ok (.invokevirtual 388, 3) := by decide +kernel
theorem dX10_censure_106 : decode cX10_censure 106 = .ok (.ifCond .ne 5, 3) := by decide +kernel
theorem dX10_censure_109 : decode cX10_censure 109 = .ok (.iload_n 3, 1) := by decide +kernel
theorem dX10_censure_110 : decode cX10_censure 110 = .ok (.istore_n 2, 1) := by decide +kernel
theorem dX10_censure_111 : decode cX10_censure 111 = .ok (.iinc 3 1, 3) := by decide +kernel
theorem dX10_censure_114 : decode cX10_censure 114 = .ok (.goto (-95), 3) := by decide +kernel
theorem dX10_censure_117 : decode cX10_censure 117 = .ok (.iload_n 2, 1) := by decide +kernel
theorem dX10_censure_118 : decode cX10_censure 118 = .ok (.ireturn, 1) := by decide +kernel
theorem dX10_party_0 : decode cX10_party 0 = .ok (.aload_n 0, 1) := by decide +kernel
theorem dX10_party_1 : decode cX10_party 1 = .ok (.iconst 0, 1) := by decide +kernel
theorem dX10_party_2 : decode cX10_party 2 = .ok (.putfield 130, 3) := by decide +kernel
theorem dX10_party_5 : decode cX10_party 5 = .ok (.iload_n 1, 1) := by decide +kernel
theorem dX10_party_6 : decode cX10_party 6 = .ok (.ifCond .lt 15, 3) := by decide +kernel
theorem dX10_party_9 : decode cX10_party 9 = .ok (.iload_n 1, 1) := by decide +kernel
theorem dX10_party_10 : decode cX10_party 10 = .ok (.iconst 3, 1) := by decide +kernel
theorem dX10_party_11 : decode cX10_party 11 = .ok (.if_icmp .gt 10, 3) := by decide +kernel
theorem dX10_party_14 : decode cX10_party 14 = .ok (.iload_n 2, 1) := by decide +kernel
theorem dX10_party_15 : decode cX10_party 15 = .ok (.invokestatic 407, 3) := by decide +kernel
theorem dX10_party_18 : decode cX10_party 18 = .ok (.ifCond .ne 5, 3) := by decide +kernel
theorem dX10_party_21 : decode cX10_party 21 = .ok (.iconst (-1), 1) := by decide +kernel
theorem dX10_party_22 : decode cX10_party 22 = .ok (.ireturn, 1) := by decide +kernel
theorem dX10_party_23 : decode cX10_party 23 = .ok (.iconst 0, 1) := by decide +kernel
theorem dX10_party_24 : decode cX10_party 24 = .ok (.istore_n 3, 1) := by decide +kernel
theorem dX10_party_25 : decode cX10_party 25 = .ok (.iconst 0, 1) := by decide +kernel
theorem dX10_party_26 : decode cX10_party 26 = .ok (.istore 4, 2) := by decide +kernel
theorem dX10_party_28 : decode cX10_party 28 = .ok (.iload 4, 2) := by decide +kernel
theorem dX10_party_30 : decode cX10_party 30 = .ok (.aload_n 0, 1) := by decide +kernel
theorem dX10_party_31 : decode cX10_party 31 = .ok (.getfield 13, 3) := by decide +kernel
theorem dX10_party_34 : decode cX10_party 34 = .ok (.iconst 0, 1) := by decide +kernel
theorem dX10_party_35 : decode cX10_party 35 = .ok (.iaload, 1) := by decide +kernel
theorem dX10_party_36 : decode cX10_party 36 = .ok (.if_icmp .ge 35, 3) := by decide +kernel
theorem dX10_party_39 : decode cX10_party 39 = .ok (.iload_n 3, 1) := by decide +kernel
theorem dX10_party_40 : decode cX10_party 40 = .ok (.aload_n 0, 1) := by decide +kernel
theorem dX10_party_41 : decode cX10_party 41 = .ok (.getfield 28, 3) := by decide +kernel
theorem dX10_party_44 : decode cX10_party 44 = .ok (.iload 4, 2) := by decide +kernel
theorem dX10_party_46 : decode cX10_party 46 = .ok (.iaload, 1) := by decide +kernel
theorem dX10_party_47 : decode cX10_party 47 = .ok (.iload_n 1, 1) := by decide +kernel
theorem dX10_party_48 : decode cX10_party 48 = .ok (.if_icmp .ne 14, 3) := by decide +kernel
theorem dX10_party_51 : decode cX10_party 51 = .ok (.aload_n 0, 1) := by decide +kernel
theorem dX10_party_52 : decode cX10_party 52 = .ok (.iconst 0, 1) := by decide +kernel
theorem dX10_party_53 : decode cX10_party 53 = .ok (.iload 4, 2) := by decide +kernel
theorem dX10_party_55 : decode cX10_party 55 = .ok (.iload_n 2, 1) := by decide +kernel
theorem dX10_party_56 : decode cX10_party 56 = .ok (.invokevirtual 382, 3) := by decide +kernel
theorem dX10_party_59 : decode cX10_party 59 = .ok (.goto 4, 3) := by decide +kernel
theorem dX10_party_62 : decode cX10_party 62 = .ok (.iconst 0, 1) := by decide +kernel
theorem dX10_party_63 : decode cX10_party 63 = .ok (.iadd, 1) := by decide +kernel
theorem dX10_party_64 : decode cX10_party 64 = .ok (.istore_n 3, 1) := by decide +kernel
theorem dX10_party_65 : decode cX10_party 65 = .ok (.iinc 4 1, 3) := by decide +kernel
theorem dX10_party_68 : decode cX10_party 68 = .ok (.goto (-40), 3) := by decide +kernel
theorem dX10_party_71 : decode cX10_party 71 = .ok (.iload_n 3, 1) := by decide +kernel
theorem dX10_party_72 : decode cX10_party 72 = .ok (.ireturn, 1) := by decide +kernel
