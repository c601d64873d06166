theorem dX7_begin_0 : decode cX7_begin 0 = .ok (.aload_n 0, 1) := by decide +kernel
theorem dX7_begin_1 : decode cX7_begin 1 = .ok (.iconst 0, 1) := by decide +kernel
theorem dX7_begin_2 : decode cX7_begin 2 = .ok (.putfield 41, 3) := by decide +kernel
theorem dX7_begin_5 : decode cX7_begin 5 = .ok (.aload_n 0, 1) := by decide +kernel
theorem dX7_begin_6 : decode cX7_begin 6 = .ok (.aload_n 1, 1) := by decide +kernel
theorem dX7_begin_7 : decode cX7_begin 7 = .ok (.iconst 0, 1) := by decide +kernel
theorem dX7_begin_8 : decode cX7_begin 8 = .ok (.invokevirtual 44, 3) := by decide +kernel
theorem dX7_begin_11 : decode cX7_begin 11 = .ok (.putfield 50, 3) := by decide +kernel
theorem dX7_begin_14 : decode cX7_begin 14 = .ok (.aload_n 0, 1) := by decide +kernel
theorem dX7_begin_15 : decode cX7_begin 15 = .ok (.aload_n 1, 1) := by decide +kernel
theorem dX7_begin_16 : decode cX7_begin 16 = .ok (.getfield 53, 3) := by decide +kernel
theorem dX7_begin_19 : decode cX7_begin 19 = .ok (.putfield 9, 3) := by decide +kernel
theorem dX7_begin_22 : decode cX7_begin 22 = .ok (.aload_n 0, 1) := by decide +kernel
theorem dX7_begin_23 : decode cX7_begin 23 = .ok (.iconst 0, 1) := by decide +kernel
theorem dX7_begin_24 : decode cX7_begin 24 = .ok (.putfield 54, 3) := by decide +kernel
theorem dX7_begin_27 : decode cX7_begin 27 = .ok (.aload_n 0, 1) := by decide +kernel
theorem dX7_begin_28 : decode cX7_begin 28 = .ok (.iconst 0, 1) := by decide +kernel
theorem dX7_begin_29 : decode cX7_begin 29 = .ok (.putfield 57, 3) := by decide +kernel
theorem dX7_begin_32 : decode cX7_begin 32 = .ok (.aload_n 0, 1) := by decide +kernel
theorem dX7_begin_33 : decode cX7_begin 33 = .ok (.aload_n 1, 1) := by decide +kernel
theorem dX7_begin_34 : decode cX7_begin 34 = .ok (.getfield 60, 3) := by decide +kernel
theorem dX7_begin_37 : decode cX7_begin 37 = .ok (.putfield 63, 3) := by decide +kernel
theorem dX7_begin_40 : decode cX7_begin 40 = .ok (.aload_n 0, 1) := by decide +kernel
theorem dX7_begin_41 : decode cX7_begin 41 = .ok (.iconst (-1), 1) := by decide +kernel
theorem dX7_begin_42 : decode cX7_begin 42 = .ok (.putfield 15, 3) := by decide +kernel
theorem dX7_begin_45 : decode cX7_begin 45 = .ok (.aload_n 0, 1) := by decide +kernel
theorem dX7_begin_46 : decode cX7_begin 46 = .ok (.iconst 1, 1) := by decide +kernel
theorem dX7_begin_47 : decode cX7_begin 47 = .ok (.putfield 18, 3) := by decide +kernel
theorem dX7_begin_50 : decode cX7_begin 50 = .ok (.aload_n 1, 1) := by decide +kernel
theorem dX7_begin_51 : decode cX7_begin 51 = .ok (.getfield 64, 3) := by decide +kernel
theorem dX7_begin_54 : decode cX7_begin 54 = .ok (.iconst 0, 1) := by decide +kernel
theorem dX7_begin_55 : decode cX7_begin 55 = .ok (.aload_n 0, 1) := by decide +kernel
theorem dX7_begin_56 : decode cX7_begin 56 = .ok (.getfield 22, 3) := by decide +kernel
theorem dX7_begin_59 : decode cX7_begin 59 = .ok (.iconst 0, 1) := by decide +kernel
theorem dX7_begin_60 : decode cX7_begin 60 = .ok (.bipush 8, 2) := by decide +kernel
theorem dX7_begin_62 : decode cX7_begin 62 = .ok (.invokestatic 65, 3) := by decide +kernel
theorem dX7_begin_65 : decode cX7_begin 65 = .ok (.aload_n 1, 1) := by decide +kernel
theorem dX7_begin_66 : decode cX7_begin 66 = .ok (.getfield 71, 3) := by decide +kernel
theorem dX7_begin_69 : decode cX7_begin 69 = .ok (.iconst 0, 1) := by decide +kernel
theorem dX7_begin_70 : decode cX7_begin 70 = .ok (.aload_n 0, 1) := by decide +kernel
theorem dX7_begin_71 : decode cX7_begin 71 = .ok (.getfield 26, 3) := by decide +kernel
theorem dX7_begin_74 : decode cX7_begin 74 = .ok (.iconst 0, 1) := by decide +kernel
theorem dX7_begin_75 : decode cX7_begin 75 = .ok (.bipush 8, 2) := by decide +kernel
theorem dX7_begin_77 : decode cX7_begin 77 = .ok (.invokestatic 65, 3) := by decide +kernel
theorem dX7_begin_80 : decode cX7_begin 80 = .ok (.aload_n 1, 1) := by decide +kernel
theorem dX7_begin_81 : decode cX7_begin 81 = .ok (.getfield 72, 3) := by decide +kernel
theorem dX7_begin_84 : decode cX7_begin 84 = .ok (.iconst 0, 1) := by decide +kernel
theorem dX7_begin_85 : decode cX7_begin 85 = .ok (.aload_n 0, 1) := by decide +kernel
theorem dX7_begin_86 : decode cX7_begin 86 = .ok (.getfield 29, 3) := by decide +kernel
theorem dX7_begin_89 : decode cX7_begin 89 = .ok (.iconst 0, 1) := by decide +kernel
theorem dX7_begin_90 : decode cX7_begin 90 = .ok (.bipush 10, 2) := by decide +kernel
theorem dX7_begin_92 : decode cX7_begin 92 = .ok (.invokestatic 65, 3) := by decide +kernel
theorem dX7_begin_95 : decode cX7_begin 95 = .ok (.aload_n 0, 1) := by decide +kernel
theorem dX7_begin_96 : decode cX7_begin 96 = .ok (.getfield 32, 3) := by decide +kernel
theorem dX7_begin_99 : decode cX7_begin 99 = .ok (.iconst (-1), 1) := by decide +kernel
theorem dX7_begin_100 : decode cX7_begin 100 = .ok (.invokestatic 74, 3) := by decide +kernel
theorem dX7_begin_103 : decode cX7_begin 103 = .ok (.aload_n 0, 1) := by decide +kernel
theorem dX7_begin_104 : decode cX7_begin 104 = .ok (.getfield 35, 3) := by decide +kernel
theorem dX7_begin_107 : decode cX7_begin 107 = .ok (.iconst (-1), 1) := by decide +kernel
theorem dX7_begin_108 : decode cX7_begin 108 = .ok (.invokestatic 74, 3) := by decide +kernel
theorem dX7_begin_111 : decode cX7_begin 111 = .ok (.return_, 1) := by decide +kernel
theorem dX7_copyFrom_0 : decode cX7_copyFrom 0 = .ok (.aload_n 0, 1) := by decide +kernel
theorem dX7_copyFrom_1 : decode cX7_copyFrom 1 = .ok (.aload_n 1, 1) := by decide +kernel
theorem dX7_copyFrom_2 : decode cX7_copyFrom 2 = .ok (.getfield 41, 3) := by decide +kernel
theorem dX7_copyFrom_5 : decode cX7_copyFrom 5 = .ok (.putfield 41, 3) := by decide +kernel
theorem dX7_copyFrom_8 : decode cX7_copyFrom 8 = .ok (.aload_n 0, 1) := by decide +kernel
theorem dX7_copyFrom_9 : decode cX7_copyFrom 9 = .ok (.aload_n 1, 1) := by decide +kernel
theorem dX7_copyFrom_10 : decode cX7_copyFrom 10 = .ok (.getfield 50, 3) := by decide +kernel
theorem dX7_copyFrom_13 : decode cX7_copyFrom 13 = .ok (.putfield 50, 3) := by decide +kernel
theorem dX7_copyFrom_16 : decode cX7_copyFrom 16 = .ok (.aload_n 0, 1) := by decide +kernel
theorem dX7_copyFrom_17 : decode cX7_copyFrom 17 = .ok (.aload_n 1, 1) := by decide +kernel
theorem dX7_copyFrom_18 : decode cX7_copyFrom 18 = .ok (.getfield 9, 3) := by decide +kernel
theorem dX7_copyFrom_21 : decode cX7_copyFrom 21 = .ok (.putfield 9, 3) := by decide +kernel
theorem dX7_copyFrom_24 : decode cX7_copyFrom 24 = .ok (.aload_n 0, 1) := by decide +kernel
theorem dX7_copyFrom_25 : decode cX7_copyFrom 25 = .ok (.aload_n 1, 1) := by decide +kernel
theorem dX7_copyFrom_26 : decode cX7_copyFrom 26 = .ok (.getfield 54, 3) := by decide +kernel
theorem dX7_copyFrom_29 : decode cX7_copyFrom 29 = .ok (.putfield 54, 3) := by decide +kernel
theorem dX7_copyFrom_32 : decode cX7_copyFrom 32 = .ok (.aload_n 0, 1) := by decide +kernel
theorem dX7_copyFrom_33 : decode cX7_copyFrom 33 = .ok (.aload_n 1, 1) := by decide +kernel
theorem dX7_copyFrom_34 : decode cX7_copyFrom 34 = .ok (.getfield 57, 3) := by decide +kernel
theorem dX7_copyFrom_37 : decode cX7_copyFrom 37 = .ok (.putfield 57, 3) := by decide +kernel
theorem dX7_copyFrom_40 : decode cX7_copyFrom 40 = .ok (.aload_n 0, 1) := by decide +kernel
theorem dX7_copyFrom_41 : decode cX7_copyFrom 41 = .ok (.aload_n 1, 1) := by decide +kernel
theorem dX7_copyFrom_42 : decode cX7_copyFrom 42 = .ok (.getfield 63, 3) := by decide +kernel
theorem dX7_copyFrom_45 : decode cX7_copyFrom 45 = .ok (.putfield 63, 3) := by decide +kernel
theorem dX7_copyFrom_48 : decode cX7_copyFrom 48 = .ok (.aload_n 0, 1) := by decide +kernel
theorem dX7_copyFrom_49 : decode cX7_copyFrom 49 = .ok (.aload_n 1, 1) := by decide +kernel
theorem dX7_copyFrom_50 : decode cX7_copyFrom 50 = .ok (.getfield 15, 3) := by decide +kernel
theorem dX7_copyFrom_53 : decode cX7_copyFrom 53 = .ok (.putfield 15, 3) := by decide +kernel
theorem dX7_copyFrom_56 : decode cX7_copyFrom 56 = .ok (.aload_n 0, 1) := by decide +kernel
theorem dX7_copyFrom_57 : decode cX7_copyFrom 57 = .ok (.aload_n 1, 1) := by decide +kernel
theorem dX7_copyFrom_58 : decode cX7_copyFrom 58 = .ok (.getfield 18, 3) := by decide +kernel
theorem dX7_copyFrom_61 : decode cX7_copyFrom 61 = .ok (.putfield 18, 3) := by decide +kernel
theorem dX7_copyFrom_64 : decode cX7_copyFrom 64 = .ok (.aload_n 1, 1) := by decide +kernel
theorem dX7_copyFrom_65 : decode cX7_copyFrom 65 = .ok (.getfield 22, 3) := by decide +kernel
theorem dX7_copyFrom_68 : decode cX7_copyFrom 68 = .ok (.iconst 0, 1) := by decide +kernel
theorem dX7_copyFrom_69 : decode cX7_copyFrom 69 = .ok (.aload_n 0, 1) := by decide +kernel
theorem dX7_copyFrom_70 : decode cX7_copyFrom 70 = .ok (.getfield 22, 3) := by decide +kernel
theorem dX7_copyFrom_73 : decode cX7_copyFrom 73 = .ok (.iconst 0, 1) := by decide +kernel
theorem dX7_copyFrom_74 : decode cX7_copyFrom 74 = .ok (.bipush 8, 2) := by decide +kernel
theorem dX7_copyFrom_76 : decode cX7_copyFrom 76 = .ok (.invokestatic 65, 3) := by decide +kernel
theorem dX7_copyFrom_79 : decode cX7_copyFrom 79 = .ok (.aload_n 1, 1) := by decide +kernel
theorem dX7_copyFrom_80 : decode cX7_copyFrom 80 = .ok (.getfield 26, 3) := by decide +kernel
theorem dX7_copyFrom_83 : decode cX7_copyFrom 83 = .ok (.iconst 0, 1) := by decide +kernel
theorem dX7_copyFrom_84 : decode cX7_copyFrom 84 = .ok (.aload_n 0, 1) := by decide +kernel
theorem dX7_copyFrom_85 : decode cX7_copyFrom 85 = .ok (.getfield 26, 3) := by decide +kernel
theorem dX7_copyFrom_88 : decode cX7_copyFrom 88 = .ok (.iconst 0, 1) := by decide +kernel
theorem dX7_copyFrom_89 : decode cX7_copyFrom 89 = .ok (.bipush 8, 2) := by decide +kernel
theorem dX7_copyFrom_91 : decode cX7_copyFrom 91 = .ok (.invokestatic 65, 3) := by decide +kernel
theorem dX7_copyFrom_94 : decode cX7_copyFrom 94 = .ok (.aload_n 1, 1) := by decide +kernel
theorem dX7_copyFrom_95 : decode cX7_copyFrom 95 = .ok (.getfield 29, 3) := by decide +kernel
theorem dX7_copyFrom_98 : decode cX7_copyFrom 98 = .ok (.iconst 0, 1) := by decide +kernel
theorem dX7_copyFrom_99 : decode cX7_copyFrom 99 = .ok (.aload_n 0, 1) := by decide +kernel
theorem dX7_copyFrom_100 : decode cX7_copyFrom 100 = .ok (.getfield 29, 3) := by decide +kernel
theorem dX7_copyFrom_103 : decode cX7_copyFrom 103 = .ok (.iconst 0, 1) := by decide +kernel
theorem dX7_copyFrom_104 : decode cX7_copyFrom 104 = .ok (.bipush 10, 2) := by decide +kernel
theorem dX7_copyFrom_106 : decode cX7_copyFrom 106 = .ok (.invokestatic 65, 3) := by decide +kernel
theorem dX7_copyFrom_109 : decode cX7_copyFrom 109 = .ok (.aload_n 1, 1) := by decide +kernel
theorem dX7_copyFrom_110 : decode cX7_copyFrom 110 = .ok (.getfield 32, 3) := by decide +kernel
theorem dX7_copyFrom_113 : decode cX7_copyFrom 113 = .ok (.iconst 0, 1) := by decide +kernel
theorem dX7_copyFrom_114 : decode cX7_copyFrom 114 = .ok (.aload_n 0, 1) := by decide +kernel
theorem dX7_copyFrom_115 : decode cX7_copyFrom 115 = .ok (.getfield 32, 3) := by decide +kernel
theorem dX7_copyFrom_118 : decode cX7_copyFrom 118 = .ok (.iconst 0, 1) := by decide +kernel
theorem dX7_copyFrom_119 : decode cX7_copyFrom 119 = .ok (.bipush 10, 2) := by decide +kernel
theorem dX7_copyFrom_121 : decode cX7_copyFrom 121 = .ok (.invokestatic 65, 3) := by decide +kernel
theorem dX7_copyFrom_124 : decode cX7_copyFrom 124 = .ok (.aload_n 1, 1) := by decide +kernel
theorem dX7_copyFrom_125 : decode cX7_copyFrom 125 = .ok (.getfield 35, 3) := by decide +kernel
theorem dX7_copyFrom_128 : decode cX7_copyFrom 128 = .ok (.iconst 0, 1) := by decide +kernel
theorem dX7_copyFrom_129 : decode cX7_copyFrom 129 = .ok (.aload_n 0, 1) := by decide +kernel
theorem dX7_copyFrom_130 : decode cX7_copyFrom 130 = .ok (.getfield 35, 3) := by decide +kernel
theorem dX7_copyFrom_133 : decode cX7_copyFrom 133 = .ok (.iconst 0, 1) := by decide +kernel
theorem dX7_copyFrom_134 : decode cX7_copyFrom 134 = .ok (.bipush 10, 2) := by decide +kernel
theorem dX7_copyFrom_136 : decode cX7_copyFrom 136 = .ok (.invokestatic 65, 3) := by decide +kernel
theorem dX7_copyFrom_139 : decode cX7_copyFrom 139 = .ok (.return_, 1) := by decide +kernel
theorem dX7_filed_0 : decode cX7_filed 0 = .ok (.aload_n 0, 1) := by decide +kernel
theorem dX7_filed_1 : decode cX7_filed 1 = .ok (.getfield 22, 3) := by decide +kernel
theorem dX7_filed_4 : decode cX7_filed 4 = .ok (.iload_n 1, 1) := by decide +kernel
theorem dX7_filed_5 : decode cX7_filed 5 = .ok (.dup2, 1) := by decide +kernel
theorem dX7_filed_6 : decode cX7_filed 6 = .ok (.iaload, 1) := by decide +kernel
theorem dX7_filed_7 : decode cX7_filed 7 = .ok (.iload_n 2, 1) := by decide +kernel
theorem dX7_filed_8 : decode cX7_filed 8 = .ok (.iadd, 1) := by decide +kernel
theorem dX7_filed_9 : decode cX7_filed 9 = .ok (.iastore, 1) := by decide +kernel
theorem dX7_filed_10 : decode cX7_filed 10 = .ok (.aload_n 0, 1) := by decide +kernel
theorem dX7_filed_11 : decode cX7_filed 11 = .ok (.dup, 1) := by decide +kernel
theorem dX7_filed_12 : decode cX7_filed 12 = .ok (.getfield 9, 3) := by decide +kernel
theorem dX7_filed_15 : decode cX7_filed 15 = .ok (.iload_n 3, 1) := by decide +kernel
theorem dX7_filed_16 : decode cX7_filed 16 = .ok (.isub, 1) := by decide +kernel
theorem dX7_filed_17 : decode cX7_filed 17 = .ok (.putfield 9, 3) := by decide +kernel
theorem dX7_filed_20 : decode cX7_filed 20 = .ok (.aload_n 0, 1) := by decide +kernel
theorem dX7_filed_21 : decode cX7_filed 21 = .ok (.dup, 1) := by decide +kernel
theorem dX7_filed_22 : decode cX7_filed 22 = .ok (.getfield 54, 3) := by decide +kernel
theorem dX7_filed_25 : decode cX7_filed 25 = .ok (.iload_n 3, 1) := by decide +kernel
theorem dX7_filed_26 : decode cX7_filed 26 = .ok (.iadd, 1) := by decide +kernel
theorem dX7_filed_27 : decode cX7_filed 27 = .ok (.putfield 54, 3) := by decide +kernel
theorem dX7_filed_30 : decode cX7_filed 30 = .ok (.return_, 1) := by decide +kernel
theorem dX7_beatsOf_0 : decode cX7_beatsOf 0 = .ok (.iload_n 0, 1) := by decide +kernel
theorem dX7_beatsOf_1 : decode cX7_beatsOf 1 = .ok (.iload_n 1, 1) := by decide +kernel
theorem dX7_beatsOf_2 : decode cX7_beatsOf 2 = .ok (.isub, 1) := by decide +kernel
theorem dX7_beatsOf_3 : decode cX7_beatsOf 3 = .ok (.invokestatic 80, 3) := by decide +kernel
theorem dX7_beatsOf_6 : decode cX7_beatsOf 6 = .ok (.iconst 2, 1) := by decide +kernel
theorem dX7_beatsOf_7 : decode cX7_beatsOf 7 = .ok (.iload_n 0, 1) := by decide +kernel
theorem dX7_beatsOf_8 : decode cX7_beatsOf 8 = .ok (.imul, 1) := by decide +kernel
theorem dX7_beatsOf_9 : decode cX7_beatsOf 9 = .ok (.iload_n 1, 1) := by decide +kernel
theorem dX7_beatsOf_10 : decode cX7_beatsOf 10 = .ok (.isub, 1) := by decide +kernel
theorem dX7_beatsOf_11 : decode cX7_beatsOf 11 = .ok (.invokestatic 80, 3) := by decide +kernel
theorem dX7_beatsOf_14 : decode cX7_beatsOf 14 = .ok (.invokestatic 85, 3) := by decide +kernel
theorem dX7_beatsOf_17 : decode cX7_beatsOf 17 = .ok (.istore_n 2, 1) := by decide +kernel
theorem dX7_beatsOf_18 : decode cX7_beatsOf 18 = .ok (.iload_n 2, 1) := by decide +kernel
theorem dX7_beatsOf_19 : decode cX7_beatsOf 19 = .ok (.iload_n 0, 1) := by decide +kernel
theorem dX7_beatsOf_20 : decode cX7_beatsOf 20 = .ok (.iconst 2, 1) := by decide +kernel
theorem dX7_beatsOf_21 : decode cX7_beatsOf 21 = .ok (.iload_n 1, 1) := by decide +kernel
theorem dX7_beatsOf_22 : decode cX7_beatsOf 22 = .ok (.imul, 1) := by decide +kernel
theorem dX7_beatsOf_23 : decode cX7_beatsOf 23 = .ok (.isub, 1) := by decide +kernel
theorem dX7_beatsOf_24 : decode cX7_beatsOf 24 = .ok (.invokestatic 80, 3) := by decide +kernel
theorem dX7_beatsOf_27 : decode cX7_beatsOf 27 = .ok (.invokestatic 85, 3) := by decide +kernel
theorem dX7_beatsOf_30 : decode cX7_beatsOf 30 = .ok (.ireturn, 1) := by decide +kernel
theorem dX7_soundOf_0 : decode cX7_soundOf 0 = .ok (.iconst 1, 1) := by decide +kernel
theorem dX7_soundOf_1 : decode cX7_soundOf 1 = .ok (.aload_n 0, 1) := by decide +kernel
theorem dX7_soundOf_2 : decode cX7_soundOf 2 = .ok (.getfield 22, 3) := by decide +kernel
theorem dX7_soundOf_5 : decode cX7_soundOf 5 = .ok (.iload_n 1, 1) := by decide +kernel
theorem dX7_soundOf_6 : decode cX7_soundOf 6 = .ok (.iaload, 1) := by decide +kernel
theorem dX7_soundOf_7 : decode cX7_soundOf 7 = .ok (.aload_n 0, 1) := by decide +kernel
theorem dX7_soundOf_8 : decode cX7_soundOf 8 = .ok (.getfield 50, 3) := by decide +kernel
theorem dX7_soundOf_11 : decode cX7_soundOf 11 = .ok (.isub, 1) := by decide +kernel
theorem dX7_soundOf_12 : decode cX7_soundOf 12 = .ok (.invokestatic 89, 3) := by decide +kernel
theorem dX7_soundOf_15 : decode cX7_soundOf 15 = .ok (.ireturn, 1) := by decide +kernel
theorem dX7_beating_0 : decode cX7_beating 0 = .ok (.aload_n 0, 1) := by decide +kernel
theorem dX7_beating_1 : decode cX7_beating 1 = .ok (.iload_n 1, 1) := by decide +kernel
theorem dX7_beating_2 : decode cX7_beating 2 = .ok (.invokevirtual 92, 3) := by decide +kernel
theorem dX7_beating_5 : decode cX7_beating 5 = .ok (.iload_n 2, 1) := by decide +kernel
theorem dX7_beating_6 : decode cX7_beating 6 = .ok (.invokestatic 95, 3) := by decide +kernel
theorem dX7_beating_9 : decode cX7_beating 9 = .ok (.ireturn, 1) := by decide +kernel
theorem dX7_wouldBeat_0 : decode cX7_wouldBeat 0 = .ok (.aload_n 0, 1) := by decide +kernel
theorem dX7_wouldBeat_1 : decode cX7_wouldBeat 1 = .ok (.getfield 22, 3) := by decide +kernel
theorem dX7_wouldBeat_4 : decode cX7_wouldBeat 4 = .ok (.iload_n 1, 1) := by decide +kernel
theorem dX7_wouldBeat_5 : decode cX7_wouldBeat 5 = .ok (.iaload, 1) := by decide +kernel
theorem dX7_wouldBeat_6 : decode cX7_wouldBeat 6 = .ok (.iload_n 2, 1) := by decide +kernel
theorem dX7_wouldBeat_7 : decode cX7_wouldBeat 7 = .ok (.iadd, 1) := by decide +kernel
theorem dX7_wouldBeat_8 : decode cX7_wouldBeat 8 = .ok (.istore 4, 2) := by decide +kernel
theorem dX7_wouldBeat_10 : decode cX7_wouldBeat 10 = .ok (.iload 4, 2) := by decide +kernel
theorem dX7_wouldBeat_12 : decode cX7_wouldBeat 12 = .ok (.invokestatic 98, 3) := by decide +kernel
theorem dX7_wouldBeat_15 : decode cX7_wouldBeat 15 = .ok (.ifCond .eq 31, 3) := by decide +kernel
theorem dX7_wouldBeat_18 : decode cX7_wouldBeat 18 = .ok (.iconst 1, 1) := by decide +kernel
theorem dX7_wouldBeat_19 : decode cX7_wouldBeat 19 = .ok (.iload 4, 2) := by decide +kernel
theorem dX7_wouldBeat_21 : decode cX7_wouldBeat 21 = .ok (.aload_n 0, 1) := by decide +kernel
theorem dX7_wouldBeat_22 : decode cX7_wouldBeat 22 = .ok (.getfield 50, 3) := by decide +kernel
theorem dX7_wouldBeat_25 : decode cX7_wouldBeat 25 = .ok (.isub, 1) := by decide +kernel
theorem dX7_wouldBeat_26 : decode cX7_wouldBeat 26 = .ok (.invokestatic 89, 3) := by decide +kernel
theorem dX7_wouldBeat_29 : decode cX7_wouldBeat 29 = .ok (.iload_n 3, 1) := by decide +kernel
theorem dX7_wouldBeat_30 : decode cX7_wouldBeat 30 = .ok (.invokestatic 95, 3) := by decide +kernel
theorem dX7_wouldBeat_33 : decode cX7_wouldBeat 33 = .ok (.aload_n 0, 1) := by decide +kernel
theorem dX7_wouldBeat_34 : decode cX7_wouldBeat 34 = .ok (.getfield 26, 3) := by decide +kernel
theorem dX7_wouldBeat_37 : decode cX7_wouldBeat 37 = .ok (.iload_n 1, 1) := by decide +kernel
theorem dX7_wouldBeat_38 : decode cX7_wouldBeat 38 = .ok (.iaload, 1) := by decide +kernel
theorem dX7_wouldBeat_39 : decode cX7_wouldBeat 39 = .ok (.if_icmp .gt 7, 3) := by decide +kernel
theorem dX7_wouldBeat_42 : decode cX7_wouldBeat 42 = .ok (.iconst 1, 1) := by decide +kernel
theorem dX7_wouldBeat_43 : decode cX7_wouldBeat 43 = .ok (.goto 4, 3) := by decide +kernel
theorem dX7_wouldBeat_46 : decode cX7_wouldBeat 46 = .ok (.iconst 0, 1) := by decide +kernel
theorem dX7_wouldBeat_47 : decode cX7_wouldBeat 47 = .ok (.ireturn, 1) := by decide +kernel
theorem dX7_humLaw_0 : decode cX7_humLaw 0 = .ok (.aload_n 1, 1) := by decide +kernel
theorem dX7_humLaw_1 : decode cX7_humLaw 1 = .ok (.getfield 102, 3) := by decide +kernel
theorem dX7_humLaw_4 : decode cX7_humLaw 4 = .ok (.iconst 0, 1) := by decide +kernel
theorem dX7_humLaw_5 : decode cX7_humLaw 5 = .ok (.invokevirtual 106, 3) := by decide +kernel
theorem dX7_humLaw_8 : decode cX7_humLaw 8 = .ok (.ifCond .ne 7, 3) := by decide +kernel
theorem dX7_humLaw_11 : decode cX7_humLaw 11 = .ok (.ldc2_w 111, 3) := by decide +kernel
theorem dX7_humLaw_14 : decode cX7_humLaw 14 = .ok (.lreturn, 1) := by decide +kernel
theorem dX7_humLaw_15 : decode cX7_humLaw 15 = .ok (.aload_n 0, 1) := by decide +kernel
theorem dX7_humLaw_16 : decode cX7_humLaw 16 = .ok (.iload_n 2, 1) := by decide +kernel
theorem dX7_humLaw_17 : decode cX7_humLaw 17 = .ok (.invokevirtual 92, 3) := by decide +kernel
theorem dX7_humLaw_20 : decode cX7_humLaw 20 = .ok (.istore 4, 2) := by decide +kernel
theorem dX7_humLaw_22 : decode cX7_humLaw 22 = .ok (.aload_n 1, 1) := by decide +kernel
theorem dX7_humLaw_23 : decode cX7_humLaw 23 = .ok (.getfield 102, 3) := by decide +kernel
theorem dX7_humLaw_26 : decode cX7_humLaw 26 = .ok (.iload 4, 2) := by decide +kernel
theorem dX7_humLaw_28 : decode cX7_humLaw 28 = .ok (.iload_n 3, 1) := by decide +kernel
theorem dX7_humLaw_29 : decode cX7_humLaw 29 = .ok (.aload_n 0, 1) := by decide +kernel
theorem dX7_humLaw_30 : decode cX7_humLaw 30 = .ok (.getfield 26, 3) := by decide +kernel
theorem dX7_humLaw_33 : decode cX7_humLaw 33 = .ok (.iload_n 2, 1) := by decide +kernel
theorem dX7_humLaw_34 : decode cX7_humLaw 34 = .ok (.iaload, 1) := by decide +kernel
theorem dX7_humLaw_35 : decode cX7_humLaw 35 = .ok (.aload_n 1, 1) := by decide +kernel
theorem dX7_humLaw_36 : decode cX7_humLaw 36 = .ok (.getfield 113, 3) := by decide +kernel
theorem dX7_humLaw_39 : decode cX7_humLaw 39 = .ok (.iload_n 2, 1) := by decide +kernel
theorem dX7_humLaw_40 : decode cX7_humLaw 40 = .ok (.iaload, 1) := by decide +kernel
theorem dX7_humLaw_41 : decode cX7_humLaw 41 = .ok (.iload 4, 2) := by decide +kernel
theorem dX7_humLaw_43 : decode cX7_humLaw 43 = .ok (.iload_n 3, 1) := by decide +kernel
theorem dX7_humLaw_44 : decode cX7_humLaw 44 = .ok (.invokestatic 95, 3) := by decide +kernel
theorem dX7_humLaw_47 : decode cX7_humLaw 47 = .ok (.aload_n 0, 1) := by decide +kernel
theorem dX7_humLaw_48 : decode cX7_humLaw 48 = .ok (.getfield 50, 3) := by decide +kernel
theorem dX7_humLaw_51 : decode cX7_humLaw 51 = .ok (.aload_n 0, 1) := by decide +kernel
theorem dX7_humLaw_52 : decode cX7_humLaw 52 = .ok (.getfield 41, 3) := by decide +kernel
theorem dX7_humLaw_55 : decode cX7_humLaw 55 = .ok (.invokevirtual 116, 3) := by decide +kernel
theorem dX7_humLaw_58 : decode cX7_humLaw 58 = .ok (.aload_n 1, 1) := by decide +kernel
theorem dX7_humLaw_59 : decode cX7_humLaw 59 = .ok (.getfield 102, 3) := by decide +kernel
theorem dX7_humLaw_62 : decode cX7_humLaw 62 = .ok (.iconst 0, 1) := by decide +kernel
theorem dX7_humLaw_63 : decode cX7_humLaw 63 = .ok (.invokevirtual 120, 3) := by decide +kernel
theorem dX7_humLaw_66 : decode cX7_humLaw 66 = .ok (.lreturn, 1) := by decide +kernel
theorem dX7_rustLaw_0 : decode cX7_rustLaw 0 = .ok (.aload_n 1, 1) := by decide +kernel
theorem dX7_rustLaw_1 : decode cX7_rustLaw 1 = .ok (.getfield 102, 3) := by decide +kernel
theorem dX7_rustLaw_4 : decode cX7_rustLaw 4 = .ok (.iconst 1, 1) := by decide +kernel
theorem dX7_rustLaw_5 : decode cX7_rustLaw 5 = .ok (.invokevirtual 106, 3) := by decide +kernel
theorem dX7_rustLaw_8 : decode cX7_rustLaw 8 = .ok (.ifCond .ne 7, 3) := by decide +kernel
theorem dX7_rustLaw_11 : decode cX7_rustLaw 11 = .ok (.ldc2_w 111, 3) := by decide +kernel
theorem dX7_rustLaw_14 : decode cX7_rustLaw 14 = .ok (.lreturn, 1) := by decide +kernel
theorem dX7_rustLaw_15 : decode cX7_rustLaw 15 = .ok (.aload_n 1, 1) := by decide +kernel
theorem dX7_rustLaw_16 : decode cX7_rustLaw 16 = .ok (.getfield 102, 3) := by decide +kernel
theorem dX7_rustLaw_19 : decode cX7_rustLaw 19 = .ok (.aload_n 0, 1) := by decide +kernel
theorem dX7_rustLaw_20 : decode cX7_rustLaw 20 = .ok (.iload_n 2, 1) := by decide +kernel
theorem dX7_rustLaw_21 : decode cX7_rustLaw 21 = .ok (.invokevirtual 92, 3) := by decide +kernel
theorem dX7_rustLaw_24 : decode cX7_rustLaw 24 = .ok (.iconst 0, 1) := by decide +kernel
theorem dX7_rustLaw_25 : decode cX7_rustLaw 25 = .ok (.aload_n 0, 1) := by decide +kernel
theorem dX7_rustLaw_26 : decode cX7_rustLaw 26 = .ok (.getfield 26, 3) := by decide +kernel
theorem dX7_rustLaw_29 : decode cX7_rustLaw 29 = .ok (.iload_n 2, 1) := by decide +kernel
theorem dX7_rustLaw_30 : decode cX7_rustLaw 30 = .ok (.iaload, 1) := by decide +kernel
theorem dX7_rustLaw_31 : decode cX7_rustLaw 31 = .ok (.aload_n 1, 1) := by decide +kernel
theorem dX7_rustLaw_32 : decode cX7_rustLaw 32 = .ok (.getfield 113, 3) := by decide +kernel
theorem dX7_rustLaw_35 : decode cX7_rustLaw 35 = .ok (.iload_n 2, 1) := by decide +kernel
theorem dX7_rustLaw_36 : decode cX7_rustLaw 36 = .ok (.iaload, 1) := by decide +kernel
theorem dX7_rustLaw_37 : decode cX7_rustLaw 37 = .ok (.iconst 0, 1) := by decide +kernel
theorem dX7_rustLaw_38 : decode cX7_rustLaw 38 = .ok (.aload_n 0, 1) := by decide +kernel
theorem dX7_rustLaw_39 : decode cX7_rustLaw 39 = .ok (.getfield 50, 3) := by decide +kernel
theorem dX7_rustLaw_42 : decode cX7_rustLaw 42 = .ok (.aload_n 0, 1) := by decide +kernel
theorem dX7_rustLaw_43 : decode cX7_rustLaw 43 = .ok (.getfield 41, 3) := by decide +kernel
theorem dX7_rustLaw_46 : decode cX7_rustLaw 46 = .ok (.invokevirtual 116, 3) := by decide +kernel
theorem dX7_rustLaw_49 : decode cX7_rustLaw 49 = .ok (.aload_n 1, 1) := by decide +kernel
theorem dX7_rustLaw_50 : decode cX7_rustLaw 50 = .ok (.getfield 102, 3) := by decide +kernel
theorem dX7_rustLaw_53 : decode cX7_rustLaw 53 = .ok (.iconst 1, 1) := by decide +kernel
theorem dX7_rustLaw_54 : decode cX7_rustLaw 54 = .ok (.invokevirtual 120, 3) := by decide +kernel
theorem dX7_rustLaw_57 : decode cX7_rustLaw 57 = .ok (.lreturn, 1) := by decide +kernel
theorem dX7_passLaw_0 : decode cX7_passLaw 0 = .ok (.aload_n 1, 1) := by decide +kernel
theorem dX7_passLaw_1 : decode cX7_passLaw 1 = .ok (.getfield 102, 3) := by decide +kernel
theorem dX7_passLaw_4 : decode cX7_passLaw 4 = .ok (.iconst 2, 1) := by decide +kernel
theorem dX7_passLaw_5 : decode cX7_passLaw 5 = .ok (.invokevirtual 106, 3) := by decide +kernel
theorem dX7_passLaw_8 : decode cX7_passLaw 8 = .ok (.ifCond .ne 7, 3) := by decide +kernel
theorem dX7_passLaw_11 : decode cX7_passLaw 11 = .ok (.ldc2_w 111, 3) := by decide +kernel
theorem dX7_passLaw_14 : decode cX7_passLaw 14 = .ok (.lreturn, 1) := by decide +kernel
theorem dX7_passLaw_15 : decode cX7_passLaw 15 = .ok (.aload_n 1, 1) := by decide +kernel
theorem dX7_passLaw_16 : decode cX7_passLaw 16 = .ok (.getfield 102, 3) := by decide +kernel
theorem dX7_passLaw_19 : decode cX7_passLaw 19 = .ok (.iconst 0, 1) := by decide +kernel
theorem dX7_passLaw_20 : decode cX7_passLaw 20 = .ok (.iload_n 2, 1) := by decide +kernel
theorem dX7_passLaw_21 : decode cX7_passLaw 21 = .ok (.iconst 0, 1) := by decide +kernel
theorem dX7_passLaw_22 : decode cX7_passLaw 22 = .ok (.iload_n 3, 1) := by decide +kernel
theorem dX7_passLaw_23 : decode cX7_passLaw 23 = .ok (.iconst 0, 1) := by decide +kernel
theorem dX7_passLaw_24 : decode cX7_passLaw 24 = .ok (.aload_n 0, 1) := by decide +kernel
theorem dX7_passLaw_25 : decode cX7_passLaw 25 = .ok (.getfield 50, 3) := by decide +kernel
theorem dX7_passLaw_28 : decode cX7_passLaw 28 = .ok (.aload_n 0, 1) := by decide +kernel
theorem dX7_passLaw_29 : decode cX7_passLaw 29 = .ok (.getfield 41, 3) := by decide +kernel
theorem dX7_passLaw_32 : decode cX7_passLaw 32 = .ok (.invokevirtual 116, 3) := by decide +kernel
theorem dX7_passLaw_35 : decode cX7_passLaw 35 = .ok (.aload_n 1, 1) := by decide +kernel
theorem dX7_passLaw_36 : decode cX7_passLaw 36 = .ok (.getfield 102, 3) := by decide +kernel
theorem dX7_passLaw_39 : decode cX7_passLaw 39 = .ok (.iconst 2, 1) := by decide +kernel
theorem dX7_passLaw_40 : decode cX7_passLaw 40 = .ok (.invokevirtual 120, 3) := by decide +kernel
theorem dX7_passLaw_43 : decode cX7_passLaw 43 = .ok (.lreturn, 1) := by decide +kernel
theorem dX7_humOf_0 : decode cX7_humOf 0 = .ok (.iload_n 2, 1) := by decide +kernel
theorem dX7_humOf_1 : decode cX7_humOf 1 = .ok (.aload_n 0, 1) := by decide +kernel
theorem dX7_humOf_2 : decode cX7_humOf 2 = .ok (.getfield 15, 3) := by decide +kernel
theorem dX7_humOf_5 : decode cX7_humOf 5 = .ok (.if_icmp .eq 15, 3) := by decide +kernel
theorem dX7_humOf_8 : decode cX7_humOf 8 = .ok (.aload_n 0, 1) := by decide +kernel
theorem dX7_humOf_9 : decode cX7_humOf 9 = .ok (.getfield 57, 3) := by decide +kernel
theorem dX7_humOf_12 : decode cX7_humOf 12 = .ok (.iload_n 2, 1) := by decide +kernel
theorem dX7_humOf_13 : decode cX7_humOf 13 = .ok (.invokestatic 124, 3) := by decide +kernel
theorem dX7_humOf_16 : decode cX7_humOf 16 = .ok (.iconst 1, 1) := by decide +kernel
theorem dX7_humOf_17 : decode cX7_humOf 17 = .ok (.if_icmp .ne 5, 3) := by decide +kernel
theorem dX7_humOf_20 : decode cX7_humOf 20 = .ok (.iconst 0, 1) := by decide +kernel
theorem dX7_humOf_21 : decode cX7_humOf 21 = .ok (.ireturn, 1) := by decide +kernel
theorem dX7_humOf_22 : decode cX7_humOf 22 = .ok (.aload_n 0, 1) := by decide +kernel
theorem dX7_humOf_23 : decode cX7_humOf 23 = .ok (.aload_n 1, 1) := by decide +kernel
theorem dX7_humOf_24 : decode cX7_humOf 24 = .ok (.iload_n 2, 1) := by decide +kernel
theorem dX7_humOf_25 : decode cX7_humOf 25 = .ok (.iload_n 3, 1) := by decide +kernel
theorem dX7_humOf_26 : decode cX7_humOf 26 = .ok (.invokevirtual 127, 3) := by decide +kernel
theorem dX7_humOf_29 : decode cX7_humOf 29 = .ok (.lstore 4, 2) := by decide +kernel
theorem dX7_humOf_31 : decode cX7_humOf 31 = .ok (.lload 4, 2) := by decide +kernel
theorem dX7_humOf_33 : decode cX7_humOf 33 = .ok (.ldc2_w 111, 3) := by decide +kernel
theorem dX7_humOf_36 : decode cX7_humOf 36 = .ok (.lcmp, 1) := by decide +kernel
theorem dX7_humOf_37 : decode cX7_humOf 37 = .ok (.ifCond .eq 12, 3) := by decide +kernel
theorem dX7_humOf_40 : decode cX7_humOf 40 = .ok (.lload 4, 2) := by decide +kernel
theorem dX7_humOf_42 : decode cX7_humOf 42 = .ok (.iconst 0, 1) := by decide +kernel
theorem dX7_humOf_43 : decode cX7_humOf 43 = .ok (.bipush 99, 2) := by decide +kernel
theorem dX7_humOf_45 : decode cX7_humOf 45 = .ok (.invokestatic 131, 3) := by decide +kernel
theorem dX7_humOf_48 : decode cX7_humOf 48 = .ok (.ireturn, 1) := by decide +kernel
theorem dX7_humOf_49 : decode cX7_humOf 49 = .ok (.aload_n 0, 1) := by decide +kernel
theorem dX7_humOf_50 : decode cX7_humOf 50 = .ok (.getfield 63, 3) := by decide +kernel
theorem dX7_humOf_53 : decode cX7_humOf 53 = .ok (.iload_n 2, 1) := by decide +kernel
theorem dX7_humOf_54 : decode cX7_humOf 54 = .ok (.invokestatic 124, 3) := by decide +kernel
theorem dX7_humOf_57 : decode cX7_humOf 57 = .ok (.iconst 1, 1) := by decide +kernel
theorem dX7_humOf_58 : decode cX7_humOf 58 = .ok (.if_icmp .eq 18, 3) := by decide +kernel
theorem dX7_humOf_61 : decode cX7_humOf 61 = .ok (.aload_n 0, 1) := by decide +kernel
theorem dX7_humOf_62 : decode cX7_humOf 62 = .ok (.iload_n 2, 1) := by decide +kernel
theorem dX7_humOf_63 : decode cX7_humOf 63 = .ok (.iload_n 3, 1) := by decide +kernel
theorem dX7_humOf_64 : decode cX7_humOf 64 = .ok (.invokevirtual 135, 3) := by decide +kernel
theorem dX7_humOf_67 : decode cX7_humOf 67 = .ok (.aload_n 0, 1) := by decide +kernel
theorem dX7_humOf_68 : decode cX7_humOf 68 = .ok (.getfield 26, 3) := by decide +kernel
theorem dX7_humOf_71 : decode cX7_humOf 71 = .ok (.iload_n 2, 1) := by decide +kernel
theorem dX7_humOf_72 : decode cX7_humOf 72 = .ok (.iaload, 1) := by decide +kernel
theorem dX7_humOf_73 : decode cX7_humOf 73 = .ok (.if_icmp .gt 7, 3) := by decide +kernel
theorem dX7_humOf_76 : decode cX7_humOf 76 = .ok (.iconst 1, 1) := by decide +kernel
theorem dX7_humOf_77 : decode cX7_humOf 77 = .ok (.goto 4, 3) := by decide +kernel
theorem dX7_humOf_80 : decode cX7_humOf 80 = .ok (.iconst 0, 1) := by decide +kernel
theorem dX7_humOf_81 : decode cX7_humOf 81 = .ok (.istore 6, 2) := by decide +kernel
theorem dX7_humOf_83 : decode cX7_humOf 83 = .ok (.iload 6, 2) := by decide +kernel
theorem dX7_humOf_85 : decode cX7_humOf 85 = .ok (.ifCond .eq 12, 3) := by decide +kernel
theorem dX7_humOf_88 : decode cX7_humOf 88 = .ok (.aload_n 1, 1) := by decide +kernel
theorem dX7_humOf_89 : decode cX7_humOf 89 = .ok (.getfield 113, 3) := by decide +kernel
theorem dX7_humOf_92 : decode cX7_humOf 92 = .ok (.iload_n 2, 1) := by decide +kernel
theorem dX7_humOf_93 : decode cX7_humOf 93 = .ok (.iaload, 1) := by decide +kernel
theorem dX7_humOf_94 : decode cX7_humOf 94 = .ok (.goto 4, 3) := by decide +kernel
theorem dX7_humOf_97 : decode cX7_humOf 97 = .ok (.iconst 0, 1) := by decide +kernel
theorem dX7_humOf_98 : decode cX7_humOf 98 = .ok (.ireturn, 1) := by decide +kernel
theorem dX7_humOfAll_0 : decode cX7_humOfAll 0 = .ok (.iconst 0, 1) := by decide +kernel
theorem dX7_humOfAll_1 : decode cX7_humOfAll 1 = .ok (.istore_n 3, 1) := by decide +kernel
theorem dX7_humOfAll_2 : decode cX7_humOfAll 2 = .ok (.iconst 0, 1) := by decide +kernel
theorem dX7_humOfAll_3 : decode cX7_humOfAll 3 = .ok (.istore 4, 2) := by decide +kernel
theorem dX7_humOfAll_5 : decode cX7_humOfAll 5 = .ok (.iload 4, 2) := by decide +kernel
theorem dX7_humOfAll_7 : decode cX7_humOfAll 7 = .ok (.aload_n 1, 1) := by decide +kernel
theorem dX7_humOfAll_8 : decode cX7_humOfAll 8 = .ok (.getfield 138, 3) := by decide +kernel
theorem dX7_humOfAll_11 : decode cX7_humOfAll 11 = .ok (.if_icmp .ge 20, 3) := by decide +kernel
theorem dX7_humOfAll_14 : decode cX7_humOfAll 14 = .ok (.iload_n 3, 1) := by decide +kernel
theorem dX7_humOfAll_15 : decode cX7_humOfAll 15 = .ok (.aload_n 0, 1) := by decide +kernel
theorem dX7_humOfAll_16 : decode cX7_humOfAll 16 = .ok (.aload_n 1, 1) := by decide +kernel
theorem dX7_humOfAll_17 : decode cX7_humOfAll 17 = .ok (.iload 4, 2) := by decide +kernel
theorem dX7_humOfAll_19 : decode cX7_humOfAll 19 = .ok (.iload_n 2, 1) := by decide +kernel
theorem dX7_humOfAll_20 : decode cX7_humOfAll 20 = .ok (.invokevirtual 141, 3) := by decide +kernel
theorem dX7_humOfAll_23 : decode cX7_humOfAll 23 = .ok (.iadd, 1) := by decide +kernel
theorem dX7_humOfAll_24 : decode cX7_humOfAll 24 = .ok (.istore_n 3, 1) := by decide +kernel
theorem dX7_humOfAll_25 : decode cX7_humOfAll 25 = .ok (.iinc 4 1, 3) := by decide +kernel
theorem dX7_humOfAll_28 : decode cX7_humOfAll 28 = .ok (.goto (-23), 3) := by decide +kernel
theorem dX7_humOfAll_31 : decode cX7_humOfAll 31 = .ok (.iload_n 3, 1) := by decide +kernel
theorem dX7_humOfAll_32 : decode cX7_humOfAll 32 = .ok (.ireturn, 1) := by decide +kernel
theorem dX7_agreed_0 : decode cX7_agreed 0 = .ok (.iconst 0, 1) := by decide +kernel
theorem dX7_agreed_1 : decode cX7_agreed 1 = .ok (.istore_n 3, 1) := by decide +kernel
theorem dX7_agreed_2 : decode cX7_agreed 2 = .ok (.iconst 0, 1) := by decide +kernel
theorem dX7_agreed_3 : decode cX7_agreed 3 = .ok (.istore 4, 2) := by decide +kernel
theorem dX7_agreed_5 : decode cX7_agreed 5 = .ok (.iload 4, 2) := by decide +kernel
theorem dX7_agreed_7 : decode cX7_agreed 7 = .ok (.aload_n 1, 1) := by decide +kernel
theorem dX7_agreed_8 : decode cX7_agreed 8 = .ok (.getfield 138, 3) := by decide +kernel
theorem dX7_agreed_11 : decode cX7_agreed 11 = .ok (.if_icmp .ge 23, 3) := by decide +kernel
theorem dX7_agreed_14 : decode cX7_agreed 14 = .ok (.aload_n 0, 1) := by decide +kernel
theorem dX7_agreed_15 : decode cX7_agreed 15 = .ok (.aload_n 1, 1) := by decide +kernel
theorem dX7_agreed_16 : decode cX7_agreed 16 = .ok (.iload 4, 2) := by decide +kernel
theorem dX7_agreed_18 : decode cX7_agreed 18 = .ok (.iload_n 2, 1) := by decide +kernel
theorem dX7_agreed_19 : decode cX7_agreed 19 = .ok (.invokevirtual 141, 3) := by decide +kernel
theorem dX7_agreed_22 : decode cX7_agreed 22 = .ok (.ifCond .le 6, 3) := by decide +kernel
theorem dX7_agreed_25 : decode cX7_agreed 25 = .ok (.iinc 3 1, 3) := by decide +kernel
theorem dX7_agreed_28 : decode cX7_agreed 28 = .ok (.iinc 4 1, 3) := by decide +kernel
theorem dX7_agreed_31 : decode cX7_agreed 31 = .ok (.goto (-26), 3) := by decide +kernel
theorem dX7_agreed_34 : decode cX7_agreed 34 = .ok (.iload_n 3, 1) := by decide +kernel
theorem dX7_agreed_35 : decode cX7_agreed 35 = .ok (.ireturn, 1) := by decide +kernel
theorem dX7_passes_0 : decode cX7_passes 0 = .ok (.aload_n 0, 1) := by decide +kernel
theorem dX7_passes_1 : decode cX7_passes 1 = .ok (.aload_n 1, 1) := by decide +kernel
theorem dX7_passes_2 : decode cX7_passes 2 = .ok (.iload_n 2, 1) := by decide +kernel
theorem dX7_passes_3 : decode cX7_passes 3 = .ok (.iload_n 3, 1) := by decide +kernel
theorem dX7_passes_4 : decode cX7_passes 4 = .ok (.invokevirtual 145, 3) := by decide +kernel
theorem dX7_passes_7 : decode cX7_passes 7 = .ok (.lstore 4, 2) := by decide +kernel
theorem dX7_passes_9 : decode cX7_passes 9 = .ok (.lload 4, 2) := by decide +kernel
theorem dX7_passes_11 : decode cX7_passes 11 = .ok (.ldc2_w 111, 3) := by decide +kernel
theorem dX7_passes_14 : decode cX7_passes 14 = .ok (.lcmp, 1) := by decide +kernel
theorem dX7_passes_15 : decode cX7_passes 15 = .ok (.ifCond .ne 19, 3) := by decide +kernel
theorem dX7_passes_18 : decode cX7_passes 18 = .ok (.iload_n 3, 1) := by decide +kernel
theorem dX7_passes_19 : decode cX7_passes 19 = .ok (.aload_n 1, 1) := by decide +kernel
theorem dX7_passes_20 : decode cX7_passes 20 = .ok (.getfield 148, 3) := by decide +kernel
theorem dX7_passes_23 : decode cX7_passes 23 = .ok (.if_icmp .lt 7, 3) := by decide +kernel
theorem dX7_passes_26 : decode cX7_passes 26 = .ok (.iconst 1, 1) := by decide +kernel
theorem dX7_passes_27 : decode cX7_passes 27 = .ok (.goto 19, 3) := by decide +kernel
theorem dX7_passes_30 : decode cX7_passes 30 = .ok (.iconst 0, 1) := by decide +kernel
theorem dX7_passes_31 : decode cX7_passes 31 = .ok (.goto 15, 3) := by decide +kernel
theorem dX7_passes_34 : decode cX7_passes 34 = .ok (.lload 4, 2) := by decide +kernel
theorem dX7_passes_36 : decode cX7_passes 36 = .ok (.lconst 0, 1) := by decide +kernel
theorem dX7_passes_37 : decode cX7_passes 37 = .ok (.lcmp, 1) := by decide +kernel
theorem dX7_passes_38 : decode cX7_passes 38 = .ok (.ifCond .eq 7, 3) := by decide +kernel
theorem dX7_passes_41 : decode cX7_passes 41 = .ok (.iconst 1, 1) := by decide +kernel
theorem dX7_passes_42 : decode cX7_passes 42 = .ok (.goto 4, 3) := by decide +kernel
theorem dX7_passes_45 : decode cX7_passes 45 = .ok (.iconst 0, 1) := by decide +kernel
theorem dX7_passes_46 : decode cX7_passes 46 = .ok (.ireturn, 1) := by decide +kernel
theorem dX7_carries_0 : decode cX7_carries 0 = .ok (.aload_n 0, 1) := by decide +kernel
theorem dX7_carries_1 : decode cX7_carries 1 = .ok (.aload_n 1, 1) := by decide +kernel
theorem dX7_carries_2 : decode cX7_carries 2 = .ok (.iload_n 2, 1) := by decide +kernel
theorem dX7_carries_3 : decode cX7_carries 3 = .ok (.aload_n 0, 1) := by decide +kernel
theorem dX7_carries_4 : decode cX7_carries 4 = .ok (.aload_n 1, 1) := by decide +kernel
theorem dX7_carries_5 : decode cX7_carries 5 = .ok (.iload_n 2, 1) := by decide +kernel
theorem dX7_carries_6 : decode cX7_carries 6 = .ok (.invokevirtual 151, 3) := by decide +kernel
theorem dX7_carries_9 : decode cX7_carries 9 = .ok (.invokevirtual 155, 3) := by decide +kernel
theorem dX7_carries_12 : decode cX7_carries 12 = .ok (.ireturn, 1) := by decide +kernel
theorem dX7_listen_0 : decode cX7_listen 0 = .ok (.iconst 0, 1) := by decide +kernel
theorem dX7_listen_1 : decode cX7_listen 1 = .ok (.istore_n 3, 1) := by decide +kernel
theorem dX7_listen_2 : decode cX7_listen 2 = .ok (.iload_n 3, 1) := by decide +kernel
theorem dX7_listen_3 : decode cX7_listen 3 = .ok (.aload_n 1, 1) := by decide +kernel
theorem dX7_listen_4 : decode cX7_listen 4 = .ok (.getfield 138, 3) := by decide +kernel
theorem dX7_listen_7 : decode cX7_listen 7 = .ok (.if_icmp .ge 22, 3) := by decide +kernel
theorem dX7_listen_10 : decode cX7_listen 10 = .ok (.aload_n 0, 1) := by decide +kernel
theorem dX7_listen_11 : decode cX7_listen 11 = .ok (.getfield 38, 3) := by decide +kernel
theorem dX7_listen_14 : decode cX7_listen 14 = .ok (.iload_n 3, 1) := by decide +kernel
theorem dX7_listen_15 : decode cX7_listen 15 = .ok (.aload_n 0, 1) := by decide +kernel
theorem dX7_listen_16 : decode cX7_listen 16 = .ok (.aload_n 1, 1) := by decide +kernel
theorem dX7_listen_17 : decode cX7_listen 17 = .ok (.iload_n 3, 1) := by decide +kernel
theorem dX7_listen_18 : decode cX7_listen 18 = .ok (.iload_n 2, 1) := by decide +kernel
theorem dX7_listen_19 : decode cX7_listen 19 = .ok (.invokevirtual 141, 3) := by decide +kernel
theorem dX7_listen_22 : decode cX7_listen 22 = .ok (.iastore, 1) := by decide +kernel
theorem dX7_listen_23 : decode cX7_listen 23 = .ok (.iinc 3 1, 3) := by decide +kernel
theorem dX7_listen_26 : decode cX7_listen 26 = .ok (.goto (-24), 3) := by decide +kernel
theorem dX7_listen_29 : decode cX7_listen 29 = .ok (.return_, 1) := by decide +kernel
theorem dX7_listenedTo_0 : decode cX7_listenedTo 0 = .ok (.iconst 0, 1) := by decide +kernel
theorem dX7_listenedTo_1 : decode cX7_listenedTo 1 = .ok (.istore_n 3, 1) := by decide +kernel
theorem dX7_listenedTo_2 : decode cX7_listenedTo 2 = .ok (.iconst 0, 1) := by decide +kernel
theorem dX7_listenedTo_3 : decode cX7_listenedTo 3 = .ok (.istore 4, 2) := by decide +kernel
theorem dX7_listenedTo_5 : decode cX7_listenedTo 5 = .ok (.iload 4, 2) := by decide +kernel
theorem dX7_listenedTo_7 : decode cX7_listenedTo 7 = .ok (.iload_n 2, 1) := by decide +kernel
theorem dX7_listenedTo_8 : decode cX7_listenedTo 8 = .ok (.if_icmp .ge 36, 3) := by decide +kernel
theorem dX7_listenedTo_11 : decode cX7_listenedTo 11 = .ok (.iload 4, 2) := by decide +kernel
theorem dX7_listenedTo_13 : decode cX7_listenedTo 13 = .ok (.bipush 8, 2) := by decide +kernel
theorem dX7_listenedTo_15 : decode cX7_listenedTo 15 = .ok (.if_icmp .ge 29, 3) := by decide +kernel
theorem dX7_listenedTo_18 : decode cX7_listenedTo 18 = .ok (.iload_n 1, 1) := by decide +kernel
theorem dX7_listenedTo_19 : decode cX7_listenedTo 19 = .ok (.iload 4, 2) := by decide +kernel
theorem dX7_listenedTo_21 : decode cX7_listenedTo 21 = .ok (.invokestatic 124, 3) := by decide +kernel
theorem dX7_listenedTo_24 : decode cX7_listenedTo 24 = .ok (.iconst 1, 1) := by decide +kernel
theorem dX7_listenedTo_25 : decode cX7_listenedTo 25 = .ok (.if_icmp .ne 13, 3) := by decide +kernel
theorem dX7_listenedTo_28 : decode cX7_listenedTo 28 = .ok (.iload_n 3, 1) := by decide +kernel
theorem dX7_listenedTo_29 : decode cX7_listenedTo 29 = .ok (.aload_n 0, 1) := by decide +kernel
theorem dX7_listenedTo_30 : decode cX7_listenedTo 30 = .ok (.getfield 38, 3) := by decide +kernel
theorem dX7_listenedTo_33 : decode cX7_listenedTo 33 = .ok (.iload 4, 2) := by decide +kernel
theorem dX7_listenedTo_35 : decode cX7_listenedTo 35 = .ok (.iaload, 1) := by decide +kernel
theorem dX7_listenedTo_36 : decode cX7_listenedTo 36 = .ok (.iadd, 1) := by decide +kernel
theorem dX7_listenedTo_37 : decode cX7_listenedTo 37 = .ok (.istore_n 3, 1) := by decide +kernel
theorem dX7_listenedTo_38 : decode cX7_listenedTo 38 = .ok (.iinc 4 1, 3) := by decide +kernel
theorem dX7_listenedTo_41 : decode cX7_listenedTo 41 = .ok (.goto (-36), 3) := by decide +kernel
theorem dX7_listenedTo_44 : decode cX7_listenedTo 44 = .ok (.iload_n 3, 1) := by decide +kernel
theorem dX7_listenedTo_45 : decode cX7_listenedTo 45 = .ok (.ireturn, 1) := by decide +kernel
theorem dX7_passDays_0 : decode cX7_passDays 0 = .ok (.iconst 0, 1) := by decide +kernel
theorem dX7_passDays_1 : decode cX7_passDays 1 = .ok (.istore_n 3, 1) := by decide +kernel
theorem dX7_passDays_2 : decode cX7_passDays 2 = .ok (.iload_n 3, 1) := by decide +kernel
theorem dX7_passDays_3 : decode cX7_passDays 3 = .ok (.iload_n 2, 1) := by decide +kernel
theorem dX7_passDays_4 : decode cX7_passDays 4 = .ok (.if_icmp .ge 26, 3) := by decide +kernel
theorem dX7_passDays_7 : decode cX7_passDays 7 = .ok (.aload_n 0, 1) := by decide +kernel
theorem dX7_passDays_8 : decode cX7_passDays 8 = .ok (.aload_n 1, 1) := by decide +kernel
theorem dX7_passDays_9 : decode cX7_passDays 9 = .ok (.invokevirtual 159, 3) := by decide +kernel
theorem dX7_passDays_12 : decode cX7_passDays 12 = .ok (.aload_n 0, 1) := by decide +kernel
theorem dX7_passDays_13 : decode cX7_passDays 13 = .ok (.aload_n 1, 1) := by decide +kernel
theorem dX7_passDays_14 : decode cX7_passDays 14 = .ok (.aload_n 0, 1) := by decide +kernel
theorem dX7_passDays_15 : decode cX7_passDays 15 = .ok (.getfield 41, 3) := by decide +kernel
theorem dX7_passDays_18 : decode cX7_passDays 18 = .ok (.invokevirtual 44, 3) := by decide +kernel
theorem dX7_passDays_21 : decode cX7_passDays 21 = .ok (.putfield 50, 3) := by decide +kernel
theorem dX7_passDays_24 : decode cX7_passDays 24 = .ok (.iinc 3 1, 3) := by decide +kernel
theorem dX7_passDays_27 : decode cX7_passDays 27 = .ok (.goto (-25), 3) := by decide +kernel
theorem dX7_passDays_30 : decode cX7_passDays 30 = .ok (.return_, 1) := by decide +kernel
theorem dX7_passDryDays_0 : decode cX7_passDryDays 0 = .ok (.iconst 0, 1) := by decide +kernel
theorem dX7_passDryDays_1 : decode cX7_passDryDays 1 = .ok (.istore_n 3, 1) := by decide +kernel
theorem dX7_passDryDays_2 : decode cX7_passDryDays 2 = .ok (.iload_n 3, 1) := by decide +kernel
theorem dX7_passDryDays_3 : decode cX7_passDryDays 3 = .ok (.iload_n 2, 1) := by decide +kernel
theorem dX7_passDryDays_4 : decode cX7_passDryDays 4 = .ok (.if_icmp .ge 19, 3) := by decide +kernel
theorem dX7_passDryDays_7 : decode cX7_passDryDays 7 = .ok (.aload_n 0, 1) := by decide +kernel
theorem dX7_passDryDays_8 : decode cX7_passDryDays 8 = .ok (.iconst 0, 1) := by decide +kernel
theorem dX7_passDryDays_9 : decode cX7_passDryDays 9 = .ok (.putfield 50, 3) := by decide +kernel
theorem dX7_passDryDays_12 : decode cX7_passDryDays 12 = .ok (.aload_n 0, 1) := by decide +kernel
theorem dX7_passDryDays_13 : decode cX7_passDryDays 13 = .ok (.aload_n 1, 1) := by decide +kernel
theorem dX7_passDryDays_14 : decode cX7_passDryDays 14 = .ok (.invokevirtual 159, 3) := by decide +kernel
theorem dX7_passDryDays_17 : decode cX7_passDryDays 17 = .ok (.iinc 3 1, 3) := by decide +kernel
theorem dX7_passDryDays_20 : decode cX7_passDryDays 20 = .ok (.goto (-18), 3) := by decide +kernel
theorem dX7_passDryDays_23 : decode cX7_passDryDays 23 = .ok (.return_, 1) := by decide +kernel
theorem dX7_passDaysByChance_0 : decode cX7_passDaysByChance 0 = .ok (.iload_n 3, 1) := by decide +kernel
theorem dX7_passDaysByChance_1 : decode cX7_passDaysByChance 1 = .ok (.istore 4, 2) := by decide +kernel
theorem dX7_passDaysByChance_3 : decode cX7_passDaysByChance 3 = .ok (.iconst 0, 1) := by decide +kernel
theorem dX7_passDaysByChance_4 : decode cX7_passDaysByChance 4 = .ok (.istore 5, 2) := by decide +kernel
theorem dX7_passDaysByChance_6 : decode cX7_passDaysByChance 6 = .ok (.iload 5, 2) := by decide +kernel
theorem dX7_passDaysByChance_8 : decode cX7_passDaysByChance 8 = .ok (.iload_n 2, 1) := by decide +kernel
theorem dX7_passDaysByChance_9 : decode cX7_passDaysByChance 9 = .ok (.if_icmp .ge 40, 3) := by decide +kernel
theorem dX7_passDaysByChance_12 : decode cX7_passDaysByChance 12 = .ok (.iload 4, 2) := by decide +kernel
theorem dX7_passDaysByChance_14 : decode cX7_passDaysByChance 14 = .ok (.ldc 163, 2) := by decide +kernel
theorem dX7_passDaysByChance_16 : decode cX7_passDaysByChance 16 = .ok (.imul, 1) := by decide +kernel
theorem dX7_passDaysByChance_17 : decode cX7_passDaysByChance 17 = .ok (.sipush 12345, 3) := by decide +kernel
theorem dX7_passDaysByChance_20 : decode cX7_passDaysByChance 20 = .ok (.iadd, 1) := by decide +kernel
theorem dX7_passDaysByChance_21 : decode cX7_passDaysByChance 21 = .ok (.ldc 166, 2) := by decide +kernel
theorem dX7_passDaysByChance_23 : decode cX7_passDaysByChance 23 = .ok (.iand, 1) := by decide +kernel
theorem dX7_passDaysByChance_24 : decode cX7_passDaysByChance 24 = .ok (.istore 4, 2) := by decide +kernel
theorem dX7_passDaysByChance_26 : decode cX7_passDaysByChance 26 = .ok (.aload_n 0, 1) := by decide +kernel
theorem dX7_passDaysByChance_27 : decode cX7_passDaysByChance 27 = .ok (.iload 4, 2) := by decide +kernel
theorem dX7_passDaysByChance_29 : decode cX7_passDaysByChance 29 = .ok (.ldc 167, 2) := by decide +kernel
theorem dX7_passDaysByChance_31 : decode cX7_passDaysByChance 31 = .ok (.idiv, 1) := by decide +kernel
theorem dX7_passDaysByChance_32 : decode cX7_passDaysByChance 32 = .ok (.bipush 10, 2) := by decide +kernel
theorem dX7_passDaysByChance_34 : decode cX7_passDaysByChance 34 = .ok (.irem, 1) := by decide +kernel
theorem dX7_passDaysByChance_35 : decode cX7_passDaysByChance 35 = .ok (.putfield 50, 3) := by decide +kernel
theorem dX7_passDaysByChance_38 : decode cX7_passDaysByChance 38 = .ok (.aload_n 0, 1) := by decide +kernel
theorem dX7_passDaysByChance_39 : decode cX7_passDaysByChance 39 = .ok (.aload_n 1, 1) := by decide +kernel
theorem dX7_passDaysByChance_40 : decode cX7_passDaysByChance 40 = .ok (.invokevirtual 159, 3) := by decide +kernel
theorem dX7_passDaysByChance_43 : decode cX7_passDaysByChance 43 = .ok (.iinc 5 1, 3) := by decide +kernel
theorem dX7_passDaysByChance_46 : decode cX7_passDaysByChance 46 = .ok (.goto (-40), 3) := by decide +kernel
theorem dX7_passDaysByChance_49 : decode cX7_passDaysByChance 49 = .ok (.iload 4, 2) := by decide +kernel
theorem dX7_passDaysByChance_51 : decode cX7_passDaysByChance 51 = .ok (.ireturn, 1) := by decide +kernel
theorem dX7_passDay_0 : decode cX7_passDay 0 = .ok (.iconst 0, 1) := by decide +kernel
theorem dX7_passDay_1 : decode cX7_passDay 1 = .ok (.istore_n 2, 1) := by decide +kernel
theorem dX7_passDay_2 : decode cX7_passDay 2 = .ok (.iload_n 2, 1) := by decide +kernel
theorem dX7_passDay_3 : decode cX7_passDay 3 = .ok (.aload_n 1, 1) := by decide +kernel
theorem dX7_passDay_4 : decode cX7_passDay 4 = .ok (.getfield 168, 3) := by decide +kernel
theorem dX7_passDay_7 : decode cX7_passDay 7 = .ok (.if_icmp .ge 80, 3) := by decide +kernel
theorem dX7_passDay_10 : decode cX7_passDay 10 = .ok (.aload_n 0, 1) := by decide +kernel
theorem dX7_passDay_11 : decode cX7_passDay 11 = .ok (.getfield 29, 3) := by decide +kernel
theorem dX7_passDay_14 : decode cX7_passDay 14 = .ok (.iload_n 2, 1) := by decide +kernel
theorem dX7_passDay_15 : decode cX7_passDay 15 = .ok (.iaload, 1) := by decide +kernel
theorem dX7_passDay_16 : decode cX7_passDay 16 = .ok (.aload_n 0, 1) := by decide +kernel
theorem dX7_passDay_17 : decode cX7_passDay 17 = .ok (.getfield 41, 3) := by decide +kernel
theorem dX7_passDay_20 : decode cX7_passDay 20 = .ok (.if_icmp .ne 61, 3) := by decide +kernel
theorem dX7_passDay_23 : decode cX7_passDay 23 = .ok (.aload_n 0, 1) := by decide +kernel
theorem dX7_passDay_24 : decode cX7_passDay 24 = .ok (.getfield 32, 3) := by decide +kernel
theorem dX7_passDay_27 : decode cX7_passDay 27 = .ok (.iload_n 2, 1) := by decide +kernel
theorem dX7_passDay_28 : decode cX7_passDay 28 = .ok (.iaload, 1) := by decide +kernel
theorem dX7_passDay_29 : decode cX7_passDay 29 = .ok (.iconst (-1), 1) := by decide +kernel
theorem dX7_passDay_30 : decode cX7_passDay 30 = .ok (.if_icmp .ne 51, 3) := by decide +kernel
theorem dX7_passDay_33 : decode cX7_passDay 33 = .ok (.aload_n 0, 1) := by decide +kernel
theorem dX7_passDay_34 : decode cX7_passDay 34 = .ok (.getfield 35, 3) := by decide +kernel
theorem dX7_passDay_37 : decode cX7_passDay 37 = .ok (.iload_n 2, 1) := by decide +kernel
theorem dX7_passDay_38 : decode cX7_passDay 38 = .ok (.aload_n 0, 1) := by decide +kernel
theorem dX7_passDay_39 : decode cX7_passDay 39 = .ok (.aload_n 1, 1) := by decide +kernel
theorem dX7_passDay_40 : decode cX7_passDay 40 = .ok (.aload_n 1, 1) := by decide +kernel
theorem dX7_passDay_41 : decode cX7_passDay 41 = .ok (.getfield 171, 3) := by decide +kernel
theorem dX7_passDay_44 : decode cX7_passDay 44 = .ok (.iload_n 2, 1) := by decide +kernel
theorem dX7_passDay_45 : decode cX7_passDay 45 = .ok (.iaload, 1) := by decide +kernel
theorem dX7_passDay_46 : decode cX7_passDay 46 = .ok (.invokevirtual 151, 3) := by decide +kernel
theorem dX7_passDay_49 : decode cX7_passDay 49 = .ok (.iastore, 1) := by decide +kernel
theorem dX7_passDay_50 : decode cX7_passDay 50 = .ok (.aload_n 0, 1) := by decide +kernel
theorem dX7_passDay_51 : decode cX7_passDay 51 = .ok (.getfield 32, 3) := by decide +kernel
theorem dX7_passDay_54 : decode cX7_passDay 54 = .ok (.iload_n 2, 1) := by decide +kernel
theorem dX7_passDay_55 : decode cX7_passDay 55 = .ok (.aload_n 0, 1) := by decide +kernel
theorem dX7_passDay_56 : decode cX7_passDay 56 = .ok (.aload_n 1, 1) := by decide +kernel
theorem dX7_passDay_57 : decode cX7_passDay 57 = .ok (.aload_n 1, 1) := by decide +kernel
theorem dX7_passDay_58 : decode cX7_passDay 58 = .ok (.getfield 171, 3) := by decide +kernel
theorem dX7_passDay_61 : decode cX7_passDay 61 = .ok (.iload_n 2, 1) := by decide +kernel
theorem dX7_passDay_62 : decode cX7_passDay 62 = .ok (.iaload, 1) := by decide +kernel
theorem dX7_passDay_63 : decode cX7_passDay 63 = .ok (.aload_n 0, 1) := by decide +kernel
theorem dX7_passDay_64 : decode cX7_passDay 64 = .ok (.getfield 35, 3) := by decide +kernel
theorem dX7_passDay_67 : decode cX7_passDay 67 = .ok (.iload_n 2, 1) := by decide +kernel
theorem dX7_passDay_68 : decode cX7_passDay 68 = .ok (.iaload, 1) := by decide +kernel
theorem dX7_passDay_69 : decode cX7_passDay 69 = .ok (.invokevirtual 155, 3) := by decide +kernel
theorem dX7_passDay_72 : decode cX7_passDay 72 = .ok (.ifCond .eq 7, 3) := by decide +kernel
theorem dX7_passDay_75 : decode cX7_passDay 75 = .ok (.iconst 1, 1) := by decide +kernel
theorem dX7_passDay_76 : decode cX7_passDay 76 = .ok (.goto 4, 3) := by decide +kernel
theorem dX7_passDay_79 : decode cX7_passDay 79 = .ok (.iconst 0, 1) := by decide +kernel
theorem dX7_passDay_80 : decode cX7_passDay 80 = .ok (.iastore, 1) := by decide +kernel
theorem dX7_passDay_81 : decode cX7_passDay 81 = .ok (.iinc 2 1, 3) := by decide +kernel
theorem dX7_passDay_84 : decode cX7_passDay 84 = .ok (.goto (-82), 3) := by decide +kernel
theorem dX7_passDay_87 : decode cX7_passDay 87 = .ok (.iconst 0, 1) := by decide +kernel
theorem dX7_passDay_88 : decode cX7_passDay 88 = .ok (.istore_n 2, 1) := by decide +kernel
theorem dX7_passDay_89 : decode cX7_passDay 89 = .ok (.iload_n 2, 1) := by decide +kernel
theorem dX7_passDay_90 : decode cX7_passDay 90 = .ok (.aload_n 1, 1) := by decide +kernel
theorem dX7_passDay_91 : decode cX7_passDay 91 = .ok (.getfield 138, 3) := by decide +kernel
theorem dX7_passDay_94 : decode cX7_passDay 94 = .ok (.if_icmp .ge 40, 3) := by decide +kernel
theorem dX7_passDay_97 : decode cX7_passDay 97 = .ok (.aload_n 0, 1) := by decide +kernel
theorem dX7_passDay_98 : decode cX7_passDay 98 = .ok (.getfield 18, 3) := by decide +kernel
theorem dX7_passDay_101 : decode cX7_passDay 101 = .ok (.ifCond .eq 33, 3) := by decide +kernel
theorem dX7_passDay_104 : decode cX7_passDay 104 = .ok (.aload_n 0, 1) := by decide +kernel
theorem dX7_passDay_105 : decode cX7_passDay 105 = .ok (.getfield 22, 3) := by decide +kernel
theorem dX7_passDay_108 : decode cX7_passDay 108 = .ok (.iload_n 2, 1) := by decide +kernel
theorem dX7_passDay_109 : decode cX7_passDay 109 = .ok (.bipush 100, 2) := by decide +kernel
theorem dX7_passDay_111 : decode cX7_passDay 111 = .ok (.aload_n 0, 1) := by decide +kernel
theorem dX7_passDay_112 : decode cX7_passDay 112 = .ok (.getfield 22, 3) := by decide +kernel
theorem dX7_passDay_115 : decode cX7_passDay 115 = .ok (.iload_n 2, 1) := by decide +kernel
theorem dX7_passDay_116 : decode cX7_passDay 116 = .ok (.iaload, 1) := by decide +kernel
theorem dX7_passDay_117 : decode cX7_passDay 117 = .ok (.aload_n 0, 1) := by decide +kernel
theorem dX7_passDay_118 : decode cX7_passDay 118 = .ok (.aload_n 1, 1) := by decide +kernel
theorem dX7_passDay_119 : decode cX7_passDay 119 = .ok (.iload_n 2, 1) := by decide +kernel
theorem dX7_passDay_120 : decode cX7_passDay 120 = .ok (.invokevirtual 174, 3) := by decide +kernel
theorem dX7_passDay_123 : decode cX7_passDay 123 = .ok (.isub, 1) := by decide +kernel
theorem dX7_passDay_124 : decode cX7_passDay 124 = .ok (.invokestatic 89, 3) := by decide +kernel
theorem dX7_passDay_127 : decode cX7_passDay 127 = .ok (.iastore, 1) := by decide +kernel
theorem dX7_passDay_128 : decode cX7_passDay 128 = .ok (.iinc 2 1, 3) := by decide +kernel
theorem dX7_passDay_131 : decode cX7_passDay 131 = .ok (.goto (-42), 3) := by decide +kernel
theorem dX7_passDay_134 : decode cX7_passDay 134 = .ok (.aload_n 0, 1) := by decide +kernel
theorem dX7_passDay_135 : decode cX7_passDay 135 = .ok (.iconst 0, 1) := by decide +kernel
theorem dX7_passDay_136 : decode cX7_passDay 136 = .ok (.putfield 57, 3) := by decide +kernel
theorem dX7_passDay_139 : decode cX7_passDay 139 = .ok (.aload_n 0, 1) := by decide +kernel
theorem dX7_passDay_140 : decode cX7_passDay 140 = .ok (.dup, 1) := by decide +kernel
theorem dX7_passDay_141 : decode cX7_passDay 141 = .ok (.getfield 41, 3) := by decide +kernel
theorem dX7_passDay_144 : decode cX7_passDay 144 = .ok (.iconst 1, 1) := by decide +kernel
theorem dX7_passDay_145 : decode cX7_passDay 145 = .ok (.iadd, 1) := by decide +kernel
theorem dX7_passDay_146 : decode cX7_passDay 146 = .ok (.putfield 41, 3) := by decide +kernel
theorem dX7_passDay_149 : decode cX7_passDay 149 = .ok (.return_, 1) := by decide +kernel
theorem dX7_rustOf_0 : decode cX7_rustOf 0 = .ok (.aload_n 0, 1) := by decide +kernel
theorem dX7_rustOf_1 : decode cX7_rustOf 1 = .ok (.aload_n 1, 1) := by decide +kernel
theorem dX7_rustOf_2 : decode cX7_rustOf 2 = .ok (.iload_n 2, 1) := by decide +kernel
theorem dX7_rustOf_3 : decode cX7_rustOf 3 = .ok (.invokevirtual 177, 3) := by decide +kernel
theorem dX7_rustOf_6 : decode cX7_rustOf 6 = .ok (.lstore_n 3, 1) := by decide +kernel
theorem dX7_rustOf_7 : decode cX7_rustOf 7 = .ok (.lload_n 3, 1) := by decide +kernel
theorem dX7_rustOf_8 : decode cX7_rustOf 8 = .ok (.ldc2_w 111, 3) := by decide +kernel
theorem dX7_rustOf_11 : decode cX7_rustOf 11 = .ok (.lcmp, 1) := by decide +kernel
theorem dX7_rustOf_12 : decode cX7_rustOf 12 = .ok (.ifCond .ne 10, 3) := by decide +kernel
theorem dX7_rustOf_15 : decode cX7_rustOf 15 = .ok (.aload_n 1, 1) := by decide +kernel
theorem dX7_rustOf_16 : decode cX7_rustOf 16 = .ok (.getfield 181, 3) := by decide +kernel
theorem dX7_rustOf_19 : decode cX7_rustOf 19 = .ok (.goto 10, 3) := by decide +kernel
theorem dX7_rustOf_22 : decode cX7_rustOf 22 = .ok (.lload_n 3, 1) := by decide +kernel
theorem dX7_rustOf_23 : decode cX7_rustOf 23 = .ok (.iconst 0, 1) := by decide +kernel
theorem dX7_rustOf_24 : decode cX7_rustOf 24 = .ok (.bipush 9, 2) := by decide +kernel
theorem dX7_rustOf_26 : decode cX7_rustOf 26 = .ok (.invokestatic 131, 3) := by decide +kernel
theorem dX7_rustOf_29 : decode cX7_rustOf 29 = .ok (.ireturn, 1) := by decide +kernel
theorem dX7_verdicts_0 : decode cX7_verdicts 0 = .ok (.iconst 0, 1) := by decide +kernel
theorem dX7_verdicts_1 : decode cX7_verdicts 1 = .ok (.istore_n 3, 1) := by decide +kernel
theorem dX7_verdicts_2 : decode cX7_verdicts 2 = .ok (.iconst 0, 1) := by decide +kernel
theorem dX7_verdicts_3 : decode cX7_verdicts 3 = .ok (.istore 4, 2) := by decide +kernel
theorem dX7_verdicts_5 : decode cX7_verdicts 5 = .ok (.iload 4, 2) := by decide +kernel
theorem dX7_verdicts_7 : decode cX7_verdicts 7 = .ok (.aload_n 1, 1) := by decide +kernel
theorem dX7_verdicts_8 : decode cX7_verdicts 8 = .ok (.getfield 168, 3) := by decide +kernel
theorem dX7_verdicts_11 : decode cX7_verdicts 11 = .ok (.if_icmp .ge 23, 3) := by decide +kernel
theorem dX7_verdicts_14 : decode cX7_verdicts 14 = .ok (.aload_n 0, 1) := by decide +kernel
theorem dX7_verdicts_15 : decode cX7_verdicts 15 = .ok (.getfield 32, 3) := by decide +kernel
theorem dX7_verdicts_18 : decode cX7_verdicts 18 = .ok (.iload 4, 2) := by decide +kernel
theorem dX7_verdicts_20 : decode cX7_verdicts 20 = .ok (.iaload, 1) := by decide +kernel
theorem dX7_verdicts_21 : decode cX7_verdicts 21 = .ok (.iload_n 2, 1) := by decide +kernel
theorem dX7_verdicts_22 : decode cX7_verdicts 22 = .ok (.if_icmp .ne 6, 3) := by decide +kernel
theorem dX7_verdicts_25 : decode cX7_verdicts 25 = .ok (.iinc 3 1, 3) := by decide +kernel
theorem dX7_verdicts_28 : decode cX7_verdicts 28 = .ok (.iinc 4 1, 3) := by decide +kernel
theorem dX7_verdicts_31 : decode cX7_verdicts 31 = .ok (.goto (-26), 3) := by decide +kernel
theorem dX7_verdicts_34 : decode cX7_verdicts 34 = .ok (.iload_n 3, 1) := by decide +kernel
theorem dX7_verdicts_35 : decode cX7_verdicts 35 = .ok (.ireturn, 1) := by decide +kernel
theorem dX7_heardInSum_0 : decode cX7_heardInSum 0 = .ok (.iconst 0, 1) := by decide +kernel
theorem dX7_heardInSum_1 : decode cX7_heardInSum 1 = .ok (.istore_n 2, 1) := by decide +kernel
theorem dX7_heardInSum_2 : decode cX7_heardInSum 2 = .ok (.iconst 0, 1) := by decide +kernel
theorem dX7_heardInSum_3 : decode cX7_heardInSum 3 = .ok (.istore_n 3, 1) := by decide +kernel
theorem dX7_heardInSum_4 : decode cX7_heardInSum 4 = .ok (.iload_n 3, 1) := by decide +kernel
theorem dX7_heardInSum_5 : decode cX7_heardInSum 5 = .ok (.aload_n 1, 1) := by decide +kernel
theorem dX7_heardInSum_6 : decode cX7_heardInSum 6 = .ok (.getfield 168, 3) := by decide +kernel
theorem dX7_heardInSum_9 : decode cX7_heardInSum 9 = .ok (.if_icmp .ge 28, 3) := by decide +kernel
theorem dX7_heardInSum_12 : decode cX7_heardInSum 12 = .ok (.aload_n 0, 1) := by decide +kernel
theorem dX7_heardInSum_13 : decode cX7_heardInSum 13 = .ok (.getfield 32, 3) := by decide +kernel
theorem dX7_heardInSum_16 : decode cX7_heardInSum 16 = .ok (.iload_n 3, 1) := by decide +kernel
theorem dX7_heardInSum_17 : decode cX7_heardInSum 17 = .ok (.iaload, 1) := by decide +kernel
theorem dX7_heardInSum_18 : decode cX7_heardInSum 18 = .ok (.iconst (-1), 1) := by decide +kernel
theorem dX7_heardInSum_19 : decode cX7_heardInSum 19 = .ok (.if_icmp .eq 12, 3) := by decide +kernel
theorem dX7_heardInSum_22 : decode cX7_heardInSum 22 = .ok (.iload_n 2, 1) := by decide +kernel
theorem dX7_heardInSum_23 : decode cX7_heardInSum 23 = .ok (.aload_n 0, 1) := by decide +kernel
theorem dX7_heardInSum_24 : decode cX7_heardInSum 24 = .ok (.getfield 35, 3) := by decide +kernel
theorem dX7_heardInSum_27 : decode cX7_heardInSum 27 = .ok (.iload_n 3, 1) := by decide +kernel
theorem dX7_heardInSum_28 : decode cX7_heardInSum 28 = .ok (.iaload, 1) := by decide +kernel
theorem dX7_heardInSum_29 : decode cX7_heardInSum 29 = .ok (.iadd, 1) := by decide +kernel
theorem dX7_heardInSum_30 : decode cX7_heardInSum 30 = .ok (.istore_n 2, 1) := by decide +kernel
theorem dX7_heardInSum_31 : decode cX7_heardInSum 31 = .ok (.iinc 3 1, 3) := by decide +kernel
theorem dX7_heardInSum_34 : decode cX7_heardInSum 34 = .ok (.goto (-30), 3) := by decide +kernel
theorem dX7_heardInSum_37 : decode cX7_heardInSum 37 = .ok (.iload_n 2, 1) := by decide +kernel
theorem dX7_heardInSum_38 : decode cX7_heardInSum 38 = .ok (.ireturn, 1) := by decide +kernel
