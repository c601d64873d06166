theorem dX0_seek_0 : decode cX0_seek 0 = .ok (.aload_n 0, 1) := by decide +kernel
theorem dX0_seek_1 : decode cX0_seek 1 = .ok (.iconst 4, 1) := by decide +kernel
theorem dX0_seek_2 : decode cX0_seek 2 = .ok (.aload_n 1, 1) := by decide +kernel
theorem dX0_seek_3 : decode cX0_seek 3 = .ok (.getfield 25, 3) := by decide +kernel
theorem dX0_seek_6 : decode cX0_seek 6 = .ok (.invokestatic 30, 3) := by decide +kernel
theorem dX0_seek_9 : decode cX0_seek 9 = .ok (.putfield 36, 3) := by decide +kernel
theorem dX0_seek_12 : decode cX0_seek 12 = .ok (.aload_n 0, 1) := by decide +kernel
theorem dX0_seek_13 : decode cX0_seek 13 = .ok (.iconst (-1), 1) := by decide +kernel
theorem dX0_seek_14 : decode cX0_seek 14 = .ok (.putfield 21, 3) := by decide +kernel
theorem dX0_seek_17 : decode cX0_seek 17 = .ok (.aload_n 0, 1) := by decide +kernel
theorem dX0_seek_18 : decode cX0_seek 18 = .ok (.getfield 15, 3) := by decide +kernel
theorem dX0_seek_21 : decode cX0_seek 21 = .ok (.iconst 0, 1) := by decide +kernel
theorem dX0_seek_22 : decode cX0_seek 22 = .ok (.invokestatic 37, 3) := by decide +kernel
theorem dX0_seek_25 : decode cX0_seek 25 = .ok (.aload_n 0, 1) := by decide +kernel
theorem dX0_seek_26 : decode cX0_seek 26 = .ok (.aload_n 1, 1) := by decide +kernel
theorem dX0_seek_27 : decode cX0_seek 27 = .ok (.aload_n 2, 1) := by decide +kernel
theorem dX0_seek_28 : decode cX0_seek 28 = .ok (.iload_n 3, 1) := by decide +kernel
theorem dX0_seek_29 : decode cX0_seek 29 = .ok (.invokevirtual 43, 3) := by decide +kernel
theorem dX0_seek_32 : decode cX0_seek 32 = .ok (.iconst 1, 1) := by decide +kernel
theorem dX0_seek_33 : decode cX0_seek 33 = .ok (.istore 4, 2) := by decide +kernel
theorem dX0_seek_35 : decode cX0_seek 35 = .ok (.iconst 0, 1) := by decide +kernel
theorem dX0_seek_36 : decode cX0_seek 36 = .ok (.istore 5, 2) := by decide +kernel
theorem dX0_seek_38 : decode cX0_seek 38 = .ok (.iload 5, 2) := by decide +kernel
theorem dX0_seek_40 : decode cX0_seek 40 = .ok (.aload_n 0, 1) := by decide +kernel
theorem dX0_seek_41 : decode cX0_seek 41 = .ok (.getfield 36, 3) := by decide +kernel
theorem dX0_seek_44 : decode cX0_seek 44 = .ok (.if_icmp .ge 16, 3) := by decide +kernel
theorem dX0_seek_47 : decode cX0_seek 47 = .ok (.iload 4, 2) := by decide +kernel
theorem dX0_seek_49 : decode cX0_seek 49 = .ok (.bipush 9, 2) := by decide +kernel
theorem dX0_seek_51 : decode cX0_seek 51 = .ok (.imul, 1) := by decide +kernel
theorem dX0_seek_52 : decode cX0_seek 52 = .ok (.istore 4, 2) := by decide +kernel
theorem dX0_seek_54 : decode cX0_seek 54 = .ok (.iinc 5 1, 3) := by decide +kernel
theorem dX0_seek_57 : decode cX0_seek 57 = .ok (.goto (-19), 3) := by decide +kernel
theorem dX0_seek_60 : decode cX0_seek 60 = .ok (.iconst 0, 1) := by decide +kernel
theorem dX0_seek_61 : decode cX0_seek 61 = .ok (.istore 5, 2) := by decide +kernel
theorem dX0_seek_63 : decode cX0_seek 63 = .ok (.iconst 0, 1) := by decide +kernel
theorem dX0_seek_64 : decode cX0_seek 64 = .ok (.istore 6, 2) := by decide +kernel
theorem dX0_seek_66 : decode cX0_seek 66 = .ok (.iload 6, 2) := by decide +kernel
theorem dX0_seek_68 : decode cX0_seek 68 = .ok (.iload 4, 2) := by decide +kernel
theorem dX0_seek_70 : decode cX0_seek 70 = .ok (.if_icmp .ge 66, 3) := by decide +kernel
theorem dX0_seek_73 : decode cX0_seek 73 = .ok (.aload_n 0, 1) := by decide +kernel
theorem dX0_seek_74 : decode cX0_seek 74 = .ok (.iload 6, 2) := by decide +kernel
theorem dX0_seek_76 : decode cX0_seek 76 = .ok (.aload_n 1, 1) := by decide +kernel
theorem dX0_seek_77 : decode cX0_seek 77 = .ok (.getfield 47, 3) := by decide +kernel
theorem dX0_seek_80 : decode cX0_seek 80 = .ok (.invokevirtual 50, 3) := by decide +kernel
theorem dX0_seek_83 : decode cX0_seek 83 = .ok (.istore 7, 2) := by decide +kernel
theorem dX0_seek_85 : decode cX0_seek 85 = .ok (.iload 7, 2) := by decide +kernel
theorem dX0_seek_87 : decode cX0_seek 87 = .ok (.iconst (-1), 1) := by decide +kernel
theorem dX0_seek_88 : decode cX0_seek 88 = .ok (.if_icmp .eq 42, 3) := by decide +kernel
theorem dX0_seek_91 : decode cX0_seek 91 = .ok (.aload_n 0, 1) := by decide +kernel
theorem dX0_seek_92 : decode cX0_seek 92 = .ok (.getfield 21, 3) := by decide +kernel
theorem dX0_seek_95 : decode cX0_seek 95 = .ok (.iconst (-1), 1) := by decide +kernel
theorem dX0_seek_96 : decode cX0_seek 96 = .ok (.if_icmp .eq 12, 3) := by decide +kernel
theorem dX0_seek_99 : decode cX0_seek 99 = .ok (.iload 7, 2) := by decide +kernel
theorem dX0_seek_101 : decode cX0_seek 101 = .ok (.aload_n 0, 1) := by decide +kernel
theorem dX0_seek_102 : decode cX0_seek 102 = .ok (.getfield 21, 3) := by decide +kernel
theorem dX0_seek_105 : decode cX0_seek 105 = .ok (.if_icmp .ge 25, 3) := by decide +kernel
theorem dX0_seek_108 : decode cX0_seek 108 = .ok (.aload_n 0, 1) := by decide +kernel
theorem dX0_seek_109 : decode cX0_seek 109 = .ok (.iload 6, 2) := by decide +kernel
theorem dX0_seek_111 : decode cX0_seek 111 = .ok (.aload_n 1, 1) := by decide +kernel
theorem dX0_seek_112 : decode cX0_seek 112 = .ok (.aload_n 2, 1) := by decide +kernel
theorem dX0_seek_113 : decode cX0_seek 113 = .ok (.iload_n 3, 1) := by decide +kernel
theorem dX0_seek_114 : decode cX0_seek 114 = .ok (.invokevirtual 53, 3) := by decide +kernel
theorem dX0_seek_117 : decode cX0_seek 117 = .ok (.ifCond .eq 13, 3) := by decide +kernel
theorem dX0_seek_120 : decode cX0_seek 120 = .ok (.aload_n 0, 1) := by decide +kernel
theorem dX0_seek_121 : decode cX0_seek 121 = .ok (.iload 7, 2) := by decide +kernel
theorem dX0_seek_123 : decode cX0_seek 123 = .ok (.putfield 21, 3) := by decide +kernel
theorem dX0_seek_126 : decode cX0_seek 126 = .ok (.iload 6, 2) := by decide +kernel
theorem dX0_seek_128 : decode cX0_seek 128 = .ok (.istore 5, 2) := by decide +kernel
theorem dX0_seek_130 : decode cX0_seek 130 = .ok (.iinc 6 1, 3) := by decide +kernel
theorem dX0_seek_133 : decode cX0_seek 133 = .ok (.goto (-67), 3) := by decide +kernel
theorem dX0_seek_136 : decode cX0_seek 136 = .ok (.aload_n 0, 1) := by decide +kernel
theorem dX0_seek_137 : decode cX0_seek 137 = .ok (.iload 5, 2) := by decide +kernel
theorem dX0_seek_139 : decode cX0_seek 139 = .ok (.invokevirtual 57, 3) := by decide +kernel
theorem dX0_seek_142 : decode cX0_seek 142 = .ok (.return_, 1) := by decide +kernel
theorem dX0_filingOf_0 : decode cX0_filingOf 0 = .ok (.iload_n 1, 1) := by decide +kernel
theorem dX0_filingOf_1 : decode cX0_filingOf 1 = .ok (.ifCond .lt 17, 3) := by decide +kernel
theorem dX0_filingOf_4 : decode cX0_filingOf 4 = .ok (.iload_n 1, 1) := by decide +kernel
theorem dX0_filingOf_5 : decode cX0_filingOf 5 = .ok (.iconst 4, 1) := by decide +kernel
theorem dX0_filingOf_6 : decode cX0_filingOf 6 = .ok (.if_icmp .ge 12, 3) := by decide +kernel
theorem dX0_filingOf_9 : decode cX0_filingOf 9 = .ok (.aload_n 0, 1) := by decide +kernel
theorem dX0_filingOf_10 : decode cX0_filingOf 10 = .ok (.getfield 18, 3) := by decide +kernel
theorem dX0_filingOf_13 : decode cX0_filingOf 13 = .ok (.iload_n 1, 1) := by decide +kernel
theorem dX0_filingOf_14 : decode cX0_filingOf 14 = .ok (.iaload, 1) := by decide +kernel
theorem dX0_filingOf_15 : decode cX0_filingOf 15 = .ok (.goto 4, 3) := by decide +kernel
theorem dX0_filingOf_18 : decode cX0_filingOf 18 = .ok (.iconst (-1), 1) := by decide +kernel
theorem dX0_filingOf_19 : decode cX0_filingOf 19 = .ok (.ireturn, 1) := by decide +kernel
theorem dX0_listen_0 : decode cX0_listen 0 = .ok (.aload_n 0, 1) := by decide +kernel
theorem dX0_listen_1 : decode cX0_listen 1 = .ok (.iconst 0, 1) := by decide +kernel
theorem dX0_listen_2 : decode cX0_listen 2 = .ok (.putfield 61, 3) := by decide +kernel
theorem dX0_listen_5 : decode cX0_listen 5 = .ok (.aload_n 0, 1) := by decide +kernel
theorem dX0_listen_6 : decode cX0_listen 6 = .ok (.getfield 36, 3) := by decide +kernel
theorem dX0_listen_9 : decode cX0_listen 9 = .ok (.istore 4, 2) := by decide +kernel
theorem dX0_listen_11 : decode cX0_listen 11 = .ok (.iload 4, 2) := by decide +kernel
theorem dX0_listen_13 : decode cX0_listen 13 = .ok (.aload_n 1, 1) := by decide +kernel
theorem dX0_listen_14 : decode cX0_listen 14 = .ok (.getfield 25, 3) := by decide +kernel
theorem dX0_listen_17 : decode cX0_listen 17 = .ok (.if_icmp .ge 26, 3) := by decide +kernel
theorem dX0_listen_20 : decode cX0_listen 20 = .ok (.aload_n 0, 1) := by decide +kernel
theorem dX0_listen_21 : decode cX0_listen 21 = .ok (.dup, 1) := by decide +kernel
theorem dX0_listen_22 : decode cX0_listen 22 = .ok (.getfield 61, 3) := by decide +kernel
theorem dX0_listen_25 : decode cX0_listen 25 = .ok (.aload_n 2, 1) := by decide +kernel
theorem dX0_listen_26 : decode cX0_listen 26 = .ok (.aload_n 1, 1) := by decide +kernel
theorem dX0_listen_27 : decode cX0_listen 27 = .ok (.iload 4, 2) := by decide +kernel
theorem dX0_listen_29 : decode cX0_listen 29 = .ok (.iload_n 3, 1) := by decide +kernel
theorem dX0_listen_30 : decode cX0_listen 30 = .ok (.invokevirtual 64, 3) := by decide +kernel
theorem dX0_listen_33 : decode cX0_listen 33 = .ok (.iadd, 1) := by decide +kernel
theorem dX0_listen_34 : decode cX0_listen 34 = .ok (.putfield 61, 3) := by decide +kernel
theorem dX0_listen_37 : decode cX0_listen 37 = .ok (.iinc 4 1, 3) := by decide +kernel
theorem dX0_listen_40 : decode cX0_listen 40 = .ok (.goto (-29), 3) := by decide +kernel
theorem dX0_listen_43 : decode cX0_listen 43 = .ok (.iconst 0, 1) := by decide +kernel
theorem dX0_listen_44 : decode cX0_listen 44 = .ok (.istore 4, 2) := by decide +kernel
theorem dX0_listen_46 : decode cX0_listen 46 = .ok (.iload 4, 2) := by decide +kernel
theorem dX0_listen_48 : decode cX0_listen 48 = .ok (.aload_n 0, 1) := by decide +kernel
theorem dX0_listen_49 : decode cX0_listen 49 = .ok (.getfield 36, 3) := by decide +kernel
theorem dX0_listen_52 : decode cX0_listen 52 = .ok (.if_icmp .ge 99, 3) := by decide +kernel
theorem dX0_listen_55 : decode cX0_listen 55 = .ok (.aload_n 2, 1) := by decide +kernel
theorem dX0_listen_56 : decode cX0_listen 56 = .ok (.getfield 70, 3) := by decide +kernel
theorem dX0_listen_59 : decode cX0_listen 59 = .ok (.iload 4, 2) := by decide +kernel
theorem dX0_listen_61 : decode cX0_listen 61 = .ok (.iaload, 1) := by decide +kernel
theorem dX0_listen_62 : decode cX0_listen 62 = .ok (.istore 5, 2) := by decide +kernel
theorem dX0_listen_64 : decode cX0_listen 64 = .ok (.iconst 0, 1) := by decide +kernel
theorem dX0_listen_65 : decode cX0_listen 65 = .ok (.istore 6, 2) := by decide +kernel
theorem dX0_listen_67 : decode cX0_listen 67 = .ok (.iload 6, 2) := by decide +kernel
theorem dX0_listen_69 : decode cX0_listen 69 = .ok (.bipush 9, 2) := by decide +kernel
theorem dX0_listen_71 : decode cX0_listen 71 = .ok (.if_icmp .ge 65, 3) := by decide +kernel
theorem dX0_listen_74 : decode cX0_listen 74 = .ok (.aload_n 2, 1) := by decide +kernel
theorem dX0_listen_75 : decode cX0_listen 75 = .ok (.getfield 70, 3) := by decide +kernel
theorem dX0_listen_78 : decode cX0_listen 78 = .ok (.iload 4, 2) := by decide +kernel
theorem dX0_listen_80 : decode cX0_listen 80 = .ok (.iload 5, 2) := by decide +kernel
theorem dX0_listen_82 : decode cX0_listen 82 = .ok (.iload 6, 2) := by decide +kernel
theorem dX0_listen_84 : decode cX0_listen 84 = .ok (.iadd, 1) := by decide +kernel
theorem dX0_listen_85 : decode cX0_listen 85 = .ok (.iconst 4, 1) := by decide +kernel
theorem dX0_listen_86 : decode cX0_listen 86 = .ok (.isub, 1) := by decide +kernel
theorem dX0_listen_87 : decode cX0_listen 87 = .ok (.iastore, 1) := by decide +kernel
theorem dX0_listen_88 : decode cX0_listen 88 = .ok (.aload_n 2, 1) := by decide +kernel
theorem dX0_listen_89 : decode cX0_listen 89 = .ok (.getfield 70, 3) := by decide +kernel
theorem dX0_listen_92 : decode cX0_listen 92 = .ok (.iload 4, 2) := by decide +kernel
theorem dX0_listen_94 : decode cX0_listen 94 = .ok (.iaload, 1) := by decide +kernel
theorem dX0_listen_95 : decode cX0_listen 95 = .ok (.invokestatic 73, 3) := by decide +kernel
theorem dX0_listen_98 : decode cX0_listen 98 = .ok (.istore 7, 2) := by decide +kernel
theorem dX0_listen_100 : decode cX0_listen 100 = .ok (.aload_n 0, 1) := by decide +kernel
theorem dX0_listen_101 : decode cX0_listen 101 = .ok (.getfield 11, 3) := by decide +kernel
theorem dX0_listen_104 : decode cX0_listen 104 = .ok (.iload 4, 2) := by decide +kernel
theorem dX0_listen_106 : decode cX0_listen 106 = .ok (.bipush 9, 2) := by decide +kernel
theorem dX0_listen_108 : decode cX0_listen 108 = .ok (.imul, 1) := by decide +kernel
theorem dX0_listen_109 : decode cX0_listen 109 = .ok (.iload 6, 2) := by decide +kernel
theorem dX0_listen_111 : decode cX0_listen 111 = .ok (.iadd, 1) := by decide +kernel
theorem dX0_listen_112 : decode cX0_listen 112 = .ok (.iload 7, 2) := by decide +kernel
theorem dX0_listen_114 : decode cX0_listen 114 = .ok (.ifCond .eq 14, 3) := by decide +kernel
theorem dX0_listen_117 : decode cX0_listen 117 = .ok (.aload_n 2, 1) := by decide +kernel
theorem dX0_listen_118 : decode cX0_listen 118 = .ok (.aload_n 1, 1) := by decide +kernel
theorem dX0_listen_119 : decode cX0_listen 119 = .ok (.iload 4, 2) := by decide +kernel
theorem dX0_listen_121 : decode cX0_listen 121 = .ok (.iload_n 3, 1) := by decide +kernel
theorem dX0_listen_122 : decode cX0_listen 122 = .ok (.invokevirtual 64, 3) := by decide +kernel
theorem dX0_listen_125 : decode cX0_listen 125 = .ok (.goto 4, 3) := by decide +kernel
theorem dX0_listen_128 : decode cX0_listen 128 = .ok (.iconst (-1), 1) := by decide +kernel
theorem dX0_listen_129 : decode cX0_listen 129 = .ok (.iastore, 1) := by decide +kernel
theorem dX0_listen_130 : decode cX0_listen 130 = .ok (.iinc 6 1, 3) := by decide +kernel
theorem dX0_listen_133 : decode cX0_listen 133 = .ok (.goto (-66), 3) := by decide +kernel
theorem dX0_listen_136 : decode cX0_listen 136 = .ok (.aload_n 2, 1) := by decide +kernel
theorem dX0_listen_137 : decode cX0_listen 137 = .ok (.getfield 70, 3) := by decide +kernel
theorem dX0_listen_140 : decode cX0_listen 140 = .ok (.iload 4, 2) := by decide +kernel
theorem dX0_listen_142 : decode cX0_listen 142 = .ok (.iload 5, 2) := by decide +kernel
theorem dX0_listen_144 : decode cX0_listen 144 = .ok (.iastore, 1) := by decide +kernel
theorem dX0_listen_145 : decode cX0_listen 145 = .ok (.iinc 4 1, 3) := by decide +kernel
theorem dX0_listen_148 : decode cX0_listen 148 = .ok (.goto (-102), 3) := by decide +kernel
theorem dX0_listen_151 : decode cX0_listen 151 = .ok (.return_, 1) := by decide +kernel
theorem dX0_costOf_0 : decode cX0_costOf 0 = .ok (.iconst 0, 1) := by decide +kernel
theorem dX0_costOf_1 : decode cX0_costOf 1 = .ok (.istore_n 3, 1) := by decide +kernel
theorem dX0_costOf_2 : decode cX0_costOf 2 = .ok (.iload_n 1, 1) := by decide +kernel
theorem dX0_costOf_3 : decode cX0_costOf 3 = .ok (.istore 4, 2) := by decide +kernel
theorem dX0_costOf_5 : decode cX0_costOf 5 = .ok (.aload_n 0, 1) := by decide +kernel
theorem dX0_costOf_6 : decode cX0_costOf 6 = .ok (.getfield 36, 3) := by decide +kernel
theorem dX0_costOf_9 : decode cX0_costOf 9 = .ok (.iconst 1, 1) := by decide +kernel
theorem dX0_costOf_10 : decode cX0_costOf 10 = .ok (.isub, 1) := by decide +kernel
theorem dX0_costOf_11 : decode cX0_costOf 11 = .ok (.istore 5, 2) := by decide +kernel
theorem dX0_costOf_13 : decode cX0_costOf 13 = .ok (.iload 5, 2) := by decide +kernel
theorem dX0_costOf_15 : decode cX0_costOf 15 = .ok (.ifCond .lt 52, 3) := by decide +kernel
theorem dX0_costOf_18 : decode cX0_costOf 18 = .ok (.iload 4, 2) := by decide +kernel
theorem dX0_costOf_20 : decode cX0_costOf 20 = .ok (.bipush 9, 2) := by decide +kernel
theorem dX0_costOf_22 : decode cX0_costOf 22 = .ok (.irem, 1) := by decide +kernel
theorem dX0_costOf_23 : decode cX0_costOf 23 = .ok (.istore 6, 2) := by decide +kernel
theorem dX0_costOf_25 : decode cX0_costOf 25 = .ok (.iload 4, 2) := by decide +kernel
theorem dX0_costOf_27 : decode cX0_costOf 27 = .ok (.bipush 9, 2) := by decide +kernel
theorem dX0_costOf_29 : decode cX0_costOf 29 = .ok (.idiv, 1) := by decide +kernel
theorem dX0_costOf_30 : decode cX0_costOf 30 = .ok (.istore 4, 2) := by decide +kernel
theorem dX0_costOf_32 : decode cX0_costOf 32 = .ok (.aload_n 0, 1) := by decide +kernel
theorem dX0_costOf_33 : decode cX0_costOf 33 = .ok (.getfield 11, 3) := by decide +kernel
theorem dX0_costOf_36 : decode cX0_costOf 36 = .ok (.iload 5, 2) := by decide +kernel
theorem dX0_costOf_38 : decode cX0_costOf 38 = .ok (.bipush 9, 2) := by decide +kernel
theorem dX0_costOf_40 : decode cX0_costOf 40 = .ok (.imul, 1) := by decide +kernel
theorem dX0_costOf_41 : decode cX0_costOf 41 = .ok (.iload 6, 2) := by decide +kernel
theorem dX0_costOf_43 : decode cX0_costOf 43 = .ok (.iadd, 1) := by decide +kernel
theorem dX0_costOf_44 : decode cX0_costOf 44 = .ok (.iaload, 1) := by decide +kernel
theorem dX0_costOf_45 : decode cX0_costOf 45 = .ok (.iconst (-1), 1) := by decide +kernel
theorem dX0_costOf_46 : decode cX0_costOf 46 = .ok (.if_icmp .ne 5, 3) := by decide +kernel
theorem dX0_costOf_49 : decode cX0_costOf 49 = .ok (.iconst (-1), 1) := by decide +kernel
theorem dX0_costOf_50 : decode cX0_costOf 50 = .ok (.ireturn, 1) := by decide +kernel
theorem dX0_costOf_51 : decode cX0_costOf 51 = .ok (.iload_n 3, 1) := by decide +kernel
theorem dX0_costOf_52 : decode cX0_costOf 52 = .ok (.iload 6, 2) := by decide +kernel
theorem dX0_costOf_54 : decode cX0_costOf 54 = .ok (.iconst 4, 1) := by decide +kernel
theorem dX0_costOf_55 : decode cX0_costOf 55 = .ok (.isub, 1) := by decide +kernel
theorem dX0_costOf_56 : decode cX0_costOf 56 = .ok (.invokestatic 77, 3) := by decide +kernel
theorem dX0_costOf_59 : decode cX0_costOf 59 = .ok (.iadd, 1) := by decide +kernel
theorem dX0_costOf_60 : decode cX0_costOf 60 = .ok (.istore_n 3, 1) := by decide +kernel
theorem dX0_costOf_61 : decode cX0_costOf 61 = .ok (.iinc 5 (-1), 3) := by decide +kernel
theorem dX0_costOf_64 : decode cX0_costOf 64 = .ok (.goto (-51), 3) := by decide +kernel
theorem dX0_costOf_67 : decode cX0_costOf 67 = .ok (.iload_n 3, 1) := by decide +kernel
theorem dX0_costOf_68 : decode cX0_costOf 68 = .ok (.iload_n 2, 1) := by decide +kernel
theorem dX0_costOf_69 : decode cX0_costOf 69 = .ok (.imul, 1) := by decide +kernel
theorem dX0_costOf_70 : decode cX0_costOf 70 = .ok (.ireturn, 1) := by decide +kernel
theorem dX0_carriedBy_0 : decode cX0_carriedBy 0 = .ok (.aload_n 0, 1) := by decide +kernel
theorem dX0_carriedBy_1 : decode cX0_carriedBy 1 = .ok (.getfield 61, 3) := by decide +kernel
theorem dX0_carriedBy_4 : decode cX0_carriedBy 4 = .ok (.istore 5, 2) := by decide +kernel
theorem dX0_carriedBy_6 : decode cX0_carriedBy 6 = .ok (.iload_n 1, 1) := by decide +kernel
theorem dX0_carriedBy_7 : decode cX0_carriedBy 7 = .ok (.istore 6, 2) := by decide +kernel
theorem dX0_carriedBy_9 : decode cX0_carriedBy 9 = .ok (.aload_n 0, 1) := by decide +kernel
theorem dX0_carriedBy_10 : decode cX0_carriedBy 10 = .ok (.getfield 36, 3) := by decide +kernel
theorem dX0_carriedBy_13 : decode cX0_carriedBy 13 = .ok (.iconst 1, 1) := by decide +kernel
theorem dX0_carriedBy_14 : decode cX0_carriedBy 14 = .ok (.isub, 1) := by decide +kernel
theorem dX0_carriedBy_15 : decode cX0_carriedBy 15 = .ok (.istore 7, 2) := by decide +kernel
theorem dX0_carriedBy_17 : decode cX0_carriedBy 17 = .ok (.iload 7, 2) := by decide +kernel
theorem dX0_carriedBy_19 : decode cX0_carriedBy 19 = .ok (.ifCond .lt 37, 3) := by decide +kernel
theorem dX0_carriedBy_22 : decode cX0_carriedBy 22 = .ok (.iload 5, 2) := by decide +kernel
theorem dX0_carriedBy_24 : decode cX0_carriedBy 24 = .ok (.aload_n 0, 1) := by decide +kernel
theorem dX0_carriedBy_25 : decode cX0_carriedBy 25 = .ok (.getfield 11, 3) := by decide +kernel
theorem dX0_carriedBy_28 : decode cX0_carriedBy 28 = .ok (.iload 7, 2) := by decide +kernel
theorem dX0_carriedBy_30 : decode cX0_carriedBy 30 = .ok (.bipush 9, 2) := by decide +kernel
theorem dX0_carriedBy_32 : decode cX0_carriedBy 32 = .ok (.imul, 1) := by decide +kernel
theorem dX0_carriedBy_33 : decode cX0_carriedBy 33 = .ok (.iload 6, 2) := by decide +kernel
theorem dX0_carriedBy_35 : decode cX0_carriedBy 35 = .ok (.bipush 9, 2) := by decide +kernel
theorem dX0_carriedBy_37 : decode cX0_carriedBy 37 = .ok (.irem, 1) := by decide +kernel
theorem dX0_carriedBy_38 : decode cX0_carriedBy 38 = .ok (.iadd, 1) := by decide +kernel
theorem dX0_carriedBy_39 : decode cX0_carriedBy 39 = .ok (.iaload, 1) := by decide +kernel
theorem dX0_carriedBy_40 : decode cX0_carriedBy 40 = .ok (.iadd, 1) := by decide +kernel
theorem dX0_carriedBy_41 : decode cX0_carriedBy 41 = .ok (.istore 5, 2) := by decide +kernel
theorem dX0_carriedBy_43 : decode cX0_carriedBy 43 = .ok (.iload 6, 2) := by decide +kernel
theorem dX0_carriedBy_45 : decode cX0_carriedBy 45 = .ok (.bipush 9, 2) := by decide +kernel
theorem dX0_carriedBy_47 : decode cX0_carriedBy 47 = .ok (.idiv, 1) := by decide +kernel
theorem dX0_carriedBy_48 : decode cX0_carriedBy 48 = .ok (.istore 6, 2) := by decide +kernel
theorem dX0_carriedBy_50 : decode cX0_carriedBy 50 = .ok (.iinc 7 (-1), 3) := by decide +kernel
theorem dX0_carriedBy_53 : decode cX0_carriedBy 53 = .ok (.goto (-36), 3) := by decide +kernel
theorem dX0_carriedBy_56 : decode cX0_carriedBy 56 = .ok (.iload 5, 2) := by decide +kernel
theorem dX0_carriedBy_58 : decode cX0_carriedBy 58 = .ok (.ifCond .lt 13, 3) := by decide +kernel
theorem dX0_carriedBy_61 : decode cX0_carriedBy 61 = .ok (.iload 5, 2) := by decide +kernel
theorem dX0_carriedBy_63 : decode cX0_carriedBy 63 = .ok (.aload_n 0, 1) := by decide +kernel
theorem dX0_carriedBy_64 : decode cX0_carriedBy 64 = .ok (.getfield 15, 3) := by decide +kernel
theorem dX0_carriedBy_67 : decode cX0_carriedBy 67 = .ok (.arraylength, 1) := by decide +kernel
theorem dX0_carriedBy_68 : decode cX0_carriedBy 68 = .ok (.if_icmp .lt 13, 3) := by decide +kernel
theorem dX0_carriedBy_71 : decode cX0_carriedBy 71 = .ok (.aload_n 3, 1) := by decide +kernel
theorem dX0_carriedBy_72 : decode cX0_carriedBy 72 = .ok (.aload_n 2, 1) := by decide +kernel
theorem dX0_carriedBy_73 : decode cX0_carriedBy 73 = .ok (.iload 4, 2) := by decide +kernel
theorem dX0_carriedBy_75 : decode cX0_carriedBy 75 = .ok (.iload 5, 2) := by decide +kernel
theorem dX0_carriedBy_77 : decode cX0_carriedBy 77 = .ok (.invokevirtual 81, 3) := by decide +kernel
theorem dX0_carriedBy_80 : decode cX0_carriedBy 80 = .ok (.ireturn, 1) := by decide +kernel
theorem dX0_carriedBy_81 : decode cX0_carriedBy 81 = .ok (.aload_n 0, 1) := by decide +kernel
theorem dX0_carriedBy_82 : decode cX0_carriedBy 82 = .ok (.getfield 15, 3) := by decide +kernel
theorem dX0_carriedBy_85 : decode cX0_carriedBy 85 = .ok (.iload 5, 2) := by decide +kernel
theorem dX0_carriedBy_87 : decode cX0_carriedBy 87 = .ok (.iaload, 1) := by decide +kernel
theorem dX0_carriedBy_88 : decode cX0_carriedBy 88 = .ok (.ifCond .ne 27, 3) := by decide +kernel
theorem dX0_carriedBy_91 : decode cX0_carriedBy 91 = .ok (.aload_n 0, 1) := by decide +kernel
theorem dX0_carriedBy_92 : decode cX0_carriedBy 92 = .ok (.getfield 15, 3) := by decide +kernel
theorem dX0_carriedBy_95 : decode cX0_carriedBy 95 = .ok (.iload 5, 2) := by decide +kernel
theorem dX0_carriedBy_97 : decode cX0_carriedBy 97 = .ok (.aload_n 3, 1) := by decide +kernel
theorem dX0_carriedBy_98 : decode cX0_carriedBy 98 = .ok (.aload_n 2, 1) := by decide +kernel
theorem dX0_carriedBy_99 : decode cX0_carriedBy 99 = .ok (.iload 4, 2) := by decide +kernel
theorem dX0_carriedBy_101 : decode cX0_carriedBy 101 = .ok (.iload 5, 2) := by decide +kernel
theorem dX0_carriedBy_103 : decode cX0_carriedBy 103 = .ok (.invokevirtual 81, 3) := by decide +kernel
theorem dX0_carriedBy_106 : decode cX0_carriedBy 106 = .ok (.ifCond .eq 7, 3) := by decide +kernel
theorem dX0_carriedBy_109 : decode cX0_carriedBy 109 = .ok (.iconst 1, 1) := by decide +kernel
theorem dX0_carriedBy_110 : decode cX0_carriedBy 110 = .ok (.goto 4, 3) := by decide +kernel
theorem dX0_carriedBy_113 : decode cX0_carriedBy 113 = .ok (.iconst 2, 1) := by decide +kernel
theorem dX0_carriedBy_114 : decode cX0_carriedBy 114 = .ok (.iastore, 1) := by decide +kernel
theorem dX0_carriedBy_115 : decode cX0_carriedBy 115 = .ok (.aload_n 0, 1) := by decide +kernel
theorem dX0_carriedBy_116 : decode cX0_carriedBy 116 = .ok (.getfield 15, 3) := by decide +kernel
theorem dX0_carriedBy_119 : decode cX0_carriedBy 119 = .ok (.iload 5, 2) := by decide +kernel
theorem dX0_carriedBy_121 : decode cX0_carriedBy 121 = .ok (.iaload, 1) := by decide +kernel
theorem dX0_carriedBy_122 : decode cX0_carriedBy 122 = .ok (.iconst 1, 1) := by decide +kernel
theorem dX0_carriedBy_123 : decode cX0_carriedBy 123 = .ok (.if_icmp .ne 7, 3) := by decide +kernel
theorem dX0_carriedBy_126 : decode cX0_carriedBy 126 = .ok (.iconst 1, 1) := by decide +kernel
theorem dX0_carriedBy_127 : decode cX0_carriedBy 127 = .ok (.goto 4, 3) := by decide +kernel
theorem dX0_carriedBy_130 : decode cX0_carriedBy 130 = .ok (.iconst 0, 1) := by decide +kernel
theorem dX0_carriedBy_131 : decode cX0_carriedBy 131 = .ok (.ireturn, 1) := by decide +kernel
theorem dX0_settle_0 : decode cX0_settle 0 = .ok (.iload_n 1, 1) := by decide +kernel
theorem dX0_settle_1 : decode cX0_settle 1 = .ok (.istore_n 2, 1) := by decide +kernel
theorem dX0_settle_2 : decode cX0_settle 2 = .ok (.aload_n 0, 1) := by decide +kernel
theorem dX0_settle_3 : decode cX0_settle 3 = .ok (.getfield 36, 3) := by decide +kernel
theorem dX0_settle_6 : decode cX0_settle 6 = .ok (.iconst 1, 1) := by decide +kernel
theorem dX0_settle_7 : decode cX0_settle 7 = .ok (.isub, 1) := by decide +kernel
theorem dX0_settle_8 : decode cX0_settle 8 = .ok (.istore_n 3, 1) := by decide +kernel
theorem dX0_settle_9 : decode cX0_settle 9 = .ok (.iload_n 3, 1) := by decide +kernel
theorem dX0_settle_10 : decode cX0_settle 10 = .ok (.ifCond .lt 26, 3) := by decide +kernel
theorem dX0_settle_13 : decode cX0_settle 13 = .ok (.aload_n 0, 1) := by decide +kernel
theorem dX0_settle_14 : decode cX0_settle 14 = .ok (.getfield 18, 3) := by decide +kernel
theorem dX0_settle_17 : decode cX0_settle 17 = .ok (.iload_n 3, 1) := by decide +kernel
theorem dX0_settle_18 : decode cX0_settle 18 = .ok (.iload_n 2, 1) := by decide +kernel
theorem dX0_settle_19 : decode cX0_settle 19 = .ok (.bipush 9, 2) := by decide +kernel
theorem dX0_settle_21 : decode cX0_settle 21 = .ok (.irem, 1) := by decide +kernel
theorem dX0_settle_22 : decode cX0_settle 22 = .ok (.iconst 4, 1) := by decide +kernel
theorem dX0_settle_23 : decode cX0_settle 23 = .ok (.isub, 1) := by decide +kernel
theorem dX0_settle_24 : decode cX0_settle 24 = .ok (.iastore, 1) := by decide +kernel
theorem dX0_settle_25 : decode cX0_settle 25 = .ok (.iload_n 2, 1) := by decide +kernel
theorem dX0_settle_26 : decode cX0_settle 26 = .ok (.bipush 9, 2) := by decide +kernel
theorem dX0_settle_28 : decode cX0_settle 28 = .ok (.idiv, 1) := by decide +kernel
theorem dX0_settle_29 : decode cX0_settle 29 = .ok (.istore_n 2, 1) := by decide +kernel
theorem dX0_settle_30 : decode cX0_settle 30 = .ok (.iinc 3 (-1), 3) := by decide +kernel
theorem dX0_settle_33 : decode cX0_settle 33 = .ok (.goto (-24), 3) := by decide +kernel
theorem dX0_settle_36 : decode cX0_settle 36 = .ok (.return_, 1) := by decide +kernel
theorem dX1_add_0 : decode cX1_add 0 = .ok (.aload_n 0, 1) := by decide +kernel
theorem dX1_add_1 : decode cX1_add 1 = .ok (.getfield 21, 3) := by decide +kernel
theorem dX1_add_4 : decode cX1_add 4 = .ok (.bipush 20, 2) := by decide +kernel
theorem dX1_add_6 : decode cX1_add 6 = .ok (.if_icmp .lt 7, 3) := by decide +kernel
theorem dX1_add_9 : decode cX1_add 9 = .ok (.aload_n 0, 1) := by decide +kernel
theorem dX1_add_10 : decode cX1_add 10 = .ok (.invokevirtual 25, 3) := by decide +kernel
theorem dX1_add_13 : decode cX1_add 13 = .ok (.aload_n 0, 1) := by decide +kernel
theorem dX1_add_14 : decode cX1_add 14 = .ok (.getfield 9, 3) := by decide +kernel
theorem dX1_add_17 : decode cX1_add 17 = .ok (.aload_n 0, 1) := by decide +kernel
theorem dX1_add_18 : decode cX1_add 18 = .ok (.getfield 21, 3) := by decide +kernel
theorem dX1_add_21 : decode cX1_add 21 = .ok (.iload_n 1, 1) := by decide +kernel
theorem dX1_add_22 : decode cX1_add 22 = .ok (.iastore, 1) := by decide +kernel
theorem dX1_add_23 : decode cX1_add 23 = .ok (.aload_n 0, 1) := by decide +kernel
theorem dX1_add_24 : decode cX1_add 24 = .ok (.getfield 15, 3) := by decide +kernel
theorem dX1_add_27 : decode cX1_add 27 = .ok (.aload_n 0, 1) := by decide +kernel
theorem dX1_add_28 : decode cX1_add 28 = .ok (.getfield 21, 3) := by decide +kernel
theorem dX1_add_31 : decode cX1_add 31 = .ok (.iload_n 2, 1) := by decide +kernel
theorem dX1_add_32 : decode cX1_add 32 = .ok (.iastore, 1) := by decide +kernel
theorem dX1_add_33 : decode cX1_add 33 = .ok (.aload_n 0, 1) := by decide +kernel
theorem dX1_add_34 : decode cX1_add 34 = .ok (.getfield 18, 3) := by decide +kernel
theorem dX1_add_37 : decode cX1_add 37 = .ok (.aload_n 0, 1) := by decide +kernel
theorem dX1_add_38 : decode cX1_add 38 = .ok (.getfield 21, 3) := by decide +kernel
theorem dX1_add_41 : decode cX1_add 41 = .ok (.iload_n 3, 1) := by decide +kernel
theorem dX1_add_42 : decode cX1_add 42 = .ok (.iastore, 1) := by decide +kernel
theorem dX1_add_43 : decode cX1_add 43 = .ok (.aload_n 0, 1) := by decide +kernel
theorem dX1_add_44 : decode cX1_add 44 = .ok (.dup, 1) := by decide +kernel
theorem dX1_add_45 : decode cX1_add 45 = .ok (.getfield 21, 3) := by decide +kernel
theorem dX1_add_48 : decode cX1_add 48 = .ok (.iconst 1, 1) := by decide +kernel
theorem dX1_add_49 : decode cX1_add 49 = .ok (.iadd, 1) := by decide +kernel
theorem dX1_add_50 : decode cX1_add 50 = .ok (.putfield 21, 3) := by decide +kernel
theorem dX1_add_53 : decode cX1_add 53 = .ok (.return_, 1) := by decide +kernel
theorem dX1_dropOldest_0 : decode cX1_dropOldest 0 = .ok (.aload_n 0, 1) := by decide +kernel
theorem dX1_dropOldest_1 : decode cX1_dropOldest 1 = .ok (.bipush 19, 2) := by decide +kernel
theorem dX1_dropOldest_3 : decode cX1_dropOldest 3 = .ok (.putfield 21, 3) := by decide +kernel
theorem dX1_dropOldest_6 : decode cX1_dropOldest 6 = .ok (.aload_n 0, 1) := by decide +kernel
theorem dX1_dropOldest_7 : decode cX1_dropOldest 7 = .ok (.getfield 9, 3) := by decide +kernel
theorem dX1_dropOldest_10 : decode cX1_dropOldest 10 = .ok (.iconst 1, 1) := by decide +kernel
theorem dX1_dropOldest_11 : decode cX1_dropOldest 11 = .ok (.aload_n 0, 1) := by decide +kernel
theorem dX1_dropOldest_12 : decode cX1_dropOldest 12 = .ok (.getfield 9, 3) := by decide +kernel
theorem dX1_dropOldest_15 : decode cX1_dropOldest 15 = .ok (.iconst 0, 1) := by decide +kernel
theorem dX1_dropOldest_16 : decode cX1_dropOldest 16 = .ok (.aload_n 0, 1) := by decide +kernel
theorem dX1_dropOldest_17 : decode cX1_dropOldest 17 = .ok (.getfield 21, 3) := by decide +kernel
theorem dX1_dropOldest_20 : decode cX1_dropOldest 20 = .ok (.invokestatic 28, 3) := by decide +kernel
theorem dX1_dropOldest_23 : decode cX1_dropOldest 23 = .ok (.aload_n 0, 1) := by decide +kernel
theorem dX1_dropOldest_24 : decode cX1_dropOldest 24 = .ok (.getfield 15, 3) := by decide +kernel
theorem dX1_dropOldest_27 : decode cX1_dropOldest 27 = .ok (.iconst 1, 1) := by decide +kernel
theorem dX1_dropOldest_28 : decode cX1_dropOldest 28 = .ok (.aload_n 0, 1) := by decide +kernel
theorem dX1_dropOldest_29 : decode cX1_dropOldest 29 = .ok (.getfield 15, 3) := by decide +kernel
theorem dX1_dropOldest_32 : decode cX1_dropOldest 32 = .ok (.iconst 0, 1) := by decide +kernel
theorem dX1_dropOldest_33 : decode cX1_dropOldest 33 = .ok (.aload_n 0, 1) := by decide +kernel
theorem dX1_dropOldest_34 : decode cX1_dropOldest 34 = .ok (.getfield 21, 3) := by decide +kernel
theorem dX1_dropOldest_37 : decode cX1_dropOldest 37 = .ok (.invokestatic 28, 3) := by decide +kernel
theorem dX1_dropOldest_40 : decode cX1_dropOldest 40 = .ok (.aload_n 0, 1) := by decide +kernel
theorem dX1_dropOldest_41 : decode cX1_dropOldest 41 = .ok (.getfield 18, 3) := by decide +kernel
theorem dX1_dropOldest_44 : decode cX1_dropOldest 44 = .ok (.iconst 1, 1) := by decide +kernel
theorem dX1_dropOldest_45 : decode cX1_dropOldest 45 = .ok (.aload_n 0, 1) := by decide +kernel
theorem dX1_dropOldest_46 : decode cX1_dropOldest 46 = .ok (.getfield 18, 3) := by decide +kernel
theorem dX1_dropOldest_49 : decode cX1_dropOldest 49 = .ok (.iconst 0, 1) := by decide +kernel
theorem dX1_dropOldest_50 : decode cX1_dropOldest 50 = .ok (.aload_n 0, 1) := by decide +kernel
theorem dX1_dropOldest_51 : decode cX1_dropOldest 51 = .ok (.getfield 21, 3) := by decide +kernel
theorem dX1_dropOldest_54 : decode cX1_dropOldest 54 = .ok (.invokestatic 28, 3) := by decide +kernel
theorem dX1_dropOldest_57 : decode cX1_dropOldest 57 = .ok (.return_, 1) := by decide +kernel
theorem dX2_settle_0 : decode cX2_settle 0 = .ok (.aload_n 2, 1) := by decide +kernel
theorem dX2_settle_1 : decode cX2_settle 1 = .ok (.getfield 19, 3) := by decide +kernel
theorem dX2_settle_4 : decode cX2_settle 4 = .ok (.iload_n 3, 1) := by decide +kernel
theorem dX2_settle_5 : decode cX2_settle 5 = .ok (.iaload, 1) := by decide +kernel
theorem dX2_settle_6 : decode cX2_settle 6 = .ok (.istore 6, 2) := by decide +kernel
theorem dX2_settle_8 : decode cX2_settle 8 = .ok (.aload_n 2, 1) := by decide +kernel
theorem dX2_settle_9 : decode cX2_settle 9 = .ok (.getfield 19, 3) := by decide +kernel
theorem dX2_settle_12 : decode cX2_settle 12 = .ok (.iload 4, 2) := by decide +kernel
theorem dX2_settle_14 : decode cX2_settle 14 = .ok (.iaload, 1) := by decide +kernel
theorem dX2_settle_15 : decode cX2_settle 15 = .ok (.istore 7, 2) := by decide +kernel
theorem dX2_settle_17 : decode cX2_settle 17 = .ok (.iconst 0, 1) := by decide +kernel
theorem dX2_settle_18 : decode cX2_settle 18 = .ok (.istore 8, 2) := by decide +kernel
theorem dX2_settle_20 : decode cX2_settle 20 = .ok (.iload 8, 2) := by decide +kernel
theorem dX2_settle_22 : decode cX2_settle 22 = .ok (.iconst 5, 1) := by decide +kernel
theorem dX2_settle_23 : decode cX2_settle 23 = .ok (.if_icmp .ge 88, 3) := by decide +kernel
theorem dX2_settle_26 : decode cX2_settle 26 = .ok (.aload_n 2, 1) := by decide +kernel
theorem dX2_settle_27 : decode cX2_settle 27 = .ok (.getfield 19, 3) := by decide +kernel
theorem dX2_settle_30 : decode cX2_settle 30 = .ok (.iload_n 3, 1) := by decide +kernel
theorem dX2_settle_31 : decode cX2_settle 31 = .ok (.iload 6, 2) := by decide +kernel
theorem dX2_settle_33 : decode cX2_settle 33 = .ok (.iload 8, 2) := by decide +kernel
theorem dX2_settle_35 : decode cX2_settle 35 = .ok (.iadd, 1) := by decide +kernel
theorem dX2_settle_36 : decode cX2_settle 36 = .ok (.iconst 2, 1) := by decide +kernel
theorem dX2_settle_37 : decode cX2_settle 37 = .ok (.isub, 1) := by decide +kernel
theorem dX2_settle_38 : decode cX2_settle 38 = .ok (.i2l, 1) := by decide +kernel
theorem dX2_settle_39 : decode cX2_settle 39 = .ok (.bipush 100, 2) := by decide +kernel
theorem dX2_settle_41 : decode cX2_settle 41 = .ok (.sipush 999, 3) := by decide +kernel
theorem dX2_settle_44 : decode cX2_settle 44 = .ok (.invokestatic 24, 3) := by decide +kernel
theorem dX2_settle_47 : decode cX2_settle 47 = .ok (.iastore, 1) := by decide +kernel
theorem dX2_settle_48 : decode cX2_settle 48 = .ok (.iconst 0, 1) := by decide +kernel
theorem dX2_settle_49 : decode cX2_settle 49 = .ok (.istore 9, 2) := by decide +kernel
theorem dX2_settle_51 : decode cX2_settle 51 = .ok (.iload 9, 2) := by decide +kernel
theorem dX2_settle_53 : decode cX2_settle 53 = .ok (.iconst 5, 1) := by decide +kernel
theorem dX2_settle_54 : decode cX2_settle 54 = .ok (.if_icmp .ge 51, 3) := by decide +kernel
theorem dX2_settle_57 : decode cX2_settle 57 = .ok (.aload_n 2, 1) := by decide +kernel
theorem dX2_settle_58 : decode cX2_settle 58 = .ok (.getfield 19, 3) := by decide +kernel
theorem dX2_settle_61 : decode cX2_settle 61 = .ok (.iload 4, 2) := by decide +kernel
theorem dX2_settle_63 : decode cX2_settle 63 = .ok (.iload 7, 2) := by decide +kernel
theorem dX2_settle_65 : decode cX2_settle 65 = .ok (.iload 9, 2) := by decide +kernel
theorem dX2_settle_67 : decode cX2_settle 67 = .ok (.iadd, 1) := by decide +kernel
theorem dX2_settle_68 : decode cX2_settle 68 = .ok (.iconst 2, 1) := by decide +kernel
theorem dX2_settle_69 : decode cX2_settle 69 = .ok (.isub, 1) := by decide +kernel
theorem dX2_settle_70 : decode cX2_settle 70 = .ok (.i2l, 1) := by decide +kernel
theorem dX2_settle_71 : decode cX2_settle 71 = .ok (.bipush 100, 2) := by decide +kernel
theorem dX2_settle_73 : decode cX2_settle 73 = .ok (.sipush 999, 3) := by decide +kernel
theorem dX2_settle_76 : decode cX2_settle 76 = .ok (.invokestatic 24, 3) := by decide +kernel
theorem dX2_settle_79 : decode cX2_settle 79 = .ok (.iastore, 1) := by decide +kernel
theorem dX2_settle_80 : decode cX2_settle 80 = .ok (.aload_n 0, 1) := by decide +kernel
theorem dX2_settle_81 : decode cX2_settle 81 = .ok (.getfield 11, 3) := by decide +kernel
theorem dX2_settle_84 : decode cX2_settle 84 = .ok (.iload 8, 2) := by decide +kernel
theorem dX2_settle_86 : decode cX2_settle 86 = .ok (.iconst 5, 1) := by decide +kernel
theorem dX2_settle_87 : decode cX2_settle 87 = .ok (.imul, 1) := by decide +kernel
theorem dX2_settle_88 : decode cX2_settle 88 = .ok (.iload 9, 2) := by decide +kernel
theorem dX2_settle_90 : decode cX2_settle 90 = .ok (.iadd, 1) := by decide +kernel
theorem dX2_settle_91 : decode cX2_settle 91 = .ok (.aload_n 2, 1) := by decide +kernel
theorem dX2_settle_92 : decode cX2_settle 92 = .ok (.aload_n 1, 1) := by decide +kernel
theorem dX2_settle_93 : decode cX2_settle 93 = .ok (.iload 5, 2) := by decide +kernel
theorem dX2_settle_95 : decode cX2_settle 95 = .ok (.invokevirtual 28, 3) := by decide +kernel
theorem dX2_settle_98 : decode cX2_settle 98 = .ok (.bastore, 1) := by decide +kernel
theorem dX2_settle_99 : decode cX2_settle 99 = .ok (.iinc 9 1, 3) := by decide +kernel
theorem dX2_settle_102 : decode cX2_settle 102 = .ok (.goto (-51), 3) := by decide +kernel
theorem dX2_settle_105 : decode cX2_settle 105 = .ok (.iinc 8 1, 3) := by decide +kernel
theorem dX2_settle_108 : decode cX2_settle 108 = .ok (.goto (-88), 3) := by decide +kernel
theorem dX2_settle_111 : decode cX2_settle 111 = .ok (.aload_n 0, 1) := by decide +kernel
theorem dX2_settle_112 : decode cX2_settle 112 = .ok (.iconst 0, 1) := by decide +kernel
theorem dX2_settle_113 : decode cX2_settle 113 = .ok (.putfield 32, 3) := by decide +kernel
theorem dX2_settle_116 : decode cX2_settle 116 = .ok (.iconst 0, 1) := by decide +kernel
theorem dX2_settle_117 : decode cX2_settle 117 = .ok (.istore 8, 2) := by decide +kernel
theorem dX2_settle_119 : decode cX2_settle 119 = .ok (.iload 8, 2) := by decide +kernel
theorem dX2_settle_121 : decode cX2_settle 121 = .ok (.iconst 5, 1) := by decide +kernel
theorem dX2_settle_122 : decode cX2_settle 122 = .ok (.if_icmp .ge 66, 3) := by decide +kernel
theorem dX2_settle_125 : decode cX2_settle 125 = .ok (.iconst 0, 1) := by decide +kernel
theorem dX2_settle_126 : decode cX2_settle 126 = .ok (.istore 9, 2) := by decide +kernel
theorem dX2_settle_128 : decode cX2_settle 128 = .ok (.iload 9, 2) := by decide +kernel
theorem dX2_settle_130 : decode cX2_settle 130 = .ok (.iconst 5, 1) := by decide +kernel
theorem dX2_settle_131 : decode cX2_settle 131 = .ok (.if_icmp .ge 51, 3) := by decide +kernel
theorem dX2_settle_134 : decode cX2_settle 134 = .ok (.aload_n 0, 1) := by decide +kernel
theorem dX2_settle_135 : decode cX2_settle 135 = .ok (.iload 8, 2) := by decide +kernel
theorem dX2_settle_137 : decode cX2_settle 137 = .ok (.iload 9, 2) := by decide +kernel
theorem dX2_settle_139 : decode cX2_settle 139 = .ok (.aload_n 1, 1) := by decide +kernel
theorem dX2_settle_140 : decode cX2_settle 140 = .ok (.getfield 36, 3) := by decide +kernel
theorem dX2_settle_143 : decode cX2_settle 143 = .ok (.invokevirtual 41, 3) := by decide +kernel
theorem dX2_settle_146 : decode cX2_settle 146 = .ok (.ifCond .eq 30, 3) := by decide +kernel
theorem dX2_settle_149 : decode cX2_settle 149 = .ok (.aload_n 0, 1) := by decide +kernel
theorem dX2_settle_150 : decode cX2_settle 150 = .ok (.getfield 15, 3) := by decide +kernel
theorem dX2_settle_153 : decode cX2_settle 153 = .ok (.aload_n 0, 1) := by decide +kernel
theorem dX2_settle_154 : decode cX2_settle 154 = .ok (.getfield 32, 3) := by decide +kernel
theorem dX2_settle_157 : decode cX2_settle 157 = .ok (.bipush 10, 2) := by decide +kernel
theorem dX2_settle_159 : decode cX2_settle 159 = .ok (.iload 8, 2) := by decide +kernel
theorem dX2_settle_161 : decode cX2_settle 161 = .ok (.imul, 1) := by decide +kernel
theorem dX2_settle_162 : decode cX2_settle 162 = .ok (.iload 9, 2) := by decide +kernel
theorem dX2_settle_164 : decode cX2_settle 164 = .ok (.iadd, 1) := by decide +kernel
theorem dX2_settle_165 : decode cX2_settle 165 = .ok (.iastore, 1) := by decide +kernel
theorem dX2_settle_166 : decode cX2_settle 166 = .ok (.aload_n 0, 1) := by decide +kernel
theorem dX2_settle_167 : decode cX2_settle 167 = .ok (.dup, 1) := by decide +kernel
theorem dX2_settle_168 : decode cX2_settle 168 = .ok (.getfield 32, 3) := by decide +kernel
theorem dX2_settle_171 : decode cX2_settle 171 = .ok (.iconst 1, 1) := by decide +kernel
theorem dX2_settle_172 : decode cX2_settle 172 = .ok (.iadd, 1) := by decide +kernel
theorem dX2_settle_173 : decode cX2_settle 173 = .ok (.putfield 32, 3) := by decide +kernel
theorem dX2_settle_176 : decode cX2_settle 176 = .ok (.iinc 9 1, 3) := by decide +kernel
theorem dX2_settle_179 : decode cX2_settle 179 = .ok (.goto (-51), 3) := by decide +kernel
theorem dX2_settle_182 : decode cX2_settle 182 = .ok (.iinc 8 1, 3) := by decide +kernel
theorem dX2_settle_185 : decode cX2_settle 185 = .ok (.goto (-66), 3) := by decide +kernel
theorem dX2_settle_188 : decode cX2_settle 188 = .ok (.return_, 1) := by decide +kernel
theorem dX2_isRest_0 : decode cX2_isRest 0 = .ok (.aload_n 0, 1) := by decide +kernel
theorem dX2_isRest_1 : decode cX2_isRest 1 = .ok (.iload_n 1, 1) := by decide +kernel
theorem dX2_isRest_2 : decode cX2_isRest 2 = .ok (.iload_n 2, 1) := by decide +kernel
theorem dX2_isRest_3 : decode cX2_isRest 3 = .ok (.iload_n 3, 1) := by decide +kernel
theorem dX2_isRest_4 : decode cX2_isRest 4 = .ok (.invokevirtual 45, 3) := by decide +kernel
theorem dX2_isRest_7 : decode cX2_isRest 7 = .ok (.istore 4, 2) := by decide +kernel
theorem dX2_isRest_9 : decode cX2_isRest 9 = .ok (.aload_n 0, 1) := by decide +kernel
theorem dX2_isRest_10 : decode cX2_isRest 10 = .ok (.iload_n 1, 1) := by decide +kernel
theorem dX2_isRest_11 : decode cX2_isRest 11 = .ok (.iload_n 2, 1) := by decide +kernel
theorem dX2_isRest_12 : decode cX2_isRest 12 = .ok (.iload_n 3, 1) := by decide +kernel
theorem dX2_isRest_13 : decode cX2_isRest 13 = .ok (.invokevirtual 49, 3) := by decide +kernel
theorem dX2_isRest_16 : decode cX2_isRest 16 = .ok (.istore 5, 2) := by decide +kernel
theorem dX2_isRest_18 : decode cX2_isRest 18 = .ok (.iconst 0, 1) := by decide +kernel
theorem dX2_isRest_19 : decode cX2_isRest 19 = .ok (.istore 6, 2) := by decide +kernel
theorem dX2_isRest_21 : decode cX2_isRest 21 = .ok (.iload 6, 2) := by decide +kernel
theorem dX2_isRest_23 : decode cX2_isRest 23 = .ok (.iconst 5, 1) := by decide +kernel
theorem dX2_isRest_24 : decode cX2_isRest 24 = .ok (.if_icmp .ge 37, 3) := by decide +kernel
theorem dX2_isRest_27 : decode cX2_isRest 27 = .ok (.aload_n 0, 1) := by decide +kernel
theorem dX2_isRest_28 : decode cX2_isRest 28 = .ok (.iload 6, 2) := by decide +kernel
theorem dX2_isRest_30 : decode cX2_isRest 30 = .ok (.iload_n 2, 1) := by decide +kernel
theorem dX2_isRest_31 : decode cX2_isRest 31 = .ok (.iload_n 3, 1) := by decide +kernel
theorem dX2_isRest_32 : decode cX2_isRest 32 = .ok (.invokevirtual 45, 3) := by decide +kernel
theorem dX2_isRest_35 : decode cX2_isRest 35 = .ok (.iload 4, 2) := by decide +kernel
theorem dX2_isRest_37 : decode cX2_isRest 37 = .ok (.if_icmp .gt 16, 3) := by decide +kernel
theorem dX2_isRest_40 : decode cX2_isRest 40 = .ok (.aload_n 0, 1) := by decide +kernel
theorem dX2_isRest_41 : decode cX2_isRest 41 = .ok (.iload_n 1, 1) := by decide +kernel
theorem dX2_isRest_42 : decode cX2_isRest 42 = .ok (.iload 6, 2) := by decide +kernel
theorem dX2_isRest_44 : decode cX2_isRest 44 = .ok (.iload_n 3, 1) := by decide +kernel
theorem dX2_isRest_45 : decode cX2_isRest 45 = .ok (.invokevirtual 49, 3) := by decide +kernel
theorem dX2_isRest_48 : decode cX2_isRest 48 = .ok (.iload 5, 2) := by decide +kernel
theorem dX2_isRest_50 : decode cX2_isRest 50 = .ok (.if_icmp .le 5, 3) := by decide +kernel
theorem dX2_isRest_53 : decode cX2_isRest 53 = .ok (.iconst 0, 1) := by decide +kernel
theorem dX2_isRest_54 : decode cX2_isRest 54 = .ok (.ireturn, 1) := by decide +kernel
theorem dX2_isRest_55 : decode cX2_isRest 55 = .ok (.iinc 6 1, 3) := by decide +kernel
theorem dX2_isRest_58 : decode cX2_isRest 58 = .ok (.goto (-37), 3) := by decide +kernel
theorem dX2_isRest_61 : decode cX2_isRest 61 = .ok (.iconst 1, 1) := by decide +kernel
theorem dX2_isRest_62 : decode cX2_isRest 62 = .ok (.ireturn, 1) := by decide +kernel
theorem dX2_firstHas_0 : decode cX2_firstHas 0 = .ok (.aload_n 0, 1) := by decide +kernel
theorem dX2_firstHas_1 : decode cX2_firstHas 1 = .ok (.getfield 11, 3) := by decide +kernel
theorem dX2_firstHas_4 : decode cX2_firstHas 4 = .ok (.iload_n 1, 1) := by decide +kernel
theorem dX2_firstHas_5 : decode cX2_firstHas 5 = .ok (.iconst 5, 1) := by decide +kernel
theorem dX2_firstHas_6 : decode cX2_firstHas 6 = .ok (.imul, 1) := by decide +kernel
theorem dX2_firstHas_7 : decode cX2_firstHas 7 = .ok (.iload_n 2, 1) := by decide +kernel
theorem dX2_firstHas_8 : decode cX2_firstHas 8 = .ok (.iadd, 1) := by decide +kernel
theorem dX2_firstHas_9 : decode cX2_firstHas 9 = .ok (.baload, 1) := by decide +kernel
theorem dX2_firstHas_10 : decode cX2_firstHas 10 = .ok (.ifCond .eq 8, 3) := by decide +kernel
theorem dX2_firstHas_13 : decode cX2_firstHas 13 = .ok (.bipush 20, 2) := by decide +kernel
theorem dX2_firstHas_15 : decode cX2_firstHas 15 = .ok (.goto 4, 3) := by decide +kernel
theorem dX2_firstHas_18 : decode cX2_firstHas 18 = .ok (.iconst 0, 1) := by decide +kernel
theorem dX2_firstHas_19 : decode cX2_firstHas 19 = .ok (.iload_n 3, 1) := by decide +kernel
theorem dX2_firstHas_20 : decode cX2_firstHas 20 = .ok (.iload_n 1, 1) := by decide +kernel
theorem dX2_firstHas_21 : decode cX2_firstHas 21 = .ok (.iconst 2, 1) := by decide +kernel
theorem dX2_firstHas_22 : decode cX2_firstHas 22 = .ok (.isub, 1) := by decide +kernel
theorem dX2_firstHas_23 : decode cX2_firstHas 23 = .ok (.invokestatic 52, 3) := by decide +kernel
theorem dX2_firstHas_26 : decode cX2_firstHas 26 = .ok (.imul, 1) := by decide +kernel
theorem dX2_firstHas_27 : decode cX2_firstHas 27 = .ok (.isub, 1) := by decide +kernel
theorem dX2_firstHas_28 : decode cX2_firstHas 28 = .ok (.ireturn, 1) := by decide +kernel
theorem dX2_secondHas_0 : decode cX2_secondHas 0 = .ok (.aload_n 0, 1) := by decide +kernel
theorem dX2_secondHas_1 : decode cX2_secondHas 1 = .ok (.getfield 11, 3) := by decide +kernel
theorem dX2_secondHas_4 : decode cX2_secondHas 4 = .ok (.iload_n 1, 1) := by decide +kernel
theorem dX2_secondHas_5 : decode cX2_secondHas 5 = .ok (.iconst 5, 1) := by decide +kernel
theorem dX2_secondHas_6 : decode cX2_secondHas 6 = .ok (.imul, 1) := by decide +kernel
theorem dX2_secondHas_7 : decode cX2_secondHas 7 = .ok (.iload_n 2, 1) := by decide +kernel
theorem dX2_secondHas_8 : decode cX2_secondHas 8 = .ok (.iadd, 1) := by decide +kernel
theorem dX2_secondHas_9 : decode cX2_secondHas 9 = .ok (.baload, 1) := by decide +kernel
theorem dX2_secondHas_10 : decode cX2_secondHas 10 = .ok (.ifCond .eq 7, 3) := by decide +kernel
theorem dX2_secondHas_13 : decode cX2_secondHas 13 = .ok (.iconst 0, 1) := by decide +kernel
theorem dX2_secondHas_14 : decode cX2_secondHas 14 = .ok (.goto 5, 3) := by decide +kernel
theorem dX2_secondHas_17 : decode cX2_secondHas 17 = .ok (.bipush 20, 2) := by decide +kernel
theorem dX2_secondHas_19 : decode cX2_secondHas 19 = .ok (.iload_n 3, 1) := by decide +kernel
theorem dX2_secondHas_20 : decode cX2_secondHas 20 = .ok (.iload_n 2, 1) := by decide +kernel
theorem dX2_secondHas_21 : decode cX2_secondHas 21 = .ok (.iconst 2, 1) := by decide +kernel
theorem dX2_secondHas_22 : decode cX2_secondHas 22 = .ok (.isub, 1) := by decide +kernel
theorem dX2_secondHas_23 : decode cX2_secondHas 23 = .ok (.invokestatic 52, 3) := by decide +kernel
theorem dX2_secondHas_26 : decode cX2_secondHas 26 = .ok (.imul, 1) := by decide +kernel
theorem dX2_secondHas_27 : decode cX2_secondHas 27 = .ok (.isub, 1) := by decide +kernel
theorem dX2_secondHas_28 : decode cX2_secondHas 28 = .ok (.ireturn, 1) := by decide +kernel
theorem dX3_clear_0 : decode cX3_clear 0 = .ok (.aload_n 0, 1) := by decide +kernel
theorem dX3_clear_1 : decode cX3_clear 1 = .ok (.getfield 9, 3) := by decide +kernel
theorem dX3_clear_4 : decode cX3_clear 4 = .ok (.iconst 0, 1) := by decide +kernel
theorem dX3_clear_5 : decode cX3_clear 5 = .ok (.invokestatic 31, 3) := by decide +kernel
theorem dX3_clear_8 : decode cX3_clear 8 = .ok (.aload_n 0, 1) := by decide +kernel
theorem dX3_clear_9 : decode cX3_clear 9 = .ok (.getfield 15, 3) := by decide +kernel
theorem dX3_clear_12 : decode cX3_clear 12 = .ok (.iconst 0, 1) := by decide +kernel
theorem dX3_clear_13 : decode cX3_clear 13 = .ok (.invokestatic 31, 3) := by decide +kernel
theorem dX3_clear_16 : decode cX3_clear 16 = .ok (.aload_n 0, 1) := by decide +kernel
theorem dX3_clear_17 : decode cX3_clear 17 = .ok (.iconst 0, 1) := by decide +kernel
theorem dX3_clear_18 : decode cX3_clear 18 = .ok (.putfield 37, 3) := by decide +kernel
theorem dX3_clear_21 : decode cX3_clear 21 = .ok (.aload_n 0, 1) := by decide +kernel
theorem dX3_clear_22 : decode cX3_clear 22 = .ok (.iconst 0, 1) := by decide +kernel
theorem dX3_clear_23 : decode cX3_clear 23 = .ok (.putfield 41, 3) := by decide +kernel
theorem dX3_clear_26 : decode cX3_clear 26 = .ok (.return_, 1) := by decide +kernel
theorem dX3_has_0 : decode cX3_has 0 = .ok (.iload_n 1, 1) := by decide +kernel
theorem dX3_has_1 : decode cX3_has 1 = .ok (.ifCond .lt 27, 3) := by decide +kernel
theorem dX3_has_4 : decode cX3_has 4 = .ok (.iload_n 1, 1) := by decide +kernel
theorem dX3_has_5 : decode cX3_has 5 = .ok (.iconst 3, 1) := by decide +kernel
theorem dX3_has_6 : decode cX3_has 6 = .ok (.if_icmp .ge 22, 3) := by decide +kernel
theorem dX3_has_9 : decode cX3_has 9 = .ok (.aload_n 0, 1) := by decide +kernel
theorem dX3_has_10 : decode cX3_has 10 = .ok (.getfield 9, 3) := by decide +kernel
theorem dX3_has_13 : decode cX3_has 13 = .ok (.iload_n 1, 1) := by decide +kernel
theorem dX3_has_14 : decode cX3_has 14 = .ok (.iaload, 1) := by decide +kernel
theorem dX3_has_15 : decode cX3_has 15 = .ok (.aload_n 0, 1) := by decide +kernel
theorem dX3_has_16 : decode cX3_has 16 = .ok (.getfield 15, 3) := by decide +kernel
theorem dX3_has_19 : decode cX3_has 19 = .ok (.iload_n 1, 1) := by decide +kernel
theorem dX3_has_20 : decode cX3_has 20 = .ok (.iaload, 1) := by decide +kernel
theorem dX3_has_21 : decode cX3_has 21 = .ok (.if_icmp .ge 7, 3) := by decide +kernel
theorem dX3_has_24 : decode cX3_has 24 = .ok (.iconst 1, 1) := by decide +kernel
theorem dX3_has_25 : decode cX3_has 25 = .ok (.goto 4, 3) := by decide +kernel
theorem dX3_has_28 : decode cX3_has 28 = .ok (.iconst 0, 1) := by decide +kernel
theorem dX3_has_29 : decode cX3_has 29 = .ok (.ireturn, 1) := by decide +kernel
theorem dX3_begin_0 : decode cX3_begin 0 = .ok (.iload_n 1, 1) := by decide +kernel
theorem dX3_begin_1 : decode cX3_begin 1 = .ok (.ifCond .lt 18, 3) := by decide +kernel
theorem dX3_begin_4 : decode cX3_begin 4 = .ok (.iload_n 1, 1) := by decide +kernel
theorem dX3_begin_5 : decode cX3_begin 5 = .ok (.iconst 3, 1) := by decide +kernel
theorem dX3_begin_6 : decode cX3_begin 6 = .ok (.if_icmp .ge 13, 3) := by decide +kernel
theorem dX3_begin_9 : decode cX3_begin 9 = .ok (.aload_n 0, 1) := by decide +kernel
theorem dX3_begin_10 : decode cX3_begin 10 = .ok (.getfield 9, 3) := by decide +kernel
theorem dX3_begin_13 : decode cX3_begin 13 = .ok (.iload_n 1, 1) := by decide +kernel
theorem dX3_begin_14 : decode cX3_begin 14 = .ok (.aload_n 0, 1) := by decide +kernel
theorem dX3_begin_15 : decode cX3_begin 15 = .ok (.getfield 37, 3) := by decide +kernel
theorem dX3_begin_18 : decode cX3_begin 18 = .ok (.iastore, 1) := by decide +kernel
theorem dX3_begin_19 : decode cX3_begin 19 = .ok (.return_, 1) := by decide +kernel
theorem dX3_finish_0 : decode cX3_finish 0 = .ok (.iload_n 1, 1) := by decide +kernel
theorem dX3_finish_1 : decode cX3_finish 1 = .ok (.ifCond .lt 18, 3) := by decide +kernel
theorem dX3_finish_4 : decode cX3_finish 4 = .ok (.iload_n 1, 1) := by decide +kernel
theorem dX3_finish_5 : decode cX3_finish 5 = .ok (.iconst 3, 1) := by decide +kernel
theorem dX3_finish_6 : decode cX3_finish 6 = .ok (.if_icmp .ge 13, 3) := by decide +kernel
theorem dX3_finish_9 : decode cX3_finish 9 = .ok (.aload_n 0, 1) := by decide +kernel
theorem dX3_finish_10 : decode cX3_finish 10 = .ok (.getfield 15, 3) := by decide +kernel
theorem dX3_finish_13 : decode cX3_finish 13 = .ok (.iload_n 1, 1) := by decide +kernel
theorem dX3_finish_14 : decode cX3_finish 14 = .ok (.aload_n 0, 1) := by decide +kernel
theorem dX3_finish_15 : decode cX3_finish 15 = .ok (.getfield 37, 3) := by decide +kernel
theorem dX3_finish_18 : decode cX3_finish 18 = .ok (.iastore, 1) := by decide +kernel
theorem dX3_finish_19 : decode cX3_finish 19 = .ok (.return_, 1) := by decide +kernel
theorem dX3_add_0 : decode cX3_add 0 = .ok (.aload_n 0, 1) := by decide +kernel
theorem dX3_add_1 : decode cX3_add 1 = .ok (.getfield 37, 3) := by decide +kernel
theorem dX3_add_4 : decode cX3_add 4 = .ok (.bipush 64, 2) := by decide +kernel
theorem dX3_add_6 : decode cX3_add 6 = .ok (.if_icmp .ge 33, 3) := by decide +kernel
theorem dX3_add_9 : decode cX3_add 9 = .ok (.aload_n 0, 1) := by decide +kernel
theorem dX3_add_10 : decode cX3_add 10 = .ok (.getfield 18, 3) := by decide +kernel
theorem dX3_add_13 : decode cX3_add 13 = .ok (.aload_n 0, 1) := by decide +kernel
theorem dX3_add_14 : decode cX3_add 14 = .ok (.getfield 37, 3) := by decide +kernel
theorem dX3_add_17 : decode cX3_add 17 = .ok (.iload_n 1, 1) := by decide +kernel
theorem dX3_add_18 : decode cX3_add 18 = .ok (.iastore, 1) := by decide +kernel
theorem dX3_add_19 : decode cX3_add 19 = .ok (.aload_n 0, 1) := by decide +kernel
theorem dX3_add_20 : decode cX3_add 20 = .ok (.getfield 21, 3) := by decide +kernel
theorem dX3_add_23 : decode cX3_add 23 = .ok (.aload_n 0, 1) := by decide +kernel
theorem dX3_add_24 : decode cX3_add 24 = .ok (.getfield 37, 3) := by decide +kernel
theorem dX3_add_27 : decode cX3_add 27 = .ok (.iload_n 2, 1) := by decide +kernel
theorem dX3_add_28 : decode cX3_add 28 = .ok (.iastore, 1) := by decide +kernel
theorem dX3_add_29 : decode cX3_add 29 = .ok (.aload_n 0, 1) := by decide +kernel
theorem dX3_add_30 : decode cX3_add 30 = .ok (.dup, 1) := by decide +kernel
theorem dX3_add_31 : decode cX3_add 31 = .ok (.getfield 37, 3) := by decide +kernel
theorem dX3_add_34 : decode cX3_add 34 = .ok (.iconst 1, 1) := by decide +kernel
theorem dX3_add_35 : decode cX3_add 35 = .ok (.iadd, 1) := by decide +kernel
theorem dX3_add_36 : decode cX3_add 36 = .ok (.putfield 37, 3) := by decide +kernel
theorem dX3_add_39 : decode cX3_add 39 = .ok (.return_, 1) := by decide +kernel
theorem dX3_name_0 : decode cX3_name 0 = .ok (.aload_n 0, 1) := by decide +kernel
theorem dX3_name_1 : decode cX3_name 1 = .ok (.getfield 24, 3) := by decide +kernel
theorem dX3_name_4 : decode cX3_name 4 = .ok (.iconst 0, 1) := by decide +kernel
theorem dX3_name_5 : decode cX3_name 5 = .ok (.iload_n 1, 1) := by decide +kernel
theorem dX3_name_6 : decode cX3_name 6 = .ok (.iastore, 1) := by decide +kernel
theorem dX3_name_7 : decode cX3_name 7 = .ok (.aload_n 0, 1) := by decide +kernel
theorem dX3_name_8 : decode cX3_name 8 = .ok (.getfield 24, 3) := by decide +kernel
theorem dX3_name_11 : decode cX3_name 11 = .ok (.iconst 1, 1) := by decide +kernel
theorem dX3_name_12 : decode cX3_name 12 = .ok (.iload_n 2, 1) := by decide +kernel
theorem dX3_name_13 : decode cX3_name 13 = .ok (.iastore, 1) := by decide +kernel
theorem dX3_name_14 : decode cX3_name 14 = .ok (.aload_n 0, 1) := by decide +kernel
theorem dX3_name_15 : decode cX3_name 15 = .ok (.getfield 24, 3) := by decide +kernel
theorem dX3_name_18 : decode cX3_name 18 = .ok (.iconst 2, 1) := by decide +kernel
theorem dX3_name_19 : decode cX3_name 19 = .ok (.iload_n 3, 1) := by decide +kernel
theorem dX3_name_20 : decode cX3_name 20 = .ok (.iastore, 1) := by decide +kernel
theorem dX3_name_21 : decode cX3_name 21 = .ok (.aload_n 0, 1) := by decide +kernel
theorem dX3_name_22 : decode cX3_name 22 = .ok (.getfield 24, 3) := by decide +kernel
theorem dX3_name_25 : decode cX3_name 25 = .ok (.iconst 3, 1) := by decide +kernel
theorem dX3_name_26 : decode cX3_name 26 = .ok (.iload 4, 2) := by decide +kernel
theorem dX3_name_28 : decode cX3_name 28 = .ok (.iastore, 1) := by decide +kernel
theorem dX3_name_29 : decode cX3_name 29 = .ok (.aload_n 0, 1) := by decide +kernel
theorem dX3_name_30 : decode cX3_name 30 = .ok (.getfield 24, 3) := by decide +kernel
theorem dX3_name_33 : decode cX3_name 33 = .ok (.iconst 4, 1) := by decide +kernel
theorem dX3_name_34 : decode cX3_name 34 = .ok (.iload 5, 2) := by decide +kernel
theorem dX3_name_36 : decode cX3_name 36 = .ok (.iastore, 1) := by decide +kernel
theorem dX3_name_37 : decode cX3_name 37 = .ok (.aload_n 0, 1) := by decide +kernel
theorem dX3_name_38 : decode cX3_name 38 = .ok (.getfield 24, 3) := by decide +kernel
theorem dX3_name_41 : decode cX3_name 41 = .ok (.iconst 5, 1) := by decide +kernel
theorem dX3_name_42 : decode cX3_name 42 = .ok (.iload 6, 2) := by decide +kernel
theorem dX3_name_44 : decode cX3_name 44 = .ok (.iastore, 1) := by decide +kernel
theorem dX3_name_45 : decode cX3_name 45 = .ok (.aload_n 0, 1) := by decide +kernel
theorem dX3_name_46 : decode cX3_name 46 = .ok (.getfield 24, 3) := by decide +kernel
theorem dX3_name_49 : decode cX3_name 49 = .ok (.bipush 6, 2) := by decide +kernel
theorem dX3_name_51 : decode cX3_name 51 = .ok (.iload 7, 2) := by decide +kernel
theorem dX3_name_53 : decode cX3_name 53 = .ok (.iastore, 1) := by decide +kernel
theorem dX3_name_54 : decode cX3_name 54 = .ok (.return_, 1) := by decide +kernel
theorem dX3_valueOf_0 : decode cX3_valueOf 0 = .ok (.aload_n 0, 1) := by decide +kernel
theorem dX3_valueOf_1 : decode cX3_valueOf 1 = .ok (.iload_n 1, 1) := by decide +kernel
theorem dX3_valueOf_2 : decode cX3_valueOf 2 = .ok (.invokevirtual 44, 3) := by decide +kernel
theorem dX3_valueOf_5 : decode cX3_valueOf 5 = .ok (.ifCond .ne 7, 3) := by decide +kernel
theorem dX3_valueOf_8 : decode cX3_valueOf 8 = .ok (.ldc2_w 48, 3) := by decide +kernel
theorem dX3_valueOf_11 : decode cX3_valueOf 11 = .ok (.lreturn, 1) := by decide +kernel
theorem dX3_valueOf_12 : decode cX3_valueOf 12 = .ok (.iconst 0, 1) := by decide +kernel
theorem dX3_valueOf_13 : decode cX3_valueOf 13 = .ok (.istore_n 2, 1) := by decide +kernel
theorem dX3_valueOf_14 : decode cX3_valueOf 14 = .ok (.aload_n 0, 1) := by decide +kernel
theorem dX3_valueOf_15 : decode cX3_valueOf 15 = .ok (.getfield 9, 3) := by decide +kernel
theorem dX3_valueOf_18 : decode cX3_valueOf 18 = .ok (.iload_n 1, 1) := by decide +kernel
theorem dX3_valueOf_19 : decode cX3_valueOf 19 = .ok (.iaload, 1) := by decide +kernel
theorem dX3_valueOf_20 : decode cX3_valueOf 20 = .ok (.istore_n 3, 1) := by decide +kernel
theorem dX3_valueOf_21 : decode cX3_valueOf 21 = .ok (.iload_n 3, 1) := by decide +kernel
theorem dX3_valueOf_22 : decode cX3_valueOf 22 = .ok (.aload_n 0, 1) := by decide +kernel
theorem dX3_valueOf_23 : decode cX3_valueOf 23 = .ok (.getfield 15, 3) := by decide +kernel
theorem dX3_valueOf_26 : decode cX3_valueOf 26 = .ok (.iload_n 1, 1) := by decide +kernel
theorem dX3_valueOf_27 : decode cX3_valueOf 27 = .ok (.iaload, 1) := by decide +kernel
theorem dX3_valueOf_28 : decode cX3_valueOf 28 = .ok (.if_icmp .ge 192, 3) := by decide +kernel
theorem dX3_valueOf_31 : decode cX3_valueOf 31 = .ok (.aload_n 0, 1) := by decide +kernel
theorem dX3_valueOf_32 : decode cX3_valueOf 32 = .ok (.getfield 18, 3) := by decide +kernel
theorem dX3_valueOf_35 : decode cX3_valueOf 35 = .ok (.iload_n 3, 1) := by decide +kernel
theorem dX3_valueOf_36 : decode cX3_valueOf 36 = .ok (.iaload, 1) := by decide +kernel
theorem dX3_valueOf_37 : decode cX3_valueOf 37 = .ok (.istore 4, 2) := by decide +kernel
theorem dX3_valueOf_39 : decode cX3_valueOf 39 = .ok (.iload 4, 2) := by decide +kernel
theorem dX3_valueOf_41 : decode cX3_valueOf 41 = .ok (.iconst 2, 1) := by decide +kernel
theorem dX3_valueOf_42 : decode cX3_valueOf 42 = .ok (.if_icmp .eq 10, 3) := by decide +kernel
theorem dX3_valueOf_45 : decode cX3_valueOf 45 = .ok (.iload 4, 2) := by decide +kernel
theorem dX3_valueOf_47 : decode cX3_valueOf 47 = .ok (.bipush 32, 2) := by decide +kernel
theorem dX3_valueOf_49 : decode cX3_valueOf 49 = .ok (.if_icmp .lt 55, 3) := by decide +kernel
theorem dX3_valueOf_52 : decode cX3_valueOf 52 = .ok (.iload_n 2, 1) := by decide +kernel
theorem dX3_valueOf_53 : decode cX3_valueOf 53 = .ok (.bipush 64, 2) := by decide +kernel
theorem dX3_valueOf_55 : decode cX3_valueOf 55 = .ok (.if_icmp .lt 7, 3) := by decide +kernel
theorem dX3_valueOf_58 : decode cX3_valueOf 58 = .ok (.ldc2_w 48, 3) := by decide +kernel
theorem dX3_valueOf_61 : decode cX3_valueOf 61 = .ok (.lreturn, 1) := by decide +kernel
theorem dX3_valueOf_62 : decode cX3_valueOf 62 = .ok (.aload_n 0, 1) := by decide +kernel
theorem dX3_valueOf_63 : decode cX3_valueOf 63 = .ok (.getfield 27, 3) := by decide +kernel
theorem dX3_valueOf_66 : decode cX3_valueOf 66 = .ok (.iload_n 2, 1) := by decide +kernel
theorem dX3_valueOf_67 : decode cX3_valueOf 67 = .ok (.iload 4, 2) := by decide +kernel
theorem dX3_valueOf_69 : decode cX3_valueOf 69 = .ok (.iconst 2, 1) := by decide +kernel
theorem dX3_valueOf_70 : decode cX3_valueOf 70 = .ok (.if_icmp .ne 13, 3) := by decide +kernel
theorem dX3_valueOf_73 : decode cX3_valueOf 73 = .ok (.aload_n 0, 1) := by decide +kernel
theorem dX3_valueOf_74 : decode cX3_valueOf 74 = .ok (.getfield 21, 3) := by decide +kernel
theorem dX3_valueOf_77 : decode cX3_valueOf 77 = .ok (.iload_n 3, 1) := by decide +kernel
theorem dX3_valueOf_78 : decode cX3_valueOf 78 = .ok (.iaload, 1) := by decide +kernel
theorem dX3_valueOf_79 : decode cX3_valueOf 79 = .ok (.i2l, 1) := by decide +kernel
theorem dX3_valueOf_80 : decode cX3_valueOf 80 = .ok (.goto 17, 3) := by decide +kernel
theorem dX3_valueOf_83 : decode cX3_valueOf 83 = .ok (.aload_n 0, 1) := by decide +kernel
theorem dX3_valueOf_84 : decode cX3_valueOf 84 = .ok (.getfield 24, 3) := by decide +kernel
theorem dX3_valueOf_87 : decode cX3_valueOf 87 = .ok (.iload 4, 2) := by decide +kernel
theorem dX3_valueOf_89 : decode cX3_valueOf 89 = .ok (.bipush 32, 2) := by decide +kernel
theorem dX3_valueOf_91 : decode cX3_valueOf 91 = .ok (.isub, 1) := by decide +kernel
theorem dX3_valueOf_92 : decode cX3_valueOf 92 = .ok (.bipush 7, 2) := by decide +kernel
theorem dX3_valueOf_94 : decode cX3_valueOf 94 = .ok (.irem, 1) := by decide +kernel
theorem dX3_valueOf_95 : decode cX3_valueOf 95 = .ok (.iaload, 1) := by decide +kernel
theorem dX3_valueOf_96 : decode cX3_valueOf 96 = .ok (.i2l, 1) := by decide +kernel
theorem dX3_valueOf_97 : decode cX3_valueOf 97 = .ok (.lastore, 1) := by decide +kernel
theorem dX3_valueOf_98 : decode cX3_valueOf 98 = .ok (.iinc 2 1, 3) := by decide +kernel
theorem dX3_valueOf_101 : decode cX3_valueOf 101 = .ok (.goto 113, 3) := by decide +kernel
theorem dX3_valueOf_104 : decode cX3_valueOf 104 = .ok (.iload 4, 2) := by decide +kernel
theorem dX3_valueOf_106 : decode cX3_valueOf 106 = .ok (.bipush 31, 2) := by decide +kernel
theorem dX3_valueOf_108 : decode cX3_valueOf 108 = .ok (.if_icmp .ne 41, 3) := by decide +kernel
theorem dX3_valueOf_111 : decode cX3_valueOf 111 = .ok (.iload_n 2, 1) := by decide +kernel
theorem dX3_valueOf_112 : decode cX3_valueOf 112 = .ok (.iconst 1, 1) := by decide +kernel
theorem dX3_valueOf_113 : decode cX3_valueOf 113 = .ok (.if_icmp .ge 7, 3) := by decide +kernel
theorem dX3_valueOf_116 : decode cX3_valueOf 116 = .ok (.ldc2_w 48, 3) := by decide +kernel
theorem dX3_valueOf_119 : decode cX3_valueOf 119 = .ok (.lreturn, 1) := by decide +kernel
theorem dX3_valueOf_120 : decode cX3_valueOf 120 = .ok (.aload_n 0, 1) := by decide +kernel
theorem dX3_valueOf_121 : decode cX3_valueOf 121 = .ok (.getfield 27, 3) := by decide +kernel
theorem dX3_valueOf_124 : decode cX3_valueOf 124 = .ok (.iload_n 2, 1) := by decide +kernel
theorem dX3_valueOf_125 : decode cX3_valueOf 125 = .ok (.iconst 1, 1) := by decide +kernel
theorem dX3_valueOf_126 : decode cX3_valueOf 126 = .ok (.isub, 1) := by decide +kernel
theorem dX3_valueOf_127 : decode cX3_valueOf 127 = .ok (.aload_n 0, 1) := by decide +kernel
theorem dX3_valueOf_128 : decode cX3_valueOf 128 = .ok (.getfield 27, 3) := by decide +kernel
theorem dX3_valueOf_131 : decode cX3_valueOf 131 = .ok (.iload_n 2, 1) := by decide +kernel
theorem dX3_valueOf_132 : decode cX3_valueOf 132 = .ok (.iconst 1, 1) := by decide +kernel
theorem dX3_valueOf_133 : decode cX3_valueOf 133 = .ok (.isub, 1) := by decide +kernel
theorem dX3_valueOf_134 : decode cX3_valueOf 134 = .ok (.laload, 1) := by decide +kernel
theorem dX3_valueOf_135 : decode cX3_valueOf 135 = .ok (.lconst 0, 1) := by decide +kernel
theorem dX3_valueOf_136 : decode cX3_valueOf 136 = .ok (.lcmp, 1) := by decide +kernel
theorem dX3_valueOf_137 : decode cX3_valueOf 137 = .ok (.ifCond .ne 7, 3) := by decide +kernel
theorem dX3_valueOf_140 : decode cX3_valueOf 140 = .ok (.lconst 1, 1) := by decide +kernel
theorem dX3_valueOf_141 : decode cX3_valueOf 141 = .ok (.goto 4, 3) := by decide +kernel
theorem dX3_valueOf_144 : decode cX3_valueOf 144 = .ok (.lconst 0, 1) := by decide +kernel
theorem dX3_valueOf_145 : decode cX3_valueOf 145 = .ok (.lastore, 1) := by decide +kernel
theorem dX3_valueOf_146 : decode cX3_valueOf 146 = .ok (.goto 68, 3) := by decide +kernel
theorem dX3_valueOf_149 : decode cX3_valueOf 149 = .ok (.iload_n 2, 1) := by decide +kernel
theorem dX3_valueOf_150 : decode cX3_valueOf 150 = .ok (.iconst 2, 1) := by decide +kernel
theorem dX3_valueOf_151 : decode cX3_valueOf 151 = .ok (.if_icmp .ge 7, 3) := by decide +kernel
theorem dX3_valueOf_154 : decode cX3_valueOf 154 = .ok (.ldc2_w 48, 3) := by decide +kernel
theorem dX3_valueOf_157 : decode cX3_valueOf 157 = .ok (.lreturn, 1) := by decide +kernel
theorem dX3_valueOf_158 : decode cX3_valueOf 158 = .ok (.iinc 2 (-1), 3) := by decide +kernel
theorem dX3_valueOf_161 : decode cX3_valueOf 161 = .ok (.iload 4, 2) := by decide +kernel
theorem dX3_valueOf_163 : decode cX3_valueOf 163 = .ok (.aload_n 0, 1) := by decide +kernel
theorem dX3_valueOf_164 : decode cX3_valueOf 164 = .ok (.getfield 27, 3) := by decide +kernel
theorem dX3_valueOf_167 : decode cX3_valueOf 167 = .ok (.iload_n 2, 1) := by decide +kernel
theorem dX3_valueOf_168 : decode cX3_valueOf 168 = .ok (.iconst 1, 1) := by decide +kernel
theorem dX3_valueOf_169 : decode cX3_valueOf 169 = .ok (.isub, 1) := by decide +kernel
theorem dX3_valueOf_170 : decode cX3_valueOf 170 = .ok (.laload, 1) := by decide +kernel
theorem dX3_valueOf_171 : decode cX3_valueOf 171 = .ok (.aload_n 0, 1) := by decide +kernel
theorem dX3_valueOf_172 : decode cX3_valueOf 172 = .ok (.getfield 27, 3) := by decide +kernel
theorem dX3_valueOf_175 : decode cX3_valueOf 175 = .ok (.iload_n 2, 1) := by decide +kernel
theorem dX3_valueOf_176 : decode cX3_valueOf 176 = .ok (.laload, 1) := by decide +kernel
theorem dX3_valueOf_177 : decode cX3_valueOf 177 = .ok (.invokestatic 50, 3) := by decide +kernel
theorem dX3_valueOf_180 : decode cX3_valueOf 180 = .ok (.lstore 5, 2) := by decide +kernel
theorem dX3_valueOf_182 : decode cX3_valueOf 182 = .ok (.lload 5, 2) := by decide +kernel
theorem dX3_valueOf_184 : decode cX3_valueOf 184 = .ok (.ldc2_w 54, 3) := by decide +kernel
theorem dX3_valueOf_187 : decode cX3_valueOf 187 = .ok (.lcmp, 1) := by decide +kernel
theorem dX3_valueOf_188 : decode cX3_valueOf 188 = .ok (.ifCond .gt 12, 3) := by decide +kernel
theorem dX3_valueOf_191 : decode cX3_valueOf 191 = .ok (.lload 5, 2) := by decide +kernel
theorem dX3_valueOf_193 : decode cX3_valueOf 193 = .ok (.ldc2_w 56, 3) := by decide +kernel
theorem dX3_valueOf_196 : decode cX3_valueOf 196 = .ok (.lcmp, 1) := by decide +kernel
theorem dX3_valueOf_197 : decode cX3_valueOf 197 = .ok (.ifCond .ge 7, 3) := by decide +kernel
theorem dX3_valueOf_200 : decode cX3_valueOf 200 = .ok (.ldc2_w 48, 3) := by decide +kernel
theorem dX3_valueOf_203 : decode cX3_valueOf 203 = .ok (.lreturn, 1) := by decide +kernel
theorem dX3_valueOf_204 : decode cX3_valueOf 204 = .ok (.aload_n 0, 1) := by decide +kernel
theorem dX3_valueOf_205 : decode cX3_valueOf 205 = .ok (.getfield 27, 3) := by decide +kernel
theorem dX3_valueOf_208 : decode cX3_valueOf 208 = .ok (.iload_n 2, 1) := by decide +kernel
theorem dX3_valueOf_209 : decode cX3_valueOf 209 = .ok (.iconst 1, 1) := by decide +kernel
theorem dX3_valueOf_210 : decode cX3_valueOf 210 = .ok (.isub, 1) := by decide +kernel
theorem dX3_valueOf_211 : decode cX3_valueOf 211 = .ok (.lload 5, 2) := by decide +kernel
theorem dX3_valueOf_213 : decode cX3_valueOf 213 = .ok (.lastore, 1) := by decide +kernel
theorem dX3_valueOf_214 : decode cX3_valueOf 214 = .ok (.iinc 3 1, 3) := by decide +kernel
theorem dX3_valueOf_217 : decode cX3_valueOf 217 = .ok (.goto (-196), 3) := by decide +kernel
theorem dX3_valueOf_220 : decode cX3_valueOf 220 = .ok (.iload_n 2, 1) := by decide +kernel
theorem dX3_valueOf_221 : decode cX3_valueOf 221 = .ok (.iconst 1, 1) := by decide +kernel
theorem dX3_valueOf_222 : decode cX3_valueOf 222 = .ok (.if_icmp .ne 12, 3) := by decide +kernel
theorem dX3_valueOf_225 : decode cX3_valueOf 225 = .ok (.aload_n 0, 1) := by decide +kernel
theorem dX3_valueOf_226 : decode cX3_valueOf 226 = .ok (.getfield 27, 3) := by decide +kernel
theorem dX3_valueOf_229 : decode cX3_valueOf 229 = .ok (.iconst 0, 1) := by decide +kernel
theorem dX3_valueOf_230 : decode cX3_valueOf 230 = .ok (.laload, 1) := by decide +kernel
theorem dX3_valueOf_231 : decode cX3_valueOf 231 = .ok (.goto 6, 3) := by decide +kernel
theorem dX3_valueOf_234 : decode cX3_valueOf 234 = .ok (.ldc2_w 48, 3) := by decide +kernel
theorem dX3_valueOf_237 : decode cX3_valueOf 237 = .ok (.lreturn, 1) := by decide +kernel
theorem dX3_joined_0 : decode cX3_joined 0 = .ok (.iload_n 0, 1) := by decide +kernel
theorem dX3_joined_1 : decode cX3_joined 1 = .ok (.tableswitch 269 7 30 #[161, 173, 185, 197, 209, 221, 111, 115, 119, 145, 269, 269, 269, 269, 269, 269, 269, 269, 269, 269, 269, 269, 251, 233], 111) := by decide +kernel
theorem dX3_joined_112 : decode cX3_joined 112 = .ok (.lload_n 1, 1) := by decide +kernel
theorem dX3_joined_113 : decode cX3_joined 113 = .ok (.lload_n 3, 1) := by decide +kernel
theorem dX3_joined_114 : decode cX3_joined 114 = .ok (.ladd, 1) := by decide +kernel
theorem dX3_joined_115 : decode cX3_joined 115 = .ok (.lreturn, 1) := by decide +kernel
theorem dX3_joined_116 : decode cX3_joined 116 = .ok (.lload_n 1, 1) := by decide +kernel
theorem dX3_joined_117 : decode cX3_joined 117 = .ok (.lload_n 3, 1) := by decide +kernel
theorem dX3_joined_118 : decode cX3_joined 118 = .ok (.lsub, 1) := by decide +kernel
theorem dX3_joined_119 : decode cX3_joined 119 = .ok (.lreturn, 1) := by decide +kernel
theorem dX3_joined_120 : decode cX3_joined 120 = .ok (.lload_n 1, 1) := by decide +kernel
theorem dX3_joined_121 : decode cX3_joined 121 = .ok (.lconst 0, 1) := by decide +kernel
theorem dX3_joined_122 : decode cX3_joined 122 = .ok (.lcmp, 1) := by decide +kernel
theorem dX3_joined_123 : decode cX3_joined 123 = .ok (.ifCond .eq 19, 3) := by decide +kernel
theorem dX3_joined_126 : decode cX3_joined 126 = .ok (.lload_n 1, 1) := by decide +kernel
theorem dX3_joined_127 : decode cX3_joined 127 = .ok (.lload_n 3, 1) := by decide +kernel
theorem dX3_joined_128 : decode cX3_joined 128 = .ok (.lmul, 1) := by decide +kernel
theorem dX3_joined_129 : decode cX3_joined 129 = .ok (.lload_n 1, 1) := by decide +kernel
theorem dX3_joined_130 : decode cX3_joined 130 = .ok (.ldiv, 1) := by decide +kernel
theorem dX3_joined_131 : decode cX3_joined 131 = .ok (.lload_n 3, 1) := by decide +kernel
theorem dX3_joined_132 : decode cX3_joined 132 = .ok (.lcmp, 1) := by decide +kernel
theorem dX3_joined_133 : decode cX3_joined 133 = .ok (.ifCond .eq 9, 3) := by decide +kernel
theorem dX3_joined_136 : decode cX3_joined 136 = .ok (.ldc2_w 48, 3) := by decide +kernel
theorem dX3_joined_139 : decode cX3_joined 139 = .ok (.goto 6, 3) := by decide +kernel
theorem dX3_joined_142 : decode cX3_joined 142 = .ok (.lload_n 1, 1) := by decide +kernel
theorem dX3_joined_143 : decode cX3_joined 143 = .ok (.lload_n 3, 1) := by decide +kernel
theorem dX3_joined_144 : decode cX3_joined 144 = .ok (.lmul, 1) := by decide +kernel
theorem dX3_joined_145 : decode cX3_joined 145 = .ok (.lreturn, 1) := by decide +kernel
theorem dX3_joined_146 : decode cX3_joined 146 = .ok (.lload_n 3, 1) := by decide +kernel
theorem dX3_joined_147 : decode cX3_joined 147 = .ok (.lconst 0, 1) := by decide +kernel
theorem dX3_joined_148 : decode cX3_joined 148 = .ok (.lcmp, 1) := by decide +kernel
theorem dX3_joined_149 : decode cX3_joined 149 = .ok (.ifCond .ne 9, 3) := by decide +kernel
theorem dX3_joined_152 : decode cX3_joined 152 = .ok (.ldc2_w 48, 3) := by decide +kernel
theorem dX3_joined_155 : decode cX3_joined 155 = .ok (.goto 6, 3) := by decide +kernel
theorem dX3_joined_158 : decode cX3_joined 158 = .ok (.lload_n 1, 1) := by decide +kernel
theorem dX3_joined_159 : decode cX3_joined 159 = .ok (.lload_n 3, 1) := by decide +kernel
theorem dX3_joined_160 : decode cX3_joined 160 = .ok (.ldiv, 1) := by decide +kernel
theorem dX3_joined_161 : decode cX3_joined 161 = .ok (.lreturn, 1) := by decide +kernel
theorem dX3_joined_162 : decode cX3_joined 162 = .ok (.lload_n 1, 1) := by decide +kernel
theorem dX3_joined_163 : decode cX3_joined 163 = .ok (.lload_n 3, 1) := by decide +kernel
theorem dX3_joined_164 : decode cX3_joined 164 = .ok (.lcmp, 1) := by decide +kernel
theorem dX3_joined_165 : decode cX3_joined 165 = .ok (.ifCond .ge 7, 3) := by decide +kernel
theorem dX3_joined_168 : decode cX3_joined 168 = .ok (.lconst 1, 1) := by decide +kernel
theorem dX3_joined_169 : decode cX3_joined 169 = .ok (.goto 4, 3) := by decide +kernel
theorem dX3_joined_172 : decode cX3_joined 172 = .ok (.lconst 0, 1) := by decide +kernel
theorem dX3_joined_173 : decode cX3_joined 173 = .ok (.lreturn, 1) := by decide +kernel
theorem dX3_joined_174 : decode cX3_joined 174 = .ok (.lload_n 1, 1) := by decide +kernel
theorem dX3_joined_175 : decode cX3_joined 175 = .ok (.lload_n 3, 1) := by decide +kernel
theorem dX3_joined_176 : decode cX3_joined 176 = .ok (.lcmp, 1) := by decide +kernel
theorem dX3_joined_177 : decode cX3_joined 177 = .ok (.ifCond .gt 7, 3) := by decide +kernel
theorem dX3_joined_180 : decode cX3_joined 180 = .ok (.lconst 1, 1) := by decide +kernel
theorem dX3_joined_181 : decode cX3_joined 181 = .ok (.goto 4, 3) := by decide +kernel
theorem dX3_joined_184 : decode cX3_joined 184 = .ok (.lconst 0, 1) := by decide +kernel
theorem dX3_joined_185 : decode cX3_joined 185 = .ok (.lreturn, 1) := by decide +kernel
theorem dX3_joined_186 : decode cX3_joined 186 = .ok (.lload_n 1, 1) := by decide +kernel
theorem dX3_joined_187 : decode cX3_joined 187 = .ok (.lload_n 3, 1) := by decide +kernel
theorem dX3_joined_188 : decode cX3_joined 188 = .ok (.lcmp, 1) := by decide +kernel
theorem dX3_joined_189 : decode cX3_joined 189 = .ok (.ifCond .ne 7, 3) := by decide +kernel
theorem dX3_joined_192 : decode cX3_joined 192 = .ok (.lconst 1, 1) := by decide +kernel
theorem dX3_joined_193 : decode cX3_joined 193 = .ok (.goto 4, 3) := by decide +kernel
theorem dX3_joined_196 : decode cX3_joined 196 = .ok (.lconst 0, 1) := by decide +kernel
theorem dX3_joined_197 : decode cX3_joined 197 = .ok (.lreturn, 1) := by decide +kernel
theorem dX3_joined_198 : decode cX3_joined 198 = .ok (.lload_n 1, 1) := by decide +kernel
theorem dX3_joined_199 : decode cX3_joined 199 = .ok (.lload_n 3, 1) := by decide +kernel
theorem dX3_joined_200 : decode cX3_joined 200 = .ok (.lcmp, 1) := by decide +kernel
theorem dX3_joined_201 : decode cX3_joined 201 = .ok (.ifCond .eq 7, 3) := by decide +kernel
theorem dX3_joined_204 : decode cX3_joined 204 = .ok (.lconst 1, 1) := by decide +kernel
theorem dX3_joined_205 : decode cX3_joined 205 = .ok (.goto 4, 3) := by decide +kernel
theorem dX3_joined_208 : decode cX3_joined 208 = .ok (.lconst 0, 1) := by decide +kernel
theorem dX3_joined_209 : decode cX3_joined 209 = .ok (.lreturn, 1) := by decide +kernel
theorem dX3_joined_210 : decode cX3_joined 210 = .ok (.lload_n 1, 1) := by decide +kernel
theorem dX3_joined_211 : decode cX3_joined 211 = .ok (.lload_n 3, 1) := by decide +kernel
theorem dX3_joined_212 : decode cX3_joined 212 = .ok (.lcmp, 1) := by decide +kernel
theorem dX3_joined_213 : decode cX3_joined 213 = .ok (.ifCond .lt 7, 3) := by decide +kernel
theorem dX3_joined_216 : decode cX3_joined 216 = .ok (.lconst 1, 1) := by decide +kernel
theorem dX3_joined_217 : decode cX3_joined 217 = .ok (.goto 4, 3) := by decide +kernel
theorem dX3_joined_220 : decode cX3_joined 220 = .ok (.lconst 0, 1) := by decide +kernel
theorem dX3_joined_221 : decode cX3_joined 221 = .ok (.lreturn, 1) := by decide +kernel
theorem dX3_joined_222 : decode cX3_joined 222 = .ok (.lload_n 1, 1) := by decide +kernel
theorem dX3_joined_223 : decode cX3_joined 223 = .ok (.lload_n 3, 1) := by decide +kernel
theorem dX3_joined_224 : decode cX3_joined 224 = .ok (.lcmp, 1) := by decide +kernel
theorem dX3_joined_225 : decode cX3_joined 225 = .ok (.ifCond .le 7, 3) := by decide +kernel
theorem dX3_joined_228 : decode cX3_joined 228 = .ok (.lconst 1, 1) := by decide +kernel
theorem dX3_joined_229 : decode cX3_joined 229 = .ok (.goto 4, 3) := by decide +kernel
theorem dX3_joined_232 : decode cX3_joined 232 = .ok (.lconst 0, 1) := by decide +kernel
theorem dX3_joined_233 : decode cX3_joined 233 = .ok (.lreturn, 1) := by decide +kernel
theorem dX3_joined_234 : decode cX3_joined 234 = .ok (.lload_n 1, 1) := by decide +kernel
theorem dX3_joined_235 : decode cX3_joined 235 = .ok (.lconst 0, 1) := by decide +kernel
theorem dX3_joined_236 : decode cX3_joined 236 = .ok (.lcmp, 1) := by decide +kernel
theorem dX3_joined_237 : decode cX3_joined 237 = .ok (.ifCond .eq 13, 3) := by decide +kernel
theorem dX3_joined_240 : decode cX3_joined 240 = .ok (.lload_n 3, 1) := by decide +kernel
theorem dX3_joined_241 : decode cX3_joined 241 = .ok (.lconst 0, 1) := by decide +kernel
theorem dX3_joined_242 : decode cX3_joined 242 = .ok (.lcmp, 1) := by decide +kernel
theorem dX3_joined_243 : decode cX3_joined 243 = .ok (.ifCond .eq 7, 3) := by decide +kernel
theorem dX3_joined_246 : decode cX3_joined 246 = .ok (.lconst 1, 1) := by decide +kernel
theorem dX3_joined_247 : decode cX3_joined 247 = .ok (.goto 4, 3) := by decide +kernel
theorem dX3_joined_250 : decode cX3_joined 250 = .ok (.lconst 0, 1) := by decide +kernel
theorem dX3_joined_251 : decode cX3_joined 251 = .ok (.lreturn, 1) := by decide +kernel
theorem dX3_joined_252 : decode cX3_joined 252 = .ok (.lload_n 1, 1) := by decide +kernel
theorem dX3_joined_253 : decode cX3_joined 253 = .ok (.lconst 0, 1) := by decide +kernel
theorem dX3_joined_254 : decode cX3_joined 254 = .ok (.lcmp, 1) := by decide +kernel
theorem dX3_joined_255 : decode cX3_joined 255 = .ok (.ifCond .ne 9, 3) := by decide +kernel
theorem dX3_joined_258 : decode cX3_joined 258 = .ok (.lload_n 3, 1) := by decide +kernel
theorem dX3_joined_259 : decode cX3_joined 259 = .ok (.lconst 0, 1) := by decide +kernel
theorem dX3_joined_260 : decode cX3_joined 260 = .ok (.lcmp, 1) := by decide +kernel
theorem dX3_joined_261 : decode cX3_joined 261 = .ok (.ifCond .eq 7, 3) := by decide +kernel
theorem dX3_joined_264 : decode cX3_joined 264 = .ok (.lconst 1, 1) := by decide +kernel
theorem dX3_joined_265 : decode cX3_joined 265 = .ok (.goto 4, 3) := by decide +kernel
theorem dX3_joined_268 : decode cX3_joined 268 = .ok (.lconst 0, 1) := by decide +kernel
theorem dX3_joined_269 : decode cX3_joined 269 = .ok (.lreturn, 1) := by decide +kernel
theorem dX3_joined_270 : decode cX3_joined 270 = .ok (.ldc2_w 48, 3) := by decide +kernel
theorem dX3_joined_273 : decode cX3_joined 273 = .ok (.lreturn, 1) := by decide +kernel
theorem dX4_forget_0 : decode cX4_forget 0 = .ok (.aload_n 0, 1) := by decide +kernel
theorem dX4_forget_1 : decode cX4_forget 1 = .ok (.iconst 0, 1) := by decide +kernel
theorem dX4_forget_2 : decode cX4_forget 2 = .ok (.putfield 22, 3) := by decide +kernel
theorem dX4_forget_5 : decode cX4_forget 5 = .ok (.aload_n 0, 1) := by decide +kernel
theorem dX4_forget_6 : decode cX4_forget 6 = .ok (.iconst (-1), 1) := by decide +kernel
theorem dX4_forget_7 : decode cX4_forget 7 = .ok (.putfield 18, 3) := by decide +kernel
theorem dX4_forget_10 : decode cX4_forget 10 = .ok (.return_, 1) := by decide +kernel
theorem dX4_add_0 : decode cX4_add 0 = .ok (.aload_n 0, 1) := by decide +kernel
theorem dX4_add_1 : decode cX4_add 1 = .ok (.getfield 22, 3) := by decide +kernel
theorem dX4_add_4 : decode cX4_add 4 = .ok (.bipush 24, 2) := by decide +kernel
theorem dX4_add_6 : decode cX4_add 6 = .ok (.if_icmp .lt 5, 3) := by decide +kernel
theorem dX4_add_9 : decode cX4_add 9 = .ok (.iconst (-1), 1) := by decide +kernel
theorem dX4_add_10 : decode cX4_add 10 = .ok (.ireturn, 1) := by decide +kernel
theorem dX4_add_11 : decode cX4_add 11 = .ok (.aload_n 0, 1) := by decide +kernel
theorem dX4_add_12 : decode cX4_add 12 = .ok (.getfield 9, 3) := by decide +kernel
theorem dX4_add_15 : decode cX4_add 15 = .ok (.aload_n 0, 1) := by decide +kernel
theorem dX4_add_16 : decode cX4_add 16 = .ok (.getfield 22, 3) := by decide +kernel
theorem dX4_add_19 : decode cX4_add 19 = .ok (.iload_n 1, 1) := by decide +kernel
theorem dX4_add_20 : decode cX4_add 20 = .ok (.iastore, 1) := by decide +kernel
theorem dX4_add_21 : decode cX4_add 21 = .ok (.aload_n 0, 1) := by decide +kernel
theorem dX4_add_22 : decode cX4_add 22 = .ok (.getfield 15, 3) := by decide +kernel
theorem dX4_add_25 : decode cX4_add 25 = .ok (.aload_n 0, 1) := by decide +kernel
theorem dX4_add_26 : decode cX4_add 26 = .ok (.getfield 22, 3) := by decide +kernel
theorem dX4_add_29 : decode cX4_add 29 = .ok (.iload_n 2, 1) := by decide +kernel
theorem dX4_add_30 : decode cX4_add 30 = .ok (.iastore, 1) := by decide +kernel
theorem dX4_add_31 : decode cX4_add 31 = .ok (.aload_n 0, 1) := by decide +kernel
theorem dX4_add_32 : decode cX4_add 32 = .ok (.dup, 1) := by decide +kernel
theorem dX4_add_33 : decode cX4_add 33 = .ok (.getfield 22, 3) := by decide +kernel
theorem dX4_add_36 : decode cX4_add 36 = .ok (.iconst 1, 1) := by decide +kernel
theorem dX4_add_37 : decode cX4_add 37 = .ok (.iadd, 1) := by decide +kernel
theorem dX4_add_38 : decode cX4_add 38 = .ok (.putfield 22, 3) := by decide +kernel
theorem dX4_add_41 : decode cX4_add 41 = .ok (.aload_n 0, 1) := by decide +kernel
theorem dX4_add_42 : decode cX4_add 42 = .ok (.getfield 22, 3) := by decide +kernel
theorem dX4_add_45 : decode cX4_add 45 = .ok (.iconst 1, 1) := by decide +kernel
theorem dX4_add_46 : decode cX4_add 46 = .ok (.isub, 1) := by decide +kernel
theorem dX4_add_47 : decode cX4_add 47 = .ok (.ireturn, 1) := by decide +kernel
theorem dX4_reach_0 : decode cX4_reach 0 = .ok (.aload_n 0, 1) := by decide +kernel
theorem dX4_reach_1 : decode cX4_reach 1 = .ok (.getfield 18, 3) := by decide +kernel
theorem dX4_reach_4 : decode cX4_reach 4 = .ok (.iconst (-1), 1) := by decide +kernel
theorem dX4_reach_5 : decode cX4_reach 5 = .ok (.if_icmp .ne 10, 3) := by decide +kernel
theorem dX4_reach_8 : decode cX4_reach 8 = .ok (.aload_n 0, 1) := by decide +kernel
theorem dX4_reach_9 : decode cX4_reach 9 = .ok (.getfield 22, 3) := by decide +kernel
theorem dX4_reach_12 : decode cX4_reach 12 = .ok (.goto 7, 3) := by decide +kernel
theorem dX4_reach_15 : decode cX4_reach 15 = .ok (.aload_n 0, 1) := by decide +kernel
theorem dX4_reach_16 : decode cX4_reach 16 = .ok (.getfield 18, 3) := by decide +kernel
theorem dX4_reach_19 : decode cX4_reach 19 = .ok (.ireturn, 1) := by decide +kernel
theorem dX4_sift_0 : decode cX4_sift 0 = .ok (.aload_n 0, 1) := by decide +kernel
theorem dX4_sift_1 : decode cX4_sift 1 = .ok (.iconst 0, 1) := by decide +kernel
theorem dX4_sift_2 : decode cX4_sift 2 = .ok (.putfield 25, 3) := by decide +kernel
theorem dX4_sift_5 : decode cX4_sift 5 = .ok (.aload_n 0, 1) := by decide +kernel
theorem dX4_sift_6 : decode cX4_sift 6 = .ok (.invokevirtual 28, 3) := by decide +kernel
theorem dX4_sift_9 : decode cX4_sift 9 = .ok (.iconst 1, 1) := by decide +kernel
theorem dX4_sift_10 : decode cX4_sift 10 = .ok (.isub, 1) := by decide +kernel
theorem dX4_sift_11 : decode cX4_sift 11 = .ok (.istore_n 1, 1) := by decide +kernel
theorem dX4_sift_12 : decode cX4_sift 12 = .ok (.iload_n 1, 1) := by decide +kernel
theorem dX4_sift_13 : decode cX4_sift 13 = .ok (.ifCond .lt 47, 3) := by decide +kernel
theorem dX4_sift_16 : decode cX4_sift 16 = .ok (.aload_n 0, 1) := by decide +kernel
theorem dX4_sift_17 : decode cX4_sift 17 = .ok (.getfield 9, 3) := by decide +kernel
theorem dX4_sift_20 : decode cX4_sift 20 = .ok (.iload_n 1, 1) := by decide +kernel
theorem dX4_sift_21 : decode cX4_sift 21 = .ok (.iaload, 1) := by decide +kernel
theorem dX4_sift_22 : decode cX4_sift 22 = .ok (.iconst 2, 1) := by decide +kernel
theorem dX4_sift_23 : decode cX4_sift 23 = .ok (.if_icmp .ne 31, 3) := by decide +kernel
theorem dX4_sift_26 : decode cX4_sift 26 = .ok (.aload_n 0, 1) := by decide +kernel
theorem dX4_sift_27 : decode cX4_sift 27 = .ok (.getfield 25, 3) := by decide +kernel
theorem dX4_sift_30 : decode cX4_sift 30 = .ok (.iload_n 1, 1) := by decide +kernel
theorem dX4_sift_31 : decode cX4_sift 31 = .ok (.invokestatic 32, 3) := by decide +kernel
theorem dX4_sift_34 : decode cX4_sift 34 = .ok (.ifCond .ne 20, 3) := by decide +kernel
theorem dX4_sift_37 : decode cX4_sift 37 = .ok (.aload_n 0, 1) := by decide +kernel
theorem dX4_sift_38 : decode cX4_sift 38 = .ok (.dup, 1) := by decide +kernel
theorem dX4_sift_39 : decode cX4_sift 39 = .ok (.getfield 25, 3) := by decide +kernel
theorem dX4_sift_42 : decode cX4_sift 42 = .ok (.iconst 1, 1) := by decide +kernel
theorem dX4_sift_43 : decode cX4_sift 43 = .ok (.aload_n 0, 1) := by decide +kernel
theorem dX4_sift_44 : decode cX4_sift 44 = .ok (.getfield 15, 3) := by decide +kernel
theorem dX4_sift_47 : decode cX4_sift 47 = .ok (.iload_n 1, 1) := by decide +kernel
theorem dX4_sift_48 : decode cX4_sift 48 = .ok (.iaload, 1) := by decide +kernel
theorem dX4_sift_49 : decode cX4_sift 49 = .ok (.ishl, 1) := by decide +kernel
theorem dX4_sift_50 : decode cX4_sift 50 = .ok (.ior, 1) := by decide +kernel
theorem dX4_sift_51 : decode cX4_sift 51 = .ok (.putfield 25, 3) := by decide +kernel
theorem dX4_sift_54 : decode cX4_sift 54 = .ok (.iinc 1 (-1), 3) := by decide +kernel
theorem dX4_sift_57 : decode cX4_sift 57 = .ok (.goto (-45), 3) := by decide +kernel
theorem dX4_sift_60 : decode cX4_sift 60 = .ok (.return_, 1) := by decide +kernel
theorem dX4_tells_0 : decode cX4_tells 0 = .ok (.aload_n 0, 1) := by decide +kernel
theorem dX4_tells_1 : decode cX4_tells 1 = .ok (.getfield 9, 3) := by decide +kernel
theorem dX4_tells_4 : decode cX4_tells 4 = .ok (.iload_n 1, 1) := by decide +kernel
theorem dX4_tells_5 : decode cX4_tells 5 = .ok (.iaload, 1) := by decide +kernel
theorem dX4_tells_6 : decode cX4_tells 6 = .ok (.iconst 2, 1) := by decide +kernel
theorem dX4_tells_7 : decode cX4_tells 7 = .ok (.if_icmp .eq 18, 3) := by decide +kernel
theorem dX4_tells_10 : decode cX4_tells 10 = .ok (.aload_n 0, 1) := by decide +kernel
theorem dX4_tells_11 : decode cX4_tells 11 = .ok (.getfield 25, 3) := by decide +kernel
theorem dX4_tells_14 : decode cX4_tells 14 = .ok (.iload_n 1, 1) := by decide +kernel
theorem dX4_tells_15 : decode cX4_tells 15 = .ok (.invokestatic 32, 3) := by decide +kernel
theorem dX4_tells_18 : decode cX4_tells 18 = .ok (.ifCond .ne 7, 3) := by decide +kernel
theorem dX4_tells_21 : decode cX4_tells 21 = .ok (.iconst 1, 1) := by decide +kernel
theorem dX4_tells_22 : decode cX4_tells 22 = .ok (.goto 4, 3) := by decide +kernel
theorem dX4_tells_25 : decode cX4_tells 25 = .ok (.iconst 0, 1) := by decide +kernel
theorem dX4_tells_26 : decode cX4_tells 26 = .ok (.ireturn, 1) := by decide +kernel
theorem dX4_daysToHear_0 : decode cX4_daysToHear 0 = .ok (.iconst 0, 1) := by decide +kernel
theorem dX4_daysToHear_1 : decode cX4_daysToHear 1 = .ok (.istore_n 2, 1) := by decide +kernel
theorem dX4_daysToHear_2 : decode cX4_daysToHear 2 = .ok (.iconst 0, 1) := by decide +kernel
theorem dX4_daysToHear_3 : decode cX4_daysToHear 3 = .ok (.istore_n 3, 1) := by decide +kernel
theorem dX4_daysToHear_4 : decode cX4_daysToHear 4 = .ok (.iload_n 3, 1) := by decide +kernel
theorem dX4_daysToHear_5 : decode cX4_daysToHear 5 = .ok (.aload_n 0, 1) := by decide +kernel
theorem dX4_daysToHear_6 : decode cX4_daysToHear 6 = .ok (.invokevirtual 28, 3) := by decide +kernel
theorem dX4_daysToHear_9 : decode cX4_daysToHear 9 = .ok (.if_icmp .ge 35, 3) := by decide +kernel
theorem dX4_daysToHear_12 : decode cX4_daysToHear 12 = .ok (.aload_n 0, 1) := by decide +kernel
theorem dX4_daysToHear_13 : decode cX4_daysToHear 13 = .ok (.iload_n 3, 1) := by decide +kernel
theorem dX4_daysToHear_14 : decode cX4_daysToHear 14 = .ok (.invokevirtual 36, 3) := by decide +kernel
theorem dX4_daysToHear_17 : decode cX4_daysToHear 17 = .ok (.ifCond .eq 21, 3) := by decide +kernel
theorem dX4_daysToHear_20 : decode cX4_daysToHear 20 = .ok (.iload_n 2, 1) := by decide +kernel
theorem dX4_daysToHear_21 : decode cX4_daysToHear 21 = .ok (.aload_n 1, 1) := by decide +kernel
theorem dX4_daysToHear_22 : decode cX4_daysToHear 22 = .ok (.getfield 40, 3) := by decide +kernel
theorem dX4_daysToHear_25 : decode cX4_daysToHear 25 = .ok (.aload_n 0, 1) := by decide +kernel
theorem dX4_daysToHear_26 : decode cX4_daysToHear 26 = .ok (.getfield 15, 3) := by decide +kernel
theorem dX4_daysToHear_29 : decode cX4_daysToHear 29 = .ok (.iload_n 3, 1) := by decide +kernel
theorem dX4_daysToHear_30 : decode cX4_daysToHear 30 = .ok (.iaload, 1) := by decide +kernel
theorem dX4_daysToHear_31 : decode cX4_daysToHear 31 = .ok (.iaload, 1) := by decide +kernel
theorem dX4_daysToHear_32 : decode cX4_daysToHear 32 = .ok (.iconst 1, 1) := by decide +kernel
theorem dX4_daysToHear_33 : decode cX4_daysToHear 33 = .ok (.iadd, 1) := by decide +kernel
theorem dX4_daysToHear_34 : decode cX4_daysToHear 34 = .ok (.invokestatic 45, 3) := by decide +kernel
theorem dX4_daysToHear_37 : decode cX4_daysToHear 37 = .ok (.istore_n 2, 1) := by decide +kernel
theorem dX4_daysToHear_38 : decode cX4_daysToHear 38 = .ok (.iinc 3 1, 3) := by decide +kernel
theorem dX4_daysToHear_41 : decode cX4_daysToHear 41 = .ok (.goto (-37), 3) := by decide +kernel
theorem dX4_daysToHear_44 : decode cX4_daysToHear 44 = .ok (.iload_n 2, 1) := by decide +kernel
theorem dX4_daysToHear_45 : decode cX4_daysToHear 45 = .ok (.ireturn, 1) := by decide +kernel
theorem dX4_agreeWith_0 : decode cX4_agreeWith 0 = .ok (.iconst 0, 1) := by decide +kernel
theorem dX4_agreeWith_1 : decode cX4_agreeWith 1 = .ok (.istore_n 2, 1) := by decide +kernel
theorem dX4_agreeWith_2 : decode cX4_agreeWith 2 = .ok (.iload_n 2, 1) := by decide +kernel
theorem dX4_agreeWith_3 : decode cX4_agreeWith 3 = .ok (.aload_n 0, 1) := by decide +kernel
theorem dX4_agreeWith_4 : decode cX4_agreeWith 4 = .ok (.invokevirtual 28, 3) := by decide +kernel
theorem dX4_agreeWith_7 : decode cX4_agreeWith 7 = .ok (.if_icmp .ge 39, 3) := by decide +kernel
theorem dX4_agreeWith_10 : decode cX4_agreeWith 10 = .ok (.aload_n 0, 1) := by decide +kernel
theorem dX4_agreeWith_11 : decode cX4_agreeWith 11 = .ok (.iload_n 2, 1) := by decide +kernel
theorem dX4_agreeWith_12 : decode cX4_agreeWith 12 = .ok (.invokevirtual 36, 3) := by decide +kernel
theorem dX4_agreeWith_15 : decode cX4_agreeWith 15 = .ok (.ifCond .eq 25, 3) := by decide +kernel
theorem dX4_agreeWith_18 : decode cX4_agreeWith 18 = .ok (.aload_n 1, 1) := by decide +kernel
theorem dX4_agreeWith_19 : decode cX4_agreeWith 19 = .ok (.getfield 50, 3) := by decide +kernel
theorem dX4_agreeWith_22 : decode cX4_agreeWith 22 = .ok (.aload_n 0, 1) := by decide +kernel
theorem dX4_agreeWith_23 : decode cX4_agreeWith 23 = .ok (.getfield 15, 3) := by decide +kernel
theorem dX4_agreeWith_26 : decode cX4_agreeWith 26 = .ok (.iload_n 2, 1) := by decide +kernel
theorem dX4_agreeWith_27 : decode cX4_agreeWith 27 = .ok (.iaload, 1) := by decide +kernel
theorem dX4_agreeWith_28 : decode cX4_agreeWith 28 = .ok (.iaload, 1) := by decide +kernel
theorem dX4_agreeWith_29 : decode cX4_agreeWith 29 = .ok (.aload_n 0, 1) := by decide +kernel
theorem dX4_agreeWith_30 : decode cX4_agreeWith 30 = .ok (.getfield 9, 3) := by decide +kernel
theorem dX4_agreeWith_33 : decode cX4_agreeWith 33 = .ok (.iload_n 2, 1) := by decide +kernel
theorem dX4_agreeWith_34 : decode cX4_agreeWith 34 = .ok (.iaload, 1) := by decide +kernel
theorem dX4_agreeWith_35 : decode cX4_agreeWith 35 = .ok (.if_icmp .eq 5, 3) := by decide +kernel
theorem dX4_agreeWith_38 : decode cX4_agreeWith 38 = .ok (.iconst 0, 1) := by decide +kernel
theorem dX4_agreeWith_39 : decode cX4_agreeWith 39 = .ok (.ireturn, 1) := by decide +kernel
theorem dX4_agreeWith_40 : decode cX4_agreeWith 40 = .ok (.iinc 2 1, 3) := by decide +kernel
theorem dX4_agreeWith_43 : decode cX4_agreeWith 43 = .ok (.goto (-41), 3) := by decide +kernel
theorem dX4_agreeWith_46 : decode cX4_agreeWith 46 = .ok (.iconst 1, 1) := by decide +kernel
theorem dX4_agreeWith_47 : decode cX4_agreeWith 47 = .ok (.ireturn, 1) := by decide +kernel
theorem dX5_seek_0 : decode cX5_seek 0 = .ok (.aload_n 0, 1) := by decide +kernel
theorem dX5_seek_1 : decode cX5_seek 1 = .ok (.iconst 0, 1) := by decide +kernel
theorem dX5_seek_2 : decode cX5_seek 2 = .ok (.putfield 18, 3) := by decide +kernel
theorem dX5_seek_5 : decode cX5_seek 5 = .ok (.aload_n 0, 1) := by decide +kernel
theorem dX5_seek_6 : decode cX5_seek 6 = .ok (.iconst 0, 1) := by decide +kernel
theorem dX5_seek_7 : decode cX5_seek 7 = .ok (.putfield 22, 3) := by decide +kernel
theorem dX5_seek_10 : decode cX5_seek 10 = .ok (.iconst 0, 1) := by decide +kernel
theorem dX5_seek_11 : decode cX5_seek 11 = .ok (.istore 4, 2) := by decide +kernel
theorem dX5_seek_13 : decode cX5_seek 13 = .ok (.iload 4, 2) := by decide +kernel
theorem dX5_seek_15 : decode cX5_seek 15 = .ok (.aload_n 1, 1) := by decide +kernel
theorem dX5_seek_16 : decode cX5_seek 16 = .ok (.getfield 25, 3) := by decide +kernel
theorem dX5_seek_19 : decode cX5_seek 19 = .ok (.if_icmp .ge 67, 3) := by decide +kernel
theorem dX5_seek_22 : decode cX5_seek 22 = .ok (.aload_n 0, 1) := by decide +kernel
theorem dX5_seek_23 : decode cX5_seek 23 = .ok (.getfield 18, 3) := by decide +kernel
theorem dX5_seek_26 : decode cX5_seek 26 = .ok (.iconst 4, 1) := by decide +kernel
theorem dX5_seek_27 : decode cX5_seek 27 = .ok (.if_icmp .ge 59, 3) := by decide +kernel
theorem dX5_seek_30 : decode cX5_seek 30 = .ok (.aload_n 2, 1) := by decide +kernel
theorem dX5_seek_31 : decode cX5_seek 31 = .ok (.getfield 29, 3) := by decide +kernel
theorem dX5_seek_34 : decode cX5_seek 34 = .ok (.iload 4, 2) := by decide +kernel
theorem dX5_seek_36 : decode cX5_seek 36 = .ok (.iaload, 1) := by decide +kernel
theorem dX5_seek_37 : decode cX5_seek 37 = .ok (.iconst (-1), 1) := by decide +kernel
theorem dX5_seek_38 : decode cX5_seek 38 = .ok (.if_icmp .ne 42, 3) := by decide +kernel
theorem dX5_seek_41 : decode cX5_seek 41 = .ok (.aload_n 0, 1) := by decide +kernel
theorem dX5_seek_42 : decode cX5_seek 42 = .ok (.getfield 11, 3) := by decide +kernel
theorem dX5_seek_45 : decode cX5_seek 45 = .ok (.aload_n 0, 1) := by decide +kernel
theorem dX5_seek_46 : decode cX5_seek 46 = .ok (.getfield 18, 3) := by decide +kernel
theorem dX5_seek_49 : decode cX5_seek 49 = .ok (.iload 4, 2) := by decide +kernel
theorem dX5_seek_51 : decode cX5_seek 51 = .ok (.iastore, 1) := by decide +kernel
theorem dX5_seek_52 : decode cX5_seek 52 = .ok (.aload_n 0, 1) := by decide +kernel
theorem dX5_seek_53 : decode cX5_seek 53 = .ok (.getfield 15, 3) := by decide +kernel
theorem dX5_seek_56 : decode cX5_seek 56 = .ok (.aload_n 0, 1) := by decide +kernel
theorem dX5_seek_57 : decode cX5_seek 57 = .ok (.getfield 18, 3) := by decide +kernel
theorem dX5_seek_60 : decode cX5_seek 60 = .ok (.iconst (-1), 1) := by decide +kernel
theorem dX5_seek_61 : decode cX5_seek 61 = .ok (.iastore, 1) := by decide +kernel
theorem dX5_seek_62 : decode cX5_seek 62 = .ok (.aload_n 2, 1) := by decide +kernel
theorem dX5_seek_63 : decode cX5_seek 63 = .ok (.getfield 34, 3) := by decide +kernel
theorem dX5_seek_66 : decode cX5_seek 66 = .ok (.iload 4, 2) := by decide +kernel
theorem dX5_seek_68 : decode cX5_seek 68 = .ok (.iconst (-1), 1) := by decide +kernel
theorem dX5_seek_69 : decode cX5_seek 69 = .ok (.iastore, 1) := by decide +kernel
theorem dX5_seek_70 : decode cX5_seek 70 = .ok (.aload_n 0, 1) := by decide +kernel
theorem dX5_seek_71 : decode cX5_seek 71 = .ok (.dup, 1) := by decide +kernel
theorem dX5_seek_72 : decode cX5_seek 72 = .ok (.getfield 18, 3) := by decide +kernel
theorem dX5_seek_75 : decode cX5_seek 75 = .ok (.iconst 1, 1) := by decide +kernel
theorem dX5_seek_76 : decode cX5_seek 76 = .ok (.iadd, 1) := by decide +kernel
theorem dX5_seek_77 : decode cX5_seek 77 = .ok (.putfield 18, 3) := by decide +kernel
theorem dX5_seek_80 : decode cX5_seek 80 = .ok (.iinc 4 1, 3) := by decide +kernel
theorem dX5_seek_83 : decode cX5_seek 83 = .ok (.goto (-70), 3) := by decide +kernel
theorem dX5_seek_86 : decode cX5_seek 86 = .ok (.iconst 0, 1) := by decide +kernel
theorem dX5_seek_87 : decode cX5_seek 87 = .ok (.istore 4, 2) := by decide +kernel
theorem dX5_seek_89 : decode cX5_seek 89 = .ok (.iload 4, 2) := by decide +kernel
theorem dX5_seek_91 : decode cX5_seek 91 = .ok (.iload_n 3, 1) := by decide +kernel
theorem dX5_seek_92 : decode cX5_seek 92 = .ok (.if_icmp .ge 94, 3) := by decide +kernel
theorem dX5_seek_95 : decode cX5_seek 95 = .ok (.iconst 0, 1) := by decide +kernel
theorem dX5_seek_96 : decode cX5_seek 96 = .ok (.istore 5, 2) := by decide +kernel
theorem dX5_seek_98 : decode cX5_seek 98 = .ok (.iload 5, 2) := by decide +kernel
theorem dX5_seek_100 : decode cX5_seek 100 = .ok (.aload_n 0, 1) := by decide +kernel
theorem dX5_seek_101 : decode cX5_seek 101 = .ok (.getfield 18, 3) := by decide +kernel
theorem dX5_seek_104 : decode cX5_seek 104 = .ok (.if_icmp .ge 59, 3) := by decide +kernel
theorem dX5_seek_107 : decode cX5_seek 107 = .ok (.aload_n 0, 1) := by decide +kernel
theorem dX5_seek_108 : decode cX5_seek 108 = .ok (.getfield 15, 3) := by decide +kernel
theorem dX5_seek_111 : decode cX5_seek 111 = .ok (.iload 5, 2) := by decide +kernel
theorem dX5_seek_113 : decode cX5_seek 113 = .ok (.iaload, 1) := by decide +kernel
theorem dX5_seek_114 : decode cX5_seek 114 = .ok (.iconst (-1), 1) := by decide +kernel
theorem dX5_seek_115 : decode cX5_seek 115 = .ok (.if_icmp .ne 42, 3) := by decide +kernel
theorem dX5_seek_118 : decode cX5_seek 118 = .ok (.aload_n 2, 1) := by decide +kernel
theorem dX5_seek_119 : decode cX5_seek 119 = .ok (.aload_n 1, 1) := by decide +kernel
theorem dX5_seek_120 : decode cX5_seek 120 = .ok (.aload_n 1, 1) := by decide +kernel
theorem dX5_seek_121 : decode cX5_seek 121 = .ok (.getfield 37, 3) := by decide +kernel
theorem dX5_seek_124 : decode cX5_seek 124 = .ok (.aload_n 0, 1) := by decide +kernel
theorem dX5_seek_125 : decode cX5_seek 125 = .ok (.getfield 11, 3) := by decide +kernel
theorem dX5_seek_128 : decode cX5_seek 128 = .ok (.iload 5, 2) := by decide +kernel
theorem dX5_seek_130 : decode cX5_seek 130 = .ok (.iaload, 1) := by decide +kernel
theorem dX5_seek_131 : decode cX5_seek 131 = .ok (.iaload, 1) := by decide +kernel
theorem dX5_seek_132 : decode cX5_seek 132 = .ok (.invokevirtual 40, 3) := by decide +kernel
theorem dX5_seek_135 : decode cX5_seek 135 = .ok (.ifCond .eq 22, 3) := by decide +kernel
theorem dX5_seek_138 : decode cX5_seek 138 = .ok (.aload_n 0, 1) := by decide +kernel
theorem dX5_seek_139 : decode cX5_seek 139 = .ok (.getfield 15, 3) := by decide +kernel
theorem dX5_seek_142 : decode cX5_seek 142 = .ok (.iload 5, 2) := by decide +kernel
theorem dX5_seek_144 : decode cX5_seek 144 = .ok (.iload 4, 2) := by decide +kernel
theorem dX5_seek_146 : decode cX5_seek 146 = .ok (.iastore, 1) := by decide +kernel
theorem dX5_seek_147 : decode cX5_seek 147 = .ok (.aload_n 0, 1) := by decide +kernel
theorem dX5_seek_148 : decode cX5_seek 148 = .ok (.dup, 1) := by decide +kernel
theorem dX5_seek_149 : decode cX5_seek 149 = .ok (.getfield 22, 3) := by decide +kernel
theorem dX5_seek_152 : decode cX5_seek 152 = .ok (.iconst 1, 1) := by decide +kernel
theorem dX5_seek_153 : decode cX5_seek 153 = .ok (.iadd, 1) := by decide +kernel
theorem dX5_seek_154 : decode cX5_seek 154 = .ok (.putfield 22, 3) := by decide +kernel
theorem dX5_seek_157 : decode cX5_seek 157 = .ok (.iinc 5 1, 3) := by decide +kernel
theorem dX5_seek_160 : decode cX5_seek 160 = .ok (.goto (-62), 3) := by decide +kernel
theorem dX5_seek_163 : decode cX5_seek 163 = .ok (.aload_n 2, 1) := by decide +kernel
theorem dX5_seek_164 : decode cX5_seek 164 = .ok (.aload_n 1, 1) := by decide +kernel
theorem dX5_seek_165 : decode cX5_seek 165 = .ok (.invokevirtual 44, 3) := by decide +kernel
theorem dX5_seek_168 : decode cX5_seek 168 = .ok (.aload_n 2, 1) := by decide +kernel
theorem dX5_seek_169 : decode cX5_seek 169 = .ok (.aload_n 1, 1) := by decide +kernel
theorem dX5_seek_170 : decode cX5_seek 170 = .ok (.aload_n 2, 1) := by decide +kernel
theorem dX5_seek_171 : decode cX5_seek 171 = .ok (.getfield 48, 3) := by decide +kernel
theorem dX5_seek_174 : decode cX5_seek 174 = .ok (.invokevirtual 51, 3) := by decide +kernel
theorem dX5_seek_177 : decode cX5_seek 177 = .ok (.putfield 55, 3) := by decide +kernel
theorem dX5_seek_180 : decode cX5_seek 180 = .ok (.iinc 4 1, 3) := by decide +kernel
theorem dX5_seek_183 : decode cX5_seek 183 = .ok (.goto (-94), 3) := by decide +kernel
theorem dX5_seek_186 : decode cX5_seek 186 = .ok (.return_, 1) := by decide +kernel
theorem dX5_dayOf_0 : decode cX5_dayOf 0 = .ok (.iload_n 1, 1) := by decide +kernel
theorem dX5_dayOf_1 : decode cX5_dayOf 1 = .ok (.ifCond .lt 24, 3) := by decide +kernel
theorem dX5_dayOf_4 : decode cX5_dayOf 4 = .ok (.iload_n 1, 1) := by decide +kernel
theorem dX5_dayOf_5 : decode cX5_dayOf 5 = .ok (.aload_n 0, 1) := by decide +kernel
theorem dX5_dayOf_6 : decode cX5_dayOf 6 = .ok (.getfield 18, 3) := by decide +kernel
theorem dX5_dayOf_9 : decode cX5_dayOf 9 = .ok (.if_icmp .ge 16, 3) := by decide +kernel
theorem dX5_dayOf_12 : decode cX5_dayOf 12 = .ok (.iconst 0, 1) := by decide +kernel
theorem dX5_dayOf_13 : decode cX5_dayOf 13 = .ok (.aload_n 0, 1) := by decide +kernel
theorem dX5_dayOf_14 : decode cX5_dayOf 14 = .ok (.getfield 15, 3) := by decide +kernel
theorem dX5_dayOf_17 : decode cX5_dayOf 17 = .ok (.iload_n 1, 1) := by decide +kernel
theorem dX5_dayOf_18 : decode cX5_dayOf 18 = .ok (.iaload, 1) := by decide +kernel
theorem dX5_dayOf_19 : decode cX5_dayOf 19 = .ok (.invokestatic 58, 3) := by decide +kernel
theorem dX5_dayOf_22 : decode cX5_dayOf 22 = .ok (.goto 4, 3) := by decide +kernel
theorem dX5_dayOf_25 : decode cX5_dayOf 25 = .ok (.iconst (-1), 1) := by decide +kernel
theorem dX5_dayOf_26 : decode cX5_dayOf 26 = .ok (.ireturn, 1) := by decide +kernel
theorem dX8_clear_0 : decode cX8_clear 0 = .ok (.aload_n 0, 1) := by decide +kernel
theorem dX8_clear_1 : decode cX8_clear 1 = .ok (.iconst 0, 1) := by decide +kernel
theorem dX8_clear_2 : decode cX8_clear 2 = .ok (.putfield 56, 3) := by decide +kernel
theorem dX8_clear_5 : decode cX8_clear 5 = .ok (.aload_n 0, 1) := by decide +kernel
theorem dX8_clear_6 : decode cX8_clear 6 = .ok (.iconst 0, 1) := by decide +kernel
theorem dX8_clear_7 : decode cX8_clear 7 = .ok (.putfield 59, 3) := by decide +kernel
theorem dX8_clear_10 : decode cX8_clear 10 = .ok (.aload_n 0, 1) := by decide +kernel
theorem dX8_clear_11 : decode cX8_clear 11 = .ok (.iconst 0, 1) := by decide +kernel
theorem dX8_clear_12 : decode cX8_clear 12 = .ok (.putfield 62, 3) := by decide +kernel
theorem dX8_clear_15 : decode cX8_clear 15 = .ok (.aload_n 0, 1) := by decide +kernel
theorem dX8_clear_16 : decode cX8_clear 16 = .ok (.iconst 0, 1) := by decide +kernel
theorem dX8_clear_17 : decode cX8_clear 17 = .ok (.putfield 65, 3) := by decide +kernel
theorem dX8_clear_20 : decode cX8_clear 20 = .ok (.aload_n 0, 1) := by decide +kernel
theorem dX8_clear_21 : decode cX8_clear 21 = .ok (.bipush 10, 2) := by decide +kernel
theorem dX8_clear_23 : decode cX8_clear 23 = .ok (.putfield 39, 3) := by decide +kernel
theorem dX8_clear_26 : decode cX8_clear 26 = .ok (.aload_n 0, 1) := by decide +kernel
theorem dX8_clear_27 : decode cX8_clear 27 = .ok (.bipush 100, 2) := by decide +kernel
theorem dX8_clear_29 : decode cX8_clear 29 = .ok (.putfield 43, 3) := by decide +kernel
theorem dX8_clear_32 : decode cX8_clear 32 = .ok (.aload_n 0, 1) := by decide +kernel
theorem dX8_clear_33 : decode cX8_clear 33 = .ok (.iconst 5, 1) := by decide +kernel
theorem dX8_clear_34 : decode cX8_clear 34 = .ok (.putfield 46, 3) := by decide +kernel
theorem dX8_clear_37 : decode cX8_clear 37 = .ok (.aload_n 0, 1) := by decide +kernel
theorem dX8_clear_38 : decode cX8_clear 38 = .ok (.iconst 0, 1) := by decide +kernel
theorem dX8_clear_39 : decode cX8_clear 39 = .ok (.putfield 68, 3) := by decide +kernel
theorem dX8_clear_42 : decode cX8_clear 42 = .ok (.aload_n 0, 1) := by decide +kernel
theorem dX8_clear_43 : decode cX8_clear 43 = .ok (.getfield 52, 3) := by decide +kernel
theorem dX8_clear_46 : decode cX8_clear 46 = .ok (.invokevirtual 71, 3) := by decide +kernel
theorem dX8_clear_49 : decode cX8_clear 49 = .ok (.return_, 1) := by decide +kernel
theorem dX8_forkNamed_0 : decode cX8_forkNamed 0 = .ok (.iload_n 1, 1) := by decide +kernel
theorem dX8_forkNamed_1 : decode cX8_forkNamed 1 = .ok (.aload_n 0, 1) := by decide +kernel
theorem dX8_forkNamed_2 : decode cX8_forkNamed 2 = .ok (.getfield 9, 3) := by decide +kernel
theorem dX8_forkNamed_5 : decode cX8_forkNamed 5 = .ok (.aload_n 0, 1) := by decide +kernel
theorem dX8_forkNamed_6 : decode cX8_forkNamed 6 = .ok (.getfield 56, 3) := by decide +kernel
theorem dX8_forkNamed_9 : decode cX8_forkNamed 9 = .ok (.invokestatic 74, 3) := by decide +kernel
theorem dX8_forkNamed_12 : decode cX8_forkNamed 12 = .ok (.ireturn, 1) := by decide +kernel
theorem dX8_motionNamed_0 : decode cX8_motionNamed 0 = .ok (.iload_n 1, 1) := by decide +kernel
theorem dX8_motionNamed_1 : decode cX8_motionNamed 1 = .ok (.aload_n 0, 1) := by decide +kernel
theorem dX8_motionNamed_2 : decode cX8_motionNamed 2 = .ok (.getfield 27, 3) := by decide +kernel
theorem dX8_motionNamed_5 : decode cX8_motionNamed 5 = .ok (.aload_n 0, 1) := by decide +kernel
theorem dX8_motionNamed_6 : decode cX8_motionNamed 6 = .ok (.getfield 62, 3) := by decide +kernel
theorem dX8_motionNamed_9 : decode cX8_motionNamed 9 = .ok (.invokestatic 74, 3) := by decide +kernel
theorem dX8_motionNamed_12 : decode cX8_motionNamed 12 = .ok (.ireturn, 1) := by decide +kernel
theorem dX8_placeOf_0 : decode cX8_placeOf 0 = .ok (.iconst 0, 1) := by decide +kernel
theorem dX8_placeOf_1 : decode cX8_placeOf 1 = .ok (.istore_n 3, 1) := by decide +kernel
theorem dX8_placeOf_2 : decode cX8_placeOf 2 = .ok (.iload_n 3, 1) := by decide +kernel
theorem dX8_placeOf_3 : decode cX8_placeOf 3 = .ok (.iload_n 2, 1) := by decide +kernel
theorem dX8_placeOf_4 : decode cX8_placeOf 4 = .ok (.if_icmp .ge 24, 3) := by decide +kernel
theorem dX8_placeOf_7 : decode cX8_placeOf 7 = .ok (.iload_n 3, 1) := by decide +kernel
theorem dX8_placeOf_8 : decode cX8_placeOf 8 = .ok (.aload_n 1, 1) := by decide +kernel
theorem dX8_placeOf_9 : decode cX8_placeOf 9 = .ok (.arraylength, 1) := by decide +kernel
theorem dX8_placeOf_10 : decode cX8_placeOf 10 = .ok (.if_icmp .ge 18, 3) := by decide +kernel
theorem dX8_placeOf_13 : decode cX8_placeOf 13 = .ok (.aload_n 1, 1) := by decide +kernel
theorem dX8_placeOf_14 : decode cX8_placeOf 14 = .ok (.iload_n 3, 1) := by decide +kernel
theorem dX8_placeOf_15 : decode cX8_placeOf 15 = .ok (.iaload, 1) := by decide +kernel
theorem dX8_placeOf_16 : decode cX8_placeOf 16 = .ok (.iload_n 0, 1) := by decide +kernel
theorem dX8_placeOf_17 : decode cX8_placeOf 17 = .ok (.if_icmp .ne 5, 3) := by decide +kernel
theorem dX8_placeOf_20 : decode cX8_placeOf 20 = .ok (.iload_n 3, 1) := by decide +kernel
theorem dX8_placeOf_21 : decode cX8_placeOf 21 = .ok (.ireturn, 1) := by decide +kernel
theorem dX8_placeOf_22 : decode cX8_placeOf 22 = .ok (.iinc 3 1, 3) := by decide +kernel
theorem dX8_placeOf_25 : decode cX8_placeOf 25 = .ok (.goto (-23), 3) := by decide +kernel
theorem dX8_placeOf_28 : decode cX8_placeOf 28 = .ok (.iconst (-1), 1) := by decide +kernel
theorem dX8_placeOf_29 : decode cX8_placeOf 29 = .ok (.ireturn, 1) := by decide +kernel
theorem dX8_wetOn_0 : decode cX8_wetOn 0 = .ok (.aload_n 0, 1) := by decide +kernel
theorem dX8_wetOn_1 : decode cX8_wetOn 1 = .ok (.getfield 65, 3) := by decide +kernel
theorem dX8_wetOn_4 : decode cX8_wetOn 4 = .ok (.iconst 1, 1) := by decide +kernel
theorem dX8_wetOn_5 : decode cX8_wetOn 5 = .ok (.if_icmp .lt 16, 3) := by decide +kernel
theorem dX8_wetOn_8 : decode cX8_wetOn 8 = .ok (.aload_n 0, 1) := by decide +kernel
theorem dX8_wetOn_9 : decode cX8_wetOn 9 = .ok (.getfield 65, 3) := by decide +kernel
theorem dX8_wetOn_12 : decode cX8_wetOn 12 = .ok (.bipush 8, 2) := by decide +kernel
theorem dX8_wetOn_14 : decode cX8_wetOn 14 = .ok (.if_icmp .gt 7, 3) := by decide +kernel
theorem dX8_wetOn_17 : decode cX8_wetOn 17 = .ok (.iload_n 1, 1) := by decide +kernel
theorem dX8_wetOn_18 : decode cX8_wetOn 18 = .ok (.ifCond .ge 5, 3) := by decide +kernel
theorem dX8_wetOn_21 : decode cX8_wetOn 21 = .ok (.iconst 0, 1) := by decide +kernel
theorem dX8_wetOn_22 : decode cX8_wetOn 22 = .ok (.ireturn, 1) := by decide +kernel
theorem dX8_wetOn_23 : decode cX8_wetOn 23 = .ok (.aload_n 0, 1) := by decide +kernel
theorem dX8_wetOn_24 : decode cX8_wetOn 24 = .ok (.getfield 36, 3) := by decide +kernel
theorem dX8_wetOn_27 : decode cX8_wetOn 27 = .ok (.iload_n 1, 1) := by decide +kernel
theorem dX8_wetOn_28 : decode cX8_wetOn 28 = .ok (.aload_n 0, 1) := by decide +kernel
theorem dX8_wetOn_29 : decode cX8_wetOn 29 = .ok (.getfield 65, 3) := by decide +kernel
theorem dX8_wetOn_32 : decode cX8_wetOn 32 = .ok (.irem, 1) := by decide +kernel
theorem dX8_wetOn_33 : decode cX8_wetOn 33 = .ok (.iaload, 1) := by decide +kernel
theorem dX8_wetOn_34 : decode cX8_wetOn 34 = .ok (.ireturn, 1) := by decide +kernel
theorem dJ6_bitCount_0f7a4_0 : decode cJ6_bitCount_0f7a4 0 = .ok (.iload_n 0, 1) := by decide +kernel
theorem dJ6_bitCount_0f7a4_1 : decode cJ6_bitCount_0f7a4 1 = .ok (.iload_n 0, 1) := by decide +kernel
theorem dJ6_bitCount_0f7a4_2 : decode cJ6_bitCount_0f7a4 2 = .ok (.iconst 1, 1) := by decide +kernel
theorem dJ6_bitCount_0f7a4_3 : decode cJ6_bitCount_0f7a4 3 = .ok (.iushr, 1) := by decide +kernel
theorem dJ6_bitCount_0f7a4_4 : decode cJ6_bitCount_0f7a4 4 = .ok (.ldc_w 265, 3) := by decide +kernel
theorem dJ6_bitCount_0f7a4_7 : decode cJ6_bitCount_0f7a4 7 = .ok (.iand, 1) := by decide +kernel
theorem dJ6_bitCount_0f7a4_8 : decode cJ6_bitCount_0f7a4 8 = .ok (.isub, 1) := by decide +kernel
theorem dJ6_bitCount_0f7a4_9 : decode cJ6_bitCount_0f7a4 9 = .ok (.istore_n 0, 1) := by decide +kernel
theorem dJ6_bitCount_0f7a4_10 : decode cJ6_bitCount_0f7a4 10 = .ok (.iload_n 0, 1) := by decide +kernel
theorem dJ6_bitCount_0f7a4_11 : decode cJ6_bitCount_0f7a4 11 = .ok (.ldc_w 266, 3) := by decide +kernel
theorem dJ6_bitCount_0f7a4_14 : decode cJ6_bitCount_0f7a4 14 = .ok (.iand, 1) := by decide +kernel
theorem dJ6_bitCount_0f7a4_15 : decode cJ6_bitCount_0f7a4 15 = .ok (.iload_n 0, 1) := by decide +kernel
theorem dJ6_bitCount_0f7a4_16 : decode cJ6_bitCount_0f7a4 16 = .ok (.iconst 2, 1) := by decide +kernel
theorem dJ6_bitCount_0f7a4_17 : decode cJ6_bitCount_0f7a4 17 = .ok (.iushr, 1) := by decide +kernel
theorem dJ6_bitCount_0f7a4_18 : decode cJ6_bitCount_0f7a4 18 = .ok (.ldc_w 266, 3) := by decide +kernel
theorem dJ6_bitCount_0f7a4_21 : decode cJ6_bitCount_0f7a4 21 = .ok (.iand, 1) := by decide +kernel
theorem dJ6_bitCount_0f7a4_22 : decode cJ6_bitCount_0f7a4 22 = .ok (.iadd, 1) := by decide +kernel
theorem dJ6_bitCount_0f7a4_23 : decode cJ6_bitCount_0f7a4 23 = .ok (.istore_n 0, 1) := by decide +kernel
theorem dJ6_bitCount_0f7a4_24 : decode cJ6_bitCount_0f7a4 24 = .ok (.iload_n 0, 1) := by decide +kernel
theorem dJ6_bitCount_0f7a4_25 : decode cJ6_bitCount_0f7a4 25 = .ok (.iload_n 0, 1) := by decide +kernel
theorem dJ6_bitCount_0f7a4_26 : decode cJ6_bitCount_0f7a4 26 = .ok (.iconst 4, 1) := by decide +kernel
theorem dJ6_bitCount_0f7a4_27 : decode cJ6_bitCount_0f7a4 27 = .ok (.iushr, 1) := by decide +kernel
theorem dJ6_bitCount_0f7a4_28 : decode cJ6_bitCount_0f7a4 28 = .ok (.iadd, 1) := by decide +kernel
theorem dJ6_bitCount_0f7a4_29 : decode cJ6_bitCount_0f7a4 29 = .ok (.ldc_w 267, 3) := by decide +kernel
theorem dJ6_bitCount_0f7a4_32 : decode cJ6_bitCount_0f7a4 32 = .ok (.iand, 1) := by decide +kernel
theorem dJ6_bitCount_0f7a4_33 : decode cJ6_bitCount_0f7a4 33 = .ok (.istore_n 0, 1) := by decide +kernel
theorem dJ6_bitCount_0f7a4_34 : decode cJ6_bitCount_0f7a4 34 = .ok (.iload_n 0, 1) := by decide +kernel
theorem dJ6_bitCount_0f7a4_35 : decode cJ6_bitCount_0f7a4 35 = .ok (.iload_n 0, 1) := by decide +kernel
theorem dJ6_bitCount_0f7a4_36 : decode cJ6_bitCount_0f7a4 36 = .ok (.bipush 8, 2) := by decide +kernel
theorem dJ6_bitCount_0f7a4_38 : decode cJ6_bitCount_0f7a4 38 = .ok (.iushr, 1) := by decide +kernel
theorem dJ6_bitCount_0f7a4_39 : decode cJ6_bitCount_0f7a4 39 = .ok (.iadd, 1) := by decide +kernel
theorem dJ6_bitCount_0f7a4_40 : decode cJ6_bitCount_0f7a4 40 = .ok (.istore_n 0, 1) := by decide +kernel
theorem dJ6_bitCount_0f7a4_41 : decode cJ6_bitCount_0f7a4 41 = .ok (.iload_n 0, 1) := by decide +kernel
theorem dJ6_bitCount_0f7a4_42 : decode cJ6_bitCount_0f7a4 42 = .ok (.iload_n 0, 1) := by decide +kernel
theorem dJ6_bitCount_0f7a4_43 : decode cJ6_bitCount_0f7a4 43 = .ok (.bipush 16, 2) := by decide +kernel
theorem dJ6_bitCount_0f7a4_45 : decode cJ6_bitCount_0f7a4 45 = .ok (.iushr, 1) := by decide +kernel
theorem dJ6_bitCount_0f7a4_46 : decode cJ6_bitCount_0f7a4 46 = .ok (.iadd, 1) := by decide +kernel
theorem dJ6_bitCount_0f7a4_47 : decode cJ6_bitCount_0f7a4 47 = .ok (.istore_n 0, 1) := by decide +kernel
theorem dJ6_bitCount_0f7a4_48 : decode cJ6_bitCount_0f7a4 48 = .ok (.iload_n 0, 1) := by decide +kernel
theorem dJ6_bitCount_0f7a4_49 : decode cJ6_bitCount_0f7a4 49 = .ok (.bipush 63, 2) := by decide +kernel
theorem dJ6_bitCount_0f7a4_51 : decode cJ6_bitCount_0f7a4 51 = .ok (.iand, 1) := by decide +kernel
theorem dJ6_bitCount_0f7a4_52 : decode cJ6_bitCount_0f7a4 52 = .ok (.ireturn, 1) := by decide +kernel
theorem dJ0_length_8abf5_0 : decode cJ0_length_8abf5 0 = .ok (.aload_n 0, 1) := by decide +kernel
theorem dJ0_length_8abf5_1 : decode cJ0_length_8abf5 1 = .ok (.getfield 9, 3) := by decide +kernel
theorem dJ0_length_8abf5_4 : decode cJ0_length_8abf5 4 = .ok (.arraylength, 1) := by decide +kernel
theorem dJ0_length_8abf5_5 : decode cJ0_length_8abf5 5 = .ok (.aload_n 0, 1) := by decide +kernel
theorem dJ0_length_8abf5_6 : decode cJ0_length_8abf5 6 = .ok (.invokevirtual 335, 3) := by decide +kernel
theorem dJ0_length_8abf5_9 : decode cJ0_length_8abf5 9 = .ok (.ishr, 1) := by decide +kernel
theorem dJ0_length_8abf5_10 : decode cJ0_length_8abf5 10 = .ok (.ireturn, 1) := by decide +kernel
theorem dJ0_charAt_5068e_0 : decode cJ0_charAt_5068e 0 = .ok (.aload_n 0, 1) := by decide +kernel
theorem dJ0_charAt_5068e_1 : decode cJ0_charAt_5068e 1 = .ok (.invokevirtual 492, 3) := by decide +kernel
theorem dJ0_charAt_5068e_4 : decode cJ0_charAt_5068e 4 = .ok (.ifCond .eq 12, 3) := by decide +kernel
theorem dJ0_charAt_5068e_7 : decode cJ0_charAt_5068e 7 = .ok (.aload_n 0, 1) := by decide +kernel
theorem dJ0_charAt_5068e_8 : decode cJ0_charAt_5068e 8 = .ok (.getfield 9, 3) := by decide +kernel
theorem dJ0_charAt_5068e_11 : decode cJ0_charAt_5068e 11 = .ok (.iload_n 1, 1) := by decide +kernel
theorem dJ0_charAt_5068e_12 : decode cJ0_charAt_5068e 12 = .ok (.invokestatic 495, 3) := by decide +kernel
theorem dJ0_charAt_5068e_15 : decode cJ0_charAt_5068e 15 = .ok (.ireturn, 1) := by decide +kernel
theorem dJ0_charAt_5068e_16 : decode cJ0_charAt_5068e 16 = .ok (.aload_n 0, 1) := by decide +kernel
theorem dJ0_charAt_5068e_17 : decode cJ0_charAt_5068e 17 = .ok (.getfield 9, 3) := by decide +kernel
theorem dJ0_charAt_5068e_20 : decode cJ0_charAt_5068e 20 = .ok (.iload_n 1, 1) := by decide +kernel
theorem dJ0_charAt_5068e_21 : decode cJ0_charAt_5068e 21 = .ok (.invokestatic 498, 3) := by decide +kernel
theorem dJ0_charAt_5068e_24 : decode cJ0_charAt_5068e 24 = .ok (.ireturn, 1) := by decide +kernel
theorem dJ0_coder_7d493_0 : decode cJ0_coder_7d493 0 = .ok (.getstatic 38, 3) := by decide +kernel
theorem dJ0_coder_7d493_3 : decode cJ0_coder_7d493 3 = .ok (.ifCond .eq 10, 3) := by decide +kernel
theorem dJ0_coder_7d493_6 : decode cJ0_coder_7d493 6 = .ok (.aload_n 0, 1) := by decide +kernel
theorem dJ0_coder_7d493_7 : decode cJ0_coder_7d493 7 = .ok (.getfield 15, 3) := by decide +kernel
theorem dJ0_coder_7d493_10 : decode cJ0_coder_7d493 10 = .ok (.goto 4, 3) := by decide +kernel
theorem dJ0_coder_7d493_13 : decode cJ0_coder_7d493 13 = .ok (.iconst 1, 1) := by decide +kernel
theorem dJ0_coder_7d493_14 : decode cJ0_coder_7d493 14 = .ok (.ireturn, 1) := by decide +kernel
theorem dJ0_isLatin1_aae02_0 : decode cJ0_isLatin1_aae02 0 = .ok (.getstatic 38, 3) := by decide +kernel
theorem dJ0_isLatin1_aae02_3 : decode cJ0_isLatin1_aae02 3 = .ok (.ifCond .eq 14, 3) := by decide +kernel
theorem dJ0_isLatin1_aae02_6 : decode cJ0_isLatin1_aae02 6 = .ok (.aload_n 0, 1) := by decide +kernel
theorem dJ0_isLatin1_aae02_7 : decode cJ0_isLatin1_aae02 7 = .ok (.getfield 15, 3) := by decide +kernel
theorem dJ0_isLatin1_aae02_10 : decode cJ0_isLatin1_aae02 10 = .ok (.ifCond .ne 7, 3) := by decide +kernel
theorem dJ0_isLatin1_aae02_13 : decode cJ0_isLatin1_aae02 13 = .ok (.iconst 1, 1) := by decide +kernel
theorem dJ0_isLatin1_aae02_14 : decode cJ0_isLatin1_aae02 14 = .ok (.goto 4, 3) := by decide +kernel
theorem dJ0_isLatin1_aae02_17 : decode cJ0_isLatin1_aae02 17 = .ok (.iconst 0, 1) := by decide +kernel
theorem dJ0_isLatin1_aae02_18 : decode cJ0_isLatin1_aae02 18 = .ok (.ireturn, 1) := by decide +kernel
theorem dJ0_checkIndex_df160_0 : decode cJ0_checkIndex_df160 0 = .ok (.iload_n 0, 1) := by decide +kernel
theorem dJ0_checkIndex_df160_1 : decode cJ0_checkIndex_df160 1 = .ok (.iload_n 1, 1) := by decide +kernel
theorem dJ0_checkIndex_df160_2 : decode cJ0_checkIndex_df160 2 = .ok (.getstatic 1053, 3) := by decide +kernel
theorem dJ0_checkIndex_df160_5 : decode cJ0_checkIndex_df160 5 = .ok (.invokestatic 1059, 3) := by decide +kernel
theorem dJ0_checkIndex_df160_8 : decode cJ0_checkIndex_df160 8 = .ok (.pop, 1) := by decide +kernel
theorem dJ0_checkIndex_df160_9 : decode cJ0_checkIndex_df160 9 = .ok (.return_, 1) := by decide +kernel
theorem dJ1_charAt_3b067_0 : decode cJ1_charAt_3b067 0 = .ok (.iload_n 1, 1) := by decide +kernel
theorem dJ1_charAt_3b067_1 : decode cJ1_charAt_3b067 1 = .ok (.aload_n 0, 1) := by decide +kernel
theorem dJ1_charAt_3b067_2 : decode cJ1_charAt_3b067 2 = .ok (.arraylength, 1) := by decide +kernel
theorem dJ1_charAt_3b067_3 : decode cJ1_charAt_3b067 3 = .ok (.invokestatic 9, 3) := by decide +kernel
theorem dJ1_charAt_3b067_6 : decode cJ1_charAt_3b067 6 = .ok (.aload_n 0, 1) := by decide +kernel
theorem dJ1_charAt_3b067_7 : decode cJ1_charAt_3b067 7 = .ok (.iload_n 1, 1) := by decide +kernel
theorem dJ1_charAt_3b067_8 : decode cJ1_charAt_3b067 8 = .ok (.baload, 1) := by decide +kernel
theorem dJ1_charAt_3b067_9 : decode cJ1_charAt_3b067 9 = .ok (.sipush 255, 3) := by decide +kernel
theorem dJ1_charAt_3b067_12 : decode cJ1_charAt_3b067 12 = .ok (.iand, 1) := by decide +kernel
theorem dJ1_charAt_3b067_13 : decode cJ1_charAt_3b067 13 = .ok (.i2c, 1) := by decide +kernel
theorem dJ1_charAt_3b067_14 : decode cJ1_charAt_3b067 14 = .ok (.ireturn, 1) := by decide +kernel
theorem dJ7_fill_53178_0 : decode cJ7_fill_53178 0 = .ok (.iconst 0, 1) := by decide +kernel
theorem dJ7_fill_53178_1 : decode cJ7_fill_53178 1 = .ok (.istore_n 2, 1) := by decide +kernel
theorem dJ7_fill_53178_2 : decode cJ7_fill_53178 2 = .ok (.aload_n 0, 1) := by decide +kernel
theorem dJ7_fill_53178_3 : decode cJ7_fill_53178 3 = .ok (.arraylength, 1) := by decide +kernel
theorem dJ7_fill_53178_4 : decode cJ7_fill_53178 4 = .ok (.istore_n 3, 1) := by decide +kernel
theorem dJ7_fill_53178_5 : decode cJ7_fill_53178 5 = .ok (.iload_n 2, 1) := by decide +kernel
theorem dJ7_fill_53178_6 : decode cJ7_fill_53178 6 = .ok (.iload_n 3, 1) := by decide +kernel
theorem dJ7_fill_53178_7 : decode cJ7_fill_53178 7 = .ok (.if_icmp .ge 13, 3) := by decide +kernel
theorem dJ7_fill_53178_10 : decode cJ7_fill_53178 10 = .ok (.aload_n 0, 1) := by decide +kernel
theorem dJ7_fill_53178_11 : decode cJ7_fill_53178 11 = .ok (.iload_n 2, 1) := by decide +kernel
theorem dJ7_fill_53178_12 : decode cJ7_fill_53178 12 = .ok (.iload_n 1, 1) := by decide +kernel
theorem dJ7_fill_53178_13 : decode cJ7_fill_53178 13 = .ok (.iastore, 1) := by decide +kernel
theorem dJ7_fill_53178_14 : decode cJ7_fill_53178 14 = .ok (.iinc 2 1, 3) := by decide +kernel
theorem dJ7_fill_53178_17 : decode cJ7_fill_53178 17 = .ok (.goto (-12), 3) := by decide +kernel
theorem dJ7_fill_53178_20 : decode cJ7_fill_53178 20 = .ok (.return_, 1) := by decide +kernel
theorem dJ3_checkIndex_8e157_0 : decode cJ3_checkIndex_8e157 0 = .ok (.iload_n 0, 1) := by decide +kernel
theorem dJ3_checkIndex_8e157_1 : decode cJ3_checkIndex_8e157 1 = .ok (.ifCond .lt 8, 3) := by decide +kernel
theorem dJ3_checkIndex_8e157_4 : decode cJ3_checkIndex_8e157 4 = .ok (.iload_n 0, 1) := by decide +kernel
theorem dJ3_checkIndex_8e157_5 : decode cJ3_checkIndex_8e157 5 = .ok (.iload_n 1, 1) := by decide +kernel
theorem dJ3_checkIndex_8e157_6 : decode cJ3_checkIndex_8e157 6 = .ok (.if_icmp .lt 10, 3) := by decide +kernel
theorem dJ3_checkIndex_8e157_9 : decode cJ3_checkIndex_8e157 9 = .ok (.aload_n 2, 1) := by decide +kernel
theorem dJ3_checkIndex_8e157_10 : decode cJ3_checkIndex_8e157 10 = .ok (.iload_n 0, 1) := by decide +kernel
theorem dJ3_checkIndex_8e157_11 : decode cJ3_checkIndex_8e157 11 = .ok (.iload_n 1, 1) := by decide +kernel
theorem dJ3_checkIndex_8e157_12 : decode cJ3_checkIndex_8e157 12 = .ok (.invokestatic 95, 3) := by decide +kernel
theorem dJ3_checkIndex_8e157_15 : decode cJ3_checkIndex_8e157 15 = .ok (.athrow, 1) := by decide +kernel
theorem dJ3_checkIndex_8e157_16 : decode cJ3_checkIndex_8e157 16 = .ok (.iload_n 0, 1) := by decide +kernel
theorem dJ3_checkIndex_8e157_17 : decode cJ3_checkIndex_8e157 17 = .ok (.ireturn, 1) := by decide +kernel
