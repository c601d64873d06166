theorem dX6_lettersOf_0 : decode cX6_lettersOf 0 = .ok (.iconst 0, 1) := by decide +kernel
theorem dX6_lettersOf_1 : decode cX6_lettersOf 1 = .ok (.istore_n 1, 1) := by decide +kernel
theorem dX6_lettersOf_2 : decode cX6_lettersOf 2 = .ok (.iload_n 0, 1) := by decide +kernel
theorem dX6_lettersOf_3 : decode cX6_lettersOf 3 = .ok (.bipush 6, 2) := by decide +kernel
theorem dX6_lettersOf_5 : decode cX6_lettersOf 5 = .ok (.imul, 1) := by decide +kernel
theorem dX6_lettersOf_6 : decode cX6_lettersOf 6 = .ok (.istore_n 2, 1) := by decide +kernel
theorem dX6_lettersOf_7 : decode cX6_lettersOf 7 = .ok (.iload_n 2, 1) := by decide +kernel
theorem dX6_lettersOf_8 : decode cX6_lettersOf 8 = .ok (.iload_n 0, 1) := by decide +kernel
theorem dX6_lettersOf_9 : decode cX6_lettersOf 9 = .ok (.iconst 1, 1) := by decide +kernel
theorem dX6_lettersOf_10 : decode cX6_lettersOf 10 = .ok (.iadd, 1) := by decide +kernel
theorem dX6_lettersOf_11 : decode cX6_lettersOf 11 = .ok (.bipush 6, 2) := by decide +kernel
theorem dX6_lettersOf_13 : decode cX6_lettersOf 13 = .ok (.imul, 1) := by decide +kernel
theorem dX6_lettersOf_14 : decode cX6_lettersOf 14 = .ok (.if_icmp .ge 46, 3) := by decide +kernel
theorem dX6_lettersOf_17 : decode cX6_lettersOf 17 = .ok (.iload_n 2, 1) := by decide +kernel
theorem dX6_lettersOf_18 : decode cX6_lettersOf 18 = .ok (.ldc 34, 2) := by decide +kernel
theorem dX6_lettersOf_20 : decode cX6_lettersOf 20 = .ok (.invokevirtual 36, 3) := by decide +kernel
theorem dX6_lettersOf_23 : decode cX6_lettersOf 23 = .ok (.if_icmp .ge 37, 3) := by decide +kernel
theorem dX6_lettersOf_26 : decode cX6_lettersOf 26 = .ok (.ldc 34, 2) := by decide +kernel
theorem dX6_lettersOf_28 : decode cX6_lettersOf 28 = .ok (.iload_n 2, 1) := by decide +kernel
theorem dX6_lettersOf_29 : decode cX6_lettersOf 29 = .ok (.invokevirtual 42, 3) := by decide +kernel
theorem dX6_lettersOf_32 : decode cX6_lettersOf 32 = .ok (.istore_n 3, 1) := by decide +kernel
theorem dX6_lettersOf_33 : decode cX6_lettersOf 33 = .ok (.iload_n 1, 1) := by decide +kernel
theorem dX6_lettersOf_34 : decode cX6_lettersOf 34 = .ok (.iconst 5, 1) := by decide +kernel
theorem dX6_lettersOf_35 : decode cX6_lettersOf 35 = .ok (.ishl, 1) := by decide +kernel
theorem dX6_lettersOf_36 : decode cX6_lettersOf 36 = .ok (.iload_n 3, 1) := by decide +kernel
theorem dX6_lettersOf_37 : decode cX6_lettersOf 37 = .ok (.bipush 32, 2) := by decide +kernel
theorem dX6_lettersOf_39 : decode cX6_lettersOf 39 = .ok (.if_icmp .ne 7, 3) := by decide +kernel
theorem dX6_lettersOf_42 : decode cX6_lettersOf 42 = .ok (.iconst 0, 1) := by decide +kernel
theorem dX6_lettersOf_43 : decode cX6_lettersOf 43 = .ok (.goto 9, 3) := by decide +kernel
theorem dX6_lettersOf_46 : decode cX6_lettersOf 46 = .ok (.iload_n 3, 1) := by decide +kernel
theorem dX6_lettersOf_47 : decode cX6_lettersOf 47 = .ok (.bipush 97, 2) := by decide +kernel
theorem dX6_lettersOf_49 : decode cX6_lettersOf 49 = .ok (.isub, 1) := by decide +kernel
theorem dX6_lettersOf_50 : decode cX6_lettersOf 50 = .ok (.iconst 1, 1) := by decide +kernel
theorem dX6_lettersOf_51 : decode cX6_lettersOf 51 = .ok (.iadd, 1) := by decide +kernel
theorem dX6_lettersOf_52 : decode cX6_lettersOf 52 = .ok (.ior, 1) := by decide +kernel
theorem dX6_lettersOf_53 : decode cX6_lettersOf 53 = .ok (.istore_n 1, 1) := by decide +kernel
theorem dX6_lettersOf_54 : decode cX6_lettersOf 54 = .ok (.iinc 2 1, 3) := by decide +kernel
theorem dX6_lettersOf_57 : decode cX6_lettersOf 57 = .ok (.goto (-50), 3) := by decide +kernel
theorem dX6_lettersOf_60 : decode cX6_lettersOf 60 = .ok (.iload_n 1, 1) := by decide +kernel
theorem dX6_lettersOf_61 : decode cX6_lettersOf 61 = .ok (.ireturn, 1) := by decide +kernel
theorem dX6_append_0 : decode cX6_append 0 = .ok (.bipush 24, 2) := by decide +kernel
theorem dX6_append_2 : decode cX6_append 2 = .ok (.istore_n 2, 1) := by decide +kernel
theorem dX6_append_3 : decode cX6_append 3 = .ok (.iload_n 2, 1) := by decide +kernel
theorem dX6_append_4 : decode cX6_append 4 = .ok (.ifCond .lt 42, 3) := by decide +kernel
theorem dX6_append_7 : decode cX6_append 7 = .ok (.aload_n 0, 1) := by decide +kernel
theorem dX6_append_8 : decode cX6_append 8 = .ok (.getfield 46, 3) := by decide +kernel
theorem dX6_append_11 : decode cX6_append 11 = .ok (.sipush 700, 3) := by decide +kernel
theorem dX6_append_14 : decode cX6_append 14 = .ok (.if_icmp .ge 32, 3) := by decide +kernel
theorem dX6_append_17 : decode cX6_append 17 = .ok (.aload_n 0, 1) := by decide +kernel
theorem dX6_append_18 : decode cX6_append 18 = .ok (.getfield 9, 3) := by decide +kernel
theorem dX6_append_21 : decode cX6_append 21 = .ok (.aload_n 0, 1) := by decide +kernel
theorem dX6_append_22 : decode cX6_append 22 = .ok (.getfield 46, 3) := by decide +kernel
theorem dX6_append_25 : decode cX6_append 25 = .ok (.iload_n 1, 1) := by decide +kernel
theorem dX6_append_26 : decode cX6_append 26 = .ok (.iload_n 2, 1) := by decide +kernel
theorem dX6_append_27 : decode cX6_append 27 = .ok (.ishr, 1) := by decide +kernel
theorem dX6_append_28 : decode cX6_append 28 = .ok (.i2b, 1) := by decide +kernel
theorem dX6_append_29 : decode cX6_append 29 = .ok (.bastore, 1) := by decide +kernel
theorem dX6_append_30 : decode cX6_append 30 = .ok (.aload_n 0, 1) := by decide +kernel
theorem dX6_append_31 : decode cX6_append 31 = .ok (.dup, 1) := by decide +kernel
theorem dX6_append_32 : decode cX6_append 32 = .ok (.getfield 46, 3) := by decide +kernel
theorem dX6_append_35 : decode cX6_append 35 = .ok (.iconst 1, 1) := by decide +kernel
theorem dX6_append_36 : decode cX6_append 36 = .ok (.iadd, 1) := by decide +kernel
theorem dX6_append_37 : decode cX6_append 37 = .ok (.putfield 46, 3) := by decide +kernel
theorem dX6_append_40 : decode cX6_append 40 = .ok (.iinc 2 (-8), 3) := by decide +kernel
theorem dX6_append_43 : decode cX6_append 43 = .ok (.goto (-40), 3) := by decide +kernel
theorem dX6_append_46 : decode cX6_append 46 = .ok (.return_, 1) := by decide +kernel
theorem dX6_begin_0 : decode cX6_begin 0 = .ok (.aload_n 0, 1) := by decide +kernel
theorem dX6_begin_1 : decode cX6_begin 1 = .ok (.getfield 26, 3) := by decide +kernel
theorem dX6_begin_4 : decode cX6_begin 4 = .ok (.invokevirtual 49, 3) := by decide +kernel
theorem dX6_begin_7 : decode cX6_begin 7 = .ok (.aload_n 0, 1) := by decide +kernel
theorem dX6_begin_8 : decode cX6_begin 8 = .ok (.iload_n 1, 1) := by decide +kernel
theorem dX6_begin_9 : decode cX6_begin 9 = .ok (.sipush 700, 3) := by decide +kernel
theorem dX6_begin_12 : decode cX6_begin 12 = .ok (.invokestatic 52, 3) := by decide +kernel
theorem dX6_begin_15 : decode cX6_begin 15 = .ok (.putfield 58, 3) := by decide +kernel
theorem dX6_begin_18 : decode cX6_begin 18 = .ok (.aload_n 0, 1) := by decide +kernel
theorem dX6_begin_19 : decode cX6_begin 19 = .ok (.iconst 0, 1) := by decide +kernel
theorem dX6_begin_20 : decode cX6_begin 20 = .ok (.putfield 61, 3) := by decide +kernel
theorem dX6_begin_23 : decode cX6_begin 23 = .ok (.aload_n 0, 1) := by decide +kernel
theorem dX6_begin_24 : decode cX6_begin 24 = .ok (.iconst 0, 1) := by decide +kernel
theorem dX6_begin_25 : decode cX6_begin 25 = .ok (.putfield 46, 3) := by decide +kernel
theorem dX6_begin_28 : decode cX6_begin 28 = .ok (.aload_n 0, 1) := by decide +kernel
theorem dX6_begin_29 : decode cX6_begin 29 = .ok (.iconst 0, 1) := by decide +kernel
theorem dX6_begin_30 : decode cX6_begin 30 = .ok (.putfield 64, 3) := by decide +kernel
theorem dX6_begin_33 : decode cX6_begin 33 = .ok (.aload_n 0, 1) := by decide +kernel
theorem dX6_begin_34 : decode cX6_begin 34 = .ok (.iconst 0, 1) := by decide +kernel
theorem dX6_begin_35 : decode cX6_begin 35 = .ok (.putfield 67, 3) := by decide +kernel
theorem dX6_begin_38 : decode cX6_begin 38 = .ok (.aload_n 0, 1) := by decide +kernel
theorem dX6_begin_39 : decode cX6_begin 39 = .ok (.iconst (-1), 1) := by decide +kernel
theorem dX6_begin_40 : decode cX6_begin 40 = .ok (.putfield 19, 3) := by decide +kernel
theorem dX6_begin_43 : decode cX6_begin 43 = .ok (.aload_n 0, 1) := by decide +kernel
theorem dX6_begin_44 : decode cX6_begin 44 = .ok (.invokevirtual 70, 3) := by decide +kernel
theorem dX6_begin_47 : decode cX6_begin 47 = .ok (.return_, 1) := by decide +kernel
theorem dX6_exchange_0 : decode cX6_exchange 0 = .ok (.aload_n 0, 1) := by decide +kernel
theorem dX6_exchange_1 : decode cX6_exchange 1 = .ok (.getfield 26, 3) := by decide +kernel
theorem dX6_exchange_4 : decode cX6_exchange 4 = .ok (.astore_n 2, 1) := by decide +kernel
theorem dX6_exchange_5 : decode cX6_exchange 5 = .ok (.aload_n 0, 1) := by decide +kernel
theorem dX6_exchange_6 : decode cX6_exchange 6 = .ok (.aload_n 1, 1) := by decide +kernel
theorem dX6_exchange_7 : decode cX6_exchange 7 = .ok (.putfield 26, 3) := by decide +kernel
theorem dX6_exchange_10 : decode cX6_exchange 10 = .ok (.aload_n 2, 1) := by decide +kernel
theorem dX6_exchange_11 : decode cX6_exchange 11 = .ok (.areturn, 1) := by decide +kernel
theorem dX6_hasMore_0 : decode cX6_hasMore 0 = .ok (.aload_n 0, 1) := by decide +kernel
theorem dX6_hasMore_1 : decode cX6_hasMore 1 = .ok (.getfield 73, 3) := by decide +kernel
theorem dX6_hasMore_4 : decode cX6_hasMore 4 = .ok (.ifCond .eq 14, 3) := by decide +kernel
theorem dX6_hasMore_7 : decode cX6_hasMore 7 = .ok (.aload_n 0, 1) := by decide +kernel
theorem dX6_hasMore_8 : decode cX6_hasMore 8 = .ok (.getfield 67, 3) := by decide +kernel
theorem dX6_hasMore_11 : decode cX6_hasMore 11 = .ok (.ifCond .ne 7, 3) := by decide +kernel
theorem dX6_hasMore_14 : decode cX6_hasMore 14 = .ok (.iconst 1, 1) := by decide +kernel
theorem dX6_hasMore_15 : decode cX6_hasMore 15 = .ok (.goto 4, 3) := by decide +kernel
theorem dX6_hasMore_18 : decode cX6_hasMore 18 = .ok (.iconst 0, 1) := by decide +kernel
theorem dX6_hasMore_19 : decode cX6_hasMore 19 = .ok (.ireturn, 1) := by decide +kernel
theorem dX6_refuse_0 : decode cX6_refuse 0 = .ok (.aload_n 0, 1) := by decide +kernel
theorem dX6_refuse_1 : decode cX6_refuse 1 = .ok (.getfield 67, 3) := by decide +kernel
theorem dX6_refuse_4 : decode cX6_refuse 4 = .ok (.ifCond .ne 16, 3) := by decide +kernel
theorem dX6_refuse_7 : decode cX6_refuse 7 = .ok (.aload_n 0, 1) := by decide +kernel
theorem dX6_refuse_8 : decode cX6_refuse 8 = .ok (.iload_n 1, 1) := by decide +kernel
theorem dX6_refuse_9 : decode cX6_refuse 9 = .ok (.putfield 67, 3) := by decide +kernel
theorem dX6_refuse_12 : decode cX6_refuse 12 = .ok (.aload_n 0, 1) := by decide +kernel
theorem dX6_refuse_13 : decode cX6_refuse 13 = .ok (.aload_n 0, 1) := by decide +kernel
theorem dX6_refuse_14 : decode cX6_refuse 14 = .ok (.getfield 76, 3) := by decide +kernel
theorem dX6_refuse_17 : decode cX6_refuse 17 = .ok (.putfield 19, 3) := by decide +kernel
theorem dX6_refuse_20 : decode cX6_refuse 20 = .ok (.return_, 1) := by decide +kernel
theorem dX6_readLine_0 : decode cX6_readLine 0 = .ok (.aload_n 0, 1) := by decide +kernel
theorem dX6_readLine_1 : decode cX6_readLine 1 = .ok (.getfield 73, 3) := by decide +kernel
theorem dX6_readLine_4 : decode cX6_readLine 4 = .ok (.tableswitch 180 17 25 #[52, 59, 66, 73, 94, 101, 137, 158, 173], 52) := by decide +kernel
theorem dX6_readLine_56 : decode cX6_readLine 56 = .ok (.aload_n 0, 1) := by decide +kernel
theorem dX6_readLine_57 : decode cX6_readLine 57 = .ok (.invokevirtual 79, 3) := by decide +kernel
theorem dX6_readLine_60 : decode cX6_readLine 60 = .ok (.goto 129, 3) := by decide +kernel
theorem dX6_readLine_63 : decode cX6_readLine 63 = .ok (.aload_n 0, 1) := by decide +kernel
theorem dX6_readLine_64 : decode cX6_readLine 64 = .ok (.invokevirtual 82, 3) := by decide +kernel
theorem dX6_readLine_67 : decode cX6_readLine 67 = .ok (.goto 122, 3) := by decide +kernel
theorem dX6_readLine_70 : decode cX6_readLine 70 = .ok (.aload_n 0, 1) := by decide +kernel
theorem dX6_readLine_71 : decode cX6_readLine 71 = .ok (.invokevirtual 85, 3) := by decide +kernel
theorem dX6_readLine_74 : decode cX6_readLine 74 = .ok (.goto 115, 3) := by decide +kernel
theorem dX6_readLine_77 : decode cX6_readLine 77 = .ok (.aload_n 0, 1) := by decide +kernel
theorem dX6_readLine_78 : decode cX6_readLine 78 = .ok (.invokevirtual 88, 3) := by decide +kernel
theorem dX6_readLine_81 : decode cX6_readLine 81 = .ok (.aload_n 0, 1) := by decide +kernel
theorem dX6_readLine_82 : decode cX6_readLine 82 = .ok (.getfield 26, 3) := by decide +kernel
theorem dX6_readLine_85 : decode cX6_readLine 85 = .ok (.aload_n 0, 1) := by decide +kernel
theorem dX6_readLine_86 : decode cX6_readLine 86 = .ok (.iconst 1, 1) := by decide +kernel
theorem dX6_readLine_87 : decode cX6_readLine 87 = .ok (.bipush 99, 2) := by decide +kernel
theorem dX6_readLine_89 : decode cX6_readLine 89 = .ok (.invokevirtual 91, 3) := by decide +kernel
theorem dX6_readLine_92 : decode cX6_readLine 92 = .ok (.putfield 94, 3) := by decide +kernel
theorem dX6_readLine_95 : decode cX6_readLine 95 = .ok (.goto 94, 3) := by decide +kernel
theorem dX6_readLine_98 : decode cX6_readLine 98 = .ok (.aload_n 0, 1) := by decide +kernel
theorem dX6_readLine_99 : decode cX6_readLine 99 = .ok (.invokevirtual 97, 3) := by decide +kernel
theorem dX6_readLine_102 : decode cX6_readLine 102 = .ok (.goto 87, 3) := by decide +kernel
theorem dX6_readLine_105 : decode cX6_readLine 105 = .ok (.aload_n 0, 1) := by decide +kernel
theorem dX6_readLine_106 : decode cX6_readLine 106 = .ok (.invokevirtual 88, 3) := by decide +kernel
theorem dX6_readLine_109 : decode cX6_readLine 109 = .ok (.aload_n 0, 1) := by decide +kernel
theorem dX6_readLine_110 : decode cX6_readLine 110 = .ok (.getfield 26, 3) := by decide +kernel
theorem dX6_readLine_113 : decode cX6_readLine 113 = .ok (.aload_n 0, 1) := by decide +kernel
theorem dX6_readLine_114 : decode cX6_readLine 114 = .ok (.iconst 0, 1) := by decide +kernel
theorem dX6_readLine_115 : decode cX6_readLine 115 = .ok (.sipush 999, 3) := by decide +kernel
theorem dX6_readLine_118 : decode cX6_readLine 118 = .ok (.invokevirtual 91, 3) := by decide +kernel
theorem dX6_readLine_121 : decode cX6_readLine 121 = .ok (.putfield 100, 3) := by decide +kernel
theorem dX6_readLine_124 : decode cX6_readLine 124 = .ok (.aload_n 0, 1) := by decide +kernel
theorem dX6_readLine_125 : decode cX6_readLine 125 = .ok (.getfield 26, 3) := by decide +kernel
theorem dX6_readLine_128 : decode cX6_readLine 128 = .ok (.aload_n 0, 1) := by decide +kernel
theorem dX6_readLine_129 : decode cX6_readLine 129 = .ok (.iconst 0, 1) := by decide +kernel
theorem dX6_readLine_130 : decode cX6_readLine 130 = .ok (.bipush 99, 2) := by decide +kernel
theorem dX6_readLine_132 : decode cX6_readLine 132 = .ok (.invokevirtual 91, 3) := by decide +kernel
theorem dX6_readLine_135 : decode cX6_readLine 135 = .ok (.putfield 103, 3) := by decide +kernel
theorem dX6_readLine_138 : decode cX6_readLine 138 = .ok (.goto 51, 3) := by decide +kernel
theorem dX6_readLine_141 : decode cX6_readLine 141 = .ok (.aload_n 0, 1) := by decide +kernel
theorem dX6_readLine_142 : decode cX6_readLine 142 = .ok (.invokevirtual 88, 3) := by decide +kernel
theorem dX6_readLine_145 : decode cX6_readLine 145 = .ok (.aload_n 0, 1) := by decide +kernel
theorem dX6_readLine_146 : decode cX6_readLine 146 = .ok (.getfield 26, 3) := by decide +kernel
theorem dX6_readLine_149 : decode cX6_readLine 149 = .ok (.aload_n 0, 1) := by decide +kernel
theorem dX6_readLine_150 : decode cX6_readLine 150 = .ok (.iconst 0, 1) := by decide +kernel
theorem dX6_readLine_151 : decode cX6_readLine 151 = .ok (.bipush 9, 2) := by decide +kernel
theorem dX6_readLine_153 : decode cX6_readLine 153 = .ok (.invokevirtual 91, 3) := by decide +kernel
theorem dX6_readLine_156 : decode cX6_readLine 156 = .ok (.putfield 106, 3) := by decide +kernel
theorem dX6_readLine_159 : decode cX6_readLine 159 = .ok (.goto 30, 3) := by decide +kernel
theorem dX6_readLine_162 : decode cX6_readLine 162 = .ok (.aload_n 0, 1) := by decide +kernel
theorem dX6_readLine_163 : decode cX6_readLine 163 = .ok (.invokevirtual 88, 3) := by decide +kernel
theorem dX6_readLine_166 : decode cX6_readLine 166 = .ok (.aload_n 0, 1) := by decide +kernel
theorem dX6_readLine_167 : decode cX6_readLine 167 = .ok (.iconst 0, 1) := by decide +kernel
theorem dX6_readLine_168 : decode cX6_readLine 168 = .ok (.ldc 109, 2) := by decide +kernel
theorem dX6_readLine_170 : decode cX6_readLine 170 = .ok (.invokevirtual 91, 3) := by decide +kernel
theorem dX6_readLine_173 : decode cX6_readLine 173 = .ok (.pop, 1) := by decide +kernel
theorem dX6_readLine_174 : decode cX6_readLine 174 = .ok (.goto 15, 3) := by decide +kernel
theorem dX6_readLine_177 : decode cX6_readLine 177 = .ok (.aload_n 0, 1) := by decide +kernel
theorem dX6_readLine_178 : decode cX6_readLine 178 = .ok (.invokevirtual 110, 3) := by decide +kernel
theorem dX6_readLine_181 : decode cX6_readLine 181 = .ok (.goto 8, 3) := by decide +kernel
theorem dX6_readLine_184 : decode cX6_readLine 184 = .ok (.aload_n 0, 1) := by decide +kernel
theorem dX6_readLine_185 : decode cX6_readLine 185 = .ok (.iconst 1, 1) := by decide +kernel
theorem dX6_readLine_186 : decode cX6_readLine 186 = .ok (.invokevirtual 113, 3) := by decide +kernel
theorem dX6_readLine_189 : decode cX6_readLine 189 = .ok (.aload_n 0, 1) := by decide +kernel
theorem dX6_readLine_190 : decode cX6_readLine 190 = .ok (.iconst 4, 1) := by decide +kernel
theorem dX6_readLine_191 : decode cX6_readLine 191 = .ok (.invokevirtual 117, 3) := by decide +kernel
theorem dX6_readLine_194 : decode cX6_readLine 194 = .ok (.return_, 1) := by decide +kernel
theorem dX6_readFork_0 : decode cX6_readFork 0 = .ok (.aload_n 0, 1) := by decide +kernel
theorem dX6_readFork_1 : decode cX6_readFork 1 = .ok (.getfield 26, 3) := by decide +kernel
theorem dX6_readFork_4 : decode cX6_readFork 4 = .ok (.getfield 120, 3) := by decide +kernel
theorem dX6_readFork_7 : decode cX6_readFork 7 = .ok (.istore_n 1, 1) := by decide +kernel
theorem dX6_readFork_8 : decode cX6_readFork 8 = .ok (.iload_n 1, 1) := by decide +kernel
theorem dX6_readFork_9 : decode cX6_readFork 9 = .ok (.bipush 8, 2) := by decide +kernel
theorem dX6_readFork_11 : decode cX6_readFork 11 = .ok (.if_icmp .lt 9, 3) := by decide +kernel
theorem dX6_readFork_14 : decode cX6_readFork 14 = .ok (.aload_n 0, 1) := by decide +kernel
theorem dX6_readFork_15 : decode cX6_readFork 15 = .ok (.iconst 2, 1) := by decide +kernel
theorem dX6_readFork_16 : decode cX6_readFork 16 = .ok (.invokevirtual 113, 3) := by decide +kernel
theorem dX6_readFork_19 : decode cX6_readFork 19 = .ok (.return_, 1) := by decide +kernel
theorem dX6_readFork_20 : decode cX6_readFork 20 = .ok (.aload_n 0, 1) := by decide +kernel
theorem dX6_readFork_21 : decode cX6_readFork 21 = .ok (.invokevirtual 70, 3) := by decide +kernel
theorem dX6_readFork_24 : decode cX6_readFork 24 = .ok (.aload_n 0, 1) := by decide +kernel
theorem dX6_readFork_25 : decode cX6_readFork 25 = .ok (.getfield 26, 3) := by decide +kernel
theorem dX6_readFork_28 : decode cX6_readFork 28 = .ok (.getfield 123, 3) := by decide +kernel
theorem dX6_readFork_31 : decode cX6_readFork 31 = .ok (.iload_n 1, 1) := by decide +kernel
theorem dX6_readFork_32 : decode cX6_readFork 32 = .ok (.aload_n 0, 1) := by decide +kernel
theorem dX6_readFork_33 : decode cX6_readFork 33 = .ok (.aload_n 0, 1) := by decide +kernel
theorem dX6_readFork_34 : decode cX6_readFork 34 = .ok (.getfield 26, 3) := by decide +kernel
theorem dX6_readFork_37 : decode cX6_readFork 37 = .ok (.aload_n 0, 1) := by decide +kernel
theorem dX6_readFork_38 : decode cX6_readFork 38 = .ok (.getfield 126, 3) := by decide +kernel
theorem dX6_readFork_41 : decode cX6_readFork 41 = .ok (.invokevirtual 129, 3) := by decide +kernel
theorem dX6_readFork_44 : decode cX6_readFork 44 = .ok (.invokevirtual 132, 3) := by decide +kernel
theorem dX6_readFork_47 : decode cX6_readFork 47 = .ok (.iastore, 1) := by decide +kernel
theorem dX6_readFork_48 : decode cX6_readFork 48 = .ok (.aload_n 0, 1) := by decide +kernel
theorem dX6_readFork_49 : decode cX6_readFork 49 = .ok (.getfield 26, 3) := by decide +kernel
theorem dX6_readFork_52 : decode cX6_readFork 52 = .ok (.getfield 135, 3) := by decide +kernel
theorem dX6_readFork_55 : decode cX6_readFork 55 = .ok (.iload_n 1, 1) := by decide +kernel
theorem dX6_readFork_56 : decode cX6_readFork 56 = .ok (.aload_n 0, 1) := by decide +kernel
theorem dX6_readFork_57 : decode cX6_readFork 57 = .ok (.bipush 100, 2) := by decide +kernel
theorem dX6_readFork_59 : decode cX6_readFork 59 = .ok (.sipush 999, 3) := by decide +kernel
theorem dX6_readFork_62 : decode cX6_readFork 62 = .ok (.invokevirtual 91, 3) := by decide +kernel
theorem dX6_readFork_65 : decode cX6_readFork 65 = .ok (.iastore, 1) := by decide +kernel
theorem dX6_readFork_66 : decode cX6_readFork 66 = .ok (.aload_n 0, 1) := by decide +kernel
theorem dX6_readFork_67 : decode cX6_readFork 67 = .ok (.getfield 26, 3) := by decide +kernel
theorem dX6_readFork_70 : decode cX6_readFork 70 = .ok (.getfield 138, 3) := by decide +kernel
theorem dX6_readFork_73 : decode cX6_readFork 73 = .ok (.iload_n 1, 1) := by decide +kernel
theorem dX6_readFork_74 : decode cX6_readFork 74 = .ok (.aload_n 0, 1) := by decide +kernel
theorem dX6_readFork_75 : decode cX6_readFork 75 = .ok (.iconst 0, 1) := by decide +kernel
theorem dX6_readFork_76 : decode cX6_readFork 76 = .ok (.bipush 99, 2) := by decide +kernel
theorem dX6_readFork_78 : decode cX6_readFork 78 = .ok (.invokevirtual 91, 3) := by decide +kernel
theorem dX6_readFork_81 : decode cX6_readFork 81 = .ok (.iastore, 1) := by decide +kernel
theorem dX6_readFork_82 : decode cX6_readFork 82 = .ok (.aload_n 0, 1) := by decide +kernel
theorem dX6_readFork_83 : decode cX6_readFork 83 = .ok (.getfield 26, 3) := by decide +kernel
theorem dX6_readFork_86 : decode cX6_readFork 86 = .ok (.getfield 141, 3) := by decide +kernel
theorem dX6_readFork_89 : decode cX6_readFork 89 = .ok (.iload_n 1, 1) := by decide +kernel
theorem dX6_readFork_90 : decode cX6_readFork 90 = .ok (.aload_n 0, 1) := by decide +kernel
theorem dX6_readFork_91 : decode cX6_readFork 91 = .ok (.iconst 0, 1) := by decide +kernel
theorem dX6_readFork_92 : decode cX6_readFork 92 = .ok (.bipush 9, 2) := by decide +kernel
theorem dX6_readFork_94 : decode cX6_readFork 94 = .ok (.invokevirtual 91, 3) := by decide +kernel
theorem dX6_readFork_97 : decode cX6_readFork 97 = .ok (.iastore, 1) := by decide +kernel
theorem dX6_readFork_98 : decode cX6_readFork 98 = .ok (.aload_n 0, 1) := by decide +kernel
theorem dX6_readFork_99 : decode cX6_readFork 99 = .ok (.getfield 26, 3) := by decide +kernel
theorem dX6_readFork_102 : decode cX6_readFork 102 = .ok (.getfield 144, 3) := by decide +kernel
theorem dX6_readFork_105 : decode cX6_readFork 105 = .ok (.iload_n 1, 1) := by decide +kernel
theorem dX6_readFork_106 : decode cX6_readFork 106 = .ok (.aload_n 0, 1) := by decide +kernel
theorem dX6_readFork_107 : decode cX6_readFork 107 = .ok (.iconst 0, 1) := by decide +kernel
theorem dX6_readFork_108 : decode cX6_readFork 108 = .ok (.iconst 3, 1) := by decide +kernel
theorem dX6_readFork_109 : decode cX6_readFork 109 = .ok (.invokevirtual 91, 3) := by decide +kernel
theorem dX6_readFork_112 : decode cX6_readFork 112 = .ok (.iastore, 1) := by decide +kernel
theorem dX6_readFork_113 : decode cX6_readFork 113 = .ok (.aload_n 0, 1) := by decide +kernel
theorem dX6_readFork_114 : decode cX6_readFork 114 = .ok (.getfield 26, 3) := by decide +kernel
theorem dX6_readFork_117 : decode cX6_readFork 117 = .ok (.dup, 1) := by decide +kernel
theorem dX6_readFork_118 : decode cX6_readFork 118 = .ok (.getfield 120, 3) := by decide +kernel
theorem dX6_readFork_121 : decode cX6_readFork 121 = .ok (.iconst 1, 1) := by decide +kernel
theorem dX6_readFork_122 : decode cX6_readFork 122 = .ok (.iadd, 1) := by decide +kernel
theorem dX6_readFork_123 : decode cX6_readFork 123 = .ok (.putfield 120, 3) := by decide +kernel
theorem dX6_readFork_126 : decode cX6_readFork 126 = .ok (.return_, 1) := by decide +kernel
theorem dX6_readMotion_0 : decode cX6_readMotion 0 = .ok (.aload_n 0, 1) := by decide +kernel
theorem dX6_readMotion_1 : decode cX6_readMotion 1 = .ok (.getfield 26, 3) := by decide +kernel
theorem dX6_readMotion_4 : decode cX6_readMotion 4 = .ok (.getfield 147, 3) := by decide +kernel
theorem dX6_readMotion_7 : decode cX6_readMotion 7 = .ok (.istore_n 1, 1) := by decide +kernel
theorem dX6_readMotion_8 : decode cX6_readMotion 8 = .ok (.iload_n 1, 1) := by decide +kernel
theorem dX6_readMotion_9 : decode cX6_readMotion 9 = .ok (.bipush 10, 2) := by decide +kernel
theorem dX6_readMotion_11 : decode cX6_readMotion 11 = .ok (.if_icmp .lt 9, 3) := by decide +kernel
theorem dX6_readMotion_14 : decode cX6_readMotion 14 = .ok (.aload_n 0, 1) := by decide +kernel
theorem dX6_readMotion_15 : decode cX6_readMotion 15 = .ok (.iconst 2, 1) := by decide +kernel
theorem dX6_readMotion_16 : decode cX6_readMotion 16 = .ok (.invokevirtual 113, 3) := by decide +kernel
theorem dX6_readMotion_19 : decode cX6_readMotion 19 = .ok (.return_, 1) := by decide +kernel
theorem dX6_readMotion_20 : decode cX6_readMotion 20 = .ok (.aload_n 0, 1) := by decide +kernel
theorem dX6_readMotion_21 : decode cX6_readMotion 21 = .ok (.invokevirtual 70, 3) := by decide +kernel
theorem dX6_readMotion_24 : decode cX6_readMotion 24 = .ok (.aload_n 0, 1) := by decide +kernel
theorem dX6_readMotion_25 : decode cX6_readMotion 25 = .ok (.getfield 26, 3) := by decide +kernel
theorem dX6_readMotion_28 : decode cX6_readMotion 28 = .ok (.getfield 150, 3) := by decide +kernel
theorem dX6_readMotion_31 : decode cX6_readMotion 31 = .ok (.iload_n 1, 1) := by decide +kernel
theorem dX6_readMotion_32 : decode cX6_readMotion 32 = .ok (.aload_n 0, 1) := by decide +kernel
theorem dX6_readMotion_33 : decode cX6_readMotion 33 = .ok (.aload_n 0, 1) := by decide +kernel
theorem dX6_readMotion_34 : decode cX6_readMotion 34 = .ok (.getfield 26, 3) := by decide +kernel
theorem dX6_readMotion_37 : decode cX6_readMotion 37 = .ok (.aload_n 0, 1) := by decide +kernel
theorem dX6_readMotion_38 : decode cX6_readMotion 38 = .ok (.getfield 126, 3) := by decide +kernel
theorem dX6_readMotion_41 : decode cX6_readMotion 41 = .ok (.invokevirtual 153, 3) := by decide +kernel
theorem dX6_readMotion_44 : decode cX6_readMotion 44 = .ok (.invokevirtual 132, 3) := by decide +kernel
theorem dX6_readMotion_47 : decode cX6_readMotion 47 = .ok (.iastore, 1) := by decide +kernel
theorem dX6_readMotion_48 : decode cX6_readMotion 48 = .ok (.aload_n 0, 1) := by decide +kernel
theorem dX6_readMotion_49 : decode cX6_readMotion 49 = .ok (.getfield 26, 3) := by decide +kernel
theorem dX6_readMotion_52 : decode cX6_readMotion 52 = .ok (.getfield 156, 3) := by decide +kernel
theorem dX6_readMotion_55 : decode cX6_readMotion 55 = .ok (.iload_n 1, 1) := by decide +kernel
theorem dX6_readMotion_56 : decode cX6_readMotion 56 = .ok (.aload_n 0, 1) := by decide +kernel
theorem dX6_readMotion_57 : decode cX6_readMotion 57 = .ok (.bipush 100, 2) := by decide +kernel
theorem dX6_readMotion_59 : decode cX6_readMotion 59 = .ok (.sipush 999, 3) := by decide +kernel
theorem dX6_readMotion_62 : decode cX6_readMotion 62 = .ok (.invokevirtual 91, 3) := by decide +kernel
theorem dX6_readMotion_65 : decode cX6_readMotion 65 = .ok (.iastore, 1) := by decide +kernel
theorem dX6_readMotion_66 : decode cX6_readMotion 66 = .ok (.aload_n 0, 1) := by decide +kernel
theorem dX6_readMotion_67 : decode cX6_readMotion 67 = .ok (.getfield 26, 3) := by decide +kernel
theorem dX6_readMotion_70 : decode cX6_readMotion 70 = .ok (.getfield 159, 3) := by decide +kernel
theorem dX6_readMotion_73 : decode cX6_readMotion 73 = .ok (.iload_n 1, 1) := by decide +kernel
theorem dX6_readMotion_74 : decode cX6_readMotion 74 = .ok (.aload_n 0, 1) := by decide +kernel
theorem dX6_readMotion_75 : decode cX6_readMotion 75 = .ok (.iconst 0, 1) := by decide +kernel
theorem dX6_readMotion_76 : decode cX6_readMotion 76 = .ok (.bipush 99, 2) := by decide +kernel
theorem dX6_readMotion_78 : decode cX6_readMotion 78 = .ok (.invokevirtual 91, 3) := by decide +kernel
theorem dX6_readMotion_81 : decode cX6_readMotion 81 = .ok (.iastore, 1) := by decide +kernel
theorem dX6_readMotion_82 : decode cX6_readMotion 82 = .ok (.aload_n 0, 1) := by decide +kernel
theorem dX6_readMotion_83 : decode cX6_readMotion 83 = .ok (.getfield 26, 3) := by decide +kernel
theorem dX6_readMotion_86 : decode cX6_readMotion 86 = .ok (.dup, 1) := by decide +kernel
theorem dX6_readMotion_87 : decode cX6_readMotion 87 = .ok (.getfield 147, 3) := by decide +kernel
theorem dX6_readMotion_90 : decode cX6_readMotion 90 = .ok (.iconst 1, 1) := by decide +kernel
theorem dX6_readMotion_91 : decode cX6_readMotion 91 = .ok (.iadd, 1) := by decide +kernel
theorem dX6_readMotion_92 : decode cX6_readMotion 92 = .ok (.putfield 147, 3) := by decide +kernel
theorem dX6_readMotion_95 : decode cX6_readMotion 95 = .ok (.return_, 1) := by decide +kernel
theorem dX6_newName_0 : decode cX6_newName 0 = .ok (.aload_n 0, 1) := by decide +kernel
theorem dX6_newName_1 : decode cX6_newName 1 = .ok (.getfield 126, 3) := by decide +kernel
theorem dX6_newName_4 : decode cX6_newName 4 = .ok (.istore_n 2, 1) := by decide +kernel
theorem dX6_newName_5 : decode cX6_newName 5 = .ok (.aload_n 0, 1) := by decide +kernel
theorem dX6_newName_6 : decode cX6_newName 6 = .ok (.getfield 73, 3) := by decide +kernel
theorem dX6_newName_9 : decode cX6_newName 9 = .ok (.iconst 3, 1) := by decide +kernel
theorem dX6_newName_10 : decode cX6_newName 10 = .ok (.if_icmp .eq 11, 3) := by decide +kernel
theorem dX6_newName_13 : decode cX6_newName 13 = .ok (.aload_n 0, 1) := by decide +kernel
theorem dX6_newName_14 : decode cX6_newName 14 = .ok (.iconst 1, 1) := by decide +kernel
theorem dX6_newName_15 : decode cX6_newName 15 = .ok (.invokevirtual 113, 3) := by decide +kernel
theorem dX6_newName_18 : decode cX6_newName 18 = .ok (.goto 20, 3) := by decide +kernel
theorem dX6_newName_21 : decode cX6_newName 21 = .ok (.iload_n 1, 1) := by decide +kernel
theorem dX6_newName_22 : decode cX6_newName 22 = .ok (.iconst (-1), 1) := by decide +kernel
theorem dX6_newName_23 : decode cX6_newName 23 = .ok (.if_icmp .eq 11, 3) := by decide +kernel
theorem dX6_newName_26 : decode cX6_newName 26 = .ok (.aload_n 0, 1) := by decide +kernel
theorem dX6_newName_27 : decode cX6_newName 27 = .ok (.iconst 3, 1) := by decide +kernel
theorem dX6_newName_28 : decode cX6_newName 28 = .ok (.invokevirtual 113, 3) := by decide +kernel
theorem dX6_newName_31 : decode cX6_newName 31 = .ok (.goto 7, 3) := by decide +kernel
theorem dX6_newName_34 : decode cX6_newName 34 = .ok (.aload_n 0, 1) := by decide +kernel
theorem dX6_newName_35 : decode cX6_newName 35 = .ok (.invokevirtual 70, 3) := by decide +kernel
theorem dX6_newName_38 : decode cX6_newName 38 = .ok (.iload_n 2, 1) := by decide +kernel
theorem dX6_newName_39 : decode cX6_newName 39 = .ok (.ireturn, 1) := by decide +kernel
theorem dX6_readCrack_0 : decode cX6_readCrack 0 = .ok (.aload_n 0, 1) := by decide +kernel
theorem dX6_readCrack_1 : decode cX6_readCrack 1 = .ok (.invokevirtual 70, 3) := by decide +kernel
theorem dX6_readCrack_4 : decode cX6_readCrack 4 = .ok (.aload_n 0, 1) := by decide +kernel
theorem dX6_readCrack_5 : decode cX6_readCrack 5 = .ok (.getfield 26, 3) := by decide +kernel
theorem dX6_readCrack_8 : decode cX6_readCrack 8 = .ok (.aload_n 0, 1) := by decide +kernel
theorem dX6_readCrack_9 : decode cX6_readCrack 9 = .ok (.getfield 126, 3) := by decide +kernel
theorem dX6_readCrack_12 : decode cX6_readCrack 12 = .ok (.invokevirtual 129, 3) := by decide +kernel
theorem dX6_readCrack_15 : decode cX6_readCrack 15 = .ok (.istore_n 1, 1) := by decide +kernel
theorem dX6_readCrack_16 : decode cX6_readCrack 16 = .ok (.aload_n 0, 1) := by decide +kernel
theorem dX6_readCrack_17 : decode cX6_readCrack 17 = .ok (.getfield 73, 3) := by decide +kernel
theorem dX6_readCrack_20 : decode cX6_readCrack 20 = .ok (.iconst 3, 1) := by decide +kernel
theorem dX6_readCrack_21 : decode cX6_readCrack 21 = .ok (.if_icmp .eq 11, 3) := by decide +kernel
theorem dX6_readCrack_24 : decode cX6_readCrack 24 = .ok (.aload_n 0, 1) := by decide +kernel
theorem dX6_readCrack_25 : decode cX6_readCrack 25 = .ok (.iconst 1, 1) := by decide +kernel
theorem dX6_readCrack_26 : decode cX6_readCrack 26 = .ok (.invokevirtual 113, 3) := by decide +kernel
theorem dX6_readCrack_29 : decode cX6_readCrack 29 = .ok (.goto 58, 3) := by decide +kernel
theorem dX6_readCrack_32 : decode cX6_readCrack 32 = .ok (.iload_n 1, 1) := by decide +kernel
theorem dX6_readCrack_33 : decode cX6_readCrack 33 = .ok (.iconst (-1), 1) := by decide +kernel
theorem dX6_readCrack_34 : decode cX6_readCrack 34 = .ok (.if_icmp .ne 11, 3) := by decide +kernel
theorem dX6_readCrack_37 : decode cX6_readCrack 37 = .ok (.aload_n 0, 1) := by decide +kernel
theorem dX6_readCrack_38 : decode cX6_readCrack 38 = .ok (.iconst 4, 1) := by decide +kernel
theorem dX6_readCrack_39 : decode cX6_readCrack 39 = .ok (.invokevirtual 113, 3) := by decide +kernel
theorem dX6_readCrack_42 : decode cX6_readCrack 42 = .ok (.goto 45, 3) := by decide +kernel
theorem dX6_readCrack_45 : decode cX6_readCrack 45 = .ok (.aload_n 0, 1) := by decide +kernel
theorem dX6_readCrack_46 : decode cX6_readCrack 46 = .ok (.getfield 26, 3) := by decide +kernel
theorem dX6_readCrack_49 : decode cX6_readCrack 49 = .ok (.getfield 162, 3) := by decide +kernel
theorem dX6_readCrack_52 : decode cX6_readCrack 52 = .ok (.iload_n 1, 1) := by decide +kernel
theorem dX6_readCrack_53 : decode cX6_readCrack 53 = .ok (.invokestatic 165, 3) := by decide +kernel
theorem dX6_readCrack_56 : decode cX6_readCrack 56 = .ok (.iconst 1, 1) := by decide +kernel
theorem dX6_readCrack_57 : decode cX6_readCrack 57 = .ok (.if_icmp .ne 11, 3) := by decide +kernel
theorem dX6_readCrack_60 : decode cX6_readCrack 60 = .ok (.aload_n 0, 1) := by decide +kernel
theorem dX6_readCrack_61 : decode cX6_readCrack 61 = .ok (.iconst 3, 1) := by decide +kernel
theorem dX6_readCrack_62 : decode cX6_readCrack 62 = .ok (.invokevirtual 113, 3) := by decide +kernel
theorem dX6_readCrack_65 : decode cX6_readCrack 65 = .ok (.goto 22, 3) := by decide +kernel
theorem dX6_readCrack_68 : decode cX6_readCrack 68 = .ok (.aload_n 0, 1) := by decide +kernel
theorem dX6_readCrack_69 : decode cX6_readCrack 69 = .ok (.getfield 26, 3) := by decide +kernel
theorem dX6_readCrack_72 : decode cX6_readCrack 72 = .ok (.dup, 1) := by decide +kernel
theorem dX6_readCrack_73 : decode cX6_readCrack 73 = .ok (.getfield 162, 3) := by decide +kernel
theorem dX6_readCrack_76 : decode cX6_readCrack 76 = .ok (.iconst 1, 1) := by decide +kernel
theorem dX6_readCrack_77 : decode cX6_readCrack 77 = .ok (.iload_n 1, 1) := by decide +kernel
theorem dX6_readCrack_78 : decode cX6_readCrack 78 = .ok (.ishl, 1) := by decide +kernel
theorem dX6_readCrack_79 : decode cX6_readCrack 79 = .ok (.ior, 1) := by decide +kernel
theorem dX6_readCrack_80 : decode cX6_readCrack 80 = .ok (.putfield 162, 3) := by decide +kernel
theorem dX6_readCrack_83 : decode cX6_readCrack 83 = .ok (.aload_n 0, 1) := by decide +kernel
theorem dX6_readCrack_84 : decode cX6_readCrack 84 = .ok (.invokevirtual 70, 3) := by decide +kernel
theorem dX6_readCrack_87 : decode cX6_readCrack 87 = .ok (.return_, 1) := by decide +kernel
theorem dX6_readWet_0 : decode cX6_readWet 0 = .ok (.aload_n 0, 1) := by decide +kernel
theorem dX6_readWet_1 : decode cX6_readWet 1 = .ok (.getfield 26, 3) := by decide +kernel
theorem dX6_readWet_4 : decode cX6_readWet 4 = .ok (.getfield 168, 3) := by decide +kernel
theorem dX6_readWet_7 : decode cX6_readWet 7 = .ok (.bipush 8, 2) := by decide +kernel
theorem dX6_readWet_9 : decode cX6_readWet 9 = .ok (.if_icmp .lt 9, 3) := by decide +kernel
theorem dX6_readWet_12 : decode cX6_readWet 12 = .ok (.aload_n 0, 1) := by decide +kernel
theorem dX6_readWet_13 : decode cX6_readWet 13 = .ok (.iconst 2, 1) := by decide +kernel
theorem dX6_readWet_14 : decode cX6_readWet 14 = .ok (.invokevirtual 113, 3) := by decide +kernel
theorem dX6_readWet_17 : decode cX6_readWet 17 = .ok (.return_, 1) := by decide +kernel
theorem dX6_readWet_18 : decode cX6_readWet 18 = .ok (.aload_n 0, 1) := by decide +kernel
theorem dX6_readWet_19 : decode cX6_readWet 19 = .ok (.invokevirtual 70, 3) := by decide +kernel
theorem dX6_readWet_22 : decode cX6_readWet 22 = .ok (.aload_n 0, 1) := by decide +kernel
theorem dX6_readWet_23 : decode cX6_readWet 23 = .ok (.getfield 26, 3) := by decide +kernel
theorem dX6_readWet_26 : decode cX6_readWet 26 = .ok (.getfield 171, 3) := by decide +kernel
theorem dX6_readWet_29 : decode cX6_readWet 29 = .ok (.aload_n 0, 1) := by decide +kernel
theorem dX6_readWet_30 : decode cX6_readWet 30 = .ok (.getfield 26, 3) := by decide +kernel
theorem dX6_readWet_33 : decode cX6_readWet 33 = .ok (.getfield 168, 3) := by decide +kernel
theorem dX6_readWet_36 : decode cX6_readWet 36 = .ok (.aload_n 0, 1) := by decide +kernel
theorem dX6_readWet_37 : decode cX6_readWet 37 = .ok (.iconst 0, 1) := by decide +kernel
theorem dX6_readWet_38 : decode cX6_readWet 38 = .ok (.bipush 9, 2) := by decide +kernel
theorem dX6_readWet_40 : decode cX6_readWet 40 = .ok (.invokevirtual 91, 3) := by decide +kernel
theorem dX6_readWet_43 : decode cX6_readWet 43 = .ok (.iastore, 1) := by decide +kernel
theorem dX6_readWet_44 : decode cX6_readWet 44 = .ok (.aload_n 0, 1) := by decide +kernel
theorem dX6_readWet_45 : decode cX6_readWet 45 = .ok (.getfield 26, 3) := by decide +kernel
theorem dX6_readWet_48 : decode cX6_readWet 48 = .ok (.dup, 1) := by decide +kernel
theorem dX6_readWet_49 : decode cX6_readWet 49 = .ok (.getfield 168, 3) := by decide +kernel
theorem dX6_readWet_52 : decode cX6_readWet 52 = .ok (.iconst 1, 1) := by decide +kernel
theorem dX6_readWet_53 : decode cX6_readWet 53 = .ok (.iadd, 1) := by decide +kernel
theorem dX6_readWet_54 : decode cX6_readWet 54 = .ok (.putfield 168, 3) := by decide +kernel
theorem dX6_readWet_57 : decode cX6_readWet 57 = .ok (.return_, 1) := by decide +kernel
theorem dX6_passOnce_0 : decode cX6_passOnce 0 = .ok (.iconst 1, 1) := by decide +kernel
theorem dX6_passOnce_1 : decode cX6_passOnce 1 = .ok (.aload_n 0, 1) := by decide +kernel
theorem dX6_passOnce_2 : decode cX6_passOnce 2 = .ok (.getfield 73, 3) := by decide +kernel
theorem dX6_passOnce_5 : decode cX6_passOnce 5 = .ok (.bipush 17, 2) := by decide +kernel
theorem dX6_passOnce_7 : decode cX6_passOnce 7 = .ok (.isub, 1) := by decide +kernel
theorem dX6_passOnce_8 : decode cX6_passOnce 8 = .ok (.ishl, 1) := by decide +kernel
theorem dX6_passOnce_9 : decode cX6_passOnce 9 = .ok (.istore_n 1, 1) := by decide +kernel
theorem dX6_passOnce_10 : decode cX6_passOnce 10 = .ok (.aload_n 0, 1) := by decide +kernel
theorem dX6_passOnce_11 : decode cX6_passOnce 11 = .ok (.getfield 64, 3) := by decide +kernel
theorem dX6_passOnce_14 : decode cX6_passOnce 14 = .ok (.iload_n 1, 1) := by decide +kernel
theorem dX6_passOnce_15 : decode cX6_passOnce 15 = .ok (.iand, 1) := by decide +kernel
theorem dX6_passOnce_16 : decode cX6_passOnce 16 = .ok (.ifCond .eq 11, 3) := by decide +kernel
theorem dX6_passOnce_19 : decode cX6_passOnce 19 = .ok (.aload_n 0, 1) := by decide +kernel
theorem dX6_passOnce_20 : decode cX6_passOnce 20 = .ok (.iconst 3, 1) := by decide +kernel
theorem dX6_passOnce_21 : decode cX6_passOnce 21 = .ok (.invokevirtual 113, 3) := by decide +kernel
theorem dX6_passOnce_24 : decode cX6_passOnce 24 = .ok (.goto 17, 3) := by decide +kernel
theorem dX6_passOnce_27 : decode cX6_passOnce 27 = .ok (.aload_n 0, 1) := by decide +kernel
theorem dX6_passOnce_28 : decode cX6_passOnce 28 = .ok (.dup, 1) := by decide +kernel
theorem dX6_passOnce_29 : decode cX6_passOnce 29 = .ok (.getfield 64, 3) := by decide +kernel
theorem dX6_passOnce_32 : decode cX6_passOnce 32 = .ok (.iload_n 1, 1) := by decide +kernel
theorem dX6_passOnce_33 : decode cX6_passOnce 33 = .ok (.ior, 1) := by decide +kernel
theorem dX6_passOnce_34 : decode cX6_passOnce 34 = .ok (.putfield 64, 3) := by decide +kernel
theorem dX6_passOnce_37 : decode cX6_passOnce 37 = .ok (.aload_n 0, 1) := by decide +kernel
theorem dX6_passOnce_38 : decode cX6_passOnce 38 = .ok (.invokevirtual 70, 3) := by decide +kernel
theorem dX6_passOnce_41 : decode cX6_passOnce 41 = .ok (.return_, 1) := by decide +kernel
theorem dX6_pass_0 : decode cX6_pass 0 = .ok (.aload_n 0, 1) := by decide +kernel
theorem dX6_pass_1 : decode cX6_pass 1 = .ok (.getfield 67, 3) := by decide +kernel
theorem dX6_pass_4 : decode cX6_pass 4 = .ok (.ifCond .eq 4, 3) := by decide +kernel
theorem dX6_pass_7 : decode cX6_pass 7 = .ok (.return_, 1) := by decide +kernel
theorem dX6_pass_8 : decode cX6_pass 8 = .ok (.aload_n 0, 1) := by decide +kernel
theorem dX6_pass_9 : decode cX6_pass 9 = .ok (.getfield 73, 3) := by decide +kernel
theorem dX6_pass_12 : decode cX6_pass 12 = .ok (.iload_n 1, 1) := by decide +kernel
theorem dX6_pass_13 : decode cX6_pass 13 = .ok (.if_icmp .ne 10, 3) := by decide +kernel
theorem dX6_pass_16 : decode cX6_pass 16 = .ok (.aload_n 0, 1) := by decide +kernel
theorem dX6_pass_17 : decode cX6_pass 17 = .ok (.invokevirtual 70, 3) := by decide +kernel
theorem dX6_pass_20 : decode cX6_pass 20 = .ok (.goto 8, 3) := by decide +kernel
theorem dX6_pass_23 : decode cX6_pass 23 = .ok (.aload_n 0, 1) := by decide +kernel
theorem dX6_pass_24 : decode cX6_pass 24 = .ok (.iconst 1, 1) := by decide +kernel
theorem dX6_pass_25 : decode cX6_pass 25 = .ok (.invokevirtual 113, 3) := by decide +kernel
theorem dX6_pass_28 : decode cX6_pass 28 = .ok (.return_, 1) := by decide +kernel
theorem dX6_number_0 : decode cX6_number 0 = .ok (.aload_n 0, 1) := by decide +kernel
theorem dX6_number_1 : decode cX6_number 1 = .ok (.getfield 67, 3) := by decide +kernel
theorem dX6_number_4 : decode cX6_number 4 = .ok (.ifCond .eq 5, 3) := by decide +kernel
theorem dX6_number_7 : decode cX6_number 7 = .ok (.iconst 0, 1) := by decide +kernel
theorem dX6_number_8 : decode cX6_number 8 = .ok (.ireturn, 1) := by decide +kernel
theorem dX6_number_9 : decode cX6_number 9 = .ok (.aload_n 0, 1) := by decide +kernel
theorem dX6_number_10 : decode cX6_number 10 = .ok (.getfield 126, 3) := by decide +kernel
theorem dX6_number_13 : decode cX6_number 13 = .ok (.istore_n 3, 1) := by decide +kernel
theorem dX6_number_14 : decode cX6_number 14 = .ok (.aload_n 0, 1) := by decide +kernel
theorem dX6_number_15 : decode cX6_number 15 = .ok (.getfield 73, 3) := by decide +kernel
theorem dX6_number_18 : decode cX6_number 18 = .ok (.iconst 2, 1) := by decide +kernel
theorem dX6_number_19 : decode cX6_number 19 = .ok (.if_icmp .eq 11, 3) := by decide +kernel
theorem dX6_number_22 : decode cX6_number 22 = .ok (.aload_n 0, 1) := by decide +kernel
theorem dX6_number_23 : decode cX6_number 23 = .ok (.iconst 1, 1) := by decide +kernel
theorem dX6_number_24 : decode cX6_number 24 = .ok (.invokevirtual 113, 3) := by decide +kernel
theorem dX6_number_27 : decode cX6_number 27 = .ok (.goto 25, 3) := by decide +kernel
theorem dX6_number_30 : decode cX6_number 30 = .ok (.iload_n 3, 1) := by decide +kernel
theorem dX6_number_31 : decode cX6_number 31 = .ok (.iload_n 1, 1) := by decide +kernel
theorem dX6_number_32 : decode cX6_number 32 = .ok (.if_icmp .lt 8, 3) := by decide +kernel
theorem dX6_number_35 : decode cX6_number 35 = .ok (.iload_n 3, 1) := by decide +kernel
theorem dX6_number_36 : decode cX6_number 36 = .ok (.iload_n 2, 1) := by decide +kernel
theorem dX6_number_37 : decode cX6_number 37 = .ok (.if_icmp .le 11, 3) := by decide +kernel
theorem dX6_number_40 : decode cX6_number 40 = .ok (.aload_n 0, 1) := by decide +kernel
theorem dX6_number_41 : decode cX6_number 41 = .ok (.iconst 2, 1) := by decide +kernel
theorem dX6_number_42 : decode cX6_number 42 = .ok (.invokevirtual 113, 3) := by decide +kernel
theorem dX6_number_45 : decode cX6_number 45 = .ok (.goto 7, 3) := by decide +kernel
theorem dX6_number_48 : decode cX6_number 48 = .ok (.aload_n 0, 1) := by decide +kernel
theorem dX6_number_49 : decode cX6_number 49 = .ok (.invokevirtual 70, 3) := by decide +kernel
theorem dX6_number_52 : decode cX6_number 52 = .ok (.iload_n 3, 1) := by decide +kernel
theorem dX6_number_53 : decode cX6_number 53 = .ok (.ireturn, 1) := by decide +kernel
theorem dX6_readLaw_0 : decode cX6_readLaw 0 = .ok (.aload_n 0, 1) := by decide +kernel
theorem dX6_readLaw_1 : decode cX6_readLaw 1 = .ok (.invokevirtual 70, 3) := by decide +kernel
theorem dX6_readLaw_4 : decode cX6_readLaw 4 = .ok (.aload_n 0, 1) := by decide +kernel
theorem dX6_readLaw_5 : decode cX6_readLaw 5 = .ok (.getfield 73, 3) := by decide +kernel
theorem dX6_readLaw_8 : decode cX6_readLaw 8 = .ok (.bipush 26, 2) := by decide +kernel
theorem dX6_readLaw_10 : decode cX6_readLaw 10 = .ok (.isub, 1) := by decide +kernel
theorem dX6_readLaw_11 : decode cX6_readLaw 11 = .ok (.istore_n 1, 1) := by decide +kernel
theorem dX6_readLaw_12 : decode cX6_readLaw 12 = .ok (.aload_n 0, 1) := by decide +kernel
theorem dX6_readLaw_13 : decode cX6_readLaw 13 = .ok (.getfield 73, 3) := by decide +kernel
theorem dX6_readLaw_16 : decode cX6_readLaw 16 = .ok (.bipush 26, 2) := by decide +kernel
theorem dX6_readLaw_18 : decode cX6_readLaw 18 = .ok (.if_icmp .lt 12, 3) := by decide +kernel
theorem dX6_readLaw_21 : decode cX6_readLaw 21 = .ok (.aload_n 0, 1) := by decide +kernel
theorem dX6_readLaw_22 : decode cX6_readLaw 22 = .ok (.getfield 73, 3) := by decide +kernel
theorem dX6_readLaw_25 : decode cX6_readLaw 25 = .ok (.bipush 28, 2) := by decide +kernel
theorem dX6_readLaw_27 : decode cX6_readLaw 27 = .ok (.if_icmp .le 11, 3) := by decide +kernel
theorem dX6_readLaw_30 : decode cX6_readLaw 30 = .ok (.aload_n 0, 1) := by decide +kernel
theorem dX6_readLaw_31 : decode cX6_readLaw 31 = .ok (.iconst 1, 1) := by decide +kernel
theorem dX6_readLaw_32 : decode cX6_readLaw 32 = .ok (.invokevirtual 113, 3) := by decide +kernel
theorem dX6_readLaw_35 : decode cX6_readLaw 35 = .ok (.goto 56, 3) := by decide +kernel
theorem dX6_readLaw_38 : decode cX6_readLaw 38 = .ok (.aload_n 0, 1) := by decide +kernel
theorem dX6_readLaw_39 : decode cX6_readLaw 39 = .ok (.getfield 26, 3) := by decide +kernel
theorem dX6_readLaw_42 : decode cX6_readLaw 42 = .ok (.getfield 174, 3) := by decide +kernel
theorem dX6_readLaw_45 : decode cX6_readLaw 45 = .ok (.iload_n 1, 1) := by decide +kernel
theorem dX6_readLaw_46 : decode cX6_readLaw 46 = .ok (.invokevirtual 178, 3) := by decide +kernel
theorem dX6_readLaw_49 : decode cX6_readLaw 49 = .ok (.ifCond .eq 11, 3) := by decide +kernel
theorem dX6_readLaw_52 : decode cX6_readLaw 52 = .ok (.aload_n 0, 1) := by decide +kernel
theorem dX6_readLaw_53 : decode cX6_readLaw 53 = .ok (.iconst 3, 1) := by decide +kernel
theorem dX6_readLaw_54 : decode cX6_readLaw 54 = .ok (.invokevirtual 113, 3) := by decide +kernel
theorem dX6_readLaw_57 : decode cX6_readLaw 57 = .ok (.goto 34, 3) := by decide +kernel
theorem dX6_readLaw_60 : decode cX6_readLaw 60 = .ok (.aload_n 0, 1) := by decide +kernel
theorem dX6_readLaw_61 : decode cX6_readLaw 61 = .ok (.invokevirtual 70, 3) := by decide +kernel
theorem dX6_readLaw_64 : decode cX6_readLaw 64 = .ok (.aload_n 0, 1) := by decide +kernel
theorem dX6_readLaw_65 : decode cX6_readLaw 65 = .ok (.getfield 26, 3) := by decide +kernel
theorem dX6_readLaw_68 : decode cX6_readLaw 68 = .ok (.getfield 174, 3) := by decide +kernel
theorem dX6_readLaw_71 : decode cX6_readLaw 71 = .ok (.iload_n 1, 1) := by decide +kernel
theorem dX6_readLaw_72 : decode cX6_readLaw 72 = .ok (.invokevirtual 184, 3) := by decide +kernel
theorem dX6_readLaw_75 : decode cX6_readLaw 75 = .ok (.aload_n 0, 1) := by decide +kernel
theorem dX6_readLaw_76 : decode cX6_readLaw 76 = .ok (.iconst 0, 1) := by decide +kernel
theorem dX6_readLaw_77 : decode cX6_readLaw 77 = .ok (.invokevirtual 187, 3) := by decide +kernel
theorem dX6_readLaw_80 : decode cX6_readLaw 80 = .ok (.aload_n 0, 1) := by decide +kernel
theorem dX6_readLaw_81 : decode cX6_readLaw 81 = .ok (.getfield 26, 3) := by decide +kernel
theorem dX6_readLaw_84 : decode cX6_readLaw 84 = .ok (.getfield 174, 3) := by decide +kernel
theorem dX6_readLaw_87 : decode cX6_readLaw 87 = .ok (.iload_n 1, 1) := by decide +kernel
theorem dX6_readLaw_88 : decode cX6_readLaw 88 = .ok (.invokevirtual 190, 3) := by decide +kernel
theorem dX6_readLaw_91 : decode cX6_readLaw 91 = .ok (.return_, 1) := by decide +kernel
theorem dX6_readEither_0 : decode cX6_readEither 0 = .ok (.aload_n 0, 1) := by decide +kernel
theorem dX6_readEither_1 : decode cX6_readEither 1 = .ok (.iload_n 1, 1) := by decide +kernel
theorem dX6_readEither_2 : decode cX6_readEither 2 = .ok (.invokevirtual 193, 3) := by decide +kernel
theorem dX6_readEither_5 : decode cX6_readEither 5 = .ok (.iconst 0, 1) := by decide +kernel
theorem dX6_readEither_6 : decode cX6_readEither 6 = .ok (.istore_n 2, 1) := by decide +kernel
theorem dX6_readEither_7 : decode cX6_readEither 7 = .ok (.iload_n 2, 1) := by decide +kernel
theorem dX6_readEither_8 : decode cX6_readEither 8 = .ok (.bipush 64, 2) := by decide +kernel
theorem dX6_readEither_10 : decode cX6_readEither 10 = .ok (.if_icmp .gt 47, 3) := by decide +kernel
theorem dX6_readEither_13 : decode cX6_readEither 13 = .ok (.aload_n 0, 1) := by decide +kernel
theorem dX6_readEither_14 : decode cX6_readEither 14 = .ok (.getfield 67, 3) := by decide +kernel
theorem dX6_readEither_17 : decode cX6_readEither 17 = .ok (.ifCond .ne 40, 3) := by decide +kernel
theorem dX6_readEither_20 : decode cX6_readEither 20 = .ok (.aload_n 0, 1) := by decide +kernel
theorem dX6_readEither_21 : decode cX6_readEither 21 = .ok (.getfield 73, 3) := by decide +kernel
theorem dX6_readEither_24 : decode cX6_readEither 24 = .ok (.bipush 29, 2) := by decide +kernel
theorem dX6_readEither_26 : decode cX6_readEither 26 = .ok (.if_icmp .ne 31, 3) := by decide +kernel
theorem dX6_readEither_29 : decode cX6_readEither 29 = .ok (.aload_n 0, 1) := by decide +kernel
theorem dX6_readEither_30 : decode cX6_readEither 30 = .ok (.invokevirtual 196, 3) := by decide +kernel
theorem dX6_readEither_33 : decode cX6_readEither 33 = .ok (.aload_n 0, 1) := by decide +kernel
theorem dX6_readEither_34 : decode cX6_readEither 34 = .ok (.iload_n 1, 1) := by decide +kernel
theorem dX6_readEither_35 : decode cX6_readEither 35 = .ok (.invokevirtual 193, 3) := by decide +kernel
theorem dX6_readEither_38 : decode cX6_readEither 38 = .ok (.aload_n 0, 1) := by decide +kernel
theorem dX6_readEither_39 : decode cX6_readEither 39 = .ok (.getfield 26, 3) := by decide +kernel
theorem dX6_readEither_42 : decode cX6_readEither 42 = .ok (.getfield 174, 3) := by decide +kernel
theorem dX6_readEither_45 : decode cX6_readEither 45 = .ok (.bipush 29, 2) := by decide +kernel
theorem dX6_readEither_47 : decode cX6_readEither 47 = .ok (.iconst 0, 1) := by decide +kernel
theorem dX6_readEither_48 : decode cX6_readEither 48 = .ok (.invokevirtual 199, 3) := by decide +kernel
theorem dX6_readEither_51 : decode cX6_readEither 51 = .ok (.iinc 2 1, 3) := by decide +kernel
theorem dX6_readEither_54 : decode cX6_readEither 54 = .ok (.goto (-47), 3) := by decide +kernel
theorem dX6_readEither_57 : decode cX6_readEither 57 = .ok (.return_, 1) := by decide +kernel
theorem dX6_readBoth_0 : decode cX6_readBoth 0 = .ok (.aload_n 0, 1) := by decide +kernel
theorem dX6_readBoth_1 : decode cX6_readBoth 1 = .ok (.iload_n 1, 1) := by decide +kernel
theorem dX6_readBoth_2 : decode cX6_readBoth 2 = .ok (.invokevirtual 203, 3) := by decide +kernel
theorem dX6_readBoth_5 : decode cX6_readBoth 5 = .ok (.iconst 0, 1) := by decide +kernel
theorem dX6_readBoth_6 : decode cX6_readBoth 6 = .ok (.istore_n 2, 1) := by decide +kernel
theorem dX6_readBoth_7 : decode cX6_readBoth 7 = .ok (.iload_n 2, 1) := by decide +kernel
theorem dX6_readBoth_8 : decode cX6_readBoth 8 = .ok (.bipush 64, 2) := by decide +kernel
theorem dX6_readBoth_10 : decode cX6_readBoth 10 = .ok (.if_icmp .gt 47, 3) := by decide +kernel
theorem dX6_readBoth_13 : decode cX6_readBoth 13 = .ok (.aload_n 0, 1) := by decide +kernel
theorem dX6_readBoth_14 : decode cX6_readBoth 14 = .ok (.getfield 67, 3) := by decide +kernel
theorem dX6_readBoth_17 : decode cX6_readBoth 17 = .ok (.ifCond .ne 40, 3) := by decide +kernel
theorem dX6_readBoth_20 : decode cX6_readBoth 20 = .ok (.aload_n 0, 1) := by decide +kernel
theorem dX6_readBoth_21 : decode cX6_readBoth 21 = .ok (.getfield 73, 3) := by decide +kernel
theorem dX6_readBoth_24 : decode cX6_readBoth 24 = .ok (.bipush 30, 2) := by decide +kernel
theorem dX6_readBoth_26 : decode cX6_readBoth 26 = .ok (.if_icmp .ne 31, 3) := by decide +kernel
theorem dX6_readBoth_29 : decode cX6_readBoth 29 = .ok (.aload_n 0, 1) := by decide +kernel
theorem dX6_readBoth_30 : decode cX6_readBoth 30 = .ok (.invokevirtual 196, 3) := by decide +kernel
theorem dX6_readBoth_33 : decode cX6_readBoth 33 = .ok (.aload_n 0, 1) := by decide +kernel
theorem dX6_readBoth_34 : decode cX6_readBoth 34 = .ok (.iload_n 1, 1) := by decide +kernel
theorem dX6_readBoth_35 : decode cX6_readBoth 35 = .ok (.invokevirtual 203, 3) := by decide +kernel
theorem dX6_readBoth_38 : decode cX6_readBoth 38 = .ok (.aload_n 0, 1) := by decide +kernel
theorem dX6_readBoth_39 : decode cX6_readBoth 39 = .ok (.getfield 26, 3) := by decide +kernel
theorem dX6_readBoth_42 : decode cX6_readBoth 42 = .ok (.getfield 174, 3) := by decide +kernel
theorem dX6_readBoth_45 : decode cX6_readBoth 45 = .ok (.bipush 30, 2) := by decide +kernel
theorem dX6_readBoth_47 : decode cX6_readBoth 47 = .ok (.iconst 0, 1) := by decide +kernel
theorem dX6_readBoth_48 : decode cX6_readBoth 48 = .ok (.invokevirtual 199, 3) := by decide +kernel
theorem dX6_readBoth_51 : decode cX6_readBoth 51 = .ok (.iinc 2 1, 3) := by decide +kernel
theorem dX6_readBoth_54 : decode cX6_readBoth 54 = .ok (.goto (-47), 3) := by decide +kernel
theorem dX6_readBoth_57 : decode cX6_readBoth 57 = .ok (.return_, 1) := by decide +kernel
theorem dX6_readDenial_0 : decode cX6_readDenial 0 = .ok (.iconst 0, 1) := by decide +kernel
theorem dX6_readDenial_1 : decode cX6_readDenial 1 = .ok (.istore_n 2, 1) := by decide +kernel
theorem dX6_readDenial_2 : decode cX6_readDenial 2 = .ok (.iconst 0, 1) := by decide +kernel
theorem dX6_readDenial_3 : decode cX6_readDenial 3 = .ok (.istore_n 3, 1) := by decide +kernel
theorem dX6_readDenial_4 : decode cX6_readDenial 4 = .ok (.iload_n 3, 1) := by decide +kernel
theorem dX6_readDenial_5 : decode cX6_readDenial 5 = .ok (.bipush 64, 2) := by decide +kernel
theorem dX6_readDenial_7 : decode cX6_readDenial 7 = .ok (.if_icmp .gt 32, 3) := by decide +kernel
theorem dX6_readDenial_10 : decode cX6_readDenial 10 = .ok (.aload_n 0, 1) := by decide +kernel
theorem dX6_readDenial_11 : decode cX6_readDenial 11 = .ok (.getfield 67, 3) := by decide +kernel
theorem dX6_readDenial_14 : decode cX6_readDenial 14 = .ok (.ifCond .ne 25, 3) := by decide +kernel
theorem dX6_readDenial_17 : decode cX6_readDenial 17 = .ok (.aload_n 0, 1) := by decide +kernel
theorem dX6_readDenial_18 : decode cX6_readDenial 18 = .ok (.getfield 73, 3) := by decide +kernel
theorem dX6_readDenial_21 : decode cX6_readDenial 21 = .ok (.bipush 31, 2) := by decide +kernel
theorem dX6_readDenial_23 : decode cX6_readDenial 23 = .ok (.if_icmp .ne 16, 3) := by decide +kernel
theorem dX6_readDenial_26 : decode cX6_readDenial 26 = .ok (.aload_n 0, 1) := by decide +kernel
theorem dX6_readDenial_27 : decode cX6_readDenial 27 = .ok (.invokevirtual 196, 3) := by decide +kernel
theorem dX6_readDenial_30 : decode cX6_readDenial 30 = .ok (.iinc 2 1, 3) := by decide +kernel
theorem dX6_readDenial_33 : decode cX6_readDenial 33 = .ok (.iinc 3 1, 3) := by decide +kernel
theorem dX6_readDenial_36 : decode cX6_readDenial 36 = .ok (.goto (-32), 3) := by decide +kernel
theorem dX6_readDenial_39 : decode cX6_readDenial 39 = .ok (.aload_n 0, 1) := by decide +kernel
theorem dX6_readDenial_40 : decode cX6_readDenial 40 = .ok (.iload_n 1, 1) := by decide +kernel
theorem dX6_readDenial_41 : decode cX6_readDenial 41 = .ok (.invokevirtual 206, 3) := by decide +kernel
theorem dX6_readDenial_44 : decode cX6_readDenial 44 = .ok (.iconst 0, 1) := by decide +kernel
theorem dX6_readDenial_45 : decode cX6_readDenial 45 = .ok (.istore_n 3, 1) := by decide +kernel
theorem dX6_readDenial_46 : decode cX6_readDenial 46 = .ok (.iload_n 3, 1) := by decide +kernel
theorem dX6_readDenial_47 : decode cX6_readDenial 47 = .ok (.iload_n 2, 1) := by decide +kernel
theorem dX6_readDenial_48 : decode cX6_readDenial 48 = .ok (.if_icmp .ge 22, 3) := by decide +kernel
theorem dX6_readDenial_51 : decode cX6_readDenial 51 = .ok (.aload_n 0, 1) := by decide +kernel
theorem dX6_readDenial_52 : decode cX6_readDenial 52 = .ok (.getfield 26, 3) := by decide +kernel
theorem dX6_readDenial_55 : decode cX6_readDenial 55 = .ok (.getfield 174, 3) := by decide +kernel
theorem dX6_readDenial_58 : decode cX6_readDenial 58 = .ok (.bipush 31, 2) := by decide +kernel
theorem dX6_readDenial_60 : decode cX6_readDenial 60 = .ok (.iconst 0, 1) := by decide +kernel
theorem dX6_readDenial_61 : decode cX6_readDenial 61 = .ok (.invokevirtual 199, 3) := by decide +kernel
theorem dX6_readDenial_64 : decode cX6_readDenial 64 = .ok (.iinc 3 1, 3) := by decide +kernel
theorem dX6_readDenial_67 : decode cX6_readDenial 67 = .ok (.goto (-21), 3) := by decide +kernel
theorem dX6_readDenial_70 : decode cX6_readDenial 70 = .ok (.return_, 1) := by decide +kernel
theorem dX6_readComparison_0 : decode cX6_readComparison 0 = .ok (.aload_n 0, 1) := by decide +kernel
theorem dX6_readComparison_1 : decode cX6_readComparison 1 = .ok (.iload_n 1, 1) := by decide +kernel
theorem dX6_readComparison_2 : decode cX6_readComparison 2 = .ok (.invokevirtual 209, 3) := by decide +kernel
theorem dX6_readComparison_5 : decode cX6_readComparison 5 = .ok (.aload_n 0, 1) := by decide +kernel
theorem dX6_readComparison_6 : decode cX6_readComparison 6 = .ok (.getfield 67, 3) := by decide +kernel
theorem dX6_readComparison_9 : decode cX6_readComparison 9 = .ok (.ifCond .ne 47, 3) := by decide +kernel
theorem dX6_readComparison_12 : decode cX6_readComparison 12 = .ok (.aload_n 0, 1) := by decide +kernel
theorem dX6_readComparison_13 : decode cX6_readComparison 13 = .ok (.getfield 73, 3) := by decide +kernel
theorem dX6_readComparison_16 : decode cX6_readComparison 16 = .ok (.bipush 7, 2) := by decide +kernel
theorem dX6_readComparison_18 : decode cX6_readComparison 18 = .ok (.if_icmp .lt 38, 3) := by decide +kernel
theorem dX6_readComparison_21 : decode cX6_readComparison 21 = .ok (.aload_n 0, 1) := by decide +kernel
theorem dX6_readComparison_22 : decode cX6_readComparison 22 = .ok (.getfield 73, 3) := by decide +kernel
theorem dX6_readComparison_25 : decode cX6_readComparison 25 = .ok (.bipush 12, 2) := by decide +kernel
theorem dX6_readComparison_27 : decode cX6_readComparison 27 = .ok (.if_icmp .gt 29, 3) := by decide +kernel
theorem dX6_readComparison_30 : decode cX6_readComparison 30 = .ok (.aload_n 0, 1) := by decide +kernel
theorem dX6_readComparison_31 : decode cX6_readComparison 31 = .ok (.getfield 73, 3) := by decide +kernel
theorem dX6_readComparison_34 : decode cX6_readComparison 34 = .ok (.istore_n 2, 1) := by decide +kernel
theorem dX6_readComparison_35 : decode cX6_readComparison 35 = .ok (.aload_n 0, 1) := by decide +kernel
theorem dX6_readComparison_36 : decode cX6_readComparison 36 = .ok (.invokevirtual 196, 3) := by decide +kernel
theorem dX6_readComparison_39 : decode cX6_readComparison 39 = .ok (.aload_n 0, 1) := by decide +kernel
theorem dX6_readComparison_40 : decode cX6_readComparison 40 = .ok (.iload_n 1, 1) := by decide +kernel
theorem dX6_readComparison_41 : decode cX6_readComparison 41 = .ok (.invokevirtual 209, 3) := by decide +kernel
theorem dX6_readComparison_44 : decode cX6_readComparison 44 = .ok (.aload_n 0, 1) := by decide +kernel
theorem dX6_readComparison_45 : decode cX6_readComparison 45 = .ok (.getfield 26, 3) := by decide +kernel
theorem dX6_readComparison_48 : decode cX6_readComparison 48 = .ok (.getfield 174, 3) := by decide +kernel
theorem dX6_readComparison_51 : decode cX6_readComparison 51 = .ok (.iload_n 2, 1) := by decide +kernel
theorem dX6_readComparison_52 : decode cX6_readComparison 52 = .ok (.iconst 0, 1) := by decide +kernel
theorem dX6_readComparison_53 : decode cX6_readComparison 53 = .ok (.invokevirtual 199, 3) := by decide +kernel
theorem dX6_readComparison_56 : decode cX6_readComparison 56 = .ok (.return_, 1) := by decide +kernel
theorem dX6_readSum_0 : decode cX6_readSum 0 = .ok (.aload_n 0, 1) := by decide +kernel
theorem dX6_readSum_1 : decode cX6_readSum 1 = .ok (.iload_n 1, 1) := by decide +kernel
theorem dX6_readSum_2 : decode cX6_readSum 2 = .ok (.invokevirtual 212, 3) := by decide +kernel
theorem dX6_readSum_5 : decode cX6_readSum 5 = .ok (.iconst 0, 1) := by decide +kernel
theorem dX6_readSum_6 : decode cX6_readSum 6 = .ok (.istore_n 2, 1) := by decide +kernel
theorem dX6_readSum_7 : decode cX6_readSum 7 = .ok (.iload_n 2, 1) := by decide +kernel
theorem dX6_readSum_8 : decode cX6_readSum 8 = .ok (.bipush 64, 2) := by decide +kernel
theorem dX6_readSum_10 : decode cX6_readSum 10 = .ok (.if_icmp .gt 60, 3) := by decide +kernel
theorem dX6_readSum_13 : decode cX6_readSum 13 = .ok (.aload_n 0, 1) := by decide +kernel
theorem dX6_readSum_14 : decode cX6_readSum 14 = .ok (.getfield 67, 3) := by decide +kernel
theorem dX6_readSum_17 : decode cX6_readSum 17 = .ok (.ifCond .ne 53, 3) := by decide +kernel
theorem dX6_readSum_20 : decode cX6_readSum 20 = .ok (.aload_n 0, 1) := by decide +kernel
theorem dX6_readSum_21 : decode cX6_readSum 21 = .ok (.getfield 73, 3) := by decide +kernel
theorem dX6_readSum_24 : decode cX6_readSum 24 = .ok (.bipush 13, 2) := by decide +kernel
theorem dX6_readSum_26 : decode cX6_readSum 26 = .ok (.if_icmp .eq 12, 3) := by decide +kernel
theorem dX6_readSum_29 : decode cX6_readSum 29 = .ok (.aload_n 0, 1) := by decide +kernel
theorem dX6_readSum_30 : decode cX6_readSum 30 = .ok (.getfield 73, 3) := by decide +kernel
theorem dX6_readSum_33 : decode cX6_readSum 33 = .ok (.bipush 14, 2) := by decide +kernel
theorem dX6_readSum_35 : decode cX6_readSum 35 = .ok (.if_icmp .ne 35, 3) := by decide +kernel
theorem dX6_readSum_38 : decode cX6_readSum 38 = .ok (.aload_n 0, 1) := by decide +kernel
theorem dX6_readSum_39 : decode cX6_readSum 39 = .ok (.getfield 73, 3) := by decide +kernel
theorem dX6_readSum_42 : decode cX6_readSum 42 = .ok (.istore_n 3, 1) := by decide +kernel
theorem dX6_readSum_43 : decode cX6_readSum 43 = .ok (.aload_n 0, 1) := by decide +kernel
theorem dX6_readSum_44 : decode cX6_readSum 44 = .ok (.invokevirtual 196, 3) := by decide +kernel
theorem dX6_readSum_47 : decode cX6_readSum 47 = .ok (.aload_n 0, 1) := by decide +kernel
theorem dX6_readSum_48 : decode cX6_readSum 48 = .ok (.iload_n 1, 1) := by decide +kernel
theorem dX6_readSum_49 : decode cX6_readSum 49 = .ok (.invokevirtual 212, 3) := by decide +kernel
theorem dX6_readSum_52 : decode cX6_readSum 52 = .ok (.aload_n 0, 1) := by decide +kernel
theorem dX6_readSum_53 : decode cX6_readSum 53 = .ok (.getfield 26, 3) := by decide +kernel
theorem dX6_readSum_56 : decode cX6_readSum 56 = .ok (.getfield 174, 3) := by decide +kernel
theorem dX6_readSum_59 : decode cX6_readSum 59 = .ok (.iload_n 3, 1) := by decide +kernel
theorem dX6_readSum_60 : decode cX6_readSum 60 = .ok (.iconst 0, 1) := by decide +kernel
theorem dX6_readSum_61 : decode cX6_readSum 61 = .ok (.invokevirtual 199, 3) := by decide +kernel
theorem dX6_readSum_64 : decode cX6_readSum 64 = .ok (.iinc 2 1, 3) := by decide +kernel
theorem dX6_readSum_67 : decode cX6_readSum 67 = .ok (.goto (-60), 3) := by decide +kernel
theorem dX6_readSum_70 : decode cX6_readSum 70 = .ok (.return_, 1) := by decide +kernel
theorem dX6_readProduct_0 : decode cX6_readProduct 0 = .ok (.aload_n 0, 1) := by decide +kernel
theorem dX6_readProduct_1 : decode cX6_readProduct 1 = .ok (.iload_n 1, 1) := by decide +kernel
theorem dX6_readProduct_2 : decode cX6_readProduct 2 = .ok (.invokevirtual 215, 3) := by decide +kernel
theorem dX6_readProduct_5 : decode cX6_readProduct 5 = .ok (.iconst 0, 1) := by decide +kernel
theorem dX6_readProduct_6 : decode cX6_readProduct 6 = .ok (.istore_n 2, 1) := by decide +kernel
theorem dX6_readProduct_7 : decode cX6_readProduct 7 = .ok (.iload_n 2, 1) := by decide +kernel
theorem dX6_readProduct_8 : decode cX6_readProduct 8 = .ok (.bipush 64, 2) := by decide +kernel
theorem dX6_readProduct_10 : decode cX6_readProduct 10 = .ok (.if_icmp .gt 60, 3) := by decide +kernel
theorem dX6_readProduct_13 : decode cX6_readProduct 13 = .ok (.aload_n 0, 1) := by decide +kernel
theorem dX6_readProduct_14 : decode cX6_readProduct 14 = .ok (.getfield 67, 3) := by decide +kernel
theorem dX6_readProduct_17 : decode cX6_readProduct 17 = .ok (.ifCond .ne 53, 3) := by decide +kernel
theorem dX6_readProduct_20 : decode cX6_readProduct 20 = .ok (.aload_n 0, 1) := by decide +kernel
theorem dX6_readProduct_21 : decode cX6_readProduct 21 = .ok (.getfield 73, 3) := by decide +kernel
theorem dX6_readProduct_24 : decode cX6_readProduct 24 = .ok (.bipush 15, 2) := by decide +kernel
theorem dX6_readProduct_26 : decode cX6_readProduct 26 = .ok (.if_icmp .eq 12, 3) := by decide +kernel
theorem dX6_readProduct_29 : decode cX6_readProduct 29 = .ok (.aload_n 0, 1) := by decide +kernel
theorem dX6_readProduct_30 : decode cX6_readProduct 30 = .ok (.getfield 73, 3) := by decide +kernel
theorem dX6_readProduct_33 : decode cX6_readProduct 33 = .ok (.bipush 16, 2) := by decide +kernel
theorem dX6_readProduct_35 : decode cX6_readProduct 35 = .ok (.if_icmp .ne 35, 3) := by decide +kernel
theorem dX6_readProduct_38 : decode cX6_readProduct 38 = .ok (.aload_n 0, 1) := by decide +kernel
theorem dX6_readProduct_39 : decode cX6_readProduct 39 = .ok (.getfield 73, 3) := by decide +kernel
theorem dX6_readProduct_42 : decode cX6_readProduct 42 = .ok (.istore_n 3, 1) := by decide +kernel
theorem dX6_readProduct_43 : decode cX6_readProduct 43 = .ok (.aload_n 0, 1) := by decide +kernel
theorem dX6_readProduct_44 : decode cX6_readProduct 44 = .ok (.invokevirtual 196, 3) := by decide +kernel
theorem dX6_readProduct_47 : decode cX6_readProduct 47 = .ok (.aload_n 0, 1) := by decide +kernel
theorem dX6_readProduct_48 : decode cX6_readProduct 48 = .ok (.iload_n 1, 1) := by decide +kernel
theorem dX6_readProduct_49 : decode cX6_readProduct 49 = .ok (.invokevirtual 215, 3) := by decide +kernel
theorem dX6_readProduct_52 : decode cX6_readProduct 52 = .ok (.aload_n 0, 1) := by decide +kernel
theorem dX6_readProduct_53 : decode cX6_readProduct 53 = .ok (.getfield 26, 3) := by decide +kernel
theorem dX6_readProduct_56 : decode cX6_readProduct 56 = .ok (.getfield 174, 3) := by decide +kernel
theorem dX6_readProduct_59 : decode cX6_readProduct 59 = .ok (.iload_n 3, 1) := by decide +kernel
theorem dX6_readProduct_60 : decode cX6_readProduct 60 = .ok (.iconst 0, 1) := by decide +kernel
theorem dX6_readProduct_61 : decode cX6_readProduct 61 = .ok (.invokevirtual 199, 3) := by decide +kernel
theorem dX6_readProduct_64 : decode cX6_readProduct 64 = .ok (.iinc 2 1, 3) := by decide +kernel
theorem dX6_readProduct_67 : decode cX6_readProduct 67 = .ok (.goto (-60), 3) := by decide +kernel
theorem dX6_readProduct_70 : decode cX6_readProduct 70 = .ok (.return_, 1) := by decide +kernel
theorem dX6_readPart_0 : decode cX6_readPart 0 = .ok (.aload_n 0, 1) := by decide +kernel
theorem dX6_readPart_1 : decode cX6_readPart 1 = .ok (.getfield 67, 3) := by decide +kernel
theorem dX6_readPart_4 : decode cX6_readPart 4 = .ok (.ifCond .eq 4, 3) := by decide +kernel
theorem dX6_readPart_7 : decode cX6_readPart 7 = .ok (.return_, 1) := by decide +kernel
theorem dX6_readPart_8 : decode cX6_readPart 8 = .ok (.aload_n 0, 1) := by decide +kernel
theorem dX6_readPart_9 : decode cX6_readPart 9 = .ok (.getfield 73, 3) := by decide +kernel
theorem dX6_readPart_12 : decode cX6_readPart 12 = .ok (.istore_n 2, 1) := by decide +kernel
theorem dX6_readPart_13 : decode cX6_readPart 13 = .ok (.aload_n 0, 1) := by decide +kernel
theorem dX6_readPart_14 : decode cX6_readPart 14 = .ok (.getfield 126, 3) := by decide +kernel
theorem dX6_readPart_17 : decode cX6_readPart 17 = .ok (.istore_n 3, 1) := by decide +kernel
theorem dX6_readPart_18 : decode cX6_readPart 18 = .ok (.iload_n 2, 1) := by decide +kernel
theorem dX6_readPart_19 : decode cX6_readPart 19 = .ok (.iconst 2, 1) := by decide +kernel
theorem dX6_readPart_20 : decode cX6_readPart 20 = .ok (.if_icmp .ne 18, 3) := by decide +kernel
theorem dX6_readPart_23 : decode cX6_readPart 23 = .ok (.iload_n 3, 1) := by decide +kernel
theorem dX6_readPart_24 : decode cX6_readPart 24 = .ok (.sipush 9999, 3) := by decide +kernel
theorem dX6_readPart_27 : decode cX6_readPart 27 = .ok (.if_icmp .le 11, 3) := by decide +kernel
theorem dX6_readPart_30 : decode cX6_readPart 30 = .ok (.aload_n 0, 1) := by decide +kernel
theorem dX6_readPart_31 : decode cX6_readPart 31 = .ok (.iconst 2, 1) := by decide +kernel
theorem dX6_readPart_32 : decode cX6_readPart 32 = .ok (.invokevirtual 113, 3) := by decide +kernel
theorem dX6_readPart_35 : decode cX6_readPart 35 = .ok (.goto 83, 3) := by decide +kernel
theorem dX6_readPart_38 : decode cX6_readPart 38 = .ok (.iload_n 2, 1) := by decide +kernel
theorem dX6_readPart_39 : decode cX6_readPart 39 = .ok (.iconst 2, 1) := by decide +kernel
theorem dX6_readPart_40 : decode cX6_readPart 40 = .ok (.if_icmp .eq 15, 3) := by decide +kernel
theorem dX6_readPart_43 : decode cX6_readPart 43 = .ok (.iload_n 2, 1) := by decide +kernel
theorem dX6_readPart_44 : decode cX6_readPart 44 = .ok (.bipush 32, 2) := by decide +kernel
theorem dX6_readPart_46 : decode cX6_readPart 46 = .ok (.if_icmp .lt 28, 3) := by decide +kernel
theorem dX6_readPart_49 : decode cX6_readPart 49 = .ok (.iload_n 2, 1) := by decide +kernel
theorem dX6_readPart_50 : decode cX6_readPart 50 = .ok (.bipush 38, 2) := by decide +kernel
theorem dX6_readPart_52 : decode cX6_readPart 52 = .ok (.if_icmp .gt 22, 3) := by decide +kernel
theorem dX6_readPart_55 : decode cX6_readPart 55 = .ok (.aload_n 0, 1) := by decide +kernel
theorem dX6_readPart_56 : decode cX6_readPart 56 = .ok (.invokevirtual 196, 3) := by decide +kernel
theorem dX6_readPart_59 : decode cX6_readPart 59 = .ok (.aload_n 0, 1) := by decide +kernel
theorem dX6_readPart_60 : decode cX6_readPart 60 = .ok (.getfield 26, 3) := by decide +kernel
theorem dX6_readPart_63 : decode cX6_readPart 63 = .ok (.getfield 174, 3) := by decide +kernel
theorem dX6_readPart_66 : decode cX6_readPart 66 = .ok (.iload_n 2, 1) := by decide +kernel
theorem dX6_readPart_67 : decode cX6_readPart 67 = .ok (.iload_n 3, 1) := by decide +kernel
theorem dX6_readPart_68 : decode cX6_readPart 68 = .ok (.invokevirtual 199, 3) := by decide +kernel
theorem dX6_readPart_71 : decode cX6_readPart 71 = .ok (.goto 47, 3) := by decide +kernel
theorem dX6_readPart_74 : decode cX6_readPart 74 = .ok (.iload_n 2, 1) := by decide +kernel
theorem dX6_readPart_75 : decode cX6_readPart 75 = .ok (.iconst 5, 1) := by decide +kernel
theorem dX6_readPart_76 : decode cX6_readPart 76 = .ok (.if_icmp .eq 11, 3) := by decide +kernel
theorem dX6_readPart_79 : decode cX6_readPart 79 = .ok (.aload_n 0, 1) := by decide +kernel
theorem dX6_readPart_80 : decode cX6_readPart 80 = .ok (.iconst 1, 1) := by decide +kernel
theorem dX6_readPart_81 : decode cX6_readPart 81 = .ok (.invokevirtual 113, 3) := by decide +kernel
theorem dX6_readPart_84 : decode cX6_readPart 84 = .ok (.goto 34, 3) := by decide +kernel
theorem dX6_readPart_87 : decode cX6_readPart 87 = .ok (.iload_n 1, 1) := by decide +kernel
theorem dX6_readPart_88 : decode cX6_readPart 88 = .ok (.bipush 8, 2) := by decide +kernel
theorem dX6_readPart_90 : decode cX6_readPart 90 = .ok (.if_icmp .lt 11, 3) := by decide +kernel
theorem dX6_readPart_93 : decode cX6_readPart 93 = .ok (.aload_n 0, 1) := by decide +kernel
theorem dX6_readPart_94 : decode cX6_readPart 94 = .ok (.iconst 2, 1) := by decide +kernel
theorem dX6_readPart_95 : decode cX6_readPart 95 = .ok (.invokevirtual 113, 3) := by decide +kernel
theorem dX6_readPart_98 : decode cX6_readPart 98 = .ok (.goto 20, 3) := by decide +kernel
theorem dX6_readPart_101 : decode cX6_readPart 101 = .ok (.aload_n 0, 1) := by decide +kernel
theorem dX6_readPart_102 : decode cX6_readPart 102 = .ok (.invokevirtual 70, 3) := by decide +kernel
theorem dX6_readPart_105 : decode cX6_readPart 105 = .ok (.aload_n 0, 1) := by decide +kernel
theorem dX6_readPart_106 : decode cX6_readPart 106 = .ok (.iload_n 1, 1) := by decide +kernel
theorem dX6_readPart_107 : decode cX6_readPart 107 = .ok (.iconst 1, 1) := by decide +kernel
theorem dX6_readPart_108 : decode cX6_readPart 108 = .ok (.iadd, 1) := by decide +kernel
theorem dX6_readPart_109 : decode cX6_readPart 109 = .ok (.invokevirtual 187, 3) := by decide +kernel
theorem dX6_readPart_112 : decode cX6_readPart 112 = .ok (.aload_n 0, 1) := by decide +kernel
theorem dX6_readPart_113 : decode cX6_readPart 113 = .ok (.bipush 6, 2) := by decide +kernel
theorem dX6_readPart_115 : decode cX6_readPart 115 = .ok (.invokevirtual 117, 3) := by decide +kernel
theorem dX6_readPart_118 : decode cX6_readPart 118 = .ok (.return_, 1) := by decide +kernel
theorem dX6_passKnot_0 : decode cX6_passKnot 0 = .ok (.aload_n 0, 1) := by decide +kernel
theorem dX6_passKnot_1 : decode cX6_passKnot 1 = .ok (.getfield 26, 3) := by decide +kernel
theorem dX6_passKnot_4 : decode cX6_passKnot 4 = .ok (.getfield 174, 3) := by decide +kernel
theorem dX6_passKnot_7 : decode cX6_passKnot 7 = .ok (.getfield 218, 3) := by decide +kernel
theorem dX6_passKnot_10 : decode cX6_passKnot 10 = .ok (.bipush 64, 2) := by decide +kernel
theorem dX6_passKnot_12 : decode cX6_passKnot 12 = .ok (.if_icmp .lt 11, 3) := by decide +kernel
theorem dX6_passKnot_15 : decode cX6_passKnot 15 = .ok (.aload_n 0, 1) := by decide +kernel
theorem dX6_passKnot_16 : decode cX6_passKnot 16 = .ok (.iconst 2, 1) := by decide +kernel
theorem dX6_passKnot_17 : decode cX6_passKnot 17 = .ok (.invokevirtual 113, 3) := by decide +kernel
theorem dX6_passKnot_20 : decode cX6_passKnot 20 = .ok (.goto 23, 3) := by decide +kernel
theorem dX6_passKnot_23 : decode cX6_passKnot 23 = .ok (.aload_n 0, 1) := by decide +kernel
theorem dX6_passKnot_24 : decode cX6_passKnot 24 = .ok (.getfield 26, 3) := by decide +kernel
theorem dX6_passKnot_27 : decode cX6_passKnot 27 = .ok (.getfield 174, 3) := by decide +kernel
theorem dX6_passKnot_30 : decode cX6_passKnot 30 = .ok (.dup, 1) := by decide +kernel
theorem dX6_passKnot_31 : decode cX6_passKnot 31 = .ok (.getfield 218, 3) := by decide +kernel
theorem dX6_passKnot_34 : decode cX6_passKnot 34 = .ok (.iconst 1, 1) := by decide +kernel
theorem dX6_passKnot_35 : decode cX6_passKnot 35 = .ok (.iadd, 1) := by decide +kernel
theorem dX6_passKnot_36 : decode cX6_passKnot 36 = .ok (.putfield 218, 3) := by decide +kernel
theorem dX6_passKnot_39 : decode cX6_passKnot 39 = .ok (.aload_n 0, 1) := by decide +kernel
theorem dX6_passKnot_40 : decode cX6_passKnot 40 = .ok (.invokevirtual 70, 3) := by decide +kernel
theorem dX6_passKnot_43 : decode cX6_passKnot 43 = .ok (.return_, 1) := by decide +kernel
theorem dX6_advance_0 : decode cX6_advance 0 = .ok (.aload_n 0, 1) := by decide +kernel
theorem dX6_advance_1 : decode cX6_advance 1 = .ok (.getfield 61, 3) := by decide +kernel
theorem dX6_advance_4 : decode cX6_advance 4 = .ok (.aload_n 0, 1) := by decide +kernel
theorem dX6_advance_5 : decode cX6_advance 5 = .ok (.getfield 58, 3) := by decide +kernel
theorem dX6_advance_8 : decode cX6_advance 8 = .ok (.if_icmp .ge 44, 3) := by decide +kernel
theorem dX6_advance_11 : decode cX6_advance 11 = .ok (.aload_n 0, 1) := by decide +kernel
theorem dX6_advance_12 : decode cX6_advance 12 = .ok (.getfield 9, 3) := by decide +kernel
theorem dX6_advance_15 : decode cX6_advance 15 = .ok (.aload_n 0, 1) := by decide +kernel
theorem dX6_advance_16 : decode cX6_advance 16 = .ok (.getfield 61, 3) := by decide +kernel
theorem dX6_advance_19 : decode cX6_advance 19 = .ok (.baload, 1) := by decide +kernel
theorem dX6_advance_20 : decode cX6_advance 20 = .ok (.bipush 32, 2) := by decide +kernel
theorem dX6_advance_22 : decode cX6_advance 22 = .ok (.if_icmp .eq 17, 3) := by decide +kernel
theorem dX6_advance_25 : decode cX6_advance 25 = .ok (.aload_n 0, 1) := by decide +kernel
theorem dX6_advance_26 : decode cX6_advance 26 = .ok (.getfield 9, 3) := by decide +kernel
theorem dX6_advance_29 : decode cX6_advance 29 = .ok (.aload_n 0, 1) := by decide +kernel
theorem dX6_advance_30 : decode cX6_advance 30 = .ok (.getfield 61, 3) := by decide +kernel
theorem dX6_advance_33 : decode cX6_advance 33 = .ok (.baload, 1) := by decide +kernel
theorem dX6_advance_34 : decode cX6_advance 34 = .ok (.bipush 10, 2) := by decide +kernel
theorem dX6_advance_36 : decode cX6_advance 36 = .ok (.if_icmp .ne 16, 3) := by decide +kernel
theorem dX6_advance_39 : decode cX6_advance 39 = .ok (.aload_n 0, 1) := by decide +kernel
theorem dX6_advance_40 : decode cX6_advance 40 = .ok (.dup, 1) := by decide +kernel
theorem dX6_advance_41 : decode cX6_advance 41 = .ok (.getfield 61, 3) := by decide +kernel
theorem dX6_advance_44 : decode cX6_advance 44 = .ok (.iconst 1, 1) := by decide +kernel
theorem dX6_advance_45 : decode cX6_advance 45 = .ok (.iadd, 1) := by decide +kernel
theorem dX6_advance_46 : decode cX6_advance 46 = .ok (.putfield 61, 3) := by decide +kernel
theorem dX6_advance_49 : decode cX6_advance 49 = .ok (.goto (-49), 3) := by decide +kernel
theorem dX6_advance_52 : decode cX6_advance 52 = .ok (.aload_n 0, 1) := by decide +kernel
theorem dX6_advance_53 : decode cX6_advance 53 = .ok (.aload_n 0, 1) := by decide +kernel
theorem dX6_advance_54 : decode cX6_advance 54 = .ok (.getfield 61, 3) := by decide +kernel
theorem dX6_advance_57 : decode cX6_advance 57 = .ok (.putfield 76, 3) := by decide +kernel
theorem dX6_advance_60 : decode cX6_advance 60 = .ok (.aload_n 0, 1) := by decide +kernel
theorem dX6_advance_61 : decode cX6_advance 61 = .ok (.iconst 0, 1) := by decide +kernel
theorem dX6_advance_62 : decode cX6_advance 62 = .ok (.putfield 126, 3) := by decide +kernel
theorem dX6_advance_65 : decode cX6_advance 65 = .ok (.aload_n 0, 1) := by decide +kernel
theorem dX6_advance_66 : decode cX6_advance 66 = .ok (.getfield 61, 3) := by decide +kernel
theorem dX6_advance_69 : decode cX6_advance 69 = .ok (.aload_n 0, 1) := by decide +kernel
theorem dX6_advance_70 : decode cX6_advance 70 = .ok (.getfield 58, 3) := by decide +kernel
theorem dX6_advance_73 : decode cX6_advance 73 = .ok (.if_icmp .lt 11, 3) := by decide +kernel
theorem dX6_advance_76 : decode cX6_advance 76 = .ok (.aload_n 0, 1) := by decide +kernel
theorem dX6_advance_77 : decode cX6_advance 77 = .ok (.iconst 0, 1) := by decide +kernel
theorem dX6_advance_78 : decode cX6_advance 78 = .ok (.putfield 73, 3) := by decide +kernel
theorem dX6_advance_81 : decode cX6_advance 81 = .ok (.goto 51, 3) := by decide +kernel
theorem dX6_advance_84 : decode cX6_advance 84 = .ok (.aload_n 0, 1) := by decide +kernel
theorem dX6_advance_85 : decode cX6_advance 85 = .ok (.getfield 9, 3) := by decide +kernel
theorem dX6_advance_88 : decode cX6_advance 88 = .ok (.aload_n 0, 1) := by decide +kernel
theorem dX6_advance_89 : decode cX6_advance 89 = .ok (.getfield 61, 3) := by decide +kernel
theorem dX6_advance_92 : decode cX6_advance 92 = .ok (.baload, 1) := by decide +kernel
theorem dX6_advance_93 : decode cX6_advance 93 = .ok (.invokestatic 221, 3) := by decide +kernel
theorem dX6_advance_96 : decode cX6_advance 96 = .ok (.ifCond .eq 10, 3) := by decide +kernel
theorem dX6_advance_99 : decode cX6_advance 99 = .ok (.aload_n 0, 1) := by decide +kernel
theorem dX6_advance_100 : decode cX6_advance 100 = .ok (.invokevirtual 224, 3) := by decide +kernel
theorem dX6_advance_103 : decode cX6_advance 103 = .ok (.goto 29, 3) := by decide +kernel
theorem dX6_advance_106 : decode cX6_advance 106 = .ok (.aload_n 0, 1) := by decide +kernel
theorem dX6_advance_107 : decode cX6_advance 107 = .ok (.getfield 9, 3) := by decide +kernel
theorem dX6_advance_110 : decode cX6_advance 110 = .ok (.aload_n 0, 1) := by decide +kernel
theorem dX6_advance_111 : decode cX6_advance 111 = .ok (.getfield 61, 3) := by decide +kernel
theorem dX6_advance_114 : decode cX6_advance 114 = .ok (.baload, 1) := by decide +kernel
theorem dX6_advance_115 : decode cX6_advance 115 = .ok (.invokestatic 227, 3) := by decide +kernel
theorem dX6_advance_118 : decode cX6_advance 118 = .ok (.ifCond .eq 10, 3) := by decide +kernel
theorem dX6_advance_121 : decode cX6_advance 121 = .ok (.aload_n 0, 1) := by decide +kernel
theorem dX6_advance_122 : decode cX6_advance 122 = .ok (.invokevirtual 230, 3) := by decide +kernel
theorem dX6_advance_125 : decode cX6_advance 125 = .ok (.goto 7, 3) := by decide +kernel
theorem dX6_advance_128 : decode cX6_advance 128 = .ok (.aload_n 0, 1) := by decide +kernel
theorem dX6_advance_129 : decode cX6_advance 129 = .ok (.invokevirtual 233, 3) := by decide +kernel
theorem dX6_advance_132 : decode cX6_advance 132 = .ok (.return_, 1) := by decide +kernel
theorem dX6_isLetter_0 : decode cX6_isLetter 0 = .ok (.iload_n 0, 1) := by decide +kernel
theorem dX6_isLetter_1 : decode cX6_isLetter 1 = .ok (.bipush 97, 2) := by decide +kernel
theorem dX6_isLetter_3 : decode cX6_isLetter 3 = .ok (.if_icmp .lt 13, 3) := by decide +kernel
theorem dX6_isLetter_6 : decode cX6_isLetter 6 = .ok (.iload_n 0, 1) := by decide +kernel
theorem dX6_isLetter_7 : decode cX6_isLetter 7 = .ok (.bipush 122, 2) := by decide +kernel
theorem dX6_isLetter_9 : decode cX6_isLetter 9 = .ok (.if_icmp .gt 7, 3) := by decide +kernel
theorem dX6_isLetter_12 : decode cX6_isLetter 12 = .ok (.iconst 1, 1) := by decide +kernel
theorem dX6_isLetter_13 : decode cX6_isLetter 13 = .ok (.goto 4, 3) := by decide +kernel
theorem dX6_isLetter_16 : decode cX6_isLetter 16 = .ok (.iconst 0, 1) := by decide +kernel
theorem dX6_isLetter_17 : decode cX6_isLetter 17 = .ok (.ireturn, 1) := by decide +kernel
theorem dX6_isDigit_0 : decode cX6_isDigit 0 = .ok (.iload_n 0, 1) := by decide +kernel
theorem dX6_isDigit_1 : decode cX6_isDigit 1 = .ok (.bipush 48, 2) := by decide +kernel
theorem dX6_isDigit_3 : decode cX6_isDigit 3 = .ok (.if_icmp .lt 13, 3) := by decide +kernel
theorem dX6_isDigit_6 : decode cX6_isDigit 6 = .ok (.iload_n 0, 1) := by decide +kernel
theorem dX6_isDigit_7 : decode cX6_isDigit 7 = .ok (.bipush 57, 2) := by decide +kernel
theorem dX6_isDigit_9 : decode cX6_isDigit 9 = .ok (.if_icmp .gt 7, 3) := by decide +kernel
theorem dX6_isDigit_12 : decode cX6_isDigit 12 = .ok (.iconst 1, 1) := by decide +kernel
theorem dX6_isDigit_13 : decode cX6_isDigit 13 = .ok (.goto 4, 3) := by decide +kernel
theorem dX6_isDigit_16 : decode cX6_isDigit 16 = .ok (.iconst 0, 1) := by decide +kernel
theorem dX6_isDigit_17 : decode cX6_isDigit 17 = .ok (.ireturn, 1) := by decide +kernel
theorem dX6_readWord_0 : decode cX6_readWord 0 = .ok (.iconst 0, 1) := by decide +kernel
theorem dX6_readWord_1 : decode cX6_readWord 1 = .ok (.istore_n 1, 1) := by decide +kernel
theorem dX6_readWord_2 : decode cX6_readWord 2 = .ok (.aload_n 0, 1) := by decide +kernel
theorem dX6_readWord_3 : decode cX6_readWord 3 = .ok (.getfield 61, 3) := by decide +kernel
theorem dX6_readWord_6 : decode cX6_readWord 6 = .ok (.aload_n 0, 1) := by decide +kernel
theorem dX6_readWord_7 : decode cX6_readWord 7 = .ok (.getfield 58, 3) := by decide +kernel
theorem dX6_readWord_10 : decode cX6_readWord 10 = .ok (.if_icmp .ge 76, 3) := by decide +kernel
theorem dX6_readWord_13 : decode cX6_readWord 13 = .ok (.aload_n 0, 1) := by decide +kernel
theorem dX6_readWord_14 : decode cX6_readWord 14 = .ok (.getfield 9, 3) := by decide +kernel
theorem dX6_readWord_17 : decode cX6_readWord 17 = .ok (.aload_n 0, 1) := by decide +kernel
theorem dX6_readWord_18 : decode cX6_readWord 18 = .ok (.getfield 61, 3) := by decide +kernel
theorem dX6_readWord_21 : decode cX6_readWord 21 = .ok (.baload, 1) := by decide +kernel
theorem dX6_readWord_22 : decode cX6_readWord 22 = .ok (.invokestatic 221, 3) := by decide +kernel
theorem dX6_readWord_25 : decode cX6_readWord 25 = .ok (.ifCond .eq 61, 3) := by decide +kernel
theorem dX6_readWord_28 : decode cX6_readWord 28 = .ok (.aload_n 0, 1) := by decide +kernel
theorem dX6_readWord_29 : decode cX6_readWord 29 = .ok (.getfield 61, 3) := by decide +kernel
theorem dX6_readWord_32 : decode cX6_readWord 32 = .ok (.aload_n 0, 1) := by decide +kernel
theorem dX6_readWord_33 : decode cX6_readWord 33 = .ok (.getfield 76, 3) := by decide +kernel
theorem dX6_readWord_36 : decode cX6_readWord 36 = .ok (.isub, 1) := by decide +kernel
theorem dX6_readWord_37 : decode cX6_readWord 37 = .ok (.bipush 6, 2) := by decide +kernel
theorem dX6_readWord_39 : decode cX6_readWord 39 = .ok (.if_icmp .ge 34, 3) := by decide +kernel
theorem dX6_readWord_42 : decode cX6_readWord 42 = .ok (.iload_n 1, 1) := by decide +kernel
theorem dX6_readWord_43 : decode cX6_readWord 43 = .ok (.aload_n 0, 1) := by decide +kernel
theorem dX6_readWord_44 : decode cX6_readWord 44 = .ok (.getfield 9, 3) := by decide +kernel
theorem dX6_readWord_47 : decode cX6_readWord 47 = .ok (.aload_n 0, 1) := by decide +kernel
theorem dX6_readWord_48 : decode cX6_readWord 48 = .ok (.getfield 61, 3) := by decide +kernel
theorem dX6_readWord_51 : decode cX6_readWord 51 = .ok (.baload, 1) := by decide +kernel
theorem dX6_readWord_52 : decode cX6_readWord 52 = .ok (.bipush 97, 2) := by decide +kernel
theorem dX6_readWord_54 : decode cX6_readWord 54 = .ok (.isub, 1) := by decide +kernel
theorem dX6_readWord_55 : decode cX6_readWord 55 = .ok (.iconst 1, 1) := by decide +kernel
theorem dX6_readWord_56 : decode cX6_readWord 56 = .ok (.iadd, 1) := by decide +kernel
theorem dX6_readWord_57 : decode cX6_readWord 57 = .ok (.iconst 5, 1) := by decide +kernel
theorem dX6_readWord_58 : decode cX6_readWord 58 = .ok (.iconst 5, 1) := by decide +kernel
theorem dX6_readWord_59 : decode cX6_readWord 59 = .ok (.aload_n 0, 1) := by decide +kernel
theorem dX6_readWord_60 : decode cX6_readWord 60 = .ok (.getfield 61, 3) := by decide +kernel
theorem dX6_readWord_63 : decode cX6_readWord 63 = .ok (.aload_n 0, 1) := by decide +kernel
theorem dX6_readWord_64 : decode cX6_readWord 64 = .ok (.getfield 76, 3) := by decide +kernel
theorem dX6_readWord_67 : decode cX6_readWord 67 = .ok (.isub, 1) := by decide +kernel
theorem dX6_readWord_68 : decode cX6_readWord 68 = .ok (.isub, 1) := by decide +kernel
theorem dX6_readWord_69 : decode cX6_readWord 69 = .ok (.imul, 1) := by decide +kernel
theorem dX6_readWord_70 : decode cX6_readWord 70 = .ok (.ishl, 1) := by decide +kernel
theorem dX6_readWord_71 : decode cX6_readWord 71 = .ok (.ior, 1) := by decide +kernel
theorem dX6_readWord_72 : decode cX6_readWord 72 = .ok (.istore_n 1, 1) := by decide +kernel
theorem dX6_readWord_73 : decode cX6_readWord 73 = .ok (.aload_n 0, 1) := by decide +kernel
theorem dX6_readWord_74 : decode cX6_readWord 74 = .ok (.dup, 1) := by decide +kernel
theorem dX6_readWord_75 : decode cX6_readWord 75 = .ok (.getfield 61, 3) := by decide +kernel
theorem dX6_readWord_78 : decode cX6_readWord 78 = .ok (.iconst 1, 1) := by decide +kernel
theorem dX6_readWord_79 : decode cX6_readWord 79 = .ok (.iadd, 1) := by decide +kernel
theorem dX6_readWord_80 : decode cX6_readWord 80 = .ok (.putfield 61, 3) := by decide +kernel
theorem dX6_readWord_83 : decode cX6_readWord 83 = .ok (.goto (-81), 3) := by decide +kernel
theorem dX6_readWord_86 : decode cX6_readWord 86 = .ok (.aload_n 0, 1) := by decide +kernel
theorem dX6_readWord_87 : decode cX6_readWord 87 = .ok (.iload_n 1, 1) := by decide +kernel
theorem dX6_readWord_88 : decode cX6_readWord 88 = .ok (.putfield 126, 3) := by decide +kernel
theorem dX6_readWord_91 : decode cX6_readWord 91 = .ok (.aload_n 0, 1) := by decide +kernel
theorem dX6_readWord_92 : decode cX6_readWord 92 = .ok (.aload_n 0, 1) := by decide +kernel
theorem dX6_readWord_93 : decode cX6_readWord 93 = .ok (.getfield 61, 3) := by decide +kernel
theorem dX6_readWord_96 : decode cX6_readWord 96 = .ok (.aload_n 0, 1) := by decide +kernel
theorem dX6_readWord_97 : decode cX6_readWord 97 = .ok (.getfield 76, 3) := by decide +kernel
theorem dX6_readWord_100 : decode cX6_readWord 100 = .ok (.isub, 1) := by decide +kernel
theorem dX6_readWord_101 : decode cX6_readWord 101 = .ok (.bipush 6, 2) := by decide +kernel
theorem dX6_readWord_103 : decode cX6_readWord 103 = .ok (.if_icmp .le 7, 3) := by decide +kernel
theorem dX6_readWord_106 : decode cX6_readWord 106 = .ok (.iconst 1, 1) := by decide +kernel
theorem dX6_readWord_107 : decode cX6_readWord 107 = .ok (.goto 8, 3) := by decide +kernel
theorem dX6_readWord_110 : decode cX6_readWord 110 = .ok (.aload_n 0, 1) := by decide +kernel
theorem dX6_readWord_111 : decode cX6_readWord 111 = .ok (.iload_n 1, 1) := by decide +kernel
theorem dX6_readWord_112 : decode cX6_readWord 112 = .ok (.invokevirtual 236, 3) := by decide +kernel
theorem dX6_readWord_115 : decode cX6_readWord 115 = .ok (.putfield 73, 3) := by decide +kernel
theorem dX6_readWord_118 : decode cX6_readWord 118 = .ok (.return_, 1) := by decide +kernel
theorem dX6_wordOf_0 : decode cX6_wordOf 0 = .ok (.iconst 0, 1) := by decide +kernel
theorem dX6_wordOf_1 : decode cX6_wordOf 1 = .ok (.istore_n 2, 1) := by decide +kernel
theorem dX6_wordOf_2 : decode cX6_wordOf 2 = .ok (.iload_n 2, 1) := by decide +kernel
theorem dX6_wordOf_3 : decode cX6_wordOf 3 = .ok (.bipush 22, 2) := by decide +kernel
theorem dX6_wordOf_5 : decode cX6_wordOf 5 = .ok (.if_icmp .ge 24, 3) := by decide +kernel
theorem dX6_wordOf_8 : decode cX6_wordOf 8 = .ok (.aload_n 0, 1) := by decide +kernel
theorem dX6_wordOf_9 : decode cX6_wordOf 9 = .ok (.getfield 15, 3) := by decide +kernel
theorem dX6_wordOf_12 : decode cX6_wordOf 12 = .ok (.iload_n 2, 1) := by decide +kernel
theorem dX6_wordOf_13 : decode cX6_wordOf 13 = .ok (.iaload, 1) := by decide +kernel
theorem dX6_wordOf_14 : decode cX6_wordOf 14 = .ok (.iload_n 1, 1) := by decide +kernel
theorem dX6_wordOf_15 : decode cX6_wordOf 15 = .ok (.if_icmp .ne 8, 3) := by decide +kernel
theorem dX6_wordOf_18 : decode cX6_wordOf 18 = .ok (.bipush 17, 2) := by decide +kernel
theorem dX6_wordOf_20 : decode cX6_wordOf 20 = .ok (.iload_n 2, 1) := by decide +kernel
theorem dX6_wordOf_21 : decode cX6_wordOf 21 = .ok (.iadd, 1) := by decide +kernel
theorem dX6_wordOf_22 : decode cX6_wordOf 22 = .ok (.ireturn, 1) := by decide +kernel
theorem dX6_wordOf_23 : decode cX6_wordOf 23 = .ok (.iinc 2 1, 3) := by decide +kernel
theorem dX6_wordOf_26 : decode cX6_wordOf 26 = .ok (.goto (-24), 3) := by decide +kernel
theorem dX6_wordOf_29 : decode cX6_wordOf 29 = .ok (.iconst 3, 1) := by decide +kernel
theorem dX6_wordOf_30 : decode cX6_wordOf 30 = .ok (.ireturn, 1) := by decide +kernel
theorem dX6_readNumber_0 : decode cX6_readNumber 0 = .ok (.aload_n 0, 1) := by decide +kernel
theorem dX6_readNumber_1 : decode cX6_readNumber 1 = .ok (.iconst 2, 1) := by decide +kernel
theorem dX6_readNumber_2 : decode cX6_readNumber 2 = .ok (.putfield 73, 3) := by decide +kernel
theorem dX6_readNumber_5 : decode cX6_readNumber 5 = .ok (.aload_n 0, 1) := by decide +kernel
theorem dX6_readNumber_6 : decode cX6_readNumber 6 = .ok (.getfield 61, 3) := by decide +kernel
theorem dX6_readNumber_9 : decode cX6_readNumber 9 = .ok (.aload_n 0, 1) := by decide +kernel
theorem dX6_readNumber_10 : decode cX6_readNumber 10 = .ok (.getfield 58, 3) := by decide +kernel
theorem dX6_readNumber_13 : decode cX6_readNumber 13 = .ok (.if_icmp .ge 71, 3) := by decide +kernel
theorem dX6_readNumber_16 : decode cX6_readNumber 16 = .ok (.aload_n 0, 1) := by decide +kernel
theorem dX6_readNumber_17 : decode cX6_readNumber 17 = .ok (.getfield 9, 3) := by decide +kernel
theorem dX6_readNumber_20 : decode cX6_readNumber 20 = .ok (.aload_n 0, 1) := by decide +kernel
theorem dX6_readNumber_21 : decode cX6_readNumber 21 = .ok (.getfield 61, 3) := by decide +kernel
theorem dX6_readNumber_24 : decode cX6_readNumber 24 = .ok (.baload, 1) := by decide +kernel
theorem dX6_readNumber_25 : decode cX6_readNumber 25 = .ok (.invokestatic 227, 3) := by decide +kernel
theorem dX6_readNumber_28 : decode cX6_readNumber 28 = .ok (.ifCond .eq 56, 3) := by decide +kernel
theorem dX6_readNumber_31 : decode cX6_readNumber 31 = .ok (.aload_n 0, 1) := by decide +kernel
theorem dX6_readNumber_32 : decode cX6_readNumber 32 = .ok (.aload_n 0, 1) := by decide +kernel
theorem dX6_readNumber_33 : decode cX6_readNumber 33 = .ok (.getfield 126, 3) := by decide +kernel
theorem dX6_readNumber_36 : decode cX6_readNumber 36 = .ok (.ldc 109, 2) := by decide +kernel
theorem dX6_readNumber_38 : decode cX6_readNumber 38 = .ok (.if_icmp .le 10, 3) := by decide +kernel
theorem dX6_readNumber_41 : decode cX6_readNumber 41 = .ok (.aload_n 0, 1) := by decide +kernel
theorem dX6_readNumber_42 : decode cX6_readNumber 42 = .ok (.getfield 126, 3) := by decide +kernel
theorem dX6_readNumber_45 : decode cX6_readNumber 45 = .ok (.goto 23, 3) := by decide +kernel
theorem dX6_readNumber_48 : decode cX6_readNumber 48 = .ok (.aload_n 0, 1) := by decide +kernel
theorem dX6_readNumber_49 : decode cX6_readNumber 49 = .ok (.getfield 126, 3) := by decide +kernel
theorem dX6_readNumber_52 : decode cX6_readNumber 52 = .ok (.bipush 10, 2) := by decide +kernel
theorem dX6_readNumber_54 : decode cX6_readNumber 54 = .ok (.imul, 1) := by decide +kernel
theorem dX6_readNumber_55 : decode cX6_readNumber 55 = .ok (.aload_n 0, 1) := by decide +kernel
theorem dX6_readNumber_56 : decode cX6_readNumber 56 = .ok (.getfield 9, 3) := by decide +kernel
theorem dX6_readNumber_59 : decode cX6_readNumber 59 = .ok (.aload_n 0, 1) := by decide +kernel
theorem dX6_readNumber_60 : decode cX6_readNumber 60 = .ok (.getfield 61, 3) := by decide +kernel
theorem dX6_readNumber_63 : decode cX6_readNumber 63 = .ok (.baload, 1) := by decide +kernel
theorem dX6_readNumber_64 : decode cX6_readNumber 64 = .ok (.iadd, 1) := by decide +kernel
theorem dX6_readNumber_65 : decode cX6_readNumber 65 = .ok (.bipush 48, 2) := by decide +kernel
theorem dX6_readNumber_67 : decode cX6_readNumber 67 = .ok (.isub, 1) := by decide +kernel
theorem dX6_readNumber_68 : decode cX6_readNumber 68 = .ok (.putfield 126, 3) := by decide +kernel
theorem dX6_readNumber_71 : decode cX6_readNumber 71 = .ok (.aload_n 0, 1) := by decide +kernel
theorem dX6_readNumber_72 : decode cX6_readNumber 72 = .ok (.dup, 1) := by decide +kernel
theorem dX6_readNumber_73 : decode cX6_readNumber 73 = .ok (.getfield 61, 3) := by decide +kernel
theorem dX6_readNumber_76 : decode cX6_readNumber 76 = .ok (.iconst 1, 1) := by decide +kernel
theorem dX6_readNumber_77 : decode cX6_readNumber 77 = .ok (.iadd, 1) := by decide +kernel
theorem dX6_readNumber_78 : decode cX6_readNumber 78 = .ok (.putfield 61, 3) := by decide +kernel
theorem dX6_readNumber_81 : decode cX6_readNumber 81 = .ok (.goto (-76), 3) := by decide +kernel
theorem dX6_readNumber_84 : decode cX6_readNumber 84 = .ok (.return_, 1) := by decide +kernel
theorem dX6_readSign_0 : decode cX6_readSign 0 = .ok (.aload_n 0, 1) := by decide +kernel
theorem dX6_readSign_1 : decode cX6_readSign 1 = .ok (.getfield 9, 3) := by decide +kernel
theorem dX6_readSign_4 : decode cX6_readSign 4 = .ok (.aload_n 0, 1) := by decide +kernel
theorem dX6_readSign_5 : decode cX6_readSign 5 = .ok (.getfield 61, 3) := by decide +kernel
theorem dX6_readSign_8 : decode cX6_readSign 8 = .ok (.baload, 1) := by decide +kernel
theorem dX6_readSign_9 : decode cX6_readSign 9 = .ok (.istore_n 1, 1) := by decide +kernel
theorem dX6_readSign_10 : decode cX6_readSign 10 = .ok (.aload_n 0, 1) := by decide +kernel
theorem dX6_readSign_11 : decode cX6_readSign 11 = .ok (.dup, 1) := by decide +kernel
theorem dX6_readSign_12 : decode cX6_readSign 12 = .ok (.getfield 61, 3) := by decide +kernel
theorem dX6_readSign_15 : decode cX6_readSign 15 = .ok (.iconst 1, 1) := by decide +kernel
theorem dX6_readSign_16 : decode cX6_readSign 16 = .ok (.iadd, 1) := by decide +kernel
theorem dX6_readSign_17 : decode cX6_readSign 17 = .ok (.putfield 61, 3) := by decide +kernel
theorem dX6_readSign_20 : decode cX6_readSign 20 = .ok (.aload_n 0, 1) := by decide +kernel
theorem dX6_readSign_21 : decode cX6_readSign 21 = .ok (.getfield 61, 3) := by decide +kernel
theorem dX6_readSign_24 : decode cX6_readSign 24 = .ok (.aload_n 0, 1) := by decide +kernel
theorem dX6_readSign_25 : decode cX6_readSign 25 = .ok (.getfield 58, 3) := by decide +kernel
theorem dX6_readSign_28 : decode cX6_readSign 28 = .ok (.if_icmp .ge 15, 3) := by decide +kernel
theorem dX6_readSign_31 : decode cX6_readSign 31 = .ok (.aload_n 0, 1) := by decide +kernel
theorem dX6_readSign_32 : decode cX6_readSign 32 = .ok (.getfield 9, 3) := by decide +kernel
theorem dX6_readSign_35 : decode cX6_readSign 35 = .ok (.aload_n 0, 1) := by decide +kernel
theorem dX6_readSign_36 : decode cX6_readSign 36 = .ok (.getfield 61, 3) := by decide +kernel
theorem dX6_readSign_39 : decode cX6_readSign 39 = .ok (.baload, 1) := by decide +kernel
theorem dX6_readSign_40 : decode cX6_readSign 40 = .ok (.goto 4, 3) := by decide +kernel
theorem dX6_readSign_43 : decode cX6_readSign 43 = .ok (.iconst 0, 1) := by decide +kernel
theorem dX6_readSign_44 : decode cX6_readSign 44 = .ok (.istore_n 2, 1) := by decide +kernel
theorem dX6_readSign_45 : decode cX6_readSign 45 = .ok (.iload_n 1, 1) := by decide +kernel
theorem dX6_readSign_46 : decode cX6_readSign 46 = .ok (.tableswitch 227 40 62 #[114, 122, 149, 131, 227, 140, 227, 158, 227, 227, 227, 227, 227, 227, 227, 227, 227, 227, 227, 106, 176, 167, 207], 106) := by decide +kernel
theorem dX6_readSign_152 : decode cX6_readSign 152 = .ok (.aload_n 0, 1) := by decide +kernel
theorem dX6_readSign_153 : decode cX6_readSign 153 = .ok (.iconst 4, 1) := by decide +kernel
theorem dX6_readSign_154 : decode cX6_readSign 154 = .ok (.putfield 73, 3) := by decide +kernel
theorem dX6_readSign_157 : decode cX6_readSign 157 = .ok (.goto 121, 3) := by decide +kernel
theorem dX6_readSign_160 : decode cX6_readSign 160 = .ok (.aload_n 0, 1) := by decide +kernel
theorem dX6_readSign_161 : decode cX6_readSign 161 = .ok (.iconst 5, 1) := by decide +kernel
theorem dX6_readSign_162 : decode cX6_readSign 162 = .ok (.putfield 73, 3) := by decide +kernel
theorem dX6_readSign_165 : decode cX6_readSign 165 = .ok (.goto 113, 3) := by decide +kernel
theorem dX6_readSign_168 : decode cX6_readSign 168 = .ok (.aload_n 0, 1) := by decide +kernel
theorem dX6_readSign_169 : decode cX6_readSign 169 = .ok (.bipush 6, 2) := by decide +kernel
theorem dX6_readSign_171 : decode cX6_readSign 171 = .ok (.putfield 73, 3) := by decide +kernel
theorem dX6_readSign_174 : decode cX6_readSign 174 = .ok (.goto 104, 3) := by decide +kernel
theorem dX6_readSign_177 : decode cX6_readSign 177 = .ok (.aload_n 0, 1) := by decide +kernel
theorem dX6_readSign_178 : decode cX6_readSign 178 = .ok (.bipush 13, 2) := by decide +kernel
theorem dX6_readSign_180 : decode cX6_readSign 180 = .ok (.putfield 73, 3) := by decide +kernel
theorem dX6_readSign_183 : decode cX6_readSign 183 = .ok (.goto 95, 3) := by decide +kernel
theorem dX6_readSign_186 : decode cX6_readSign 186 = .ok (.aload_n 0, 1) := by decide +kernel
theorem dX6_readSign_187 : decode cX6_readSign 187 = .ok (.bipush 14, 2) := by decide +kernel
theorem dX6_readSign_189 : decode cX6_readSign 189 = .ok (.putfield 73, 3) := by decide +kernel
theorem dX6_readSign_192 : decode cX6_readSign 192 = .ok (.goto 86, 3) := by decide +kernel
theorem dX6_readSign_195 : decode cX6_readSign 195 = .ok (.aload_n 0, 1) := by decide +kernel
theorem dX6_readSign_196 : decode cX6_readSign 196 = .ok (.bipush 15, 2) := by decide +kernel
theorem dX6_readSign_198 : decode cX6_readSign 198 = .ok (.putfield 73, 3) := by decide +kernel
theorem dX6_readSign_201 : decode cX6_readSign 201 = .ok (.goto 77, 3) := by decide +kernel
theorem dX6_readSign_204 : decode cX6_readSign 204 = .ok (.aload_n 0, 1) := by decide +kernel
theorem dX6_readSign_205 : decode cX6_readSign 205 = .ok (.bipush 16, 2) := by decide +kernel
theorem dX6_readSign_207 : decode cX6_readSign 207 = .ok (.putfield 73, 3) := by decide +kernel
theorem dX6_readSign_210 : decode cX6_readSign 210 = .ok (.goto 68, 3) := by decide +kernel
theorem dX6_readSign_213 : decode cX6_readSign 213 = .ok (.aload_n 0, 1) := by decide +kernel
theorem dX6_readSign_214 : decode cX6_readSign 214 = .ok (.bipush 9, 2) := by decide +kernel
theorem dX6_readSign_216 : decode cX6_readSign 216 = .ok (.putfield 73, 3) := by decide +kernel
theorem dX6_readSign_219 : decode cX6_readSign 219 = .ok (.goto 59, 3) := by decide +kernel
theorem dX6_readSign_222 : decode cX6_readSign 222 = .ok (.aload_n 0, 1) := by decide +kernel
theorem dX6_readSign_223 : decode cX6_readSign 223 = .ok (.iload_n 2, 1) := by decide +kernel
theorem dX6_readSign_224 : decode cX6_readSign 224 = .ok (.bipush 61, 2) := by decide +kernel
theorem dX6_readSign_226 : decode cX6_readSign 226 = .ok (.if_icmp .ne 8, 3) := by decide +kernel
theorem dX6_readSign_229 : decode cX6_readSign 229 = .ok (.bipush 8, 2) := by decide +kernel
theorem dX6_readSign_231 : decode cX6_readSign 231 = .ok (.goto 16, 3) := by decide +kernel
theorem dX6_readSign_234 : decode cX6_readSign 234 = .ok (.iload_n 2, 1) := by decide +kernel
theorem dX6_readSign_235 : decode cX6_readSign 235 = .ok (.bipush 62, 2) := by decide +kernel
theorem dX6_readSign_237 : decode cX6_readSign 237 = .ok (.if_icmp .ne 8, 3) := by decide +kernel
theorem dX6_readSign_240 : decode cX6_readSign 240 = .ok (.bipush 10, 2) := by decide +kernel
theorem dX6_readSign_242 : decode cX6_readSign 242 = .ok (.goto 5, 3) := by decide +kernel
theorem dX6_readSign_245 : decode cX6_readSign 245 = .ok (.bipush 7, 2) := by decide +kernel
theorem dX6_readSign_247 : decode cX6_readSign 247 = .ok (.putfield 73, 3) := by decide +kernel
theorem dX6_readSign_250 : decode cX6_readSign 250 = .ok (.goto 28, 3) := by decide +kernel
theorem dX6_readSign_253 : decode cX6_readSign 253 = .ok (.aload_n 0, 1) := by decide +kernel
theorem dX6_readSign_254 : decode cX6_readSign 254 = .ok (.iload_n 2, 1) := by decide +kernel
theorem dX6_readSign_255 : decode cX6_readSign 255 = .ok (.bipush 61, 2) := by decide +kernel
theorem dX6_readSign_257 : decode cX6_readSign 257 = .ok (.if_icmp .ne 8, 3) := by decide +kernel
theorem dX6_readSign_260 : decode cX6_readSign 260 = .ok (.bipush 11, 2) := by decide +kernel
theorem dX6_readSign_262 : decode cX6_readSign 262 = .ok (.goto 5, 3) := by decide +kernel
theorem dX6_readSign_265 : decode cX6_readSign 265 = .ok (.bipush 12, 2) := by decide +kernel
theorem dX6_readSign_267 : decode cX6_readSign 267 = .ok (.putfield 73, 3) := by decide +kernel
theorem dX6_readSign_270 : decode cX6_readSign 270 = .ok (.goto 8, 3) := by decide +kernel
theorem dX6_readSign_273 : decode cX6_readSign 273 = .ok (.aload_n 0, 1) := by decide +kernel
theorem dX6_readSign_274 : decode cX6_readSign 274 = .ok (.iconst 1, 1) := by decide +kernel
theorem dX6_readSign_275 : decode cX6_readSign 275 = .ok (.putfield 73, 3) := by decide +kernel
theorem dX6_readSign_278 : decode cX6_readSign 278 = .ok (.aload_n 0, 1) := by decide +kernel
theorem dX6_readSign_279 : decode cX6_readSign 279 = .ok (.getfield 73, 3) := by decide +kernel
theorem dX6_readSign_282 : decode cX6_readSign 282 = .ok (.bipush 8, 2) := by decide +kernel
theorem dX6_readSign_284 : decode cX6_readSign 284 = .ok (.if_icmp .eq 21, 3) := by decide +kernel
theorem dX6_readSign_287 : decode cX6_readSign 287 = .ok (.aload_n 0, 1) := by decide +kernel
theorem dX6_readSign_288 : decode cX6_readSign 288 = .ok (.getfield 73, 3) := by decide +kernel
theorem dX6_readSign_291 : decode cX6_readSign 291 = .ok (.bipush 10, 2) := by decide +kernel
theorem dX6_readSign_293 : decode cX6_readSign 293 = .ok (.if_icmp .eq 12, 3) := by decide +kernel
theorem dX6_readSign_296 : decode cX6_readSign 296 = .ok (.aload_n 0, 1) := by decide +kernel
theorem dX6_readSign_297 : decode cX6_readSign 297 = .ok (.getfield 73, 3) := by decide +kernel
theorem dX6_readSign_300 : decode cX6_readSign 300 = .ok (.bipush 11, 2) := by decide +kernel
theorem dX6_readSign_302 : decode cX6_readSign 302 = .ok (.if_icmp .ne 13, 3) := by decide +kernel
theorem dX6_readSign_305 : decode cX6_readSign 305 = .ok (.aload_n 0, 1) := by decide +kernel
theorem dX6_readSign_306 : decode cX6_readSign 306 = .ok (.dup, 1) := by decide +kernel
theorem dX6_readSign_307 : decode cX6_readSign 307 = .ok (.getfield 61, 3) := by decide +kernel
theorem dX6_readSign_310 : decode cX6_readSign 310 = .ok (.iconst 1, 1) := by decide +kernel
theorem dX6_readSign_311 : decode cX6_readSign 311 = .ok (.iadd, 1) := by decide +kernel
theorem dX6_readSign_312 : decode cX6_readSign 312 = .ok (.putfield 61, 3) := by decide +kernel
theorem dX6_readSign_315 : decode cX6_readSign 315 = .ok (.return_, 1) := by decide +kernel
