theorem dX9_feed_0 : decode cX9_feed 0 = .ok (.aload_n 0, 1) := by decide +kernel
theorem dX9_feed_1 : decode cX9_feed 1 = .ok (.getfield 12, 3) := by decide +kernel
theorem dX9_feed_4 : decode cX9_feed 4 = .ok (.getfield 73, 3) := by decide +kernel
theorem dX9_feed_7 : decode cX9_feed 7 = .ok (.sipush 680, 3) := by decide +kernel
theorem dX9_feed_10 : decode cX9_feed 10 = .ok (.if_icmp .le 5, 3) := by decide +kernel
theorem dX9_feed_13 : decode cX9_feed 13 = .ok (.iconst (-1), 1) := by decide +kernel
theorem dX9_feed_14 : decode cX9_feed 14 = .ok (.ireturn, 1) := by decide +kernel
theorem dX9_feed_15 : decode cX9_feed 15 = .ok (.aload_n 0, 1) := by decide +kernel
theorem dX9_feed_16 : decode cX9_feed 16 = .ok (.getfield 12, 3) := by decide +kernel
theorem dX9_feed_19 : decode cX9_feed 19 = .ok (.iload_n 1, 1) := by decide +kernel
theorem dX9_feed_20 : decode cX9_feed 20 = .ok (.invokevirtual 77, 3) := by decide +kernel
theorem dX9_feed_23 : decode cX9_feed 23 = .ok (.aload_n 0, 1) := by decide +kernel
theorem dX9_feed_24 : decode cX9_feed 24 = .ok (.getfield 12, 3) := by decide +kernel
theorem dX9_feed_27 : decode cX9_feed 27 = .ok (.iload_n 2, 1) := by decide +kernel
theorem dX9_feed_28 : decode cX9_feed 28 = .ok (.invokevirtual 77, 3) := by decide +kernel
theorem dX9_feed_31 : decode cX9_feed 31 = .ok (.aload_n 0, 1) := by decide +kernel
theorem dX9_feed_32 : decode cX9_feed 32 = .ok (.getfield 12, 3) := by decide +kernel
theorem dX9_feed_35 : decode cX9_feed 35 = .ok (.iload_n 3, 1) := by decide +kernel
theorem dX9_feed_36 : decode cX9_feed 36 = .ok (.invokevirtual 77, 3) := by decide +kernel
theorem dX9_feed_39 : decode cX9_feed 39 = .ok (.aload_n 0, 1) := by decide +kernel
theorem dX9_feed_40 : decode cX9_feed 40 = .ok (.getfield 12, 3) := by decide +kernel
theorem dX9_feed_43 : decode cX9_feed 43 = .ok (.iload 4, 2) := by decide +kernel
theorem dX9_feed_45 : decode cX9_feed 45 = .ok (.invokevirtual 77, 3) := by decide +kernel
theorem dX9_feed_48 : decode cX9_feed 48 = .ok (.aload_n 0, 1) := by decide +kernel
theorem dX9_feed_49 : decode cX9_feed 49 = .ok (.getfield 12, 3) := by decide +kernel
theorem dX9_feed_52 : decode cX9_feed 52 = .ok (.iload 5, 2) := by decide +kernel
theorem dX9_feed_54 : decode cX9_feed 54 = .ok (.invokevirtual 77, 3) := by decide +kernel
theorem dX9_feed_57 : decode cX9_feed 57 = .ok (.aload_n 0, 1) := by decide +kernel
theorem dX9_feed_58 : decode cX9_feed 58 = .ok (.getfield 12, 3) := by decide +kernel
theorem dX9_feed_61 : decode cX9_feed 61 = .ok (.getfield 73, 3) := by decide +kernel
theorem dX9_feed_64 : decode cX9_feed 64 = .ok (.ireturn, 1) := by decide +kernel
theorem dX9_text_0 : decode cX9_text 0 = .ok (.iload_n 1, 1) := by decide +kernel
theorem dX9_text_1 : decode cX9_text 1 = .ok (.ifCond .lt 14, 3) := by decide +kernel
theorem dX9_text_4 : decode cX9_text 4 = .ok (.iload_n 1, 1) := by decide +kernel
theorem dX9_text_5 : decode cX9_text 5 = .ok (.aload_n 0, 1) := by decide +kernel
theorem dX9_text_6 : decode cX9_text 6 = .ok (.getfield 12, 3) := by decide +kernel
theorem dX9_text_9 : decode cX9_text 9 = .ok (.getfield 73, 3) := by decide +kernel
theorem dX9_text_12 : decode cX9_text 12 = .ok (.if_icmp .le 6, 3) := by decide +kernel
theorem dX9_text_15 : decode cX9_text 15 = .ok (.bipush (-2), 2) := by decide +kernel
theorem dX9_text_17 : decode cX9_text 17 = .ok (.ireturn, 1) := by decide +kernel
theorem dX9_text_18 : decode cX9_text 18 = .ok (.aload_n 0, 1) := by decide +kernel
theorem dX9_text_19 : decode cX9_text 19 = .ok (.getfield 12, 3) := by decide +kernel
theorem dX9_text_22 : decode cX9_text 22 = .ok (.iload_n 1, 1) := by decide +kernel
theorem dX9_text_23 : decode cX9_text 23 = .ok (.invokevirtual 81, 3) := by decide +kernel
theorem dX9_text_26 : decode cX9_text 26 = .ok (.iconst 0, 1) := by decide +kernel
theorem dX9_text_27 : decode cX9_text 27 = .ok (.istore_n 2, 1) := by decide +kernel
theorem dX9_text_28 : decode cX9_text 28 = .ok (.iload_n 2, 1) := by decide +kernel
theorem dX9_text_29 : decode cX9_text 29 = .ok (.sipush 700, 3) := by decide +kernel
theorem dX9_text_32 : decode cX9_text 32 = .ok (.if_icmp .ge 26, 3) := by decide +kernel
theorem dX9_text_35 : decode cX9_text 35 = .ok (.aload_n 0, 1) := by decide +kernel
theorem dX9_text_36 : decode cX9_text 36 = .ok (.getfield 12, 3) := by decide +kernel
theorem dX9_text_39 : decode cX9_text 39 = .ok (.invokevirtual 84, 3) := by decide +kernel
theorem dX9_text_42 : decode cX9_text 42 = .ok (.ifCond .eq 16, 3) := by decide +kernel
theorem dX9_text_45 : decode cX9_text 45 = .ok (.aload_n 0, 1) := by decide +kernel
theorem dX9_text_46 : decode cX9_text 46 = .ok (.getfield 12, 3) := by decide +kernel
theorem dX9_text_49 : decode cX9_text 49 = .ok (.invokevirtual 88, 3) := by decide +kernel
theorem dX9_text_52 : decode cX9_text 52 = .ok (.iinc 2 1, 3) := by decide +kernel
theorem dX9_text_55 : decode cX9_text 55 = .ok (.goto (-27), 3) := by decide +kernel
theorem dX9_text_58 : decode cX9_text 58 = .ok (.aload_n 0, 1) := by decide +kernel
theorem dX9_text_59 : decode cX9_text 59 = .ok (.getfield 12, 3) := by decide +kernel
theorem dX9_text_62 : decode cX9_text 62 = .ok (.getfield 91, 3) := by decide +kernel
theorem dX9_text_65 : decode cX9_text 65 = .ok (.ifCond .eq 5, 3) := by decide +kernel
theorem dX9_text_68 : decode cX9_text 68 = .ok (.iconst (-1), 1) := by decide +kernel
theorem dX9_text_69 : decode cX9_text 69 = .ok (.ireturn, 1) := by decide +kernel
theorem dX9_text_70 : decode cX9_text 70 = .ok (.aload_n 0, 1) := by decide +kernel
theorem dX9_text_71 : decode cX9_text 71 = .ok (.aload_n 0, 1) := by decide +kernel
theorem dX9_text_72 : decode cX9_text 72 = .ok (.getfield 12, 3) := by decide +kernel
theorem dX9_text_75 : decode cX9_text 75 = .ok (.aload_n 0, 1) := by decide +kernel
theorem dX9_text_76 : decode cX9_text 76 = .ok (.getfield 21, 3) := by decide +kernel
theorem dX9_text_79 : decode cX9_text 79 = .ok (.invokevirtual 94, 3) := by decide +kernel
theorem dX9_text_82 : decode cX9_text 82 = .ok (.putfield 21, 3) := by decide +kernel
theorem dX9_text_85 : decode cX9_text 85 = .ok (.aload_n 0, 1) := by decide +kernel
theorem dX9_text_86 : decode cX9_text 86 = .ok (.getfield 28, 3) := by decide +kernel
theorem dX9_text_89 : decode cX9_text 89 = .ok (.aload_n 0, 1) := by decide +kernel
theorem dX9_text_90 : decode cX9_text 90 = .ok (.getfield 21, 3) := by decide +kernel
theorem dX9_text_93 : decode cX9_text 93 = .ok (.invokevirtual 98, 3) := by decide +kernel
theorem dX9_text_96 : decode cX9_text 96 = .ok (.aload_n 0, 1) := by decide +kernel
theorem dX9_text_97 : decode cX9_text 97 = .ok (.getfield 41, 3) := by decide +kernel
theorem dX9_text_100 : decode cX9_text 100 = .ok (.iconst 0, 1) := by decide +kernel
theorem dX9_text_101 : decode cX9_text 101 = .ok (.putfield 101, 3) := by decide +kernel
theorem dX9_text_104 : decode cX9_text 104 = .ok (.aload_n 0, 1) := by decide +kernel
theorem dX9_text_105 : decode cX9_text 105 = .ok (.getfield 48, 3) := by decide +kernel
theorem dX9_text_108 : decode cX9_text 108 = .ok (.invokevirtual 104, 3) := by decide +kernel
theorem dX9_text_111 : decode cX9_text 111 = .ok (.aload_n 0, 1) := by decide +kernel
theorem dX9_text_112 : decode cX9_text 112 = .ok (.iconst 0, 1) := by decide +kernel
theorem dX9_text_113 : decode cX9_text 113 = .ok (.putfield 107, 3) := by decide +kernel
theorem dX9_text_116 : decode cX9_text 116 = .ok (.iload_n 2, 1) := by decide +kernel
theorem dX9_text_117 : decode cX9_text 117 = .ok (.ireturn, 1) := by decide +kernel
theorem dX9_fault_0 : decode cX9_fault 0 = .ok (.iload_n 1, 1) := by decide +kernel
theorem dX9_fault_1 : decode cX9_fault 1 = .ok (.ifCond .ne 11, 3) := by decide +kernel
theorem dX9_fault_4 : decode cX9_fault 4 = .ok (.aload_n 0, 1) := by decide +kernel
theorem dX9_fault_5 : decode cX9_fault 5 = .ok (.getfield 12, 3) := by decide +kernel
theorem dX9_fault_8 : decode cX9_fault 8 = .ok (.getfield 91, 3) := by decide +kernel
theorem dX9_fault_11 : decode cX9_fault 11 = .ok (.ireturn, 1) := by decide +kernel
theorem dX9_fault_12 : decode cX9_fault 12 = .ok (.iload_n 1, 1) := by decide +kernel
theorem dX9_fault_13 : decode cX9_fault 13 = .ok (.iconst 1, 1) := by decide +kernel
theorem dX9_fault_14 : decode cX9_fault 14 = .ok (.if_icmp .ne 13, 3) := by decide +kernel
theorem dX9_fault_17 : decode cX9_fault 17 = .ok (.aload_n 0, 1) := by decide +kernel
theorem dX9_fault_18 : decode cX9_fault 18 = .ok (.getfield 12, 3) := by decide +kernel
theorem dX9_fault_21 : decode cX9_fault 21 = .ok (.getfield 111, 3) := by decide +kernel
theorem dX9_fault_24 : decode cX9_fault 24 = .ok (.goto 4, 3) := by decide +kernel
theorem dX9_fault_27 : decode cX9_fault 27 = .ok (.iconst (-1), 1) := by decide +kernel
theorem dX9_fault_28 : decode cX9_fault 28 = .ok (.ireturn, 1) := by decide +kernel
theorem dX9_named_0 : decode cX9_named 0 = .ok (.iload_n 1, 1) := by decide +kernel
theorem dX9_named_1 : decode cX9_named 1 = .ok (.ifCond .ne 12, 3) := by decide +kernel
theorem dX9_named_4 : decode cX9_named 4 = .ok (.aload_n 0, 1) := by decide +kernel
theorem dX9_named_5 : decode cX9_named 5 = .ok (.getfield 21, 3) := by decide +kernel
theorem dX9_named_8 : decode cX9_named 8 = .ok (.iload_n 2, 1) := by decide +kernel
theorem dX9_named_9 : decode cX9_named 9 = .ok (.invokevirtual 114, 3) := by decide +kernel
theorem dX9_named_12 : decode cX9_named 12 = .ok (.ireturn, 1) := by decide +kernel
theorem dX9_named_13 : decode cX9_named 13 = .ok (.iload_n 1, 1) := by decide +kernel
theorem dX9_named_14 : decode cX9_named 14 = .ok (.iconst 1, 1) := by decide +kernel
theorem dX9_named_15 : decode cX9_named 15 = .ok (.if_icmp .ne 14, 3) := by decide +kernel
theorem dX9_named_18 : decode cX9_named 18 = .ok (.aload_n 0, 1) := by decide +kernel
theorem dX9_named_19 : decode cX9_named 19 = .ok (.getfield 21, 3) := by decide +kernel
theorem dX9_named_22 : decode cX9_named 22 = .ok (.iload_n 2, 1) := by decide +kernel
theorem dX9_named_23 : decode cX9_named 23 = .ok (.invokevirtual 118, 3) := by decide +kernel
theorem dX9_named_26 : decode cX9_named 26 = .ok (.goto 4, 3) := by decide +kernel
theorem dX9_named_29 : decode cX9_named 29 = .ok (.iconst (-1), 1) := by decide +kernel
theorem dX9_named_30 : decode cX9_named 30 = .ok (.ireturn, 1) := by decide +kernel
theorem dX9_motion_0 : decode cX9_motion 0 = .ok (.aload_n 0, 1) := by decide +kernel
theorem dX9_motion_1 : decode cX9_motion 1 = .ok (.iload_n 1, 1) := by decide +kernel
theorem dX9_motion_2 : decode cX9_motion 2 = .ok (.invokevirtual 121, 3) := by decide +kernel
theorem dX9_motion_5 : decode cX9_motion 5 = .ok (.ifCond .ne 13, 3) := by decide +kernel
theorem dX9_motion_8 : decode cX9_motion 8 = .ok (.new 125, 3) := by decide +kernel
theorem dX9_motion_11 : decode cX9_motion 11 = .ok (.dup, 1) := by decide +kernel
theorem dX9_motion_12 : decode cX9_motion 12 = .ok (.ldc 127, 2) := by decide +kernel
theorem dX9_motion_14 : decode cX9_motion 14 = .ok (.invokespecial 129, 3) := by decide +kernel
theorem dX9_motion_17 : decode cX9_motion 17 = .ok (.athrow, 1) := by decide +kernel
theorem dX9_motion_18 : decode cX9_motion 18 = .ok (.iload_n 2, 1) := by decide +kernel
theorem dX9_motion_19 : decode cX9_motion 19 = .ok (.tableswitch 69 0 3 #[29, 39, 49, 59], 29) := by decide +kernel
theorem dX9_motion_48 : decode cX9_motion 48 = .ok (.aload_n 0, 1) := by decide +kernel
theorem dX9_motion_49 : decode cX9_motion 49 = .ok (.getfield 21, 3) := by decide +kernel
theorem dX9_motion_52 : decode cX9_motion 52 = .ok (.getfield 132, 3) := by decide +kernel
theorem dX9_motion_55 : decode cX9_motion 55 = .ok (.iload_n 1, 1) := by decide +kernel
theorem dX9_motion_56 : decode cX9_motion 56 = .ok (.iaload, 1) := by decide +kernel
theorem dX9_motion_57 : decode cX9_motion 57 = .ok (.ireturn, 1) := by decide +kernel
theorem dX9_motion_58 : decode cX9_motion 58 = .ok (.aload_n 0, 1) := by decide +kernel
theorem dX9_motion_59 : decode cX9_motion 59 = .ok (.getfield 28, 3) := by decide +kernel
theorem dX9_motion_62 : decode cX9_motion 62 = .ok (.getfield 136, 3) := by decide +kernel
theorem dX9_motion_65 : decode cX9_motion 65 = .ok (.iload_n 1, 1) := by decide +kernel
theorem dX9_motion_66 : decode cX9_motion 66 = .ok (.iaload, 1) := by decide +kernel
theorem dX9_motion_67 : decode cX9_motion 67 = .ok (.ireturn, 1) := by decide +kernel
theorem dX9_motion_68 : decode cX9_motion 68 = .ok (.aload_n 0, 1) := by decide +kernel
theorem dX9_motion_69 : decode cX9_motion 69 = .ok (.getfield 28, 3) := by decide +kernel
theorem dX9_motion_72 : decode cX9_motion 72 = .ok (.getfield 139, 3) := by decide +kernel
theorem dX9_motion_75 : decode cX9_motion 75 = .ok (.iload_n 1, 1) := by decide +kernel
theorem dX9_motion_76 : decode cX9_motion 76 = .ok (.iaload, 1) := by decide +kernel
theorem dX9_motion_77 : decode cX9_motion 77 = .ok (.ireturn, 1) := by decide +kernel
theorem dX9_motion_78 : decode cX9_motion 78 = .ok (.aload_n 0, 1) := by decide +kernel
theorem dX9_motion_79 : decode cX9_motion 79 = .ok (.getfield 28, 3) := by decide +kernel
theorem dX9_motion_82 : decode cX9_motion 82 = .ok (.getfield 142, 3) := by decide +kernel
theorem dX9_motion_85 : decode cX9_motion 85 = .ok (.iload_n 1, 1) := by decide +kernel
theorem dX9_motion_86 : decode cX9_motion 86 = .ok (.iaload, 1) := by decide +kernel
theorem dX9_motion_87 : decode cX9_motion 87 = .ok (.ireturn, 1) := by decide +kernel
theorem dX9_motion_88 : decode cX9_motion 88 = .ok (.new 145, 3) := by decide +kernel
theorem dX9_motion_91 : decode cX9_motion 91 = .ok (.dup, 1) := by decide +kernel
theorem dX9_motion_92 : decode cX9_motion 92 = .ok (.ldc 147, 2) := by decide +kernel
theorem dX9_motion_94 : decode cX9_motion 94 = .ok (.invokespecial 149, 3) := by decide +kernel
theorem dX9_motion_97 : decode cX9_motion 97 = .ok (.athrow, 1) := by decide +kernel
theorem dX9_fork_0 : decode cX9_fork 0 = .ok (.aload_n 0, 1) := by decide +kernel
theorem dX9_fork_1 : decode cX9_fork 1 = .ok (.iload_n 1, 1) := by decide +kernel
theorem dX9_fork_2 : decode cX9_fork 2 = .ok (.invokevirtual 150, 3) := by decide +kernel
theorem dX9_fork_5 : decode cX9_fork 5 = .ok (.ifCond .ne 5, 3) := by decide +kernel
theorem dX9_fork_8 : decode cX9_fork 8 = .ok (.iconst (-1), 1) := by decide +kernel
theorem dX9_fork_9 : decode cX9_fork 9 = .ok (.ireturn, 1) := by decide +kernel
theorem dX9_fork_10 : decode cX9_fork 10 = .ok (.iload_n 2, 1) := by decide +kernel
theorem dX9_fork_11 : decode cX9_fork 11 = .ok (.tableswitch 101 0 5 #[37, 47, 57, 67, 77, 89], 37) := by decide +kernel
theorem dX9_fork_48 : decode cX9_fork 48 = .ok (.aload_n 0, 1) := by decide +kernel
theorem dX9_fork_49 : decode cX9_fork 49 = .ok (.getfield 28, 3) := by decide +kernel
theorem dX9_fork_52 : decode cX9_fork 52 = .ok (.getfield 153, 3) := by decide +kernel
theorem dX9_fork_55 : decode cX9_fork 55 = .ok (.iload_n 1, 1) := by decide +kernel
theorem dX9_fork_56 : decode cX9_fork 56 = .ok (.iaload, 1) := by decide +kernel
theorem dX9_fork_57 : decode cX9_fork 57 = .ok (.ireturn, 1) := by decide +kernel
theorem dX9_fork_58 : decode cX9_fork 58 = .ok (.aload_n 0, 1) := by decide +kernel
theorem dX9_fork_59 : decode cX9_fork 59 = .ok (.getfield 21, 3) := by decide +kernel
theorem dX9_fork_62 : decode cX9_fork 62 = .ok (.getfield 156, 3) := by decide +kernel
theorem dX9_fork_65 : decode cX9_fork 65 = .ok (.iload_n 1, 1) := by decide +kernel
theorem dX9_fork_66 : decode cX9_fork 66 = .ok (.iaload, 1) := by decide +kernel
theorem dX9_fork_67 : decode cX9_fork 67 = .ok (.ireturn, 1) := by decide +kernel
theorem dX9_fork_68 : decode cX9_fork 68 = .ok (.aload_n 0, 1) := by decide +kernel
theorem dX9_fork_69 : decode cX9_fork 69 = .ok (.getfield 21, 3) := by decide +kernel
theorem dX9_fork_72 : decode cX9_fork 72 = .ok (.getfield 159, 3) := by decide +kernel
theorem dX9_fork_75 : decode cX9_fork 75 = .ok (.iload_n 1, 1) := by decide +kernel
theorem dX9_fork_76 : decode cX9_fork 76 = .ok (.iaload, 1) := by decide +kernel
theorem dX9_fork_77 : decode cX9_fork 77 = .ok (.ireturn, 1) := by decide +kernel
theorem dX9_fork_78 : decode cX9_fork 78 = .ok (.aload_n 0, 1) := by decide +kernel
theorem dX9_fork_79 : decode cX9_fork 79 = .ok (.getfield 21, 3) := by decide +kernel
theorem dX9_fork_82 : decode cX9_fork 82 = .ok (.getfield 162, 3) := by decide +kernel
theorem dX9_fork_85 : decode cX9_fork 85 = .ok (.iload_n 1, 1) := by decide +kernel
theorem dX9_fork_86 : decode cX9_fork 86 = .ok (.iaload, 1) := by decide +kernel
theorem dX9_fork_87 : decode cX9_fork 87 = .ok (.ireturn, 1) := by decide +kernel
theorem dX9_fork_88 : decode cX9_fork 88 = .ok (.aload_n 0, 1) := by decide +kernel
theorem dX9_fork_89 : decode cX9_fork 89 = .ok (.getfield 21, 3) := by decide +kernel
theorem dX9_fork_92 : decode cX9_fork 92 = .ok (.getfield 165, 3) := by decide +kernel
theorem dX9_fork_95 : decode cX9_fork 95 = .ok (.iload_n 1, 1) := by decide +kernel
theorem dX9_fork_96 : decode cX9_fork 96 = .ok (.invokestatic 168, 3) := by decide +kernel
theorem dX9_fork_99 : decode cX9_fork 99 = .ok (.ireturn, 1) := by decide +kernel
theorem dX9_fork_100 : decode cX9_fork 100 = .ok (.aload_n 0, 1) := by decide +kernel
theorem dX9_fork_101 : decode cX9_fork 101 = .ok (.getfield 28, 3) := by decide +kernel
theorem dX9_fork_104 : decode cX9_fork 104 = .ok (.getfield 172, 3) := by decide +kernel
theorem dX9_fork_107 : decode cX9_fork 107 = .ok (.iload_n 1, 1) := by decide +kernel
theorem dX9_fork_108 : decode cX9_fork 108 = .ok (.invokestatic 168, 3) := by decide +kernel
theorem dX9_fork_111 : decode cX9_fork 111 = .ok (.ireturn, 1) := by decide +kernel
theorem dX9_fork_112 : decode cX9_fork 112 = .ok (.iconst (-1), 1) := by decide +kernel
theorem dX9_fork_113 : decode cX9_fork 113 = .ok (.ireturn, 1) := by decide +kernel
theorem dX9_wet_0 : decode cX9_wet 0 = .ok (.iload_n 1, 1) := by decide +kernel
theorem dX9_wet_1 : decode cX9_wet 1 = .ok (.ifCond .lt 10, 3) := by decide +kernel
theorem dX9_wet_4 : decode cX9_wet 4 = .ok (.iload_n 1, 1) := by decide +kernel
theorem dX9_wet_5 : decode cX9_wet 5 = .ok (.sipush 9999, 3) := by decide +kernel
theorem dX9_wet_8 : decode cX9_wet 8 = .ok (.if_icmp .le 7, 3) := by decide +kernel
theorem dX9_wet_11 : decode cX9_wet 11 = .ok (.iconst (-1), 1) := by decide +kernel
theorem dX9_wet_12 : decode cX9_wet 12 = .ok (.goto 11, 3) := by decide +kernel
theorem dX9_wet_15 : decode cX9_wet 15 = .ok (.aload_n 0, 1) := by decide +kernel
theorem dX9_wet_16 : decode cX9_wet 16 = .ok (.getfield 21, 3) := by decide +kernel
theorem dX9_wet_19 : decode cX9_wet 19 = .ok (.iload_n 1, 1) := by decide +kernel
theorem dX9_wet_20 : decode cX9_wet 20 = .ok (.invokevirtual 175, 3) := by decide +kernel
theorem dX9_wet_23 : decode cX9_wet 23 = .ok (.ireturn, 1) := by decide +kernel
theorem dX9_beats_0 : decode cX9_beats 0 = .ok (.aload_n 0, 1) := by decide +kernel
theorem dX9_beats_1 : decode cX9_beats 1 = .ok (.iload_n 1, 1) := by decide +kernel
theorem dX9_beats_2 : decode cX9_beats 2 = .ok (.invokevirtual 150, 3) := by decide +kernel
theorem dX9_beats_5 : decode cX9_beats 5 = .ok (.ifCond .eq 22, 3) := by decide +kernel
theorem dX9_beats_8 : decode cX9_beats 8 = .ok (.iload_n 2, 1) := by decide +kernel
theorem dX9_beats_9 : decode cX9_beats 9 = .ok (.invokestatic 178, 3) := by decide +kernel
theorem dX9_beats_12 : decode cX9_beats 12 = .ok (.ifCond .eq 15, 3) := by decide +kernel
theorem dX9_beats_15 : decode cX9_beats 15 = .ok (.aload_n 0, 1) := by decide +kernel
theorem dX9_beats_16 : decode cX9_beats 16 = .ok (.getfield 28, 3) := by decide +kernel
theorem dX9_beats_19 : decode cX9_beats 19 = .ok (.iload_n 1, 1) := by decide +kernel
theorem dX9_beats_20 : decode cX9_beats 20 = .ok (.iload_n 2, 1) := by decide +kernel
theorem dX9_beats_21 : decode cX9_beats 21 = .ok (.invokevirtual 181, 3) := by decide +kernel
theorem dX9_beats_24 : decode cX9_beats 24 = .ok (.goto 4, 3) := by decide +kernel
theorem dX9_beats_27 : decode cX9_beats 27 = .ok (.iconst (-1), 1) := by decide +kernel
theorem dX9_beats_28 : decode cX9_beats 28 = .ok (.ireturn, 1) := by decide +kernel
theorem dX9_hums_0 : decode cX9_hums 0 = .ok (.aload_n 0, 1) := by decide +kernel
theorem dX9_hums_1 : decode cX9_hums 1 = .ok (.iload_n 1, 1) := by decide +kernel
theorem dX9_hums_2 : decode cX9_hums 2 = .ok (.invokevirtual 150, 3) := by decide +kernel
theorem dX9_hums_5 : decode cX9_hums 5 = .ok (.ifCond .eq 26, 3) := by decide +kernel
theorem dX9_hums_8 : decode cX9_hums 8 = .ok (.iload_n 2, 1) := by decide +kernel
theorem dX9_hums_9 : decode cX9_hums 9 = .ok (.invokestatic 178, 3) := by decide +kernel
theorem dX9_hums_12 : decode cX9_hums 12 = .ok (.ifCond .eq 19, 3) := by decide +kernel
theorem dX9_hums_15 : decode cX9_hums 15 = .ok (.aload_n 0, 1) := by decide +kernel
theorem dX9_hums_16 : decode cX9_hums 16 = .ok (.getfield 28, 3) := by decide +kernel
theorem dX9_hums_19 : decode cX9_hums 19 = .ok (.aload_n 0, 1) := by decide +kernel
theorem dX9_hums_20 : decode cX9_hums 20 = .ok (.getfield 21, 3) := by decide +kernel
theorem dX9_hums_23 : decode cX9_hums 23 = .ok (.iload_n 1, 1) := by decide +kernel
theorem dX9_hums_24 : decode cX9_hums 24 = .ok (.iload_n 2, 1) := by decide +kernel
theorem dX9_hums_25 : decode cX9_hums 25 = .ok (.invokevirtual 184, 3) := by decide +kernel
theorem dX9_hums_28 : decode cX9_hums 28 = .ok (.goto 4, 3) := by decide +kernel
theorem dX9_hums_31 : decode cX9_hums 31 = .ok (.iconst (-1), 1) := by decide +kernel
theorem dX9_hums_32 : decode cX9_hums 32 = .ok (.ireturn, 1) := by decide +kernel
theorem dX9_struck_0 : decode cX9_struck 0 = .ok (.iload_n 1, 1) := by decide +kernel
theorem dX9_struck_1 : decode cX9_struck 1 = .ok (.invokestatic 178, 3) := by decide +kernel
theorem dX9_struck_4 : decode cX9_struck 4 = .ok (.ifCond .ne 5, 3) := by decide +kernel
theorem dX9_struck_7 : decode cX9_struck 7 = .ok (.iconst (-1), 1) := by decide +kernel
theorem dX9_struck_8 : decode cX9_struck 8 = .ok (.ireturn, 1) := by decide +kernel
theorem dX9_struck_9 : decode cX9_struck 9 = .ok (.iload_n 2, 1) := by decide +kernel
theorem dX9_struck_10 : decode cX9_struck 10 = .ok (.tableswitch 73 0 2 #[26, 39, 60], 26) := by decide +kernel
theorem dX9_struck_36 : decode cX9_struck 36 = .ok (.aload_n 0, 1) := by decide +kernel
theorem dX9_struck_37 : decode cX9_struck 37 = .ok (.getfield 28, 3) := by decide +kernel
theorem dX9_struck_40 : decode cX9_struck 40 = .ok (.aload_n 0, 1) := by decide +kernel
theorem dX9_struck_41 : decode cX9_struck 41 = .ok (.getfield 21, 3) := by decide +kernel
theorem dX9_struck_44 : decode cX9_struck 44 = .ok (.iload_n 1, 1) := by decide +kernel
theorem dX9_struck_45 : decode cX9_struck 45 = .ok (.invokevirtual 188, 3) := by decide +kernel
theorem dX9_struck_48 : decode cX9_struck 48 = .ok (.ireturn, 1) := by decide +kernel
theorem dX9_struck_49 : decode cX9_struck 49 = .ok (.aload_n 0, 1) := by decide +kernel
theorem dX9_struck_50 : decode cX9_struck 50 = .ok (.getfield 28, 3) := by decide +kernel
theorem dX9_struck_53 : decode cX9_struck 53 = .ok (.aload_n 0, 1) := by decide +kernel
theorem dX9_struck_54 : decode cX9_struck 54 = .ok (.getfield 21, 3) := by decide +kernel
theorem dX9_struck_57 : decode cX9_struck 57 = .ok (.iload_n 1, 1) := by decide +kernel
theorem dX9_struck_58 : decode cX9_struck 58 = .ok (.invokevirtual 192, 3) := by decide +kernel
theorem dX9_struck_61 : decode cX9_struck 61 = .ok (.ifCond .eq 7, 3) := by decide +kernel
theorem dX9_struck_64 : decode cX9_struck 64 = .ok (.iconst 1, 1) := by decide +kernel
theorem dX9_struck_65 : decode cX9_struck 65 = .ok (.goto 4, 3) := by decide +kernel
theorem dX9_struck_68 : decode cX9_struck 68 = .ok (.iconst 0, 1) := by decide +kernel
theorem dX9_struck_69 : decode cX9_struck 69 = .ok (.ireturn, 1) := by decide +kernel
theorem dX9_struck_70 : decode cX9_struck 70 = .ok (.aload_n 0, 1) := by decide +kernel
theorem dX9_struck_71 : decode cX9_struck 71 = .ok (.getfield 28, 3) := by decide +kernel
theorem dX9_struck_74 : decode cX9_struck 74 = .ok (.aload_n 0, 1) := by decide +kernel
theorem dX9_struck_75 : decode cX9_struck 75 = .ok (.getfield 21, 3) := by decide +kernel
theorem dX9_struck_78 : decode cX9_struck 78 = .ok (.iload_n 1, 1) := by decide +kernel
theorem dX9_struck_79 : decode cX9_struck 79 = .ok (.invokevirtual 196, 3) := by decide +kernel
theorem dX9_struck_82 : decode cX9_struck 82 = .ok (.ireturn, 1) := by decide +kernel
theorem dX9_struck_83 : decode cX9_struck 83 = .ok (.iconst (-1), 1) := by decide +kernel
theorem dX9_struck_84 : decode cX9_struck 84 = .ok (.ireturn, 1) := by decide +kernel
theorem dX9_law_0 : decode cX9_law 0 = .ok (.iload_n 1, 1) := by decide +kernel
theorem dX9_law_1 : decode cX9_law 1 = .ok (.tableswitch 127 0 2 #[27, 62, 89], 27) := by decide +kernel
theorem dX9_law_28 : decode cX9_law 28 = .ok (.aload_n 0, 1) := by decide +kernel
theorem dX9_law_29 : decode cX9_law 29 = .ok (.iload_n 2, 1) := by decide +kernel
theorem dX9_law_30 : decode cX9_law 30 = .ok (.invokevirtual 150, 3) := by decide +kernel
theorem dX9_law_33 : decode cX9_law 33 = .ok (.ifCond .eq 26, 3) := by decide +kernel
theorem dX9_law_36 : decode cX9_law 36 = .ok (.iload_n 3, 1) := by decide +kernel
theorem dX9_law_37 : decode cX9_law 37 = .ok (.invokestatic 178, 3) := by decide +kernel
theorem dX9_law_40 : decode cX9_law 40 = .ok (.ifCond .eq 19, 3) := by decide +kernel
theorem dX9_law_43 : decode cX9_law 43 = .ok (.aload_n 0, 1) := by decide +kernel
theorem dX9_law_44 : decode cX9_law 44 = .ok (.getfield 28, 3) := by decide +kernel
theorem dX9_law_47 : decode cX9_law 47 = .ok (.aload_n 0, 1) := by decide +kernel
theorem dX9_law_48 : decode cX9_law 48 = .ok (.getfield 21, 3) := by decide +kernel
theorem dX9_law_51 : decode cX9_law 51 = .ok (.iload_n 2, 1) := by decide +kernel
theorem dX9_law_52 : decode cX9_law 52 = .ok (.iload_n 3, 1) := by decide +kernel
theorem dX9_law_53 : decode cX9_law 53 = .ok (.invokevirtual 199, 3) := by decide +kernel
theorem dX9_law_56 : decode cX9_law 56 = .ok (.goto 6, 3) := by decide +kernel
theorem dX9_law_59 : decode cX9_law 59 = .ok (.ldc2_w 203, 3) := by decide +kernel
theorem dX9_law_62 : decode cX9_law 62 = .ok (.lreturn, 1) := by decide +kernel
theorem dX9_law_63 : decode cX9_law 63 = .ok (.aload_n 0, 1) := by decide +kernel
theorem dX9_law_64 : decode cX9_law 64 = .ok (.iload_n 2, 1) := by decide +kernel
theorem dX9_law_65 : decode cX9_law 65 = .ok (.invokevirtual 150, 3) := by decide +kernel
theorem dX9_law_68 : decode cX9_law 68 = .ok (.ifCond .eq 18, 3) := by decide +kernel
theorem dX9_law_71 : decode cX9_law 71 = .ok (.aload_n 0, 1) := by decide +kernel
theorem dX9_law_72 : decode cX9_law 72 = .ok (.getfield 28, 3) := by decide +kernel
theorem dX9_law_75 : decode cX9_law 75 = .ok (.aload_n 0, 1) := by decide +kernel
theorem dX9_law_76 : decode cX9_law 76 = .ok (.getfield 21, 3) := by decide +kernel
theorem dX9_law_79 : decode cX9_law 79 = .ok (.iload_n 2, 1) := by decide +kernel
theorem dX9_law_80 : decode cX9_law 80 = .ok (.invokevirtual 205, 3) := by decide +kernel
theorem dX9_law_83 : decode cX9_law 83 = .ok (.goto 6, 3) := by decide +kernel
theorem dX9_law_86 : decode cX9_law 86 = .ok (.ldc2_w 203, 3) := by decide +kernel
theorem dX9_law_89 : decode cX9_law 89 = .ok (.lreturn, 1) := by decide +kernel
theorem dX9_law_90 : decode cX9_law 90 = .ok (.iload_n 3, 1) := by decide +kernel
theorem dX9_law_91 : decode cX9_law 91 = .ok (.invokestatic 178, 3) := by decide +kernel
theorem dX9_law_94 : decode cX9_law 94 = .ok (.ifCond .eq 30, 3) := by decide +kernel
theorem dX9_law_97 : decode cX9_law 97 = .ok (.aload_n 0, 1) := by decide +kernel
theorem dX9_law_98 : decode cX9_law 98 = .ok (.getfield 28, 3) := by decide +kernel
theorem dX9_law_101 : decode cX9_law 101 = .ok (.aload_n 0, 1) := by decide +kernel
theorem dX9_law_102 : decode cX9_law 102 = .ok (.getfield 21, 3) := by decide +kernel
theorem dX9_law_105 : decode cX9_law 105 = .ok (.iload_n 3, 1) := by decide +kernel
theorem dX9_law_106 : decode cX9_law 106 = .ok (.aload_n 0, 1) := by decide +kernel
theorem dX9_law_107 : decode cX9_law 107 = .ok (.getfield 28, 3) := by decide +kernel
theorem dX9_law_110 : decode cX9_law 110 = .ok (.aload_n 0, 1) := by decide +kernel
theorem dX9_law_111 : decode cX9_law 111 = .ok (.getfield 21, 3) := by decide +kernel
theorem dX9_law_114 : decode cX9_law 114 = .ok (.iload_n 3, 1) := by decide +kernel
theorem dX9_law_115 : decode cX9_law 115 = .ok (.invokevirtual 188, 3) := by decide +kernel
theorem dX9_law_118 : decode cX9_law 118 = .ok (.invokevirtual 209, 3) := by decide +kernel
theorem dX9_law_121 : decode cX9_law 121 = .ok (.goto 6, 3) := by decide +kernel
theorem dX9_law_124 : decode cX9_law 124 = .ok (.ldc2_w 203, 3) := by decide +kernel
theorem dX9_law_127 : decode cX9_law 127 = .ok (.lreturn, 1) := by decide +kernel
theorem dX9_law_128 : decode cX9_law 128 = .ok (.ldc2_w 203, 3) := by decide +kernel
theorem dX9_law_131 : decode cX9_law 131 = .ok (.lreturn, 1) := by decide +kernel
theorem dX9_touch_0 : decode cX9_touch 0 = .ok (.aload_n 0, 1) := by decide +kernel
theorem dX9_touch_1 : decode cX9_touch 1 = .ok (.iload_n 1, 1) := by decide +kernel
theorem dX9_touch_2 : decode cX9_touch 2 = .ok (.invokevirtual 150, 3) := by decide +kernel
theorem dX9_touch_5 : decode cX9_touch 5 = .ok (.ifCond .eq 27, 3) := by decide +kernel
theorem dX9_touch_8 : decode cX9_touch 8 = .ok (.aload_n 0, 1) := by decide +kernel
theorem dX9_touch_9 : decode cX9_touch 9 = .ok (.getfield 28, 3) := by decide +kernel
theorem dX9_touch_12 : decode cX9_touch 12 = .ok (.getfield 172, 3) := by decide +kernel
theorem dX9_touch_15 : decode cX9_touch 15 = .ok (.iload_n 1, 1) := by decide +kernel
theorem dX9_touch_16 : decode cX9_touch 16 = .ok (.invokestatic 168, 3) := by decide +kernel
theorem dX9_touch_19 : decode cX9_touch 19 = .ok (.iconst 1, 1) := by decide +kernel
theorem dX9_touch_20 : decode cX9_touch 20 = .ok (.if_icmp .ne 7, 3) := by decide +kernel
theorem dX9_touch_23 : decode cX9_touch 23 = .ok (.iconst 1, 1) := by decide +kernel
theorem dX9_touch_24 : decode cX9_touch 24 = .ok (.goto 4, 3) := by decide +kernel
theorem dX9_touch_27 : decode cX9_touch 27 = .ok (.iconst 0, 1) := by decide +kernel
theorem dX9_touch_28 : decode cX9_touch 28 = .ok (.iload_n 2, 1) := by decide +kernel
theorem dX9_touch_29 : decode cX9_touch 29 = .ok (.if_icmp .ne 5, 3) := by decide +kernel
theorem dX9_touch_32 : decode cX9_touch 32 = .ok (.iconst 0, 1) := by decide +kernel
theorem dX9_touch_33 : decode cX9_touch 33 = .ok (.ireturn, 1) := by decide +kernel
theorem dX9_touch_34 : decode cX9_touch 34 = .ok (.aload_n 0, 1) := by decide +kernel
theorem dX9_touch_35 : decode cX9_touch 35 = .ok (.getfield 28, 3) := by decide +kernel
theorem dX9_touch_38 : decode cX9_touch 38 = .ok (.dup, 1) := by decide +kernel
theorem dX9_touch_39 : decode cX9_touch 39 = .ok (.getfield 172, 3) := by decide +kernel
theorem dX9_touch_42 : decode cX9_touch 42 = .ok (.iconst 1, 1) := by decide +kernel
theorem dX9_touch_43 : decode cX9_touch 43 = .ok (.iload_n 1, 1) := by decide +kernel
theorem dX9_touch_44 : decode cX9_touch 44 = .ok (.ishl, 1) := by decide +kernel
theorem dX9_touch_45 : decode cX9_touch 45 = .ok (.ixor, 1) := by decide +kernel
theorem dX9_touch_46 : decode cX9_touch 46 = .ok (.putfield 172, 3) := by decide +kernel
theorem dX9_touch_49 : decode cX9_touch 49 = .ok (.aload_n 0, 1) := by decide +kernel
theorem dX9_touch_50 : decode cX9_touch 50 = .ok (.getfield 41, 3) := by decide +kernel
theorem dX9_touch_53 : decode cX9_touch 53 = .ok (.iconst 0, 1) := by decide +kernel
theorem dX9_touch_54 : decode cX9_touch 54 = .ok (.iload_n 1, 1) := by decide +kernel
theorem dX9_touch_55 : decode cX9_touch 55 = .ok (.iconst 0, 1) := by decide +kernel
theorem dX9_touch_56 : decode cX9_touch 56 = .ok (.invokevirtual 212, 3) := by decide +kernel
theorem dX9_touch_59 : decode cX9_touch 59 = .ok (.iconst 1, 1) := by decide +kernel
theorem dX9_touch_60 : decode cX9_touch 60 = .ok (.ireturn, 1) := by decide +kernel
theorem dX9_file_0 : decode cX9_file 0 = .ok (.aload_n 0, 1) := by decide +kernel
theorem dX9_file_1 : decode cX9_file 1 = .ok (.iload_n 1, 1) := by decide +kernel
theorem dX9_file_2 : decode cX9_file 2 = .ok (.invokevirtual 150, 3) := by decide +kernel
theorem dX9_file_5 : decode cX9_file 5 = .ok (.ifCond .eq 19, 3) := by decide +kernel
theorem dX9_file_8 : decode cX9_file 8 = .ok (.iload_n 2, 1) := by decide +kernel
theorem dX9_file_9 : decode cX9_file 9 = .ok (.bipush (-99), 2) := by decide +kernel
theorem dX9_file_11 : decode cX9_file 11 = .ok (.if_icmp .lt 13, 3) := by decide +kernel
theorem dX9_file_14 : decode cX9_file 14 = .ok (.iload_n 2, 1) := by decide +kernel
theorem dX9_file_15 : decode cX9_file 15 = .ok (.bipush 99, 2) := by decide +kernel
theorem dX9_file_17 : decode cX9_file 17 = .ok (.if_icmp .gt 7, 3) := by decide +kernel
theorem dX9_file_20 : decode cX9_file 20 = .ok (.iload_n 2, 1) := by decide +kernel
theorem dX9_file_21 : decode cX9_file 21 = .ok (.ifCond .ne 5, 3) := by decide +kernel
theorem dX9_file_24 : decode cX9_file 24 = .ok (.iconst (-1), 1) := by decide +kernel
theorem dX9_file_25 : decode cX9_file 25 = .ok (.ireturn, 1) := by decide +kernel
theorem dX9_file_26 : decode cX9_file 26 = .ok (.aload_n 0, 1) := by decide +kernel
theorem dX9_file_27 : decode cX9_file 27 = .ok (.getfield 28, 3) := by decide +kernel
theorem dX9_file_30 : decode cX9_file 30 = .ok (.getfield 153, 3) := by decide +kernel
theorem dX9_file_33 : decode cX9_file 33 = .ok (.iload_n 1, 1) := by decide +kernel
theorem dX9_file_34 : decode cX9_file 34 = .ok (.iaload, 1) := by decide +kernel
theorem dX9_file_35 : decode cX9_file 35 = .ok (.iload_n 2, 1) := by decide +kernel
theorem dX9_file_36 : decode cX9_file 36 = .ok (.iadd, 1) := by decide +kernel
theorem dX9_file_37 : decode cX9_file 37 = .ok (.istore_n 3, 1) := by decide +kernel
theorem dX9_file_38 : decode cX9_file 38 = .ok (.iload_n 3, 1) := by decide +kernel
theorem dX9_file_39 : decode cX9_file 39 = .ok (.invokestatic 178, 3) := by decide +kernel
theorem dX9_file_42 : decode cX9_file 42 = .ok (.ifCond .ne 5, 3) := by decide +kernel
theorem dX9_file_45 : decode cX9_file 45 = .ok (.iconst (-1), 1) := by decide +kernel
theorem dX9_file_46 : decode cX9_file 46 = .ok (.ireturn, 1) := by decide +kernel
theorem dX9_file_47 : decode cX9_file 47 = .ok (.aload_n 0, 1) := by decide +kernel
theorem dX9_file_48 : decode cX9_file 48 = .ok (.getfield 21, 3) := by decide +kernel
theorem dX9_file_51 : decode cX9_file 51 = .ok (.getfield 216, 3) := by decide +kernel
theorem dX9_file_54 : decode cX9_file 54 = .ok (.iload_n 2, 1) := by decide +kernel
theorem dX9_file_55 : decode cX9_file 55 = .ok (.invokestatic 219, 3) := by decide +kernel
theorem dX9_file_58 : decode cX9_file 58 = .ok (.imul, 1) := by decide +kernel
theorem dX9_file_59 : decode cX9_file 59 = .ok (.istore 4, 2) := by decide +kernel
theorem dX9_file_61 : decode cX9_file 61 = .ok (.iload 4, 2) := by decide +kernel
theorem dX9_file_63 : decode cX9_file 63 = .ok (.aload_n 0, 1) := by decide +kernel
theorem dX9_file_64 : decode cX9_file 64 = .ok (.getfield 28, 3) := by decide +kernel
theorem dX9_file_67 : decode cX9_file 67 = .ok (.getfield 224, 3) := by decide +kernel
theorem dX9_file_70 : decode cX9_file 70 = .ok (.if_icmp .le 6, 3) := by decide +kernel
theorem dX9_file_73 : decode cX9_file 73 = .ok (.bipush (-2), 2) := by decide +kernel
theorem dX9_file_75 : decode cX9_file 75 = .ok (.ireturn, 1) := by decide +kernel
theorem dX9_file_76 : decode cX9_file 76 = .ok (.aload_n 0, 1) := by decide +kernel
theorem dX9_file_77 : decode cX9_file 77 = .ok (.getfield 28, 3) := by decide +kernel
theorem dX9_file_80 : decode cX9_file 80 = .ok (.iload_n 1, 1) := by decide +kernel
theorem dX9_file_81 : decode cX9_file 81 = .ok (.iload_n 2, 1) := by decide +kernel
theorem dX9_file_82 : decode cX9_file 82 = .ok (.iload 4, 2) := by decide +kernel
theorem dX9_file_84 : decode cX9_file 84 = .ok (.invokevirtual 227, 3) := by decide +kernel
theorem dX9_file_87 : decode cX9_file 87 = .ok (.aload_n 0, 1) := by decide +kernel
theorem dX9_file_88 : decode cX9_file 88 = .ok (.getfield 41, 3) := by decide +kernel
theorem dX9_file_91 : decode cX9_file 91 = .ok (.iconst 1, 1) := by decide +kernel
theorem dX9_file_92 : decode cX9_file 92 = .ok (.iload_n 1, 1) := by decide +kernel
theorem dX9_file_93 : decode cX9_file 93 = .ok (.iload_n 2, 1) := by decide +kernel
theorem dX9_file_94 : decode cX9_file 94 = .ok (.invokevirtual 212, 3) := by decide +kernel
theorem dX9_file_97 : decode cX9_file 97 = .ok (.iload_n 3, 1) := by decide +kernel
theorem dX9_file_98 : decode cX9_file 98 = .ok (.ireturn, 1) := by decide +kernel
theorem dX9_put_0 : decode cX9_put 0 = .ok (.aload_n 0, 1) := by decide +kernel
theorem dX9_put_1 : decode cX9_put 1 = .ok (.iload_n 1, 1) := by decide +kernel
theorem dX9_put_2 : decode cX9_put 2 = .ok (.invokevirtual 121, 3) := by decide +kernel
theorem dX9_put_5 : decode cX9_put 5 = .ok (.ifCond .eq 21, 3) := by decide +kernel
theorem dX9_put_8 : decode cX9_put 8 = .ok (.iload_n 2, 1) := by decide +kernel
theorem dX9_put_9 : decode cX9_put 9 = .ok (.aload_n 0, 1) := by decide +kernel
theorem dX9_put_10 : decode cX9_put 10 = .ok (.getfield 28, 3) := by decide +kernel
theorem dX9_put_13 : decode cX9_put 13 = .ok (.getfield 230, 3) := by decide +kernel
theorem dX9_put_16 : decode cX9_put 16 = .ok (.if_icmp .lt 10, 3) := by decide +kernel
theorem dX9_put_19 : decode cX9_put 19 = .ok (.iload_n 2, 1) := by decide +kernel
theorem dX9_put_20 : decode cX9_put 20 = .ok (.sipush 9999, 3) := by decide +kernel
theorem dX9_put_23 : decode cX9_put 23 = .ok (.if_icmp .le 5, 3) := by decide +kernel
theorem dX9_put_26 : decode cX9_put 26 = .ok (.iconst 0, 1) := by decide +kernel
theorem dX9_put_27 : decode cX9_put 27 = .ok (.ireturn, 1) := by decide +kernel
theorem dX9_put_28 : decode cX9_put 28 = .ok (.aload_n 0, 1) := by decide +kernel
theorem dX9_put_29 : decode cX9_put 29 = .ok (.getfield 28, 3) := by decide +kernel
theorem dX9_put_32 : decode cX9_put 32 = .ok (.getfield 139, 3) := by decide +kernel
theorem dX9_put_35 : decode cX9_put 35 = .ok (.iload_n 1, 1) := by decide +kernel
theorem dX9_put_36 : decode cX9_put 36 = .ok (.iaload, 1) := by decide +kernel
theorem dX9_put_37 : decode cX9_put 37 = .ok (.iconst (-1), 1) := by decide +kernel
theorem dX9_put_38 : decode cX9_put 38 = .ok (.if_icmp .ne 16, 3) := by decide +kernel
theorem dX9_put_41 : decode cX9_put 41 = .ok (.aload_n 0, 1) := by decide +kernel
theorem dX9_put_42 : decode cX9_put 42 = .ok (.getfield 28, 3) := by decide +kernel
theorem dX9_put_45 : decode cX9_put 45 = .ok (.getfield 136, 3) := by decide +kernel
theorem dX9_put_48 : decode cX9_put 48 = .ok (.iload_n 1, 1) := by decide +kernel
theorem dX9_put_49 : decode cX9_put 49 = .ok (.iaload, 1) := by decide +kernel
theorem dX9_put_50 : decode cX9_put 50 = .ok (.iload_n 2, 1) := by decide +kernel
theorem dX9_put_51 : decode cX9_put 51 = .ok (.if_icmp .ne 5, 3) := by decide +kernel
theorem dX9_put_54 : decode cX9_put 54 = .ok (.iconst 0, 1) := by decide +kernel
theorem dX9_put_55 : decode cX9_put 55 = .ok (.ireturn, 1) := by decide +kernel
theorem dX9_put_56 : decode cX9_put 56 = .ok (.aload_n 0, 1) := by decide +kernel
theorem dX9_put_57 : decode cX9_put 57 = .ok (.getfield 41, 3) := by decide +kernel
theorem dX9_put_60 : decode cX9_put 60 = .ok (.iconst 2, 1) := by decide +kernel
theorem dX9_put_61 : decode cX9_put 61 = .ok (.iload_n 1, 1) := by decide +kernel
theorem dX9_put_62 : decode cX9_put 62 = .ok (.aload_n 0, 1) := by decide +kernel
theorem dX9_put_63 : decode cX9_put 63 = .ok (.getfield 28, 3) := by decide +kernel
theorem dX9_put_66 : decode cX9_put 66 = .ok (.getfield 136, 3) := by decide +kernel
theorem dX9_put_69 : decode cX9_put 69 = .ok (.iload_n 1, 1) := by decide +kernel
theorem dX9_put_70 : decode cX9_put 70 = .ok (.iaload, 1) := by decide +kernel
theorem dX9_put_71 : decode cX9_put 71 = .ok (.invokevirtual 212, 3) := by decide +kernel
theorem dX9_put_74 : decode cX9_put 74 = .ok (.aload_n 0, 1) := by decide +kernel
theorem dX9_put_75 : decode cX9_put 75 = .ok (.getfield 28, 3) := by decide +kernel
theorem dX9_put_78 : decode cX9_put 78 = .ok (.getfield 136, 3) := by decide +kernel
theorem dX9_put_81 : decode cX9_put 81 = .ok (.iload_n 1, 1) := by decide +kernel
theorem dX9_put_82 : decode cX9_put 82 = .ok (.iload_n 2, 1) := by decide +kernel
theorem dX9_put_83 : decode cX9_put 83 = .ok (.iastore, 1) := by decide +kernel
theorem dX9_put_84 : decode cX9_put 84 = .ok (.iconst 1, 1) := by decide +kernel
theorem dX9_put_85 : decode cX9_put 85 = .ok (.ireturn, 1) := by decide +kernel
theorem dX9_earn_0 : decode cX9_earn 0 = .ok (.iload_n 1, 1) := by decide +kernel
theorem dX9_earn_1 : decode cX9_earn 1 = .ok (.iconst 1, 1) := by decide +kernel
theorem dX9_earn_2 : decode cX9_earn 2 = .ok (.if_icmp .lt 24, 3) := by decide +kernel
theorem dX9_earn_5 : decode cX9_earn 5 = .ok (.iload_n 1, 1) := by decide +kernel
theorem dX9_earn_6 : decode cX9_earn 6 = .ok (.bipush 99, 2) := by decide +kernel
theorem dX9_earn_8 : decode cX9_earn 8 = .ok (.if_icmp .gt 18, 3) := by decide +kernel
theorem dX9_earn_11 : decode cX9_earn 11 = .ok (.aload_n 0, 1) := by decide +kernel
theorem dX9_earn_12 : decode cX9_earn 12 = .ok (.getfield 28, 3) := by decide +kernel
theorem dX9_earn_15 : decode cX9_earn 15 = .ok (.getfield 224, 3) := by decide +kernel
theorem dX9_earn_18 : decode cX9_earn 18 = .ok (.iload_n 1, 1) := by decide +kernel
theorem dX9_earn_19 : decode cX9_earn 19 = .ok (.iadd, 1) := by decide +kernel
theorem dX9_earn_20 : decode cX9_earn 20 = .ok (.sipush 9999, 3) := by decide +kernel
theorem dX9_earn_23 : decode cX9_earn 23 = .ok (.if_icmp .le 5, 3) := by decide +kernel
theorem dX9_earn_26 : decode cX9_earn 26 = .ok (.iconst (-1), 1) := by decide +kernel
theorem dX9_earn_27 : decode cX9_earn 27 = .ok (.ireturn, 1) := by decide +kernel
theorem dX9_earn_28 : decode cX9_earn 28 = .ok (.aload_n 0, 1) := by decide +kernel
theorem dX9_earn_29 : decode cX9_earn 29 = .ok (.getfield 28, 3) := by decide +kernel
theorem dX9_earn_32 : decode cX9_earn 32 = .ok (.dup, 1) := by decide +kernel
theorem dX9_earn_33 : decode cX9_earn 33 = .ok (.getfield 224, 3) := by decide +kernel
theorem dX9_earn_36 : decode cX9_earn 36 = .ok (.iload_n 1, 1) := by decide +kernel
theorem dX9_earn_37 : decode cX9_earn 37 = .ok (.iadd, 1) := by decide +kernel
theorem dX9_earn_38 : decode cX9_earn 38 = .ok (.putfield 224, 3) := by decide +kernel
theorem dX9_earn_41 : decode cX9_earn 41 = .ok (.aload_n 0, 1) := by decide +kernel
theorem dX9_earn_42 : decode cX9_earn 42 = .ok (.getfield 41, 3) := by decide +kernel
theorem dX9_earn_45 : decode cX9_earn 45 = .ok (.iconst 3, 1) := by decide +kernel
theorem dX9_earn_46 : decode cX9_earn 46 = .ok (.iconst 0, 1) := by decide +kernel
theorem dX9_earn_47 : decode cX9_earn 47 = .ok (.iload_n 1, 1) := by decide +kernel
theorem dX9_earn_48 : decode cX9_earn 48 = .ok (.invokevirtual 212, 3) := by decide +kernel
theorem dX9_earn_51 : decode cX9_earn 51 = .ok (.aload_n 0, 1) := by decide +kernel
theorem dX9_earn_52 : decode cX9_earn 52 = .ok (.getfield 28, 3) := by decide +kernel
theorem dX9_earn_55 : decode cX9_earn 55 = .ok (.getfield 224, 3) := by decide +kernel
theorem dX9_earn_58 : decode cX9_earn 58 = .ok (.ireturn, 1) := by decide +kernel
theorem dX9_go_0 : decode cX9_go 0 = .ok (.iload_n 1, 1) := by decide +kernel
theorem dX9_go_1 : decode cX9_go 1 = .ok (.invokestatic 233, 3) := by decide +kernel
theorem dX9_go_4 : decode cX9_go 4 = .ok (.ifCond .eq 18, 3) := by decide +kernel
theorem dX9_go_7 : decode cX9_go 7 = .ok (.aload_n 0, 1) := by decide +kernel
theorem dX9_go_8 : decode cX9_go 8 = .ok (.getfield 28, 3) := by decide +kernel
theorem dX9_go_11 : decode cX9_go 11 = .ok (.getfield 230, 3) := by decide +kernel
theorem dX9_go_14 : decode cX9_go 14 = .ok (.iload_n 1, 1) := by decide +kernel
theorem dX9_go_15 : decode cX9_go 15 = .ok (.iadd, 1) := by decide +kernel
theorem dX9_go_16 : decode cX9_go 16 = .ok (.sipush 9900, 3) := by decide +kernel
theorem dX9_go_19 : decode cX9_go 19 = .ok (.if_icmp .le 5, 3) := by decide +kernel
theorem dX9_go_22 : decode cX9_go 22 = .ok (.iconst (-1), 1) := by decide +kernel
theorem dX9_go_23 : decode cX9_go 23 = .ok (.ireturn, 1) := by decide +kernel
theorem dX9_go_24 : decode cX9_go 24 = .ok (.iload_n 1, 1) := by decide +kernel
theorem dX9_go_25 : decode cX9_go 25 = .ok (.ifCond .le 23, 3) := by decide +kernel
theorem dX9_go_28 : decode cX9_go 28 = .ok (.aload_n 0, 1) := by decide +kernel
theorem dX9_go_29 : decode cX9_go 29 = .ok (.getfield 28, 3) := by decide +kernel
theorem dX9_go_32 : decode cX9_go 32 = .ok (.aload_n 0, 1) := by decide +kernel
theorem dX9_go_33 : decode cX9_go 33 = .ok (.getfield 21, 3) := by decide +kernel
theorem dX9_go_36 : decode cX9_go 36 = .ok (.iload_n 1, 1) := by decide +kernel
theorem dX9_go_37 : decode cX9_go 37 = .ok (.invokevirtual 236, 3) := by decide +kernel
theorem dX9_go_40 : decode cX9_go 40 = .ok (.aload_n 0, 1) := by decide +kernel
theorem dX9_go_41 : decode cX9_go 41 = .ok (.getfield 41, 3) := by decide +kernel
theorem dX9_go_44 : decode cX9_go 44 = .ok (.iconst 0, 1) := by decide +kernel
theorem dX9_go_45 : decode cX9_go 45 = .ok (.putfield 101, 3) := by decide +kernel
theorem dX9_go_48 : decode cX9_go 48 = .ok (.aload_n 0, 1) := by decide +kernel
theorem dX9_go_49 : decode cX9_go 49 = .ok (.getfield 28, 3) := by decide +kernel
theorem dX9_go_52 : decode cX9_go 52 = .ok (.getfield 230, 3) := by decide +kernel
theorem dX9_go_55 : decode cX9_go 55 = .ok (.ireturn, 1) := by decide +kernel
theorem dX9_ahead_0 : decode cX9_ahead 0 = .ok (.iload_n 1, 1) := by decide +kernel
theorem dX9_ahead_1 : decode cX9_ahead 1 = .ok (.invokestatic 233, 3) := by decide +kernel
theorem dX9_ahead_4 : decode cX9_ahead 4 = .ok (.ifCond .eq 25, 3) := by decide +kernel
theorem dX9_ahead_7 : decode cX9_ahead 7 = .ok (.iload_n 2, 1) := by decide +kernel
theorem dX9_ahead_8 : decode cX9_ahead 8 = .ok (.ifCond .lt 21, 3) := by decide +kernel
theorem dX9_ahead_11 : decode cX9_ahead 11 = .ok (.iload_n 2, 1) := by decide +kernel
theorem dX9_ahead_12 : decode cX9_ahead 12 = .ok (.iconst 3, 1) := by decide +kernel
theorem dX9_ahead_13 : decode cX9_ahead 13 = .ok (.if_icmp .gt 16, 3) := by decide +kernel
theorem dX9_ahead_16 : decode cX9_ahead 16 = .ok (.iload_n 2, 1) := by decide +kernel
theorem dX9_ahead_17 : decode cX9_ahead 17 = .ok (.iconst 3, 1) := by decide +kernel
theorem dX9_ahead_18 : decode cX9_ahead 18 = .ok (.if_icmp .ne 13, 3) := by decide +kernel
theorem dX9_ahead_21 : decode cX9_ahead 21 = .ok (.aload_n 0, 1) := by decide +kernel
theorem dX9_ahead_22 : decode cX9_ahead 22 = .ok (.iload_n 3, 1) := by decide +kernel
theorem dX9_ahead_23 : decode cX9_ahead 23 = .ok (.invokevirtual 150, 3) := by decide +kernel
theorem dX9_ahead_26 : decode cX9_ahead 26 = .ok (.ifCond .ne 5, 3) := by decide +kernel
theorem dX9_ahead_29 : decode cX9_ahead 29 = .ok (.iconst (-1), 1) := by decide +kernel
theorem dX9_ahead_30 : decode cX9_ahead 30 = .ok (.ireturn, 1) := by decide +kernel
theorem dX9_ahead_31 : decode cX9_ahead 31 = .ok (.aload_n 0, 1) := by decide +kernel
theorem dX9_ahead_32 : decode cX9_ahead 32 = .ok (.getfield 32, 3) := by decide +kernel
theorem dX9_ahead_35 : decode cX9_ahead 35 = .ok (.aload_n 0, 1) := by decide +kernel
theorem dX9_ahead_36 : decode cX9_ahead 36 = .ok (.getfield 28, 3) := by decide +kernel
theorem dX9_ahead_39 : decode cX9_ahead 39 = .ok (.invokevirtual 240, 3) := by decide +kernel
theorem dX9_ahead_42 : decode cX9_ahead 42 = .ok (.aload_n 0, 1) := by decide +kernel
theorem dX9_ahead_43 : decode cX9_ahead 43 = .ok (.getfield 32, 3) := by decide +kernel
theorem dX9_ahead_46 : decode cX9_ahead 46 = .ok (.aload_n 0, 1) := by decide +kernel
theorem dX9_ahead_47 : decode cX9_ahead 47 = .ok (.getfield 21, 3) := by decide +kernel
theorem dX9_ahead_50 : decode cX9_ahead 50 = .ok (.iload_n 1, 1) := by decide +kernel
theorem dX9_ahead_51 : decode cX9_ahead 51 = .ok (.invokevirtual 236, 3) := by decide +kernel
theorem dX9_ahead_54 : decode cX9_ahead 54 = .ok (.iload_n 2, 1) := by decide +kernel
theorem dX9_ahead_55 : decode cX9_ahead 55 = .ok (.iconst 3, 1) := by decide +kernel
theorem dX9_ahead_56 : decode cX9_ahead 56 = .ok (.if_icmp .ne 13, 3) := by decide +kernel
theorem dX9_ahead_59 : decode cX9_ahead 59 = .ok (.aload_n 0, 1) := by decide +kernel
theorem dX9_ahead_60 : decode cX9_ahead 60 = .ok (.getfield 32, 3) := by decide +kernel
theorem dX9_ahead_63 : decode cX9_ahead 63 = .ok (.getfield 153, 3) := by decide +kernel
theorem dX9_ahead_66 : decode cX9_ahead 66 = .ok (.iload_n 3, 1) := by decide +kernel
theorem dX9_ahead_67 : decode cX9_ahead 67 = .ok (.iaload, 1) := by decide +kernel
theorem dX9_ahead_68 : decode cX9_ahead 68 = .ok (.ireturn, 1) := by decide +kernel
theorem dX9_ahead_69 : decode cX9_ahead 69 = .ok (.iload_n 2, 1) := by decide +kernel
theorem dX9_ahead_70 : decode cX9_ahead 70 = .ok (.iconst 2, 1) := by decide +kernel
theorem dX9_ahead_71 : decode cX9_ahead 71 = .ok (.if_icmp .ne 27, 3) := by decide +kernel
theorem dX9_ahead_74 : decode cX9_ahead 74 = .ok (.aload_n 0, 1) := by decide +kernel
theorem dX9_ahead_75 : decode cX9_ahead 75 = .ok (.getfield 32, 3) := by decide +kernel
theorem dX9_ahead_78 : decode cX9_ahead 78 = .ok (.aload_n 0, 1) := by decide +kernel
theorem dX9_ahead_79 : decode cX9_ahead 79 = .ok (.getfield 21, 3) := by decide +kernel
theorem dX9_ahead_82 : decode cX9_ahead 82 = .ok (.invokevirtual 244, 3) := by decide +kernel
theorem dX9_ahead_85 : decode cX9_ahead 85 = .ok (.aload_n 0, 1) := by decide +kernel
theorem dX9_ahead_86 : decode cX9_ahead 86 = .ok (.getfield 28, 3) := by decide +kernel
theorem dX9_ahead_89 : decode cX9_ahead 89 = .ok (.aload_n 0, 1) := by decide +kernel
theorem dX9_ahead_90 : decode cX9_ahead 90 = .ok (.getfield 21, 3) := by decide +kernel
theorem dX9_ahead_93 : decode cX9_ahead 93 = .ok (.invokevirtual 244, 3) := by decide +kernel
theorem dX9_ahead_96 : decode cX9_ahead 96 = .ok (.isub, 1) := by decide +kernel
theorem dX9_ahead_97 : decode cX9_ahead 97 = .ok (.ireturn, 1) := by decide +kernel
theorem dX9_ahead_98 : decode cX9_ahead 98 = .ok (.iload_n 2, 1) := by decide +kernel
theorem dX9_ahead_99 : decode cX9_ahead 99 = .ok (.ifCond .ne 7, 3) := by decide +kernel
theorem dX9_ahead_102 : decode cX9_ahead 102 = .ok (.iconst 1, 1) := by decide +kernel
theorem dX9_ahead_103 : decode cX9_ahead 103 = .ok (.goto 4, 3) := by decide +kernel
theorem dX9_ahead_106 : decode cX9_ahead 106 = .ok (.iconst 0, 1) := by decide +kernel
theorem dX9_ahead_107 : decode cX9_ahead 107 = .ok (.istore 4, 2) := by decide +kernel
theorem dX9_ahead_109 : decode cX9_ahead 109 = .ok (.aload_n 0, 1) := by decide +kernel
theorem dX9_ahead_110 : decode cX9_ahead 110 = .ok (.getfield 32, 3) := by decide +kernel
theorem dX9_ahead_113 : decode cX9_ahead 113 = .ok (.aload_n 0, 1) := by decide +kernel
theorem dX9_ahead_114 : decode cX9_ahead 114 = .ok (.getfield 21, 3) := by decide +kernel
theorem dX9_ahead_117 : decode cX9_ahead 117 = .ok (.iload 4, 2) := by decide +kernel
theorem dX9_ahead_119 : decode cX9_ahead 119 = .ok (.invokevirtual 248, 3) := by decide +kernel
theorem dX9_ahead_122 : decode cX9_ahead 122 = .ok (.aload_n 0, 1) := by decide +kernel
theorem dX9_ahead_123 : decode cX9_ahead 123 = .ok (.getfield 28, 3) := by decide +kernel
theorem dX9_ahead_126 : decode cX9_ahead 126 = .ok (.aload_n 0, 1) := by decide +kernel
theorem dX9_ahead_127 : decode cX9_ahead 127 = .ok (.getfield 21, 3) := by decide +kernel
theorem dX9_ahead_130 : decode cX9_ahead 130 = .ok (.iload 4, 2) := by decide +kernel
theorem dX9_ahead_132 : decode cX9_ahead 132 = .ok (.invokevirtual 248, 3) := by decide +kernel
theorem dX9_ahead_135 : decode cX9_ahead 135 = .ok (.isub, 1) := by decide +kernel
theorem dX9_ahead_136 : decode cX9_ahead 136 = .ok (.ireturn, 1) := by decide +kernel
theorem dX9_best_0 : decode cX9_best 0 = .ok (.iload_n 1, 1) := by decide +kernel
theorem dX9_best_1 : decode cX9_best 1 = .ok (.ifCond .eq 10, 3) := by decide +kernel
theorem dX9_best_4 : decode cX9_best 4 = .ok (.iload_n 1, 1) := by decide +kernel
theorem dX9_best_5 : decode cX9_best 5 = .ok (.iconst 1, 1) := by decide +kernel
theorem dX9_best_6 : decode cX9_best 6 = .ok (.if_icmp .eq 5, 3) := by decide +kernel
theorem dX9_best_9 : decode cX9_best 9 = .ok (.iconst (-1), 1) := by decide +kernel
theorem dX9_best_10 : decode cX9_best 10 = .ok (.ireturn, 1) := by decide +kernel
theorem dX9_best_11 : decode cX9_best 11 = .ok (.bipush 100, 2) := by decide +kernel
theorem dX9_best_13 : decode cX9_best 13 = .ok (.istore_n 2, 1) := by decide +kernel
theorem dX9_best_14 : decode cX9_best 14 = .ok (.iconst (-1), 1) := by decide +kernel
theorem dX9_best_15 : decode cX9_best 15 = .ok (.istore_n 3, 1) := by decide +kernel
theorem dX9_best_16 : decode cX9_best 16 = .ok (.bipush 100, 2) := by decide +kernel
theorem dX9_best_18 : decode cX9_best 18 = .ok (.istore 4, 2) := by decide +kernel
theorem dX9_best_20 : decode cX9_best 20 = .ok (.iload 4, 2) := by decide +kernel
theorem dX9_best_22 : decode cX9_best 22 = .ok (.sipush 999, 3) := by decide +kernel
theorem dX9_best_25 : decode cX9_best 25 = .ok (.if_icmp .gt 36, 3) := by decide +kernel
theorem dX9_best_28 : decode cX9_best 28 = .ok (.aload_n 0, 1) := by decide +kernel
theorem dX9_best_29 : decode cX9_best 29 = .ok (.getfield 28, 3) := by decide +kernel
theorem dX9_best_32 : decode cX9_best 32 = .ok (.aload_n 0, 1) := by decide +kernel
theorem dX9_best_33 : decode cX9_best 33 = .ok (.getfield 21, 3) := by decide +kernel
theorem dX9_best_36 : decode cX9_best 36 = .ok (.iload 4, 2) := by decide +kernel
theorem dX9_best_38 : decode cX9_best 38 = .ok (.invokevirtual 188, 3) := by decide +kernel
theorem dX9_best_41 : decode cX9_best 41 = .ok (.istore 5, 2) := by decide +kernel
theorem dX9_best_43 : decode cX9_best 43 = .ok (.iload 5, 2) := by decide +kernel
theorem dX9_best_45 : decode cX9_best 45 = .ok (.iload_n 3, 1) := by decide +kernel
theorem dX9_best_46 : decode cX9_best 46 = .ok (.if_icmp .le 9, 3) := by decide +kernel
theorem dX9_best_49 : decode cX9_best 49 = .ok (.iload 5, 2) := by decide +kernel
theorem dX9_best_51 : decode cX9_best 51 = .ok (.istore_n 3, 1) := by decide +kernel
theorem dX9_best_52 : decode cX9_best 52 = .ok (.iload 4, 2) := by decide +kernel
theorem dX9_best_54 : decode cX9_best 54 = .ok (.istore_n 2, 1) := by decide +kernel
theorem dX9_best_55 : decode cX9_best 55 = .ok (.iinc 4 1, 3) := by decide +kernel
theorem dX9_best_58 : decode cX9_best 58 = .ok (.goto (-38), 3) := by decide +kernel
theorem dX9_best_61 : decode cX9_best 61 = .ok (.iload_n 1, 1) := by decide +kernel
theorem dX9_best_62 : decode cX9_best 62 = .ok (.ifCond .ne 7, 3) := by decide +kernel
theorem dX9_best_65 : decode cX9_best 65 = .ok (.iload_n 2, 1) := by decide +kernel
theorem dX9_best_66 : decode cX9_best 66 = .ok (.goto 4, 3) := by decide +kernel
theorem dX9_best_69 : decode cX9_best 69 = .ok (.iload_n 3, 1) := by decide +kernel
theorem dX9_best_70 : decode cX9_best 70 = .ok (.ireturn, 1) := by decide +kernel
theorem dX9_open_0 : decode cX9_open 0 = .ok (.iconst 0, 1) := by decide +kernel
theorem dX9_open_1 : decode cX9_open 1 = .ok (.istore_n 1, 1) := by decide +kernel
theorem dX9_open_2 : decode cX9_open 2 = .ok (.bipush 100, 2) := by decide +kernel
theorem dX9_open_4 : decode cX9_open 4 = .ok (.istore_n 2, 1) := by decide +kernel
theorem dX9_open_5 : decode cX9_open 5 = .ok (.iload_n 2, 1) := by decide +kernel
theorem dX9_open_6 : decode cX9_open 6 = .ok (.sipush 999, 3) := by decide +kernel
theorem dX9_open_9 : decode cX9_open 9 = .ok (.if_icmp .gt 27, 3) := by decide +kernel
theorem dX9_open_12 : decode cX9_open 12 = .ok (.aload_n 0, 1) := by decide +kernel
theorem dX9_open_13 : decode cX9_open 13 = .ok (.getfield 28, 3) := by decide +kernel
theorem dX9_open_16 : decode cX9_open 16 = .ok (.aload_n 0, 1) := by decide +kernel
theorem dX9_open_17 : decode cX9_open 17 = .ok (.getfield 21, 3) := by decide +kernel
theorem dX9_open_20 : decode cX9_open 20 = .ok (.iload_n 2, 1) := by decide +kernel
theorem dX9_open_21 : decode cX9_open 21 = .ok (.invokevirtual 192, 3) := by decide +kernel
theorem dX9_open_24 : decode cX9_open 24 = .ok (.ifCond .eq 6, 3) := by decide +kernel
theorem dX9_open_27 : decode cX9_open 27 = .ok (.iinc 1 1, 3) := by decide +kernel
theorem dX9_open_30 : decode cX9_open 30 = .ok (.iinc 2 1, 3) := by decide +kernel
theorem dX9_open_33 : decode cX9_open 33 = .ok (.goto (-28), 3) := by decide +kernel
theorem dX9_open_36 : decode cX9_open 36 = .ok (.iload_n 1, 1) := by decide +kernel
theorem dX9_open_37 : decode cX9_open 37 = .ok (.ireturn, 1) := by decide +kernel
theorem dX9_bribe_0 : decode cX9_bribe 0 = .ok (.iload_n 1, 1) := by decide +kernel
theorem dX9_bribe_1 : decode cX9_bribe 1 = .ok (.invokestatic 178, 3) := by decide +kernel
theorem dX9_bribe_4 : decode cX9_bribe 4 = .ok (.ifCond .eq 12, 3) := by decide +kernel
theorem dX9_bribe_7 : decode cX9_bribe 7 = .ok (.iload_n 2, 1) := by decide +kernel
theorem dX9_bribe_8 : decode cX9_bribe 8 = .ok (.ifCond .lt 8, 3) := by decide +kernel
theorem dX9_bribe_11 : decode cX9_bribe 11 = .ok (.iload_n 2, 1) := by decide +kernel
theorem dX9_bribe_12 : decode cX9_bribe 12 = .ok (.iconst 4, 1) := by decide +kernel
theorem dX9_bribe_13 : decode cX9_bribe 13 = .ok (.if_icmp .le 6, 3) := by decide +kernel
theorem dX9_bribe_16 : decode cX9_bribe 16 = .ok (.ldc 253, 2) := by decide +kernel
theorem dX9_bribe_18 : decode cX9_bribe 18 = .ok (.ireturn, 1) := by decide +kernel
theorem dX9_bribe_19 : decode cX9_bribe 19 = .ok (.iload_n 2, 1) := by decide +kernel
theorem dX9_bribe_20 : decode cX9_bribe 20 = .ok (.iconst 4, 1) := by decide +kernel
theorem dX9_bribe_21 : decode cX9_bribe 21 = .ok (.if_icmp .ge 17, 3) := by decide +kernel
theorem dX9_bribe_24 : decode cX9_bribe 24 = .ok (.iload_n 2, 1) := by decide +kernel
theorem dX9_bribe_25 : decode cX9_bribe 25 = .ok (.aload_n 0, 1) := by decide +kernel
theorem dX9_bribe_26 : decode cX9_bribe 26 = .ok (.getfield 21, 3) := by decide +kernel
theorem dX9_bribe_29 : decode cX9_bribe 29 = .ok (.getfield 254, 3) := by decide +kernel
theorem dX9_bribe_32 : decode cX9_bribe 32 = .ok (.if_icmp .lt 6, 3) := by decide +kernel
theorem dX9_bribe_35 : decode cX9_bribe 35 = .ok (.bipush (-9), 2) := by decide +kernel
theorem dX9_bribe_37 : decode cX9_bribe 37 = .ok (.ireturn, 1) := by decide +kernel
theorem dX9_bribe_38 : decode cX9_bribe 38 = .ok (.aload_n 0, 1) := by decide +kernel
theorem dX9_bribe_39 : decode cX9_bribe 39 = .ok (.getfield 32, 3) := by decide +kernel
theorem dX9_bribe_42 : decode cX9_bribe 42 = .ok (.aload_n 0, 1) := by decide +kernel
theorem dX9_bribe_43 : decode cX9_bribe 43 = .ok (.getfield 28, 3) := by decide +kernel
theorem dX9_bribe_46 : decode cX9_bribe 46 = .ok (.invokevirtual 240, 3) := by decide +kernel
theorem dX9_bribe_49 : decode cX9_bribe 49 = .ok (.aload_n 0, 1) := by decide +kernel
theorem dX9_bribe_50 : decode cX9_bribe 50 = .ok (.getfield 55, 3) := by decide +kernel
theorem dX9_bribe_53 : decode cX9_bribe 53 = .ok (.aload_n 0, 1) := by decide +kernel
theorem dX9_bribe_54 : decode cX9_bribe 54 = .ok (.getfield 21, 3) := by decide +kernel
theorem dX9_bribe_57 : decode cX9_bribe 57 = .ok (.aload_n 0, 1) := by decide +kernel
theorem dX9_bribe_58 : decode cX9_bribe 58 = .ok (.getfield 32, 3) := by decide +kernel
theorem dX9_bribe_61 : decode cX9_bribe 61 = .ok (.iload_n 1, 1) := by decide +kernel
theorem dX9_bribe_62 : decode cX9_bribe 62 = .ok (.invokevirtual 257, 3) := by decide +kernel
theorem dX9_bribe_65 : decode cX9_bribe 65 = .ok (.aload_n 0, 1) := by decide +kernel
theorem dX9_bribe_66 : decode cX9_bribe 66 = .ok (.getfield 55, 3) := by decide +kernel
theorem dX9_bribe_69 : decode cX9_bribe 69 = .ok (.getfield 261, 3) := by decide +kernel
theorem dX9_bribe_72 : decode cX9_bribe 72 = .ok (.iconst (-1), 1) := by decide +kernel
theorem dX9_bribe_73 : decode cX9_bribe 73 = .ok (.if_icmp .ne 6, 3) := by decide +kernel
theorem dX9_bribe_76 : decode cX9_bribe 76 = .ok (.bipush (-8), 2) := by decide +kernel
theorem dX9_bribe_78 : decode cX9_bribe 78 = .ok (.ireturn, 1) := by decide +kernel
theorem dX9_bribe_79 : decode cX9_bribe 79 = .ok (.iload_n 2, 1) := by decide +kernel
theorem dX9_bribe_80 : decode cX9_bribe 80 = .ok (.iconst 4, 1) := by decide +kernel
theorem dX9_bribe_81 : decode cX9_bribe 81 = .ok (.if_icmp .ne 13, 3) := by decide +kernel
theorem dX9_bribe_84 : decode cX9_bribe 84 = .ok (.aload_n 0, 1) := by decide +kernel
theorem dX9_bribe_85 : decode cX9_bribe 85 = .ok (.getfield 55, 3) := by decide +kernel
theorem dX9_bribe_88 : decode cX9_bribe 88 = .ok (.getfield 261, 3) := by decide +kernel
theorem dX9_bribe_91 : decode cX9_bribe 91 = .ok (.goto 11, 3) := by decide +kernel
theorem dX9_bribe_94 : decode cX9_bribe 94 = .ok (.aload_n 0, 1) := by decide +kernel
theorem dX9_bribe_95 : decode cX9_bribe 95 = .ok (.getfield 55, 3) := by decide +kernel
theorem dX9_bribe_98 : decode cX9_bribe 98 = .ok (.iload_n 2, 1) := by decide +kernel
theorem dX9_bribe_99 : decode cX9_bribe 99 = .ok (.invokevirtual 264, 3) := by decide +kernel
theorem dX9_bribe_102 : decode cX9_bribe 102 = .ok (.ireturn, 1) := by decide +kernel
theorem dX9_swing_0 : decode cX9_swing 0 = .ok (.aload_n 0, 1) := by decide +kernel
theorem dX9_swing_1 : decode cX9_swing 1 = .ok (.iload_n 1, 1) := by decide +kernel
theorem dX9_swing_2 : decode cX9_swing 2 = .ok (.invokevirtual 150, 3) := by decide +kernel
theorem dX9_swing_5 : decode cX9_swing 5 = .ok (.ifCond .eq 10, 3) := by decide +kernel
theorem dX9_swing_8 : decode cX9_swing 8 = .ok (.iload_n 2, 1) := by decide +kernel
theorem dX9_swing_9 : decode cX9_swing 9 = .ok (.invokestatic 178, 3) := by decide +kernel
theorem dX9_swing_12 : decode cX9_swing 12 = .ok (.ifCond .ne 5, 3) := by decide +kernel
theorem dX9_swing_15 : decode cX9_swing 15 = .ok (.iconst (-1), 1) := by decide +kernel
theorem dX9_swing_16 : decode cX9_swing 16 = .ok (.ireturn, 1) := by decide +kernel
theorem dX9_swing_17 : decode cX9_swing 17 = .ok (.aload_n 0, 1) := by decide +kernel
theorem dX9_swing_18 : decode cX9_swing 18 = .ok (.getfield 28, 3) := by decide +kernel
theorem dX9_swing_21 : decode cX9_swing 21 = .ok (.aload_n 0, 1) := by decide +kernel
theorem dX9_swing_22 : decode cX9_swing 22 = .ok (.getfield 21, 3) := by decide +kernel
theorem dX9_swing_25 : decode cX9_swing 25 = .ok (.iload_n 1, 1) := by decide +kernel
theorem dX9_swing_26 : decode cX9_swing 26 = .ok (.iload_n 2, 1) := by decide +kernel
theorem dX9_swing_27 : decode cX9_swing 27 = .ok (.invokevirtual 184, 3) := by decide +kernel
theorem dX9_swing_30 : decode cX9_swing 30 = .ok (.istore_n 3, 1) := by decide +kernel
theorem dX9_swing_31 : decode cX9_swing 31 = .ok (.aload_n 0, 1) := by decide +kernel
theorem dX9_swing_32 : decode cX9_swing 32 = .ok (.getfield 28, 3) := by decide +kernel
theorem dX9_swing_35 : decode cX9_swing 35 = .ok (.aload_n 0, 1) := by decide +kernel
theorem dX9_swing_36 : decode cX9_swing 36 = .ok (.getfield 21, 3) := by decide +kernel
theorem dX9_swing_39 : decode cX9_swing 39 = .ok (.iload_n 2, 1) := by decide +kernel
theorem dX9_swing_40 : decode cX9_swing 40 = .ok (.invokevirtual 267, 3) := by decide +kernel
theorem dX9_swing_43 : decode cX9_swing 43 = .ok (.iconst 0, 1) := by decide +kernel
theorem dX9_swing_44 : decode cX9_swing 44 = .ok (.istore 4, 2) := by decide +kernel
theorem dX9_swing_46 : decode cX9_swing 46 = .ok (.iconst 0, 1) := by decide +kernel
theorem dX9_swing_47 : decode cX9_swing 47 = .ok (.istore 5, 2) := by decide +kernel
theorem dX9_swing_49 : decode cX9_swing 49 = .ok (.iload 5, 2) := by decide +kernel
theorem dX9_swing_51 : decode cX9_swing 51 = .ok (.iconst 1, 1) := by decide +kernel
theorem dX9_swing_52 : decode cX9_swing 52 = .ok (.aload_n 0, 1) := by decide +kernel
theorem dX9_swing_53 : decode cX9_swing 53 = .ok (.getfield 21, 3) := by decide +kernel
theorem dX9_swing_56 : decode cX9_swing 56 = .ok (.getfield 254, 3) := by decide +kernel
theorem dX9_swing_59 : decode cX9_swing 59 = .ok (.ishl, 1) := by decide +kernel
theorem dX9_swing_60 : decode cX9_swing 60 = .ok (.if_icmp .ge 65, 3) := by decide +kernel
theorem dX9_swing_63 : decode cX9_swing 63 = .ok (.iload 5, 2) := by decide +kernel
theorem dX9_swing_65 : decode cX9_swing 65 = .ok (.iload_n 1, 1) := by decide +kernel
theorem dX9_swing_66 : decode cX9_swing 66 = .ok (.invokestatic 168, 3) := by decide +kernel
theorem dX9_swing_69 : decode cX9_swing 69 = .ok (.ifCond .ne 50, 3) := by decide +kernel
theorem dX9_swing_72 : decode cX9_swing 72 = .ok (.aload_n 0, 1) := by decide +kernel
theorem dX9_swing_73 : decode cX9_swing 73 = .ok (.getfield 28, 3) := by decide +kernel
theorem dX9_swing_76 : decode cX9_swing 76 = .ok (.iload 5, 2) := by decide +kernel
theorem dX9_swing_78 : decode cX9_swing 78 = .ok (.aload_n 0, 1) := by decide +kernel
theorem dX9_swing_79 : decode cX9_swing 79 = .ok (.getfield 21, 3) := by decide +kernel
theorem dX9_swing_82 : decode cX9_swing 82 = .ok (.getfield 254, 3) := by decide +kernel
theorem dX9_swing_85 : decode cX9_swing 85 = .ok (.invokevirtual 270, 3) := by decide +kernel
theorem dX9_swing_88 : decode cX9_swing 88 = .ok (.istore 6, 2) := by decide +kernel
theorem dX9_swing_90 : decode cX9_swing 90 = .ok (.iload 6, 2) := by decide +kernel
theorem dX9_swing_92 : decode cX9_swing 92 = .ok (.aload_n 0, 1) := by decide +kernel
theorem dX9_swing_93 : decode cX9_swing 93 = .ok (.getfield 21, 3) := by decide +kernel
theorem dX9_swing_96 : decode cX9_swing 96 = .ok (.getfield 273, 3) := by decide +kernel
theorem dX9_swing_99 : decode cX9_swing 99 = .ok (.if_icmp .ge 20, 3) := by decide +kernel
theorem dX9_swing_102 : decode cX9_swing 102 = .ok (.iload 6, 2) := by decide +kernel
theorem dX9_swing_104 : decode cX9_swing 104 = .ok (.iload_n 3, 1) := by decide +kernel
theorem dX9_swing_105 : decode cX9_swing 105 = .ok (.iadd, 1) := by decide +kernel
theorem dX9_swing_106 : decode cX9_swing 106 = .ok (.aload_n 0, 1) := by decide +kernel
theorem dX9_swing_107 : decode cX9_swing 107 = .ok (.getfield 21, 3) := by decide +kernel
theorem dX9_swing_110 : decode cX9_swing 110 = .ok (.getfield 273, 3) := by decide +kernel
theorem dX9_swing_113 : decode cX9_swing 113 = .ok (.if_icmp .lt 6, 3) := by decide +kernel
theorem dX9_swing_116 : decode cX9_swing 116 = .ok (.iinc 4 1, 3) := by decide +kernel
theorem dX9_swing_119 : decode cX9_swing 119 = .ok (.iinc 5 1, 3) := by decide +kernel
theorem dX9_swing_122 : decode cX9_swing 122 = .ok (.goto (-73), 3) := by decide +kernel
theorem dX9_swing_125 : decode cX9_swing 125 = .ok (.iload 4, 2) := by decide +kernel
theorem dX9_swing_127 : decode cX9_swing 127 = .ok (.ireturn, 1) := by decide +kernel
theorem dX9_censure_0 : decode cX9_censure 0 = .ok (.iload_n 1, 1) := by decide +kernel
theorem dX9_censure_1 : decode cX9_censure 1 = .ok (.invokestatic 178, 3) := by decide +kernel
theorem dX9_censure_4 : decode cX9_censure 4 = .ok (.ifCond .ne 5, 3) := by decide +kernel
theorem dX9_censure_7 : decode cX9_censure 7 = .ok (.iconst (-1), 1) := by decide +kernel
theorem dX9_censure_8 : decode cX9_censure 8 = .ok (.ireturn, 1) := by decide +kernel
theorem dX9_censure_9 : decode cX9_censure 9 = .ok (.aload_n 0, 1) := by decide +kernel
theorem dX9_censure_10 : decode cX9_censure 10 = .ok (.getfield 28, 3) := by decide +kernel
theorem dX9_censure_13 : decode cX9_censure 13 = .ok (.aload_n 0, 1) := by decide +kernel
theorem dX9_censure_14 : decode cX9_censure 14 = .ok (.getfield 21, 3) := by decide +kernel
theorem dX9_censure_17 : decode cX9_censure 17 = .ok (.iload_n 1, 1) := by decide +kernel
theorem dX9_censure_18 : decode cX9_censure 18 = .ok (.invokevirtual 267, 3) := by decide +kernel
theorem dX9_censure_21 : decode cX9_censure 21 = .ok (.iconst 1, 1) := by decide +kernel
theorem dX9_censure_22 : decode cX9_censure 22 = .ok (.aload_n 0, 1) := by decide +kernel
theorem dX9_censure_23 : decode cX9_censure 23 = .ok (.getfield 21, 3) := by decide +kernel
theorem dX9_censure_26 : decode cX9_censure 26 = .ok (.getfield 254, 3) := by decide +kernel
theorem dX9_censure_29 : decode cX9_censure 29 = .ok (.ishl, 1) := by decide +kernel
theorem dX9_censure_30 : decode cX9_censure 30 = .ok (.iconst 1, 1) := by decide +kernel
theorem dX9_censure_31 : decode cX9_censure 31 = .ok (.isub, 1) := by decide +kernel
theorem dX9_censure_32 : decode cX9_censure 32 = .ok (.istore_n 2, 1) := by decide +kernel
theorem dX9_censure_33 : decode cX9_censure 33 = .ok (.bipush (-2), 2) := by decide +kernel
theorem dX9_censure_35 : decode cX9_censure 35 = .ok (.istore_n 3, 1) := by decide +kernel
theorem dX9_censure_36 : decode cX9_censure 36 = .ok (.iconst 0, 1) := by decide +kernel
theorem dX9_censure_37 : decode cX9_censure 37 = .ok (.istore 4, 2) := by decide +kernel
theorem dX9_censure_39 : decode cX9_censure 39 = .ok (.iload 4, 2) := by decide +kernel
theorem dX9_censure_41 : decode cX9_censure 41 = .ok (.iload_n 2, 1) := by decide +kernel
theorem dX9_censure_42 : decode cX9_censure 42 = .ok (.if_icmp .gt 69, 3) := by decide +kernel
theorem dX9_censure_45 : decode cX9_censure 45 = .ok (.iload_n 3, 1) := by decide +kernel
theorem dX9_censure_46 : decode cX9_censure 46 = .ok (.bipush (-2), 2) := by decide +kernel
theorem dX9_censure_48 : decode cX9_censure 48 = .ok (.if_icmp .eq 15, 3) := by decide +kernel
theorem dX9_censure_51 : decode cX9_censure 51 = .ok (.iload 4, 2) := by decide +kernel
theorem dX9_censure_53 : decode cX9_censure 53 = .ok (.invokestatic 276, 3) := by decide +kernel
theorem dX9_censure_56 : decode cX9_censure 56 = .ok (.iload_n 3, 1) := by decide +kernel
theorem dX9_censure_57 : decode cX9_censure 57 = .ok (.invokestatic 276, 3) := by decide +kernel
theorem dX9_censure_60 : decode cX9_censure 60 = .ok (.if_icmp .ge 45, 3) := by decide +kernel
theorem dX9_censure_63 : decode cX9_censure 63 = .ok (.aload_n 0, 1) := by decide +kernel
theorem dX9_censure_64 : decode cX9_censure 64 = .ok (.getfield 28, 3) := by decide +kernel
theorem dX9_censure_67 : decode cX9_censure 67 = .ok (.iload_n 2, 1) := by decide +kernel
theorem dX9_censure_68 : decode cX9_censure 68 = .ok (.iload 4, 2) := by decide +kernel
theorem dX9_censure_70 : decode cX9_censure 70 = .ok (.iconst (-1), 1) := by decide +kernel
theorem dX9_censure_71 : decode cX9_censure 71 = .ok (.ixor, 1) := by decide +kernel
theorem dX9_censure_72 : decode cX9_censure 72 = .ok (.iand, 1) := by decide +kernel
theorem dX9_censure_73 : decode cX9_censure 73 = .ok (.aload_n 0, 1) := by decide +kernel
theorem dX9_censure_74 : decode cX9_censure 74 = .ok (.getfield 21, 3) := by decide +kernel
theorem dX9_censure_77 : decode cX9_censure 77 = .ok (.getfield 254, 3) := by decide +kernel
theorem dX9_censure_80 : decode cX9_censure 80 = .ok (.invokevirtual 270, 3) := by decide +kernel
theorem dX9_censure_83 : decode cX9_censure 83 = .ok (.istore 5, 2) := by decide +kernel
theorem dX9_censure_85 : decode cX9_censure 85 = .ok (.aload_n 0, 1) := by decide +kernel
theorem dX9_censure_86 : decode cX9_censure 86 = .ok (.getfield 28, 3) := by decide +kernel
theorem dX9_censure_89 : decode cX9_censure 89 = .ok (.aload_n 0, 1) := by decide +kernel
theorem dX9_censure_90 : decode cX9_censure 90 = .ok (.getfield 21, 3) := by decide +kernel
theorem dX9_censure_93 : decode cX9_censure 93 = .ok (.iload_n 1, 1) := by decide +kernel
theorem dX9_censure_94 : decode cX9_censure 94 = .ok (.iload 5, 2) := by decide +kernel
theorem dX9_censure_96 : decode cX9_censure 96 = .ok (.invokevirtual 279, 3) := by decide +kernel
theorem dX9_censure_99 : decode cX9_censure 99 = .ok (.ifCond .ne 6, 3) := by decide +kernel
theorem dX9_censure_102 : decode cX9_censure 102 = .ok (.iload 4, 2) := by decide +kernel
theorem dX9_censure_104 : decode cX9_censure 104 = .ok (.istore_n 3, 1) := by decide +kernel
theorem dX9_censure_105 : decode cX9_censure 105 = .ok (.iinc 4 1, 3) := by decide +kernel
theorem dX9_censure_108 : decode cX9_censure 108 = .ok (.goto (-69), 3) := by decide +kernel
theorem dX9_censure_111 : decode cX9_censure 111 = .ok (.iload_n 3, 1) := by decide +kernel
theorem dX9_censure_112 : decode cX9_censure 112 = .ok (.ireturn, 1) := by decide +kernel
theorem dX9_party_0 : decode cX9_party 0 = .ok (.iload_n 1, 1) := by decide +kernel
theorem dX9_party_1 : decode cX9_party 1 = .ok (.ifCond .lt 15, 3) := by decide +kernel
theorem dX9_party_4 : decode cX9_party 4 = .ok (.iload_n 1, 1) := by decide +kernel
theorem dX9_party_5 : decode cX9_party 5 = .ok (.iconst 3, 1) := by decide +kernel
theorem dX9_party_6 : decode cX9_party 6 = .ok (.if_icmp .gt 10, 3) := by decide +kernel
theorem dX9_party_9 : decode cX9_party 9 = .ok (.iload_n 2, 1) := by decide +kernel
theorem dX9_party_10 : decode cX9_party 10 = .ok (.invokestatic 178, 3) := by decide +kernel
theorem dX9_party_13 : decode cX9_party 13 = .ok (.ifCond .ne 5, 3) := by decide +kernel
theorem dX9_party_16 : decode cX9_party 16 = .ok (.iconst (-1), 1) := by decide +kernel
theorem dX9_party_17 : decode cX9_party 17 = .ok (.ireturn, 1) := by decide +kernel
theorem dX9_party_18 : decode cX9_party 18 = .ok (.iconst 0, 1) := by decide +kernel
theorem dX9_party_19 : decode cX9_party 19 = .ok (.istore_n 3, 1) := by decide +kernel
theorem dX9_party_20 : decode cX9_party 20 = .ok (.iconst 0, 1) := by decide +kernel
theorem dX9_party_21 : decode cX9_party 21 = .ok (.istore 4, 2) := by decide +kernel
theorem dX9_party_23 : decode cX9_party 23 = .ok (.iload 4, 2) := by decide +kernel
theorem dX9_party_25 : decode cX9_party 25 = .ok (.aload_n 0, 1) := by decide +kernel
theorem dX9_party_26 : decode cX9_party 26 = .ok (.getfield 21, 3) := by decide +kernel
theorem dX9_party_29 : decode cX9_party 29 = .ok (.getfield 254, 3) := by decide +kernel
theorem dX9_party_32 : decode cX9_party 32 = .ok (.if_icmp .ge 40, 3) := by decide +kernel
theorem dX9_party_35 : decode cX9_party 35 = .ok (.aload_n 0, 1) := by decide +kernel
theorem dX9_party_36 : decode cX9_party 36 = .ok (.getfield 21, 3) := by decide +kernel
theorem dX9_party_39 : decode cX9_party 39 = .ok (.getfield 162, 3) := by decide +kernel
theorem dX9_party_42 : decode cX9_party 42 = .ok (.iload 4, 2) := by decide +kernel
theorem dX9_party_44 : decode cX9_party 44 = .ok (.iaload, 1) := by decide +kernel
theorem dX9_party_45 : decode cX9_party 45 = .ok (.iload_n 1, 1) := by decide +kernel
theorem dX9_party_46 : decode cX9_party 46 = .ok (.if_icmp .ne 20, 3) := by decide +kernel
theorem dX9_party_49 : decode cX9_party 49 = .ok (.iload_n 3, 1) := by decide +kernel
theorem dX9_party_50 : decode cX9_party 50 = .ok (.aload_n 0, 1) := by decide +kernel
theorem dX9_party_51 : decode cX9_party 51 = .ok (.getfield 28, 3) := by decide +kernel
theorem dX9_party_54 : decode cX9_party 54 = .ok (.aload_n 0, 1) := by decide +kernel
theorem dX9_party_55 : decode cX9_party 55 = .ok (.getfield 21, 3) := by decide +kernel
theorem dX9_party_58 : decode cX9_party 58 = .ok (.iload 4, 2) := by decide +kernel
theorem dX9_party_60 : decode cX9_party 60 = .ok (.iload_n 2, 1) := by decide +kernel
theorem dX9_party_61 : decode cX9_party 61 = .ok (.invokevirtual 184, 3) := by decide +kernel
theorem dX9_party_64 : decode cX9_party 64 = .ok (.iadd, 1) := by decide +kernel
theorem dX9_party_65 : decode cX9_party 65 = .ok (.istore_n 3, 1) := by decide +kernel
theorem dX9_party_66 : decode cX9_party 66 = .ok (.iinc 4 1, 3) := by decide +kernel
theorem dX9_party_69 : decode cX9_party 69 = .ok (.goto (-46), 3) := by decide +kernel
theorem dX9_party_72 : decode cX9_party 72 = .ok (.iload_n 3, 1) := by decide +kernel
theorem dX9_party_73 : decode cX9_party 73 = .ok (.ireturn, 1) := by decide +kernel
theorem dX9_rests_0 : decode cX9_rests 0 = .ok (.aload_n 0, 1) := by decide +kernel
theorem dX9_rests_1 : decode cX9_rests 1 = .ok (.iload_n 1, 1) := by decide +kernel
theorem dX9_rests_2 : decode cX9_rests 2 = .ok (.iload_n 2, 1) := by decide +kernel
theorem dX9_rests_3 : decode cX9_rests 3 = .ok (.invokevirtual 283, 3) := by decide +kernel
theorem dX9_rests_6 : decode cX9_rests 6 = .ok (.ifCond .eq 10, 3) := by decide +kernel
theorem dX9_rests_9 : decode cX9_rests 9 = .ok (.iload_n 3, 1) := by decide +kernel
theorem dX9_rests_10 : decode cX9_rests 10 = .ok (.invokestatic 178, 3) := by decide +kernel
theorem dX9_rests_13 : decode cX9_rests 13 = .ok (.ifCond .ne 5, 3) := by decide +kernel
theorem dX9_rests_16 : decode cX9_rests 16 = .ok (.iconst (-1), 1) := by decide +kernel
theorem dX9_rests_17 : decode cX9_rests 17 = .ok (.ireturn, 1) := by decide +kernel
theorem dX9_rests_18 : decode cX9_rests 18 = .ok (.aload_n 0, 1) := by decide +kernel
theorem dX9_rests_19 : decode cX9_rests 19 = .ok (.getfield 32, 3) := by decide +kernel
theorem dX9_rests_22 : decode cX9_rests 22 = .ok (.aload_n 0, 1) := by decide +kernel
theorem dX9_rests_23 : decode cX9_rests 23 = .ok (.getfield 28, 3) := by decide +kernel
theorem dX9_rests_26 : decode cX9_rests 26 = .ok (.invokevirtual 240, 3) := by decide +kernel
theorem dX9_rests_29 : decode cX9_rests 29 = .ok (.aload_n 0, 1) := by decide +kernel
theorem dX9_rests_30 : decode cX9_rests 30 = .ok (.getfield 62, 3) := by decide +kernel
theorem dX9_rests_33 : decode cX9_rests 33 = .ok (.aload_n 0, 1) := by decide +kernel
theorem dX9_rests_34 : decode cX9_rests 34 = .ok (.getfield 21, 3) := by decide +kernel
theorem dX9_rests_37 : decode cX9_rests 37 = .ok (.aload_n 0, 1) := by decide +kernel
theorem dX9_rests_38 : decode cX9_rests 38 = .ok (.getfield 32, 3) := by decide +kernel
theorem dX9_rests_41 : decode cX9_rests 41 = .ok (.iload_n 1, 1) := by decide +kernel
theorem dX9_rests_42 : decode cX9_rests 42 = .ok (.iload_n 2, 1) := by decide +kernel
theorem dX9_rests_43 : decode cX9_rests 43 = .ok (.iload_n 3, 1) := by decide +kernel
theorem dX9_rests_44 : decode cX9_rests 44 = .ok (.invokevirtual 287, 3) := by decide +kernel
theorem dX9_rests_47 : decode cX9_rests 47 = .ok (.aload_n 0, 1) := by decide +kernel
theorem dX9_rests_48 : decode cX9_rests 48 = .ok (.getfield 62, 3) := by decide +kernel
theorem dX9_rests_51 : decode cX9_rests 51 = .ok (.getfield 291, 3) := by decide +kernel
theorem dX9_rests_54 : decode cX9_rests 54 = .ok (.ireturn, 1) := by decide +kernel
theorem dX9_rest_0 : decode cX9_rest 0 = .ok (.aload_n 0, 1) := by decide +kernel
theorem dX9_rest_1 : decode cX9_rest 1 = .ok (.iload_n 1, 1) := by decide +kernel
theorem dX9_rest_2 : decode cX9_rest 2 = .ok (.iload_n 2, 1) := by decide +kernel
theorem dX9_rest_3 : decode cX9_rest 3 = .ok (.invokevirtual 283, 3) := by decide +kernel
theorem dX9_rest_6 : decode cX9_rest 6 = .ok (.ifCond .eq 15, 3) := by decide +kernel
theorem dX9_rest_9 : decode cX9_rest 9 = .ok (.iload_n 3, 1) := by decide +kernel
theorem dX9_rest_10 : decode cX9_rest 10 = .ok (.invokestatic 178, 3) := by decide +kernel
theorem dX9_rest_13 : decode cX9_rest 13 = .ok (.ifCond .eq 8, 3) := by decide +kernel
theorem dX9_rest_16 : decode cX9_rest 16 = .ok (.iload 4, 2) := by decide +kernel
theorem dX9_rest_18 : decode cX9_rest 18 = .ok (.ifCond .ge 5, 3) := by decide +kernel
theorem dX9_rest_21 : decode cX9_rest 21 = .ok (.iconst (-1), 1) := by decide +kernel
theorem dX9_rest_22 : decode cX9_rest 22 = .ok (.ireturn, 1) := by decide +kernel
theorem dX9_rest_23 : decode cX9_rest 23 = .ok (.aload_n 0, 1) := by decide +kernel
theorem dX9_rest_24 : decode cX9_rest 24 = .ok (.getfield 32, 3) := by decide +kernel
theorem dX9_rest_27 : decode cX9_rest 27 = .ok (.aload_n 0, 1) := by decide +kernel
theorem dX9_rest_28 : decode cX9_rest 28 = .ok (.getfield 28, 3) := by decide +kernel
theorem dX9_rest_31 : decode cX9_rest 31 = .ok (.invokevirtual 240, 3) := by decide +kernel
theorem dX9_rest_34 : decode cX9_rest 34 = .ok (.aload_n 0, 1) := by decide +kernel
theorem dX9_rest_35 : decode cX9_rest 35 = .ok (.getfield 62, 3) := by decide +kernel
theorem dX9_rest_38 : decode cX9_rest 38 = .ok (.aload_n 0, 1) := by decide +kernel
theorem dX9_rest_39 : decode cX9_rest 39 = .ok (.getfield 21, 3) := by decide +kernel
theorem dX9_rest_42 : decode cX9_rest 42 = .ok (.aload_n 0, 1) := by decide +kernel
theorem dX9_rest_43 : decode cX9_rest 43 = .ok (.getfield 32, 3) := by decide +kernel
theorem dX9_rest_46 : decode cX9_rest 46 = .ok (.iload_n 1, 1) := by decide +kernel
theorem dX9_rest_47 : decode cX9_rest 47 = .ok (.iload_n 2, 1) := by decide +kernel
theorem dX9_rest_48 : decode cX9_rest 48 = .ok (.iload_n 3, 1) := by decide +kernel
theorem dX9_rest_49 : decode cX9_rest 49 = .ok (.invokevirtual 287, 3) := by decide +kernel
theorem dX9_rest_52 : decode cX9_rest 52 = .ok (.iload 4, 2) := by decide +kernel
theorem dX9_rest_54 : decode cX9_rest 54 = .ok (.aload_n 0, 1) := by decide +kernel
theorem dX9_rest_55 : decode cX9_rest 55 = .ok (.getfield 62, 3) := by decide +kernel
theorem dX9_rest_58 : decode cX9_rest 58 = .ok (.getfield 291, 3) := by decide +kernel
theorem dX9_rest_61 : decode cX9_rest 61 = .ok (.if_icmp .ge 16, 3) := by decide +kernel
theorem dX9_rest_64 : decode cX9_rest 64 = .ok (.aload_n 0, 1) := by decide +kernel
theorem dX9_rest_65 : decode cX9_rest 65 = .ok (.getfield 62, 3) := by decide +kernel
theorem dX9_rest_68 : decode cX9_rest 68 = .ok (.getfield 292, 3) := by decide +kernel
theorem dX9_rest_71 : decode cX9_rest 71 = .ok (.iload 4, 2) := by decide +kernel
theorem dX9_rest_73 : decode cX9_rest 73 = .ok (.iaload, 1) := by decide +kernel
theorem dX9_rest_74 : decode cX9_rest 74 = .ok (.goto 5, 3) := by decide +kernel
theorem dX9_rest_77 : decode cX9_rest 77 = .ok (.bipush (-2), 2) := by decide +kernel
theorem dX9_rest_79 : decode cX9_rest 79 = .ok (.ireturn, 1) := by decide +kernel
theorem dX9_likely_0 : decode cX9_likely 0 = .ok (.aload_n 0, 1) := by decide +kernel
theorem dX9_likely_1 : decode cX9_likely 1 = .ok (.iload_n 1, 1) := by decide +kernel
theorem dX9_likely_2 : decode cX9_likely 2 = .ok (.invokevirtual 121, 3) := by decide +kernel
theorem dX9_likely_5 : decode cX9_likely 5 = .ok (.ifCond .eq 12, 3) := by decide +kernel
theorem dX9_likely_8 : decode cX9_likely 8 = .ok (.iload_n 2, 1) := by decide +kernel
theorem dX9_likely_9 : decode cX9_likely 9 = .ok (.ifCond .eq 10, 3) := by decide +kernel
theorem dX9_likely_12 : decode cX9_likely 12 = .ok (.iload_n 2, 1) := by decide +kernel
theorem dX9_likely_13 : decode cX9_likely 13 = .ok (.iconst 1, 1) := by decide +kernel
theorem dX9_likely_14 : decode cX9_likely 14 = .ok (.if_icmp .eq 5, 3) := by decide +kernel
theorem dX9_likely_17 : decode cX9_likely 17 = .ok (.iconst (-1), 1) := by decide +kernel
theorem dX9_likely_18 : decode cX9_likely 18 = .ok (.ireturn, 1) := by decide +kernel
theorem dX9_likely_19 : decode cX9_likely 19 = .ok (.aload_n 0, 1) := by decide +kernel
theorem dX9_likely_20 : decode cX9_likely 20 = .ok (.getfield 32, 3) := by decide +kernel
theorem dX9_likely_23 : decode cX9_likely 23 = .ok (.aload_n 0, 1) := by decide +kernel
theorem dX9_likely_24 : decode cX9_likely 24 = .ok (.getfield 28, 3) := by decide +kernel
theorem dX9_likely_27 : decode cX9_likely 27 = .ok (.invokevirtual 240, 3) := by decide +kernel
theorem dX9_likely_30 : decode cX9_likely 30 = .ok (.iconst 0, 1) := by decide +kernel
theorem dX9_likely_31 : decode cX9_likely 31 = .ok (.istore_n 3, 1) := by decide +kernel
theorem dX9_likely_32 : decode cX9_likely 32 = .ok (.iconst 0, 1) := by decide +kernel
theorem dX9_likely_33 : decode cX9_likely 33 = .ok (.istore 4, 2) := by decide +kernel
theorem dX9_likely_35 : decode cX9_likely 35 = .ok (.iload 4, 2) := by decide +kernel
theorem dX9_likely_37 : decode cX9_likely 37 = .ok (.bipush 9, 2) := by decide +kernel
theorem dX9_likely_39 : decode cX9_likely 39 = .ok (.if_icmp .gt 44, 3) := by decide +kernel
theorem dX9_likely_42 : decode cX9_likely 42 = .ok (.aload_n 0, 1) := by decide +kernel
theorem dX9_likely_43 : decode cX9_likely 43 = .ok (.getfield 32, 3) := by decide +kernel
theorem dX9_likely_46 : decode cX9_likely 46 = .ok (.iload 4, 2) := by decide +kernel
theorem dX9_likely_48 : decode cX9_likely 48 = .ok (.putfield 295, 3) := by decide +kernel
theorem dX9_likely_51 : decode cX9_likely 51 = .ok (.aload_n 0, 1) := by decide +kernel
theorem dX9_likely_52 : decode cX9_likely 52 = .ok (.getfield 32, 3) := by decide +kernel
theorem dX9_likely_55 : decode cX9_likely 55 = .ok (.aload_n 0, 1) := by decide +kernel
theorem dX9_likely_56 : decode cX9_likely 56 = .ok (.getfield 21, 3) := by decide +kernel
theorem dX9_likely_59 : decode cX9_likely 59 = .ok (.aload_n 0, 1) := by decide +kernel
theorem dX9_likely_60 : decode cX9_likely 60 = .ok (.getfield 21, 3) := by decide +kernel
theorem dX9_likely_63 : decode cX9_likely 63 = .ok (.getfield 132, 3) := by decide +kernel
theorem dX9_likely_66 : decode cX9_likely 66 = .ok (.iload_n 1, 1) := by decide +kernel
theorem dX9_likely_67 : decode cX9_likely 67 = .ok (.iaload, 1) := by decide +kernel
theorem dX9_likely_68 : decode cX9_likely 68 = .ok (.invokevirtual 192, 3) := by decide +kernel
theorem dX9_likely_71 : decode cX9_likely 71 = .ok (.ifCond .eq 6, 3) := by decide +kernel
theorem dX9_likely_74 : decode cX9_likely 74 = .ok (.iinc 3 1, 3) := by decide +kernel
theorem dX9_likely_77 : decode cX9_likely 77 = .ok (.iinc 4 1, 3) := by decide +kernel
theorem dX9_likely_80 : decode cX9_likely 80 = .ok (.goto (-45), 3) := by decide +kernel
theorem dX9_likely_83 : decode cX9_likely 83 = .ok (.iconst 1, 1) := by decide +kernel
theorem dX9_likely_84 : decode cX9_likely 84 = .ok (.istore 4, 2) := by decide +kernel
theorem dX9_likely_86 : decode cX9_likely 86 = .ok (.iload_n 3, 1) := by decide +kernel
theorem dX9_likely_87 : decode cX9_likely 87 = .ok (.bipush 10, 2) := by decide +kernel
theorem dX9_likely_89 : decode cX9_likely 89 = .ok (.irem, 1) := by decide +kernel
theorem dX9_likely_90 : decode cX9_likely 90 = .ok (.ifCond .ne 10, 3) := by decide +kernel
theorem dX9_likely_93 : decode cX9_likely 93 = .ok (.bipush 10, 2) := by decide +kernel
theorem dX9_likely_95 : decode cX9_likely 95 = .ok (.istore 4, 2) := by decide +kernel
theorem dX9_likely_97 : decode cX9_likely 97 = .ok (.goto 24, 3) := by decide +kernel
theorem dX9_likely_100 : decode cX9_likely 100 = .ok (.iload_n 3, 1) := by decide +kernel
theorem dX9_likely_101 : decode cX9_likely 101 = .ok (.iconst 5, 1) := by decide +kernel
theorem dX9_likely_102 : decode cX9_likely 102 = .ok (.irem, 1) := by decide +kernel
theorem dX9_likely_103 : decode cX9_likely 103 = .ok (.ifCond .ne 9, 3) := by decide +kernel
theorem dX9_likely_106 : decode cX9_likely 106 = .ok (.iconst 5, 1) := by decide +kernel
theorem dX9_likely_107 : decode cX9_likely 107 = .ok (.istore 4, 2) := by decide +kernel
theorem dX9_likely_109 : decode cX9_likely 109 = .ok (.goto 12, 3) := by decide +kernel
theorem dX9_likely_112 : decode cX9_likely 112 = .ok (.iload_n 3, 1) := by decide +kernel
theorem dX9_likely_113 : decode cX9_likely 113 = .ok (.iconst 2, 1) := by decide +kernel
theorem dX9_likely_114 : decode cX9_likely 114 = .ok (.irem, 1) := by decide +kernel
theorem dX9_likely_115 : decode cX9_likely 115 = .ok (.ifCond .ne 6, 3) := by decide +kernel
theorem dX9_likely_118 : decode cX9_likely 118 = .ok (.iconst 2, 1) := by decide +kernel
theorem dX9_likely_119 : decode cX9_likely 119 = .ok (.istore 4, 2) := by decide +kernel
theorem dX9_likely_121 : decode cX9_likely 121 = .ok (.iload_n 2, 1) := by decide +kernel
theorem dX9_likely_122 : decode cX9_likely 122 = .ok (.ifCond .ne 7, 3) := by decide +kernel
theorem dX9_likely_125 : decode cX9_likely 125 = .ok (.iload_n 3, 1) := by decide +kernel
theorem dX9_likely_126 : decode cX9_likely 126 = .ok (.goto 5, 3) := by decide +kernel
theorem dX9_likely_129 : decode cX9_likely 129 = .ok (.bipush 10, 2) := by decide +kernel
theorem dX9_likely_131 : decode cX9_likely 131 = .ok (.iload 4, 2) := by decide +kernel
theorem dX9_likely_133 : decode cX9_likely 133 = .ok (.idiv, 1) := by decide +kernel
theorem dX9_likely_134 : decode cX9_likely 134 = .ok (.ireturn, 1) := by decide +kernel
theorem dX9_order_0 : decode cX9_order 0 = .ok (.iload_n 1, 1) := by decide +kernel
theorem dX9_order_1 : decode cX9_order 1 = .ok (.iconst 1, 1) := by decide +kernel
theorem dX9_order_2 : decode cX9_order 2 = .ok (.if_icmp .lt 17, 3) := by decide +kernel
theorem dX9_order_5 : decode cX9_order 5 = .ok (.iload_n 1, 1) := by decide +kernel
theorem dX9_order_6 : decode cX9_order 6 = .ok (.iconst 4, 1) := by decide +kernel
theorem dX9_order_7 : decode cX9_order 7 = .ok (.if_icmp .gt 12, 3) := by decide +kernel
theorem dX9_order_10 : decode cX9_order 10 = .ok (.iload_n 2, 1) := by decide +kernel
theorem dX9_order_11 : decode cX9_order 11 = .ok (.ifCond .lt 8, 3) := by decide +kernel
theorem dX9_order_14 : decode cX9_order 14 = .ok (.iload_n 2, 1) := by decide +kernel
theorem dX9_order_15 : decode cX9_order 15 = .ok (.iconst 4, 1) := by decide +kernel
theorem dX9_order_16 : decode cX9_order 16 = .ok (.if_icmp .le 5, 3) := by decide +kernel
theorem dX9_order_19 : decode cX9_order 19 = .ok (.iconst (-1), 1) := by decide +kernel
theorem dX9_order_20 : decode cX9_order 20 = .ok (.ireturn, 1) := by decide +kernel
theorem dX9_order_21 : decode cX9_order 21 = .ok (.aload_n 0, 1) := by decide +kernel
theorem dX9_order_22 : decode cX9_order 22 = .ok (.getfield 32, 3) := by decide +kernel
theorem dX9_order_25 : decode cX9_order 25 = .ok (.aload_n 0, 1) := by decide +kernel
theorem dX9_order_26 : decode cX9_order 26 = .ok (.getfield 28, 3) := by decide +kernel
theorem dX9_order_29 : decode cX9_order 29 = .ok (.invokevirtual 240, 3) := by decide +kernel
theorem dX9_order_32 : decode cX9_order 32 = .ok (.aload_n 0, 1) := by decide +kernel
theorem dX9_order_33 : decode cX9_order 33 = .ok (.getfield 69, 3) := by decide +kernel
theorem dX9_order_36 : decode cX9_order 36 = .ok (.aload_n 0, 1) := by decide +kernel
theorem dX9_order_37 : decode cX9_order 37 = .ok (.getfield 21, 3) := by decide +kernel
theorem dX9_order_40 : decode cX9_order 40 = .ok (.aload_n 0, 1) := by decide +kernel
theorem dX9_order_41 : decode cX9_order 41 = .ok (.getfield 32, 3) := by decide +kernel
theorem dX9_order_44 : decode cX9_order 44 = .ok (.iload_n 1, 1) := by decide +kernel
theorem dX9_order_45 : decode cX9_order 45 = .ok (.invokevirtual 298, 3) := by decide +kernel
theorem dX9_order_48 : decode cX9_order 48 = .ok (.iload_n 2, 1) := by decide +kernel
theorem dX9_order_49 : decode cX9_order 49 = .ok (.iconst 4, 1) := by decide +kernel
theorem dX9_order_50 : decode cX9_order 50 = .ok (.if_icmp .ne 37, 3) := by decide +kernel
theorem dX9_order_53 : decode cX9_order 53 = .ok (.aload_n 0, 1) := by decide +kernel
theorem dX9_order_54 : decode cX9_order 54 = .ok (.getfield 69, 3) := by decide +kernel
theorem dX9_order_57 : decode cX9_order 57 = .ok (.getfield 299, 3) := by decide +kernel
theorem dX9_order_60 : decode cX9_order 60 = .ok (.aload_n 0, 1) := by decide +kernel
theorem dX9_order_61 : decode cX9_order 61 = .ok (.getfield 32, 3) := by decide +kernel
theorem dX9_order_64 : decode cX9_order 64 = .ok (.aload_n 0, 1) := by decide +kernel
theorem dX9_order_65 : decode cX9_order 65 = .ok (.getfield 21, 3) := by decide +kernel
theorem dX9_order_68 : decode cX9_order 68 = .ok (.iconst 1, 1) := by decide +kernel
theorem dX9_order_69 : decode cX9_order 69 = .ok (.invokevirtual 248, 3) := by decide +kernel
theorem dX9_order_72 : decode cX9_order 72 = .ok (.iadd, 1) := by decide +kernel
theorem dX9_order_73 : decode cX9_order 73 = .ok (.aload_n 0, 1) := by decide +kernel
theorem dX9_order_74 : decode cX9_order 74 = .ok (.getfield 28, 3) := by decide +kernel
theorem dX9_order_77 : decode cX9_order 77 = .ok (.aload_n 0, 1) := by decide +kernel
theorem dX9_order_78 : decode cX9_order 78 = .ok (.getfield 21, 3) := by decide +kernel
theorem dX9_order_81 : decode cX9_order 81 = .ok (.iconst 1, 1) := by decide +kernel
theorem dX9_order_82 : decode cX9_order 82 = .ok (.invokevirtual 248, 3) := by decide +kernel
theorem dX9_order_85 : decode cX9_order 85 = .ok (.isub, 1) := by decide +kernel
theorem dX9_order_86 : decode cX9_order 86 = .ok (.ireturn, 1) := by decide +kernel
theorem dX9_order_87 : decode cX9_order 87 = .ok (.iload_n 2, 1) := by decide +kernel
theorem dX9_order_88 : decode cX9_order 88 = .ok (.aload_n 0, 1) := by decide +kernel
theorem dX9_order_89 : decode cX9_order 89 = .ok (.getfield 69, 3) := by decide +kernel
theorem dX9_order_92 : decode cX9_order 92 = .ok (.getfield 302, 3) := by decide +kernel
theorem dX9_order_95 : decode cX9_order 95 = .ok (.if_icmp .ge 14, 3) := by decide +kernel
theorem dX9_order_98 : decode cX9_order 98 = .ok (.aload_n 0, 1) := by decide +kernel
theorem dX9_order_99 : decode cX9_order 99 = .ok (.getfield 69, 3) := by decide +kernel
theorem dX9_order_102 : decode cX9_order 102 = .ok (.iload_n 2, 1) := by decide +kernel
theorem dX9_order_103 : decode cX9_order 103 = .ok (.invokevirtual 303, 3) := by decide +kernel
theorem dX9_order_106 : decode cX9_order 106 = .ok (.goto 5, 3) := by decide +kernel
theorem dX9_order_109 : decode cX9_order 109 = .ok (.bipush (-2), 2) := by decide +kernel
theorem dX9_order_111 : decode cX9_order 111 = .ok (.ireturn, 1) := by decide +kernel
theorem dX9_room_0 : decode cX9_room 0 = .ok (.aload_n 0, 1) := by decide +kernel
theorem dX9_room_1 : decode cX9_room 1 = .ok (.iload_n 1, 1) := by decide +kernel
theorem dX9_room_2 : decode cX9_room 2 = .ok (.invokevirtual 150, 3) := by decide +kernel
theorem dX9_room_5 : decode cX9_room 5 = .ok (.ifCond .eq 10, 3) := by decide +kernel
theorem dX9_room_8 : decode cX9_room 8 = .ok (.iload_n 2, 1) := by decide +kernel
theorem dX9_room_9 : decode cX9_room 9 = .ok (.invokestatic 178, 3) := by decide +kernel
theorem dX9_room_12 : decode cX9_room 12 = .ok (.ifCond .ne 5, 3) := by decide +kernel
theorem dX9_room_15 : decode cX9_room 15 = .ok (.iconst (-1), 1) := by decide +kernel
theorem dX9_room_16 : decode cX9_room 16 = .ok (.ireturn, 1) := by decide +kernel
theorem dX9_room_17 : decode cX9_room 17 = .ok (.iconst 0, 1) := by decide +kernel
theorem dX9_room_18 : decode cX9_room 18 = .ok (.istore_n 3, 1) := by decide +kernel
theorem dX9_room_19 : decode cX9_room 19 = .ok (.iload_n 3, 1) := by decide +kernel
theorem dX9_room_20 : decode cX9_room 20 = .ok (.sipush 899, 3) := by decide +kernel
theorem dX9_room_23 : decode cX9_room 23 = .ok (.if_icmp .gt 38, 3) := by decide +kernel
theorem dX9_room_26 : decode cX9_room 26 = .ok (.aload_n 0, 1) := by decide +kernel
theorem dX9_room_27 : decode cX9_room 27 = .ok (.getfield 28, 3) := by decide +kernel
theorem dX9_room_30 : decode cX9_room 30 = .ok (.iload_n 1, 1) := by decide +kernel
theorem dX9_room_31 : decode cX9_room 31 = .ok (.iload_n 3, 1) := by decide +kernel
theorem dX9_room_32 : decode cX9_room 32 = .ok (.iload_n 2, 1) := by decide +kernel
theorem dX9_room_33 : decode cX9_room 33 = .ok (.invokevirtual 306, 3) := by decide +kernel
theorem dX9_room_36 : decode cX9_room 36 = .ok (.ifCond .ne 17, 3) := by decide +kernel
theorem dX9_room_39 : decode cX9_room 39 = .ok (.aload_n 0, 1) := by decide +kernel
theorem dX9_room_40 : decode cX9_room 40 = .ok (.getfield 28, 3) := by decide +kernel
theorem dX9_room_43 : decode cX9_room 43 = .ok (.iload_n 1, 1) := by decide +kernel
theorem dX9_room_44 : decode cX9_room 44 = .ok (.iload_n 3, 1) := by decide +kernel
theorem dX9_room_45 : decode cX9_room 45 = .ok (.ineg, 1) := by decide +kernel
theorem dX9_room_46 : decode cX9_room 46 = .ok (.iload_n 2, 1) := by decide +kernel
theorem dX9_room_47 : decode cX9_room 47 = .ok (.invokevirtual 306, 3) := by decide +kernel
theorem dX9_room_50 : decode cX9_room 50 = .ok (.ifCond .eq 5, 3) := by decide +kernel
theorem dX9_room_53 : decode cX9_room 53 = .ok (.iload_n 3, 1) := by decide +kernel
theorem dX9_room_54 : decode cX9_room 54 = .ok (.ireturn, 1) := by decide +kernel
theorem dX9_room_55 : decode cX9_room 55 = .ok (.iinc 3 1, 3) := by decide +kernel
theorem dX9_room_58 : decode cX9_room 58 = .ok (.goto (-39), 3) := by decide +kernel
theorem dX9_room_61 : decode cX9_room 61 = .ok (.bipush (-2), 2) := by decide +kernel
theorem dX9_room_63 : decode cX9_room 63 = .ok (.ireturn, 1) := by decide +kernel
theorem dX9_minute_0 : decode cX9_minute 0 = .ok (.aload_n 0, 1) := by decide +kernel
theorem dX9_minute_1 : decode cX9_minute 1 = .ok (.iload_n 1, 1) := by decide +kernel
theorem dX9_minute_2 : decode cX9_minute 2 = .ok (.invokevirtual 121, 3) := by decide +kernel
theorem dX9_minute_5 : decode cX9_minute 5 = .ok (.ifCond .eq 23, 3) := by decide +kernel
theorem dX9_minute_8 : decode cX9_minute 8 = .ok (.aload_n 0, 1) := by decide +kernel
theorem dX9_minute_9 : decode cX9_minute 9 = .ok (.getfield 48, 3) := by decide +kernel
theorem dX9_minute_12 : decode cX9_minute 12 = .ok (.iload_n 2, 1) := by decide +kernel
theorem dX9_minute_13 : decode cX9_minute 13 = .ok (.ifCond .eq 7, 3) := by decide +kernel
theorem dX9_minute_16 : decode cX9_minute 16 = .ok (.iconst 1, 1) := by decide +kernel
theorem dX9_minute_17 : decode cX9_minute 17 = .ok (.goto 4, 3) := by decide +kernel
theorem dX9_minute_20 : decode cX9_minute 20 = .ok (.iconst 0, 1) := by decide +kernel
theorem dX9_minute_21 : decode cX9_minute 21 = .ok (.iload_n 1, 1) := by decide +kernel
theorem dX9_minute_22 : decode cX9_minute 22 = .ok (.invokevirtual 310, 3) := by decide +kernel
theorem dX9_minute_25 : decode cX9_minute 25 = .ok (.goto 4, 3) := by decide +kernel
theorem dX9_minute_28 : decode cX9_minute 28 = .ok (.iconst (-1), 1) := by decide +kernel
theorem dX9_minute_29 : decode cX9_minute 29 = .ok (.ireturn, 1) := by decide +kernel
theorem dX9_out_0 : decode cX9_out 0 = .ok (.iload_n 1, 1) := by decide +kernel
theorem dX9_out_1 : decode cX9_out 1 = .ok (.ifCond .lt 26, 3) := by decide +kernel
theorem dX9_out_4 : decode cX9_out 4 = .ok (.iload_n 1, 1) := by decide +kernel
theorem dX9_out_5 : decode cX9_out 5 = .ok (.aload_n 0, 1) := by decide +kernel
theorem dX9_out_6 : decode cX9_out 6 = .ok (.getfield 48, 3) := by decide +kernel
theorem dX9_out_9 : decode cX9_out 9 = .ok (.getfield 312, 3) := by decide +kernel
theorem dX9_out_12 : decode cX9_out 12 = .ok (.if_icmp .ge 15, 3) := by decide +kernel
theorem dX9_out_15 : decode cX9_out 15 = .ok (.aload_n 0, 1) := by decide +kernel
theorem dX9_out_16 : decode cX9_out 16 = .ok (.getfield 48, 3) := by decide +kernel
theorem dX9_out_19 : decode cX9_out 19 = .ok (.iconst 2, 1) := by decide +kernel
theorem dX9_out_20 : decode cX9_out 20 = .ok (.iload_n 1, 1) := by decide +kernel
theorem dX9_out_21 : decode cX9_out 21 = .ok (.invokevirtual 310, 3) := by decide +kernel
theorem dX9_out_24 : decode cX9_out 24 = .ok (.goto 4, 3) := by decide +kernel
theorem dX9_out_27 : decode cX9_out 27 = .ok (.iconst (-1), 1) := by decide +kernel
theorem dX9_out_28 : decode cX9_out 28 = .ok (.ireturn, 1) := by decide +kernel
theorem dX9_known_0 : decode cX9_known 0 = .ok (.iload_n 1, 1) := by decide +kernel
theorem dX9_known_1 : decode cX9_known 1 = .ok (.iconst (-1), 1) := by decide +kernel
theorem dX9_known_2 : decode cX9_known 2 = .ok (.if_icmp .lt 14, 3) := by decide +kernel
theorem dX9_known_5 : decode cX9_known 5 = .ok (.iload_n 1, 1) := by decide +kernel
theorem dX9_known_6 : decode cX9_known 6 = .ok (.aload_n 0, 1) := by decide +kernel
theorem dX9_known_7 : decode cX9_known 7 = .ok (.getfield 48, 3) := by decide +kernel
theorem dX9_known_10 : decode cX9_known 10 = .ok (.getfield 312, 3) := by decide +kernel
theorem dX9_known_13 : decode cX9_known 13 = .ok (.if_icmp .le 5, 3) := by decide +kernel
theorem dX9_known_16 : decode cX9_known 16 = .ok (.iconst 0, 1) := by decide +kernel
theorem dX9_known_17 : decode cX9_known 17 = .ok (.ireturn, 1) := by decide +kernel
theorem dX9_known_18 : decode cX9_known 18 = .ok (.aload_n 0, 1) := by decide +kernel
theorem dX9_known_19 : decode cX9_known 19 = .ok (.getfield 48, 3) := by decide +kernel
theorem dX9_known_22 : decode cX9_known 22 = .ok (.iload_n 1, 1) := by decide +kernel
theorem dX9_known_23 : decode cX9_known 23 = .ok (.putfield 313, 3) := by decide +kernel
theorem dX9_known_26 : decode cX9_known 26 = .ok (.iconst 1, 1) := by decide +kernel
theorem dX9_known_27 : decode cX9_known 27 = .ok (.ireturn, 1) := by decide +kernel
theorem dX9_widths_0 : decode cX9_widths 0 = .ok (.aload_n 0, 1) := by decide +kernel
theorem dX9_widths_1 : decode cX9_widths 1 = .ok (.iload_n 1, 1) := by decide +kernel
theorem dX9_widths_2 : decode cX9_widths 2 = .ok (.invokevirtual 150, 3) := by decide +kernel
theorem dX9_widths_5 : decode cX9_widths 5 = .ok (.ifCond .ne 5, 3) := by decide +kernel
theorem dX9_widths_8 : decode cX9_widths 8 = .ok (.iconst (-1), 1) := by decide +kernel
theorem dX9_widths_9 : decode cX9_widths 9 = .ok (.ireturn, 1) := by decide +kernel
theorem dX9_widths_10 : decode cX9_widths 10 = .ok (.aload_n 0, 1) := by decide +kernel
theorem dX9_widths_11 : decode cX9_widths 11 = .ok (.getfield 48, 3) := by decide +kernel
theorem dX9_widths_14 : decode cX9_widths 14 = .ok (.invokevirtual 316, 3) := by decide +kernel
theorem dX9_widths_17 : decode cX9_widths 17 = .ok (.aload_n 0, 1) := by decide +kernel
theorem dX9_widths_18 : decode cX9_widths 18 = .ok (.getfield 48, 3) := by decide +kernel
theorem dX9_widths_21 : decode cX9_widths 21 = .ok (.aload_n 0, 1) := by decide +kernel
theorem dX9_widths_22 : decode cX9_widths 22 = .ok (.getfield 21, 3) := by decide +kernel
theorem dX9_widths_25 : decode cX9_widths 25 = .ok (.invokevirtual 319, 3) := by decide +kernel
theorem dX9_widths_28 : decode cX9_widths 28 = .ok (.istore_n 2, 1) := by decide +kernel
theorem dX9_widths_29 : decode cX9_widths 29 = .ok (.iconst 0, 1) := by decide +kernel
theorem dX9_widths_30 : decode cX9_widths 30 = .ok (.istore_n 3, 1) := by decide +kernel
theorem dX9_widths_31 : decode cX9_widths 31 = .ok (.iconst 0, 1) := by decide +kernel
theorem dX9_widths_32 : decode cX9_widths 32 = .ok (.istore 4, 2) := by decide +kernel
theorem dX9_widths_34 : decode cX9_widths 34 = .ok (.iload 4, 2) := by decide +kernel
theorem dX9_widths_36 : decode cX9_widths 36 = .ok (.bipush 10, 2) := by decide +kernel
theorem dX9_widths_38 : decode cX9_widths 38 = .ok (.if_icmp .ge 67, 3) := by decide +kernel
theorem dX9_widths_41 : decode cX9_widths 41 = .ok (.aload_n 0, 1) := by decide +kernel
theorem dX9_widths_42 : decode cX9_widths 42 = .ok (.getfield 32, 3) := by decide +kernel
theorem dX9_widths_45 : decode cX9_widths 45 = .ok (.aload_n 0, 1) := by decide +kernel
theorem dX9_widths_46 : decode cX9_widths 46 = .ok (.getfield 21, 3) := by decide +kernel
theorem dX9_widths_49 : decode cX9_widths 49 = .ok (.invokevirtual 98, 3) := by decide +kernel
theorem dX9_widths_52 : decode cX9_widths 52 = .ok (.aload_n 0, 1) := by decide +kernel
theorem dX9_widths_53 : decode cX9_widths 53 = .ok (.getfield 32, 3) := by decide +kernel
theorem dX9_widths_56 : decode cX9_widths 56 = .ok (.getfield 322, 3) := by decide +kernel
theorem dX9_widths_59 : decode cX9_widths 59 = .ok (.iload_n 1, 1) := by decide +kernel
theorem dX9_widths_60 : decode cX9_widths 60 = .ok (.bipush 10, 2) := by decide +kernel
theorem dX9_widths_62 : decode cX9_widths 62 = .ok (.iload 4, 2) := by decide +kernel
theorem dX9_widths_64 : decode cX9_widths 64 = .ok (.imul, 1) := by decide +kernel
theorem dX9_widths_65 : decode cX9_widths 65 = .ok (.iastore, 1) := by decide +kernel
theorem dX9_widths_66 : decode cX9_widths 66 = .ok (.aload_n 0, 1) := by decide +kernel
theorem dX9_widths_67 : decode cX9_widths 67 = .ok (.getfield 32, 3) := by decide +kernel
theorem dX9_widths_70 : decode cX9_widths 70 = .ok (.aload_n 0, 1) := by decide +kernel
theorem dX9_widths_71 : decode cX9_widths 71 = .ok (.getfield 21, 3) := by decide +kernel
theorem dX9_widths_74 : decode cX9_widths 74 = .ok (.iload_n 2, 1) := by decide +kernel
theorem dX9_widths_75 : decode cX9_widths 75 = .ok (.invokevirtual 236, 3) := by decide +kernel
theorem dX9_widths_78 : decode cX9_widths 78 = .ok (.aload_n 0, 1) := by decide +kernel
theorem dX9_widths_79 : decode cX9_widths 79 = .ok (.getfield 48, 3) := by decide +kernel
theorem dX9_widths_82 : decode cX9_widths 82 = .ok (.aload_n 0, 1) := by decide +kernel
theorem dX9_widths_83 : decode cX9_widths 83 = .ok (.getfield 32, 3) := by decide +kernel
theorem dX9_widths_86 : decode cX9_widths 86 = .ok (.invokevirtual 323, 3) := by decide +kernel
theorem dX9_widths_89 : decode cX9_widths 89 = .ok (.ifCond .eq 10, 3) := by decide +kernel
theorem dX9_widths_92 : decode cX9_widths 92 = .ok (.iload_n 3, 1) := by decide +kernel
theorem dX9_widths_93 : decode cX9_widths 93 = .ok (.iconst 1, 1) := by decide +kernel
theorem dX9_widths_94 : decode cX9_widths 94 = .ok (.iload 4, 2) := by decide +kernel
theorem dX9_widths_96 : decode cX9_widths 96 = .ok (.ishl, 1) := by decide +kernel
theorem dX9_widths_97 : decode cX9_widths 97 = .ok (.ior, 1) := by decide +kernel
theorem dX9_widths_98 : decode cX9_widths 98 = .ok (.istore_n 3, 1) := by decide +kernel
theorem dX9_widths_99 : decode cX9_widths 99 = .ok (.iinc 4 1, 3) := by decide +kernel
theorem dX9_widths_102 : decode cX9_widths 102 = .ok (.goto (-68), 3) := by decide +kernel
theorem dX9_widths_105 : decode cX9_widths 105 = .ok (.iload_n 3, 1) := by decide +kernel
theorem dX9_widths_106 : decode cX9_widths 106 = .ok (.ireturn, 1) := by decide +kernel
theorem dX9_chance_0 : decode cX9_chance 0 = .ok (.iload_n 1, 1) := by decide +kernel
theorem dX9_chance_1 : decode cX9_chance 1 = .ok (.ifCond .lt 24, 3) := by decide +kernel
theorem dX9_chance_4 : decode cX9_chance 4 = .ok (.iload_n 2, 1) := by decide +kernel
theorem dX9_chance_5 : decode cX9_chance 5 = .ok (.iconst 1, 1) := by decide +kernel
theorem dX9_chance_6 : decode cX9_chance 6 = .ok (.if_icmp .lt 19, 3) := by decide +kernel
theorem dX9_chance_9 : decode cX9_chance 9 = .ok (.iload_n 2, 1) := by decide +kernel
theorem dX9_chance_10 : decode cX9_chance 10 = .ok (.bipush 99, 2) := by decide +kernel
theorem dX9_chance_12 : decode cX9_chance 12 = .ok (.if_icmp .gt 13, 3) := by decide +kernel
theorem dX9_chance_15 : decode cX9_chance 15 = .ok (.iload_n 3, 1) := by decide +kernel
theorem dX9_chance_16 : decode cX9_chance 16 = .ok (.ifCond .lt 9, 3) := by decide +kernel
theorem dX9_chance_19 : decode cX9_chance 19 = .ok (.iload_n 3, 1) := by decide +kernel
theorem dX9_chance_20 : decode cX9_chance 20 = .ok (.bipush 10, 2) := by decide +kernel
theorem dX9_chance_22 : decode cX9_chance 22 = .ok (.if_icmp .le 5, 3) := by decide +kernel
theorem dX9_chance_25 : decode cX9_chance 25 = .ok (.iconst (-1), 1) := by decide +kernel
theorem dX9_chance_26 : decode cX9_chance 26 = .ok (.ireturn, 1) := by decide +kernel
theorem dX9_chance_27 : decode cX9_chance 27 = .ok (.aload_n 0, 1) := by decide +kernel
theorem dX9_chance_28 : decode cX9_chance 28 = .ok (.getfield 28, 3) := by decide +kernel
theorem dX9_chance_31 : decode cX9_chance 31 = .ok (.aload_n 0, 1) := by decide +kernel
theorem dX9_chance_32 : decode cX9_chance 32 = .ok (.getfield 21, 3) := by decide +kernel
theorem dX9_chance_35 : decode cX9_chance 35 = .ok (.iconst 1, 1) := by decide +kernel
theorem dX9_chance_36 : decode cX9_chance 36 = .ok (.invokevirtual 248, 3) := by decide +kernel
theorem dX9_chance_39 : decode cX9_chance 39 = .ok (.istore 4, 2) := by decide +kernel
theorem dX9_chance_41 : decode cX9_chance 41 = .ok (.iconst 0, 1) := by decide +kernel
theorem dX9_chance_42 : decode cX9_chance 42 = .ok (.istore 5, 2) := by decide +kernel
theorem dX9_chance_44 : decode cX9_chance 44 = .ok (.iload_n 1, 1) := by decide +kernel
theorem dX9_chance_45 : decode cX9_chance 45 = .ok (.istore 6, 2) := by decide +kernel
theorem dX9_chance_47 : decode cX9_chance 47 = .ok (.iconst 0, 1) := by decide +kernel
theorem dX9_chance_48 : decode cX9_chance 48 = .ok (.istore 7, 2) := by decide +kernel
theorem dX9_chance_50 : decode cX9_chance 50 = .ok (.iload 7, 2) := by decide +kernel
theorem dX9_chance_52 : decode cX9_chance 52 = .ok (.bipush 10, 2) := by decide +kernel
theorem dX9_chance_54 : decode cX9_chance 54 = .ok (.if_icmp .ge 58, 3) := by decide +kernel
theorem dX9_chance_57 : decode cX9_chance 57 = .ok (.aload_n 0, 1) := by decide +kernel
theorem dX9_chance_58 : decode cX9_chance 58 = .ok (.getfield 32, 3) := by decide +kernel
theorem dX9_chance_61 : decode cX9_chance 61 = .ok (.aload_n 0, 1) := by decide +kernel
theorem dX9_chance_62 : decode cX9_chance 62 = .ok (.getfield 28, 3) := by decide +kernel
theorem dX9_chance_65 : decode cX9_chance 65 = .ok (.invokevirtual 240, 3) := by decide +kernel
theorem dX9_chance_68 : decode cX9_chance 68 = .ok (.aload_n 0, 1) := by decide +kernel
theorem dX9_chance_69 : decode cX9_chance 69 = .ok (.getfield 32, 3) := by decide +kernel
theorem dX9_chance_72 : decode cX9_chance 72 = .ok (.aload_n 0, 1) := by decide +kernel
theorem dX9_chance_73 : decode cX9_chance 73 = .ok (.getfield 21, 3) := by decide +kernel
theorem dX9_chance_76 : decode cX9_chance 76 = .ok (.iload_n 2, 1) := by decide +kernel
theorem dX9_chance_77 : decode cX9_chance 77 = .ok (.iload 6, 2) := by decide +kernel
theorem dX9_chance_79 : decode cX9_chance 79 = .ok (.invokevirtual 327, 3) := by decide +kernel
theorem dX9_chance_82 : decode cX9_chance 82 = .ok (.istore 6, 2) := by decide +kernel
theorem dX9_chance_84 : decode cX9_chance 84 = .ok (.aload_n 0, 1) := by decide +kernel
theorem dX9_chance_85 : decode cX9_chance 85 = .ok (.getfield 32, 3) := by decide +kernel
theorem dX9_chance_88 : decode cX9_chance 88 = .ok (.aload_n 0, 1) := by decide +kernel
theorem dX9_chance_89 : decode cX9_chance 89 = .ok (.getfield 21, 3) := by decide +kernel
theorem dX9_chance_92 : decode cX9_chance 92 = .ok (.iconst 1, 1) := by decide +kernel
theorem dX9_chance_93 : decode cX9_chance 93 = .ok (.invokevirtual 248, 3) := by decide +kernel
theorem dX9_chance_96 : decode cX9_chance 96 = .ok (.iload 4, 2) := by decide +kernel
theorem dX9_chance_98 : decode cX9_chance 98 = .ok (.isub, 1) := by decide +kernel
theorem dX9_chance_99 : decode cX9_chance 99 = .ok (.iload_n 3, 1) := by decide +kernel
theorem dX9_chance_100 : decode cX9_chance 100 = .ok (.if_icmp .lt 6, 3) := by decide +kernel
theorem dX9_chance_103 : decode cX9_chance 103 = .ok (.iinc 5 1, 3) := by decide +kernel
theorem dX9_chance_106 : decode cX9_chance 106 = .ok (.iinc 7 1, 3) := by decide +kernel
theorem dX9_chance_109 : decode cX9_chance 109 = .ok (.goto (-59), 3) := by decide +kernel
theorem dX9_chance_112 : decode cX9_chance 112 = .ok (.iload 5, 2) := by decide +kernel
theorem dX9_chance_114 : decode cX9_chance 114 = .ok (.ireturn, 1) := by decide +kernel
theorem dX9_tried_0 : decode cX9_tried 0 = .ok (.iload_n 1, 1) := by decide +kernel
theorem dX9_tried_1 : decode cX9_tried 1 = .ok (.ifCond .lt 35, 3) := by decide +kernel
theorem dX9_tried_4 : decode cX9_tried 4 = .ok (.iload_n 1, 1) := by decide +kernel
theorem dX9_tried_5 : decode cX9_tried 5 = .ok (.iconst 5, 1) := by decide +kernel
theorem dX9_tried_6 : decode cX9_tried 6 = .ok (.if_icmp .gt 30, 3) := by decide +kernel
theorem dX9_tried_9 : decode cX9_tried 9 = .ok (.iload_n 3, 1) := by decide +kernel
theorem dX9_tried_10 : decode cX9_tried 10 = .ok (.invokestatic 233, 3) := by decide +kernel
theorem dX9_tried_13 : decode cX9_tried 13 = .ok (.ifCond .eq 23, 3) := by decide +kernel
theorem dX9_tried_16 : decode cX9_tried 16 = .ok (.iload_n 1, 1) := by decide +kernel
theorem dX9_tried_17 : decode cX9_tried 17 = .ok (.iconst 2, 1) := by decide +kernel
theorem dX9_tried_18 : decode cX9_tried 18 = .ok (.if_icmp .ne 14, 3) := by decide +kernel
theorem dX9_tried_21 : decode cX9_tried 21 = .ok (.aload_n 0, 1) := by decide +kernel
theorem dX9_tried_22 : decode cX9_tried 22 = .ok (.iload_n 2, 1) := by decide +kernel
theorem dX9_tried_23 : decode cX9_tried 23 = .ok (.invokevirtual 150, 3) := by decide +kernel
theorem dX9_tried_26 : decode cX9_tried 26 = .ok (.ifCond .ne 12, 3) := by decide +kernel
theorem dX9_tried_29 : decode cX9_tried 29 = .ok (.goto 7, 3) := by decide +kernel
theorem dX9_tried_32 : decode cX9_tried 32 = .ok (.iload_n 2, 1) := by decide +kernel
theorem dX9_tried_33 : decode cX9_tried 33 = .ok (.ifCond .eq 5, 3) := by decide +kernel
theorem dX9_tried_36 : decode cX9_tried 36 = .ok (.iconst (-1), 1) := by decide +kernel
theorem dX9_tried_37 : decode cX9_tried 37 = .ok (.ireturn, 1) := by decide +kernel
theorem dX9_tried_38 : decode cX9_tried 38 = .ok (.aload_n 0, 1) := by decide +kernel
theorem dX9_tried_39 : decode cX9_tried 39 = .ok (.getfield 32, 3) := by decide +kernel
theorem dX9_tried_42 : decode cX9_tried 42 = .ok (.aload_n 0, 1) := by decide +kernel
theorem dX9_tried_43 : decode cX9_tried 43 = .ok (.getfield 28, 3) := by decide +kernel
theorem dX9_tried_46 : decode cX9_tried 46 = .ok (.invokevirtual 240, 3) := by decide +kernel
theorem dX9_tried_49 : decode cX9_tried 49 = .ok (.iload_n 1, 1) := by decide +kernel
theorem dX9_tried_50 : decode cX9_tried 50 = .ok (.tableswitch 74 2 5 #[30, 41, 52, 63], 30) := by decide +kernel
theorem dX9_tried_80 : decode cX9_tried 80 = .ok (.aload_n 0, 1) := by decide +kernel
theorem dX9_tried_81 : decode cX9_tried 81 = .ok (.getfield 32, 3) := by decide +kernel
theorem dX9_tried_84 : decode cX9_tried 84 = .ok (.iload_n 2, 1) := by decide +kernel
theorem dX9_tried_85 : decode cX9_tried 85 = .ok (.putfield 330, 3) := by decide +kernel
theorem dX9_tried_88 : decode cX9_tried 88 = .ok (.goto 36, 3) := by decide +kernel
theorem dX9_tried_91 : decode cX9_tried 91 = .ok (.aload_n 0, 1) := by decide +kernel
theorem dX9_tried_92 : decode cX9_tried 92 = .ok (.getfield 32, 3) := by decide +kernel
theorem dX9_tried_95 : decode cX9_tried 95 = .ok (.iconst 0, 1) := by decide +kernel
theorem dX9_tried_96 : decode cX9_tried 96 = .ok (.putfield 333, 3) := by decide +kernel
theorem dX9_tried_99 : decode cX9_tried 99 = .ok (.goto 25, 3) := by decide +kernel
theorem dX9_tried_102 : decode cX9_tried 102 = .ok (.aload_n 0, 1) := by decide +kernel
theorem dX9_tried_103 : decode cX9_tried 103 = .ok (.getfield 32, 3) := by decide +kernel
theorem dX9_tried_106 : decode cX9_tried 106 = .ok (.iconst 0, 1) := by decide +kernel
theorem dX9_tried_107 : decode cX9_tried 107 = .ok (.putfield 336, 3) := by decide +kernel
theorem dX9_tried_110 : decode cX9_tried 110 = .ok (.goto 14, 3) := by decide +kernel
theorem dX9_tried_113 : decode cX9_tried 113 = .ok (.aload_n 0, 1) := by decide +kernel
theorem dX9_tried_114 : decode cX9_tried 114 = .ok (.getfield 32, 3) := by decide +kernel
theorem dX9_tried_117 : decode cX9_tried 117 = .ok (.iconst 0, 1) := by decide +kernel
theorem dX9_tried_118 : decode cX9_tried 118 = .ok (.putfield 172, 3) := by decide +kernel
theorem dX9_tried_121 : decode cX9_tried 121 = .ok (.goto 3, 3) := by decide +kernel
theorem dX9_tried_124 : decode cX9_tried 124 = .ok (.iload_n 1, 1) := by decide +kernel
theorem dX9_tried_125 : decode cX9_tried 125 = .ok (.iconst 1, 1) := by decide +kernel
theorem dX9_tried_126 : decode cX9_tried 126 = .ok (.if_icmp .ne 18, 3) := by decide +kernel
theorem dX9_tried_129 : decode cX9_tried 129 = .ok (.aload_n 0, 1) := by decide +kernel
theorem dX9_tried_130 : decode cX9_tried 130 = .ok (.getfield 32, 3) := by decide +kernel
theorem dX9_tried_133 : decode cX9_tried 133 = .ok (.aload_n 0, 1) := by decide +kernel
theorem dX9_tried_134 : decode cX9_tried 134 = .ok (.getfield 21, 3) := by decide +kernel
theorem dX9_tried_137 : decode cX9_tried 137 = .ok (.iload_n 3, 1) := by decide +kernel
theorem dX9_tried_138 : decode cX9_tried 138 = .ok (.invokevirtual 337, 3) := by decide +kernel
theorem dX9_tried_141 : decode cX9_tried 141 = .ok (.goto 15, 3) := by decide +kernel
theorem dX9_tried_144 : decode cX9_tried 144 = .ok (.aload_n 0, 1) := by decide +kernel
theorem dX9_tried_145 : decode cX9_tried 145 = .ok (.getfield 32, 3) := by decide +kernel
theorem dX9_tried_148 : decode cX9_tried 148 = .ok (.aload_n 0, 1) := by decide +kernel
theorem dX9_tried_149 : decode cX9_tried 149 = .ok (.getfield 21, 3) := by decide +kernel
theorem dX9_tried_152 : decode cX9_tried 152 = .ok (.iload_n 3, 1) := by decide +kernel
theorem dX9_tried_153 : decode cX9_tried 153 = .ok (.invokevirtual 236, 3) := by decide +kernel
theorem dX9_tried_156 : decode cX9_tried 156 = .ok (.aload_n 0, 1) := by decide +kernel
theorem dX9_tried_157 : decode cX9_tried 157 = .ok (.getfield 32, 3) := by decide +kernel
theorem dX9_tried_160 : decode cX9_tried 160 = .ok (.aload_n 0, 1) := by decide +kernel
theorem dX9_tried_161 : decode cX9_tried 161 = .ok (.getfield 21, 3) := by decide +kernel
theorem dX9_tried_164 : decode cX9_tried 164 = .ok (.iconst 1, 1) := by decide +kernel
theorem dX9_tried_165 : decode cX9_tried 165 = .ok (.invokevirtual 248, 3) := by decide +kernel
theorem dX9_tried_168 : decode cX9_tried 168 = .ok (.aload_n 0, 1) := by decide +kernel
theorem dX9_tried_169 : decode cX9_tried 169 = .ok (.getfield 28, 3) := by decide +kernel
theorem dX9_tried_172 : decode cX9_tried 172 = .ok (.aload_n 0, 1) := by decide +kernel
theorem dX9_tried_173 : decode cX9_tried 173 = .ok (.getfield 21, 3) := by decide +kernel
theorem dX9_tried_176 : decode cX9_tried 176 = .ok (.iconst 1, 1) := by decide +kernel
theorem dX9_tried_177 : decode cX9_tried 177 = .ok (.invokevirtual 248, 3) := by decide +kernel
theorem dX9_tried_180 : decode cX9_tried 180 = .ok (.isub, 1) := by decide +kernel
theorem dX9_tried_181 : decode cX9_tried 181 = .ok (.ireturn, 1) := by decide +kernel
theorem dX9_undo_0 : decode cX9_undo 0 = .ok (.aload_n 0, 1) := by decide +kernel
theorem dX9_undo_1 : decode cX9_undo 1 = .ok (.getfield 41, 3) := by decide +kernel
theorem dX9_undo_4 : decode cX9_undo 4 = .ok (.getfield 101, 3) := by decide +kernel
theorem dX9_undo_7 : decode cX9_undo 7 = .ok (.iconst 1, 1) := by decide +kernel
theorem dX9_undo_8 : decode cX9_undo 8 = .ok (.if_icmp .lt 15, 3) := by decide +kernel
theorem dX9_undo_11 : decode cX9_undo 11 = .ok (.aload_n 0, 1) := by decide +kernel
theorem dX9_undo_12 : decode cX9_undo 12 = .ok (.getfield 41, 3) := by decide +kernel
theorem dX9_undo_15 : decode cX9_undo 15 = .ok (.getfield 101, 3) := by decide +kernel
theorem dX9_undo_18 : decode cX9_undo 18 = .ok (.bipush 20, 2) := by decide +kernel
theorem dX9_undo_20 : decode cX9_undo 20 = .ok (.if_icmp .le 5, 3) := by decide +kernel
theorem dX9_undo_23 : decode cX9_undo 23 = .ok (.iconst (-1), 1) := by decide +kernel
theorem dX9_undo_24 : decode cX9_undo 24 = .ok (.ireturn, 1) := by decide +kernel
theorem dX9_undo_25 : decode cX9_undo 25 = .ok (.aload_n 0, 1) := by decide +kernel
theorem dX9_undo_26 : decode cX9_undo 26 = .ok (.getfield 41, 3) := by decide +kernel
theorem dX9_undo_29 : decode cX9_undo 29 = .ok (.dup, 1) := by decide +kernel
theorem dX9_undo_30 : decode cX9_undo 30 = .ok (.getfield 101, 3) := by decide +kernel
theorem dX9_undo_33 : decode cX9_undo 33 = .ok (.iconst 1, 1) := by decide +kernel
theorem dX9_undo_34 : decode cX9_undo 34 = .ok (.isub, 1) := by decide +kernel
theorem dX9_undo_35 : decode cX9_undo 35 = .ok (.putfield 101, 3) := by decide +kernel
theorem dX9_undo_38 : decode cX9_undo 38 = .ok (.aload_n 0, 1) := by decide +kernel
theorem dX9_undo_39 : decode cX9_undo 39 = .ok (.getfield 41, 3) := by decide +kernel
theorem dX9_undo_42 : decode cX9_undo 42 = .ok (.getfield 340, 3) := by decide +kernel
theorem dX9_undo_45 : decode cX9_undo 45 = .ok (.aload_n 0, 1) := by decide +kernel
theorem dX9_undo_46 : decode cX9_undo 46 = .ok (.getfield 41, 3) := by decide +kernel
theorem dX9_undo_49 : decode cX9_undo 49 = .ok (.getfield 101, 3) := by decide +kernel
theorem dX9_undo_52 : decode cX9_undo 52 = .ok (.iaload, 1) := by decide +kernel
theorem dX9_undo_53 : decode cX9_undo 53 = .ok (.istore_n 1, 1) := by decide +kernel
theorem dX9_undo_54 : decode cX9_undo 54 = .ok (.aload_n 0, 1) := by decide +kernel
theorem dX9_undo_55 : decode cX9_undo 55 = .ok (.getfield 41, 3) := by decide +kernel
theorem dX9_undo_58 : decode cX9_undo 58 = .ok (.getfield 343, 3) := by decide +kernel
theorem dX9_undo_61 : decode cX9_undo 61 = .ok (.aload_n 0, 1) := by decide +kernel
theorem dX9_undo_62 : decode cX9_undo 62 = .ok (.getfield 41, 3) := by decide +kernel
theorem dX9_undo_65 : decode cX9_undo 65 = .ok (.getfield 101, 3) := by decide +kernel
theorem dX9_undo_68 : decode cX9_undo 68 = .ok (.iaload, 1) := by decide +kernel
theorem dX9_undo_69 : decode cX9_undo 69 = .ok (.istore_n 2, 1) := by decide +kernel
theorem dX9_undo_70 : decode cX9_undo 70 = .ok (.aload_n 0, 1) := by decide +kernel
theorem dX9_undo_71 : decode cX9_undo 71 = .ok (.getfield 41, 3) := by decide +kernel
theorem dX9_undo_74 : decode cX9_undo 74 = .ok (.getfield 346, 3) := by decide +kernel
theorem dX9_undo_77 : decode cX9_undo 77 = .ok (.aload_n 0, 1) := by decide +kernel
theorem dX9_undo_78 : decode cX9_undo 78 = .ok (.getfield 41, 3) := by decide +kernel
theorem dX9_undo_81 : decode cX9_undo 81 = .ok (.getfield 101, 3) := by decide +kernel
theorem dX9_undo_84 : decode cX9_undo 84 = .ok (.iaload, 1) := by decide +kernel
theorem dX9_undo_85 : decode cX9_undo 85 = .ok (.tableswitch 84 0 2 #[27, 45, 71], 27) := by decide +kernel
theorem dX9_undo_112 : decode cX9_undo 112 = .ok (.aload_n 0, 1) := by decide +kernel
theorem dX9_undo_113 : decode cX9_undo 113 = .ok (.getfield 28, 3) := by decide +kernel
theorem dX9_undo_116 : decode cX9_undo 116 = .ok (.dup, 1) := by decide +kernel
theorem dX9_undo_117 : decode cX9_undo 117 = .ok (.getfield 172, 3) := by decide +kernel
theorem dX9_undo_120 : decode cX9_undo 120 = .ok (.iconst 1, 1) := by decide +kernel
theorem dX9_undo_121 : decode cX9_undo 121 = .ok (.iload_n 1, 1) := by decide +kernel
theorem dX9_undo_122 : decode cX9_undo 122 = .ok (.ishl, 1) := by decide +kernel
theorem dX9_undo_123 : decode cX9_undo 123 = .ok (.ixor, 1) := by decide +kernel
theorem dX9_undo_124 : decode cX9_undo 124 = .ok (.putfield 172, 3) := by decide +kernel
theorem dX9_undo_127 : decode cX9_undo 127 = .ok (.goto 55, 3) := by decide +kernel
theorem dX9_undo_130 : decode cX9_undo 130 = .ok (.aload_n 0, 1) := by decide +kernel
theorem dX9_undo_131 : decode cX9_undo 131 = .ok (.getfield 28, 3) := by decide +kernel
theorem dX9_undo_134 : decode cX9_undo 134 = .ok (.iload_n 1, 1) := by decide +kernel
theorem dX9_undo_135 : decode cX9_undo 135 = .ok (.iload_n 2, 1) := by decide +kernel
theorem dX9_undo_136 : decode cX9_undo 136 = .ok (.ineg, 1) := by decide +kernel
theorem dX9_undo_137 : decode cX9_undo 137 = .ok (.aload_n 0, 1) := by decide +kernel
theorem dX9_undo_138 : decode cX9_undo 138 = .ok (.getfield 21, 3) := by decide +kernel
theorem dX9_undo_141 : decode cX9_undo 141 = .ok (.getfield 216, 3) := by decide +kernel
theorem dX9_undo_144 : decode cX9_undo 144 = .ok (.ineg, 1) := by decide +kernel
theorem dX9_undo_145 : decode cX9_undo 145 = .ok (.iload_n 2, 1) := by decide +kernel
theorem dX9_undo_146 : decode cX9_undo 146 = .ok (.invokestatic 219, 3) := by decide +kernel
theorem dX9_undo_149 : decode cX9_undo 149 = .ok (.imul, 1) := by decide +kernel
theorem dX9_undo_150 : decode cX9_undo 150 = .ok (.invokevirtual 227, 3) := by decide +kernel
theorem dX9_undo_153 : decode cX9_undo 153 = .ok (.goto 29, 3) := by decide +kernel
theorem dX9_undo_156 : decode cX9_undo 156 = .ok (.aload_n 0, 1) := by decide +kernel
theorem dX9_undo_157 : decode cX9_undo 157 = .ok (.getfield 28, 3) := by decide +kernel
theorem dX9_undo_160 : decode cX9_undo 160 = .ok (.getfield 136, 3) := by decide +kernel
theorem dX9_undo_163 : decode cX9_undo 163 = .ok (.iload_n 1, 1) := by decide +kernel
theorem dX9_undo_164 : decode cX9_undo 164 = .ok (.iload_n 2, 1) := by decide +kernel
theorem dX9_undo_165 : decode cX9_undo 165 = .ok (.iastore, 1) := by decide +kernel
theorem dX9_undo_166 : decode cX9_undo 166 = .ok (.goto 16, 3) := by decide +kernel
theorem dX9_undo_169 : decode cX9_undo 169 = .ok (.aload_n 0, 1) := by decide +kernel
theorem dX9_undo_170 : decode cX9_undo 170 = .ok (.getfield 28, 3) := by decide +kernel
theorem dX9_undo_173 : decode cX9_undo 173 = .ok (.dup, 1) := by decide +kernel
theorem dX9_undo_174 : decode cX9_undo 174 = .ok (.getfield 224, 3) := by decide +kernel
theorem dX9_undo_177 : decode cX9_undo 177 = .ok (.iload_n 2, 1) := by decide +kernel
theorem dX9_undo_178 : decode cX9_undo 178 = .ok (.isub, 1) := by decide +kernel
theorem dX9_undo_179 : decode cX9_undo 179 = .ok (.putfield 224, 3) := by decide +kernel
theorem dX9_undo_182 : decode cX9_undo 182 = .ok (.aload_n 0, 1) := by decide +kernel
theorem dX9_undo_183 : decode cX9_undo 183 = .ok (.getfield 41, 3) := by decide +kernel
theorem dX9_undo_186 : decode cX9_undo 186 = .ok (.getfield 101, 3) := by decide +kernel
theorem dX9_undo_189 : decode cX9_undo 189 = .ok (.ireturn, 1) := by decide +kernel
theorem dX9_keep_0 : decode cX9_keep 0 = .ok (.aload_n 0, 1) := by decide +kernel
theorem dX9_keep_1 : decode cX9_keep 1 = .ok (.getfield 35, 3) := by decide +kernel
theorem dX9_keep_4 : decode cX9_keep 4 = .ok (.aload_n 0, 1) := by decide +kernel
theorem dX9_keep_5 : decode cX9_keep 5 = .ok (.getfield 28, 3) := by decide +kernel
theorem dX9_keep_8 : decode cX9_keep 8 = .ok (.invokevirtual 240, 3) := by decide +kernel
theorem dX9_keep_11 : decode cX9_keep 11 = .ok (.aload_n 0, 1) := by decide +kernel
theorem dX9_keep_12 : decode cX9_keep 12 = .ok (.iconst 1, 1) := by decide +kernel
theorem dX9_keep_13 : decode cX9_keep 13 = .ok (.putfield 107, 3) := by decide +kernel
theorem dX9_keep_16 : decode cX9_keep 16 = .ok (.aload_n 0, 1) := by decide +kernel
theorem dX9_keep_17 : decode cX9_keep 17 = .ok (.getfield 28, 3) := by decide +kernel
theorem dX9_keep_20 : decode cX9_keep 20 = .ok (.getfield 230, 3) := by decide +kernel
theorem dX9_keep_23 : decode cX9_keep 23 = .ok (.ireturn, 1) := by decide +kernel
theorem dX9_back_0 : decode cX9_back 0 = .ok (.aload_n 0, 1) := by decide +kernel
theorem dX9_back_1 : decode cX9_back 1 = .ok (.getfield 107, 3) := by decide +kernel
theorem dX9_back_4 : decode cX9_back 4 = .ok (.ifCond .ne 5, 3) := by decide +kernel
theorem dX9_back_7 : decode cX9_back 7 = .ok (.iconst (-1), 1) := by decide +kernel
theorem dX9_back_8 : decode cX9_back 8 = .ok (.ireturn, 1) := by decide +kernel
theorem dX9_back_9 : decode cX9_back 9 = .ok (.aload_n 0, 1) := by decide +kernel
theorem dX9_back_10 : decode cX9_back 10 = .ok (.getfield 28, 3) := by decide +kernel
theorem dX9_back_13 : decode cX9_back 13 = .ok (.aload_n 0, 1) := by decide +kernel
theorem dX9_back_14 : decode cX9_back 14 = .ok (.getfield 35, 3) := by decide +kernel
theorem dX9_back_17 : decode cX9_back 17 = .ok (.invokevirtual 240, 3) := by decide +kernel
theorem dX9_back_20 : decode cX9_back 20 = .ok (.aload_n 0, 1) := by decide +kernel
theorem dX9_back_21 : decode cX9_back 21 = .ok (.getfield 41, 3) := by decide +kernel
theorem dX9_back_24 : decode cX9_back 24 = .ok (.iconst 0, 1) := by decide +kernel
theorem dX9_back_25 : decode cX9_back 25 = .ok (.putfield 101, 3) := by decide +kernel
theorem dX9_back_28 : decode cX9_back 28 = .ok (.aload_n 0, 1) := by decide +kernel
theorem dX9_back_29 : decode cX9_back 29 = .ok (.getfield 28, 3) := by decide +kernel
theorem dX9_back_32 : decode cX9_back 32 = .ok (.getfield 230, 3) := by decide +kernel
theorem dX9_back_35 : decode cX9_back 35 = .ok (.ireturn, 1) := by decide +kernel
theorem dX9_count_0 : decode cX9_count 0 = .ok (.iload_n 1, 1) := by decide +kernel
theorem dX9_count_1 : decode cX9_count 1 = .ok (.tableswitch 218 0 14 #[75, 83, 91, 102, 110, 121, 129, 137, 145, 158, 171, 183, 194, 202, 210], 75) := by decide +kernel
theorem dX9_count_76 : decode cX9_count 76 = .ok (.aload_n 0, 1) := by decide +kernel
theorem dX9_count_77 : decode cX9_count 77 = .ok (.getfield 21, 3) := by decide +kernel
theorem dX9_count_80 : decode cX9_count 80 = .ok (.getfield 254, 3) := by decide +kernel
theorem dX9_count_83 : decode cX9_count 83 = .ok (.ireturn, 1) := by decide +kernel
theorem dX9_count_84 : decode cX9_count 84 = .ok (.aload_n 0, 1) := by decide +kernel
theorem dX9_count_85 : decode cX9_count 85 = .ok (.getfield 21, 3) := by decide +kernel
theorem dX9_count_88 : decode cX9_count 88 = .ok (.getfield 349, 3) := by decide +kernel
theorem dX9_count_91 : decode cX9_count 91 = .ok (.ireturn, 1) := by decide +kernel
theorem dX9_count_92 : decode cX9_count 92 = .ok (.aload_n 0, 1) := by decide +kernel
theorem dX9_count_93 : decode cX9_count 93 = .ok (.getfield 21, 3) := by decide +kernel
theorem dX9_count_96 : decode cX9_count 96 = .ok (.getfield 165, 3) := by decide +kernel
theorem dX9_count_99 : decode cX9_count 99 = .ok (.invokestatic 276, 3) := by decide +kernel
theorem dX9_count_102 : decode cX9_count 102 = .ok (.ireturn, 1) := by decide +kernel
theorem dX9_count_103 : decode cX9_count 103 = .ok (.aload_n 0, 1) := by decide +kernel
theorem dX9_count_104 : decode cX9_count 104 = .ok (.getfield 21, 3) := by decide +kernel
theorem dX9_count_107 : decode cX9_count 107 = .ok (.getfield 352, 3) := by decide +kernel
theorem dX9_count_110 : decode cX9_count 110 = .ok (.ireturn, 1) := by decide +kernel
theorem dX9_count_111 : decode cX9_count 111 = .ok (.aload_n 0, 1) := by decide +kernel
theorem dX9_count_112 : decode cX9_count 112 = .ok (.getfield 21, 3) := by decide +kernel
theorem dX9_count_115 : decode cX9_count 115 = .ok (.getfield 355, 3) := by decide +kernel
theorem dX9_count_118 : decode cX9_count 118 = .ok (.getfield 359, 3) := by decide +kernel
theorem dX9_count_121 : decode cX9_count 121 = .ok (.ireturn, 1) := by decide +kernel
theorem dX9_count_122 : decode cX9_count 122 = .ok (.aload_n 0, 1) := by decide +kernel
theorem dX9_count_123 : decode cX9_count 123 = .ok (.getfield 28, 3) := by decide +kernel
theorem dX9_count_126 : decode cX9_count 126 = .ok (.getfield 230, 3) := by decide +kernel
theorem dX9_count_129 : decode cX9_count 129 = .ok (.ireturn, 1) := by decide +kernel
theorem dX9_count_130 : decode cX9_count 130 = .ok (.aload_n 0, 1) := by decide +kernel
theorem dX9_count_131 : decode cX9_count 131 = .ok (.getfield 28, 3) := by decide +kernel
theorem dX9_count_134 : decode cX9_count 134 = .ok (.getfield 224, 3) := by decide +kernel
theorem dX9_count_137 : decode cX9_count 137 = .ok (.ireturn, 1) := by decide +kernel
theorem dX9_count_138 : decode cX9_count 138 = .ok (.aload_n 0, 1) := by decide +kernel
theorem dX9_count_139 : decode cX9_count 139 = .ok (.getfield 28, 3) := by decide +kernel
theorem dX9_count_142 : decode cX9_count 142 = .ok (.getfield 364, 3) := by decide +kernel
theorem dX9_count_145 : decode cX9_count 145 = .ok (.ireturn, 1) := by decide +kernel
theorem dX9_count_146 : decode cX9_count 146 = .ok (.aload_n 0, 1) := by decide +kernel
theorem dX9_count_147 : decode cX9_count 147 = .ok (.getfield 28, 3) := by decide +kernel
theorem dX9_count_150 : decode cX9_count 150 = .ok (.aload_n 0, 1) := by decide +kernel
theorem dX9_count_151 : decode cX9_count 151 = .ok (.getfield 21, 3) := by decide +kernel
theorem dX9_count_154 : decode cX9_count 154 = .ok (.iconst 1, 1) := by decide +kernel
theorem dX9_count_155 : decode cX9_count 155 = .ok (.invokevirtual 248, 3) := by decide +kernel
theorem dX9_count_158 : decode cX9_count 158 = .ok (.ireturn, 1) := by decide +kernel
theorem dX9_count_159 : decode cX9_count 159 = .ok (.aload_n 0, 1) := by decide +kernel
theorem dX9_count_160 : decode cX9_count 160 = .ok (.getfield 28, 3) := by decide +kernel
theorem dX9_count_163 : decode cX9_count 163 = .ok (.aload_n 0, 1) := by decide +kernel
theorem dX9_count_164 : decode cX9_count 164 = .ok (.getfield 21, 3) := by decide +kernel
theorem dX9_count_167 : decode cX9_count 167 = .ok (.iconst 0, 1) := by decide +kernel
theorem dX9_count_168 : decode cX9_count 168 = .ok (.invokevirtual 248, 3) := by decide +kernel
theorem dX9_count_171 : decode cX9_count 171 = .ok (.ireturn, 1) := by decide +kernel
theorem dX9_count_172 : decode cX9_count 172 = .ok (.aload_n 0, 1) := by decide +kernel
theorem dX9_count_173 : decode cX9_count 173 = .ok (.getfield 28, 3) := by decide +kernel
theorem dX9_count_176 : decode cX9_count 176 = .ok (.aload_n 0, 1) := by decide +kernel
theorem dX9_count_177 : decode cX9_count 177 = .ok (.getfield 21, 3) := by decide +kernel
theorem dX9_count_180 : decode cX9_count 180 = .ok (.invokevirtual 244, 3) := by decide +kernel
theorem dX9_count_183 : decode cX9_count 183 = .ok (.ireturn, 1) := by decide +kernel
theorem dX9_count_184 : decode cX9_count 184 = .ok (.aload_n 0, 1) := by decide +kernel
theorem dX9_count_185 : decode cX9_count 185 = .ok (.getfield 28, 3) := by decide +kernel
theorem dX9_count_188 : decode cX9_count 188 = .ok (.getfield 172, 3) := by decide +kernel
theorem dX9_count_191 : decode cX9_count 191 = .ok (.invokestatic 276, 3) := by decide +kernel
theorem dX9_count_194 : decode cX9_count 194 = .ok (.ireturn, 1) := by decide +kernel
theorem dX9_count_195 : decode cX9_count 195 = .ok (.aload_n 0, 1) := by decide +kernel
theorem dX9_count_196 : decode cX9_count 196 = .ok (.getfield 48, 3) := by decide +kernel
theorem dX9_count_199 : decode cX9_count 199 = .ok (.getfield 312, 3) := by decide +kernel
theorem dX9_count_202 : decode cX9_count 202 = .ok (.ireturn, 1) := by decide +kernel
theorem dX9_count_203 : decode cX9_count 203 = .ok (.aload_n 0, 1) := by decide +kernel
theorem dX9_count_204 : decode cX9_count 204 = .ok (.getfield 48, 3) := by decide +kernel
theorem dX9_count_207 : decode cX9_count 207 = .ok (.invokevirtual 367, 3) := by decide +kernel
theorem dX9_count_210 : decode cX9_count 210 = .ok (.ireturn, 1) := by decide +kernel
theorem dX9_count_211 : decode cX9_count 211 = .ok (.aload_n 0, 1) := by decide +kernel
theorem dX9_count_212 : decode cX9_count 212 = .ok (.getfield 41, 3) := by decide +kernel
theorem dX9_count_215 : decode cX9_count 215 = .ok (.getfield 101, 3) := by decide +kernel
theorem dX9_count_218 : decode cX9_count 218 = .ok (.ireturn, 1) := by decide +kernel
theorem dX9_count_219 : decode cX9_count 219 = .ok (.iconst (-1), 1) := by decide +kernel
theorem dX9_count_220 : decode cX9_count 220 = .ok (.ireturn, 1) := by decide +kernel
theorem dX9_isFork_0 : decode cX9_isFork 0 = .ok (.iload_n 1, 1) := by decide +kernel
theorem dX9_isFork_1 : decode cX9_isFork 1 = .ok (.ifCond .lt 18, 3) := by decide +kernel
theorem dX9_isFork_4 : decode cX9_isFork 4 = .ok (.iload_n 1, 1) := by decide +kernel
theorem dX9_isFork_5 : decode cX9_isFork 5 = .ok (.aload_n 0, 1) := by decide +kernel
theorem dX9_isFork_6 : decode cX9_isFork 6 = .ok (.getfield 21, 3) := by decide +kernel
theorem dX9_isFork_9 : decode cX9_isFork 9 = .ok (.getfield 254, 3) := by decide +kernel
theorem dX9_isFork_12 : decode cX9_isFork 12 = .ok (.if_icmp .ge 7, 3) := by decide +kernel
theorem dX9_isFork_15 : decode cX9_isFork 15 = .ok (.iconst 1, 1) := by decide +kernel
theorem dX9_isFork_16 : decode cX9_isFork 16 = .ok (.goto 4, 3) := by decide +kernel
theorem dX9_isFork_19 : decode cX9_isFork 19 = .ok (.iconst 0, 1) := by decide +kernel
theorem dX9_isFork_20 : decode cX9_isFork 20 = .ok (.ireturn, 1) := by decide +kernel
theorem dX9_isMotion_0 : decode cX9_isMotion 0 = .ok (.iload_n 1, 1) := by decide +kernel
theorem dX9_isMotion_1 : decode cX9_isMotion 1 = .ok (.ifCond .lt 18, 3) := by decide +kernel
theorem dX9_isMotion_4 : decode cX9_isMotion 4 = .ok (.iload_n 1, 1) := by decide +kernel
theorem dX9_isMotion_5 : decode cX9_isMotion 5 = .ok (.aload_n 0, 1) := by decide +kernel
theorem dX9_isMotion_6 : decode cX9_isMotion 6 = .ok (.getfield 21, 3) := by decide +kernel
theorem dX9_isMotion_9 : decode cX9_isMotion 9 = .ok (.getfield 349, 3) := by decide +kernel
theorem dX9_isMotion_12 : decode cX9_isMotion 12 = .ok (.if_icmp .ge 7, 3) := by decide +kernel
theorem dX9_isMotion_15 : decode cX9_isMotion 15 = .ok (.iconst 1, 1) := by decide +kernel
theorem dX9_isMotion_16 : decode cX9_isMotion 16 = .ok (.goto 4, 3) := by decide +kernel
theorem dX9_isMotion_19 : decode cX9_isMotion 19 = .ok (.iconst 0, 1) := by decide +kernel
theorem dX9_isMotion_20 : decode cX9_isMotion 20 = .ok (.ireturn, 1) := by decide +kernel
theorem dX9_arePair_0 : decode cX9_arePair 0 = .ok (.aload_n 0, 1) := by decide +kernel
theorem dX9_arePair_1 : decode cX9_arePair 1 = .ok (.iload_n 1, 1) := by decide +kernel
theorem dX9_arePair_2 : decode cX9_arePair 2 = .ok (.invokevirtual 150, 3) := by decide +kernel
theorem dX9_arePair_5 : decode cX9_arePair 5 = .ok (.ifCond .eq 20, 3) := by decide +kernel
theorem dX9_arePair_8 : decode cX9_arePair 8 = .ok (.aload_n 0, 1) := by decide +kernel
theorem dX9_arePair_9 : decode cX9_arePair 9 = .ok (.iload_n 2, 1) := by decide +kernel
theorem dX9_arePair_10 : decode cX9_arePair 10 = .ok (.invokevirtual 150, 3) := by decide +kernel
theorem dX9_arePair_13 : decode cX9_arePair 13 = .ok (.ifCond .eq 12, 3) := by decide +kernel
theorem dX9_arePair_16 : decode cX9_arePair 16 = .ok (.iload_n 1, 1) := by decide +kernel
theorem dX9_arePair_17 : decode cX9_arePair 17 = .ok (.iload_n 2, 1) := by decide +kernel
theorem dX9_arePair_18 : decode cX9_arePair 18 = .ok (.if_icmp .eq 7, 3) := by decide +kernel
theorem dX9_arePair_21 : decode cX9_arePair 21 = .ok (.iconst 1, 1) := by decide +kernel
theorem dX9_arePair_22 : decode cX9_arePair 22 = .ok (.goto 4, 3) := by decide +kernel
theorem dX9_arePair_25 : decode cX9_arePair 25 = .ok (.iconst 0, 1) := by decide +kernel
theorem dX9_arePair_26 : decode cX9_arePair 26 = .ok (.ireturn, 1) := by decide +kernel
theorem dX9_isSpan_0 : decode cX9_isSpan 0 = .ok (.iload_n 0, 1) := by decide +kernel
theorem dX9_isSpan_1 : decode cX9_isSpan 1 = .ok (.ifCond .lt 13, 3) := by decide +kernel
theorem dX9_isSpan_4 : decode cX9_isSpan 4 = .ok (.iload_n 0, 1) := by decide +kernel
theorem dX9_isSpan_5 : decode cX9_isSpan 5 = .ok (.bipush 99, 2) := by decide +kernel
theorem dX9_isSpan_7 : decode cX9_isSpan 7 = .ok (.if_icmp .gt 7, 3) := by decide +kernel
theorem dX9_isSpan_10 : decode cX9_isSpan 10 = .ok (.iconst 1, 1) := by decide +kernel
theorem dX9_isSpan_11 : decode cX9_isSpan 11 = .ok (.goto 4, 3) := by decide +kernel
theorem dX9_isSpan_14 : decode cX9_isSpan 14 = .ok (.iconst 0, 1) := by decide +kernel
theorem dX9_isSpan_15 : decode cX9_isSpan 15 = .ok (.ireturn, 1) := by decide +kernel
theorem dX9_isNote_0 : decode cX9_isNote 0 = .ok (.iload_n 0, 1) := by decide +kernel
theorem dX9_isNote_1 : decode cX9_isNote 1 = .ok (.bipush 100, 2) := by decide +kernel
theorem dX9_isNote_3 : decode cX9_isNote 3 = .ok (.if_icmp .lt 14, 3) := by decide +kernel
theorem dX9_isNote_6 : decode cX9_isNote 6 = .ok (.iload_n 0, 1) := by decide +kernel
theorem dX9_isNote_7 : decode cX9_isNote 7 = .ok (.sipush 999, 3) := by decide +kernel
theorem dX9_isNote_10 : decode cX9_isNote 10 = .ok (.if_icmp .gt 7, 3) := by decide +kernel
theorem dX9_isNote_13 : decode cX9_isNote 13 = .ok (.iconst 1, 1) := by decide +kernel
theorem dX9_isNote_14 : decode cX9_isNote 14 = .ok (.goto 4, 3) := by decide +kernel
theorem dX9_isNote_17 : decode cX9_isNote 17 = .ok (.iconst 0, 1) := by decide +kernel
theorem dX9_isNote_18 : decode cX9_isNote 18 = .ok (.ireturn, 1) := by decide +kernel
theorem dX9_bitOf_0 : decode cX9_bitOf 0 = .ok (.iload_n 0, 1) := by decide +kernel
theorem dX9_bitOf_1 : decode cX9_bitOf 1 = .ok (.iload_n 1, 1) := by decide +kernel
theorem dX9_bitOf_2 : decode cX9_bitOf 2 = .ok (.ishr, 1) := by decide +kernel
theorem dX9_bitOf_3 : decode cX9_bitOf 3 = .ok (.iconst 1, 1) := by decide +kernel
theorem dX9_bitOf_4 : decode cX9_bitOf 4 = .ok (.iand, 1) := by decide +kernel
theorem dX9_bitOf_5 : decode cX9_bitOf 5 = .ok (.ireturn, 1) := by decide +kernel
theorem dX9_within_0 : decode cX9_within 0 = .ok (.iload_n 2, 1) := by decide +kernel
theorem dX9_within_1 : decode cX9_within 1 = .ok (.i2l, 1) := by decide +kernel
theorem dX9_within_2 : decode cX9_within 2 = .ok (.iload_n 3, 1) := by decide +kernel
theorem dX9_within_3 : decode cX9_within 3 = .ok (.i2l, 1) := by decide +kernel
theorem dX9_within_4 : decode cX9_within 4 = .ok (.lload_n 0, 1) := by decide +kernel
theorem dX9_within_5 : decode cX9_within 5 = .ok (.invokestatic 371, 3) := by decide +kernel
theorem dX9_within_8 : decode cX9_within 8 = .ok (.invokestatic 375, 3) := by decide +kernel
theorem dX9_within_11 : decode cX9_within 11 = .ok (.l2i, 1) := by decide +kernel
theorem dX9_within_12 : decode cX9_within 12 = .ok (.ireturn, 1) := by decide +kernel
