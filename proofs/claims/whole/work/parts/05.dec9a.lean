theorem dX9_init_0 : decode cX9_init 0 = .ok (.aload_n 0, 1) := by decide +kernel
theorem dX9_init_1 : decode cX9_init 1 = .ok (.invokespecial 3, 3) := by decide +kernel
theorem dX9_init_4 : decode cX9_init 4 = .ok (.aload_n 0, 1) := by decide +kernel
theorem dX9_init_5 : decode cX9_init 5 = .ok (.sipush 242, 3) := by decide +kernel
theorem dX9_init_8 : decode cX9_init 8 = .ok (.newarray .int, 2) := by decide +kernel
theorem dX9_init_10 : decode cX9_init 10 = .ok (.putfield 9, 3) := by decide +kernel
theorem dX9_init_13 : decode cX9_init 13 = .ok (.aload_n 0, 1) := by decide +kernel
theorem dX9_init_14 : decode cX9_init 14 = .ok (.sipush 242, 3) := by decide +kernel
theorem dX9_init_17 : decode cX9_init 17 = .ok (.newarray .int, 2) := by decide +kernel
theorem dX9_init_19 : decode cX9_init 19 = .ok (.putfield 13, 3) := by decide +kernel
theorem dX9_init_22 : decode cX9_init 22 = .ok (.aload_n 0, 1) := by decide +kernel
theorem dX9_init_23 : decode cX9_init 23 = .ok (.sipush 242, 3) := by decide +kernel
theorem dX9_init_26 : decode cX9_init 26 = .ok (.newarray .int, 2) := by decide +kernel
theorem dX9_init_28 : decode cX9_init 28 = .ok (.putfield 16, 3) := by decide +kernel
theorem dX9_init_31 : decode cX9_init 31 = .ok (.aload_n 0, 1) := by decide +kernel
theorem dX9_init_32 : decode cX9_init 32 = .ok (.bipush 6, 2) := by decide +kernel
theorem dX9_init_34 : decode cX9_init 34 = .ok (.newarray .int, 2) := by decide +kernel
theorem dX9_init_36 : decode cX9_init 36 = .ok (.putfield 19, 3) := by decide +kernel
theorem dX9_init_39 : decode cX9_init 39 = .ok (.aload_n 0, 1) := by decide +kernel
theorem dX9_init_40 : decode cX9_init 40 = .ok (.sipush 8000, 3) := by decide +kernel
theorem dX9_init_43 : decode cX9_init 43 = .ok (.newarray .int, 2) := by decide +kernel
theorem dX9_init_45 : decode cX9_init 45 = .ok (.putfield 22, 3) := by decide +kernel
theorem dX9_init_48 : decode cX9_init 48 = .ok (.aload_n 0, 1) := by decide +kernel
theorem dX9_init_49 : decode cX9_init 49 = .ok (.iconst 2, 1) := by decide +kernel
theorem dX9_init_50 : decode cX9_init 50 = .ok (.anewarray 25, 3) := by decide +kernel
theorem dX9_init_53 : decode cX9_init 53 = .ok (.dup, 1) := by decide +kernel
theorem dX9_init_54 : decode cX9_init 54 = .ok (.iconst 0, 1) := by decide +kernel
theorem dX9_init_55 : decode cX9_init 55 = .ok (.ldc 27, 2) := by decide +kernel
theorem dX9_init_57 : decode cX9_init 57 = .ok (.aastore, 1) := by decide +kernel
theorem dX9_init_58 : decode cX9_init 58 = .ok (.dup, 1) := by decide +kernel
theorem dX9_init_59 : decode cX9_init 59 = .ok (.iconst 1, 1) := by decide +kernel
theorem dX9_init_60 : decode cX9_init 60 = .ok (.ldc 29, 2) := by decide +kernel
theorem dX9_init_62 : decode cX9_init 62 = .ok (.aastore, 1) := by decide +kernel
theorem dX9_init_63 : decode cX9_init 63 = .ok (.putfield 31, 3) := by decide +kernel
theorem dX9_init_66 : decode cX9_init 66 = .ok (.aload_n 0, 1) := by decide +kernel
theorem dX9_init_67 : decode cX9_init 67 = .ok (.bipush 60, 2) := by decide +kernel
theorem dX9_init_69 : decode cX9_init 69 = .ok (.newarray .int, 2) := by decide +kernel
theorem dX9_init_71 : decode cX9_init 71 = .ok (.putfield 35, 3) := by decide +kernel
theorem dX9_init_74 : decode cX9_init 74 = .ok (.aload_n 0, 1) := by decide +kernel
theorem dX9_init_75 : decode cX9_init 75 = .ok (.iconst 4, 1) := by decide +kernel
theorem dX9_init_76 : decode cX9_init 76 = .ok (.newarray .int, 2) := by decide +kernel
theorem dX9_init_78 : decode cX9_init 78 = .ok (.putfield 38, 3) := by decide +kernel
theorem dX9_init_81 : decode cX9_init 81 = .ok (.aload_n 0, 1) := by decide +kernel
theorem dX9_init_82 : decode cX9_init 82 = .ok (.bipush 60, 2) := by decide +kernel
theorem dX9_init_84 : decode cX9_init 84 = .ok (.newarray .int, 2) := by decide +kernel
theorem dX9_init_86 : decode cX9_init 86 = .ok (.putfield 41, 3) := by decide +kernel
theorem dX9_init_89 : decode cX9_init 89 = .ok (.aload_n 0, 1) := by decide +kernel
theorem dX9_init_90 : decode cX9_init 90 = .ok (.bipush 40, 2) := by decide +kernel
theorem dX9_init_92 : decode cX9_init 92 = .ok (.newarray .int, 2) := by decide +kernel
theorem dX9_init_94 : decode cX9_init 94 = .ok (.putfield 44, 3) := by decide +kernel
theorem dX9_init_97 : decode cX9_init 97 = .ok (.aload_n 0, 1) := by decide +kernel
theorem dX9_init_98 : decode cX9_init 98 = .ok (.iconst 4, 1) := by decide +kernel
theorem dX9_init_99 : decode cX9_init 99 = .ok (.newarray .int, 2) := by decide +kernel
theorem dX9_init_101 : decode cX9_init 101 = .ok (.putfield 47, 3) := by decide +kernel
theorem dX9_init_104 : decode cX9_init 104 = .ok (.aload_n 0, 1) := by decide +kernel
theorem dX9_init_105 : decode cX9_init 105 = .ok (.iconst 4, 1) := by decide +kernel
theorem dX9_init_106 : decode cX9_init 106 = .ok (.newarray .int, 2) := by decide +kernel
theorem dX9_init_108 : decode cX9_init 108 = .ok (.putfield 50, 3) := by decide +kernel
theorem dX9_init_111 : decode cX9_init 111 = .ok (.aload_n 0, 1) := by decide +kernel
theorem dX9_init_112 : decode cX9_init 112 = .ok (.sipush 160, 3) := by decide +kernel
theorem dX9_init_115 : decode cX9_init 115 = .ok (.newarray .int, 2) := by decide +kernel
theorem dX9_init_117 : decode cX9_init 117 = .ok (.putfield 53, 3) := by decide +kernel
theorem dX9_init_120 : decode cX9_init 120 = .ok (.aload_n 0, 1) := by decide +kernel
theorem dX9_init_121 : decode cX9_init 121 = .ok (.bipush 40, 2) := by decide +kernel
theorem dX9_init_123 : decode cX9_init 123 = .ok (.newarray .int, 2) := by decide +kernel
theorem dX9_init_125 : decode cX9_init 125 = .ok (.putfield 56, 3) := by decide +kernel
theorem dX9_init_128 : decode cX9_init 128 = .ok (.aload_n 0, 1) := by decide +kernel
theorem dX9_init_129 : decode cX9_init 129 = .ok (.getfield 9, 3) := by decide +kernel
theorem dX9_init_132 : decode cX9_init 132 = .ok (.bipush 6, 2) := by decide +kernel
theorem dX9_init_134 : decode cX9_init 134 = .ok (.iconst 1, 1) := by decide +kernel
theorem dX9_init_135 : decode cX9_init 135 = .ok (.iastore, 1) := by decide +kernel
theorem dX9_init_136 : decode cX9_init 136 = .ok (.aload_n 0, 1) := by decide +kernel
theorem dX9_init_137 : decode cX9_init 137 = .ok (.getfield 9, 3) := by decide +kernel
theorem dX9_init_140 : decode cX9_init 140 = .ok (.iconst 3, 1) := by decide +kernel
theorem dX9_init_141 : decode cX9_init 141 = .ok (.sipush 200, 3) := by decide +kernel
theorem dX9_init_144 : decode cX9_init 144 = .ok (.iastore, 1) := by decide +kernel
theorem dX9_init_145 : decode cX9_init 145 = .ok (.aload_n 0, 1) := by decide +kernel
theorem dX9_init_146 : decode cX9_init 146 = .ok (.bipush 8, 2) := by decide +kernel
theorem dX9_init_148 : decode cX9_init 148 = .ok (.invokevirtual 59, 3) := by decide +kernel
theorem dX9_init_151 : decode cX9_init 151 = .ok (.pop, 1) := by decide +kernel
theorem dX9_init_152 : decode cX9_init 152 = .ok (.return_, 1) := by decide +kernel
theorem dX9_finding_0 : decode cX9_finding 0 = .ok (.aload_n 0, 1) := by decide +kernel
theorem dX9_finding_1 : decode cX9_finding 1 = .ok (.getfield 19, 3) := by decide +kernel
theorem dX9_finding_4 : decode cX9_finding 4 = .ok (.ldc 63, 2) := by decide +kernel
theorem dX9_finding_6 : decode cX9_finding 6 = .ok (.iload_n 1, 1) := by decide +kernel
theorem dX9_finding_7 : decode cX9_finding 7 = .ok (.isub, 1) := by decide +kernel
theorem dX9_finding_8 : decode cX9_finding 8 = .ok (.dup2, 1) := by decide +kernel
theorem dX9_finding_9 : decode cX9_finding 9 = .ok (.iaload, 1) := by decide +kernel
theorem dX9_finding_10 : decode cX9_finding 10 = .ok (.iconst 1, 1) := by decide +kernel
theorem dX9_finding_11 : decode cX9_finding 11 = .ok (.iadd, 1) := by decide +kernel
theorem dX9_finding_12 : decode cX9_finding 12 = .ok (.iastore, 1) := by decide +kernel
theorem dX9_finding_13 : decode cX9_finding 13 = .ok (.iload_n 1, 1) := by decide +kernel
theorem dX9_finding_14 : decode cX9_finding 14 = .ok (.ireturn, 1) := by decide +kernel
theorem dX9_within_0 : decode cX9_within 0 = .ok (.iload_n 0, 1) := by decide +kernel
theorem dX9_within_1 : decode cX9_within 1 = .ok (.iload_n 1, 1) := by decide +kernel
theorem dX9_within_2 : decode cX9_within 2 = .ok (.if_icmp .lt 12, 3) := by decide +kernel
theorem dX9_within_5 : decode cX9_within 5 = .ok (.iload_n 0, 1) := by decide +kernel
theorem dX9_within_6 : decode cX9_within 6 = .ok (.iload_n 2, 1) := by decide +kernel
theorem dX9_within_7 : decode cX9_within 7 = .ok (.if_icmp .gt 7, 3) := by decide +kernel
theorem dX9_within_10 : decode cX9_within 10 = .ok (.iconst 1, 1) := by decide +kernel
theorem dX9_within_11 : decode cX9_within 11 = .ok (.goto 4, 3) := by decide +kernel
theorem dX9_within_14 : decode cX9_within 14 = .ok (.iconst 0, 1) := by decide +kernel
theorem dX9_within_15 : decode cX9_within 15 = .ok (.ireturn, 1) := by decide +kernel
theorem dX9_held_0 : decode cX9_held 0 = .ok (.iload_n 1, 1) := by decide +kernel
theorem dX9_held_1 : decode cX9_held 1 = .ok (.iload_n 2, 1) := by decide +kernel
theorem dX9_held_2 : decode cX9_held 2 = .ok (.iload_n 0, 1) := by decide +kernel
theorem dX9_held_3 : decode cX9_held 3 = .ok (.invokestatic 64, 3) := by decide +kernel
theorem dX9_held_6 : decode cX9_held 6 = .ok (.invokestatic 70, 3) := by decide +kernel
theorem dX9_held_9 : decode cX9_held 9 = .ok (.ireturn, 1) := by decide +kernel
theorem dX9_copy_0 : decode cX9_copy 0 = .ok (.iconst 0, 1) := by decide +kernel
theorem dX9_copy_1 : decode cX9_copy 1 = .ok (.istore_n 2, 1) := by decide +kernel
theorem dX9_copy_2 : decode cX9_copy 2 = .ok (.iload_n 2, 1) := by decide +kernel
theorem dX9_copy_3 : decode cX9_copy 3 = .ok (.sipush 242, 3) := by decide +kernel
theorem dX9_copy_6 : decode cX9_copy 6 = .ok (.if_icmp .ge 15, 3) := by decide +kernel
theorem dX9_copy_9 : decode cX9_copy 9 = .ok (.aload_n 1, 1) := by decide +kernel
theorem dX9_copy_10 : decode cX9_copy 10 = .ok (.iload_n 2, 1) := by decide +kernel
theorem dX9_copy_11 : decode cX9_copy 11 = .ok (.aload_n 0, 1) := by decide +kernel
theorem dX9_copy_12 : decode cX9_copy 12 = .ok (.iload_n 2, 1) := by decide +kernel
theorem dX9_copy_13 : decode cX9_copy 13 = .ok (.iaload, 1) := by decide +kernel
theorem dX9_copy_14 : decode cX9_copy 14 = .ok (.iastore, 1) := by decide +kernel
theorem dX9_copy_15 : decode cX9_copy 15 = .ok (.iinc 2 1, 3) := by decide +kernel
theorem dX9_copy_18 : decode cX9_copy 18 = .ok (.goto (-16), 3) := by decide +kernel
theorem dX9_copy_21 : decode cX9_copy 21 = .ok (.return_, 1) := by decide +kernel
theorem dX9_turn_0 : decode cX9_turn 0 = .ok (.aload_n 0, 1) := by decide +kernel
theorem dX9_turn_1 : decode cX9_turn 1 = .ok (.getfield 9, 3) := by decide +kernel
theorem dX9_turn_4 : decode cX9_turn 4 = .ok (.iload_n 1, 1) := by decide +kernel
theorem dX9_turn_5 : decode cX9_turn 5 = .ok (.iaload, 1) := by decide +kernel
theorem dX9_turn_6 : decode cX9_turn 6 = .ok (.istore_n 3, 1) := by decide +kernel
theorem dX9_turn_7 : decode cX9_turn 7 = .ok (.aload_n 0, 1) := by decide +kernel
theorem dX9_turn_8 : decode cX9_turn 8 = .ok (.getfield 9, 3) := by decide +kernel
theorem dX9_turn_11 : decode cX9_turn 11 = .ok (.iload_n 1, 1) := by decide +kernel
theorem dX9_turn_12 : decode cX9_turn 12 = .ok (.iload_n 2, 1) := by decide +kernel
theorem dX9_turn_13 : decode cX9_turn 13 = .ok (.iastore, 1) := by decide +kernel
theorem dX9_turn_14 : decode cX9_turn 14 = .ok (.iload_n 3, 1) := by decide +kernel
theorem dX9_turn_15 : decode cX9_turn 15 = .ok (.ireturn, 1) := by decide +kernel
theorem dX9_putBack_0 : decode cX9_putBack 0 = .ok (.aload_n 0, 1) := by decide +kernel
theorem dX9_putBack_1 : decode cX9_putBack 1 = .ok (.getfield 16, 3) := by decide +kernel
theorem dX9_putBack_4 : decode cX9_putBack 4 = .ok (.aload_n 0, 1) := by decide +kernel
theorem dX9_putBack_5 : decode cX9_putBack 5 = .ok (.getfield 9, 3) := by decide +kernel
theorem dX9_putBack_8 : decode cX9_putBack 8 = .ok (.invokestatic 73, 3) := by decide +kernel
theorem dX9_putBack_11 : decode cX9_putBack 11 = .ok (.iload_n 1, 1) := by decide +kernel
theorem dX9_putBack_12 : decode cX9_putBack 12 = .ok (.ireturn, 1) := by decide +kernel
theorem dX9_feed_0 : decode cX9_feed 0 = .ok (.iload_n 3, 1) := by decide +kernel
theorem dX9_feed_1 : decode cX9_feed 1 = .ok (.iconst 1, 1) := by decide +kernel
theorem dX9_feed_2 : decode cX9_feed 2 = .ok (.bipush 8, 2) := by decide +kernel
theorem dX9_feed_4 : decode cX9_feed 4 = .ok (.invokestatic 77, 3) := by decide +kernel
theorem dX9_feed_7 : decode cX9_feed 7 = .ok (.ifCond .ne 10, 3) := by decide +kernel
theorem dX9_feed_10 : decode cX9_feed 10 = .ok (.aload_n 0, 1) := by decide +kernel
theorem dX9_feed_11 : decode cX9_feed 11 = .ok (.ldc 81, 2) := by decide +kernel
theorem dX9_feed_13 : decode cX9_feed 13 = .ok (.invokevirtual 82, 3) := by decide +kernel
theorem dX9_feed_16 : decode cX9_feed 16 = .ok (.ireturn, 1) := by decide +kernel
theorem dX9_feed_17 : decode cX9_feed 17 = .ok (.aload_n 0, 1) := by decide +kernel
theorem dX9_feed_18 : decode cX9_feed 18 = .ok (.getfield 9, 3) := by decide +kernel
theorem dX9_feed_21 : decode cX9_feed 21 = .ok (.bipush 7, 2) := by decide +kernel
theorem dX9_feed_23 : decode cX9_feed 23 = .ok (.iaload, 1) := by decide +kernel
theorem dX9_feed_24 : decode cX9_feed 24 = .ok (.iload_n 3, 1) := by decide +kernel
theorem dX9_feed_25 : decode cX9_feed 25 = .ok (.iadd, 1) := by decide +kernel
theorem dX9_feed_26 : decode cX9_feed 26 = .ok (.bipush 50, 2) := by decide +kernel
theorem dX9_feed_28 : decode cX9_feed 28 = .ok (.if_icmp .le 10, 3) := by decide +kernel
theorem dX9_feed_31 : decode cX9_feed 31 = .ok (.aload_n 0, 1) := by decide +kernel
theorem dX9_feed_32 : decode cX9_feed 32 = .ok (.ldc 85, 2) := by decide +kernel
theorem dX9_feed_34 : decode cX9_feed 34 = .ok (.invokevirtual 82, 3) := by decide +kernel
theorem dX9_feed_37 : decode cX9_feed 37 = .ok (.ireturn, 1) := by decide +kernel
theorem dX9_feed_38 : decode cX9_feed 38 = .ok (.iconst 0, 1) := by decide +kernel
theorem dX9_feed_39 : decode cX9_feed 39 = .ok (.istore 4, 2) := by decide +kernel
theorem dX9_feed_41 : decode cX9_feed 41 = .ok (.iload 4, 2) := by decide +kernel
theorem dX9_feed_43 : decode cX9_feed 43 = .ok (.iload_n 3, 1) := by decide +kernel
theorem dX9_feed_44 : decode cX9_feed 44 = .ok (.if_icmp .ge 47, 3) := by decide +kernel
theorem dX9_feed_47 : decode cX9_feed 47 = .ok (.aload_n 0, 1) := by decide +kernel
theorem dX9_feed_48 : decode cX9_feed 48 = .ok (.getfield 9, 3) := by decide +kernel
theorem dX9_feed_51 : decode cX9_feed 51 = .ok (.bipush 68, 2) := by decide +kernel
theorem dX9_feed_53 : decode cX9_feed 53 = .ok (.aload_n 0, 1) := by decide +kernel
theorem dX9_feed_54 : decode cX9_feed 54 = .ok (.getfield 9, 3) := by decide +kernel
theorem dX9_feed_57 : decode cX9_feed 57 = .ok (.bipush 7, 2) := by decide +kernel
theorem dX9_feed_59 : decode cX9_feed 59 = .ok (.iaload, 1) := by decide +kernel
theorem dX9_feed_60 : decode cX9_feed 60 = .ok (.iadd, 1) := by decide +kernel
theorem dX9_feed_61 : decode cX9_feed 61 = .ok (.lload_n 1, 1) := by decide +kernel
theorem dX9_feed_62 : decode cX9_feed 62 = .ok (.bipush 8, 2) := by decide +kernel
theorem dX9_feed_64 : decode cX9_feed 64 = .ok (.iload 4, 2) := by decide +kernel
theorem dX9_feed_66 : decode cX9_feed 66 = .ok (.imul, 1) := by decide +kernel
theorem dX9_feed_67 : decode cX9_feed 67 = .ok (.lshr, 1) := by decide +kernel
theorem dX9_feed_68 : decode cX9_feed 68 = .ok (.ldc2_w 86, 3) := by decide +kernel
theorem dX9_feed_71 : decode cX9_feed 71 = .ok (.land, 1) := by decide +kernel
theorem dX9_feed_72 : decode cX9_feed 72 = .ok (.l2i, 1) := by decide +kernel
theorem dX9_feed_73 : decode cX9_feed 73 = .ok (.iastore, 1) := by decide +kernel
theorem dX9_feed_74 : decode cX9_feed 74 = .ok (.aload_n 0, 1) := by decide +kernel
theorem dX9_feed_75 : decode cX9_feed 75 = .ok (.getfield 9, 3) := by decide +kernel
theorem dX9_feed_78 : decode cX9_feed 78 = .ok (.bipush 7, 2) := by decide +kernel
theorem dX9_feed_80 : decode cX9_feed 80 = .ok (.dup2, 1) := by decide +kernel
theorem dX9_feed_81 : decode cX9_feed 81 = .ok (.iaload, 1) := by decide +kernel
theorem dX9_feed_82 : decode cX9_feed 82 = .ok (.iconst 1, 1) := by decide +kernel
theorem dX9_feed_83 : decode cX9_feed 83 = .ok (.iadd, 1) := by decide +kernel
theorem dX9_feed_84 : decode cX9_feed 84 = .ok (.iastore, 1) := by decide +kernel
theorem dX9_feed_85 : decode cX9_feed 85 = .ok (.iinc 4 1, 3) := by decide +kernel
theorem dX9_feed_88 : decode cX9_feed 88 = .ok (.goto (-47), 3) := by decide +kernel
theorem dX9_feed_91 : decode cX9_feed 91 = .ok (.aload_n 0, 1) := by decide +kernel
theorem dX9_feed_92 : decode cX9_feed 92 = .ok (.getfield 9, 3) := by decide +kernel
theorem dX9_feed_95 : decode cX9_feed 95 = .ok (.bipush 7, 2) := by decide +kernel
theorem dX9_feed_97 : decode cX9_feed 97 = .ok (.iaload, 1) := by decide +kernel
theorem dX9_feed_98 : decode cX9_feed 98 = .ok (.ireturn, 1) := by decide +kernel
theorem dX9_here_0 : decode cX9_here 0 = .ok (.aload_n 0, 1) := by decide +kernel
theorem dX9_here_1 : decode cX9_here 1 = .ok (.getfield 88, 3) := by decide +kernel
theorem dX9_here_4 : decode cX9_here 4 = .ok (.ifCond .ne 32, 3) := by decide +kernel
theorem dX9_here_7 : decode cX9_here 7 = .ok (.aload_n 0, 1) := by decide +kernel
theorem dX9_here_8 : decode cX9_here 8 = .ok (.getfield 92, 3) := by decide +kernel
theorem dX9_here_11 : decode cX9_here 11 = .ok (.aload_n 0, 1) := by decide +kernel
theorem dX9_here_12 : decode cX9_here 12 = .ok (.getfield 9, 3) := by decide +kernel
theorem dX9_here_15 : decode cX9_here 15 = .ok (.bipush 7, 2) := by decide +kernel
theorem dX9_here_17 : decode cX9_here 17 = .ok (.iaload, 1) := by decide +kernel
theorem dX9_here_18 : decode cX9_here 18 = .ok (.if_icmp .ge 18, 3) := by decide +kernel
theorem dX9_here_21 : decode cX9_here 21 = .ok (.aload_n 0, 1) := by decide +kernel
theorem dX9_here_22 : decode cX9_here 22 = .ok (.getfield 9, 3) := by decide +kernel
theorem dX9_here_25 : decode cX9_here 25 = .ok (.bipush 68, 2) := by decide +kernel
theorem dX9_here_27 : decode cX9_here 27 = .ok (.aload_n 0, 1) := by decide +kernel
theorem dX9_here_28 : decode cX9_here 28 = .ok (.getfield 92, 3) := by decide +kernel
theorem dX9_here_31 : decode cX9_here 31 = .ok (.iadd, 1) := by decide +kernel
theorem dX9_here_32 : decode cX9_here 32 = .ok (.iaload, 1) := by decide +kernel
theorem dX9_here_33 : decode cX9_here 33 = .ok (.goto 4, 3) := by decide +kernel
theorem dX9_here_36 : decode cX9_here 36 = .ok (.iconst (-1), 1) := by decide +kernel
theorem dX9_here_37 : decode cX9_here 37 = .ok (.ireturn, 1) := by decide +kernel
theorem dX9_takes_0 : decode cX9_takes 0 = .ok (.aload_n 0, 1) := by decide +kernel
theorem dX9_takes_1 : decode cX9_takes 1 = .ok (.invokevirtual 96, 3) := by decide +kernel
theorem dX9_takes_4 : decode cX9_takes 4 = .ok (.iload_n 1, 1) := by decide +kernel
theorem dX9_takes_5 : decode cX9_takes 5 = .ok (.if_icmp .ne 7, 3) := by decide +kernel
theorem dX9_takes_8 : decode cX9_takes 8 = .ok (.iconst 1, 1) := by decide +kernel
theorem dX9_takes_9 : decode cX9_takes 9 = .ok (.goto 4, 3) := by decide +kernel
theorem dX9_takes_12 : decode cX9_takes 12 = .ok (.iconst 0, 1) := by decide +kernel
theorem dX9_takes_13 : decode cX9_takes 13 = .ok (.istore_n 2, 1) := by decide +kernel
theorem dX9_takes_14 : decode cX9_takes 14 = .ok (.aload_n 0, 1) := by decide +kernel
theorem dX9_takes_15 : decode cX9_takes 15 = .ok (.dup, 1) := by decide +kernel
theorem dX9_takes_16 : decode cX9_takes 16 = .ok (.getfield 92, 3) := by decide +kernel
theorem dX9_takes_19 : decode cX9_takes 19 = .ok (.iload_n 2, 1) := by decide +kernel
theorem dX9_takes_20 : decode cX9_takes 20 = .ok (.ifCond .eq 7, 3) := by decide +kernel
theorem dX9_takes_23 : decode cX9_takes 23 = .ok (.iconst 1, 1) := by decide +kernel
theorem dX9_takes_24 : decode cX9_takes 24 = .ok (.goto 4, 3) := by decide +kernel
theorem dX9_takes_27 : decode cX9_takes 27 = .ok (.iconst 0, 1) := by decide +kernel
theorem dX9_takes_28 : decode cX9_takes 28 = .ok (.iadd, 1) := by decide +kernel
theorem dX9_takes_29 : decode cX9_takes 29 = .ok (.putfield 92, 3) := by decide +kernel
theorem dX9_takes_32 : decode cX9_takes 32 = .ok (.iload_n 2, 1) := by decide +kernel
theorem dX9_takes_33 : decode cX9_takes 33 = .ok (.ireturn, 1) := by decide +kernel
theorem dX9_codes_0 : decode cX9_codes 0 = .ok (.aload_n 0, 1) := by decide +kernel
theorem dX9_codes_1 : decode cX9_codes 1 = .ok (.getfield 88, 3) := by decide +kernel
theorem dX9_codes_4 : decode cX9_codes 4 = .ok (.ifCond .ne 23, 3) := by decide +kernel
theorem dX9_codes_7 : decode cX9_codes 7 = .ok (.aload_n 0, 1) := by decide +kernel
theorem dX9_codes_8 : decode cX9_codes 8 = .ok (.getfield 35, 3) := by decide +kernel
theorem dX9_codes_11 : decode cX9_codes 11 = .ok (.aload_n 0, 1) := by decide +kernel
theorem dX9_codes_12 : decode cX9_codes 12 = .ok (.getfield 100, 3) := by decide +kernel
theorem dX9_codes_15 : decode cX9_codes 15 = .ok (.iload_n 1, 1) := by decide +kernel
theorem dX9_codes_16 : decode cX9_codes 16 = .ok (.iastore, 1) := by decide +kernel
theorem dX9_codes_17 : decode cX9_codes 17 = .ok (.aload_n 0, 1) := by decide +kernel
theorem dX9_codes_18 : decode cX9_codes 18 = .ok (.dup, 1) := by decide +kernel
theorem dX9_codes_19 : decode cX9_codes 19 = .ok (.getfield 100, 3) := by decide +kernel
theorem dX9_codes_22 : decode cX9_codes 22 = .ok (.iconst 1, 1) := by decide +kernel
theorem dX9_codes_23 : decode cX9_codes 23 = .ok (.iadd, 1) := by decide +kernel
theorem dX9_codes_24 : decode cX9_codes 24 = .ok (.putfield 100, 3) := by decide +kernel
theorem dX9_codes_27 : decode cX9_codes 27 = .ok (.return_, 1) := by decide +kernel
theorem dX9_either_0 : decode cX9_either 0 = .ok (.aload_n 0, 1) := by decide +kernel
theorem dX9_either_1 : decode cX9_either 1 = .ok (.invokevirtual 103, 3) := by decide +kernel
theorem dX9_either_4 : decode cX9_either 4 = .ok (.aload_n 0, 1) := by decide +kernel
theorem dX9_either_5 : decode cX9_either 5 = .ok (.bipush 124, 2) := by decide +kernel
theorem dX9_either_7 : decode cX9_either 7 = .ok (.invokevirtual 106, 3) := by decide +kernel
theorem dX9_either_10 : decode cX9_either 10 = .ok (.ifCond .eq 17, 3) := by decide +kernel
theorem dX9_either_13 : decode cX9_either 13 = .ok (.aload_n 0, 1) := by decide +kernel
theorem dX9_either_14 : decode cX9_either 14 = .ok (.invokevirtual 103, 3) := by decide +kernel
theorem dX9_either_17 : decode cX9_either 17 = .ok (.aload_n 0, 1) := by decide +kernel
theorem dX9_either_18 : decode cX9_either 18 = .ok (.sipush 20000, 3) := by decide +kernel
theorem dX9_either_21 : decode cX9_either 21 = .ok (.invokevirtual 110, 3) := by decide +kernel
theorem dX9_either_24 : decode cX9_either 24 = .ok (.goto (-20), 3) := by decide +kernel
theorem dX9_either_27 : decode cX9_either 27 = .ok (.return_, 1) := by decide +kernel
theorem dX9_both_0 : decode cX9_both 0 = .ok (.aload_n 0, 1) := by decide +kernel
theorem dX9_both_1 : decode cX9_both 1 = .ok (.invokevirtual 114, 3) := by decide +kernel
theorem dX9_both_4 : decode cX9_both 4 = .ok (.aload_n 0, 1) := by decide +kernel
theorem dX9_both_5 : decode cX9_both 5 = .ok (.bipush 38, 2) := by decide +kernel
theorem dX9_both_7 : decode cX9_both 7 = .ok (.invokevirtual 106, 3) := by decide +kernel
theorem dX9_both_10 : decode cX9_both 10 = .ok (.ifCond .eq 17, 3) := by decide +kernel
theorem dX9_both_13 : decode cX9_both 13 = .ok (.aload_n 0, 1) := by decide +kernel
theorem dX9_both_14 : decode cX9_both 14 = .ok (.invokevirtual 114, 3) := by decide +kernel
theorem dX9_both_17 : decode cX9_both 17 = .ok (.aload_n 0, 1) := by decide +kernel
theorem dX9_both_18 : decode cX9_both 18 = .ok (.sipush 20001, 3) := by decide +kernel
theorem dX9_both_21 : decode cX9_both 21 = .ok (.invokevirtual 110, 3) := by decide +kernel
theorem dX9_both_24 : decode cX9_both 24 = .ok (.goto (-20), 3) := by decide +kernel
theorem dX9_both_27 : decode cX9_both 27 = .ok (.return_, 1) := by decide +kernel
theorem dX9_compared_0 : decode cX9_compared 0 = .ok (.aload_n 0, 1) := by decide +kernel
theorem dX9_compared_1 : decode cX9_compared 1 = .ok (.invokevirtual 117, 3) := by decide +kernel
theorem dX9_compared_4 : decode cX9_compared 4 = .ok (.aload_n 0, 1) := by decide +kernel
theorem dX9_compared_5 : decode cX9_compared 5 = .ok (.bipush 60, 2) := by decide +kernel
theorem dX9_compared_7 : decode cX9_compared 7 = .ok (.invokevirtual 106, 3) := by decide +kernel
theorem dX9_compared_10 : decode cX9_compared 10 = .ok (.ifCond .eq 9, 3) := by decide +kernel
theorem dX9_compared_13 : decode cX9_compared 13 = .ok (.sipush 20002, 3) := by decide +kernel
theorem dX9_compared_16 : decode cX9_compared 16 = .ok (.goto 34, 3) := by decide +kernel
theorem dX9_compared_19 : decode cX9_compared 19 = .ok (.aload_n 0, 1) := by decide +kernel
theorem dX9_compared_20 : decode cX9_compared 20 = .ok (.bipush 61, 2) := by decide +kernel
theorem dX9_compared_22 : decode cX9_compared 22 = .ok (.invokevirtual 106, 3) := by decide +kernel
theorem dX9_compared_25 : decode cX9_compared 25 = .ok (.ifCond .eq 9, 3) := by decide +kernel
theorem dX9_compared_28 : decode cX9_compared 28 = .ok (.sipush 20003, 3) := by decide +kernel
theorem dX9_compared_31 : decode cX9_compared 31 = .ok (.goto 19, 3) := by decide +kernel
theorem dX9_compared_34 : decode cX9_compared 34 = .ok (.aload_n 0, 1) := by decide +kernel
theorem dX9_compared_35 : decode cX9_compared 35 = .ok (.bipush 62, 2) := by decide +kernel
theorem dX9_compared_37 : decode cX9_compared 37 = .ok (.invokevirtual 106, 3) := by decide +kernel
theorem dX9_compared_40 : decode cX9_compared 40 = .ok (.ifCond .eq 9, 3) := by decide +kernel
theorem dX9_compared_43 : decode cX9_compared 43 = .ok (.sipush 20004, 3) := by decide +kernel
theorem dX9_compared_46 : decode cX9_compared 46 = .ok (.goto 4, 3) := by decide +kernel
theorem dX9_compared_49 : decode cX9_compared 49 = .ok (.iconst 0, 1) := by decide +kernel
theorem dX9_compared_50 : decode cX9_compared 50 = .ok (.istore_n 1, 1) := by decide +kernel
theorem dX9_compared_51 : decode cX9_compared 51 = .ok (.iload_n 1, 1) := by decide +kernel
theorem dX9_compared_52 : decode cX9_compared 52 = .ok (.ifCond .le 12, 3) := by decide +kernel
theorem dX9_compared_55 : decode cX9_compared 55 = .ok (.aload_n 0, 1) := by decide +kernel
theorem dX9_compared_56 : decode cX9_compared 56 = .ok (.invokevirtual 117, 3) := by decide +kernel
theorem dX9_compared_59 : decode cX9_compared 59 = .ok (.aload_n 0, 1) := by decide +kernel
theorem dX9_compared_60 : decode cX9_compared 60 = .ok (.iload_n 1, 1) := by decide +kernel
theorem dX9_compared_61 : decode cX9_compared 61 = .ok (.invokevirtual 110, 3) := by decide +kernel
theorem dX9_compared_64 : decode cX9_compared 64 = .ok (.return_, 1) := by decide +kernel
theorem dX9_sum_0 : decode cX9_sum 0 = .ok (.aload_n 0, 1) := by decide +kernel
theorem dX9_sum_1 : decode cX9_sum 1 = .ok (.invokevirtual 120, 3) := by decide +kernel
theorem dX9_sum_4 : decode cX9_sum 4 = .ok (.aload_n 0, 1) := by decide +kernel
theorem dX9_sum_5 : decode cX9_sum 5 = .ok (.bipush 43, 2) := by decide +kernel
theorem dX9_sum_7 : decode cX9_sum 7 = .ok (.invokevirtual 106, 3) := by decide +kernel
theorem dX9_sum_10 : decode cX9_sum 10 = .ok (.ifCond .eq 9, 3) := by decide +kernel
theorem dX9_sum_13 : decode cX9_sum 13 = .ok (.sipush 20005, 3) := by decide +kernel
theorem dX9_sum_16 : decode cX9_sum 16 = .ok (.goto 19, 3) := by decide +kernel
theorem dX9_sum_19 : decode cX9_sum 19 = .ok (.aload_n 0, 1) := by decide +kernel
theorem dX9_sum_20 : decode cX9_sum 20 = .ok (.bipush 45, 2) := by decide +kernel
theorem dX9_sum_22 : decode cX9_sum 22 = .ok (.invokevirtual 106, 3) := by decide +kernel
theorem dX9_sum_25 : decode cX9_sum 25 = .ok (.ifCond .eq 9, 3) := by decide +kernel
theorem dX9_sum_28 : decode cX9_sum 28 = .ok (.sipush 20006, 3) := by decide +kernel
theorem dX9_sum_31 : decode cX9_sum 31 = .ok (.goto 4, 3) := by decide +kernel
theorem dX9_sum_34 : decode cX9_sum 34 = .ok (.iconst 0, 1) := by decide +kernel
theorem dX9_sum_35 : decode cX9_sum 35 = .ok (.istore_n 1, 1) := by decide +kernel
theorem dX9_sum_36 : decode cX9_sum 36 = .ok (.iload_n 1, 1) := by decide +kernel
theorem dX9_sum_37 : decode cX9_sum 37 = .ok (.ifCond .le 47, 3) := by decide +kernel
theorem dX9_sum_40 : decode cX9_sum 40 = .ok (.aload_n 0, 1) := by decide +kernel
theorem dX9_sum_41 : decode cX9_sum 41 = .ok (.invokevirtual 120, 3) := by decide +kernel
theorem dX9_sum_44 : decode cX9_sum 44 = .ok (.aload_n 0, 1) := by decide +kernel
theorem dX9_sum_45 : decode cX9_sum 45 = .ok (.iload_n 1, 1) := by decide +kernel
theorem dX9_sum_46 : decode cX9_sum 46 = .ok (.invokevirtual 110, 3) := by decide +kernel
theorem dX9_sum_49 : decode cX9_sum 49 = .ok (.aload_n 0, 1) := by decide +kernel
theorem dX9_sum_50 : decode cX9_sum 50 = .ok (.bipush 43, 2) := by decide +kernel
theorem dX9_sum_52 : decode cX9_sum 52 = .ok (.invokevirtual 106, 3) := by decide +kernel
theorem dX9_sum_55 : decode cX9_sum 55 = .ok (.ifCond .eq 9, 3) := by decide +kernel
theorem dX9_sum_58 : decode cX9_sum 58 = .ok (.sipush 20005, 3) := by decide +kernel
theorem dX9_sum_61 : decode cX9_sum 61 = .ok (.goto 19, 3) := by decide +kernel
theorem dX9_sum_64 : decode cX9_sum 64 = .ok (.aload_n 0, 1) := by decide +kernel
theorem dX9_sum_65 : decode cX9_sum 65 = .ok (.bipush 45, 2) := by decide +kernel
theorem dX9_sum_67 : decode cX9_sum 67 = .ok (.invokevirtual 106, 3) := by decide +kernel
theorem dX9_sum_70 : decode cX9_sum 70 = .ok (.ifCond .eq 9, 3) := by decide +kernel
theorem dX9_sum_73 : decode cX9_sum 73 = .ok (.sipush 20006, 3) := by decide +kernel
theorem dX9_sum_76 : decode cX9_sum 76 = .ok (.goto 4, 3) := by decide +kernel
theorem dX9_sum_79 : decode cX9_sum 79 = .ok (.iconst 0, 1) := by decide +kernel
theorem dX9_sum_80 : decode cX9_sum 80 = .ok (.istore_n 1, 1) := by decide +kernel
theorem dX9_sum_81 : decode cX9_sum 81 = .ok (.goto (-45), 3) := by decide +kernel
theorem dX9_sum_84 : decode cX9_sum 84 = .ok (.return_, 1) := by decide +kernel
theorem dX9_product_0 : decode cX9_product 0 = .ok (.aload_n 0, 1) := by decide +kernel
theorem dX9_product_1 : decode cX9_product 1 = .ok (.invokevirtual 123, 3) := by decide +kernel
theorem dX9_product_4 : decode cX9_product 4 = .ok (.aload_n 0, 1) := by decide +kernel
theorem dX9_product_5 : decode cX9_product 5 = .ok (.bipush 42, 2) := by decide +kernel
theorem dX9_product_7 : decode cX9_product 7 = .ok (.invokevirtual 106, 3) := by decide +kernel
theorem dX9_product_10 : decode cX9_product 10 = .ok (.ifCond .eq 9, 3) := by decide +kernel
theorem dX9_product_13 : decode cX9_product 13 = .ok (.sipush 20007, 3) := by decide +kernel
theorem dX9_product_16 : decode cX9_product 16 = .ok (.goto 34, 3) := by decide +kernel
theorem dX9_product_19 : decode cX9_product 19 = .ok (.aload_n 0, 1) := by decide +kernel
theorem dX9_product_20 : decode cX9_product 20 = .ok (.bipush 47, 2) := by decide +kernel
theorem dX9_product_22 : decode cX9_product 22 = .ok (.invokevirtual 106, 3) := by decide +kernel
theorem dX9_product_25 : decode cX9_product 25 = .ok (.ifCond .eq 9, 3) := by decide +kernel
theorem dX9_product_28 : decode cX9_product 28 = .ok (.sipush 20008, 3) := by decide +kernel
theorem dX9_product_31 : decode cX9_product 31 = .ok (.goto 19, 3) := by decide +kernel
theorem dX9_product_34 : decode cX9_product 34 = .ok (.aload_n 0, 1) := by decide +kernel
theorem dX9_product_35 : decode cX9_product 35 = .ok (.bipush 37, 2) := by decide +kernel
theorem dX9_product_37 : decode cX9_product 37 = .ok (.invokevirtual 106, 3) := by decide +kernel
theorem dX9_product_40 : decode cX9_product 40 = .ok (.ifCond .eq 9, 3) := by decide +kernel
theorem dX9_product_43 : decode cX9_product 43 = .ok (.sipush 20009, 3) := by decide +kernel
theorem dX9_product_46 : decode cX9_product 46 = .ok (.goto 4, 3) := by decide +kernel
theorem dX9_product_49 : decode cX9_product 49 = .ok (.iconst 0, 1) := by decide +kernel
theorem dX9_product_50 : decode cX9_product 50 = .ok (.istore_n 1, 1) := by decide +kernel
theorem dX9_product_51 : decode cX9_product 51 = .ok (.iload_n 1, 1) := by decide +kernel
theorem dX9_product_52 : decode cX9_product 52 = .ok (.ifCond .le 62, 3) := by decide +kernel
theorem dX9_product_55 : decode cX9_product 55 = .ok (.aload_n 0, 1) := by decide +kernel
theorem dX9_product_56 : decode cX9_product 56 = .ok (.invokevirtual 123, 3) := by decide +kernel
theorem dX9_product_59 : decode cX9_product 59 = .ok (.aload_n 0, 1) := by decide +kernel
theorem dX9_product_60 : decode cX9_product 60 = .ok (.iload_n 1, 1) := by decide +kernel
theorem dX9_product_61 : decode cX9_product 61 = .ok (.invokevirtual 110, 3) := by decide +kernel
theorem dX9_product_64 : decode cX9_product 64 = .ok (.aload_n 0, 1) := by decide +kernel
theorem dX9_product_65 : decode cX9_product 65 = .ok (.bipush 42, 2) := by decide +kernel
theorem dX9_product_67 : decode cX9_product 67 = .ok (.invokevirtual 106, 3) := by decide +kernel
theorem dX9_product_70 : decode cX9_product 70 = .ok (.ifCond .eq 9, 3) := by decide +kernel
theorem dX9_product_73 : decode cX9_product 73 = .ok (.sipush 20007, 3) := by decide +kernel
theorem dX9_product_76 : decode cX9_product 76 = .ok (.goto 34, 3) := by decide +kernel
theorem dX9_product_79 : decode cX9_product 79 = .ok (.aload_n 0, 1) := by decide +kernel
theorem dX9_product_80 : decode cX9_product 80 = .ok (.bipush 47, 2) := by decide +kernel
theorem dX9_product_82 : decode cX9_product 82 = .ok (.invokevirtual 106, 3) := by decide +kernel
theorem dX9_product_85 : decode cX9_product 85 = .ok (.ifCond .eq 9, 3) := by decide +kernel
theorem dX9_product_88 : decode cX9_product 88 = .ok (.sipush 20008, 3) := by decide +kernel
theorem dX9_product_91 : decode cX9_product 91 = .ok (.goto 19, 3) := by decide +kernel
theorem dX9_product_94 : decode cX9_product 94 = .ok (.aload_n 0, 1) := by decide +kernel
theorem dX9_product_95 : decode cX9_product 95 = .ok (.bipush 37, 2) := by decide +kernel
theorem dX9_product_97 : decode cX9_product 97 = .ok (.invokevirtual 106, 3) := by decide +kernel
theorem dX9_product_100 : decode cX9_product 100 = .ok (.ifCond .eq 9, 3) := by decide +kernel
theorem dX9_product_103 : decode cX9_product 103 = .ok (.sipush 20009, 3) := by decide +kernel
theorem dX9_product_106 : decode cX9_product 106 = .ok (.goto 4, 3) := by decide +kernel
theorem dX9_product_109 : decode cX9_product 109 = .ok (.iconst 0, 1) := by decide +kernel
theorem dX9_product_110 : decode cX9_product 110 = .ok (.istore_n 1, 1) := by decide +kernel
theorem dX9_product_111 : decode cX9_product 111 = .ok (.goto (-60), 3) := by decide +kernel
theorem dX9_product_114 : decode cX9_product 114 = .ok (.return_, 1) := by decide +kernel
theorem dX9_nameOf_0 : decode cX9_nameOf 0 = .ok (.iconst (-1), 1) := by decide +kernel
theorem dX9_nameOf_1 : decode cX9_nameOf 1 = .ok (.istore_n 2, 1) := by decide +kernel
theorem dX9_nameOf_2 : decode cX9_nameOf 2 = .ok (.iconst 0, 1) := by decide +kernel
theorem dX9_nameOf_3 : decode cX9_nameOf 3 = .ok (.istore_n 3, 1) := by decide +kernel
theorem dX9_nameOf_4 : decode cX9_nameOf 4 = .ok (.iload_n 3, 1) := by decide +kernel
theorem dX9_nameOf_5 : decode cX9_nameOf 5 = .ok (.aload_n 0, 1) := by decide +kernel
theorem dX9_nameOf_6 : decode cX9_nameOf 6 = .ok (.getfield 31, 3) := by decide +kernel
theorem dX9_nameOf_9 : decode cX9_nameOf 9 = .ok (.aload_n 0, 1) := by decide +kernel
theorem dX9_nameOf_10 : decode cX9_nameOf 10 = .ok (.getfield 126, 3) := by decide +kernel
theorem dX9_nameOf_13 : decode cX9_nameOf 13 = .ok (.aaload, 1) := by decide +kernel
theorem dX9_nameOf_14 : decode cX9_nameOf 14 = .ok (.invokevirtual 129, 3) := by decide +kernel
theorem dX9_nameOf_17 : decode cX9_nameOf 17 = .ok (.if_icmp .ge 32, 3) := by decide +kernel
theorem dX9_nameOf_20 : decode cX9_nameOf 20 = .ok (.aload_n 0, 1) := by decide +kernel
theorem dX9_nameOf_21 : decode cX9_nameOf 21 = .ok (.getfield 31, 3) := by decide +kernel
theorem dX9_nameOf_24 : decode cX9_nameOf 24 = .ok (.aload_n 0, 1) := by decide +kernel
theorem dX9_nameOf_25 : decode cX9_nameOf 25 = .ok (.getfield 126, 3) := by decide +kernel
theorem dX9_nameOf_28 : decode cX9_nameOf 28 = .ok (.aaload, 1) := by decide +kernel
theorem dX9_nameOf_29 : decode cX9_nameOf 29 = .ok (.iload_n 3, 1) := by decide +kernel
theorem dX9_nameOf_30 : decode cX9_nameOf 30 = .ok (.invokevirtual 132, 3) := by decide +kernel
theorem dX9_nameOf_33 : decode cX9_nameOf 33 = .ok (.iload_n 1, 1) := by decide +kernel
theorem dX9_nameOf_34 : decode cX9_nameOf 34 = .ok (.if_icmp .ne 7, 3) := by decide +kernel
theorem dX9_nameOf_37 : decode cX9_nameOf 37 = .ok (.iload_n 3, 1) := by decide +kernel
theorem dX9_nameOf_38 : decode cX9_nameOf 38 = .ok (.goto 4, 3) := by decide +kernel
theorem dX9_nameOf_41 : decode cX9_nameOf 41 = .ok (.iload_n 2, 1) := by decide +kernel
theorem dX9_nameOf_42 : decode cX9_nameOf 42 = .ok (.istore_n 2, 1) := by decide +kernel
theorem dX9_nameOf_43 : decode cX9_nameOf 43 = .ok (.iinc 3 1, 3) := by decide +kernel
theorem dX9_nameOf_46 : decode cX9_nameOf 46 = .ok (.goto (-42), 3) := by decide +kernel
theorem dX9_nameOf_49 : decode cX9_nameOf 49 = .ok (.iload_n 2, 1) := by decide +kernel
theorem dX9_nameOf_50 : decode cX9_nameOf 50 = .ok (.ireturn, 1) := by decide +kernel
theorem dX9_one_0 : decode cX9_one 0 = .ok (.aload_n 0, 1) := by decide +kernel
theorem dX9_one_1 : decode cX9_one 1 = .ok (.invokevirtual 96, 3) := by decide +kernel
theorem dX9_one_4 : decode cX9_one 4 = .ok (.istore_n 1, 1) := by decide +kernel
theorem dX9_one_5 : decode cX9_one 5 = .ok (.iload_n 1, 1) := by decide +kernel
theorem dX9_one_6 : decode cX9_one 6 = .ok (.bipush 33, 2) := by decide +kernel
theorem dX9_one_8 : decode cX9_one 8 = .ok (.if_icmp .eq 9, 3) := by decide +kernel
theorem dX9_one_11 : decode cX9_one 11 = .ok (.iload_n 1, 1) := by decide +kernel
theorem dX9_one_12 : decode cX9_one 12 = .ok (.bipush 40, 2) := by decide +kernel
theorem dX9_one_14 : decode cX9_one 14 = .ok (.if_icmp .ne 102, 3) := by decide +kernel
theorem dX9_one_17 : decode cX9_one 17 = .ok (.aload_n 0, 1) := by decide +kernel
theorem dX9_one_18 : decode cX9_one 18 = .ok (.aload_n 0, 1) := by decide +kernel
theorem dX9_one_19 : decode cX9_one 19 = .ok (.getfield 136, 3) := by decide +kernel
theorem dX9_one_22 : decode cX9_one 22 = .ok (.iconst 5, 1) := by decide +kernel
theorem dX9_one_23 : decode cX9_one 23 = .ok (.if_icmp .ne 7, 3) := by decide +kernel
theorem dX9_one_26 : decode cX9_one 26 = .ok (.iconst 1, 1) := by decide +kernel
theorem dX9_one_27 : decode cX9_one 27 = .ok (.goto 4, 3) := by decide +kernel
theorem dX9_one_30 : decode cX9_one 30 = .ok (.iconst 0, 1) := by decide +kernel
theorem dX9_one_31 : decode cX9_one 31 = .ok (.putfield 88, 3) := by decide +kernel
theorem dX9_one_34 : decode cX9_one 34 = .ok (.aload_n 0, 1) := by decide +kernel
theorem dX9_one_35 : decode cX9_one 35 = .ok (.getfield 88, 3) := by decide +kernel
theorem dX9_one_38 : decode cX9_one 38 = .ok (.ifCond .ne 209, 3) := by decide +kernel
theorem dX9_one_41 : decode cX9_one 41 = .ok (.aload_n 0, 1) := by decide +kernel
theorem dX9_one_42 : decode cX9_one 42 = .ok (.dup, 1) := by decide +kernel
theorem dX9_one_43 : decode cX9_one 43 = .ok (.getfield 136, 3) := by decide +kernel
theorem dX9_one_46 : decode cX9_one 46 = .ok (.iconst 1, 1) := by decide +kernel
theorem dX9_one_47 : decode cX9_one 47 = .ok (.iadd, 1) := by decide +kernel
theorem dX9_one_48 : decode cX9_one 48 = .ok (.putfield 136, 3) := by decide +kernel
theorem dX9_one_51 : decode cX9_one 51 = .ok (.aload_n 0, 1) := by decide +kernel
theorem dX9_one_52 : decode cX9_one 52 = .ok (.dup, 1) := by decide +kernel
theorem dX9_one_53 : decode cX9_one 53 = .ok (.getfield 92, 3) := by decide +kernel
theorem dX9_one_56 : decode cX9_one 56 = .ok (.iconst 1, 1) := by decide +kernel
theorem dX9_one_57 : decode cX9_one 57 = .ok (.iadd, 1) := by decide +kernel
theorem dX9_one_58 : decode cX9_one 58 = .ok (.putfield 92, 3) := by decide +kernel
theorem dX9_one_61 : decode cX9_one 61 = .ok (.iload_n 1, 1) := by decide +kernel
theorem dX9_one_62 : decode cX9_one 62 = .ok (.bipush 33, 2) := by decide +kernel
theorem dX9_one_64 : decode cX9_one 64 = .ok (.if_icmp .ne 17, 3) := by decide +kernel
theorem dX9_one_67 : decode cX9_one 67 = .ok (.aload_n 0, 1) := by decide +kernel
theorem dX9_one_68 : decode cX9_one 68 = .ok (.invokevirtual 123, 3) := by decide +kernel
theorem dX9_one_71 : decode cX9_one 71 = .ok (.aload_n 0, 1) := by decide +kernel
theorem dX9_one_72 : decode cX9_one 72 = .ok (.sipush 20010, 3) := by decide +kernel
theorem dX9_one_75 : decode cX9_one 75 = .ok (.invokevirtual 110, 3) := by decide +kernel
theorem dX9_one_78 : decode cX9_one 78 = .ok (.goto 25, 3) := by decide +kernel
theorem dX9_one_81 : decode cX9_one 81 = .ok (.aload_n 0, 1) := by decide +kernel
theorem dX9_one_82 : decode cX9_one 82 = .ok (.invokevirtual 139, 3) := by decide +kernel
theorem dX9_one_85 : decode cX9_one 85 = .ok (.aload_n 0, 1) := by decide +kernel
theorem dX9_one_86 : decode cX9_one 86 = .ok (.aload_n 0, 1) := by decide +kernel
theorem dX9_one_87 : decode cX9_one 87 = .ok (.bipush 41, 2) := by decide +kernel
theorem dX9_one_89 : decode cX9_one 89 = .ok (.invokevirtual 106, 3) := by decide +kernel
theorem dX9_one_92 : decode cX9_one 92 = .ok (.ifCond .ne 7, 3) := by decide +kernel
theorem dX9_one_95 : decode cX9_one 95 = .ok (.iconst 1, 1) := by decide +kernel
theorem dX9_one_96 : decode cX9_one 96 = .ok (.goto 4, 3) := by decide +kernel
theorem dX9_one_99 : decode cX9_one 99 = .ok (.iconst 0, 1) := by decide +kernel
theorem dX9_one_100 : decode cX9_one 100 = .ok (.putfield 88, 3) := by decide +kernel
theorem dX9_one_103 : decode cX9_one 103 = .ok (.aload_n 0, 1) := by decide +kernel
theorem dX9_one_104 : decode cX9_one 104 = .ok (.dup, 1) := by decide +kernel
theorem dX9_one_105 : decode cX9_one 105 = .ok (.getfield 136, 3) := by decide +kernel
theorem dX9_one_108 : decode cX9_one 108 = .ok (.iconst 1, 1) := by decide +kernel
theorem dX9_one_109 : decode cX9_one 109 = .ok (.isub, 1) := by decide +kernel
theorem dX9_one_110 : decode cX9_one 110 = .ok (.putfield 136, 3) := by decide +kernel
theorem dX9_one_113 : decode cX9_one 113 = .ok (.goto 134, 3) := by decide +kernel
theorem dX9_one_116 : decode cX9_one 116 = .ok (.iload_n 1, 1) := by decide +kernel
theorem dX9_one_117 : decode cX9_one 117 = .ok (.bipush 48, 2) := by decide +kernel
theorem dX9_one_119 : decode cX9_one 119 = .ok (.bipush 57, 2) := by decide +kernel
theorem dX9_one_121 : decode cX9_one 121 = .ok (.invokestatic 77, 3) := by decide +kernel
theorem dX9_one_124 : decode cX9_one 124 = .ok (.ifCond .eq 63, 3) := by decide +kernel
theorem dX9_one_127 : decode cX9_one 127 = .ok (.iconst 0, 1) := by decide +kernel
theorem dX9_one_128 : decode cX9_one 128 = .ok (.istore_n 2, 1) := by decide +kernel
theorem dX9_one_129 : decode cX9_one 129 = .ok (.iconst 0, 1) := by decide +kernel
theorem dX9_one_130 : decode cX9_one 130 = .ok (.istore_n 3, 1) := by decide +kernel
theorem dX9_one_131 : decode cX9_one 131 = .ok (.iload_n 3, 1) := by decide +kernel
theorem dX9_one_132 : decode cX9_one 132 = .ok (.iconst 4, 1) := by decide +kernel
theorem dX9_one_133 : decode cX9_one 133 = .ok (.if_icmp .ge 46, 3) := by decide +kernel
theorem dX9_one_136 : decode cX9_one 136 = .ok (.aload_n 0, 1) := by decide +kernel
theorem dX9_one_137 : decode cX9_one 137 = .ok (.invokevirtual 96, 3) := by decide +kernel
theorem dX9_one_140 : decode cX9_one 140 = .ok (.bipush 48, 2) := by decide +kernel
theorem dX9_one_142 : decode cX9_one 142 = .ok (.bipush 57, 2) := by decide +kernel
theorem dX9_one_144 : decode cX9_one 144 = .ok (.invokestatic 77, 3) := by decide +kernel
theorem dX9_one_147 : decode cX9_one 147 = .ok (.ifCond .eq 32, 3) := by decide +kernel
theorem dX9_one_150 : decode cX9_one 150 = .ok (.bipush 10, 2) := by decide +kernel
theorem dX9_one_152 : decode cX9_one 152 = .ok (.iload_n 2, 1) := by decide +kernel
theorem dX9_one_153 : decode cX9_one 153 = .ok (.imul, 1) := by decide +kernel
theorem dX9_one_154 : decode cX9_one 154 = .ok (.aload_n 0, 1) := by decide +kernel
theorem dX9_one_155 : decode cX9_one 155 = .ok (.invokevirtual 96, 3) := by decide +kernel
theorem dX9_one_158 : decode cX9_one 158 = .ok (.iadd, 1) := by decide +kernel
theorem dX9_one_159 : decode cX9_one 159 = .ok (.bipush 48, 2) := by decide +kernel
theorem dX9_one_161 : decode cX9_one 161 = .ok (.isub, 1) := by decide +kernel
theorem dX9_one_162 : decode cX9_one 162 = .ok (.istore_n 2, 1) := by decide +kernel
theorem dX9_one_163 : decode cX9_one 163 = .ok (.aload_n 0, 1) := by decide +kernel
theorem dX9_one_164 : decode cX9_one 164 = .ok (.dup, 1) := by decide +kernel
theorem dX9_one_165 : decode cX9_one 165 = .ok (.getfield 92, 3) := by decide +kernel
theorem dX9_one_168 : decode cX9_one 168 = .ok (.iconst 1, 1) := by decide +kernel
theorem dX9_one_169 : decode cX9_one 169 = .ok (.iadd, 1) := by decide +kernel
theorem dX9_one_170 : decode cX9_one 170 = .ok (.putfield 92, 3) := by decide +kernel
theorem dX9_one_173 : decode cX9_one 173 = .ok (.iinc 3 1, 3) := by decide +kernel
theorem dX9_one_176 : decode cX9_one 176 = .ok (.goto (-45), 3) := by decide +kernel
theorem dX9_one_179 : decode cX9_one 179 = .ok (.aload_n 0, 1) := by decide +kernel
theorem dX9_one_180 : decode cX9_one 180 = .ok (.iload_n 2, 1) := by decide +kernel
theorem dX9_one_181 : decode cX9_one 181 = .ok (.invokevirtual 110, 3) := by decide +kernel
theorem dX9_one_184 : decode cX9_one 184 = .ok (.goto 63, 3) := by decide +kernel
theorem dX9_one_187 : decode cX9_one 187 = .ok (.iload_n 1, 1) := by decide +kernel
theorem dX9_one_188 : decode cX9_one 188 = .ok (.ifCond .ge 7, 3) := by decide +kernel
theorem dX9_one_191 : decode cX9_one 191 = .ok (.iconst (-1), 1) := by decide +kernel
theorem dX9_one_192 : decode cX9_one 192 = .ok (.goto 8, 3) := by decide +kernel
theorem dX9_one_195 : decode cX9_one 195 = .ok (.aload_n 0, 1) := by decide +kernel
theorem dX9_one_196 : decode cX9_one 196 = .ok (.iload_n 1, 1) := by decide +kernel
theorem dX9_one_197 : decode cX9_one 197 = .ok (.invokevirtual 142, 3) := by decide +kernel
theorem dX9_one_200 : decode cX9_one 200 = .ok (.istore_n 2, 1) := by decide +kernel
theorem dX9_one_201 : decode cX9_one 201 = .ok (.aload_n 0, 1) := by decide +kernel
theorem dX9_one_202 : decode cX9_one 202 = .ok (.aload_n 0, 1) := by decide +kernel
theorem dX9_one_203 : decode cX9_one 203 = .ok (.getfield 88, 3) := by decide +kernel
theorem dX9_one_206 : decode cX9_one 206 = .ok (.ifCond .ne 7, 3) := by decide +kernel
theorem dX9_one_209 : decode cX9_one 209 = .ok (.iload_n 2, 1) := by decide +kernel
theorem dX9_one_210 : decode cX9_one 210 = .ok (.ifCond .ge 7, 3) := by decide +kernel
theorem dX9_one_213 : decode cX9_one 213 = .ok (.iconst 1, 1) := by decide +kernel
theorem dX9_one_214 : decode cX9_one 214 = .ok (.goto 4, 3) := by decide +kernel
theorem dX9_one_217 : decode cX9_one 217 = .ok (.iconst 0, 1) := by decide +kernel
theorem dX9_one_218 : decode cX9_one 218 = .ok (.putfield 88, 3) := by decide +kernel
theorem dX9_one_221 : decode cX9_one 221 = .ok (.aload_n 0, 1) := by decide +kernel
theorem dX9_one_222 : decode cX9_one 222 = .ok (.getfield 88, 3) := by decide +kernel
theorem dX9_one_225 : decode cX9_one 225 = .ok (.ifCond .ne 22, 3) := by decide +kernel
theorem dX9_one_228 : decode cX9_one 228 = .ok (.aload_n 0, 1) := by decide +kernel
theorem dX9_one_229 : decode cX9_one 229 = .ok (.sipush 10000, 3) := by decide +kernel
theorem dX9_one_232 : decode cX9_one 232 = .ok (.iload_n 2, 1) := by decide +kernel
theorem dX9_one_233 : decode cX9_one 233 = .ok (.iadd, 1) := by decide +kernel
theorem dX9_one_234 : decode cX9_one 234 = .ok (.invokevirtual 110, 3) := by decide +kernel
theorem dX9_one_237 : decode cX9_one 237 = .ok (.aload_n 0, 1) := by decide +kernel
theorem dX9_one_238 : decode cX9_one 238 = .ok (.dup, 1) := by decide +kernel
theorem dX9_one_239 : decode cX9_one 239 = .ok (.getfield 92, 3) := by decide +kernel
theorem dX9_one_242 : decode cX9_one 242 = .ok (.iconst 1, 1) := by decide +kernel
theorem dX9_one_243 : decode cX9_one 243 = .ok (.iadd, 1) := by decide +kernel
theorem dX9_one_244 : decode cX9_one 244 = .ok (.putfield 92, 3) := by decide +kernel
theorem dX9_one_247 : decode cX9_one 247 = .ok (.return_, 1) := by decide +kernel
theorem dX9_text_0 : decode cX9_text 0 = .ok (.iload_n 1, 1) := by decide +kernel
theorem dX9_text_1 : decode cX9_text 1 = .ok (.iconst 0, 1) := by decide +kernel
theorem dX9_text_2 : decode cX9_text 2 = .ok (.iconst 1, 1) := by decide +kernel
theorem dX9_text_3 : decode cX9_text 3 = .ok (.invokestatic 77, 3) := by decide +kernel
theorem dX9_text_6 : decode cX9_text 6 = .ok (.ifCond .ne 10, 3) := by decide +kernel
theorem dX9_text_9 : decode cX9_text 9 = .ok (.aload_n 0, 1) := by decide +kernel
theorem dX9_text_10 : decode cX9_text 10 = .ok (.ldc 81, 2) := by decide +kernel
theorem dX9_text_12 : decode cX9_text 12 = .ok (.invokevirtual 82, 3) := by decide +kernel
theorem dX9_text_15 : decode cX9_text 15 = .ok (.ireturn, 1) := by decide +kernel
theorem dX9_text_16 : decode cX9_text 16 = .ok (.aload_n 0, 1) := by decide +kernel
theorem dX9_text_17 : decode cX9_text 17 = .ok (.iload_n 1, 1) := by decide +kernel
theorem dX9_text_18 : decode cX9_text 18 = .ok (.putfield 126, 3) := by decide +kernel
theorem dX9_text_21 : decode cX9_text 21 = .ok (.aload_n 0, 1) := by decide +kernel
theorem dX9_text_22 : decode cX9_text 22 = .ok (.iconst 0, 1) := by decide +kernel
theorem dX9_text_23 : decode cX9_text 23 = .ok (.putfield 92, 3) := by decide +kernel
theorem dX9_text_26 : decode cX9_text 26 = .ok (.aload_n 0, 1) := by decide +kernel
theorem dX9_text_27 : decode cX9_text 27 = .ok (.iconst 0, 1) := by decide +kernel
theorem dX9_text_28 : decode cX9_text 28 = .ok (.putfield 136, 3) := by decide +kernel
theorem dX9_text_31 : decode cX9_text 31 = .ok (.aload_n 0, 1) := by decide +kernel
theorem dX9_text_32 : decode cX9_text 32 = .ok (.iconst 0, 1) := by decide +kernel
theorem dX9_text_33 : decode cX9_text 33 = .ok (.putfield 88, 3) := by decide +kernel
theorem dX9_text_36 : decode cX9_text 36 = .ok (.aload_n 0, 1) := by decide +kernel
theorem dX9_text_37 : decode cX9_text 37 = .ok (.iconst 0, 1) := by decide +kernel
theorem dX9_text_38 : decode cX9_text 38 = .ok (.putfield 100, 3) := by decide +kernel
theorem dX9_text_41 : decode cX9_text 41 = .ok (.aload_n 0, 1) := by decide +kernel
theorem dX9_text_42 : decode cX9_text 42 = .ok (.invokevirtual 139, 3) := by decide +kernel
theorem dX9_text_45 : decode cX9_text 45 = .ok (.aload_n 0, 1) := by decide +kernel
theorem dX9_text_46 : decode cX9_text 46 = .ok (.aload_n 0, 1) := by decide +kernel
theorem dX9_text_47 : decode cX9_text 47 = .ok (.getfield 88, 3) := by decide +kernel
theorem dX9_text_50 : decode cX9_text 50 = .ok (.ifCond .ne 17, 3) := by decide +kernel
theorem dX9_text_53 : decode cX9_text 53 = .ok (.aload_n 0, 1) := by decide +kernel
theorem dX9_text_54 : decode cX9_text 54 = .ok (.getfield 92, 3) := by decide +kernel
theorem dX9_text_57 : decode cX9_text 57 = .ok (.aload_n 0, 1) := by decide +kernel
theorem dX9_text_58 : decode cX9_text 58 = .ok (.getfield 9, 3) := by decide +kernel
theorem dX9_text_61 : decode cX9_text 61 = .ok (.bipush 7, 2) := by decide +kernel
theorem dX9_text_63 : decode cX9_text 63 = .ok (.iaload, 1) := by decide +kernel
theorem dX9_text_64 : decode cX9_text 64 = .ok (.if_icmp .ge 7, 3) := by decide +kernel
theorem dX9_text_67 : decode cX9_text 67 = .ok (.iconst 1, 1) := by decide +kernel
theorem dX9_text_68 : decode cX9_text 68 = .ok (.goto 4, 3) := by decide +kernel
theorem dX9_text_71 : decode cX9_text 71 = .ok (.iconst 0, 1) := by decide +kernel
theorem dX9_text_72 : decode cX9_text 72 = .ok (.putfield 88, 3) := by decide +kernel
theorem dX9_text_75 : decode cX9_text 75 = .ok (.aload_n 0, 1) := by decide +kernel
theorem dX9_text_76 : decode cX9_text 76 = .ok (.getfield 9, 3) := by decide +kernel
theorem dX9_text_79 : decode cX9_text 79 = .ok (.bipush 7, 2) := by decide +kernel
theorem dX9_text_81 : decode cX9_text 81 = .ok (.iconst 0, 1) := by decide +kernel
theorem dX9_text_82 : decode cX9_text 82 = .ok (.iastore, 1) := by decide +kernel
theorem dX9_text_83 : decode cX9_text 83 = .ok (.aload_n 0, 1) := by decide +kernel
theorem dX9_text_84 : decode cX9_text 84 = .ok (.getfield 88, 3) := by decide +kernel
theorem dX9_text_87 : decode cX9_text 87 = .ok (.ifCond .eq 11, 3) := by decide +kernel
theorem dX9_text_90 : decode cX9_text 90 = .ok (.bipush (-10), 2) := by decide +kernel
theorem dX9_text_92 : decode cX9_text 92 = .ok (.aload_n 0, 1) := by decide +kernel
theorem dX9_text_93 : decode cX9_text 93 = .ok (.getfield 92, 3) := by decide +kernel
theorem dX9_text_96 : decode cX9_text 96 = .ok (.isub, 1) := by decide +kernel
theorem dX9_text_97 : decode cX9_text 97 = .ok (.ireturn, 1) := by decide +kernel
theorem dX9_text_98 : decode cX9_text 98 = .ok (.aload_n 0, 1) := by decide +kernel
theorem dX9_text_99 : decode cX9_text 99 = .ok (.getfield 9, 3) := by decide +kernel
theorem dX9_text_102 : decode cX9_text 102 = .ok (.sipush 138, 3) := by decide +kernel
theorem dX9_text_105 : decode cX9_text 105 = .ok (.bipush 52, 2) := by decide +kernel
theorem dX9_text_107 : decode cX9_text 107 = .ok (.aload_n 0, 1) := by decide +kernel
theorem dX9_text_108 : decode cX9_text 108 = .ok (.getfield 126, 3) := by decide +kernel
theorem dX9_text_111 : decode cX9_text 111 = .ok (.imul, 1) := by decide +kernel
theorem dX9_text_112 : decode cX9_text 112 = .ok (.iadd, 1) := by decide +kernel
theorem dX9_text_113 : decode cX9_text 113 = .ok (.aload_n 0, 1) := by decide +kernel
theorem dX9_text_114 : decode cX9_text 114 = .ok (.getfield 100, 3) := by decide +kernel
theorem dX9_text_117 : decode cX9_text 117 = .ok (.iastore, 1) := by decide +kernel
theorem dX9_text_118 : decode cX9_text 118 = .ok (.iconst 0, 1) := by decide +kernel
theorem dX9_text_119 : decode cX9_text 119 = .ok (.istore_n 2, 1) := by decide +kernel
theorem dX9_text_120 : decode cX9_text 120 = .ok (.iload_n 2, 1) := by decide +kernel
theorem dX9_text_121 : decode cX9_text 121 = .ok (.aload_n 0, 1) := by decide +kernel
theorem dX9_text_122 : decode cX9_text 122 = .ok (.getfield 100, 3) := by decide +kernel
theorem dX9_text_125 : decode cX9_text 125 = .ok (.if_icmp .ge 35, 3) := by decide +kernel
theorem dX9_text_128 : decode cX9_text 128 = .ok (.aload_n 0, 1) := by decide +kernel
theorem dX9_text_129 : decode cX9_text 129 = .ok (.getfield 9, 3) := by decide +kernel
theorem dX9_text_132 : decode cX9_text 132 = .ok (.sipush 138, 3) := by decide +kernel
theorem dX9_text_135 : decode cX9_text 135 = .ok (.bipush 52, 2) := by decide +kernel
theorem dX9_text_137 : decode cX9_text 137 = .ok (.aload_n 0, 1) := by decide +kernel
theorem dX9_text_138 : decode cX9_text 138 = .ok (.getfield 126, 3) := by decide +kernel
theorem dX9_text_141 : decode cX9_text 141 = .ok (.imul, 1) := by decide +kernel
theorem dX9_text_142 : decode cX9_text 142 = .ok (.iadd, 1) := by decide +kernel
theorem dX9_text_143 : decode cX9_text 143 = .ok (.iconst 1, 1) := by decide +kernel
theorem dX9_text_144 : decode cX9_text 144 = .ok (.iadd, 1) := by decide +kernel
theorem dX9_text_145 : decode cX9_text 145 = .ok (.iload_n 2, 1) := by decide +kernel
theorem dX9_text_146 : decode cX9_text 146 = .ok (.iadd, 1) := by decide +kernel
theorem dX9_text_147 : decode cX9_text 147 = .ok (.aload_n 0, 1) := by decide +kernel
theorem dX9_text_148 : decode cX9_text 148 = .ok (.getfield 35, 3) := by decide +kernel
theorem dX9_text_151 : decode cX9_text 151 = .ok (.iload_n 2, 1) := by decide +kernel
theorem dX9_text_152 : decode cX9_text 152 = .ok (.iaload, 1) := by decide +kernel
theorem dX9_text_153 : decode cX9_text 153 = .ok (.iastore, 1) := by decide +kernel
theorem dX9_text_154 : decode cX9_text 154 = .ok (.iinc 2 1, 3) := by decide +kernel
theorem dX9_text_157 : decode cX9_text 157 = .ok (.goto (-37), 3) := by decide +kernel
theorem dX9_text_160 : decode cX9_text 160 = .ok (.aload_n 0, 1) := by decide +kernel
theorem dX9_text_161 : decode cX9_text 161 = .ok (.invokevirtual 145, 3) := by decide +kernel
theorem dX9_text_164 : decode cX9_text 164 = .ok (.iconst 1, 1) := by decide +kernel
theorem dX9_text_165 : decode cX9_text 165 = .ok (.ireturn, 1) := by decide +kernel
theorem dX9_done_0 : decode cX9_done 0 = .ok (.iload_n 0, 1) := by decide +kernel
theorem dX9_done_1 : decode cX9_done 1 = .ok (.tableswitch 136 20000 20008 #[51, 65, 79, 90, 101, 112, 116, 120, 124], 51) := by decide +kernel
theorem dX9_done_52 : decode cX9_done 52 = .ok (.iload_n 1, 1) := by decide +kernel
theorem dX9_done_53 : decode cX9_done 53 = .ok (.ifCond .ne 7, 3) := by decide +kernel
theorem dX9_done_56 : decode cX9_done 56 = .ok (.iload_n 2, 1) := by decide +kernel
theorem dX9_done_57 : decode cX9_done 57 = .ok (.ifCond .eq 7, 3) := by decide +kernel
theorem dX9_done_60 : decode cX9_done 60 = .ok (.iconst 1, 1) := by decide +kernel
theorem dX9_done_61 : decode cX9_done 61 = .ok (.goto 4, 3) := by decide +kernel
theorem dX9_done_64 : decode cX9_done 64 = .ok (.iconst 0, 1) := by decide +kernel
theorem dX9_done_65 : decode cX9_done 65 = .ok (.ireturn, 1) := by decide +kernel
theorem dX9_done_66 : decode cX9_done 66 = .ok (.iload_n 1, 1) := by decide +kernel
theorem dX9_done_67 : decode cX9_done 67 = .ok (.ifCond .eq 11, 3) := by decide +kernel
theorem dX9_done_70 : decode cX9_done 70 = .ok (.iload_n 2, 1) := by decide +kernel
theorem dX9_done_71 : decode cX9_done 71 = .ok (.ifCond .eq 7, 3) := by decide +kernel
theorem dX9_done_74 : decode cX9_done 74 = .ok (.iconst 1, 1) := by decide +kernel
theorem dX9_done_75 : decode cX9_done 75 = .ok (.goto 4, 3) := by decide +kernel
theorem dX9_done_78 : decode cX9_done 78 = .ok (.iconst 0, 1) := by decide +kernel
theorem dX9_done_79 : decode cX9_done 79 = .ok (.ireturn, 1) := by decide +kernel
theorem dX9_done_80 : decode cX9_done 80 = .ok (.iload_n 1, 1) := by decide +kernel
theorem dX9_done_81 : decode cX9_done 81 = .ok (.iload_n 2, 1) := by decide +kernel
theorem dX9_done_82 : decode cX9_done 82 = .ok (.if_icmp .ge 7, 3) := by decide +kernel
theorem dX9_done_85 : decode cX9_done 85 = .ok (.iconst 1, 1) := by decide +kernel
theorem dX9_done_86 : decode cX9_done 86 = .ok (.goto 4, 3) := by decide +kernel
theorem dX9_done_89 : decode cX9_done 89 = .ok (.iconst 0, 1) := by decide +kernel
theorem dX9_done_90 : decode cX9_done 90 = .ok (.ireturn, 1) := by decide +kernel
theorem dX9_done_91 : decode cX9_done 91 = .ok (.iload_n 1, 1) := by decide +kernel
theorem dX9_done_92 : decode cX9_done 92 = .ok (.iload_n 2, 1) := by decide +kernel
theorem dX9_done_93 : decode cX9_done 93 = .ok (.if_icmp .ne 7, 3) := by decide +kernel
theorem dX9_done_96 : decode cX9_done 96 = .ok (.iconst 1, 1) := by decide +kernel
theorem dX9_done_97 : decode cX9_done 97 = .ok (.goto 4, 3) := by decide +kernel
theorem dX9_done_100 : decode cX9_done 100 = .ok (.iconst 0, 1) := by decide +kernel
theorem dX9_done_101 : decode cX9_done 101 = .ok (.ireturn, 1) := by decide +kernel
theorem dX9_done_102 : decode cX9_done 102 = .ok (.iload_n 1, 1) := by decide +kernel
theorem dX9_done_103 : decode cX9_done 103 = .ok (.iload_n 2, 1) := by decide +kernel
theorem dX9_done_104 : decode cX9_done 104 = .ok (.if_icmp .le 7, 3) := by decide +kernel
theorem dX9_done_107 : decode cX9_done 107 = .ok (.iconst 1, 1) := by decide +kernel
theorem dX9_done_108 : decode cX9_done 108 = .ok (.goto 4, 3) := by decide +kernel
theorem dX9_done_111 : decode cX9_done 111 = .ok (.iconst 0, 1) := by decide +kernel
theorem dX9_done_112 : decode cX9_done 112 = .ok (.ireturn, 1) := by decide +kernel
theorem dX9_done_113 : decode cX9_done 113 = .ok (.iload_n 1, 1) := by decide +kernel
theorem dX9_done_114 : decode cX9_done 114 = .ok (.iload_n 2, 1) := by decide +kernel
theorem dX9_done_115 : decode cX9_done 115 = .ok (.iadd, 1) := by decide +kernel
theorem dX9_done_116 : decode cX9_done 116 = .ok (.ireturn, 1) := by decide +kernel
theorem dX9_done_117 : decode cX9_done 117 = .ok (.iload_n 1, 1) := by decide +kernel
theorem dX9_done_118 : decode cX9_done 118 = .ok (.iload_n 2, 1) := by decide +kernel
theorem dX9_done_119 : decode cX9_done 119 = .ok (.isub, 1) := by decide +kernel
theorem dX9_done_120 : decode cX9_done 120 = .ok (.ireturn, 1) := by decide +kernel
theorem dX9_done_121 : decode cX9_done 121 = .ok (.iload_n 1, 1) := by decide +kernel
theorem dX9_done_122 : decode cX9_done 122 = .ok (.iload_n 2, 1) := by decide +kernel
theorem dX9_done_123 : decode cX9_done 123 = .ok (.imul, 1) := by decide +kernel
theorem dX9_done_124 : decode cX9_done 124 = .ok (.ireturn, 1) := by decide +kernel
theorem dX9_done_125 : decode cX9_done 125 = .ok (.iload_n 2, 1) := by decide +kernel
theorem dX9_done_126 : decode cX9_done 126 = .ok (.ifCond .ne 7, 3) := by decide +kernel
theorem dX9_done_129 : decode cX9_done 129 = .ok (.iconst 0, 1) := by decide +kernel
theorem dX9_done_130 : decode cX9_done 130 = .ok (.goto 6, 3) := by decide +kernel
theorem dX9_done_133 : decode cX9_done 133 = .ok (.iload_n 1, 1) := by decide +kernel
theorem dX9_done_134 : decode cX9_done 134 = .ok (.iload_n 2, 1) := by decide +kernel
theorem dX9_done_135 : decode cX9_done 135 = .ok (.idiv, 1) := by decide +kernel
theorem dX9_done_136 : decode cX9_done 136 = .ok (.ireturn, 1) := by decide +kernel
theorem dX9_done_137 : decode cX9_done 137 = .ok (.iload_n 2, 1) := by decide +kernel
theorem dX9_done_138 : decode cX9_done 138 = .ok (.ifCond .ne 7, 3) := by decide +kernel
theorem dX9_done_141 : decode cX9_done 141 = .ok (.iconst 0, 1) := by decide +kernel
theorem dX9_done_142 : decode cX9_done 142 = .ok (.goto 6, 3) := by decide +kernel
theorem dX9_done_145 : decode cX9_done 145 = .ok (.iload_n 1, 1) := by decide +kernel
theorem dX9_done_146 : decode cX9_done 146 = .ok (.iload_n 2, 1) := by decide +kernel
theorem dX9_done_147 : decode cX9_done 147 = .ok (.irem, 1) := by decide +kernel
theorem dX9_done_148 : decode cX9_done 148 = .ok (.ireturn, 1) := by decide +kernel
theorem dX9_worked_0 : decode cX9_worked 0 = .ok (.iconst 0, 1) := by decide +kernel
theorem dX9_worked_1 : decode cX9_worked 1 = .ok (.istore_n 2, 1) := by decide +kernel
theorem dX9_worked_2 : decode cX9_worked 2 = .ok (.iload_n 1, 1) := by decide +kernel
theorem dX9_worked_3 : decode cX9_worked 3 = .ok (.istore_n 3, 1) := by decide +kernel
theorem dX9_worked_4 : decode cX9_worked 4 = .ok (.iload_n 3, 1) := by decide +kernel
theorem dX9_worked_5 : decode cX9_worked 5 = .ok (.iload_n 1, 1) := by decide +kernel
theorem dX9_worked_6 : decode cX9_worked 6 = .ok (.aload_n 0, 1) := by decide +kernel
theorem dX9_worked_7 : decode cX9_worked 7 = .ok (.getfield 9, 3) := by decide +kernel
theorem dX9_worked_10 : decode cX9_worked 10 = .ok (.iload_n 1, 1) := by decide +kernel
theorem dX9_worked_11 : decode cX9_worked 11 = .ok (.iconst 1, 1) := by decide +kernel
theorem dX9_worked_12 : decode cX9_worked 12 = .ok (.isub, 1) := by decide +kernel
theorem dX9_worked_13 : decode cX9_worked 13 = .ok (.iaload, 1) := by decide +kernel
theorem dX9_worked_14 : decode cX9_worked 14 = .ok (.iadd, 1) := by decide +kernel
theorem dX9_worked_15 : decode cX9_worked 15 = .ok (.if_icmp .ge 126, 3) := by decide +kernel
theorem dX9_worked_18 : decode cX9_worked 18 = .ok (.aload_n 0, 1) := by decide +kernel
theorem dX9_worked_19 : decode cX9_worked 19 = .ok (.getfield 9, 3) := by decide +kernel
theorem dX9_worked_22 : decode cX9_worked 22 = .ok (.iload_n 3, 1) := by decide +kernel
theorem dX9_worked_23 : decode cX9_worked 23 = .ok (.iaload, 1) := by decide +kernel
theorem dX9_worked_24 : decode cX9_worked 24 = .ok (.istore 4, 2) := by decide +kernel
theorem dX9_worked_26 : decode cX9_worked 26 = .ok (.iload 4, 2) := by decide +kernel
theorem dX9_worked_28 : decode cX9_worked 28 = .ok (.sipush 20000, 3) := by decide +kernel
theorem dX9_worked_31 : decode cX9_worked 31 = .ok (.if_icmp .ge 39, 3) := by decide +kernel
theorem dX9_worked_34 : decode cX9_worked 34 = .ok (.aload_n 0, 1) := by decide +kernel
theorem dX9_worked_35 : decode cX9_worked 35 = .ok (.getfield 41, 3) := by decide +kernel
theorem dX9_worked_38 : decode cX9_worked 38 = .ok (.iload_n 2, 1) := by decide +kernel
theorem dX9_worked_39 : decode cX9_worked 39 = .ok (.iload 4, 2) := by decide +kernel
theorem dX9_worked_41 : decode cX9_worked 41 = .ok (.sipush 10000, 3) := by decide +kernel
theorem dX9_worked_44 : decode cX9_worked 44 = .ok (.if_icmp .ge 8, 3) := by decide +kernel
theorem dX9_worked_47 : decode cX9_worked 47 = .ok (.iload 4, 2) := by decide +kernel
theorem dX9_worked_49 : decode cX9_worked 49 = .ok (.goto 14, 3) := by decide +kernel
theorem dX9_worked_52 : decode cX9_worked 52 = .ok (.aload_n 0, 1) := by decide +kernel
theorem dX9_worked_53 : decode cX9_worked 53 = .ok (.getfield 38, 3) := by decide +kernel
theorem dX9_worked_56 : decode cX9_worked 56 = .ok (.iload 4, 2) := by decide +kernel
theorem dX9_worked_58 : decode cX9_worked 58 = .ok (.sipush 10000, 3) := by decide +kernel
theorem dX9_worked_61 : decode cX9_worked 61 = .ok (.isub, 1) := by decide +kernel
theorem dX9_worked_62 : decode cX9_worked 62 = .ok (.iaload, 1) := by decide +kernel
theorem dX9_worked_63 : decode cX9_worked 63 = .ok (.iastore, 1) := by decide +kernel
theorem dX9_worked_64 : decode cX9_worked 64 = .ok (.iinc 2 1, 3) := by decide +kernel
theorem dX9_worked_67 : decode cX9_worked 67 = .ok (.goto 68, 3) := by decide +kernel
theorem dX9_worked_70 : decode cX9_worked 70 = .ok (.iload 4, 2) := by decide +kernel
theorem dX9_worked_72 : decode cX9_worked 72 = .ok (.sipush 20010, 3) := by decide +kernel
theorem dX9_worked_75 : decode cX9_worked 75 = .ok (.if_icmp .ne 30, 3) := by decide +kernel
theorem dX9_worked_78 : decode cX9_worked 78 = .ok (.aload_n 0, 1) := by decide +kernel
theorem dX9_worked_79 : decode cX9_worked 79 = .ok (.getfield 41, 3) := by decide +kernel
theorem dX9_worked_82 : decode cX9_worked 82 = .ok (.iload_n 2, 1) := by decide +kernel
theorem dX9_worked_83 : decode cX9_worked 83 = .ok (.iconst 1, 1) := by decide +kernel
theorem dX9_worked_84 : decode cX9_worked 84 = .ok (.isub, 1) := by decide +kernel
theorem dX9_worked_85 : decode cX9_worked 85 = .ok (.aload_n 0, 1) := by decide +kernel
theorem dX9_worked_86 : decode cX9_worked 86 = .ok (.getfield 41, 3) := by decide +kernel
theorem dX9_worked_89 : decode cX9_worked 89 = .ok (.iload_n 2, 1) := by decide +kernel
theorem dX9_worked_90 : decode cX9_worked 90 = .ok (.iconst 1, 1) := by decide +kernel
theorem dX9_worked_91 : decode cX9_worked 91 = .ok (.isub, 1) := by decide +kernel
theorem dX9_worked_92 : decode cX9_worked 92 = .ok (.iaload, 1) := by decide +kernel
theorem dX9_worked_93 : decode cX9_worked 93 = .ok (.ifCond .ne 7, 3) := by decide +kernel
theorem dX9_worked_96 : decode cX9_worked 96 = .ok (.iconst 1, 1) := by decide +kernel
theorem dX9_worked_97 : decode cX9_worked 97 = .ok (.goto 4, 3) := by decide +kernel
theorem dX9_worked_100 : decode cX9_worked 100 = .ok (.iconst 0, 1) := by decide +kernel
theorem dX9_worked_101 : decode cX9_worked 101 = .ok (.iastore, 1) := by decide +kernel
theorem dX9_worked_102 : decode cX9_worked 102 = .ok (.goto 33, 3) := by decide +kernel
theorem dX9_worked_105 : decode cX9_worked 105 = .ok (.iinc 2 (-1), 3) := by decide +kernel
theorem dX9_worked_108 : decode cX9_worked 108 = .ok (.aload_n 0, 1) := by decide +kernel
theorem dX9_worked_109 : decode cX9_worked 109 = .ok (.getfield 41, 3) := by decide +kernel
theorem dX9_worked_112 : decode cX9_worked 112 = .ok (.iload_n 2, 1) := by decide +kernel
theorem dX9_worked_113 : decode cX9_worked 113 = .ok (.iconst 1, 1) := by decide +kernel
theorem dX9_worked_114 : decode cX9_worked 114 = .ok (.isub, 1) := by decide +kernel
theorem dX9_worked_115 : decode cX9_worked 115 = .ok (.iload 4, 2) := by decide +kernel
theorem dX9_worked_117 : decode cX9_worked 117 = .ok (.aload_n 0, 1) := by decide +kernel
theorem dX9_worked_118 : decode cX9_worked 118 = .ok (.getfield 41, 3) := by decide +kernel
theorem dX9_worked_121 : decode cX9_worked 121 = .ok (.iload_n 2, 1) := by decide +kernel
theorem dX9_worked_122 : decode cX9_worked 122 = .ok (.iconst 1, 1) := by decide +kernel
theorem dX9_worked_123 : decode cX9_worked 123 = .ok (.isub, 1) := by decide +kernel
theorem dX9_worked_124 : decode cX9_worked 124 = .ok (.iaload, 1) := by decide +kernel
theorem dX9_worked_125 : decode cX9_worked 125 = .ok (.aload_n 0, 1) := by decide +kernel
theorem dX9_worked_126 : decode cX9_worked 126 = .ok (.getfield 41, 3) := by decide +kernel
theorem dX9_worked_129 : decode cX9_worked 129 = .ok (.iload_n 2, 1) := by decide +kernel
theorem dX9_worked_130 : decode cX9_worked 130 = .ok (.iaload, 1) := by decide +kernel
theorem dX9_worked_131 : decode cX9_worked 131 = .ok (.invokestatic 148, 3) := by decide +kernel
theorem dX9_worked_134 : decode cX9_worked 134 = .ok (.iastore, 1) := by decide +kernel
theorem dX9_worked_135 : decode cX9_worked 135 = .ok (.iinc 3 1, 3) := by decide +kernel
theorem dX9_worked_138 : decode cX9_worked 138 = .ok (.goto (-134), 3) := by decide +kernel
theorem dX9_worked_141 : decode cX9_worked 141 = .ok (.aload_n 0, 1) := by decide +kernel
theorem dX9_worked_142 : decode cX9_worked 142 = .ok (.getfield 41, 3) := by decide +kernel
theorem dX9_worked_145 : decode cX9_worked 145 = .ok (.iconst 0, 1) := by decide +kernel
theorem dX9_worked_146 : decode cX9_worked 146 = .ok (.iaload, 1) := by decide +kernel
theorem dX9_worked_147 : decode cX9_worked 147 = .ok (.ireturn, 1) := by decide +kernel
theorem dX9_hasText_0 : decode cX9_hasText 0 = .ok (.aload_n 0, 1) := by decide +kernel
theorem dX9_hasText_1 : decode cX9_hasText 1 = .ok (.getfield 9, 3) := by decide +kernel
theorem dX9_hasText_4 : decode cX9_hasText 4 = .ok (.sipush 138, 3) := by decide +kernel
theorem dX9_hasText_7 : decode cX9_hasText 7 = .ok (.bipush 52, 2) := by decide +kernel
theorem dX9_hasText_9 : decode cX9_hasText 9 = .ok (.iload_n 1, 1) := by decide +kernel
theorem dX9_hasText_10 : decode cX9_hasText 10 = .ok (.imul, 1) := by decide +kernel
theorem dX9_hasText_11 : decode cX9_hasText 11 = .ok (.iadd, 1) := by decide +kernel
theorem dX9_hasText_12 : decode cX9_hasText 12 = .ok (.iaload, 1) := by decide +kernel
theorem dX9_hasText_13 : decode cX9_hasText 13 = .ok (.ifCond .le 7, 3) := by decide +kernel
theorem dX9_hasText_16 : decode cX9_hasText 16 = .ok (.iconst 1, 1) := by decide +kernel
theorem dX9_hasText_17 : decode cX9_hasText 17 = .ok (.goto 4, 3) := by decide +kernel
theorem dX9_hasText_20 : decode cX9_hasText 20 = .ok (.iconst 0, 1) := by decide +kernel
theorem dX9_hasText_21 : decode cX9_hasText 21 = .ok (.ireturn, 1) := by decide +kernel
theorem dX9_given_0 : decode cX9_given 0 = .ok (.aload_n 0, 1) := by decide +kernel
theorem dX9_given_1 : decode cX9_given 1 = .ok (.getfield 38, 3) := by decide +kernel
theorem dX9_given_4 : decode cX9_given 4 = .ok (.iconst 0, 1) := by decide +kernel
theorem dX9_given_5 : decode cX9_given 5 = .ok (.iload_n 2, 1) := by decide +kernel
theorem dX9_given_6 : decode cX9_given 6 = .ok (.iastore, 1) := by decide +kernel
theorem dX9_given_7 : decode cX9_given 7 = .ok (.aload_n 0, 1) := by decide +kernel
theorem dX9_given_8 : decode cX9_given 8 = .ok (.getfield 38, 3) := by decide +kernel
theorem dX9_given_11 : decode cX9_given 11 = .ok (.iconst 1, 1) := by decide +kernel
theorem dX9_given_12 : decode cX9_given 12 = .ok (.iload_n 3, 1) := by decide +kernel
theorem dX9_given_13 : decode cX9_given 13 = .ok (.iastore, 1) := by decide +kernel
theorem dX9_given_14 : decode cX9_given 14 = .ok (.aload_n 0, 1) := by decide +kernel
theorem dX9_given_15 : decode cX9_given 15 = .ok (.getfield 38, 3) := by decide +kernel
theorem dX9_given_18 : decode cX9_given 18 = .ok (.iconst 2, 1) := by decide +kernel
theorem dX9_given_19 : decode cX9_given 19 = .ok (.iload 4, 2) := by decide +kernel
theorem dX9_given_21 : decode cX9_given 21 = .ok (.iastore, 1) := by decide +kernel
theorem dX9_given_22 : decode cX9_given 22 = .ok (.iload_n 1, 1) := by decide +kernel
theorem dX9_given_23 : decode cX9_given 23 = .ok (.ifCond .ne 8, 3) := by decide +kernel
theorem dX9_given_26 : decode cX9_given 26 = .ok (.iload 4, 2) := by decide +kernel
theorem dX9_given_28 : decode cX9_given 28 = .ok (.goto 4, 3) := by decide +kernel
theorem dX9_given_31 : decode cX9_given 31 = .ok (.iconst 0, 1) := by decide +kernel
theorem dX9_given_32 : decode cX9_given 32 = .ok (.istore 5, 2) := by decide +kernel
theorem dX9_given_34 : decode cX9_given 34 = .ok (.aload_n 0, 1) := by decide +kernel
theorem dX9_given_35 : decode cX9_given 35 = .ok (.iload_n 1, 1) := by decide +kernel
theorem dX9_given_36 : decode cX9_given 36 = .ok (.invokevirtual 152, 3) := by decide +kernel
theorem dX9_given_39 : decode cX9_given 39 = .ok (.ifCond .eq 20, 3) := by decide +kernel
theorem dX9_given_42 : decode cX9_given 42 = .ok (.aload_n 0, 1) := by decide +kernel
theorem dX9_given_43 : decode cX9_given 43 = .ok (.sipush 138, 3) := by decide +kernel
theorem dX9_given_46 : decode cX9_given 46 = .ok (.bipush 52, 2) := by decide +kernel
theorem dX9_given_48 : decode cX9_given 48 = .ok (.iload_n 1, 1) := by decide +kernel
theorem dX9_given_49 : decode cX9_given 49 = .ok (.imul, 1) := by decide +kernel
theorem dX9_given_50 : decode cX9_given 50 = .ok (.iadd, 1) := by decide +kernel
theorem dX9_given_51 : decode cX9_given 51 = .ok (.iconst 1, 1) := by decide +kernel
theorem dX9_given_52 : decode cX9_given 52 = .ok (.iadd, 1) := by decide +kernel
theorem dX9_given_53 : decode cX9_given 53 = .ok (.invokevirtual 155, 3) := by decide +kernel
theorem dX9_given_56 : decode cX9_given 56 = .ok (.goto 5, 3) := by decide +kernel
theorem dX9_given_59 : decode cX9_given 59 = .ok (.iload 5, 2) := by decide +kernel
theorem dX9_given_61 : decode cX9_given 61 = .ok (.iconst 0, 1) := by decide +kernel
theorem dX9_given_62 : decode cX9_given 62 = .ok (.iload_n 1, 1) := by decide +kernel
theorem dX9_given_63 : decode cX9_given 63 = .ok (.ifCond .ne 8, 3) := by decide +kernel
theorem dX9_given_66 : decode cX9_given 66 = .ok (.bipush 19, 2) := by decide +kernel
theorem dX9_given_68 : decode cX9_given 68 = .ok (.goto 4, 3) := by decide +kernel
theorem dX9_given_71 : decode cX9_given 71 = .ok (.iconst 1, 1) := by decide +kernel
theorem dX9_given_72 : decode cX9_given 72 = .ok (.invokestatic 158, 3) := by decide +kernel
theorem dX9_given_75 : decode cX9_given 75 = .ok (.ireturn, 1) := by decide +kernel
theorem dX9_law_0 : decode cX9_law 0 = .ok (.iload_n 1, 1) := by decide +kernel
theorem dX9_law_1 : decode cX9_law 1 = .ok (.iconst 0, 1) := by decide +kernel
theorem dX9_law_2 : decode cX9_law 2 = .ok (.iconst 1, 1) := by decide +kernel
theorem dX9_law_3 : decode cX9_law 3 = .ok (.invokestatic 77, 3) := by decide +kernel
theorem dX9_law_6 : decode cX9_law 6 = .ok (.ifCond .eq 15, 3) := by decide +kernel
theorem dX9_law_9 : decode cX9_law 9 = .ok (.aload_n 0, 1) := by decide +kernel
theorem dX9_law_10 : decode cX9_law 10 = .ok (.iload_n 1, 1) := by decide +kernel
theorem dX9_law_11 : decode cX9_law 11 = .ok (.iload_n 2, 1) := by decide +kernel
theorem dX9_law_12 : decode cX9_law 12 = .ok (.iload_n 3, 1) := by decide +kernel
theorem dX9_law_13 : decode cX9_law 13 = .ok (.iload 4, 2) := by decide +kernel
theorem dX9_law_15 : decode cX9_law 15 = .ok (.invokevirtual 161, 3) := by decide +kernel
theorem dX9_law_18 : decode cX9_law 18 = .ok (.goto 9, 3) := by decide +kernel
theorem dX9_law_21 : decode cX9_law 21 = .ok (.aload_n 0, 1) := by decide +kernel
theorem dX9_law_22 : decode cX9_law 22 = .ok (.ldc 81, 2) := by decide +kernel
theorem dX9_law_24 : decode cX9_law 24 = .ok (.invokevirtual 82, 3) := by decide +kernel
theorem dX9_law_27 : decode cX9_law 27 = .ok (.ireturn, 1) := by decide +kernel
theorem dX9_hasBit_0 : decode cX9_hasBit 0 = .ok (.iload_n 0, 1) := by decide +kernel
theorem dX9_hasBit_1 : decode cX9_hasBit 1 = .ok (.iload_n 1, 1) := by decide +kernel
theorem dX9_hasBit_2 : decode cX9_hasBit 2 = .ok (.ishr, 1) := by decide +kernel
theorem dX9_hasBit_3 : decode cX9_hasBit 3 = .ok (.iconst 1, 1) := by decide +kernel
theorem dX9_hasBit_4 : decode cX9_hasBit 4 = .ok (.iand, 1) := by decide +kernel
theorem dX9_hasBit_5 : decode cX9_hasBit 5 = .ok (.iconst 1, 1) := by decide +kernel
theorem dX9_hasBit_6 : decode cX9_hasBit 6 = .ok (.if_icmp .ne 7, 3) := by decide +kernel
theorem dX9_hasBit_9 : decode cX9_hasBit 9 = .ok (.iconst 1, 1) := by decide +kernel
theorem dX9_hasBit_10 : decode cX9_hasBit 10 = .ok (.goto 4, 3) := by decide +kernel
theorem dX9_hasBit_13 : decode cX9_hasBit 13 = .ok (.iconst 0, 1) := by decide +kernel
theorem dX9_hasBit_14 : decode cX9_hasBit 14 = .ok (.ireturn, 1) := by decide +kernel
theorem dX9_bits_0 : decode cX9_bits 0 = .ok (.iconst 0, 1) := by decide +kernel
theorem dX9_bits_1 : decode cX9_bits 1 = .ok (.istore_n 1, 1) := by decide +kernel
theorem dX9_bits_2 : decode cX9_bits 2 = .ok (.iload_n 0, 1) := by decide +kernel
theorem dX9_bits_3 : decode cX9_bits 3 = .ok (.istore_n 2, 1) := by decide +kernel
theorem dX9_bits_4 : decode cX9_bits 4 = .ok (.iload_n 2, 1) := by decide +kernel
theorem dX9_bits_5 : decode cX9_bits 5 = .ok (.ifCond .eq 15, 3) := by decide +kernel
theorem dX9_bits_8 : decode cX9_bits 8 = .ok (.iinc 1 1, 3) := by decide +kernel
theorem dX9_bits_11 : decode cX9_bits 11 = .ok (.iload_n 2, 1) := by decide +kernel
theorem dX9_bits_12 : decode cX9_bits 12 = .ok (.iload_n 2, 1) := by decide +kernel
theorem dX9_bits_13 : decode cX9_bits 13 = .ok (.iconst 1, 1) := by decide +kernel
theorem dX9_bits_14 : decode cX9_bits 14 = .ok (.isub, 1) := by decide +kernel
theorem dX9_bits_15 : decode cX9_bits 15 = .ok (.iand, 1) := by decide +kernel
theorem dX9_bits_16 : decode cX9_bits 16 = .ok (.istore_n 2, 1) := by decide +kernel
theorem dX9_bits_17 : decode cX9_bits 17 = .ok (.goto (-13), 3) := by decide +kernel
theorem dX9_bits_20 : decode cX9_bits 20 = .ok (.iload_n 1, 1) := by decide +kernel
theorem dX9_bits_21 : decode cX9_bits 21 = .ok (.ireturn, 1) := by decide +kernel
theorem dX9_forgetDepths_0 : decode cX9_forgetDepths 0 = .ok (.iconst 0, 1) := by decide +kernel
theorem dX9_forgetDepths_1 : decode cX9_forgetDepths 1 = .ok (.istore_n 1, 1) := by decide +kernel
theorem dX9_forgetDepths_2 : decode cX9_forgetDepths 2 = .ok (.iload_n 1, 1) := by decide +kernel
theorem dX9_forgetDepths_3 : decode cX9_forgetDepths 3 = .ok (.sipush 8000, 3) := by decide +kernel
theorem dX9_forgetDepths_6 : decode cX9_forgetDepths 6 = .ok (.if_icmp .ge 16, 3) := by decide +kernel
theorem dX9_forgetDepths_9 : decode cX9_forgetDepths 9 = .ok (.aload_n 0, 1) := by decide +kernel
theorem dX9_forgetDepths_10 : decode cX9_forgetDepths 10 = .ok (.getfield 22, 3) := by decide +kernel
theorem dX9_forgetDepths_13 : decode cX9_forgetDepths 13 = .ok (.iload_n 1, 1) := by decide +kernel
theorem dX9_forgetDepths_14 : decode cX9_forgetDepths 14 = .ok (.iconst 0, 1) := by decide +kernel
theorem dX9_forgetDepths_15 : decode cX9_forgetDepths 15 = .ok (.iastore, 1) := by decide +kernel
theorem dX9_forgetDepths_16 : decode cX9_forgetDepths 16 = .ok (.iinc 1 1, 3) := by decide +kernel
theorem dX9_forgetDepths_19 : decode cX9_forgetDepths 19 = .ok (.goto (-17), 3) := by decide +kernel
theorem dX9_forgetDepths_22 : decode cX9_forgetDepths 22 = .ok (.return_, 1) := by decide +kernel
theorem dX9_isCell_0 : decode cX9_isCell 0 = .ok (.iload_n 1, 1) := by decide +kernel
theorem dX9_isCell_1 : decode cX9_isCell 1 = .ok (.iconst 0, 1) := by decide +kernel
theorem dX9_isCell_2 : decode cX9_isCell 2 = .ok (.aload_n 0, 1) := by decide +kernel
theorem dX9_isCell_3 : decode cX9_isCell 3 = .ok (.getfield 9, 3) := by decide +kernel
theorem dX9_isCell_6 : decode cX9_isCell 6 = .ok (.iconst 1, 1) := by decide +kernel
theorem dX9_isCell_7 : decode cX9_isCell 7 = .ok (.iaload, 1) := by decide +kernel
theorem dX9_isCell_8 : decode cX9_isCell 8 = .ok (.iconst 1, 1) := by decide +kernel
theorem dX9_isCell_9 : decode cX9_isCell 9 = .ok (.isub, 1) := by decide +kernel
theorem dX9_isCell_10 : decode cX9_isCell 10 = .ok (.invokestatic 77, 3) := by decide +kernel
theorem dX9_isCell_13 : decode cX9_isCell 13 = .ok (.ireturn, 1) := by decide +kernel
theorem dX9_isShip_0 : decode cX9_isShip 0 = .ok (.iload_n 1, 1) := by decide +kernel
theorem dX9_isShip_1 : decode cX9_isShip 1 = .ok (.iconst 0, 1) := by decide +kernel
theorem dX9_isShip_2 : decode cX9_isShip 2 = .ok (.aload_n 0, 1) := by decide +kernel
theorem dX9_isShip_3 : decode cX9_isShip 3 = .ok (.getfield 9, 3) := by decide +kernel
theorem dX9_isShip_6 : decode cX9_isShip 6 = .ok (.iconst 2, 1) := by decide +kernel
theorem dX9_isShip_7 : decode cX9_isShip 7 = .ok (.iaload, 1) := by decide +kernel
theorem dX9_isShip_8 : decode cX9_isShip 8 = .ok (.iconst 1, 1) := by decide +kernel
theorem dX9_isShip_9 : decode cX9_isShip 9 = .ok (.isub, 1) := by decide +kernel
theorem dX9_isShip_10 : decode cX9_isShip 10 = .ok (.invokestatic 77, 3) := by decide +kernel
theorem dX9_isShip_13 : decode cX9_isShip 13 = .ok (.ireturn, 1) := by decide +kernel
theorem dX9_isDigit_0 : decode cX9_isDigit 0 = .ok (.iload_n 0, 1) := by decide +kernel
theorem dX9_isDigit_1 : decode cX9_isDigit 1 = .ok (.iconst 0, 1) := by decide +kernel
theorem dX9_isDigit_2 : decode cX9_isDigit 2 = .ok (.bipush 9, 2) := by decide +kernel
theorem dX9_isDigit_4 : decode cX9_isDigit 4 = .ok (.invokestatic 77, 3) := by decide +kernel
theorem dX9_isDigit_7 : decode cX9_isDigit 7 = .ok (.ireturn, 1) := by decide +kernel
theorem dX9_isYear_0 : decode cX9_isYear 0 = .ok (.iload_n 0, 1) := by decide +kernel
theorem dX9_isYear_1 : decode cX9_isYear 1 = .ok (.iconst 0, 1) := by decide +kernel
theorem dX9_isYear_2 : decode cX9_isYear 2 = .ok (.sipush 999, 3) := by decide +kernel
theorem dX9_isYear_5 : decode cX9_isYear 5 = .ok (.invokestatic 77, 3) := by decide +kernel
theorem dX9_isYear_8 : decode cX9_isYear 8 = .ok (.ireturn, 1) := by decide +kernel
theorem dX9_cellAt_0 : decode cX9_cellAt 0 = .ok (.bipush 9, 2) := by decide +kernel
theorem dX9_cellAt_2 : decode cX9_cellAt 2 = .ok (.iconst 3, 1) := by decide +kernel
theorem dX9_cellAt_3 : decode cX9_cellAt 3 = .ok (.iload_n 0, 1) := by decide +kernel
theorem dX9_cellAt_4 : decode cX9_cellAt 4 = .ok (.imul, 1) := by decide +kernel
theorem dX9_cellAt_5 : decode cX9_cellAt 5 = .ok (.iadd, 1) := by decide +kernel
theorem dX9_cellAt_6 : decode cX9_cellAt 6 = .ok (.iload_n 1, 1) := by decide +kernel
theorem dX9_cellAt_7 : decode cX9_cellAt 7 = .ok (.iadd, 1) := by decide +kernel
theorem dX9_cellAt_8 : decode cX9_cellAt 8 = .ok (.ireturn, 1) := by decide +kernel
theorem dX9_cellIs_0 : decode cX9_cellIs 0 = .ok (.aload_n 0, 1) := by decide +kernel
theorem dX9_cellIs_1 : decode cX9_cellIs 1 = .ok (.getfield 9, 3) := by decide +kernel
theorem dX9_cellIs_4 : decode cX9_cellIs 4 = .ok (.iload_n 1, 1) := by decide +kernel
theorem dX9_cellIs_5 : decode cX9_cellIs 5 = .ok (.iload_n 2, 1) := by decide +kernel
theorem dX9_cellIs_6 : decode cX9_cellIs 6 = .ok (.invokestatic 165, 3) := by decide +kernel
theorem dX9_cellIs_9 : decode cX9_cellIs 9 = .ok (.iaload, 1) := by decide +kernel
theorem dX9_cellIs_10 : decode cX9_cellIs 10 = .ok (.ireturn, 1) := by decide +kernel
theorem dX9_shipAt_0 : decode cX9_shipAt 0 = .ok (.bipush 33, 2) := by decide +kernel
theorem dX9_shipAt_2 : decode cX9_shipAt 2 = .ok (.iconst 5, 1) := by decide +kernel
theorem dX9_shipAt_3 : decode cX9_shipAt 3 = .ok (.iload_n 0, 1) := by decide +kernel
theorem dX9_shipAt_4 : decode cX9_shipAt 4 = .ok (.imul, 1) := by decide +kernel
theorem dX9_shipAt_5 : decode cX9_shipAt 5 = .ok (.iadd, 1) := by decide +kernel
theorem dX9_shipAt_6 : decode cX9_shipAt 6 = .ok (.iload_n 1, 1) := by decide +kernel
theorem dX9_shipAt_7 : decode cX9_shipAt 7 = .ok (.iadd, 1) := by decide +kernel
theorem dX9_shipAt_8 : decode cX9_shipAt 8 = .ok (.ireturn, 1) := by decide +kernel
theorem dX9_shipIs_0 : decode cX9_shipIs 0 = .ok (.aload_n 0, 1) := by decide +kernel
theorem dX9_shipIs_1 : decode cX9_shipIs 1 = .ok (.getfield 9, 3) := by decide +kernel
theorem dX9_shipIs_4 : decode cX9_shipIs 4 = .ok (.iload_n 1, 1) := by decide +kernel
theorem dX9_shipIs_5 : decode cX9_shipIs 5 = .ok (.iload_n 2, 1) := by decide +kernel
theorem dX9_shipIs_6 : decode cX9_shipIs 6 = .ok (.invokestatic 168, 3) := by decide +kernel
theorem dX9_shipIs_9 : decode cX9_shipIs 9 = .ok (.iaload, 1) := by decide +kernel
theorem dX9_shipIs_10 : decode cX9_shipIs 10 = .ok (.ireturn, 1) := by decide +kernel
theorem dX9_flat_0 : decode cX9_flat 0 = .ok (.iconst 0, 1) := by decide +kernel
theorem dX9_flat_1 : decode cX9_flat 1 = .ok (.istore_n 2, 1) := by decide +kernel
theorem dX9_flat_2 : decode cX9_flat 2 = .ok (.iload_n 2, 1) := by decide +kernel
theorem dX9_flat_3 : decode cX9_flat 3 = .ok (.bipush 8, 2) := by decide +kernel
theorem dX9_flat_5 : decode cX9_flat 5 = .ok (.if_icmp .ge 42, 3) := by decide +kernel
theorem dX9_flat_8 : decode cX9_flat 8 = .ok (.aload_n 0, 1) := by decide +kernel
theorem dX9_flat_9 : decode cX9_flat 9 = .ok (.getfield 9, 3) := by decide +kernel
theorem dX9_flat_12 : decode cX9_flat 12 = .ok (.iload_n 2, 1) := by decide +kernel
theorem dX9_flat_13 : decode cX9_flat 13 = .ok (.iconst 0, 1) := by decide +kernel
theorem dX9_flat_14 : decode cX9_flat 14 = .ok (.invokestatic 165, 3) := by decide +kernel
theorem dX9_flat_17 : decode cX9_flat 17 = .ok (.iconst 5, 1) := by decide +kernel
theorem dX9_flat_18 : decode cX9_flat 18 = .ok (.iastore, 1) := by decide +kernel
theorem dX9_flat_19 : decode cX9_flat 19 = .ok (.aload_n 0, 1) := by decide +kernel
theorem dX9_flat_20 : decode cX9_flat 20 = .ok (.getfield 9, 3) := by decide +kernel
theorem dX9_flat_23 : decode cX9_flat 23 = .ok (.iload_n 2, 1) := by decide +kernel
theorem dX9_flat_24 : decode cX9_flat 24 = .ok (.iconst 1, 1) := by decide +kernel
theorem dX9_flat_25 : decode cX9_flat 25 = .ok (.invokestatic 165, 3) := by decide +kernel
theorem dX9_flat_28 : decode cX9_flat 28 = .ok (.iconst 1, 1) := by decide +kernel
theorem dX9_flat_29 : decode cX9_flat 29 = .ok (.iastore, 1) := by decide +kernel
theorem dX9_flat_30 : decode cX9_flat 30 = .ok (.aload_n 0, 1) := by decide +kernel
theorem dX9_flat_31 : decode cX9_flat 31 = .ok (.getfield 9, 3) := by decide +kernel
theorem dX9_flat_34 : decode cX9_flat 34 = .ok (.iload_n 2, 1) := by decide +kernel
theorem dX9_flat_35 : decode cX9_flat 35 = .ok (.iconst 2, 1) := by decide +kernel
theorem dX9_flat_36 : decode cX9_flat 36 = .ok (.invokestatic 165, 3) := by decide +kernel
theorem dX9_flat_39 : decode cX9_flat 39 = .ok (.iconst 0, 1) := by decide +kernel
theorem dX9_flat_40 : decode cX9_flat 40 = .ok (.iastore, 1) := by decide +kernel
theorem dX9_flat_41 : decode cX9_flat 41 = .ok (.iinc 2 1, 3) := by decide +kernel
theorem dX9_flat_44 : decode cX9_flat 44 = .ok (.goto (-42), 3) := by decide +kernel
theorem dX9_flat_47 : decode cX9_flat 47 = .ok (.aload_n 0, 1) := by decide +kernel
theorem dX9_flat_48 : decode cX9_flat 48 = .ok (.getfield 9, 3) := by decide +kernel
theorem dX9_flat_51 : decode cX9_flat 51 = .ok (.iconst 5, 1) := by decide +kernel
theorem dX9_flat_52 : decode cX9_flat 52 = .ok (.iconst 0, 1) := by decide +kernel
theorem dX9_flat_53 : decode cX9_flat 53 = .ok (.iastore, 1) := by decide +kernel
theorem dX9_flat_54 : decode cX9_flat 54 = .ok (.aload_n 0, 1) := by decide +kernel
theorem dX9_flat_55 : decode cX9_flat 55 = .ok (.invokevirtual 145, 3) := by decide +kernel
theorem dX9_flat_58 : decode cX9_flat 58 = .ok (.aload_n 0, 1) := by decide +kernel
theorem dX9_flat_59 : decode cX9_flat 59 = .ok (.iconst 1, 1) := by decide +kernel
theorem dX9_flat_60 : decode cX9_flat 60 = .ok (.iload_n 1, 1) := by decide +kernel
theorem dX9_flat_61 : decode cX9_flat 61 = .ok (.invokevirtual 171, 3) := by decide +kernel
theorem dX9_flat_64 : decode cX9_flat 64 = .ok (.ireturn, 1) := by decide +kernel
theorem dX9_bay_0 : decode cX9_bay 0 = .ok (.iload_n 1, 1) := by decide +kernel
theorem dX9_bay_1 : decode cX9_bay 1 = .ok (.iconst 3, 1) := by decide +kernel
theorem dX9_bay_2 : decode cX9_bay 2 = .ok (.bipush 8, 2) := by decide +kernel
theorem dX9_bay_4 : decode cX9_bay 4 = .ok (.invokestatic 77, 3) := by decide +kernel
theorem dX9_bay_7 : decode cX9_bay 7 = .ok (.ifCond .ne 10, 3) := by decide +kernel
theorem dX9_bay_10 : decode cX9_bay 10 = .ok (.aload_n 0, 1) := by decide +kernel
theorem dX9_bay_11 : decode cX9_bay 11 = .ok (.ldc 81, 2) := by decide +kernel
theorem dX9_bay_13 : decode cX9_bay 13 = .ok (.invokevirtual 82, 3) := by decide +kernel
theorem dX9_bay_16 : decode cX9_bay 16 = .ok (.ireturn, 1) := by decide +kernel
theorem dX9_bay_17 : decode cX9_bay 17 = .ok (.aload_n 0, 1) := by decide +kernel
theorem dX9_bay_18 : decode cX9_bay 18 = .ok (.getfield 9, 3) := by decide +kernel
theorem dX9_bay_21 : decode cX9_bay 21 = .ok (.iconst 2, 1) := by decide +kernel
theorem dX9_bay_22 : decode cX9_bay 22 = .ok (.iaload, 1) := by decide +kernel
theorem dX9_bay_23 : decode cX9_bay 23 = .ok (.ifCond .le 12, 3) := by decide +kernel
theorem dX9_bay_26 : decode cX9_bay 26 = .ok (.aload_n 0, 1) := by decide +kernel
theorem dX9_bay_27 : decode cX9_bay 27 = .ok (.ldc 174, 2) := by decide +kernel
theorem dX9_bay_29 : decode cX9_bay 29 = .ok (.invokevirtual 82, 3) := by decide +kernel
theorem dX9_bay_32 : decode cX9_bay 32 = .ok (.goto 8, 3) := by decide +kernel
theorem dX9_bay_35 : decode cX9_bay 35 = .ok (.aload_n 0, 1) := by decide +kernel
theorem dX9_bay_36 : decode cX9_bay 36 = .ok (.iload_n 1, 1) := by decide +kernel
theorem dX9_bay_37 : decode cX9_bay 37 = .ok (.invokevirtual 59, 3) := by decide +kernel
theorem dX9_bay_40 : decode cX9_bay 40 = .ok (.ireturn, 1) := by decide +kernel
theorem dX9_lay_0 : decode cX9_lay 0 = .ok (.aload_n 0, 1) := by decide +kernel
theorem dX9_lay_1 : decode cX9_lay 1 = .ok (.iload_n 1, 1) := by decide +kernel
theorem dX9_lay_2 : decode cX9_lay 2 = .ok (.invokevirtual 175, 3) := by decide +kernel
theorem dX9_lay_5 : decode cX9_lay 5 = .ok (.ifCond .eq 32, 3) := by decide +kernel
theorem dX9_lay_8 : decode cX9_lay 8 = .ok (.iload_n 2, 1) := by decide +kernel
theorem dX9_lay_9 : decode cX9_lay 9 = .ok (.iconst 0, 1) := by decide +kernel
theorem dX9_lay_10 : decode cX9_lay 10 = .ok (.iconst 2, 1) := by decide +kernel
theorem dX9_lay_11 : decode cX9_lay 11 = .ok (.invokestatic 77, 3) := by decide +kernel
theorem dX9_lay_14 : decode cX9_lay 14 = .ok (.ifCond .eq 23, 3) := by decide +kernel
theorem dX9_lay_17 : decode cX9_lay 17 = .ok (.iload_n 3, 1) := by decide +kernel
theorem dX9_lay_18 : decode cX9_lay 18 = .ok (.iconst 0, 1) := by decide +kernel
theorem dX9_lay_19 : decode cX9_lay 19 = .ok (.iload_n 2, 1) := by decide +kernel
theorem dX9_lay_20 : decode cX9_lay 20 = .ok (.ifCond .ne 8, 3) := by decide +kernel
theorem dX9_lay_23 : decode cX9_lay 23 = .ok (.bipush 9, 2) := by decide +kernel
theorem dX9_lay_25 : decode cX9_lay 25 = .ok (.goto 6, 3) := by decide +kernel
theorem dX9_lay_28 : decode cX9_lay 28 = .ok (.sipush 999, 3) := by decide +kernel
theorem dX9_lay_31 : decode cX9_lay 31 = .ok (.invokestatic 77, 3) := by decide +kernel
theorem dX9_lay_34 : decode cX9_lay 34 = .ok (.ifCond .ne 10, 3) := by decide +kernel
theorem dX9_lay_37 : decode cX9_lay 37 = .ok (.aload_n 0, 1) := by decide +kernel
theorem dX9_lay_38 : decode cX9_lay 38 = .ok (.ldc 81, 2) := by decide +kernel
theorem dX9_lay_40 : decode cX9_lay 40 = .ok (.invokevirtual 82, 3) := by decide +kernel
theorem dX9_lay_43 : decode cX9_lay 43 = .ok (.ireturn, 1) := by decide +kernel
theorem dX9_lay_44 : decode cX9_lay 44 = .ok (.aload_n 0, 1) := by decide +kernel
theorem dX9_lay_45 : decode cX9_lay 45 = .ok (.invokevirtual 145, 3) := by decide +kernel
theorem dX9_lay_48 : decode cX9_lay 48 = .ok (.aload_n 0, 1) := by decide +kernel
theorem dX9_lay_49 : decode cX9_lay 49 = .ok (.iload_n 1, 1) := by decide +kernel
theorem dX9_lay_50 : decode cX9_lay 50 = .ok (.iload_n 2, 1) := by decide +kernel
theorem dX9_lay_51 : decode cX9_lay 51 = .ok (.invokestatic 165, 3) := by decide +kernel
theorem dX9_lay_54 : decode cX9_lay 54 = .ok (.iload_n 3, 1) := by decide +kernel
theorem dX9_lay_55 : decode cX9_lay 55 = .ok (.invokevirtual 171, 3) := by decide +kernel
theorem dX9_lay_58 : decode cX9_lay 58 = .ok (.ireturn, 1) := by decide +kernel
theorem dX9_depthFor_0 : decode cX9_depthFor 0 = .ok (.aload_n 0, 1) := by decide +kernel
theorem dX9_depthFor_1 : decode cX9_depthFor 1 = .ok (.iload_n 1, 1) := by decide +kernel
theorem dX9_depthFor_2 : decode cX9_depthFor 2 = .ok (.iconst 1, 1) := by decide +kernel
theorem dX9_depthFor_3 : decode cX9_depthFor 3 = .ok (.invokevirtual 178, 3) := by decide +kernel
theorem dX9_depthFor_6 : decode cX9_depthFor 6 = .ok (.iload_n 2, 1) := by decide +kernel
theorem dX9_depthFor_7 : decode cX9_depthFor 7 = .ok (.if_icmp .gt 17, 3) := by decide +kernel
theorem dX9_depthFor_10 : decode cX9_depthFor 10 = .ok (.iload_n 2, 1) := by decide +kernel
theorem dX9_depthFor_11 : decode cX9_depthFor 11 = .ok (.aload_n 0, 1) := by decide +kernel
theorem dX9_depthFor_12 : decode cX9_depthFor 12 = .ok (.iload_n 1, 1) := by decide +kernel
theorem dX9_depthFor_13 : decode cX9_depthFor 13 = .ok (.iconst 2, 1) := by decide +kernel
theorem dX9_depthFor_14 : decode cX9_depthFor 14 = .ok (.invokevirtual 178, 3) := by decide +kernel
theorem dX9_depthFor_17 : decode cX9_depthFor 17 = .ok (.if_icmp .gt 7, 3) := by decide +kernel
theorem dX9_depthFor_20 : decode cX9_depthFor 20 = .ok (.iconst 1, 1) := by decide +kernel
theorem dX9_depthFor_21 : decode cX9_depthFor 21 = .ok (.goto 4, 3) := by decide +kernel
theorem dX9_depthFor_24 : decode cX9_depthFor 24 = .ok (.iconst 0, 1) := by decide +kernel
theorem dX9_depthFor_25 : decode cX9_depthFor 25 = .ok (.istore_n 3, 1) := by decide +kernel
theorem dX9_depthFor_26 : decode cX9_depthFor 26 = .ok (.iload_n 3, 1) := by decide +kernel
theorem dX9_depthFor_27 : decode cX9_depthFor 27 = .ok (.ifCond .eq 7, 3) := by decide +kernel
theorem dX9_depthFor_30 : decode cX9_depthFor 30 = .ok (.iconst 0, 1) := by decide +kernel
theorem dX9_depthFor_31 : decode cX9_depthFor 31 = .ok (.goto 16, 3) := by decide +kernel
theorem dX9_depthFor_34 : decode cX9_depthFor 34 = .ok (.aload_n 0, 1) := by decide +kernel
theorem dX9_depthFor_35 : decode cX9_depthFor 35 = .ok (.iconst 0, 1) := by decide +kernel
theorem dX9_depthFor_36 : decode cX9_depthFor 36 = .ok (.iload_n 1, 1) := by decide +kernel
theorem dX9_depthFor_37 : decode cX9_depthFor 37 = .ok (.iload_n 2, 1) := by decide +kernel
theorem dX9_depthFor_38 : decode cX9_depthFor 38 = .ok (.aload_n 0, 1) := by decide +kernel
theorem dX9_depthFor_39 : decode cX9_depthFor 39 = .ok (.iload_n 1, 1) := by decide +kernel
theorem dX9_depthFor_40 : decode cX9_depthFor 40 = .ok (.iconst 0, 1) := by decide +kernel
theorem dX9_depthFor_41 : decode cX9_depthFor 41 = .ok (.invokevirtual 178, 3) := by decide +kernel
theorem dX9_depthFor_44 : decode cX9_depthFor 44 = .ok (.invokevirtual 161, 3) := by decide +kernel
theorem dX9_depthFor_47 : decode cX9_depthFor 47 = .ok (.ireturn, 1) := by decide +kernel
theorem dX9_depthIn_0 : decode cX9_depthIn 0 = .ok (.iconst 0, 1) := by decide +kernel
theorem dX9_depthIn_1 : decode cX9_depthIn 1 = .ok (.iload_n 2, 1) := by decide +kernel
theorem dX9_depthIn_2 : decode cX9_depthIn 2 = .ok (.invokestatic 70, 3) := by decide +kernel
theorem dX9_depthIn_5 : decode cX9_depthIn 5 = .ok (.istore_n 3, 1) := by decide +kernel
theorem dX9_depthIn_6 : decode cX9_depthIn 6 = .ok (.sipush 1000, 3) := by decide +kernel
theorem dX9_depthIn_9 : decode cX9_depthIn 9 = .ok (.iload_n 1, 1) := by decide +kernel
theorem dX9_depthIn_10 : decode cX9_depthIn 10 = .ok (.imul, 1) := by decide +kernel
theorem dX9_depthIn_11 : decode cX9_depthIn 11 = .ok (.iload_n 3, 1) := by decide +kernel
theorem dX9_depthIn_12 : decode cX9_depthIn 12 = .ok (.iadd, 1) := by decide +kernel
theorem dX9_depthIn_13 : decode cX9_depthIn 13 = .ok (.istore 4, 2) := by decide +kernel
theorem dX9_depthIn_15 : decode cX9_depthIn 15 = .ok (.aload_n 0, 1) := by decide +kernel
theorem dX9_depthIn_16 : decode cX9_depthIn 16 = .ok (.getfield 22, 3) := by decide +kernel
theorem dX9_depthIn_19 : decode cX9_depthIn 19 = .ok (.iload 4, 2) := by decide +kernel
theorem dX9_depthIn_21 : decode cX9_depthIn 21 = .ok (.iaload, 1) := by decide +kernel
theorem dX9_depthIn_22 : decode cX9_depthIn 22 = .ok (.ifCond .ne 18, 3) := by decide +kernel
theorem dX9_depthIn_25 : decode cX9_depthIn 25 = .ok (.aload_n 0, 1) := by decide +kernel
theorem dX9_depthIn_26 : decode cX9_depthIn 26 = .ok (.getfield 22, 3) := by decide +kernel
theorem dX9_depthIn_29 : decode cX9_depthIn 29 = .ok (.iload 4, 2) := by decide +kernel
theorem dX9_depthIn_31 : decode cX9_depthIn 31 = .ok (.iconst 1, 1) := by decide +kernel
theorem dX9_depthIn_32 : decode cX9_depthIn 32 = .ok (.aload_n 0, 1) := by decide +kernel
theorem dX9_depthIn_33 : decode cX9_depthIn 33 = .ok (.iload_n 1, 1) := by decide +kernel
theorem dX9_depthIn_34 : decode cX9_depthIn 34 = .ok (.iload_n 3, 1) := by decide +kernel
theorem dX9_depthIn_35 : decode cX9_depthIn 35 = .ok (.invokevirtual 181, 3) := by decide +kernel
theorem dX9_depthIn_38 : decode cX9_depthIn 38 = .ok (.iadd, 1) := by decide +kernel
theorem dX9_depthIn_39 : decode cX9_depthIn 39 = .ok (.iastore, 1) := by decide +kernel
theorem dX9_depthIn_40 : decode cX9_depthIn 40 = .ok (.aload_n 0, 1) := by decide +kernel
theorem dX9_depthIn_41 : decode cX9_depthIn 41 = .ok (.getfield 22, 3) := by decide +kernel
theorem dX9_depthIn_44 : decode cX9_depthIn 44 = .ok (.iload 4, 2) := by decide +kernel
theorem dX9_depthIn_46 : decode cX9_depthIn 46 = .ok (.iaload, 1) := by decide +kernel
theorem dX9_depthIn_47 : decode cX9_depthIn 47 = .ok (.iconst 1, 1) := by decide +kernel
theorem dX9_depthIn_48 : decode cX9_depthIn 48 = .ok (.isub, 1) := by decide +kernel
theorem dX9_depthIn_49 : decode cX9_depthIn 49 = .ok (.ireturn, 1) := by decide +kernel
theorem dX9_trueDepth_0 : decode cX9_trueDepth 0 = .ok (.aload_n 0, 1) := by decide +kernel
theorem dX9_trueDepth_1 : decode cX9_trueDepth 1 = .ok (.iload_n 1, 1) := by decide +kernel
theorem dX9_trueDepth_2 : decode cX9_trueDepth 2 = .ok (.aload_n 0, 1) := by decide +kernel
theorem dX9_trueDepth_3 : decode cX9_trueDepth 3 = .ok (.getfield 9, 3) := by decide +kernel
theorem dX9_trueDepth_6 : decode cX9_trueDepth 6 = .ok (.iconst 3, 1) := by decide +kernel
theorem dX9_trueDepth_7 : decode cX9_trueDepth 7 = .ok (.iaload, 1) := by decide +kernel
theorem dX9_trueDepth_8 : decode cX9_trueDepth 8 = .ok (.invokevirtual 184, 3) := by decide +kernel
theorem dX9_trueDepth_11 : decode cX9_trueDepth 11 = .ok (.ireturn, 1) := by decide +kernel
theorem dX9_shown_0 : decode cX9_shown 0 = .ok (.aload_n 0, 1) := by decide +kernel
theorem dX9_shown_1 : decode cX9_shown 1 = .ok (.iload_n 1, 1) := by decide +kernel
theorem dX9_shown_2 : decode cX9_shown 2 = .ok (.aload_n 0, 1) := by decide +kernel
theorem dX9_shown_3 : decode cX9_shown 3 = .ok (.getfield 9, 3) := by decide +kernel
theorem dX9_shown_6 : decode cX9_shown 6 = .ok (.iconst 5, 1) := by decide +kernel
theorem dX9_shown_7 : decode cX9_shown 7 = .ok (.iaload, 1) := by decide +kernel
theorem dX9_shown_8 : decode cX9_shown 8 = .ok (.iload_n 1, 1) := by decide +kernel
theorem dX9_shown_9 : decode cX9_shown 9 = .ok (.invokestatic 187, 3) := by decide +kernel
theorem dX9_shown_12 : decode cX9_shown 12 = .ok (.ifCond .eq 14, 3) := by decide +kernel
theorem dX9_shown_15 : decode cX9_shown 15 = .ok (.aload_n 0, 1) := by decide +kernel
theorem dX9_shown_16 : decode cX9_shown 16 = .ok (.getfield 9, 3) := by decide +kernel
theorem dX9_shown_19 : decode cX9_shown 19 = .ok (.iconst 3, 1) := by decide +kernel
theorem dX9_shown_20 : decode cX9_shown 20 = .ok (.iaload, 1) := by decide +kernel
theorem dX9_shown_21 : decode cX9_shown 21 = .ok (.iload_n 2, 1) := by decide +kernel
theorem dX9_shown_22 : decode cX9_shown 22 = .ok (.isub, 1) := by decide +kernel
theorem dX9_shown_23 : decode cX9_shown 23 = .ok (.goto 9, 3) := by decide +kernel
theorem dX9_shown_26 : decode cX9_shown 26 = .ok (.aload_n 0, 1) := by decide +kernel
theorem dX9_shown_27 : decode cX9_shown 27 = .ok (.getfield 9, 3) := by decide +kernel
theorem dX9_shown_30 : decode cX9_shown 30 = .ok (.iconst 3, 1) := by decide +kernel
theorem dX9_shown_31 : decode cX9_shown 31 = .ok (.iaload, 1) := by decide +kernel
theorem dX9_shown_32 : decode cX9_shown 32 = .ok (.invokevirtual 184, 3) := by decide +kernel
theorem dX9_shown_35 : decode cX9_shown 35 = .ok (.ireturn, 1) := by decide +kernel
theorem dX9_shipsAt_0 : decode cX9_shipsAt 0 = .ok (.iconst 0, 1) := by decide +kernel
theorem dX9_shipsAt_1 : decode cX9_shipsAt 1 = .ok (.istore_n 2, 1) := by decide +kernel
theorem dX9_shipsAt_2 : decode cX9_shipsAt 2 = .ok (.iconst 0, 1) := by decide +kernel
theorem dX9_shipsAt_3 : decode cX9_shipsAt 3 = .ok (.istore_n 3, 1) := by decide +kernel
theorem dX9_shipsAt_4 : decode cX9_shipsAt 4 = .ok (.iload_n 3, 1) := by decide +kernel
theorem dX9_shipsAt_5 : decode cX9_shipsAt 5 = .ok (.aload_n 0, 1) := by decide +kernel
theorem dX9_shipsAt_6 : decode cX9_shipsAt 6 = .ok (.getfield 9, 3) := by decide +kernel
theorem dX9_shipsAt_9 : decode cX9_shipsAt 9 = .ok (.iconst 2, 1) := by decide +kernel
theorem dX9_shipsAt_10 : decode cX9_shipsAt 10 = .ok (.iaload, 1) := by decide +kernel
theorem dX9_shipsAt_11 : decode cX9_shipsAt 11 = .ok (.if_icmp .ge 29, 3) := by decide +kernel
theorem dX9_shipsAt_14 : decode cX9_shipsAt 14 = .ok (.iload_n 2, 1) := by decide +kernel
theorem dX9_shipsAt_15 : decode cX9_shipsAt 15 = .ok (.aload_n 0, 1) := by decide +kernel
theorem dX9_shipsAt_16 : decode cX9_shipsAt 16 = .ok (.iload_n 3, 1) := by decide +kernel
theorem dX9_shipsAt_17 : decode cX9_shipsAt 17 = .ok (.iconst 3, 1) := by decide +kernel
theorem dX9_shipsAt_18 : decode cX9_shipsAt 18 = .ok (.invokevirtual 191, 3) := by decide +kernel
theorem dX9_shipsAt_21 : decode cX9_shipsAt 21 = .ok (.iload_n 1, 1) := by decide +kernel
theorem dX9_shipsAt_22 : decode cX9_shipsAt 22 = .ok (.if_icmp .ne 9, 3) := by decide +kernel
theorem dX9_shipsAt_25 : decode cX9_shipsAt 25 = .ok (.iconst 1, 1) := by decide +kernel
theorem dX9_shipsAt_26 : decode cX9_shipsAt 26 = .ok (.iload_n 3, 1) := by decide +kernel
theorem dX9_shipsAt_27 : decode cX9_shipsAt 27 = .ok (.ishl, 1) := by decide +kernel
theorem dX9_shipsAt_28 : decode cX9_shipsAt 28 = .ok (.goto 4, 3) := by decide +kernel
theorem dX9_shipsAt_31 : decode cX9_shipsAt 31 = .ok (.iconst 0, 1) := by decide +kernel
theorem dX9_shipsAt_32 : decode cX9_shipsAt 32 = .ok (.ior, 1) := by decide +kernel
theorem dX9_shipsAt_33 : decode cX9_shipsAt 33 = .ok (.istore_n 2, 1) := by decide +kernel
theorem dX9_shipsAt_34 : decode cX9_shipsAt 34 = .ok (.iinc 3 1, 3) := by decide +kernel
theorem dX9_shipsAt_37 : decode cX9_shipsAt 37 = .ok (.goto (-33), 3) := by decide +kernel
theorem dX9_shipsAt_40 : decode cX9_shipsAt 40 = .ok (.iload_n 2, 1) := by decide +kernel
theorem dX9_shipsAt_41 : decode cX9_shipsAt 41 = .ok (.ireturn, 1) := by decide +kernel
theorem dX9_ofCell_0 : decode cX9_ofCell 0 = .ok (.aload_n 0, 1) := by decide +kernel
theorem dX9_ofCell_1 : decode cX9_ofCell 1 = .ok (.iload_n 1, 1) := by decide +kernel
theorem dX9_ofCell_2 : decode cX9_ofCell 2 = .ok (.invokevirtual 175, 3) := by decide +kernel
theorem dX9_ofCell_5 : decode cX9_ofCell 5 = .ok (.ifCond .eq 12, 3) := by decide +kernel
theorem dX9_ofCell_8 : decode cX9_ofCell 8 = .ok (.iload_n 2, 1) := by decide +kernel
theorem dX9_ofCell_9 : decode cX9_ofCell 9 = .ok (.iconst 0, 1) := by decide +kernel
theorem dX9_ofCell_10 : decode cX9_ofCell 10 = .ok (.iconst 5, 1) := by decide +kernel
theorem dX9_ofCell_11 : decode cX9_ofCell 11 = .ok (.invokestatic 77, 3) := by decide +kernel
theorem dX9_ofCell_14 : decode cX9_ofCell 14 = .ok (.ifCond .ne 10, 3) := by decide +kernel
theorem dX9_ofCell_17 : decode cX9_ofCell 17 = .ok (.aload_n 0, 1) := by decide +kernel
theorem dX9_ofCell_18 : decode cX9_ofCell 18 = .ok (.ldc 81, 2) := by decide +kernel
theorem dX9_ofCell_20 : decode cX9_ofCell 20 = .ok (.invokevirtual 82, 3) := by decide +kernel
theorem dX9_ofCell_23 : decode cX9_ofCell 23 = .ok (.ireturn, 1) := by decide +kernel
theorem dX9_ofCell_24 : decode cX9_ofCell 24 = .ok (.iload_n 2, 1) := by decide +kernel
theorem dX9_ofCell_25 : decode cX9_ofCell 25 = .ok (.iconst 3, 1) := by decide +kernel
theorem dX9_ofCell_26 : decode cX9_ofCell 26 = .ok (.if_icmp .ge 12, 3) := by decide +kernel
theorem dX9_ofCell_29 : decode cX9_ofCell 29 = .ok (.aload_n 0, 1) := by decide +kernel
theorem dX9_ofCell_30 : decode cX9_ofCell 30 = .ok (.iload_n 1, 1) := by decide +kernel
theorem dX9_ofCell_31 : decode cX9_ofCell 31 = .ok (.iload_n 2, 1) := by decide +kernel
theorem dX9_ofCell_32 : decode cX9_ofCell 32 = .ok (.invokevirtual 178, 3) := by decide +kernel
theorem dX9_ofCell_35 : decode cX9_ofCell 35 = .ok (.goto 40, 3) := by decide +kernel
theorem dX9_ofCell_38 : decode cX9_ofCell 38 = .ok (.iload_n 2, 1) := by decide +kernel
theorem dX9_ofCell_39 : decode cX9_ofCell 39 = .ok (.iconst 3, 1) := by decide +kernel
theorem dX9_ofCell_40 : decode cX9_ofCell 40 = .ok (.if_icmp .ne 11, 3) := by decide +kernel
theorem dX9_ofCell_43 : decode cX9_ofCell 43 = .ok (.aload_n 0, 1) := by decide +kernel
theorem dX9_ofCell_44 : decode cX9_ofCell 44 = .ok (.iload_n 1, 1) := by decide +kernel
theorem dX9_ofCell_45 : decode cX9_ofCell 45 = .ok (.invokevirtual 194, 3) := by decide +kernel
theorem dX9_ofCell_48 : decode cX9_ofCell 48 = .ok (.goto 27, 3) := by decide +kernel
theorem dX9_ofCell_51 : decode cX9_ofCell 51 = .ok (.iload_n 2, 1) := by decide +kernel
theorem dX9_ofCell_52 : decode cX9_ofCell 52 = .ok (.iconst 4, 1) := by decide +kernel
theorem dX9_ofCell_53 : decode cX9_ofCell 53 = .ok (.if_icmp .ne 17, 3) := by decide +kernel
theorem dX9_ofCell_56 : decode cX9_ofCell 56 = .ok (.aload_n 0, 1) := by decide +kernel
theorem dX9_ofCell_57 : decode cX9_ofCell 57 = .ok (.iload_n 1, 1) := by decide +kernel
theorem dX9_ofCell_58 : decode cX9_ofCell 58 = .ok (.aload_n 0, 1) := by decide +kernel
theorem dX9_ofCell_59 : decode cX9_ofCell 59 = .ok (.getfield 9, 3) := by decide +kernel
theorem dX9_ofCell_62 : decode cX9_ofCell 62 = .ok (.iconst 4, 1) := by decide +kernel
theorem dX9_ofCell_63 : decode cX9_ofCell 63 = .ok (.iaload, 1) := by decide +kernel
theorem dX9_ofCell_64 : decode cX9_ofCell 64 = .ok (.invokevirtual 197, 3) := by decide +kernel
theorem dX9_ofCell_67 : decode cX9_ofCell 67 = .ok (.goto 8, 3) := by decide +kernel
theorem dX9_ofCell_70 : decode cX9_ofCell 70 = .ok (.aload_n 0, 1) := by decide +kernel
theorem dX9_ofCell_71 : decode cX9_ofCell 71 = .ok (.iload_n 1, 1) := by decide +kernel
theorem dX9_ofCell_72 : decode cX9_ofCell 72 = .ok (.invokevirtual 200, 3) := by decide +kernel
theorem dX9_ofCell_75 : decode cX9_ofCell 75 = .ok (.ireturn, 1) := by decide +kernel
theorem dX9_set_0 : decode cX9_set 0 = .ok (.iload_n 1, 1) := by decide +kernel
theorem dX9_set_1 : decode cX9_set 1 = .ok (.ifCond .ne 10, 3) := by decide +kernel
theorem dX9_set_4 : decode cX9_set 4 = .ok (.iload_n 2, 1) := by decide +kernel
theorem dX9_set_5 : decode cX9_set 5 = .ok (.invokestatic 203, 3) := by decide +kernel
theorem dX9_set_8 : decode cX9_set 8 = .ok (.goto 46, 3) := by decide +kernel
theorem dX9_set_11 : decode cX9_set 11 = .ok (.iload_n 1, 1) := by decide +kernel
theorem dX9_set_12 : decode cX9_set 12 = .ok (.iconst 1, 1) := by decide +kernel
theorem dX9_set_13 : decode cX9_set 13 = .ok (.if_icmp .ne 13, 3) := by decide +kernel
theorem dX9_set_16 : decode cX9_set 16 = .ok (.iload_n 2, 1) := by decide +kernel
theorem dX9_set_17 : decode cX9_set 17 = .ok (.iconst 0, 1) := by decide +kernel
theorem dX9_set_18 : decode cX9_set 18 = .ok (.bipush 99, 2) := by decide +kernel
theorem dX9_set_20 : decode cX9_set 20 = .ok (.invokestatic 77, 3) := by decide +kernel
theorem dX9_set_23 : decode cX9_set 23 = .ok (.goto 31, 3) := by decide +kernel
theorem dX9_set_26 : decode cX9_set 26 = .ok (.iload_n 1, 1) := by decide +kernel
theorem dX9_set_27 : decode cX9_set 27 = .ok (.iconst 2, 1) := by decide +kernel
theorem dX9_set_28 : decode cX9_set 28 = .ok (.if_icmp .ne 25, 3) := by decide +kernel
theorem dX9_set_31 : decode cX9_set 31 = .ok (.iload_n 2, 1) := by decide +kernel
theorem dX9_set_32 : decode cX9_set 32 = .ok (.iconst 0, 1) := by decide +kernel
theorem dX9_set_33 : decode cX9_set 33 = .ok (.iconst 1, 1) := by decide +kernel
theorem dX9_set_34 : decode cX9_set 34 = .ok (.aload_n 0, 1) := by decide +kernel
theorem dX9_set_35 : decode cX9_set 35 = .ok (.getfield 9, 3) := by decide +kernel
theorem dX9_set_38 : decode cX9_set 38 = .ok (.iconst 1, 1) := by decide +kernel
theorem dX9_set_39 : decode cX9_set 39 = .ok (.iaload, 1) := by decide +kernel
theorem dX9_set_40 : decode cX9_set 40 = .ok (.ishl, 1) := by decide +kernel
theorem dX9_set_41 : decode cX9_set 41 = .ok (.iconst 1, 1) := by decide +kernel
theorem dX9_set_42 : decode cX9_set 42 = .ok (.isub, 1) := by decide +kernel
theorem dX9_set_43 : decode cX9_set 43 = .ok (.invokestatic 77, 3) := by decide +kernel
theorem dX9_set_46 : decode cX9_set 46 = .ok (.ifCond .eq 7, 3) := by decide +kernel
theorem dX9_set_49 : decode cX9_set 49 = .ok (.iconst 1, 1) := by decide +kernel
theorem dX9_set_50 : decode cX9_set 50 = .ok (.goto 4, 3) := by decide +kernel
theorem dX9_set_53 : decode cX9_set 53 = .ok (.iconst 0, 1) := by decide +kernel
theorem dX9_set_54 : decode cX9_set 54 = .ok (.istore_n 3, 1) := by decide +kernel
theorem dX9_set_55 : decode cX9_set 55 = .ok (.iload_n 3, 1) := by decide +kernel
theorem dX9_set_56 : decode cX9_set 56 = .ok (.ifCond .eq 14, 3) := by decide +kernel
theorem dX9_set_59 : decode cX9_set 59 = .ok (.aload_n 0, 1) := by decide +kernel
theorem dX9_set_60 : decode cX9_set 60 = .ok (.iconst 3, 1) := by decide +kernel
theorem dX9_set_61 : decode cX9_set 61 = .ok (.iload_n 1, 1) := by decide +kernel
theorem dX9_set_62 : decode cX9_set 62 = .ok (.iadd, 1) := by decide +kernel
theorem dX9_set_63 : decode cX9_set 63 = .ok (.iload_n 2, 1) := by decide +kernel
theorem dX9_set_64 : decode cX9_set 64 = .ok (.invokevirtual 171, 3) := by decide +kernel
theorem dX9_set_67 : decode cX9_set 67 = .ok (.goto 9, 3) := by decide +kernel
theorem dX9_set_70 : decode cX9_set 70 = .ok (.aload_n 0, 1) := by decide +kernel
theorem dX9_set_71 : decode cX9_set 71 = .ok (.ldc 81, 2) := by decide +kernel
theorem dX9_set_73 : decode cX9_set 73 = .ok (.invokevirtual 82, 3) := by decide +kernel
theorem dX9_set_76 : decode cX9_set 76 = .ok (.ireturn, 1) := by decide +kernel
theorem dX9_depth_0 : decode cX9_depth 0 = .ok (.aload_n 0, 1) := by decide +kernel
theorem dX9_depth_1 : decode cX9_depth 1 = .ok (.iload_n 1, 1) := by decide +kernel
theorem dX9_depth_2 : decode cX9_depth 2 = .ok (.invokevirtual 175, 3) := by decide +kernel
theorem dX9_depth_5 : decode cX9_depth 5 = .ok (.ifCond .eq 24, 3) := by decide +kernel
theorem dX9_depth_8 : decode cX9_depth 8 = .ok (.iload_n 2, 1) := by decide +kernel
theorem dX9_depth_9 : decode cX9_depth 9 = .ok (.bipush (-99), 2) := by decide +kernel
theorem dX9_depth_11 : decode cX9_depth 11 = .ok (.sipush 999, 3) := by decide +kernel
theorem dX9_depth_14 : decode cX9_depth 14 = .ok (.invokestatic 77, 3) := by decide +kernel
theorem dX9_depth_17 : decode cX9_depth 17 = .ok (.ifCond .eq 12, 3) := by decide +kernel
theorem dX9_depth_20 : decode cX9_depth 20 = .ok (.aload_n 0, 1) := by decide +kernel
theorem dX9_depth_21 : decode cX9_depth 21 = .ok (.iload_n 1, 1) := by decide +kernel
theorem dX9_depth_22 : decode cX9_depth 22 = .ok (.iload_n 2, 1) := by decide +kernel
theorem dX9_depth_23 : decode cX9_depth 23 = .ok (.invokevirtual 184, 3) := by decide +kernel
theorem dX9_depth_26 : decode cX9_depth 26 = .ok (.goto 9, 3) := by decide +kernel
theorem dX9_depth_29 : decode cX9_depth 29 = .ok (.aload_n 0, 1) := by decide +kernel
theorem dX9_depth_30 : decode cX9_depth 30 = .ok (.ldc 81, 2) := by decide +kernel
theorem dX9_depth_32 : decode cX9_depth 32 = .ok (.invokevirtual 82, 3) := by decide +kernel
theorem dX9_depth_35 : decode cX9_depth 35 = .ok (.ireturn, 1) := by decide +kernel
theorem dX9_isKindM_0 : decode cX9_isKindM 0 = .ok (.iload_n 0, 1) := by decide +kernel
theorem dX9_isKindM_1 : decode cX9_isKindM 1 = .ok (.iconst 0, 1) := by decide +kernel
theorem dX9_isKindM_2 : decode cX9_isKindM 2 = .ok (.bipush 69, 2) := by decide +kernel
theorem dX9_isKindM_4 : decode cX9_isKindM 4 = .ok (.invokestatic 77, 3) := by decide +kernel
theorem dX9_isKindM_7 : decode cX9_isKindM 7 = .ok (.ireturn, 1) := by decide +kernel
theorem dX9_shipComes_0 : decode cX9_shipComes 0 = .ok (.aload_n 0, 1) := by decide +kernel
theorem dX9_shipComes_1 : decode cX9_shipComes 1 = .ok (.getfield 9, 3) := by decide +kernel
theorem dX9_shipComes_4 : decode cX9_shipComes 4 = .ok (.iconst 2, 1) := by decide +kernel
theorem dX9_shipComes_5 : decode cX9_shipComes 5 = .ok (.iaload, 1) := by decide +kernel
theorem dX9_shipComes_6 : decode cX9_shipComes 6 = .ok (.istore 4, 2) := by decide +kernel
theorem dX9_shipComes_8 : decode cX9_shipComes 8 = .ok (.aload_n 0, 1) := by decide +kernel
theorem dX9_shipComes_9 : decode cX9_shipComes 9 = .ok (.getfield 9, 3) := by decide +kernel
theorem dX9_shipComes_12 : decode cX9_shipComes 12 = .ok (.iload 4, 2) := by decide +kernel
theorem dX9_shipComes_14 : decode cX9_shipComes 14 = .ok (.iconst 0, 1) := by decide +kernel
theorem dX9_shipComes_15 : decode cX9_shipComes 15 = .ok (.invokestatic 168, 3) := by decide +kernel
theorem dX9_shipComes_18 : decode cX9_shipComes 18 = .ok (.iload_n 1, 1) := by decide +kernel
theorem dX9_shipComes_19 : decode cX9_shipComes 19 = .ok (.bipush 10, 2) := by decide +kernel
theorem dX9_shipComes_21 : decode cX9_shipComes 21 = .ok (.idiv, 1) := by decide +kernel
theorem dX9_shipComes_22 : decode cX9_shipComes 22 = .ok (.iastore, 1) := by decide +kernel
theorem dX9_shipComes_23 : decode cX9_shipComes 23 = .ok (.aload_n 0, 1) := by decide +kernel
theorem dX9_shipComes_24 : decode cX9_shipComes 24 = .ok (.getfield 9, 3) := by decide +kernel
theorem dX9_shipComes_27 : decode cX9_shipComes 27 = .ok (.iload 4, 2) := by decide +kernel
theorem dX9_shipComes_29 : decode cX9_shipComes 29 = .ok (.iconst 1, 1) := by decide +kernel
theorem dX9_shipComes_30 : decode cX9_shipComes 30 = .ok (.invokestatic 168, 3) := by decide +kernel
theorem dX9_shipComes_33 : decode cX9_shipComes 33 = .ok (.iload_n 1, 1) := by decide +kernel
theorem dX9_shipComes_34 : decode cX9_shipComes 34 = .ok (.bipush 10, 2) := by decide +kernel
theorem dX9_shipComes_36 : decode cX9_shipComes 36 = .ok (.irem, 1) := by decide +kernel
theorem dX9_shipComes_37 : decode cX9_shipComes 37 = .ok (.iastore, 1) := by decide +kernel
theorem dX9_shipComes_38 : decode cX9_shipComes 38 = .ok (.aload_n 0, 1) := by decide +kernel
theorem dX9_shipComes_39 : decode cX9_shipComes 39 = .ok (.getfield 9, 3) := by decide +kernel
theorem dX9_shipComes_42 : decode cX9_shipComes 42 = .ok (.iload 4, 2) := by decide +kernel
theorem dX9_shipComes_44 : decode cX9_shipComes 44 = .ok (.iconst 2, 1) := by decide +kernel
theorem dX9_shipComes_45 : decode cX9_shipComes 45 = .ok (.invokestatic 168, 3) := by decide +kernel
theorem dX9_shipComes_48 : decode cX9_shipComes 48 = .ok (.iload_n 2, 1) := by decide +kernel
theorem dX9_shipComes_49 : decode cX9_shipComes 49 = .ok (.iastore, 1) := by decide +kernel
theorem dX9_shipComes_50 : decode cX9_shipComes 50 = .ok (.aload_n 0, 1) := by decide +kernel
theorem dX9_shipComes_51 : decode cX9_shipComes 51 = .ok (.getfield 9, 3) := by decide +kernel
theorem dX9_shipComes_54 : decode cX9_shipComes 54 = .ok (.iload 4, 2) := by decide +kernel
theorem dX9_shipComes_56 : decode cX9_shipComes 56 = .ok (.iconst 3, 1) := by decide +kernel
theorem dX9_shipComes_57 : decode cX9_shipComes 57 = .ok (.invokestatic 168, 3) := by decide +kernel
theorem dX9_shipComes_60 : decode cX9_shipComes 60 = .ok (.iload_n 3, 1) := by decide +kernel
theorem dX9_shipComes_61 : decode cX9_shipComes 61 = .ok (.iastore, 1) := by decide +kernel
theorem dX9_shipComes_62 : decode cX9_shipComes 62 = .ok (.aload_n 0, 1) := by decide +kernel
theorem dX9_shipComes_63 : decode cX9_shipComes 63 = .ok (.getfield 9, 3) := by decide +kernel
theorem dX9_shipComes_66 : decode cX9_shipComes 66 = .ok (.iload 4, 2) := by decide +kernel
theorem dX9_shipComes_68 : decode cX9_shipComes 68 = .ok (.iconst 4, 1) := by decide +kernel
theorem dX9_shipComes_69 : decode cX9_shipComes 69 = .ok (.invokestatic 168, 3) := by decide +kernel
theorem dX9_shipComes_72 : decode cX9_shipComes 72 = .ok (.iconst 0, 1) := by decide +kernel
theorem dX9_shipComes_73 : decode cX9_shipComes 73 = .ok (.iastore, 1) := by decide +kernel
theorem dX9_shipComes_74 : decode cX9_shipComes 74 = .ok (.aload_n 0, 1) := by decide +kernel
theorem dX9_shipComes_75 : decode cX9_shipComes 75 = .ok (.getfield 9, 3) := by decide +kernel
theorem dX9_shipComes_78 : decode cX9_shipComes 78 = .ok (.iconst 2, 1) := by decide +kernel
theorem dX9_shipComes_79 : decode cX9_shipComes 79 = .ok (.dup2, 1) := by decide +kernel
theorem dX9_shipComes_80 : decode cX9_shipComes 80 = .ok (.iaload, 1) := by decide +kernel
theorem dX9_shipComes_81 : decode cX9_shipComes 81 = .ok (.iconst 1, 1) := by decide +kernel
theorem dX9_shipComes_82 : decode cX9_shipComes 82 = .ok (.iadd, 1) := by decide +kernel
theorem dX9_shipComes_83 : decode cX9_shipComes 83 = .ok (.iastore, 1) := by decide +kernel
theorem dX9_shipComes_84 : decode cX9_shipComes 84 = .ok (.iload 4, 2) := by decide +kernel
theorem dX9_shipComes_86 : decode cX9_shipComes 86 = .ok (.ireturn, 1) := by decide +kernel
theorem dX9_ship_0 : decode cX9_ship 0 = .ok (.iload_n 1, 1) := by decide +kernel
theorem dX9_ship_1 : decode cX9_ship 1 = .ok (.invokestatic 206, 3) := by decide +kernel
theorem dX9_ship_4 : decode cX9_ship 4 = .ok (.ifCond .eq 18, 3) := by decide +kernel
theorem dX9_ship_7 : decode cX9_ship 7 = .ok (.iload_n 2, 1) := by decide +kernel
theorem dX9_ship_8 : decode cX9_ship 8 = .ok (.invokestatic 209, 3) := by decide +kernel
theorem dX9_ship_11 : decode cX9_ship 11 = .ok (.ifCond .eq 11, 3) := by decide +kernel
theorem dX9_ship_14 : decode cX9_ship 14 = .ok (.aload_n 0, 1) := by decide +kernel
theorem dX9_ship_15 : decode cX9_ship 15 = .ok (.iload_n 3, 1) := by decide +kernel
theorem dX9_ship_16 : decode cX9_ship 16 = .ok (.invokevirtual 175, 3) := by decide +kernel
theorem dX9_ship_19 : decode cX9_ship 19 = .ok (.ifCond .ne 10, 3) := by decide +kernel
theorem dX9_ship_22 : decode cX9_ship 22 = .ok (.aload_n 0, 1) := by decide +kernel
theorem dX9_ship_23 : decode cX9_ship 23 = .ok (.ldc 81, 2) := by decide +kernel
theorem dX9_ship_25 : decode cX9_ship 25 = .ok (.invokevirtual 82, 3) := by decide +kernel
theorem dX9_ship_28 : decode cX9_ship 28 = .ok (.ireturn, 1) := by decide +kernel
theorem dX9_ship_29 : decode cX9_ship 29 = .ok (.aload_n 0, 1) := by decide +kernel
theorem dX9_ship_30 : decode cX9_ship 30 = .ok (.getfield 9, 3) := by decide +kernel
theorem dX9_ship_33 : decode cX9_ship 33 = .ok (.iconst 2, 1) := by decide +kernel
theorem dX9_ship_34 : decode cX9_ship 34 = .ok (.iaload, 1) := by decide +kernel
theorem dX9_ship_35 : decode cX9_ship 35 = .ok (.bipush 7, 2) := by decide +kernel
theorem dX9_ship_37 : decode cX9_ship 37 = .ok (.if_icmp .ne 12, 3) := by decide +kernel
theorem dX9_ship_40 : decode cX9_ship 40 = .ok (.aload_n 0, 1) := by decide +kernel
theorem dX9_ship_41 : decode cX9_ship 41 = .ok (.ldc 85, 2) := by decide +kernel
theorem dX9_ship_43 : decode cX9_ship 43 = .ok (.invokevirtual 82, 3) := by decide +kernel
theorem dX9_ship_46 : decode cX9_ship 46 = .ok (.goto 10, 3) := by decide +kernel
theorem dX9_ship_49 : decode cX9_ship 49 = .ok (.aload_n 0, 1) := by decide +kernel
theorem dX9_ship_50 : decode cX9_ship 50 = .ok (.iload_n 1, 1) := by decide +kernel
theorem dX9_ship_51 : decode cX9_ship 51 = .ok (.iload_n 2, 1) := by decide +kernel
theorem dX9_ship_52 : decode cX9_ship 52 = .ok (.iload_n 3, 1) := by decide +kernel
theorem dX9_ship_53 : decode cX9_ship 53 = .ok (.invokevirtual 212, 3) := by decide +kernel
theorem dX9_ship_56 : decode cX9_ship 56 = .ok (.ireturn, 1) := by decide +kernel
theorem dX9_above_0 : decode cX9_above 0 = .ok (.iload_n 0, 1) := by decide +kernel
theorem dX9_above_1 : decode cX9_above 1 = .ok (.ifCond .ne 7, 3) := by decide +kernel
theorem dX9_above_4 : decode cX9_above 4 = .ok (.iconst (-1), 1) := by decide +kernel
theorem dX9_above_5 : decode cX9_above 5 = .ok (.goto 32, 3) := by decide +kernel
theorem dX9_above_8 : decode cX9_above 8 = .ok (.iload_n 0, 1) := by decide +kernel
theorem dX9_above_9 : decode cX9_above 9 = .ok (.iconst 4, 1) := by decide +kernel
theorem dX9_above_10 : decode cX9_above 10 = .ok (.if_icmp .ne 7, 3) := by decide +kernel
theorem dX9_above_13 : decode cX9_above 13 = .ok (.iconst 1, 1) := by decide +kernel
theorem dX9_above_14 : decode cX9_above 14 = .ok (.goto 23, 3) := by decide +kernel
theorem dX9_above_17 : decode cX9_above 17 = .ok (.iload_n 0, 1) := by decide +kernel
theorem dX9_above_18 : decode cX9_above 18 = .ok (.iconst 5, 1) := by decide +kernel
theorem dX9_above_19 : decode cX9_above 19 = .ok (.if_icmp .ne 7, 3) := by decide +kernel
theorem dX9_above_22 : decode cX9_above 22 = .ok (.iconst 2, 1) := by decide +kernel
theorem dX9_above_23 : decode cX9_above 23 = .ok (.goto 14, 3) := by decide +kernel
theorem dX9_above_26 : decode cX9_above 26 = .ok (.iload_n 0, 1) := by decide +kernel
theorem dX9_above_27 : decode cX9_above 27 = .ok (.bipush 6, 2) := by decide +kernel
theorem dX9_above_29 : decode cX9_above 29 = .ok (.if_icmp .ne 7, 3) := by decide +kernel
theorem dX9_above_32 : decode cX9_above 32 = .ok (.iconst 3, 1) := by decide +kernel
theorem dX9_above_33 : decode cX9_above 33 = .ok (.goto 4, 3) := by decide +kernel
theorem dX9_above_36 : decode cX9_above 36 = .ok (.iconst 0, 1) := by decide +kernel
theorem dX9_above_37 : decode cX9_above 37 = .ok (.ireturn, 1) := by decide +kernel
theorem dX9_isUnder_0 : decode cX9_isUnder 0 = .ok (.iload_n 0, 1) := by decide +kernel
theorem dX9_isUnder_1 : decode cX9_isUnder 1 = .ok (.istore_n 2, 1) := by decide +kernel
theorem dX9_isUnder_2 : decode cX9_isUnder 2 = .ok (.iload_n 2, 1) := by decide +kernel
theorem dX9_isUnder_3 : decode cX9_isUnder 3 = .ok (.ifCond .lt 16, 3) := by decide +kernel
theorem dX9_isUnder_6 : decode cX9_isUnder 6 = .ok (.iload_n 2, 1) := by decide +kernel
theorem dX9_isUnder_7 : decode cX9_isUnder 7 = .ok (.iload_n 1, 1) := by decide +kernel
theorem dX9_isUnder_8 : decode cX9_isUnder 8 = .ok (.if_icmp .eq 11, 3) := by decide +kernel
theorem dX9_isUnder_11 : decode cX9_isUnder 11 = .ok (.iload_n 2, 1) := by decide +kernel
theorem dX9_isUnder_12 : decode cX9_isUnder 12 = .ok (.invokestatic 215, 3) := by decide +kernel
theorem dX9_isUnder_15 : decode cX9_isUnder 15 = .ok (.istore_n 2, 1) := by decide +kernel
theorem dX9_isUnder_16 : decode cX9_isUnder 16 = .ok (.goto (-14), 3) := by decide +kernel
theorem dX9_isUnder_19 : decode cX9_isUnder 19 = .ok (.iload_n 2, 1) := by decide +kernel
theorem dX9_isUnder_20 : decode cX9_isUnder 20 = .ok (.ifCond .lt 7, 3) := by decide +kernel
theorem dX9_isUnder_23 : decode cX9_isUnder 23 = .ok (.iconst 1, 1) := by decide +kernel
theorem dX9_isUnder_24 : decode cX9_isUnder 24 = .ok (.goto 4, 3) := by decide +kernel
theorem dX9_isUnder_27 : decode cX9_isUnder 27 = .ok (.iconst 0, 1) := by decide +kernel
theorem dX9_isUnder_28 : decode cX9_isUnder 28 = .ok (.ireturn, 1) := by decide +kernel
theorem dX9_believes_0 : decode cX9_believes 0 = .ok (.aload_n 0, 1) := by decide +kernel
theorem dX9_believes_1 : decode cX9_believes 1 = .ok (.iload_n 2, 1) := by decide +kernel
theorem dX9_believes_2 : decode cX9_believes 2 = .ok (.aload_n 0, 1) := by decide +kernel
theorem dX9_believes_3 : decode cX9_believes 3 = .ok (.getfield 9, 3) := by decide +kernel
theorem dX9_believes_6 : decode cX9_believes 6 = .ok (.iconst 4, 1) := by decide +kernel
theorem dX9_believes_7 : decode cX9_believes 7 = .ok (.iaload, 1) := by decide +kernel
theorem dX9_believes_8 : decode cX9_believes 8 = .ok (.invokevirtual 197, 3) := by decide +kernel
theorem dX9_believes_11 : decode cX9_believes 11 = .ok (.istore_n 3, 1) := by decide +kernel
theorem dX9_believes_12 : decode cX9_believes 12 = .ok (.aload_n 0, 1) := by decide +kernel
theorem dX9_believes_13 : decode cX9_believes 13 = .ok (.iload_n 1, 1) := by decide +kernel
theorem dX9_believes_14 : decode cX9_believes 14 = .ok (.iconst 1, 1) := by decide +kernel
theorem dX9_believes_15 : decode cX9_believes 15 = .ok (.invokevirtual 191, 3) := by decide +kernel
theorem dX9_believes_18 : decode cX9_believes 18 = .ok (.istore 4, 2) := by decide +kernel
theorem dX9_believes_20 : decode cX9_believes 20 = .ok (.aload_n 0, 1) := by decide +kernel
theorem dX9_believes_21 : decode cX9_believes 21 = .ok (.iload_n 1, 1) := by decide +kernel
theorem dX9_believes_22 : decode cX9_believes 22 = .ok (.iconst 0, 1) := by decide +kernel
theorem dX9_believes_23 : decode cX9_believes 23 = .ok (.invokevirtual 191, 3) := by decide +kernel
theorem dX9_believes_26 : decode cX9_believes 26 = .ok (.tableswitch 102 1 6 #[38, 54, 70, 45, 60, 80], 38) := by decide +kernel
theorem dX9_believes_64 : decode cX9_believes 64 = .ok (.iload_n 3, 1) := by decide +kernel
theorem dX9_believes_65 : decode cX9_believes 65 = .ok (.iload 4, 2) := by decide +kernel
theorem dX9_believes_67 : decode cX9_believes 67 = .ok (.iconst 3, 1) := by decide +kernel
theorem dX9_believes_68 : decode cX9_believes 68 = .ok (.irem, 1) := by decide +kernel
theorem dX9_believes_69 : decode cX9_believes 69 = .ok (.iadd, 1) := by decide +kernel
theorem dX9_believes_70 : decode cX9_believes 70 = .ok (.ireturn, 1) := by decide +kernel
theorem dX9_believes_71 : decode cX9_believes 71 = .ok (.iload_n 3, 1) := by decide +kernel
theorem dX9_believes_72 : decode cX9_believes 72 = .ok (.iload 4, 2) := by decide +kernel
theorem dX9_believes_74 : decode cX9_believes 74 = .ok (.iconst 3, 1) := by decide +kernel
theorem dX9_believes_75 : decode cX9_believes 75 = .ok (.irem, 1) := by decide +kernel
theorem dX9_believes_76 : decode cX9_believes 76 = .ok (.iadd, 1) := by decide +kernel
theorem dX9_believes_77 : decode cX9_believes 77 = .ok (.iconst 1, 1) := by decide +kernel
theorem dX9_believes_78 : decode cX9_believes 78 = .ok (.isub, 1) := by decide +kernel
theorem dX9_believes_79 : decode cX9_believes 79 = .ok (.ireturn, 1) := by decide +kernel
theorem dX9_believes_80 : decode cX9_believes 80 = .ok (.aload_n 0, 1) := by decide +kernel
theorem dX9_believes_81 : decode cX9_believes 81 = .ok (.iload_n 2, 1) := by decide +kernel
theorem dX9_believes_82 : decode cX9_believes 82 = .ok (.invokevirtual 194, 3) := by decide +kernel
theorem dX9_believes_85 : decode cX9_believes 85 = .ok (.ireturn, 1) := by decide +kernel
theorem dX9_believes_86 : decode cX9_believes 86 = .ok (.aload_n 0, 1) := by decide +kernel
theorem dX9_believes_87 : decode cX9_believes 87 = .ok (.iload_n 2, 1) := by decide +kernel
theorem dX9_believes_88 : decode cX9_believes 88 = .ok (.invokevirtual 194, 3) := by decide +kernel
theorem dX9_believes_91 : decode cX9_believes 91 = .ok (.iload_n 3, 1) := by decide +kernel
theorem dX9_believes_92 : decode cX9_believes 92 = .ok (.invokestatic 70, 3) := by decide +kernel
theorem dX9_believes_95 : decode cX9_believes 95 = .ok (.ireturn, 1) := by decide +kernel
theorem dX9_believes_96 : decode cX9_believes 96 = .ok (.iload_n 3, 1) := by decide +kernel
theorem dX9_believes_97 : decode cX9_believes 97 = .ok (.aload_n 0, 1) := by decide +kernel
theorem dX9_believes_98 : decode cX9_believes 98 = .ok (.iload_n 2, 1) := by decide +kernel
theorem dX9_believes_99 : decode cX9_believes 99 = .ok (.invokevirtual 194, 3) := by decide +kernel
theorem dX9_believes_102 : decode cX9_believes 102 = .ok (.invokestatic 64, 3) := by decide +kernel
theorem dX9_believes_105 : decode cX9_believes 105 = .ok (.ireturn, 1) := by decide +kernel
theorem dX9_believes_106 : decode cX9_believes 106 = .ok (.aload_n 0, 1) := by decide +kernel
theorem dX9_believes_107 : decode cX9_believes 107 = .ok (.iload_n 2, 1) := by decide +kernel
theorem dX9_believes_108 : decode cX9_believes 108 = .ok (.iconst 2, 1) := by decide +kernel
theorem dX9_believes_109 : decode cX9_believes 109 = .ok (.aload_n 0, 1) := by decide +kernel
theorem dX9_believes_110 : decode cX9_believes 110 = .ok (.getfield 9, 3) := by decide +kernel
theorem dX9_believes_113 : decode cX9_believes 113 = .ok (.iconst 4, 1) := by decide +kernel
theorem dX9_believes_114 : decode cX9_believes 114 = .ok (.iaload, 1) := by decide +kernel
theorem dX9_believes_115 : decode cX9_believes 115 = .ok (.imul, 1) := by decide +kernel
theorem dX9_believes_116 : decode cX9_believes 116 = .ok (.invokevirtual 197, 3) := by decide +kernel
theorem dX9_believes_119 : decode cX9_believes 119 = .ok (.aload_n 0, 1) := by decide +kernel
theorem dX9_believes_120 : decode cX9_believes 120 = .ok (.iload_n 2, 1) := by decide +kernel
theorem dX9_believes_121 : decode cX9_believes 121 = .ok (.invokevirtual 194, 3) := by decide +kernel
theorem dX9_believes_124 : decode cX9_believes 124 = .ok (.invokestatic 64, 3) := by decide +kernel
theorem dX9_believes_127 : decode cX9_believes 127 = .ok (.ireturn, 1) := by decide +kernel
theorem dX9_believes_128 : decode cX9_believes 128 = .ok (.iload_n 3, 1) := by decide +kernel
theorem dX9_believes_129 : decode cX9_believes 129 = .ok (.ireturn, 1) := by decide +kernel
theorem dX9_ofShip_0 : decode cX9_ofShip 0 = .ok (.aload_n 0, 1) := by decide +kernel
theorem dX9_ofShip_1 : decode cX9_ofShip 1 = .ok (.iload_n 1, 1) := by decide +kernel
theorem dX9_ofShip_2 : decode cX9_ofShip 2 = .ok (.invokevirtual 218, 3) := by decide +kernel
theorem dX9_ofShip_5 : decode cX9_ofShip 5 = .ok (.ifCond .eq 12, 3) := by decide +kernel
theorem dX9_ofShip_8 : decode cX9_ofShip 8 = .ok (.iload_n 2, 1) := by decide +kernel
theorem dX9_ofShip_9 : decode cX9_ofShip 9 = .ok (.iconst 0, 1) := by decide +kernel
theorem dX9_ofShip_10 : decode cX9_ofShip 10 = .ok (.iconst 5, 1) := by decide +kernel
theorem dX9_ofShip_11 : decode cX9_ofShip 11 = .ok (.invokestatic 77, 3) := by decide +kernel
theorem dX9_ofShip_14 : decode cX9_ofShip 14 = .ok (.ifCond .ne 10, 3) := by decide +kernel
theorem dX9_ofShip_17 : decode cX9_ofShip 17 = .ok (.aload_n 0, 1) := by decide +kernel
theorem dX9_ofShip_18 : decode cX9_ofShip 18 = .ok (.ldc 81, 2) := by decide +kernel
theorem dX9_ofShip_20 : decode cX9_ofShip 20 = .ok (.invokevirtual 82, 3) := by decide +kernel
theorem dX9_ofShip_23 : decode cX9_ofShip 23 = .ok (.ireturn, 1) := by decide +kernel
theorem dX9_ofShip_24 : decode cX9_ofShip 24 = .ok (.aload_n 0, 1) := by decide +kernel
theorem dX9_ofShip_25 : decode cX9_ofShip 25 = .ok (.iload_n 1, 1) := by decide +kernel
theorem dX9_ofShip_26 : decode cX9_ofShip 26 = .ok (.iconst 3, 1) := by decide +kernel
theorem dX9_ofShip_27 : decode cX9_ofShip 27 = .ok (.invokevirtual 191, 3) := by decide +kernel
theorem dX9_ofShip_30 : decode cX9_ofShip 30 = .ok (.istore_n 3, 1) := by decide +kernel
theorem dX9_ofShip_31 : decode cX9_ofShip 31 = .ok (.iload_n 2, 1) := by decide +kernel
theorem dX9_ofShip_32 : decode cX9_ofShip 32 = .ok (.iconst 5, 1) := by decide +kernel
theorem dX9_ofShip_33 : decode cX9_ofShip 33 = .ok (.if_icmp .ge 12, 3) := by decide +kernel
theorem dX9_ofShip_36 : decode cX9_ofShip 36 = .ok (.aload_n 0, 1) := by decide +kernel
theorem dX9_ofShip_37 : decode cX9_ofShip 37 = .ok (.iload_n 1, 1) := by decide +kernel
theorem dX9_ofShip_38 : decode cX9_ofShip 38 = .ok (.iload_n 2, 1) := by decide +kernel
theorem dX9_ofShip_39 : decode cX9_ofShip 39 = .ok (.invokevirtual 191, 3) := by decide +kernel
theorem dX9_ofShip_42 : decode cX9_ofShip 42 = .ok (.goto 19, 3) := by decide +kernel
theorem dX9_ofShip_45 : decode cX9_ofShip 45 = .ok (.iload_n 3, 1) := by decide +kernel
theorem dX9_ofShip_46 : decode cX9_ofShip 46 = .ok (.ifCond .ne 7, 3) := by decide +kernel
theorem dX9_ofShip_49 : decode cX9_ofShip 49 = .ok (.iconst (-1), 1) := by decide +kernel
theorem dX9_ofShip_50 : decode cX9_ofShip 50 = .ok (.goto 11, 3) := by decide +kernel
theorem dX9_ofShip_53 : decode cX9_ofShip 53 = .ok (.aload_n 0, 1) := by decide +kernel
theorem dX9_ofShip_54 : decode cX9_ofShip 54 = .ok (.iload_n 1, 1) := by decide +kernel
theorem dX9_ofShip_55 : decode cX9_ofShip 55 = .ok (.iload_n 3, 1) := by decide +kernel
theorem dX9_ofShip_56 : decode cX9_ofShip 56 = .ok (.iconst 1, 1) := by decide +kernel
theorem dX9_ofShip_57 : decode cX9_ofShip 57 = .ok (.isub, 1) := by decide +kernel
theorem dX9_ofShip_58 : decode cX9_ofShip 58 = .ok (.invokevirtual 221, 3) := by decide +kernel
theorem dX9_ofShip_61 : decode cX9_ofShip 61 = .ok (.ireturn, 1) := by decide +kernel
theorem dX9_change_0 : decode cX9_change 0 = .ok (.iload_n 2, 1) := by decide +kernel
theorem dX9_change_1 : decode cX9_change 1 = .ok (.ifCond .ne 10, 3) := by decide +kernel
theorem dX9_change_4 : decode cX9_change 4 = .ok (.iload_n 3, 1) := by decide +kernel
theorem dX9_change_5 : decode cX9_change 5 = .ok (.invokestatic 209, 3) := by decide +kernel
theorem dX9_change_8 : decode cX9_change 8 = .ok (.goto 35, 3) := by decide +kernel
theorem dX9_change_11 : decode cX9_change 11 = .ok (.iload_n 2, 1) := by decide +kernel
theorem dX9_change_12 : decode cX9_change 12 = .ok (.iconst 1, 1) := by decide +kernel
theorem dX9_change_13 : decode cX9_change 13 = .ok (.if_icmp .ne 11, 3) := by decide +kernel
theorem dX9_change_16 : decode cX9_change 16 = .ok (.aload_n 0, 1) := by decide +kernel
theorem dX9_change_17 : decode cX9_change 17 = .ok (.iload_n 3, 1) := by decide +kernel
theorem dX9_change_18 : decode cX9_change 18 = .ok (.invokevirtual 175, 3) := by decide +kernel
theorem dX9_change_21 : decode cX9_change 21 = .ok (.goto 22, 3) := by decide +kernel
theorem dX9_change_24 : decode cX9_change 24 = .ok (.iload_n 2, 1) := by decide +kernel
theorem dX9_change_25 : decode cX9_change 25 = .ok (.iconst 2, 1) := by decide +kernel
theorem dX9_change_26 : decode cX9_change 26 = .ok (.if_icmp .ne 16, 3) := by decide +kernel
theorem dX9_change_29 : decode cX9_change 29 = .ok (.iload_n 3, 1) := by decide +kernel
theorem dX9_change_30 : decode cX9_change 30 = .ok (.iconst 0, 1) := by decide +kernel
theorem dX9_change_31 : decode cX9_change 31 = .ok (.iconst 1, 1) := by decide +kernel
theorem dX9_change_32 : decode cX9_change 32 = .ok (.invokestatic 77, 3) := by decide +kernel
theorem dX9_change_35 : decode cX9_change 35 = .ok (.ifCond .eq 7, 3) := by decide +kernel
theorem dX9_change_38 : decode cX9_change 38 = .ok (.iconst 1, 1) := by decide +kernel
theorem dX9_change_39 : decode cX9_change 39 = .ok (.goto 4, 3) := by decide +kernel
theorem dX9_change_42 : decode cX9_change 42 = .ok (.iconst 0, 1) := by decide +kernel
theorem dX9_change_43 : decode cX9_change 43 = .ok (.istore 4, 2) := by decide +kernel
theorem dX9_change_45 : decode cX9_change 45 = .ok (.aload_n 0, 1) := by decide +kernel
theorem dX9_change_46 : decode cX9_change 46 = .ok (.iload_n 1, 1) := by decide +kernel
theorem dX9_change_47 : decode cX9_change 47 = .ok (.invokevirtual 218, 3) := by decide +kernel
theorem dX9_change_50 : decode cX9_change 50 = .ok (.ifCond .eq 23, 3) := by decide +kernel
theorem dX9_change_53 : decode cX9_change 53 = .ok (.iload 4, 2) := by decide +kernel
theorem dX9_change_55 : decode cX9_change 55 = .ok (.ifCond .eq 18, 3) := by decide +kernel
theorem dX9_change_58 : decode cX9_change 58 = .ok (.aload_n 0, 1) := by decide +kernel
theorem dX9_change_59 : decode cX9_change 59 = .ok (.iload_n 1, 1) := by decide +kernel
theorem dX9_change_60 : decode cX9_change 60 = .ok (.iconst 2, 1) := by decide +kernel
theorem dX9_change_61 : decode cX9_change 61 = .ok (.iload_n 2, 1) := by decide +kernel
theorem dX9_change_62 : decode cX9_change 62 = .ok (.iadd, 1) := by decide +kernel
theorem dX9_change_63 : decode cX9_change 63 = .ok (.invokestatic 168, 3) := by decide +kernel
theorem dX9_change_66 : decode cX9_change 66 = .ok (.iload_n 3, 1) := by decide +kernel
theorem dX9_change_67 : decode cX9_change 67 = .ok (.invokevirtual 171, 3) := by decide +kernel
theorem dX9_change_70 : decode cX9_change 70 = .ok (.goto 9, 3) := by decide +kernel
theorem dX9_change_73 : decode cX9_change 73 = .ok (.aload_n 0, 1) := by decide +kernel
theorem dX9_change_74 : decode cX9_change 74 = .ok (.ldc 81, 2) := by decide +kernel
theorem dX9_change_76 : decode cX9_change 76 = .ok (.invokevirtual 82, 3) := by decide +kernel
theorem dX9_change_79 : decode cX9_change 79 = .ok (.ireturn, 1) := by decide +kernel
theorem dX9_become_0 : decode cX9_become 0 = .ok (.aload_n 0, 1) := by decide +kernel
theorem dX9_become_1 : decode cX9_become 1 = .ok (.iload_n 1, 1) := by decide +kernel
theorem dX9_become_2 : decode cX9_become 2 = .ok (.invokevirtual 218, 3) := by decide +kernel
theorem dX9_become_5 : decode cX9_become 5 = .ok (.ifCond .eq 10, 3) := by decide +kernel
theorem dX9_become_8 : decode cX9_become 8 = .ok (.iload_n 2, 1) := by decide +kernel
theorem dX9_become_9 : decode cX9_become 9 = .ok (.invokestatic 206, 3) := by decide +kernel
theorem dX9_become_12 : decode cX9_become 12 = .ok (.ifCond .ne 10, 3) := by decide +kernel
theorem dX9_become_15 : decode cX9_become 15 = .ok (.aload_n 0, 1) := by decide +kernel
theorem dX9_become_16 : decode cX9_become 16 = .ok (.ldc 81, 2) := by decide +kernel
theorem dX9_become_18 : decode cX9_become 18 = .ok (.invokevirtual 82, 3) := by decide +kernel
theorem dX9_become_21 : decode cX9_become 21 = .ok (.ireturn, 1) := by decide +kernel
theorem dX9_become_22 : decode cX9_become 22 = .ok (.aload_n 0, 1) := by decide +kernel
theorem dX9_become_23 : decode cX9_become 23 = .ok (.getfield 9, 3) := by decide +kernel
theorem dX9_become_26 : decode cX9_become 26 = .ok (.iload_n 1, 1) := by decide +kernel
theorem dX9_become_27 : decode cX9_become 27 = .ok (.iconst 1, 1) := by decide +kernel
theorem dX9_become_28 : decode cX9_become 28 = .ok (.invokestatic 168, 3) := by decide +kernel
theorem dX9_become_31 : decode cX9_become 31 = .ok (.iload_n 2, 1) := by decide +kernel
theorem dX9_become_32 : decode cX9_become 32 = .ok (.bipush 10, 2) := by decide +kernel
theorem dX9_become_34 : decode cX9_become 34 = .ok (.irem, 1) := by decide +kernel
theorem dX9_become_35 : decode cX9_become 35 = .ok (.iastore, 1) := by decide +kernel
theorem dX9_become_36 : decode cX9_become 36 = .ok (.aload_n 0, 1) := by decide +kernel
theorem dX9_become_37 : decode cX9_become 37 = .ok (.iload_n 1, 1) := by decide +kernel
theorem dX9_become_38 : decode cX9_become 38 = .ok (.iconst 0, 1) := by decide +kernel
theorem dX9_become_39 : decode cX9_become 39 = .ok (.invokestatic 168, 3) := by decide +kernel
theorem dX9_become_42 : decode cX9_become 42 = .ok (.iload_n 2, 1) := by decide +kernel
theorem dX9_become_43 : decode cX9_become 43 = .ok (.bipush 10, 2) := by decide +kernel
theorem dX9_become_45 : decode cX9_become 45 = .ok (.idiv, 1) := by decide +kernel
theorem dX9_become_46 : decode cX9_become 46 = .ok (.invokevirtual 171, 3) := by decide +kernel
theorem dX9_become_49 : decode cX9_become 49 = .ok (.ireturn, 1) := by decide +kernel
theorem dX9_as_0 : decode cX9_as 0 = .ok (.aload_n 0, 1) := by decide +kernel
theorem dX9_as_1 : decode cX9_as 1 = .ok (.iload_n 1, 1) := by decide +kernel
theorem dX9_as_2 : decode cX9_as 2 = .ok (.invokevirtual 218, 3) := by decide +kernel
theorem dX9_as_5 : decode cX9_as 5 = .ok (.ifCond .eq 13, 3) := by decide +kernel
theorem dX9_as_8 : decode cX9_as 8 = .ok (.iload_n 2, 1) := by decide +kernel
theorem dX9_as_9 : decode cX9_as 9 = .ok (.iconst 0, 1) := by decide +kernel
theorem dX9_as_10 : decode cX9_as 10 = .ok (.bipush 6, 2) := by decide +kernel
theorem dX9_as_12 : decode cX9_as 12 = .ok (.invokestatic 77, 3) := by decide +kernel
theorem dX9_as_15 : decode cX9_as 15 = .ok (.ifCond .ne 10, 3) := by decide +kernel
theorem dX9_as_18 : decode cX9_as 18 = .ok (.aload_n 0, 1) := by decide +kernel
theorem dX9_as_19 : decode cX9_as 19 = .ok (.ldc 81, 2) := by decide +kernel
theorem dX9_as_21 : decode cX9_as 21 = .ok (.invokevirtual 82, 3) := by decide +kernel
theorem dX9_as_24 : decode cX9_as 24 = .ok (.ireturn, 1) := by decide +kernel
theorem dX9_as_25 : decode cX9_as 25 = .ok (.aload_n 0, 1) := by decide +kernel
theorem dX9_as_26 : decode cX9_as 26 = .ok (.iload_n 1, 1) := by decide +kernel
theorem dX9_as_27 : decode cX9_as 27 = .ok (.iconst 0, 1) := by decide +kernel
theorem dX9_as_28 : decode cX9_as 28 = .ok (.invokevirtual 191, 3) := by decide +kernel
theorem dX9_as_31 : decode cX9_as 31 = .ok (.iload_n 2, 1) := by decide +kernel
theorem dX9_as_32 : decode cX9_as 32 = .ok (.invokestatic 224, 3) := by decide +kernel
theorem dX9_as_35 : decode cX9_as 35 = .ok (.ifCond .eq 12, 3) := by decide +kernel
theorem dX9_as_38 : decode cX9_as 38 = .ok (.aload_n 0, 1) := by decide +kernel
theorem dX9_as_39 : decode cX9_as 39 = .ok (.iload_n 1, 1) := by decide +kernel
theorem dX9_as_40 : decode cX9_as 40 = .ok (.iconst 1, 1) := by decide +kernel
theorem dX9_as_41 : decode cX9_as 41 = .ok (.invokevirtual 191, 3) := by decide +kernel
theorem dX9_as_44 : decode cX9_as 44 = .ok (.goto 9, 3) := by decide +kernel
theorem dX9_as_47 : decode cX9_as 47 = .ok (.aload_n 0, 1) := by decide +kernel
theorem dX9_as_48 : decode cX9_as 48 = .ok (.ldc 227, 2) := by decide +kernel
theorem dX9_as_50 : decode cX9_as 50 = .ok (.invokevirtual 82, 3) := by decide +kernel
theorem dX9_as_53 : decode cX9_as 53 = .ok (.ireturn, 1) := by decide +kernel
theorem dX9_sails_0 : decode cX9_sails 0 = .ok (.aload_n 0, 1) := by decide +kernel
theorem dX9_sails_1 : decode cX9_sails 1 = .ok (.iload_n 1, 1) := by decide +kernel
theorem dX9_sails_2 : decode cX9_sails 2 = .ok (.iconst 3, 1) := by decide +kernel
theorem dX9_sails_3 : decode cX9_sails 3 = .ok (.invokevirtual 191, 3) := by decide +kernel
theorem dX9_sails_6 : decode cX9_sails 6 = .ok (.istore_n 2, 1) := by decide +kernel
theorem dX9_sails_7 : decode cX9_sails 7 = .ok (.aload_n 0, 1) := by decide +kernel
theorem dX9_sails_8 : decode cX9_sails 8 = .ok (.iload_n 1, 1) := by decide +kernel
theorem dX9_sails_9 : decode cX9_sails 9 = .ok (.iload_n 2, 1) := by decide +kernel
theorem dX9_sails_10 : decode cX9_sails 10 = .ok (.iconst 1, 1) := by decide +kernel
theorem dX9_sails_11 : decode cX9_sails 11 = .ok (.isub, 1) := by decide +kernel
theorem dX9_sails_12 : decode cX9_sails 12 = .ok (.invokevirtual 221, 3) := by decide +kernel
theorem dX9_sails_15 : decode cX9_sails 15 = .ok (.aload_n 0, 1) := by decide +kernel
theorem dX9_sails_16 : decode cX9_sails 16 = .ok (.iload_n 1, 1) := by decide +kernel
theorem dX9_sails_17 : decode cX9_sails 17 = .ok (.iconst 2, 1) := by decide +kernel
theorem dX9_sails_18 : decode cX9_sails 18 = .ok (.invokevirtual 191, 3) := by decide +kernel
theorem dX9_sails_21 : decode cX9_sails 21 = .ok (.if_icmp .lt 50, 3) := by decide +kernel
theorem dX9_sails_24 : decode cX9_sails 24 = .ok (.aload_n 0, 1) := by decide +kernel
theorem dX9_sails_25 : decode cX9_sails 25 = .ok (.getfield 9, 3) := by decide +kernel
theorem dX9_sails_28 : decode cX9_sails 28 = .ok (.iload_n 1, 1) := by decide +kernel
theorem dX9_sails_29 : decode cX9_sails 29 = .ok (.iconst 3, 1) := by decide +kernel
theorem dX9_sails_30 : decode cX9_sails 30 = .ok (.invokestatic 168, 3) := by decide +kernel
theorem dX9_sails_33 : decode cX9_sails 33 = .ok (.iload_n 2, 1) := by decide +kernel
theorem dX9_sails_34 : decode cX9_sails 34 = .ok (.iconst 1, 1) := by decide +kernel
theorem dX9_sails_35 : decode cX9_sails 35 = .ok (.isub, 1) := by decide +kernel
theorem dX9_sails_36 : decode cX9_sails 36 = .ok (.iastore, 1) := by decide +kernel
theorem dX9_sails_37 : decode cX9_sails 37 = .ok (.aload_n 0, 1) := by decide +kernel
theorem dX9_sails_38 : decode cX9_sails 38 = .ok (.getfield 9, 3) := by decide +kernel
theorem dX9_sails_41 : decode cX9_sails 41 = .ok (.iload_n 1, 1) := by decide +kernel
theorem dX9_sails_42 : decode cX9_sails 42 = .ok (.iconst 4, 1) := by decide +kernel
theorem dX9_sails_43 : decode cX9_sails 43 = .ok (.invokestatic 168, 3) := by decide +kernel
theorem dX9_sails_46 : decode cX9_sails 46 = .ok (.aload_n 0, 1) := by decide +kernel
theorem dX9_sails_47 : decode cX9_sails 47 = .ok (.iload_n 2, 1) := by decide +kernel
theorem dX9_sails_48 : decode cX9_sails 48 = .ok (.iconst 1, 1) := by decide +kernel
theorem dX9_sails_49 : decode cX9_sails 49 = .ok (.isub, 1) := by decide +kernel
theorem dX9_sails_50 : decode cX9_sails 50 = .ok (.invokevirtual 194, 3) := by decide +kernel
theorem dX9_sails_53 : decode cX9_sails 53 = .ok (.aload_n 0, 1) := by decide +kernel
theorem dX9_sails_54 : decode cX9_sails 54 = .ok (.iload_n 1, 1) := by decide +kernel
theorem dX9_sails_55 : decode cX9_sails 55 = .ok (.iconst 2, 1) := by decide +kernel
theorem dX9_sails_56 : decode cX9_sails 56 = .ok (.invokevirtual 191, 3) := by decide +kernel
theorem dX9_sails_59 : decode cX9_sails 59 = .ok (.if_icmp .ge 7, 3) := by decide +kernel
theorem dX9_sails_62 : decode cX9_sails 62 = .ok (.iconst 1, 1) := by decide +kernel
theorem dX9_sails_63 : decode cX9_sails 63 = .ok (.goto 4, 3) := by decide +kernel
theorem dX9_sails_66 : decode cX9_sails 66 = .ok (.iconst 0, 1) := by decide +kernel
theorem dX9_sails_67 : decode cX9_sails 67 = .ok (.iastore, 1) := by decide +kernel
theorem dX9_sails_68 : decode cX9_sails 68 = .ok (.goto 53, 3) := by decide +kernel
theorem dX9_sails_71 : decode cX9_sails 71 = .ok (.aload_n 0, 1) := by decide +kernel
theorem dX9_sails_72 : decode cX9_sails 72 = .ok (.iconst 1, 1) := by decide +kernel
theorem dX9_sails_73 : decode cX9_sails 73 = .ok (.aload_n 0, 1) := by decide +kernel
