theorem dX9_sails_74 : decode cX9_sails 74 = .ok (.iload_n 1, 1) := by decide +kernel
theorem dX9_sails_75 : decode cX9_sails 75 = .ok (.iconst 2, 1) := by decide +kernel
theorem dX9_sails_76 : decode cX9_sails 76 = .ok (.invokevirtual 191, 3) := by decide +kernel
theorem dX9_sails_79 : decode cX9_sails 79 = .ok (.aload_n 0, 1) := by decide +kernel
theorem dX9_sails_80 : decode cX9_sails 80 = .ok (.iload_n 1, 1) := by decide +kernel
theorem dX9_sails_81 : decode cX9_sails 81 = .ok (.iconst 1, 1) := by decide +kernel
theorem dX9_sails_82 : decode cX9_sails 82 = .ok (.invokevirtual 191, 3) := by decide +kernel
theorem dX9_sails_85 : decode cX9_sails 85 = .ok (.aload_n 0, 1) := by decide +kernel
theorem dX9_sails_86 : decode cX9_sails 86 = .ok (.getfield 9, 3) := by decide +kernel
theorem dX9_sails_89 : decode cX9_sails 89 = .ok (.iconst 0, 1) := by decide +kernel
theorem dX9_sails_90 : decode cX9_sails 90 = .ok (.iaload, 1) := by decide +kernel
theorem dX9_sails_91 : decode cX9_sails 91 = .ok (.invokevirtual 161, 3) := by decide +kernel
theorem dX9_sails_94 : decode cX9_sails 94 = .ok (.iconst 1, 1) := by decide +kernel
theorem dX9_sails_95 : decode cX9_sails 95 = .ok (.if_icmp .ne 26, 3) := by decide +kernel
theorem dX9_sails_98 : decode cX9_sails 98 = .ok (.aload_n 0, 1) := by decide +kernel
theorem dX9_sails_99 : decode cX9_sails 99 = .ok (.iload_n 2, 1) := by decide +kernel
theorem dX9_sails_100 : decode cX9_sails 100 = .ok (.iconst 1, 1) := by decide +kernel
theorem dX9_sails_101 : decode cX9_sails 101 = .ok (.iadd, 1) := by decide +kernel
theorem dX9_sails_102 : decode cX9_sails 102 = .ok (.invokevirtual 175, 3) := by decide +kernel
theorem dX9_sails_105 : decode cX9_sails 105 = .ok (.ifCond .eq 16, 3) := by decide +kernel
theorem dX9_sails_108 : decode cX9_sails 108 = .ok (.aload_n 0, 1) := by decide +kernel
theorem dX9_sails_109 : decode cX9_sails 109 = .ok (.getfield 9, 3) := by decide +kernel
theorem dX9_sails_112 : decode cX9_sails 112 = .ok (.iload_n 1, 1) := by decide +kernel
theorem dX9_sails_113 : decode cX9_sails 113 = .ok (.iconst 3, 1) := by decide +kernel
theorem dX9_sails_114 : decode cX9_sails 114 = .ok (.invokestatic 168, 3) := by decide +kernel
theorem dX9_sails_117 : decode cX9_sails 117 = .ok (.iload_n 2, 1) := by decide +kernel
theorem dX9_sails_118 : decode cX9_sails 118 = .ok (.iconst 1, 1) := by decide +kernel
theorem dX9_sails_119 : decode cX9_sails 119 = .ok (.iadd, 1) := by decide +kernel
theorem dX9_sails_120 : decode cX9_sails 120 = .ok (.iastore, 1) := by decide +kernel
theorem dX9_sails_121 : decode cX9_sails 121 = .ok (.return_, 1) := by decide +kernel
theorem dX9_hour_0 : decode cX9_hour 0 = .ok (.iconst 0, 1) := by decide +kernel
theorem dX9_hour_1 : decode cX9_hour 1 = .ok (.istore_n 1, 1) := by decide +kernel
theorem dX9_hour_2 : decode cX9_hour 2 = .ok (.iload_n 1, 1) := by decide +kernel
theorem dX9_hour_3 : decode cX9_hour 3 = .ok (.aload_n 0, 1) := by decide +kernel
theorem dX9_hour_4 : decode cX9_hour 4 = .ok (.getfield 9, 3) := by decide +kernel
theorem dX9_hour_7 : decode cX9_hour 7 = .ok (.iconst 2, 1) := by decide +kernel
theorem dX9_hour_8 : decode cX9_hour 8 = .ok (.iaload, 1) := by decide +kernel
theorem dX9_hour_9 : decode cX9_hour 9 = .ok (.if_icmp .ge 32, 3) := by decide +kernel
theorem dX9_hour_12 : decode cX9_hour 12 = .ok (.aload_n 0, 1) := by decide +kernel
theorem dX9_hour_13 : decode cX9_hour 13 = .ok (.iload_n 1, 1) := by decide +kernel
theorem dX9_hour_14 : decode cX9_hour 14 = .ok (.iconst 4, 1) := by decide +kernel
theorem dX9_hour_15 : decode cX9_hour 15 = .ok (.invokevirtual 191, 3) := by decide +kernel
theorem dX9_hour_18 : decode cX9_hour 18 = .ok (.ifCond .ne 17, 3) := by decide +kernel
theorem dX9_hour_21 : decode cX9_hour 21 = .ok (.aload_n 0, 1) := by decide +kernel
theorem dX9_hour_22 : decode cX9_hour 22 = .ok (.iload_n 1, 1) := by decide +kernel
theorem dX9_hour_23 : decode cX9_hour 23 = .ok (.iconst 3, 1) := by decide +kernel
theorem dX9_hour_24 : decode cX9_hour 24 = .ok (.invokevirtual 191, 3) := by decide +kernel
theorem dX9_hour_27 : decode cX9_hour 27 = .ok (.ifCond .le 8, 3) := by decide +kernel
theorem dX9_hour_30 : decode cX9_hour 30 = .ok (.aload_n 0, 1) := by decide +kernel
theorem dX9_hour_31 : decode cX9_hour 31 = .ok (.iload_n 1, 1) := by decide +kernel
theorem dX9_hour_32 : decode cX9_hour 32 = .ok (.invokevirtual 228, 3) := by decide +kernel
theorem dX9_hour_35 : decode cX9_hour 35 = .ok (.iinc 1 1, 3) := by decide +kernel
theorem dX9_hour_38 : decode cX9_hour 38 = .ok (.goto (-36), 3) := by decide +kernel
theorem dX9_hour_41 : decode cX9_hour 41 = .ok (.aload_n 0, 1) := by decide +kernel
theorem dX9_hour_42 : decode cX9_hour 42 = .ok (.getfield 9, 3) := by decide +kernel
theorem dX9_hour_45 : decode cX9_hour 45 = .ok (.iconst 0, 1) := by decide +kernel
theorem dX9_hour_46 : decode cX9_hour 46 = .ok (.dup2, 1) := by decide +kernel
theorem dX9_hour_47 : decode cX9_hour 47 = .ok (.iaload, 1) := by decide +kernel
theorem dX9_hour_48 : decode cX9_hour 48 = .ok (.iconst 1, 1) := by decide +kernel
theorem dX9_hour_49 : decode cX9_hour 49 = .ok (.iadd, 1) := by decide +kernel
theorem dX9_hour_50 : decode cX9_hour 50 = .ok (.iastore, 1) := by decide +kernel
theorem dX9_hour_51 : decode cX9_hour 51 = .ok (.return_, 1) := by decide +kernel
theorem dX9_hoursGo_0 : decode cX9_hoursGo 0 = .ok (.iconst 0, 1) := by decide +kernel
theorem dX9_hoursGo_1 : decode cX9_hoursGo 1 = .ok (.istore_n 2, 1) := by decide +kernel
theorem dX9_hoursGo_2 : decode cX9_hoursGo 2 = .ok (.iload_n 2, 1) := by decide +kernel
theorem dX9_hoursGo_3 : decode cX9_hoursGo 3 = .ok (.iload_n 1, 1) := by decide +kernel
theorem dX9_hoursGo_4 : decode cX9_hoursGo 4 = .ok (.if_icmp .ge 13, 3) := by decide +kernel
theorem dX9_hoursGo_7 : decode cX9_hoursGo 7 = .ok (.aload_n 0, 1) := by decide +kernel
theorem dX9_hoursGo_8 : decode cX9_hoursGo 8 = .ok (.invokevirtual 231, 3) := by decide +kernel
theorem dX9_hoursGo_11 : decode cX9_hoursGo 11 = .ok (.iinc 2 1, 3) := by decide +kernel
theorem dX9_hoursGo_14 : decode cX9_hoursGo 14 = .ok (.goto (-12), 3) := by decide +kernel
theorem dX9_hoursGo_17 : decode cX9_hoursGo 17 = .ok (.return_, 1) := by decide +kernel
theorem dX9_manyIn_0 : decode cX9_manyIn 0 = .ok (.aload_n 0, 1) := by decide +kernel
theorem dX9_manyIn_1 : decode cX9_manyIn 1 = .ok (.iconst 0, 1) := by decide +kernel
theorem dX9_manyIn_2 : decode cX9_manyIn 2 = .ok (.invokevirtual 200, 3) := by decide +kernel
theorem dX9_manyIn_5 : decode cX9_manyIn 5 = .ok (.invokestatic 234, 3) := by decide +kernel
theorem dX9_manyIn_8 : decode cX9_manyIn 8 = .ok (.ireturn, 1) := by decide +kernel
theorem dX9_hours_0 : decode cX9_hours 0 = .ok (.iload_n 1, 1) := by decide +kernel
theorem dX9_hours_1 : decode cX9_hours 1 = .ok (.iconst 1, 1) := by decide +kernel
theorem dX9_hours_2 : decode cX9_hours 2 = .ok (.bipush 60, 2) := by decide +kernel
theorem dX9_hours_4 : decode cX9_hours 4 = .ok (.invokestatic 77, 3) := by decide +kernel
theorem dX9_hours_7 : decode cX9_hours 7 = .ok (.ifCond .ne 10, 3) := by decide +kernel
theorem dX9_hours_10 : decode cX9_hours 10 = .ok (.aload_n 0, 1) := by decide +kernel
theorem dX9_hours_11 : decode cX9_hours 11 = .ok (.ldc 81, 2) := by decide +kernel
theorem dX9_hours_13 : decode cX9_hours 13 = .ok (.invokevirtual 82, 3) := by decide +kernel
theorem dX9_hours_16 : decode cX9_hours 16 = .ok (.ireturn, 1) := by decide +kernel
theorem dX9_hours_17 : decode cX9_hours 17 = .ok (.aload_n 0, 1) := by decide +kernel
theorem dX9_hours_18 : decode cX9_hours 18 = .ok (.getfield 9, 3) := by decide +kernel
theorem dX9_hours_21 : decode cX9_hours 21 = .ok (.iconst 0, 1) := by decide +kernel
theorem dX9_hours_22 : decode cX9_hours 22 = .ok (.iaload, 1) := by decide +kernel
theorem dX9_hours_23 : decode cX9_hours 23 = .ok (.iload_n 1, 1) := by decide +kernel
theorem dX9_hours_24 : decode cX9_hours 24 = .ok (.iadd, 1) := by decide +kernel
theorem dX9_hours_25 : decode cX9_hours 25 = .ok (.sipush 9999, 3) := by decide +kernel
theorem dX9_hours_28 : decode cX9_hours 28 = .ok (.if_icmp .le 10, 3) := by decide +kernel
theorem dX9_hours_31 : decode cX9_hours 31 = .ok (.aload_n 0, 1) := by decide +kernel
theorem dX9_hours_32 : decode cX9_hours 32 = .ok (.ldc 174, 2) := by decide +kernel
theorem dX9_hours_34 : decode cX9_hours 34 = .ok (.invokevirtual 82, 3) := by decide +kernel
theorem dX9_hours_37 : decode cX9_hours 37 = .ok (.ireturn, 1) := by decide +kernel
theorem dX9_hours_38 : decode cX9_hours 38 = .ok (.aload_n 0, 1) := by decide +kernel
theorem dX9_hours_39 : decode cX9_hours 39 = .ok (.iload_n 1, 1) := by decide +kernel
theorem dX9_hours_40 : decode cX9_hours 40 = .ok (.invokevirtual 237, 3) := by decide +kernel
theorem dX9_hours_43 : decode cX9_hours 43 = .ok (.aload_n 0, 1) := by decide +kernel
theorem dX9_hours_44 : decode cX9_hours 44 = .ok (.invokevirtual 240, 3) := by decide +kernel
theorem dX9_hours_47 : decode cX9_hours 47 = .ok (.ireturn, 1) := by decide +kernel
theorem dX9_drawn_0 : decode cX9_drawn 0 = .ok (.aload_n 0, 1) := by decide +kernel
theorem dX9_drawn_1 : decode cX9_drawn 1 = .ok (.getfield 9, 3) := by decide +kernel
theorem dX9_drawn_4 : decode cX9_drawn 4 = .ok (.bipush 6, 2) := by decide +kernel
theorem dX9_drawn_6 : decode cX9_drawn 6 = .ok (.aload_n 0, 1) := by decide +kernel
theorem dX9_drawn_7 : decode cX9_drawn 7 = .ok (.getfield 9, 3) := by decide +kernel
theorem dX9_drawn_10 : decode cX9_drawn 10 = .ok (.bipush 6, 2) := by decide +kernel
theorem dX9_drawn_12 : decode cX9_drawn 12 = .ok (.iaload, 1) := by decide +kernel
theorem dX9_drawn_13 : decode cX9_drawn 13 = .ok (.ldc 243, 2) := by decide +kernel
theorem dX9_drawn_15 : decode cX9_drawn 15 = .ok (.imul, 1) := by decide +kernel
theorem dX9_drawn_16 : decode cX9_drawn 16 = .ok (.sipush 12345, 3) := by decide +kernel
theorem dX9_drawn_19 : decode cX9_drawn 19 = .ok (.iadd, 1) := by decide +kernel
theorem dX9_drawn_20 : decode cX9_drawn 20 = .ok (.iastore, 1) := by decide +kernel
theorem dX9_drawn_21 : decode cX9_drawn 21 = .ok (.aload_n 0, 1) := by decide +kernel
theorem dX9_drawn_22 : decode cX9_drawn 22 = .ok (.getfield 9, 3) := by decide +kernel
theorem dX9_drawn_25 : decode cX9_drawn 25 = .ok (.bipush 6, 2) := by decide +kernel
theorem dX9_drawn_27 : decode cX9_drawn 27 = .ok (.iaload, 1) := by decide +kernel
theorem dX9_drawn_28 : decode cX9_drawn 28 = .ok (.bipush 8, 2) := by decide +kernel
theorem dX9_drawn_30 : decode cX9_drawn 30 = .ok (.iushr, 1) := by decide +kernel
theorem dX9_drawn_31 : decode cX9_drawn 31 = .ok (.ireturn, 1) := by decide +kernel
theorem dX9_loose_0 : decode cX9_loose 0 = .ok (.iload_n 1, 1) := by decide +kernel
theorem dX9_loose_1 : decode cX9_loose 1 = .ok (.iconst 1, 1) := by decide +kernel
theorem dX9_loose_2 : decode cX9_loose 2 = .ok (.bipush 40, 2) := by decide +kernel
theorem dX9_loose_4 : decode cX9_loose 4 = .ok (.invokestatic 77, 3) := by decide +kernel
theorem dX9_loose_7 : decode cX9_loose 7 = .ok (.ifCond .ne 10, 3) := by decide +kernel
theorem dX9_loose_10 : decode cX9_loose 10 = .ok (.aload_n 0, 1) := by decide +kernel
theorem dX9_loose_11 : decode cX9_loose 11 = .ok (.ldc 81, 2) := by decide +kernel
theorem dX9_loose_13 : decode cX9_loose 13 = .ok (.invokevirtual 82, 3) := by decide +kernel
theorem dX9_loose_16 : decode cX9_loose 16 = .ok (.ireturn, 1) := by decide +kernel
theorem dX9_loose_17 : decode cX9_loose 17 = .ok (.aload_n 0, 1) := by decide +kernel
theorem dX9_loose_18 : decode cX9_loose 18 = .ok (.getfield 9, 3) := by decide +kernel
theorem dX9_loose_21 : decode cX9_loose 21 = .ok (.iconst 0, 1) := by decide +kernel
theorem dX9_loose_22 : decode cX9_loose 22 = .ok (.iaload, 1) := by decide +kernel
theorem dX9_loose_23 : decode cX9_loose 23 = .ok (.iload_n 1, 1) := by decide +kernel
theorem dX9_loose_24 : decode cX9_loose 24 = .ok (.iadd, 1) := by decide +kernel
theorem dX9_loose_25 : decode cX9_loose 25 = .ok (.sipush 9999, 3) := by decide +kernel
theorem dX9_loose_28 : decode cX9_loose 28 = .ok (.if_icmp .le 10, 3) := by decide +kernel
theorem dX9_loose_31 : decode cX9_loose 31 = .ok (.aload_n 0, 1) := by decide +kernel
theorem dX9_loose_32 : decode cX9_loose 32 = .ok (.ldc 174, 2) := by decide +kernel
theorem dX9_loose_34 : decode cX9_loose 34 = .ok (.invokevirtual 82, 3) := by decide +kernel
theorem dX9_loose_37 : decode cX9_loose 37 = .ok (.ireturn, 1) := by decide +kernel
theorem dX9_loose_38 : decode cX9_loose 38 = .ok (.iconst 0, 1) := by decide +kernel
theorem dX9_loose_39 : decode cX9_loose 39 = .ok (.istore_n 2, 1) := by decide +kernel
theorem dX9_loose_40 : decode cX9_loose 40 = .ok (.iload_n 2, 1) := by decide +kernel
theorem dX9_loose_41 : decode cX9_loose 41 = .ok (.iload_n 1, 1) := by decide +kernel
theorem dX9_loose_42 : decode cX9_loose 42 = .ok (.if_icmp .ge 26, 3) := by decide +kernel
theorem dX9_loose_45 : decode cX9_loose 45 = .ok (.aload_n 0, 1) := by decide +kernel
theorem dX9_loose_46 : decode cX9_loose 46 = .ok (.getfield 9, 3) := by decide +kernel
theorem dX9_loose_49 : decode cX9_loose 49 = .ok (.iconst 4, 1) := by decide +kernel
theorem dX9_loose_50 : decode cX9_loose 50 = .ok (.aload_n 0, 1) := by decide +kernel
theorem dX9_loose_51 : decode cX9_loose 51 = .ok (.invokevirtual 244, 3) := by decide +kernel
theorem dX9_loose_54 : decode cX9_loose 54 = .ok (.bipush 100, 2) := by decide +kernel
theorem dX9_loose_56 : decode cX9_loose 56 = .ok (.irem, 1) := by decide +kernel
theorem dX9_loose_57 : decode cX9_loose 57 = .ok (.iastore, 1) := by decide +kernel
theorem dX9_loose_58 : decode cX9_loose 58 = .ok (.aload_n 0, 1) := by decide +kernel
theorem dX9_loose_59 : decode cX9_loose 59 = .ok (.invokevirtual 231, 3) := by decide +kernel
theorem dX9_loose_62 : decode cX9_loose 62 = .ok (.iinc 2 1, 3) := by decide +kernel
theorem dX9_loose_65 : decode cX9_loose 65 = .ok (.goto (-25), 3) := by decide +kernel
theorem dX9_loose_68 : decode cX9_loose 68 = .ok (.aload_n 0, 1) := by decide +kernel
theorem dX9_loose_69 : decode cX9_loose 69 = .ok (.invokevirtual 240, 3) := by decide +kernel
theorem dX9_loose_72 : decode cX9_loose 72 = .ok (.ireturn, 1) := by decide +kernel
theorem dX9_isBehind_0 : decode cX9_isBehind 0 = .ok (.iload_n 0, 1) := by decide +kernel
theorem dX9_isBehind_1 : decode cX9_isBehind 1 = .ok (.iconst 0, 1) := by decide +kernel
theorem dX9_isBehind_2 : decode cX9_isBehind 2 = .ok (.bipush 60, 2) := by decide +kernel
theorem dX9_isBehind_4 : decode cX9_isBehind 4 = .ok (.invokestatic 77, 3) := by decide +kernel
theorem dX9_isBehind_7 : decode cX9_isBehind 7 = .ok (.ireturn, 1) := by decide +kernel
theorem dX9_then_0 : decode cX9_then 0 = .ok (.iload_n 1, 1) := by decide +kernel
theorem dX9_then_1 : decode cX9_then 1 = .ok (.invokestatic 247, 3) := by decide +kernel
theorem dX9_then_4 : decode cX9_then 4 = .ok (.ifCond .eq 20, 3) := by decide +kernel
theorem dX9_then_7 : decode cX9_then 7 = .ok (.aload_n 0, 1) := by decide +kernel
theorem dX9_then_8 : decode cX9_then 8 = .ok (.iload_n 2, 1) := by decide +kernel
theorem dX9_then_9 : decode cX9_then 9 = .ok (.invokevirtual 218, 3) := by decide +kernel
theorem dX9_then_12 : decode cX9_then 12 = .ok (.ifCond .eq 12, 3) := by decide +kernel
theorem dX9_then_15 : decode cX9_then 15 = .ok (.iload_n 3, 1) := by decide +kernel
theorem dX9_then_16 : decode cX9_then 16 = .ok (.iconst 0, 1) := by decide +kernel
theorem dX9_then_17 : decode cX9_then 17 = .ok (.iconst 1, 1) := by decide +kernel
theorem dX9_then_18 : decode cX9_then 18 = .ok (.invokestatic 77, 3) := by decide +kernel
theorem dX9_then_21 : decode cX9_then 21 = .ok (.ifCond .ne 10, 3) := by decide +kernel
theorem dX9_then_24 : decode cX9_then 24 = .ok (.aload_n 0, 1) := by decide +kernel
theorem dX9_then_25 : decode cX9_then 25 = .ok (.ldc 81, 2) := by decide +kernel
theorem dX9_then_27 : decode cX9_then 27 = .ok (.invokevirtual 82, 3) := by decide +kernel
theorem dX9_then_30 : decode cX9_then 30 = .ok (.ireturn, 1) := by decide +kernel
theorem dX9_then_31 : decode cX9_then 31 = .ok (.aload_n 0, 1) := by decide +kernel
theorem dX9_then_32 : decode cX9_then 32 = .ok (.getfield 9, 3) := by decide +kernel
theorem dX9_then_35 : decode cX9_then 35 = .ok (.aload_n 0, 1) := by decide +kernel
theorem dX9_then_36 : decode cX9_then 36 = .ok (.getfield 16, 3) := by decide +kernel
theorem dX9_then_39 : decode cX9_then 39 = .ok (.invokestatic 73, 3) := by decide +kernel
theorem dX9_then_42 : decode cX9_then 42 = .ok (.aload_n 0, 1) := by decide +kernel
theorem dX9_then_43 : decode cX9_then 43 = .ok (.iload_n 1, 1) := by decide +kernel
theorem dX9_then_44 : decode cX9_then 44 = .ok (.invokevirtual 237, 3) := by decide +kernel
theorem dX9_then_47 : decode cX9_then 47 = .ok (.aload_n 0, 1) := by decide +kernel
theorem dX9_then_48 : decode cX9_then 48 = .ok (.aload_n 0, 1) := by decide +kernel
theorem dX9_then_49 : decode cX9_then 49 = .ok (.iload_n 2, 1) := by decide +kernel
theorem dX9_then_50 : decode cX9_then 50 = .ok (.iload_n 3, 1) := by decide +kernel
theorem dX9_then_51 : decode cX9_then 51 = .ok (.ifCond .ne 7, 3) := by decide +kernel
theorem dX9_then_54 : decode cX9_then 54 = .ok (.iconst 3, 1) := by decide +kernel
theorem dX9_then_55 : decode cX9_then 55 = .ok (.goto 4, 3) := by decide +kernel
theorem dX9_then_58 : decode cX9_then 58 = .ok (.iconst 4, 1) := by decide +kernel
theorem dX9_then_59 : decode cX9_then 59 = .ok (.invokevirtual 191, 3) := by decide +kernel
theorem dX9_then_62 : decode cX9_then 62 = .ok (.invokevirtual 250, 3) := by decide +kernel
theorem dX9_then_65 : decode cX9_then 65 = .ok (.ireturn, 1) := by decide +kernel
theorem dX9_lostNow_0 : decode cX9_lostNow 0 = .ok (.iconst 0, 1) := by decide +kernel
theorem dX9_lostNow_1 : decode cX9_lostNow 1 = .ok (.istore_n 1, 1) := by decide +kernel
theorem dX9_lostNow_2 : decode cX9_lostNow 2 = .ok (.iconst 0, 1) := by decide +kernel
theorem dX9_lostNow_3 : decode cX9_lostNow 3 = .ok (.istore_n 2, 1) := by decide +kernel
theorem dX9_lostNow_4 : decode cX9_lostNow 4 = .ok (.iload_n 2, 1) := by decide +kernel
theorem dX9_lostNow_5 : decode cX9_lostNow 5 = .ok (.aload_n 0, 1) := by decide +kernel
theorem dX9_lostNow_6 : decode cX9_lostNow 6 = .ok (.getfield 9, 3) := by decide +kernel
theorem dX9_lostNow_9 : decode cX9_lostNow 9 = .ok (.iconst 2, 1) := by decide +kernel
theorem dX9_lostNow_10 : decode cX9_lostNow 10 = .ok (.iaload, 1) := by decide +kernel
theorem dX9_lostNow_11 : decode cX9_lostNow 11 = .ok (.if_icmp .ge 20, 3) := by decide +kernel
theorem dX9_lostNow_14 : decode cX9_lostNow 14 = .ok (.iload_n 1, 1) := by decide +kernel
theorem dX9_lostNow_15 : decode cX9_lostNow 15 = .ok (.aload_n 0, 1) := by decide +kernel
theorem dX9_lostNow_16 : decode cX9_lostNow 16 = .ok (.iload_n 2, 1) := by decide +kernel
theorem dX9_lostNow_17 : decode cX9_lostNow 17 = .ok (.iconst 4, 1) := by decide +kernel
theorem dX9_lostNow_18 : decode cX9_lostNow 18 = .ok (.invokevirtual 191, 3) := by decide +kernel
theorem dX9_lostNow_21 : decode cX9_lostNow 21 = .ok (.iload_n 2, 1) := by decide +kernel
theorem dX9_lostNow_22 : decode cX9_lostNow 22 = .ok (.ishl, 1) := by decide +kernel
theorem dX9_lostNow_23 : decode cX9_lostNow 23 = .ok (.ior, 1) := by decide +kernel
theorem dX9_lostNow_24 : decode cX9_lostNow 24 = .ok (.istore_n 1, 1) := by decide +kernel
theorem dX9_lostNow_25 : decode cX9_lostNow 25 = .ok (.iinc 2 1, 3) := by decide +kernel
theorem dX9_lostNow_28 : decode cX9_lostNow 28 = .ok (.goto (-24), 3) := by decide +kernel
theorem dX9_lostNow_31 : decode cX9_lostNow 31 = .ok (.iload_n 1, 1) := by decide +kernel
theorem dX9_lostNow_32 : decode cX9_lostNow 32 = .ok (.ireturn, 1) := by decide +kernel
theorem dX9_lost_0 : decode cX9_lost 0 = .ok (.iload_n 1, 1) := by decide +kernel
theorem dX9_lost_1 : decode cX9_lost 1 = .ok (.iconst 0, 1) := by decide +kernel
theorem dX9_lost_2 : decode cX9_lost 2 = .ok (.iconst 1, 1) := by decide +kernel
theorem dX9_lost_3 : decode cX9_lost 3 = .ok (.invokestatic 77, 3) := by decide +kernel
theorem dX9_lost_6 : decode cX9_lost 6 = .ok (.ifCond .ne 10, 3) := by decide +kernel
theorem dX9_lost_9 : decode cX9_lost 9 = .ok (.aload_n 0, 1) := by decide +kernel
theorem dX9_lost_10 : decode cX9_lost 10 = .ok (.ldc 81, 2) := by decide +kernel
theorem dX9_lost_12 : decode cX9_lost 12 = .ok (.invokevirtual 82, 3) := by decide +kernel
theorem dX9_lost_15 : decode cX9_lost 15 = .ok (.ireturn, 1) := by decide +kernel
theorem dX9_lost_16 : decode cX9_lost 16 = .ok (.aload_n 0, 1) := by decide +kernel
theorem dX9_lost_17 : decode cX9_lost 17 = .ok (.getfield 9, 3) := by decide +kernel
theorem dX9_lost_20 : decode cX9_lost 20 = .ok (.aload_n 0, 1) := by decide +kernel
theorem dX9_lost_21 : decode cX9_lost 21 = .ok (.getfield 16, 3) := by decide +kernel
theorem dX9_lost_24 : decode cX9_lost 24 = .ok (.invokestatic 73, 3) := by decide +kernel
theorem dX9_lost_27 : decode cX9_lost 27 = .ok (.aload_n 0, 1) := by decide +kernel
theorem dX9_lost_28 : decode cX9_lost 28 = .ok (.invokevirtual 253, 3) := by decide +kernel
theorem dX9_lost_31 : decode cX9_lost 31 = .ok (.istore_n 2, 1) := by decide +kernel
theorem dX9_lost_32 : decode cX9_lost 32 = .ok (.iconst 0, 1) := by decide +kernel
theorem dX9_lost_33 : decode cX9_lost 33 = .ok (.istore_n 3, 1) := by decide +kernel
theorem dX9_lost_34 : decode cX9_lost 34 = .ok (.iload_n 3, 1) := by decide +kernel
theorem dX9_lost_35 : decode cX9_lost 35 = .ok (.bipush 60, 2) := by decide +kernel
theorem dX9_lost_37 : decode cX9_lost 37 = .ok (.if_icmp .ge 21, 3) := by decide +kernel
theorem dX9_lost_40 : decode cX9_lost 40 = .ok (.aload_n 0, 1) := by decide +kernel
theorem dX9_lost_41 : decode cX9_lost 41 = .ok (.invokevirtual 253, 3) := by decide +kernel
theorem dX9_lost_44 : decode cX9_lost 44 = .ok (.iload_n 2, 1) := by decide +kernel
theorem dX9_lost_45 : decode cX9_lost 45 = .ok (.if_icmp .ne 13, 3) := by decide +kernel
theorem dX9_lost_48 : decode cX9_lost 48 = .ok (.aload_n 0, 1) := by decide +kernel
theorem dX9_lost_49 : decode cX9_lost 49 = .ok (.invokevirtual 231, 3) := by decide +kernel
theorem dX9_lost_52 : decode cX9_lost 52 = .ok (.iinc 3 1, 3) := by decide +kernel
theorem dX9_lost_55 : decode cX9_lost 55 = .ok (.goto (-21), 3) := by decide +kernel
theorem dX9_lost_58 : decode cX9_lost 58 = .ok (.aload_n 0, 1) := by decide +kernel
theorem dX9_lost_59 : decode cX9_lost 59 = .ok (.invokevirtual 253, 3) := by decide +kernel
theorem dX9_lost_62 : decode cX9_lost 62 = .ok (.iload_n 2, 1) := by decide +kernel
theorem dX9_lost_63 : decode cX9_lost 63 = .ok (.iconst (-1), 1) := by decide +kernel
theorem dX9_lost_64 : decode cX9_lost 64 = .ok (.ixor, 1) := by decide +kernel
theorem dX9_lost_65 : decode cX9_lost 65 = .ok (.iand, 1) := by decide +kernel
theorem dX9_lost_66 : decode cX9_lost 66 = .ok (.istore 4, 2) := by decide +kernel
theorem dX9_lost_68 : decode cX9_lost 68 = .ok (.aload_n 0, 1) := by decide +kernel
theorem dX9_lost_69 : decode cX9_lost 69 = .ok (.getfield 16, 3) := by decide +kernel
theorem dX9_lost_72 : decode cX9_lost 72 = .ok (.aload_n 0, 1) := by decide +kernel
theorem dX9_lost_73 : decode cX9_lost 73 = .ok (.getfield 9, 3) := by decide +kernel
theorem dX9_lost_76 : decode cX9_lost 76 = .ok (.invokestatic 73, 3) := by decide +kernel
theorem dX9_lost_79 : decode cX9_lost 79 = .ok (.iload 4, 2) := by decide +kernel
theorem dX9_lost_81 : decode cX9_lost 81 = .ok (.ifCond .ne 13, 3) := by decide +kernel
theorem dX9_lost_84 : decode cX9_lost 84 = .ok (.aload_n 0, 1) := by decide +kernel
theorem dX9_lost_85 : decode cX9_lost 85 = .ok (.ldc_w 256, 3) := by decide +kernel
theorem dX9_lost_88 : decode cX9_lost 88 = .ok (.invokevirtual 82, 3) := by decide +kernel
theorem dX9_lost_91 : decode cX9_lost 91 = .ok (.goto 22, 3) := by decide +kernel
theorem dX9_lost_94 : decode cX9_lost 94 = .ok (.iload_n 1, 1) := by decide +kernel
theorem dX9_lost_95 : decode cX9_lost 95 = .ok (.ifCond .ne 7, 3) := by decide +kernel
theorem dX9_lost_98 : decode cX9_lost 98 = .ok (.iload_n 3, 1) := by decide +kernel
theorem dX9_lost_99 : decode cX9_lost 99 = .ok (.goto 14, 3) := by decide +kernel
theorem dX9_lost_102 : decode cX9_lost 102 = .ok (.iload 4, 2) := by decide +kernel
theorem dX9_lost_104 : decode cX9_lost 104 = .ok (.iload 4, 2) := by decide +kernel
theorem dX9_lost_106 : decode cX9_lost 106 = .ok (.ineg, 1) := by decide +kernel
theorem dX9_lost_107 : decode cX9_lost 107 = .ok (.iand, 1) := by decide +kernel
theorem dX9_lost_108 : decode cX9_lost 108 = .ok (.iconst 1, 1) := by decide +kernel
theorem dX9_lost_109 : decode cX9_lost 109 = .ok (.isub, 1) := by decide +kernel
theorem dX9_lost_110 : decode cX9_lost 110 = .ok (.invokestatic 234, 3) := by decide +kernel
theorem dX9_lost_113 : decode cX9_lost 113 = .ok (.ireturn, 1) := by decide +kernel
theorem dX9_inBehind_0 : decode cX9_inBehind 0 = .ok (.aload_n 0, 1) := by decide +kernel
theorem dX9_inBehind_1 : decode cX9_inBehind 1 = .ok (.iload_n 1, 1) := by decide +kernel
theorem dX9_inBehind_2 : decode cX9_inBehind 2 = .ok (.invokevirtual 237, 3) := by decide +kernel
theorem dX9_inBehind_5 : decode cX9_inBehind 5 = .ok (.aload_n 0, 1) := by decide +kernel
theorem dX9_inBehind_6 : decode cX9_inBehind 6 = .ok (.aload_n 0, 1) := by decide +kernel
theorem dX9_inBehind_7 : decode cX9_inBehind 7 = .ok (.iconst 0, 1) := by decide +kernel
theorem dX9_inBehind_8 : decode cX9_inBehind 8 = .ok (.invokevirtual 200, 3) := by decide +kernel
theorem dX9_inBehind_11 : decode cX9_inBehind 11 = .ok (.invokevirtual 250, 3) := by decide +kernel
theorem dX9_inBehind_14 : decode cX9_inBehind 14 = .ok (.ireturn, 1) := by decide +kernel
theorem dX9_setting_0 : decode cX9_setting 0 = .ok (.iload_n 1, 1) := by decide +kernel
theorem dX9_setting_1 : decode cX9_setting 1 = .ok (.iconst 0, 1) := by decide +kernel
theorem dX9_setting_2 : decode cX9_setting 2 = .ok (.iconst 1, 1) := by decide +kernel
theorem dX9_setting_3 : decode cX9_setting 3 = .ok (.aload_n 0, 1) := by decide +kernel
theorem dX9_setting_4 : decode cX9_setting 4 = .ok (.getfield 9, 3) := by decide +kernel
theorem dX9_setting_7 : decode cX9_setting 7 = .ok (.iconst 2, 1) := by decide +kernel
theorem dX9_setting_8 : decode cX9_setting 8 = .ok (.iaload, 1) := by decide +kernel
theorem dX9_setting_9 : decode cX9_setting 9 = .ok (.ishl, 1) := by decide +kernel
theorem dX9_setting_10 : decode cX9_setting 10 = .ok (.iconst 1, 1) := by decide +kernel
theorem dX9_setting_11 : decode cX9_setting 11 = .ok (.isub, 1) := by decide +kernel
theorem dX9_setting_12 : decode cX9_setting 12 = .ok (.invokestatic 77, 3) := by decide +kernel
theorem dX9_setting_15 : decode cX9_setting 15 = .ok (.ifCond .eq 13, 3) := by decide +kernel
theorem dX9_setting_18 : decode cX9_setting 18 = .ok (.iload_n 2, 1) := by decide +kernel
theorem dX9_setting_19 : decode cX9_setting 19 = .ok (.iconst 0, 1) := by decide +kernel
theorem dX9_setting_20 : decode cX9_setting 20 = .ok (.bipush 20, 2) := by decide +kernel
theorem dX9_setting_22 : decode cX9_setting 22 = .ok (.invokestatic 77, 3) := by decide +kernel
theorem dX9_setting_25 : decode cX9_setting 25 = .ok (.ifCond .ne 10, 3) := by decide +kernel
theorem dX9_setting_28 : decode cX9_setting 28 = .ok (.aload_n 0, 1) := by decide +kernel
theorem dX9_setting_29 : decode cX9_setting 29 = .ok (.ldc 81, 2) := by decide +kernel
theorem dX9_setting_31 : decode cX9_setting 31 = .ok (.invokevirtual 82, 3) := by decide +kernel
theorem dX9_setting_34 : decode cX9_setting 34 = .ok (.ireturn, 1) := by decide +kernel
theorem dX9_setting_35 : decode cX9_setting 35 = .ok (.aload_n 0, 1) := by decide +kernel
theorem dX9_setting_36 : decode cX9_setting 36 = .ok (.getfield 9, 3) := by decide +kernel
theorem dX9_setting_39 : decode cX9_setting 39 = .ok (.aload_n 0, 1) := by decide +kernel
theorem dX9_setting_40 : decode cX9_setting 40 = .ok (.getfield 16, 3) := by decide +kernel
theorem dX9_setting_43 : decode cX9_setting 43 = .ok (.invokestatic 73, 3) := by decide +kernel
theorem dX9_setting_46 : decode cX9_setting 46 = .ok (.iconst (-1), 1) := by decide +kernel
theorem dX9_setting_47 : decode cX9_setting 47 = .ok (.istore_n 3, 1) := by decide +kernel
theorem dX9_setting_48 : decode cX9_setting 48 = .ok (.iconst 0, 1) := by decide +kernel
theorem dX9_setting_49 : decode cX9_setting 49 = .ok (.istore 4, 2) := by decide +kernel
theorem dX9_setting_51 : decode cX9_setting 51 = .ok (.iload 4, 2) := by decide +kernel
theorem dX9_setting_53 : decode cX9_setting 53 = .ok (.bipush 99, 2) := by decide +kernel
theorem dX9_setting_55 : decode cX9_setting 55 = .ok (.if_icmp .gt 40, 3) := by decide +kernel
theorem dX9_setting_58 : decode cX9_setting 58 = .ok (.iload_n 3, 1) := by decide +kernel
theorem dX9_setting_59 : decode cX9_setting 59 = .ok (.ifCond .ge 36, 3) := by decide +kernel
theorem dX9_setting_62 : decode cX9_setting 62 = .ok (.aload_n 0, 1) := by decide +kernel
theorem dX9_setting_63 : decode cX9_setting 63 = .ok (.getfield 9, 3) := by decide +kernel
theorem dX9_setting_66 : decode cX9_setting 66 = .ok (.iconst 4, 1) := by decide +kernel
theorem dX9_setting_67 : decode cX9_setting 67 = .ok (.iload 4, 2) := by decide +kernel
theorem dX9_setting_69 : decode cX9_setting 69 = .ok (.iastore, 1) := by decide +kernel
theorem dX9_setting_70 : decode cX9_setting 70 = .ok (.iload_n 1, 1) := by decide +kernel
theorem dX9_setting_71 : decode cX9_setting 71 = .ok (.aload_n 0, 1) := by decide +kernel
theorem dX9_setting_72 : decode cX9_setting 72 = .ok (.iload_n 2, 1) := by decide +kernel
theorem dX9_setting_73 : decode cX9_setting 73 = .ok (.invokevirtual 257, 3) := by decide +kernel
theorem dX9_setting_76 : decode cX9_setting 76 = .ok (.iconst (-1), 1) := by decide +kernel
theorem dX9_setting_77 : decode cX9_setting 77 = .ok (.ixor, 1) := by decide +kernel
theorem dX9_setting_78 : decode cX9_setting 78 = .ok (.iand, 1) := by decide +kernel
theorem dX9_setting_79 : decode cX9_setting 79 = .ok (.ifCond .ne 8, 3) := by decide +kernel
theorem dX9_setting_82 : decode cX9_setting 82 = .ok (.iload 4, 2) := by decide +kernel
theorem dX9_setting_84 : decode cX9_setting 84 = .ok (.goto 4, 3) := by decide +kernel
theorem dX9_setting_87 : decode cX9_setting 87 = .ok (.iconst (-1), 1) := by decide +kernel
theorem dX9_setting_88 : decode cX9_setting 88 = .ok (.istore_n 3, 1) := by decide +kernel
theorem dX9_setting_89 : decode cX9_setting 89 = .ok (.iinc 4 1, 3) := by decide +kernel
theorem dX9_setting_92 : decode cX9_setting 92 = .ok (.goto (-41), 3) := by decide +kernel
theorem dX9_setting_95 : decode cX9_setting 95 = .ok (.iload_n 3, 1) := by decide +kernel
theorem dX9_setting_96 : decode cX9_setting 96 = .ok (.ifCond .ge 13, 3) := by decide +kernel
theorem dX9_setting_99 : decode cX9_setting 99 = .ok (.aload_n 0, 1) := by decide +kernel
theorem dX9_setting_100 : decode cX9_setting 100 = .ok (.ldc_w 256, 3) := by decide +kernel
theorem dX9_setting_103 : decode cX9_setting 103 = .ok (.invokevirtual 82, 3) := by decide +kernel
theorem dX9_setting_106 : decode cX9_setting 106 = .ok (.goto 4, 3) := by decide +kernel
theorem dX9_setting_109 : decode cX9_setting 109 = .ok (.iload_n 3, 1) := by decide +kernel
theorem dX9_setting_110 : decode cX9_setting 110 = .ok (.ireturn, 1) := by decide +kernel
theorem dX9_falseBy_0 : decode cX9_falseBy 0 = .ok (.iconst 0, 1) := by decide +kernel
theorem dX9_falseBy_1 : decode cX9_falseBy 1 = .ok (.istore_n 2, 1) := by decide +kernel
theorem dX9_falseBy_2 : decode cX9_falseBy 2 = .ok (.iconst 0, 1) := by decide +kernel
theorem dX9_falseBy_3 : decode cX9_falseBy 3 = .ok (.istore_n 3, 1) := by decide +kernel
theorem dX9_falseBy_4 : decode cX9_falseBy 4 = .ok (.iload_n 3, 1) := by decide +kernel
theorem dX9_falseBy_5 : decode cX9_falseBy 5 = .ok (.aload_n 0, 1) := by decide +kernel
theorem dX9_falseBy_6 : decode cX9_falseBy 6 = .ok (.getfield 9, 3) := by decide +kernel
theorem dX9_falseBy_9 : decode cX9_falseBy 9 = .ok (.iconst 1, 1) := by decide +kernel
theorem dX9_falseBy_10 : decode cX9_falseBy 10 = .ok (.iaload, 1) := by decide +kernel
theorem dX9_falseBy_11 : decode cX9_falseBy 11 = .ok (.if_icmp .ge 38, 3) := by decide +kernel
theorem dX9_falseBy_14 : decode cX9_falseBy 14 = .ok (.iload_n 2, 1) := by decide +kernel
theorem dX9_falseBy_15 : decode cX9_falseBy 15 = .ok (.aload_n 0, 1) := by decide +kernel
theorem dX9_falseBy_16 : decode cX9_falseBy 16 = .ok (.iload_n 3, 1) := by decide +kernel
theorem dX9_falseBy_17 : decode cX9_falseBy 17 = .ok (.aload_n 0, 1) := by decide +kernel
theorem dX9_falseBy_18 : decode cX9_falseBy 18 = .ok (.getfield 9, 3) := by decide +kernel
theorem dX9_falseBy_21 : decode cX9_falseBy 21 = .ok (.iconst 3, 1) := by decide +kernel
theorem dX9_falseBy_22 : decode cX9_falseBy 22 = .ok (.iaload, 1) := by decide +kernel
theorem dX9_falseBy_23 : decode cX9_falseBy 23 = .ok (.iload_n 1, 1) := by decide +kernel
theorem dX9_falseBy_24 : decode cX9_falseBy 24 = .ok (.isub, 1) := by decide +kernel
theorem dX9_falseBy_25 : decode cX9_falseBy 25 = .ok (.invokevirtual 184, 3) := by decide +kernel
theorem dX9_falseBy_28 : decode cX9_falseBy 28 = .ok (.aload_n 0, 1) := by decide +kernel
theorem dX9_falseBy_29 : decode cX9_falseBy 29 = .ok (.iload_n 3, 1) := by decide +kernel
theorem dX9_falseBy_30 : decode cX9_falseBy 30 = .ok (.invokevirtual 194, 3) := by decide +kernel
theorem dX9_falseBy_33 : decode cX9_falseBy 33 = .ok (.if_icmp .ne 7, 3) := by decide +kernel
theorem dX9_falseBy_36 : decode cX9_falseBy 36 = .ok (.iconst 0, 1) := by decide +kernel
theorem dX9_falseBy_37 : decode cX9_falseBy 37 = .ok (.goto 4, 3) := by decide +kernel
theorem dX9_falseBy_40 : decode cX9_falseBy 40 = .ok (.iconst 1, 1) := by decide +kernel
theorem dX9_falseBy_41 : decode cX9_falseBy 41 = .ok (.iadd, 1) := by decide +kernel
theorem dX9_falseBy_42 : decode cX9_falseBy 42 = .ok (.istore_n 2, 1) := by decide +kernel
theorem dX9_falseBy_43 : decode cX9_falseBy 43 = .ok (.iinc 3 1, 3) := by decide +kernel
theorem dX9_falseBy_46 : decode cX9_falseBy 46 = .ok (.goto (-42), 3) := by decide +kernel
theorem dX9_falseBy_49 : decode cX9_falseBy 49 = .ok (.iload_n 2, 1) := by decide +kernel
theorem dX9_falseBy_50 : decode cX9_falseBy 50 = .ok (.ireturn, 1) := by decide +kernel
theorem dX9_leastFalse_0 : decode cX9_leastFalse 0 = .ok (.iload_n 1, 1) := by decide +kernel
theorem dX9_leastFalse_1 : decode cX9_leastFalse 1 = .ok (.iconst 0, 1) := by decide +kernel
theorem dX9_leastFalse_2 : decode cX9_leastFalse 2 = .ok (.iconst 1, 1) := by decide +kernel
theorem dX9_leastFalse_3 : decode cX9_leastFalse 3 = .ok (.invokestatic 77, 3) := by decide +kernel
theorem dX9_leastFalse_6 : decode cX9_leastFalse 6 = .ok (.ifCond .ne 10, 3) := by decide +kernel
theorem dX9_leastFalse_9 : decode cX9_leastFalse 9 = .ok (.aload_n 0, 1) := by decide +kernel
theorem dX9_leastFalse_10 : decode cX9_leastFalse 10 = .ok (.ldc 81, 2) := by decide +kernel
theorem dX9_leastFalse_12 : decode cX9_leastFalse 12 = .ok (.invokevirtual 82, 3) := by decide +kernel
theorem dX9_leastFalse_15 : decode cX9_leastFalse 15 = .ok (.ireturn, 1) := by decide +kernel
theorem dX9_leastFalse_16 : decode cX9_leastFalse 16 = .ok (.iconst 1, 1) := by decide +kernel
theorem dX9_leastFalse_17 : decode cX9_leastFalse 17 = .ok (.istore_n 2, 1) := by decide +kernel
theorem dX9_leastFalse_18 : decode cX9_leastFalse 18 = .ok (.iconst 2, 1) := by decide +kernel
theorem dX9_leastFalse_19 : decode cX9_leastFalse 19 = .ok (.istore_n 3, 1) := by decide +kernel
theorem dX9_leastFalse_20 : decode cX9_leastFalse 20 = .ok (.iload_n 3, 1) := by decide +kernel
theorem dX9_leastFalse_21 : decode cX9_leastFalse 21 = .ok (.bipush 99, 2) := by decide +kernel
theorem dX9_leastFalse_23 : decode cX9_leastFalse 23 = .ok (.if_icmp .gt 28, 3) := by decide +kernel
theorem dX9_leastFalse_26 : decode cX9_leastFalse 26 = .ok (.aload_n 0, 1) := by decide +kernel
theorem dX9_leastFalse_27 : decode cX9_leastFalse 27 = .ok (.iload_n 3, 1) := by decide +kernel
theorem dX9_leastFalse_28 : decode cX9_leastFalse 28 = .ok (.invokevirtual 260, 3) := by decide +kernel
theorem dX9_leastFalse_31 : decode cX9_leastFalse 31 = .ok (.aload_n 0, 1) := by decide +kernel
theorem dX9_leastFalse_32 : decode cX9_leastFalse 32 = .ok (.iload_n 2, 1) := by decide +kernel
theorem dX9_leastFalse_33 : decode cX9_leastFalse 33 = .ok (.invokevirtual 260, 3) := by decide +kernel
theorem dX9_leastFalse_36 : decode cX9_leastFalse 36 = .ok (.if_icmp .ge 7, 3) := by decide +kernel
theorem dX9_leastFalse_39 : decode cX9_leastFalse 39 = .ok (.iload_n 3, 1) := by decide +kernel
theorem dX9_leastFalse_40 : decode cX9_leastFalse 40 = .ok (.goto 4, 3) := by decide +kernel
theorem dX9_leastFalse_43 : decode cX9_leastFalse 43 = .ok (.iload_n 2, 1) := by decide +kernel
theorem dX9_leastFalse_44 : decode cX9_leastFalse 44 = .ok (.istore_n 2, 1) := by decide +kernel
theorem dX9_leastFalse_45 : decode cX9_leastFalse 45 = .ok (.iinc 3 1, 3) := by decide +kernel
theorem dX9_leastFalse_48 : decode cX9_leastFalse 48 = .ok (.goto (-28), 3) := by decide +kernel
theorem dX9_leastFalse_51 : decode cX9_leastFalse 51 = .ok (.iload_n 1, 1) := by decide +kernel
theorem dX9_leastFalse_52 : decode cX9_leastFalse 52 = .ok (.ifCond .ne 7, 3) := by decide +kernel
theorem dX9_leastFalse_55 : decode cX9_leastFalse 55 = .ok (.iload_n 2, 1) := by decide +kernel
theorem dX9_leastFalse_56 : decode cX9_leastFalse 56 = .ok (.goto 8, 3) := by decide +kernel
theorem dX9_leastFalse_59 : decode cX9_leastFalse 59 = .ok (.aload_n 0, 1) := by decide +kernel
theorem dX9_leastFalse_60 : decode cX9_leastFalse 60 = .ok (.iload_n 2, 1) := by decide +kernel
theorem dX9_leastFalse_61 : decode cX9_leastFalse 61 = .ok (.invokevirtual 260, 3) := by decide +kernel
theorem dX9_leastFalse_64 : decode cX9_leastFalse 64 = .ok (.ireturn, 1) := by decide +kernel
theorem dX9_isShownSo_0 : decode cX9_isShownSo 0 = .ok (.iconst 1, 1) := by decide +kernel
theorem dX9_isShownSo_1 : decode cX9_isShownSo 1 = .ok (.istore_n 3, 1) := by decide +kernel
theorem dX9_isShownSo_2 : decode cX9_isShownSo 2 = .ok (.iconst 0, 1) := by decide +kernel
theorem dX9_isShownSo_3 : decode cX9_isShownSo 3 = .ok (.istore 4, 2) := by decide +kernel
theorem dX9_isShownSo_5 : decode cX9_isShownSo 5 = .ok (.iload 4, 2) := by decide +kernel
theorem dX9_isShownSo_7 : decode cX9_isShownSo 7 = .ok (.aload_n 0, 1) := by decide +kernel
theorem dX9_isShownSo_8 : decode cX9_isShownSo 8 = .ok (.getfield 9, 3) := by decide +kernel
theorem dX9_isShownSo_11 : decode cX9_isShownSo 11 = .ok (.iconst 1, 1) := by decide +kernel
theorem dX9_isShownSo_12 : decode cX9_isShownSo 12 = .ok (.iaload, 1) := by decide +kernel
theorem dX9_isShownSo_13 : decode cX9_isShownSo 13 = .ok (.if_icmp .ge 50, 3) := by decide +kernel
theorem dX9_isShownSo_16 : decode cX9_isShownSo 16 = .ok (.aload_n 0, 1) := by decide +kernel
theorem dX9_isShownSo_17 : decode cX9_isShownSo 17 = .ok (.getfield 53, 3) := by decide +kernel
theorem dX9_isShownSo_20 : decode cX9_isShownSo 20 = .ok (.bipush 40, 2) := by decide +kernel
theorem dX9_isShownSo_22 : decode cX9_isShownSo 22 = .ok (.iload_n 1, 1) := by decide +kernel
theorem dX9_isShownSo_23 : decode cX9_isShownSo 23 = .ok (.imul, 1) := by decide +kernel
theorem dX9_isShownSo_24 : decode cX9_isShownSo 24 = .ok (.iload 4, 2) := by decide +kernel
theorem dX9_isShownSo_26 : decode cX9_isShownSo 26 = .ok (.iadd, 1) := by decide +kernel
theorem dX9_isShownSo_27 : decode cX9_isShownSo 27 = .ok (.iaload, 1) := by decide +kernel
theorem dX9_isShownSo_28 : decode cX9_isShownSo 28 = .ok (.istore 5, 2) := by decide +kernel
theorem dX9_isShownSo_30 : decode cX9_isShownSo 30 = .ok (.iload_n 3, 1) := by decide +kernel
theorem dX9_isShownSo_31 : decode cX9_isShownSo 31 = .ok (.ifCond .eq 24, 3) := by decide +kernel
theorem dX9_isShownSo_34 : decode cX9_isShownSo 34 = .ok (.iload 5, 2) := by decide +kernel
theorem dX9_isShownSo_36 : decode cX9_isShownSo 36 = .ok (.ifCond .lt 15, 3) := by decide +kernel
theorem dX9_isShownSo_39 : decode cX9_isShownSo 39 = .ok (.iload 5, 2) := by decide +kernel
theorem dX9_isShownSo_41 : decode cX9_isShownSo 41 = .ok (.aload_n 0, 1) := by decide +kernel
theorem dX9_isShownSo_42 : decode cX9_isShownSo 42 = .ok (.iload 4, 2) := by decide +kernel
theorem dX9_isShownSo_44 : decode cX9_isShownSo 44 = .ok (.iload_n 2, 1) := by decide +kernel
theorem dX9_isShownSo_45 : decode cX9_isShownSo 45 = .ok (.invokevirtual 197, 3) := by decide +kernel
theorem dX9_isShownSo_48 : decode cX9_isShownSo 48 = .ok (.if_icmp .ne 7, 3) := by decide +kernel
theorem dX9_isShownSo_51 : decode cX9_isShownSo 51 = .ok (.iconst 1, 1) := by decide +kernel
theorem dX9_isShownSo_52 : decode cX9_isShownSo 52 = .ok (.goto 4, 3) := by decide +kernel
theorem dX9_isShownSo_55 : decode cX9_isShownSo 55 = .ok (.iconst 0, 1) := by decide +kernel
theorem dX9_isShownSo_56 : decode cX9_isShownSo 56 = .ok (.istore_n 3, 1) := by decide +kernel
theorem dX9_isShownSo_57 : decode cX9_isShownSo 57 = .ok (.iinc 4 1, 3) := by decide +kernel
theorem dX9_isShownSo_60 : decode cX9_isShownSo 60 = .ok (.goto (-55), 3) := by decide +kernel
theorem dX9_isShownSo_63 : decode cX9_isShownSo 63 = .ok (.iload_n 3, 1) := by decide +kernel
theorem dX9_isShownSo_64 : decode cX9_isShownSo 64 = .ok (.ireturn, 1) := by decide +kernel
theorem dX9_which_0 : decode cX9_which 0 = .ok (.iload_n 1, 1) := by decide +kernel
theorem dX9_which_1 : decode cX9_which 1 = .ok (.invokestatic 263, 3) := by decide +kernel
theorem dX9_which_4 : decode cX9_which 4 = .ok (.ifCond .eq 12, 3) := by decide +kernel
theorem dX9_which_7 : decode cX9_which 7 = .ok (.iload_n 2, 1) := by decide +kernel
theorem dX9_which_8 : decode cX9_which 8 = .ok (.iconst 0, 1) := by decide +kernel
theorem dX9_which_9 : decode cX9_which 9 = .ok (.iconst 1, 1) := by decide +kernel
theorem dX9_which_10 : decode cX9_which 10 = .ok (.invokestatic 77, 3) := by decide +kernel
theorem dX9_which_13 : decode cX9_which 13 = .ok (.ifCond .ne 10, 3) := by decide +kernel
theorem dX9_which_16 : decode cX9_which 16 = .ok (.aload_n 0, 1) := by decide +kernel
theorem dX9_which_17 : decode cX9_which 17 = .ok (.ldc 81, 2) := by decide +kernel
theorem dX9_which_19 : decode cX9_which 19 = .ok (.invokevirtual 82, 3) := by decide +kernel
theorem dX9_which_22 : decode cX9_which 22 = .ok (.ireturn, 1) := by decide +kernel
theorem dX9_which_23 : decode cX9_which 23 = .ok (.aload_n 0, 1) := by decide +kernel
theorem dX9_which_24 : decode cX9_which 24 = .ok (.getfield 47, 3) := by decide +kernel
theorem dX9_which_27 : decode cX9_which 27 = .ok (.iload_n 1, 1) := by decide +kernel
theorem dX9_which_28 : decode cX9_which 28 = .ok (.iaload, 1) := by decide +kernel
theorem dX9_which_29 : decode cX9_which 29 = .ok (.ifCond .eq 18, 3) := by decide +kernel
theorem dX9_which_32 : decode cX9_which 32 = .ok (.aload_n 0, 1) := by decide +kernel
theorem dX9_which_33 : decode cX9_which 33 = .ok (.getfield 50, 3) := by decide +kernel
theorem dX9_which_36 : decode cX9_which 36 = .ok (.iload_n 1, 1) := by decide +kernel
theorem dX9_which_37 : decode cX9_which 37 = .ok (.iaload, 1) := by decide +kernel
theorem dX9_which_38 : decode cX9_which 38 = .ok (.aload_n 0, 1) := by decide +kernel
theorem dX9_which_39 : decode cX9_which 39 = .ok (.getfield 9, 3) := by decide +kernel
theorem dX9_which_42 : decode cX9_which 42 = .ok (.iconst 1, 1) := by decide +kernel
theorem dX9_which_43 : decode cX9_which 43 = .ok (.iaload, 1) := by decide +kernel
theorem dX9_which_44 : decode cX9_which 44 = .ok (.if_icmp .eq 11, 3) := by decide +kernel
theorem dX9_which_47 : decode cX9_which 47 = .ok (.aload_n 0, 1) := by decide +kernel
theorem dX9_which_48 : decode cX9_which 48 = .ok (.ldc_w 256, 3) := by decide +kernel
theorem dX9_which_51 : decode cX9_which 51 = .ok (.invokevirtual 82, 3) := by decide +kernel
theorem dX9_which_54 : decode cX9_which 54 = .ok (.ireturn, 1) := by decide +kernel
theorem dX9_which_55 : decode cX9_which 55 = .ok (.iconst 0, 1) := by decide +kernel
theorem dX9_which_56 : decode cX9_which 56 = .ok (.istore_n 3, 1) := by decide +kernel
theorem dX9_which_57 : decode cX9_which 57 = .ok (.iconst (-1), 1) := by decide +kernel
theorem dX9_which_58 : decode cX9_which 58 = .ok (.istore 4, 2) := by decide +kernel
theorem dX9_which_60 : decode cX9_which 60 = .ok (.bipush 99, 2) := by decide +kernel
theorem dX9_which_62 : decode cX9_which 62 = .ok (.istore 5, 2) := by decide +kernel
theorem dX9_which_64 : decode cX9_which 64 = .ok (.iload 5, 2) := by decide +kernel
theorem dX9_which_66 : decode cX9_which 66 = .ok (.ifCond .lt 45, 3) := by decide +kernel
theorem dX9_which_69 : decode cX9_which 69 = .ok (.aload_n 0, 1) := by decide +kernel
theorem dX9_which_70 : decode cX9_which 70 = .ok (.iload_n 1, 1) := by decide +kernel
theorem dX9_which_71 : decode cX9_which 71 = .ok (.iload 5, 2) := by decide +kernel
theorem dX9_which_73 : decode cX9_which 73 = .ok (.invokevirtual 266, 3) := by decide +kernel
theorem dX9_which_76 : decode cX9_which 76 = .ok (.istore 6, 2) := by decide +kernel
theorem dX9_which_78 : decode cX9_which 78 = .ok (.iload_n 3, 1) := by decide +kernel
theorem dX9_which_79 : decode cX9_which 79 = .ok (.iload 6, 2) := by decide +kernel
theorem dX9_which_81 : decode cX9_which 81 = .ok (.ifCond .eq 7, 3) := by decide +kernel
theorem dX9_which_84 : decode cX9_which 84 = .ok (.iconst 1, 1) := by decide +kernel
theorem dX9_which_85 : decode cX9_which 85 = .ok (.goto 4, 3) := by decide +kernel
theorem dX9_which_88 : decode cX9_which 88 = .ok (.iconst 0, 1) := by decide +kernel
theorem dX9_which_89 : decode cX9_which 89 = .ok (.iadd, 1) := by decide +kernel
theorem dX9_which_90 : decode cX9_which 90 = .ok (.istore_n 3, 1) := by decide +kernel
theorem dX9_which_91 : decode cX9_which 91 = .ok (.iload 6, 2) := by decide +kernel
theorem dX9_which_93 : decode cX9_which 93 = .ok (.ifCond .eq 8, 3) := by decide +kernel
theorem dX9_which_96 : decode cX9_which 96 = .ok (.iload 5, 2) := by decide +kernel
theorem dX9_which_98 : decode cX9_which 98 = .ok (.goto 5, 3) := by decide +kernel
theorem dX9_which_101 : decode cX9_which 101 = .ok (.iload 4, 2) := by decide +kernel
theorem dX9_which_103 : decode cX9_which 103 = .ok (.istore 4, 2) := by decide +kernel
theorem dX9_which_105 : decode cX9_which 105 = .ok (.iinc 5 (-1), 3) := by decide +kernel
theorem dX9_which_108 : decode cX9_which 108 = .ok (.goto (-44), 3) := by decide +kernel
theorem dX9_which_111 : decode cX9_which 111 = .ok (.iload_n 2, 1) := by decide +kernel
theorem dX9_which_112 : decode cX9_which 112 = .ok (.ifCond .ne 7, 3) := by decide +kernel
theorem dX9_which_115 : decode cX9_which 115 = .ok (.iload_n 3, 1) := by decide +kernel
theorem dX9_which_116 : decode cX9_which 116 = .ok (.goto 20, 3) := by decide +kernel
theorem dX9_which_119 : decode cX9_which 119 = .ok (.iload 4, 2) := by decide +kernel
theorem dX9_which_121 : decode cX9_which 121 = .ok (.ifCond .ge 13, 3) := by decide +kernel
theorem dX9_which_124 : decode cX9_which 124 = .ok (.aload_n 0, 1) := by decide +kernel
theorem dX9_which_125 : decode cX9_which 125 = .ok (.ldc_w 256, 3) := by decide +kernel
theorem dX9_which_128 : decode cX9_which 128 = .ok (.invokevirtual 82, 3) := by decide +kernel
theorem dX9_which_131 : decode cX9_which 131 = .ok (.goto 5, 3) := by decide +kernel
theorem dX9_which_134 : decode cX9_which 134 = .ok (.iload 4, 2) := by decide +kernel
theorem dX9_which_136 : decode cX9_which 136 = .ok (.ireturn, 1) := by decide +kernel
theorem dX9_struck_0 : decode cX9_struck 0 = .ok (.aload_n 0, 1) := by decide +kernel
theorem dX9_struck_1 : decode cX9_struck 1 = .ok (.iload_n 1, 1) := by decide +kernel
theorem dX9_struck_2 : decode cX9_struck 2 = .ok (.invokevirtual 175, 3) := by decide +kernel
theorem dX9_struck_5 : decode cX9_struck 5 = .ok (.ifCond .ne 10, 3) := by decide +kernel
theorem dX9_struck_8 : decode cX9_struck 8 = .ok (.aload_n 0, 1) := by decide +kernel
theorem dX9_struck_9 : decode cX9_struck 9 = .ok (.ldc 81, 2) := by decide +kernel
theorem dX9_struck_11 : decode cX9_struck 11 = .ok (.invokevirtual 82, 3) := by decide +kernel
theorem dX9_struck_14 : decode cX9_struck 14 = .ok (.ireturn, 1) := by decide +kernel
theorem dX9_struck_15 : decode cX9_struck 15 = .ok (.aload_n 0, 1) := by decide +kernel
theorem dX9_struck_16 : decode cX9_struck 16 = .ok (.getfield 9, 3) := by decide +kernel
theorem dX9_struck_19 : decode cX9_struck 19 = .ok (.aload_n 0, 1) := by decide +kernel
theorem dX9_struck_20 : decode cX9_struck 20 = .ok (.getfield 16, 3) := by decide +kernel
theorem dX9_struck_23 : decode cX9_struck 23 = .ok (.invokestatic 73, 3) := by decide +kernel
theorem dX9_struck_26 : decode cX9_struck 26 = .ok (.aload_n 0, 1) := by decide +kernel
theorem dX9_struck_27 : decode cX9_struck 27 = .ok (.bipush 60, 2) := by decide +kernel
theorem dX9_struck_29 : decode cX9_struck 29 = .ok (.invokevirtual 237, 3) := by decide +kernel
theorem dX9_struck_32 : decode cX9_struck 32 = .ok (.aload_n 0, 1) := by decide +kernel
theorem dX9_struck_33 : decode cX9_struck 33 = .ok (.aload_n 0, 1) := by decide +kernel
theorem dX9_struck_34 : decode cX9_struck 34 = .ok (.invokevirtual 253, 3) := by decide +kernel
theorem dX9_struck_37 : decode cX9_struck 37 = .ok (.aload_n 0, 1) := by decide +kernel
theorem dX9_struck_38 : decode cX9_struck 38 = .ok (.iload_n 1, 1) := by decide +kernel
theorem dX9_struck_39 : decode cX9_struck 39 = .ok (.invokevirtual 200, 3) := by decide +kernel
theorem dX9_struck_42 : decode cX9_struck 42 = .ok (.iand, 1) := by decide +kernel
theorem dX9_struck_43 : decode cX9_struck 43 = .ok (.invokevirtual 250, 3) := by decide +kernel
theorem dX9_struck_46 : decode cX9_struck 46 = .ok (.ireturn, 1) := by decide +kernel
theorem dX9_dark_0 : decode cX9_dark 0 = .ok (.iload_n 1, 1) := by decide +kernel
theorem dX9_dark_1 : decode cX9_dark 1 = .ok (.iconst 0, 1) := by decide +kernel
theorem dX9_dark_2 : decode cX9_dark 2 = .ok (.bipush 20, 2) := by decide +kernel
theorem dX9_dark_4 : decode cX9_dark 4 = .ok (.invokestatic 77, 3) := by decide +kernel
theorem dX9_dark_7 : decode cX9_dark 7 = .ok (.ifCond .ne 10, 3) := by decide +kernel
theorem dX9_dark_10 : decode cX9_dark 10 = .ok (.aload_n 0, 1) := by decide +kernel
theorem dX9_dark_11 : decode cX9_dark 11 = .ok (.ldc 81, 2) := by decide +kernel
theorem dX9_dark_13 : decode cX9_dark 13 = .ok (.invokevirtual 82, 3) := by decide +kernel
theorem dX9_dark_16 : decode cX9_dark 16 = .ok (.ireturn, 1) := by decide +kernel
theorem dX9_dark_17 : decode cX9_dark 17 = .ok (.aload_n 0, 1) := by decide +kernel
theorem dX9_dark_18 : decode cX9_dark 18 = .ok (.getfield 9, 3) := by decide +kernel
theorem dX9_dark_21 : decode cX9_dark 21 = .ok (.aload_n 0, 1) := by decide +kernel
theorem dX9_dark_22 : decode cX9_dark 22 = .ok (.getfield 16, 3) := by decide +kernel
theorem dX9_dark_25 : decode cX9_dark 25 = .ok (.invokestatic 73, 3) := by decide +kernel
theorem dX9_dark_28 : decode cX9_dark 28 = .ok (.aload_n 0, 1) := by decide +kernel
theorem dX9_dark_29 : decode cX9_dark 29 = .ok (.invokevirtual 253, 3) := by decide +kernel
theorem dX9_dark_32 : decode cX9_dark 32 = .ok (.invokestatic 234, 3) := by decide +kernel
theorem dX9_dark_35 : decode cX9_dark 35 = .ok (.istore_n 2, 1) := by decide +kernel
theorem dX9_dark_36 : decode cX9_dark 36 = .ok (.iconst (-1), 1) := by decide +kernel
theorem dX9_dark_37 : decode cX9_dark 37 = .ok (.istore_n 3, 1) := by decide +kernel
theorem dX9_dark_38 : decode cX9_dark 38 = .ok (.iconst 0, 1) := by decide +kernel
theorem dX9_dark_39 : decode cX9_dark 39 = .ok (.istore 4, 2) := by decide +kernel
theorem dX9_dark_41 : decode cX9_dark 41 = .ok (.iload 4, 2) := by decide +kernel
theorem dX9_dark_43 : decode cX9_dark 43 = .ok (.iconst 1, 1) := by decide +kernel
theorem dX9_dark_44 : decode cX9_dark 44 = .ok (.aload_n 0, 1) := by decide +kernel
theorem dX9_dark_45 : decode cX9_dark 45 = .ok (.getfield 9, 3) := by decide +kernel
theorem dX9_dark_48 : decode cX9_dark 48 = .ok (.iconst 1, 1) := by decide +kernel
theorem dX9_dark_49 : decode cX9_dark 49 = .ok (.iaload, 1) := by decide +kernel
theorem dX9_dark_50 : decode cX9_dark 50 = .ok (.ishl, 1) := by decide +kernel
theorem dX9_dark_51 : decode cX9_dark 51 = .ok (.if_icmp .ge 79, 3) := by decide +kernel
theorem dX9_dark_54 : decode cX9_dark 54 = .ok (.iload 4, 2) := by decide +kernel
theorem dX9_dark_56 : decode cX9_dark 56 = .ok (.aload_n 0, 1) := by decide +kernel
theorem dX9_dark_57 : decode cX9_dark 57 = .ok (.getfield 9, 3) := by decide +kernel
theorem dX9_dark_60 : decode cX9_dark 60 = .ok (.iconst 5, 1) := by decide +kernel
theorem dX9_dark_61 : decode cX9_dark 61 = .ok (.iaload, 1) := by decide +kernel
theorem dX9_dark_62 : decode cX9_dark 62 = .ok (.iconst (-1), 1) := by decide +kernel
theorem dX9_dark_63 : decode cX9_dark 63 = .ok (.ixor, 1) := by decide +kernel
theorem dX9_dark_64 : decode cX9_dark 64 = .ok (.iand, 1) := by decide +kernel
theorem dX9_dark_65 : decode cX9_dark 65 = .ok (.ifCond .ne 59, 3) := by decide +kernel
theorem dX9_dark_68 : decode cX9_dark 68 = .ok (.iload_n 3, 1) := by decide +kernel
theorem dX9_dark_69 : decode cX9_dark 69 = .ok (.ifCond .lt 15, 3) := by decide +kernel
theorem dX9_dark_72 : decode cX9_dark 72 = .ok (.iload 4, 2) := by decide +kernel
theorem dX9_dark_74 : decode cX9_dark 74 = .ok (.invokestatic 234, 3) := by decide +kernel
theorem dX9_dark_77 : decode cX9_dark 77 = .ok (.iload_n 3, 1) := by decide +kernel
theorem dX9_dark_78 : decode cX9_dark 78 = .ok (.invokestatic 234, 3) := by decide +kernel
theorem dX9_dark_81 : decode cX9_dark 81 = .ok (.if_icmp .ge 43, 3) := by decide +kernel
theorem dX9_dark_84 : decode cX9_dark 84 = .ok (.aload_n 0, 1) := by decide +kernel
theorem dX9_dark_85 : decode cX9_dark 85 = .ok (.getfield 9, 3) := by decide +kernel
theorem dX9_dark_88 : decode cX9_dark 88 = .ok (.iconst 5, 1) := by decide +kernel
theorem dX9_dark_89 : decode cX9_dark 89 = .ok (.dup2, 1) := by decide +kernel
theorem dX9_dark_90 : decode cX9_dark 90 = .ok (.iaload, 1) := by decide +kernel
theorem dX9_dark_91 : decode cX9_dark 91 = .ok (.iload 4, 2) := by decide +kernel
theorem dX9_dark_93 : decode cX9_dark 93 = .ok (.iconst (-1), 1) := by decide +kernel
theorem dX9_dark_94 : decode cX9_dark 94 = .ok (.ixor, 1) := by decide +kernel
theorem dX9_dark_95 : decode cX9_dark 95 = .ok (.iand, 1) := by decide +kernel
theorem dX9_dark_96 : decode cX9_dark 96 = .ok (.iastore, 1) := by decide +kernel
theorem dX9_dark_97 : decode cX9_dark 97 = .ok (.aload_n 0, 1) := by decide +kernel
theorem dX9_dark_98 : decode cX9_dark 98 = .ok (.iload_n 1, 1) := by decide +kernel
theorem dX9_dark_99 : decode cX9_dark 99 = .ok (.invokevirtual 237, 3) := by decide +kernel
theorem dX9_dark_102 : decode cX9_dark 102 = .ok (.aload_n 0, 1) := by decide +kernel
theorem dX9_dark_103 : decode cX9_dark 103 = .ok (.aload_n 0, 1) := by decide +kernel
theorem dX9_dark_104 : decode cX9_dark 104 = .ok (.invokevirtual 253, 3) := by decide +kernel
theorem dX9_dark_107 : decode cX9_dark 107 = .ok (.invokestatic 234, 3) := by decide +kernel
theorem dX9_dark_110 : decode cX9_dark 110 = .ok (.invokevirtual 250, 3) := by decide +kernel
theorem dX9_dark_113 : decode cX9_dark 113 = .ok (.iload_n 2, 1) := by decide +kernel
theorem dX9_dark_114 : decode cX9_dark 114 = .ok (.if_icmp .gt 8, 3) := by decide +kernel
theorem dX9_dark_117 : decode cX9_dark 117 = .ok (.iload 4, 2) := by decide +kernel
theorem dX9_dark_119 : decode cX9_dark 119 = .ok (.goto 4, 3) := by decide +kernel
theorem dX9_dark_122 : decode cX9_dark 122 = .ok (.iload_n 3, 1) := by decide +kernel
theorem dX9_dark_123 : decode cX9_dark 123 = .ok (.istore_n 3, 1) := by decide +kernel
theorem dX9_dark_124 : decode cX9_dark 124 = .ok (.iinc 4 1, 3) := by decide +kernel
theorem dX9_dark_127 : decode cX9_dark 127 = .ok (.goto (-86), 3) := by decide +kernel
theorem dX9_dark_130 : decode cX9_dark 130 = .ok (.iload_n 3, 1) := by decide +kernel
theorem dX9_dark_131 : decode cX9_dark 131 = .ok (.ifCond .ge 13, 3) := by decide +kernel
theorem dX9_dark_134 : decode cX9_dark 134 = .ok (.aload_n 0, 1) := by decide +kernel
theorem dX9_dark_135 : decode cX9_dark 135 = .ok (.ldc_w 256, 3) := by decide +kernel
theorem dX9_dark_138 : decode cX9_dark 138 = .ok (.invokevirtual 82, 3) := by decide +kernel
theorem dX9_dark_141 : decode cX9_dark 141 = .ok (.goto 4, 3) := by decide +kernel
theorem dX9_dark_144 : decode cX9_dark 144 = .ok (.iload_n 3, 1) := by decide +kernel
theorem dX9_dark_145 : decode cX9_dark 145 = .ok (.ireturn, 1) := by decide +kernel
theorem dX9_deep_0 : decode cX9_deep 0 = .ok (.aload_n 0, 1) := by decide +kernel
theorem dX9_deep_1 : decode cX9_deep 1 = .ok (.iload_n 1, 1) := by decide +kernel
theorem dX9_deep_2 : decode cX9_deep 2 = .ok (.invokevirtual 175, 3) := by decide +kernel
theorem dX9_deep_5 : decode cX9_deep 5 = .ok (.ifCond .eq 13, 3) := by decide +kernel
theorem dX9_deep_8 : decode cX9_deep 8 = .ok (.iload_n 2, 1) := by decide +kernel
theorem dX9_deep_9 : decode cX9_deep 9 = .ok (.iconst 0, 1) := by decide +kernel
theorem dX9_deep_10 : decode cX9_deep 10 = .ok (.bipush 19, 2) := by decide +kernel
theorem dX9_deep_12 : decode cX9_deep 12 = .ok (.invokestatic 77, 3) := by decide +kernel
theorem dX9_deep_15 : decode cX9_deep 15 = .ok (.ifCond .ne 10, 3) := by decide +kernel
theorem dX9_deep_18 : decode cX9_deep 18 = .ok (.aload_n 0, 1) := by decide +kernel
theorem dX9_deep_19 : decode cX9_deep 19 = .ok (.ldc 81, 2) := by decide +kernel
theorem dX9_deep_21 : decode cX9_deep 21 = .ok (.invokevirtual 82, 3) := by decide +kernel
theorem dX9_deep_24 : decode cX9_deep 24 = .ok (.ireturn, 1) := by decide +kernel
theorem dX9_deep_25 : decode cX9_deep 25 = .ok (.iconst 0, 1) := by decide +kernel
theorem dX9_deep_26 : decode cX9_deep 26 = .ok (.istore_n 3, 1) := by decide +kernel
theorem dX9_deep_27 : decode cX9_deep 27 = .ok (.iload_n 3, 1) := by decide +kernel
theorem dX9_deep_28 : decode cX9_deep 28 = .ok (.bipush 99, 2) := by decide +kernel
theorem dX9_deep_30 : decode cX9_deep 30 = .ok (.if_icmp .gt 26, 3) := by decide +kernel
theorem dX9_deep_33 : decode cX9_deep 33 = .ok (.aload_n 0, 1) := by decide +kernel
theorem dX9_deep_34 : decode cX9_deep 34 = .ok (.iload_n 1, 1) := by decide +kernel
theorem dX9_deep_35 : decode cX9_deep 35 = .ok (.aload_n 0, 1) := by decide +kernel
theorem dX9_deep_36 : decode cX9_deep 36 = .ok (.getfield 9, 3) := by decide +kernel
theorem dX9_deep_39 : decode cX9_deep 39 = .ok (.iconst 3, 1) := by decide +kernel
theorem dX9_deep_40 : decode cX9_deep 40 = .ok (.iaload, 1) := by decide +kernel
theorem dX9_deep_41 : decode cX9_deep 41 = .ok (.iload_n 3, 1) := by decide +kernel
theorem dX9_deep_42 : decode cX9_deep 42 = .ok (.isub, 1) := by decide +kernel
theorem dX9_deep_43 : decode cX9_deep 43 = .ok (.invokevirtual 184, 3) := by decide +kernel
theorem dX9_deep_46 : decode cX9_deep 46 = .ok (.iload_n 2, 1) := by decide +kernel
theorem dX9_deep_47 : decode cX9_deep 47 = .ok (.if_icmp .ge 9, 3) := by decide +kernel
theorem dX9_deep_50 : decode cX9_deep 50 = .ok (.iinc 3 1, 3) := by decide +kernel
theorem dX9_deep_53 : decode cX9_deep 53 = .ok (.goto (-26), 3) := by decide +kernel
theorem dX9_deep_56 : decode cX9_deep 56 = .ok (.iload_n 3, 1) := by decide +kernel
theorem dX9_deep_57 : decode cX9_deep 57 = .ok (.bipush 99, 2) := by decide +kernel
theorem dX9_deep_59 : decode cX9_deep 59 = .ok (.if_icmp .le 13, 3) := by decide +kernel
theorem dX9_deep_62 : decode cX9_deep 62 = .ok (.aload_n 0, 1) := by decide +kernel
theorem dX9_deep_63 : decode cX9_deep 63 = .ok (.ldc_w 256, 3) := by decide +kernel
theorem dX9_deep_66 : decode cX9_deep 66 = .ok (.invokevirtual 82, 3) := by decide +kernel
theorem dX9_deep_69 : decode cX9_deep 69 = .ok (.goto 4, 3) := by decide +kernel
theorem dX9_deep_72 : decode cX9_deep 72 = .ok (.iload_n 3, 1) := by decide +kernel
theorem dX9_deep_73 : decode cX9_deep 73 = .ok (.ireturn, 1) := by decide +kernel
theorem dX9_draws_0 : decode cX9_draws 0 = .ok (.aload_n 0, 1) := by decide +kernel
theorem dX9_draws_1 : decode cX9_draws 1 = .ok (.iload_n 1, 1) := by decide +kernel
theorem dX9_draws_2 : decode cX9_draws 2 = .ok (.invokevirtual 218, 3) := by decide +kernel
theorem dX9_draws_5 : decode cX9_draws 5 = .ok (.ifCond .ne 10, 3) := by decide +kernel
theorem dX9_draws_8 : decode cX9_draws 8 = .ok (.aload_n 0, 1) := by decide +kernel
theorem dX9_draws_9 : decode cX9_draws 9 = .ok (.ldc 81, 2) := by decide +kernel
theorem dX9_draws_11 : decode cX9_draws 11 = .ok (.invokevirtual 82, 3) := by decide +kernel
theorem dX9_draws_14 : decode cX9_draws 14 = .ok (.ireturn, 1) := by decide +kernel
theorem dX9_draws_15 : decode cX9_draws 15 = .ok (.aload_n 0, 1) := by decide +kernel
theorem dX9_draws_16 : decode cX9_draws 16 = .ok (.iload_n 1, 1) := by decide +kernel
theorem dX9_draws_17 : decode cX9_draws 17 = .ok (.iconst 4, 1) := by decide +kernel
theorem dX9_draws_18 : decode cX9_draws 18 = .ok (.invokevirtual 191, 3) := by decide +kernel
theorem dX9_draws_21 : decode cX9_draws 21 = .ok (.iconst 1, 1) := by decide +kernel
theorem dX9_draws_22 : decode cX9_draws 22 = .ok (.if_icmp .ne 10, 3) := by decide +kernel
theorem dX9_draws_25 : decode cX9_draws 25 = .ok (.aload_n 0, 1) := by decide +kernel
theorem dX9_draws_26 : decode cX9_draws 26 = .ok (.ldc 174, 2) := by decide +kernel
theorem dX9_draws_28 : decode cX9_draws 28 = .ok (.invokevirtual 82, 3) := by decide +kernel
theorem dX9_draws_31 : decode cX9_draws 31 = .ok (.ireturn, 1) := by decide +kernel
theorem dX9_draws_32 : decode cX9_draws 32 = .ok (.aload_n 0, 1) := by decide +kernel
theorem dX9_draws_33 : decode cX9_draws 33 = .ok (.getfield 9, 3) := by decide +kernel
theorem dX9_draws_36 : decode cX9_draws 36 = .ok (.aload_n 0, 1) := by decide +kernel
theorem dX9_draws_37 : decode cX9_draws 37 = .ok (.getfield 16, 3) := by decide +kernel
theorem dX9_draws_40 : decode cX9_draws 40 = .ok (.invokestatic 73, 3) := by decide +kernel
theorem dX9_draws_43 : decode cX9_draws 43 = .ok (.iconst (-1), 1) := by decide +kernel
theorem dX9_draws_44 : decode cX9_draws 44 = .ok (.istore_n 2, 1) := by decide +kernel
theorem dX9_draws_45 : decode cX9_draws 45 = .ok (.bipush 9, 2) := by decide +kernel
theorem dX9_draws_47 : decode cX9_draws 47 = .ok (.istore_n 3, 1) := by decide +kernel
theorem dX9_draws_48 : decode cX9_draws 48 = .ok (.iload_n 3, 1) := by decide +kernel
theorem dX9_draws_49 : decode cX9_draws 49 = .ok (.ifCond .lt 43, 3) := by decide +kernel
theorem dX9_draws_52 : decode cX9_draws 52 = .ok (.iload_n 2, 1) := by decide +kernel
theorem dX9_draws_53 : decode cX9_draws 53 = .ok (.ifCond .ge 39, 3) := by decide +kernel
theorem dX9_draws_56 : decode cX9_draws 56 = .ok (.aload_n 0, 1) := by decide +kernel
theorem dX9_draws_57 : decode cX9_draws 57 = .ok (.getfield 9, 3) := by decide +kernel
theorem dX9_draws_60 : decode cX9_draws 60 = .ok (.iload_n 1, 1) := by decide +kernel
theorem dX9_draws_61 : decode cX9_draws 61 = .ok (.iconst 2, 1) := by decide +kernel
theorem dX9_draws_62 : decode cX9_draws 62 = .ok (.invokestatic 168, 3) := by decide +kernel
theorem dX9_draws_65 : decode cX9_draws 65 = .ok (.iload_n 3, 1) := by decide +kernel
theorem dX9_draws_66 : decode cX9_draws 66 = .ok (.iastore, 1) := by decide +kernel
theorem dX9_draws_67 : decode cX9_draws 67 = .ok (.aload_n 0, 1) := by decide +kernel
theorem dX9_draws_68 : decode cX9_draws 68 = .ok (.bipush 60, 2) := by decide +kernel
theorem dX9_draws_70 : decode cX9_draws 70 = .ok (.invokevirtual 257, 3) := by decide +kernel
theorem dX9_draws_73 : decode cX9_draws 73 = .ok (.iload_n 1, 1) := by decide +kernel
theorem dX9_draws_74 : decode cX9_draws 74 = .ok (.invokestatic 187, 3) := by decide +kernel
theorem dX9_draws_77 : decode cX9_draws 77 = .ok (.ifCond .eq 7, 3) := by decide +kernel
theorem dX9_draws_80 : decode cX9_draws 80 = .ok (.iload_n 3, 1) := by decide +kernel
theorem dX9_draws_81 : decode cX9_draws 81 = .ok (.goto 4, 3) := by decide +kernel
theorem dX9_draws_84 : decode cX9_draws 84 = .ok (.iconst (-1), 1) := by decide +kernel
theorem dX9_draws_85 : decode cX9_draws 85 = .ok (.istore_n 2, 1) := by decide +kernel
theorem dX9_draws_86 : decode cX9_draws 86 = .ok (.iinc 3 (-1), 3) := by decide +kernel
theorem dX9_draws_89 : decode cX9_draws 89 = .ok (.goto (-41), 3) := by decide +kernel
theorem dX9_draws_92 : decode cX9_draws 92 = .ok (.iload_n 2, 1) := by decide +kernel
theorem dX9_draws_93 : decode cX9_draws 93 = .ok (.ifCond .ge 13, 3) := by decide +kernel
theorem dX9_draws_96 : decode cX9_draws 96 = .ok (.aload_n 0, 1) := by decide +kernel
theorem dX9_draws_97 : decode cX9_draws 97 = .ok (.ldc_w 256, 3) := by decide +kernel
theorem dX9_draws_100 : decode cX9_draws 100 = .ok (.invokevirtual 82, 3) := by decide +kernel
theorem dX9_draws_103 : decode cX9_draws 103 = .ok (.goto 4, 3) := by decide +kernel
theorem dX9_draws_106 : decode cX9_draws 106 = .ok (.iload_n 2, 1) := by decide +kernel
theorem dX9_draws_107 : decode cX9_draws 107 = .ok (.ireturn, 1) := by decide +kernel
theorem dX9_traffic_0 : decode cX9_traffic 0 = .ok (.iload_n 1, 1) := by decide +kernel
theorem dX9_traffic_1 : decode cX9_traffic 1 = .ok (.invokestatic 247, 3) := by decide +kernel
theorem dX9_traffic_4 : decode cX9_traffic 4 = .ok (.ifCond .eq 12, 3) := by decide +kernel
theorem dX9_traffic_7 : decode cX9_traffic 7 = .ok (.iload_n 2, 1) := by decide +kernel
theorem dX9_traffic_8 : decode cX9_traffic 8 = .ok (.iconst 0, 1) := by decide +kernel
theorem dX9_traffic_9 : decode cX9_traffic 9 = .ok (.iconst 1, 1) := by decide +kernel
theorem dX9_traffic_10 : decode cX9_traffic 10 = .ok (.invokestatic 77, 3) := by decide +kernel
theorem dX9_traffic_13 : decode cX9_traffic 13 = .ok (.ifCond .ne 10, 3) := by decide +kernel
theorem dX9_traffic_16 : decode cX9_traffic 16 = .ok (.aload_n 0, 1) := by decide +kernel
theorem dX9_traffic_17 : decode cX9_traffic 17 = .ok (.ldc 81, 2) := by decide +kernel
theorem dX9_traffic_19 : decode cX9_traffic 19 = .ok (.invokevirtual 82, 3) := by decide +kernel
theorem dX9_traffic_22 : decode cX9_traffic 22 = .ok (.ireturn, 1) := by decide +kernel
theorem dX9_traffic_23 : decode cX9_traffic 23 = .ok (.aload_n 0, 1) := by decide +kernel
theorem dX9_traffic_24 : decode cX9_traffic 24 = .ok (.getfield 9, 3) := by decide +kernel
theorem dX9_traffic_27 : decode cX9_traffic 27 = .ok (.aload_n 0, 1) := by decide +kernel
theorem dX9_traffic_28 : decode cX9_traffic 28 = .ok (.getfield 16, 3) := by decide +kernel
theorem dX9_traffic_31 : decode cX9_traffic 31 = .ok (.invokestatic 73, 3) := by decide +kernel
theorem dX9_traffic_34 : decode cX9_traffic 34 = .ok (.aload_n 0, 1) := by decide +kernel
theorem dX9_traffic_35 : decode cX9_traffic 35 = .ok (.iload_n 1, 1) := by decide +kernel
theorem dX9_traffic_36 : decode cX9_traffic 36 = .ok (.invokevirtual 237, 3) := by decide +kernel
theorem dX9_traffic_39 : decode cX9_traffic 39 = .ok (.iconst 0, 1) := by decide +kernel
theorem dX9_traffic_40 : decode cX9_traffic 40 = .ok (.istore_n 3, 1) := by decide +kernel
theorem dX9_traffic_41 : decode cX9_traffic 41 = .ok (.iconst (-1), 1) := by decide +kernel
theorem dX9_traffic_42 : decode cX9_traffic 42 = .ok (.istore 4, 2) := by decide +kernel
theorem dX9_traffic_44 : decode cX9_traffic 44 = .ok (.iconst 0, 1) := by decide +kernel
theorem dX9_traffic_45 : decode cX9_traffic 45 = .ok (.istore 5, 2) := by decide +kernel
theorem dX9_traffic_47 : decode cX9_traffic 47 = .ok (.iload 5, 2) := by decide +kernel
theorem dX9_traffic_49 : decode cX9_traffic 49 = .ok (.aload_n 0, 1) := by decide +kernel
theorem dX9_traffic_50 : decode cX9_traffic 50 = .ok (.getfield 9, 3) := by decide +kernel
theorem dX9_traffic_53 : decode cX9_traffic 53 = .ok (.iconst 1, 1) := by decide +kernel
theorem dX9_traffic_54 : decode cX9_traffic 54 = .ok (.iaload, 1) := by decide +kernel
theorem dX9_traffic_55 : decode cX9_traffic 55 = .ok (.if_icmp .ge 50, 3) := by decide +kernel
theorem dX9_traffic_58 : decode cX9_traffic 58 = .ok (.aload_n 0, 1) := by decide +kernel
theorem dX9_traffic_59 : decode cX9_traffic 59 = .ok (.iload 5, 2) := by decide +kernel
theorem dX9_traffic_61 : decode cX9_traffic 61 = .ok (.invokevirtual 200, 3) := by decide +kernel
theorem dX9_traffic_64 : decode cX9_traffic 64 = .ok (.aload_n 0, 1) := by decide +kernel
theorem dX9_traffic_65 : decode cX9_traffic 65 = .ok (.invokevirtual 253, 3) := by decide +kernel
theorem dX9_traffic_68 : decode cX9_traffic 68 = .ok (.iconst (-1), 1) := by decide +kernel
theorem dX9_traffic_69 : decode cX9_traffic 69 = .ok (.ixor, 1) := by decide +kernel
theorem dX9_traffic_70 : decode cX9_traffic 70 = .ok (.iand, 1) := by decide +kernel
theorem dX9_traffic_71 : decode cX9_traffic 71 = .ok (.invokestatic 234, 3) := by decide +kernel
theorem dX9_traffic_74 : decode cX9_traffic 74 = .ok (.istore 6, 2) := by decide +kernel
theorem dX9_traffic_76 : decode cX9_traffic 76 = .ok (.iload 6, 2) := by decide +kernel
theorem dX9_traffic_78 : decode cX9_traffic 78 = .ok (.iload 4, 2) := by decide +kernel
theorem dX9_traffic_80 : decode cX9_traffic 80 = .ok (.if_icmp .le 8, 3) := by decide +kernel
theorem dX9_traffic_83 : decode cX9_traffic 83 = .ok (.iload 5, 2) := by decide +kernel
theorem dX9_traffic_85 : decode cX9_traffic 85 = .ok (.goto 4, 3) := by decide +kernel
theorem dX9_traffic_88 : decode cX9_traffic 88 = .ok (.iload_n 3, 1) := by decide +kernel
theorem dX9_traffic_89 : decode cX9_traffic 89 = .ok (.istore_n 3, 1) := by decide +kernel
theorem dX9_traffic_90 : decode cX9_traffic 90 = .ok (.iload 4, 2) := by decide +kernel
theorem dX9_traffic_92 : decode cX9_traffic 92 = .ok (.iload 6, 2) := by decide +kernel
theorem dX9_traffic_94 : decode cX9_traffic 94 = .ok (.invokestatic 70, 3) := by decide +kernel
theorem dX9_traffic_97 : decode cX9_traffic 97 = .ok (.istore 4, 2) := by decide +kernel
theorem dX9_traffic_99 : decode cX9_traffic 99 = .ok (.iinc 5 1, 3) := by decide +kernel
theorem dX9_traffic_102 : decode cX9_traffic 102 = .ok (.goto (-55), 3) := by decide +kernel
theorem dX9_traffic_105 : decode cX9_traffic 105 = .ok (.aload_n 0, 1) := by decide +kernel
theorem dX9_traffic_106 : decode cX9_traffic 106 = .ok (.iload_n 2, 1) := by decide +kernel
theorem dX9_traffic_107 : decode cX9_traffic 107 = .ok (.ifCond .ne 7, 3) := by decide +kernel
theorem dX9_traffic_110 : decode cX9_traffic 110 = .ok (.iload_n 3, 1) := by decide +kernel
theorem dX9_traffic_111 : decode cX9_traffic 111 = .ok (.goto 5, 3) := by decide +kernel
theorem dX9_traffic_114 : decode cX9_traffic 114 = .ok (.iload 4, 2) := by decide +kernel
theorem dX9_traffic_116 : decode cX9_traffic 116 = .ok (.invokevirtual 250, 3) := by decide +kernel
theorem dX9_traffic_119 : decode cX9_traffic 119 = .ok (.ireturn, 1) := by decide +kernel
theorem dX9_odds_0 : decode cX9_odds 0 = .ok (.aload_n 0, 1) := by decide +kernel
theorem dX9_odds_1 : decode cX9_odds 1 = .ok (.iload_n 1, 1) := by decide +kernel
theorem dX9_odds_2 : decode cX9_odds 2 = .ok (.invokevirtual 218, 3) := by decide +kernel
theorem dX9_odds_5 : decode cX9_odds 5 = .ok (.ifCond .eq 19, 3) := by decide +kernel
theorem dX9_odds_8 : decode cX9_odds 8 = .ok (.iload_n 2, 1) := by decide +kernel
theorem dX9_odds_9 : decode cX9_odds 9 = .ok (.invokestatic 247, 3) := by decide +kernel
theorem dX9_odds_12 : decode cX9_odds 12 = .ok (.ifCond .eq 12, 3) := by decide +kernel
theorem dX9_odds_15 : decode cX9_odds 15 = .ok (.iload_n 3, 1) := by decide +kernel
theorem dX9_odds_16 : decode cX9_odds 16 = .ok (.iconst 0, 1) := by decide +kernel
theorem dX9_odds_17 : decode cX9_odds 17 = .ok (.iconst 1, 1) := by decide +kernel
theorem dX9_odds_18 : decode cX9_odds 18 = .ok (.invokestatic 77, 3) := by decide +kernel
theorem dX9_odds_21 : decode cX9_odds 21 = .ok (.ifCond .ne 10, 3) := by decide +kernel
theorem dX9_odds_24 : decode cX9_odds 24 = .ok (.aload_n 0, 1) := by decide +kernel
theorem dX9_odds_25 : decode cX9_odds 25 = .ok (.ldc 81, 2) := by decide +kernel
theorem dX9_odds_27 : decode cX9_odds 27 = .ok (.invokevirtual 82, 3) := by decide +kernel
theorem dX9_odds_30 : decode cX9_odds 30 = .ok (.ireturn, 1) := by decide +kernel
theorem dX9_odds_31 : decode cX9_odds 31 = .ok (.aload_n 0, 1) := by decide +kernel
theorem dX9_odds_32 : decode cX9_odds 32 = .ok (.getfield 9, 3) := by decide +kernel
theorem dX9_odds_35 : decode cX9_odds 35 = .ok (.aload_n 0, 1) := by decide +kernel
theorem dX9_odds_36 : decode cX9_odds 36 = .ok (.getfield 16, 3) := by decide +kernel
theorem dX9_odds_39 : decode cX9_odds 39 = .ok (.invokestatic 73, 3) := by decide +kernel
theorem dX9_odds_42 : decode cX9_odds 42 = .ok (.iconst 0, 1) := by decide +kernel
theorem dX9_odds_43 : decode cX9_odds 43 = .ok (.istore 4, 2) := by decide +kernel
theorem dX9_odds_45 : decode cX9_odds 45 = .ok (.iconst 0, 1) := by decide +kernel
theorem dX9_odds_46 : decode cX9_odds 46 = .ok (.istore 5, 2) := by decide +kernel
theorem dX9_odds_48 : decode cX9_odds 48 = .ok (.iload 5, 2) := by decide +kernel
theorem dX9_odds_50 : decode cX9_odds 50 = .ok (.bipush 20, 2) := by decide +kernel
theorem dX9_odds_52 : decode cX9_odds 52 = .ok (.if_icmp .ge 39, 3) := by decide +kernel
theorem dX9_odds_55 : decode cX9_odds 55 = .ok (.aload_n 0, 1) := by decide +kernel
theorem dX9_odds_56 : decode cX9_odds 56 = .ok (.getfield 9, 3) := by decide +kernel
theorem dX9_odds_59 : decode cX9_odds 59 = .ok (.iconst 4, 1) := by decide +kernel
theorem dX9_odds_60 : decode cX9_odds 60 = .ok (.iload 5, 2) := by decide +kernel
theorem dX9_odds_62 : decode cX9_odds 62 = .ok (.iastore, 1) := by decide +kernel
theorem dX9_odds_63 : decode cX9_odds 63 = .ok (.iload 4, 2) := by decide +kernel
theorem dX9_odds_65 : decode cX9_odds 65 = .ok (.aload_n 0, 1) := by decide +kernel
theorem dX9_odds_66 : decode cX9_odds 66 = .ok (.iload_n 2, 1) := by decide +kernel
theorem dX9_odds_67 : decode cX9_odds 67 = .ok (.invokevirtual 257, 3) := by decide +kernel
theorem dX9_odds_70 : decode cX9_odds 70 = .ok (.iload_n 1, 1) := by decide +kernel
theorem dX9_odds_71 : decode cX9_odds 71 = .ok (.invokestatic 187, 3) := by decide +kernel
theorem dX9_odds_74 : decode cX9_odds 74 = .ok (.ifCond .eq 7, 3) := by decide +kernel
theorem dX9_odds_77 : decode cX9_odds 77 = .ok (.iconst 1, 1) := by decide +kernel
theorem dX9_odds_78 : decode cX9_odds 78 = .ok (.goto 4, 3) := by decide +kernel
theorem dX9_odds_81 : decode cX9_odds 81 = .ok (.iconst 0, 1) := by decide +kernel
theorem dX9_odds_82 : decode cX9_odds 82 = .ok (.iadd, 1) := by decide +kernel
theorem dX9_odds_83 : decode cX9_odds 83 = .ok (.istore 4, 2) := by decide +kernel
theorem dX9_odds_85 : decode cX9_odds 85 = .ok (.iinc 5 1, 3) := by decide +kernel
theorem dX9_odds_88 : decode cX9_odds 88 = .ok (.goto (-40), 3) := by decide +kernel
theorem dX9_odds_91 : decode cX9_odds 91 = .ok (.bipush 20, 2) := by decide +kernel
theorem dX9_odds_93 : decode cX9_odds 93 = .ok (.istore 5, 2) := by decide +kernel
theorem dX9_odds_95 : decode cX9_odds 95 = .ok (.iload 4, 2) := by decide +kernel
theorem dX9_odds_97 : decode cX9_odds 97 = .ok (.istore 6, 2) := by decide +kernel
theorem dX9_odds_99 : decode cX9_odds 99 = .ok (.iload 6, 2) := by decide +kernel
theorem dX9_odds_101 : decode cX9_odds 101 = .ok (.ifCond .eq 21, 3) := by decide +kernel
theorem dX9_odds_104 : decode cX9_odds 104 = .ok (.iload 5, 2) := by decide +kernel
theorem dX9_odds_106 : decode cX9_odds 106 = .ok (.iload 6, 2) := by decide +kernel
theorem dX9_odds_108 : decode cX9_odds 108 = .ok (.irem, 1) := by decide +kernel
theorem dX9_odds_109 : decode cX9_odds 109 = .ok (.istore 7, 2) := by decide +kernel
theorem dX9_odds_111 : decode cX9_odds 111 = .ok (.iload 6, 2) := by decide +kernel
theorem dX9_odds_113 : decode cX9_odds 113 = .ok (.istore 5, 2) := by decide +kernel
theorem dX9_odds_115 : decode cX9_odds 115 = .ok (.iload 7, 2) := by decide +kernel
theorem dX9_odds_117 : decode cX9_odds 117 = .ok (.istore 6, 2) := by decide +kernel
theorem dX9_odds_119 : decode cX9_odds 119 = .ok (.goto (-20), 3) := by decide +kernel
theorem dX9_odds_122 : decode cX9_odds 122 = .ok (.iload_n 3, 1) := by decide +kernel
theorem dX9_odds_123 : decode cX9_odds 123 = .ok (.ifCond .ne 8, 3) := by decide +kernel
theorem dX9_odds_126 : decode cX9_odds 126 = .ok (.iload 4, 2) := by decide +kernel
theorem dX9_odds_128 : decode cX9_odds 128 = .ok (.goto 5, 3) := by decide +kernel
theorem dX9_odds_131 : decode cX9_odds 131 = .ok (.bipush 20, 2) := by decide +kernel
theorem dX9_odds_133 : decode cX9_odds 133 = .ok (.iload 5, 2) := by decide +kernel
theorem dX9_odds_135 : decode cX9_odds 135 = .ok (.idiv, 1) := by decide +kernel
theorem dX9_odds_136 : decode cX9_odds 136 = .ok (.ireturn, 1) := by decide +kernel
theorem dX9_seed_0 : decode cX9_seed 0 = .ok (.aload_n 0, 1) := by decide +kernel
theorem dX9_seed_1 : decode cX9_seed 1 = .ok (.bipush 6, 2) := by decide +kernel
theorem dX9_seed_3 : decode cX9_seed 3 = .ok (.iload_n 1, 1) := by decide +kernel
theorem dX9_seed_4 : decode cX9_seed 4 = .ok (.invokevirtual 171, 3) := by decide +kernel
theorem dX9_seed_7 : decode cX9_seed 7 = .ok (.ireturn, 1) := by decide +kernel
theorem dX9_ran_0 : decode cX9_ran 0 = .ok (.aload_n 0, 1) := by decide +kernel
theorem dX9_ran_1 : decode cX9_ran 1 = .ok (.getfield 269, 3) := by decide +kernel
theorem dX9_ran_4 : decode cX9_ran 4 = .ok (.bipush 40, 2) := by decide +kernel
theorem dX9_ran_6 : decode cX9_ran 6 = .ok (.if_icmp .ge 23, 3) := by decide +kernel
theorem dX9_ran_9 : decode cX9_ran 9 = .ok (.aload_n 0, 1) := by decide +kernel
theorem dX9_ran_10 : decode cX9_ran 10 = .ok (.getfield 44, 3) := by decide +kernel
theorem dX9_ran_13 : decode cX9_ran 13 = .ok (.aload_n 0, 1) := by decide +kernel
theorem dX9_ran_14 : decode cX9_ran 14 = .ok (.getfield 269, 3) := by decide +kernel
theorem dX9_ran_17 : decode cX9_ran 17 = .ok (.iload_n 1, 1) := by decide +kernel
theorem dX9_ran_18 : decode cX9_ran 18 = .ok (.iastore, 1) := by decide +kernel
theorem dX9_ran_19 : decode cX9_ran 19 = .ok (.aload_n 0, 1) := by decide +kernel
theorem dX9_ran_20 : decode cX9_ran 20 = .ok (.dup, 1) := by decide +kernel
theorem dX9_ran_21 : decode cX9_ran 21 = .ok (.getfield 269, 3) := by decide +kernel
theorem dX9_ran_24 : decode cX9_ran 24 = .ok (.iconst 1, 1) := by decide +kernel
theorem dX9_ran_25 : decode cX9_ran 25 = .ok (.iadd, 1) := by decide +kernel
theorem dX9_ran_26 : decode cX9_ran 26 = .ok (.putfield 269, 3) := by decide +kernel
theorem dX9_ran_29 : decode cX9_ran 29 = .ok (.return_, 1) := by decide +kernel
theorem dX9_sailsOf_0 : decode cX9_sailsOf 0 = .ok (.aload_n 0, 1) := by decide +kernel
theorem dX9_sailsOf_1 : decode cX9_sailsOf 1 = .ok (.getfield 272, 3) := by decide +kernel
theorem dX9_sailsOf_4 : decode cX9_sailsOf 4 = .ok (.iconst 1, 1) := by decide +kernel
theorem dX9_sailsOf_5 : decode cX9_sailsOf 5 = .ok (.invokestatic 224, 3) := by decide +kernel
theorem dX9_sailsOf_8 : decode cX9_sailsOf 8 = .ok (.istore_n 2, 1) := by decide +kernel
theorem dX9_sailsOf_9 : decode cX9_sailsOf 9 = .ok (.iload_n 2, 1) := by decide +kernel
theorem dX9_sailsOf_10 : decode cX9_sailsOf 10 = .ok (.ifCond .eq 9, 3) := by decide +kernel
theorem dX9_sailsOf_13 : decode cX9_sailsOf 13 = .ok (.aload_n 0, 1) := by decide +kernel
theorem dX9_sailsOf_14 : decode cX9_sailsOf 14 = .ok (.bipush 20, 2) := by decide +kernel
theorem dX9_sailsOf_16 : decode cX9_sailsOf 16 = .ok (.invokevirtual 275, 3) := by decide +kernel
theorem dX9_sailsOf_19 : decode cX9_sailsOf 19 = .ok (.aload_n 0, 1) := by decide +kernel
theorem dX9_sailsOf_20 : decode cX9_sailsOf 20 = .ok (.bipush 10, 2) := by decide +kernel
theorem dX9_sailsOf_22 : decode cX9_sailsOf 22 = .ok (.invokevirtual 275, 3) := by decide +kernel
theorem dX9_sailsOf_25 : decode cX9_sailsOf 25 = .ok (.iload_n 2, 1) := by decide +kernel
theorem dX9_sailsOf_26 : decode cX9_sailsOf 26 = .ok (.ifCond .eq 14, 3) := by decide +kernel
theorem dX9_sailsOf_29 : decode cX9_sailsOf 29 = .ok (.iload_n 1, 1) := by decide +kernel
theorem dX9_sailsOf_30 : decode cX9_sailsOf 30 = .ok (.aload_n 0, 1) := by decide +kernel
theorem dX9_sailsOf_31 : decode cX9_sailsOf 31 = .ok (.getfield 278, 3) := by decide +kernel
theorem dX9_sailsOf_34 : decode cX9_sailsOf 34 = .ok (.iadd, 1) := by decide +kernel
theorem dX9_sailsOf_35 : decode cX9_sailsOf 35 = .ok (.iconst 3, 1) := by decide +kernel
theorem dX9_sailsOf_36 : decode cX9_sailsOf 36 = .ok (.imul, 1) := by decide +kernel
theorem dX9_sailsOf_37 : decode cX9_sailsOf 37 = .ok (.goto 9, 3) := by decide +kernel
theorem dX9_sailsOf_40 : decode cX9_sailsOf 40 = .ok (.iload_n 1, 1) := by decide +kernel
theorem dX9_sailsOf_41 : decode cX9_sailsOf 41 = .ok (.aload_n 0, 1) := by decide +kernel
theorem dX9_sailsOf_42 : decode cX9_sailsOf 42 = .ok (.getfield 278, 3) := by decide +kernel
theorem dX9_sailsOf_45 : decode cX9_sailsOf 45 = .ok (.iadd, 1) := by decide +kernel
theorem dX9_sailsOf_46 : decode cX9_sailsOf 46 = .ok (.ireturn, 1) := by decide +kernel
theorem dX9_steersOf_0 : decode cX9_steersOf 0 = .ok (.iload_n 1, 1) := by decide +kernel
theorem dX9_steersOf_1 : decode cX9_steersOf 1 = .ok (.istore_n 2, 1) := by decide +kernel
theorem dX9_steersOf_2 : decode cX9_steersOf 2 = .ok (.aload_n 0, 1) := by decide +kernel
theorem dX9_steersOf_3 : decode cX9_steersOf 3 = .ok (.getfield 272, 3) := by decide +kernel
theorem dX9_steersOf_6 : decode cX9_steersOf 6 = .ok (.iconst 5, 1) := by decide +kernel
theorem dX9_steersOf_7 : decode cX9_steersOf 7 = .ok (.if_icmp .ne 12, 3) := by decide +kernel
theorem dX9_steersOf_10 : decode cX9_steersOf 10 = .ok (.aload_n 0, 1) := by decide +kernel
theorem dX9_steersOf_11 : decode cX9_steersOf 11 = .ok (.bipush 60, 2) := by decide +kernel
theorem dX9_steersOf_13 : decode cX9_steersOf 13 = .ok (.invokevirtual 275, 3) := by decide +kernel
theorem dX9_steersOf_16 : decode cX9_steersOf 16 = .ok (.iinc 2 1, 3) := by decide +kernel
theorem dX9_steersOf_19 : decode cX9_steersOf 19 = .ok (.aload_n 0, 1) := by decide +kernel
theorem dX9_steersOf_20 : decode cX9_steersOf 20 = .ok (.getfield 272, 3) := by decide +kernel
theorem dX9_steersOf_23 : decode cX9_steersOf 23 = .ok (.iconst 2, 1) := by decide +kernel
theorem dX9_steersOf_24 : decode cX9_steersOf 24 = .ok (.invokestatic 224, 3) := by decide +kernel
theorem dX9_steersOf_27 : decode cX9_steersOf 27 = .ok (.istore_n 3, 1) := by decide +kernel
theorem dX9_steersOf_28 : decode cX9_steersOf 28 = .ok (.iload_n 3, 1) := by decide +kernel
theorem dX9_steersOf_29 : decode cX9_steersOf 29 = .ok (.ifCond .eq 9, 3) := by decide +kernel
theorem dX9_steersOf_32 : decode cX9_steersOf 32 = .ok (.aload_n 0, 1) := by decide +kernel
theorem dX9_steersOf_33 : decode cX9_steersOf 33 = .ok (.bipush 30, 2) := by decide +kernel
theorem dX9_steersOf_35 : decode cX9_steersOf 35 = .ok (.invokevirtual 275, 3) := by decide +kernel
theorem dX9_steersOf_38 : decode cX9_steersOf 38 = .ok (.aload_n 0, 1) := by decide +kernel
theorem dX9_steersOf_39 : decode cX9_steersOf 39 = .ok (.bipush 11, 2) := by decide +kernel
theorem dX9_steersOf_41 : decode cX9_steersOf 41 = .ok (.invokevirtual 275, 3) := by decide +kernel
theorem dX9_steersOf_44 : decode cX9_steersOf 44 = .ok (.aload_n 0, 1) := by decide +kernel
theorem dX9_steersOf_45 : decode cX9_steersOf 45 = .ok (.iload_n 2, 1) := by decide +kernel
theorem dX9_steersOf_46 : decode cX9_steersOf 46 = .ok (.invokevirtual 281, 3) := by decide +kernel
theorem dX9_steersOf_49 : decode cX9_steersOf 49 = .ok (.iconst 2, 1) := by decide +kernel
theorem dX9_steersOf_50 : decode cX9_steersOf 50 = .ok (.imul, 1) := by decide +kernel
theorem dX9_steersOf_51 : decode cX9_steersOf 51 = .ok (.istore 4, 2) := by decide +kernel
theorem dX9_steersOf_53 : decode cX9_steersOf 53 = .ok (.iload_n 3, 1) := by decide +kernel
theorem dX9_steersOf_54 : decode cX9_steersOf 54 = .ok (.ifCond .eq 14, 3) := by decide +kernel
theorem dX9_steersOf_57 : decode cX9_steersOf 57 = .ok (.iload 4, 2) := by decide +kernel
theorem dX9_steersOf_59 : decode cX9_steersOf 59 = .ok (.aload_n 0, 1) := by decide +kernel
theorem dX9_steersOf_60 : decode cX9_steersOf 60 = .ok (.iconst 1, 1) := by decide +kernel
theorem dX9_steersOf_61 : decode cX9_steersOf 61 = .ok (.invokevirtual 284, 3) := by decide +kernel
theorem dX9_steersOf_64 : decode cX9_steersOf 64 = .ok (.isub, 1) := by decide +kernel
theorem dX9_steersOf_65 : decode cX9_steersOf 65 = .ok (.goto 5, 3) := by decide +kernel
theorem dX9_steersOf_68 : decode cX9_steersOf 68 = .ok (.iload 4, 2) := by decide +kernel
theorem dX9_steersOf_70 : decode cX9_steersOf 70 = .ok (.ireturn, 1) := by decide +kernel
theorem dX9_soundsOf_0 : decode cX9_soundsOf 0 = .ok (.aload_n 0, 1) := by decide +kernel
theorem dX9_soundsOf_1 : decode cX9_soundsOf 1 = .ok (.getfield 272, 3) := by decide +kernel
theorem dX9_soundsOf_4 : decode cX9_soundsOf 4 = .ok (.bipush 6, 2) := by decide +kernel
theorem dX9_soundsOf_6 : decode cX9_soundsOf 6 = .ok (.if_icmp .ne 9, 3) := by decide +kernel
theorem dX9_soundsOf_9 : decode cX9_soundsOf 9 = .ok (.aload_n 0, 1) := by decide +kernel
theorem dX9_soundsOf_10 : decode cX9_soundsOf 10 = .ok (.bipush 70, 2) := by decide +kernel
theorem dX9_soundsOf_12 : decode cX9_soundsOf 12 = .ok (.invokevirtual 275, 3) := by decide +kernel
theorem dX9_soundsOf_15 : decode cX9_soundsOf 15 = .ok (.aload_n 0, 1) := by decide +kernel
theorem dX9_soundsOf_16 : decode cX9_soundsOf 16 = .ok (.getfield 272, 3) := by decide +kernel
theorem dX9_soundsOf_19 : decode cX9_soundsOf 19 = .ok (.iconst 3, 1) := by decide +kernel
theorem dX9_soundsOf_20 : decode cX9_soundsOf 20 = .ok (.invokestatic 224, 3) := by decide +kernel
theorem dX9_soundsOf_23 : decode cX9_soundsOf 23 = .ok (.istore_n 2, 1) := by decide +kernel
theorem dX9_soundsOf_24 : decode cX9_soundsOf 24 = .ok (.iload_n 2, 1) := by decide +kernel
theorem dX9_soundsOf_25 : decode cX9_soundsOf 25 = .ok (.ifCond .eq 9, 3) := by decide +kernel
theorem dX9_soundsOf_28 : decode cX9_soundsOf 28 = .ok (.aload_n 0, 1) := by decide +kernel
theorem dX9_soundsOf_29 : decode cX9_soundsOf 29 = .ok (.bipush 40, 2) := by decide +kernel
theorem dX9_soundsOf_31 : decode cX9_soundsOf 31 = .ok (.invokevirtual 275, 3) := by decide +kernel
theorem dX9_soundsOf_34 : decode cX9_soundsOf 34 = .ok (.aload_n 0, 1) := by decide +kernel
theorem dX9_soundsOf_35 : decode cX9_soundsOf 35 = .ok (.bipush 12, 2) := by decide +kernel
theorem dX9_soundsOf_37 : decode cX9_soundsOf 37 = .ok (.invokevirtual 275, 3) := by decide +kernel
theorem dX9_soundsOf_40 : decode cX9_soundsOf 40 = .ok (.iload_n 2, 1) := by decide +kernel
theorem dX9_soundsOf_41 : decode cX9_soundsOf 41 = .ok (.ifCond .eq 13, 3) := by decide +kernel
theorem dX9_soundsOf_44 : decode cX9_soundsOf 44 = .ok (.iload_n 1, 1) := by decide +kernel
theorem dX9_soundsOf_45 : decode cX9_soundsOf 45 = .ok (.aload_n 0, 1) := by decide +kernel
theorem dX9_soundsOf_46 : decode cX9_soundsOf 46 = .ok (.getfield 287, 3) := by decide +kernel
theorem dX9_soundsOf_49 : decode cX9_soundsOf 49 = .ok (.isub, 1) := by decide +kernel
theorem dX9_soundsOf_50 : decode cX9_soundsOf 50 = .ok (.ineg, 1) := by decide +kernel
theorem dX9_soundsOf_51 : decode cX9_soundsOf 51 = .ok (.goto 9, 3) := by decide +kernel
theorem dX9_soundsOf_54 : decode cX9_soundsOf 54 = .ok (.iload_n 1, 1) := by decide +kernel
theorem dX9_soundsOf_55 : decode cX9_soundsOf 55 = .ok (.aload_n 0, 1) := by decide +kernel
theorem dX9_soundsOf_56 : decode cX9_soundsOf 56 = .ok (.getfield 287, 3) := by decide +kernel
theorem dX9_soundsOf_59 : decode cX9_soundsOf 59 = .ok (.isub, 1) := by decide +kernel
theorem dX9_soundsOf_60 : decode cX9_soundsOf 60 = .ok (.istore_n 3, 1) := by decide +kernel
theorem dX9_soundsOf_61 : decode cX9_soundsOf 61 = .ok (.aload_n 0, 1) := by decide +kernel
theorem dX9_soundsOf_62 : decode cX9_soundsOf 62 = .ok (.getfield 272, 3) := by decide +kernel
theorem dX9_soundsOf_65 : decode cX9_soundsOf 65 = .ok (.bipush 6, 2) := by decide +kernel
theorem dX9_soundsOf_67 : decode cX9_soundsOf 67 = .ok (.if_icmp .ne 12, 3) := by decide +kernel
theorem dX9_soundsOf_70 : decode cX9_soundsOf 70 = .ok (.iload_n 3, 1) := by decide +kernel
theorem dX9_soundsOf_71 : decode cX9_soundsOf 71 = .ok (.aload_n 0, 1) := by decide +kernel
theorem dX9_soundsOf_72 : decode cX9_soundsOf 72 = .ok (.getfield 278, 3) := by decide +kernel
theorem dX9_soundsOf_75 : decode cX9_soundsOf 75 = .ok (.ixor, 1) := by decide +kernel
theorem dX9_soundsOf_76 : decode cX9_soundsOf 76 = .ok (.goto 4, 3) := by decide +kernel
theorem dX9_soundsOf_79 : decode cX9_soundsOf 79 = .ok (.iload_n 3, 1) := by decide +kernel
theorem dX9_soundsOf_80 : decode cX9_soundsOf 80 = .ok (.ireturn, 1) := by decide +kernel
theorem dX9_plainLogs_0 : decode cX9_plainLogs 0 = .ok (.aload_n 0, 1) := by decide +kernel
theorem dX9_plainLogs_1 : decode cX9_plainLogs 1 = .ok (.bipush 13, 2) := by decide +kernel
theorem dX9_plainLogs_3 : decode cX9_plainLogs 3 = .ok (.invokevirtual 275, 3) := by decide +kernel
theorem dX9_plainLogs_6 : decode cX9_plainLogs 6 = .ok (.aload_n 0, 1) := by decide +kernel
theorem dX9_plainLogs_7 : decode cX9_plainLogs 7 = .ok (.iload_n 1, 1) := by decide +kernel
theorem dX9_plainLogs_8 : decode cX9_plainLogs 8 = .ok (.invokevirtual 290, 3) := by decide +kernel
theorem dX9_plainLogs_11 : decode cX9_plainLogs 11 = .ok (.istore_n 2, 1) := by decide +kernel
theorem dX9_plainLogs_12 : decode cX9_plainLogs 12 = .ok (.iload_n 2, 1) := by decide +kernel
theorem dX9_plainLogs_13 : decode cX9_plainLogs 13 = .ok (.aload_n 0, 1) := by decide +kernel
theorem dX9_plainLogs_14 : decode cX9_plainLogs 14 = .ok (.iload_n 1, 1) := by decide +kernel
theorem dX9_plainLogs_15 : decode cX9_plainLogs 15 = .ok (.invokevirtual 284, 3) := by decide +kernel
theorem dX9_plainLogs_18 : decode cX9_plainLogs 18 = .ok (.ixor, 1) := by decide +kernel
theorem dX9_plainLogs_19 : decode cX9_plainLogs 19 = .ok (.ireturn, 1) := by decide +kernel
theorem dX9_logsOf_0 : decode cX9_logsOf 0 = .ok (.aload_n 0, 1) := by decide +kernel
theorem dX9_logsOf_1 : decode cX9_logsOf 1 = .ok (.getfield 272, 3) := by decide +kernel
theorem dX9_logsOf_4 : decode cX9_logsOf 4 = .ok (.bipush 6, 2) := by decide +kernel
theorem dX9_logsOf_6 : decode cX9_logsOf 6 = .ok (.if_icmp .ne 23, 3) := by decide +kernel
theorem dX9_logsOf_9 : decode cX9_logsOf 9 = .ok (.aload_n 0, 1) := by decide +kernel
theorem dX9_logsOf_10 : decode cX9_logsOf 10 = .ok (.bipush 71, 2) := by decide +kernel
theorem dX9_logsOf_12 : decode cX9_logsOf 12 = .ok (.invokevirtual 275, 3) := by decide +kernel
theorem dX9_logsOf_15 : decode cX9_logsOf 15 = .ok (.aload_n 0, 1) := by decide +kernel
theorem dX9_logsOf_16 : decode cX9_logsOf 16 = .ok (.iload_n 1, 1) := by decide +kernel
theorem dX9_logsOf_17 : decode cX9_logsOf 17 = .ok (.invokevirtual 290, 3) := by decide +kernel
theorem dX9_logsOf_20 : decode cX9_logsOf 20 = .ok (.istore_n 2, 1) := by decide +kernel
theorem dX9_logsOf_21 : decode cX9_logsOf 21 = .ok (.iload_n 2, 1) := by decide +kernel
theorem dX9_logsOf_22 : decode cX9_logsOf 22 = .ok (.aload_n 0, 1) := by decide +kernel
theorem dX9_logsOf_23 : decode cX9_logsOf 23 = .ok (.iload_n 1, 1) := by decide +kernel
theorem dX9_logsOf_24 : decode cX9_logsOf 24 = .ok (.invokevirtual 293, 3) := by decide +kernel
theorem dX9_logsOf_27 : decode cX9_logsOf 27 = .ok (.isub, 1) := by decide +kernel
theorem dX9_logsOf_28 : decode cX9_logsOf 28 = .ok (.ireturn, 1) := by decide +kernel
theorem dX9_logsOf_29 : decode cX9_logsOf 29 = .ok (.aload_n 0, 1) := by decide +kernel
theorem dX9_logsOf_30 : decode cX9_logsOf 30 = .ok (.getfield 272, 3) := by decide +kernel
theorem dX9_logsOf_33 : decode cX9_logsOf 33 = .ok (.iconst 4, 1) := by decide +kernel
theorem dX9_logsOf_34 : decode cX9_logsOf 34 = .ok (.if_icmp .ne 23, 3) := by decide +kernel
theorem dX9_logsOf_37 : decode cX9_logsOf 37 = .ok (.aload_n 0, 1) := by decide +kernel
theorem dX9_logsOf_38 : decode cX9_logsOf 38 = .ok (.bipush 50, 2) := by decide +kernel
theorem dX9_logsOf_40 : decode cX9_logsOf 40 = .ok (.invokevirtual 275, 3) := by decide +kernel
theorem dX9_logsOf_43 : decode cX9_logsOf 43 = .ok (.aload_n 0, 1) := by decide +kernel
theorem dX9_logsOf_44 : decode cX9_logsOf 44 = .ok (.iload_n 1, 1) := by decide +kernel
theorem dX9_logsOf_45 : decode cX9_logsOf 45 = .ok (.invokevirtual 293, 3) := by decide +kernel
theorem dX9_logsOf_48 : decode cX9_logsOf 48 = .ok (.istore_n 2, 1) := by decide +kernel
theorem dX9_logsOf_49 : decode cX9_logsOf 49 = .ok (.iload_n 2, 1) := by decide +kernel
theorem dX9_logsOf_50 : decode cX9_logsOf 50 = .ok (.aload_n 0, 1) := by decide +kernel
theorem dX9_logsOf_51 : decode cX9_logsOf 51 = .ok (.iconst 2, 1) := by decide +kernel
theorem dX9_logsOf_52 : decode cX9_logsOf 52 = .ok (.invokevirtual 281, 3) := by decide +kernel
theorem dX9_logsOf_55 : decode cX9_logsOf 55 = .ok (.isub, 1) := by decide +kernel
theorem dX9_logsOf_56 : decode cX9_logsOf 56 = .ok (.ireturn, 1) := by decide +kernel
theorem dX9_logsOf_57 : decode cX9_logsOf 57 = .ok (.aload_n 0, 1) := by decide +kernel
theorem dX9_logsOf_58 : decode cX9_logsOf 58 = .ok (.iload_n 1, 1) := by decide +kernel
theorem dX9_logsOf_59 : decode cX9_logsOf 59 = .ok (.invokevirtual 293, 3) := by decide +kernel
theorem dX9_logsOf_62 : decode cX9_logsOf 62 = .ok (.ireturn, 1) := by decide +kernel
theorem dX9_voice_0 : decode cX9_voice 0 = .ok (.aload_n 0, 1) := by decide +kernel
theorem dX9_voice_1 : decode cX9_voice 1 = .ok (.iload_n 1, 1) := by decide +kernel
theorem dX9_voice_2 : decode cX9_voice 2 = .ok (.invokevirtual 218, 3) := by decide +kernel
theorem dX9_voice_5 : decode cX9_voice 5 = .ok (.ifCond .eq 12, 3) := by decide +kernel
theorem dX9_voice_8 : decode cX9_voice 8 = .ok (.iload_n 2, 1) := by decide +kernel
theorem dX9_voice_9 : decode cX9_voice 9 = .ok (.iconst 0, 1) := by decide +kernel
theorem dX9_voice_10 : decode cX9_voice 10 = .ok (.iconst 3, 1) := by decide +kernel
theorem dX9_voice_11 : decode cX9_voice 11 = .ok (.invokestatic 77, 3) := by decide +kernel
theorem dX9_voice_14 : decode cX9_voice 14 = .ok (.ifCond .ne 10, 3) := by decide +kernel
theorem dX9_voice_17 : decode cX9_voice 17 = .ok (.aload_n 0, 1) := by decide +kernel
theorem dX9_voice_18 : decode cX9_voice 18 = .ok (.ldc 81, 2) := by decide +kernel
theorem dX9_voice_20 : decode cX9_voice 20 = .ok (.invokevirtual 82, 3) := by decide +kernel
theorem dX9_voice_23 : decode cX9_voice 23 = .ok (.ireturn, 1) := by decide +kernel
theorem dX9_voice_24 : decode cX9_voice 24 = .ok (.aload_n 0, 1) := by decide +kernel
theorem dX9_voice_25 : decode cX9_voice 25 = .ok (.iconst 0, 1) := by decide +kernel
theorem dX9_voice_26 : decode cX9_voice 26 = .ok (.putfield 269, 3) := by decide +kernel
theorem dX9_voice_29 : decode cX9_voice 29 = .ok (.aload_n 0, 1) := by decide +kernel
theorem dX9_voice_30 : decode cX9_voice 30 = .ok (.aload_n 0, 1) := by decide +kernel
theorem dX9_voice_31 : decode cX9_voice 31 = .ok (.iload_n 1, 1) := by decide +kernel
theorem dX9_voice_32 : decode cX9_voice 32 = .ok (.iconst 0, 1) := by decide +kernel
theorem dX9_voice_33 : decode cX9_voice 33 = .ok (.invokevirtual 191, 3) := by decide +kernel
theorem dX9_voice_36 : decode cX9_voice 36 = .ok (.putfield 272, 3) := by decide +kernel
theorem dX9_voice_39 : decode cX9_voice 39 = .ok (.aload_n 0, 1) := by decide +kernel
theorem dX9_voice_40 : decode cX9_voice 40 = .ok (.iload_n 1, 1) := by decide +kernel
theorem dX9_voice_41 : decode cX9_voice 41 = .ok (.putfield 278, 3) := by decide +kernel
theorem dX9_voice_44 : decode cX9_voice 44 = .ok (.aload_n 0, 1) := by decide +kernel
theorem dX9_voice_45 : decode cX9_voice 45 = .ok (.aload_n 0, 1) := by decide +kernel
theorem dX9_voice_46 : decode cX9_voice 46 = .ok (.iload_n 1, 1) := by decide +kernel
theorem dX9_voice_47 : decode cX9_voice 47 = .ok (.iconst 1, 1) := by decide +kernel
theorem dX9_voice_48 : decode cX9_voice 48 = .ok (.invokevirtual 191, 3) := by decide +kernel
theorem dX9_voice_51 : decode cX9_voice 51 = .ok (.putfield 287, 3) := by decide +kernel
theorem dX9_voice_54 : decode cX9_voice 54 = .ok (.iload_n 2, 1) := by decide +kernel
theorem dX9_voice_55 : decode cX9_voice 55 = .ok (.ifCond .ne 11, 3) := by decide +kernel
theorem dX9_voice_58 : decode cX9_voice 58 = .ok (.aload_n 0, 1) := by decide +kernel
theorem dX9_voice_59 : decode cX9_voice 59 = .ok (.iload_n 3, 1) := by decide +kernel
theorem dX9_voice_60 : decode cX9_voice 60 = .ok (.invokevirtual 281, 3) := by decide +kernel
theorem dX9_voice_63 : decode cX9_voice 63 = .ok (.goto 34, 3) := by decide +kernel
theorem dX9_voice_66 : decode cX9_voice 66 = .ok (.iload_n 2, 1) := by decide +kernel
theorem dX9_voice_67 : decode cX9_voice 67 = .ok (.iconst 1, 1) := by decide +kernel
theorem dX9_voice_68 : decode cX9_voice 68 = .ok (.if_icmp .ne 11, 3) := by decide +kernel
theorem dX9_voice_71 : decode cX9_voice 71 = .ok (.aload_n 0, 1) := by decide +kernel
theorem dX9_voice_72 : decode cX9_voice 72 = .ok (.iload_n 3, 1) := by decide +kernel
theorem dX9_voice_73 : decode cX9_voice 73 = .ok (.invokevirtual 290, 3) := by decide +kernel
theorem dX9_voice_76 : decode cX9_voice 76 = .ok (.goto 21, 3) := by decide +kernel
theorem dX9_voice_79 : decode cX9_voice 79 = .ok (.iload_n 2, 1) := by decide +kernel
theorem dX9_voice_80 : decode cX9_voice 80 = .ok (.iconst 2, 1) := by decide +kernel
theorem dX9_voice_81 : decode cX9_voice 81 = .ok (.if_icmp .ne 11, 3) := by decide +kernel
theorem dX9_voice_84 : decode cX9_voice 84 = .ok (.aload_n 0, 1) := by decide +kernel
theorem dX9_voice_85 : decode cX9_voice 85 = .ok (.iload_n 3, 1) := by decide +kernel
theorem dX9_voice_86 : decode cX9_voice 86 = .ok (.invokevirtual 284, 3) := by decide +kernel
theorem dX9_voice_89 : decode cX9_voice 89 = .ok (.goto 8, 3) := by decide +kernel
theorem dX9_voice_92 : decode cX9_voice 92 = .ok (.aload_n 0, 1) := by decide +kernel
theorem dX9_voice_93 : decode cX9_voice 93 = .ok (.iload_n 3, 1) := by decide +kernel
theorem dX9_voice_94 : decode cX9_voice 94 = .ok (.invokevirtual 296, 3) := by decide +kernel
theorem dX9_voice_97 : decode cX9_voice 97 = .ok (.ireturn, 1) := by decide +kernel
theorem dX9_trace_0 : decode cX9_trace 0 = .ok (.iload_n 1, 1) := by decide +kernel
theorem dX9_trace_1 : decode cX9_trace 1 = .ok (.iconst 0, 1) := by decide +kernel
theorem dX9_trace_2 : decode cX9_trace 2 = .ok (.aload_n 0, 1) := by decide +kernel
theorem dX9_trace_3 : decode cX9_trace 3 = .ok (.getfield 269, 3) := by decide +kernel
theorem dX9_trace_6 : decode cX9_trace 6 = .ok (.iconst 1, 1) := by decide +kernel
theorem dX9_trace_7 : decode cX9_trace 7 = .ok (.isub, 1) := by decide +kernel
theorem dX9_trace_8 : decode cX9_trace 8 = .ok (.invokestatic 77, 3) := by decide +kernel
theorem dX9_trace_11 : decode cX9_trace 11 = .ok (.ifCond .eq 12, 3) := by decide +kernel
theorem dX9_trace_14 : decode cX9_trace 14 = .ok (.aload_n 0, 1) := by decide +kernel
theorem dX9_trace_15 : decode cX9_trace 15 = .ok (.getfield 44, 3) := by decide +kernel
theorem dX9_trace_18 : decode cX9_trace 18 = .ok (.iload_n 1, 1) := by decide +kernel
theorem dX9_trace_19 : decode cX9_trace 19 = .ok (.iaload, 1) := by decide +kernel
theorem dX9_trace_20 : decode cX9_trace 20 = .ok (.goto 10, 3) := by decide +kernel
theorem dX9_trace_23 : decode cX9_trace 23 = .ok (.aload_n 0, 1) := by decide +kernel
theorem dX9_trace_24 : decode cX9_trace 24 = .ok (.ldc_w 256, 3) := by decide +kernel
theorem dX9_trace_27 : decode cX9_trace 27 = .ok (.invokevirtual 82, 3) := by decide +kernel
theorem dX9_trace_30 : decode cX9_trace 30 = .ok (.ireturn, 1) := by decide +kernel
theorem dX9_isSheet_0 : decode cX9_isSheet 0 = .ok (.iload_n 0, 1) := by decide +kernel
theorem dX9_isSheet_1 : decode cX9_isSheet 1 = .ok (.iconst 0, 1) := by decide +kernel
theorem dX9_isSheet_2 : decode cX9_isSheet 2 = .ok (.iconst 3, 1) := by decide +kernel
theorem dX9_isSheet_3 : decode cX9_isSheet 3 = .ok (.invokestatic 77, 3) := by decide +kernel
theorem dX9_isSheet_6 : decode cX9_isSheet 6 = .ok (.ireturn, 1) := by decide +kernel
theorem dX9_sheet_0 : decode cX9_sheet 0 = .ok (.iload_n 1, 1) := by decide +kernel
theorem dX9_sheet_1 : decode cX9_sheet 1 = .ok (.invokestatic 263, 3) := by decide +kernel
theorem dX9_sheet_4 : decode cX9_sheet 4 = .ok (.ifCond .eq 25, 3) := by decide +kernel
theorem dX9_sheet_7 : decode cX9_sheet 7 = .ok (.iload_n 2, 1) := by decide +kernel
theorem dX9_sheet_8 : decode cX9_sheet 8 = .ok (.ifCond .eq 28, 3) := by decide +kernel
theorem dX9_sheet_11 : decode cX9_sheet 11 = .ok (.iload_n 2, 1) := by decide +kernel
theorem dX9_sheet_12 : decode cX9_sheet 12 = .ok (.bipush 8, 2) := by decide +kernel
theorem dX9_sheet_14 : decode cX9_sheet 14 = .ok (.if_icmp .eq 22, 3) := by decide +kernel
theorem dX9_sheet_17 : decode cX9_sheet 17 = .ok (.iload_n 2, 1) := by decide +kernel
theorem dX9_sheet_18 : decode cX9_sheet 18 = .ok (.bipush 16, 2) := by decide +kernel
theorem dX9_sheet_20 : decode cX9_sheet 20 = .ok (.if_icmp .eq 16, 3) := by decide +kernel
theorem dX9_sheet_23 : decode cX9_sheet 23 = .ok (.iload_n 2, 1) := by decide +kernel
theorem dX9_sheet_24 : decode cX9_sheet 24 = .ok (.bipush 32, 2) := by decide +kernel
theorem dX9_sheet_26 : decode cX9_sheet 26 = .ok (.if_icmp .eq 10, 3) := by decide +kernel
theorem dX9_sheet_29 : decode cX9_sheet 29 = .ok (.aload_n 0, 1) := by decide +kernel
theorem dX9_sheet_30 : decode cX9_sheet 30 = .ok (.ldc 81, 2) := by decide +kernel
theorem dX9_sheet_32 : decode cX9_sheet 32 = .ok (.invokevirtual 82, 3) := by decide +kernel
theorem dX9_sheet_35 : decode cX9_sheet 35 = .ok (.ireturn, 1) := by decide +kernel
theorem dX9_sheet_36 : decode cX9_sheet 36 = .ok (.iload_n 2, 1) := by decide +kernel
theorem dX9_sheet_37 : decode cX9_sheet 37 = .ok (.ifCond .eq 14, 3) := by decide +kernel
theorem dX9_sheet_40 : decode cX9_sheet 40 = .ok (.iload_n 3, 1) := by decide +kernel
theorem dX9_sheet_41 : decode cX9_sheet 41 = .ok (.ifCond .ge 10, 3) := by decide +kernel
theorem dX9_sheet_44 : decode cX9_sheet 44 = .ok (.aload_n 0, 1) := by decide +kernel
theorem dX9_sheet_45 : decode cX9_sheet 45 = .ok (.ldc 174, 2) := by decide +kernel
theorem dX9_sheet_47 : decode cX9_sheet 47 = .ok (.invokevirtual 82, 3) := by decide +kernel
theorem dX9_sheet_50 : decode cX9_sheet 50 = .ok (.ireturn, 1) := by decide +kernel
theorem dX9_sheet_51 : decode cX9_sheet 51 = .ok (.iload_n 2, 1) := by decide +kernel
theorem dX9_sheet_52 : decode cX9_sheet 52 = .ok (.ifCond .eq 16, 3) := by decide +kernel
theorem dX9_sheet_55 : decode cX9_sheet 55 = .ok (.iload_n 3, 1) := by decide +kernel
theorem dX9_sheet_56 : decode cX9_sheet 56 = .ok (.bipush 40, 2) := by decide +kernel
theorem dX9_sheet_58 : decode cX9_sheet 58 = .ok (.if_icmp .le 10, 3) := by decide +kernel
theorem dX9_sheet_61 : decode cX9_sheet 61 = .ok (.aload_n 0, 1) := by decide +kernel
theorem dX9_sheet_62 : decode cX9_sheet 62 = .ok (.ldc 81, 2) := by decide +kernel
theorem dX9_sheet_64 : decode cX9_sheet 64 = .ok (.invokevirtual 82, 3) := by decide +kernel
theorem dX9_sheet_67 : decode cX9_sheet 67 = .ok (.ireturn, 1) := by decide +kernel
theorem dX9_sheet_68 : decode cX9_sheet 68 = .ok (.aload_n 0, 1) := by decide +kernel
theorem dX9_sheet_69 : decode cX9_sheet 69 = .ok (.getfield 47, 3) := by decide +kernel
theorem dX9_sheet_72 : decode cX9_sheet 72 = .ok (.iload_n 1, 1) := by decide +kernel
theorem dX9_sheet_73 : decode cX9_sheet 73 = .ok (.iload_n 2, 1) := by decide +kernel
theorem dX9_sheet_74 : decode cX9_sheet 74 = .ok (.iastore, 1) := by decide +kernel
theorem dX9_sheet_75 : decode cX9_sheet 75 = .ok (.aload_n 0, 1) := by decide +kernel
theorem dX9_sheet_76 : decode cX9_sheet 76 = .ok (.getfield 50, 3) := by decide +kernel
theorem dX9_sheet_79 : decode cX9_sheet 79 = .ok (.iload_n 1, 1) := by decide +kernel
theorem dX9_sheet_80 : decode cX9_sheet 80 = .ok (.iload_n 2, 1) := by decide +kernel
theorem dX9_sheet_81 : decode cX9_sheet 81 = .ok (.ifCond .ne 7, 3) := by decide +kernel
theorem dX9_sheet_84 : decode cX9_sheet 84 = .ok (.iconst 0, 1) := by decide +kernel
theorem dX9_sheet_85 : decode cX9_sheet 85 = .ok (.goto 4, 3) := by decide +kernel
theorem dX9_sheet_88 : decode cX9_sheet 88 = .ok (.iload_n 3, 1) := by decide +kernel
theorem dX9_sheet_89 : decode cX9_sheet 89 = .ok (.iastore, 1) := by decide +kernel
theorem dX9_sheet_90 : decode cX9_sheet 90 = .ok (.iconst 0, 1) := by decide +kernel
theorem dX9_sheet_91 : decode cX9_sheet 91 = .ok (.istore 4, 2) := by decide +kernel
theorem dX9_sheet_93 : decode cX9_sheet 93 = .ok (.iload 4, 2) := by decide +kernel
theorem dX9_sheet_95 : decode cX9_sheet 95 = .ok (.bipush 40, 2) := by decide +kernel
theorem dX9_sheet_97 : decode cX9_sheet 97 = .ok (.if_icmp .ge 22, 3) := by decide +kernel
theorem dX9_sheet_100 : decode cX9_sheet 100 = .ok (.aload_n 0, 1) := by decide +kernel
theorem dX9_sheet_101 : decode cX9_sheet 101 = .ok (.getfield 53, 3) := by decide +kernel
theorem dX9_sheet_104 : decode cX9_sheet 104 = .ok (.bipush 40, 2) := by decide +kernel
theorem dX9_sheet_106 : decode cX9_sheet 106 = .ok (.iload_n 1, 1) := by decide +kernel
theorem dX9_sheet_107 : decode cX9_sheet 107 = .ok (.imul, 1) := by decide +kernel
theorem dX9_sheet_108 : decode cX9_sheet 108 = .ok (.iload 4, 2) := by decide +kernel
theorem dX9_sheet_110 : decode cX9_sheet 110 = .ok (.iadd, 1) := by decide +kernel
theorem dX9_sheet_111 : decode cX9_sheet 111 = .ok (.iconst 0, 1) := by decide +kernel
theorem dX9_sheet_112 : decode cX9_sheet 112 = .ok (.iastore, 1) := by decide +kernel
theorem dX9_sheet_113 : decode cX9_sheet 113 = .ok (.iinc 4 1, 3) := by decide +kernel
theorem dX9_sheet_116 : decode cX9_sheet 116 = .ok (.goto (-23), 3) := by decide +kernel
theorem dX9_sheet_119 : decode cX9_sheet 119 = .ok (.iconst 1, 1) := by decide +kernel
theorem dX9_sheet_120 : decode cX9_sheet 120 = .ok (.ireturn, 1) := by decide +kernel
theorem dX9_put_0 : decode cX9_put 0 = .ok (.iload_n 1, 1) := by decide +kernel
theorem dX9_put_1 : decode cX9_put 1 = .ok (.invokestatic 263, 3) := by decide +kernel
theorem dX9_put_4 : decode cX9_put 4 = .ok (.ifCond .ne 10, 3) := by decide +kernel
theorem dX9_put_7 : decode cX9_put 7 = .ok (.aload_n 0, 1) := by decide +kernel
theorem dX9_put_8 : decode cX9_put 8 = .ok (.ldc 81, 2) := by decide +kernel
theorem dX9_put_10 : decode cX9_put 10 = .ok (.invokevirtual 82, 3) := by decide +kernel
theorem dX9_put_13 : decode cX9_put 13 = .ok (.ireturn, 1) := by decide +kernel
theorem dX9_put_14 : decode cX9_put 14 = .ok (.aload_n 0, 1) := by decide +kernel
theorem dX9_put_15 : decode cX9_put 15 = .ok (.getfield 47, 3) := by decide +kernel
theorem dX9_put_18 : decode cX9_put 18 = .ok (.iload_n 1, 1) := by decide +kernel
theorem dX9_put_19 : decode cX9_put 19 = .ok (.iaload, 1) := by decide +kernel
theorem dX9_put_20 : decode cX9_put 20 = .ok (.ifCond .ne 11, 3) := by decide +kernel
theorem dX9_put_23 : decode cX9_put 23 = .ok (.aload_n 0, 1) := by decide +kernel
theorem dX9_put_24 : decode cX9_put 24 = .ok (.ldc_w 256, 3) := by decide +kernel
theorem dX9_put_27 : decode cX9_put 27 = .ok (.invokevirtual 82, 3) := by decide +kernel
theorem dX9_put_30 : decode cX9_put 30 = .ok (.ireturn, 1) := by decide +kernel
theorem dX9_put_31 : decode cX9_put 31 = .ok (.iload_n 2, 1) := by decide +kernel
theorem dX9_put_32 : decode cX9_put 32 = .ok (.iconst 0, 1) := by decide +kernel
theorem dX9_put_33 : decode cX9_put 33 = .ok (.aload_n 0, 1) := by decide +kernel
theorem dX9_put_34 : decode cX9_put 34 = .ok (.getfield 50, 3) := by decide +kernel
theorem dX9_put_37 : decode cX9_put 37 = .ok (.iload_n 1, 1) := by decide +kernel
theorem dX9_put_38 : decode cX9_put 38 = .ok (.iaload, 1) := by decide +kernel
theorem dX9_put_39 : decode cX9_put 39 = .ok (.iconst 1, 1) := by decide +kernel
theorem dX9_put_40 : decode cX9_put 40 = .ok (.isub, 1) := by decide +kernel
theorem dX9_put_41 : decode cX9_put 41 = .ok (.invokestatic 77, 3) := by decide +kernel
theorem dX9_put_44 : decode cX9_put 44 = .ok (.ifCond .ne 10, 3) := by decide +kernel
theorem dX9_put_47 : decode cX9_put 47 = .ok (.aload_n 0, 1) := by decide +kernel
theorem dX9_put_48 : decode cX9_put 48 = .ok (.ldc 81, 2) := by decide +kernel
theorem dX9_put_50 : decode cX9_put 50 = .ok (.invokevirtual 82, 3) := by decide +kernel
theorem dX9_put_53 : decode cX9_put 53 = .ok (.ireturn, 1) := by decide +kernel
theorem dX9_put_54 : decode cX9_put 54 = .ok (.aload_n 0, 1) := by decide +kernel
theorem dX9_put_55 : decode cX9_put 55 = .ok (.getfield 53, 3) := by decide +kernel
theorem dX9_put_58 : decode cX9_put 58 = .ok (.bipush 40, 2) := by decide +kernel
theorem dX9_put_60 : decode cX9_put 60 = .ok (.iload_n 1, 1) := by decide +kernel
theorem dX9_put_61 : decode cX9_put 61 = .ok (.imul, 1) := by decide +kernel
theorem dX9_put_62 : decode cX9_put 62 = .ok (.iload_n 2, 1) := by decide +kernel
theorem dX9_put_63 : decode cX9_put 63 = .ok (.iadd, 1) := by decide +kernel
theorem dX9_put_64 : decode cX9_put 64 = .ok (.aload_n 0, 1) := by decide +kernel
theorem dX9_put_65 : decode cX9_put 65 = .ok (.getfield 47, 3) := by decide +kernel
theorem dX9_put_68 : decode cX9_put 68 = .ok (.iload_n 1, 1) := by decide +kernel
theorem dX9_put_69 : decode cX9_put 69 = .ok (.iaload, 1) := by decide +kernel
theorem dX9_put_70 : decode cX9_put 70 = .ok (.bipush 8, 2) := by decide +kernel
theorem dX9_put_72 : decode cX9_put 72 = .ok (.if_icmp .ne 8, 3) := by decide +kernel
theorem dX9_put_75 : decode cX9_put 75 = .ok (.iload_n 3, 1) := by decide +kernel
theorem dX9_put_76 : decode cX9_put 76 = .ok (.i2b, 1) := by decide +kernel
theorem dX9_put_77 : decode cX9_put 77 = .ok (.goto 20, 3) := by decide +kernel
theorem dX9_put_80 : decode cX9_put 80 = .ok (.aload_n 0, 1) := by decide +kernel
theorem dX9_put_81 : decode cX9_put 81 = .ok (.getfield 47, 3) := by decide +kernel
theorem dX9_put_84 : decode cX9_put 84 = .ok (.iload_n 1, 1) := by decide +kernel
theorem dX9_put_85 : decode cX9_put 85 = .ok (.iaload, 1) := by decide +kernel
theorem dX9_put_86 : decode cX9_put 86 = .ok (.bipush 16, 2) := by decide +kernel
theorem dX9_put_88 : decode cX9_put 88 = .ok (.if_icmp .ne 8, 3) := by decide +kernel
theorem dX9_put_91 : decode cX9_put 91 = .ok (.iload_n 3, 1) := by decide +kernel
theorem dX9_put_92 : decode cX9_put 92 = .ok (.i2s, 1) := by decide +kernel
theorem dX9_put_93 : decode cX9_put 93 = .ok (.goto 4, 3) := by decide +kernel
theorem dX9_put_96 : decode cX9_put 96 = .ok (.iload_n 3, 1) := by decide +kernel
theorem dX9_put_97 : decode cX9_put 97 = .ok (.iastore, 1) := by decide +kernel
theorem dX9_put_98 : decode cX9_put 98 = .ok (.iconst 1, 1) := by decide +kernel
theorem dX9_put_99 : decode cX9_put 99 = .ok (.ireturn, 1) := by decide +kernel
theorem dX9_move_0 : decode cX9_move 0 = .ok (.iload_n 1, 1) := by decide +kernel
theorem dX9_move_1 : decode cX9_move 1 = .ok (.invokestatic 263, 3) := by decide +kernel
theorem dX9_move_4 : decode cX9_move 4 = .ok (.ifCond .eq 10, 3) := by decide +kernel
theorem dX9_move_7 : decode cX9_move 7 = .ok (.iload_n 3, 1) := by decide +kernel
theorem dX9_move_8 : decode cX9_move 8 = .ok (.invokestatic 263, 3) := by decide +kernel
theorem dX9_move_11 : decode cX9_move 11 = .ok (.ifCond .ne 10, 3) := by decide +kernel
theorem dX9_move_14 : decode cX9_move 14 = .ok (.aload_n 0, 1) := by decide +kernel
theorem dX9_move_15 : decode cX9_move 15 = .ok (.ldc 81, 2) := by decide +kernel
theorem dX9_move_17 : decode cX9_move 17 = .ok (.invokevirtual 82, 3) := by decide +kernel
theorem dX9_move_20 : decode cX9_move 20 = .ok (.ireturn, 1) := by decide +kernel
theorem dX9_move_21 : decode cX9_move 21 = .ok (.aload_n 0, 1) := by decide +kernel
theorem dX9_move_22 : decode cX9_move 22 = .ok (.getfield 47, 3) := by decide +kernel
theorem dX9_move_25 : decode cX9_move 25 = .ok (.iload_n 1, 1) := by decide +kernel
theorem dX9_move_26 : decode cX9_move 26 = .ok (.iaload, 1) := by decide +kernel
theorem dX9_move_27 : decode cX9_move 27 = .ok (.ifCond .eq 12, 3) := by decide +kernel
theorem dX9_move_30 : decode cX9_move 30 = .ok (.aload_n 0, 1) := by decide +kernel
theorem dX9_move_31 : decode cX9_move 31 = .ok (.getfield 47, 3) := by decide +kernel
theorem dX9_move_34 : decode cX9_move 34 = .ok (.iload_n 3, 1) := by decide +kernel
theorem dX9_move_35 : decode cX9_move 35 = .ok (.iaload, 1) := by decide +kernel
theorem dX9_move_36 : decode cX9_move 36 = .ok (.ifCond .ne 11, 3) := by decide +kernel
theorem dX9_move_39 : decode cX9_move 39 = .ok (.aload_n 0, 1) := by decide +kernel
theorem dX9_move_40 : decode cX9_move 40 = .ok (.ldc_w 256, 3) := by decide +kernel
theorem dX9_move_43 : decode cX9_move 43 = .ok (.invokevirtual 82, 3) := by decide +kernel
theorem dX9_move_46 : decode cX9_move 46 = .ok (.ireturn, 1) := by decide +kernel
theorem dX9_move_47 : decode cX9_move 47 = .ok (.aload_n 0, 1) := by decide +kernel
theorem dX9_move_48 : decode cX9_move 48 = .ok (.getfield 47, 3) := by decide +kernel
theorem dX9_move_51 : decode cX9_move 51 = .ok (.iload_n 1, 1) := by decide +kernel
theorem dX9_move_52 : decode cX9_move 52 = .ok (.iaload, 1) := by decide +kernel
theorem dX9_move_53 : decode cX9_move 53 = .ok (.aload_n 0, 1) := by decide +kernel
theorem dX9_move_54 : decode cX9_move 54 = .ok (.getfield 47, 3) := by decide +kernel
theorem dX9_move_57 : decode cX9_move 57 = .ok (.iload_n 3, 1) := by decide +kernel
theorem dX9_move_58 : decode cX9_move 58 = .ok (.iaload, 1) := by decide +kernel
theorem dX9_move_59 : decode cX9_move 59 = .ok (.if_icmp .eq 10, 3) := by decide +kernel
theorem dX9_move_62 : decode cX9_move 62 = .ok (.aload_n 0, 1) := by decide +kernel
theorem dX9_move_63 : decode cX9_move 63 = .ok (.ldc 227, 2) := by decide +kernel
theorem dX9_move_65 : decode cX9_move 65 = .ok (.invokevirtual 82, 3) := by decide +kernel
theorem dX9_move_68 : decode cX9_move 68 = .ok (.ireturn, 1) := by decide +kernel
theorem dX9_move_69 : decode cX9_move 69 = .ok (.iload 5, 2) := by decide +kernel
theorem dX9_move_71 : decode cX9_move 71 = .ok (.ifCond .lt 47, 3) := by decide +kernel
theorem dX9_move_74 : decode cX9_move 74 = .ok (.iload_n 2, 1) := by decide +kernel
theorem dX9_move_75 : decode cX9_move 75 = .ok (.ifCond .lt 43, 3) := by decide +kernel
theorem dX9_move_78 : decode cX9_move 78 = .ok (.iload 4, 2) := by decide +kernel
theorem dX9_move_80 : decode cX9_move 80 = .ok (.ifCond .lt 38, 3) := by decide +kernel
theorem dX9_move_83 : decode cX9_move 83 = .ok (.iload_n 2, 1) := by decide +kernel
theorem dX9_move_84 : decode cX9_move 84 = .ok (.i2l, 1) := by decide +kernel
theorem dX9_move_85 : decode cX9_move 85 = .ok (.iload 5, 2) := by decide +kernel
theorem dX9_move_87 : decode cX9_move 87 = .ok (.i2l, 1) := by decide +kernel
theorem dX9_move_88 : decode cX9_move 88 = .ok (.ladd, 1) := by decide +kernel
theorem dX9_move_89 : decode cX9_move 89 = .ok (.aload_n 0, 1) := by decide +kernel
theorem dX9_move_90 : decode cX9_move 90 = .ok (.getfield 50, 3) := by decide +kernel
theorem dX9_move_93 : decode cX9_move 93 = .ok (.iload_n 1, 1) := by decide +kernel
theorem dX9_move_94 : decode cX9_move 94 = .ok (.iaload, 1) := by decide +kernel
theorem dX9_move_95 : decode cX9_move 95 = .ok (.i2l, 1) := by decide +kernel
theorem dX9_move_96 : decode cX9_move 96 = .ok (.lcmp, 1) := by decide +kernel
theorem dX9_move_97 : decode cX9_move 97 = .ok (.ifCond .gt 21, 3) := by decide +kernel
theorem dX9_move_100 : decode cX9_move 100 = .ok (.iload 4, 2) := by decide +kernel
theorem dX9_move_102 : decode cX9_move 102 = .ok (.i2l, 1) := by decide +kernel
theorem dX9_move_103 : decode cX9_move 103 = .ok (.iload 5, 2) := by decide +kernel
theorem dX9_move_105 : decode cX9_move 105 = .ok (.i2l, 1) := by decide +kernel
theorem dX9_move_106 : decode cX9_move 106 = .ok (.ladd, 1) := by decide +kernel
theorem dX9_move_107 : decode cX9_move 107 = .ok (.aload_n 0, 1) := by decide +kernel
theorem dX9_move_108 : decode cX9_move 108 = .ok (.getfield 50, 3) := by decide +kernel
theorem dX9_move_111 : decode cX9_move 111 = .ok (.iload_n 3, 1) := by decide +kernel
theorem dX9_move_112 : decode cX9_move 112 = .ok (.iaload, 1) := by decide +kernel
theorem dX9_move_113 : decode cX9_move 113 = .ok (.i2l, 1) := by decide +kernel
theorem dX9_move_114 : decode cX9_move 114 = .ok (.lcmp, 1) := by decide +kernel
theorem dX9_move_115 : decode cX9_move 115 = .ok (.ifCond .le 10, 3) := by decide +kernel
theorem dX9_move_118 : decode cX9_move 118 = .ok (.aload_n 0, 1) := by decide +kernel
theorem dX9_move_119 : decode cX9_move 119 = .ok (.ldc 81, 2) := by decide +kernel
theorem dX9_move_121 : decode cX9_move 121 = .ok (.invokevirtual 82, 3) := by decide +kernel
theorem dX9_move_124 : decode cX9_move 124 = .ok (.ireturn, 1) := by decide +kernel
theorem dX9_move_125 : decode cX9_move 125 = .ok (.iconst 0, 1) := by decide +kernel
theorem dX9_move_126 : decode cX9_move 126 = .ok (.istore 6, 2) := by decide +kernel
theorem dX9_move_128 : decode cX9_move 128 = .ok (.iload 6, 2) := by decide +kernel
theorem dX9_move_130 : decode cX9_move 130 = .ok (.iload 5, 2) := by decide +kernel
theorem dX9_move_132 : decode cX9_move 132 = .ok (.if_icmp .ge 30, 3) := by decide +kernel
theorem dX9_move_135 : decode cX9_move 135 = .ok (.aload_n 0, 1) := by decide +kernel
theorem dX9_move_136 : decode cX9_move 136 = .ok (.getfield 56, 3) := by decide +kernel
theorem dX9_move_139 : decode cX9_move 139 = .ok (.iload 6, 2) := by decide +kernel
theorem dX9_move_141 : decode cX9_move 141 = .ok (.aload_n 0, 1) := by decide +kernel
theorem dX9_move_142 : decode cX9_move 142 = .ok (.getfield 53, 3) := by decide +kernel
theorem dX9_move_145 : decode cX9_move 145 = .ok (.bipush 40, 2) := by decide +kernel
theorem dX9_move_147 : decode cX9_move 147 = .ok (.iload_n 1, 1) := by decide +kernel
theorem dX9_move_148 : decode cX9_move 148 = .ok (.imul, 1) := by decide +kernel
theorem dX9_move_149 : decode cX9_move 149 = .ok (.iload_n 2, 1) := by decide +kernel
theorem dX9_move_150 : decode cX9_move 150 = .ok (.iadd, 1) := by decide +kernel
theorem dX9_move_151 : decode cX9_move 151 = .ok (.iload 6, 2) := by decide +kernel
theorem dX9_move_153 : decode cX9_move 153 = .ok (.iadd, 1) := by decide +kernel
theorem dX9_move_154 : decode cX9_move 154 = .ok (.iaload, 1) := by decide +kernel
theorem dX9_move_155 : decode cX9_move 155 = .ok (.iastore, 1) := by decide +kernel
theorem dX9_move_156 : decode cX9_move 156 = .ok (.iinc 6 1, 3) := by decide +kernel
theorem dX9_move_159 : decode cX9_move 159 = .ok (.goto (-31), 3) := by decide +kernel
theorem dX9_move_162 : decode cX9_move 162 = .ok (.iconst 0, 1) := by decide +kernel
theorem dX9_move_163 : decode cX9_move 163 = .ok (.istore 6, 2) := by decide +kernel
theorem dX9_move_165 : decode cX9_move 165 = .ok (.iload 6, 2) := by decide +kernel
theorem dX9_move_167 : decode cX9_move 167 = .ok (.iload 5, 2) := by decide +kernel
theorem dX9_move_169 : decode cX9_move 169 = .ok (.if_icmp .ge 31, 3) := by decide +kernel
theorem dX9_move_172 : decode cX9_move 172 = .ok (.aload_n 0, 1) := by decide +kernel
theorem dX9_move_173 : decode cX9_move 173 = .ok (.getfield 53, 3) := by decide +kernel
theorem dX9_move_176 : decode cX9_move 176 = .ok (.bipush 40, 2) := by decide +kernel
theorem dX9_move_178 : decode cX9_move 178 = .ok (.iload_n 3, 1) := by decide +kernel
theorem dX9_move_179 : decode cX9_move 179 = .ok (.imul, 1) := by decide +kernel
theorem dX9_move_180 : decode cX9_move 180 = .ok (.iload 4, 2) := by decide +kernel
theorem dX9_move_182 : decode cX9_move 182 = .ok (.iadd, 1) := by decide +kernel
theorem dX9_move_183 : decode cX9_move 183 = .ok (.iload 6, 2) := by decide +kernel
theorem dX9_move_185 : decode cX9_move 185 = .ok (.iadd, 1) := by decide +kernel
theorem dX9_move_186 : decode cX9_move 186 = .ok (.aload_n 0, 1) := by decide +kernel
theorem dX9_move_187 : decode cX9_move 187 = .ok (.getfield 56, 3) := by decide +kernel
theorem dX9_move_190 : decode cX9_move 190 = .ok (.iload 6, 2) := by decide +kernel
theorem dX9_move_192 : decode cX9_move 192 = .ok (.iaload, 1) := by decide +kernel
theorem dX9_move_193 : decode cX9_move 193 = .ok (.iastore, 1) := by decide +kernel
theorem dX9_move_194 : decode cX9_move 194 = .ok (.iinc 6 1, 3) := by decide +kernel
theorem dX9_move_197 : decode cX9_move 197 = .ok (.goto (-32), 3) := by decide +kernel
theorem dX9_move_200 : decode cX9_move 200 = .ok (.iload 5, 2) := by decide +kernel
theorem dX9_move_202 : decode cX9_move 202 = .ok (.ireturn, 1) := by decide +kernel
theorem dX9_beds_0 : decode cX9_beds 0 = .ok (.iload_n 1, 1) := by decide +kernel
theorem dX9_beds_1 : decode cX9_beds 1 = .ok (.invokestatic 263, 3) := by decide +kernel
theorem dX9_beds_4 : decode cX9_beds 4 = .ok (.ifCond .ne 10, 3) := by decide +kernel
theorem dX9_beds_7 : decode cX9_beds 7 = .ok (.aload_n 0, 1) := by decide +kernel
theorem dX9_beds_8 : decode cX9_beds 8 = .ok (.ldc 81, 2) := by decide +kernel
theorem dX9_beds_10 : decode cX9_beds 10 = .ok (.invokevirtual 82, 3) := by decide +kernel
theorem dX9_beds_13 : decode cX9_beds 13 = .ok (.ireturn, 1) := by decide +kernel
theorem dX9_beds_14 : decode cX9_beds 14 = .ok (.aload_n 0, 1) := by decide +kernel
theorem dX9_beds_15 : decode cX9_beds 15 = .ok (.getfield 47, 3) := by decide +kernel
theorem dX9_beds_18 : decode cX9_beds 18 = .ok (.iload_n 1, 1) := by decide +kernel
theorem dX9_beds_19 : decode cX9_beds 19 = .ok (.iaload, 1) := by decide +kernel
theorem dX9_beds_20 : decode cX9_beds 20 = .ok (.ifCond .ne 11, 3) := by decide +kernel
theorem dX9_beds_23 : decode cX9_beds 23 = .ok (.aload_n 0, 1) := by decide +kernel
theorem dX9_beds_24 : decode cX9_beds 24 = .ok (.ldc_w 256, 3) := by decide +kernel
theorem dX9_beds_27 : decode cX9_beds 27 = .ok (.invokevirtual 82, 3) := by decide +kernel
theorem dX9_beds_30 : decode cX9_beds 30 = .ok (.ireturn, 1) := by decide +kernel
theorem dX9_beds_31 : decode cX9_beds 31 = .ok (.iconst 0, 1) := by decide +kernel
theorem dX9_beds_32 : decode cX9_beds 32 = .ok (.istore_n 2, 1) := by decide +kernel
theorem dX9_beds_33 : decode cX9_beds 33 = .ok (.iload_n 2, 1) := by decide +kernel
theorem dX9_beds_34 : decode cX9_beds 34 = .ok (.aload_n 0, 1) := by decide +kernel
theorem dX9_beds_35 : decode cX9_beds 35 = .ok (.getfield 50, 3) := by decide +kernel
theorem dX9_beds_38 : decode cX9_beds 38 = .ok (.iload_n 1, 1) := by decide +kernel
theorem dX9_beds_39 : decode cX9_beds 39 = .ok (.iaload, 1) := by decide +kernel
theorem dX9_beds_40 : decode cX9_beds 40 = .ok (.if_icmp .ge 55, 3) := by decide +kernel
theorem dX9_beds_43 : decode cX9_beds 43 = .ok (.aload_n 0, 1) := by decide +kernel
theorem dX9_beds_44 : decode cX9_beds 44 = .ok (.iload_n 2, 1) := by decide +kernel
theorem dX9_beds_45 : decode cX9_beds 45 = .ok (.invokevirtual 175, 3) := by decide +kernel
theorem dX9_beds_48 : decode cX9_beds 48 = .ok (.ifCond .eq 47, 3) := by decide +kernel
theorem dX9_beds_51 : decode cX9_beds 51 = .ok (.aload_n 0, 1) := by decide +kernel
theorem dX9_beds_52 : decode cX9_beds 52 = .ok (.getfield 53, 3) := by decide +kernel
theorem dX9_beds_55 : decode cX9_beds 55 = .ok (.bipush 40, 2) := by decide +kernel
theorem dX9_beds_57 : decode cX9_beds 57 = .ok (.iload_n 1, 1) := by decide +kernel
theorem dX9_beds_58 : decode cX9_beds 58 = .ok (.imul, 1) := by decide +kernel
theorem dX9_beds_59 : decode cX9_beds 59 = .ok (.iload_n 2, 1) := by decide +kernel
theorem dX9_beds_60 : decode cX9_beds 60 = .ok (.iadd, 1) := by decide +kernel
theorem dX9_beds_61 : decode cX9_beds 61 = .ok (.iaload, 1) := by decide +kernel
theorem dX9_beds_62 : decode cX9_beds 62 = .ok (.invokestatic 209, 3) := by decide +kernel
theorem dX9_beds_65 : decode cX9_beds 65 = .ok (.ifCond .eq 30, 3) := by decide +kernel
theorem dX9_beds_68 : decode cX9_beds 68 = .ok (.aload_n 0, 1) := by decide +kernel
theorem dX9_beds_69 : decode cX9_beds 69 = .ok (.getfield 9, 3) := by decide +kernel
theorem dX9_beds_72 : decode cX9_beds 72 = .ok (.iload_n 2, 1) := by decide +kernel
theorem dX9_beds_73 : decode cX9_beds 73 = .ok (.iconst 0, 1) := by decide +kernel
theorem dX9_beds_74 : decode cX9_beds 74 = .ok (.invokestatic 165, 3) := by decide +kernel
theorem dX9_beds_77 : decode cX9_beds 77 = .ok (.aload_n 0, 1) := by decide +kernel
theorem dX9_beds_78 : decode cX9_beds 78 = .ok (.getfield 53, 3) := by decide +kernel
theorem dX9_beds_81 : decode cX9_beds 81 = .ok (.bipush 40, 2) := by decide +kernel
theorem dX9_beds_83 : decode cX9_beds 83 = .ok (.iload_n 1, 1) := by decide +kernel
theorem dX9_beds_84 : decode cX9_beds 84 = .ok (.imul, 1) := by decide +kernel
theorem dX9_beds_85 : decode cX9_beds 85 = .ok (.iload_n 2, 1) := by decide +kernel
theorem dX9_beds_86 : decode cX9_beds 86 = .ok (.iadd, 1) := by decide +kernel
theorem dX9_beds_87 : decode cX9_beds 87 = .ok (.iaload, 1) := by decide +kernel
theorem dX9_beds_88 : decode cX9_beds 88 = .ok (.iastore, 1) := by decide +kernel
theorem dX9_beds_89 : decode cX9_beds 89 = .ok (.iinc 2 1, 3) := by decide +kernel
theorem dX9_beds_92 : decode cX9_beds 92 = .ok (.goto (-59), 3) := by decide +kernel
theorem dX9_beds_95 : decode cX9_beds 95 = .ok (.aload_n 0, 1) := by decide +kernel
theorem dX9_beds_96 : decode cX9_beds 96 = .ok (.invokevirtual 145, 3) := by decide +kernel
theorem dX9_beds_99 : decode cX9_beds 99 = .ok (.iload_n 2, 1) := by decide +kernel
theorem dX9_beds_100 : decode cX9_beds 100 = .ok (.ireturn, 1) := by decide +kernel
theorem dX9_judge_0 : decode cX9_judge 0 = .ok (.iload_n 1, 1) := by decide +kernel
theorem dX9_judge_1 : decode cX9_judge 1 = .ok (.invokestatic 263, 3) := by decide +kernel
theorem dX9_judge_4 : decode cX9_judge 4 = .ok (.ifCond .ne 10, 3) := by decide +kernel
theorem dX9_judge_7 : decode cX9_judge 7 = .ok (.aload_n 0, 1) := by decide +kernel
theorem dX9_judge_8 : decode cX9_judge 8 = .ok (.ldc 81, 2) := by decide +kernel
theorem dX9_judge_10 : decode cX9_judge 10 = .ok (.invokevirtual 82, 3) := by decide +kernel
theorem dX9_judge_13 : decode cX9_judge 13 = .ok (.ireturn, 1) := by decide +kernel
theorem dX9_judge_14 : decode cX9_judge 14 = .ok (.aload_n 0, 1) := by decide +kernel
theorem dX9_judge_15 : decode cX9_judge 15 = .ok (.getfield 47, 3) := by decide +kernel
theorem dX9_judge_18 : decode cX9_judge 18 = .ok (.iload_n 1, 1) := by decide +kernel
theorem dX9_judge_19 : decode cX9_judge 19 = .ok (.iaload, 1) := by decide +kernel
theorem dX9_judge_20 : decode cX9_judge 20 = .ok (.ifCond .ne 11, 3) := by decide +kernel
theorem dX9_judge_23 : decode cX9_judge 23 = .ok (.aload_n 0, 1) := by decide +kernel
theorem dX9_judge_24 : decode cX9_judge 24 = .ok (.ldc_w 256, 3) := by decide +kernel
theorem dX9_judge_27 : decode cX9_judge 27 = .ok (.invokevirtual 82, 3) := by decide +kernel
theorem dX9_judge_30 : decode cX9_judge 30 = .ok (.ireturn, 1) := by decide +kernel
theorem dX9_judge_31 : decode cX9_judge 31 = .ok (.iconst 0, 1) := by decide +kernel
theorem dX9_judge_32 : decode cX9_judge 32 = .ok (.istore_n 2, 1) := by decide +kernel
theorem dX9_judge_33 : decode cX9_judge 33 = .ok (.iload_n 2, 1) := by decide +kernel
theorem dX9_judge_34 : decode cX9_judge 34 = .ok (.aload_n 0, 1) := by decide +kernel
theorem dX9_judge_35 : decode cX9_judge 35 = .ok (.getfield 50, 3) := by decide +kernel
theorem dX9_judge_38 : decode cX9_judge 38 = .ok (.iload_n 1, 1) := by decide +kernel
theorem dX9_judge_39 : decode cX9_judge 39 = .ok (.iaload, 1) := by decide +kernel
theorem dX9_judge_40 : decode cX9_judge 40 = .ok (.if_icmp .ge 37, 3) := by decide +kernel
theorem dX9_judge_43 : decode cX9_judge 43 = .ok (.aload_n 0, 1) := by decide +kernel
theorem dX9_judge_44 : decode cX9_judge 44 = .ok (.iload_n 2, 1) := by decide +kernel
theorem dX9_judge_45 : decode cX9_judge 45 = .ok (.invokevirtual 218, 3) := by decide +kernel
theorem dX9_judge_48 : decode cX9_judge 48 = .ok (.ifCond .eq 29, 3) := by decide +kernel
theorem dX9_judge_51 : decode cX9_judge 51 = .ok (.aload_n 0, 1) := by decide +kernel
theorem dX9_judge_52 : decode cX9_judge 52 = .ok (.getfield 53, 3) := by decide +kernel
theorem dX9_judge_55 : decode cX9_judge 55 = .ok (.bipush 40, 2) := by decide +kernel
theorem dX9_judge_57 : decode cX9_judge 57 = .ok (.iload_n 1, 1) := by decide +kernel
theorem dX9_judge_58 : decode cX9_judge 58 = .ok (.imul, 1) := by decide +kernel
theorem dX9_judge_59 : decode cX9_judge 59 = .ok (.iload_n 2, 1) := by decide +kernel
theorem dX9_judge_60 : decode cX9_judge 60 = .ok (.iadd, 1) := by decide +kernel
theorem dX9_judge_61 : decode cX9_judge 61 = .ok (.iaload, 1) := by decide +kernel
theorem dX9_judge_62 : decode cX9_judge 62 = .ok (.aload_n 0, 1) := by decide +kernel
theorem dX9_judge_63 : decode cX9_judge 63 = .ok (.iload_n 2, 1) := by decide +kernel
theorem dX9_judge_64 : decode cX9_judge 64 = .ok (.iconst 3, 1) := by decide +kernel
theorem dX9_judge_65 : decode cX9_judge 65 = .ok (.invokevirtual 191, 3) := by decide +kernel
theorem dX9_judge_68 : decode cX9_judge 68 = .ok (.if_icmp .ne 9, 3) := by decide +kernel
theorem dX9_judge_71 : decode cX9_judge 71 = .ok (.iinc 2 1, 3) := by decide +kernel
theorem dX9_judge_74 : decode cX9_judge 74 = .ok (.goto (-41), 3) := by decide +kernel
theorem dX9_judge_77 : decode cX9_judge 77 = .ok (.iload_n 2, 1) := by decide +kernel
theorem dX9_judge_78 : decode cX9_judge 78 = .ok (.aload_n 0, 1) := by decide +kernel
theorem dX9_judge_79 : decode cX9_judge 79 = .ok (.getfield 50, 3) := by decide +kernel
theorem dX9_judge_82 : decode cX9_judge 82 = .ok (.iload_n 1, 1) := by decide +kernel
theorem dX9_judge_83 : decode cX9_judge 83 = .ok (.iaload, 1) := by decide +kernel
theorem dX9_judge_84 : decode cX9_judge 84 = .ok (.if_icmp .ne 17, 3) := by decide +kernel
theorem dX9_judge_87 : decode cX9_judge 87 = .ok (.iload_n 2, 1) := by decide +kernel
theorem dX9_judge_88 : decode cX9_judge 88 = .ok (.aload_n 0, 1) := by decide +kernel
theorem dX9_judge_89 : decode cX9_judge 89 = .ok (.getfield 9, 3) := by decide +kernel
theorem dX9_judge_92 : decode cX9_judge 92 = .ok (.iconst 2, 1) := by decide +kernel
theorem dX9_judge_93 : decode cX9_judge 93 = .ok (.iaload, 1) := by decide +kernel
theorem dX9_judge_94 : decode cX9_judge 94 = .ok (.if_icmp .ne 7, 3) := by decide +kernel
theorem dX9_judge_97 : decode cX9_judge 97 = .ok (.iconst (-1), 1) := by decide +kernel
theorem dX9_judge_98 : decode cX9_judge 98 = .ok (.goto 4, 3) := by decide +kernel
theorem dX9_judge_101 : decode cX9_judge 101 = .ok (.iload_n 2, 1) := by decide +kernel
theorem dX9_judge_102 : decode cX9_judge 102 = .ok (.ireturn, 1) := by decide +kernel
theorem dX9_image_0 : decode cX9_image 0 = .ok (.aload_n 0, 1) := by decide +kernel
theorem dX9_image_1 : decode cX9_image 1 = .ok (.getfield 9, 3) := by decide +kernel
theorem dX9_image_4 : decode cX9_image 4 = .ok (.aload_n 0, 1) := by decide +kernel
theorem dX9_image_5 : decode cX9_image 5 = .ok (.getfield 13, 3) := by decide +kernel
theorem dX9_image_8 : decode cX9_image 8 = .ok (.invokestatic 73, 3) := by decide +kernel
theorem dX9_image_11 : decode cX9_image 11 = .ok (.aload_n 0, 1) := by decide +kernel
theorem dX9_image_12 : decode cX9_image 12 = .ok (.dup, 1) := by decide +kernel
theorem dX9_image_13 : decode cX9_image 13 = .ok (.getfield 299, 3) := by decide +kernel
theorem dX9_image_16 : decode cX9_image 16 = .ok (.iconst 1, 1) := by decide +kernel
theorem dX9_image_17 : decode cX9_image 17 = .ok (.iadd, 1) := by decide +kernel
theorem dX9_image_18 : decode cX9_image 18 = .ok (.putfield 299, 3) := by decide +kernel
theorem dX9_image_21 : decode cX9_image 21 = .ok (.aload_n 0, 1) := by decide +kernel
theorem dX9_image_22 : decode cX9_image 22 = .ok (.getfield 299, 3) := by decide +kernel
theorem dX9_image_25 : decode cX9_image 25 = .ok (.ireturn, 1) := by decide +kernel
theorem dX9_restore_0 : decode cX9_restore 0 = .ok (.aload_n 0, 1) := by decide +kernel
theorem dX9_restore_1 : decode cX9_restore 1 = .ok (.getfield 299, 3) := by decide +kernel
theorem dX9_restore_4 : decode cX9_restore 4 = .ok (.ifCond .ne 11, 3) := by decide +kernel
theorem dX9_restore_7 : decode cX9_restore 7 = .ok (.aload_n 0, 1) := by decide +kernel
theorem dX9_restore_8 : decode cX9_restore 8 = .ok (.ldc_w 256, 3) := by decide +kernel
theorem dX9_restore_11 : decode cX9_restore 11 = .ok (.invokevirtual 82, 3) := by decide +kernel
theorem dX9_restore_14 : decode cX9_restore 14 = .ok (.ireturn, 1) := by decide +kernel
theorem dX9_restore_15 : decode cX9_restore 15 = .ok (.aload_n 0, 1) := by decide +kernel
theorem dX9_restore_16 : decode cX9_restore 16 = .ok (.getfield 13, 3) := by decide +kernel
theorem dX9_restore_19 : decode cX9_restore 19 = .ok (.aload_n 0, 1) := by decide +kernel
theorem dX9_restore_20 : decode cX9_restore 20 = .ok (.getfield 9, 3) := by decide +kernel
theorem dX9_restore_23 : decode cX9_restore 23 = .ok (.invokestatic 73, 3) := by decide +kernel
theorem dX9_restore_26 : decode cX9_restore 26 = .ok (.aload_n 0, 1) := by decide +kernel
theorem dX9_restore_27 : decode cX9_restore 27 = .ok (.invokevirtual 145, 3) := by decide +kernel
theorem dX9_restore_30 : decode cX9_restore 30 = .ok (.aload_n 0, 1) := by decide +kernel
theorem dX9_restore_31 : decode cX9_restore 31 = .ok (.getfield 9, 3) := by decide +kernel
theorem dX9_restore_34 : decode cX9_restore 34 = .ok (.iconst 0, 1) := by decide +kernel
theorem dX9_restore_35 : decode cX9_restore 35 = .ok (.iaload, 1) := by decide +kernel
theorem dX9_restore_36 : decode cX9_restore 36 = .ok (.ireturn, 1) := by decide +kernel
theorem dX9_tell_0 : decode cX9_tell 0 = .ok (.aload_n 0, 1) := by decide +kernel
theorem dX9_tell_1 : decode cX9_tell 1 = .ok (.getfield 9, 3) := by decide +kernel
theorem dX9_tell_4 : decode cX9_tell 4 = .ok (.bipush 8, 2) := by decide +kernel
theorem dX9_tell_6 : decode cX9_tell 6 = .ok (.iaload, 1) := by decide +kernel
theorem dX9_tell_7 : decode cX9_tell 7 = .ok (.bipush 20, 2) := by decide +kernel
theorem dX9_tell_9 : decode cX9_tell 9 = .ok (.if_icmp .ne 10, 3) := by decide +kernel
theorem dX9_tell_12 : decode cX9_tell 12 = .ok (.aload_n 0, 1) := by decide +kernel
theorem dX9_tell_13 : decode cX9_tell 13 = .ok (.ldc 85, 2) := by decide +kernel
theorem dX9_tell_15 : decode cX9_tell 15 = .ok (.invokevirtual 82, 3) := by decide +kernel
theorem dX9_tell_18 : decode cX9_tell 18 = .ok (.ireturn, 1) := by decide +kernel
theorem dX9_tell_19 : decode cX9_tell 19 = .ok (.aload_n 0, 1) := by decide +kernel
theorem dX9_tell_20 : decode cX9_tell 20 = .ok (.getfield 9, 3) := by decide +kernel
theorem dX9_tell_23 : decode cX9_tell 23 = .ok (.bipush 118, 2) := by decide +kernel
theorem dX9_tell_25 : decode cX9_tell 25 = .ok (.aload_n 0, 1) := by decide +kernel
theorem dX9_tell_26 : decode cX9_tell 26 = .ok (.getfield 9, 3) := by decide +kernel
theorem dX9_tell_29 : decode cX9_tell 29 = .ok (.bipush 8, 2) := by decide +kernel
theorem dX9_tell_31 : decode cX9_tell 31 = .ok (.iaload, 1) := by decide +kernel
theorem dX9_tell_32 : decode cX9_tell 32 = .ok (.iadd, 1) := by decide +kernel
theorem dX9_tell_33 : decode cX9_tell 33 = .ok (.iload_n 1, 1) := by decide +kernel
theorem dX9_tell_34 : decode cX9_tell 34 = .ok (.iastore, 1) := by decide +kernel
theorem dX9_tell_35 : decode cX9_tell 35 = .ok (.aload_n 0, 1) := by decide +kernel
theorem dX9_tell_36 : decode cX9_tell 36 = .ok (.getfield 9, 3) := by decide +kernel
theorem dX9_tell_39 : decode cX9_tell 39 = .ok (.bipush 8, 2) := by decide +kernel
theorem dX9_tell_41 : decode cX9_tell 41 = .ok (.dup2, 1) := by decide +kernel
theorem dX9_tell_42 : decode cX9_tell 42 = .ok (.iaload, 1) := by decide +kernel
theorem dX9_tell_43 : decode cX9_tell 43 = .ok (.iconst 1, 1) := by decide +kernel
theorem dX9_tell_44 : decode cX9_tell 44 = .ok (.iadd, 1) := by decide +kernel
theorem dX9_tell_45 : decode cX9_tell 45 = .ok (.iastore, 1) := by decide +kernel
theorem dX9_tell_46 : decode cX9_tell 46 = .ok (.aload_n 0, 1) := by decide +kernel
theorem dX9_tell_47 : decode cX9_tell 47 = .ok (.getfield 9, 3) := by decide +kernel
theorem dX9_tell_50 : decode cX9_tell 50 = .ok (.bipush 8, 2) := by decide +kernel
theorem dX9_tell_52 : decode cX9_tell 52 = .ok (.iaload, 1) := by decide +kernel
theorem dX9_tell_53 : decode cX9_tell 53 = .ok (.ireturn, 1) := by decide +kernel
theorem dX9_check_0 : decode cX9_check 0 = .ok (.aload_n 0, 1) := by decide +kernel
theorem dX9_check_1 : decode cX9_check 1 = .ok (.getfield 9, 3) := by decide +kernel
theorem dX9_check_4 : decode cX9_check 4 = .ok (.bipush 8, 2) := by decide +kernel
theorem dX9_check_6 : decode cX9_check 6 = .ok (.iaload, 1) := by decide +kernel
theorem dX9_check_7 : decode cX9_check 7 = .ok (.istore_n 1, 1) := by decide +kernel
theorem dX9_check_8 : decode cX9_check 8 = .ok (.aload_n 0, 1) := by decide +kernel
theorem dX9_check_9 : decode cX9_check 9 = .ok (.getfield 9, 3) := by decide +kernel
theorem dX9_check_12 : decode cX9_check 12 = .ok (.bipush 8, 2) := by decide +kernel
theorem dX9_check_14 : decode cX9_check 14 = .ok (.iconst 0, 1) := by decide +kernel
theorem dX9_check_15 : decode cX9_check 15 = .ok (.iastore, 1) := by decide +kernel
theorem dX9_check_16 : decode cX9_check 16 = .ok (.aload_n 0, 1) := by decide +kernel
theorem dX9_check_17 : decode cX9_check 17 = .ok (.getfield 9, 3) := by decide +kernel
theorem dX9_check_20 : decode cX9_check 20 = .ok (.aload_n 0, 1) := by decide +kernel
theorem dX9_check_21 : decode cX9_check 21 = .ok (.getfield 16, 3) := by decide +kernel
theorem dX9_check_24 : decode cX9_check 24 = .ok (.invokestatic 73, 3) := by decide +kernel
theorem dX9_check_27 : decode cX9_check 27 = .ok (.iconst 0, 1) := by decide +kernel
theorem dX9_check_28 : decode cX9_check 28 = .ok (.istore_n 2, 1) := by decide +kernel
theorem dX9_check_29 : decode cX9_check 29 = .ok (.iconst 0, 1) := by decide +kernel
theorem dX9_check_30 : decode cX9_check 30 = .ok (.istore_n 3, 1) := by decide +kernel
theorem dX9_check_31 : decode cX9_check 31 = .ok (.iload_n 3, 1) := by decide +kernel
theorem dX9_check_32 : decode cX9_check 32 = .ok (.iload_n 1, 1) := by decide +kernel
theorem dX9_check_33 : decode cX9_check 33 = .ok (.if_icmp .ge 41, 3) := by decide +kernel
theorem dX9_check_36 : decode cX9_check 36 = .ok (.iload_n 2, 1) := by decide +kernel
theorem dX9_check_37 : decode cX9_check 37 = .ok (.ifCond .ne 37, 3) := by decide +kernel
theorem dX9_check_40 : decode cX9_check 40 = .ok (.aload_n 0, 1) := by decide +kernel
theorem dX9_check_41 : decode cX9_check 41 = .ok (.invokevirtual 231, 3) := by decide +kernel
theorem dX9_check_44 : decode cX9_check 44 = .ok (.aload_n 0, 1) := by decide +kernel
theorem dX9_check_45 : decode cX9_check 45 = .ok (.getfield 9, 3) := by decide +kernel
theorem dX9_check_48 : decode cX9_check 48 = .ok (.bipush 118, 2) := by decide +kernel
theorem dX9_check_50 : decode cX9_check 50 = .ok (.iload_n 3, 1) := by decide +kernel
theorem dX9_check_51 : decode cX9_check 51 = .ok (.iadd, 1) := by decide +kernel
theorem dX9_check_52 : decode cX9_check 52 = .ok (.iaload, 1) := by decide +kernel
theorem dX9_check_53 : decode cX9_check 53 = .ok (.aload_n 0, 1) := by decide +kernel
theorem dX9_check_54 : decode cX9_check 54 = .ok (.invokevirtual 240, 3) := by decide +kernel
theorem dX9_check_57 : decode cX9_check 57 = .ok (.if_icmp .ne 7, 3) := by decide +kernel
theorem dX9_check_60 : decode cX9_check 60 = .ok (.iconst 0, 1) := by decide +kernel
theorem dX9_check_61 : decode cX9_check 61 = .ok (.goto 6, 3) := by decide +kernel
theorem dX9_check_64 : decode cX9_check 64 = .ok (.iconst 1, 1) := by decide +kernel
theorem dX9_check_65 : decode cX9_check 65 = .ok (.iload_n 3, 1) := by decide +kernel
theorem dX9_check_66 : decode cX9_check 66 = .ok (.iadd, 1) := by decide +kernel
theorem dX9_check_67 : decode cX9_check 67 = .ok (.istore_n 2, 1) := by decide +kernel
theorem dX9_check_68 : decode cX9_check 68 = .ok (.iinc 3 1, 3) := by decide +kernel
theorem dX9_check_71 : decode cX9_check 71 = .ok (.goto (-40), 3) := by decide +kernel
theorem dX9_check_74 : decode cX9_check 74 = .ok (.aload_n 0, 1) := by decide +kernel
theorem dX9_check_75 : decode cX9_check 75 = .ok (.iload_n 2, 1) := by decide +kernel
theorem dX9_check_76 : decode cX9_check 76 = .ok (.invokevirtual 250, 3) := by decide +kernel
theorem dX9_check_79 : decode cX9_check 79 = .ok (.ireturn, 1) := by decide +kernel
theorem dX9_count_0 : decode cX9_count 0 = .ok (.iload_n 1, 1) := by decide +kernel
theorem dX9_count_1 : decode cX9_count 1 = .ok (.tableswitch 147 0 11 #[63, 70, 77, 84, 91, 98, 105, 110, 118, 126, 134, 139], 63) := by decide +kernel
theorem dX9_count_64 : decode cX9_count 64 = .ok (.aload_n 0, 1) := by decide +kernel
theorem dX9_count_65 : decode cX9_count 65 = .ok (.getfield 9, 3) := by decide +kernel
theorem dX9_count_68 : decode cX9_count 68 = .ok (.iconst 1, 1) := by decide +kernel
theorem dX9_count_69 : decode cX9_count 69 = .ok (.iaload, 1) := by decide +kernel
theorem dX9_count_70 : decode cX9_count 70 = .ok (.ireturn, 1) := by decide +kernel
theorem dX9_count_71 : decode cX9_count 71 = .ok (.aload_n 0, 1) := by decide +kernel
theorem dX9_count_72 : decode cX9_count 72 = .ok (.getfield 9, 3) := by decide +kernel
theorem dX9_count_75 : decode cX9_count 75 = .ok (.iconst 2, 1) := by decide +kernel
theorem dX9_count_76 : decode cX9_count 76 = .ok (.iaload, 1) := by decide +kernel
theorem dX9_count_77 : decode cX9_count 77 = .ok (.ireturn, 1) := by decide +kernel
theorem dX9_count_78 : decode cX9_count 78 = .ok (.aload_n 0, 1) := by decide +kernel
theorem dX9_count_79 : decode cX9_count 79 = .ok (.getfield 9, 3) := by decide +kernel
theorem dX9_count_82 : decode cX9_count 82 = .ok (.iconst 0, 1) := by decide +kernel
theorem dX9_count_83 : decode cX9_count 83 = .ok (.iaload, 1) := by decide +kernel
theorem dX9_count_84 : decode cX9_count 84 = .ok (.ireturn, 1) := by decide +kernel
theorem dX9_count_85 : decode cX9_count 85 = .ok (.aload_n 0, 1) := by decide +kernel
theorem dX9_count_86 : decode cX9_count 86 = .ok (.getfield 9, 3) := by decide +kernel
theorem dX9_count_89 : decode cX9_count 89 = .ok (.iconst 3, 1) := by decide +kernel
theorem dX9_count_90 : decode cX9_count 90 = .ok (.iaload, 1) := by decide +kernel
theorem dX9_count_91 : decode cX9_count 91 = .ok (.ireturn, 1) := by decide +kernel
theorem dX9_count_92 : decode cX9_count 92 = .ok (.aload_n 0, 1) := by decide +kernel
theorem dX9_count_93 : decode cX9_count 93 = .ok (.getfield 9, 3) := by decide +kernel
theorem dX9_count_96 : decode cX9_count 96 = .ok (.iconst 4, 1) := by decide +kernel
theorem dX9_count_97 : decode cX9_count 97 = .ok (.iaload, 1) := by decide +kernel
theorem dX9_count_98 : decode cX9_count 98 = .ok (.ireturn, 1) := by decide +kernel
theorem dX9_count_99 : decode cX9_count 99 = .ok (.aload_n 0, 1) := by decide +kernel
theorem dX9_count_100 : decode cX9_count 100 = .ok (.getfield 9, 3) := by decide +kernel
theorem dX9_count_103 : decode cX9_count 103 = .ok (.iconst 5, 1) := by decide +kernel
theorem dX9_count_104 : decode cX9_count 104 = .ok (.iaload, 1) := by decide +kernel
theorem dX9_count_105 : decode cX9_count 105 = .ok (.ireturn, 1) := by decide +kernel
theorem dX9_count_106 : decode cX9_count 106 = .ok (.aload_n 0, 1) := by decide +kernel
theorem dX9_count_107 : decode cX9_count 107 = .ok (.invokevirtual 240, 3) := by decide +kernel
theorem dX9_count_110 : decode cX9_count 110 = .ok (.ireturn, 1) := by decide +kernel
theorem dX9_count_111 : decode cX9_count 111 = .ok (.aload_n 0, 1) := by decide +kernel
theorem dX9_count_112 : decode cX9_count 112 = .ok (.invokevirtual 253, 3) := by decide +kernel
theorem dX9_count_115 : decode cX9_count 115 = .ok (.invokestatic 234, 3) := by decide +kernel
theorem dX9_count_118 : decode cX9_count 118 = .ok (.ireturn, 1) := by decide +kernel
theorem dX9_count_119 : decode cX9_count 119 = .ok (.aload_n 0, 1) := by decide +kernel
theorem dX9_count_120 : decode cX9_count 120 = .ok (.getfield 9, 3) := by decide +kernel
theorem dX9_count_123 : decode cX9_count 123 = .ok (.bipush 7, 2) := by decide +kernel
theorem dX9_count_125 : decode cX9_count 125 = .ok (.iaload, 1) := by decide +kernel
theorem dX9_count_126 : decode cX9_count 126 = .ok (.ireturn, 1) := by decide +kernel
theorem dX9_count_127 : decode cX9_count 127 = .ok (.aload_n 0, 1) := by decide +kernel
theorem dX9_count_128 : decode cX9_count 128 = .ok (.getfield 9, 3) := by decide +kernel
theorem dX9_count_131 : decode cX9_count 131 = .ok (.bipush 8, 2) := by decide +kernel
theorem dX9_count_133 : decode cX9_count 133 = .ok (.iaload, 1) := by decide +kernel
theorem dX9_count_134 : decode cX9_count 134 = .ok (.ireturn, 1) := by decide +kernel
theorem dX9_count_135 : decode cX9_count 135 = .ok (.aload_n 0, 1) := by decide +kernel
theorem dX9_count_136 : decode cX9_count 136 = .ok (.getfield 269, 3) := by decide +kernel
theorem dX9_count_139 : decode cX9_count 139 = .ok (.ireturn, 1) := by decide +kernel
theorem dX9_count_140 : decode cX9_count 140 = .ok (.aload_n 0, 1) := by decide +kernel
theorem dX9_count_141 : decode cX9_count 141 = .ok (.getfield 9, 3) := by decide +kernel
theorem dX9_count_144 : decode cX9_count 144 = .ok (.bipush 6, 2) := by decide +kernel
theorem dX9_count_146 : decode cX9_count 146 = .ok (.iaload, 1) := by decide +kernel
theorem dX9_count_147 : decode cX9_count 147 = .ok (.ireturn, 1) := by decide +kernel
theorem dX9_count_148 : decode cX9_count 148 = .ok (.aload_n 0, 1) := by decide +kernel
theorem dX9_count_149 : decode cX9_count 149 = .ok (.ldc 81, 2) := by decide +kernel
theorem dX9_count_151 : decode cX9_count 151 = .ok (.invokevirtual 82, 3) := by decide +kernel
theorem dX9_count_154 : decode cX9_count 154 = .ok (.ireturn, 1) := by decide +kernel
theorem dX9_told_0 : decode cX9_told 0 = .ok (.iload_n 1, 1) := by decide +kernel
theorem dX9_told_1 : decode cX9_told 1 = .ok (.iconst 1, 1) := by decide +kernel
theorem dX9_told_2 : decode cX9_told 2 = .ok (.iconst 5, 1) := by decide +kernel
theorem dX9_told_3 : decode cX9_told 3 = .ok (.invokestatic 77, 3) := by decide +kernel
theorem dX9_told_6 : decode cX9_told 6 = .ok (.ifCond .eq 12, 3) := by decide +kernel
theorem dX9_told_9 : decode cX9_told 9 = .ok (.aload_n 0, 1) := by decide +kernel
theorem dX9_told_10 : decode cX9_told 10 = .ok (.getfield 19, 3) := by decide +kernel
theorem dX9_told_13 : decode cX9_told 13 = .ok (.iload_n 1, 1) := by decide +kernel
theorem dX9_told_14 : decode cX9_told 14 = .ok (.iaload, 1) := by decide +kernel
theorem dX9_told_15 : decode cX9_told 15 = .ok (.goto 9, 3) := by decide +kernel
theorem dX9_told_18 : decode cX9_told 18 = .ok (.aload_n 0, 1) := by decide +kernel
theorem dX9_told_19 : decode cX9_told 19 = .ok (.ldc 81, 2) := by decide +kernel
theorem dX9_told_21 : decode cX9_told 21 = .ok (.invokevirtual 82, 3) := by decide +kernel
theorem dX9_told_24 : decode cX9_told 24 = .ok (.ireturn, 1) := by decide +kernel
