theorem dX0_init_0 : decode cX0_init 0 = .ok (.aload_n 0, 1) := by decide +kernel
theorem dX0_init_1 : decode cX0_init 1 = .ok (.invokespecial 3, 3) := by decide +kernel
theorem dX0_init_4 : decode cX0_init 4 = .ok (.aload_n 0, 1) := by decide +kernel
theorem dX0_init_5 : decode cX0_init 5 = .ok (.iconst 0, 1) := by decide +kernel
theorem dX0_init_6 : decode cX0_init 6 = .ok (.putfield 9, 3) := by decide +kernel
theorem dX0_init_9 : decode cX0_init 9 = .ok (.aload_n 0, 1) := by decide +kernel
theorem dX0_init_10 : decode cX0_init 10 = .ok (.sipush 200, 3) := by decide +kernel
theorem dX0_init_13 : decode cX0_init 13 = .ok (.putfield 15, 3) := by decide +kernel
theorem dX0_init_16 : decode cX0_init 16 = .ok (.aload_n 0, 1) := by decide +kernel
theorem dX0_init_17 : decode cX0_init 17 = .ok (.iconst 0, 1) := by decide +kernel
theorem dX0_init_18 : decode cX0_init 18 = .ok (.putfield 18, 3) := by decide +kernel
theorem dX0_init_21 : decode cX0_init 21 = .ok (.aload_n 0, 1) := by decide +kernel
theorem dX0_init_22 : decode cX0_init 22 = .ok (.iconst 0, 1) := by decide +kernel
theorem dX0_init_23 : decode cX0_init 23 = .ok (.putfield 21, 3) := by decide +kernel
theorem dX0_init_26 : decode cX0_init 26 = .ok (.aload_n 0, 1) := by decide +kernel
theorem dX0_init_27 : decode cX0_init 27 = .ok (.bipush 8, 2) := by decide +kernel
theorem dX0_init_29 : decode cX0_init 29 = .ok (.newarray .int, 2) := by decide +kernel
theorem dX0_init_31 : decode cX0_init 31 = .ok (.putfield 24, 3) := by decide +kernel
theorem dX0_init_34 : decode cX0_init 34 = .ok (.aload_n 0, 1) := by decide +kernel
theorem dX0_init_35 : decode cX0_init 35 = .ok (.bipush 8, 2) := by decide +kernel
theorem dX0_init_37 : decode cX0_init 37 = .ok (.newarray .int, 2) := by decide +kernel
theorem dX0_init_39 : decode cX0_init 39 = .ok (.putfield 28, 3) := by decide +kernel
theorem dX0_init_42 : decode cX0_init 42 = .ok (.aload_n 0, 1) := by decide +kernel
theorem dX0_init_43 : decode cX0_init 43 = .ok (.bipush 8, 2) := by decide +kernel
theorem dX0_init_45 : decode cX0_init 45 = .ok (.newarray .int, 2) := by decide +kernel
theorem dX0_init_47 : decode cX0_init 47 = .ok (.putfield 31, 3) := by decide +kernel
theorem dX0_init_50 : decode cX0_init 50 = .ok (.aload_n 0, 1) := by decide +kernel
theorem dX0_init_51 : decode cX0_init 51 = .ok (.new 34, 3) := by decide +kernel
theorem dX0_init_54 : decode cX0_init 54 = .ok (.dup, 1) := by decide +kernel
theorem dX0_init_55 : decode cX0_init 55 = .ok (.invokespecial 36, 3) := by decide +kernel
theorem dX0_init_58 : decode cX0_init 58 = .ok (.putfield 37, 3) := by decide +kernel
theorem dX0_init_61 : decode cX0_init 61 = .ok (.aload_n 0, 1) := by decide +kernel
theorem dX0_init_62 : decode cX0_init 62 = .ok (.new 34, 3) := by decide +kernel
theorem dX0_init_65 : decode cX0_init 65 = .ok (.dup, 1) := by decide +kernel
theorem dX0_init_66 : decode cX0_init 66 = .ok (.invokespecial 36, 3) := by decide +kernel
theorem dX0_init_69 : decode cX0_init 69 = .ok (.putfield 41, 3) := by decide +kernel
theorem dX0_init_72 : decode cX0_init 72 = .ok (.return_, 1) := by decide +kernel
theorem dX0_renew_0 : decode cX0_renew 0 = .ok (.aload_n 0, 1) := by decide +kernel
theorem dX0_renew_1 : decode cX0_renew 1 = .ok (.iload_n 1, 1) := by decide +kernel
theorem dX0_renew_2 : decode cX0_renew 2 = .ok (.putfield 9, 3) := by decide +kernel
theorem dX0_renew_5 : decode cX0_renew 5 = .ok (.aload_n 0, 1) := by decide +kernel
theorem dX0_renew_6 : decode cX0_renew 6 = .ok (.iconst 0, 1) := by decide +kernel
theorem dX0_renew_7 : decode cX0_renew 7 = .ok (.putfield 21, 3) := by decide +kernel
theorem dX0_renew_10 : decode cX0_renew 10 = .ok (.iconst 0, 1) := by decide +kernel
theorem dX0_renew_11 : decode cX0_renew 11 = .ok (.istore_n 2, 1) := by decide +kernel
theorem dX0_renew_12 : decode cX0_renew 12 = .ok (.iload_n 2, 1) := by decide +kernel
theorem dX0_renew_13 : decode cX0_renew 13 = .ok (.bipush 8, 2) := by decide +kernel
theorem dX0_renew_15 : decode cX0_renew 15 = .ok (.if_icmp .ge 30, 3) := by decide +kernel
theorem dX0_renew_18 : decode cX0_renew 18 = .ok (.aload_n 0, 1) := by decide +kernel
theorem dX0_renew_19 : decode cX0_renew 19 = .ok (.getfield 24, 3) := by decide +kernel
theorem dX0_renew_22 : decode cX0_renew 22 = .ok (.iload_n 2, 1) := by decide +kernel
theorem dX0_renew_23 : decode cX0_renew 23 = .ok (.iconst 5, 1) := by decide +kernel
theorem dX0_renew_24 : decode cX0_renew 24 = .ok (.iastore, 1) := by decide +kernel
theorem dX0_renew_25 : decode cX0_renew 25 = .ok (.aload_n 0, 1) := by decide +kernel
theorem dX0_renew_26 : decode cX0_renew 26 = .ok (.getfield 28, 3) := by decide +kernel
theorem dX0_renew_29 : decode cX0_renew 29 = .ok (.iload_n 2, 1) := by decide +kernel
theorem dX0_renew_30 : decode cX0_renew 30 = .ok (.iconst 1, 1) := by decide +kernel
theorem dX0_renew_31 : decode cX0_renew 31 = .ok (.iastore, 1) := by decide +kernel
theorem dX0_renew_32 : decode cX0_renew 32 = .ok (.aload_n 0, 1) := by decide +kernel
theorem dX0_renew_33 : decode cX0_renew 33 = .ok (.getfield 31, 3) := by decide +kernel
theorem dX0_renew_36 : decode cX0_renew 36 = .ok (.iload_n 2, 1) := by decide +kernel
theorem dX0_renew_37 : decode cX0_renew 37 = .ok (.iconst 0, 1) := by decide +kernel
theorem dX0_renew_38 : decode cX0_renew 38 = .ok (.iastore, 1) := by decide +kernel
theorem dX0_renew_39 : decode cX0_renew 39 = .ok (.iinc 2 1, 3) := by decide +kernel
theorem dX0_renew_42 : decode cX0_renew 42 = .ok (.goto (-30), 3) := by decide +kernel
theorem dX0_renew_45 : decode cX0_renew 45 = .ok (.return_, 1) := by decide +kernel
theorem dX0_copyFrom_0 : decode cX0_copyFrom 0 = .ok (.aload_n 0, 1) := by decide +kernel
theorem dX0_copyFrom_1 : decode cX0_copyFrom 1 = .ok (.aload_n 1, 1) := by decide +kernel
theorem dX0_copyFrom_2 : decode cX0_copyFrom 2 = .ok (.getfield 9, 3) := by decide +kernel
theorem dX0_copyFrom_5 : decode cX0_copyFrom 5 = .ok (.putfield 9, 3) := by decide +kernel
theorem dX0_copyFrom_8 : decode cX0_copyFrom 8 = .ok (.aload_n 0, 1) := by decide +kernel
theorem dX0_copyFrom_9 : decode cX0_copyFrom 9 = .ok (.aload_n 1, 1) := by decide +kernel
theorem dX0_copyFrom_10 : decode cX0_copyFrom 10 = .ok (.getfield 15, 3) := by decide +kernel
theorem dX0_copyFrom_13 : decode cX0_copyFrom 13 = .ok (.putfield 15, 3) := by decide +kernel
theorem dX0_copyFrom_16 : decode cX0_copyFrom 16 = .ok (.aload_n 0, 1) := by decide +kernel
theorem dX0_copyFrom_17 : decode cX0_copyFrom 17 = .ok (.aload_n 1, 1) := by decide +kernel
theorem dX0_copyFrom_18 : decode cX0_copyFrom 18 = .ok (.getfield 18, 3) := by decide +kernel
theorem dX0_copyFrom_21 : decode cX0_copyFrom 21 = .ok (.putfield 18, 3) := by decide +kernel
theorem dX0_copyFrom_24 : decode cX0_copyFrom 24 = .ok (.aload_n 0, 1) := by decide +kernel
theorem dX0_copyFrom_25 : decode cX0_copyFrom 25 = .ok (.aload_n 1, 1) := by decide +kernel
theorem dX0_copyFrom_26 : decode cX0_copyFrom 26 = .ok (.getfield 21, 3) := by decide +kernel
theorem dX0_copyFrom_29 : decode cX0_copyFrom 29 = .ok (.putfield 21, 3) := by decide +kernel
theorem dX0_copyFrom_32 : decode cX0_copyFrom 32 = .ok (.aload_n 1, 1) := by decide +kernel
theorem dX0_copyFrom_33 : decode cX0_copyFrom 33 = .ok (.getfield 24, 3) := by decide +kernel
theorem dX0_copyFrom_36 : decode cX0_copyFrom 36 = .ok (.iconst 0, 1) := by decide +kernel
theorem dX0_copyFrom_37 : decode cX0_copyFrom 37 = .ok (.aload_n 0, 1) := by decide +kernel
theorem dX0_copyFrom_38 : decode cX0_copyFrom 38 = .ok (.getfield 24, 3) := by decide +kernel
theorem dX0_copyFrom_41 : decode cX0_copyFrom 41 = .ok (.iconst 0, 1) := by decide +kernel
theorem dX0_copyFrom_42 : decode cX0_copyFrom 42 = .ok (.bipush 8, 2) := by decide +kernel
theorem dX0_copyFrom_44 : decode cX0_copyFrom 44 = .ok (.invokestatic 44, 3) := by decide +kernel
theorem dX0_copyFrom_47 : decode cX0_copyFrom 47 = .ok (.aload_n 1, 1) := by decide +kernel
theorem dX0_copyFrom_48 : decode cX0_copyFrom 48 = .ok (.getfield 28, 3) := by decide +kernel
theorem dX0_copyFrom_51 : decode cX0_copyFrom 51 = .ok (.iconst 0, 1) := by decide +kernel
theorem dX0_copyFrom_52 : decode cX0_copyFrom 52 = .ok (.aload_n 0, 1) := by decide +kernel
theorem dX0_copyFrom_53 : decode cX0_copyFrom 53 = .ok (.getfield 28, 3) := by decide +kernel
theorem dX0_copyFrom_56 : decode cX0_copyFrom 56 = .ok (.iconst 0, 1) := by decide +kernel
theorem dX0_copyFrom_57 : decode cX0_copyFrom 57 = .ok (.bipush 8, 2) := by decide +kernel
theorem dX0_copyFrom_59 : decode cX0_copyFrom 59 = .ok (.invokestatic 44, 3) := by decide +kernel
theorem dX0_copyFrom_62 : decode cX0_copyFrom 62 = .ok (.aload_n 1, 1) := by decide +kernel
theorem dX0_copyFrom_63 : decode cX0_copyFrom 63 = .ok (.getfield 31, 3) := by decide +kernel
theorem dX0_copyFrom_66 : decode cX0_copyFrom 66 = .ok (.iconst 0, 1) := by decide +kernel
theorem dX0_copyFrom_67 : decode cX0_copyFrom 67 = .ok (.aload_n 0, 1) := by decide +kernel
theorem dX0_copyFrom_68 : decode cX0_copyFrom 68 = .ok (.getfield 31, 3) := by decide +kernel
theorem dX0_copyFrom_71 : decode cX0_copyFrom 71 = .ok (.iconst 0, 1) := by decide +kernel
theorem dX0_copyFrom_72 : decode cX0_copyFrom 72 = .ok (.bipush 8, 2) := by decide +kernel
theorem dX0_copyFrom_74 : decode cX0_copyFrom 74 = .ok (.invokestatic 44, 3) := by decide +kernel
theorem dX0_copyFrom_77 : decode cX0_copyFrom 77 = .ok (.aload_n 0, 1) := by decide +kernel
theorem dX0_copyFrom_78 : decode cX0_copyFrom 78 = .ok (.getfield 37, 3) := by decide +kernel
theorem dX0_copyFrom_81 : decode cX0_copyFrom 81 = .ok (.aload_n 1, 1) := by decide +kernel
theorem dX0_copyFrom_82 : decode cX0_copyFrom 82 = .ok (.getfield 37, 3) := by decide +kernel
theorem dX0_copyFrom_85 : decode cX0_copyFrom 85 = .ok (.invokevirtual 50, 3) := by decide +kernel
theorem dX0_copyFrom_88 : decode cX0_copyFrom 88 = .ok (.aload_n 0, 1) := by decide +kernel
theorem dX0_copyFrom_89 : decode cX0_copyFrom 89 = .ok (.getfield 41, 3) := by decide +kernel
theorem dX0_copyFrom_92 : decode cX0_copyFrom 92 = .ok (.aload_n 1, 1) := by decide +kernel
theorem dX0_copyFrom_93 : decode cX0_copyFrom 93 = .ok (.getfield 41, 3) := by decide +kernel
theorem dX0_copyFrom_96 : decode cX0_copyFrom 96 = .ok (.invokevirtual 50, 3) := by decide +kernel
theorem dX0_copyFrom_99 : decode cX0_copyFrom 99 = .ok (.return_, 1) := by decide +kernel
theorem dX0_lawOf_0 : decode cX0_lawOf 0 = .ok (.iload_n 1, 1) := by decide +kernel
theorem dX0_lawOf_1 : decode cX0_lawOf 1 = .ok (.ifCond .ne 10, 3) := by decide +kernel
theorem dX0_lawOf_4 : decode cX0_lawOf 4 = .ok (.aload_n 0, 1) := by decide +kernel
theorem dX0_lawOf_5 : decode cX0_lawOf 5 = .ok (.getfield 37, 3) := by decide +kernel
theorem dX0_lawOf_8 : decode cX0_lawOf 8 = .ok (.goto 7, 3) := by decide +kernel
theorem dX0_lawOf_11 : decode cX0_lawOf 11 = .ok (.aload_n 0, 1) := by decide +kernel
theorem dX0_lawOf_12 : decode cX0_lawOf 12 = .ok (.getfield 41, 3) := by decide +kernel
theorem dX0_lawOf_15 : decode cX0_lawOf 15 = .ok (.areturn, 1) := by decide +kernel
theorem dX0_give_0 : decode cX0_give 0 = .ok (.aload_n 0, 1) := by decide +kernel
theorem dX0_give_1 : decode cX0_give 1 = .ok (.iload_n 1, 1) := by decide +kernel
theorem dX0_give_2 : decode cX0_give 2 = .ok (.invokevirtual 54, 3) := by decide +kernel
theorem dX0_give_5 : decode cX0_give 5 = .ok (.astore 5, 2) := by decide +kernel
theorem dX0_give_7 : decode cX0_give 7 = .ok (.iload_n 1, 1) := by decide +kernel
theorem dX0_give_8 : decode cX0_give 8 = .ok (.ifCond .ne 8, 3) := by decide +kernel
theorem dX0_give_11 : decode cX0_give 11 = .ok (.iload 4, 2) := by decide +kernel
theorem dX0_give_13 : decode cX0_give 13 = .ok (.goto 4, 3) := by decide +kernel
theorem dX0_give_16 : decode cX0_give 16 = .ok (.iconst 0, 1) := by decide +kernel
theorem dX0_give_17 : decode cX0_give 17 = .ok (.istore 6, 2) := by decide +kernel
theorem dX0_give_19 : decode cX0_give 19 = .ok (.aload 5, 2) := by decide +kernel
theorem dX0_give_21 : decode cX0_give 21 = .ok (.invokevirtual 58, 3) := by decide +kernel
theorem dX0_give_24 : decode cX0_give 24 = .ok (.ifCond .eq 8, 3) := by decide +kernel
theorem dX0_give_27 : decode cX0_give 27 = .ok (.iload 6, 2) := by decide +kernel
theorem dX0_give_29 : decode cX0_give 29 = .ok (.goto 12, 3) := by decide +kernel
theorem dX0_give_32 : decode cX0_give 32 = .ok (.aload 5, 2) := by decide +kernel
theorem dX0_give_34 : decode cX0_give 34 = .ok (.iload_n 2, 1) := by decide +kernel
theorem dX0_give_35 : decode cX0_give 35 = .ok (.iload_n 3, 1) := by decide +kernel
theorem dX0_give_36 : decode cX0_give 36 = .ok (.iload 4, 2) := by decide +kernel
theorem dX0_give_38 : decode cX0_give 38 = .ok (.invokevirtual 62, 3) := by decide +kernel
theorem dX0_give_41 : decode cX0_give 41 = .ok (.istore 7, 2) := by decide +kernel
theorem dX0_give_43 : decode cX0_give 43 = .ok (.iconst 0, 1) := by decide +kernel
theorem dX0_give_44 : decode cX0_give 44 = .ok (.iload 7, 2) := by decide +kernel
theorem dX0_give_46 : decode cX0_give 46 = .ok (.iload_n 1, 1) := by decide +kernel
theorem dX0_give_47 : decode cX0_give 47 = .ok (.ifCond .ne 8, 3) := by decide +kernel
theorem dX0_give_50 : decode cX0_give 50 = .ok (.bipush 19, 2) := by decide +kernel
theorem dX0_give_52 : decode cX0_give 52 = .ok (.goto 4, 3) := by decide +kernel
theorem dX0_give_55 : decode cX0_give 55 = .ok (.iconst 1, 1) := by decide +kernel
theorem dX0_give_56 : decode cX0_give 56 = .ok (.invokestatic 66, 3) := by decide +kernel
theorem dX0_give_59 : decode cX0_give 59 = .ok (.invokestatic 72, 3) := by decide +kernel
theorem dX0_give_62 : decode cX0_give 62 = .ok (.ireturn, 1) := by decide +kernel
theorem dX0_depthIn_0 : decode cX0_depthIn 0 = .ok (.iconst 0, 1) := by decide +kernel
theorem dX0_depthIn_1 : decode cX0_depthIn 1 = .ok (.iload_n 2, 1) := by decide +kernel
theorem dX0_depthIn_2 : decode cX0_depthIn 2 = .ok (.invokestatic 72, 3) := by decide +kernel
theorem dX0_depthIn_5 : decode cX0_depthIn 5 = .ok (.istore_n 3, 1) := by decide +kernel
theorem dX0_depthIn_6 : decode cX0_depthIn 6 = .ok (.aload_n 0, 1) := by decide +kernel
theorem dX0_depthIn_7 : decode cX0_depthIn 7 = .ok (.getfield 28, 3) := by decide +kernel
theorem dX0_depthIn_10 : decode cX0_depthIn 10 = .ok (.iload_n 1, 1) := by decide +kernel
theorem dX0_depthIn_11 : decode cX0_depthIn 11 = .ok (.iaload, 1) := by decide +kernel
theorem dX0_depthIn_12 : decode cX0_depthIn 12 = .ok (.iload_n 3, 1) := by decide +kernel
theorem dX0_depthIn_13 : decode cX0_depthIn 13 = .ok (.if_icmp .gt 17, 3) := by decide +kernel
theorem dX0_depthIn_16 : decode cX0_depthIn 16 = .ok (.iload_n 3, 1) := by decide +kernel
theorem dX0_depthIn_17 : decode cX0_depthIn 17 = .ok (.aload_n 0, 1) := by decide +kernel
theorem dX0_depthIn_18 : decode cX0_depthIn 18 = .ok (.getfield 31, 3) := by decide +kernel
theorem dX0_depthIn_21 : decode cX0_depthIn 21 = .ok (.iload_n 1, 1) := by decide +kernel
theorem dX0_depthIn_22 : decode cX0_depthIn 22 = .ok (.iaload, 1) := by decide +kernel
theorem dX0_depthIn_23 : decode cX0_depthIn 23 = .ok (.if_icmp .gt 7, 3) := by decide +kernel
theorem dX0_depthIn_26 : decode cX0_depthIn 26 = .ok (.iconst 1, 1) := by decide +kernel
theorem dX0_depthIn_27 : decode cX0_depthIn 27 = .ok (.goto 4, 3) := by decide +kernel
theorem dX0_depthIn_30 : decode cX0_depthIn 30 = .ok (.iconst 0, 1) := by decide +kernel
theorem dX0_depthIn_31 : decode cX0_depthIn 31 = .ok (.istore 4, 2) := by decide +kernel
theorem dX0_depthIn_33 : decode cX0_depthIn 33 = .ok (.iload 4, 2) := by decide +kernel
theorem dX0_depthIn_35 : decode cX0_depthIn 35 = .ok (.ifCond .eq 7, 3) := by decide +kernel
theorem dX0_depthIn_38 : decode cX0_depthIn 38 = .ok (.iconst 0, 1) := by decide +kernel
theorem dX0_depthIn_39 : decode cX0_depthIn 39 = .ok (.goto 16, 3) := by decide +kernel
theorem dX0_depthIn_42 : decode cX0_depthIn 42 = .ok (.aload_n 0, 1) := by decide +kernel
theorem dX0_depthIn_43 : decode cX0_depthIn 43 = .ok (.iconst 0, 1) := by decide +kernel
theorem dX0_depthIn_44 : decode cX0_depthIn 44 = .ok (.iload_n 1, 1) := by decide +kernel
theorem dX0_depthIn_45 : decode cX0_depthIn 45 = .ok (.iload_n 3, 1) := by decide +kernel
theorem dX0_depthIn_46 : decode cX0_depthIn 46 = .ok (.aload_n 0, 1) := by decide +kernel
theorem dX0_depthIn_47 : decode cX0_depthIn 47 = .ok (.getfield 24, 3) := by decide +kernel
theorem dX0_depthIn_50 : decode cX0_depthIn 50 = .ok (.iload_n 1, 1) := by decide +kernel
theorem dX0_depthIn_51 : decode cX0_depthIn 51 = .ok (.iaload, 1) := by decide +kernel
theorem dX0_depthIn_52 : decode cX0_depthIn 52 = .ok (.invokevirtual 75, 3) := by decide +kernel
theorem dX0_depthIn_55 : decode cX0_depthIn 55 = .ok (.ireturn, 1) := by decide +kernel
theorem dX0_shownBy_0 : decode cX0_shownBy 0 = .ok (.aload_n 0, 1) := by decide +kernel
theorem dX0_shownBy_1 : decode cX0_shownBy 1 = .ok (.iload_n 2, 1) := by decide +kernel
theorem dX0_shownBy_2 : decode cX0_shownBy 2 = .ok (.aload_n 0, 1) := by decide +kernel
theorem dX0_shownBy_3 : decode cX0_shownBy 3 = .ok (.getfield 21, 3) := by decide +kernel
theorem dX0_shownBy_6 : decode cX0_shownBy 6 = .ok (.iload_n 2, 1) := by decide +kernel
theorem dX0_shownBy_7 : decode cX0_shownBy 7 = .ok (.invokestatic 79, 3) := by decide +kernel
theorem dX0_shownBy_10 : decode cX0_shownBy 10 = .ok (.ifCond .eq 12, 3) := by decide +kernel
theorem dX0_shownBy_13 : decode cX0_shownBy 13 = .ok (.aload_n 0, 1) := by decide +kernel
theorem dX0_shownBy_14 : decode cX0_shownBy 14 = .ok (.getfield 15, 3) := by decide +kernel
theorem dX0_shownBy_17 : decode cX0_shownBy 17 = .ok (.iload_n 1, 1) := by decide +kernel
theorem dX0_shownBy_18 : decode cX0_shownBy 18 = .ok (.isub, 1) := by decide +kernel
theorem dX0_shownBy_19 : decode cX0_shownBy 19 = .ok (.goto 7, 3) := by decide +kernel
theorem dX0_shownBy_22 : decode cX0_shownBy 22 = .ok (.aload_n 0, 1) := by decide +kernel
theorem dX0_shownBy_23 : decode cX0_shownBy 23 = .ok (.getfield 15, 3) := by decide +kernel
theorem dX0_shownBy_26 : decode cX0_shownBy 26 = .ok (.invokevirtual 83, 3) := by decide +kernel
theorem dX0_shownBy_29 : decode cX0_shownBy 29 = .ok (.ireturn, 1) := by decide +kernel
theorem dX1_init_0 : decode cX1_init 0 = .ok (.aload_n 0, 1) := by decide +kernel
theorem dX1_init_1 : decode cX1_init 1 = .ok (.invokespecial 3, 3) := by decide +kernel
theorem dX1_init_4 : decode cX1_init 4 = .ok (.aload_n 0, 1) := by decide +kernel
theorem dX1_init_5 : decode cX1_init 5 = .ok (.iconst 0, 1) := by decide +kernel
theorem dX1_init_6 : decode cX1_init 6 = .ok (.putfield 9, 3) := by decide +kernel
theorem dX1_init_9 : decode cX1_init 9 = .ok (.aload_n 0, 1) := by decide +kernel
theorem dX1_init_10 : decode cX1_init 10 = .ok (.iconst 0, 1) := by decide +kernel
theorem dX1_init_11 : decode cX1_init 11 = .ok (.putfield 15, 3) := by decide +kernel
theorem dX1_init_14 : decode cX1_init 14 = .ok (.aload_n 0, 1) := by decide +kernel
theorem dX1_init_15 : decode cX1_init 15 = .ok (.bipush 8, 2) := by decide +kernel
theorem dX1_init_17 : decode cX1_init 17 = .ok (.newarray .int, 2) := by decide +kernel
theorem dX1_init_19 : decode cX1_init 19 = .ok (.putfield 18, 3) := by decide +kernel
theorem dX1_init_22 : decode cX1_init 22 = .ok (.aload_n 0, 1) := by decide +kernel
theorem dX1_init_23 : decode cX1_init 23 = .ok (.bipush 8, 2) := by decide +kernel
theorem dX1_init_25 : decode cX1_init 25 = .ok (.newarray .int, 2) := by decide +kernel
theorem dX1_init_27 : decode cX1_init 27 = .ok (.putfield 22, 3) := by decide +kernel
theorem dX1_init_30 : decode cX1_init 30 = .ok (.aload_n 0, 1) := by decide +kernel
theorem dX1_init_31 : decode cX1_init 31 = .ok (.bipush 8, 2) := by decide +kernel
theorem dX1_init_33 : decode cX1_init 33 = .ok (.newarray .int, 2) := by decide +kernel
theorem dX1_init_35 : decode cX1_init 35 = .ok (.putfield 25, 3) := by decide +kernel
theorem dX1_init_38 : decode cX1_init 38 = .ok (.return_, 1) := by decide +kernel
theorem dX1_draw_0 : decode cX1_draw 0 = .ok (.aload_n 0, 1) := by decide +kernel
theorem dX1_draw_1 : decode cX1_draw 1 = .ok (.aload_n 1, 1) := by decide +kernel
theorem dX1_draw_2 : decode cX1_draw 2 = .ok (.getfield 28, 3) := by decide +kernel
theorem dX1_draw_5 : decode cX1_draw 5 = .ok (.putfield 9, 3) := by decide +kernel
theorem dX1_draw_8 : decode cX1_draw 8 = .ok (.aload_n 0, 1) := by decide +kernel
theorem dX1_draw_9 : decode cX1_draw 9 = .ok (.aload_n 1, 1) := by decide +kernel
theorem dX1_draw_10 : decode cX1_draw 10 = .ok (.getfield 31, 3) := by decide +kernel
theorem dX1_draw_13 : decode cX1_draw 13 = .ok (.putfield 15, 3) := by decide +kernel
theorem dX1_draw_16 : decode cX1_draw 16 = .ok (.iconst 0, 1) := by decide +kernel
theorem dX1_draw_17 : decode cX1_draw 17 = .ok (.istore_n 3, 1) := by decide +kernel
theorem dX1_draw_18 : decode cX1_draw 18 = .ok (.iload_n 3, 1) := by decide +kernel
theorem dX1_draw_19 : decode cX1_draw 19 = .ok (.aload_n 0, 1) := by decide +kernel
theorem dX1_draw_20 : decode cX1_draw 20 = .ok (.getfield 15, 3) := by decide +kernel
theorem dX1_draw_23 : decode cX1_draw 23 = .ok (.if_icmp .ge 60, 3) := by decide +kernel
theorem dX1_draw_26 : decode cX1_draw 26 = .ok (.aload_n 0, 1) := by decide +kernel
theorem dX1_draw_27 : decode cX1_draw 27 = .ok (.getfield 18, 3) := by decide +kernel
theorem dX1_draw_30 : decode cX1_draw 30 = .ok (.iload_n 3, 1) := by decide +kernel
theorem dX1_draw_31 : decode cX1_draw 31 = .ok (.aload_n 1, 1) := by decide +kernel
theorem dX1_draw_32 : decode cX1_draw 32 = .ok (.iload_n 3, 1) := by decide +kernel
theorem dX1_draw_33 : decode cX1_draw 33 = .ok (.aload_n 1, 1) := by decide +kernel
theorem dX1_draw_34 : decode cX1_draw 34 = .ok (.getfield 32, 3) := by decide +kernel
theorem dX1_draw_37 : decode cX1_draw 37 = .ok (.invokevirtual 35, 3) := by decide +kernel
theorem dX1_draw_40 : decode cX1_draw 40 = .ok (.iastore, 1) := by decide +kernel
theorem dX1_draw_41 : decode cX1_draw 41 = .ok (.aload_n 0, 1) := by decide +kernel
theorem dX1_draw_42 : decode cX1_draw 42 = .ok (.getfield 22, 3) := by decide +kernel
theorem dX1_draw_45 : decode cX1_draw 45 = .ok (.iload_n 3, 1) := by decide +kernel
theorem dX1_draw_46 : decode cX1_draw 46 = .ok (.aload_n 1, 1) := by decide +kernel
theorem dX1_draw_47 : decode cX1_draw 47 = .ok (.iload_n 3, 1) := by decide +kernel
theorem dX1_draw_48 : decode cX1_draw 48 = .ok (.aload_n 1, 1) := by decide +kernel
theorem dX1_draw_49 : decode cX1_draw 49 = .ok (.getfield 32, 3) := by decide +kernel
theorem dX1_draw_52 : decode cX1_draw 52 = .ok (.iload_n 2, 1) := by decide +kernel
theorem dX1_draw_53 : decode cX1_draw 53 = .ok (.isub, 1) := by decide +kernel
theorem dX1_draw_54 : decode cX1_draw 54 = .ok (.invokevirtual 35, 3) := by decide +kernel
theorem dX1_draw_57 : decode cX1_draw 57 = .ok (.iastore, 1) := by decide +kernel
theorem dX1_draw_58 : decode cX1_draw 58 = .ok (.aload_n 0, 1) := by decide +kernel
theorem dX1_draw_59 : decode cX1_draw 59 = .ok (.getfield 25, 3) := by decide +kernel
theorem dX1_draw_62 : decode cX1_draw 62 = .ok (.iload_n 3, 1) := by decide +kernel
theorem dX1_draw_63 : decode cX1_draw 63 = .ok (.aload_n 1, 1) := by decide +kernel
theorem dX1_draw_64 : decode cX1_draw 64 = .ok (.iload_n 3, 1) := by decide +kernel
theorem dX1_draw_65 : decode cX1_draw 65 = .ok (.aload_n 1, 1) := by decide +kernel
theorem dX1_draw_66 : decode cX1_draw 66 = .ok (.getfield 32, 3) := by decide +kernel
theorem dX1_draw_69 : decode cX1_draw 69 = .ok (.iconst 2, 1) := by decide +kernel
theorem dX1_draw_70 : decode cX1_draw 70 = .ok (.iload_n 2, 1) := by decide +kernel
theorem dX1_draw_71 : decode cX1_draw 71 = .ok (.imul, 1) := by decide +kernel
theorem dX1_draw_72 : decode cX1_draw 72 = .ok (.isub, 1) := by decide +kernel
theorem dX1_draw_73 : decode cX1_draw 73 = .ok (.invokevirtual 35, 3) := by decide +kernel
theorem dX1_draw_76 : decode cX1_draw 76 = .ok (.iastore, 1) := by decide +kernel
theorem dX1_draw_77 : decode cX1_draw 77 = .ok (.iinc 3 1, 3) := by decide +kernel
theorem dX1_draw_80 : decode cX1_draw 80 = .ok (.goto (-62), 3) := by decide +kernel
theorem dX1_draw_83 : decode cX1_draw 83 = .ok (.return_, 1) := by decide +kernel
theorem dX1_countFalse_0 : decode cX1_countFalse 0 = .ok (.iconst 0, 1) := by decide +kernel
theorem dX1_countFalse_1 : decode cX1_countFalse 1 = .ok (.istore_n 1, 1) := by decide +kernel
theorem dX1_countFalse_2 : decode cX1_countFalse 2 = .ok (.iconst 0, 1) := by decide +kernel
theorem dX1_countFalse_3 : decode cX1_countFalse 3 = .ok (.istore_n 2, 1) := by decide +kernel
theorem dX1_countFalse_4 : decode cX1_countFalse 4 = .ok (.iload_n 2, 1) := by decide +kernel
theorem dX1_countFalse_5 : decode cX1_countFalse 5 = .ok (.aload_n 0, 1) := by decide +kernel
theorem dX1_countFalse_6 : decode cX1_countFalse 6 = .ok (.getfield 15, 3) := by decide +kernel
theorem dX1_countFalse_9 : decode cX1_countFalse 9 = .ok (.if_icmp .ge 27, 3) := by decide +kernel
theorem dX1_countFalse_12 : decode cX1_countFalse 12 = .ok (.aload_n 0, 1) := by decide +kernel
theorem dX1_countFalse_13 : decode cX1_countFalse 13 = .ok (.getfield 22, 3) := by decide +kernel
theorem dX1_countFalse_16 : decode cX1_countFalse 16 = .ok (.iload_n 2, 1) := by decide +kernel
theorem dX1_countFalse_17 : decode cX1_countFalse 17 = .ok (.iaload, 1) := by decide +kernel
theorem dX1_countFalse_18 : decode cX1_countFalse 18 = .ok (.aload_n 0, 1) := by decide +kernel
theorem dX1_countFalse_19 : decode cX1_countFalse 19 = .ok (.getfield 18, 3) := by decide +kernel
theorem dX1_countFalse_22 : decode cX1_countFalse 22 = .ok (.iload_n 2, 1) := by decide +kernel
theorem dX1_countFalse_23 : decode cX1_countFalse 23 = .ok (.iaload, 1) := by decide +kernel
theorem dX1_countFalse_24 : decode cX1_countFalse 24 = .ok (.if_icmp .eq 6, 3) := by decide +kernel
theorem dX1_countFalse_27 : decode cX1_countFalse 27 = .ok (.iinc 1 1, 3) := by decide +kernel
theorem dX1_countFalse_30 : decode cX1_countFalse 30 = .ok (.iinc 2 1, 3) := by decide +kernel
theorem dX1_countFalse_33 : decode cX1_countFalse 33 = .ok (.goto (-29), 3) := by decide +kernel
theorem dX1_countFalse_36 : decode cX1_countFalse 36 = .ok (.iload_n 1, 1) := by decide +kernel
theorem dX1_countFalse_37 : decode cX1_countFalse 37 = .ok (.ireturn, 1) := by decide +kernel
theorem dX1_believed_0 : decode cX1_believed 0 = .ok (.aload_n 0, 1) := by decide +kernel
theorem dX1_believed_1 : decode cX1_believed 1 = .ok (.getfield 9, 3) := by decide +kernel
theorem dX1_believed_4 : decode cX1_believed 4 = .ok (.iload_n 3, 1) := by decide +kernel
theorem dX1_believed_5 : decode cX1_believed 5 = .ok (.invokestatic 39, 3) := by decide +kernel
theorem dX1_believed_8 : decode cX1_believed 8 = .ok (.istore 4, 2) := by decide +kernel
theorem dX1_believed_10 : decode cX1_believed 10 = .ok (.aload_n 0, 1) := by decide +kernel
theorem dX1_believed_11 : decode cX1_believed 11 = .ok (.getfield 18, 3) := by decide +kernel
theorem dX1_believed_14 : decode cX1_believed 14 = .ok (.iload_n 3, 1) := by decide +kernel
theorem dX1_believed_15 : decode cX1_believed 15 = .ok (.iaload, 1) := by decide +kernel
theorem dX1_believed_16 : decode cX1_believed 16 = .ok (.istore 5, 2) := by decide +kernel
theorem dX1_believed_18 : decode cX1_believed 18 = .ok (.iload 4, 2) := by decide +kernel
theorem dX1_believed_20 : decode cX1_believed 20 = .ok (.ifCond .eq 12, 3) := by decide +kernel
theorem dX1_believed_23 : decode cX1_believed 23 = .ok (.aload_n 0, 1) := by decide +kernel
theorem dX1_believed_24 : decode cX1_believed 24 = .ok (.getfield 22, 3) := by decide +kernel
theorem dX1_believed_27 : decode cX1_believed 27 = .ok (.iload_n 3, 1) := by decide +kernel
theorem dX1_believed_28 : decode cX1_believed 28 = .ok (.iaload, 1) := by decide +kernel
theorem dX1_believed_29 : decode cX1_believed 29 = .ok (.goto 5, 3) := by decide +kernel
theorem dX1_believed_32 : decode cX1_believed 32 = .ok (.iload 5, 2) := by decide +kernel
theorem dX1_believed_34 : decode cX1_believed 34 = .ok (.istore 6, 2) := by decide +kernel
theorem dX1_believed_36 : decode cX1_believed 36 = .ok (.iload_n 1, 1) := by decide +kernel
theorem dX1_believed_37 : decode cX1_believed 37 = .ok (.tableswitch 77 0 5 #[39, 42, 49, 52, 60, 69], 39) := by decide +kernel
theorem dX1_believed_76 : decode cX1_believed 76 = .ok (.iload 6, 2) := by decide +kernel
theorem dX1_believed_78 : decode cX1_believed 78 = .ok (.ireturn, 1) := by decide +kernel
theorem dX1_believed_79 : decode cX1_believed 79 = .ok (.iload 6, 2) := by decide +kernel
theorem dX1_believed_81 : decode cX1_believed 81 = .ok (.iload_n 2, 1) := by decide +kernel
theorem dX1_believed_82 : decode cX1_believed 82 = .ok (.iconst 3, 1) := by decide +kernel
theorem dX1_believed_83 : decode cX1_believed 83 = .ok (.irem, 1) := by decide +kernel
theorem dX1_believed_84 : decode cX1_believed 84 = .ok (.iadd, 1) := by decide +kernel
theorem dX1_believed_85 : decode cX1_believed 85 = .ok (.ireturn, 1) := by decide +kernel
theorem dX1_believed_86 : decode cX1_believed 86 = .ok (.iload 5, 2) := by decide +kernel
theorem dX1_believed_88 : decode cX1_believed 88 = .ok (.ireturn, 1) := by decide +kernel
theorem dX1_believed_89 : decode cX1_believed 89 = .ok (.iload 6, 2) := by decide +kernel
theorem dX1_believed_91 : decode cX1_believed 91 = .ok (.iload 5, 2) := by decide +kernel
theorem dX1_believed_93 : decode cX1_believed 93 = .ok (.invokestatic 43, 3) := by decide +kernel
theorem dX1_believed_96 : decode cX1_believed 96 = .ok (.ireturn, 1) := by decide +kernel
theorem dX1_believed_97 : decode cX1_believed 97 = .ok (.iload 6, 2) := by decide +kernel
theorem dX1_believed_99 : decode cX1_believed 99 = .ok (.iload_n 2, 1) := by decide +kernel
theorem dX1_believed_100 : decode cX1_believed 100 = .ok (.iconst 3, 1) := by decide +kernel
theorem dX1_believed_101 : decode cX1_believed 101 = .ok (.irem, 1) := by decide +kernel
theorem dX1_believed_102 : decode cX1_believed 102 = .ok (.iadd, 1) := by decide +kernel
theorem dX1_believed_103 : decode cX1_believed 103 = .ok (.iconst 1, 1) := by decide +kernel
theorem dX1_believed_104 : decode cX1_believed 104 = .ok (.isub, 1) := by decide +kernel
theorem dX1_believed_105 : decode cX1_believed 105 = .ok (.ireturn, 1) := by decide +kernel
theorem dX1_believed_106 : decode cX1_believed 106 = .ok (.iload 5, 2) := by decide +kernel
theorem dX1_believed_108 : decode cX1_believed 108 = .ok (.iload 6, 2) := by decide +kernel
theorem dX1_believed_110 : decode cX1_believed 110 = .ok (.invokestatic 48, 3) := by decide +kernel
theorem dX1_believed_113 : decode cX1_believed 113 = .ok (.ireturn, 1) := by decide +kernel
theorem dX1_believed_114 : decode cX1_believed 114 = .ok (.iload 4, 2) := by decide +kernel
theorem dX1_believed_116 : decode cX1_believed 116 = .ok (.ifCond .eq 12, 3) := by decide +kernel
theorem dX1_believed_119 : decode cX1_believed 119 = .ok (.aload_n 0, 1) := by decide +kernel
theorem dX1_believed_120 : decode cX1_believed 120 = .ok (.getfield 25, 3) := by decide +kernel
theorem dX1_believed_123 : decode cX1_believed 123 = .ok (.iload_n 3, 1) := by decide +kernel
theorem dX1_believed_124 : decode cX1_believed 124 = .ok (.iaload, 1) := by decide +kernel
theorem dX1_believed_125 : decode cX1_believed 125 = .ok (.goto 5, 3) := by decide +kernel
theorem dX1_believed_128 : decode cX1_believed 128 = .ok (.iload 5, 2) := by decide +kernel
theorem dX1_believed_130 : decode cX1_believed 130 = .ok (.iload 5, 2) := by decide +kernel
theorem dX1_believed_132 : decode cX1_believed 132 = .ok (.invokestatic 43, 3) := by decide +kernel
theorem dX1_believed_135 : decode cX1_believed 135 = .ok (.ireturn, 1) := by decide +kernel
theorem dX2_init_0 : decode cX2_init 0 = .ok (.aload_n 0, 1) := by decide +kernel
theorem dX2_init_1 : decode cX2_init 1 = .ok (.invokespecial 3, 3) := by decide +kernel
theorem dX2_init_4 : decode cX2_init 4 = .ok (.aload_n 0, 1) := by decide +kernel
theorem dX2_init_5 : decode cX2_init 5 = .ok (.iconst 1, 1) := by decide +kernel
theorem dX2_init_6 : decode cX2_init 6 = .ok (.putfield 9, 3) := by decide +kernel
theorem dX2_init_9 : decode cX2_init 9 = .ok (.aload_n 0, 1) := by decide +kernel
theorem dX2_init_10 : decode cX2_init 10 = .ok (.iconst 0, 1) := by decide +kernel
theorem dX2_init_11 : decode cX2_init 11 = .ok (.putfield 15, 3) := by decide +kernel
theorem dX2_init_14 : decode cX2_init 14 = .ok (.aload_n 0, 1) := by decide +kernel
theorem dX2_init_15 : decode cX2_init 15 = .ok (.iconst 0, 1) := by decide +kernel
theorem dX2_init_16 : decode cX2_init 16 = .ok (.putfield 18, 3) := by decide +kernel
theorem dX2_init_19 : decode cX2_init 19 = .ok (.aload_n 0, 1) := by decide +kernel
theorem dX2_init_20 : decode cX2_init 20 = .ok (.bipush 50, 2) := by decide +kernel
theorem dX2_init_22 : decode cX2_init 22 = .ok (.newarray .int, 2) := by decide +kernel
theorem dX2_init_24 : decode cX2_init 24 = .ok (.putfield 21, 3) := by decide +kernel
theorem dX2_init_27 : decode cX2_init 27 = .ok (.aload_n 0, 1) := by decide +kernel
theorem dX2_init_28 : decode cX2_init 28 = .ok (.bipush 20, 2) := by decide +kernel
theorem dX2_init_30 : decode cX2_init 30 = .ok (.newarray .int, 2) := by decide +kernel
theorem dX2_init_32 : decode cX2_init 32 = .ok (.putfield 25, 3) := by decide +kernel
theorem dX2_init_35 : decode cX2_init 35 = .ok (.return_, 1) := by decide +kernel
theorem dX2_copyFrom_0 : decode cX2_copyFrom 0 = .ok (.aload_n 0, 1) := by decide +kernel
theorem dX2_copyFrom_1 : decode cX2_copyFrom 1 = .ok (.aload_n 1, 1) := by decide +kernel
theorem dX2_copyFrom_2 : decode cX2_copyFrom 2 = .ok (.getfield 9, 3) := by decide +kernel
theorem dX2_copyFrom_5 : decode cX2_copyFrom 5 = .ok (.putfield 9, 3) := by decide +kernel
theorem dX2_copyFrom_8 : decode cX2_copyFrom 8 = .ok (.aload_n 0, 1) := by decide +kernel
theorem dX2_copyFrom_9 : decode cX2_copyFrom 9 = .ok (.aload_n 1, 1) := by decide +kernel
theorem dX2_copyFrom_10 : decode cX2_copyFrom 10 = .ok (.getfield 15, 3) := by decide +kernel
theorem dX2_copyFrom_13 : decode cX2_copyFrom 13 = .ok (.putfield 15, 3) := by decide +kernel
theorem dX2_copyFrom_16 : decode cX2_copyFrom 16 = .ok (.aload_n 0, 1) := by decide +kernel
theorem dX2_copyFrom_17 : decode cX2_copyFrom 17 = .ok (.aload_n 1, 1) := by decide +kernel
theorem dX2_copyFrom_18 : decode cX2_copyFrom 18 = .ok (.getfield 18, 3) := by decide +kernel
theorem dX2_copyFrom_21 : decode cX2_copyFrom 21 = .ok (.putfield 18, 3) := by decide +kernel
theorem dX2_copyFrom_24 : decode cX2_copyFrom 24 = .ok (.aload_n 1, 1) := by decide +kernel
theorem dX2_copyFrom_25 : decode cX2_copyFrom 25 = .ok (.getfield 21, 3) := by decide +kernel
theorem dX2_copyFrom_28 : decode cX2_copyFrom 28 = .ok (.iconst 0, 1) := by decide +kernel
theorem dX2_copyFrom_29 : decode cX2_copyFrom 29 = .ok (.aload_n 0, 1) := by decide +kernel
theorem dX2_copyFrom_30 : decode cX2_copyFrom 30 = .ok (.getfield 21, 3) := by decide +kernel
theorem dX2_copyFrom_33 : decode cX2_copyFrom 33 = .ok (.iconst 0, 1) := by decide +kernel
theorem dX2_copyFrom_34 : decode cX2_copyFrom 34 = .ok (.bipush 50, 2) := by decide +kernel
theorem dX2_copyFrom_36 : decode cX2_copyFrom 36 = .ok (.invokestatic 28, 3) := by decide +kernel
theorem dX2_copyFrom_39 : decode cX2_copyFrom 39 = .ok (.aload_n 1, 1) := by decide +kernel
theorem dX2_copyFrom_40 : decode cX2_copyFrom 40 = .ok (.getfield 25, 3) := by decide +kernel
theorem dX2_copyFrom_43 : decode cX2_copyFrom 43 = .ok (.iconst 0, 1) := by decide +kernel
theorem dX2_copyFrom_44 : decode cX2_copyFrom 44 = .ok (.aload_n 0, 1) := by decide +kernel
theorem dX2_copyFrom_45 : decode cX2_copyFrom 45 = .ok (.getfield 25, 3) := by decide +kernel
theorem dX2_copyFrom_48 : decode cX2_copyFrom 48 = .ok (.iconst 0, 1) := by decide +kernel
theorem dX2_copyFrom_49 : decode cX2_copyFrom 49 = .ok (.bipush 20, 2) := by decide +kernel
theorem dX2_copyFrom_51 : decode cX2_copyFrom 51 = .ok (.invokestatic 28, 3) := by decide +kernel
theorem dX2_copyFrom_54 : decode cX2_copyFrom 54 = .ok (.return_, 1) := by decide +kernel
theorem dX2_nextDraw_0 : decode cX2_nextDraw 0 = .ok (.aload_n 0, 1) := by decide +kernel
theorem dX2_nextDraw_1 : decode cX2_nextDraw 1 = .ok (.aload_n 0, 1) := by decide +kernel
theorem dX2_nextDraw_2 : decode cX2_nextDraw 2 = .ok (.getfield 9, 3) := by decide +kernel
theorem dX2_nextDraw_5 : decode cX2_nextDraw 5 = .ok (.ldc 34, 2) := by decide +kernel
theorem dX2_nextDraw_7 : decode cX2_nextDraw 7 = .ok (.imul, 1) := by decide +kernel
theorem dX2_nextDraw_8 : decode cX2_nextDraw 8 = .ok (.sipush 12345, 3) := by decide +kernel
theorem dX2_nextDraw_11 : decode cX2_nextDraw 11 = .ok (.iadd, 1) := by decide +kernel
theorem dX2_nextDraw_12 : decode cX2_nextDraw 12 = .ok (.putfield 9, 3) := by decide +kernel
theorem dX2_nextDraw_15 : decode cX2_nextDraw 15 = .ok (.aload_n 0, 1) := by decide +kernel
theorem dX2_nextDraw_16 : decode cX2_nextDraw 16 = .ok (.getfield 9, 3) := by decide +kernel
theorem dX2_nextDraw_19 : decode cX2_nextDraw 19 = .ok (.bipush 8, 2) := by decide +kernel
theorem dX2_nextDraw_21 : decode cX2_nextDraw 21 = .ok (.iushr, 1) := by decide +kernel
theorem dX2_nextDraw_22 : decode cX2_nextDraw 22 = .ok (.ireturn, 1) := by decide +kernel
theorem dX3_init_0 : decode cX3_init 0 = .ok (.aload_n 0, 1) := by decide +kernel
theorem dX3_init_1 : decode cX3_init 1 = .ok (.invokespecial 3, 3) := by decide +kernel
theorem dX3_init_4 : decode cX3_init 4 = .ok (.aload_n 0, 1) := by decide +kernel
theorem dX3_init_5 : decode cX3_init 5 = .ok (.iconst 0, 1) := by decide +kernel
theorem dX3_init_6 : decode cX3_init 6 = .ok (.putfield 9, 3) := by decide +kernel
theorem dX3_init_9 : decode cX3_init 9 = .ok (.aload_n 0, 1) := by decide +kernel
theorem dX3_init_10 : decode cX3_init 10 = .ok (.iconst 0, 1) := by decide +kernel
theorem dX3_init_11 : decode cX3_init 11 = .ok (.putfield 15, 3) := by decide +kernel
theorem dX3_init_14 : decode cX3_init 14 = .ok (.aload_n 0, 1) := by decide +kernel
theorem dX3_init_15 : decode cX3_init 15 = .ok (.bipush 7, 2) := by decide +kernel
theorem dX3_init_17 : decode cX3_init 17 = .ok (.newarray .int, 2) := by decide +kernel
theorem dX3_init_19 : decode cX3_init 19 = .ok (.putfield 18, 3) := by decide +kernel
theorem dX3_init_22 : decode cX3_init 22 = .ok (.aload_n 0, 1) := by decide +kernel
theorem dX3_init_23 : decode cX3_init 23 = .ok (.bipush 7, 2) := by decide +kernel
theorem dX3_init_25 : decode cX3_init 25 = .ok (.newarray .int, 2) := by decide +kernel
theorem dX3_init_27 : decode cX3_init 27 = .ok (.putfield 22, 3) := by decide +kernel
theorem dX3_init_30 : decode cX3_init 30 = .ok (.aload_n 0, 1) := by decide +kernel
theorem dX3_init_31 : decode cX3_init 31 = .ok (.bipush 7, 2) := by decide +kernel
theorem dX3_init_33 : decode cX3_init 33 = .ok (.newarray .int, 2) := by decide +kernel
theorem dX3_init_35 : decode cX3_init 35 = .ok (.putfield 25, 3) := by decide +kernel
theorem dX3_init_38 : decode cX3_init 38 = .ok (.aload_n 0, 1) := by decide +kernel
theorem dX3_init_39 : decode cX3_init 39 = .ok (.bipush 7, 2) := by decide +kernel
theorem dX3_init_41 : decode cX3_init 41 = .ok (.newarray .int, 2) := by decide +kernel
theorem dX3_init_43 : decode cX3_init 43 = .ok (.putfield 28, 3) := by decide +kernel
theorem dX3_init_46 : decode cX3_init 46 = .ok (.aload_n 0, 1) := by decide +kernel
theorem dX3_init_47 : decode cX3_init 47 = .ok (.bipush 7, 2) := by decide +kernel
theorem dX3_init_49 : decode cX3_init 49 = .ok (.newarray .int, 2) := by decide +kernel
theorem dX3_init_51 : decode cX3_init 51 = .ok (.putfield 31, 3) := by decide +kernel
theorem dX3_init_54 : decode cX3_init 54 = .ok (.return_, 1) := by decide +kernel
theorem dX3_copyFrom_0 : decode cX3_copyFrom 0 = .ok (.aload_n 0, 1) := by decide +kernel
theorem dX3_copyFrom_1 : decode cX3_copyFrom 1 = .ok (.aload_n 1, 1) := by decide +kernel
theorem dX3_copyFrom_2 : decode cX3_copyFrom 2 = .ok (.getfield 9, 3) := by decide +kernel
theorem dX3_copyFrom_5 : decode cX3_copyFrom 5 = .ok (.putfield 9, 3) := by decide +kernel
theorem dX3_copyFrom_8 : decode cX3_copyFrom 8 = .ok (.aload_n 0, 1) := by decide +kernel
theorem dX3_copyFrom_9 : decode cX3_copyFrom 9 = .ok (.aload_n 1, 1) := by decide +kernel
theorem dX3_copyFrom_10 : decode cX3_copyFrom 10 = .ok (.getfield 15, 3) := by decide +kernel
theorem dX3_copyFrom_13 : decode cX3_copyFrom 13 = .ok (.putfield 15, 3) := by decide +kernel
theorem dX3_copyFrom_16 : decode cX3_copyFrom 16 = .ok (.aload_n 1, 1) := by decide +kernel
theorem dX3_copyFrom_17 : decode cX3_copyFrom 17 = .ok (.getfield 18, 3) := by decide +kernel
theorem dX3_copyFrom_20 : decode cX3_copyFrom 20 = .ok (.iconst 0, 1) := by decide +kernel
theorem dX3_copyFrom_21 : decode cX3_copyFrom 21 = .ok (.aload_n 0, 1) := by decide +kernel
theorem dX3_copyFrom_22 : decode cX3_copyFrom 22 = .ok (.getfield 18, 3) := by decide +kernel
theorem dX3_copyFrom_25 : decode cX3_copyFrom 25 = .ok (.iconst 0, 1) := by decide +kernel
theorem dX3_copyFrom_26 : decode cX3_copyFrom 26 = .ok (.bipush 7, 2) := by decide +kernel
theorem dX3_copyFrom_28 : decode cX3_copyFrom 28 = .ok (.invokestatic 34, 3) := by decide +kernel
theorem dX3_copyFrom_31 : decode cX3_copyFrom 31 = .ok (.aload_n 1, 1) := by decide +kernel
theorem dX3_copyFrom_32 : decode cX3_copyFrom 32 = .ok (.getfield 22, 3) := by decide +kernel
theorem dX3_copyFrom_35 : decode cX3_copyFrom 35 = .ok (.iconst 0, 1) := by decide +kernel
theorem dX3_copyFrom_36 : decode cX3_copyFrom 36 = .ok (.aload_n 0, 1) := by decide +kernel
theorem dX3_copyFrom_37 : decode cX3_copyFrom 37 = .ok (.getfield 22, 3) := by decide +kernel
theorem dX3_copyFrom_40 : decode cX3_copyFrom 40 = .ok (.iconst 0, 1) := by decide +kernel
theorem dX3_copyFrom_41 : decode cX3_copyFrom 41 = .ok (.bipush 7, 2) := by decide +kernel
theorem dX3_copyFrom_43 : decode cX3_copyFrom 43 = .ok (.invokestatic 34, 3) := by decide +kernel
theorem dX3_copyFrom_46 : decode cX3_copyFrom 46 = .ok (.aload_n 1, 1) := by decide +kernel
theorem dX3_copyFrom_47 : decode cX3_copyFrom 47 = .ok (.getfield 25, 3) := by decide +kernel
theorem dX3_copyFrom_50 : decode cX3_copyFrom 50 = .ok (.iconst 0, 1) := by decide +kernel
theorem dX3_copyFrom_51 : decode cX3_copyFrom 51 = .ok (.aload_n 0, 1) := by decide +kernel
theorem dX3_copyFrom_52 : decode cX3_copyFrom 52 = .ok (.getfield 25, 3) := by decide +kernel
theorem dX3_copyFrom_55 : decode cX3_copyFrom 55 = .ok (.iconst 0, 1) := by decide +kernel
theorem dX3_copyFrom_56 : decode cX3_copyFrom 56 = .ok (.bipush 7, 2) := by decide +kernel
theorem dX3_copyFrom_58 : decode cX3_copyFrom 58 = .ok (.invokestatic 34, 3) := by decide +kernel
theorem dX3_copyFrom_61 : decode cX3_copyFrom 61 = .ok (.aload_n 1, 1) := by decide +kernel
theorem dX3_copyFrom_62 : decode cX3_copyFrom 62 = .ok (.getfield 28, 3) := by decide +kernel
theorem dX3_copyFrom_65 : decode cX3_copyFrom 65 = .ok (.iconst 0, 1) := by decide +kernel
theorem dX3_copyFrom_66 : decode cX3_copyFrom 66 = .ok (.aload_n 0, 1) := by decide +kernel
theorem dX3_copyFrom_67 : decode cX3_copyFrom 67 = .ok (.getfield 28, 3) := by decide +kernel
theorem dX3_copyFrom_70 : decode cX3_copyFrom 70 = .ok (.iconst 0, 1) := by decide +kernel
theorem dX3_copyFrom_71 : decode cX3_copyFrom 71 = .ok (.bipush 7, 2) := by decide +kernel
theorem dX3_copyFrom_73 : decode cX3_copyFrom 73 = .ok (.invokestatic 34, 3) := by decide +kernel
theorem dX3_copyFrom_76 : decode cX3_copyFrom 76 = .ok (.aload_n 1, 1) := by decide +kernel
theorem dX3_copyFrom_77 : decode cX3_copyFrom 77 = .ok (.getfield 31, 3) := by decide +kernel
theorem dX3_copyFrom_80 : decode cX3_copyFrom 80 = .ok (.iconst 0, 1) := by decide +kernel
theorem dX3_copyFrom_81 : decode cX3_copyFrom 81 = .ok (.aload_n 0, 1) := by decide +kernel
theorem dX3_copyFrom_82 : decode cX3_copyFrom 82 = .ok (.getfield 31, 3) := by decide +kernel
theorem dX3_copyFrom_85 : decode cX3_copyFrom 85 = .ok (.iconst 0, 1) := by decide +kernel
theorem dX3_copyFrom_86 : decode cX3_copyFrom 86 = .ok (.bipush 7, 2) := by decide +kernel
theorem dX3_copyFrom_88 : decode cX3_copyFrom 88 = .ok (.invokestatic 34, 3) := by decide +kernel
theorem dX3_copyFrom_91 : decode cX3_copyFrom 91 = .ok (.return_, 1) := by decide +kernel
theorem dX3_setAt_0 : decode cX3_setAt 0 = .ok (.aload_n 0, 1) := by decide +kernel
theorem dX3_setAt_1 : decode cX3_setAt 1 = .ok (.aload_n 0, 1) := by decide +kernel
theorem dX3_setAt_2 : decode cX3_setAt 2 = .ok (.getfield 28, 3) := by decide +kernel
theorem dX3_setAt_5 : decode cX3_setAt 5 = .ok (.iload_n 1, 1) := by decide +kernel
theorem dX3_setAt_6 : decode cX3_setAt 6 = .ok (.invokevirtual 40, 3) := by decide +kernel
theorem dX3_setAt_9 : decode cX3_setAt 9 = .ok (.ireturn, 1) := by decide +kernel
theorem dX3_setLost_0 : decode cX3_setLost 0 = .ok (.aload_n 0, 1) := by decide +kernel
theorem dX3_setLost_1 : decode cX3_setLost 1 = .ok (.aload_n 0, 1) := by decide +kernel
theorem dX3_setLost_2 : decode cX3_setLost 2 = .ok (.getfield 31, 3) := by decide +kernel
theorem dX3_setLost_5 : decode cX3_setLost 5 = .ok (.iconst 1, 1) := by decide +kernel
theorem dX3_setLost_6 : decode cX3_setLost 6 = .ok (.invokevirtual 40, 3) := by decide +kernel
theorem dX3_setLost_9 : decode cX3_setLost 9 = .ok (.ireturn, 1) := by decide +kernel
theorem dX3_setOf_0 : decode cX3_setOf 0 = .ok (.iconst 0, 1) := by decide +kernel
theorem dX3_setOf_1 : decode cX3_setOf 1 = .ok (.istore_n 3, 1) := by decide +kernel
theorem dX3_setOf_2 : decode cX3_setOf 2 = .ok (.iconst 0, 1) := by decide +kernel
theorem dX3_setOf_3 : decode cX3_setOf 3 = .ok (.istore 4, 2) := by decide +kernel
theorem dX3_setOf_5 : decode cX3_setOf 5 = .ok (.iload 4, 2) := by decide +kernel
theorem dX3_setOf_7 : decode cX3_setOf 7 = .ok (.aload_n 0, 1) := by decide +kernel
theorem dX3_setOf_8 : decode cX3_setOf 8 = .ok (.getfield 9, 3) := by decide +kernel
theorem dX3_setOf_11 : decode cX3_setOf 11 = .ok (.if_icmp .ge 24, 3) := by decide +kernel
theorem dX3_setOf_14 : decode cX3_setOf 14 = .ok (.aload_n 1, 1) := by decide +kernel
theorem dX3_setOf_15 : decode cX3_setOf 15 = .ok (.iload 4, 2) := by decide +kernel
theorem dX3_setOf_17 : decode cX3_setOf 17 = .ok (.iaload, 1) := by decide +kernel
theorem dX3_setOf_18 : decode cX3_setOf 18 = .ok (.iload_n 2, 1) := by decide +kernel
theorem dX3_setOf_19 : decode cX3_setOf 19 = .ok (.if_icmp .ne 10, 3) := by decide +kernel
theorem dX3_setOf_22 : decode cX3_setOf 22 = .ok (.iload_n 3, 1) := by decide +kernel
theorem dX3_setOf_23 : decode cX3_setOf 23 = .ok (.iconst 1, 1) := by decide +kernel
theorem dX3_setOf_24 : decode cX3_setOf 24 = .ok (.iload 4, 2) := by decide +kernel
theorem dX3_setOf_26 : decode cX3_setOf 26 = .ok (.ishl, 1) := by decide +kernel
theorem dX3_setOf_27 : decode cX3_setOf 27 = .ok (.ior, 1) := by decide +kernel
theorem dX3_setOf_28 : decode cX3_setOf 28 = .ok (.istore_n 3, 1) := by decide +kernel
theorem dX3_setOf_29 : decode cX3_setOf 29 = .ok (.iinc 4 1, 3) := by decide +kernel
theorem dX3_setOf_32 : decode cX3_setOf 32 = .ok (.goto (-27), 3) := by decide +kernel
theorem dX3_setOf_35 : decode cX3_setOf 35 = .ok (.iload_n 3, 1) := by decide +kernel
theorem dX3_setOf_36 : decode cX3_setOf 36 = .ok (.ireturn, 1) := by decide +kernel
theorem dX3_countAt_0 : decode cX3_countAt 0 = .ok (.aload_n 0, 1) := by decide +kernel
theorem dX3_countAt_1 : decode cX3_countAt 1 = .ok (.iload_n 1, 1) := by decide +kernel
theorem dX3_countAt_2 : decode cX3_countAt 2 = .ok (.invokevirtual 44, 3) := by decide +kernel
theorem dX3_countAt_5 : decode cX3_countAt 5 = .ok (.invokestatic 48, 3) := by decide +kernel
theorem dX3_countAt_8 : decode cX3_countAt 8 = .ok (.ireturn, 1) := by decide +kernel
theorem dX3_countLost_0 : decode cX3_countLost 0 = .ok (.aload_n 0, 1) := by decide +kernel
theorem dX3_countLost_1 : decode cX3_countLost 1 = .ok (.invokevirtual 53, 3) := by decide +kernel
theorem dX3_countLost_4 : decode cX3_countLost 4 = .ok (.invokestatic 48, 3) := by decide +kernel
theorem dX3_countLost_7 : decode cX3_countLost 7 = .ok (.ireturn, 1) := by decide +kernel
theorem dX4_init_0 : decode cX4_init 0 = .ok (.aload_n 0, 1) := by decide +kernel
theorem dX4_init_1 : decode cX4_init 1 = .ok (.invokespecial 3, 3) := by decide +kernel
theorem dX4_init_4 : decode cX4_init 4 = .ok (.aload_n 0, 1) := by decide +kernel
theorem dX4_init_5 : decode cX4_init 5 = .ok (.iconst 0, 1) := by decide +kernel
theorem dX4_init_6 : decode cX4_init 6 = .ok (.putfield 9, 3) := by decide +kernel
theorem dX4_init_9 : decode cX4_init 9 = .ok (.aload_n 0, 1) := by decide +kernel
theorem dX4_init_10 : decode cX4_init 10 = .ok (.bipush 50, 2) := by decide +kernel
theorem dX4_init_12 : decode cX4_init 12 = .ok (.newarray .int, 2) := by decide +kernel
theorem dX4_init_14 : decode cX4_init 14 = .ok (.putfield 15, 3) := by decide +kernel
theorem dX4_init_17 : decode cX4_init 17 = .ok (.aload_n 0, 1) := by decide +kernel
theorem dX4_init_18 : decode cX4_init 18 = .ok (.bipush 50, 2) := by decide +kernel
theorem dX4_init_20 : decode cX4_init 20 = .ok (.newarray .int, 2) := by decide +kernel
theorem dX4_init_22 : decode cX4_init 22 = .ok (.putfield 19, 3) := by decide +kernel
theorem dX4_init_25 : decode cX4_init 25 = .ok (.return_, 1) := by decide +kernel
theorem dX4_isEmpty_0 : decode cX4_isEmpty 0 = .ok (.aload_n 0, 1) := by decide +kernel
theorem dX4_isEmpty_1 : decode cX4_isEmpty 1 = .ok (.getfield 9, 3) := by decide +kernel
theorem dX4_isEmpty_4 : decode cX4_isEmpty 4 = .ok (.ifCond .ne 7, 3) := by decide +kernel
theorem dX4_isEmpty_7 : decode cX4_isEmpty 7 = .ok (.iconst 1, 1) := by decide +kernel
theorem dX4_isEmpty_8 : decode cX4_isEmpty 8 = .ok (.goto 4, 3) := by decide +kernel
theorem dX4_isEmpty_11 : decode cX4_isEmpty 11 = .ok (.iconst 0, 1) := by decide +kernel
theorem dX4_isEmpty_12 : decode cX4_isEmpty 12 = .ok (.ireturn, 1) := by decide +kernel
theorem dX4_copyFrom_0 : decode cX4_copyFrom 0 = .ok (.aload_n 0, 1) := by decide +kernel
theorem dX4_copyFrom_1 : decode cX4_copyFrom 1 = .ok (.aload_n 1, 1) := by decide +kernel
theorem dX4_copyFrom_2 : decode cX4_copyFrom 2 = .ok (.getfield 9, 3) := by decide +kernel
theorem dX4_copyFrom_5 : decode cX4_copyFrom 5 = .ok (.putfield 9, 3) := by decide +kernel
theorem dX4_copyFrom_8 : decode cX4_copyFrom 8 = .ok (.aload_n 1, 1) := by decide +kernel
theorem dX4_copyFrom_9 : decode cX4_copyFrom 9 = .ok (.getfield 15, 3) := by decide +kernel
theorem dX4_copyFrom_12 : decode cX4_copyFrom 12 = .ok (.iconst 0, 1) := by decide +kernel
theorem dX4_copyFrom_13 : decode cX4_copyFrom 13 = .ok (.aload_n 0, 1) := by decide +kernel
theorem dX4_copyFrom_14 : decode cX4_copyFrom 14 = .ok (.getfield 15, 3) := by decide +kernel
theorem dX4_copyFrom_17 : decode cX4_copyFrom 17 = .ok (.iconst 0, 1) := by decide +kernel
theorem dX4_copyFrom_18 : decode cX4_copyFrom 18 = .ok (.bipush 50, 2) := by decide +kernel
theorem dX4_copyFrom_20 : decode cX4_copyFrom 20 = .ok (.invokestatic 22, 3) := by decide +kernel
theorem dX4_copyFrom_23 : decode cX4_copyFrom 23 = .ok (.return_, 1) := by decide +kernel
theorem dX4_add_0 : decode cX4_add 0 = .ok (.aload_n 0, 1) := by decide +kernel
theorem dX4_add_1 : decode cX4_add 1 = .ok (.getfield 9, 3) := by decide +kernel
theorem dX4_add_4 : decode cX4_add 4 = .ok (.bipush 50, 2) := by decide +kernel
theorem dX4_add_6 : decode cX4_add 6 = .ok (.if_icmp .ge 23, 3) := by decide +kernel
theorem dX4_add_9 : decode cX4_add 9 = .ok (.aload_n 0, 1) := by decide +kernel
theorem dX4_add_10 : decode cX4_add 10 = .ok (.getfield 15, 3) := by decide +kernel
theorem dX4_add_13 : decode cX4_add 13 = .ok (.aload_n 0, 1) := by decide +kernel
theorem dX4_add_14 : decode cX4_add 14 = .ok (.getfield 9, 3) := by decide +kernel
theorem dX4_add_17 : decode cX4_add 17 = .ok (.iload_n 1, 1) := by decide +kernel
theorem dX4_add_18 : decode cX4_add 18 = .ok (.iastore, 1) := by decide +kernel
theorem dX4_add_19 : decode cX4_add 19 = .ok (.aload_n 0, 1) := by decide +kernel
theorem dX4_add_20 : decode cX4_add 20 = .ok (.dup, 1) := by decide +kernel
theorem dX4_add_21 : decode cX4_add 21 = .ok (.getfield 9, 3) := by decide +kernel
theorem dX4_add_24 : decode cX4_add 24 = .ok (.iconst 1, 1) := by decide +kernel
theorem dX4_add_25 : decode cX4_add 25 = .ok (.iadd, 1) := by decide +kernel
theorem dX4_add_26 : decode cX4_add 26 = .ok (.putfield 9, 3) := by decide +kernel
theorem dX4_add_29 : decode cX4_add 29 = .ok (.return_, 1) := by decide +kernel
theorem dX4_value_0 : decode cX4_value 0 = .ok (.iconst 0, 1) := by decide +kernel
theorem dX4_value_1 : decode cX4_value 1 = .ok (.istore 4, 2) := by decide +kernel
theorem dX4_value_3 : decode cX4_value 3 = .ok (.iconst 0, 1) := by decide +kernel
theorem dX4_value_4 : decode cX4_value 4 = .ok (.istore 5, 2) := by decide +kernel
theorem dX4_value_6 : decode cX4_value 6 = .ok (.iload 5, 2) := by decide +kernel
theorem dX4_value_8 : decode cX4_value 8 = .ok (.aload_n 0, 1) := by decide +kernel
theorem dX4_value_9 : decode cX4_value 9 = .ok (.getfield 9, 3) := by decide +kernel
theorem dX4_value_12 : decode cX4_value 12 = .ok (.if_icmp .ge 158, 3) := by decide +kernel
theorem dX4_value_15 : decode cX4_value 15 = .ok (.aload_n 0, 1) := by decide +kernel
theorem dX4_value_16 : decode cX4_value 16 = .ok (.getfield 15, 3) := by decide +kernel
theorem dX4_value_19 : decode cX4_value 19 = .ok (.iload 5, 2) := by decide +kernel
theorem dX4_value_21 : decode cX4_value 21 = .ok (.iaload, 1) := by decide +kernel
theorem dX4_value_22 : decode cX4_value 22 = .ok (.istore 6, 2) := by decide +kernel
theorem dX4_value_24 : decode cX4_value 24 = .ok (.iload 6, 2) := by decide +kernel
theorem dX4_value_26 : decode cX4_value 26 = .ok (.bipush (-3), 2) := by decide +kernel
theorem dX4_value_28 : decode cX4_value 28 = .ok (.if_icmp .lt 55, 3) := by decide +kernel
theorem dX4_value_31 : decode cX4_value 31 = .ok (.iload 4, 2) := by decide +kernel
theorem dX4_value_33 : decode cX4_value 33 = .ok (.bipush 50, 2) := by decide +kernel
theorem dX4_value_35 : decode cX4_value 35 = .ok (.if_icmp .ge 129, 3) := by decide +kernel
theorem dX4_value_38 : decode cX4_value 38 = .ok (.aload_n 0, 1) := by decide +kernel
theorem dX4_value_39 : decode cX4_value 39 = .ok (.getfield 19, 3) := by decide +kernel
theorem dX4_value_42 : decode cX4_value 42 = .ok (.iload 4, 2) := by decide +kernel
theorem dX4_value_44 : decode cX4_value 44 = .ok (.iload 6, 2) := by decide +kernel
theorem dX4_value_46 : decode cX4_value 46 = .ok (.ifCond .lt 8, 3) := by decide +kernel
theorem dX4_value_49 : decode cX4_value 49 = .ok (.iload 6, 2) := by decide +kernel
theorem dX4_value_51 : decode cX4_value 51 = .ok (.goto 25, 3) := by decide +kernel
theorem dX4_value_54 : decode cX4_value 54 = .ok (.iload 6, 2) := by decide +kernel
theorem dX4_value_56 : decode cX4_value 56 = .ok (.iconst (-1), 1) := by decide +kernel
theorem dX4_value_57 : decode cX4_value 57 = .ok (.if_icmp .ne 7, 3) := by decide +kernel
theorem dX4_value_60 : decode cX4_value 60 = .ok (.iload_n 1, 1) := by decide +kernel
theorem dX4_value_61 : decode cX4_value 61 = .ok (.goto 15, 3) := by decide +kernel
theorem dX4_value_64 : decode cX4_value 64 = .ok (.iload 6, 2) := by decide +kernel
theorem dX4_value_66 : decode cX4_value 66 = .ok (.bipush (-3), 2) := by decide +kernel
theorem dX4_value_68 : decode cX4_value 68 = .ok (.if_icmp .ne 7, 3) := by decide +kernel
theorem dX4_value_71 : decode cX4_value 71 = .ok (.iload_n 3, 1) := by decide +kernel
theorem dX4_value_72 : decode cX4_value 72 = .ok (.goto 4, 3) := by decide +kernel
theorem dX4_value_75 : decode cX4_value 75 = .ok (.iload_n 2, 1) := by decide +kernel
theorem dX4_value_76 : decode cX4_value 76 = .ok (.iastore, 1) := by decide +kernel
theorem dX4_value_77 : decode cX4_value 77 = .ok (.iinc 4 1, 3) := by decide +kernel
theorem dX4_value_80 : decode cX4_value 80 = .ok (.goto 84, 3) := by decide +kernel
theorem dX4_value_83 : decode cX4_value 83 = .ok (.iload 6, 2) := by decide +kernel
theorem dX4_value_85 : decode cX4_value 85 = .ok (.bipush (-33), 2) := by decide +kernel
theorem dX4_value_87 : decode cX4_value 87 = .ok (.if_icmp .ne 37, 3) := by decide +kernel
theorem dX4_value_90 : decode cX4_value 90 = .ok (.iload 4, 2) := by decide +kernel
theorem dX4_value_92 : decode cX4_value 92 = .ok (.ifCond .le 72, 3) := by decide +kernel
theorem dX4_value_95 : decode cX4_value 95 = .ok (.aload_n 0, 1) := by decide +kernel
theorem dX4_value_96 : decode cX4_value 96 = .ok (.getfield 19, 3) := by decide +kernel
theorem dX4_value_99 : decode cX4_value 99 = .ok (.iload 4, 2) := by decide +kernel
theorem dX4_value_101 : decode cX4_value 101 = .ok (.iconst 1, 1) := by decide +kernel
theorem dX4_value_102 : decode cX4_value 102 = .ok (.isub, 1) := by decide +kernel
theorem dX4_value_103 : decode cX4_value 103 = .ok (.aload_n 0, 1) := by decide +kernel
theorem dX4_value_104 : decode cX4_value 104 = .ok (.getfield 19, 3) := by decide +kernel
theorem dX4_value_107 : decode cX4_value 107 = .ok (.iload 4, 2) := by decide +kernel
theorem dX4_value_109 : decode cX4_value 109 = .ok (.iconst 1, 1) := by decide +kernel
theorem dX4_value_110 : decode cX4_value 110 = .ok (.isub, 1) := by decide +kernel
theorem dX4_value_111 : decode cX4_value 111 = .ok (.iaload, 1) := by decide +kernel
theorem dX4_value_112 : decode cX4_value 112 = .ok (.ifCond .ne 7, 3) := by decide +kernel
theorem dX4_value_115 : decode cX4_value 115 = .ok (.iconst 1, 1) := by decide +kernel
theorem dX4_value_116 : decode cX4_value 116 = .ok (.goto 4, 3) := by decide +kernel
theorem dX4_value_119 : decode cX4_value 119 = .ok (.iconst 0, 1) := by decide +kernel
theorem dX4_value_120 : decode cX4_value 120 = .ok (.iastore, 1) := by decide +kernel
theorem dX4_value_121 : decode cX4_value 121 = .ok (.goto 43, 3) := by decide +kernel
theorem dX4_value_124 : decode cX4_value 124 = .ok (.iload 4, 2) := by decide +kernel
theorem dX4_value_126 : decode cX4_value 126 = .ok (.iconst 1, 1) := by decide +kernel
theorem dX4_value_127 : decode cX4_value 127 = .ok (.if_icmp .le 37, 3) := by decide +kernel
theorem dX4_value_130 : decode cX4_value 130 = .ok (.iinc 4 (-1), 3) := by decide +kernel
theorem dX4_value_133 : decode cX4_value 133 = .ok (.aload_n 0, 1) := by decide +kernel
theorem dX4_value_134 : decode cX4_value 134 = .ok (.getfield 19, 3) := by decide +kernel
theorem dX4_value_137 : decode cX4_value 137 = .ok (.iload 4, 2) := by decide +kernel
theorem dX4_value_139 : decode cX4_value 139 = .ok (.iconst 1, 1) := by decide +kernel
theorem dX4_value_140 : decode cX4_value 140 = .ok (.isub, 1) := by decide +kernel
theorem dX4_value_141 : decode cX4_value 141 = .ok (.iload 6, 2) := by decide +kernel
theorem dX4_value_143 : decode cX4_value 143 = .ok (.ineg, 1) := by decide +kernel
theorem dX4_value_144 : decode cX4_value 144 = .ok (.aload_n 0, 1) := by decide +kernel
theorem dX4_value_145 : decode cX4_value 145 = .ok (.getfield 19, 3) := by decide +kernel
theorem dX4_value_148 : decode cX4_value 148 = .ok (.iload 4, 2) := by decide +kernel
theorem dX4_value_150 : decode cX4_value 150 = .ok (.iconst 1, 1) := by decide +kernel
theorem dX4_value_151 : decode cX4_value 151 = .ok (.isub, 1) := by decide +kernel
theorem dX4_value_152 : decode cX4_value 152 = .ok (.iaload, 1) := by decide +kernel
theorem dX4_value_153 : decode cX4_value 153 = .ok (.aload_n 0, 1) := by decide +kernel
theorem dX4_value_154 : decode cX4_value 154 = .ok (.getfield 19, 3) := by decide +kernel
theorem dX4_value_157 : decode cX4_value 157 = .ok (.iload 4, 2) := by decide +kernel
theorem dX4_value_159 : decode cX4_value 159 = .ok (.iaload, 1) := by decide +kernel
theorem dX4_value_160 : decode cX4_value 160 = .ok (.invokestatic 28, 3) := by decide +kernel
theorem dX4_value_163 : decode cX4_value 163 = .ok (.iastore, 1) := by decide +kernel
theorem dX4_value_164 : decode cX4_value 164 = .ok (.iinc 5 1, 3) := by decide +kernel
theorem dX4_value_167 : decode cX4_value 167 = .ok (.goto (-161), 3) := by decide +kernel
theorem dX4_value_170 : decode cX4_value 170 = .ok (.iload 4, 2) := by decide +kernel
theorem dX4_value_172 : decode cX4_value 172 = .ok (.ifCond .le 12, 3) := by decide +kernel
theorem dX4_value_175 : decode cX4_value 175 = .ok (.aload_n 0, 1) := by decide +kernel
theorem dX4_value_176 : decode cX4_value 176 = .ok (.getfield 19, 3) := by decide +kernel
theorem dX4_value_179 : decode cX4_value 179 = .ok (.iconst 0, 1) := by decide +kernel
theorem dX4_value_180 : decode cX4_value 180 = .ok (.iaload, 1) := by decide +kernel
theorem dX4_value_181 : decode cX4_value 181 = .ok (.goto 4, 3) := by decide +kernel
theorem dX4_value_184 : decode cX4_value 184 = .ok (.iconst 0, 1) := by decide +kernel
theorem dX4_value_185 : decode cX4_value 185 = .ok (.ireturn, 1) := by decide +kernel
theorem dX4_joined_0 : decode cX4_joined 0 = .ok (.iload_n 0, 1) := by decide +kernel
theorem dX4_joined_1 : decode cX4_joined 1 = .ok (.lookupswitch 168 #[(38, 97), (42, 152), (43, 144), (45, 148), (47, 156), (60, 111), (61, 122), (62, 133), (124, 83)], 83) := by decide +kernel
theorem dX4_joined_84 : decode cX4_joined 84 = .ok (.iload_n 1, 1) := by decide +kernel
theorem dX4_joined_85 : decode cX4_joined 85 = .ok (.ifCond .ne 7, 3) := by decide +kernel
theorem dX4_joined_88 : decode cX4_joined 88 = .ok (.iload_n 2, 1) := by decide +kernel
theorem dX4_joined_89 : decode cX4_joined 89 = .ok (.ifCond .eq 7, 3) := by decide +kernel
theorem dX4_joined_92 : decode cX4_joined 92 = .ok (.iconst 1, 1) := by decide +kernel
theorem dX4_joined_93 : decode cX4_joined 93 = .ok (.goto 4, 3) := by decide +kernel
theorem dX4_joined_96 : decode cX4_joined 96 = .ok (.iconst 0, 1) := by decide +kernel
theorem dX4_joined_97 : decode cX4_joined 97 = .ok (.ireturn, 1) := by decide +kernel
theorem dX4_joined_98 : decode cX4_joined 98 = .ok (.iload_n 1, 1) := by decide +kernel
theorem dX4_joined_99 : decode cX4_joined 99 = .ok (.ifCond .eq 11, 3) := by decide +kernel
theorem dX4_joined_102 : decode cX4_joined 102 = .ok (.iload_n 2, 1) := by decide +kernel
theorem dX4_joined_103 : decode cX4_joined 103 = .ok (.ifCond .eq 7, 3) := by decide +kernel
theorem dX4_joined_106 : decode cX4_joined 106 = .ok (.iconst 1, 1) := by decide +kernel
theorem dX4_joined_107 : decode cX4_joined 107 = .ok (.goto 4, 3) := by decide +kernel
theorem dX4_joined_110 : decode cX4_joined 110 = .ok (.iconst 0, 1) := by decide +kernel
theorem dX4_joined_111 : decode cX4_joined 111 = .ok (.ireturn, 1) := by decide +kernel
theorem dX4_joined_112 : decode cX4_joined 112 = .ok (.iload_n 1, 1) := by decide +kernel
theorem dX4_joined_113 : decode cX4_joined 113 = .ok (.iload_n 2, 1) := by decide +kernel
theorem dX4_joined_114 : decode cX4_joined 114 = .ok (.if_icmp .ge 7, 3) := by decide +kernel
theorem dX4_joined_117 : decode cX4_joined 117 = .ok (.iconst 1, 1) := by decide +kernel
theorem dX4_joined_118 : decode cX4_joined 118 = .ok (.goto 4, 3) := by decide +kernel
theorem dX4_joined_121 : decode cX4_joined 121 = .ok (.iconst 0, 1) := by decide +kernel
theorem dX4_joined_122 : decode cX4_joined 122 = .ok (.ireturn, 1) := by decide +kernel
theorem dX4_joined_123 : decode cX4_joined 123 = .ok (.iload_n 1, 1) := by decide +kernel
theorem dX4_joined_124 : decode cX4_joined 124 = .ok (.iload_n 2, 1) := by decide +kernel
theorem dX4_joined_125 : decode cX4_joined 125 = .ok (.if_icmp .ne 7, 3) := by decide +kernel
theorem dX4_joined_128 : decode cX4_joined 128 = .ok (.iconst 1, 1) := by decide +kernel
theorem dX4_joined_129 : decode cX4_joined 129 = .ok (.goto 4, 3) := by decide +kernel
theorem dX4_joined_132 : decode cX4_joined 132 = .ok (.iconst 0, 1) := by decide +kernel
theorem dX4_joined_133 : decode cX4_joined 133 = .ok (.ireturn, 1) := by decide +kernel
theorem dX4_joined_134 : decode cX4_joined 134 = .ok (.iload_n 1, 1) := by decide +kernel
theorem dX4_joined_135 : decode cX4_joined 135 = .ok (.iload_n 2, 1) := by decide +kernel
theorem dX4_joined_136 : decode cX4_joined 136 = .ok (.if_icmp .le 7, 3) := by decide +kernel
theorem dX4_joined_139 : decode cX4_joined 139 = .ok (.iconst 1, 1) := by decide +kernel
theorem dX4_joined_140 : decode cX4_joined 140 = .ok (.goto 4, 3) := by decide +kernel
theorem dX4_joined_143 : decode cX4_joined 143 = .ok (.iconst 0, 1) := by decide +kernel
theorem dX4_joined_144 : decode cX4_joined 144 = .ok (.ireturn, 1) := by decide +kernel
theorem dX4_joined_145 : decode cX4_joined 145 = .ok (.iload_n 1, 1) := by decide +kernel
theorem dX4_joined_146 : decode cX4_joined 146 = .ok (.iload_n 2, 1) := by decide +kernel
theorem dX4_joined_147 : decode cX4_joined 147 = .ok (.iadd, 1) := by decide +kernel
theorem dX4_joined_148 : decode cX4_joined 148 = .ok (.ireturn, 1) := by decide +kernel
theorem dX4_joined_149 : decode cX4_joined 149 = .ok (.iload_n 1, 1) := by decide +kernel
theorem dX4_joined_150 : decode cX4_joined 150 = .ok (.iload_n 2, 1) := by decide +kernel
theorem dX4_joined_151 : decode cX4_joined 151 = .ok (.isub, 1) := by decide +kernel
theorem dX4_joined_152 : decode cX4_joined 152 = .ok (.ireturn, 1) := by decide +kernel
theorem dX4_joined_153 : decode cX4_joined 153 = .ok (.iload_n 1, 1) := by decide +kernel
theorem dX4_joined_154 : decode cX4_joined 154 = .ok (.iload_n 2, 1) := by decide +kernel
theorem dX4_joined_155 : decode cX4_joined 155 = .ok (.imul, 1) := by decide +kernel
theorem dX4_joined_156 : decode cX4_joined 156 = .ok (.ireturn, 1) := by decide +kernel
theorem dX4_joined_157 : decode cX4_joined 157 = .ok (.iload_n 2, 1) := by decide +kernel
theorem dX4_joined_158 : decode cX4_joined 158 = .ok (.ifCond .ne 7, 3) := by decide +kernel
theorem dX4_joined_161 : decode cX4_joined 161 = .ok (.iconst 0, 1) := by decide +kernel
theorem dX4_joined_162 : decode cX4_joined 162 = .ok (.goto 6, 3) := by decide +kernel
theorem dX4_joined_165 : decode cX4_joined 165 = .ok (.iload_n 1, 1) := by decide +kernel
theorem dX4_joined_166 : decode cX4_joined 166 = .ok (.iload_n 2, 1) := by decide +kernel
theorem dX4_joined_167 : decode cX4_joined 167 = .ok (.idiv, 1) := by decide +kernel
theorem dX4_joined_168 : decode cX4_joined 168 = .ok (.ireturn, 1) := by decide +kernel
theorem dX4_joined_169 : decode cX4_joined 169 = .ok (.iload_n 2, 1) := by decide +kernel
theorem dX4_joined_170 : decode cX4_joined 170 = .ok (.ifCond .ne 7, 3) := by decide +kernel
theorem dX4_joined_173 : decode cX4_joined 173 = .ok (.iconst 0, 1) := by decide +kernel
theorem dX4_joined_174 : decode cX4_joined 174 = .ok (.goto 6, 3) := by decide +kernel
theorem dX4_joined_177 : decode cX4_joined 177 = .ok (.iload_n 1, 1) := by decide +kernel
theorem dX4_joined_178 : decode cX4_joined 178 = .ok (.iload_n 2, 1) := by decide +kernel
theorem dX4_joined_179 : decode cX4_joined 179 = .ok (.irem, 1) := by decide +kernel
theorem dX4_joined_180 : decode cX4_joined 180 = .ok (.ireturn, 1) := by decide +kernel
theorem dX5_init_0 : decode cX5_init 0 = .ok (.aload_n 0, 1) := by decide +kernel
theorem dX5_init_1 : decode cX5_init 1 = .ok (.invokespecial 3, 3) := by decide +kernel
theorem dX5_init_4 : decode cX5_init 4 = .ok (.aload_n 0, 1) := by decide +kernel
theorem dX5_init_5 : decode cX5_init 5 = .ok (.bipush 50, 2) := by decide +kernel
theorem dX5_init_7 : decode cX5_init 7 = .ok (.newarray .int, 2) := by decide +kernel
theorem dX5_init_9 : decode cX5_init 9 = .ok (.putfield 9, 3) := by decide +kernel
theorem dX5_init_12 : decode cX5_init 12 = .ok (.aload_n 0, 1) := by decide +kernel
theorem dX5_init_13 : decode cX5_init 13 = .ok (.iconst 0, 1) := by decide +kernel
theorem dX5_init_14 : decode cX5_init 14 = .ok (.putfield 15, 3) := by decide +kernel
theorem dX5_init_17 : decode cX5_init 17 = .ok (.aload_n 0, 1) := by decide +kernel
theorem dX5_init_18 : decode cX5_init 18 = .ok (.iconst 0, 1) := by decide +kernel
theorem dX5_init_19 : decode cX5_init 19 = .ok (.putfield 19, 3) := by decide +kernel
theorem dX5_init_22 : decode cX5_init 22 = .ok (.aload_n 0, 1) := by decide +kernel
theorem dX5_init_23 : decode cX5_init 23 = .ok (.iconst 0, 1) := by decide +kernel
theorem dX5_init_24 : decode cX5_init 24 = .ok (.putfield 22, 3) := by decide +kernel
theorem dX5_init_27 : decode cX5_init 27 = .ok (.aload_n 0, 1) := by decide +kernel
theorem dX5_init_28 : decode cX5_init 28 = .ok (.new 25, 3) := by decide +kernel
theorem dX5_init_31 : decode cX5_init 31 = .ok (.dup, 1) := by decide +kernel
theorem dX5_init_32 : decode cX5_init 32 = .ok (.invokespecial 27, 3) := by decide +kernel
theorem dX5_init_35 : decode cX5_init 35 = .ok (.putfield 28, 3) := by decide +kernel
theorem dX5_init_38 : decode cX5_init 38 = .ok (.return_, 1) := by decide +kernel
theorem dX5_faultOf_0 : decode cX5_faultOf 0 = .ok (.aload_n 1, 1) := by decide +kernel
theorem dX5_faultOf_1 : decode cX5_faultOf 1 = .ok (.iconst 0, 1) := by decide +kernel
theorem dX5_faultOf_2 : decode cX5_faultOf 2 = .ok (.aload_n 0, 1) := by decide +kernel
theorem dX5_faultOf_3 : decode cX5_faultOf 3 = .ok (.getfield 9, 3) := by decide +kernel
theorem dX5_faultOf_6 : decode cX5_faultOf 6 = .ok (.iconst 0, 1) := by decide +kernel
theorem dX5_faultOf_7 : decode cX5_faultOf 7 = .ok (.bipush 50, 2) := by decide +kernel
theorem dX5_faultOf_9 : decode cX5_faultOf 9 = .ok (.invokestatic 32, 3) := by decide +kernel
theorem dX5_faultOf_12 : decode cX5_faultOf 12 = .ok (.aload_n 0, 1) := by decide +kernel
theorem dX5_faultOf_13 : decode cX5_faultOf 13 = .ok (.iload_n 2, 1) := by decide +kernel
theorem dX5_faultOf_14 : decode cX5_faultOf 14 = .ok (.putfield 15, 3) := by decide +kernel
theorem dX5_faultOf_17 : decode cX5_faultOf 17 = .ok (.aload_n 0, 1) := by decide +kernel
theorem dX5_faultOf_18 : decode cX5_faultOf 18 = .ok (.iload_n 3, 1) := by decide +kernel
theorem dX5_faultOf_19 : decode cX5_faultOf 19 = .ok (.putfield 19, 3) := by decide +kernel
theorem dX5_faultOf_22 : decode cX5_faultOf 22 = .ok (.aload_n 0, 1) := by decide +kernel
theorem dX5_faultOf_23 : decode cX5_faultOf 23 = .ok (.iconst 0, 1) := by decide +kernel
theorem dX5_faultOf_24 : decode cX5_faultOf 24 = .ok (.putfield 22, 3) := by decide +kernel
theorem dX5_faultOf_27 : decode cX5_faultOf 27 = .ok (.aload_n 0, 1) := by decide +kernel
theorem dX5_faultOf_28 : decode cX5_faultOf 28 = .ok (.getfield 28, 3) := by decide +kernel
theorem dX5_faultOf_31 : decode cX5_faultOf 31 = .ok (.iconst 0, 1) := by decide +kernel
theorem dX5_faultOf_32 : decode cX5_faultOf 32 = .ok (.putfield 38, 3) := by decide +kernel
theorem dX5_faultOf_35 : decode cX5_faultOf 35 = .ok (.aload_n 0, 1) := by decide +kernel
theorem dX5_faultOf_36 : decode cX5_faultOf 36 = .ok (.iconst 0, 1) := by decide +kernel
theorem dX5_faultOf_37 : decode cX5_faultOf 37 = .ok (.invokevirtual 39, 3) := by decide +kernel
theorem dX5_faultOf_40 : decode cX5_faultOf 40 = .ok (.ifCond .eq 18, 3) := by decide +kernel
theorem dX5_faultOf_43 : decode cX5_faultOf 43 = .ok (.aload_n 0, 1) := by decide +kernel
theorem dX5_faultOf_44 : decode cX5_faultOf 44 = .ok (.getfield 22, 3) := by decide +kernel
theorem dX5_faultOf_47 : decode cX5_faultOf 47 = .ok (.aload_n 0, 1) := by decide +kernel
theorem dX5_faultOf_48 : decode cX5_faultOf 48 = .ok (.getfield 15, 3) := by decide +kernel
theorem dX5_faultOf_51 : decode cX5_faultOf 51 = .ok (.if_icmp .ne 7, 3) := by decide +kernel
theorem dX5_faultOf_54 : decode cX5_faultOf 54 = .ok (.iconst 1, 1) := by decide +kernel
theorem dX5_faultOf_55 : decode cX5_faultOf 55 = .ok (.goto 4, 3) := by decide +kernel
theorem dX5_faultOf_58 : decode cX5_faultOf 58 = .ok (.iconst 0, 1) := by decide +kernel
theorem dX5_faultOf_59 : decode cX5_faultOf 59 = .ok (.istore 4, 2) := by decide +kernel
theorem dX5_faultOf_61 : decode cX5_faultOf 61 = .ok (.iload 4, 2) := by decide +kernel
theorem dX5_faultOf_63 : decode cX5_faultOf 63 = .ok (.ifCond .eq 7, 3) := by decide +kernel
theorem dX5_faultOf_66 : decode cX5_faultOf 66 = .ok (.iconst (-1), 1) := by decide +kernel
theorem dX5_faultOf_67 : decode cX5_faultOf 67 = .ok (.goto 7, 3) := by decide +kernel
theorem dX5_faultOf_70 : decode cX5_faultOf 70 = .ok (.aload_n 0, 1) := by decide +kernel
theorem dX5_faultOf_71 : decode cX5_faultOf 71 = .ok (.getfield 22, 3) := by decide +kernel
theorem dX5_faultOf_74 : decode cX5_faultOf 74 = .ok (.ireturn, 1) := by decide +kernel
theorem dX5_readEither_0 : decode cX5_readEither 0 = .ok (.aload_n 0, 1) := by decide +kernel
theorem dX5_readEither_1 : decode cX5_readEither 1 = .ok (.iload_n 1, 1) := by decide +kernel
theorem dX5_readEither_2 : decode cX5_readEither 2 = .ok (.invokevirtual 43, 3) := by decide +kernel
theorem dX5_readEither_5 : decode cX5_readEither 5 = .ok (.ifCond .ne 5, 3) := by decide +kernel
theorem dX5_readEither_8 : decode cX5_readEither 8 = .ok (.iconst 0, 1) := by decide +kernel
theorem dX5_readEither_9 : decode cX5_readEither 9 = .ok (.ireturn, 1) := by decide +kernel
theorem dX5_readEither_10 : decode cX5_readEither 10 = .ok (.aload_n 0, 1) := by decide +kernel
theorem dX5_readEither_11 : decode cX5_readEither 11 = .ok (.getfield 22, 3) := by decide +kernel
theorem dX5_readEither_14 : decode cX5_readEither 14 = .ok (.aload_n 0, 1) := by decide +kernel
theorem dX5_readEither_15 : decode cX5_readEither 15 = .ok (.getfield 15, 3) := by decide +kernel
theorem dX5_readEither_18 : decode cX5_readEither 18 = .ok (.if_icmp .ge 49, 3) := by decide +kernel
theorem dX5_readEither_21 : decode cX5_readEither 21 = .ok (.aload_n 0, 1) := by decide +kernel
theorem dX5_readEither_22 : decode cX5_readEither 22 = .ok (.getfield 9, 3) := by decide +kernel
theorem dX5_readEither_25 : decode cX5_readEither 25 = .ok (.aload_n 0, 1) := by decide +kernel
theorem dX5_readEither_26 : decode cX5_readEither 26 = .ok (.getfield 22, 3) := by decide +kernel
theorem dX5_readEither_29 : decode cX5_readEither 29 = .ok (.iaload, 1) := by decide +kernel
theorem dX5_readEither_30 : decode cX5_readEither 30 = .ok (.bipush 124, 2) := by decide +kernel
theorem dX5_readEither_32 : decode cX5_readEither 32 = .ok (.if_icmp .ne 35, 3) := by decide +kernel
theorem dX5_readEither_35 : decode cX5_readEither 35 = .ok (.aload_n 0, 1) := by decide +kernel
theorem dX5_readEither_36 : decode cX5_readEither 36 = .ok (.dup, 1) := by decide +kernel
theorem dX5_readEither_37 : decode cX5_readEither 37 = .ok (.getfield 22, 3) := by decide +kernel
theorem dX5_readEither_40 : decode cX5_readEither 40 = .ok (.iconst 1, 1) := by decide +kernel
theorem dX5_readEither_41 : decode cX5_readEither 41 = .ok (.iadd, 1) := by decide +kernel
theorem dX5_readEither_42 : decode cX5_readEither 42 = .ok (.putfield 22, 3) := by decide +kernel
theorem dX5_readEither_45 : decode cX5_readEither 45 = .ok (.aload_n 0, 1) := by decide +kernel
theorem dX5_readEither_46 : decode cX5_readEither 46 = .ok (.iload_n 1, 1) := by decide +kernel
theorem dX5_readEither_47 : decode cX5_readEither 47 = .ok (.invokevirtual 43, 3) := by decide +kernel
theorem dX5_readEither_50 : decode cX5_readEither 50 = .ok (.ifCond .ne 5, 3) := by decide +kernel
theorem dX5_readEither_53 : decode cX5_readEither 53 = .ok (.iconst 0, 1) := by decide +kernel
theorem dX5_readEither_54 : decode cX5_readEither 54 = .ok (.ireturn, 1) := by decide +kernel
theorem dX5_readEither_55 : decode cX5_readEither 55 = .ok (.aload_n 0, 1) := by decide +kernel
theorem dX5_readEither_56 : decode cX5_readEither 56 = .ok (.getfield 28, 3) := by decide +kernel
theorem dX5_readEither_59 : decode cX5_readEither 59 = .ok (.bipush (-124), 2) := by decide +kernel
theorem dX5_readEither_61 : decode cX5_readEither 61 = .ok (.invokevirtual 46, 3) := by decide +kernel
theorem dX5_readEither_64 : decode cX5_readEither 64 = .ok (.goto (-54), 3) := by decide +kernel
theorem dX5_readEither_67 : decode cX5_readEither 67 = .ok (.iconst 1, 1) := by decide +kernel
theorem dX5_readEither_68 : decode cX5_readEither 68 = .ok (.ireturn, 1) := by decide +kernel
theorem dX5_readBoth_0 : decode cX5_readBoth 0 = .ok (.aload_n 0, 1) := by decide +kernel
theorem dX5_readBoth_1 : decode cX5_readBoth 1 = .ok (.iload_n 1, 1) := by decide +kernel
theorem dX5_readBoth_2 : decode cX5_readBoth 2 = .ok (.invokevirtual 50, 3) := by decide +kernel
theorem dX5_readBoth_5 : decode cX5_readBoth 5 = .ok (.ifCond .ne 5, 3) := by decide +kernel
theorem dX5_readBoth_8 : decode cX5_readBoth 8 = .ok (.iconst 0, 1) := by decide +kernel
theorem dX5_readBoth_9 : decode cX5_readBoth 9 = .ok (.ireturn, 1) := by decide +kernel
theorem dX5_readBoth_10 : decode cX5_readBoth 10 = .ok (.aload_n 0, 1) := by decide +kernel
theorem dX5_readBoth_11 : decode cX5_readBoth 11 = .ok (.getfield 22, 3) := by decide +kernel
theorem dX5_readBoth_14 : decode cX5_readBoth 14 = .ok (.aload_n 0, 1) := by decide +kernel
theorem dX5_readBoth_15 : decode cX5_readBoth 15 = .ok (.getfield 15, 3) := by decide +kernel
theorem dX5_readBoth_18 : decode cX5_readBoth 18 = .ok (.if_icmp .ge 49, 3) := by decide +kernel
theorem dX5_readBoth_21 : decode cX5_readBoth 21 = .ok (.aload_n 0, 1) := by decide +kernel
theorem dX5_readBoth_22 : decode cX5_readBoth 22 = .ok (.getfield 9, 3) := by decide +kernel
theorem dX5_readBoth_25 : decode cX5_readBoth 25 = .ok (.aload_n 0, 1) := by decide +kernel
theorem dX5_readBoth_26 : decode cX5_readBoth 26 = .ok (.getfield 22, 3) := by decide +kernel
theorem dX5_readBoth_29 : decode cX5_readBoth 29 = .ok (.iaload, 1) := by decide +kernel
theorem dX5_readBoth_30 : decode cX5_readBoth 30 = .ok (.bipush 38, 2) := by decide +kernel
theorem dX5_readBoth_32 : decode cX5_readBoth 32 = .ok (.if_icmp .ne 35, 3) := by decide +kernel
theorem dX5_readBoth_35 : decode cX5_readBoth 35 = .ok (.aload_n 0, 1) := by decide +kernel
theorem dX5_readBoth_36 : decode cX5_readBoth 36 = .ok (.dup, 1) := by decide +kernel
theorem dX5_readBoth_37 : decode cX5_readBoth 37 = .ok (.getfield 22, 3) := by decide +kernel
theorem dX5_readBoth_40 : decode cX5_readBoth 40 = .ok (.iconst 1, 1) := by decide +kernel
theorem dX5_readBoth_41 : decode cX5_readBoth 41 = .ok (.iadd, 1) := by decide +kernel
theorem dX5_readBoth_42 : decode cX5_readBoth 42 = .ok (.putfield 22, 3) := by decide +kernel
theorem dX5_readBoth_45 : decode cX5_readBoth 45 = .ok (.aload_n 0, 1) := by decide +kernel
theorem dX5_readBoth_46 : decode cX5_readBoth 46 = .ok (.iload_n 1, 1) := by decide +kernel
theorem dX5_readBoth_47 : decode cX5_readBoth 47 = .ok (.invokevirtual 50, 3) := by decide +kernel
theorem dX5_readBoth_50 : decode cX5_readBoth 50 = .ok (.ifCond .ne 5, 3) := by decide +kernel
theorem dX5_readBoth_53 : decode cX5_readBoth 53 = .ok (.iconst 0, 1) := by decide +kernel
theorem dX5_readBoth_54 : decode cX5_readBoth 54 = .ok (.ireturn, 1) := by decide +kernel
theorem dX5_readBoth_55 : decode cX5_readBoth 55 = .ok (.aload_n 0, 1) := by decide +kernel
theorem dX5_readBoth_56 : decode cX5_readBoth 56 = .ok (.getfield 28, 3) := by decide +kernel
theorem dX5_readBoth_59 : decode cX5_readBoth 59 = .ok (.bipush (-38), 2) := by decide +kernel
theorem dX5_readBoth_61 : decode cX5_readBoth 61 = .ok (.invokevirtual 46, 3) := by decide +kernel
theorem dX5_readBoth_64 : decode cX5_readBoth 64 = .ok (.goto (-54), 3) := by decide +kernel
theorem dX5_readBoth_67 : decode cX5_readBoth 67 = .ok (.iconst 1, 1) := by decide +kernel
theorem dX5_readBoth_68 : decode cX5_readBoth 68 = .ok (.ireturn, 1) := by decide +kernel
theorem dX5_readCompared_0 : decode cX5_readCompared 0 = .ok (.aload_n 0, 1) := by decide +kernel
theorem dX5_readCompared_1 : decode cX5_readCompared 1 = .ok (.iload_n 1, 1) := by decide +kernel
theorem dX5_readCompared_2 : decode cX5_readCompared 2 = .ok (.invokevirtual 53, 3) := by decide +kernel
theorem dX5_readCompared_5 : decode cX5_readCompared 5 = .ok (.ifCond .ne 5, 3) := by decide +kernel
theorem dX5_readCompared_8 : decode cX5_readCompared 8 = .ok (.iconst 0, 1) := by decide +kernel
theorem dX5_readCompared_9 : decode cX5_readCompared 9 = .ok (.ireturn, 1) := by decide +kernel
theorem dX5_readCompared_10 : decode cX5_readCompared 10 = .ok (.aload_n 0, 1) := by decide +kernel
theorem dX5_readCompared_11 : decode cX5_readCompared 11 = .ok (.invokevirtual 56, 3) := by decide +kernel
theorem dX5_readCompared_14 : decode cX5_readCompared 14 = .ok (.istore_n 2, 1) := by decide +kernel
theorem dX5_readCompared_15 : decode cX5_readCompared 15 = .ok (.iload_n 2, 1) := by decide +kernel
theorem dX5_readCompared_16 : decode cX5_readCompared 16 = .ok (.bipush 60, 2) := by decide +kernel
theorem dX5_readCompared_18 : decode cX5_readCompared 18 = .ok (.if_icmp .eq 17, 3) := by decide +kernel
theorem dX5_readCompared_21 : decode cX5_readCompared 21 = .ok (.iload_n 2, 1) := by decide +kernel
theorem dX5_readCompared_22 : decode cX5_readCompared 22 = .ok (.bipush 61, 2) := by decide +kernel
theorem dX5_readCompared_24 : decode cX5_readCompared 24 = .ok (.if_icmp .eq 11, 3) := by decide +kernel
theorem dX5_readCompared_27 : decode cX5_readCompared 27 = .ok (.iload_n 2, 1) := by decide +kernel
theorem dX5_readCompared_28 : decode cX5_readCompared 28 = .ok (.bipush 62, 2) := by decide +kernel
theorem dX5_readCompared_30 : decode cX5_readCompared 30 = .ok (.if_icmp .eq 5, 3) := by decide +kernel
theorem dX5_readCompared_33 : decode cX5_readCompared 33 = .ok (.iconst 1, 1) := by decide +kernel
theorem dX5_readCompared_34 : decode cX5_readCompared 34 = .ok (.ireturn, 1) := by decide +kernel
theorem dX5_readCompared_35 : decode cX5_readCompared 35 = .ok (.aload_n 0, 1) := by decide +kernel
theorem dX5_readCompared_36 : decode cX5_readCompared 36 = .ok (.dup, 1) := by decide +kernel
theorem dX5_readCompared_37 : decode cX5_readCompared 37 = .ok (.getfield 22, 3) := by decide +kernel
theorem dX5_readCompared_40 : decode cX5_readCompared 40 = .ok (.iconst 1, 1) := by decide +kernel
theorem dX5_readCompared_41 : decode cX5_readCompared 41 = .ok (.iadd, 1) := by decide +kernel
theorem dX5_readCompared_42 : decode cX5_readCompared 42 = .ok (.putfield 22, 3) := by decide +kernel
theorem dX5_readCompared_45 : decode cX5_readCompared 45 = .ok (.aload_n 0, 1) := by decide +kernel
theorem dX5_readCompared_46 : decode cX5_readCompared 46 = .ok (.iload_n 1, 1) := by decide +kernel
theorem dX5_readCompared_47 : decode cX5_readCompared 47 = .ok (.invokevirtual 53, 3) := by decide +kernel
theorem dX5_readCompared_50 : decode cX5_readCompared 50 = .ok (.ifCond .ne 5, 3) := by decide +kernel
theorem dX5_readCompared_53 : decode cX5_readCompared 53 = .ok (.iconst 0, 1) := by decide +kernel
theorem dX5_readCompared_54 : decode cX5_readCompared 54 = .ok (.ireturn, 1) := by decide +kernel
theorem dX5_readCompared_55 : decode cX5_readCompared 55 = .ok (.aload_n 0, 1) := by decide +kernel
theorem dX5_readCompared_56 : decode cX5_readCompared 56 = .ok (.getfield 28, 3) := by decide +kernel
theorem dX5_readCompared_59 : decode cX5_readCompared 59 = .ok (.iload_n 2, 1) := by decide +kernel
theorem dX5_readCompared_60 : decode cX5_readCompared 60 = .ok (.ineg, 1) := by decide +kernel
theorem dX5_readCompared_61 : decode cX5_readCompared 61 = .ok (.invokevirtual 46, 3) := by decide +kernel
theorem dX5_readCompared_64 : decode cX5_readCompared 64 = .ok (.iconst 1, 1) := by decide +kernel
theorem dX5_readCompared_65 : decode cX5_readCompared 65 = .ok (.ireturn, 1) := by decide +kernel
theorem dX5_readSum_0 : decode cX5_readSum 0 = .ok (.aload_n 0, 1) := by decide +kernel
theorem dX5_readSum_1 : decode cX5_readSum 1 = .ok (.iload_n 1, 1) := by decide +kernel
theorem dX5_readSum_2 : decode cX5_readSum 2 = .ok (.invokevirtual 60, 3) := by decide +kernel
theorem dX5_readSum_5 : decode cX5_readSum 5 = .ok (.ifCond .ne 5, 3) := by decide +kernel
theorem dX5_readSum_8 : decode cX5_readSum 8 = .ok (.iconst 0, 1) := by decide +kernel
theorem dX5_readSum_9 : decode cX5_readSum 9 = .ok (.ireturn, 1) := by decide +kernel
theorem dX5_readSum_10 : decode cX5_readSum 10 = .ok (.aload_n 0, 1) := by decide +kernel
theorem dX5_readSum_11 : decode cX5_readSum 11 = .ok (.getfield 22, 3) := by decide +kernel
theorem dX5_readSum_14 : decode cX5_readSum 14 = .ok (.aload_n 0, 1) := by decide +kernel
theorem dX5_readSum_15 : decode cX5_readSum 15 = .ok (.getfield 15, 3) := by decide +kernel
theorem dX5_readSum_18 : decode cX5_readSum 18 = .ok (.if_icmp .ge 73, 3) := by decide +kernel
theorem dX5_readSum_21 : decode cX5_readSum 21 = .ok (.aload_n 0, 1) := by decide +kernel
theorem dX5_readSum_22 : decode cX5_readSum 22 = .ok (.getfield 9, 3) := by decide +kernel
theorem dX5_readSum_25 : decode cX5_readSum 25 = .ok (.aload_n 0, 1) := by decide +kernel
theorem dX5_readSum_26 : decode cX5_readSum 26 = .ok (.getfield 22, 3) := by decide +kernel
theorem dX5_readSum_29 : decode cX5_readSum 29 = .ok (.iaload, 1) := by decide +kernel
theorem dX5_readSum_30 : decode cX5_readSum 30 = .ok (.bipush 43, 2) := by decide +kernel
theorem dX5_readSum_32 : decode cX5_readSum 32 = .ok (.if_icmp .eq 17, 3) := by decide +kernel
theorem dX5_readSum_35 : decode cX5_readSum 35 = .ok (.aload_n 0, 1) := by decide +kernel
theorem dX5_readSum_36 : decode cX5_readSum 36 = .ok (.getfield 9, 3) := by decide +kernel
theorem dX5_readSum_39 : decode cX5_readSum 39 = .ok (.aload_n 0, 1) := by decide +kernel
theorem dX5_readSum_40 : decode cX5_readSum 40 = .ok (.getfield 22, 3) := by decide +kernel
theorem dX5_readSum_43 : decode cX5_readSum 43 = .ok (.iaload, 1) := by decide +kernel
theorem dX5_readSum_44 : decode cX5_readSum 44 = .ok (.bipush 45, 2) := by decide +kernel
theorem dX5_readSum_46 : decode cX5_readSum 46 = .ok (.if_icmp .ne 45, 3) := by decide +kernel
theorem dX5_readSum_49 : decode cX5_readSum 49 = .ok (.aload_n 0, 1) := by decide +kernel
theorem dX5_readSum_50 : decode cX5_readSum 50 = .ok (.getfield 9, 3) := by decide +kernel
theorem dX5_readSum_53 : decode cX5_readSum 53 = .ok (.aload_n 0, 1) := by decide +kernel
theorem dX5_readSum_54 : decode cX5_readSum 54 = .ok (.getfield 22, 3) := by decide +kernel
theorem dX5_readSum_57 : decode cX5_readSum 57 = .ok (.iaload, 1) := by decide +kernel
theorem dX5_readSum_58 : decode cX5_readSum 58 = .ok (.istore_n 2, 1) := by decide +kernel
theorem dX5_readSum_59 : decode cX5_readSum 59 = .ok (.aload_n 0, 1) := by decide +kernel
theorem dX5_readSum_60 : decode cX5_readSum 60 = .ok (.dup, 1) := by decide +kernel
theorem dX5_readSum_61 : decode cX5_readSum 61 = .ok (.getfield 22, 3) := by decide +kernel
theorem dX5_readSum_64 : decode cX5_readSum 64 = .ok (.iconst 1, 1) := by decide +kernel
theorem dX5_readSum_65 : decode cX5_readSum 65 = .ok (.iadd, 1) := by decide +kernel
theorem dX5_readSum_66 : decode cX5_readSum 66 = .ok (.putfield 22, 3) := by decide +kernel
theorem dX5_readSum_69 : decode cX5_readSum 69 = .ok (.aload_n 0, 1) := by decide +kernel
theorem dX5_readSum_70 : decode cX5_readSum 70 = .ok (.iload_n 1, 1) := by decide +kernel
theorem dX5_readSum_71 : decode cX5_readSum 71 = .ok (.invokevirtual 60, 3) := by decide +kernel
theorem dX5_readSum_74 : decode cX5_readSum 74 = .ok (.ifCond .ne 5, 3) := by decide +kernel
theorem dX5_readSum_77 : decode cX5_readSum 77 = .ok (.iconst 0, 1) := by decide +kernel
theorem dX5_readSum_78 : decode cX5_readSum 78 = .ok (.ireturn, 1) := by decide +kernel
theorem dX5_readSum_79 : decode cX5_readSum 79 = .ok (.aload_n 0, 1) := by decide +kernel
theorem dX5_readSum_80 : decode cX5_readSum 80 = .ok (.getfield 28, 3) := by decide +kernel
theorem dX5_readSum_83 : decode cX5_readSum 83 = .ok (.iload_n 2, 1) := by decide +kernel
theorem dX5_readSum_84 : decode cX5_readSum 84 = .ok (.ineg, 1) := by decide +kernel
theorem dX5_readSum_85 : decode cX5_readSum 85 = .ok (.invokevirtual 46, 3) := by decide +kernel
theorem dX5_readSum_88 : decode cX5_readSum 88 = .ok (.goto (-78), 3) := by decide +kernel
theorem dX5_readSum_91 : decode cX5_readSum 91 = .ok (.iconst 1, 1) := by decide +kernel
theorem dX5_readSum_92 : decode cX5_readSum 92 = .ok (.ireturn, 1) := by decide +kernel
theorem dX5_readProduct_0 : decode cX5_readProduct 0 = .ok (.aload_n 0, 1) := by decide +kernel
theorem dX5_readProduct_1 : decode cX5_readProduct 1 = .ok (.iload_n 1, 1) := by decide +kernel
theorem dX5_readProduct_2 : decode cX5_readProduct 2 = .ok (.invokevirtual 63, 3) := by decide +kernel
theorem dX5_readProduct_5 : decode cX5_readProduct 5 = .ok (.ifCond .ne 5, 3) := by decide +kernel
theorem dX5_readProduct_8 : decode cX5_readProduct 8 = .ok (.iconst 0, 1) := by decide +kernel
theorem dX5_readProduct_9 : decode cX5_readProduct 9 = .ok (.ireturn, 1) := by decide +kernel
theorem dX5_readProduct_10 : decode cX5_readProduct 10 = .ok (.aload_n 0, 1) := by decide +kernel
theorem dX5_readProduct_11 : decode cX5_readProduct 11 = .ok (.getfield 22, 3) := by decide +kernel
theorem dX5_readProduct_14 : decode cX5_readProduct 14 = .ok (.aload_n 0, 1) := by decide +kernel
theorem dX5_readProduct_15 : decode cX5_readProduct 15 = .ok (.getfield 15, 3) := by decide +kernel
theorem dX5_readProduct_18 : decode cX5_readProduct 18 = .ok (.if_icmp .ge 87, 3) := by decide +kernel
theorem dX5_readProduct_21 : decode cX5_readProduct 21 = .ok (.aload_n 0, 1) := by decide +kernel
theorem dX5_readProduct_22 : decode cX5_readProduct 22 = .ok (.getfield 9, 3) := by decide +kernel
theorem dX5_readProduct_25 : decode cX5_readProduct 25 = .ok (.aload_n 0, 1) := by decide +kernel
theorem dX5_readProduct_26 : decode cX5_readProduct 26 = .ok (.getfield 22, 3) := by decide +kernel
theorem dX5_readProduct_29 : decode cX5_readProduct 29 = .ok (.iaload, 1) := by decide +kernel
theorem dX5_readProduct_30 : decode cX5_readProduct 30 = .ok (.bipush 42, 2) := by decide +kernel
theorem dX5_readProduct_32 : decode cX5_readProduct 32 = .ok (.if_icmp .eq 31, 3) := by decide +kernel
theorem dX5_readProduct_35 : decode cX5_readProduct 35 = .ok (.aload_n 0, 1) := by decide +kernel
theorem dX5_readProduct_36 : decode cX5_readProduct 36 = .ok (.getfield 9, 3) := by decide +kernel
theorem dX5_readProduct_39 : decode cX5_readProduct 39 = .ok (.aload_n 0, 1) := by decide +kernel
theorem dX5_readProduct_40 : decode cX5_readProduct 40 = .ok (.getfield 22, 3) := by decide +kernel
theorem dX5_readProduct_43 : decode cX5_readProduct 43 = .ok (.iaload, 1) := by decide +kernel
theorem dX5_readProduct_44 : decode cX5_readProduct 44 = .ok (.bipush 47, 2) := by decide +kernel
theorem dX5_readProduct_46 : decode cX5_readProduct 46 = .ok (.if_icmp .eq 17, 3) := by decide +kernel
theorem dX5_readProduct_49 : decode cX5_readProduct 49 = .ok (.aload_n 0, 1) := by decide +kernel
theorem dX5_readProduct_50 : decode cX5_readProduct 50 = .ok (.getfield 9, 3) := by decide +kernel
theorem dX5_readProduct_53 : decode cX5_readProduct 53 = .ok (.aload_n 0, 1) := by decide +kernel
theorem dX5_readProduct_54 : decode cX5_readProduct 54 = .ok (.getfield 22, 3) := by decide +kernel
theorem dX5_readProduct_57 : decode cX5_readProduct 57 = .ok (.iaload, 1) := by decide +kernel
theorem dX5_readProduct_58 : decode cX5_readProduct 58 = .ok (.bipush 37, 2) := by decide +kernel
theorem dX5_readProduct_60 : decode cX5_readProduct 60 = .ok (.if_icmp .ne 45, 3) := by decide +kernel
theorem dX5_readProduct_63 : decode cX5_readProduct 63 = .ok (.aload_n 0, 1) := by decide +kernel
theorem dX5_readProduct_64 : decode cX5_readProduct 64 = .ok (.getfield 9, 3) := by decide +kernel
theorem dX5_readProduct_67 : decode cX5_readProduct 67 = .ok (.aload_n 0, 1) := by decide +kernel
theorem dX5_readProduct_68 : decode cX5_readProduct 68 = .ok (.getfield 22, 3) := by decide +kernel
theorem dX5_readProduct_71 : decode cX5_readProduct 71 = .ok (.iaload, 1) := by decide +kernel
theorem dX5_readProduct_72 : decode cX5_readProduct 72 = .ok (.istore_n 2, 1) := by decide +kernel
theorem dX5_readProduct_73 : decode cX5_readProduct 73 = .ok (.aload_n 0, 1) := by decide +kernel
theorem dX5_readProduct_74 : decode cX5_readProduct 74 = .ok (.dup, 1) := by decide +kernel
theorem dX5_readProduct_75 : decode cX5_readProduct 75 = .ok (.getfield 22, 3) := by decide +kernel
theorem dX5_readProduct_78 : decode cX5_readProduct 78 = .ok (.iconst 1, 1) := by decide +kernel
theorem dX5_readProduct_79 : decode cX5_readProduct 79 = .ok (.iadd, 1) := by decide +kernel
theorem dX5_readProduct_80 : decode cX5_readProduct 80 = .ok (.putfield 22, 3) := by decide +kernel
theorem dX5_readProduct_83 : decode cX5_readProduct 83 = .ok (.aload_n 0, 1) := by decide +kernel
theorem dX5_readProduct_84 : decode cX5_readProduct 84 = .ok (.iload_n 1, 1) := by decide +kernel
theorem dX5_readProduct_85 : decode cX5_readProduct 85 = .ok (.invokevirtual 63, 3) := by decide +kernel
theorem dX5_readProduct_88 : decode cX5_readProduct 88 = .ok (.ifCond .ne 5, 3) := by decide +kernel
theorem dX5_readProduct_91 : decode cX5_readProduct 91 = .ok (.iconst 0, 1) := by decide +kernel
theorem dX5_readProduct_92 : decode cX5_readProduct 92 = .ok (.ireturn, 1) := by decide +kernel
theorem dX5_readProduct_93 : decode cX5_readProduct 93 = .ok (.aload_n 0, 1) := by decide +kernel
theorem dX5_readProduct_94 : decode cX5_readProduct 94 = .ok (.getfield 28, 3) := by decide +kernel
theorem dX5_readProduct_97 : decode cX5_readProduct 97 = .ok (.iload_n 2, 1) := by decide +kernel
theorem dX5_readProduct_98 : decode cX5_readProduct 98 = .ok (.ineg, 1) := by decide +kernel
theorem dX5_readProduct_99 : decode cX5_readProduct 99 = .ok (.invokevirtual 46, 3) := by decide +kernel
theorem dX5_readProduct_102 : decode cX5_readProduct 102 = .ok (.goto (-92), 3) := by decide +kernel
theorem dX5_readProduct_105 : decode cX5_readProduct 105 = .ok (.iconst 1, 1) := by decide +kernel
theorem dX5_readProduct_106 : decode cX5_readProduct 106 = .ok (.ireturn, 1) := by decide +kernel
theorem dX5_readSingle_0 : decode cX5_readSingle 0 = .ok (.aload_n 0, 1) := by decide +kernel
theorem dX5_readSingle_1 : decode cX5_readSingle 1 = .ok (.invokevirtual 56, 3) := by decide +kernel
theorem dX5_readSingle_4 : decode cX5_readSingle 4 = .ok (.istore_n 2, 1) := by decide +kernel
theorem dX5_readSingle_5 : decode cX5_readSingle 5 = .ok (.iload_n 2, 1) := by decide +kernel
theorem dX5_readSingle_6 : decode cX5_readSingle 6 = .ok (.invokestatic 66, 3) := by decide +kernel
theorem dX5_readSingle_9 : decode cX5_readSingle 9 = .ok (.ifCond .eq 9, 3) := by decide +kernel
theorem dX5_readSingle_12 : decode cX5_readSingle 12 = .ok (.aload_n 0, 1) := by decide +kernel
theorem dX5_readSingle_13 : decode cX5_readSingle 13 = .ok (.invokevirtual 69, 3) := by decide +kernel
theorem dX5_readSingle_16 : decode cX5_readSingle 16 = .ok (.iconst 1, 1) := by decide +kernel
theorem dX5_readSingle_17 : decode cX5_readSingle 17 = .ok (.ireturn, 1) := by decide +kernel
theorem dX5_readSingle_18 : decode cX5_readSingle 18 = .ok (.iload_n 2, 1) := by decide +kernel
theorem dX5_readSingle_19 : decode cX5_readSingle 19 = .ok (.bipush 33, 2) := by decide +kernel
theorem dX5_readSingle_21 : decode cX5_readSingle 21 = .ok (.if_icmp .eq 9, 3) := by decide +kernel
theorem dX5_readSingle_24 : decode cX5_readSingle 24 = .ok (.iload_n 2, 1) := by decide +kernel
theorem dX5_readSingle_25 : decode cX5_readSingle 25 = .ok (.bipush 40, 2) := by decide +kernel
theorem dX5_readSingle_27 : decode cX5_readSingle 27 = .ok (.if_icmp .ne 25, 3) := by decide +kernel
theorem dX5_readSingle_30 : decode cX5_readSingle 30 = .ok (.iload_n 1, 1) := by decide +kernel
theorem dX5_readSingle_31 : decode cX5_readSingle 31 = .ok (.iconst 5, 1) := by decide +kernel
theorem dX5_readSingle_32 : decode cX5_readSingle 32 = .ok (.if_icmp .ge 18, 3) := by decide +kernel
theorem dX5_readSingle_35 : decode cX5_readSingle 35 = .ok (.aload_n 0, 1) := by decide +kernel
theorem dX5_readSingle_36 : decode cX5_readSingle 36 = .ok (.iload_n 2, 1) := by decide +kernel
theorem dX5_readSingle_37 : decode cX5_readSingle 37 = .ok (.iload_n 1, 1) := by decide +kernel
theorem dX5_readSingle_38 : decode cX5_readSingle 38 = .ok (.iconst 1, 1) := by decide +kernel
theorem dX5_readSingle_39 : decode cX5_readSingle 39 = .ok (.iadd, 1) := by decide +kernel
theorem dX5_readSingle_40 : decode cX5_readSingle 40 = .ok (.invokevirtual 72, 3) := by decide +kernel
theorem dX5_readSingle_43 : decode cX5_readSingle 43 = .ok (.ifCond .eq 7, 3) := by decide +kernel
theorem dX5_readSingle_46 : decode cX5_readSingle 46 = .ok (.iconst 1, 1) := by decide +kernel
theorem dX5_readSingle_47 : decode cX5_readSingle 47 = .ok (.goto 4, 3) := by decide +kernel
theorem dX5_readSingle_50 : decode cX5_readSingle 50 = .ok (.iconst 0, 1) := by decide +kernel
theorem dX5_readSingle_51 : decode cX5_readSingle 51 = .ok (.ireturn, 1) := by decide +kernel
theorem dX5_readSingle_52 : decode cX5_readSingle 52 = .ok (.aload_n 0, 1) := by decide +kernel
theorem dX5_readSingle_53 : decode cX5_readSingle 53 = .ok (.iload_n 2, 1) := by decide +kernel
theorem dX5_readSingle_54 : decode cX5_readSingle 54 = .ok (.invokevirtual 76, 3) := by decide +kernel
theorem dX5_readSingle_57 : decode cX5_readSingle 57 = .ok (.ireturn, 1) := by decide +kernel
theorem dX5_readOpened_0 : decode cX5_readOpened 0 = .ok (.aload_n 0, 1) := by decide +kernel
theorem dX5_readOpened_1 : decode cX5_readOpened 1 = .ok (.dup, 1) := by decide +kernel
theorem dX5_readOpened_2 : decode cX5_readOpened 2 = .ok (.getfield 22, 3) := by decide +kernel
theorem dX5_readOpened_5 : decode cX5_readOpened 5 = .ok (.iconst 1, 1) := by decide +kernel
theorem dX5_readOpened_6 : decode cX5_readOpened 6 = .ok (.iadd, 1) := by decide +kernel
theorem dX5_readOpened_7 : decode cX5_readOpened 7 = .ok (.putfield 22, 3) := by decide +kernel
theorem dX5_readOpened_10 : decode cX5_readOpened 10 = .ok (.iload_n 1, 1) := by decide +kernel
theorem dX5_readOpened_11 : decode cX5_readOpened 11 = .ok (.bipush 33, 2) := by decide +kernel
theorem dX5_readOpened_13 : decode cX5_readOpened 13 = .ok (.if_icmp .ne 24, 3) := by decide +kernel
theorem dX5_readOpened_16 : decode cX5_readOpened 16 = .ok (.aload_n 0, 1) := by decide +kernel
theorem dX5_readOpened_17 : decode cX5_readOpened 17 = .ok (.iload_n 2, 1) := by decide +kernel
theorem dX5_readOpened_18 : decode cX5_readOpened 18 = .ok (.invokevirtual 63, 3) := by decide +kernel
theorem dX5_readOpened_21 : decode cX5_readOpened 21 = .ok (.ifCond .ne 5, 3) := by decide +kernel
theorem dX5_readOpened_24 : decode cX5_readOpened 24 = .ok (.iconst 0, 1) := by decide +kernel
theorem dX5_readOpened_25 : decode cX5_readOpened 25 = .ok (.ireturn, 1) := by decide +kernel
theorem dX5_readOpened_26 : decode cX5_readOpened 26 = .ok (.aload_n 0, 1) := by decide +kernel
theorem dX5_readOpened_27 : decode cX5_readOpened 27 = .ok (.getfield 28, 3) := by decide +kernel
theorem dX5_readOpened_30 : decode cX5_readOpened 30 = .ok (.bipush (-33), 2) := by decide +kernel
theorem dX5_readOpened_32 : decode cX5_readOpened 32 = .ok (.invokevirtual 46, 3) := by decide +kernel
theorem dX5_readOpened_35 : decode cX5_readOpened 35 = .ok (.iconst 1, 1) := by decide +kernel
theorem dX5_readOpened_36 : decode cX5_readOpened 36 = .ok (.ireturn, 1) := by decide +kernel
theorem dX5_readOpened_37 : decode cX5_readOpened 37 = .ok (.aload_n 0, 1) := by decide +kernel
theorem dX5_readOpened_38 : decode cX5_readOpened 38 = .ok (.iload_n 2, 1) := by decide +kernel
theorem dX5_readOpened_39 : decode cX5_readOpened 39 = .ok (.invokevirtual 39, 3) := by decide +kernel
theorem dX5_readOpened_42 : decode cX5_readOpened 42 = .ok (.ifCond .eq 12, 3) := by decide +kernel
theorem dX5_readOpened_45 : decode cX5_readOpened 45 = .ok (.aload_n 0, 1) := by decide +kernel
theorem dX5_readOpened_46 : decode cX5_readOpened 46 = .ok (.invokevirtual 56, 3) := by decide +kernel
theorem dX5_readOpened_49 : decode cX5_readOpened 49 = .ok (.bipush 41, 2) := by decide +kernel
theorem dX5_readOpened_51 : decode cX5_readOpened 51 = .ok (.if_icmp .eq 5, 3) := by decide +kernel
theorem dX5_readOpened_54 : decode cX5_readOpened 54 = .ok (.iconst 0, 1) := by decide +kernel
theorem dX5_readOpened_55 : decode cX5_readOpened 55 = .ok (.ireturn, 1) := by decide +kernel
theorem dX5_readOpened_56 : decode cX5_readOpened 56 = .ok (.aload_n 0, 1) := by decide +kernel
theorem dX5_readOpened_57 : decode cX5_readOpened 57 = .ok (.dup, 1) := by decide +kernel
theorem dX5_readOpened_58 : decode cX5_readOpened 58 = .ok (.getfield 22, 3) := by decide +kernel
theorem dX5_readOpened_61 : decode cX5_readOpened 61 = .ok (.iconst 1, 1) := by decide +kernel
theorem dX5_readOpened_62 : decode cX5_readOpened 62 = .ok (.iadd, 1) := by decide +kernel
theorem dX5_readOpened_63 : decode cX5_readOpened 63 = .ok (.putfield 22, 3) := by decide +kernel
theorem dX5_readOpened_66 : decode cX5_readOpened 66 = .ok (.iconst 1, 1) := by decide +kernel
theorem dX5_readOpened_67 : decode cX5_readOpened 67 = .ok (.ireturn, 1) := by decide +kernel
theorem dX5_readNumber_0 : decode cX5_readNumber 0 = .ok (.iconst 0, 1) := by decide +kernel
theorem dX5_readNumber_1 : decode cX5_readNumber 1 = .ok (.istore_n 1, 1) := by decide +kernel
theorem dX5_readNumber_2 : decode cX5_readNumber 2 = .ok (.iconst 0, 1) := by decide +kernel
theorem dX5_readNumber_3 : decode cX5_readNumber 3 = .ok (.istore_n 2, 1) := by decide +kernel
theorem dX5_readNumber_4 : decode cX5_readNumber 4 = .ok (.iload_n 2, 1) := by decide +kernel
theorem dX5_readNumber_5 : decode cX5_readNumber 5 = .ok (.iconst 4, 1) := by decide +kernel
theorem dX5_readNumber_6 : decode cX5_readNumber 6 = .ok (.if_icmp .ge 42, 3) := by decide +kernel
theorem dX5_readNumber_9 : decode cX5_readNumber 9 = .ok (.aload_n 0, 1) := by decide +kernel
theorem dX5_readNumber_10 : decode cX5_readNumber 10 = .ok (.invokevirtual 56, 3) := by decide +kernel
theorem dX5_readNumber_13 : decode cX5_readNumber 13 = .ok (.invokestatic 66, 3) := by decide +kernel
theorem dX5_readNumber_16 : decode cX5_readNumber 16 = .ok (.ifCond .eq 32, 3) := by decide +kernel
theorem dX5_readNumber_19 : decode cX5_readNumber 19 = .ok (.bipush 10, 2) := by decide +kernel
theorem dX5_readNumber_21 : decode cX5_readNumber 21 = .ok (.iload_n 1, 1) := by decide +kernel
theorem dX5_readNumber_22 : decode cX5_readNumber 22 = .ok (.imul, 1) := by decide +kernel
theorem dX5_readNumber_23 : decode cX5_readNumber 23 = .ok (.aload_n 0, 1) := by decide +kernel
theorem dX5_readNumber_24 : decode cX5_readNumber 24 = .ok (.invokevirtual 56, 3) := by decide +kernel
theorem dX5_readNumber_27 : decode cX5_readNumber 27 = .ok (.iadd, 1) := by decide +kernel
theorem dX5_readNumber_28 : decode cX5_readNumber 28 = .ok (.bipush 48, 2) := by decide +kernel
theorem dX5_readNumber_30 : decode cX5_readNumber 30 = .ok (.isub, 1) := by decide +kernel
theorem dX5_readNumber_31 : decode cX5_readNumber 31 = .ok (.istore_n 1, 1) := by decide +kernel
theorem dX5_readNumber_32 : decode cX5_readNumber 32 = .ok (.aload_n 0, 1) := by decide +kernel
theorem dX5_readNumber_33 : decode cX5_readNumber 33 = .ok (.dup, 1) := by decide +kernel
theorem dX5_readNumber_34 : decode cX5_readNumber 34 = .ok (.getfield 22, 3) := by decide +kernel
theorem dX5_readNumber_37 : decode cX5_readNumber 37 = .ok (.iconst 1, 1) := by decide +kernel
theorem dX5_readNumber_38 : decode cX5_readNumber 38 = .ok (.iadd, 1) := by decide +kernel
theorem dX5_readNumber_39 : decode cX5_readNumber 39 = .ok (.putfield 22, 3) := by decide +kernel
theorem dX5_readNumber_42 : decode cX5_readNumber 42 = .ok (.iinc 2 1, 3) := by decide +kernel
theorem dX5_readNumber_45 : decode cX5_readNumber 45 = .ok (.goto (-41), 3) := by decide +kernel
theorem dX5_readNumber_48 : decode cX5_readNumber 48 = .ok (.aload_n 0, 1) := by decide +kernel
theorem dX5_readNumber_49 : decode cX5_readNumber 49 = .ok (.getfield 28, 3) := by decide +kernel
theorem dX5_readNumber_52 : decode cX5_readNumber 52 = .ok (.iload_n 1, 1) := by decide +kernel
theorem dX5_readNumber_53 : decode cX5_readNumber 53 = .ok (.invokevirtual 46, 3) := by decide +kernel
theorem dX5_readNumber_56 : decode cX5_readNumber 56 = .ok (.return_, 1) := by decide +kernel
theorem dX5_readName_0 : decode cX5_readName 0 = .ok (.iconst 0, 1) := by decide +kernel
theorem dX5_readName_1 : decode cX5_readName 1 = .ok (.istore_n 2, 1) := by decide +kernel
theorem dX5_readName_2 : decode cX5_readName 2 = .ok (.iload_n 2, 1) := by decide +kernel
theorem dX5_readName_3 : decode cX5_readName 3 = .ok (.iconst 3, 1) := by decide +kernel
theorem dX5_readName_4 : decode cX5_readName 4 = .ok (.if_icmp .ge 47, 3) := by decide +kernel
theorem dX5_readName_7 : decode cX5_readName 7 = .ok (.iload_n 1, 1) := by decide +kernel
theorem dX5_readName_8 : decode cX5_readName 8 = .ok (.getstatic 79, 3) := by decide +kernel
theorem dX5_readName_11 : decode cX5_readName 11 = .ok (.iconst 3, 1) := by decide +kernel
theorem dX5_readName_12 : decode cX5_readName 12 = .ok (.aload_n 0, 1) := by decide +kernel
theorem dX5_readName_13 : decode cX5_readName 13 = .ok (.getfield 19, 3) := by decide +kernel
theorem dX5_readName_16 : decode cX5_readName 16 = .ok (.imul, 1) := by decide +kernel
theorem dX5_readName_17 : decode cX5_readName 17 = .ok (.iload_n 2, 1) := by decide +kernel
theorem dX5_readName_18 : decode cX5_readName 18 = .ok (.iadd, 1) := by decide +kernel
theorem dX5_readName_19 : decode cX5_readName 19 = .ok (.caload, 1) := by decide +kernel
theorem dX5_readName_20 : decode cX5_readName 20 = .ok (.if_icmp .ne 25, 3) := by decide +kernel
theorem dX5_readName_23 : decode cX5_readName 23 = .ok (.aload_n 0, 1) := by decide +kernel
theorem dX5_readName_24 : decode cX5_readName 24 = .ok (.dup, 1) := by decide +kernel
theorem dX5_readName_25 : decode cX5_readName 25 = .ok (.getfield 22, 3) := by decide +kernel
theorem dX5_readName_28 : decode cX5_readName 28 = .ok (.iconst 1, 1) := by decide +kernel
theorem dX5_readName_29 : decode cX5_readName 29 = .ok (.iadd, 1) := by decide +kernel
theorem dX5_readName_30 : decode cX5_readName 30 = .ok (.putfield 22, 3) := by decide +kernel
theorem dX5_readName_33 : decode cX5_readName 33 = .ok (.aload_n 0, 1) := by decide +kernel
theorem dX5_readName_34 : decode cX5_readName 34 = .ok (.getfield 28, 3) := by decide +kernel
theorem dX5_readName_37 : decode cX5_readName 37 = .ok (.iconst (-1), 1) := by decide +kernel
theorem dX5_readName_38 : decode cX5_readName 38 = .ok (.iload_n 2, 1) := by decide +kernel
theorem dX5_readName_39 : decode cX5_readName 39 = .ok (.isub, 1) := by decide +kernel
theorem dX5_readName_40 : decode cX5_readName 40 = .ok (.invokevirtual 46, 3) := by decide +kernel
theorem dX5_readName_43 : decode cX5_readName 43 = .ok (.iconst 1, 1) := by decide +kernel
theorem dX5_readName_44 : decode cX5_readName 44 = .ok (.ireturn, 1) := by decide +kernel
theorem dX5_readName_45 : decode cX5_readName 45 = .ok (.iinc 2 1, 3) := by decide +kernel
theorem dX5_readName_48 : decode cX5_readName 48 = .ok (.goto (-46), 3) := by decide +kernel
theorem dX5_readName_51 : decode cX5_readName 51 = .ok (.iconst 0, 1) := by decide +kernel
theorem dX5_readName_52 : decode cX5_readName 52 = .ok (.ireturn, 1) := by decide +kernel
theorem dX5_upcoming_0 : decode cX5_upcoming 0 = .ok (.aload_n 0, 1) := by decide +kernel
theorem dX5_upcoming_1 : decode cX5_upcoming 1 = .ok (.getfield 22, 3) := by decide +kernel
theorem dX5_upcoming_4 : decode cX5_upcoming 4 = .ok (.aload_n 0, 1) := by decide +kernel
theorem dX5_upcoming_5 : decode cX5_upcoming 5 = .ok (.getfield 15, 3) := by decide +kernel
theorem dX5_upcoming_8 : decode cX5_upcoming 8 = .ok (.if_icmp .ge 15, 3) := by decide +kernel
theorem dX5_upcoming_11 : decode cX5_upcoming 11 = .ok (.aload_n 0, 1) := by decide +kernel
theorem dX5_upcoming_12 : decode cX5_upcoming 12 = .ok (.getfield 9, 3) := by decide +kernel
theorem dX5_upcoming_15 : decode cX5_upcoming 15 = .ok (.aload_n 0, 1) := by decide +kernel
theorem dX5_upcoming_16 : decode cX5_upcoming 16 = .ok (.getfield 22, 3) := by decide +kernel
theorem dX5_upcoming_19 : decode cX5_upcoming 19 = .ok (.iaload, 1) := by decide +kernel
theorem dX5_upcoming_20 : decode cX5_upcoming 20 = .ok (.goto 4, 3) := by decide +kernel
theorem dX5_upcoming_23 : decode cX5_upcoming 23 = .ok (.iconst (-1), 1) := by decide +kernel
theorem dX5_upcoming_24 : decode cX5_upcoming 24 = .ok (.ireturn, 1) := by decide +kernel
theorem dX5_isDigit_0 : decode cX5_isDigit 0 = .ok (.iload_n 0, 1) := by decide +kernel
theorem dX5_isDigit_1 : decode cX5_isDigit 1 = .ok (.bipush 48, 2) := by decide +kernel
theorem dX5_isDigit_3 : decode cX5_isDigit 3 = .ok (.if_icmp .lt 13, 3) := by decide +kernel
theorem dX5_isDigit_6 : decode cX5_isDigit 6 = .ok (.iload_n 0, 1) := by decide +kernel
theorem dX5_isDigit_7 : decode cX5_isDigit 7 = .ok (.bipush 57, 2) := by decide +kernel
theorem dX5_isDigit_9 : decode cX5_isDigit 9 = .ok (.if_icmp .gt 7, 3) := by decide +kernel
theorem dX5_isDigit_12 : decode cX5_isDigit 12 = .ok (.iconst 1, 1) := by decide +kernel
theorem dX5_isDigit_13 : decode cX5_isDigit 13 = .ok (.goto 4, 3) := by decide +kernel
theorem dX5_isDigit_16 : decode cX5_isDigit 16 = .ok (.iconst 0, 1) := by decide +kernel
theorem dX5_isDigit_17 : decode cX5_isDigit 17 = .ok (.ireturn, 1) := by decide +kernel
theorem dX6_init_0 : decode cX6_init 0 = .ok (.aload_n 0, 1) := by decide +kernel
theorem dX6_init_1 : decode cX6_init 1 = .ok (.invokespecial 3, 3) := by decide +kernel
theorem dX6_init_4 : decode cX6_init 4 = .ok (.aload_n 0, 1) := by decide +kernel
theorem dX6_init_5 : decode cX6_init 5 = .ok (.iconst 0, 1) := by decide +kernel
theorem dX6_init_6 : decode cX6_init 6 = .ok (.putfield 9, 3) := by decide +kernel
theorem dX6_init_9 : decode cX6_init 9 = .ok (.aload_n 0, 1) := by decide +kernel
theorem dX6_init_10 : decode cX6_init 10 = .ok (.iconst 0, 1) := by decide +kernel
theorem dX6_init_11 : decode cX6_init 11 = .ok (.putfield 15, 3) := by decide +kernel
theorem dX6_init_14 : decode cX6_init 14 = .ok (.aload_n 0, 1) := by decide +kernel
theorem dX6_init_15 : decode cX6_init 15 = .ok (.bipush 40, 2) := by decide +kernel
theorem dX6_init_17 : decode cX6_init 17 = .ok (.newarray .int, 2) := by decide +kernel
theorem dX6_init_19 : decode cX6_init 19 = .ok (.putfield 18, 3) := by decide +kernel
theorem dX6_init_22 : decode cX6_init 22 = .ok (.return_, 1) := by decide +kernel
theorem dX6_renew_0 : decode cX6_renew 0 = .ok (.aload_n 0, 1) := by decide +kernel
theorem dX6_renew_1 : decode cX6_renew 1 = .ok (.iload_n 1, 1) := by decide +kernel
theorem dX6_renew_2 : decode cX6_renew 2 = .ok (.putfield 9, 3) := by decide +kernel
theorem dX6_renew_5 : decode cX6_renew 5 = .ok (.aload_n 0, 1) := by decide +kernel
theorem dX6_renew_6 : decode cX6_renew 6 = .ok (.iload_n 2, 1) := by decide +kernel
theorem dX6_renew_7 : decode cX6_renew 7 = .ok (.putfield 15, 3) := by decide +kernel
theorem dX6_renew_10 : decode cX6_renew 10 = .ok (.iconst 0, 1) := by decide +kernel
theorem dX6_renew_11 : decode cX6_renew 11 = .ok (.istore_n 3, 1) := by decide +kernel
theorem dX6_renew_12 : decode cX6_renew 12 = .ok (.iload_n 3, 1) := by decide +kernel
theorem dX6_renew_13 : decode cX6_renew 13 = .ok (.bipush 40, 2) := by decide +kernel
theorem dX6_renew_15 : decode cX6_renew 15 = .ok (.if_icmp .ge 16, 3) := by decide +kernel
theorem dX6_renew_18 : decode cX6_renew 18 = .ok (.aload_n 0, 1) := by decide +kernel
theorem dX6_renew_19 : decode cX6_renew 19 = .ok (.getfield 18, 3) := by decide +kernel
theorem dX6_renew_22 : decode cX6_renew 22 = .ok (.iload_n 3, 1) := by decide +kernel
theorem dX6_renew_23 : decode cX6_renew 23 = .ok (.iconst 0, 1) := by decide +kernel
theorem dX6_renew_24 : decode cX6_renew 24 = .ok (.iastore, 1) := by decide +kernel
theorem dX6_renew_25 : decode cX6_renew 25 = .ok (.iinc 3 1, 3) := by decide +kernel
theorem dX6_renew_28 : decode cX6_renew 28 = .ok (.goto (-16), 3) := by decide +kernel
theorem dX6_renew_31 : decode cX6_renew 31 = .ok (.return_, 1) := by decide +kernel
theorem dX6_isMissing_0 : decode cX6_isMissing 0 = .ok (.aload_n 0, 1) := by decide +kernel
theorem dX6_isMissing_1 : decode cX6_isMissing 1 = .ok (.getfield 9, 3) := by decide +kernel
theorem dX6_isMissing_4 : decode cX6_isMissing 4 = .ok (.ifCond .ne 7, 3) := by decide +kernel
theorem dX6_isMissing_7 : decode cX6_isMissing 7 = .ok (.iconst 1, 1) := by decide +kernel
theorem dX6_isMissing_8 : decode cX6_isMissing 8 = .ok (.goto 4, 3) := by decide +kernel
theorem dX6_isMissing_11 : decode cX6_isMissing 11 = .ok (.iconst 0, 1) := by decide +kernel
theorem dX6_isMissing_12 : decode cX6_isMissing 12 = .ok (.ireturn, 1) := by decide +kernel
theorem dX6_lowest_0 : decode cX6_lowest 0 = .ok (.aload_n 0, 1) := by decide +kernel
theorem dX6_lowest_1 : decode cX6_lowest 1 = .ok (.getfield 9, 3) := by decide +kernel
theorem dX6_lowest_4 : decode cX6_lowest 4 = .ok (.bipush 8, 2) := by decide +kernel
theorem dX6_lowest_6 : decode cX6_lowest 6 = .ok (.if_icmp .ne 6, 3) := by decide +kernel
theorem dX6_lowest_9 : decode cX6_lowest 9 = .ok (.iload_n 1, 1) := by decide +kernel
theorem dX6_lowest_10 : decode cX6_lowest 10 = .ok (.i2b, 1) := by decide +kernel
theorem dX6_lowest_11 : decode cX6_lowest 11 = .ok (.ireturn, 1) := by decide +kernel
theorem dX6_lowest_12 : decode cX6_lowest 12 = .ok (.aload_n 0, 1) := by decide +kernel
theorem dX6_lowest_13 : decode cX6_lowest 13 = .ok (.getfield 9, 3) := by decide +kernel
theorem dX6_lowest_16 : decode cX6_lowest 16 = .ok (.bipush 16, 2) := by decide +kernel
theorem dX6_lowest_18 : decode cX6_lowest 18 = .ok (.if_icmp .ne 8, 3) := by decide +kernel
theorem dX6_lowest_21 : decode cX6_lowest 21 = .ok (.iload_n 1, 1) := by decide +kernel
theorem dX6_lowest_22 : decode cX6_lowest 22 = .ok (.i2s, 1) := by decide +kernel
theorem dX6_lowest_23 : decode cX6_lowest 23 = .ok (.goto 4, 3) := by decide +kernel
theorem dX6_lowest_26 : decode cX6_lowest 26 = .ok (.iload_n 1, 1) := by decide +kernel
theorem dX6_lowest_27 : decode cX6_lowest 27 = .ok (.ireturn, 1) := by decide +kernel
theorem dX6_holds_0 : decode cX6_holds 0 = .ok (.iload_n 1, 1) := by decide +kernel
theorem dX6_holds_1 : decode cX6_holds 1 = .ok (.ifCond .lt 29, 3) := by decide +kernel
theorem dX6_holds_4 : decode cX6_holds 4 = .ok (.iload_n 2, 1) := by decide +kernel
theorem dX6_holds_5 : decode cX6_holds 5 = .ok (.ifCond .lt 25, 3) := by decide +kernel
theorem dX6_holds_8 : decode cX6_holds 8 = .ok (.iload_n 1, 1) := by decide +kernel
theorem dX6_holds_9 : decode cX6_holds 9 = .ok (.aload_n 0, 1) := by decide +kernel
theorem dX6_holds_10 : decode cX6_holds 10 = .ok (.getfield 15, 3) := by decide +kernel
theorem dX6_holds_13 : decode cX6_holds 13 = .ok (.if_icmp .gt 17, 3) := by decide +kernel
theorem dX6_holds_16 : decode cX6_holds 16 = .ok (.iload_n 2, 1) := by decide +kernel
theorem dX6_holds_17 : decode cX6_holds 17 = .ok (.aload_n 0, 1) := by decide +kernel
theorem dX6_holds_18 : decode cX6_holds 18 = .ok (.getfield 15, 3) := by decide +kernel
theorem dX6_holds_21 : decode cX6_holds 21 = .ok (.iload_n 1, 1) := by decide +kernel
theorem dX6_holds_22 : decode cX6_holds 22 = .ok (.isub, 1) := by decide +kernel
theorem dX6_holds_23 : decode cX6_holds 23 = .ok (.if_icmp .gt 7, 3) := by decide +kernel
theorem dX6_holds_26 : decode cX6_holds 26 = .ok (.iconst 1, 1) := by decide +kernel
theorem dX6_holds_27 : decode cX6_holds 27 = .ok (.goto 4, 3) := by decide +kernel
theorem dX6_holds_30 : decode cX6_holds 30 = .ok (.iconst 0, 1) := by decide +kernel
theorem dX6_holds_31 : decode cX6_holds 31 = .ok (.ireturn, 1) := by decide +kernel
theorem dX7_init_0 : decode cX7_init 0 = .ok (.aload_n 0, 1) := by decide +kernel
theorem dX7_init_1 : decode cX7_init 1 = .ok (.invokespecial 3, 3) := by decide +kernel
theorem dX7_init_4 : decode cX7_init 4 = .ok (.aload_n 0, 1) := by decide +kernel
theorem dX7_init_5 : decode cX7_init 5 = .ok (.iconst 0, 1) := by decide +kernel
theorem dX7_init_6 : decode cX7_init 6 = .ok (.putfield 9, 3) := by decide +kernel
theorem dX7_init_9 : decode cX7_init 9 = .ok (.aload_n 0, 1) := by decide +kernel
theorem dX7_init_10 : decode cX7_init 10 = .ok (.bipush 40, 2) := by decide +kernel
theorem dX7_init_12 : decode cX7_init 12 = .ok (.newarray .int, 2) := by decide +kernel
theorem dX7_init_14 : decode cX7_init 14 = .ok (.putfield 15, 3) := by decide +kernel
theorem dX7_init_17 : decode cX7_init 17 = .ok (.aload_n 0, 1) := by decide +kernel
theorem dX7_init_18 : decode cX7_init 18 = .ok (.iconst 0, 1) := by decide +kernel
theorem dX7_init_19 : decode cX7_init 19 = .ok (.putfield 19, 3) := by decide +kernel
theorem dX7_init_22 : decode cX7_init 22 = .ok (.aload_n 0, 1) := by decide +kernel
theorem dX7_init_23 : decode cX7_init 23 = .ok (.iconst 0, 1) := by decide +kernel
theorem dX7_init_24 : decode cX7_init 24 = .ok (.putfield 22, 3) := by decide +kernel
theorem dX7_init_27 : decode cX7_init 27 = .ok (.aload_n 0, 1) := by decide +kernel
theorem dX7_init_28 : decode cX7_init 28 = .ok (.iconst 0, 1) := by decide +kernel
theorem dX7_init_29 : decode cX7_init 29 = .ok (.putfield 25, 3) := by decide +kernel
theorem dX7_init_32 : decode cX7_init 32 = .ok (.return_, 1) := by decide +kernel
theorem dX7_speak_0 : decode cX7_speak 0 = .ok (.aload_n 0, 1) := by decide +kernel
theorem dX7_speak_1 : decode cX7_speak 1 = .ok (.iload_n 1, 1) := by decide +kernel
theorem dX7_speak_2 : decode cX7_speak 2 = .ok (.putfield 19, 3) := by decide +kernel
theorem dX7_speak_5 : decode cX7_speak 5 = .ok (.aload_n 0, 1) := by decide +kernel
theorem dX7_speak_6 : decode cX7_speak 6 = .ok (.iload_n 2, 1) := by decide +kernel
theorem dX7_speak_7 : decode cX7_speak 7 = .ok (.putfield 22, 3) := by decide +kernel
theorem dX7_speak_10 : decode cX7_speak 10 = .ok (.aload_n 0, 1) := by decide +kernel
theorem dX7_speak_11 : decode cX7_speak 11 = .ok (.iload_n 3, 1) := by decide +kernel
theorem dX7_speak_12 : decode cX7_speak 12 = .ok (.putfield 25, 3) := by decide +kernel
theorem dX7_speak_15 : decode cX7_speak 15 = .ok (.aload_n 0, 1) := by decide +kernel
theorem dX7_speak_16 : decode cX7_speak 16 = .ok (.iconst 0, 1) := by decide +kernel
theorem dX7_speak_17 : decode cX7_speak 17 = .ok (.putfield 9, 3) := by decide +kernel
theorem dX7_speak_20 : decode cX7_speak 20 = .ok (.aload_n 0, 1) := by decide +kernel
theorem dX7_speak_21 : decode cX7_speak 21 = .ok (.iload 4, 2) := by decide +kernel
theorem dX7_speak_23 : decode cX7_speak 23 = .ok (.iload 5, 2) := by decide +kernel
theorem dX7_speak_25 : decode cX7_speak 25 = .ok (.iconst 0, 1) := by decide +kernel
theorem dX7_speak_26 : decode cX7_speak 26 = .ok (.invokevirtual 28, 3) := by decide +kernel
theorem dX7_speak_29 : decode cX7_speak 29 = .ok (.ireturn, 1) := by decide +kernel
theorem dX7_own_0 : decode cX7_own 0 = .ok (.aload_n 0, 1) := by decide +kernel
theorem dX7_own_1 : decode cX7_own 1 = .ok (.aload_n 0, 1) := by decide +kernel
theorem dX7_own_2 : decode cX7_own 2 = .ok (.getfield 19, 3) := by decide +kernel
theorem dX7_own_5 : decode cX7_own 5 = .ok (.iload_n 1, 1) := by decide +kernel
theorem dX7_own_6 : decode cX7_own 6 = .ok (.iload_n 2, 1) := by decide +kernel
theorem dX7_own_7 : decode cX7_own 7 = .ok (.iload_n 3, 1) := by decide +kernel
theorem dX7_own_8 : decode cX7_own 8 = .ok (.iconst 1, 1) := by decide +kernel
theorem dX7_own_9 : decode cX7_own 9 = .ok (.iadd, 1) := by decide +kernel
theorem dX7_own_10 : decode cX7_own 10 = .ok (.invokevirtual 32, 3) := by decide +kernel
theorem dX7_own_13 : decode cX7_own 13 = .ok (.ireturn, 1) := by decide +kernel
theorem dX7_above_0 : decode cX7_above 0 = .ok (.aload_n 0, 1) := by decide +kernel
theorem dX7_above_1 : decode cX7_above 1 = .ok (.getstatic 36, 3) := by decide +kernel
theorem dX7_above_4 : decode cX7_above 4 = .ok (.iload_n 1, 1) := by decide +kernel
theorem dX7_above_5 : decode cX7_above 5 = .ok (.bipush 10, 2) := by decide +kernel
theorem dX7_above_7 : decode cX7_above 7 = .ok (.idiv, 1) := by decide +kernel
theorem dX7_above_8 : decode cX7_above 8 = .ok (.iconst 1, 1) := by decide +kernel
theorem dX7_above_9 : decode cX7_above 9 = .ok (.isub, 1) := by decide +kernel
theorem dX7_above_10 : decode cX7_above 10 = .ok (.iaload, 1) := by decide +kernel
theorem dX7_above_11 : decode cX7_above 11 = .ok (.iload_n 2, 1) := by decide +kernel
theorem dX7_above_12 : decode cX7_above 12 = .ok (.iload_n 3, 1) := by decide +kernel
theorem dX7_above_13 : decode cX7_above 13 = .ok (.iload 4, 2) := by decide +kernel
theorem dX7_above_15 : decode cX7_above 15 = .ok (.iconst 1, 1) := by decide +kernel
theorem dX7_above_16 : decode cX7_above 16 = .ok (.iadd, 1) := by decide +kernel
theorem dX7_above_17 : decode cX7_above 17 = .ok (.invokevirtual 32, 3) := by decide +kernel
theorem dX7_above_20 : decode cX7_above 20 = .ok (.ireturn, 1) := by decide +kernel
theorem dX7_sayFrom_0 : decode cX7_sayFrom 0 = .ok (.iload 4, 2) := by decide +kernel
theorem dX7_sayFrom_2 : decode cX7_sayFrom 2 = .ok (.bipush 20, 2) := by decide +kernel
theorem dX7_sayFrom_4 : decode cX7_sayFrom 4 = .ok (.if_icmp .le 5, 3) := by decide +kernel
theorem dX7_sayFrom_7 : decode cX7_sayFrom 7 = .ok (.iconst 0, 1) := by decide +kernel
theorem dX7_sayFrom_8 : decode cX7_sayFrom 8 = .ok (.ireturn, 1) := by decide +kernel
theorem dX7_sayFrom_9 : decode cX7_sayFrom 9 = .ok (.iload_n 1, 1) := by decide +kernel
theorem dX7_sayFrom_10 : decode cX7_sayFrom 10 = .ok (.istore 5, 2) := by decide +kernel
theorem dX7_sayFrom_12 : decode cX7_sayFrom 12 = .ok (.iconst 0, 1) := by decide +kernel
theorem dX7_sayFrom_13 : decode cX7_sayFrom 13 = .ok (.istore 6, 2) := by decide +kernel
theorem dX7_sayFrom_15 : decode cX7_sayFrom 15 = .ok (.iload 6, 2) := by decide +kernel
theorem dX7_sayFrom_17 : decode cX7_sayFrom 17 = .ok (.bipush 6, 2) := by decide +kernel
theorem dX7_sayFrom_19 : decode cX7_sayFrom 19 = .ok (.if_icmp .ge 30, 3) := by decide +kernel
theorem dX7_sayFrom_22 : decode cX7_sayFrom 22 = .ok (.getstatic 39, 3) := by decide +kernel
theorem dX7_sayFrom_25 : decode cX7_sayFrom 25 = .ok (.iconst 4, 1) := by decide +kernel
theorem dX7_sayFrom_26 : decode cX7_sayFrom 26 = .ok (.iload 5, 2) := by decide +kernel
theorem dX7_sayFrom_28 : decode cX7_sayFrom 28 = .ok (.imul, 1) := by decide +kernel
theorem dX7_sayFrom_29 : decode cX7_sayFrom 29 = .ok (.iload_n 2, 1) := by decide +kernel
theorem dX7_sayFrom_30 : decode cX7_sayFrom 30 = .ok (.iadd, 1) := by decide +kernel
theorem dX7_sayFrom_31 : decode cX7_sayFrom 31 = .ok (.iaload, 1) := by decide +kernel
theorem dX7_sayFrom_32 : decode cX7_sayFrom 32 = .ok (.ifCond .ne 17, 3) := by decide +kernel
theorem dX7_sayFrom_35 : decode cX7_sayFrom 35 = .ok (.getstatic 36, 3) := by decide +kernel
theorem dX7_sayFrom_38 : decode cX7_sayFrom 38 = .ok (.iload 5, 2) := by decide +kernel
theorem dX7_sayFrom_40 : decode cX7_sayFrom 40 = .ok (.iaload, 1) := by decide +kernel
theorem dX7_sayFrom_41 : decode cX7_sayFrom 41 = .ok (.istore 5, 2) := by decide +kernel
theorem dX7_sayFrom_43 : decode cX7_sayFrom 43 = .ok (.iinc 6 1, 3) := by decide +kernel
theorem dX7_sayFrom_46 : decode cX7_sayFrom 46 = .ok (.goto (-31), 3) := by decide +kernel
theorem dX7_sayFrom_49 : decode cX7_sayFrom 49 = .ok (.getstatic 39, 3) := by decide +kernel
theorem dX7_sayFrom_52 : decode cX7_sayFrom 52 = .ok (.iconst 4, 1) := by decide +kernel
theorem dX7_sayFrom_53 : decode cX7_sayFrom 53 = .ok (.iload 5, 2) := by decide +kernel
theorem dX7_sayFrom_55 : decode cX7_sayFrom 55 = .ok (.imul, 1) := by decide +kernel
theorem dX7_sayFrom_56 : decode cX7_sayFrom 56 = .ok (.iload_n 2, 1) := by decide +kernel
theorem dX7_sayFrom_57 : decode cX7_sayFrom 57 = .ok (.iadd, 1) := by decide +kernel
theorem dX7_sayFrom_58 : decode cX7_sayFrom 58 = .ok (.iaload, 1) := by decide +kernel
theorem dX7_sayFrom_59 : decode cX7_sayFrom 59 = .ok (.istore 6, 2) := by decide +kernel
theorem dX7_sayFrom_61 : decode cX7_sayFrom 61 = .ok (.aload_n 0, 1) := by decide +kernel
theorem dX7_sayFrom_62 : decode cX7_sayFrom 62 = .ok (.getfield 9, 3) := by decide +kernel
theorem dX7_sayFrom_65 : decode cX7_sayFrom 65 = .ok (.bipush 40, 2) := by decide +kernel
theorem dX7_sayFrom_67 : decode cX7_sayFrom 67 = .ok (.if_icmp .ge 24, 3) := by decide +kernel
theorem dX7_sayFrom_70 : decode cX7_sayFrom 70 = .ok (.aload_n 0, 1) := by decide +kernel
theorem dX7_sayFrom_71 : decode cX7_sayFrom 71 = .ok (.getfield 15, 3) := by decide +kernel
theorem dX7_sayFrom_74 : decode cX7_sayFrom 74 = .ok (.aload_n 0, 1) := by decide +kernel
theorem dX7_sayFrom_75 : decode cX7_sayFrom 75 = .ok (.getfield 9, 3) := by decide +kernel
theorem dX7_sayFrom_78 : decode cX7_sayFrom 78 = .ok (.iload 6, 2) := by decide +kernel
theorem dX7_sayFrom_80 : decode cX7_sayFrom 80 = .ok (.iastore, 1) := by decide +kernel
theorem dX7_sayFrom_81 : decode cX7_sayFrom 81 = .ok (.aload_n 0, 1) := by decide +kernel
theorem dX7_sayFrom_82 : decode cX7_sayFrom 82 = .ok (.dup, 1) := by decide +kernel
theorem dX7_sayFrom_83 : decode cX7_sayFrom 83 = .ok (.getfield 9, 3) := by decide +kernel
theorem dX7_sayFrom_86 : decode cX7_sayFrom 86 = .ok (.iconst 1, 1) := by decide +kernel
theorem dX7_sayFrom_87 : decode cX7_sayFrom 87 = .ok (.iadd, 1) := by decide +kernel
theorem dX7_sayFrom_88 : decode cX7_sayFrom 88 = .ok (.putfield 9, 3) := by decide +kernel
theorem dX7_sayFrom_91 : decode cX7_sayFrom 91 = .ok (.aload_n 0, 1) := by decide +kernel
theorem dX7_sayFrom_92 : decode cX7_sayFrom 92 = .ok (.iload 6, 2) := by decide +kernel
theorem dX7_sayFrom_94 : decode cX7_sayFrom 94 = .ok (.iload_n 3, 1) := by decide +kernel
theorem dX7_sayFrom_95 : decode cX7_sayFrom 95 = .ok (.iload 4, 2) := by decide +kernel
theorem dX7_sayFrom_97 : decode cX7_sayFrom 97 = .ok (.invokevirtual 42, 3) := by decide +kernel
theorem dX7_sayFrom_100 : decode cX7_sayFrom 100 = .ok (.ireturn, 1) := by decide +kernel
theorem dX7_say_0 : decode cX7_say 0 = .ok (.iload_n 1, 1) := by decide +kernel
theorem dX7_say_1 : decode cX7_say 1 = .ok (.lookupswitch 211 #[(10, 91), (11, 98), (12, 108), (13, 115), (20, 131), (30, 142), (40, 159), (50, 169), (60, 186), (70, 197)], 91) := by decide +kernel
theorem dX7_say_92 : decode cX7_say 92 = .ok (.iload_n 2, 1) := by decide +kernel
theorem dX7_say_93 : decode cX7_say 93 = .ok (.aload_n 0, 1) := by decide +kernel
theorem dX7_say_94 : decode cX7_say 94 = .ok (.getfield 22, 3) := by decide +kernel
theorem dX7_say_97 : decode cX7_say 97 = .ok (.iadd, 1) := by decide +kernel
theorem dX7_say_98 : decode cX7_say 98 = .ok (.ireturn, 1) := by decide +kernel
theorem dX7_say_99 : decode cX7_say 99 = .ok (.aload_n 0, 1) := by decide +kernel
theorem dX7_say_100 : decode cX7_say 100 = .ok (.iconst 0, 1) := by decide +kernel
theorem dX7_say_101 : decode cX7_say 101 = .ok (.iload_n 2, 1) := by decide +kernel
theorem dX7_say_102 : decode cX7_say 102 = .ok (.iload_n 3, 1) := by decide +kernel
theorem dX7_say_103 : decode cX7_say 103 = .ok (.invokevirtual 28, 3) := by decide +kernel
theorem dX7_say_106 : decode cX7_say 106 = .ok (.iconst 2, 1) := by decide +kernel
theorem dX7_say_107 : decode cX7_say 107 = .ok (.imul, 1) := by decide +kernel
theorem dX7_say_108 : decode cX7_say 108 = .ok (.ireturn, 1) := by decide +kernel
theorem dX7_say_109 : decode cX7_say 109 = .ok (.iload_n 2, 1) := by decide +kernel
theorem dX7_say_110 : decode cX7_say 110 = .ok (.aload_n 0, 1) := by decide +kernel
theorem dX7_say_111 : decode cX7_say 111 = .ok (.getfield 25, 3) := by decide +kernel
theorem dX7_say_114 : decode cX7_say 114 = .ok (.isub, 1) := by decide +kernel
theorem dX7_say_115 : decode cX7_say 115 = .ok (.ireturn, 1) := by decide +kernel
theorem dX7_say_116 : decode cX7_say 116 = .ok (.aload_n 0, 1) := by decide +kernel
theorem dX7_say_117 : decode cX7_say 117 = .ok (.iconst 1, 1) := by decide +kernel
theorem dX7_say_118 : decode cX7_say 118 = .ok (.iload_n 2, 1) := by decide +kernel
theorem dX7_say_119 : decode cX7_say 119 = .ok (.iload_n 3, 1) := by decide +kernel
theorem dX7_say_120 : decode cX7_say 120 = .ok (.invokevirtual 28, 3) := by decide +kernel
theorem dX7_say_123 : decode cX7_say 123 = .ok (.aload_n 0, 1) := by decide +kernel
theorem dX7_say_124 : decode cX7_say 124 = .ok (.iconst 2, 1) := by decide +kernel
theorem dX7_say_125 : decode cX7_say 125 = .ok (.iload_n 2, 1) := by decide +kernel
theorem dX7_say_126 : decode cX7_say 126 = .ok (.iload_n 3, 1) := by decide +kernel
theorem dX7_say_127 : decode cX7_say 127 = .ok (.invokevirtual 28, 3) := by decide +kernel
theorem dX7_say_130 : decode cX7_say 130 = .ok (.ixor, 1) := by decide +kernel
theorem dX7_say_131 : decode cX7_say 131 = .ok (.ireturn, 1) := by decide +kernel
theorem dX7_say_132 : decode cX7_say 132 = .ok (.aload_n 0, 1) := by decide +kernel
theorem dX7_say_133 : decode cX7_say 133 = .ok (.iload_n 1, 1) := by decide +kernel
theorem dX7_say_134 : decode cX7_say 134 = .ok (.iconst 0, 1) := by decide +kernel
theorem dX7_say_135 : decode cX7_say 135 = .ok (.iload_n 2, 1) := by decide +kernel
theorem dX7_say_136 : decode cX7_say 136 = .ok (.iload_n 3, 1) := by decide +kernel
theorem dX7_say_137 : decode cX7_say 137 = .ok (.invokevirtual 45, 3) := by decide +kernel
theorem dX7_say_140 : decode cX7_say 140 = .ok (.iconst 3, 1) := by decide +kernel
theorem dX7_say_141 : decode cX7_say 141 = .ok (.imul, 1) := by decide +kernel
theorem dX7_say_142 : decode cX7_say 142 = .ok (.ireturn, 1) := by decide +kernel
theorem dX7_say_143 : decode cX7_say 143 = .ok (.aload_n 0, 1) := by decide +kernel
theorem dX7_say_144 : decode cX7_say 144 = .ok (.iload_n 1, 1) := by decide +kernel
theorem dX7_say_145 : decode cX7_say 145 = .ok (.iconst 1, 1) := by decide +kernel
theorem dX7_say_146 : decode cX7_say 146 = .ok (.iload_n 2, 1) := by decide +kernel
theorem dX7_say_147 : decode cX7_say 147 = .ok (.iload_n 3, 1) := by decide +kernel
theorem dX7_say_148 : decode cX7_say 148 = .ok (.invokevirtual 45, 3) := by decide +kernel
theorem dX7_say_151 : decode cX7_say 151 = .ok (.aload_n 0, 1) := by decide +kernel
theorem dX7_say_152 : decode cX7_say 152 = .ok (.iconst 2, 1) := by decide +kernel
theorem dX7_say_153 : decode cX7_say 153 = .ok (.iconst 1, 1) := by decide +kernel
theorem dX7_say_154 : decode cX7_say 154 = .ok (.iload_n 3, 1) := by decide +kernel
theorem dX7_say_155 : decode cX7_say 155 = .ok (.invokevirtual 28, 3) := by decide +kernel
theorem dX7_say_158 : decode cX7_say 158 = .ok (.isub, 1) := by decide +kernel
theorem dX7_say_159 : decode cX7_say 159 = .ok (.ireturn, 1) := by decide +kernel
theorem dX7_say_160 : decode cX7_say 160 = .ok (.aload_n 0, 1) := by decide +kernel
theorem dX7_say_161 : decode cX7_say 161 = .ok (.iload_n 1, 1) := by decide +kernel
theorem dX7_say_162 : decode cX7_say 162 = .ok (.iconst 2, 1) := by decide +kernel
theorem dX7_say_163 : decode cX7_say 163 = .ok (.iload_n 2, 1) := by decide +kernel
theorem dX7_say_164 : decode cX7_say 164 = .ok (.iload_n 3, 1) := by decide +kernel
theorem dX7_say_165 : decode cX7_say 165 = .ok (.invokevirtual 45, 3) := by decide +kernel
theorem dX7_say_168 : decode cX7_say 168 = .ok (.ineg, 1) := by decide +kernel
theorem dX7_say_169 : decode cX7_say 169 = .ok (.ireturn, 1) := by decide +kernel
theorem dX7_say_170 : decode cX7_say 170 = .ok (.aload_n 0, 1) := by decide +kernel
theorem dX7_say_171 : decode cX7_say 171 = .ok (.iload_n 1, 1) := by decide +kernel
theorem dX7_say_172 : decode cX7_say 172 = .ok (.iconst 3, 1) := by decide +kernel
theorem dX7_say_173 : decode cX7_say 173 = .ok (.iload_n 2, 1) := by decide +kernel
theorem dX7_say_174 : decode cX7_say 174 = .ok (.iload_n 3, 1) := by decide +kernel
theorem dX7_say_175 : decode cX7_say 175 = .ok (.invokevirtual 45, 3) := by decide +kernel
theorem dX7_say_178 : decode cX7_say 178 = .ok (.aload_n 0, 1) := by decide +kernel
theorem dX7_say_179 : decode cX7_say 179 = .ok (.iconst 0, 1) := by decide +kernel
theorem dX7_say_180 : decode cX7_say 180 = .ok (.iconst 2, 1) := by decide +kernel
theorem dX7_say_181 : decode cX7_say 181 = .ok (.iload_n 3, 1) := by decide +kernel
theorem dX7_say_182 : decode cX7_say 182 = .ok (.invokevirtual 28, 3) := by decide +kernel
theorem dX7_say_185 : decode cX7_say 185 = .ok (.isub, 1) := by decide +kernel
theorem dX7_say_186 : decode cX7_say 186 = .ok (.ireturn, 1) := by decide +kernel
theorem dX7_say_187 : decode cX7_say 187 = .ok (.aload_n 0, 1) := by decide +kernel
theorem dX7_say_188 : decode cX7_say 188 = .ok (.iload_n 1, 1) := by decide +kernel
theorem dX7_say_189 : decode cX7_say 189 = .ok (.iconst 1, 1) := by decide +kernel
theorem dX7_say_190 : decode cX7_say 190 = .ok (.iload_n 2, 1) := by decide +kernel
theorem dX7_say_191 : decode cX7_say 191 = .ok (.iconst 1, 1) := by decide +kernel
theorem dX7_say_192 : decode cX7_say 192 = .ok (.iadd, 1) := by decide +kernel
theorem dX7_say_193 : decode cX7_say 193 = .ok (.iload_n 3, 1) := by decide +kernel
theorem dX7_say_194 : decode cX7_say 194 = .ok (.invokevirtual 45, 3) := by decide +kernel
theorem dX7_say_197 : decode cX7_say 197 = .ok (.ireturn, 1) := by decide +kernel
theorem dX7_say_198 : decode cX7_say 198 = .ok (.aload_n 0, 1) := by decide +kernel
theorem dX7_say_199 : decode cX7_say 199 = .ok (.iload_n 1, 1) := by decide +kernel
theorem dX7_say_200 : decode cX7_say 200 = .ok (.iconst 2, 1) := by decide +kernel
theorem dX7_say_201 : decode cX7_say 201 = .ok (.iload_n 2, 1) := by decide +kernel
theorem dX7_say_202 : decode cX7_say 202 = .ok (.iload_n 3, 1) := by decide +kernel
theorem dX7_say_203 : decode cX7_say 203 = .ok (.invokevirtual 45, 3) := by decide +kernel
theorem dX7_say_206 : decode cX7_say 206 = .ok (.aload_n 0, 1) := by decide +kernel
theorem dX7_say_207 : decode cX7_say 207 = .ok (.getfield 22, 3) := by decide +kernel
theorem dX7_say_210 : decode cX7_say 210 = .ok (.ixor, 1) := by decide +kernel
theorem dX7_say_211 : decode cX7_say 211 = .ok (.ireturn, 1) := by decide +kernel
theorem dX7_say_212 : decode cX7_say 212 = .ok (.aload_n 0, 1) := by decide +kernel
theorem dX7_say_213 : decode cX7_say 213 = .ok (.iconst 1, 1) := by decide +kernel
theorem dX7_say_214 : decode cX7_say 214 = .ok (.iload_n 2, 1) := by decide +kernel
theorem dX7_say_215 : decode cX7_say 215 = .ok (.iload_n 3, 1) := by decide +kernel
theorem dX7_say_216 : decode cX7_say 216 = .ok (.invokevirtual 28, 3) := by decide +kernel
theorem dX7_say_219 : decode cX7_say 219 = .ok (.aload_n 0, 1) := by decide +kernel
theorem dX7_say_220 : decode cX7_say 220 = .ok (.iload_n 1, 1) := by decide +kernel
theorem dX7_say_221 : decode cX7_say 221 = .ok (.iconst 3, 1) := by decide +kernel
theorem dX7_say_222 : decode cX7_say 222 = .ok (.iload_n 2, 1) := by decide +kernel
theorem dX7_say_223 : decode cX7_say 223 = .ok (.iload_n 3, 1) := by decide +kernel
theorem dX7_say_224 : decode cX7_say 224 = .ok (.invokevirtual 45, 3) := by decide +kernel
theorem dX7_say_227 : decode cX7_say 227 = .ok (.isub, 1) := by decide +kernel
theorem dX7_say_228 : decode cX7_say 228 = .ok (.ireturn, 1) := by decide +kernel
theorem dJ6_bitCount_0f7a4_0 : decode cJ6_bitCount_0f7a4 0 = .ok (.iload_n 0, 1) := by decide +kernel
theorem dJ6_bitCount_0f7a4_1 : decode cJ6_bitCount_0f7a4 1 = .ok (.iload_n 0, 1) := by decide +kernel
theorem dJ6_bitCount_0f7a4_2 : decode cJ6_bitCount_0f7a4 2 = .ok (.iconst 1, 1) := by decide +kernel
theorem dJ6_bitCount_0f7a4_3 : decode cJ6_bitCount_0f7a4 3 = .ok (.iushr, 1) := by decide +kernel
theorem dJ6_bitCount_0f7a4_4 : decode cJ6_bitCount_0f7a4 4 = .ok (.ldc_w 265, 3) := by decide +kernel
theorem dJ6_bitCount_0f7a4_7 : decode cJ6_bitCount_0f7a4 7 = .ok (.iand, 1) := by decide +kernel
theorem dJ6_bitCount_0f7a4_8 : decode cJ6_bitCount_0f7a4 8 = .ok (.isub, 1) := by decide +kernel
theorem dJ6_bitCount_0f7a4_9 : decode cJ6_bitCount_0f7a4 9 = .ok (.istore_n 0, 1) := by decide +kernel
theorem dJ6_bitCount_0f7a4_10 : decode cJ6_bitCount_0f7a4 10 = .ok (.iload_n 0, 1) := by decide +kernel
theorem dJ6_bitCount_0f7a4_11 : decode cJ6_bitCount_0f7a4 11 = .ok (.ldc_w 266, 3) := by decide +kernel
theorem dJ6_bitCount_0f7a4_14 : decode cJ6_bitCount_0f7a4 14 = .ok (.iand, 1) := by decide +kernel
theorem dJ6_bitCount_0f7a4_15 : decode cJ6_bitCount_0f7a4 15 = .ok (.iload_n 0, 1) := by decide +kernel
theorem dJ6_bitCount_0f7a4_16 : decode cJ6_bitCount_0f7a4 16 = .ok (.iconst 2, 1) := by decide +kernel
theorem dJ6_bitCount_0f7a4_17 : decode cJ6_bitCount_0f7a4 17 = .ok (.iushr, 1) := by decide +kernel
theorem dJ6_bitCount_0f7a4_18 : decode cJ6_bitCount_0f7a4 18 = .ok (.ldc_w 266, 3) := by decide +kernel
theorem dJ6_bitCount_0f7a4_21 : decode cJ6_bitCount_0f7a4 21 = .ok (.iand, 1) := by decide +kernel
theorem dJ6_bitCount_0f7a4_22 : decode cJ6_bitCount_0f7a4 22 = .ok (.iadd, 1) := by decide +kernel
theorem dJ6_bitCount_0f7a4_23 : decode cJ6_bitCount_0f7a4 23 = .ok (.istore_n 0, 1) := by decide +kernel
theorem dJ6_bitCount_0f7a4_24 : decode cJ6_bitCount_0f7a4 24 = .ok (.iload_n 0, 1) := by decide +kernel
theorem dJ6_bitCount_0f7a4_25 : decode cJ6_bitCount_0f7a4 25 = .ok (.iload_n 0, 1) := by decide +kernel
theorem dJ6_bitCount_0f7a4_26 : decode cJ6_bitCount_0f7a4 26 = .ok (.iconst 4, 1) := by decide +kernel
theorem dJ6_bitCount_0f7a4_27 : decode cJ6_bitCount_0f7a4 27 = .ok (.iushr, 1) := by decide +kernel
theorem dJ6_bitCount_0f7a4_28 : decode cJ6_bitCount_0f7a4 28 = .ok (.iadd, 1) := by decide +kernel
theorem dJ6_bitCount_0f7a4_29 : decode cJ6_bitCount_0f7a4 29 = .ok (.ldc_w 267, 3) := by decide +kernel
theorem dJ6_bitCount_0f7a4_32 : decode cJ6_bitCount_0f7a4 32 = .ok (.iand, 1) := by decide +kernel
theorem dJ6_bitCount_0f7a4_33 : decode cJ6_bitCount_0f7a4 33 = .ok (.istore_n 0, 1) := by decide +kernel
theorem dJ6_bitCount_0f7a4_34 : decode cJ6_bitCount_0f7a4 34 = .ok (.iload_n 0, 1) := by decide +kernel
theorem dJ6_bitCount_0f7a4_35 : decode cJ6_bitCount_0f7a4 35 = .ok (.iload_n 0, 1) := by decide +kernel
theorem dJ6_bitCount_0f7a4_36 : decode cJ6_bitCount_0f7a4 36 = .ok (.bipush 8, 2) := by decide +kernel
theorem dJ6_bitCount_0f7a4_38 : decode cJ6_bitCount_0f7a4 38 = .ok (.iushr, 1) := by decide +kernel
theorem dJ6_bitCount_0f7a4_39 : decode cJ6_bitCount_0f7a4 39 = .ok (.iadd, 1) := by decide +kernel
theorem dJ6_bitCount_0f7a4_40 : decode cJ6_bitCount_0f7a4 40 = .ok (.istore_n 0, 1) := by decide +kernel
theorem dJ6_bitCount_0f7a4_41 : decode cJ6_bitCount_0f7a4 41 = .ok (.iload_n 0, 1) := by decide +kernel
theorem dJ6_bitCount_0f7a4_42 : decode cJ6_bitCount_0f7a4 42 = .ok (.iload_n 0, 1) := by decide +kernel
theorem dJ6_bitCount_0f7a4_43 : decode cJ6_bitCount_0f7a4 43 = .ok (.bipush 16, 2) := by decide +kernel
theorem dJ6_bitCount_0f7a4_45 : decode cJ6_bitCount_0f7a4 45 = .ok (.iushr, 1) := by decide +kernel
theorem dJ6_bitCount_0f7a4_46 : decode cJ6_bitCount_0f7a4 46 = .ok (.iadd, 1) := by decide +kernel
theorem dJ6_bitCount_0f7a4_47 : decode cJ6_bitCount_0f7a4 47 = .ok (.istore_n 0, 1) := by decide +kernel
theorem dJ6_bitCount_0f7a4_48 : decode cJ6_bitCount_0f7a4 48 = .ok (.iload_n 0, 1) := by decide +kernel
theorem dJ6_bitCount_0f7a4_49 : decode cJ6_bitCount_0f7a4 49 = .ok (.bipush 63, 2) := by decide +kernel
theorem dJ6_bitCount_0f7a4_51 : decode cJ6_bitCount_0f7a4 51 = .ok (.iand, 1) := by decide +kernel
theorem dJ6_bitCount_0f7a4_52 : decode cJ6_bitCount_0f7a4 52 = .ok (.ireturn, 1) := by decide +kernel
theorem dJ9_max_7cf53_0 : decode cJ9_max_7cf53 0 = .ok (.iload_n 0, 1) := by decide +kernel
theorem dJ9_max_7cf53_1 : decode cJ9_max_7cf53 1 = .ok (.iload_n 1, 1) := by decide +kernel
theorem dJ9_max_7cf53_2 : decode cJ9_max_7cf53 2 = .ok (.if_icmp .lt 7, 3) := by decide +kernel
theorem dJ9_max_7cf53_5 : decode cJ9_max_7cf53 5 = .ok (.iload_n 0, 1) := by decide +kernel
theorem dJ9_max_7cf53_6 : decode cJ9_max_7cf53 6 = .ok (.goto 4, 3) := by decide +kernel
theorem dJ9_max_7cf53_9 : decode cJ9_max_7cf53 9 = .ok (.iload_n 1, 1) := by decide +kernel
theorem dJ9_max_7cf53_10 : decode cJ9_max_7cf53 10 = .ok (.ireturn, 1) := by decide +kernel
theorem dJ9_min_7cf53_0 : decode cJ9_min_7cf53 0 = .ok (.iload_n 0, 1) := by decide +kernel
theorem dJ9_min_7cf53_1 : decode cJ9_min_7cf53 1 = .ok (.iload_n 1, 1) := by decide +kernel
theorem dJ9_min_7cf53_2 : decode cJ9_min_7cf53 2 = .ok (.if_icmp .gt 7, 3) := by decide +kernel
theorem dJ9_min_7cf53_5 : decode cJ9_min_7cf53 5 = .ok (.iload_n 0, 1) := by decide +kernel
theorem dJ9_min_7cf53_6 : decode cJ9_min_7cf53 6 = .ok (.goto 4, 3) := by decide +kernel
theorem dJ9_min_7cf53_9 : decode cJ9_min_7cf53 9 = .ok (.iload_n 1, 1) := by decide +kernel
theorem dJ9_min_7cf53_10 : decode cJ9_min_7cf53 10 = .ok (.ireturn, 1) := by decide +kernel
theorem dJ0_length_8abf5_0 : decode cJ0_length_8abf5 0 = .ok (.aload_n 0, 1) := by decide +kernel
theorem dJ0_length_8abf5_1 : decode cJ0_length_8abf5 1 = .ok (.getfield 9, 3) := by decide +kernel
theorem dJ0_length_8abf5_4 : decode cJ0_length_8abf5 4 = .ok (.arraylength, 1) := by decide +kernel
theorem dJ0_length_8abf5_5 : decode cJ0_length_8abf5 5 = .ok (.aload_n 0, 1) := by decide +kernel
theorem dJ0_length_8abf5_6 : decode cJ0_length_8abf5 6 = .ok (.invokevirtual 335, 3) := by decide +kernel
theorem dJ0_length_8abf5_9 : decode cJ0_length_8abf5 9 = .ok (.ishr, 1) := by decide +kernel
theorem dJ0_length_8abf5_10 : decode cJ0_length_8abf5 10 = .ok (.ireturn, 1) := by decide +kernel
theorem dJ0_charAt_5068e_0 : decode cJ0_charAt_5068e 0 = .ok (.aload_n 0, 1) := by decide +kernel
theorem dJ0_charAt_5068e_1 : decode cJ0_charAt_5068e 1 = .ok (.invokevirtual 492, 3) := by decide +kernel
theorem dJ0_charAt_5068e_4 : decode cJ0_charAt_5068e 4 = .ok (.ifCond .eq 12, 3) := by decide +kernel
theorem dJ0_charAt_5068e_7 : decode cJ0_charAt_5068e 7 = .ok (.aload_n 0, 1) := by decide +kernel
theorem dJ0_charAt_5068e_8 : decode cJ0_charAt_5068e 8 = .ok (.getfield 9, 3) := by decide +kernel
theorem dJ0_charAt_5068e_11 : decode cJ0_charAt_5068e 11 = .ok (.iload_n 1, 1) := by decide +kernel
theorem dJ0_charAt_5068e_12 : decode cJ0_charAt_5068e 12 = .ok (.invokestatic 495, 3) := by decide +kernel
theorem dJ0_charAt_5068e_15 : decode cJ0_charAt_5068e 15 = .ok (.ireturn, 1) := by decide +kernel
theorem dJ0_charAt_5068e_16 : decode cJ0_charAt_5068e 16 = .ok (.aload_n 0, 1) := by decide +kernel
theorem dJ0_charAt_5068e_17 : decode cJ0_charAt_5068e 17 = .ok (.getfield 9, 3) := by decide +kernel
theorem dJ0_charAt_5068e_20 : decode cJ0_charAt_5068e 20 = .ok (.iload_n 1, 1) := by decide +kernel
theorem dJ0_charAt_5068e_21 : decode cJ0_charAt_5068e 21 = .ok (.invokestatic 498, 3) := by decide +kernel
theorem dJ0_charAt_5068e_24 : decode cJ0_charAt_5068e 24 = .ok (.ireturn, 1) := by decide +kernel
theorem dJ0_coder_7d493_0 : decode cJ0_coder_7d493 0 = .ok (.getstatic 38, 3) := by decide +kernel
theorem dJ0_coder_7d493_3 : decode cJ0_coder_7d493 3 = .ok (.ifCond .eq 10, 3) := by decide +kernel
theorem dJ0_coder_7d493_6 : decode cJ0_coder_7d493 6 = .ok (.aload_n 0, 1) := by decide +kernel
theorem dJ0_coder_7d493_7 : decode cJ0_coder_7d493 7 = .ok (.getfield 15, 3) := by decide +kernel
theorem dJ0_coder_7d493_10 : decode cJ0_coder_7d493 10 = .ok (.goto 4, 3) := by decide +kernel
theorem dJ0_coder_7d493_13 : decode cJ0_coder_7d493 13 = .ok (.iconst 1, 1) := by decide +kernel
theorem dJ0_coder_7d493_14 : decode cJ0_coder_7d493 14 = .ok (.ireturn, 1) := by decide +kernel
theorem dJ0_isLatin1_aae02_0 : decode cJ0_isLatin1_aae02 0 = .ok (.getstatic 38, 3) := by decide +kernel
theorem dJ0_isLatin1_aae02_3 : decode cJ0_isLatin1_aae02 3 = .ok (.ifCond .eq 14, 3) := by decide +kernel
theorem dJ0_isLatin1_aae02_6 : decode cJ0_isLatin1_aae02 6 = .ok (.aload_n 0, 1) := by decide +kernel
theorem dJ0_isLatin1_aae02_7 : decode cJ0_isLatin1_aae02 7 = .ok (.getfield 15, 3) := by decide +kernel
theorem dJ0_isLatin1_aae02_10 : decode cJ0_isLatin1_aae02 10 = .ok (.ifCond .ne 7, 3) := by decide +kernel
theorem dJ0_isLatin1_aae02_13 : decode cJ0_isLatin1_aae02 13 = .ok (.iconst 1, 1) := by decide +kernel
theorem dJ0_isLatin1_aae02_14 : decode cJ0_isLatin1_aae02 14 = .ok (.goto 4, 3) := by decide +kernel
theorem dJ0_isLatin1_aae02_17 : decode cJ0_isLatin1_aae02 17 = .ok (.iconst 0, 1) := by decide +kernel
theorem dJ0_isLatin1_aae02_18 : decode cJ0_isLatin1_aae02 18 = .ok (.ireturn, 1) := by decide +kernel
theorem dJ0_checkIndex_df160_0 : decode cJ0_checkIndex_df160 0 = .ok (.iload_n 0, 1) := by decide +kernel
theorem dJ0_checkIndex_df160_1 : decode cJ0_checkIndex_df160 1 = .ok (.iload_n 1, 1) := by decide +kernel
theorem dJ0_checkIndex_df160_2 : decode cJ0_checkIndex_df160 2 = .ok (.getstatic 1053, 3) := by decide +kernel
theorem dJ0_checkIndex_df160_5 : decode cJ0_checkIndex_df160 5 = .ok (.invokestatic 1059, 3) := by decide +kernel
theorem dJ0_checkIndex_df160_8 : decode cJ0_checkIndex_df160 8 = .ok (.pop, 1) := by decide +kernel
theorem dJ0_checkIndex_df160_9 : decode cJ0_checkIndex_df160 9 = .ok (.return_, 1) := by decide +kernel
theorem dJ1_charAt_3b067_0 : decode cJ1_charAt_3b067 0 = .ok (.iload_n 1, 1) := by decide +kernel
theorem dJ1_charAt_3b067_1 : decode cJ1_charAt_3b067 1 = .ok (.aload_n 0, 1) := by decide +kernel
theorem dJ1_charAt_3b067_2 : decode cJ1_charAt_3b067 2 = .ok (.arraylength, 1) := by decide +kernel
theorem dJ1_charAt_3b067_3 : decode cJ1_charAt_3b067 3 = .ok (.invokestatic 9, 3) := by decide +kernel
theorem dJ1_charAt_3b067_6 : decode cJ1_charAt_3b067 6 = .ok (.aload_n 0, 1) := by decide +kernel
theorem dJ1_charAt_3b067_7 : decode cJ1_charAt_3b067 7 = .ok (.iload_n 1, 1) := by decide +kernel
theorem dJ1_charAt_3b067_8 : decode cJ1_charAt_3b067 8 = .ok (.baload, 1) := by decide +kernel
theorem dJ1_charAt_3b067_9 : decode cJ1_charAt_3b067 9 = .ok (.sipush 255, 3) := by decide +kernel
theorem dJ1_charAt_3b067_12 : decode cJ1_charAt_3b067 12 = .ok (.iand, 1) := by decide +kernel
theorem dJ1_charAt_3b067_13 : decode cJ1_charAt_3b067 13 = .ok (.i2c, 1) := by decide +kernel
theorem dJ1_charAt_3b067_14 : decode cJ1_charAt_3b067 14 = .ok (.ireturn, 1) := by decide +kernel
theorem dJ2_getChar_3b067_0 : decode cJ2_getChar_3b067 0 = .ok (.getstatic 44, 3) := by decide +kernel
theorem dJ2_getChar_3b067_3 : decode cJ2_getChar_3b067 3 = .ok (.ifCond .ne 25, 3) := by decide +kernel
theorem dJ2_getChar_3b067_6 : decode cJ2_getChar_3b067 6 = .ok (.iload_n 1, 1) := by decide +kernel
theorem dJ2_getChar_3b067_7 : decode cJ2_getChar_3b067 7 = .ok (.ifCond .lt 11, 3) := by decide +kernel
theorem dJ2_getChar_3b067_10 : decode cJ2_getChar_3b067 10 = .ok (.iload_n 1, 1) := by decide +kernel
theorem dJ2_getChar_3b067_11 : decode cJ2_getChar_3b067 11 = .ok (.aload_n 0, 1) := by decide +kernel
theorem dJ2_getChar_3b067_12 : decode cJ2_getChar_3b067 12 = .ok (.invokestatic 48, 3) := by decide +kernel
theorem dJ2_getChar_3b067_15 : decode cJ2_getChar_3b067 15 = .ok (.if_icmp .lt 13, 3) := by decide +kernel
theorem dJ2_getChar_3b067_18 : decode cJ2_getChar_3b067 18 = .ok (.new 52, 3) := by decide +kernel
theorem dJ2_getChar_3b067_21 : decode cJ2_getChar_3b067 21 = .ok (.dup, 1) := by decide +kernel
theorem dJ2_getChar_3b067_22 : decode cJ2_getChar_3b067 22 = .ok (.ldc 54, 2) := by decide +kernel
theorem dJ2_getChar_3b067_24 : decode cJ2_getChar_3b067 24 = .ok (.invokespecial 56, 3) := by decide +kernel
theorem dJ2_getChar_3b067_27 : decode cJ2_getChar_3b067 27 = .ok (.athrow, 1) := by decide +kernel
theorem dJ2_getChar_3b067_28 : decode cJ2_getChar_3b067 28 = .ok (.iload_n 1, 1) := by decide +kernel
theorem dJ2_getChar_3b067_29 : decode cJ2_getChar_3b067 29 = .ok (.iconst 1, 1) := by decide +kernel
theorem dJ2_getChar_3b067_30 : decode cJ2_getChar_3b067 30 = .ok (.ishl, 1) := by decide +kernel
theorem dJ2_getChar_3b067_31 : decode cJ2_getChar_3b067 31 = .ok (.istore_n 1, 1) := by decide +kernel
theorem dJ2_getChar_3b067_32 : decode cJ2_getChar_3b067 32 = .ok (.aload_n 0, 1) := by decide +kernel
theorem dJ2_getChar_3b067_33 : decode cJ2_getChar_3b067 33 = .ok (.iload_n 1, 1) := by decide +kernel
theorem dJ2_getChar_3b067_34 : decode cJ2_getChar_3b067 34 = .ok (.iinc 1 1, 3) := by decide +kernel
theorem dJ2_getChar_3b067_37 : decode cJ2_getChar_3b067 37 = .ok (.baload, 1) := by decide +kernel
theorem dJ2_getChar_3b067_38 : decode cJ2_getChar_3b067 38 = .ok (.sipush 255, 3) := by decide +kernel
theorem dJ2_getChar_3b067_41 : decode cJ2_getChar_3b067 41 = .ok (.iand, 1) := by decide +kernel
theorem dJ2_getChar_3b067_42 : decode cJ2_getChar_3b067 42 = .ok (.getstatic 59, 3) := by decide +kernel
theorem dJ2_getChar_3b067_45 : decode cJ2_getChar_3b067 45 = .ok (.ishl, 1) := by decide +kernel
theorem dJ2_getChar_3b067_46 : decode cJ2_getChar_3b067 46 = .ok (.aload_n 0, 1) := by decide +kernel
theorem dJ2_getChar_3b067_47 : decode cJ2_getChar_3b067 47 = .ok (.iload_n 1, 1) := by decide +kernel
theorem dJ2_getChar_3b067_48 : decode cJ2_getChar_3b067 48 = .ok (.baload, 1) := by decide +kernel
theorem dJ2_getChar_3b067_49 : decode cJ2_getChar_3b067 49 = .ok (.sipush 255, 3) := by decide +kernel
theorem dJ2_getChar_3b067_52 : decode cJ2_getChar_3b067 52 = .ok (.iand, 1) := by decide +kernel
theorem dJ2_getChar_3b067_53 : decode cJ2_getChar_3b067 53 = .ok (.getstatic 63, 3) := by decide +kernel
theorem dJ2_getChar_3b067_56 : decode cJ2_getChar_3b067 56 = .ok (.ishl, 1) := by decide +kernel
theorem dJ2_getChar_3b067_57 : decode cJ2_getChar_3b067 57 = .ok (.ior, 1) := by decide +kernel
theorem dJ2_getChar_3b067_58 : decode cJ2_getChar_3b067 58 = .ok (.i2c, 1) := by decide +kernel
theorem dJ2_getChar_3b067_59 : decode cJ2_getChar_3b067 59 = .ok (.ireturn, 1) := by decide +kernel
theorem dJ2_length_9d52b_0 : decode cJ2_length_9d52b 0 = .ok (.aload_n 0, 1) := by decide +kernel
theorem dJ2_length_9d52b_1 : decode cJ2_length_9d52b 1 = .ok (.arraylength, 1) := by decide +kernel
theorem dJ2_length_9d52b_2 : decode cJ2_length_9d52b 2 = .ok (.iconst 1, 1) := by decide +kernel
theorem dJ2_length_9d52b_3 : decode cJ2_length_9d52b 3 = .ok (.ishr, 1) := by decide +kernel
theorem dJ2_length_9d52b_4 : decode cJ2_length_9d52b 4 = .ok (.ireturn, 1) := by decide +kernel
theorem dJ2_charAt_3b067_0 : decode cJ2_charAt_3b067 0 = .ok (.iload_n 1, 1) := by decide +kernel
theorem dJ2_charAt_3b067_1 : decode cJ2_charAt_3b067 1 = .ok (.aload_n 0, 1) := by decide +kernel
theorem dJ2_charAt_3b067_2 : decode cJ2_charAt_3b067 2 = .ok (.invokestatic 67, 3) := by decide +kernel
theorem dJ2_charAt_3b067_5 : decode cJ2_charAt_3b067 5 = .ok (.aload_n 0, 1) := by decide +kernel
theorem dJ2_charAt_3b067_6 : decode cJ2_charAt_3b067 6 = .ok (.iload_n 1, 1) := by decide +kernel
theorem dJ2_charAt_3b067_7 : decode cJ2_charAt_3b067 7 = .ok (.invokestatic 71, 3) := by decide +kernel
theorem dJ2_charAt_3b067_10 : decode cJ2_charAt_3b067 10 = .ok (.ireturn, 1) := by decide +kernel
theorem dJ2_checkIndex_2214a_0 : decode cJ2_checkIndex_2214a 0 = .ok (.iload_n 0, 1) := by decide +kernel
theorem dJ2_checkIndex_2214a_1 : decode cJ2_checkIndex_2214a 1 = .ok (.aload_n 1, 1) := by decide +kernel
theorem dJ2_checkIndex_2214a_2 : decode cJ2_checkIndex_2214a 2 = .ok (.invokestatic 48, 3) := by decide +kernel
theorem dJ2_checkIndex_2214a_5 : decode cJ2_checkIndex_2214a 5 = .ok (.invokestatic 414, 3) := by decide +kernel
theorem dJ2_checkIndex_2214a_8 : decode cJ2_checkIndex_2214a 8 = .ok (.return_, 1) := by decide +kernel
theorem dJ3_checkIndex_8e157_0 : decode cJ3_checkIndex_8e157 0 = .ok (.iload_n 0, 1) := by decide +kernel
theorem dJ3_checkIndex_8e157_1 : decode cJ3_checkIndex_8e157 1 = .ok (.ifCond .lt 8, 3) := by decide +kernel
theorem dJ3_checkIndex_8e157_4 : decode cJ3_checkIndex_8e157 4 = .ok (.iload_n 0, 1) := by decide +kernel
theorem dJ3_checkIndex_8e157_5 : decode cJ3_checkIndex_8e157 5 = .ok (.iload_n 1, 1) := by decide +kernel
theorem dJ3_checkIndex_8e157_6 : decode cJ3_checkIndex_8e157 6 = .ok (.if_icmp .lt 10, 3) := by decide +kernel
theorem dJ3_checkIndex_8e157_9 : decode cJ3_checkIndex_8e157 9 = .ok (.aload_n 2, 1) := by decide +kernel
theorem dJ3_checkIndex_8e157_10 : decode cJ3_checkIndex_8e157 10 = .ok (.iload_n 0, 1) := by decide +kernel
theorem dJ3_checkIndex_8e157_11 : decode cJ3_checkIndex_8e157 11 = .ok (.iload_n 1, 1) := by decide +kernel
theorem dJ3_checkIndex_8e157_12 : decode cJ3_checkIndex_8e157 12 = .ok (.invokestatic 95, 3) := by decide +kernel
theorem dJ3_checkIndex_8e157_15 : decode cJ3_checkIndex_8e157 15 = .ok (.athrow, 1) := by decide +kernel
theorem dJ3_checkIndex_8e157_16 : decode cJ3_checkIndex_8e157 16 = .ok (.iload_n 0, 1) := by decide +kernel
theorem dJ3_checkIndex_8e157_17 : decode cJ3_checkIndex_8e157 17 = .ok (.ireturn, 1) := by decide +kernel
