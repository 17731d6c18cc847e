theorem dX8_init_0 : decode cX8_init 0 = .ok (.aload_n 0, 1) := by decide +kernel
theorem dX8_init_1 : decode cX8_init 1 = .ok (.invokespecial 1, 3) := by decide +kernel
theorem dX8_init_4 : decode cX8_init 4 = .ok (.aload_n 0, 1) := by decide +kernel
theorem dX8_init_5 : decode cX8_init 5 = .ok (.new 7, 3) := by decide +kernel
theorem dX8_init_8 : decode cX8_init 8 = .ok (.dup, 1) := by decide +kernel
theorem dX8_init_9 : decode cX8_init 9 = .ok (.invokespecial 9, 3) := by decide +kernel
theorem dX8_init_12 : decode cX8_init 12 = .ok (.putfield 10, 3) := by decide +kernel
theorem dX8_init_15 : decode cX8_init 15 = .ok (.aload_n 0, 1) := by decide +kernel
theorem dX8_init_16 : decode cX8_init 16 = .ok (.new 16, 3) := by decide +kernel
theorem dX8_init_19 : decode cX8_init 19 = .ok (.dup, 1) := by decide +kernel
theorem dX8_init_20 : decode cX8_init 20 = .ok (.invokespecial 18, 3) := by decide +kernel
theorem dX8_init_23 : decode cX8_init 23 = .ok (.putfield 19, 3) := by decide +kernel
theorem dX8_init_26 : decode cX8_init 26 = .ok (.aload_n 0, 1) := by decide +kernel
theorem dX8_init_27 : decode cX8_init 27 = .ok (.new 23, 3) := by decide +kernel
theorem dX8_init_30 : decode cX8_init 30 = .ok (.dup, 1) := by decide +kernel
theorem dX8_init_31 : decode cX8_init 31 = .ok (.invokespecial 25, 3) := by decide +kernel
theorem dX8_init_34 : decode cX8_init 34 = .ok (.putfield 26, 3) := by decide +kernel
theorem dX8_init_37 : decode cX8_init 37 = .ok (.aload_n 0, 1) := by decide +kernel
theorem dX8_init_38 : decode cX8_init 38 = .ok (.new 7, 3) := by decide +kernel
theorem dX8_init_41 : decode cX8_init 41 = .ok (.dup, 1) := by decide +kernel
theorem dX8_init_42 : decode cX8_init 42 = .ok (.invokespecial 9, 3) := by decide +kernel
theorem dX8_init_45 : decode cX8_init 45 = .ok (.putfield 30, 3) := by decide +kernel
theorem dX8_init_48 : decode cX8_init 48 = .ok (.aload_n 0, 1) := by decide +kernel
theorem dX8_init_49 : decode cX8_init 49 = .ok (.new 16, 3) := by decide +kernel
theorem dX8_init_52 : decode cX8_init 52 = .ok (.dup, 1) := by decide +kernel
theorem dX8_init_53 : decode cX8_init 53 = .ok (.invokespecial 18, 3) := by decide +kernel
theorem dX8_init_56 : decode cX8_init 56 = .ok (.putfield 33, 3) := by decide +kernel
theorem dX8_init_59 : decode cX8_init 59 = .ok (.aload_n 0, 1) := by decide +kernel
theorem dX8_init_60 : decode cX8_init 60 = .ok (.new 23, 3) := by decide +kernel
theorem dX8_init_63 : decode cX8_init 63 = .ok (.dup, 1) := by decide +kernel
theorem dX8_init_64 : decode cX8_init 64 = .ok (.invokespecial 25, 3) := by decide +kernel
theorem dX8_init_67 : decode cX8_init 67 = .ok (.putfield 36, 3) := by decide +kernel
theorem dX8_init_70 : decode cX8_init 70 = .ok (.aload_n 0, 1) := by decide +kernel
theorem dX8_init_71 : decode cX8_init 71 = .ok (.iconst 0, 1) := by decide +kernel
theorem dX8_init_72 : decode cX8_init 72 = .ok (.putfield 39, 3) := by decide +kernel
theorem dX8_init_75 : decode cX8_init 75 = .ok (.aload_n 0, 1) := by decide +kernel
theorem dX8_init_76 : decode cX8_init 76 = .ok (.new 16, 3) := by decide +kernel
theorem dX8_init_79 : decode cX8_init 79 = .ok (.dup, 1) := by decide +kernel
theorem dX8_init_80 : decode cX8_init 80 = .ok (.invokespecial 18, 3) := by decide +kernel
theorem dX8_init_83 : decode cX8_init 83 = .ok (.putfield 43, 3) := by decide +kernel
theorem dX8_init_86 : decode cX8_init 86 = .ok (.aload_n 0, 1) := by decide +kernel
theorem dX8_init_87 : decode cX8_init 87 = .ok (.new 46, 3) := by decide +kernel
theorem dX8_init_90 : decode cX8_init 90 = .ok (.dup, 1) := by decide +kernel
theorem dX8_init_91 : decode cX8_init 91 = .ok (.invokespecial 48, 3) := by decide +kernel
theorem dX8_init_94 : decode cX8_init 94 = .ok (.putfield 49, 3) := by decide +kernel
theorem dX8_init_97 : decode cX8_init 97 = .ok (.aload_n 0, 1) := by decide +kernel
theorem dX8_init_98 : decode cX8_init 98 = .ok (.new 53, 3) := by decide +kernel
theorem dX8_init_101 : decode cX8_init 101 = .ok (.dup, 1) := by decide +kernel
theorem dX8_init_102 : decode cX8_init 102 = .ok (.invokespecial 55, 3) := by decide +kernel
theorem dX8_init_105 : decode cX8_init 105 = .ok (.putfield 56, 3) := by decide +kernel
theorem dX8_init_108 : decode cX8_init 108 = .ok (.aload_n 0, 1) := by decide +kernel
theorem dX8_init_109 : decode cX8_init 109 = .ok (.new 60, 3) := by decide +kernel
theorem dX8_init_112 : decode cX8_init 112 = .ok (.dup, 1) := by decide +kernel
theorem dX8_init_113 : decode cX8_init 113 = .ok (.invokespecial 62, 3) := by decide +kernel
theorem dX8_init_116 : decode cX8_init 116 = .ok (.putfield 63, 3) := by decide +kernel
theorem dX8_init_119 : decode cX8_init 119 = .ok (.aload_n 0, 1) := by decide +kernel
theorem dX8_init_120 : decode cX8_init 120 = .ok (.iconst 4, 1) := by decide +kernel
theorem dX8_init_121 : decode cX8_init 121 = .ok (.anewarray 67, 3) := by decide +kernel
theorem dX8_init_124 : decode cX8_init 124 = .ok (.dup, 1) := by decide +kernel
theorem dX8_init_125 : decode cX8_init 125 = .ok (.iconst 0, 1) := by decide +kernel
theorem dX8_init_126 : decode cX8_init 126 = .ok (.new 67, 3) := by decide +kernel
theorem dX8_init_129 : decode cX8_init 129 = .ok (.dup, 1) := by decide +kernel
theorem dX8_init_130 : decode cX8_init 130 = .ok (.invokespecial 69, 3) := by decide +kernel
theorem dX8_init_133 : decode cX8_init 133 = .ok (.aastore, 1) := by decide +kernel
theorem dX8_init_134 : decode cX8_init 134 = .ok (.dup, 1) := by decide +kernel
theorem dX8_init_135 : decode cX8_init 135 = .ok (.iconst 1, 1) := by decide +kernel
theorem dX8_init_136 : decode cX8_init 136 = .ok (.new 67, 3) := by decide +kernel
theorem dX8_init_139 : decode cX8_init 139 = .ok (.dup, 1) := by decide +kernel
theorem dX8_init_140 : decode cX8_init 140 = .ok (.invokespecial 69, 3) := by decide +kernel
theorem dX8_init_143 : decode cX8_init 143 = .ok (.aastore, 1) := by decide +kernel
theorem dX8_init_144 : decode cX8_init 144 = .ok (.dup, 1) := by decide +kernel
theorem dX8_init_145 : decode cX8_init 145 = .ok (.iconst 2, 1) := by decide +kernel
theorem dX8_init_146 : decode cX8_init 146 = .ok (.new 67, 3) := by decide +kernel
theorem dX8_init_149 : decode cX8_init 149 = .ok (.dup, 1) := by decide +kernel
theorem dX8_init_150 : decode cX8_init 150 = .ok (.invokespecial 69, 3) := by decide +kernel
theorem dX8_init_153 : decode cX8_init 153 = .ok (.aastore, 1) := by decide +kernel
theorem dX8_init_154 : decode cX8_init 154 = .ok (.dup, 1) := by decide +kernel
theorem dX8_init_155 : decode cX8_init 155 = .ok (.iconst 3, 1) := by decide +kernel
theorem dX8_init_156 : decode cX8_init 156 = .ok (.new 67, 3) := by decide +kernel
theorem dX8_init_159 : decode cX8_init 159 = .ok (.dup, 1) := by decide +kernel
theorem dX8_init_160 : decode cX8_init 160 = .ok (.invokespecial 69, 3) := by decide +kernel
theorem dX8_init_163 : decode cX8_init 163 = .ok (.aastore, 1) := by decide +kernel
theorem dX8_init_164 : decode cX8_init 164 = .ok (.putfield 70, 3) := by decide +kernel
theorem dX8_init_167 : decode cX8_init 167 = .ok (.aload_n 0, 1) := by decide +kernel
theorem dX8_init_168 : decode cX8_init 168 = .ok (.bipush 6, 2) := by decide +kernel
theorem dX8_init_170 : decode cX8_init 170 = .ok (.newarray .int, 2) := by decide +kernel
theorem dX8_init_172 : decode cX8_init 172 = .ok (.putfield 74, 3) := by decide +kernel
theorem dX8_init_175 : decode cX8_init 175 = .ok (.aload_n 0, 1) := by decide +kernel
theorem dX8_init_176 : decode cX8_init 176 = .ok (.getfield 10, 3) := by decide +kernel
theorem dX8_init_179 : decode cX8_init 179 = .ok (.bipush 8, 2) := by decide +kernel
theorem dX8_init_181 : decode cX8_init 181 = .ok (.invokevirtual 78, 3) := by decide +kernel
theorem dX8_init_184 : decode cX8_init 184 = .ok (.return_, 1) := by decide +kernel
theorem dX8_bay_0 : decode cX8_bay 0 = .ok (.iload_n 1, 1) := by decide +kernel
theorem dX8_bay_1 : decode cX8_bay 1 = .ok (.iconst 3, 1) := by decide +kernel
theorem dX8_bay_2 : decode cX8_bay 2 = .ok (.bipush 8, 2) := by decide +kernel
theorem dX8_bay_4 : decode cX8_bay 4 = .ok (.invokestatic 82, 3) := by decide +kernel
theorem dX8_bay_7 : decode cX8_bay 7 = .ok (.ifCond .ne 9, 3) := by decide +kernel
theorem dX8_bay_10 : decode cX8_bay 10 = .ok (.aload_n 0, 1) := by decide +kernel
theorem dX8_bay_11 : decode cX8_bay 11 = .ok (.iconst 1, 1) := by decide +kernel
theorem dX8_bay_12 : decode cX8_bay 12 = .ok (.invokevirtual 86, 3) := by decide +kernel
theorem dX8_bay_15 : decode cX8_bay 15 = .ok (.ireturn, 1) := by decide +kernel
theorem dX8_bay_16 : decode cX8_bay 16 = .ok (.aload_n 0, 1) := by decide +kernel
theorem dX8_bay_17 : decode cX8_bay 17 = .ok (.getfield 19, 3) := by decide +kernel
theorem dX8_bay_20 : decode cX8_bay 20 = .ok (.getfield 90, 3) := by decide +kernel
theorem dX8_bay_23 : decode cX8_bay 23 = .ok (.ifCond .le 9, 3) := by decide +kernel
theorem dX8_bay_26 : decode cX8_bay 26 = .ok (.aload_n 0, 1) := by decide +kernel
theorem dX8_bay_27 : decode cX8_bay 27 = .ok (.iconst 3, 1) := by decide +kernel
theorem dX8_bay_28 : decode cX8_bay 28 = .ok (.invokevirtual 86, 3) := by decide +kernel
theorem dX8_bay_31 : decode cX8_bay 31 = .ok (.ireturn, 1) := by decide +kernel
theorem dX8_bay_32 : decode cX8_bay 32 = .ok (.aload_n 0, 1) := by decide +kernel
theorem dX8_bay_33 : decode cX8_bay 33 = .ok (.getfield 10, 3) := by decide +kernel
theorem dX8_bay_36 : decode cX8_bay 36 = .ok (.getfield 93, 3) := by decide +kernel
theorem dX8_bay_39 : decode cX8_bay 39 = .ok (.istore_n 2, 1) := by decide +kernel
theorem dX8_bay_40 : decode cX8_bay 40 = .ok (.aload_n 0, 1) := by decide +kernel
theorem dX8_bay_41 : decode cX8_bay 41 = .ok (.getfield 10, 3) := by decide +kernel
theorem dX8_bay_44 : decode cX8_bay 44 = .ok (.iload_n 1, 1) := by decide +kernel
theorem dX8_bay_45 : decode cX8_bay 45 = .ok (.invokevirtual 78, 3) := by decide +kernel
theorem dX8_bay_48 : decode cX8_bay 48 = .ok (.iload_n 2, 1) := by decide +kernel
theorem dX8_bay_49 : decode cX8_bay 49 = .ok (.ireturn, 1) := by decide +kernel
theorem dX8_lay_0 : decode cX8_lay 0 = .ok (.aload_n 0, 1) := by decide +kernel
theorem dX8_lay_1 : decode cX8_lay 1 = .ok (.iload_n 1, 1) := by decide +kernel
theorem dX8_lay_2 : decode cX8_lay 2 = .ok (.invokevirtual 96, 3) := by decide +kernel
theorem dX8_lay_5 : decode cX8_lay 5 = .ok (.ifCond .eq 32, 3) := by decide +kernel
theorem dX8_lay_8 : decode cX8_lay 8 = .ok (.iload_n 2, 1) := by decide +kernel
theorem dX8_lay_9 : decode cX8_lay 9 = .ok (.iconst 0, 1) := by decide +kernel
theorem dX8_lay_10 : decode cX8_lay 10 = .ok (.iconst 2, 1) := by decide +kernel
theorem dX8_lay_11 : decode cX8_lay 11 = .ok (.invokestatic 82, 3) := by decide +kernel
theorem dX8_lay_14 : decode cX8_lay 14 = .ok (.ifCond .eq 23, 3) := by decide +kernel
theorem dX8_lay_17 : decode cX8_lay 17 = .ok (.iload_n 3, 1) := by decide +kernel
theorem dX8_lay_18 : decode cX8_lay 18 = .ok (.iconst 0, 1) := by decide +kernel
theorem dX8_lay_19 : decode cX8_lay 19 = .ok (.iload_n 2, 1) := by decide +kernel
theorem dX8_lay_20 : decode cX8_lay 20 = .ok (.ifCond .ne 8, 3) := by decide +kernel
theorem dX8_lay_23 : decode cX8_lay 23 = .ok (.bipush 9, 2) := by decide +kernel
theorem dX8_lay_25 : decode cX8_lay 25 = .ok (.goto 6, 3) := by decide +kernel
theorem dX8_lay_28 : decode cX8_lay 28 = .ok (.sipush 999, 3) := by decide +kernel
theorem dX8_lay_31 : decode cX8_lay 31 = .ok (.invokestatic 82, 3) := by decide +kernel
theorem dX8_lay_34 : decode cX8_lay 34 = .ok (.ifCond .ne 9, 3) := by decide +kernel
theorem dX8_lay_37 : decode cX8_lay 37 = .ok (.aload_n 0, 1) := by decide +kernel
theorem dX8_lay_38 : decode cX8_lay 38 = .ok (.iconst 1, 1) := by decide +kernel
theorem dX8_lay_39 : decode cX8_lay 39 = .ok (.invokevirtual 86, 3) := by decide +kernel
theorem dX8_lay_42 : decode cX8_lay 42 = .ok (.ireturn, 1) := by decide +kernel
theorem dX8_lay_43 : decode cX8_lay 43 = .ok (.iload_n 2, 1) := by decide +kernel
theorem dX8_lay_44 : decode cX8_lay 44 = .ok (.ifCond .ne 13, 3) := by decide +kernel
theorem dX8_lay_47 : decode cX8_lay 47 = .ok (.aload_n 0, 1) := by decide +kernel
theorem dX8_lay_48 : decode cX8_lay 48 = .ok (.getfield 10, 3) := by decide +kernel
theorem dX8_lay_51 : decode cX8_lay 51 = .ok (.getfield 100, 3) := by decide +kernel
theorem dX8_lay_54 : decode cX8_lay 54 = .ok (.goto 25, 3) := by decide +kernel
theorem dX8_lay_57 : decode cX8_lay 57 = .ok (.iload_n 2, 1) := by decide +kernel
theorem dX8_lay_58 : decode cX8_lay 58 = .ok (.iconst 1, 1) := by decide +kernel
theorem dX8_lay_59 : decode cX8_lay 59 = .ok (.if_icmp .ne 13, 3) := by decide +kernel
theorem dX8_lay_62 : decode cX8_lay 62 = .ok (.aload_n 0, 1) := by decide +kernel
theorem dX8_lay_63 : decode cX8_lay 63 = .ok (.getfield 10, 3) := by decide +kernel
theorem dX8_lay_66 : decode cX8_lay 66 = .ok (.getfield 103, 3) := by decide +kernel
theorem dX8_lay_69 : decode cX8_lay 69 = .ok (.goto 10, 3) := by decide +kernel
theorem dX8_lay_72 : decode cX8_lay 72 = .ok (.aload_n 0, 1) := by decide +kernel
theorem dX8_lay_73 : decode cX8_lay 73 = .ok (.getfield 10, 3) := by decide +kernel
theorem dX8_lay_76 : decode cX8_lay 76 = .ok (.getfield 106, 3) := by decide +kernel
theorem dX8_lay_79 : decode cX8_lay 79 = .ok (.astore 4, 2) := by decide +kernel
theorem dX8_lay_81 : decode cX8_lay 81 = .ok (.aload 4, 2) := by decide +kernel
theorem dX8_lay_83 : decode cX8_lay 83 = .ok (.iload_n 1, 1) := by decide +kernel
theorem dX8_lay_84 : decode cX8_lay 84 = .ok (.iaload, 1) := by decide +kernel
theorem dX8_lay_85 : decode cX8_lay 85 = .ok (.istore 5, 2) := by decide +kernel
theorem dX8_lay_87 : decode cX8_lay 87 = .ok (.aload 4, 2) := by decide +kernel
theorem dX8_lay_89 : decode cX8_lay 89 = .ok (.iload_n 1, 1) := by decide +kernel
theorem dX8_lay_90 : decode cX8_lay 90 = .ok (.iload_n 3, 1) := by decide +kernel
theorem dX8_lay_91 : decode cX8_lay 91 = .ok (.iastore, 1) := by decide +kernel
theorem dX8_lay_92 : decode cX8_lay 92 = .ok (.iload 5, 2) := by decide +kernel
theorem dX8_lay_94 : decode cX8_lay 94 = .ok (.ireturn, 1) := by decide +kernel
theorem dX8_ofCell_0 : decode cX8_ofCell 0 = .ok (.aload_n 0, 1) := by decide +kernel
theorem dX8_ofCell_1 : decode cX8_ofCell 1 = .ok (.iload_n 1, 1) := by decide +kernel
theorem dX8_ofCell_2 : decode cX8_ofCell 2 = .ok (.invokevirtual 96, 3) := by decide +kernel
theorem dX8_ofCell_5 : decode cX8_ofCell 5 = .ok (.ifCond .eq 12, 3) := by decide +kernel
theorem dX8_ofCell_8 : decode cX8_ofCell 8 = .ok (.iload_n 2, 1) := by decide +kernel
theorem dX8_ofCell_9 : decode cX8_ofCell 9 = .ok (.iconst 0, 1) := by decide +kernel
theorem dX8_ofCell_10 : decode cX8_ofCell 10 = .ok (.iconst 5, 1) := by decide +kernel
theorem dX8_ofCell_11 : decode cX8_ofCell 11 = .ok (.invokestatic 82, 3) := by decide +kernel
theorem dX8_ofCell_14 : decode cX8_ofCell 14 = .ok (.ifCond .ne 9, 3) := by decide +kernel
theorem dX8_ofCell_17 : decode cX8_ofCell 17 = .ok (.aload_n 0, 1) := by decide +kernel
theorem dX8_ofCell_18 : decode cX8_ofCell 18 = .ok (.iconst 1, 1) := by decide +kernel
theorem dX8_ofCell_19 : decode cX8_ofCell 19 = .ok (.invokevirtual 86, 3) := by decide +kernel
theorem dX8_ofCell_22 : decode cX8_ofCell 22 = .ok (.ireturn, 1) := by decide +kernel
theorem dX8_ofCell_23 : decode cX8_ofCell 23 = .ok (.iload_n 2, 1) := by decide +kernel
theorem dX8_ofCell_24 : decode cX8_ofCell 24 = .ok (.tableswitch 98 0 4 #[36, 46, 56, 66, 82], 36) := by decide +kernel
theorem dX8_ofCell_60 : decode cX8_ofCell 60 = .ok (.aload_n 0, 1) := by decide +kernel
theorem dX8_ofCell_61 : decode cX8_ofCell 61 = .ok (.getfield 10, 3) := by decide +kernel
theorem dX8_ofCell_64 : decode cX8_ofCell 64 = .ok (.getfield 100, 3) := by decide +kernel
theorem dX8_ofCell_67 : decode cX8_ofCell 67 = .ok (.iload_n 1, 1) := by decide +kernel
theorem dX8_ofCell_68 : decode cX8_ofCell 68 = .ok (.iaload, 1) := by decide +kernel
theorem dX8_ofCell_69 : decode cX8_ofCell 69 = .ok (.ireturn, 1) := by decide +kernel
theorem dX8_ofCell_70 : decode cX8_ofCell 70 = .ok (.aload_n 0, 1) := by decide +kernel
theorem dX8_ofCell_71 : decode cX8_ofCell 71 = .ok (.getfield 10, 3) := by decide +kernel
theorem dX8_ofCell_74 : decode cX8_ofCell 74 = .ok (.getfield 103, 3) := by decide +kernel
theorem dX8_ofCell_77 : decode cX8_ofCell 77 = .ok (.iload_n 1, 1) := by decide +kernel
theorem dX8_ofCell_78 : decode cX8_ofCell 78 = .ok (.iaload, 1) := by decide +kernel
theorem dX8_ofCell_79 : decode cX8_ofCell 79 = .ok (.ireturn, 1) := by decide +kernel
theorem dX8_ofCell_80 : decode cX8_ofCell 80 = .ok (.aload_n 0, 1) := by decide +kernel
theorem dX8_ofCell_81 : decode cX8_ofCell 81 = .ok (.getfield 10, 3) := by decide +kernel
theorem dX8_ofCell_84 : decode cX8_ofCell 84 = .ok (.getfield 106, 3) := by decide +kernel
theorem dX8_ofCell_87 : decode cX8_ofCell 87 = .ok (.iload_n 1, 1) := by decide +kernel
theorem dX8_ofCell_88 : decode cX8_ofCell 88 = .ok (.iaload, 1) := by decide +kernel
theorem dX8_ofCell_89 : decode cX8_ofCell 89 = .ok (.ireturn, 1) := by decide +kernel
theorem dX8_ofCell_90 : decode cX8_ofCell 90 = .ok (.aload_n 0, 1) := by decide +kernel
theorem dX8_ofCell_91 : decode cX8_ofCell 91 = .ok (.getfield 10, 3) := by decide +kernel
theorem dX8_ofCell_94 : decode cX8_ofCell 94 = .ok (.iload_n 1, 1) := by decide +kernel
theorem dX8_ofCell_95 : decode cX8_ofCell 95 = .ok (.aload_n 0, 1) := by decide +kernel
theorem dX8_ofCell_96 : decode cX8_ofCell 96 = .ok (.getfield 10, 3) := by decide +kernel
theorem dX8_ofCell_99 : decode cX8_ofCell 99 = .ok (.getfield 109, 3) := by decide +kernel
theorem dX8_ofCell_102 : decode cX8_ofCell 102 = .ok (.invokevirtual 112, 3) := by decide +kernel
theorem dX8_ofCell_105 : decode cX8_ofCell 105 = .ok (.ireturn, 1) := by decide +kernel
theorem dX8_ofCell_106 : decode cX8_ofCell 106 = .ok (.aload_n 0, 1) := by decide +kernel
theorem dX8_ofCell_107 : decode cX8_ofCell 107 = .ok (.getfield 10, 3) := by decide +kernel
theorem dX8_ofCell_110 : decode cX8_ofCell 110 = .ok (.aload_n 0, 1) := by decide +kernel
theorem dX8_ofCell_111 : decode cX8_ofCell 111 = .ok (.getfield 10, 3) := by decide +kernel
theorem dX8_ofCell_114 : decode cX8_ofCell 114 = .ok (.getfield 116, 3) := by decide +kernel
theorem dX8_ofCell_117 : decode cX8_ofCell 117 = .ok (.iload_n 1, 1) := by decide +kernel
theorem dX8_ofCell_118 : decode cX8_ofCell 118 = .ok (.invokevirtual 119, 3) := by decide +kernel
theorem dX8_ofCell_121 : decode cX8_ofCell 121 = .ok (.ireturn, 1) := by decide +kernel
theorem dX8_ofCell_122 : decode cX8_ofCell 122 = .ok (.aload_n 0, 1) := by decide +kernel
theorem dX8_ofCell_123 : decode cX8_ofCell 123 = .ok (.getfield 19, 3) := by decide +kernel
theorem dX8_ofCell_126 : decode cX8_ofCell 126 = .ok (.iload_n 1, 1) := by decide +kernel
theorem dX8_ofCell_127 : decode cX8_ofCell 127 = .ok (.invokevirtual 122, 3) := by decide +kernel
theorem dX8_ofCell_130 : decode cX8_ofCell 130 = .ok (.ireturn, 1) := by decide +kernel
theorem dX8_set_0 : decode cX8_set 0 = .ok (.iload_n 1, 1) := by decide +kernel
theorem dX8_set_1 : decode cX8_set 1 = .ok (.iconst 0, 1) := by decide +kernel
theorem dX8_set_2 : decode cX8_set 2 = .ok (.iconst 2, 1) := by decide +kernel
theorem dX8_set_3 : decode cX8_set 3 = .ok (.invokestatic 82, 3) := by decide +kernel
theorem dX8_set_6 : decode cX8_set 6 = .ok (.ifCond .eq 16, 3) := by decide +kernel
theorem dX8_set_9 : decode cX8_set 9 = .ok (.iload_n 2, 1) := by decide +kernel
theorem dX8_set_10 : decode cX8_set 10 = .ok (.iconst 0, 1) := by decide +kernel
theorem dX8_set_11 : decode cX8_set 11 = .ok (.aload_n 0, 1) := by decide +kernel
theorem dX8_set_12 : decode cX8_set 12 = .ok (.iload_n 1, 1) := by decide +kernel
theorem dX8_set_13 : decode cX8_set 13 = .ok (.invokevirtual 125, 3) := by decide +kernel
theorem dX8_set_16 : decode cX8_set 16 = .ok (.invokestatic 82, 3) := by decide +kernel
theorem dX8_set_19 : decode cX8_set 19 = .ok (.ifCond .ne 9, 3) := by decide +kernel
theorem dX8_set_22 : decode cX8_set 22 = .ok (.aload_n 0, 1) := by decide +kernel
theorem dX8_set_23 : decode cX8_set 23 = .ok (.iconst 1, 1) := by decide +kernel
theorem dX8_set_24 : decode cX8_set 24 = .ok (.invokevirtual 86, 3) := by decide +kernel
theorem dX8_set_27 : decode cX8_set 27 = .ok (.ireturn, 1) := by decide +kernel
theorem dX8_set_28 : decode cX8_set 28 = .ok (.iload_n 1, 1) := by decide +kernel
theorem dX8_set_29 : decode cX8_set 29 = .ok (.ifCond .ne 22, 3) := by decide +kernel
theorem dX8_set_32 : decode cX8_set 32 = .ok (.aload_n 0, 1) := by decide +kernel
theorem dX8_set_33 : decode cX8_set 33 = .ok (.getfield 10, 3) := by decide +kernel
theorem dX8_set_36 : decode cX8_set 36 = .ok (.getfield 109, 3) := by decide +kernel
theorem dX8_set_39 : decode cX8_set 39 = .ok (.istore_n 3, 1) := by decide +kernel
theorem dX8_set_40 : decode cX8_set 40 = .ok (.aload_n 0, 1) := by decide +kernel
theorem dX8_set_41 : decode cX8_set 41 = .ok (.getfield 10, 3) := by decide +kernel
theorem dX8_set_44 : decode cX8_set 44 = .ok (.iload_n 2, 1) := by decide +kernel
theorem dX8_set_45 : decode cX8_set 45 = .ok (.putfield 109, 3) := by decide +kernel
theorem dX8_set_48 : decode cX8_set 48 = .ok (.goto 43, 3) := by decide +kernel
theorem dX8_set_51 : decode cX8_set 51 = .ok (.iload_n 1, 1) := by decide +kernel
theorem dX8_set_52 : decode cX8_set 52 = .ok (.iconst 1, 1) := by decide +kernel
theorem dX8_set_53 : decode cX8_set 53 = .ok (.if_icmp .ne 22, 3) := by decide +kernel
theorem dX8_set_56 : decode cX8_set 56 = .ok (.aload_n 0, 1) := by decide +kernel
theorem dX8_set_57 : decode cX8_set 57 = .ok (.getfield 10, 3) := by decide +kernel
theorem dX8_set_60 : decode cX8_set 60 = .ok (.getfield 116, 3) := by decide +kernel
theorem dX8_set_63 : decode cX8_set 63 = .ok (.istore_n 3, 1) := by decide +kernel
theorem dX8_set_64 : decode cX8_set 64 = .ok (.aload_n 0, 1) := by decide +kernel
theorem dX8_set_65 : decode cX8_set 65 = .ok (.getfield 10, 3) := by decide +kernel
theorem dX8_set_68 : decode cX8_set 68 = .ok (.iload_n 2, 1) := by decide +kernel
theorem dX8_set_69 : decode cX8_set 69 = .ok (.putfield 116, 3) := by decide +kernel
theorem dX8_set_72 : decode cX8_set 72 = .ok (.goto 19, 3) := by decide +kernel
theorem dX8_set_75 : decode cX8_set 75 = .ok (.aload_n 0, 1) := by decide +kernel
theorem dX8_set_76 : decode cX8_set 76 = .ok (.getfield 10, 3) := by decide +kernel
theorem dX8_set_79 : decode cX8_set 79 = .ok (.getfield 128, 3) := by decide +kernel
theorem dX8_set_82 : decode cX8_set 82 = .ok (.istore_n 3, 1) := by decide +kernel
theorem dX8_set_83 : decode cX8_set 83 = .ok (.aload_n 0, 1) := by decide +kernel
theorem dX8_set_84 : decode cX8_set 84 = .ok (.getfield 10, 3) := by decide +kernel
theorem dX8_set_87 : decode cX8_set 87 = .ok (.iload_n 2, 1) := by decide +kernel
theorem dX8_set_88 : decode cX8_set 88 = .ok (.putfield 128, 3) := by decide +kernel
theorem dX8_set_91 : decode cX8_set 91 = .ok (.iload_n 3, 1) := by decide +kernel
theorem dX8_set_92 : decode cX8_set 92 = .ok (.ireturn, 1) := by decide +kernel
theorem dX8_greatestSetting_0 : decode cX8_greatestSetting 0 = .ok (.iload_n 1, 1) := by decide +kernel
theorem dX8_greatestSetting_1 : decode cX8_greatestSetting 1 = .ok (.ifCond .ne 7, 3) := by decide +kernel
theorem dX8_greatestSetting_4 : decode cX8_greatestSetting 4 = .ok (.sipush 999, 3) := by decide +kernel
theorem dX8_greatestSetting_7 : decode cX8_greatestSetting 7 = .ok (.ireturn, 1) := by decide +kernel
theorem dX8_greatestSetting_8 : decode cX8_greatestSetting 8 = .ok (.iload_n 1, 1) := by decide +kernel
theorem dX8_greatestSetting_9 : decode cX8_greatestSetting 9 = .ok (.iconst 1, 1) := by decide +kernel
theorem dX8_greatestSetting_10 : decode cX8_greatestSetting 10 = .ok (.if_icmp .ne 8, 3) := by decide +kernel
theorem dX8_greatestSetting_13 : decode cX8_greatestSetting 13 = .ok (.bipush 99, 2) := by decide +kernel
theorem dX8_greatestSetting_15 : decode cX8_greatestSetting 15 = .ok (.goto 14, 3) := by decide +kernel
theorem dX8_greatestSetting_18 : decode cX8_greatestSetting 18 = .ok (.iconst 1, 1) := by decide +kernel
theorem dX8_greatestSetting_19 : decode cX8_greatestSetting 19 = .ok (.aload_n 0, 1) := by decide +kernel
theorem dX8_greatestSetting_20 : decode cX8_greatestSetting 20 = .ok (.getfield 10, 3) := by decide +kernel
theorem dX8_greatestSetting_23 : decode cX8_greatestSetting 23 = .ok (.getfield 93, 3) := by decide +kernel
theorem dX8_greatestSetting_26 : decode cX8_greatestSetting 26 = .ok (.ishl, 1) := by decide +kernel
theorem dX8_greatestSetting_27 : decode cX8_greatestSetting 27 = .ok (.iconst 1, 1) := by decide +kernel
theorem dX8_greatestSetting_28 : decode cX8_greatestSetting 28 = .ok (.isub, 1) := by decide +kernel
theorem dX8_greatestSetting_29 : decode cX8_greatestSetting 29 = .ok (.ireturn, 1) := by decide +kernel
theorem dX8_ship_0 : decode cX8_ship 0 = .ok (.iload_n 1, 1) := by decide +kernel
theorem dX8_ship_1 : decode cX8_ship 1 = .ok (.invokestatic 131, 3) := by decide +kernel
theorem dX8_ship_4 : decode cX8_ship 4 = .ok (.ifCond .eq 21, 3) := by decide +kernel
theorem dX8_ship_7 : decode cX8_ship 7 = .ok (.iload_n 2, 1) := by decide +kernel
theorem dX8_ship_8 : decode cX8_ship 8 = .ok (.iconst 0, 1) := by decide +kernel
theorem dX8_ship_9 : decode cX8_ship 9 = .ok (.bipush 9, 2) := by decide +kernel
theorem dX8_ship_11 : decode cX8_ship 11 = .ok (.invokestatic 82, 3) := by decide +kernel
theorem dX8_ship_14 : decode cX8_ship 14 = .ok (.ifCond .eq 11, 3) := by decide +kernel
theorem dX8_ship_17 : decode cX8_ship 17 = .ok (.aload_n 0, 1) := by decide +kernel
theorem dX8_ship_18 : decode cX8_ship 18 = .ok (.iload_n 3, 1) := by decide +kernel
theorem dX8_ship_19 : decode cX8_ship 19 = .ok (.invokevirtual 96, 3) := by decide +kernel
theorem dX8_ship_22 : decode cX8_ship 22 = .ok (.ifCond .ne 9, 3) := by decide +kernel
theorem dX8_ship_25 : decode cX8_ship 25 = .ok (.aload_n 0, 1) := by decide +kernel
theorem dX8_ship_26 : decode cX8_ship 26 = .ok (.iconst 1, 1) := by decide +kernel
theorem dX8_ship_27 : decode cX8_ship 27 = .ok (.invokevirtual 86, 3) := by decide +kernel
theorem dX8_ship_30 : decode cX8_ship 30 = .ok (.ireturn, 1) := by decide +kernel
theorem dX8_ship_31 : decode cX8_ship 31 = .ok (.aload_n 0, 1) := by decide +kernel
theorem dX8_ship_32 : decode cX8_ship 32 = .ok (.getfield 19, 3) := by decide +kernel
theorem dX8_ship_35 : decode cX8_ship 35 = .ok (.getfield 90, 3) := by decide +kernel
theorem dX8_ship_38 : decode cX8_ship 38 = .ok (.bipush 7, 2) := by decide +kernel
theorem dX8_ship_40 : decode cX8_ship 40 = .ok (.if_icmp .lt 9, 3) := by decide +kernel
theorem dX8_ship_43 : decode cX8_ship 43 = .ok (.aload_n 0, 1) := by decide +kernel
theorem dX8_ship_44 : decode cX8_ship 44 = .ok (.iconst 4, 1) := by decide +kernel
theorem dX8_ship_45 : decode cX8_ship 45 = .ok (.invokevirtual 86, 3) := by decide +kernel
theorem dX8_ship_48 : decode cX8_ship 48 = .ok (.ireturn, 1) := by decide +kernel
theorem dX8_ship_49 : decode cX8_ship 49 = .ok (.aload_n 0, 1) := by decide +kernel
theorem dX8_ship_50 : decode cX8_ship 50 = .ok (.getfield 19, 3) := by decide +kernel
theorem dX8_ship_53 : decode cX8_ship 53 = .ok (.getfield 90, 3) := by decide +kernel
theorem dX8_ship_56 : decode cX8_ship 56 = .ok (.istore 4, 2) := by decide +kernel
theorem dX8_ship_58 : decode cX8_ship 58 = .ok (.aload_n 0, 1) := by decide +kernel
theorem dX8_ship_59 : decode cX8_ship 59 = .ok (.getfield 19, 3) := by decide +kernel
theorem dX8_ship_62 : decode cX8_ship 62 = .ok (.getfield 134, 3) := by decide +kernel
theorem dX8_ship_65 : decode cX8_ship 65 = .ok (.iload 4, 2) := by decide +kernel
theorem dX8_ship_67 : decode cX8_ship 67 = .ok (.iload_n 1, 1) := by decide +kernel
theorem dX8_ship_68 : decode cX8_ship 68 = .ok (.bipush 10, 2) := by decide +kernel
theorem dX8_ship_70 : decode cX8_ship 70 = .ok (.idiv, 1) := by decide +kernel
theorem dX8_ship_71 : decode cX8_ship 71 = .ok (.iastore, 1) := by decide +kernel
theorem dX8_ship_72 : decode cX8_ship 72 = .ok (.aload_n 0, 1) := by decide +kernel
theorem dX8_ship_73 : decode cX8_ship 73 = .ok (.getfield 19, 3) := by decide +kernel
theorem dX8_ship_76 : decode cX8_ship 76 = .ok (.getfield 137, 3) := by decide +kernel
theorem dX8_ship_79 : decode cX8_ship 79 = .ok (.iload 4, 2) := by decide +kernel
theorem dX8_ship_81 : decode cX8_ship 81 = .ok (.iload_n 1, 1) := by decide +kernel
theorem dX8_ship_82 : decode cX8_ship 82 = .ok (.bipush 10, 2) := by decide +kernel
theorem dX8_ship_84 : decode cX8_ship 84 = .ok (.irem, 1) := by decide +kernel
theorem dX8_ship_85 : decode cX8_ship 85 = .ok (.iastore, 1) := by decide +kernel
theorem dX8_ship_86 : decode cX8_ship 86 = .ok (.aload_n 0, 1) := by decide +kernel
theorem dX8_ship_87 : decode cX8_ship 87 = .ok (.getfield 19, 3) := by decide +kernel
theorem dX8_ship_90 : decode cX8_ship 90 = .ok (.getfield 140, 3) := by decide +kernel
theorem dX8_ship_93 : decode cX8_ship 93 = .ok (.iload 4, 2) := by decide +kernel
theorem dX8_ship_95 : decode cX8_ship 95 = .ok (.iload_n 2, 1) := by decide +kernel
theorem dX8_ship_96 : decode cX8_ship 96 = .ok (.iastore, 1) := by decide +kernel
theorem dX8_ship_97 : decode cX8_ship 97 = .ok (.aload_n 0, 1) := by decide +kernel
theorem dX8_ship_98 : decode cX8_ship 98 = .ok (.getfield 19, 3) := by decide +kernel
theorem dX8_ship_101 : decode cX8_ship 101 = .ok (.getfield 143, 3) := by decide +kernel
theorem dX8_ship_104 : decode cX8_ship 104 = .ok (.iload 4, 2) := by decide +kernel
theorem dX8_ship_106 : decode cX8_ship 106 = .ok (.iload_n 3, 1) := by decide +kernel
theorem dX8_ship_107 : decode cX8_ship 107 = .ok (.iastore, 1) := by decide +kernel
theorem dX8_ship_108 : decode cX8_ship 108 = .ok (.aload_n 0, 1) := by decide +kernel
theorem dX8_ship_109 : decode cX8_ship 109 = .ok (.getfield 19, 3) := by decide +kernel
theorem dX8_ship_112 : decode cX8_ship 112 = .ok (.getfield 146, 3) := by decide +kernel
theorem dX8_ship_115 : decode cX8_ship 115 = .ok (.iload 4, 2) := by decide +kernel
theorem dX8_ship_117 : decode cX8_ship 117 = .ok (.iconst 0, 1) := by decide +kernel
theorem dX8_ship_118 : decode cX8_ship 118 = .ok (.iastore, 1) := by decide +kernel
theorem dX8_ship_119 : decode cX8_ship 119 = .ok (.aload_n 0, 1) := by decide +kernel
theorem dX8_ship_120 : decode cX8_ship 120 = .ok (.getfield 19, 3) := by decide +kernel
theorem dX8_ship_123 : decode cX8_ship 123 = .ok (.dup, 1) := by decide +kernel
theorem dX8_ship_124 : decode cX8_ship 124 = .ok (.getfield 90, 3) := by decide +kernel
theorem dX8_ship_127 : decode cX8_ship 127 = .ok (.iconst 1, 1) := by decide +kernel
theorem dX8_ship_128 : decode cX8_ship 128 = .ok (.iadd, 1) := by decide +kernel
theorem dX8_ship_129 : decode cX8_ship 129 = .ok (.putfield 90, 3) := by decide +kernel
theorem dX8_ship_132 : decode cX8_ship 132 = .ok (.iload 4, 2) := by decide +kernel
theorem dX8_ship_134 : decode cX8_ship 134 = .ok (.ireturn, 1) := by decide +kernel
theorem dX8_ofShip_0 : decode cX8_ofShip 0 = .ok (.aload_n 0, 1) := by decide +kernel
theorem dX8_ofShip_1 : decode cX8_ofShip 1 = .ok (.iload_n 1, 1) := by decide +kernel
theorem dX8_ofShip_2 : decode cX8_ofShip 2 = .ok (.invokevirtual 149, 3) := by decide +kernel
theorem dX8_ofShip_5 : decode cX8_ofShip 5 = .ok (.ifCond .eq 12, 3) := by decide +kernel
theorem dX8_ofShip_8 : decode cX8_ofShip 8 = .ok (.iload_n 2, 1) := by decide +kernel
theorem dX8_ofShip_9 : decode cX8_ofShip 9 = .ok (.iconst 0, 1) := by decide +kernel
theorem dX8_ofShip_10 : decode cX8_ofShip 10 = .ok (.iconst 5, 1) := by decide +kernel
theorem dX8_ofShip_11 : decode cX8_ofShip 11 = .ok (.invokestatic 82, 3) := by decide +kernel
theorem dX8_ofShip_14 : decode cX8_ofShip 14 = .ok (.ifCond .ne 9, 3) := by decide +kernel
theorem dX8_ofShip_17 : decode cX8_ofShip 17 = .ok (.aload_n 0, 1) := by decide +kernel
theorem dX8_ofShip_18 : decode cX8_ofShip 18 = .ok (.iconst 1, 1) := by decide +kernel
theorem dX8_ofShip_19 : decode cX8_ofShip 19 = .ok (.invokevirtual 86, 3) := by decide +kernel
theorem dX8_ofShip_22 : decode cX8_ofShip 22 = .ok (.ireturn, 1) := by decide +kernel
theorem dX8_ofShip_23 : decode cX8_ofShip 23 = .ok (.iload_n 2, 1) := by decide +kernel
theorem dX8_ofShip_24 : decode cX8_ofShip 24 = .ok (.tableswitch 86 0 4 #[36, 46, 56, 66, 76], 36) := by decide +kernel
theorem dX8_ofShip_60 : decode cX8_ofShip 60 = .ok (.aload_n 0, 1) := by decide +kernel
theorem dX8_ofShip_61 : decode cX8_ofShip 61 = .ok (.getfield 19, 3) := by decide +kernel
theorem dX8_ofShip_64 : decode cX8_ofShip 64 = .ok (.getfield 134, 3) := by decide +kernel
theorem dX8_ofShip_67 : decode cX8_ofShip 67 = .ok (.iload_n 1, 1) := by decide +kernel
theorem dX8_ofShip_68 : decode cX8_ofShip 68 = .ok (.iaload, 1) := by decide +kernel
theorem dX8_ofShip_69 : decode cX8_ofShip 69 = .ok (.ireturn, 1) := by decide +kernel
theorem dX8_ofShip_70 : decode cX8_ofShip 70 = .ok (.aload_n 0, 1) := by decide +kernel
theorem dX8_ofShip_71 : decode cX8_ofShip 71 = .ok (.getfield 19, 3) := by decide +kernel
theorem dX8_ofShip_74 : decode cX8_ofShip 74 = .ok (.getfield 137, 3) := by decide +kernel
theorem dX8_ofShip_77 : decode cX8_ofShip 77 = .ok (.iload_n 1, 1) := by decide +kernel
theorem dX8_ofShip_78 : decode cX8_ofShip 78 = .ok (.iaload, 1) := by decide +kernel
theorem dX8_ofShip_79 : decode cX8_ofShip 79 = .ok (.ireturn, 1) := by decide +kernel
theorem dX8_ofShip_80 : decode cX8_ofShip 80 = .ok (.aload_n 0, 1) := by decide +kernel
theorem dX8_ofShip_81 : decode cX8_ofShip 81 = .ok (.getfield 19, 3) := by decide +kernel
theorem dX8_ofShip_84 : decode cX8_ofShip 84 = .ok (.getfield 140, 3) := by decide +kernel
theorem dX8_ofShip_87 : decode cX8_ofShip 87 = .ok (.iload_n 1, 1) := by decide +kernel
theorem dX8_ofShip_88 : decode cX8_ofShip 88 = .ok (.iaload, 1) := by decide +kernel
theorem dX8_ofShip_89 : decode cX8_ofShip 89 = .ok (.ireturn, 1) := by decide +kernel
theorem dX8_ofShip_90 : decode cX8_ofShip 90 = .ok (.aload_n 0, 1) := by decide +kernel
theorem dX8_ofShip_91 : decode cX8_ofShip 91 = .ok (.getfield 19, 3) := by decide +kernel
theorem dX8_ofShip_94 : decode cX8_ofShip 94 = .ok (.getfield 143, 3) := by decide +kernel
theorem dX8_ofShip_97 : decode cX8_ofShip 97 = .ok (.iload_n 1, 1) := by decide +kernel
theorem dX8_ofShip_98 : decode cX8_ofShip 98 = .ok (.iaload, 1) := by decide +kernel
theorem dX8_ofShip_99 : decode cX8_ofShip 99 = .ok (.ireturn, 1) := by decide +kernel
theorem dX8_ofShip_100 : decode cX8_ofShip 100 = .ok (.aload_n 0, 1) := by decide +kernel
theorem dX8_ofShip_101 : decode cX8_ofShip 101 = .ok (.getfield 19, 3) := by decide +kernel
theorem dX8_ofShip_104 : decode cX8_ofShip 104 = .ok (.getfield 146, 3) := by decide +kernel
theorem dX8_ofShip_107 : decode cX8_ofShip 107 = .ok (.iload_n 1, 1) := by decide +kernel
theorem dX8_ofShip_108 : decode cX8_ofShip 108 = .ok (.iaload, 1) := by decide +kernel
theorem dX8_ofShip_109 : decode cX8_ofShip 109 = .ok (.ireturn, 1) := by decide +kernel
theorem dX8_ofShip_110 : decode cX8_ofShip 110 = .ok (.aload_n 0, 1) := by decide +kernel
theorem dX8_ofShip_111 : decode cX8_ofShip 111 = .ok (.iload_n 1, 1) := by decide +kernel
theorem dX8_ofShip_112 : decode cX8_ofShip 112 = .ok (.invokevirtual 152, 3) := by decide +kernel
theorem dX8_ofShip_115 : decode cX8_ofShip 115 = .ok (.ireturn, 1) := by decide +kernel
theorem dX8_believedNext_0 : decode cX8_believedNext 0 = .ok (.aload_n 0, 1) := by decide +kernel
theorem dX8_believedNext_1 : decode cX8_believedNext 1 = .ok (.getfield 19, 3) := by decide +kernel
theorem dX8_believedNext_4 : decode cX8_believedNext 4 = .ok (.getfield 143, 3) := by decide +kernel
theorem dX8_believedNext_7 : decode cX8_believedNext 7 = .ok (.iload_n 1, 1) := by decide +kernel
theorem dX8_believedNext_8 : decode cX8_believedNext 8 = .ok (.iaload, 1) := by decide +kernel
theorem dX8_believedNext_9 : decode cX8_believedNext 9 = .ok (.istore_n 2, 1) := by decide +kernel
theorem dX8_believedNext_10 : decode cX8_believedNext 10 = .ok (.iload_n 2, 1) := by decide +kernel
theorem dX8_believedNext_11 : decode cX8_believedNext 11 = .ok (.ifCond .ne 5, 3) := by decide +kernel
theorem dX8_believedNext_14 : decode cX8_believedNext 14 = .ok (.iconst (-1), 1) := by decide +kernel
theorem dX8_believedNext_15 : decode cX8_believedNext 15 = .ok (.ireturn, 1) := by decide +kernel
theorem dX8_believedNext_16 : decode cX8_believedNext 16 = .ok (.aload_n 0, 1) := by decide +kernel
theorem dX8_believedNext_17 : decode cX8_believedNext 17 = .ok (.getfield 49, 3) := by decide +kernel
theorem dX8_believedNext_20 : decode cX8_believedNext 20 = .ok (.aload_n 0, 1) := by decide +kernel
theorem dX8_believedNext_21 : decode cX8_believedNext 21 = .ok (.getfield 10, 3) := by decide +kernel
theorem dX8_believedNext_24 : decode cX8_believedNext 24 = .ok (.aload_n 0, 1) := by decide +kernel
theorem dX8_believedNext_25 : decode cX8_believedNext 25 = .ok (.getfield 10, 3) := by decide +kernel
theorem dX8_believedNext_28 : decode cX8_believedNext 28 = .ok (.getfield 116, 3) := by decide +kernel
theorem dX8_believedNext_31 : decode cX8_believedNext 31 = .ok (.invokevirtual 155, 3) := by decide +kernel
theorem dX8_believedNext_34 : decode cX8_believedNext 34 = .ok (.aload_n 0, 1) := by decide +kernel
theorem dX8_believedNext_35 : decode cX8_believedNext 35 = .ok (.getfield 49, 3) := by decide +kernel
theorem dX8_believedNext_38 : decode cX8_believedNext 38 = .ok (.aload_n 0, 1) := by decide +kernel
theorem dX8_believedNext_39 : decode cX8_believedNext 39 = .ok (.getfield 19, 3) := by decide +kernel
theorem dX8_believedNext_42 : decode cX8_believedNext 42 = .ok (.getfield 134, 3) := by decide +kernel
theorem dX8_believedNext_45 : decode cX8_believedNext 45 = .ok (.iload_n 1, 1) := by decide +kernel
theorem dX8_believedNext_46 : decode cX8_believedNext 46 = .ok (.iaload, 1) := by decide +kernel
theorem dX8_believedNext_47 : decode cX8_believedNext 47 = .ok (.aload_n 0, 1) := by decide +kernel
theorem dX8_believedNext_48 : decode cX8_believedNext 48 = .ok (.getfield 19, 3) := by decide +kernel
theorem dX8_believedNext_51 : decode cX8_believedNext 51 = .ok (.getfield 137, 3) := by decide +kernel
theorem dX8_believedNext_54 : decode cX8_believedNext 54 = .ok (.iload_n 1, 1) := by decide +kernel
theorem dX8_believedNext_55 : decode cX8_believedNext 55 = .ok (.iaload, 1) := by decide +kernel
theorem dX8_believedNext_56 : decode cX8_believedNext 56 = .ok (.iload_n 2, 1) := by decide +kernel
theorem dX8_believedNext_57 : decode cX8_believedNext 57 = .ok (.iconst 1, 1) := by decide +kernel
theorem dX8_believedNext_58 : decode cX8_believedNext 58 = .ok (.isub, 1) := by decide +kernel
theorem dX8_believedNext_59 : decode cX8_believedNext 59 = .ok (.invokevirtual 159, 3) := by decide +kernel
theorem dX8_believedNext_62 : decode cX8_believedNext 62 = .ok (.ireturn, 1) := by decide +kernel
theorem dX8_change_0 : decode cX8_change 0 = .ok (.aload_n 0, 1) := by decide +kernel
theorem dX8_change_1 : decode cX8_change 1 = .ok (.iload_n 1, 1) := by decide +kernel
theorem dX8_change_2 : decode cX8_change 2 = .ok (.invokevirtual 149, 3) := by decide +kernel
theorem dX8_change_5 : decode cX8_change 5 = .ok (.ifCond .eq 25, 3) := by decide +kernel
theorem dX8_change_8 : decode cX8_change 8 = .ok (.iload_n 2, 1) := by decide +kernel
theorem dX8_change_9 : decode cX8_change 9 = .ok (.iconst 0, 1) := by decide +kernel
theorem dX8_change_10 : decode cX8_change 10 = .ok (.iconst 2, 1) := by decide +kernel
theorem dX8_change_11 : decode cX8_change 11 = .ok (.invokestatic 82, 3) := by decide +kernel
theorem dX8_change_14 : decode cX8_change 14 = .ok (.ifCond .eq 16, 3) := by decide +kernel
theorem dX8_change_17 : decode cX8_change 17 = .ok (.iload_n 3, 1) := by decide +kernel
theorem dX8_change_18 : decode cX8_change 18 = .ok (.iconst 0, 1) := by decide +kernel
theorem dX8_change_19 : decode cX8_change 19 = .ok (.aload_n 0, 1) := by decide +kernel
theorem dX8_change_20 : decode cX8_change 20 = .ok (.iload_n 2, 1) := by decide +kernel
theorem dX8_change_21 : decode cX8_change 21 = .ok (.invokevirtual 163, 3) := by decide +kernel
theorem dX8_change_24 : decode cX8_change 24 = .ok (.invokestatic 82, 3) := by decide +kernel
theorem dX8_change_27 : decode cX8_change 27 = .ok (.ifCond .ne 9, 3) := by decide +kernel
theorem dX8_change_30 : decode cX8_change 30 = .ok (.aload_n 0, 1) := by decide +kernel
theorem dX8_change_31 : decode cX8_change 31 = .ok (.iconst 1, 1) := by decide +kernel
theorem dX8_change_32 : decode cX8_change 32 = .ok (.invokevirtual 86, 3) := by decide +kernel
theorem dX8_change_35 : decode cX8_change 35 = .ok (.ireturn, 1) := by decide +kernel
theorem dX8_change_36 : decode cX8_change 36 = .ok (.iload_n 2, 1) := by decide +kernel
theorem dX8_change_37 : decode cX8_change 37 = .ok (.ifCond .ne 13, 3) := by decide +kernel
theorem dX8_change_40 : decode cX8_change 40 = .ok (.aload_n 0, 1) := by decide +kernel
theorem dX8_change_41 : decode cX8_change 41 = .ok (.getfield 19, 3) := by decide +kernel
theorem dX8_change_44 : decode cX8_change 44 = .ok (.getfield 140, 3) := by decide +kernel
theorem dX8_change_47 : decode cX8_change 47 = .ok (.goto 25, 3) := by decide +kernel
theorem dX8_change_50 : decode cX8_change 50 = .ok (.iload_n 2, 1) := by decide +kernel
theorem dX8_change_51 : decode cX8_change 51 = .ok (.iconst 1, 1) := by decide +kernel
theorem dX8_change_52 : decode cX8_change 52 = .ok (.if_icmp .ne 13, 3) := by decide +kernel
theorem dX8_change_55 : decode cX8_change 55 = .ok (.aload_n 0, 1) := by decide +kernel
theorem dX8_change_56 : decode cX8_change 56 = .ok (.getfield 19, 3) := by decide +kernel
theorem dX8_change_59 : decode cX8_change 59 = .ok (.getfield 143, 3) := by decide +kernel
theorem dX8_change_62 : decode cX8_change 62 = .ok (.goto 10, 3) := by decide +kernel
theorem dX8_change_65 : decode cX8_change 65 = .ok (.aload_n 0, 1) := by decide +kernel
theorem dX8_change_66 : decode cX8_change 66 = .ok (.getfield 19, 3) := by decide +kernel
theorem dX8_change_69 : decode cX8_change 69 = .ok (.getfield 146, 3) := by decide +kernel
theorem dX8_change_72 : decode cX8_change 72 = .ok (.astore 4, 2) := by decide +kernel
theorem dX8_change_74 : decode cX8_change 74 = .ok (.aload 4, 2) := by decide +kernel
theorem dX8_change_76 : decode cX8_change 76 = .ok (.iload_n 1, 1) := by decide +kernel
theorem dX8_change_77 : decode cX8_change 77 = .ok (.iaload, 1) := by decide +kernel
theorem dX8_change_78 : decode cX8_change 78 = .ok (.istore 5, 2) := by decide +kernel
theorem dX8_change_80 : decode cX8_change 80 = .ok (.aload 4, 2) := by decide +kernel
theorem dX8_change_82 : decode cX8_change 82 = .ok (.iload_n 1, 1) := by decide +kernel
theorem dX8_change_83 : decode cX8_change 83 = .ok (.iload_n 3, 1) := by decide +kernel
theorem dX8_change_84 : decode cX8_change 84 = .ok (.iastore, 1) := by decide +kernel
theorem dX8_change_85 : decode cX8_change 85 = .ok (.iload 5, 2) := by decide +kernel
theorem dX8_change_87 : decode cX8_change 87 = .ok (.ireturn, 1) := by decide +kernel
theorem dX8_greatestChange_0 : decode cX8_greatestChange 0 = .ok (.iload_n 1, 1) := by decide +kernel
theorem dX8_greatestChange_1 : decode cX8_greatestChange 1 = .ok (.ifCond .ne 6, 3) := by decide +kernel
theorem dX8_greatestChange_4 : decode cX8_greatestChange 4 = .ok (.bipush 9, 2) := by decide +kernel
theorem dX8_greatestChange_6 : decode cX8_greatestChange 6 = .ok (.ireturn, 1) := by decide +kernel
theorem dX8_greatestChange_7 : decode cX8_greatestChange 7 = .ok (.iload_n 1, 1) := by decide +kernel
theorem dX8_greatestChange_8 : decode cX8_greatestChange 8 = .ok (.iconst 1, 1) := by decide +kernel
theorem dX8_greatestChange_9 : decode cX8_greatestChange 9 = .ok (.if_icmp .ne 15, 3) := by decide +kernel
theorem dX8_greatestChange_12 : decode cX8_greatestChange 12 = .ok (.aload_n 0, 1) := by decide +kernel
theorem dX8_greatestChange_13 : decode cX8_greatestChange 13 = .ok (.getfield 10, 3) := by decide +kernel
theorem dX8_greatestChange_16 : decode cX8_greatestChange 16 = .ok (.getfield 93, 3) := by decide +kernel
theorem dX8_greatestChange_19 : decode cX8_greatestChange 19 = .ok (.iconst 1, 1) := by decide +kernel
theorem dX8_greatestChange_20 : decode cX8_greatestChange 20 = .ok (.isub, 1) := by decide +kernel
theorem dX8_greatestChange_21 : decode cX8_greatestChange 21 = .ok (.goto 4, 3) := by decide +kernel
theorem dX8_greatestChange_24 : decode cX8_greatestChange 24 = .ok (.iconst 1, 1) := by decide +kernel
theorem dX8_greatestChange_25 : decode cX8_greatestChange 25 = .ok (.ireturn, 1) := by decide +kernel
theorem dX8_become_0 : decode cX8_become 0 = .ok (.aload_n 0, 1) := by decide +kernel
theorem dX8_become_1 : decode cX8_become 1 = .ok (.iload_n 1, 1) := by decide +kernel
theorem dX8_become_2 : decode cX8_become 2 = .ok (.invokevirtual 149, 3) := by decide +kernel
theorem dX8_become_5 : decode cX8_become 5 = .ok (.ifCond .eq 10, 3) := by decide +kernel
theorem dX8_become_8 : decode cX8_become 8 = .ok (.iload_n 2, 1) := by decide +kernel
theorem dX8_become_9 : decode cX8_become 9 = .ok (.invokestatic 131, 3) := by decide +kernel
theorem dX8_become_12 : decode cX8_become 12 = .ok (.ifCond .ne 9, 3) := by decide +kernel
theorem dX8_become_15 : decode cX8_become 15 = .ok (.aload_n 0, 1) := by decide +kernel
theorem dX8_become_16 : decode cX8_become 16 = .ok (.iconst 1, 1) := by decide +kernel
theorem dX8_become_17 : decode cX8_become 17 = .ok (.invokevirtual 86, 3) := by decide +kernel
theorem dX8_become_20 : decode cX8_become 20 = .ok (.ireturn, 1) := by decide +kernel
theorem dX8_become_21 : decode cX8_become 21 = .ok (.aload_n 0, 1) := by decide +kernel
theorem dX8_become_22 : decode cX8_become 22 = .ok (.getfield 19, 3) := by decide +kernel
theorem dX8_become_25 : decode cX8_become 25 = .ok (.getfield 134, 3) := by decide +kernel
theorem dX8_become_28 : decode cX8_become 28 = .ok (.iload_n 1, 1) := by decide +kernel
theorem dX8_become_29 : decode cX8_become 29 = .ok (.iaload, 1) := by decide +kernel
theorem dX8_become_30 : decode cX8_become 30 = .ok (.istore_n 3, 1) := by decide +kernel
theorem dX8_become_31 : decode cX8_become 31 = .ok (.aload_n 0, 1) := by decide +kernel
theorem dX8_become_32 : decode cX8_become 32 = .ok (.getfield 19, 3) := by decide +kernel
theorem dX8_become_35 : decode cX8_become 35 = .ok (.getfield 134, 3) := by decide +kernel
theorem dX8_become_38 : decode cX8_become 38 = .ok (.iload_n 1, 1) := by decide +kernel
theorem dX8_become_39 : decode cX8_become 39 = .ok (.iload_n 2, 1) := by decide +kernel
theorem dX8_become_40 : decode cX8_become 40 = .ok (.bipush 10, 2) := by decide +kernel
theorem dX8_become_42 : decode cX8_become 42 = .ok (.idiv, 1) := by decide +kernel
theorem dX8_become_43 : decode cX8_become 43 = .ok (.iastore, 1) := by decide +kernel
theorem dX8_become_44 : decode cX8_become 44 = .ok (.aload_n 0, 1) := by decide +kernel
theorem dX8_become_45 : decode cX8_become 45 = .ok (.getfield 19, 3) := by decide +kernel
theorem dX8_become_48 : decode cX8_become 48 = .ok (.getfield 137, 3) := by decide +kernel
theorem dX8_become_51 : decode cX8_become 51 = .ok (.iload_n 1, 1) := by decide +kernel
theorem dX8_become_52 : decode cX8_become 52 = .ok (.iload_n 2, 1) := by decide +kernel
theorem dX8_become_53 : decode cX8_become 53 = .ok (.bipush 10, 2) := by decide +kernel
theorem dX8_become_55 : decode cX8_become 55 = .ok (.irem, 1) := by decide +kernel
theorem dX8_become_56 : decode cX8_become 56 = .ok (.iastore, 1) := by decide +kernel
theorem dX8_become_57 : decode cX8_become 57 = .ok (.iload_n 3, 1) := by decide +kernel
theorem dX8_become_58 : decode cX8_become 58 = .ok (.ireturn, 1) := by decide +kernel
theorem dX8_as_0 : decode cX8_as 0 = .ok (.aload_n 0, 1) := by decide +kernel
theorem dX8_as_1 : decode cX8_as 1 = .ok (.iload_n 1, 1) := by decide +kernel
theorem dX8_as_2 : decode cX8_as 2 = .ok (.invokevirtual 149, 3) := by decide +kernel
theorem dX8_as_5 : decode cX8_as 5 = .ok (.ifCond .eq 13, 3) := by decide +kernel
theorem dX8_as_8 : decode cX8_as 8 = .ok (.iload_n 2, 1) := by decide +kernel
theorem dX8_as_9 : decode cX8_as 9 = .ok (.iconst 0, 1) := by decide +kernel
theorem dX8_as_10 : decode cX8_as 10 = .ok (.bipush 6, 2) := by decide +kernel
theorem dX8_as_12 : decode cX8_as 12 = .ok (.invokestatic 82, 3) := by decide +kernel
theorem dX8_as_15 : decode cX8_as 15 = .ok (.ifCond .ne 9, 3) := by decide +kernel
theorem dX8_as_18 : decode cX8_as 18 = .ok (.aload_n 0, 1) := by decide +kernel
theorem dX8_as_19 : decode cX8_as 19 = .ok (.iconst 1, 1) := by decide +kernel
theorem dX8_as_20 : decode cX8_as 20 = .ok (.invokevirtual 86, 3) := by decide +kernel
theorem dX8_as_23 : decode cX8_as 23 = .ok (.ireturn, 1) := by decide +kernel
theorem dX8_as_24 : decode cX8_as 24 = .ok (.aload_n 0, 1) := by decide +kernel
theorem dX8_as_25 : decode cX8_as 25 = .ok (.getfield 19, 3) := by decide +kernel
theorem dX8_as_28 : decode cX8_as 28 = .ok (.getfield 134, 3) := by decide +kernel
theorem dX8_as_31 : decode cX8_as 31 = .ok (.iload_n 1, 1) := by decide +kernel
theorem dX8_as_32 : decode cX8_as 32 = .ok (.iaload, 1) := by decide +kernel
theorem dX8_as_33 : decode cX8_as 33 = .ok (.iload_n 2, 1) := by decide +kernel
theorem dX8_as_34 : decode cX8_as 34 = .ok (.invokestatic 166, 3) := by decide +kernel
theorem dX8_as_37 : decode cX8_as 37 = .ok (.ifCond .eq 15, 3) := by decide +kernel
theorem dX8_as_40 : decode cX8_as 40 = .ok (.aload_n 0, 1) := by decide +kernel
theorem dX8_as_41 : decode cX8_as 41 = .ok (.getfield 19, 3) := by decide +kernel
theorem dX8_as_44 : decode cX8_as 44 = .ok (.getfield 137, 3) := by decide +kernel
theorem dX8_as_47 : decode cX8_as 47 = .ok (.iload_n 1, 1) := by decide +kernel
theorem dX8_as_48 : decode cX8_as 48 = .ok (.iaload, 1) := by decide +kernel
theorem dX8_as_49 : decode cX8_as 49 = .ok (.goto 8, 3) := by decide +kernel
theorem dX8_as_52 : decode cX8_as 52 = .ok (.aload_n 0, 1) := by decide +kernel
theorem dX8_as_53 : decode cX8_as 53 = .ok (.iconst 5, 1) := by decide +kernel
theorem dX8_as_54 : decode cX8_as 54 = .ok (.invokevirtual 86, 3) := by decide +kernel
theorem dX8_as_57 : decode cX8_as 57 = .ok (.ireturn, 1) := by decide +kernel
theorem dX8_isUnder_0 : decode cX8_isUnder 0 = .ok (.iload_n 0, 1) := by decide +kernel
theorem dX8_isUnder_1 : decode cX8_isUnder 1 = .ok (.istore_n 2, 1) := by decide +kernel
theorem dX8_isUnder_2 : decode cX8_isUnder 2 = .ok (.iconst 0, 1) := by decide +kernel
theorem dX8_isUnder_3 : decode cX8_isUnder 3 = .ok (.istore_n 3, 1) := by decide +kernel
theorem dX8_isUnder_4 : decode cX8_isUnder 4 = .ok (.iload_n 3, 1) := by decide +kernel
theorem dX8_isUnder_5 : decode cX8_isUnder 5 = .ok (.bipush 6, 2) := by decide +kernel
theorem dX8_isUnder_7 : decode cX8_isUnder 7 = .ok (.if_icmp .gt 22, 3) := by decide +kernel
theorem dX8_isUnder_10 : decode cX8_isUnder 10 = .ok (.iload_n 2, 1) := by decide +kernel
theorem dX8_isUnder_11 : decode cX8_isUnder 11 = .ok (.iload_n 1, 1) := by decide +kernel
theorem dX8_isUnder_12 : decode cX8_isUnder 12 = .ok (.if_icmp .ne 5, 3) := by decide +kernel
theorem dX8_isUnder_15 : decode cX8_isUnder 15 = .ok (.iconst 1, 1) := by decide +kernel
theorem dX8_isUnder_16 : decode cX8_isUnder 16 = .ok (.ireturn, 1) := by decide +kernel
theorem dX8_isUnder_17 : decode cX8_isUnder 17 = .ok (.getstatic 170, 3) := by decide +kernel
theorem dX8_isUnder_20 : decode cX8_isUnder 20 = .ok (.iload_n 2, 1) := by decide +kernel
theorem dX8_isUnder_21 : decode cX8_isUnder 21 = .ok (.iaload, 1) := by decide +kernel
theorem dX8_isUnder_22 : decode cX8_isUnder 22 = .ok (.istore_n 2, 1) := by decide +kernel
theorem dX8_isUnder_23 : decode cX8_isUnder 23 = .ok (.iinc 3 1, 3) := by decide +kernel
theorem dX8_isUnder_26 : decode cX8_isUnder 26 = .ok (.goto (-22), 3) := by decide +kernel
theorem dX8_isUnder_29 : decode cX8_isUnder 29 = .ok (.iconst 0, 1) := by decide +kernel
theorem dX8_isUnder_30 : decode cX8_isUnder 30 = .ok (.ireturn, 1) := by decide +kernel
theorem dX8_feed_0 : decode cX8_feed 0 = .ok (.iload_n 3, 1) := by decide +kernel
theorem dX8_feed_1 : decode cX8_feed 1 = .ok (.iconst 1, 1) := by decide +kernel
theorem dX8_feed_2 : decode cX8_feed 2 = .ok (.bipush 8, 2) := by decide +kernel
theorem dX8_feed_4 : decode cX8_feed 4 = .ok (.invokestatic 82, 3) := by decide +kernel
theorem dX8_feed_7 : decode cX8_feed 7 = .ok (.ifCond .ne 9, 3) := by decide +kernel
theorem dX8_feed_10 : decode cX8_feed 10 = .ok (.aload_n 0, 1) := by decide +kernel
theorem dX8_feed_11 : decode cX8_feed 11 = .ok (.iconst 1, 1) := by decide +kernel
theorem dX8_feed_12 : decode cX8_feed 12 = .ok (.invokevirtual 86, 3) := by decide +kernel
theorem dX8_feed_15 : decode cX8_feed 15 = .ok (.ireturn, 1) := by decide +kernel
theorem dX8_feed_16 : decode cX8_feed 16 = .ok (.aload_n 0, 1) := by decide +kernel
theorem dX8_feed_17 : decode cX8_feed 17 = .ok (.getfield 26, 3) := by decide +kernel
theorem dX8_feed_20 : decode cX8_feed 20 = .ok (.getfield 173, 3) := by decide +kernel
theorem dX8_feed_23 : decode cX8_feed 23 = .ok (.bipush 50, 2) := by decide +kernel
theorem dX8_feed_25 : decode cX8_feed 25 = .ok (.iload_n 3, 1) := by decide +kernel
theorem dX8_feed_26 : decode cX8_feed 26 = .ok (.isub, 1) := by decide +kernel
theorem dX8_feed_27 : decode cX8_feed 27 = .ok (.if_icmp .le 9, 3) := by decide +kernel
theorem dX8_feed_30 : decode cX8_feed 30 = .ok (.aload_n 0, 1) := by decide +kernel
theorem dX8_feed_31 : decode cX8_feed 31 = .ok (.iconst 4, 1) := by decide +kernel
theorem dX8_feed_32 : decode cX8_feed 32 = .ok (.invokevirtual 86, 3) := by decide +kernel
theorem dX8_feed_35 : decode cX8_feed 35 = .ok (.ireturn, 1) := by decide +kernel
theorem dX8_feed_36 : decode cX8_feed 36 = .ok (.iconst 0, 1) := by decide +kernel
theorem dX8_feed_37 : decode cX8_feed 37 = .ok (.istore 4, 2) := by decide +kernel
theorem dX8_feed_39 : decode cX8_feed 39 = .ok (.iload 4, 2) := by decide +kernel
theorem dX8_feed_41 : decode cX8_feed 41 = .ok (.iload_n 3, 1) := by decide +kernel
theorem dX8_feed_42 : decode cX8_feed 42 = .ok (.if_icmp .ge 49, 3) := by decide +kernel
theorem dX8_feed_45 : decode cX8_feed 45 = .ok (.aload_n 0, 1) := by decide +kernel
theorem dX8_feed_46 : decode cX8_feed 46 = .ok (.getfield 26, 3) := by decide +kernel
theorem dX8_feed_49 : decode cX8_feed 49 = .ok (.getfield 176, 3) := by decide +kernel
theorem dX8_feed_52 : decode cX8_feed 52 = .ok (.aload_n 0, 1) := by decide +kernel
theorem dX8_feed_53 : decode cX8_feed 53 = .ok (.getfield 26, 3) := by decide +kernel
theorem dX8_feed_56 : decode cX8_feed 56 = .ok (.getfield 173, 3) := by decide +kernel
theorem dX8_feed_59 : decode cX8_feed 59 = .ok (.lload_n 1, 1) := by decide +kernel
theorem dX8_feed_60 : decode cX8_feed 60 = .ok (.bipush 8, 2) := by decide +kernel
theorem dX8_feed_62 : decode cX8_feed 62 = .ok (.iload 4, 2) := by decide +kernel
theorem dX8_feed_64 : decode cX8_feed 64 = .ok (.imul, 1) := by decide +kernel
theorem dX8_feed_65 : decode cX8_feed 65 = .ok (.lushr, 1) := by decide +kernel
theorem dX8_feed_66 : decode cX8_feed 66 = .ok (.l2i, 1) := by decide +kernel
theorem dX8_feed_67 : decode cX8_feed 67 = .ok (.sipush 255, 3) := by decide +kernel
theorem dX8_feed_70 : decode cX8_feed 70 = .ok (.iand, 1) := by decide +kernel
theorem dX8_feed_71 : decode cX8_feed 71 = .ok (.iastore, 1) := by decide +kernel
theorem dX8_feed_72 : decode cX8_feed 72 = .ok (.aload_n 0, 1) := by decide +kernel
theorem dX8_feed_73 : decode cX8_feed 73 = .ok (.getfield 26, 3) := by decide +kernel
theorem dX8_feed_76 : decode cX8_feed 76 = .ok (.dup, 1) := by decide +kernel
theorem dX8_feed_77 : decode cX8_feed 77 = .ok (.getfield 173, 3) := by decide +kernel
theorem dX8_feed_80 : decode cX8_feed 80 = .ok (.iconst 1, 1) := by decide +kernel
theorem dX8_feed_81 : decode cX8_feed 81 = .ok (.iadd, 1) := by decide +kernel
theorem dX8_feed_82 : decode cX8_feed 82 = .ok (.putfield 173, 3) := by decide +kernel
theorem dX8_feed_85 : decode cX8_feed 85 = .ok (.iinc 4 1, 3) := by decide +kernel
theorem dX8_feed_88 : decode cX8_feed 88 = .ok (.goto (-49), 3) := by decide +kernel
theorem dX8_feed_91 : decode cX8_feed 91 = .ok (.aload_n 0, 1) := by decide +kernel
theorem dX8_feed_92 : decode cX8_feed 92 = .ok (.getfield 26, 3) := by decide +kernel
theorem dX8_feed_95 : decode cX8_feed 95 = .ok (.getfield 173, 3) := by decide +kernel
theorem dX8_feed_98 : decode cX8_feed 98 = .ok (.ireturn, 1) := by decide +kernel
theorem dX8_text_0 : decode cX8_text 0 = .ok (.iload_n 1, 1) := by decide +kernel
theorem dX8_text_1 : decode cX8_text 1 = .ok (.invokestatic 179, 3) := by decide +kernel
theorem dX8_text_4 : decode cX8_text 4 = .ok (.ifCond .ne 9, 3) := by decide +kernel
theorem dX8_text_7 : decode cX8_text 7 = .ok (.aload_n 0, 1) := by decide +kernel
theorem dX8_text_8 : decode cX8_text 8 = .ok (.iconst 1, 1) := by decide +kernel
theorem dX8_text_9 : decode cX8_text 9 = .ok (.invokevirtual 86, 3) := by decide +kernel
theorem dX8_text_12 : decode cX8_text 12 = .ok (.ireturn, 1) := by decide +kernel
theorem dX8_text_13 : decode cX8_text 13 = .ok (.aload_n 0, 1) := by decide +kernel
theorem dX8_text_14 : decode cX8_text 14 = .ok (.getfield 56, 3) := by decide +kernel
theorem dX8_text_17 : decode cX8_text 17 = .ok (.aload_n 0, 1) := by decide +kernel
theorem dX8_text_18 : decode cX8_text 18 = .ok (.getfield 26, 3) := by decide +kernel
theorem dX8_text_21 : decode cX8_text 21 = .ok (.getfield 176, 3) := by decide +kernel
theorem dX8_text_24 : decode cX8_text 24 = .ok (.aload_n 0, 1) := by decide +kernel
theorem dX8_text_25 : decode cX8_text 25 = .ok (.getfield 26, 3) := by decide +kernel
theorem dX8_text_28 : decode cX8_text 28 = .ok (.getfield 173, 3) := by decide +kernel
theorem dX8_text_31 : decode cX8_text 31 = .ok (.iload_n 1, 1) := by decide +kernel
theorem dX8_text_32 : decode cX8_text 32 = .ok (.invokevirtual 182, 3) := by decide +kernel
theorem dX8_text_35 : decode cX8_text 35 = .ok (.istore_n 2, 1) := by decide +kernel
theorem dX8_text_36 : decode cX8_text 36 = .ok (.aload_n 0, 1) := by decide +kernel
theorem dX8_text_37 : decode cX8_text 37 = .ok (.getfield 26, 3) := by decide +kernel
theorem dX8_text_40 : decode cX8_text 40 = .ok (.iconst 0, 1) := by decide +kernel
theorem dX8_text_41 : decode cX8_text 41 = .ok (.putfield 173, 3) := by decide +kernel
theorem dX8_text_44 : decode cX8_text 44 = .ok (.iload_n 2, 1) := by decide +kernel
theorem dX8_text_45 : decode cX8_text 45 = .ok (.ifCond .lt 8, 3) := by decide +kernel
theorem dX8_text_48 : decode cX8_text 48 = .ok (.bipush (-10), 2) := by decide +kernel
theorem dX8_text_50 : decode cX8_text 50 = .ok (.iload_n 2, 1) := by decide +kernel
theorem dX8_text_51 : decode cX8_text 51 = .ok (.isub, 1) := by decide +kernel
theorem dX8_text_52 : decode cX8_text 52 = .ok (.ireturn, 1) := by decide +kernel
theorem dX8_text_53 : decode cX8_text 53 = .ok (.aload_n 0, 1) := by decide +kernel
theorem dX8_text_54 : decode cX8_text 54 = .ok (.getfield 10, 3) := by decide +kernel
theorem dX8_text_57 : decode cX8_text 57 = .ok (.iload_n 1, 1) := by decide +kernel
theorem dX8_text_58 : decode cX8_text 58 = .ok (.invokevirtual 186, 3) := by decide +kernel
theorem dX8_text_61 : decode cX8_text 61 = .ok (.aload_n 0, 1) := by decide +kernel
theorem dX8_text_62 : decode cX8_text 62 = .ok (.getfield 56, 3) := by decide +kernel
theorem dX8_text_65 : decode cX8_text 65 = .ok (.getfield 190, 3) := by decide +kernel
theorem dX8_text_68 : decode cX8_text 68 = .ok (.invokevirtual 194, 3) := by decide +kernel
theorem dX8_text_71 : decode cX8_text 71 = .ok (.iconst 1, 1) := by decide +kernel
theorem dX8_text_72 : decode cX8_text 72 = .ok (.ireturn, 1) := by decide +kernel
theorem dX8_law_0 : decode cX8_law 0 = .ok (.iload_n 1, 1) := by decide +kernel
theorem dX8_law_1 : decode cX8_law 1 = .ok (.invokestatic 179, 3) := by decide +kernel
theorem dX8_law_4 : decode cX8_law 4 = .ok (.ifCond .eq 18, 3) := by decide +kernel
theorem dX8_law_7 : decode cX8_law 7 = .ok (.aload_n 0, 1) := by decide +kernel
theorem dX8_law_8 : decode cX8_law 8 = .ok (.getfield 10, 3) := by decide +kernel
theorem dX8_law_11 : decode cX8_law 11 = .ok (.iload_n 1, 1) := by decide +kernel
theorem dX8_law_12 : decode cX8_law 12 = .ok (.iload_n 2, 1) := by decide +kernel
theorem dX8_law_13 : decode cX8_law 13 = .ok (.iload_n 3, 1) := by decide +kernel
theorem dX8_law_14 : decode cX8_law 14 = .ok (.iload 4, 2) := by decide +kernel
theorem dX8_law_16 : decode cX8_law 16 = .ok (.invokevirtual 200, 3) := by decide +kernel
theorem dX8_law_19 : decode cX8_law 19 = .ok (.goto 8, 3) := by decide +kernel
theorem dX8_law_22 : decode cX8_law 22 = .ok (.aload_n 0, 1) := by decide +kernel
theorem dX8_law_23 : decode cX8_law 23 = .ok (.iconst 1, 1) := by decide +kernel
theorem dX8_law_24 : decode cX8_law 24 = .ok (.invokevirtual 86, 3) := by decide +kernel
theorem dX8_law_27 : decode cX8_law 27 = .ok (.ireturn, 1) := by decide +kernel
theorem dX8_hours_0 : decode cX8_hours 0 = .ok (.iload_n 1, 1) := by decide +kernel
theorem dX8_hours_1 : decode cX8_hours 1 = .ok (.iconst 1, 1) := by decide +kernel
theorem dX8_hours_2 : decode cX8_hours 2 = .ok (.bipush 60, 2) := by decide +kernel
theorem dX8_hours_4 : decode cX8_hours 4 = .ok (.invokestatic 82, 3) := by decide +kernel
theorem dX8_hours_7 : decode cX8_hours 7 = .ok (.ifCond .ne 9, 3) := by decide +kernel
theorem dX8_hours_10 : decode cX8_hours 10 = .ok (.aload_n 0, 1) := by decide +kernel
theorem dX8_hours_11 : decode cX8_hours 11 = .ok (.iconst 1, 1) := by decide +kernel
theorem dX8_hours_12 : decode cX8_hours 12 = .ok (.invokevirtual 86, 3) := by decide +kernel
theorem dX8_hours_15 : decode cX8_hours 15 = .ok (.ireturn, 1) := by decide +kernel
theorem dX8_hours_16 : decode cX8_hours 16 = .ok (.aload_n 0, 1) := by decide +kernel
theorem dX8_hours_17 : decode cX8_hours 17 = .ok (.getfield 19, 3) := by decide +kernel
theorem dX8_hours_20 : decode cX8_hours 20 = .ok (.getfield 204, 3) := by decide +kernel
theorem dX8_hours_23 : decode cX8_hours 23 = .ok (.sipush 9999, 3) := by decide +kernel
theorem dX8_hours_26 : decode cX8_hours 26 = .ok (.iload_n 1, 1) := by decide +kernel
theorem dX8_hours_27 : decode cX8_hours 27 = .ok (.isub, 1) := by decide +kernel
theorem dX8_hours_28 : decode cX8_hours 28 = .ok (.if_icmp .le 9, 3) := by decide +kernel
theorem dX8_hours_31 : decode cX8_hours 31 = .ok (.aload_n 0, 1) := by decide +kernel
theorem dX8_hours_32 : decode cX8_hours 32 = .ok (.iconst 3, 1) := by decide +kernel
theorem dX8_hours_33 : decode cX8_hours 33 = .ok (.invokevirtual 86, 3) := by decide +kernel
theorem dX8_hours_36 : decode cX8_hours 36 = .ok (.ireturn, 1) := by decide +kernel
theorem dX8_hours_37 : decode cX8_hours 37 = .ok (.aload_n 0, 1) := by decide +kernel
theorem dX8_hours_38 : decode cX8_hours 38 = .ok (.getfield 49, 3) := by decide +kernel
theorem dX8_hours_41 : decode cX8_hours 41 = .ok (.aload_n 0, 1) := by decide +kernel
theorem dX8_hours_42 : decode cX8_hours 42 = .ok (.getfield 10, 3) := by decide +kernel
theorem dX8_hours_45 : decode cX8_hours 45 = .ok (.aload_n 0, 1) := by decide +kernel
theorem dX8_hours_46 : decode cX8_hours 46 = .ok (.getfield 10, 3) := by decide +kernel
theorem dX8_hours_49 : decode cX8_hours 49 = .ok (.getfield 116, 3) := by decide +kernel
theorem dX8_hours_52 : decode cX8_hours 52 = .ok (.invokevirtual 155, 3) := by decide +kernel
theorem dX8_hours_55 : decode cX8_hours 55 = .ok (.iconst 0, 1) := by decide +kernel
theorem dX8_hours_56 : decode cX8_hours 56 = .ok (.istore_n 2, 1) := by decide +kernel
theorem dX8_hours_57 : decode cX8_hours 57 = .ok (.iload_n 2, 1) := by decide +kernel
theorem dX8_hours_58 : decode cX8_hours 58 = .ok (.iload_n 1, 1) := by decide +kernel
theorem dX8_hours_59 : decode cX8_hours 59 = .ok (.if_icmp .ge 17, 3) := by decide +kernel
theorem dX8_hours_62 : decode cX8_hours 62 = .ok (.aload_n 0, 1) := by decide +kernel
theorem dX8_hours_63 : decode cX8_hours 63 = .ok (.aload_n 0, 1) := by decide +kernel
theorem dX8_hours_64 : decode cX8_hours 64 = .ok (.getfield 19, 3) := by decide +kernel
theorem dX8_hours_67 : decode cX8_hours 67 = .ok (.invokevirtual 207, 3) := by decide +kernel
theorem dX8_hours_70 : decode cX8_hours 70 = .ok (.iinc 2 1, 3) := by decide +kernel
theorem dX8_hours_73 : decode cX8_hours 73 = .ok (.goto (-16), 3) := by decide +kernel
theorem dX8_hours_76 : decode cX8_hours 76 = .ok (.aload_n 0, 1) := by decide +kernel
theorem dX8_hours_77 : decode cX8_hours 77 = .ok (.getfield 19, 3) := by decide +kernel
theorem dX8_hours_80 : decode cX8_hours 80 = .ok (.iconst 0, 1) := by decide +kernel
theorem dX8_hours_81 : decode cX8_hours 81 = .ok (.invokevirtual 211, 3) := by decide +kernel
theorem dX8_hours_84 : decode cX8_hours 84 = .ok (.ireturn, 1) := by decide +kernel
theorem dX8_loose_0 : decode cX8_loose 0 = .ok (.iload_n 1, 1) := by decide +kernel
theorem dX8_loose_1 : decode cX8_loose 1 = .ok (.iconst 1, 1) := by decide +kernel
theorem dX8_loose_2 : decode cX8_loose 2 = .ok (.bipush 40, 2) := by decide +kernel
theorem dX8_loose_4 : decode cX8_loose 4 = .ok (.invokestatic 82, 3) := by decide +kernel
theorem dX8_loose_7 : decode cX8_loose 7 = .ok (.ifCond .ne 9, 3) := by decide +kernel
theorem dX8_loose_10 : decode cX8_loose 10 = .ok (.aload_n 0, 1) := by decide +kernel
theorem dX8_loose_11 : decode cX8_loose 11 = .ok (.iconst 1, 1) := by decide +kernel
theorem dX8_loose_12 : decode cX8_loose 12 = .ok (.invokevirtual 86, 3) := by decide +kernel
theorem dX8_loose_15 : decode cX8_loose 15 = .ok (.ireturn, 1) := by decide +kernel
theorem dX8_loose_16 : decode cX8_loose 16 = .ok (.aload_n 0, 1) := by decide +kernel
theorem dX8_loose_17 : decode cX8_loose 17 = .ok (.getfield 19, 3) := by decide +kernel
theorem dX8_loose_20 : decode cX8_loose 20 = .ok (.getfield 204, 3) := by decide +kernel
theorem dX8_loose_23 : decode cX8_loose 23 = .ok (.sipush 9999, 3) := by decide +kernel
theorem dX8_loose_26 : decode cX8_loose 26 = .ok (.iload_n 1, 1) := by decide +kernel
theorem dX8_loose_27 : decode cX8_loose 27 = .ok (.isub, 1) := by decide +kernel
theorem dX8_loose_28 : decode cX8_loose 28 = .ok (.if_icmp .le 9, 3) := by decide +kernel
theorem dX8_loose_31 : decode cX8_loose 31 = .ok (.aload_n 0, 1) := by decide +kernel
theorem dX8_loose_32 : decode cX8_loose 32 = .ok (.iconst 3, 1) := by decide +kernel
theorem dX8_loose_33 : decode cX8_loose 33 = .ok (.invokevirtual 86, 3) := by decide +kernel
theorem dX8_loose_36 : decode cX8_loose 36 = .ok (.ireturn, 1) := by decide +kernel
theorem dX8_loose_37 : decode cX8_loose 37 = .ok (.iconst 0, 1) := by decide +kernel
theorem dX8_loose_38 : decode cX8_loose 38 = .ok (.istore_n 2, 1) := by decide +kernel
theorem dX8_loose_39 : decode cX8_loose 39 = .ok (.iload_n 2, 1) := by decide +kernel
theorem dX8_loose_40 : decode cX8_loose 40 = .ok (.iload_n 1, 1) := by decide +kernel
theorem dX8_loose_41 : decode cX8_loose 41 = .ok (.if_icmp .ge 52, 3) := by decide +kernel
theorem dX8_loose_44 : decode cX8_loose 44 = .ok (.aload_n 0, 1) := by decide +kernel
theorem dX8_loose_45 : decode cX8_loose 45 = .ok (.getfield 10, 3) := by decide +kernel
theorem dX8_loose_48 : decode cX8_loose 48 = .ok (.aload_n 0, 1) := by decide +kernel
theorem dX8_loose_49 : decode cX8_loose 49 = .ok (.getfield 26, 3) := by decide +kernel
theorem dX8_loose_52 : decode cX8_loose 52 = .ok (.invokevirtual 214, 3) := by decide +kernel
theorem dX8_loose_55 : decode cX8_loose 55 = .ok (.bipush 100, 2) := by decide +kernel
theorem dX8_loose_57 : decode cX8_loose 57 = .ok (.irem, 1) := by decide +kernel
theorem dX8_loose_58 : decode cX8_loose 58 = .ok (.putfield 116, 3) := by decide +kernel
theorem dX8_loose_61 : decode cX8_loose 61 = .ok (.aload_n 0, 1) := by decide +kernel
theorem dX8_loose_62 : decode cX8_loose 62 = .ok (.getfield 49, 3) := by decide +kernel
theorem dX8_loose_65 : decode cX8_loose 65 = .ok (.aload_n 0, 1) := by decide +kernel
theorem dX8_loose_66 : decode cX8_loose 66 = .ok (.getfield 10, 3) := by decide +kernel
theorem dX8_loose_69 : decode cX8_loose 69 = .ok (.aload_n 0, 1) := by decide +kernel
theorem dX8_loose_70 : decode cX8_loose 70 = .ok (.getfield 10, 3) := by decide +kernel
theorem dX8_loose_73 : decode cX8_loose 73 = .ok (.getfield 116, 3) := by decide +kernel
theorem dX8_loose_76 : decode cX8_loose 76 = .ok (.invokevirtual 155, 3) := by decide +kernel
theorem dX8_loose_79 : decode cX8_loose 79 = .ok (.aload_n 0, 1) := by decide +kernel
theorem dX8_loose_80 : decode cX8_loose 80 = .ok (.aload_n 0, 1) := by decide +kernel
theorem dX8_loose_81 : decode cX8_loose 81 = .ok (.getfield 19, 3) := by decide +kernel
theorem dX8_loose_84 : decode cX8_loose 84 = .ok (.invokevirtual 207, 3) := by decide +kernel
theorem dX8_loose_87 : decode cX8_loose 87 = .ok (.iinc 2 1, 3) := by decide +kernel
theorem dX8_loose_90 : decode cX8_loose 90 = .ok (.goto (-51), 3) := by decide +kernel
theorem dX8_loose_93 : decode cX8_loose 93 = .ok (.aload_n 0, 1) := by decide +kernel
theorem dX8_loose_94 : decode cX8_loose 94 = .ok (.getfield 19, 3) := by decide +kernel
theorem dX8_loose_97 : decode cX8_loose 97 = .ok (.iconst 0, 1) := by decide +kernel
theorem dX8_loose_98 : decode cX8_loose 98 = .ok (.invokevirtual 211, 3) := by decide +kernel
theorem dX8_loose_101 : decode cX8_loose 101 = .ok (.ireturn, 1) := by decide +kernel
theorem dX8_depth_0 : decode cX8_depth 0 = .ok (.aload_n 0, 1) := by decide +kernel
theorem dX8_depth_1 : decode cX8_depth 1 = .ok (.iload_n 1, 1) := by decide +kernel
theorem dX8_depth_2 : decode cX8_depth 2 = .ok (.invokevirtual 96, 3) := by decide +kernel
theorem dX8_depth_5 : decode cX8_depth 5 = .ok (.ifCond .eq 15, 3) := by decide +kernel
theorem dX8_depth_8 : decode cX8_depth 8 = .ok (.iload_n 2, 1) := by decide +kernel
theorem dX8_depth_9 : decode cX8_depth 9 = .ok (.bipush (-99), 2) := by decide +kernel
theorem dX8_depth_11 : decode cX8_depth 11 = .ok (.sipush 999, 3) := by decide +kernel
theorem dX8_depth_14 : decode cX8_depth 14 = .ok (.invokestatic 82, 3) := by decide +kernel
theorem dX8_depth_17 : decode cX8_depth 17 = .ok (.ifCond .ne 9, 3) := by decide +kernel
theorem dX8_depth_20 : decode cX8_depth 20 = .ok (.aload_n 0, 1) := by decide +kernel
theorem dX8_depth_21 : decode cX8_depth 21 = .ok (.iconst 1, 1) := by decide +kernel
theorem dX8_depth_22 : decode cX8_depth 22 = .ok (.invokevirtual 86, 3) := by decide +kernel
theorem dX8_depth_25 : decode cX8_depth 25 = .ok (.ireturn, 1) := by decide +kernel
theorem dX8_depth_26 : decode cX8_depth 26 = .ok (.aload_n 0, 1) := by decide +kernel
theorem dX8_depth_27 : decode cX8_depth 27 = .ok (.getfield 10, 3) := by decide +kernel
theorem dX8_depth_30 : decode cX8_depth 30 = .ok (.iload_n 1, 1) := by decide +kernel
theorem dX8_depth_31 : decode cX8_depth 31 = .ok (.iload_n 2, 1) := by decide +kernel
theorem dX8_depth_32 : decode cX8_depth 32 = .ok (.invokevirtual 112, 3) := by decide +kernel
theorem dX8_depth_35 : decode cX8_depth 35 = .ok (.ireturn, 1) := by decide +kernel
theorem dX8_passHour_0 : decode cX8_passHour 0 = .ok (.iconst 0, 1) := by decide +kernel
theorem dX8_passHour_1 : decode cX8_passHour 1 = .ok (.istore_n 2, 1) := by decide +kernel
theorem dX8_passHour_2 : decode cX8_passHour 2 = .ok (.iload_n 2, 1) := by decide +kernel
theorem dX8_passHour_3 : decode cX8_passHour 3 = .ok (.aload_n 1, 1) := by decide +kernel
theorem dX8_passHour_4 : decode cX8_passHour 4 = .ok (.getfield 90, 3) := by decide +kernel
theorem dX8_passHour_7 : decode cX8_passHour 7 = .ok (.if_icmp .ge 33, 3) := by decide +kernel
theorem dX8_passHour_10 : decode cX8_passHour 10 = .ok (.aload_n 1, 1) := by decide +kernel
theorem dX8_passHour_11 : decode cX8_passHour 11 = .ok (.getfield 146, 3) := by decide +kernel
theorem dX8_passHour_14 : decode cX8_passHour 14 = .ok (.iload_n 2, 1) := by decide +kernel
theorem dX8_passHour_15 : decode cX8_passHour 15 = .ok (.iaload, 1) := by decide +kernel
theorem dX8_passHour_16 : decode cX8_passHour 16 = .ok (.ifCond .ne 18, 3) := by decide +kernel
theorem dX8_passHour_19 : decode cX8_passHour 19 = .ok (.aload_n 1, 1) := by decide +kernel
theorem dX8_passHour_20 : decode cX8_passHour 20 = .ok (.getfield 143, 3) := by decide +kernel
theorem dX8_passHour_23 : decode cX8_passHour 23 = .ok (.iload_n 2, 1) := by decide +kernel
theorem dX8_passHour_24 : decode cX8_passHour 24 = .ok (.iaload, 1) := by decide +kernel
theorem dX8_passHour_25 : decode cX8_passHour 25 = .ok (.ifCond .le 9, 3) := by decide +kernel
theorem dX8_passHour_28 : decode cX8_passHour 28 = .ok (.aload_n 0, 1) := by decide +kernel
theorem dX8_passHour_29 : decode cX8_passHour 29 = .ok (.aload_n 1, 1) := by decide +kernel
theorem dX8_passHour_30 : decode cX8_passHour 30 = .ok (.iload_n 2, 1) := by decide +kernel
theorem dX8_passHour_31 : decode cX8_passHour 31 = .ok (.invokevirtual 218, 3) := by decide +kernel
theorem dX8_passHour_34 : decode cX8_passHour 34 = .ok (.iinc 2 1, 3) := by decide +kernel
theorem dX8_passHour_37 : decode cX8_passHour 37 = .ok (.goto (-35), 3) := by decide +kernel
theorem dX8_passHour_40 : decode cX8_passHour 40 = .ok (.aload_n 1, 1) := by decide +kernel
theorem dX8_passHour_41 : decode cX8_passHour 41 = .ok (.dup, 1) := by decide +kernel
theorem dX8_passHour_42 : decode cX8_passHour 42 = .ok (.getfield 204, 3) := by decide +kernel
theorem dX8_passHour_45 : decode cX8_passHour 45 = .ok (.iconst 1, 1) := by decide +kernel
theorem dX8_passHour_46 : decode cX8_passHour 46 = .ok (.iadd, 1) := by decide +kernel
theorem dX8_passHour_47 : decode cX8_passHour 47 = .ok (.putfield 204, 3) := by decide +kernel
theorem dX8_passHour_50 : decode cX8_passHour 50 = .ok (.return_, 1) := by decide +kernel
theorem dX8_sail_0 : decode cX8_sail 0 = .ok (.aload_n 1, 1) := by decide +kernel
theorem dX8_sail_1 : decode cX8_sail 1 = .ok (.getfield 140, 3) := by decide +kernel
theorem dX8_sail_4 : decode cX8_sail 4 = .ok (.iload_n 2, 1) := by decide +kernel
theorem dX8_sail_5 : decode cX8_sail 5 = .ok (.iaload, 1) := by decide +kernel
theorem dX8_sail_6 : decode cX8_sail 6 = .ok (.istore_n 3, 1) := by decide +kernel
theorem dX8_sail_7 : decode cX8_sail 7 = .ok (.aload_n 1, 1) := by decide +kernel
theorem dX8_sail_8 : decode cX8_sail 8 = .ok (.getfield 137, 3) := by decide +kernel
theorem dX8_sail_11 : decode cX8_sail 11 = .ok (.iload_n 2, 1) := by decide +kernel
theorem dX8_sail_12 : decode cX8_sail 12 = .ok (.iaload, 1) := by decide +kernel
theorem dX8_sail_13 : decode cX8_sail 13 = .ok (.istore 4, 2) := by decide +kernel
theorem dX8_sail_15 : decode cX8_sail 15 = .ok (.aload_n 1, 1) := by decide +kernel
theorem dX8_sail_16 : decode cX8_sail 16 = .ok (.getfield 143, 3) := by decide +kernel
theorem dX8_sail_19 : decode cX8_sail 19 = .ok (.iload_n 2, 1) := by decide +kernel
theorem dX8_sail_20 : decode cX8_sail 20 = .ok (.iaload, 1) := by decide +kernel
theorem dX8_sail_21 : decode cX8_sail 21 = .ok (.iconst 1, 1) := by decide +kernel
theorem dX8_sail_22 : decode cX8_sail 22 = .ok (.isub, 1) := by decide +kernel
theorem dX8_sail_23 : decode cX8_sail 23 = .ok (.istore 5, 2) := by decide +kernel
theorem dX8_sail_25 : decode cX8_sail 25 = .ok (.aload_n 0, 1) := by decide +kernel
theorem dX8_sail_26 : decode cX8_sail 26 = .ok (.getfield 49, 3) := by decide +kernel
theorem dX8_sail_29 : decode cX8_sail 29 = .ok (.aload_n 1, 1) := by decide +kernel
theorem dX8_sail_30 : decode cX8_sail 30 = .ok (.getfield 134, 3) := by decide +kernel
theorem dX8_sail_33 : decode cX8_sail 33 = .ok (.iload_n 2, 1) := by decide +kernel
theorem dX8_sail_34 : decode cX8_sail 34 = .ok (.iaload, 1) := by decide +kernel
theorem dX8_sail_35 : decode cX8_sail 35 = .ok (.iload 4, 2) := by decide +kernel
theorem dX8_sail_37 : decode cX8_sail 37 = .ok (.iload 5, 2) := by decide +kernel
theorem dX8_sail_39 : decode cX8_sail 39 = .ok (.invokevirtual 159, 3) := by decide +kernel
theorem dX8_sail_42 : decode cX8_sail 42 = .ok (.iload_n 3, 1) := by decide +kernel
theorem dX8_sail_43 : decode cX8_sail 43 = .ok (.if_icmp .lt 39, 3) := by decide +kernel
theorem dX8_sail_46 : decode cX8_sail 46 = .ok (.aload_n 1, 1) := by decide +kernel
theorem dX8_sail_47 : decode cX8_sail 47 = .ok (.getfield 143, 3) := by decide +kernel
theorem dX8_sail_50 : decode cX8_sail 50 = .ok (.iload_n 2, 1) := by decide +kernel
theorem dX8_sail_51 : decode cX8_sail 51 = .ok (.iload 5, 2) := by decide +kernel
theorem dX8_sail_53 : decode cX8_sail 53 = .ok (.iastore, 1) := by decide +kernel
theorem dX8_sail_54 : decode cX8_sail 54 = .ok (.aload_n 1, 1) := by decide +kernel
theorem dX8_sail_55 : decode cX8_sail 55 = .ok (.getfield 146, 3) := by decide +kernel
theorem dX8_sail_58 : decode cX8_sail 58 = .ok (.iload_n 2, 1) := by decide +kernel
theorem dX8_sail_59 : decode cX8_sail 59 = .ok (.aload_n 0, 1) := by decide +kernel
theorem dX8_sail_60 : decode cX8_sail 60 = .ok (.getfield 49, 3) := by decide +kernel
theorem dX8_sail_63 : decode cX8_sail 63 = .ok (.getfield 222, 3) := by decide +kernel
theorem dX8_sail_66 : decode cX8_sail 66 = .ok (.iload 5, 2) := by decide +kernel
theorem dX8_sail_68 : decode cX8_sail 68 = .ok (.iaload, 1) := by decide +kernel
theorem dX8_sail_69 : decode cX8_sail 69 = .ok (.iload_n 3, 1) := by decide +kernel
theorem dX8_sail_70 : decode cX8_sail 70 = .ok (.if_icmp .ge 7, 3) := by decide +kernel
theorem dX8_sail_73 : decode cX8_sail 73 = .ok (.iconst 1, 1) := by decide +kernel
theorem dX8_sail_74 : decode cX8_sail 74 = .ok (.goto 4, 3) := by decide +kernel
theorem dX8_sail_77 : decode cX8_sail 77 = .ok (.iconst 0, 1) := by decide +kernel
theorem dX8_sail_78 : decode cX8_sail 78 = .ok (.iastore, 1) := by decide +kernel
theorem dX8_sail_79 : decode cX8_sail 79 = .ok (.goto 50, 3) := by decide +kernel
theorem dX8_sail_82 : decode cX8_sail 82 = .ok (.aload_n 0, 1) := by decide +kernel
theorem dX8_sail_83 : decode cX8_sail 83 = .ok (.getfield 10, 3) := by decide +kernel
theorem dX8_sail_86 : decode cX8_sail 86 = .ok (.iconst 1, 1) := by decide +kernel
theorem dX8_sail_87 : decode cX8_sail 87 = .ok (.iload_n 3, 1) := by decide +kernel
theorem dX8_sail_88 : decode cX8_sail 88 = .ok (.iload 4, 2) := by decide +kernel
theorem dX8_sail_90 : decode cX8_sail 90 = .ok (.aload_n 1, 1) := by decide +kernel
theorem dX8_sail_91 : decode cX8_sail 91 = .ok (.getfield 204, 3) := by decide +kernel
theorem dX8_sail_94 : decode cX8_sail 94 = .ok (.invokevirtual 200, 3) := by decide +kernel
theorem dX8_sail_97 : decode cX8_sail 97 = .ok (.iconst 1, 1) := by decide +kernel
theorem dX8_sail_98 : decode cX8_sail 98 = .ok (.if_icmp .ne 31, 3) := by decide +kernel
theorem dX8_sail_101 : decode cX8_sail 101 = .ok (.aload_n 1, 1) := by decide +kernel
theorem dX8_sail_102 : decode cX8_sail 102 = .ok (.getfield 143, 3) := by decide +kernel
theorem dX8_sail_105 : decode cX8_sail 105 = .ok (.iload_n 2, 1) := by decide +kernel
theorem dX8_sail_106 : decode cX8_sail 106 = .ok (.iaload, 1) := by decide +kernel
theorem dX8_sail_107 : decode cX8_sail 107 = .ok (.aload_n 0, 1) := by decide +kernel
theorem dX8_sail_108 : decode cX8_sail 108 = .ok (.getfield 10, 3) := by decide +kernel
theorem dX8_sail_111 : decode cX8_sail 111 = .ok (.getfield 93, 3) := by decide +kernel
theorem dX8_sail_114 : decode cX8_sail 114 = .ok (.iconst 1, 1) := by decide +kernel
theorem dX8_sail_115 : decode cX8_sail 115 = .ok (.isub, 1) := by decide +kernel
theorem dX8_sail_116 : decode cX8_sail 116 = .ok (.if_icmp .ge 13, 3) := by decide +kernel
theorem dX8_sail_119 : decode cX8_sail 119 = .ok (.aload_n 1, 1) := by decide +kernel
theorem dX8_sail_120 : decode cX8_sail 120 = .ok (.getfield 143, 3) := by decide +kernel
theorem dX8_sail_123 : decode cX8_sail 123 = .ok (.iload_n 2, 1) := by decide +kernel
theorem dX8_sail_124 : decode cX8_sail 124 = .ok (.dup2, 1) := by decide +kernel
theorem dX8_sail_125 : decode cX8_sail 125 = .ok (.iaload, 1) := by decide +kernel
theorem dX8_sail_126 : decode cX8_sail 126 = .ok (.iconst 1, 1) := by decide +kernel
theorem dX8_sail_127 : decode cX8_sail 127 = .ok (.iadd, 1) := by decide +kernel
theorem dX8_sail_128 : decode cX8_sail 128 = .ok (.iastore, 1) := by decide +kernel
theorem dX8_sail_129 : decode cX8_sail 129 = .ok (.return_, 1) := by decide +kernel
theorem dX8_then_0 : decode cX8_then 0 = .ok (.iload_n 1, 1) := by decide +kernel
theorem dX8_then_1 : decode cX8_then 1 = .ok (.iconst 0, 1) := by decide +kernel
theorem dX8_then_2 : decode cX8_then 2 = .ok (.bipush 60, 2) := by decide +kernel
theorem dX8_then_4 : decode cX8_then 4 = .ok (.invokestatic 82, 3) := by decide +kernel
theorem dX8_then_7 : decode cX8_then 7 = .ok (.ifCond .eq 20, 3) := by decide +kernel
theorem dX8_then_10 : decode cX8_then 10 = .ok (.aload_n 0, 1) := by decide +kernel
theorem dX8_then_11 : decode cX8_then 11 = .ok (.iload_n 2, 1) := by decide +kernel
theorem dX8_then_12 : decode cX8_then 12 = .ok (.invokevirtual 149, 3) := by decide +kernel
theorem dX8_then_15 : decode cX8_then 15 = .ok (.ifCond .eq 12, 3) := by decide +kernel
theorem dX8_then_18 : decode cX8_then 18 = .ok (.iload_n 3, 1) := by decide +kernel
theorem dX8_then_19 : decode cX8_then 19 = .ok (.iconst 0, 1) := by decide +kernel
theorem dX8_then_20 : decode cX8_then 20 = .ok (.iconst 1, 1) := by decide +kernel
theorem dX8_then_21 : decode cX8_then 21 = .ok (.invokestatic 82, 3) := by decide +kernel
theorem dX8_then_24 : decode cX8_then 24 = .ok (.ifCond .ne 9, 3) := by decide +kernel
theorem dX8_then_27 : decode cX8_then 27 = .ok (.aload_n 0, 1) := by decide +kernel
theorem dX8_then_28 : decode cX8_then 28 = .ok (.iconst 1, 1) := by decide +kernel
theorem dX8_then_29 : decode cX8_then 29 = .ok (.invokevirtual 86, 3) := by decide +kernel
theorem dX8_then_32 : decode cX8_then 32 = .ok (.ireturn, 1) := by decide +kernel
theorem dX8_then_33 : decode cX8_then 33 = .ok (.aload_n 0, 1) := by decide +kernel
theorem dX8_then_34 : decode cX8_then 34 = .ok (.getfield 49, 3) := by decide +kernel
theorem dX8_then_37 : decode cX8_then 37 = .ok (.aload_n 0, 1) := by decide +kernel
theorem dX8_then_38 : decode cX8_then 38 = .ok (.getfield 10, 3) := by decide +kernel
theorem dX8_then_41 : decode cX8_then 41 = .ok (.aload_n 0, 1) := by decide +kernel
theorem dX8_then_42 : decode cX8_then 42 = .ok (.getfield 10, 3) := by decide +kernel
theorem dX8_then_45 : decode cX8_then 45 = .ok (.getfield 116, 3) := by decide +kernel
theorem dX8_then_48 : decode cX8_then 48 = .ok (.invokevirtual 155, 3) := by decide +kernel
theorem dX8_then_51 : decode cX8_then 51 = .ok (.aload_n 0, 1) := by decide +kernel
theorem dX8_then_52 : decode cX8_then 52 = .ok (.iload_n 1, 1) := by decide +kernel
theorem dX8_then_53 : decode cX8_then 53 = .ok (.invokevirtual 225, 3) := by decide +kernel
theorem dX8_then_56 : decode cX8_then 56 = .ok (.iload_n 3, 1) := by decide +kernel
theorem dX8_then_57 : decode cX8_then 57 = .ok (.ifCond .ne 15, 3) := by decide +kernel
theorem dX8_then_60 : decode cX8_then 60 = .ok (.aload_n 0, 1) := by decide +kernel
theorem dX8_then_61 : decode cX8_then 61 = .ok (.getfield 43, 3) := by decide +kernel
theorem dX8_then_64 : decode cX8_then 64 = .ok (.getfield 143, 3) := by decide +kernel
theorem dX8_then_67 : decode cX8_then 67 = .ok (.iload_n 2, 1) := by decide +kernel
theorem dX8_then_68 : decode cX8_then 68 = .ok (.iaload, 1) := by decide +kernel
theorem dX8_then_69 : decode cX8_then 69 = .ok (.goto 12, 3) := by decide +kernel
theorem dX8_then_72 : decode cX8_then 72 = .ok (.aload_n 0, 1) := by decide +kernel
theorem dX8_then_73 : decode cX8_then 73 = .ok (.getfield 43, 3) := by decide +kernel
theorem dX8_then_76 : decode cX8_then 76 = .ok (.getfield 146, 3) := by decide +kernel
theorem dX8_then_79 : decode cX8_then 79 = .ok (.iload_n 2, 1) := by decide +kernel
theorem dX8_then_80 : decode cX8_then 80 = .ok (.iaload, 1) := by decide +kernel
theorem dX8_then_81 : decode cX8_then 81 = .ok (.ireturn, 1) := by decide +kernel
theorem dX8_think_0 : decode cX8_think 0 = .ok (.aload_n 0, 1) := by decide +kernel
theorem dX8_think_1 : decode cX8_think 1 = .ok (.getfield 43, 3) := by decide +kernel
theorem dX8_think_4 : decode cX8_think 4 = .ok (.aload_n 0, 1) := by decide +kernel
theorem dX8_think_5 : decode cX8_think 5 = .ok (.getfield 19, 3) := by decide +kernel
theorem dX8_think_8 : decode cX8_think 8 = .ok (.invokevirtual 228, 3) := by decide +kernel
theorem dX8_think_11 : decode cX8_think 11 = .ok (.iconst 0, 1) := by decide +kernel
theorem dX8_think_12 : decode cX8_think 12 = .ok (.istore_n 2, 1) := by decide +kernel
theorem dX8_think_13 : decode cX8_think 13 = .ok (.iload_n 2, 1) := by decide +kernel
theorem dX8_think_14 : decode cX8_think 14 = .ok (.iload_n 1, 1) := by decide +kernel
theorem dX8_think_15 : decode cX8_think 15 = .ok (.if_icmp .ge 17, 3) := by decide +kernel
theorem dX8_think_18 : decode cX8_think 18 = .ok (.aload_n 0, 1) := by decide +kernel
theorem dX8_think_19 : decode cX8_think 19 = .ok (.aload_n 0, 1) := by decide +kernel
theorem dX8_think_20 : decode cX8_think 20 = .ok (.getfield 43, 3) := by decide +kernel
theorem dX8_think_23 : decode cX8_think 23 = .ok (.invokevirtual 207, 3) := by decide +kernel
theorem dX8_think_26 : decode cX8_think 26 = .ok (.iinc 2 1, 3) := by decide +kernel
theorem dX8_think_29 : decode cX8_think 29 = .ok (.goto (-16), 3) := by decide +kernel
theorem dX8_think_32 : decode cX8_think 32 = .ok (.return_, 1) := by decide +kernel
theorem dX8_lost_0 : decode cX8_lost 0 = .ok (.iload_n 1, 1) := by decide +kernel
theorem dX8_lost_1 : decode cX8_lost 1 = .ok (.iconst 0, 1) := by decide +kernel
theorem dX8_lost_2 : decode cX8_lost 2 = .ok (.iconst 1, 1) := by decide +kernel
theorem dX8_lost_3 : decode cX8_lost 3 = .ok (.invokestatic 82, 3) := by decide +kernel
theorem dX8_lost_6 : decode cX8_lost 6 = .ok (.ifCond .ne 9, 3) := by decide +kernel
theorem dX8_lost_9 : decode cX8_lost 9 = .ok (.aload_n 0, 1) := by decide +kernel
theorem dX8_lost_10 : decode cX8_lost 10 = .ok (.iconst 1, 1) := by decide +kernel
theorem dX8_lost_11 : decode cX8_lost 11 = .ok (.invokevirtual 86, 3) := by decide +kernel
theorem dX8_lost_14 : decode cX8_lost 14 = .ok (.ireturn, 1) := by decide +kernel
theorem dX8_lost_15 : decode cX8_lost 15 = .ok (.aload_n 0, 1) := by decide +kernel
theorem dX8_lost_16 : decode cX8_lost 16 = .ok (.getfield 19, 3) := by decide +kernel
theorem dX8_lost_19 : decode cX8_lost 19 = .ok (.invokevirtual 230, 3) := by decide +kernel
theorem dX8_lost_22 : decode cX8_lost 22 = .ok (.istore_n 2, 1) := by decide +kernel
theorem dX8_lost_23 : decode cX8_lost 23 = .ok (.aload_n 0, 1) := by decide +kernel
theorem dX8_lost_24 : decode cX8_lost 24 = .ok (.getfield 49, 3) := by decide +kernel
theorem dX8_lost_27 : decode cX8_lost 27 = .ok (.aload_n 0, 1) := by decide +kernel
theorem dX8_lost_28 : decode cX8_lost 28 = .ok (.getfield 10, 3) := by decide +kernel
theorem dX8_lost_31 : decode cX8_lost 31 = .ok (.aload_n 0, 1) := by decide +kernel
theorem dX8_lost_32 : decode cX8_lost 32 = .ok (.getfield 10, 3) := by decide +kernel
theorem dX8_lost_35 : decode cX8_lost 35 = .ok (.getfield 116, 3) := by decide +kernel
theorem dX8_lost_38 : decode cX8_lost 38 = .ok (.invokevirtual 155, 3) := by decide +kernel
theorem dX8_lost_41 : decode cX8_lost 41 = .ok (.aload_n 0, 1) := by decide +kernel
theorem dX8_lost_42 : decode cX8_lost 42 = .ok (.iconst 0, 1) := by decide +kernel
theorem dX8_lost_43 : decode cX8_lost 43 = .ok (.invokevirtual 225, 3) := by decide +kernel
theorem dX8_lost_46 : decode cX8_lost 46 = .ok (.iconst 1, 1) := by decide +kernel
theorem dX8_lost_47 : decode cX8_lost 47 = .ok (.istore_n 3, 1) := by decide +kernel
theorem dX8_lost_48 : decode cX8_lost 48 = .ok (.iload_n 3, 1) := by decide +kernel
theorem dX8_lost_49 : decode cX8_lost 49 = .ok (.bipush 60, 2) := by decide +kernel
theorem dX8_lost_51 : decode cX8_lost 51 = .ok (.if_icmp .gt 41, 3) := by decide +kernel
theorem dX8_lost_54 : decode cX8_lost 54 = .ok (.aload_n 0, 1) := by decide +kernel
theorem dX8_lost_55 : decode cX8_lost 55 = .ok (.aload_n 0, 1) := by decide +kernel
theorem dX8_lost_56 : decode cX8_lost 56 = .ok (.getfield 43, 3) := by decide +kernel
theorem dX8_lost_59 : decode cX8_lost 59 = .ok (.invokevirtual 207, 3) := by decide +kernel
theorem dX8_lost_62 : decode cX8_lost 62 = .ok (.aload_n 0, 1) := by decide +kernel
theorem dX8_lost_63 : decode cX8_lost 63 = .ok (.getfield 43, 3) := by decide +kernel
theorem dX8_lost_66 : decode cX8_lost 66 = .ok (.invokevirtual 230, 3) := by decide +kernel
theorem dX8_lost_69 : decode cX8_lost 69 = .ok (.iload_n 2, 1) := by decide +kernel
theorem dX8_lost_70 : decode cX8_lost 70 = .ok (.if_icmp .le 16, 3) := by decide +kernel
theorem dX8_lost_73 : decode cX8_lost 73 = .ok (.iload_n 1, 1) := by decide +kernel
theorem dX8_lost_74 : decode cX8_lost 74 = .ok (.ifCond .ne 7, 3) := by decide +kernel
theorem dX8_lost_77 : decode cX8_lost 77 = .ok (.iload_n 3, 1) := by decide +kernel
theorem dX8_lost_78 : decode cX8_lost 78 = .ok (.goto 7, 3) := by decide +kernel
theorem dX8_lost_81 : decode cX8_lost 81 = .ok (.aload_n 0, 1) := by decide +kernel
theorem dX8_lost_82 : decode cX8_lost 82 = .ok (.invokevirtual 233, 3) := by decide +kernel
theorem dX8_lost_85 : decode cX8_lost 85 = .ok (.ireturn, 1) := by decide +kernel
theorem dX8_lost_86 : decode cX8_lost 86 = .ok (.iinc 3 1, 3) := by decide +kernel
theorem dX8_lost_89 : decode cX8_lost 89 = .ok (.goto (-41), 3) := by decide +kernel
theorem dX8_lost_92 : decode cX8_lost 92 = .ok (.aload_n 0, 1) := by decide +kernel
theorem dX8_lost_93 : decode cX8_lost 93 = .ok (.iconst 2, 1) := by decide +kernel
theorem dX8_lost_94 : decode cX8_lost 94 = .ok (.invokevirtual 86, 3) := by decide +kernel
theorem dX8_lost_97 : decode cX8_lost 97 = .ok (.ireturn, 1) := by decide +kernel
theorem dX8_leastNewlyLost_0 : decode cX8_leastNewlyLost 0 = .ok (.iconst 0, 1) := by decide +kernel
theorem dX8_leastNewlyLost_1 : decode cX8_leastNewlyLost 1 = .ok (.istore_n 1, 1) := by decide +kernel
theorem dX8_leastNewlyLost_2 : decode cX8_leastNewlyLost 2 = .ok (.aload_n 0, 1) := by decide +kernel
theorem dX8_leastNewlyLost_3 : decode cX8_leastNewlyLost 3 = .ok (.getfield 19, 3) := by decide +kernel
theorem dX8_leastNewlyLost_6 : decode cX8_leastNewlyLost 6 = .ok (.getfield 90, 3) := by decide +kernel
theorem dX8_leastNewlyLost_9 : decode cX8_leastNewlyLost 9 = .ok (.iconst 1, 1) := by decide +kernel
theorem dX8_leastNewlyLost_10 : decode cX8_leastNewlyLost 10 = .ok (.isub, 1) := by decide +kernel
theorem dX8_leastNewlyLost_11 : decode cX8_leastNewlyLost 11 = .ok (.istore_n 2, 1) := by decide +kernel
theorem dX8_leastNewlyLost_12 : decode cX8_leastNewlyLost 12 = .ok (.iload_n 2, 1) := by decide +kernel
theorem dX8_leastNewlyLost_13 : decode cX8_leastNewlyLost 13 = .ok (.ifCond .lt 32, 3) := by decide +kernel
theorem dX8_leastNewlyLost_16 : decode cX8_leastNewlyLost 16 = .ok (.aload_n 0, 1) := by decide +kernel
theorem dX8_leastNewlyLost_17 : decode cX8_leastNewlyLost 17 = .ok (.getfield 43, 3) := by decide +kernel
theorem dX8_leastNewlyLost_20 : decode cX8_leastNewlyLost 20 = .ok (.getfield 146, 3) := by decide +kernel
theorem dX8_leastNewlyLost_23 : decode cX8_leastNewlyLost 23 = .ok (.iload_n 2, 1) := by decide +kernel
theorem dX8_leastNewlyLost_24 : decode cX8_leastNewlyLost 24 = .ok (.iaload, 1) := by decide +kernel
theorem dX8_leastNewlyLost_25 : decode cX8_leastNewlyLost 25 = .ok (.aload_n 0, 1) := by decide +kernel
theorem dX8_leastNewlyLost_26 : decode cX8_leastNewlyLost 26 = .ok (.getfield 19, 3) := by decide +kernel
theorem dX8_leastNewlyLost_29 : decode cX8_leastNewlyLost 29 = .ok (.getfield 146, 3) := by decide +kernel
theorem dX8_leastNewlyLost_32 : decode cX8_leastNewlyLost 32 = .ok (.iload_n 2, 1) := by decide +kernel
theorem dX8_leastNewlyLost_33 : decode cX8_leastNewlyLost 33 = .ok (.iaload, 1) := by decide +kernel
theorem dX8_leastNewlyLost_34 : decode cX8_leastNewlyLost 34 = .ok (.if_icmp .le 5, 3) := by decide +kernel
theorem dX8_leastNewlyLost_37 : decode cX8_leastNewlyLost 37 = .ok (.iload_n 2, 1) := by decide +kernel
theorem dX8_leastNewlyLost_38 : decode cX8_leastNewlyLost 38 = .ok (.istore_n 1, 1) := by decide +kernel
theorem dX8_leastNewlyLost_39 : decode cX8_leastNewlyLost 39 = .ok (.iinc 2 (-1), 3) := by decide +kernel
theorem dX8_leastNewlyLost_42 : decode cX8_leastNewlyLost 42 = .ok (.goto (-30), 3) := by decide +kernel
theorem dX8_leastNewlyLost_45 : decode cX8_leastNewlyLost 45 = .ok (.iload_n 1, 1) := by decide +kernel
theorem dX8_leastNewlyLost_46 : decode cX8_leastNewlyLost 46 = .ok (.ireturn, 1) := by decide +kernel
theorem dX8_setting_0 : decode cX8_setting 0 = .ok (.iload_n 1, 1) := by decide +kernel
theorem dX8_setting_1 : decode cX8_setting 1 = .ok (.iconst 0, 1) := by decide +kernel
theorem dX8_setting_2 : decode cX8_setting 2 = .ok (.iconst 1, 1) := by decide +kernel
theorem dX8_setting_3 : decode cX8_setting 3 = .ok (.aload_n 0, 1) := by decide +kernel
theorem dX8_setting_4 : decode cX8_setting 4 = .ok (.getfield 19, 3) := by decide +kernel
theorem dX8_setting_7 : decode cX8_setting 7 = .ok (.getfield 90, 3) := by decide +kernel
theorem dX8_setting_10 : decode cX8_setting 10 = .ok (.ishl, 1) := by decide +kernel
theorem dX8_setting_11 : decode cX8_setting 11 = .ok (.iconst 1, 1) := by decide +kernel
theorem dX8_setting_12 : decode cX8_setting 12 = .ok (.isub, 1) := by decide +kernel
theorem dX8_setting_13 : decode cX8_setting 13 = .ok (.invokestatic 82, 3) := by decide +kernel
theorem dX8_setting_16 : decode cX8_setting 16 = .ok (.ifCond .eq 13, 3) := by decide +kernel
theorem dX8_setting_19 : decode cX8_setting 19 = .ok (.iload_n 2, 1) := by decide +kernel
theorem dX8_setting_20 : decode cX8_setting 20 = .ok (.iconst 0, 1) := by decide +kernel
theorem dX8_setting_21 : decode cX8_setting 21 = .ok (.bipush 20, 2) := by decide +kernel
theorem dX8_setting_23 : decode cX8_setting 23 = .ok (.invokestatic 82, 3) := by decide +kernel
theorem dX8_setting_26 : decode cX8_setting 26 = .ok (.ifCond .ne 9, 3) := by decide +kernel
theorem dX8_setting_29 : decode cX8_setting 29 = .ok (.aload_n 0, 1) := by decide +kernel
theorem dX8_setting_30 : decode cX8_setting 30 = .ok (.iconst 1, 1) := by decide +kernel
theorem dX8_setting_31 : decode cX8_setting 31 = .ok (.invokevirtual 86, 3) := by decide +kernel
theorem dX8_setting_34 : decode cX8_setting 34 = .ok (.ireturn, 1) := by decide +kernel
theorem dX8_setting_35 : decode cX8_setting 35 = .ok (.iconst 0, 1) := by decide +kernel
theorem dX8_setting_36 : decode cX8_setting 36 = .ok (.istore_n 3, 1) := by decide +kernel
theorem dX8_setting_37 : decode cX8_setting 37 = .ok (.iload_n 3, 1) := by decide +kernel
theorem dX8_setting_38 : decode cX8_setting 38 = .ok (.bipush 99, 2) := by decide +kernel
theorem dX8_setting_40 : decode cX8_setting 40 = .ok (.if_icmp .gt 42, 3) := by decide +kernel
theorem dX8_setting_43 : decode cX8_setting 43 = .ok (.aload_n 0, 1) := by decide +kernel
theorem dX8_setting_44 : decode cX8_setting 44 = .ok (.getfield 49, 3) := by decide +kernel
theorem dX8_setting_47 : decode cX8_setting 47 = .ok (.aload_n 0, 1) := by decide +kernel
theorem dX8_setting_48 : decode cX8_setting 48 = .ok (.getfield 10, 3) := by decide +kernel
theorem dX8_setting_51 : decode cX8_setting 51 = .ok (.iload_n 3, 1) := by decide +kernel
theorem dX8_setting_52 : decode cX8_setting 52 = .ok (.invokevirtual 155, 3) := by decide +kernel
theorem dX8_setting_55 : decode cX8_setting 55 = .ok (.aload_n 0, 1) := by decide +kernel
theorem dX8_setting_56 : decode cX8_setting 56 = .ok (.iload_n 2, 1) := by decide +kernel
theorem dX8_setting_57 : decode cX8_setting 57 = .ok (.invokevirtual 225, 3) := by decide +kernel
theorem dX8_setting_60 : decode cX8_setting 60 = .ok (.aload_n 0, 1) := by decide +kernel
theorem dX8_setting_61 : decode cX8_setting 61 = .ok (.getfield 43, 3) := by decide +kernel
theorem dX8_setting_64 : decode cX8_setting 64 = .ok (.iconst 0, 1) := by decide +kernel
theorem dX8_setting_65 : decode cX8_setting 65 = .ok (.invokevirtual 122, 3) := by decide +kernel
theorem dX8_setting_68 : decode cX8_setting 68 = .ok (.iload_n 1, 1) := by decide +kernel
theorem dX8_setting_69 : decode cX8_setting 69 = .ok (.iand, 1) := by decide +kernel
theorem dX8_setting_70 : decode cX8_setting 70 = .ok (.iload_n 1, 1) := by decide +kernel
theorem dX8_setting_71 : decode cX8_setting 71 = .ok (.if_icmp .ne 5, 3) := by decide +kernel
theorem dX8_setting_74 : decode cX8_setting 74 = .ok (.iload_n 3, 1) := by decide +kernel
theorem dX8_setting_75 : decode cX8_setting 75 = .ok (.ireturn, 1) := by decide +kernel
theorem dX8_setting_76 : decode cX8_setting 76 = .ok (.iinc 3 1, 3) := by decide +kernel
theorem dX8_setting_79 : decode cX8_setting 79 = .ok (.goto (-42), 3) := by decide +kernel
theorem dX8_setting_82 : decode cX8_setting 82 = .ok (.aload_n 0, 1) := by decide +kernel
theorem dX8_setting_83 : decode cX8_setting 83 = .ok (.iconst 2, 1) := by decide +kernel
theorem dX8_setting_84 : decode cX8_setting 84 = .ok (.invokevirtual 86, 3) := by decide +kernel
theorem dX8_setting_87 : decode cX8_setting 87 = .ok (.ireturn, 1) := by decide +kernel
theorem dX8_leastFalse_0 : decode cX8_leastFalse 0 = .ok (.iload_n 1, 1) := by decide +kernel
theorem dX8_leastFalse_1 : decode cX8_leastFalse 1 = .ok (.iconst 0, 1) := by decide +kernel
theorem dX8_leastFalse_2 : decode cX8_leastFalse 2 = .ok (.iconst 1, 1) := by decide +kernel
theorem dX8_leastFalse_3 : decode cX8_leastFalse 3 = .ok (.invokestatic 82, 3) := by decide +kernel
theorem dX8_leastFalse_6 : decode cX8_leastFalse 6 = .ok (.ifCond .ne 9, 3) := by decide +kernel
theorem dX8_leastFalse_9 : decode cX8_leastFalse 9 = .ok (.aload_n 0, 1) := by decide +kernel
theorem dX8_leastFalse_10 : decode cX8_leastFalse 10 = .ok (.iconst 1, 1) := by decide +kernel
theorem dX8_leastFalse_11 : decode cX8_leastFalse 11 = .ok (.invokevirtual 86, 3) := by decide +kernel
theorem dX8_leastFalse_14 : decode cX8_leastFalse 14 = .ok (.ireturn, 1) := by decide +kernel
theorem dX8_leastFalse_15 : decode cX8_leastFalse 15 = .ok (.iconst 1, 1) := by decide +kernel
theorem dX8_leastFalse_16 : decode cX8_leastFalse 16 = .ok (.istore_n 2, 1) := by decide +kernel
theorem dX8_leastFalse_17 : decode cX8_leastFalse 17 = .ok (.bipush 9, 2) := by decide +kernel
theorem dX8_leastFalse_19 : decode cX8_leastFalse 19 = .ok (.istore_n 3, 1) := by decide +kernel
theorem dX8_leastFalse_20 : decode cX8_leastFalse 20 = .ok (.iconst 1, 1) := by decide +kernel
theorem dX8_leastFalse_21 : decode cX8_leastFalse 21 = .ok (.istore 4, 2) := by decide +kernel
theorem dX8_leastFalse_23 : decode cX8_leastFalse 23 = .ok (.iload 4, 2) := by decide +kernel
theorem dX8_leastFalse_25 : decode cX8_leastFalse 25 = .ok (.bipush 99, 2) := by decide +kernel
theorem dX8_leastFalse_27 : decode cX8_leastFalse 27 = .ok (.if_icmp .gt 43, 3) := by decide +kernel
theorem dX8_leastFalse_30 : decode cX8_leastFalse 30 = .ok (.aload_n 0, 1) := by decide +kernel
theorem dX8_leastFalse_31 : decode cX8_leastFalse 31 = .ok (.getfield 49, 3) := by decide +kernel
theorem dX8_leastFalse_34 : decode cX8_leastFalse 34 = .ok (.aload_n 0, 1) := by decide +kernel
theorem dX8_leastFalse_35 : decode cX8_leastFalse 35 = .ok (.getfield 10, 3) := by decide +kernel
theorem dX8_leastFalse_38 : decode cX8_leastFalse 38 = .ok (.iload 4, 2) := by decide +kernel
theorem dX8_leastFalse_40 : decode cX8_leastFalse 40 = .ok (.invokevirtual 155, 3) := by decide +kernel
theorem dX8_leastFalse_43 : decode cX8_leastFalse 43 = .ok (.aload_n 0, 1) := by decide +kernel
theorem dX8_leastFalse_44 : decode cX8_leastFalse 44 = .ok (.getfield 49, 3) := by decide +kernel
theorem dX8_leastFalse_47 : decode cX8_leastFalse 47 = .ok (.invokevirtual 236, 3) := by decide +kernel
theorem dX8_leastFalse_50 : decode cX8_leastFalse 50 = .ok (.istore 5, 2) := by decide +kernel
theorem dX8_leastFalse_52 : decode cX8_leastFalse 52 = .ok (.iload 5, 2) := by decide +kernel
theorem dX8_leastFalse_54 : decode cX8_leastFalse 54 = .ok (.iload_n 3, 1) := by decide +kernel
theorem dX8_leastFalse_55 : decode cX8_leastFalse 55 = .ok (.if_icmp .ge 9, 3) := by decide +kernel
theorem dX8_leastFalse_58 : decode cX8_leastFalse 58 = .ok (.iload 5, 2) := by decide +kernel
theorem dX8_leastFalse_60 : decode cX8_leastFalse 60 = .ok (.istore_n 3, 1) := by decide +kernel
theorem dX8_leastFalse_61 : decode cX8_leastFalse 61 = .ok (.iload 4, 2) := by decide +kernel
theorem dX8_leastFalse_63 : decode cX8_leastFalse 63 = .ok (.istore_n 2, 1) := by decide +kernel
theorem dX8_leastFalse_64 : decode cX8_leastFalse 64 = .ok (.iinc 4 1, 3) := by decide +kernel
theorem dX8_leastFalse_67 : decode cX8_leastFalse 67 = .ok (.goto (-44), 3) := by decide +kernel
theorem dX8_leastFalse_70 : decode cX8_leastFalse 70 = .ok (.iload_n 1, 1) := by decide +kernel
theorem dX8_leastFalse_71 : decode cX8_leastFalse 71 = .ok (.ifCond .ne 7, 3) := by decide +kernel
theorem dX8_leastFalse_74 : decode cX8_leastFalse 74 = .ok (.iload_n 2, 1) := by decide +kernel
theorem dX8_leastFalse_75 : decode cX8_leastFalse 75 = .ok (.goto 4, 3) := by decide +kernel
theorem dX8_leastFalse_78 : decode cX8_leastFalse 78 = .ok (.iload_n 3, 1) := by decide +kernel
theorem dX8_leastFalse_79 : decode cX8_leastFalse 79 = .ok (.ireturn, 1) := by decide +kernel
theorem dX8_which_0 : decode cX8_which 0 = .ok (.iload_n 1, 1) := by decide +kernel
theorem dX8_which_1 : decode cX8_which 1 = .ok (.invokestatic 239, 3) := by decide +kernel
theorem dX8_which_4 : decode cX8_which 4 = .ok (.ifCond .eq 12, 3) := by decide +kernel
theorem dX8_which_7 : decode cX8_which 7 = .ok (.iload_n 2, 1) := by decide +kernel
theorem dX8_which_8 : decode cX8_which 8 = .ok (.iconst 0, 1) := by decide +kernel
theorem dX8_which_9 : decode cX8_which 9 = .ok (.iconst 1, 1) := by decide +kernel
theorem dX8_which_10 : decode cX8_which 10 = .ok (.invokestatic 82, 3) := by decide +kernel
theorem dX8_which_13 : decode cX8_which 13 = .ok (.ifCond .ne 9, 3) := by decide +kernel
theorem dX8_which_16 : decode cX8_which 16 = .ok (.aload_n 0, 1) := by decide +kernel
theorem dX8_which_17 : decode cX8_which 17 = .ok (.iconst 1, 1) := by decide +kernel
theorem dX8_which_18 : decode cX8_which 18 = .ok (.invokevirtual 86, 3) := by decide +kernel
theorem dX8_which_21 : decode cX8_which 21 = .ok (.ireturn, 1) := by decide +kernel
theorem dX8_which_22 : decode cX8_which 22 = .ok (.aload_n 0, 1) := by decide +kernel
theorem dX8_which_23 : decode cX8_which 23 = .ok (.getfield 70, 3) := by decide +kernel
theorem dX8_which_26 : decode cX8_which 26 = .ok (.iload_n 1, 1) := by decide +kernel
theorem dX8_which_27 : decode cX8_which 27 = .ok (.aaload, 1) := by decide +kernel
theorem dX8_which_28 : decode cX8_which 28 = .ok (.astore_n 3, 1) := by decide +kernel
theorem dX8_which_29 : decode cX8_which 29 = .ok (.aload_n 3, 1) := by decide +kernel
theorem dX8_which_30 : decode cX8_which 30 = .ok (.invokevirtual 242, 3) := by decide +kernel
theorem dX8_which_33 : decode cX8_which 33 = .ok (.ifCond .ne 17, 3) := by decide +kernel
theorem dX8_which_36 : decode cX8_which 36 = .ok (.aload_n 3, 1) := by decide +kernel
theorem dX8_which_37 : decode cX8_which 37 = .ok (.getfield 246, 3) := by decide +kernel
theorem dX8_which_40 : decode cX8_which 40 = .ok (.aload_n 0, 1) := by decide +kernel
theorem dX8_which_41 : decode cX8_which 41 = .ok (.getfield 10, 3) := by decide +kernel
theorem dX8_which_44 : decode cX8_which 44 = .ok (.getfield 93, 3) := by decide +kernel
theorem dX8_which_47 : decode cX8_which 47 = .ok (.if_icmp .eq 9, 3) := by decide +kernel
theorem dX8_which_50 : decode cX8_which 50 = .ok (.aload_n 0, 1) := by decide +kernel
theorem dX8_which_51 : decode cX8_which 51 = .ok (.iconst 2, 1) := by decide +kernel
theorem dX8_which_52 : decode cX8_which 52 = .ok (.invokevirtual 86, 3) := by decide +kernel
theorem dX8_which_55 : decode cX8_which 55 = .ok (.ireturn, 1) := by decide +kernel
theorem dX8_which_56 : decode cX8_which 56 = .ok (.iconst 0, 1) := by decide +kernel
theorem dX8_which_57 : decode cX8_which 57 = .ok (.istore 4, 2) := by decide +kernel
theorem dX8_which_59 : decode cX8_which 59 = .ok (.iconst (-1), 1) := by decide +kernel
theorem dX8_which_60 : decode cX8_which 60 = .ok (.istore 5, 2) := by decide +kernel
theorem dX8_which_62 : decode cX8_which 62 = .ok (.bipush 99, 2) := by decide +kernel
theorem dX8_which_64 : decode cX8_which 64 = .ok (.istore 6, 2) := by decide +kernel
theorem dX8_which_66 : decode cX8_which 66 = .ok (.iload 6, 2) := by decide +kernel
theorem dX8_which_68 : decode cX8_which 68 = .ok (.ifCond .lt 26, 3) := by decide +kernel
theorem dX8_which_71 : decode cX8_which 71 = .ok (.aload_n 0, 1) := by decide +kernel
theorem dX8_which_72 : decode cX8_which 72 = .ok (.aload_n 3, 1) := by decide +kernel
theorem dX8_which_73 : decode cX8_which 73 = .ok (.iload 6, 2) := by decide +kernel
theorem dX8_which_75 : decode cX8_which 75 = .ok (.invokevirtual 249, 3) := by decide +kernel
theorem dX8_which_78 : decode cX8_which 78 = .ok (.ifCond .eq 10, 3) := by decide +kernel
theorem dX8_which_81 : decode cX8_which 81 = .ok (.iinc 4 1, 3) := by decide +kernel
theorem dX8_which_84 : decode cX8_which 84 = .ok (.iload 6, 2) := by decide +kernel
theorem dX8_which_86 : decode cX8_which 86 = .ok (.istore 5, 2) := by decide +kernel
theorem dX8_which_88 : decode cX8_which 88 = .ok (.iinc 6 (-1), 3) := by decide +kernel
theorem dX8_which_91 : decode cX8_which 91 = .ok (.goto (-25), 3) := by decide +kernel
theorem dX8_which_94 : decode cX8_which 94 = .ok (.iload_n 2, 1) := by decide +kernel
theorem dX8_which_95 : decode cX8_which 95 = .ok (.ifCond .ne 6, 3) := by decide +kernel
theorem dX8_which_98 : decode cX8_which 98 = .ok (.iload 4, 2) := by decide +kernel
theorem dX8_which_100 : decode cX8_which 100 = .ok (.ireturn, 1) := by decide +kernel
theorem dX8_which_101 : decode cX8_which 101 = .ok (.iload 4, 2) := by decide +kernel
theorem dX8_which_103 : decode cX8_which 103 = .ok (.ifCond .le 8, 3) := by decide +kernel
theorem dX8_which_106 : decode cX8_which 106 = .ok (.iload 5, 2) := by decide +kernel
theorem dX8_which_108 : decode cX8_which 108 = .ok (.goto 8, 3) := by decide +kernel
theorem dX8_which_111 : decode cX8_which 111 = .ok (.aload_n 0, 1) := by decide +kernel
theorem dX8_which_112 : decode cX8_which 112 = .ok (.iconst 2, 1) := by decide +kernel
theorem dX8_which_113 : decode cX8_which 113 = .ok (.invokevirtual 86, 3) := by decide +kernel
theorem dX8_which_116 : decode cX8_which 116 = .ok (.ireturn, 1) := by decide +kernel
theorem dX8_isShownAs_0 : decode cX8_isShownAs 0 = .ok (.iconst 0, 1) := by decide +kernel
theorem dX8_isShownAs_1 : decode cX8_isShownAs 1 = .ok (.istore_n 3, 1) := by decide +kernel
theorem dX8_isShownAs_2 : decode cX8_isShownAs 2 = .ok (.iload_n 3, 1) := by decide +kernel
theorem dX8_isShownAs_3 : decode cX8_isShownAs 3 = .ok (.aload_n 1, 1) := by decide +kernel
theorem dX8_isShownAs_4 : decode cX8_isShownAs 4 = .ok (.getfield 246, 3) := by decide +kernel
theorem dX8_isShownAs_7 : decode cX8_isShownAs 7 = .ok (.if_icmp .ge 38, 3) := by decide +kernel
theorem dX8_isShownAs_10 : decode cX8_isShownAs 10 = .ok (.aload_n 1, 1) := by decide +kernel
theorem dX8_isShownAs_11 : decode cX8_isShownAs 11 = .ok (.getfield 253, 3) := by decide +kernel
theorem dX8_isShownAs_14 : decode cX8_isShownAs 14 = .ok (.iload_n 3, 1) := by decide +kernel
theorem dX8_isShownAs_15 : decode cX8_isShownAs 15 = .ok (.iaload, 1) := by decide +kernel
theorem dX8_isShownAs_16 : decode cX8_isShownAs 16 = .ok (.istore 4, 2) := by decide +kernel
theorem dX8_isShownAs_18 : decode cX8_isShownAs 18 = .ok (.iload 4, 2) := by decide +kernel
theorem dX8_isShownAs_20 : decode cX8_isShownAs 20 = .ok (.ifCond .lt 19, 3) := by decide +kernel
theorem dX8_isShownAs_23 : decode cX8_isShownAs 23 = .ok (.iload 4, 2) := by decide +kernel
theorem dX8_isShownAs_25 : decode cX8_isShownAs 25 = .ok (.aload_n 0, 1) := by decide +kernel
theorem dX8_isShownAs_26 : decode cX8_isShownAs 26 = .ok (.getfield 10, 3) := by decide +kernel
theorem dX8_isShownAs_29 : decode cX8_isShownAs 29 = .ok (.iload_n 2, 1) := by decide +kernel
theorem dX8_isShownAs_30 : decode cX8_isShownAs 30 = .ok (.iload_n 3, 1) := by decide +kernel
theorem dX8_isShownAs_31 : decode cX8_isShownAs 31 = .ok (.invokevirtual 119, 3) := by decide +kernel
theorem dX8_isShownAs_34 : decode cX8_isShownAs 34 = .ok (.if_icmp .eq 5, 3) := by decide +kernel
theorem dX8_isShownAs_37 : decode cX8_isShownAs 37 = .ok (.iconst 0, 1) := by decide +kernel
theorem dX8_isShownAs_38 : decode cX8_isShownAs 38 = .ok (.ireturn, 1) := by decide +kernel
theorem dX8_isShownAs_39 : decode cX8_isShownAs 39 = .ok (.iinc 3 1, 3) := by decide +kernel
theorem dX8_isShownAs_42 : decode cX8_isShownAs 42 = .ok (.goto (-40), 3) := by decide +kernel
theorem dX8_isShownAs_45 : decode cX8_isShownAs 45 = .ok (.iconst 1, 1) := by decide +kernel
theorem dX8_isShownAs_46 : decode cX8_isShownAs 46 = .ok (.ireturn, 1) := by decide +kernel
theorem dX8_struck_0 : decode cX8_struck 0 = .ok (.aload_n 0, 1) := by decide +kernel
theorem dX8_struck_1 : decode cX8_struck 1 = .ok (.iload_n 1, 1) := by decide +kernel
theorem dX8_struck_2 : decode cX8_struck 2 = .ok (.invokevirtual 96, 3) := by decide +kernel
theorem dX8_struck_5 : decode cX8_struck 5 = .ok (.ifCond .ne 9, 3) := by decide +kernel
theorem dX8_struck_8 : decode cX8_struck 8 = .ok (.aload_n 0, 1) := by decide +kernel
theorem dX8_struck_9 : decode cX8_struck 9 = .ok (.iconst 1, 1) := by decide +kernel
theorem dX8_struck_10 : decode cX8_struck 10 = .ok (.invokevirtual 86, 3) := by decide +kernel
theorem dX8_struck_13 : decode cX8_struck 13 = .ok (.ireturn, 1) := by decide +kernel
theorem dX8_struck_14 : decode cX8_struck 14 = .ok (.aload_n 0, 1) := by decide +kernel
theorem dX8_struck_15 : decode cX8_struck 15 = .ok (.getfield 49, 3) := by decide +kernel
theorem dX8_struck_18 : decode cX8_struck 18 = .ok (.aload_n 0, 1) := by decide +kernel
theorem dX8_struck_19 : decode cX8_struck 19 = .ok (.getfield 10, 3) := by decide +kernel
theorem dX8_struck_22 : decode cX8_struck 22 = .ok (.aload_n 0, 1) := by decide +kernel
theorem dX8_struck_23 : decode cX8_struck 23 = .ok (.getfield 10, 3) := by decide +kernel
theorem dX8_struck_26 : decode cX8_struck 26 = .ok (.getfield 116, 3) := by decide +kernel
theorem dX8_struck_29 : decode cX8_struck 29 = .ok (.invokevirtual 155, 3) := by decide +kernel
theorem dX8_struck_32 : decode cX8_struck 32 = .ok (.aload_n 0, 1) := by decide +kernel
theorem dX8_struck_33 : decode cX8_struck 33 = .ok (.bipush 60, 2) := by decide +kernel
theorem dX8_struck_35 : decode cX8_struck 35 = .ok (.invokevirtual 225, 3) := by decide +kernel
theorem dX8_struck_38 : decode cX8_struck 38 = .ok (.aload_n 0, 1) := by decide +kernel
theorem dX8_struck_39 : decode cX8_struck 39 = .ok (.getfield 43, 3) := by decide +kernel
theorem dX8_struck_42 : decode cX8_struck 42 = .ok (.iload_n 1, 1) := by decide +kernel
theorem dX8_struck_43 : decode cX8_struck 43 = .ok (.invokevirtual 122, 3) := by decide +kernel
theorem dX8_struck_46 : decode cX8_struck 46 = .ok (.aload_n 0, 1) := by decide +kernel
theorem dX8_struck_47 : decode cX8_struck 47 = .ok (.getfield 43, 3) := by decide +kernel
theorem dX8_struck_50 : decode cX8_struck 50 = .ok (.invokevirtual 256, 3) := by decide +kernel
theorem dX8_struck_53 : decode cX8_struck 53 = .ok (.iand, 1) := by decide +kernel
theorem dX8_struck_54 : decode cX8_struck 54 = .ok (.ireturn, 1) := by decide +kernel
theorem dX8_dark_0 : decode cX8_dark 0 = .ok (.iload_n 1, 1) := by decide +kernel
theorem dX8_dark_1 : decode cX8_dark 1 = .ok (.iconst 0, 1) := by decide +kernel
theorem dX8_dark_2 : decode cX8_dark 2 = .ok (.bipush 20, 2) := by decide +kernel
theorem dX8_dark_4 : decode cX8_dark 4 = .ok (.invokestatic 82, 3) := by decide +kernel
theorem dX8_dark_7 : decode cX8_dark 7 = .ok (.ifCond .ne 9, 3) := by decide +kernel
theorem dX8_dark_10 : decode cX8_dark 10 = .ok (.aload_n 0, 1) := by decide +kernel
theorem dX8_dark_11 : decode cX8_dark 11 = .ok (.iconst 1, 1) := by decide +kernel
theorem dX8_dark_12 : decode cX8_dark 12 = .ok (.invokevirtual 86, 3) := by decide +kernel
theorem dX8_dark_15 : decode cX8_dark 15 = .ok (.ireturn, 1) := by decide +kernel
theorem dX8_dark_16 : decode cX8_dark 16 = .ok (.aload_n 0, 1) := by decide +kernel
theorem dX8_dark_17 : decode cX8_dark 17 = .ok (.getfield 19, 3) := by decide +kernel
theorem dX8_dark_20 : decode cX8_dark 20 = .ok (.invokevirtual 230, 3) := by decide +kernel
theorem dX8_dark_23 : decode cX8_dark 23 = .ok (.istore_n 2, 1) := by decide +kernel
theorem dX8_dark_24 : decode cX8_dark 24 = .ok (.aload_n 0, 1) := by decide +kernel
theorem dX8_dark_25 : decode cX8_dark 25 = .ok (.getfield 49, 3) := by decide +kernel
theorem dX8_dark_28 : decode cX8_dark 28 = .ok (.aload_n 0, 1) := by decide +kernel
theorem dX8_dark_29 : decode cX8_dark 29 = .ok (.getfield 10, 3) := by decide +kernel
theorem dX8_dark_32 : decode cX8_dark 32 = .ok (.aload_n 0, 1) := by decide +kernel
theorem dX8_dark_33 : decode cX8_dark 33 = .ok (.getfield 10, 3) := by decide +kernel
theorem dX8_dark_36 : decode cX8_dark 36 = .ok (.getfield 116, 3) := by decide +kernel
theorem dX8_dark_39 : decode cX8_dark 39 = .ok (.invokevirtual 155, 3) := by decide +kernel
theorem dX8_dark_42 : decode cX8_dark 42 = .ok (.iconst (-1), 1) := by decide +kernel
theorem dX8_dark_43 : decode cX8_dark 43 = .ok (.istore_n 3, 1) := by decide +kernel
theorem dX8_dark_44 : decode cX8_dark 44 = .ok (.bipush 9, 2) := by decide +kernel
theorem dX8_dark_46 : decode cX8_dark 46 = .ok (.istore 4, 2) := by decide +kernel
theorem dX8_dark_48 : decode cX8_dark 48 = .ok (.iconst 0, 1) := by decide +kernel
theorem dX8_dark_49 : decode cX8_dark 49 = .ok (.istore 5, 2) := by decide +kernel
theorem dX8_dark_51 : decode cX8_dark 51 = .ok (.iload 5, 2) := by decide +kernel
theorem dX8_dark_53 : decode cX8_dark 53 = .ok (.iconst 1, 1) := by decide +kernel
theorem dX8_dark_54 : decode cX8_dark 54 = .ok (.aload_n 0, 1) := by decide +kernel
theorem dX8_dark_55 : decode cX8_dark 55 = .ok (.getfield 10, 3) := by decide +kernel
theorem dX8_dark_58 : decode cX8_dark 58 = .ok (.getfield 93, 3) := by decide +kernel
theorem dX8_dark_61 : decode cX8_dark 61 = .ok (.ishl, 1) := by decide +kernel
theorem dX8_dark_62 : decode cX8_dark 62 = .ok (.if_icmp .ge 79, 3) := by decide +kernel
theorem dX8_dark_65 : decode cX8_dark 65 = .ok (.iload 5, 2) := by decide +kernel
theorem dX8_dark_67 : decode cX8_dark 67 = .ok (.aload_n 0, 1) := by decide +kernel
theorem dX8_dark_68 : decode cX8_dark 68 = .ok (.getfield 10, 3) := by decide +kernel
theorem dX8_dark_71 : decode cX8_dark 71 = .ok (.getfield 128, 3) := by decide +kernel
theorem dX8_dark_74 : decode cX8_dark 74 = .ok (.iconst (-1), 1) := by decide +kernel
theorem dX8_dark_75 : decode cX8_dark 75 = .ok (.ixor, 1) := by decide +kernel
theorem dX8_dark_76 : decode cX8_dark 76 = .ok (.iand, 1) := by decide +kernel
theorem dX8_dark_77 : decode cX8_dark 77 = .ok (.ifCond .ne 58, 3) := by decide +kernel
theorem dX8_dark_80 : decode cX8_dark 80 = .ok (.iload 5, 2) := by decide +kernel
theorem dX8_dark_82 : decode cX8_dark 82 = .ok (.invokestatic 259, 3) := by decide +kernel
theorem dX8_dark_85 : decode cX8_dark 85 = .ok (.iload 4, 2) := by decide +kernel
theorem dX8_dark_87 : decode cX8_dark 87 = .ok (.if_icmp .ge 48, 3) := by decide +kernel
theorem dX8_dark_90 : decode cX8_dark 90 = .ok (.aload_n 0, 1) := by decide +kernel
theorem dX8_dark_91 : decode cX8_dark 91 = .ok (.getfield 49, 3) := by decide +kernel
theorem dX8_dark_94 : decode cX8_dark 94 = .ok (.aload_n 0, 1) := by decide +kernel
theorem dX8_dark_95 : decode cX8_dark 95 = .ok (.getfield 10, 3) := by decide +kernel
theorem dX8_dark_98 : decode cX8_dark 98 = .ok (.getfield 128, 3) := by decide +kernel
theorem dX8_dark_101 : decode cX8_dark 101 = .ok (.iload 5, 2) := by decide +kernel
theorem dX8_dark_103 : decode cX8_dark 103 = .ok (.iconst (-1), 1) := by decide +kernel
theorem dX8_dark_104 : decode cX8_dark 104 = .ok (.ixor, 1) := by decide +kernel
theorem dX8_dark_105 : decode cX8_dark 105 = .ok (.iand, 1) := by decide +kernel
theorem dX8_dark_106 : decode cX8_dark 106 = .ok (.putfield 264, 3) := by decide +kernel
theorem dX8_dark_109 : decode cX8_dark 109 = .ok (.aload_n 0, 1) := by decide +kernel
theorem dX8_dark_110 : decode cX8_dark 110 = .ok (.iload_n 1, 1) := by decide +kernel
theorem dX8_dark_111 : decode cX8_dark 111 = .ok (.invokevirtual 225, 3) := by decide +kernel
theorem dX8_dark_114 : decode cX8_dark 114 = .ok (.aload_n 0, 1) := by decide +kernel
theorem dX8_dark_115 : decode cX8_dark 115 = .ok (.getfield 43, 3) := by decide +kernel
theorem dX8_dark_118 : decode cX8_dark 118 = .ok (.invokevirtual 230, 3) := by decide +kernel
theorem dX8_dark_121 : decode cX8_dark 121 = .ok (.iload_n 2, 1) := by decide +kernel
theorem dX8_dark_122 : decode cX8_dark 122 = .ok (.if_icmp .gt 13, 3) := by decide +kernel
theorem dX8_dark_125 : decode cX8_dark 125 = .ok (.iload 5, 2) := by decide +kernel
theorem dX8_dark_127 : decode cX8_dark 127 = .ok (.istore_n 3, 1) := by decide +kernel
theorem dX8_dark_128 : decode cX8_dark 128 = .ok (.iload 5, 2) := by decide +kernel
theorem dX8_dark_130 : decode cX8_dark 130 = .ok (.invokestatic 259, 3) := by decide +kernel
theorem dX8_dark_133 : decode cX8_dark 133 = .ok (.istore 4, 2) := by decide +kernel
theorem dX8_dark_135 : decode cX8_dark 135 = .ok (.iinc 5 1, 3) := by decide +kernel
theorem dX8_dark_138 : decode cX8_dark 138 = .ok (.goto (-87), 3) := by decide +kernel
theorem dX8_dark_141 : decode cX8_dark 141 = .ok (.iload_n 3, 1) := by decide +kernel
theorem dX8_dark_142 : decode cX8_dark 142 = .ok (.ifCond .lt 7, 3) := by decide +kernel
theorem dX8_dark_145 : decode cX8_dark 145 = .ok (.iload_n 3, 1) := by decide +kernel
theorem dX8_dark_146 : decode cX8_dark 146 = .ok (.goto 8, 3) := by decide +kernel
theorem dX8_dark_149 : decode cX8_dark 149 = .ok (.aload_n 0, 1) := by decide +kernel
theorem dX8_dark_150 : decode cX8_dark 150 = .ok (.iconst 2, 1) := by decide +kernel
theorem dX8_dark_151 : decode cX8_dark 151 = .ok (.invokevirtual 86, 3) := by decide +kernel
theorem dX8_dark_154 : decode cX8_dark 154 = .ok (.ireturn, 1) := by decide +kernel
theorem dX8_deep_0 : decode cX8_deep 0 = .ok (.aload_n 0, 1) := by decide +kernel
theorem dX8_deep_1 : decode cX8_deep 1 = .ok (.iload_n 1, 1) := by decide +kernel
theorem dX8_deep_2 : decode cX8_deep 2 = .ok (.invokevirtual 96, 3) := by decide +kernel
theorem dX8_deep_5 : decode cX8_deep 5 = .ok (.ifCond .eq 13, 3) := by decide +kernel
theorem dX8_deep_8 : decode cX8_deep 8 = .ok (.iload_n 2, 1) := by decide +kernel
theorem dX8_deep_9 : decode cX8_deep 9 = .ok (.iconst 0, 1) := by decide +kernel
theorem dX8_deep_10 : decode cX8_deep 10 = .ok (.bipush 19, 2) := by decide +kernel
theorem dX8_deep_12 : decode cX8_deep 12 = .ok (.invokestatic 82, 3) := by decide +kernel
theorem dX8_deep_15 : decode cX8_deep 15 = .ok (.ifCond .ne 9, 3) := by decide +kernel
theorem dX8_deep_18 : decode cX8_deep 18 = .ok (.aload_n 0, 1) := by decide +kernel
theorem dX8_deep_19 : decode cX8_deep 19 = .ok (.iconst 1, 1) := by decide +kernel
theorem dX8_deep_20 : decode cX8_deep 20 = .ok (.invokevirtual 86, 3) := by decide +kernel
theorem dX8_deep_23 : decode cX8_deep 23 = .ok (.ireturn, 1) := by decide +kernel
theorem dX8_deep_24 : decode cX8_deep 24 = .ok (.iconst 0, 1) := by decide +kernel
theorem dX8_deep_25 : decode cX8_deep 25 = .ok (.istore_n 3, 1) := by decide +kernel
theorem dX8_deep_26 : decode cX8_deep 26 = .ok (.iload_n 3, 1) := by decide +kernel
theorem dX8_deep_27 : decode cX8_deep 27 = .ok (.bipush 99, 2) := by decide +kernel
theorem dX8_deep_29 : decode cX8_deep 29 = .ok (.if_icmp .gt 32, 3) := by decide +kernel
theorem dX8_deep_32 : decode cX8_deep 32 = .ok (.aload_n 0, 1) := by decide +kernel
theorem dX8_deep_33 : decode cX8_deep 33 = .ok (.getfield 10, 3) := by decide +kernel
theorem dX8_deep_36 : decode cX8_deep 36 = .ok (.iload_n 1, 1) := by decide +kernel
theorem dX8_deep_37 : decode cX8_deep 37 = .ok (.aload_n 0, 1) := by decide +kernel
theorem dX8_deep_38 : decode cX8_deep 38 = .ok (.getfield 10, 3) := by decide +kernel
theorem dX8_deep_41 : decode cX8_deep 41 = .ok (.getfield 109, 3) := by decide +kernel
theorem dX8_deep_44 : decode cX8_deep 44 = .ok (.iload_n 3, 1) := by decide +kernel
theorem dX8_deep_45 : decode cX8_deep 45 = .ok (.isub, 1) := by decide +kernel
theorem dX8_deep_46 : decode cX8_deep 46 = .ok (.invokevirtual 112, 3) := by decide +kernel
theorem dX8_deep_49 : decode cX8_deep 49 = .ok (.iload_n 2, 1) := by decide +kernel
theorem dX8_deep_50 : decode cX8_deep 50 = .ok (.if_icmp .lt 5, 3) := by decide +kernel
theorem dX8_deep_53 : decode cX8_deep 53 = .ok (.iload_n 3, 1) := by decide +kernel
theorem dX8_deep_54 : decode cX8_deep 54 = .ok (.ireturn, 1) := by decide +kernel
theorem dX8_deep_55 : decode cX8_deep 55 = .ok (.iinc 3 1, 3) := by decide +kernel
theorem dX8_deep_58 : decode cX8_deep 58 = .ok (.goto (-32), 3) := by decide +kernel
theorem dX8_deep_61 : decode cX8_deep 61 = .ok (.aload_n 0, 1) := by decide +kernel
theorem dX8_deep_62 : decode cX8_deep 62 = .ok (.iconst 2, 1) := by decide +kernel
theorem dX8_deep_63 : decode cX8_deep 63 = .ok (.invokevirtual 86, 3) := by decide +kernel
theorem dX8_deep_66 : decode cX8_deep 66 = .ok (.ireturn, 1) := by decide +kernel
theorem dX8_draws_0 : decode cX8_draws 0 = .ok (.aload_n 0, 1) := by decide +kernel
theorem dX8_draws_1 : decode cX8_draws 1 = .ok (.iload_n 1, 1) := by decide +kernel
theorem dX8_draws_2 : decode cX8_draws 2 = .ok (.invokevirtual 149, 3) := by decide +kernel
theorem dX8_draws_5 : decode cX8_draws 5 = .ok (.ifCond .ne 9, 3) := by decide +kernel
theorem dX8_draws_8 : decode cX8_draws 8 = .ok (.aload_n 0, 1) := by decide +kernel
theorem dX8_draws_9 : decode cX8_draws 9 = .ok (.iconst 1, 1) := by decide +kernel
theorem dX8_draws_10 : decode cX8_draws 10 = .ok (.invokevirtual 86, 3) := by decide +kernel
theorem dX8_draws_13 : decode cX8_draws 13 = .ok (.ireturn, 1) := by decide +kernel
theorem dX8_draws_14 : decode cX8_draws 14 = .ok (.aload_n 0, 1) := by decide +kernel
theorem dX8_draws_15 : decode cX8_draws 15 = .ok (.getfield 19, 3) := by decide +kernel
theorem dX8_draws_18 : decode cX8_draws 18 = .ok (.getfield 146, 3) := by decide +kernel
theorem dX8_draws_21 : decode cX8_draws 21 = .ok (.iload_n 1, 1) := by decide +kernel
theorem dX8_draws_22 : decode cX8_draws 22 = .ok (.iaload, 1) := by decide +kernel
theorem dX8_draws_23 : decode cX8_draws 23 = .ok (.ifCond .eq 9, 3) := by decide +kernel
theorem dX8_draws_26 : decode cX8_draws 26 = .ok (.aload_n 0, 1) := by decide +kernel
theorem dX8_draws_27 : decode cX8_draws 27 = .ok (.iconst 3, 1) := by decide +kernel
theorem dX8_draws_28 : decode cX8_draws 28 = .ok (.invokevirtual 86, 3) := by decide +kernel
theorem dX8_draws_31 : decode cX8_draws 31 = .ok (.ireturn, 1) := by decide +kernel
theorem dX8_draws_32 : decode cX8_draws 32 = .ok (.aload_n 0, 1) := by decide +kernel
theorem dX8_draws_33 : decode cX8_draws 33 = .ok (.getfield 49, 3) := by decide +kernel
theorem dX8_draws_36 : decode cX8_draws 36 = .ok (.aload_n 0, 1) := by decide +kernel
theorem dX8_draws_37 : decode cX8_draws 37 = .ok (.getfield 10, 3) := by decide +kernel
theorem dX8_draws_40 : decode cX8_draws 40 = .ok (.aload_n 0, 1) := by decide +kernel
theorem dX8_draws_41 : decode cX8_draws 41 = .ok (.getfield 10, 3) := by decide +kernel
theorem dX8_draws_44 : decode cX8_draws 44 = .ok (.getfield 116, 3) := by decide +kernel
theorem dX8_draws_47 : decode cX8_draws 47 = .ok (.invokevirtual 155, 3) := by decide +kernel
theorem dX8_draws_50 : decode cX8_draws 50 = .ok (.bipush 9, 2) := by decide +kernel
theorem dX8_draws_52 : decode cX8_draws 52 = .ok (.istore_n 2, 1) := by decide +kernel
theorem dX8_draws_53 : decode cX8_draws 53 = .ok (.iload_n 2, 1) := by decide +kernel
theorem dX8_draws_54 : decode cX8_draws 54 = .ok (.ifCond .lt 60, 3) := by decide +kernel
theorem dX8_draws_57 : decode cX8_draws 57 = .ok (.aload_n 0, 1) := by decide +kernel
theorem dX8_draws_58 : decode cX8_draws 58 = .ok (.iconst 0, 1) := by decide +kernel
theorem dX8_draws_59 : decode cX8_draws 59 = .ok (.invokevirtual 225, 3) := by decide +kernel
theorem dX8_draws_62 : decode cX8_draws 62 = .ok (.aload_n 0, 1) := by decide +kernel
theorem dX8_draws_63 : decode cX8_draws 63 = .ok (.getfield 43, 3) := by decide +kernel
theorem dX8_draws_66 : decode cX8_draws 66 = .ok (.getfield 140, 3) := by decide +kernel
theorem dX8_draws_69 : decode cX8_draws 69 = .ok (.iload_n 1, 1) := by decide +kernel
theorem dX8_draws_70 : decode cX8_draws 70 = .ok (.iload_n 2, 1) := by decide +kernel
theorem dX8_draws_71 : decode cX8_draws 71 = .ok (.iastore, 1) := by decide +kernel
theorem dX8_draws_72 : decode cX8_draws 72 = .ok (.iconst 0, 1) := by decide +kernel
theorem dX8_draws_73 : decode cX8_draws 73 = .ok (.istore_n 3, 1) := by decide +kernel
theorem dX8_draws_74 : decode cX8_draws 74 = .ok (.iload_n 3, 1) := by decide +kernel
theorem dX8_draws_75 : decode cX8_draws 75 = .ok (.bipush 60, 2) := by decide +kernel
theorem dX8_draws_77 : decode cX8_draws 77 = .ok (.if_icmp .ge 17, 3) := by decide +kernel
theorem dX8_draws_80 : decode cX8_draws 80 = .ok (.aload_n 0, 1) := by decide +kernel
theorem dX8_draws_81 : decode cX8_draws 81 = .ok (.aload_n 0, 1) := by decide +kernel
theorem dX8_draws_82 : decode cX8_draws 82 = .ok (.getfield 43, 3) := by decide +kernel
theorem dX8_draws_85 : decode cX8_draws 85 = .ok (.invokevirtual 207, 3) := by decide +kernel
theorem dX8_draws_88 : decode cX8_draws 88 = .ok (.iinc 3 1, 3) := by decide +kernel
theorem dX8_draws_91 : decode cX8_draws 91 = .ok (.goto (-17), 3) := by decide +kernel
theorem dX8_draws_94 : decode cX8_draws 94 = .ok (.aload_n 0, 1) := by decide +kernel
theorem dX8_draws_95 : decode cX8_draws 95 = .ok (.getfield 43, 3) := by decide +kernel
theorem dX8_draws_98 : decode cX8_draws 98 = .ok (.getfield 143, 3) := by decide +kernel
theorem dX8_draws_101 : decode cX8_draws 101 = .ok (.iload_n 1, 1) := by decide +kernel
theorem dX8_draws_102 : decode cX8_draws 102 = .ok (.iaload, 1) := by decide +kernel
theorem dX8_draws_103 : decode cX8_draws 103 = .ok (.ifCond .ne 5, 3) := by decide +kernel
theorem dX8_draws_106 : decode cX8_draws 106 = .ok (.iload_n 2, 1) := by decide +kernel
theorem dX8_draws_107 : decode cX8_draws 107 = .ok (.ireturn, 1) := by decide +kernel
theorem dX8_draws_108 : decode cX8_draws 108 = .ok (.iinc 2 (-1), 3) := by decide +kernel
theorem dX8_draws_111 : decode cX8_draws 111 = .ok (.goto (-58), 3) := by decide +kernel
theorem dX8_draws_114 : decode cX8_draws 114 = .ok (.aload_n 0, 1) := by decide +kernel
theorem dX8_draws_115 : decode cX8_draws 115 = .ok (.iconst 2, 1) := by decide +kernel
theorem dX8_draws_116 : decode cX8_draws 116 = .ok (.invokevirtual 86, 3) := by decide +kernel
theorem dX8_draws_119 : decode cX8_draws 119 = .ok (.ireturn, 1) := by decide +kernel
theorem dX8_traffic_0 : decode cX8_traffic 0 = .ok (.iload_n 1, 1) := by decide +kernel
theorem dX8_traffic_1 : decode cX8_traffic 1 = .ok (.iconst 0, 1) := by decide +kernel
theorem dX8_traffic_2 : decode cX8_traffic 2 = .ok (.bipush 60, 2) := by decide +kernel
theorem dX8_traffic_4 : decode cX8_traffic 4 = .ok (.invokestatic 82, 3) := by decide +kernel
theorem dX8_traffic_7 : decode cX8_traffic 7 = .ok (.ifCond .eq 12, 3) := by decide +kernel
theorem dX8_traffic_10 : decode cX8_traffic 10 = .ok (.iload_n 2, 1) := by decide +kernel
theorem dX8_traffic_11 : decode cX8_traffic 11 = .ok (.iconst 0, 1) := by decide +kernel
theorem dX8_traffic_12 : decode cX8_traffic 12 = .ok (.iconst 1, 1) := by decide +kernel
theorem dX8_traffic_13 : decode cX8_traffic 13 = .ok (.invokestatic 82, 3) := by decide +kernel
theorem dX8_traffic_16 : decode cX8_traffic 16 = .ok (.ifCond .ne 9, 3) := by decide +kernel
theorem dX8_traffic_19 : decode cX8_traffic 19 = .ok (.aload_n 0, 1) := by decide +kernel
theorem dX8_traffic_20 : decode cX8_traffic 20 = .ok (.iconst 1, 1) := by decide +kernel
theorem dX8_traffic_21 : decode cX8_traffic 21 = .ok (.invokevirtual 86, 3) := by decide +kernel
theorem dX8_traffic_24 : decode cX8_traffic 24 = .ok (.ireturn, 1) := by decide +kernel
theorem dX8_traffic_25 : decode cX8_traffic 25 = .ok (.aload_n 0, 1) := by decide +kernel
theorem dX8_traffic_26 : decode cX8_traffic 26 = .ok (.getfield 49, 3) := by decide +kernel
theorem dX8_traffic_29 : decode cX8_traffic 29 = .ok (.aload_n 0, 1) := by decide +kernel
theorem dX8_traffic_30 : decode cX8_traffic 30 = .ok (.getfield 10, 3) := by decide +kernel
theorem dX8_traffic_33 : decode cX8_traffic 33 = .ok (.aload_n 0, 1) := by decide +kernel
theorem dX8_traffic_34 : decode cX8_traffic 34 = .ok (.getfield 10, 3) := by decide +kernel
theorem dX8_traffic_37 : decode cX8_traffic 37 = .ok (.getfield 116, 3) := by decide +kernel
theorem dX8_traffic_40 : decode cX8_traffic 40 = .ok (.invokevirtual 155, 3) := by decide +kernel
theorem dX8_traffic_43 : decode cX8_traffic 43 = .ok (.aload_n 0, 1) := by decide +kernel
theorem dX8_traffic_44 : decode cX8_traffic 44 = .ok (.iload_n 1, 1) := by decide +kernel
theorem dX8_traffic_45 : decode cX8_traffic 45 = .ok (.invokevirtual 225, 3) := by decide +kernel
theorem dX8_traffic_48 : decode cX8_traffic 48 = .ok (.aload_n 0, 1) := by decide +kernel
theorem dX8_traffic_49 : decode cX8_traffic 49 = .ok (.getfield 43, 3) := by decide +kernel
theorem dX8_traffic_52 : decode cX8_traffic 52 = .ok (.invokevirtual 256, 3) := by decide +kernel
theorem dX8_traffic_55 : decode cX8_traffic 55 = .ok (.iconst (-1), 1) := by decide +kernel
theorem dX8_traffic_56 : decode cX8_traffic 56 = .ok (.ixor, 1) := by decide +kernel
theorem dX8_traffic_57 : decode cX8_traffic 57 = .ok (.istore_n 3, 1) := by decide +kernel
theorem dX8_traffic_58 : decode cX8_traffic 58 = .ok (.iconst 0, 1) := by decide +kernel
theorem dX8_traffic_59 : decode cX8_traffic 59 = .ok (.istore 4, 2) := by decide +kernel
theorem dX8_traffic_61 : decode cX8_traffic 61 = .ok (.iconst (-1), 1) := by decide +kernel
theorem dX8_traffic_62 : decode cX8_traffic 62 = .ok (.istore 5, 2) := by decide +kernel
theorem dX8_traffic_64 : decode cX8_traffic 64 = .ok (.iconst 0, 1) := by decide +kernel
theorem dX8_traffic_65 : decode cX8_traffic 65 = .ok (.istore 6, 2) := by decide +kernel
theorem dX8_traffic_67 : decode cX8_traffic 67 = .ok (.iload 6, 2) := by decide +kernel
theorem dX8_traffic_69 : decode cX8_traffic 69 = .ok (.aload_n 0, 1) := by decide +kernel
theorem dX8_traffic_70 : decode cX8_traffic 70 = .ok (.getfield 10, 3) := by decide +kernel
theorem dX8_traffic_73 : decode cX8_traffic 73 = .ok (.getfield 93, 3) := by decide +kernel
theorem dX8_traffic_76 : decode cX8_traffic 76 = .ok (.if_icmp .ge 40, 3) := by decide +kernel
theorem dX8_traffic_79 : decode cX8_traffic 79 = .ok (.aload_n 0, 1) := by decide +kernel
theorem dX8_traffic_80 : decode cX8_traffic 80 = .ok (.getfield 43, 3) := by decide +kernel
theorem dX8_traffic_83 : decode cX8_traffic 83 = .ok (.iload 6, 2) := by decide +kernel
theorem dX8_traffic_85 : decode cX8_traffic 85 = .ok (.invokevirtual 122, 3) := by decide +kernel
theorem dX8_traffic_88 : decode cX8_traffic 88 = .ok (.iload_n 3, 1) := by decide +kernel
theorem dX8_traffic_89 : decode cX8_traffic 89 = .ok (.iand, 1) := by decide +kernel
theorem dX8_traffic_90 : decode cX8_traffic 90 = .ok (.invokestatic 259, 3) := by decide +kernel
theorem dX8_traffic_93 : decode cX8_traffic 93 = .ok (.istore 7, 2) := by decide +kernel
theorem dX8_traffic_95 : decode cX8_traffic 95 = .ok (.iload 7, 2) := by decide +kernel
theorem dX8_traffic_97 : decode cX8_traffic 97 = .ok (.iload 5, 2) := by decide +kernel
theorem dX8_traffic_99 : decode cX8_traffic 99 = .ok (.if_icmp .le 11, 3) := by decide +kernel
theorem dX8_traffic_102 : decode cX8_traffic 102 = .ok (.iload 6, 2) := by decide +kernel
theorem dX8_traffic_104 : decode cX8_traffic 104 = .ok (.istore 4, 2) := by decide +kernel
theorem dX8_traffic_106 : decode cX8_traffic 106 = .ok (.iload 7, 2) := by decide +kernel
theorem dX8_traffic_108 : decode cX8_traffic 108 = .ok (.istore 5, 2) := by decide +kernel
theorem dX8_traffic_110 : decode cX8_traffic 110 = .ok (.iinc 6 1, 3) := by decide +kernel
theorem dX8_traffic_113 : decode cX8_traffic 113 = .ok (.goto (-46), 3) := by decide +kernel
theorem dX8_traffic_116 : decode cX8_traffic 116 = .ok (.iload_n 2, 1) := by decide +kernel
theorem dX8_traffic_117 : decode cX8_traffic 117 = .ok (.ifCond .ne 8, 3) := by decide +kernel
theorem dX8_traffic_120 : decode cX8_traffic 120 = .ok (.iload 4, 2) := by decide +kernel
theorem dX8_traffic_122 : decode cX8_traffic 122 = .ok (.goto 5, 3) := by decide +kernel
theorem dX8_traffic_125 : decode cX8_traffic 125 = .ok (.iload 5, 2) := by decide +kernel
theorem dX8_traffic_127 : decode cX8_traffic 127 = .ok (.ireturn, 1) := by decide +kernel
theorem dX8_odds_0 : decode cX8_odds 0 = .ok (.aload_n 0, 1) := by decide +kernel
theorem dX8_odds_1 : decode cX8_odds 1 = .ok (.iload_n 1, 1) := by decide +kernel
theorem dX8_odds_2 : decode cX8_odds 2 = .ok (.invokevirtual 149, 3) := by decide +kernel
theorem dX8_odds_5 : decode cX8_odds 5 = .ok (.ifCond .eq 22, 3) := by decide +kernel
theorem dX8_odds_8 : decode cX8_odds 8 = .ok (.iload_n 2, 1) := by decide +kernel
theorem dX8_odds_9 : decode cX8_odds 9 = .ok (.iconst 0, 1) := by decide +kernel
theorem dX8_odds_10 : decode cX8_odds 10 = .ok (.bipush 60, 2) := by decide +kernel
theorem dX8_odds_12 : decode cX8_odds 12 = .ok (.invokestatic 82, 3) := by decide +kernel
theorem dX8_odds_15 : decode cX8_odds 15 = .ok (.ifCond .eq 12, 3) := by decide +kernel
theorem dX8_odds_18 : decode cX8_odds 18 = .ok (.iload_n 3, 1) := by decide +kernel
theorem dX8_odds_19 : decode cX8_odds 19 = .ok (.iconst 0, 1) := by decide +kernel
theorem dX8_odds_20 : decode cX8_odds 20 = .ok (.iconst 1, 1) := by decide +kernel
theorem dX8_odds_21 : decode cX8_odds 21 = .ok (.invokestatic 82, 3) := by decide +kernel
theorem dX8_odds_24 : decode cX8_odds 24 = .ok (.ifCond .ne 9, 3) := by decide +kernel
theorem dX8_odds_27 : decode cX8_odds 27 = .ok (.aload_n 0, 1) := by decide +kernel
theorem dX8_odds_28 : decode cX8_odds 28 = .ok (.iconst 1, 1) := by decide +kernel
theorem dX8_odds_29 : decode cX8_odds 29 = .ok (.invokevirtual 86, 3) := by decide +kernel
theorem dX8_odds_32 : decode cX8_odds 32 = .ok (.ireturn, 1) := by decide +kernel
theorem dX8_odds_33 : decode cX8_odds 33 = .ok (.iconst 0, 1) := by decide +kernel
theorem dX8_odds_34 : decode cX8_odds 34 = .ok (.istore 4, 2) := by decide +kernel
theorem dX8_odds_36 : decode cX8_odds 36 = .ok (.iconst 0, 1) := by decide +kernel
theorem dX8_odds_37 : decode cX8_odds 37 = .ok (.istore 5, 2) := by decide +kernel
theorem dX8_odds_39 : decode cX8_odds 39 = .ok (.iload 5, 2) := by decide +kernel
theorem dX8_odds_41 : decode cX8_odds 41 = .ok (.bipush 20, 2) := by decide +kernel
theorem dX8_odds_43 : decode cX8_odds 43 = .ok (.if_icmp .ge 42, 3) := by decide +kernel
theorem dX8_odds_46 : decode cX8_odds 46 = .ok (.aload_n 0, 1) := by decide +kernel
theorem dX8_odds_47 : decode cX8_odds 47 = .ok (.getfield 49, 3) := by decide +kernel
theorem dX8_odds_50 : decode cX8_odds 50 = .ok (.aload_n 0, 1) := by decide +kernel
theorem dX8_odds_51 : decode cX8_odds 51 = .ok (.getfield 10, 3) := by decide +kernel
theorem dX8_odds_54 : decode cX8_odds 54 = .ok (.iload 5, 2) := by decide +kernel
theorem dX8_odds_56 : decode cX8_odds 56 = .ok (.invokevirtual 155, 3) := by decide +kernel
theorem dX8_odds_59 : decode cX8_odds 59 = .ok (.aload_n 0, 1) := by decide +kernel
theorem dX8_odds_60 : decode cX8_odds 60 = .ok (.iload_n 2, 1) := by decide +kernel
theorem dX8_odds_61 : decode cX8_odds 61 = .ok (.invokevirtual 225, 3) := by decide +kernel
theorem dX8_odds_64 : decode cX8_odds 64 = .ok (.aload_n 0, 1) := by decide +kernel
theorem dX8_odds_65 : decode cX8_odds 65 = .ok (.getfield 43, 3) := by decide +kernel
theorem dX8_odds_68 : decode cX8_odds 68 = .ok (.getfield 143, 3) := by decide +kernel
theorem dX8_odds_71 : decode cX8_odds 71 = .ok (.iload_n 1, 1) := by decide +kernel
theorem dX8_odds_72 : decode cX8_odds 72 = .ok (.iaload, 1) := by decide +kernel
theorem dX8_odds_73 : decode cX8_odds 73 = .ok (.ifCond .ne 6, 3) := by decide +kernel
theorem dX8_odds_76 : decode cX8_odds 76 = .ok (.iinc 4 1, 3) := by decide +kernel
theorem dX8_odds_79 : decode cX8_odds 79 = .ok (.iinc 5 1, 3) := by decide +kernel
theorem dX8_odds_82 : decode cX8_odds 82 = .ok (.goto (-43), 3) := by decide +kernel
theorem dX8_odds_85 : decode cX8_odds 85 = .ok (.iload 4, 2) := by decide +kernel
theorem dX8_odds_87 : decode cX8_odds 87 = .ok (.bipush 20, 2) := by decide +kernel
theorem dX8_odds_89 : decode cX8_odds 89 = .ok (.invokestatic 265, 3) := by decide +kernel
theorem dX8_odds_92 : decode cX8_odds 92 = .ok (.istore 5, 2) := by decide +kernel
theorem dX8_odds_94 : decode cX8_odds 94 = .ok (.iload_n 3, 1) := by decide +kernel
theorem dX8_odds_95 : decode cX8_odds 95 = .ok (.ifCond .ne 8, 3) := by decide +kernel
theorem dX8_odds_98 : decode cX8_odds 98 = .ok (.iload 4, 2) := by decide +kernel
theorem dX8_odds_100 : decode cX8_odds 100 = .ok (.goto 5, 3) := by decide +kernel
theorem dX8_odds_103 : decode cX8_odds 103 = .ok (.bipush 20, 2) := by decide +kernel
theorem dX8_odds_105 : decode cX8_odds 105 = .ok (.iload 5, 2) := by decide +kernel
theorem dX8_odds_107 : decode cX8_odds 107 = .ok (.idiv, 1) := by decide +kernel
theorem dX8_odds_108 : decode cX8_odds 108 = .ok (.ireturn, 1) := by decide +kernel
theorem dX8_greatestDivisor_0 : decode cX8_greatestDivisor 0 = .ok (.iconst 1, 1) := by decide +kernel
theorem dX8_greatestDivisor_1 : decode cX8_greatestDivisor 1 = .ok (.istore_n 2, 1) := by decide +kernel
theorem dX8_greatestDivisor_2 : decode cX8_greatestDivisor 2 = .ok (.iconst 2, 1) := by decide +kernel
theorem dX8_greatestDivisor_3 : decode cX8_greatestDivisor 3 = .ok (.istore_n 3, 1) := by decide +kernel
theorem dX8_greatestDivisor_4 : decode cX8_greatestDivisor 4 = .ok (.iload_n 3, 1) := by decide +kernel
theorem dX8_greatestDivisor_5 : decode cX8_greatestDivisor 5 = .ok (.iload_n 1, 1) := by decide +kernel
theorem dX8_greatestDivisor_6 : decode cX8_greatestDivisor 6 = .ok (.if_icmp .gt 23, 3) := by decide +kernel
theorem dX8_greatestDivisor_9 : decode cX8_greatestDivisor 9 = .ok (.iload_n 0, 1) := by decide +kernel
theorem dX8_greatestDivisor_10 : decode cX8_greatestDivisor 10 = .ok (.iload_n 3, 1) := by decide +kernel
theorem dX8_greatestDivisor_11 : decode cX8_greatestDivisor 11 = .ok (.irem, 1) := by decide +kernel
theorem dX8_greatestDivisor_12 : decode cX8_greatestDivisor 12 = .ok (.ifCond .ne 11, 3) := by decide +kernel
theorem dX8_greatestDivisor_15 : decode cX8_greatestDivisor 15 = .ok (.iload_n 1, 1) := by decide +kernel
theorem dX8_greatestDivisor_16 : decode cX8_greatestDivisor 16 = .ok (.iload_n 3, 1) := by decide +kernel
theorem dX8_greatestDivisor_17 : decode cX8_greatestDivisor 17 = .ok (.irem, 1) := by decide +kernel
theorem dX8_greatestDivisor_18 : decode cX8_greatestDivisor 18 = .ok (.ifCond .ne 5, 3) := by decide +kernel
theorem dX8_greatestDivisor_21 : decode cX8_greatestDivisor 21 = .ok (.iload_n 3, 1) := by decide +kernel
theorem dX8_greatestDivisor_22 : decode cX8_greatestDivisor 22 = .ok (.istore_n 2, 1) := by decide +kernel
theorem dX8_greatestDivisor_23 : decode cX8_greatestDivisor 23 = .ok (.iinc 3 1, 3) := by decide +kernel
theorem dX8_greatestDivisor_26 : decode cX8_greatestDivisor 26 = .ok (.goto (-22), 3) := by decide +kernel
theorem dX8_greatestDivisor_29 : decode cX8_greatestDivisor 29 = .ok (.iload_n 2, 1) := by decide +kernel
theorem dX8_greatestDivisor_30 : decode cX8_greatestDivisor 30 = .ok (.ireturn, 1) := by decide +kernel
theorem dX8_seed_0 : decode cX8_seed 0 = .ok (.aload_n 0, 1) := by decide +kernel
theorem dX8_seed_1 : decode cX8_seed 1 = .ok (.getfield 26, 3) := by decide +kernel
theorem dX8_seed_4 : decode cX8_seed 4 = .ok (.getfield 268, 3) := by decide +kernel
theorem dX8_seed_7 : decode cX8_seed 7 = .ok (.istore_n 2, 1) := by decide +kernel
theorem dX8_seed_8 : decode cX8_seed 8 = .ok (.aload_n 0, 1) := by decide +kernel
theorem dX8_seed_9 : decode cX8_seed 9 = .ok (.getfield 26, 3) := by decide +kernel
theorem dX8_seed_12 : decode cX8_seed 12 = .ok (.iload_n 1, 1) := by decide +kernel
theorem dX8_seed_13 : decode cX8_seed 13 = .ok (.putfield 268, 3) := by decide +kernel
theorem dX8_seed_16 : decode cX8_seed 16 = .ok (.iload_n 2, 1) := by decide +kernel
theorem dX8_seed_17 : decode cX8_seed 17 = .ok (.ireturn, 1) := by decide +kernel
theorem dX8_voice_0 : decode cX8_voice 0 = .ok (.aload_n 0, 1) := by decide +kernel
theorem dX8_voice_1 : decode cX8_voice 1 = .ok (.iload_n 1, 1) := by decide +kernel
theorem dX8_voice_2 : decode cX8_voice 2 = .ok (.invokevirtual 149, 3) := by decide +kernel
theorem dX8_voice_5 : decode cX8_voice 5 = .ok (.ifCond .eq 12, 3) := by decide +kernel
theorem dX8_voice_8 : decode cX8_voice 8 = .ok (.iload_n 2, 1) := by decide +kernel
theorem dX8_voice_9 : decode cX8_voice 9 = .ok (.iconst 0, 1) := by decide +kernel
theorem dX8_voice_10 : decode cX8_voice 10 = .ok (.iconst 3, 1) := by decide +kernel
theorem dX8_voice_11 : decode cX8_voice 11 = .ok (.invokestatic 82, 3) := by decide +kernel
theorem dX8_voice_14 : decode cX8_voice 14 = .ok (.ifCond .ne 9, 3) := by decide +kernel
theorem dX8_voice_17 : decode cX8_voice 17 = .ok (.aload_n 0, 1) := by decide +kernel
theorem dX8_voice_18 : decode cX8_voice 18 = .ok (.iconst 1, 1) := by decide +kernel
theorem dX8_voice_19 : decode cX8_voice 19 = .ok (.invokevirtual 86, 3) := by decide +kernel
theorem dX8_voice_22 : decode cX8_voice 22 = .ok (.ireturn, 1) := by decide +kernel
theorem dX8_voice_23 : decode cX8_voice 23 = .ok (.aload_n 0, 1) := by decide +kernel
theorem dX8_voice_24 : decode cX8_voice 24 = .ok (.getfield 63, 3) := by decide +kernel
theorem dX8_voice_27 : decode cX8_voice 27 = .ok (.aload_n 0, 1) := by decide +kernel
theorem dX8_voice_28 : decode cX8_voice 28 = .ok (.getfield 19, 3) := by decide +kernel
theorem dX8_voice_31 : decode cX8_voice 31 = .ok (.getfield 134, 3) := by decide +kernel
theorem dX8_voice_34 : decode cX8_voice 34 = .ok (.iload_n 1, 1) := by decide +kernel
theorem dX8_voice_35 : decode cX8_voice 35 = .ok (.iaload, 1) := by decide +kernel
theorem dX8_voice_36 : decode cX8_voice 36 = .ok (.iload_n 1, 1) := by decide +kernel
theorem dX8_voice_37 : decode cX8_voice 37 = .ok (.aload_n 0, 1) := by decide +kernel
theorem dX8_voice_38 : decode cX8_voice 38 = .ok (.getfield 19, 3) := by decide +kernel
theorem dX8_voice_41 : decode cX8_voice 41 = .ok (.getfield 137, 3) := by decide +kernel
theorem dX8_voice_44 : decode cX8_voice 44 = .ok (.iload_n 1, 1) := by decide +kernel
theorem dX8_voice_45 : decode cX8_voice 45 = .ok (.iaload, 1) := by decide +kernel
theorem dX8_voice_46 : decode cX8_voice 46 = .ok (.iload_n 2, 1) := by decide +kernel
theorem dX8_voice_47 : decode cX8_voice 47 = .ok (.iload_n 3, 1) := by decide +kernel
theorem dX8_voice_48 : decode cX8_voice 48 = .ok (.invokevirtual 271, 3) := by decide +kernel
theorem dX8_voice_51 : decode cX8_voice 51 = .ok (.ireturn, 1) := by decide +kernel
theorem dX8_trace_0 : decode cX8_trace 0 = .ok (.iload_n 1, 1) := by decide +kernel
theorem dX8_trace_1 : decode cX8_trace 1 = .ok (.iconst 0, 1) := by decide +kernel
theorem dX8_trace_2 : decode cX8_trace 2 = .ok (.aload_n 0, 1) := by decide +kernel
theorem dX8_trace_3 : decode cX8_trace 3 = .ok (.getfield 63, 3) := by decide +kernel
theorem dX8_trace_6 : decode cX8_trace 6 = .ok (.getfield 275, 3) := by decide +kernel
theorem dX8_trace_9 : decode cX8_trace 9 = .ok (.iconst 1, 1) := by decide +kernel
theorem dX8_trace_10 : decode cX8_trace 10 = .ok (.isub, 1) := by decide +kernel
theorem dX8_trace_11 : decode cX8_trace 11 = .ok (.invokestatic 82, 3) := by decide +kernel
theorem dX8_trace_14 : decode cX8_trace 14 = .ok (.ifCond .eq 15, 3) := by decide +kernel
theorem dX8_trace_17 : decode cX8_trace 17 = .ok (.aload_n 0, 1) := by decide +kernel
theorem dX8_trace_18 : decode cX8_trace 18 = .ok (.getfield 63, 3) := by decide +kernel
theorem dX8_trace_21 : decode cX8_trace 21 = .ok (.getfield 278, 3) := by decide +kernel
theorem dX8_trace_24 : decode cX8_trace 24 = .ok (.iload_n 1, 1) := by decide +kernel
theorem dX8_trace_25 : decode cX8_trace 25 = .ok (.iaload, 1) := by decide +kernel
theorem dX8_trace_26 : decode cX8_trace 26 = .ok (.goto 8, 3) := by decide +kernel
theorem dX8_trace_29 : decode cX8_trace 29 = .ok (.aload_n 0, 1) := by decide +kernel
theorem dX8_trace_30 : decode cX8_trace 30 = .ok (.iconst 2, 1) := by decide +kernel
theorem dX8_trace_31 : decode cX8_trace 31 = .ok (.invokevirtual 86, 3) := by decide +kernel
theorem dX8_trace_34 : decode cX8_trace 34 = .ok (.ireturn, 1) := by decide +kernel
theorem dX8_sheet_0 : decode cX8_sheet 0 = .ok (.iload_n 1, 1) := by decide +kernel
theorem dX8_sheet_1 : decode cX8_sheet 1 = .ok (.invokestatic 239, 3) := by decide +kernel
theorem dX8_sheet_4 : decode cX8_sheet 4 = .ok (.ifCond .eq 25, 3) := by decide +kernel
theorem dX8_sheet_7 : decode cX8_sheet 7 = .ok (.iload_n 2, 1) := by decide +kernel
theorem dX8_sheet_8 : decode cX8_sheet 8 = .ok (.ifCond .eq 27, 3) := by decide +kernel
theorem dX8_sheet_11 : decode cX8_sheet 11 = .ok (.iload_n 2, 1) := by decide +kernel
theorem dX8_sheet_12 : decode cX8_sheet 12 = .ok (.bipush 8, 2) := by decide +kernel
theorem dX8_sheet_14 : decode cX8_sheet 14 = .ok (.if_icmp .eq 21, 3) := by decide +kernel
theorem dX8_sheet_17 : decode cX8_sheet 17 = .ok (.iload_n 2, 1) := by decide +kernel
theorem dX8_sheet_18 : decode cX8_sheet 18 = .ok (.bipush 16, 2) := by decide +kernel
theorem dX8_sheet_20 : decode cX8_sheet 20 = .ok (.if_icmp .eq 15, 3) := by decide +kernel
theorem dX8_sheet_23 : decode cX8_sheet 23 = .ok (.iload_n 2, 1) := by decide +kernel
theorem dX8_sheet_24 : decode cX8_sheet 24 = .ok (.bipush 32, 2) := by decide +kernel
theorem dX8_sheet_26 : decode cX8_sheet 26 = .ok (.if_icmp .eq 9, 3) := by decide +kernel
theorem dX8_sheet_29 : decode cX8_sheet 29 = .ok (.aload_n 0, 1) := by decide +kernel
theorem dX8_sheet_30 : decode cX8_sheet 30 = .ok (.iconst 1, 1) := by decide +kernel
theorem dX8_sheet_31 : decode cX8_sheet 31 = .ok (.invokevirtual 86, 3) := by decide +kernel
theorem dX8_sheet_34 : decode cX8_sheet 34 = .ok (.ireturn, 1) := by decide +kernel
theorem dX8_sheet_35 : decode cX8_sheet 35 = .ok (.iload_n 2, 1) := by decide +kernel
theorem dX8_sheet_36 : decode cX8_sheet 36 = .ok (.ifCond .ne 16, 3) := by decide +kernel
theorem dX8_sheet_39 : decode cX8_sheet 39 = .ok (.aload_n 0, 1) := by decide +kernel
theorem dX8_sheet_40 : decode cX8_sheet 40 = .ok (.getfield 70, 3) := by decide +kernel
theorem dX8_sheet_43 : decode cX8_sheet 43 = .ok (.iload_n 1, 1) := by decide +kernel
theorem dX8_sheet_44 : decode cX8_sheet 44 = .ok (.aaload, 1) := by decide +kernel
theorem dX8_sheet_45 : decode cX8_sheet 45 = .ok (.iconst 0, 1) := by decide +kernel
theorem dX8_sheet_46 : decode cX8_sheet 46 = .ok (.iconst 0, 1) := by decide +kernel
theorem dX8_sheet_47 : decode cX8_sheet 47 = .ok (.invokevirtual 281, 3) := by decide +kernel
theorem dX8_sheet_50 : decode cX8_sheet 50 = .ok (.iconst 1, 1) := by decide +kernel
theorem dX8_sheet_51 : decode cX8_sheet 51 = .ok (.ireturn, 1) := by decide +kernel
theorem dX8_sheet_52 : decode cX8_sheet 52 = .ok (.iload_n 3, 1) := by decide +kernel
theorem dX8_sheet_53 : decode cX8_sheet 53 = .ok (.ifCond .ge 9, 3) := by decide +kernel
theorem dX8_sheet_56 : decode cX8_sheet 56 = .ok (.aload_n 0, 1) := by decide +kernel
theorem dX8_sheet_57 : decode cX8_sheet 57 = .ok (.iconst 3, 1) := by decide +kernel
theorem dX8_sheet_58 : decode cX8_sheet 58 = .ok (.invokevirtual 86, 3) := by decide +kernel
theorem dX8_sheet_61 : decode cX8_sheet 61 = .ok (.ireturn, 1) := by decide +kernel
theorem dX8_sheet_62 : decode cX8_sheet 62 = .ok (.iload_n 3, 1) := by decide +kernel
theorem dX8_sheet_63 : decode cX8_sheet 63 = .ok (.bipush 40, 2) := by decide +kernel
theorem dX8_sheet_65 : decode cX8_sheet 65 = .ok (.if_icmp .le 9, 3) := by decide +kernel
theorem dX8_sheet_68 : decode cX8_sheet 68 = .ok (.aload_n 0, 1) := by decide +kernel
theorem dX8_sheet_69 : decode cX8_sheet 69 = .ok (.iconst 1, 1) := by decide +kernel
theorem dX8_sheet_70 : decode cX8_sheet 70 = .ok (.invokevirtual 86, 3) := by decide +kernel
theorem dX8_sheet_73 : decode cX8_sheet 73 = .ok (.ireturn, 1) := by decide +kernel
theorem dX8_sheet_74 : decode cX8_sheet 74 = .ok (.aload_n 0, 1) := by decide +kernel
theorem dX8_sheet_75 : decode cX8_sheet 75 = .ok (.getfield 70, 3) := by decide +kernel
theorem dX8_sheet_78 : decode cX8_sheet 78 = .ok (.iload_n 1, 1) := by decide +kernel
theorem dX8_sheet_79 : decode cX8_sheet 79 = .ok (.aaload, 1) := by decide +kernel
theorem dX8_sheet_80 : decode cX8_sheet 80 = .ok (.iload_n 2, 1) := by decide +kernel
theorem dX8_sheet_81 : decode cX8_sheet 81 = .ok (.iload_n 3, 1) := by decide +kernel
theorem dX8_sheet_82 : decode cX8_sheet 82 = .ok (.invokevirtual 281, 3) := by decide +kernel
theorem dX8_sheet_85 : decode cX8_sheet 85 = .ok (.iconst 1, 1) := by decide +kernel
theorem dX8_sheet_86 : decode cX8_sheet 86 = .ok (.ireturn, 1) := by decide +kernel
theorem dX8_put_0 : decode cX8_put 0 = .ok (.iload_n 1, 1) := by decide +kernel
theorem dX8_put_1 : decode cX8_put 1 = .ok (.invokestatic 239, 3) := by decide +kernel
theorem dX8_put_4 : decode cX8_put 4 = .ok (.ifCond .ne 9, 3) := by decide +kernel
theorem dX8_put_7 : decode cX8_put 7 = .ok (.aload_n 0, 1) := by decide +kernel
theorem dX8_put_8 : decode cX8_put 8 = .ok (.iconst 1, 1) := by decide +kernel
theorem dX8_put_9 : decode cX8_put 9 = .ok (.invokevirtual 86, 3) := by decide +kernel
theorem dX8_put_12 : decode cX8_put 12 = .ok (.ireturn, 1) := by decide +kernel
theorem dX8_put_13 : decode cX8_put 13 = .ok (.aload_n 0, 1) := by decide +kernel
theorem dX8_put_14 : decode cX8_put 14 = .ok (.getfield 70, 3) := by decide +kernel
theorem dX8_put_17 : decode cX8_put 17 = .ok (.iload_n 1, 1) := by decide +kernel
theorem dX8_put_18 : decode cX8_put 18 = .ok (.aaload, 1) := by decide +kernel
theorem dX8_put_19 : decode cX8_put 19 = .ok (.astore 4, 2) := by decide +kernel
theorem dX8_put_21 : decode cX8_put 21 = .ok (.aload 4, 2) := by decide +kernel
theorem dX8_put_23 : decode cX8_put 23 = .ok (.invokevirtual 242, 3) := by decide +kernel
theorem dX8_put_26 : decode cX8_put 26 = .ok (.ifCond .eq 9, 3) := by decide +kernel
theorem dX8_put_29 : decode cX8_put 29 = .ok (.aload_n 0, 1) := by decide +kernel
theorem dX8_put_30 : decode cX8_put 30 = .ok (.iconst 2, 1) := by decide +kernel
theorem dX8_put_31 : decode cX8_put 31 = .ok (.invokevirtual 86, 3) := by decide +kernel
theorem dX8_put_34 : decode cX8_put 34 = .ok (.ireturn, 1) := by decide +kernel
theorem dX8_put_35 : decode cX8_put 35 = .ok (.iload_n 2, 1) := by decide +kernel
theorem dX8_put_36 : decode cX8_put 36 = .ok (.iconst 0, 1) := by decide +kernel
theorem dX8_put_37 : decode cX8_put 37 = .ok (.aload 4, 2) := by decide +kernel
theorem dX8_put_39 : decode cX8_put 39 = .ok (.getfield 246, 3) := by decide +kernel
theorem dX8_put_42 : decode cX8_put 42 = .ok (.iconst 1, 1) := by decide +kernel
theorem dX8_put_43 : decode cX8_put 43 = .ok (.isub, 1) := by decide +kernel
theorem dX8_put_44 : decode cX8_put 44 = .ok (.invokestatic 82, 3) := by decide +kernel
theorem dX8_put_47 : decode cX8_put 47 = .ok (.ifCond .ne 9, 3) := by decide +kernel
theorem dX8_put_50 : decode cX8_put 50 = .ok (.aload_n 0, 1) := by decide +kernel
theorem dX8_put_51 : decode cX8_put 51 = .ok (.iconst 1, 1) := by decide +kernel
theorem dX8_put_52 : decode cX8_put 52 = .ok (.invokevirtual 86, 3) := by decide +kernel
theorem dX8_put_55 : decode cX8_put 55 = .ok (.ireturn, 1) := by decide +kernel
theorem dX8_put_56 : decode cX8_put 56 = .ok (.aload 4, 2) := by decide +kernel
theorem dX8_put_58 : decode cX8_put 58 = .ok (.getfield 253, 3) := by decide +kernel
theorem dX8_put_61 : decode cX8_put 61 = .ok (.iload_n 2, 1) := by decide +kernel
theorem dX8_put_62 : decode cX8_put 62 = .ok (.aload 4, 2) := by decide +kernel
theorem dX8_put_64 : decode cX8_put 64 = .ok (.iload_n 3, 1) := by decide +kernel
theorem dX8_put_65 : decode cX8_put 65 = .ok (.invokevirtual 284, 3) := by decide +kernel
theorem dX8_put_68 : decode cX8_put 68 = .ok (.iastore, 1) := by decide +kernel
theorem dX8_put_69 : decode cX8_put 69 = .ok (.iconst 1, 1) := by decide +kernel
theorem dX8_put_70 : decode cX8_put 70 = .ok (.ireturn, 1) := by decide +kernel
theorem dX8_move_0 : decode cX8_move 0 = .ok (.iload_n 1, 1) := by decide +kernel
theorem dX8_move_1 : decode cX8_move 1 = .ok (.invokestatic 239, 3) := by decide +kernel
theorem dX8_move_4 : decode cX8_move 4 = .ok (.ifCond .eq 10, 3) := by decide +kernel
theorem dX8_move_7 : decode cX8_move 7 = .ok (.iload_n 3, 1) := by decide +kernel
theorem dX8_move_8 : decode cX8_move 8 = .ok (.invokestatic 239, 3) := by decide +kernel
theorem dX8_move_11 : decode cX8_move 11 = .ok (.ifCond .ne 9, 3) := by decide +kernel
theorem dX8_move_14 : decode cX8_move 14 = .ok (.aload_n 0, 1) := by decide +kernel
theorem dX8_move_15 : decode cX8_move 15 = .ok (.iconst 1, 1) := by decide +kernel
theorem dX8_move_16 : decode cX8_move 16 = .ok (.invokevirtual 86, 3) := by decide +kernel
theorem dX8_move_19 : decode cX8_move 19 = .ok (.ireturn, 1) := by decide +kernel
theorem dX8_move_20 : decode cX8_move 20 = .ok (.aload_n 0, 1) := by decide +kernel
theorem dX8_move_21 : decode cX8_move 21 = .ok (.getfield 70, 3) := by decide +kernel
theorem dX8_move_24 : decode cX8_move 24 = .ok (.iload_n 1, 1) := by decide +kernel
theorem dX8_move_25 : decode cX8_move 25 = .ok (.aaload, 1) := by decide +kernel
theorem dX8_move_26 : decode cX8_move 26 = .ok (.astore 6, 2) := by decide +kernel
theorem dX8_move_28 : decode cX8_move 28 = .ok (.aload_n 0, 1) := by decide +kernel
theorem dX8_move_29 : decode cX8_move 29 = .ok (.getfield 70, 3) := by decide +kernel
theorem dX8_move_32 : decode cX8_move 32 = .ok (.iload_n 3, 1) := by decide +kernel
theorem dX8_move_33 : decode cX8_move 33 = .ok (.aaload, 1) := by decide +kernel
theorem dX8_move_34 : decode cX8_move 34 = .ok (.astore 7, 2) := by decide +kernel
theorem dX8_move_36 : decode cX8_move 36 = .ok (.aload 6, 2) := by decide +kernel
theorem dX8_move_38 : decode cX8_move 38 = .ok (.invokevirtual 242, 3) := by decide +kernel
theorem dX8_move_41 : decode cX8_move 41 = .ok (.ifCond .ne 11, 3) := by decide +kernel
theorem dX8_move_44 : decode cX8_move 44 = .ok (.aload 7, 2) := by decide +kernel
theorem dX8_move_46 : decode cX8_move 46 = .ok (.invokevirtual 242, 3) := by decide +kernel
theorem dX8_move_49 : decode cX8_move 49 = .ok (.ifCond .eq 9, 3) := by decide +kernel
theorem dX8_move_52 : decode cX8_move 52 = .ok (.aload_n 0, 1) := by decide +kernel
theorem dX8_move_53 : decode cX8_move 53 = .ok (.iconst 2, 1) := by decide +kernel
theorem dX8_move_54 : decode cX8_move 54 = .ok (.invokevirtual 86, 3) := by decide +kernel
theorem dX8_move_57 : decode cX8_move 57 = .ok (.ireturn, 1) := by decide +kernel
theorem dX8_move_58 : decode cX8_move 58 = .ok (.aload 6, 2) := by decide +kernel
theorem dX8_move_60 : decode cX8_move 60 = .ok (.getfield 287, 3) := by decide +kernel
theorem dX8_move_63 : decode cX8_move 63 = .ok (.aload 7, 2) := by decide +kernel
theorem dX8_move_65 : decode cX8_move 65 = .ok (.getfield 287, 3) := by decide +kernel
theorem dX8_move_68 : decode cX8_move 68 = .ok (.if_icmp .eq 9, 3) := by decide +kernel
theorem dX8_move_71 : decode cX8_move 71 = .ok (.aload_n 0, 1) := by decide +kernel
theorem dX8_move_72 : decode cX8_move 72 = .ok (.iconst 5, 1) := by decide +kernel
theorem dX8_move_73 : decode cX8_move 73 = .ok (.invokevirtual 86, 3) := by decide +kernel
theorem dX8_move_76 : decode cX8_move 76 = .ok (.ireturn, 1) := by decide +kernel
theorem dX8_move_77 : decode cX8_move 77 = .ok (.aload 6, 2) := by decide +kernel
theorem dX8_move_79 : decode cX8_move 79 = .ok (.iload_n 2, 1) := by decide +kernel
theorem dX8_move_80 : decode cX8_move 80 = .ok (.iload 5, 2) := by decide +kernel
theorem dX8_move_82 : decode cX8_move 82 = .ok (.invokevirtual 290, 3) := by decide +kernel
theorem dX8_move_85 : decode cX8_move 85 = .ok (.ifCond .eq 15, 3) := by decide +kernel
theorem dX8_move_88 : decode cX8_move 88 = .ok (.aload 7, 2) := by decide +kernel
theorem dX8_move_90 : decode cX8_move 90 = .ok (.iload 4, 2) := by decide +kernel
theorem dX8_move_92 : decode cX8_move 92 = .ok (.iload 5, 2) := by decide +kernel
theorem dX8_move_94 : decode cX8_move 94 = .ok (.invokevirtual 290, 3) := by decide +kernel
theorem dX8_move_97 : decode cX8_move 97 = .ok (.ifCond .ne 9, 3) := by decide +kernel
theorem dX8_move_100 : decode cX8_move 100 = .ok (.aload_n 0, 1) := by decide +kernel
theorem dX8_move_101 : decode cX8_move 101 = .ok (.iconst 1, 1) := by decide +kernel
theorem dX8_move_102 : decode cX8_move 102 = .ok (.invokevirtual 86, 3) := by decide +kernel
theorem dX8_move_105 : decode cX8_move 105 = .ok (.ireturn, 1) := by decide +kernel
theorem dX8_move_106 : decode cX8_move 106 = .ok (.aload 6, 2) := by decide +kernel
theorem dX8_move_108 : decode cX8_move 108 = .ok (.getfield 253, 3) := by decide +kernel
theorem dX8_move_111 : decode cX8_move 111 = .ok (.iload_n 2, 1) := by decide +kernel
theorem dX8_move_112 : decode cX8_move 112 = .ok (.aload 7, 2) := by decide +kernel
theorem dX8_move_114 : decode cX8_move 114 = .ok (.getfield 253, 3) := by decide +kernel
theorem dX8_move_117 : decode cX8_move 117 = .ok (.iload 4, 2) := by decide +kernel
theorem dX8_move_119 : decode cX8_move 119 = .ok (.iload 5, 2) := by decide +kernel
theorem dX8_move_121 : decode cX8_move 121 = .ok (.invokestatic 293, 3) := by decide +kernel
theorem dX8_move_124 : decode cX8_move 124 = .ok (.iload 5, 2) := by decide +kernel
theorem dX8_move_126 : decode cX8_move 126 = .ok (.ireturn, 1) := by decide +kernel
theorem dX8_beds_0 : decode cX8_beds 0 = .ok (.iload_n 1, 1) := by decide +kernel
theorem dX8_beds_1 : decode cX8_beds 1 = .ok (.invokestatic 239, 3) := by decide +kernel
theorem dX8_beds_4 : decode cX8_beds 4 = .ok (.ifCond .ne 9, 3) := by decide +kernel
theorem dX8_beds_7 : decode cX8_beds 7 = .ok (.aload_n 0, 1) := by decide +kernel
theorem dX8_beds_8 : decode cX8_beds 8 = .ok (.iconst 1, 1) := by decide +kernel
theorem dX8_beds_9 : decode cX8_beds 9 = .ok (.invokevirtual 86, 3) := by decide +kernel
theorem dX8_beds_12 : decode cX8_beds 12 = .ok (.ireturn, 1) := by decide +kernel
theorem dX8_beds_13 : decode cX8_beds 13 = .ok (.aload_n 0, 1) := by decide +kernel
theorem dX8_beds_14 : decode cX8_beds 14 = .ok (.getfield 70, 3) := by decide +kernel
theorem dX8_beds_17 : decode cX8_beds 17 = .ok (.iload_n 1, 1) := by decide +kernel
theorem dX8_beds_18 : decode cX8_beds 18 = .ok (.aaload, 1) := by decide +kernel
theorem dX8_beds_19 : decode cX8_beds 19 = .ok (.astore_n 2, 1) := by decide +kernel
theorem dX8_beds_20 : decode cX8_beds 20 = .ok (.aload_n 2, 1) := by decide +kernel
theorem dX8_beds_21 : decode cX8_beds 21 = .ok (.invokevirtual 242, 3) := by decide +kernel
theorem dX8_beds_24 : decode cX8_beds 24 = .ok (.ifCond .eq 9, 3) := by decide +kernel
theorem dX8_beds_27 : decode cX8_beds 27 = .ok (.aload_n 0, 1) := by decide +kernel
theorem dX8_beds_28 : decode cX8_beds 28 = .ok (.iconst 2, 1) := by decide +kernel
theorem dX8_beds_29 : decode cX8_beds 29 = .ok (.invokevirtual 86, 3) := by decide +kernel
theorem dX8_beds_32 : decode cX8_beds 32 = .ok (.ireturn, 1) := by decide +kernel
theorem dX8_beds_33 : decode cX8_beds 33 = .ok (.aload_n 2, 1) := by decide +kernel
theorem dX8_beds_34 : decode cX8_beds 34 = .ok (.getfield 246, 3) := by decide +kernel
theorem dX8_beds_37 : decode cX8_beds 37 = .ok (.aload_n 0, 1) := by decide +kernel
theorem dX8_beds_38 : decode cX8_beds 38 = .ok (.getfield 10, 3) := by decide +kernel
theorem dX8_beds_41 : decode cX8_beds 41 = .ok (.getfield 93, 3) := by decide +kernel
theorem dX8_beds_44 : decode cX8_beds 44 = .ok (.invokestatic 299, 3) := by decide +kernel
theorem dX8_beds_47 : decode cX8_beds 47 = .ok (.istore_n 3, 1) := by decide +kernel
theorem dX8_beds_48 : decode cX8_beds 48 = .ok (.iconst 0, 1) := by decide +kernel
theorem dX8_beds_49 : decode cX8_beds 49 = .ok (.istore 4, 2) := by decide +kernel
theorem dX8_beds_51 : decode cX8_beds 51 = .ok (.iload 4, 2) := by decide +kernel
theorem dX8_beds_53 : decode cX8_beds 53 = .ok (.iload_n 3, 1) := by decide +kernel
theorem dX8_beds_54 : decode cX8_beds 54 = .ok (.if_icmp .ge 45, 3) := by decide +kernel
theorem dX8_beds_57 : decode cX8_beds 57 = .ok (.aload_n 2, 1) := by decide +kernel
theorem dX8_beds_58 : decode cX8_beds 58 = .ok (.getfield 253, 3) := by decide +kernel
theorem dX8_beds_61 : decode cX8_beds 61 = .ok (.iload 4, 2) := by decide +kernel
theorem dX8_beds_63 : decode cX8_beds 63 = .ok (.iaload, 1) := by decide +kernel
theorem dX8_beds_64 : decode cX8_beds 64 = .ok (.iconst 0, 1) := by decide +kernel
theorem dX8_beds_65 : decode cX8_beds 65 = .ok (.bipush 9, 2) := by decide +kernel
theorem dX8_beds_67 : decode cX8_beds 67 = .ok (.invokestatic 82, 3) := by decide +kernel
theorem dX8_beds_70 : decode cX8_beds 70 = .ok (.ifCond .ne 6, 3) := by decide +kernel
theorem dX8_beds_73 : decode cX8_beds 73 = .ok (.iload 4, 2) := by decide +kernel
theorem dX8_beds_75 : decode cX8_beds 75 = .ok (.ireturn, 1) := by decide +kernel
theorem dX8_beds_76 : decode cX8_beds 76 = .ok (.aload_n 0, 1) := by decide +kernel
theorem dX8_beds_77 : decode cX8_beds 77 = .ok (.getfield 10, 3) := by decide +kernel
theorem dX8_beds_80 : decode cX8_beds 80 = .ok (.getfield 100, 3) := by decide +kernel
theorem dX8_beds_83 : decode cX8_beds 83 = .ok (.iload 4, 2) := by decide +kernel
theorem dX8_beds_85 : decode cX8_beds 85 = .ok (.aload_n 2, 1) := by decide +kernel
theorem dX8_beds_86 : decode cX8_beds 86 = .ok (.getfield 253, 3) := by decide +kernel
theorem dX8_beds_89 : decode cX8_beds 89 = .ok (.iload 4, 2) := by decide +kernel
theorem dX8_beds_91 : decode cX8_beds 91 = .ok (.iaload, 1) := by decide +kernel
theorem dX8_beds_92 : decode cX8_beds 92 = .ok (.iastore, 1) := by decide +kernel
theorem dX8_beds_93 : decode cX8_beds 93 = .ok (.iinc 4 1, 3) := by decide +kernel
theorem dX8_beds_96 : decode cX8_beds 96 = .ok (.goto (-45), 3) := by decide +kernel
theorem dX8_beds_99 : decode cX8_beds 99 = .ok (.iload_n 3, 1) := by decide +kernel
theorem dX8_beds_100 : decode cX8_beds 100 = .ok (.ireturn, 1) := by decide +kernel
theorem dX8_judge_0 : decode cX8_judge 0 = .ok (.iload_n 1, 1) := by decide +kernel
theorem dX8_judge_1 : decode cX8_judge 1 = .ok (.invokestatic 239, 3) := by decide +kernel
theorem dX8_judge_4 : decode cX8_judge 4 = .ok (.ifCond .ne 9, 3) := by decide +kernel
theorem dX8_judge_7 : decode cX8_judge 7 = .ok (.aload_n 0, 1) := by decide +kernel
theorem dX8_judge_8 : decode cX8_judge 8 = .ok (.iconst 1, 1) := by decide +kernel
theorem dX8_judge_9 : decode cX8_judge 9 = .ok (.invokevirtual 86, 3) := by decide +kernel
theorem dX8_judge_12 : decode cX8_judge 12 = .ok (.ireturn, 1) := by decide +kernel
theorem dX8_judge_13 : decode cX8_judge 13 = .ok (.aload_n 0, 1) := by decide +kernel
theorem dX8_judge_14 : decode cX8_judge 14 = .ok (.getfield 70, 3) := by decide +kernel
theorem dX8_judge_17 : decode cX8_judge 17 = .ok (.iload_n 1, 1) := by decide +kernel
theorem dX8_judge_18 : decode cX8_judge 18 = .ok (.aaload, 1) := by decide +kernel
theorem dX8_judge_19 : decode cX8_judge 19 = .ok (.astore_n 2, 1) := by decide +kernel
theorem dX8_judge_20 : decode cX8_judge 20 = .ok (.aload_n 2, 1) := by decide +kernel
theorem dX8_judge_21 : decode cX8_judge 21 = .ok (.invokevirtual 242, 3) := by decide +kernel
theorem dX8_judge_24 : decode cX8_judge 24 = .ok (.ifCond .eq 9, 3) := by decide +kernel
theorem dX8_judge_27 : decode cX8_judge 27 = .ok (.aload_n 0, 1) := by decide +kernel
theorem dX8_judge_28 : decode cX8_judge 28 = .ok (.iconst 2, 1) := by decide +kernel
theorem dX8_judge_29 : decode cX8_judge 29 = .ok (.invokevirtual 86, 3) := by decide +kernel
theorem dX8_judge_32 : decode cX8_judge 32 = .ok (.ireturn, 1) := by decide +kernel
theorem dX8_judge_33 : decode cX8_judge 33 = .ok (.aload_n 2, 1) := by decide +kernel
theorem dX8_judge_34 : decode cX8_judge 34 = .ok (.getfield 246, 3) := by decide +kernel
theorem dX8_judge_37 : decode cX8_judge 37 = .ok (.aload_n 0, 1) := by decide +kernel
theorem dX8_judge_38 : decode cX8_judge 38 = .ok (.getfield 19, 3) := by decide +kernel
theorem dX8_judge_41 : decode cX8_judge 41 = .ok (.getfield 90, 3) := by decide +kernel
theorem dX8_judge_44 : decode cX8_judge 44 = .ok (.invokestatic 299, 3) := by decide +kernel
theorem dX8_judge_47 : decode cX8_judge 47 = .ok (.istore_n 3, 1) := by decide +kernel
theorem dX8_judge_48 : decode cX8_judge 48 = .ok (.iconst 0, 1) := by decide +kernel
theorem dX8_judge_49 : decode cX8_judge 49 = .ok (.istore 4, 2) := by decide +kernel
theorem dX8_judge_51 : decode cX8_judge 51 = .ok (.iload 4, 2) := by decide +kernel
theorem dX8_judge_53 : decode cX8_judge 53 = .ok (.iload_n 3, 1) := by decide +kernel
theorem dX8_judge_54 : decode cX8_judge 54 = .ok (.if_icmp .ge 32, 3) := by decide +kernel
theorem dX8_judge_57 : decode cX8_judge 57 = .ok (.aload_n 2, 1) := by decide +kernel
theorem dX8_judge_58 : decode cX8_judge 58 = .ok (.getfield 253, 3) := by decide +kernel
theorem dX8_judge_61 : decode cX8_judge 61 = .ok (.iload 4, 2) := by decide +kernel
theorem dX8_judge_63 : decode cX8_judge 63 = .ok (.iaload, 1) := by decide +kernel
theorem dX8_judge_64 : decode cX8_judge 64 = .ok (.aload_n 0, 1) := by decide +kernel
theorem dX8_judge_65 : decode cX8_judge 65 = .ok (.getfield 19, 3) := by decide +kernel
theorem dX8_judge_68 : decode cX8_judge 68 = .ok (.getfield 143, 3) := by decide +kernel
theorem dX8_judge_71 : decode cX8_judge 71 = .ok (.iload 4, 2) := by decide +kernel
theorem dX8_judge_73 : decode cX8_judge 73 = .ok (.iaload, 1) := by decide +kernel
theorem dX8_judge_74 : decode cX8_judge 74 = .ok (.if_icmp .eq 6, 3) := by decide +kernel
theorem dX8_judge_77 : decode cX8_judge 77 = .ok (.iload 4, 2) := by decide +kernel
theorem dX8_judge_79 : decode cX8_judge 79 = .ok (.ireturn, 1) := by decide +kernel
theorem dX8_judge_80 : decode cX8_judge 80 = .ok (.iinc 4 1, 3) := by decide +kernel
theorem dX8_judge_83 : decode cX8_judge 83 = .ok (.goto (-32), 3) := by decide +kernel
theorem dX8_judge_86 : decode cX8_judge 86 = .ok (.aload_n 2, 1) := by decide +kernel
theorem dX8_judge_87 : decode cX8_judge 87 = .ok (.getfield 246, 3) := by decide +kernel
theorem dX8_judge_90 : decode cX8_judge 90 = .ok (.aload_n 0, 1) := by decide +kernel
theorem dX8_judge_91 : decode cX8_judge 91 = .ok (.getfield 19, 3) := by decide +kernel
theorem dX8_judge_94 : decode cX8_judge 94 = .ok (.getfield 90, 3) := by decide +kernel
theorem dX8_judge_97 : decode cX8_judge 97 = .ok (.if_icmp .ne 7, 3) := by decide +kernel
theorem dX8_judge_100 : decode cX8_judge 100 = .ok (.iconst (-1), 1) := by decide +kernel
theorem dX8_judge_101 : decode cX8_judge 101 = .ok (.goto 4, 3) := by decide +kernel
theorem dX8_judge_104 : decode cX8_judge 104 = .ok (.iload_n 3, 1) := by decide +kernel
theorem dX8_judge_105 : decode cX8_judge 105 = .ok (.ireturn, 1) := by decide +kernel
theorem dX8_image_0 : decode cX8_image 0 = .ok (.aload_n 0, 1) := by decide +kernel
theorem dX8_image_1 : decode cX8_image 1 = .ok (.getfield 30, 3) := by decide +kernel
theorem dX8_image_4 : decode cX8_image 4 = .ok (.aload_n 0, 1) := by decide +kernel
theorem dX8_image_5 : decode cX8_image 5 = .ok (.getfield 10, 3) := by decide +kernel
theorem dX8_image_8 : decode cX8_image 8 = .ok (.invokevirtual 304, 3) := by decide +kernel
theorem dX8_image_11 : decode cX8_image 11 = .ok (.aload_n 0, 1) := by decide +kernel
theorem dX8_image_12 : decode cX8_image 12 = .ok (.getfield 33, 3) := by decide +kernel
theorem dX8_image_15 : decode cX8_image 15 = .ok (.aload_n 0, 1) := by decide +kernel
theorem dX8_image_16 : decode cX8_image 16 = .ok (.getfield 19, 3) := by decide +kernel
theorem dX8_image_19 : decode cX8_image 19 = .ok (.invokevirtual 228, 3) := by decide +kernel
theorem dX8_image_22 : decode cX8_image 22 = .ok (.aload_n 0, 1) := by decide +kernel
theorem dX8_image_23 : decode cX8_image 23 = .ok (.getfield 36, 3) := by decide +kernel
theorem dX8_image_26 : decode cX8_image 26 = .ok (.aload_n 0, 1) := by decide +kernel
theorem dX8_image_27 : decode cX8_image 27 = .ok (.getfield 26, 3) := by decide +kernel
theorem dX8_image_30 : decode cX8_image 30 = .ok (.invokevirtual 307, 3) := by decide +kernel
theorem dX8_image_33 : decode cX8_image 33 = .ok (.aload_n 0, 1) := by decide +kernel
theorem dX8_image_34 : decode cX8_image 34 = .ok (.dup, 1) := by decide +kernel
theorem dX8_image_35 : decode cX8_image 35 = .ok (.getfield 39, 3) := by decide +kernel
theorem dX8_image_38 : decode cX8_image 38 = .ok (.iconst 1, 1) := by decide +kernel
theorem dX8_image_39 : decode cX8_image 39 = .ok (.iadd, 1) := by decide +kernel
theorem dX8_image_40 : decode cX8_image 40 = .ok (.putfield 39, 3) := by decide +kernel
theorem dX8_image_43 : decode cX8_image 43 = .ok (.aload_n 0, 1) := by decide +kernel
theorem dX8_image_44 : decode cX8_image 44 = .ok (.getfield 39, 3) := by decide +kernel
theorem dX8_image_47 : decode cX8_image 47 = .ok (.ireturn, 1) := by decide +kernel
theorem dX8_restore_0 : decode cX8_restore 0 = .ok (.aload_n 0, 1) := by decide +kernel
theorem dX8_restore_1 : decode cX8_restore 1 = .ok (.getfield 39, 3) := by decide +kernel
theorem dX8_restore_4 : decode cX8_restore 4 = .ok (.ifCond .ne 9, 3) := by decide +kernel
theorem dX8_restore_7 : decode cX8_restore 7 = .ok (.aload_n 0, 1) := by decide +kernel
theorem dX8_restore_8 : decode cX8_restore 8 = .ok (.iconst 2, 1) := by decide +kernel
theorem dX8_restore_9 : decode cX8_restore 9 = .ok (.invokevirtual 86, 3) := by decide +kernel
theorem dX8_restore_12 : decode cX8_restore 12 = .ok (.ireturn, 1) := by decide +kernel
theorem dX8_restore_13 : decode cX8_restore 13 = .ok (.aload_n 0, 1) := by decide +kernel
theorem dX8_restore_14 : decode cX8_restore 14 = .ok (.getfield 10, 3) := by decide +kernel
theorem dX8_restore_17 : decode cX8_restore 17 = .ok (.aload_n 0, 1) := by decide +kernel
theorem dX8_restore_18 : decode cX8_restore 18 = .ok (.getfield 30, 3) := by decide +kernel
theorem dX8_restore_21 : decode cX8_restore 21 = .ok (.invokevirtual 304, 3) := by decide +kernel
theorem dX8_restore_24 : decode cX8_restore 24 = .ok (.aload_n 0, 1) := by decide +kernel
theorem dX8_restore_25 : decode cX8_restore 25 = .ok (.getfield 19, 3) := by decide +kernel
theorem dX8_restore_28 : decode cX8_restore 28 = .ok (.aload_n 0, 1) := by decide +kernel
theorem dX8_restore_29 : decode cX8_restore 29 = .ok (.getfield 33, 3) := by decide +kernel
theorem dX8_restore_32 : decode cX8_restore 32 = .ok (.invokevirtual 228, 3) := by decide +kernel
theorem dX8_restore_35 : decode cX8_restore 35 = .ok (.aload_n 0, 1) := by decide +kernel
theorem dX8_restore_36 : decode cX8_restore 36 = .ok (.getfield 26, 3) := by decide +kernel
theorem dX8_restore_39 : decode cX8_restore 39 = .ok (.aload_n 0, 1) := by decide +kernel
theorem dX8_restore_40 : decode cX8_restore 40 = .ok (.getfield 36, 3) := by decide +kernel
theorem dX8_restore_43 : decode cX8_restore 43 = .ok (.invokevirtual 307, 3) := by decide +kernel
theorem dX8_restore_46 : decode cX8_restore 46 = .ok (.aload_n 0, 1) := by decide +kernel
theorem dX8_restore_47 : decode cX8_restore 47 = .ok (.getfield 19, 3) := by decide +kernel
theorem dX8_restore_50 : decode cX8_restore 50 = .ok (.getfield 204, 3) := by decide +kernel
theorem dX8_restore_53 : decode cX8_restore 53 = .ok (.ireturn, 1) := by decide +kernel
theorem dX8_tell_0 : decode cX8_tell 0 = .ok (.aload_n 0, 1) := by decide +kernel
theorem dX8_tell_1 : decode cX8_tell 1 = .ok (.getfield 26, 3) := by decide +kernel
theorem dX8_tell_4 : decode cX8_tell 4 = .ok (.getfield 310, 3) := by decide +kernel
theorem dX8_tell_7 : decode cX8_tell 7 = .ok (.bipush 20, 2) := by decide +kernel
theorem dX8_tell_9 : decode cX8_tell 9 = .ok (.if_icmp .lt 9, 3) := by decide +kernel
theorem dX8_tell_12 : decode cX8_tell 12 = .ok (.aload_n 0, 1) := by decide +kernel
theorem dX8_tell_13 : decode cX8_tell 13 = .ok (.iconst 4, 1) := by decide +kernel
theorem dX8_tell_14 : decode cX8_tell 14 = .ok (.invokevirtual 86, 3) := by decide +kernel
theorem dX8_tell_17 : decode cX8_tell 17 = .ok (.ireturn, 1) := by decide +kernel
theorem dX8_tell_18 : decode cX8_tell 18 = .ok (.aload_n 0, 1) := by decide +kernel
theorem dX8_tell_19 : decode cX8_tell 19 = .ok (.getfield 26, 3) := by decide +kernel
theorem dX8_tell_22 : decode cX8_tell 22 = .ok (.getfield 313, 3) := by decide +kernel
theorem dX8_tell_25 : decode cX8_tell 25 = .ok (.aload_n 0, 1) := by decide +kernel
theorem dX8_tell_26 : decode cX8_tell 26 = .ok (.getfield 26, 3) := by decide +kernel
theorem dX8_tell_29 : decode cX8_tell 29 = .ok (.getfield 310, 3) := by decide +kernel
theorem dX8_tell_32 : decode cX8_tell 32 = .ok (.iload_n 1, 1) := by decide +kernel
theorem dX8_tell_33 : decode cX8_tell 33 = .ok (.iastore, 1) := by decide +kernel
theorem dX8_tell_34 : decode cX8_tell 34 = .ok (.aload_n 0, 1) := by decide +kernel
theorem dX8_tell_35 : decode cX8_tell 35 = .ok (.getfield 26, 3) := by decide +kernel
theorem dX8_tell_38 : decode cX8_tell 38 = .ok (.dup, 1) := by decide +kernel
theorem dX8_tell_39 : decode cX8_tell 39 = .ok (.getfield 310, 3) := by decide +kernel
theorem dX8_tell_42 : decode cX8_tell 42 = .ok (.iconst 1, 1) := by decide +kernel
theorem dX8_tell_43 : decode cX8_tell 43 = .ok (.iadd, 1) := by decide +kernel
theorem dX8_tell_44 : decode cX8_tell 44 = .ok (.putfield 310, 3) := by decide +kernel
theorem dX8_tell_47 : decode cX8_tell 47 = .ok (.aload_n 0, 1) := by decide +kernel
theorem dX8_tell_48 : decode cX8_tell 48 = .ok (.getfield 26, 3) := by decide +kernel
theorem dX8_tell_51 : decode cX8_tell 51 = .ok (.getfield 310, 3) := by decide +kernel
theorem dX8_tell_54 : decode cX8_tell 54 = .ok (.ireturn, 1) := by decide +kernel
theorem dX8_check_0 : decode cX8_check 0 = .ok (.aload_n 0, 1) := by decide +kernel
theorem dX8_check_1 : decode cX8_check 1 = .ok (.getfield 26, 3) := by decide +kernel
theorem dX8_check_4 : decode cX8_check 4 = .ok (.getfield 310, 3) := by decide +kernel
theorem dX8_check_7 : decode cX8_check 7 = .ok (.istore_n 1, 1) := by decide +kernel
theorem dX8_check_8 : decode cX8_check 8 = .ok (.aload_n 0, 1) := by decide +kernel
theorem dX8_check_9 : decode cX8_check 9 = .ok (.getfield 26, 3) := by decide +kernel
theorem dX8_check_12 : decode cX8_check 12 = .ok (.iconst 0, 1) := by decide +kernel
theorem dX8_check_13 : decode cX8_check 13 = .ok (.putfield 310, 3) := by decide +kernel
theorem dX8_check_16 : decode cX8_check 16 = .ok (.aload_n 0, 1) := by decide +kernel
theorem dX8_check_17 : decode cX8_check 17 = .ok (.getfield 49, 3) := by decide +kernel
theorem dX8_check_20 : decode cX8_check 20 = .ok (.aload_n 0, 1) := by decide +kernel
theorem dX8_check_21 : decode cX8_check 21 = .ok (.getfield 10, 3) := by decide +kernel
theorem dX8_check_24 : decode cX8_check 24 = .ok (.aload_n 0, 1) := by decide +kernel
theorem dX8_check_25 : decode cX8_check 25 = .ok (.getfield 10, 3) := by decide +kernel
theorem dX8_check_28 : decode cX8_check 28 = .ok (.getfield 116, 3) := by decide +kernel
theorem dX8_check_31 : decode cX8_check 31 = .ok (.invokevirtual 155, 3) := by decide +kernel
theorem dX8_check_34 : decode cX8_check 34 = .ok (.aload_n 0, 1) := by decide +kernel
theorem dX8_check_35 : decode cX8_check 35 = .ok (.iconst 0, 1) := by decide +kernel
theorem dX8_check_36 : decode cX8_check 36 = .ok (.invokevirtual 225, 3) := by decide +kernel
theorem dX8_check_39 : decode cX8_check 39 = .ok (.iconst 0, 1) := by decide +kernel
theorem dX8_check_40 : decode cX8_check 40 = .ok (.istore_n 2, 1) := by decide +kernel
theorem dX8_check_41 : decode cX8_check 41 = .ok (.iload_n 2, 1) := by decide +kernel
theorem dX8_check_42 : decode cX8_check 42 = .ok (.iload_n 1, 1) := by decide +kernel
theorem dX8_check_43 : decode cX8_check 43 = .ok (.if_icmp .ge 41, 3) := by decide +kernel
theorem dX8_check_46 : decode cX8_check 46 = .ok (.aload_n 0, 1) := by decide +kernel
theorem dX8_check_47 : decode cX8_check 47 = .ok (.aload_n 0, 1) := by decide +kernel
theorem dX8_check_48 : decode cX8_check 48 = .ok (.getfield 43, 3) := by decide +kernel
theorem dX8_check_51 : decode cX8_check 51 = .ok (.invokevirtual 207, 3) := by decide +kernel
theorem dX8_check_54 : decode cX8_check 54 = .ok (.aload_n 0, 1) := by decide +kernel
theorem dX8_check_55 : decode cX8_check 55 = .ok (.getfield 26, 3) := by decide +kernel
theorem dX8_check_58 : decode cX8_check 58 = .ok (.getfield 313, 3) := by decide +kernel
theorem dX8_check_61 : decode cX8_check 61 = .ok (.iload_n 2, 1) := by decide +kernel
theorem dX8_check_62 : decode cX8_check 62 = .ok (.iaload, 1) := by decide +kernel
theorem dX8_check_63 : decode cX8_check 63 = .ok (.aload_n 0, 1) := by decide +kernel
theorem dX8_check_64 : decode cX8_check 64 = .ok (.getfield 43, 3) := by decide +kernel
theorem dX8_check_67 : decode cX8_check 67 = .ok (.iconst 0, 1) := by decide +kernel
theorem dX8_check_68 : decode cX8_check 68 = .ok (.invokevirtual 211, 3) := by decide +kernel
theorem dX8_check_71 : decode cX8_check 71 = .ok (.if_icmp .eq 7, 3) := by decide +kernel
theorem dX8_check_74 : decode cX8_check 74 = .ok (.iconst 1, 1) := by decide +kernel
theorem dX8_check_75 : decode cX8_check 75 = .ok (.iload_n 2, 1) := by decide +kernel
theorem dX8_check_76 : decode cX8_check 76 = .ok (.iadd, 1) := by decide +kernel
theorem dX8_check_77 : decode cX8_check 77 = .ok (.ireturn, 1) := by decide +kernel
theorem dX8_check_78 : decode cX8_check 78 = .ok (.iinc 2 1, 3) := by decide +kernel
theorem dX8_check_81 : decode cX8_check 81 = .ok (.goto (-40), 3) := by decide +kernel
theorem dX8_check_84 : decode cX8_check 84 = .ok (.iconst 0, 1) := by decide +kernel
theorem dX8_check_85 : decode cX8_check 85 = .ok (.ireturn, 1) := by decide +kernel
theorem dX8_count_0 : decode cX8_count 0 = .ok (.iload_n 1, 1) := by decide +kernel
theorem dX8_count_1 : decode cX8_count 1 = .ok (.tableswitch 160 0 11 #[63, 71, 79, 87, 95, 103, 111, 120, 128, 136, 144, 152], 63) := by decide +kernel
theorem dX8_count_64 : decode cX8_count 64 = .ok (.aload_n 0, 1) := by decide +kernel
theorem dX8_count_65 : decode cX8_count 65 = .ok (.getfield 10, 3) := by decide +kernel
theorem dX8_count_68 : decode cX8_count 68 = .ok (.getfield 93, 3) := by decide +kernel
theorem dX8_count_71 : decode cX8_count 71 = .ok (.ireturn, 1) := by decide +kernel
theorem dX8_count_72 : decode cX8_count 72 = .ok (.aload_n 0, 1) := by decide +kernel
theorem dX8_count_73 : decode cX8_count 73 = .ok (.getfield 19, 3) := by decide +kernel
theorem dX8_count_76 : decode cX8_count 76 = .ok (.getfield 90, 3) := by decide +kernel
theorem dX8_count_79 : decode cX8_count 79 = .ok (.ireturn, 1) := by decide +kernel
theorem dX8_count_80 : decode cX8_count 80 = .ok (.aload_n 0, 1) := by decide +kernel
theorem dX8_count_81 : decode cX8_count 81 = .ok (.getfield 19, 3) := by decide +kernel
theorem dX8_count_84 : decode cX8_count 84 = .ok (.getfield 204, 3) := by decide +kernel
theorem dX8_count_87 : decode cX8_count 87 = .ok (.ireturn, 1) := by decide +kernel
theorem dX8_count_88 : decode cX8_count 88 = .ok (.aload_n 0, 1) := by decide +kernel
theorem dX8_count_89 : decode cX8_count 89 = .ok (.getfield 10, 3) := by decide +kernel
theorem dX8_count_92 : decode cX8_count 92 = .ok (.getfield 109, 3) := by decide +kernel
theorem dX8_count_95 : decode cX8_count 95 = .ok (.ireturn, 1) := by decide +kernel
theorem dX8_count_96 : decode cX8_count 96 = .ok (.aload_n 0, 1) := by decide +kernel
theorem dX8_count_97 : decode cX8_count 97 = .ok (.getfield 10, 3) := by decide +kernel
theorem dX8_count_100 : decode cX8_count 100 = .ok (.getfield 116, 3) := by decide +kernel
theorem dX8_count_103 : decode cX8_count 103 = .ok (.ireturn, 1) := by decide +kernel
theorem dX8_count_104 : decode cX8_count 104 = .ok (.aload_n 0, 1) := by decide +kernel
theorem dX8_count_105 : decode cX8_count 105 = .ok (.getfield 10, 3) := by decide +kernel
theorem dX8_count_108 : decode cX8_count 108 = .ok (.getfield 128, 3) := by decide +kernel
theorem dX8_count_111 : decode cX8_count 111 = .ok (.ireturn, 1) := by decide +kernel
theorem dX8_count_112 : decode cX8_count 112 = .ok (.aload_n 0, 1) := by decide +kernel
theorem dX8_count_113 : decode cX8_count 113 = .ok (.getfield 19, 3) := by decide +kernel
theorem dX8_count_116 : decode cX8_count 116 = .ok (.iconst 0, 1) := by decide +kernel
theorem dX8_count_117 : decode cX8_count 117 = .ok (.invokevirtual 211, 3) := by decide +kernel
theorem dX8_count_120 : decode cX8_count 120 = .ok (.ireturn, 1) := by decide +kernel
theorem dX8_count_121 : decode cX8_count 121 = .ok (.aload_n 0, 1) := by decide +kernel
theorem dX8_count_122 : decode cX8_count 122 = .ok (.getfield 19, 3) := by decide +kernel
theorem dX8_count_125 : decode cX8_count 125 = .ok (.invokevirtual 230, 3) := by decide +kernel
theorem dX8_count_128 : decode cX8_count 128 = .ok (.ireturn, 1) := by decide +kernel
theorem dX8_count_129 : decode cX8_count 129 = .ok (.aload_n 0, 1) := by decide +kernel
theorem dX8_count_130 : decode cX8_count 130 = .ok (.getfield 26, 3) := by decide +kernel
theorem dX8_count_133 : decode cX8_count 133 = .ok (.getfield 173, 3) := by decide +kernel
theorem dX8_count_136 : decode cX8_count 136 = .ok (.ireturn, 1) := by decide +kernel
theorem dX8_count_137 : decode cX8_count 137 = .ok (.aload_n 0, 1) := by decide +kernel
theorem dX8_count_138 : decode cX8_count 138 = .ok (.getfield 26, 3) := by decide +kernel
theorem dX8_count_141 : decode cX8_count 141 = .ok (.getfield 310, 3) := by decide +kernel
theorem dX8_count_144 : decode cX8_count 144 = .ok (.ireturn, 1) := by decide +kernel
theorem dX8_count_145 : decode cX8_count 145 = .ok (.aload_n 0, 1) := by decide +kernel
theorem dX8_count_146 : decode cX8_count 146 = .ok (.getfield 63, 3) := by decide +kernel
theorem dX8_count_149 : decode cX8_count 149 = .ok (.getfield 275, 3) := by decide +kernel
theorem dX8_count_152 : decode cX8_count 152 = .ok (.ireturn, 1) := by decide +kernel
theorem dX8_count_153 : decode cX8_count 153 = .ok (.aload_n 0, 1) := by decide +kernel
theorem dX8_count_154 : decode cX8_count 154 = .ok (.getfield 26, 3) := by decide +kernel
theorem dX8_count_157 : decode cX8_count 157 = .ok (.getfield 268, 3) := by decide +kernel
theorem dX8_count_160 : decode cX8_count 160 = .ok (.ireturn, 1) := by decide +kernel
theorem dX8_count_161 : decode cX8_count 161 = .ok (.aload_n 0, 1) := by decide +kernel
theorem dX8_count_162 : decode cX8_count 162 = .ok (.iconst 1, 1) := by decide +kernel
theorem dX8_count_163 : decode cX8_count 163 = .ok (.invokevirtual 86, 3) := by decide +kernel
theorem dX8_count_166 : decode cX8_count 166 = .ok (.ireturn, 1) := by decide +kernel
theorem dX8_told_0 : decode cX8_told 0 = .ok (.iload_n 1, 1) := by decide +kernel
theorem dX8_told_1 : decode cX8_told 1 = .ok (.iconst 1, 1) := by decide +kernel
theorem dX8_told_2 : decode cX8_told 2 = .ok (.iconst 5, 1) := by decide +kernel
theorem dX8_told_3 : decode cX8_told 3 = .ok (.invokestatic 82, 3) := by decide +kernel
theorem dX8_told_6 : decode cX8_told 6 = .ok (.ifCond .eq 12, 3) := by decide +kernel
theorem dX8_told_9 : decode cX8_told 9 = .ok (.aload_n 0, 1) := by decide +kernel
theorem dX8_told_10 : decode cX8_told 10 = .ok (.getfield 74, 3) := by decide +kernel
theorem dX8_told_13 : decode cX8_told 13 = .ok (.iload_n 1, 1) := by decide +kernel
theorem dX8_told_14 : decode cX8_told 14 = .ok (.iaload, 1) := by decide +kernel
theorem dX8_told_15 : decode cX8_told 15 = .ok (.goto 8, 3) := by decide +kernel
theorem dX8_told_18 : decode cX8_told 18 = .ok (.aload_n 0, 1) := by decide +kernel
theorem dX8_told_19 : decode cX8_told 19 = .ok (.iconst 1, 1) := by decide +kernel
theorem dX8_told_20 : decode cX8_told 20 = .ok (.invokevirtual 86, 3) := by decide +kernel
theorem dX8_told_23 : decode cX8_told 23 = .ok (.ireturn, 1) := by decide +kernel
theorem dX8_refuse_0 : decode cX8_refuse 0 = .ok (.aload_n 0, 1) := by decide +kernel
theorem dX8_refuse_1 : decode cX8_refuse 1 = .ok (.getfield 74, 3) := by decide +kernel
theorem dX8_refuse_4 : decode cX8_refuse 4 = .ok (.iload_n 1, 1) := by decide +kernel
theorem dX8_refuse_5 : decode cX8_refuse 5 = .ok (.dup2, 1) := by decide +kernel
theorem dX8_refuse_6 : decode cX8_refuse 6 = .ok (.iaload, 1) := by decide +kernel
theorem dX8_refuse_7 : decode cX8_refuse 7 = .ok (.iconst 1, 1) := by decide +kernel
theorem dX8_refuse_8 : decode cX8_refuse 8 = .ok (.iadd, 1) := by decide +kernel
theorem dX8_refuse_9 : decode cX8_refuse 9 = .ok (.iastore, 1) := by decide +kernel
theorem dX8_refuse_10 : decode cX8_refuse 10 = .ok (.ldc_w 316, 3) := by decide +kernel
theorem dX8_refuse_13 : decode cX8_refuse 13 = .ok (.iload_n 1, 1) := by decide +kernel
theorem dX8_refuse_14 : decode cX8_refuse 14 = .ok (.isub, 1) := by decide +kernel
theorem dX8_refuse_15 : decode cX8_refuse 15 = .ok (.ireturn, 1) := by decide +kernel
theorem dX8_within_0 : decode cX8_within 0 = .ok (.iload_n 0, 1) := by decide +kernel
theorem dX8_within_1 : decode cX8_within 1 = .ok (.iload_n 1, 1) := by decide +kernel
theorem dX8_within_2 : decode cX8_within 2 = .ok (.if_icmp .lt 12, 3) := by decide +kernel
theorem dX8_within_5 : decode cX8_within 5 = .ok (.iload_n 0, 1) := by decide +kernel
theorem dX8_within_6 : decode cX8_within 6 = .ok (.iload_n 2, 1) := by decide +kernel
theorem dX8_within_7 : decode cX8_within 7 = .ok (.if_icmp .gt 7, 3) := by decide +kernel
theorem dX8_within_10 : decode cX8_within 10 = .ok (.iconst 1, 1) := by decide +kernel
theorem dX8_within_11 : decode cX8_within 11 = .ok (.goto 4, 3) := by decide +kernel
theorem dX8_within_14 : decode cX8_within 14 = .ok (.iconst 0, 1) := by decide +kernel
theorem dX8_within_15 : decode cX8_within 15 = .ok (.ireturn, 1) := by decide +kernel
theorem dX8_isCell_0 : decode cX8_isCell 0 = .ok (.iload_n 1, 1) := by decide +kernel
theorem dX8_isCell_1 : decode cX8_isCell 1 = .ok (.iconst 0, 1) := by decide +kernel
theorem dX8_isCell_2 : decode cX8_isCell 2 = .ok (.aload_n 0, 1) := by decide +kernel
theorem dX8_isCell_3 : decode cX8_isCell 3 = .ok (.getfield 10, 3) := by decide +kernel
theorem dX8_isCell_6 : decode cX8_isCell 6 = .ok (.getfield 93, 3) := by decide +kernel
theorem dX8_isCell_9 : decode cX8_isCell 9 = .ok (.iconst 1, 1) := by decide +kernel
theorem dX8_isCell_10 : decode cX8_isCell 10 = .ok (.isub, 1) := by decide +kernel
theorem dX8_isCell_11 : decode cX8_isCell 11 = .ok (.invokestatic 82, 3) := by decide +kernel
theorem dX8_isCell_14 : decode cX8_isCell 14 = .ok (.ireturn, 1) := by decide +kernel
theorem dX8_isShip_0 : decode cX8_isShip 0 = .ok (.iload_n 1, 1) := by decide +kernel
theorem dX8_isShip_1 : decode cX8_isShip 1 = .ok (.iconst 0, 1) := by decide +kernel
theorem dX8_isShip_2 : decode cX8_isShip 2 = .ok (.aload_n 0, 1) := by decide +kernel
theorem dX8_isShip_3 : decode cX8_isShip 3 = .ok (.getfield 19, 3) := by decide +kernel
theorem dX8_isShip_6 : decode cX8_isShip 6 = .ok (.getfield 90, 3) := by decide +kernel
theorem dX8_isShip_9 : decode cX8_isShip 9 = .ok (.iconst 1, 1) := by decide +kernel
theorem dX8_isShip_10 : decode cX8_isShip 10 = .ok (.isub, 1) := by decide +kernel
theorem dX8_isShip_11 : decode cX8_isShip 11 = .ok (.invokestatic 82, 3) := by decide +kernel
theorem dX8_isShip_14 : decode cX8_isShip 14 = .ok (.ireturn, 1) := by decide +kernel
theorem dX8_isKindAndM_0 : decode cX8_isKindAndM 0 = .ok (.iload_n 0, 1) := by decide +kernel
theorem dX8_isKindAndM_1 : decode cX8_isKindAndM 1 = .ok (.iconst 0, 1) := by decide +kernel
theorem dX8_isKindAndM_2 : decode cX8_isKindAndM 2 = .ok (.bipush 69, 2) := by decide +kernel
theorem dX8_isKindAndM_4 : decode cX8_isKindAndM 4 = .ok (.invokestatic 82, 3) := by decide +kernel
theorem dX8_isKindAndM_7 : decode cX8_isKindAndM 7 = .ok (.ireturn, 1) := by decide +kernel
theorem dX8_isUse_0 : decode cX8_isUse 0 = .ok (.iload_n 0, 1) := by decide +kernel
theorem dX8_isUse_1 : decode cX8_isUse 1 = .ok (.iconst 0, 1) := by decide +kernel
theorem dX8_isUse_2 : decode cX8_isUse 2 = .ok (.iconst 1, 1) := by decide +kernel
theorem dX8_isUse_3 : decode cX8_isUse 3 = .ok (.invokestatic 82, 3) := by decide +kernel
theorem dX8_isUse_6 : decode cX8_isUse 6 = .ok (.ireturn, 1) := by decide +kernel
theorem dX8_isSheet_0 : decode cX8_isSheet 0 = .ok (.iload_n 0, 1) := by decide +kernel
theorem dX8_isSheet_1 : decode cX8_isSheet 1 = .ok (.iconst 0, 1) := by decide +kernel
theorem dX8_isSheet_2 : decode cX8_isSheet 2 = .ok (.iconst 3, 1) := by decide +kernel
theorem dX8_isSheet_3 : decode cX8_isSheet 3 = .ok (.invokestatic 82, 3) := by decide +kernel
theorem dX8_isSheet_6 : decode cX8_isSheet 6 = .ok (.ireturn, 1) := by decide +kernel
theorem dX8_has_0 : decode cX8_has 0 = .ok (.iload_n 0, 1) := by decide +kernel
theorem dX8_has_1 : decode cX8_has 1 = .ok (.iload_n 1, 1) := by decide +kernel
theorem dX8_has_2 : decode cX8_has 2 = .ok (.ishr, 1) := by decide +kernel
theorem dX8_has_3 : decode cX8_has 3 = .ok (.iconst 1, 1) := by decide +kernel
theorem dX8_has_4 : decode cX8_has 4 = .ok (.iand, 1) := by decide +kernel
theorem dX8_has_5 : decode cX8_has 5 = .ok (.ifCond .eq 7, 3) := by decide +kernel
theorem dX8_has_8 : decode cX8_has 8 = .ok (.iconst 1, 1) := by decide +kernel
theorem dX8_has_9 : decode cX8_has 9 = .ok (.goto 4, 3) := by decide +kernel
theorem dX8_has_12 : decode cX8_has 12 = .ok (.iconst 0, 1) := by decide +kernel
theorem dX8_has_13 : decode cX8_has 13 = .ok (.ireturn, 1) := by decide +kernel
