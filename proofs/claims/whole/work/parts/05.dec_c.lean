/-! decode rows, as claim/NAMES.whole.lean.txt prints them -/
theorem dX9_init_0 : decode cX9_init 0 = .ok (.aload_n 0, 1) := by decide +kernel
theorem dX9_init_1 : decode cX9_init 1 = .ok (.invokespecial 1, 3) := by decide +kernel
theorem dX9_init_4 : decode cX9_init 4 = .ok (.aload_n 0, 1) := by decide +kernel
theorem dX9_init_5 : decode cX9_init 5 = .ok (.iconst 5, 1) := by decide +kernel
theorem dX9_init_6 : decode cX9_init 6 = .ok (.newarray .int, 2) := by decide +kernel
theorem dX9_init_8 : decode cX9_init 8 = .ok (.putfield 7, 3) := by decide +kernel
theorem dX9_init_11 : decode cX9_init 11 = .ok (.aload_n 0, 1) := by decide +kernel
theorem dX9_init_12 : decode cX9_init 12 = .ok (.iconst 5, 1) := by decide +kernel
theorem dX9_init_13 : decode cX9_init 13 = .ok (.newarray .int, 2) := by decide +kernel
theorem dX9_init_15 : decode cX9_init 15 = .ok (.putfield 13, 3) := by decide +kernel
theorem dX9_init_18 : decode cX9_init 18 = .ok (.aload_n 0, 1) := by decide +kernel
theorem dX9_init_19 : decode cX9_init 19 = .ok (.bipush 6, 2) := by decide +kernel
theorem dX9_init_21 : decode cX9_init 21 = .ok (.newarray .int, 2) := by decide +kernel
theorem dX9_init_23 : decode cX9_init 23 = .ok (.putfield 16, 3) := by decide +kernel
theorem dX9_init_26 : decode cX9_init 26 = .ok (.aload_n 0, 1) := by decide +kernel
theorem dX9_init_27 : decode cX9_init 27 = .ok (.bipush 6, 2) := by decide +kernel
theorem dX9_init_29 : decode cX9_init 29 = .ok (.newarray .int, 2) := by decide +kernel
theorem dX9_init_31 : decode cX9_init 31 = .ok (.putfield 19, 3) := by decide +kernel
theorem dX9_init_34 : decode cX9_init 34 = .ok (.aload_n 0, 1) := by decide +kernel
theorem dX9_init_35 : decode cX9_init 35 = .ok (.bipush 6, 2) := by decide +kernel
theorem dX9_init_37 : decode cX9_init 37 = .ok (.newarray .int, 2) := by decide +kernel
theorem dX9_init_39 : decode cX9_init 39 = .ok (.putfield 22, 3) := by decide +kernel
theorem dX9_init_42 : decode cX9_init 42 = .ok (.aload_n 0, 1) := by decide +kernel
theorem dX9_init_43 : decode cX9_init 43 = .ok (.bipush 60, 2) := by decide +kernel
theorem dX9_init_45 : decode cX9_init 45 = .ok (.newarray .int, 2) := by decide +kernel
theorem dX9_init_47 : decode cX9_init 47 = .ok (.putfield 25, 3) := by decide +kernel
theorem dX9_init_50 : decode cX9_init 50 = .ok (.aload_n 0, 1) := by decide +kernel
theorem dX9_init_51 : decode cX9_init 51 = .ok (.bipush 61, 2) := by decide +kernel
theorem dX9_init_53 : decode cX9_init 53 = .ok (.newarray .int, 2) := by decide +kernel
theorem dX9_init_55 : decode cX9_init 55 = .ok (.putfield 28, 3) := by decide +kernel
theorem dX9_init_58 : decode cX9_init 58 = .ok (.aload_n 0, 1) := by decide +kernel
theorem dX9_init_59 : decode cX9_init 59 = .ok (.bipush 12, 2) := by decide +kernel
theorem dX9_init_61 : decode cX9_init 61 = .ok (.newarray .int, 2) := by decide +kernel
theorem dX9_init_63 : decode cX9_init 63 = .ok (.putfield 31, 3) := by decide +kernel
theorem dX9_init_66 : decode cX9_init 66 = .ok (.aload_n 0, 1) := by decide +kernel
theorem dX9_init_67 : decode cX9_init 67 = .ok (.bipush 12, 2) := by decide +kernel
theorem dX9_init_69 : decode cX9_init 69 = .ok (.newarray .int, 2) := by decide +kernel
theorem dX9_init_71 : decode cX9_init 71 = .ok (.putfield 34, 3) := by decide +kernel
theorem dX9_init_74 : decode cX9_init 74 = .ok (.aload_n 0, 1) := by decide +kernel
theorem dX9_init_75 : decode cX9_init 75 = .ok (.bipush 6, 2) := by decide +kernel
theorem dX9_init_77 : decode cX9_init 77 = .ok (.newarray .int, 2) := by decide +kernel
theorem dX9_init_79 : decode cX9_init 79 = .ok (.putfield 37, 3) := by decide +kernel
theorem dX9_init_82 : decode cX9_init 82 = .ok (.aload_n 0, 1) := by decide +kernel
theorem dX9_init_83 : decode cX9_init 83 = .ok (.bipush 60, 2) := by decide +kernel
theorem dX9_init_85 : decode cX9_init 85 = .ok (.newarray .int, 2) := by decide +kernel
theorem dX9_init_87 : decode cX9_init 87 = .ok (.putfield 40, 3) := by decide +kernel
theorem dX9_init_90 : decode cX9_init 90 = .ok (.aload_n 0, 1) := by decide +kernel
theorem dX9_init_91 : decode cX9_init 91 = .ok (.bipush 100, 2) := by decide +kernel
theorem dX9_init_93 : decode cX9_init 93 = .ok (.newarray .int, 2) := by decide +kernel
theorem dX9_init_95 : decode cX9_init 95 = .ok (.putfield 43, 3) := by decide +kernel
theorem dX9_init_98 : decode cX9_init 98 = .ok (.aload_n 0, 1) := by decide +kernel
theorem dX9_init_99 : decode cX9_init 99 = .ok (.iconst 2, 1) := by decide +kernel
theorem dX9_init_100 : decode cX9_init 100 = .ok (.newarray .boolean, 2) := by decide +kernel
theorem dX9_init_102 : decode cX9_init 102 = .ok (.putfield 46, 3) := by decide +kernel
theorem dX9_init_105 : decode cX9_init 105 = .ok (.aload_n 0, 1) := by decide +kernel
theorem dX9_init_106 : decode cX9_init 106 = .ok (.bipush 10, 2) := by decide +kernel
theorem dX9_init_108 : decode cX9_init 108 = .ok (.putfield 50, 3) := by decide +kernel
theorem dX9_init_111 : decode cX9_init 111 = .ok (.aload_n 0, 1) := by decide +kernel
theorem dX9_init_112 : decode cX9_init 112 = .ok (.bipush 50, 2) := by decide +kernel
theorem dX9_init_114 : decode cX9_init 114 = .ok (.putfield 54, 3) := by decide +kernel
theorem dX9_init_117 : decode cX9_init 117 = .ok (.aload_n 0, 1) := by decide +kernel
theorem dX9_init_118 : decode cX9_init 118 = .ok (.iconst 1, 1) := by decide +kernel
theorem dX9_init_119 : decode cX9_init 119 = .ok (.putfield 57, 3) := by decide +kernel
theorem dX9_init_122 : decode cX9_init 122 = .ok (.aload_n 0, 1) := by decide +kernel
theorem dX9_init_123 : decode cX9_init 123 = .ok (.bipush 10, 2) := by decide +kernel
theorem dX9_init_125 : decode cX9_init 125 = .ok (.putfield 60, 3) := by decide +kernel
theorem dX9_init_128 : decode cX9_init 128 = .ok (.aload_n 0, 1) := by decide +kernel
theorem dX9_init_129 : decode cX9_init 129 = .ok (.iconst 3, 1) := by decide +kernel
theorem dX9_init_130 : decode cX9_init 130 = .ok (.putfield 63, 3) := by decide +kernel
theorem dX9_init_133 : decode cX9_init 133 = .ok (.aload_n 0, 1) := by decide +kernel
theorem dX9_init_134 : decode cX9_init 134 = .ok (.iconst 5, 1) := by decide +kernel
theorem dX9_init_135 : decode cX9_init 135 = .ok (.putfield 66, 3) := by decide +kernel
theorem dX9_init_138 : decode cX9_init 138 = .ok (.iconst 0, 1) := by decide +kernel
theorem dX9_init_139 : decode cX9_init 139 = .ok (.istore_n 1, 1) := by decide +kernel
theorem dX9_init_140 : decode cX9_init 140 = .ok (.iload_n 1, 1) := by decide +kernel
theorem dX9_init_141 : decode cX9_init 141 = .ok (.iconst 5, 1) := by decide +kernel
theorem dX9_init_142 : decode cX9_init 142 = .ok (.if_icmp .ge 24, 3) := by decide +kernel
theorem dX9_init_145 : decode cX9_init 145 = .ok (.aload_n 0, 1) := by decide +kernel
theorem dX9_init_146 : decode cX9_init 146 = .ok (.getfield 7, 3) := by decide +kernel
theorem dX9_init_149 : decode cX9_init 149 = .ok (.iload_n 1, 1) := by decide +kernel
theorem dX9_init_150 : decode cX9_init 150 = .ok (.iload_n 1, 1) := by decide +kernel
theorem dX9_init_151 : decode cX9_init 151 = .ok (.iastore, 1) := by decide +kernel
theorem dX9_init_152 : decode cX9_init 152 = .ok (.aload_n 0, 1) := by decide +kernel
theorem dX9_init_153 : decode cX9_init 153 = .ok (.getfield 13, 3) := by decide +kernel
theorem dX9_init_156 : decode cX9_init 156 = .ok (.iload_n 1, 1) := by decide +kernel
theorem dX9_init_157 : decode cX9_init 157 = .ok (.iload_n 1, 1) := by decide +kernel
theorem dX9_init_158 : decode cX9_init 158 = .ok (.ineg, 1) := by decide +kernel
theorem dX9_init_159 : decode cX9_init 159 = .ok (.iastore, 1) := by decide +kernel
theorem dX9_init_160 : decode cX9_init 160 = .ok (.iinc 1 1, 3) := by decide +kernel
theorem dX9_init_163 : decode cX9_init 163 = .ok (.goto (-23), 3) := by decide +kernel
theorem dX9_init_166 : decode cX9_init 166 = .ok (.return_, 1) := by decide +kernel
theorem dX9_in_0 : decode cX9_in 0 = .ok (.lload_n 0, 1) := by decide +kernel
theorem dX9_in_1 : decode cX9_in 1 = .ok (.lload_n 2, 1) := by decide +kernel
theorem dX9_in_2 : decode cX9_in 2 = .ok (.lcmp, 1) := by decide +kernel
theorem dX9_in_3 : decode cX9_in 3 = .ok (.ifCond .lt 14, 3) := by decide +kernel
theorem dX9_in_6 : decode cX9_in 6 = .ok (.lload_n 0, 1) := by decide +kernel
theorem dX9_in_7 : decode cX9_in 7 = .ok (.lload 4, 2) := by decide +kernel
theorem dX9_in_9 : decode cX9_in 9 = .ok (.lcmp, 1) := by decide +kernel
theorem dX9_in_10 : decode cX9_in 10 = .ok (.ifCond .gt 7, 3) := by decide +kernel
theorem dX9_in_13 : decode cX9_in 13 = .ok (.iconst 1, 1) := by decide +kernel
theorem dX9_in_14 : decode cX9_in 14 = .ok (.goto 4, 3) := by decide +kernel
theorem dX9_in_17 : decode cX9_in 17 = .ok (.iconst 0, 1) := by decide +kernel
theorem dX9_in_18 : decode cX9_in 18 = .ok (.ireturn, 1) := by decide +kernel
theorem dX9_wind_0 : decode cX9_wind 0 = .ok (.iload_n 1, 1) := by decide +kernel
theorem dX9_wind_1 : decode cX9_wind 1 = .ok (.i2l, 1) := by decide +kernel
theorem dX9_wind_2 : decode cX9_wind 2 = .ok (.lconst 0, 1) := by decide +kernel
theorem dX9_wind_3 : decode cX9_wind 3 = .ok (.ldc2_w 69, 3) := by decide +kernel
theorem dX9_wind_6 : decode cX9_wind 6 = .ok (.invokestatic 71, 3) := by decide +kernel
theorem dX9_wind_9 : decode cX9_wind 9 = .ok (.ifCond .ne 5, 3) := by decide +kernel
theorem dX9_wind_12 : decode cX9_wind 12 = .ok (.iconst (-1), 1) := by decide +kernel
theorem dX9_wind_13 : decode cX9_wind 13 = .ok (.ireturn, 1) := by decide +kernel
theorem dX9_wind_14 : decode cX9_wind 14 = .ok (.iload_n 2, 1) := by decide +kernel
theorem dX9_wind_15 : decode cX9_wind 15 = .ok (.i2l, 1) := by decide +kernel
theorem dX9_wind_16 : decode cX9_wind 16 = .ok (.lconst 0, 1) := by decide +kernel
theorem dX9_wind_17 : decode cX9_wind 17 = .ok (.lconst 1, 1) := by decide +kernel
theorem dX9_wind_18 : decode cX9_wind 18 = .ok (.invokestatic 71, 3) := by decide +kernel
theorem dX9_wind_21 : decode cX9_wind 21 = .ok (.ifCond .eq 17, 3) := by decide +kernel
theorem dX9_wind_24 : decode cX9_wind 24 = .ok (.iload_n 3, 1) := by decide +kernel
theorem dX9_wind_25 : decode cX9_wind 25 = .ok (.i2l, 1) := by decide +kernel
theorem dX9_wind_26 : decode cX9_wind 26 = .ok (.ldc2_w 75, 3) := by decide +kernel
theorem dX9_wind_29 : decode cX9_wind 29 = .ok (.ldc2_w 77, 3) := by decide +kernel
theorem dX9_wind_32 : decode cX9_wind 32 = .ok (.invokestatic 71, 3) := by decide +kernel
theorem dX9_wind_35 : decode cX9_wind 35 = .ok (.ifCond .ne 6, 3) := by decide +kernel
theorem dX9_wind_38 : decode cX9_wind 38 = .ok (.bipush (-2), 2) := by decide +kernel
theorem dX9_wind_40 : decode cX9_wind 40 = .ok (.ireturn, 1) := by decide +kernel
theorem dX9_wind_41 : decode cX9_wind 41 = .ok (.iload_n 2, 1) := by decide +kernel
theorem dX9_wind_42 : decode cX9_wind 42 = .ok (.ifCond .ne 12, 3) := by decide +kernel
theorem dX9_wind_45 : decode cX9_wind 45 = .ok (.aload_n 0, 1) := by decide +kernel
theorem dX9_wind_46 : decode cX9_wind 46 = .ok (.getfield 7, 3) := by decide +kernel
theorem dX9_wind_49 : decode cX9_wind 49 = .ok (.iload_n 1, 1) := by decide +kernel
theorem dX9_wind_50 : decode cX9_wind 50 = .ok (.iaload, 1) := by decide +kernel
theorem dX9_wind_51 : decode cX9_wind 51 = .ok (.goto 9, 3) := by decide +kernel
theorem dX9_wind_54 : decode cX9_wind 54 = .ok (.aload_n 0, 1) := by decide +kernel
theorem dX9_wind_55 : decode cX9_wind 55 = .ok (.getfield 13, 3) := by decide +kernel
theorem dX9_wind_58 : decode cX9_wind 58 = .ok (.iload_n 1, 1) := by decide +kernel
theorem dX9_wind_59 : decode cX9_wind 59 = .ok (.iaload, 1) := by decide +kernel
theorem dX9_wind_60 : decode cX9_wind 60 = .ok (.istore 4, 2) := by decide +kernel
theorem dX9_wind_62 : decode cX9_wind 62 = .ok (.aload_n 0, 1) := by decide +kernel
theorem dX9_wind_63 : decode cX9_wind 63 = .ok (.getfield 7, 3) := by decide +kernel
theorem dX9_wind_66 : decode cX9_wind 66 = .ok (.iload_n 1, 1) := by decide +kernel
theorem dX9_wind_67 : decode cX9_wind 67 = .ok (.iload_n 2, 1) := by decide +kernel
theorem dX9_wind_68 : decode cX9_wind 68 = .ok (.ifCond .ne 7, 3) := by decide +kernel
theorem dX9_wind_71 : decode cX9_wind 71 = .ok (.iload_n 3, 1) := by decide +kernel
theorem dX9_wind_72 : decode cX9_wind 72 = .ok (.goto 9, 3) := by decide +kernel
theorem dX9_wind_75 : decode cX9_wind 75 = .ok (.aload_n 0, 1) := by decide +kernel
theorem dX9_wind_76 : decode cX9_wind 76 = .ok (.getfield 7, 3) := by decide +kernel
theorem dX9_wind_79 : decode cX9_wind 79 = .ok (.iload_n 1, 1) := by decide +kernel
theorem dX9_wind_80 : decode cX9_wind 80 = .ok (.iaload, 1) := by decide +kernel
theorem dX9_wind_81 : decode cX9_wind 81 = .ok (.iastore, 1) := by decide +kernel
theorem dX9_wind_82 : decode cX9_wind 82 = .ok (.aload_n 0, 1) := by decide +kernel
theorem dX9_wind_83 : decode cX9_wind 83 = .ok (.getfield 13, 3) := by decide +kernel
theorem dX9_wind_86 : decode cX9_wind 86 = .ok (.iload_n 1, 1) := by decide +kernel
theorem dX9_wind_87 : decode cX9_wind 87 = .ok (.iload_n 2, 1) := by decide +kernel
theorem dX9_wind_88 : decode cX9_wind 88 = .ok (.iconst 1, 1) := by decide +kernel
theorem dX9_wind_89 : decode cX9_wind 89 = .ok (.if_icmp .ne 7, 3) := by decide +kernel
theorem dX9_wind_92 : decode cX9_wind 92 = .ok (.iload_n 3, 1) := by decide +kernel
theorem dX9_wind_93 : decode cX9_wind 93 = .ok (.goto 9, 3) := by decide +kernel
theorem dX9_wind_96 : decode cX9_wind 96 = .ok (.aload_n 0, 1) := by decide +kernel
theorem dX9_wind_97 : decode cX9_wind 97 = .ok (.getfield 13, 3) := by decide +kernel
theorem dX9_wind_100 : decode cX9_wind 100 = .ok (.iload_n 1, 1) := by decide +kernel
theorem dX9_wind_101 : decode cX9_wind 101 = .ok (.iaload, 1) := by decide +kernel
theorem dX9_wind_102 : decode cX9_wind 102 = .ok (.iastore, 1) := by decide +kernel
theorem dX9_wind_103 : decode cX9_wind 103 = .ok (.iload 4, 2) := by decide +kernel
theorem dX9_wind_105 : decode cX9_wind 105 = .ok (.bipush 100, 2) := by decide +kernel
theorem dX9_wind_107 : decode cX9_wind 107 = .ok (.iadd, 1) := by decide +kernel
theorem dX9_wind_108 : decode cX9_wind 108 = .ok (.ireturn, 1) := by decide +kernel
theorem dX9_set_0 : decode cX9_set 0 = .ok (.iload_n 1, 1) := by decide +kernel
theorem dX9_set_1 : decode cX9_set 1 = .ok (.iconst 3, 1) := by decide +kernel
theorem dX9_set_2 : decode cX9_set 2 = .ok (.if_icmp .eq 8, 3) := by decide +kernel
theorem dX9_set_5 : decode cX9_set 5 = .ok (.iload_n 1, 1) := by decide +kernel
theorem dX9_set_6 : decode cX9_set 6 = .ok (.iconst 5, 1) := by decide +kernel
theorem dX9_set_7 : decode cX9_set 7 = .ok (.if_icmp .ne 7, 3) := by decide +kernel
theorem dX9_set_10 : decode cX9_set 10 = .ok (.iconst 1, 1) := by decide +kernel
theorem dX9_set_11 : decode cX9_set 11 = .ok (.goto 4, 3) := by decide +kernel
theorem dX9_set_14 : decode cX9_set 14 = .ok (.iconst 0, 1) := by decide +kernel
theorem dX9_set_15 : decode cX9_set 15 = .ok (.istore_n 3, 1) := by decide +kernel
theorem dX9_set_16 : decode cX9_set 16 = .ok (.iload_n 1, 1) := by decide +kernel
theorem dX9_set_17 : decode cX9_set 17 = .ok (.ifCond .ne 8, 3) := by decide +kernel
theorem dX9_set_20 : decode cX9_set 20 = .ok (.bipush 40, 2) := by decide +kernel
theorem dX9_set_22 : decode cX9_set 22 = .ok (.goto 30, 3) := by decide +kernel
theorem dX9_set_25 : decode cX9_set 25 = .ok (.iload_n 1, 1) := by decide +kernel
theorem dX9_set_26 : decode cX9_set 26 = .ok (.iconst 1, 1) := by decide +kernel
theorem dX9_set_27 : decode cX9_set 27 = .ok (.if_icmp .ne 8, 3) := by decide +kernel
theorem dX9_set_30 : decode cX9_set 30 = .ok (.bipush 99, 2) := by decide +kernel
theorem dX9_set_32 : decode cX9_set 32 = .ok (.goto 20, 3) := by decide +kernel
theorem dX9_set_35 : decode cX9_set 35 = .ok (.iload_n 1, 1) := by decide +kernel
theorem dX9_set_36 : decode cX9_set 36 = .ok (.iconst 2, 1) := by decide +kernel
theorem dX9_set_37 : decode cX9_set 37 = .ok (.if_icmp .eq 8, 3) := by decide +kernel
theorem dX9_set_40 : decode cX9_set 40 = .ok (.iload_n 1, 1) := by decide +kernel
theorem dX9_set_41 : decode cX9_set 41 = .ok (.iconst 4, 1) := by decide +kernel
theorem dX9_set_42 : decode cX9_set 42 = .ok (.if_icmp .ne 8, 3) := by decide +kernel
theorem dX9_set_45 : decode cX9_set 45 = .ok (.bipush 9, 2) := by decide +kernel
theorem dX9_set_47 : decode cX9_set 47 = .ok (.goto 5, 3) := by decide +kernel
theorem dX9_set_50 : decode cX9_set 50 = .ok (.bipush 20, 2) := by decide +kernel
theorem dX9_set_52 : decode cX9_set 52 = .ok (.istore 4, 2) := by decide +kernel
theorem dX9_set_54 : decode cX9_set 54 = .ok (.iload_n 1, 1) := by decide +kernel
theorem dX9_set_55 : decode cX9_set 55 = .ok (.i2l, 1) := by decide +kernel
theorem dX9_set_56 : decode cX9_set 56 = .ok (.lconst 0, 1) := by decide +kernel
theorem dX9_set_57 : decode cX9_set 57 = .ok (.ldc2_w 79, 3) := by decide +kernel
theorem dX9_set_60 : decode cX9_set 60 = .ok (.invokestatic 71, 3) := by decide +kernel
theorem dX9_set_63 : decode cX9_set 63 = .ok (.ifCond .eq 16, 3) := by decide +kernel
theorem dX9_set_66 : decode cX9_set 66 = .ok (.iload_n 2, 1) := by decide +kernel
theorem dX9_set_67 : decode cX9_set 67 = .ok (.i2l, 1) := by decide +kernel
theorem dX9_set_68 : decode cX9_set 68 = .ok (.iload_n 3, 1) := by decide +kernel
theorem dX9_set_69 : decode cX9_set 69 = .ok (.i2l, 1) := by decide +kernel
theorem dX9_set_70 : decode cX9_set 70 = .ok (.iload 4, 2) := by decide +kernel
theorem dX9_set_72 : decode cX9_set 72 = .ok (.i2l, 1) := by decide +kernel
theorem dX9_set_73 : decode cX9_set 73 = .ok (.invokestatic 71, 3) := by decide +kernel
theorem dX9_set_76 : decode cX9_set 76 = .ok (.ifCond .ne 6, 3) := by decide +kernel
theorem dX9_set_79 : decode cX9_set 79 = .ok (.bipush (-2), 2) := by decide +kernel
theorem dX9_set_81 : decode cX9_set 81 = .ok (.ireturn, 1) := by decide +kernel
theorem dX9_set_82 : decode cX9_set 82 = .ok (.aload_n 0, 1) := by decide +kernel
theorem dX9_set_83 : decode cX9_set 83 = .ok (.iload_n 1, 1) := by decide +kernel
theorem dX9_set_84 : decode cX9_set 84 = .ok (.iconst 1, 1) := by decide +kernel
theorem dX9_set_85 : decode cX9_set 85 = .ok (.iadd, 1) := by decide +kernel
theorem dX9_set_86 : decode cX9_set 86 = .ok (.invokevirtual 81, 3) := by decide +kernel
theorem dX9_set_89 : decode cX9_set 89 = .ok (.istore 5, 2) := by decide +kernel
theorem dX9_set_91 : decode cX9_set 91 = .ok (.aload_n 0, 1) := by decide +kernel
theorem dX9_set_92 : decode cX9_set 92 = .ok (.iload_n 1, 1) := by decide +kernel
theorem dX9_set_93 : decode cX9_set 93 = .ok (.ifCond .ne 7, 3) := by decide +kernel
theorem dX9_set_96 : decode cX9_set 96 = .ok (.iload_n 2, 1) := by decide +kernel
theorem dX9_set_97 : decode cX9_set 97 = .ok (.goto 7, 3) := by decide +kernel
theorem dX9_set_100 : decode cX9_set 100 = .ok (.aload_n 0, 1) := by decide +kernel
theorem dX9_set_101 : decode cX9_set 101 = .ok (.getfield 50, 3) := by decide +kernel
theorem dX9_set_104 : decode cX9_set 104 = .ok (.putfield 50, 3) := by decide +kernel
theorem dX9_set_107 : decode cX9_set 107 = .ok (.aload_n 0, 1) := by decide +kernel
theorem dX9_set_108 : decode cX9_set 108 = .ok (.iload_n 1, 1) := by decide +kernel
theorem dX9_set_109 : decode cX9_set 109 = .ok (.iconst 1, 1) := by decide +kernel
theorem dX9_set_110 : decode cX9_set 110 = .ok (.if_icmp .ne 7, 3) := by decide +kernel
theorem dX9_set_113 : decode cX9_set 113 = .ok (.iload_n 2, 1) := by decide +kernel
theorem dX9_set_114 : decode cX9_set 114 = .ok (.goto 7, 3) := by decide +kernel
theorem dX9_set_117 : decode cX9_set 117 = .ok (.aload_n 0, 1) := by decide +kernel
theorem dX9_set_118 : decode cX9_set 118 = .ok (.getfield 54, 3) := by decide +kernel
theorem dX9_set_121 : decode cX9_set 121 = .ok (.putfield 54, 3) := by decide +kernel
theorem dX9_set_124 : decode cX9_set 124 = .ok (.aload_n 0, 1) := by decide +kernel
theorem dX9_set_125 : decode cX9_set 125 = .ok (.iload_n 1, 1) := by decide +kernel
theorem dX9_set_126 : decode cX9_set 126 = .ok (.iconst 2, 1) := by decide +kernel
theorem dX9_set_127 : decode cX9_set 127 = .ok (.if_icmp .ne 7, 3) := by decide +kernel
theorem dX9_set_130 : decode cX9_set 130 = .ok (.iload_n 2, 1) := by decide +kernel
theorem dX9_set_131 : decode cX9_set 131 = .ok (.goto 7, 3) := by decide +kernel
theorem dX9_set_134 : decode cX9_set 134 = .ok (.aload_n 0, 1) := by decide +kernel
theorem dX9_set_135 : decode cX9_set 135 = .ok (.getfield 57, 3) := by decide +kernel
theorem dX9_set_138 : decode cX9_set 138 = .ok (.putfield 57, 3) := by decide +kernel
theorem dX9_set_141 : decode cX9_set 141 = .ok (.aload_n 0, 1) := by decide +kernel
theorem dX9_set_142 : decode cX9_set 142 = .ok (.iload_n 1, 1) := by decide +kernel
theorem dX9_set_143 : decode cX9_set 143 = .ok (.iconst 3, 1) := by decide +kernel
theorem dX9_set_144 : decode cX9_set 144 = .ok (.if_icmp .ne 7, 3) := by decide +kernel
theorem dX9_set_147 : decode cX9_set 147 = .ok (.iload_n 2, 1) := by decide +kernel
theorem dX9_set_148 : decode cX9_set 148 = .ok (.goto 7, 3) := by decide +kernel
theorem dX9_set_151 : decode cX9_set 151 = .ok (.aload_n 0, 1) := by decide +kernel
theorem dX9_set_152 : decode cX9_set 152 = .ok (.getfield 60, 3) := by decide +kernel
theorem dX9_set_155 : decode cX9_set 155 = .ok (.putfield 60, 3) := by decide +kernel
theorem dX9_set_158 : decode cX9_set 158 = .ok (.aload_n 0, 1) := by decide +kernel
theorem dX9_set_159 : decode cX9_set 159 = .ok (.iload_n 1, 1) := by decide +kernel
theorem dX9_set_160 : decode cX9_set 160 = .ok (.iconst 4, 1) := by decide +kernel
theorem dX9_set_161 : decode cX9_set 161 = .ok (.if_icmp .ne 7, 3) := by decide +kernel
theorem dX9_set_164 : decode cX9_set 164 = .ok (.iload_n 2, 1) := by decide +kernel
theorem dX9_set_165 : decode cX9_set 165 = .ok (.goto 7, 3) := by decide +kernel
theorem dX9_set_168 : decode cX9_set 168 = .ok (.aload_n 0, 1) := by decide +kernel
theorem dX9_set_169 : decode cX9_set 169 = .ok (.getfield 63, 3) := by decide +kernel
theorem dX9_set_172 : decode cX9_set 172 = .ok (.putfield 63, 3) := by decide +kernel
theorem dX9_set_175 : decode cX9_set 175 = .ok (.aload_n 0, 1) := by decide +kernel
theorem dX9_set_176 : decode cX9_set 176 = .ok (.iload_n 1, 1) := by decide +kernel
theorem dX9_set_177 : decode cX9_set 177 = .ok (.iconst 5, 1) := by decide +kernel
theorem dX9_set_178 : decode cX9_set 178 = .ok (.if_icmp .ne 7, 3) := by decide +kernel
theorem dX9_set_181 : decode cX9_set 181 = .ok (.iload_n 2, 1) := by decide +kernel
theorem dX9_set_182 : decode cX9_set 182 = .ok (.goto 7, 3) := by decide +kernel
theorem dX9_set_185 : decode cX9_set 185 = .ok (.aload_n 0, 1) := by decide +kernel
theorem dX9_set_186 : decode cX9_set 186 = .ok (.getfield 66, 3) := by decide +kernel
theorem dX9_set_189 : decode cX9_set 189 = .ok (.putfield 66, 3) := by decide +kernel
theorem dX9_set_192 : decode cX9_set 192 = .ok (.iload 5, 2) := by decide +kernel
theorem dX9_set_194 : decode cX9_set 194 = .ok (.ireturn, 1) := by decide +kernel
theorem dX9_isThing_0 : decode cX9_isThing 0 = .ok (.iload_n 0, 1) := by decide +kernel
theorem dX9_isThing_1 : decode cX9_isThing 1 = .ok (.i2l, 1) := by decide +kernel
theorem dX9_isThing_2 : decode cX9_isThing 2 = .ok (.lconst 0, 1) := by decide +kernel
theorem dX9_isThing_3 : decode cX9_isThing 3 = .ok (.ldc2_w 79, 3) := by decide +kernel
theorem dX9_isThing_6 : decode cX9_isThing 6 = .ok (.invokestatic 71, 3) := by decide +kernel
theorem dX9_isThing_9 : decode cX9_isThing 9 = .ok (.ireturn, 1) := by decide +kernel
theorem dX9_load_0 : decode cX9_load 0 = .ok (.iload_n 1, 1) := by decide +kernel
theorem dX9_load_1 : decode cX9_load 1 = .ok (.invokestatic 85, 3) := by decide +kernel
theorem dX9_load_4 : decode cX9_load 4 = .ok (.ifCond .ne 5, 3) := by decide +kernel
theorem dX9_load_7 : decode cX9_load 7 = .ok (.iconst (-1), 1) := by decide +kernel
theorem dX9_load_8 : decode cX9_load 8 = .ok (.ireturn, 1) := by decide +kernel
theorem dX9_load_9 : decode cX9_load 9 = .ok (.iload_n 2, 1) := by decide +kernel
theorem dX9_load_10 : decode cX9_load 10 = .ok (.i2l, 1) := by decide +kernel
theorem dX9_load_11 : decode cX9_load 11 = .ok (.lconst 0, 1) := by decide +kernel
theorem dX9_load_12 : decode cX9_load 12 = .ok (.ldc2_w 89, 3) := by decide +kernel
theorem dX9_load_15 : decode cX9_load 15 = .ok (.invokestatic 71, 3) := by decide +kernel
theorem dX9_load_18 : decode cX9_load 18 = .ok (.ifCond .ne 6, 3) := by decide +kernel
theorem dX9_load_21 : decode cX9_load 21 = .ok (.bipush (-2), 2) := by decide +kernel
theorem dX9_load_23 : decode cX9_load 23 = .ok (.ireturn, 1) := by decide +kernel
theorem dX9_load_24 : decode cX9_load 24 = .ok (.aload_n 0, 1) := by decide +kernel
theorem dX9_load_25 : decode cX9_load 25 = .ok (.getfield 16, 3) := by decide +kernel
theorem dX9_load_28 : decode cX9_load 28 = .ok (.iload_n 1, 1) := by decide +kernel
theorem dX9_load_29 : decode cX9_load 29 = .ok (.iaload, 1) := by decide +kernel
theorem dX9_load_30 : decode cX9_load 30 = .ok (.istore_n 3, 1) := by decide +kernel
theorem dX9_load_31 : decode cX9_load 31 = .ok (.aload_n 0, 1) := by decide +kernel
theorem dX9_load_32 : decode cX9_load 32 = .ok (.getfield 16, 3) := by decide +kernel
theorem dX9_load_35 : decode cX9_load 35 = .ok (.iload_n 1, 1) := by decide +kernel
theorem dX9_load_36 : decode cX9_load 36 = .ok (.iload_n 2, 1) := by decide +kernel
theorem dX9_load_37 : decode cX9_load 37 = .ok (.iastore, 1) := by decide +kernel
theorem dX9_load_38 : decode cX9_load 38 = .ok (.iload_n 3, 1) := by decide +kernel
theorem dX9_load_39 : decode cX9_load 39 = .ok (.ireturn, 1) := by decide +kernel
theorem dX9_loaded_0 : decode cX9_loaded 0 = .ok (.iconst 0, 1) := by decide +kernel
theorem dX9_loaded_1 : decode cX9_loaded 1 = .ok (.istore_n 1, 1) := by decide +kernel
theorem dX9_loaded_2 : decode cX9_loaded 2 = .ok (.iconst 0, 1) := by decide +kernel
theorem dX9_loaded_3 : decode cX9_loaded 3 = .ok (.istore_n 2, 1) := by decide +kernel
theorem dX9_loaded_4 : decode cX9_loaded 4 = .ok (.iload_n 2, 1) := by decide +kernel
theorem dX9_loaded_5 : decode cX9_loaded 5 = .ok (.bipush 6, 2) := by decide +kernel
theorem dX9_loaded_7 : decode cX9_loaded 7 = .ok (.if_icmp .ge 28, 3) := by decide +kernel
theorem dX9_loaded_10 : decode cX9_loaded 10 = .ok (.iload_n 1, 1) := by decide +kernel
theorem dX9_loaded_11 : decode cX9_loaded 11 = .ok (.aload_n 0, 1) := by decide +kernel
theorem dX9_loaded_12 : decode cX9_loaded 12 = .ok (.getfield 16, 3) := by decide +kernel
theorem dX9_loaded_15 : decode cX9_loaded 15 = .ok (.iload_n 2, 1) := by decide +kernel
theorem dX9_loaded_16 : decode cX9_loaded 16 = .ok (.iaload, 1) := by decide +kernel
theorem dX9_loaded_17 : decode cX9_loaded 17 = .ok (.ifCond .le 9, 3) := by decide +kernel
theorem dX9_loaded_20 : decode cX9_loaded 20 = .ok (.iconst 1, 1) := by decide +kernel
theorem dX9_loaded_21 : decode cX9_loaded 21 = .ok (.iload_n 2, 1) := by decide +kernel
theorem dX9_loaded_22 : decode cX9_loaded 22 = .ok (.ishl, 1) := by decide +kernel
theorem dX9_loaded_23 : decode cX9_loaded 23 = .ok (.goto 4, 3) := by decide +kernel
theorem dX9_loaded_26 : decode cX9_loaded 26 = .ok (.iconst 0, 1) := by decide +kernel
theorem dX9_loaded_27 : decode cX9_loaded 27 = .ok (.ior, 1) := by decide +kernel
theorem dX9_loaded_28 : decode cX9_loaded 28 = .ok (.istore_n 1, 1) := by decide +kernel
theorem dX9_loaded_29 : decode cX9_loaded 29 = .ok (.iinc 2 1, 3) := by decide +kernel
theorem dX9_loaded_32 : decode cX9_loaded 32 = .ok (.goto (-28), 3) := by decide +kernel
theorem dX9_loaded_35 : decode cX9_loaded 35 = .ok (.iload_n 1, 1) := by decide +kernel
theorem dX9_loaded_36 : decode cX9_loaded 36 = .ok (.ireturn, 1) := by decide +kernel
theorem dX9_say_0 : decode cX9_say 0 = .ok (.iload_n 1, 1) := by decide +kernel
theorem dX9_say_1 : decode cX9_say 1 = .ok (.i2l, 1) := by decide +kernel
theorem dX9_say_2 : decode cX9_say 2 = .ok (.ldc2_w 91, 3) := by decide +kernel
theorem dX9_say_5 : decode cX9_say 5 = .ok (.ldc2_w 93, 3) := by decide +kernel
theorem dX9_say_8 : decode cX9_say 8 = .ok (.invokestatic 71, 3) := by decide +kernel
theorem dX9_say_11 : decode cX9_say 11 = .ok (.ifCond .ne 6, 3) := by decide +kernel
theorem dX9_say_14 : decode cX9_say 14 = .ok (.bipush (-2), 2) := by decide +kernel
theorem dX9_say_16 : decode cX9_say 16 = .ok (.ireturn, 1) := by decide +kernel
theorem dX9_say_17 : decode cX9_say 17 = .ok (.aload_n 0, 1) := by decide +kernel
theorem dX9_say_18 : decode cX9_say 18 = .ok (.getfield 95, 3) := by decide +kernel
theorem dX9_say_21 : decode cX9_say 21 = .ok (.bipush 60, 2) := by decide +kernel
theorem dX9_say_23 : decode cX9_say 23 = .ok (.if_icmp .ne 6, 3) := by decide +kernel
theorem dX9_say_26 : decode cX9_say 26 = .ok (.bipush (-4), 2) := by decide +kernel
theorem dX9_say_28 : decode cX9_say 28 = .ok (.ireturn, 1) := by decide +kernel
theorem dX9_say_29 : decode cX9_say 29 = .ok (.aload_n 0, 1) := by decide +kernel
theorem dX9_say_30 : decode cX9_say 30 = .ok (.getfield 25, 3) := by decide +kernel
theorem dX9_say_33 : decode cX9_say 33 = .ok (.aload_n 0, 1) := by decide +kernel
theorem dX9_say_34 : decode cX9_say 34 = .ok (.getfield 95, 3) := by decide +kernel
theorem dX9_say_37 : decode cX9_say 37 = .ok (.iload_n 1, 1) := by decide +kernel
theorem dX9_say_38 : decode cX9_say 38 = .ok (.iastore, 1) := by decide +kernel
theorem dX9_say_39 : decode cX9_say 39 = .ok (.aload_n 0, 1) := by decide +kernel
theorem dX9_say_40 : decode cX9_say 40 = .ok (.dup, 1) := by decide +kernel
theorem dX9_say_41 : decode cX9_say 41 = .ok (.getfield 95, 3) := by decide +kernel
theorem dX9_say_44 : decode cX9_say 44 = .ok (.iconst 1, 1) := by decide +kernel
theorem dX9_say_45 : decode cX9_say 45 = .ok (.iadd, 1) := by decide +kernel
theorem dX9_say_46 : decode cX9_say 46 = .ok (.putfield 95, 3) := by decide +kernel
theorem dX9_say_49 : decode cX9_say 49 = .ok (.aload_n 0, 1) := by decide +kernel
theorem dX9_say_50 : decode cX9_say 50 = .ok (.getfield 95, 3) := by decide +kernel
theorem dX9_say_53 : decode cX9_say 53 = .ok (.ireturn, 1) := by decide +kernel
theorem dX9_wipe_0 : decode cX9_wipe 0 = .ok (.aload_n 0, 1) := by decide +kernel
theorem dX9_wipe_1 : decode cX9_wipe 1 = .ok (.getfield 95, 3) := by decide +kernel
theorem dX9_wipe_4 : decode cX9_wipe 4 = .ok (.istore_n 1, 1) := by decide +kernel
theorem dX9_wipe_5 : decode cX9_wipe 5 = .ok (.aload_n 0, 1) := by decide +kernel
theorem dX9_wipe_6 : decode cX9_wipe 6 = .ok (.iconst 0, 1) := by decide +kernel
theorem dX9_wipe_7 : decode cX9_wipe 7 = .ok (.putfield 95, 3) := by decide +kernel
theorem dX9_wipe_10 : decode cX9_wipe 10 = .ok (.iload_n 1, 1) := by decide +kernel
theorem dX9_wipe_11 : decode cX9_wipe 11 = .ok (.ireturn, 1) := by decide +kernel
theorem dX9_fault_0 : decode cX9_fault 0 = .ok (.aload_n 0, 1) := by decide +kernel
theorem dX9_fault_1 : decode cX9_fault 1 = .ok (.invokevirtual 98, 3) := by decide +kernel
theorem dX9_fault_4 : decode cX9_fault 4 = .ok (.istore_n 1, 1) := by decide +kernel
theorem dX9_fault_5 : decode cX9_fault 5 = .ok (.iconst 0, 1) := by decide +kernel
theorem dX9_fault_6 : decode cX9_fault 6 = .ok (.istore_n 2, 1) := by decide +kernel
theorem dX9_fault_7 : decode cX9_fault 7 = .ok (.iconst 0, 1) := by decide +kernel
theorem dX9_fault_8 : decode cX9_fault 8 = .ok (.istore_n 3, 1) := by decide +kernel
theorem dX9_fault_9 : decode cX9_fault 9 = .ok (.iload_n 3, 1) := by decide +kernel
theorem dX9_fault_10 : decode cX9_fault 10 = .ok (.aload_n 0, 1) := by decide +kernel
theorem dX9_fault_11 : decode cX9_fault 11 = .ok (.getfield 95, 3) := by decide +kernel
theorem dX9_fault_14 : decode cX9_fault 14 = .ok (.if_icmp .ge 129, 3) := by decide +kernel
theorem dX9_fault_17 : decode cX9_fault 17 = .ok (.aload_n 0, 1) := by decide +kernel
theorem dX9_fault_18 : decode cX9_fault 18 = .ok (.getfield 25, 3) := by decide +kernel
theorem dX9_fault_21 : decode cX9_fault 21 = .ok (.iload_n 3, 1) := by decide +kernel
theorem dX9_fault_22 : decode cX9_fault 22 = .ok (.iaload, 1) := by decide +kernel
theorem dX9_fault_23 : decode cX9_fault 23 = .ok (.bipush 97, 2) := by decide +kernel
theorem dX9_fault_25 : decode cX9_fault 25 = .ok (.isub, 1) := by decide +kernel
theorem dX9_fault_26 : decode cX9_fault 26 = .ok (.istore 4, 2) := by decide +kernel
theorem dX9_fault_28 : decode cX9_fault 28 = .ok (.iload 4, 2) := by decide +kernel
theorem dX9_fault_30 : decode cX9_fault 30 = .ok (.invokestatic 85, 3) := by decide +kernel
theorem dX9_fault_33 : decode cX9_fault 33 = .ok (.ifCond .eq 17, 3) := by decide +kernel
theorem dX9_fault_36 : decode cX9_fault 36 = .ok (.iload_n 1, 1) := by decide +kernel
theorem dX9_fault_37 : decode cX9_fault 37 = .ok (.iload 4, 2) := by decide +kernel
theorem dX9_fault_39 : decode cX9_fault 39 = .ok (.ishr, 1) := by decide +kernel
theorem dX9_fault_40 : decode cX9_fault 40 = .ok (.iconst 1, 1) := by decide +kernel
theorem dX9_fault_41 : decode cX9_fault 41 = .ok (.iand, 1) := by decide +kernel
theorem dX9_fault_42 : decode cX9_fault 42 = .ok (.iconst 1, 1) := by decide +kernel
theorem dX9_fault_43 : decode cX9_fault 43 = .ok (.if_icmp .ne 7, 3) := by decide +kernel
theorem dX9_fault_46 : decode cX9_fault 46 = .ok (.iconst 1, 1) := by decide +kernel
theorem dX9_fault_47 : decode cX9_fault 47 = .ok (.goto 4, 3) := by decide +kernel
theorem dX9_fault_50 : decode cX9_fault 50 = .ok (.iconst 0, 1) := by decide +kernel
theorem dX9_fault_51 : decode cX9_fault 51 = .ok (.istore 5, 2) := by decide +kernel
theorem dX9_fault_53 : decode cX9_fault 53 = .ok (.iload_n 2, 1) := by decide +kernel
theorem dX9_fault_54 : decode cX9_fault 54 = .ok (.aload_n 0, 1) := by decide +kernel
theorem dX9_fault_55 : decode cX9_fault 55 = .ok (.getfield 25, 3) := by decide +kernel
theorem dX9_fault_58 : decode cX9_fault 58 = .ok (.iload_n 3, 1) := by decide +kernel
theorem dX9_fault_59 : decode cX9_fault 59 = .ok (.iaload, 1) := by decide +kernel
theorem dX9_fault_60 : decode cX9_fault 60 = .ok (.bipush 33, 2) := by decide +kernel
theorem dX9_fault_62 : decode cX9_fault 62 = .ok (.if_icmp .ne 7, 3) := by decide +kernel
theorem dX9_fault_65 : decode cX9_fault 65 = .ok (.iconst 1, 1) := by decide +kernel
theorem dX9_fault_66 : decode cX9_fault 66 = .ok (.goto 4, 3) := by decide +kernel
theorem dX9_fault_69 : decode cX9_fault 69 = .ok (.iconst 0, 1) := by decide +kernel
theorem dX9_fault_70 : decode cX9_fault 70 = .ok (.iadd, 1) := by decide +kernel
theorem dX9_fault_71 : decode cX9_fault 71 = .ok (.istore_n 2, 1) := by decide +kernel
theorem dX9_fault_72 : decode cX9_fault 72 = .ok (.aload_n 0, 1) := by decide +kernel
theorem dX9_fault_73 : decode cX9_fault 73 = .ok (.getfield 25, 3) := by decide +kernel
theorem dX9_fault_76 : decode cX9_fault 76 = .ok (.iload_n 3, 1) := by decide +kernel
theorem dX9_fault_77 : decode cX9_fault 77 = .ok (.iaload, 1) := by decide +kernel
theorem dX9_fault_78 : decode cX9_fault 78 = .ok (.bipush 46, 2) := by decide +kernel
theorem dX9_fault_80 : decode cX9_fault 80 = .ok (.if_icmp .eq 25, 3) := by decide +kernel
theorem dX9_fault_83 : decode cX9_fault 83 = .ok (.aload_n 0, 1) := by decide +kernel
theorem dX9_fault_84 : decode cX9_fault 84 = .ok (.getfield 25, 3) := by decide +kernel
theorem dX9_fault_87 : decode cX9_fault 87 = .ok (.iload_n 3, 1) := by decide +kernel
theorem dX9_fault_88 : decode cX9_fault 88 = .ok (.iaload, 1) := by decide +kernel
theorem dX9_fault_89 : decode cX9_fault 89 = .ok (.bipush 33, 2) := by decide +kernel
theorem dX9_fault_91 : decode cX9_fault 91 = .ok (.if_icmp .ne 9, 3) := by decide +kernel
theorem dX9_fault_94 : decode cX9_fault 94 = .ok (.iload_n 2, 1) := by decide +kernel
theorem dX9_fault_95 : decode cX9_fault 95 = .ok (.bipush 12, 2) := by decide +kernel
theorem dX9_fault_97 : decode cX9_fault 97 = .ok (.if_icmp .le 8, 3) := by decide +kernel
theorem dX9_fault_100 : decode cX9_fault 100 = .ok (.iload 5, 2) := by decide +kernel
theorem dX9_fault_102 : decode cX9_fault 102 = .ok (.ifCond .eq 7, 3) := by decide +kernel
theorem dX9_fault_105 : decode cX9_fault 105 = .ok (.iconst 1, 1) := by decide +kernel
theorem dX9_fault_106 : decode cX9_fault 106 = .ok (.goto 4, 3) := by decide +kernel
theorem dX9_fault_109 : decode cX9_fault 109 = .ok (.iconst 0, 1) := by decide +kernel
theorem dX9_fault_110 : decode cX9_fault 110 = .ok (.istore 6, 2) := by decide +kernel
theorem dX9_fault_112 : decode cX9_fault 112 = .ok (.iload 6, 2) := by decide +kernel
theorem dX9_fault_114 : decode cX9_fault 114 = .ok (.ifCond .ne 5, 3) := by decide +kernel
theorem dX9_fault_117 : decode cX9_fault 117 = .ok (.iload_n 3, 1) := by decide +kernel
theorem dX9_fault_118 : decode cX9_fault 118 = .ok (.ireturn, 1) := by decide +kernel
theorem dX9_fault_119 : decode cX9_fault 119 = .ok (.iload_n 1, 1) := by decide +kernel
theorem dX9_fault_120 : decode cX9_fault 120 = .ok (.iload 5, 2) := by decide +kernel
theorem dX9_fault_122 : decode cX9_fault 122 = .ok (.ifCond .eq 12, 3) := by decide +kernel
theorem dX9_fault_125 : decode cX9_fault 125 = .ok (.iconst 1, 1) := by decide +kernel
theorem dX9_fault_126 : decode cX9_fault 126 = .ok (.iload 4, 2) := by decide +kernel
theorem dX9_fault_128 : decode cX9_fault 128 = .ok (.ishl, 1) := by decide +kernel
theorem dX9_fault_129 : decode cX9_fault 129 = .ok (.iconst (-1), 1) := by decide +kernel
theorem dX9_fault_130 : decode cX9_fault 130 = .ok (.ixor, 1) := by decide +kernel
theorem dX9_fault_131 : decode cX9_fault 131 = .ok (.goto 4, 3) := by decide +kernel
theorem dX9_fault_134 : decode cX9_fault 134 = .ok (.iconst (-1), 1) := by decide +kernel
theorem dX9_fault_135 : decode cX9_fault 135 = .ok (.iand, 1) := by decide +kernel
theorem dX9_fault_136 : decode cX9_fault 136 = .ok (.istore_n 1, 1) := by decide +kernel
theorem dX9_fault_137 : decode cX9_fault 137 = .ok (.iinc 3 1, 3) := by decide +kernel
theorem dX9_fault_140 : decode cX9_fault 140 = .ok (.goto (-131), 3) := by decide +kernel
theorem dX9_fault_143 : decode cX9_fault 143 = .ok (.bipush (-6), 2) := by decide +kernel
theorem dX9_fault_145 : decode cX9_fault 145 = .ok (.ireturn, 1) := by decide +kernel
theorem dX9_start_0 : decode cX9_start 0 = .ok (.aload_n 0, 1) := by decide +kernel
theorem dX9_start_1 : decode cX9_start 1 = .ok (.iconst 0, 1) := by decide +kernel
theorem dX9_start_2 : decode cX9_start 2 = .ok (.putfield 102, 3) := by decide +kernel
theorem dX9_start_5 : decode cX9_start 5 = .ok (.aload_n 0, 1) := by decide +kernel
theorem dX9_start_6 : decode cX9_start 6 = .ok (.iconst 0, 1) := by decide +kernel
theorem dX9_start_7 : decode cX9_start 7 = .ok (.putfield 105, 3) := by decide +kernel
theorem dX9_start_10 : decode cX9_start 10 = .ok (.aload_n 0, 1) := by decide +kernel
theorem dX9_start_11 : decode cX9_start 11 = .ok (.iload_n 1, 1) := by decide +kernel
theorem dX9_start_12 : decode cX9_start 12 = .ok (.putfield 108, 3) := by decide +kernel
theorem dX9_start_15 : decode cX9_start 15 = .ok (.aload_n 0, 1) := by decide +kernel
theorem dX9_start_16 : decode cX9_start 16 = .ok (.iload_n 2, 1) := by decide +kernel
theorem dX9_start_17 : decode cX9_start 17 = .ok (.putfield 111, 3) := by decide +kernel
theorem dX9_start_20 : decode cX9_start 20 = .ok (.return_, 1) := by decide +kernel
theorem dX9_startNow_0 : decode cX9_startNow 0 = .ok (.aload_n 0, 1) := by decide +kernel
theorem dX9_startNow_1 : decode cX9_startNow 1 = .ok (.aload_n 0, 1) := by decide +kernel
theorem dX9_startNow_2 : decode cX9_startNow 2 = .ok (.getfield 54, 3) := by decide +kernel
theorem dX9_startNow_5 : decode cX9_startNow 5 = .ok (.aload_n 0, 1) := by decide +kernel
theorem dX9_startNow_6 : decode cX9_startNow 6 = .ok (.invokevirtual 98, 3) := by decide +kernel
theorem dX9_startNow_9 : decode cX9_startNow 9 = .ok (.invokevirtual 114, 3) := by decide +kernel
theorem dX9_startNow_12 : decode cX9_startNow 12 = .ok (.return_, 1) := by decide +kernel
theorem dX9_height_0 : decode cX9_height 0 = .ok (.aload_n 0, 1) := by decide +kernel
theorem dX9_height_1 : decode cX9_height 1 = .ok (.getfield 108, 3) := by decide +kernel
theorem dX9_height_4 : decode cX9_height 4 = .ok (.istore_n 1, 1) := by decide +kernel
theorem dX9_height_5 : decode cX9_height 5 = .ok (.iconst 0, 1) := by decide +kernel
theorem dX9_height_6 : decode cX9_height 6 = .ok (.istore_n 2, 1) := by decide +kernel
theorem dX9_height_7 : decode cX9_height 7 = .ok (.iload_n 2, 1) := by decide +kernel
theorem dX9_height_8 : decode cX9_height 8 = .ok (.bipush 6, 2) := by decide +kernel
theorem dX9_height_10 : decode cX9_height 10 = .ok (.if_icmp .ge 34, 3) := by decide +kernel
theorem dX9_height_13 : decode cX9_height 13 = .ok (.iload_n 1, 1) := by decide +kernel
theorem dX9_height_14 : decode cX9_height 14 = .ok (.aload_n 0, 1) := by decide +kernel
theorem dX9_height_15 : decode cX9_height 15 = .ok (.getfield 111, 3) := by decide +kernel
theorem dX9_height_18 : decode cX9_height 18 = .ok (.iload_n 2, 1) := by decide +kernel
theorem dX9_height_19 : decode cX9_height 19 = .ok (.ishr, 1) := by decide +kernel
theorem dX9_height_20 : decode cX9_height 20 = .ok (.iconst 1, 1) := by decide +kernel
theorem dX9_height_21 : decode cX9_height 21 = .ok (.iand, 1) := by decide +kernel
theorem dX9_height_22 : decode cX9_height 22 = .ok (.iconst 1, 1) := by decide +kernel
theorem dX9_height_23 : decode cX9_height 23 = .ok (.if_icmp .ne 12, 3) := by decide +kernel
theorem dX9_height_26 : decode cX9_height 26 = .ok (.aload_n 0, 1) := by decide +kernel
theorem dX9_height_27 : decode cX9_height 27 = .ok (.getfield 16, 3) := by decide +kernel
theorem dX9_height_30 : decode cX9_height 30 = .ok (.iload_n 2, 1) := by decide +kernel
theorem dX9_height_31 : decode cX9_height 31 = .ok (.iaload, 1) := by decide +kernel
theorem dX9_height_32 : decode cX9_height 32 = .ok (.goto 4, 3) := by decide +kernel
theorem dX9_height_35 : decode cX9_height 35 = .ok (.iconst 0, 1) := by decide +kernel
theorem dX9_height_36 : decode cX9_height 36 = .ok (.isub, 1) := by decide +kernel
theorem dX9_height_37 : decode cX9_height 37 = .ok (.istore_n 1, 1) := by decide +kernel
theorem dX9_height_38 : decode cX9_height 38 = .ok (.iinc 2 1, 3) := by decide +kernel
theorem dX9_height_41 : decode cX9_height 41 = .ok (.goto (-34), 3) := by decide +kernel
theorem dX9_height_44 : decode cX9_height 44 = .ok (.iload_n 1, 1) := by decide +kernel
theorem dX9_height_45 : decode cX9_height 45 = .ok (.ifCond .ge 7, 3) := by decide +kernel
theorem dX9_height_48 : decode cX9_height 48 = .ok (.iconst 0, 1) := by decide +kernel
theorem dX9_height_49 : decode cX9_height 49 = .ok (.goto 9, 3) := by decide +kernel
theorem dX9_height_52 : decode cX9_height 52 = .ok (.iload_n 1, 1) := by decide +kernel
theorem dX9_height_53 : decode cX9_height 53 = .ok (.aload_n 0, 1) := by decide +kernel
theorem dX9_height_54 : decode cX9_height 54 = .ok (.getfield 60, 3) := by decide +kernel
theorem dX9_height_57 : decode cX9_height 57 = .ok (.idiv, 1) := by decide +kernel
theorem dX9_height_58 : decode cX9_height 58 = .ok (.istore_n 2, 1) := by decide +kernel
theorem dX9_height_59 : decode cX9_height 59 = .ok (.iload_n 2, 1) := by decide +kernel
theorem dX9_height_60 : decode cX9_height 60 = .ok (.iconst 5, 1) := by decide +kernel
theorem dX9_height_61 : decode cX9_height 61 = .ok (.if_icmp .ge 7, 3) := by decide +kernel
theorem dX9_height_64 : decode cX9_height 64 = .ok (.iload_n 2, 1) := by decide +kernel
theorem dX9_height_65 : decode cX9_height 65 = .ok (.goto 4, 3) := by decide +kernel
theorem dX9_height_68 : decode cX9_height 68 = .ok (.iconst 4, 1) := by decide +kernel
theorem dX9_height_69 : decode cX9_height 69 = .ok (.ireturn, 1) := by decide +kernel
theorem dX9_drift_0 : decode cX9_drift 0 = .ok (.aload_n 0, 1) := by decide +kernel
theorem dX9_drift_1 : decode cX9_drift 1 = .ok (.dup, 1) := by decide +kernel
theorem dX9_drift_2 : decode cX9_drift 2 = .ok (.getfield 102, 3) := by decide +kernel
theorem dX9_drift_5 : decode cX9_drift 5 = .ok (.aload_n 0, 1) := by decide +kernel
theorem dX9_drift_6 : decode cX9_drift 6 = .ok (.getfield 105, 3) := by decide +kernel
theorem dX9_drift_9 : decode cX9_drift 9 = .ok (.aload_n 0, 1) := by decide +kernel
theorem dX9_drift_10 : decode cX9_drift 10 = .ok (.getfield 50, 3) := by decide +kernel
theorem dX9_drift_13 : decode cX9_drift 13 = .ok (.if_icmp .ge 15, 3) := by decide +kernel
theorem dX9_drift_16 : decode cX9_drift 16 = .ok (.aload_n 0, 1) := by decide +kernel
theorem dX9_drift_17 : decode cX9_drift 17 = .ok (.getfield 7, 3) := by decide +kernel
theorem dX9_drift_20 : decode cX9_drift 20 = .ok (.aload_n 0, 1) := by decide +kernel
theorem dX9_drift_21 : decode cX9_drift 21 = .ok (.invokevirtual 118, 3) := by decide +kernel
theorem dX9_drift_24 : decode cX9_drift 24 = .ok (.iaload, 1) := by decide +kernel
theorem dX9_drift_25 : decode cX9_drift 25 = .ok (.goto 12, 3) := by decide +kernel
theorem dX9_drift_28 : decode cX9_drift 28 = .ok (.aload_n 0, 1) := by decide +kernel
theorem dX9_drift_29 : decode cX9_drift 29 = .ok (.getfield 13, 3) := by decide +kernel
theorem dX9_drift_32 : decode cX9_drift 32 = .ok (.aload_n 0, 1) := by decide +kernel
theorem dX9_drift_33 : decode cX9_drift 33 = .ok (.invokevirtual 118, 3) := by decide +kernel
theorem dX9_drift_36 : decode cX9_drift 36 = .ok (.iaload, 1) := by decide +kernel
theorem dX9_drift_37 : decode cX9_drift 37 = .ok (.iadd, 1) := by decide +kernel
theorem dX9_drift_38 : decode cX9_drift 38 = .ok (.putfield 102, 3) := by decide +kernel
theorem dX9_drift_41 : decode cX9_drift 41 = .ok (.aload_n 0, 1) := by decide +kernel
theorem dX9_drift_42 : decode cX9_drift 42 = .ok (.aload_n 0, 1) := by decide +kernel
theorem dX9_drift_43 : decode cX9_drift 43 = .ok (.getfield 108, 3) := by decide +kernel
theorem dX9_drift_46 : decode cX9_drift 46 = .ok (.aload_n 0, 1) := by decide +kernel
theorem dX9_drift_47 : decode cX9_drift 47 = .ok (.getfield 57, 3) := by decide +kernel
theorem dX9_drift_50 : decode cX9_drift 50 = .ok (.if_icmp .le 15, 3) := by decide +kernel
theorem dX9_drift_53 : decode cX9_drift 53 = .ok (.aload_n 0, 1) := by decide +kernel
theorem dX9_drift_54 : decode cX9_drift 54 = .ok (.getfield 108, 3) := by decide +kernel
theorem dX9_drift_57 : decode cX9_drift 57 = .ok (.aload_n 0, 1) := by decide +kernel
theorem dX9_drift_58 : decode cX9_drift 58 = .ok (.getfield 57, 3) := by decide +kernel
theorem dX9_drift_61 : decode cX9_drift 61 = .ok (.isub, 1) := by decide +kernel
theorem dX9_drift_62 : decode cX9_drift 62 = .ok (.goto 4, 3) := by decide +kernel
theorem dX9_drift_65 : decode cX9_drift 65 = .ok (.iconst 0, 1) := by decide +kernel
theorem dX9_drift_66 : decode cX9_drift 66 = .ok (.putfield 108, 3) := by decide +kernel
theorem dX9_drift_69 : decode cX9_drift 69 = .ok (.aload_n 0, 1) := by decide +kernel
theorem dX9_drift_70 : decode cX9_drift 70 = .ok (.dup, 1) := by decide +kernel
theorem dX9_drift_71 : decode cX9_drift 71 = .ok (.getfield 105, 3) := by decide +kernel
theorem dX9_drift_74 : decode cX9_drift 74 = .ok (.iconst 1, 1) := by decide +kernel
theorem dX9_drift_75 : decode cX9_drift 75 = .ok (.iadd, 1) := by decide +kernel
theorem dX9_drift_76 : decode cX9_drift 76 = .ok (.putfield 105, 3) := by decide +kernel
theorem dX9_drift_79 : decode cX9_drift 79 = .ok (.return_, 1) := by decide +kernel
theorem dX9_heaviest_0 : decode cX9_heaviest 0 = .ok (.bipush (-6), 2) := by decide +kernel
theorem dX9_heaviest_2 : decode cX9_heaviest 2 = .ok (.istore_n 1, 1) := by decide +kernel
theorem dX9_heaviest_3 : decode cX9_heaviest 3 = .ok (.iconst 0, 1) := by decide +kernel
theorem dX9_heaviest_4 : decode cX9_heaviest 4 = .ok (.istore_n 2, 1) := by decide +kernel
theorem dX9_heaviest_5 : decode cX9_heaviest 5 = .ok (.iload_n 2, 1) := by decide +kernel
theorem dX9_heaviest_6 : decode cX9_heaviest 6 = .ok (.bipush 6, 2) := by decide +kernel
theorem dX9_heaviest_8 : decode cX9_heaviest 8 = .ok (.if_icmp .ge 56, 3) := by decide +kernel
theorem dX9_heaviest_11 : decode cX9_heaviest 11 = .ok (.aload_n 0, 1) := by decide +kernel
theorem dX9_heaviest_12 : decode cX9_heaviest 12 = .ok (.getfield 111, 3) := by decide +kernel
theorem dX9_heaviest_15 : decode cX9_heaviest 15 = .ok (.iload_n 2, 1) := by decide +kernel
theorem dX9_heaviest_16 : decode cX9_heaviest 16 = .ok (.ishr, 1) := by decide +kernel
theorem dX9_heaviest_17 : decode cX9_heaviest 17 = .ok (.iconst 1, 1) := by decide +kernel
theorem dX9_heaviest_18 : decode cX9_heaviest 18 = .ok (.iand, 1) := by decide +kernel
theorem dX9_heaviest_19 : decode cX9_heaviest 19 = .ok (.iconst 1, 1) := by decide +kernel
theorem dX9_heaviest_20 : decode cX9_heaviest 20 = .ok (.if_icmp .ne 26, 3) := by decide +kernel
theorem dX9_heaviest_23 : decode cX9_heaviest 23 = .ok (.iload_n 1, 1) := by decide +kernel
theorem dX9_heaviest_24 : decode cX9_heaviest 24 = .ok (.ifCond .lt 18, 3) := by decide +kernel
theorem dX9_heaviest_27 : decode cX9_heaviest 27 = .ok (.aload_n 0, 1) := by decide +kernel
theorem dX9_heaviest_28 : decode cX9_heaviest 28 = .ok (.getfield 16, 3) := by decide +kernel
theorem dX9_heaviest_31 : decode cX9_heaviest 31 = .ok (.iload_n 2, 1) := by decide +kernel
theorem dX9_heaviest_32 : decode cX9_heaviest 32 = .ok (.iaload, 1) := by decide +kernel
theorem dX9_heaviest_33 : decode cX9_heaviest 33 = .ok (.aload_n 0, 1) := by decide +kernel
theorem dX9_heaviest_34 : decode cX9_heaviest 34 = .ok (.getfield 16, 3) := by decide +kernel
theorem dX9_heaviest_37 : decode cX9_heaviest 37 = .ok (.iload_n 1, 1) := by decide +kernel
theorem dX9_heaviest_38 : decode cX9_heaviest 38 = .ok (.iaload, 1) := by decide +kernel
theorem dX9_heaviest_39 : decode cX9_heaviest 39 = .ok (.if_icmp .le 7, 3) := by decide +kernel
theorem dX9_heaviest_42 : decode cX9_heaviest 42 = .ok (.iconst 1, 1) := by decide +kernel
theorem dX9_heaviest_43 : decode cX9_heaviest 43 = .ok (.goto 4, 3) := by decide +kernel
theorem dX9_heaviest_46 : decode cX9_heaviest 46 = .ok (.iconst 0, 1) := by decide +kernel
theorem dX9_heaviest_47 : decode cX9_heaviest 47 = .ok (.istore_n 3, 1) := by decide +kernel
theorem dX9_heaviest_48 : decode cX9_heaviest 48 = .ok (.iload_n 3, 1) := by decide +kernel
theorem dX9_heaviest_49 : decode cX9_heaviest 49 = .ok (.ifCond .eq 7, 3) := by decide +kernel
theorem dX9_heaviest_52 : decode cX9_heaviest 52 = .ok (.iload_n 2, 1) := by decide +kernel
theorem dX9_heaviest_53 : decode cX9_heaviest 53 = .ok (.goto 4, 3) := by decide +kernel
theorem dX9_heaviest_56 : decode cX9_heaviest 56 = .ok (.iload_n 1, 1) := by decide +kernel
theorem dX9_heaviest_57 : decode cX9_heaviest 57 = .ok (.istore_n 1, 1) := by decide +kernel
theorem dX9_heaviest_58 : decode cX9_heaviest 58 = .ok (.iinc 2 1, 3) := by decide +kernel
theorem dX9_heaviest_61 : decode cX9_heaviest 61 = .ok (.goto (-56), 3) := by decide +kernel
theorem dX9_heaviest_64 : decode cX9_heaviest 64 = .ok (.iload_n 1, 1) := by decide +kernel
theorem dX9_heaviest_65 : decode cX9_heaviest 65 = .ok (.ireturn, 1) := by decide +kernel
theorem dX9_throwOut_0 : decode cX9_throwOut 0 = .ok (.aload_n 0, 1) := by decide +kernel
theorem dX9_throwOut_1 : decode cX9_throwOut 1 = .ok (.dup, 1) := by decide +kernel
theorem dX9_throwOut_2 : decode cX9_throwOut 2 = .ok (.getfield 111, 3) := by decide +kernel
theorem dX9_throwOut_5 : decode cX9_throwOut 5 = .ok (.iload_n 1, 1) := by decide +kernel
theorem dX9_throwOut_6 : decode cX9_throwOut 6 = .ok (.ifCond .ge 7, 3) := by decide +kernel
theorem dX9_throwOut_9 : decode cX9_throwOut 9 = .ok (.iconst (-1), 1) := by decide +kernel
theorem dX9_throwOut_10 : decode cX9_throwOut 10 = .ok (.goto 8, 3) := by decide +kernel
theorem dX9_throwOut_13 : decode cX9_throwOut 13 = .ok (.iconst 1, 1) := by decide +kernel
theorem dX9_throwOut_14 : decode cX9_throwOut 14 = .ok (.iload_n 1, 1) := by decide +kernel
theorem dX9_throwOut_15 : decode cX9_throwOut 15 = .ok (.ishl, 1) := by decide +kernel
theorem dX9_throwOut_16 : decode cX9_throwOut 16 = .ok (.iconst (-1), 1) := by decide +kernel
theorem dX9_throwOut_17 : decode cX9_throwOut 17 = .ok (.ixor, 1) := by decide +kernel
theorem dX9_throwOut_18 : decode cX9_throwOut 18 = .ok (.iand, 1) := by decide +kernel
theorem dX9_throwOut_19 : decode cX9_throwOut 19 = .ok (.putfield 111, 3) := by decide +kernel
theorem dX9_throwOut_22 : decode cX9_throwOut 22 = .ok (.return_, 1) := by decide +kernel
theorem dX9_countOf_0 : decode cX9_countOf 0 = .ok (.iconst 0, 1) := by decide +kernel
theorem dX9_countOf_1 : decode cX9_countOf 1 = .ok (.istore_n 2, 1) := by decide +kernel
theorem dX9_countOf_2 : decode cX9_countOf 2 = .ok (.iconst 0, 1) := by decide +kernel
theorem dX9_countOf_3 : decode cX9_countOf 3 = .ok (.istore_n 3, 1) := by decide +kernel
theorem dX9_countOf_4 : decode cX9_countOf 4 = .ok (.iload_n 3, 1) := by decide +kernel
theorem dX9_countOf_5 : decode cX9_countOf 5 = .ok (.aload_n 0, 1) := by decide +kernel
theorem dX9_countOf_6 : decode cX9_countOf 6 = .ok (.getfield 95, 3) := by decide +kernel
theorem dX9_countOf_9 : decode cX9_countOf 9 = .ok (.if_icmp .ge 27, 3) := by decide +kernel
theorem dX9_countOf_12 : decode cX9_countOf 12 = .ok (.iload_n 2, 1) := by decide +kernel
theorem dX9_countOf_13 : decode cX9_countOf 13 = .ok (.aload_n 0, 1) := by decide +kernel
theorem dX9_countOf_14 : decode cX9_countOf 14 = .ok (.getfield 25, 3) := by decide +kernel
theorem dX9_countOf_17 : decode cX9_countOf 17 = .ok (.iload_n 3, 1) := by decide +kernel
theorem dX9_countOf_18 : decode cX9_countOf 18 = .ok (.iaload, 1) := by decide +kernel
theorem dX9_countOf_19 : decode cX9_countOf 19 = .ok (.iload_n 1, 1) := by decide +kernel
theorem dX9_countOf_20 : decode cX9_countOf 20 = .ok (.if_icmp .ne 7, 3) := by decide +kernel
theorem dX9_countOf_23 : decode cX9_countOf 23 = .ok (.iconst 1, 1) := by decide +kernel
theorem dX9_countOf_24 : decode cX9_countOf 24 = .ok (.goto 4, 3) := by decide +kernel
theorem dX9_countOf_27 : decode cX9_countOf 27 = .ok (.iconst 0, 1) := by decide +kernel
theorem dX9_countOf_28 : decode cX9_countOf 28 = .ok (.iadd, 1) := by decide +kernel
theorem dX9_countOf_29 : decode cX9_countOf 29 = .ok (.istore_n 2, 1) := by decide +kernel
theorem dX9_countOf_30 : decode cX9_countOf 30 = .ok (.iinc 3 1, 3) := by decide +kernel
theorem dX9_countOf_33 : decode cX9_countOf 33 = .ok (.goto (-29), 3) := by decide +kernel
theorem dX9_countOf_36 : decode cX9_countOf 36 = .ok (.iload_n 2, 1) := by decide +kernel
theorem dX9_countOf_37 : decode cX9_countOf 37 = .ok (.ireturn, 1) := by decide +kernel
theorem dX9_ones_0 : decode cX9_ones 0 = .ok (.iconst 0, 1) := by decide +kernel
theorem dX9_ones_1 : decode cX9_ones 1 = .ok (.istore_n 2, 1) := by decide +kernel
theorem dX9_ones_2 : decode cX9_ones 2 = .ok (.iload_n 1, 1) := by decide +kernel
theorem dX9_ones_3 : decode cX9_ones 3 = .ok (.istore_n 3, 1) := by decide +kernel
theorem dX9_ones_4 : decode cX9_ones 4 = .ok (.iload_n 3, 1) := by decide +kernel
theorem dX9_ones_5 : decode cX9_ones 5 = .ok (.ifCond .eq 15, 3) := by decide +kernel
theorem dX9_ones_8 : decode cX9_ones 8 = .ok (.iinc 2 1, 3) := by decide +kernel
theorem dX9_ones_11 : decode cX9_ones 11 = .ok (.iload_n 3, 1) := by decide +kernel
theorem dX9_ones_12 : decode cX9_ones 12 = .ok (.iload_n 3, 1) := by decide +kernel
theorem dX9_ones_13 : decode cX9_ones 13 = .ok (.iconst 1, 1) := by decide +kernel
theorem dX9_ones_14 : decode cX9_ones 14 = .ok (.isub, 1) := by decide +kernel
theorem dX9_ones_15 : decode cX9_ones 15 = .ok (.iand, 1) := by decide +kernel
theorem dX9_ones_16 : decode cX9_ones 16 = .ok (.istore_n 3, 1) := by decide +kernel
theorem dX9_ones_17 : decode cX9_ones 17 = .ok (.goto (-13), 3) := by decide +kernel
theorem dX9_ones_20 : decode cX9_ones 20 = .ok (.iload_n 2, 1) := by decide +kernel
theorem dX9_ones_21 : decode cX9_ones 21 = .ok (.ireturn, 1) := by decide +kernel
theorem dX9_happen_0 : decode cX9_happen 0 = .ok (.iload_n 1, 1) := by decide +kernel
theorem dX9_happen_1 : decode cX9_happen 1 = .ok (.bipush 46, 2) := by decide +kernel
theorem dX9_happen_3 : decode cX9_happen 3 = .ok (.if_icmp .ne 10, 3) := by decide +kernel
theorem dX9_happen_6 : decode cX9_happen 6 = .ok (.aload_n 0, 1) := by decide +kernel
theorem dX9_happen_7 : decode cX9_happen 7 = .ok (.invokevirtual 121, 3) := by decide +kernel
theorem dX9_happen_10 : decode cX9_happen 10 = .ok (.goto 17, 3) := by decide +kernel
theorem dX9_happen_13 : decode cX9_happen 13 = .ok (.iload_n 1, 1) := by decide +kernel
theorem dX9_happen_14 : decode cX9_happen 14 = .ok (.bipush 33, 2) := by decide +kernel
theorem dX9_happen_16 : decode cX9_happen 16 = .ok (.if_icmp .eq 11, 3) := by decide +kernel
theorem dX9_happen_19 : decode cX9_happen 19 = .ok (.aload_n 0, 1) := by decide +kernel
theorem dX9_happen_20 : decode cX9_happen 20 = .ok (.iload_n 1, 1) := by decide +kernel
theorem dX9_happen_21 : decode cX9_happen 21 = .ok (.bipush 97, 2) := by decide +kernel
theorem dX9_happen_23 : decode cX9_happen 23 = .ok (.isub, 1) := by decide +kernel
theorem dX9_happen_24 : decode cX9_happen 24 = .ok (.invokevirtual 124, 3) := by decide +kernel
theorem dX9_happen_27 : decode cX9_happen 27 = .ok (.return_, 1) := by decide +kernel
theorem dX9_at_0 : decode cX9_at 0 = .ok (.aload_n 0, 1) := by decide +kernel
theorem dX9_at_1 : decode cX9_at 1 = .ok (.invokevirtual 128, 3) := by decide +kernel
theorem dX9_at_4 : decode cX9_at 4 = .ok (.ifCond .lt 6, 3) := by decide +kernel
theorem dX9_at_7 : decode cX9_at 7 = .ok (.bipush (-5), 2) := by decide +kernel
theorem dX9_at_9 : decode cX9_at 9 = .ok (.ireturn, 1) := by decide +kernel
theorem dX9_at_10 : decode cX9_at 10 = .ok (.iload_n 1, 1) := by decide +kernel
theorem dX9_at_11 : decode cX9_at 11 = .ok (.i2l, 1) := by decide +kernel
theorem dX9_at_12 : decode cX9_at 12 = .ok (.ldc2_w 131, 3) := by decide +kernel
theorem dX9_at_15 : decode cX9_at 15 = .ok (.aload_n 0, 1) := by decide +kernel
theorem dX9_at_16 : decode cX9_at 16 = .ok (.bipush 46, 2) := by decide +kernel
theorem dX9_at_18 : decode cX9_at 18 = .ok (.invokevirtual 133, 3) := by decide +kernel
theorem dX9_at_21 : decode cX9_at 21 = .ok (.i2l, 1) := by decide +kernel
theorem dX9_at_22 : decode cX9_at 22 = .ok (.invokestatic 71, 3) := by decide +kernel
theorem dX9_at_25 : decode cX9_at 25 = .ok (.ifCond .eq 15, 3) := by decide +kernel
theorem dX9_at_28 : decode cX9_at 28 = .ok (.iload_n 2, 1) := by decide +kernel
theorem dX9_at_29 : decode cX9_at 29 = .ok (.i2l, 1) := by decide +kernel
theorem dX9_at_30 : decode cX9_at 30 = .ok (.lconst 0, 1) := by decide +kernel
theorem dX9_at_31 : decode cX9_at 31 = .ok (.ldc2_w 136, 3) := by decide +kernel
theorem dX9_at_34 : decode cX9_at 34 = .ok (.invokestatic 71, 3) := by decide +kernel
theorem dX9_at_37 : decode cX9_at 37 = .ok (.ifCond .ne 6, 3) := by decide +kernel
theorem dX9_at_40 : decode cX9_at 40 = .ok (.bipush (-2), 2) := by decide +kernel
theorem dX9_at_42 : decode cX9_at 42 = .ok (.ireturn, 1) := by decide +kernel
theorem dX9_at_43 : decode cX9_at 43 = .ok (.aload_n 0, 1) := by decide +kernel
theorem dX9_at_44 : decode cX9_at 44 = .ok (.invokevirtual 138, 3) := by decide +kernel
theorem dX9_at_47 : decode cX9_at 47 = .ok (.iconst 0, 1) := by decide +kernel
theorem dX9_at_48 : decode cX9_at 48 = .ok (.istore_n 3, 1) := by decide +kernel
theorem dX9_at_49 : decode cX9_at 49 = .ok (.iload_n 3, 1) := by decide +kernel
theorem dX9_at_50 : decode cX9_at 50 = .ok (.aload_n 0, 1) := by decide +kernel
theorem dX9_at_51 : decode cX9_at 51 = .ok (.getfield 95, 3) := by decide +kernel
theorem dX9_at_54 : decode cX9_at 54 = .ok (.if_icmp .ge 31, 3) := by decide +kernel
theorem dX9_at_57 : decode cX9_at 57 = .ok (.iload_n 1, 1) := by decide +kernel
theorem dX9_at_58 : decode cX9_at 58 = .ok (.ifCond .lt 11, 3) := by decide +kernel
theorem dX9_at_61 : decode cX9_at 61 = .ok (.aload_n 0, 1) := by decide +kernel
theorem dX9_at_62 : decode cX9_at 62 = .ok (.getfield 105, 3) := by decide +kernel
theorem dX9_at_65 : decode cX9_at 65 = .ok (.iload_n 1, 1) := by decide +kernel
theorem dX9_at_66 : decode cX9_at 66 = .ok (.if_icmp .ge 19, 3) := by decide +kernel
theorem dX9_at_69 : decode cX9_at 69 = .ok (.aload_n 0, 1) := by decide +kernel
theorem dX9_at_70 : decode cX9_at 70 = .ok (.aload_n 0, 1) := by decide +kernel
theorem dX9_at_71 : decode cX9_at 71 = .ok (.getfield 25, 3) := by decide +kernel
theorem dX9_at_74 : decode cX9_at 74 = .ok (.iload_n 3, 1) := by decide +kernel
theorem dX9_at_75 : decode cX9_at 75 = .ok (.iaload, 1) := by decide +kernel
theorem dX9_at_76 : decode cX9_at 76 = .ok (.invokevirtual 141, 3) := by decide +kernel
theorem dX9_at_79 : decode cX9_at 79 = .ok (.iinc 3 1, 3) := by decide +kernel
theorem dX9_at_82 : decode cX9_at 82 = .ok (.goto (-33), 3) := by decide +kernel
theorem dX9_at_85 : decode cX9_at 85 = .ok (.iload_n 2, 1) := by decide +kernel
theorem dX9_at_86 : decode cX9_at 86 = .ok (.ifCond .ne 14, 3) := by decide +kernel
theorem dX9_at_89 : decode cX9_at 89 = .ok (.aload_n 0, 1) := by decide +kernel
theorem dX9_at_90 : decode cX9_at 90 = .ok (.getfield 102, 3) := by decide +kernel
theorem dX9_at_93 : decode cX9_at 93 = .ok (.sipush 1000, 3) := by decide +kernel
theorem dX9_at_96 : decode cX9_at 96 = .ok (.iadd, 1) := by decide +kernel
theorem dX9_at_97 : decode cX9_at 97 = .ok (.goto 35, 3) := by decide +kernel
theorem dX9_at_100 : decode cX9_at 100 = .ok (.iload_n 2, 1) := by decide +kernel
theorem dX9_at_101 : decode cX9_at 101 = .ok (.iconst 1, 1) := by decide +kernel
theorem dX9_at_102 : decode cX9_at 102 = .ok (.if_icmp .ne 10, 3) := by decide +kernel
theorem dX9_at_105 : decode cX9_at 105 = .ok (.aload_n 0, 1) := by decide +kernel
theorem dX9_at_106 : decode cX9_at 106 = .ok (.invokevirtual 118, 3) := by decide +kernel
theorem dX9_at_109 : decode cX9_at 109 = .ok (.goto 23, 3) := by decide +kernel
theorem dX9_at_112 : decode cX9_at 112 = .ok (.iload_n 2, 1) := by decide +kernel
theorem dX9_at_113 : decode cX9_at 113 = .ok (.iconst 2, 1) := by decide +kernel
theorem dX9_at_114 : decode cX9_at 114 = .ok (.if_icmp .ne 10, 3) := by decide +kernel
theorem dX9_at_117 : decode cX9_at 117 = .ok (.aload_n 0, 1) := by decide +kernel
theorem dX9_at_118 : decode cX9_at 118 = .ok (.getfield 108, 3) := by decide +kernel
theorem dX9_at_121 : decode cX9_at 121 = .ok (.goto 11, 3) := by decide +kernel
theorem dX9_at_124 : decode cX9_at 124 = .ok (.aload_n 0, 1) := by decide +kernel
theorem dX9_at_125 : decode cX9_at 125 = .ok (.aload_n 0, 1) := by decide +kernel
theorem dX9_at_126 : decode cX9_at 126 = .ok (.getfield 111, 3) := by decide +kernel
theorem dX9_at_129 : decode cX9_at 129 = .ok (.invokevirtual 144, 3) := by decide +kernel
theorem dX9_at_132 : decode cX9_at 132 = .ok (.ireturn, 1) := by decide +kernel
theorem dX9_fines_0 : decode cX9_fines 0 = .ok (.iconst 0, 1) := by decide +kernel
theorem dX9_fines_1 : decode cX9_fines 1 = .ok (.istore_n 1, 1) := by decide +kernel
theorem dX9_fines_2 : decode cX9_fines 2 = .ok (.iconst 0, 1) := by decide +kernel
theorem dX9_fines_3 : decode cX9_fines 3 = .ok (.istore_n 2, 1) := by decide +kernel
theorem dX9_fines_4 : decode cX9_fines 4 = .ok (.iload_n 2, 1) := by decide +kernel
theorem dX9_fines_5 : decode cX9_fines 5 = .ok (.aload_n 0, 1) := by decide +kernel
theorem dX9_fines_6 : decode cX9_fines 6 = .ok (.getfield 95, 3) := by decide +kernel
theorem dX9_fines_9 : decode cX9_fines 9 = .ok (.if_icmp .ge 51, 3) := by decide +kernel
theorem dX9_fines_12 : decode cX9_fines 12 = .ok (.aload_n 0, 1) := by decide +kernel
theorem dX9_fines_13 : decode cX9_fines 13 = .ok (.getfield 25, 3) := by decide +kernel
theorem dX9_fines_16 : decode cX9_fines 16 = .ok (.iload_n 2, 1) := by decide +kernel
theorem dX9_fines_17 : decode cX9_fines 17 = .ok (.iaload, 1) := by decide +kernel
theorem dX9_fines_18 : decode cX9_fines 18 = .ok (.bipush 97, 2) := by decide +kernel
theorem dX9_fines_20 : decode cX9_fines 20 = .ok (.isub, 1) := by decide +kernel
theorem dX9_fines_21 : decode cX9_fines 21 = .ok (.invokestatic 85, 3) := by decide +kernel
theorem dX9_fines_24 : decode cX9_fines 24 = .ok (.istore_n 3, 1) := by decide +kernel
theorem dX9_fines_25 : decode cX9_fines 25 = .ok (.iload_n 1, 1) := by decide +kernel
theorem dX9_fines_26 : decode cX9_fines 26 = .ok (.iload_n 3, 1) := by decide +kernel
theorem dX9_fines_27 : decode cX9_fines 27 = .ok (.ifCond .eq 24, 3) := by decide +kernel
theorem dX9_fines_30 : decode cX9_fines 30 = .ok (.iload_n 2, 1) := by decide +kernel
theorem dX9_fines_31 : decode cX9_fines 31 = .ok (.ifCond .eq 16, 3) := by decide +kernel
theorem dX9_fines_34 : decode cX9_fines 34 = .ok (.aload_n 0, 1) := by decide +kernel
theorem dX9_fines_35 : decode cX9_fines 35 = .ok (.getfield 25, 3) := by decide +kernel
theorem dX9_fines_38 : decode cX9_fines 38 = .ok (.iload_n 2, 1) := by decide +kernel
theorem dX9_fines_39 : decode cX9_fines 39 = .ok (.iconst 1, 1) := by decide +kernel
theorem dX9_fines_40 : decode cX9_fines 40 = .ok (.isub, 1) := by decide +kernel
theorem dX9_fines_41 : decode cX9_fines 41 = .ok (.iaload, 1) := by decide +kernel
theorem dX9_fines_42 : decode cX9_fines 42 = .ok (.bipush 33, 2) := by decide +kernel
theorem dX9_fines_44 : decode cX9_fines 44 = .ok (.if_icmp .eq 7, 3) := by decide +kernel
theorem dX9_fines_47 : decode cX9_fines 47 = .ok (.iconst 1, 1) := by decide +kernel
theorem dX9_fines_48 : decode cX9_fines 48 = .ok (.goto 4, 3) := by decide +kernel
theorem dX9_fines_51 : decode cX9_fines 51 = .ok (.iconst 0, 1) := by decide +kernel
theorem dX9_fines_52 : decode cX9_fines 52 = .ok (.iadd, 1) := by decide +kernel
theorem dX9_fines_53 : decode cX9_fines 53 = .ok (.istore_n 1, 1) := by decide +kernel
theorem dX9_fines_54 : decode cX9_fines 54 = .ok (.iinc 2 1, 3) := by decide +kernel
theorem dX9_fines_57 : decode cX9_fines 57 = .ok (.goto (-53), 3) := by decide +kernel
theorem dX9_fines_60 : decode cX9_fines 60 = .ok (.iload_n 1, 1) := by decide +kernel
theorem dX9_fines_61 : decode cX9_fines 61 = .ok (.ireturn, 1) := by decide +kernel
theorem dX9_findSneezes_0 : decode cX9_findSneezes 0 = .ok (.iconst 0, 1) := by decide +kernel
theorem dX9_findSneezes_1 : decode cX9_findSneezes 1 = .ok (.istore_n 1, 1) := by decide +kernel
theorem dX9_findSneezes_2 : decode cX9_findSneezes 2 = .ok (.iconst 0, 1) := by decide +kernel
theorem dX9_findSneezes_3 : decode cX9_findSneezes 3 = .ok (.istore_n 2, 1) := by decide +kernel
theorem dX9_findSneezes_4 : decode cX9_findSneezes 4 = .ok (.iload_n 2, 1) := by decide +kernel
theorem dX9_findSneezes_5 : decode cX9_findSneezes 5 = .ok (.bipush 61, 2) := by decide +kernel
theorem dX9_findSneezes_7 : decode cX9_findSneezes 7 = .ok (.if_icmp .ge 16, 3) := by decide +kernel
theorem dX9_findSneezes_10 : decode cX9_findSneezes 10 = .ok (.aload_n 0, 1) := by decide +kernel
theorem dX9_findSneezes_11 : decode cX9_findSneezes 11 = .ok (.getfield 28, 3) := by decide +kernel
theorem dX9_findSneezes_14 : decode cX9_findSneezes 14 = .ok (.iload_n 2, 1) := by decide +kernel
theorem dX9_findSneezes_15 : decode cX9_findSneezes 15 = .ok (.iconst 0, 1) := by decide +kernel
theorem dX9_findSneezes_16 : decode cX9_findSneezes 16 = .ok (.iastore, 1) := by decide +kernel
theorem dX9_findSneezes_17 : decode cX9_findSneezes 17 = .ok (.iinc 2 1, 3) := by decide +kernel
theorem dX9_findSneezes_20 : decode cX9_findSneezes 20 = .ok (.goto (-16), 3) := by decide +kernel
theorem dX9_findSneezes_23 : decode cX9_findSneezes 23 = .ok (.iconst 0, 1) := by decide +kernel
theorem dX9_findSneezes_24 : decode cX9_findSneezes 24 = .ok (.istore_n 2, 1) := by decide +kernel
theorem dX9_findSneezes_25 : decode cX9_findSneezes 25 = .ok (.iload_n 2, 1) := by decide +kernel
theorem dX9_findSneezes_26 : decode cX9_findSneezes 26 = .ok (.aload_n 0, 1) := by decide +kernel
theorem dX9_findSneezes_27 : decode cX9_findSneezes 27 = .ok (.getfield 95, 3) := by decide +kernel
theorem dX9_findSneezes_30 : decode cX9_findSneezes 30 = .ok (.if_icmp .ge 53, 3) := by decide +kernel
theorem dX9_findSneezes_33 : decode cX9_findSneezes 33 = .ok (.aload_n 0, 1) := by decide +kernel
theorem dX9_findSneezes_34 : decode cX9_findSneezes 34 = .ok (.getfield 28, 3) := by decide +kernel
theorem dX9_findSneezes_37 : decode cX9_findSneezes 37 = .ok (.iload_n 1, 1) := by decide +kernel
theorem dX9_findSneezes_38 : decode cX9_findSneezes 38 = .ok (.dup2, 1) := by decide +kernel
theorem dX9_findSneezes_39 : decode cX9_findSneezes 39 = .ok (.iaload, 1) := by decide +kernel
theorem dX9_findSneezes_40 : decode cX9_findSneezes 40 = .ok (.aload_n 0, 1) := by decide +kernel
theorem dX9_findSneezes_41 : decode cX9_findSneezes 41 = .ok (.getfield 25, 3) := by decide +kernel
theorem dX9_findSneezes_44 : decode cX9_findSneezes 44 = .ok (.iload_n 2, 1) := by decide +kernel
theorem dX9_findSneezes_45 : decode cX9_findSneezes 45 = .ok (.iaload, 1) := by decide +kernel
theorem dX9_findSneezes_46 : decode cX9_findSneezes 46 = .ok (.bipush 33, 2) := by decide +kernel
theorem dX9_findSneezes_48 : decode cX9_findSneezes 48 = .ok (.if_icmp .ne 7, 3) := by decide +kernel
theorem dX9_findSneezes_51 : decode cX9_findSneezes 51 = .ok (.iconst 1, 1) := by decide +kernel
theorem dX9_findSneezes_52 : decode cX9_findSneezes 52 = .ok (.goto 4, 3) := by decide +kernel
theorem dX9_findSneezes_55 : decode cX9_findSneezes 55 = .ok (.iconst 0, 1) := by decide +kernel
theorem dX9_findSneezes_56 : decode cX9_findSneezes 56 = .ok (.iadd, 1) := by decide +kernel
theorem dX9_findSneezes_57 : decode cX9_findSneezes 57 = .ok (.iastore, 1) := by decide +kernel
theorem dX9_findSneezes_58 : decode cX9_findSneezes 58 = .ok (.iload_n 1, 1) := by decide +kernel
theorem dX9_findSneezes_59 : decode cX9_findSneezes 59 = .ok (.aload_n 0, 1) := by decide +kernel
theorem dX9_findSneezes_60 : decode cX9_findSneezes 60 = .ok (.getfield 25, 3) := by decide +kernel
theorem dX9_findSneezes_63 : decode cX9_findSneezes 63 = .ok (.iload_n 2, 1) := by decide +kernel
theorem dX9_findSneezes_64 : decode cX9_findSneezes 64 = .ok (.iaload, 1) := by decide +kernel
theorem dX9_findSneezes_65 : decode cX9_findSneezes 65 = .ok (.bipush 46, 2) := by decide +kernel
theorem dX9_findSneezes_67 : decode cX9_findSneezes 67 = .ok (.if_icmp .ne 7, 3) := by decide +kernel
theorem dX9_findSneezes_70 : decode cX9_findSneezes 70 = .ok (.iconst 1, 1) := by decide +kernel
theorem dX9_findSneezes_71 : decode cX9_findSneezes 71 = .ok (.goto 4, 3) := by decide +kernel
theorem dX9_findSneezes_74 : decode cX9_findSneezes 74 = .ok (.iconst 0, 1) := by decide +kernel
theorem dX9_findSneezes_75 : decode cX9_findSneezes 75 = .ok (.iadd, 1) := by decide +kernel
theorem dX9_findSneezes_76 : decode cX9_findSneezes 76 = .ok (.istore_n 1, 1) := by decide +kernel
theorem dX9_findSneezes_77 : decode cX9_findSneezes 77 = .ok (.iinc 2 1, 3) := by decide +kernel
theorem dX9_findSneezes_80 : decode cX9_findSneezes 80 = .ok (.goto (-55), 3) := by decide +kernel
theorem dX9_findSneezes_83 : decode cX9_findSneezes 83 = .ok (.return_, 1) := by decide +kernel
theorem dX9_within_0 : decode cX9_within 0 = .ok (.iconst 0, 1) := by decide +kernel
theorem dX9_within_1 : decode cX9_within 1 = .ok (.istore_n 2, 1) := by decide +kernel
theorem dX9_within_2 : decode cX9_within 2 = .ok (.iload_n 1, 1) := by decide +kernel
theorem dX9_within_3 : decode cX9_within 3 = .ok (.istore_n 3, 1) := by decide +kernel
theorem dX9_within_4 : decode cX9_within 4 = .ok (.iload_n 3, 1) := by decide +kernel
theorem dX9_within_5 : decode cX9_within 5 = .ok (.ifCond .lt 28, 3) := by decide +kernel
theorem dX9_within_8 : decode cX9_within 8 = .ok (.iload_n 3, 1) := by decide +kernel
theorem dX9_within_9 : decode cX9_within 9 = .ok (.iload_n 1, 1) := by decide +kernel
theorem dX9_within_10 : decode cX9_within 10 = .ok (.aload_n 0, 1) := by decide +kernel
theorem dX9_within_11 : decode cX9_within 11 = .ok (.getfield 66, 3) := by decide +kernel
theorem dX9_within_14 : decode cX9_within 14 = .ok (.isub, 1) := by decide +kernel
theorem dX9_within_15 : decode cX9_within 15 = .ok (.if_icmp .le 18, 3) := by decide +kernel
theorem dX9_within_18 : decode cX9_within 18 = .ok (.iload_n 2, 1) := by decide +kernel
theorem dX9_within_19 : decode cX9_within 19 = .ok (.aload_n 0, 1) := by decide +kernel
theorem dX9_within_20 : decode cX9_within 20 = .ok (.getfield 28, 3) := by decide +kernel
theorem dX9_within_23 : decode cX9_within 23 = .ok (.iload_n 3, 1) := by decide +kernel
theorem dX9_within_24 : decode cX9_within 24 = .ok (.iaload, 1) := by decide +kernel
theorem dX9_within_25 : decode cX9_within 25 = .ok (.iadd, 1) := by decide +kernel
theorem dX9_within_26 : decode cX9_within 26 = .ok (.istore_n 2, 1) := by decide +kernel
theorem dX9_within_27 : decode cX9_within 27 = .ok (.iinc 3 (-1), 3) := by decide +kernel
theorem dX9_within_30 : decode cX9_within 30 = .ok (.goto (-26), 3) := by decide +kernel
theorem dX9_within_33 : decode cX9_within 33 = .ok (.iload_n 2, 1) := by decide +kernel
theorem dX9_within_34 : decode cX9_within 34 = .ok (.ireturn, 1) := by decide +kernel
theorem dX9_doubted_0 : decode cX9_doubted 0 = .ok (.aload_n 0, 1) := by decide +kernel
theorem dX9_doubted_1 : decode cX9_doubted 1 = .ok (.invokevirtual 147, 3) := by decide +kernel
theorem dX9_doubted_4 : decode cX9_doubted 4 = .ok (.iconst 0, 1) := by decide +kernel
theorem dX9_doubted_5 : decode cX9_doubted 5 = .ok (.istore_n 1, 1) := by decide +kernel
theorem dX9_doubted_6 : decode cX9_doubted 6 = .ok (.iconst 0, 1) := by decide +kernel
theorem dX9_doubted_7 : decode cX9_doubted 7 = .ok (.istore_n 2, 1) := by decide +kernel
theorem dX9_doubted_8 : decode cX9_doubted 8 = .ok (.iload_n 2, 1) := by decide +kernel
theorem dX9_doubted_9 : decode cX9_doubted 9 = .ok (.bipush 61, 2) := by decide +kernel
theorem dX9_doubted_11 : decode cX9_doubted 11 = .ok (.if_icmp .ge 60, 3) := by decide +kernel
theorem dX9_doubted_14 : decode cX9_doubted 14 = .ok (.aload_n 0, 1) := by decide +kernel
theorem dX9_doubted_15 : decode cX9_doubted 15 = .ok (.iload_n 2, 1) := by decide +kernel
theorem dX9_doubted_16 : decode cX9_doubted 16 = .ok (.invokevirtual 150, 3) := by decide +kernel
theorem dX9_doubted_19 : decode cX9_doubted 19 = .ok (.aload_n 0, 1) := by decide +kernel
theorem dX9_doubted_20 : decode cX9_doubted 20 = .ok (.getfield 28, 3) := by decide +kernel
theorem dX9_doubted_23 : decode cX9_doubted 23 = .ok (.iload_n 2, 1) := by decide +kernel
theorem dX9_doubted_24 : decode cX9_doubted 24 = .ok (.iaload, 1) := by decide +kernel
theorem dX9_doubted_25 : decode cX9_doubted 25 = .ok (.isub, 1) := by decide +kernel
theorem dX9_doubted_26 : decode cX9_doubted 26 = .ok (.istore_n 3, 1) := by decide +kernel
theorem dX9_doubted_27 : decode cX9_doubted 27 = .ok (.iconst 0, 1) := by decide +kernel
theorem dX9_doubted_28 : decode cX9_doubted 28 = .ok (.istore 4, 2) := by decide +kernel
theorem dX9_doubted_30 : decode cX9_doubted 30 = .ok (.iload 4, 2) := by decide +kernel
theorem dX9_doubted_32 : decode cX9_doubted 32 = .ok (.aload_n 0, 1) := by decide +kernel
theorem dX9_doubted_33 : decode cX9_doubted 33 = .ok (.getfield 28, 3) := by decide +kernel
theorem dX9_doubted_36 : decode cX9_doubted 36 = .ok (.iload_n 2, 1) := by decide +kernel
theorem dX9_doubted_37 : decode cX9_doubted 37 = .ok (.iaload, 1) := by decide +kernel
theorem dX9_doubted_38 : decode cX9_doubted 38 = .ok (.if_icmp .ge 27, 3) := by decide +kernel
theorem dX9_doubted_41 : decode cX9_doubted 41 = .ok (.iload_n 3, 1) := by decide +kernel
theorem dX9_doubted_42 : decode cX9_doubted 42 = .ok (.iload 4, 2) := by decide +kernel
theorem dX9_doubted_44 : decode cX9_doubted 44 = .ok (.iadd, 1) := by decide +kernel
theorem dX9_doubted_45 : decode cX9_doubted 45 = .ok (.iconst 1, 1) := by decide +kernel
theorem dX9_doubted_46 : decode cX9_doubted 46 = .ok (.iadd, 1) := by decide +kernel
theorem dX9_doubted_47 : decode cX9_doubted 47 = .ok (.aload_n 0, 1) := by decide +kernel
theorem dX9_doubted_48 : decode cX9_doubted 48 = .ok (.getfield 63, 3) := by decide +kernel
theorem dX9_doubted_51 : decode cX9_doubted 51 = .ok (.if_icmp .le 5, 3) := by decide +kernel
theorem dX9_doubted_54 : decode cX9_doubted 54 = .ok (.iload_n 1, 1) := by decide +kernel
theorem dX9_doubted_55 : decode cX9_doubted 55 = .ok (.ireturn, 1) := by decide +kernel
theorem dX9_doubted_56 : decode cX9_doubted 56 = .ok (.iinc 1 1, 3) := by decide +kernel
theorem dX9_doubted_59 : decode cX9_doubted 59 = .ok (.iinc 4 1, 3) := by decide +kernel
theorem dX9_doubted_62 : decode cX9_doubted 62 = .ok (.goto (-32), 3) := by decide +kernel
theorem dX9_doubted_65 : decode cX9_doubted 65 = .ok (.iinc 2 1, 3) := by decide +kernel
theorem dX9_doubted_68 : decode cX9_doubted 68 = .ok (.goto (-60), 3) := by decide +kernel
theorem dX9_doubted_71 : decode cX9_doubted 71 = .ok (.bipush (-6), 2) := by decide +kernel
theorem dX9_doubted_73 : decode cX9_doubted 73 = .ok (.ireturn, 1) := by decide +kernel
theorem dX9_judge_0 : decode cX9_judge 0 = .ok (.aload_n 0, 1) := by decide +kernel
theorem dX9_judge_1 : decode cX9_judge 1 = .ok (.invokevirtual 128, 3) := by decide +kernel
theorem dX9_judge_4 : decode cX9_judge 4 = .ok (.ifCond .lt 6, 3) := by decide +kernel
theorem dX9_judge_7 : decode cX9_judge 7 = .ok (.bipush (-5), 2) := by decide +kernel
theorem dX9_judge_9 : decode cX9_judge 9 = .ok (.ireturn, 1) := by decide +kernel
theorem dX9_judge_10 : decode cX9_judge 10 = .ok (.iload_n 1, 1) := by decide +kernel
theorem dX9_judge_11 : decode cX9_judge 11 = .ok (.tableswitch 53 0 3 #[29, 34, 41, 48], 29) := by decide +kernel
theorem dX9_judge_40 : decode cX9_judge 40 = .ok (.aload_n 0, 1) := by decide +kernel
theorem dX9_judge_41 : decode cX9_judge 41 = .ok (.invokevirtual 153, 3) := by decide +kernel
theorem dX9_judge_44 : decode cX9_judge 44 = .ok (.ireturn, 1) := by decide +kernel
theorem dX9_judge_45 : decode cX9_judge 45 = .ok (.aload_n 0, 1) := by decide +kernel
theorem dX9_judge_46 : decode cX9_judge 46 = .ok (.bipush 46, 2) := by decide +kernel
theorem dX9_judge_48 : decode cX9_judge 48 = .ok (.invokevirtual 133, 3) := by decide +kernel
theorem dX9_judge_51 : decode cX9_judge 51 = .ok (.ireturn, 1) := by decide +kernel
theorem dX9_judge_52 : decode cX9_judge 52 = .ok (.aload_n 0, 1) := by decide +kernel
theorem dX9_judge_53 : decode cX9_judge 53 = .ok (.bipush 33, 2) := by decide +kernel
theorem dX9_judge_55 : decode cX9_judge 55 = .ok (.invokevirtual 133, 3) := by decide +kernel
theorem dX9_judge_58 : decode cX9_judge 58 = .ok (.ireturn, 1) := by decide +kernel
theorem dX9_judge_59 : decode cX9_judge 59 = .ok (.aload_n 0, 1) := by decide +kernel
theorem dX9_judge_60 : decode cX9_judge 60 = .ok (.invokevirtual 156, 3) := by decide +kernel
theorem dX9_judge_63 : decode cX9_judge 63 = .ok (.ireturn, 1) := by decide +kernel
theorem dX9_judge_64 : decode cX9_judge 64 = .ok (.bipush (-2), 2) := by decide +kernel
theorem dX9_judge_66 : decode cX9_judge 66 = .ok (.ireturn, 1) := by decide +kernel
theorem dX9_isDoubted_0 : decode cX9_isDoubted 0 = .ok (.iconst 0, 1) := by decide +kernel
theorem dX9_isDoubted_1 : decode cX9_isDoubted 1 = .ok (.istore_n 1, 1) := by decide +kernel
theorem dX9_isDoubted_2 : decode cX9_isDoubted 2 = .ok (.iconst 0, 1) := by decide +kernel
theorem dX9_isDoubted_3 : decode cX9_isDoubted 3 = .ok (.istore_n 2, 1) := by decide +kernel
theorem dX9_isDoubted_4 : decode cX9_isDoubted 4 = .ok (.iload_n 2, 1) := by decide +kernel
theorem dX9_isDoubted_5 : decode cX9_isDoubted 5 = .ok (.bipush 61, 2) := by decide +kernel
theorem dX9_isDoubted_7 : decode cX9_isDoubted 7 = .ok (.if_icmp .ge 40, 3) := by decide +kernel
theorem dX9_isDoubted_10 : decode cX9_isDoubted 10 = .ok (.iload_n 1, 1) := by decide +kernel
theorem dX9_isDoubted_11 : decode cX9_isDoubted 11 = .ok (.ifCond .ne 24, 3) := by decide +kernel
theorem dX9_isDoubted_14 : decode cX9_isDoubted 14 = .ok (.aload_n 0, 1) := by decide +kernel
theorem dX9_isDoubted_15 : decode cX9_isDoubted 15 = .ok (.getfield 28, 3) := by decide +kernel
theorem dX9_isDoubted_18 : decode cX9_isDoubted 18 = .ok (.iload_n 2, 1) := by decide +kernel
theorem dX9_isDoubted_19 : decode cX9_isDoubted 19 = .ok (.iaload, 1) := by decide +kernel
theorem dX9_isDoubted_20 : decode cX9_isDoubted 20 = .ok (.ifCond .le 19, 3) := by decide +kernel
theorem dX9_isDoubted_23 : decode cX9_isDoubted 23 = .ok (.aload_n 0, 1) := by decide +kernel
theorem dX9_isDoubted_24 : decode cX9_isDoubted 24 = .ok (.iload_n 2, 1) := by decide +kernel
theorem dX9_isDoubted_25 : decode cX9_isDoubted 25 = .ok (.invokevirtual 150, 3) := by decide +kernel
theorem dX9_isDoubted_28 : decode cX9_isDoubted 28 = .ok (.aload_n 0, 1) := by decide +kernel
theorem dX9_isDoubted_29 : decode cX9_isDoubted 29 = .ok (.getfield 63, 3) := by decide +kernel
theorem dX9_isDoubted_32 : decode cX9_isDoubted 32 = .ok (.if_icmp .le 7, 3) := by decide +kernel
theorem dX9_isDoubted_35 : decode cX9_isDoubted 35 = .ok (.iconst 1, 1) := by decide +kernel
theorem dX9_isDoubted_36 : decode cX9_isDoubted 36 = .ok (.goto 4, 3) := by decide +kernel
theorem dX9_isDoubted_39 : decode cX9_isDoubted 39 = .ok (.iconst 0, 1) := by decide +kernel
theorem dX9_isDoubted_40 : decode cX9_isDoubted 40 = .ok (.istore_n 1, 1) := by decide +kernel
theorem dX9_isDoubted_41 : decode cX9_isDoubted 41 = .ok (.iinc 2 1, 3) := by decide +kernel
theorem dX9_isDoubted_44 : decode cX9_isDoubted 44 = .ok (.goto (-40), 3) := by decide +kernel
theorem dX9_isDoubted_47 : decode cX9_isDoubted 47 = .ok (.iload_n 1, 1) := by decide +kernel
theorem dX9_isDoubted_48 : decode cX9_isDoubted 48 = .ok (.ireturn, 1) := by decide +kernel
theorem dX9_pepper_0 : decode cX9_pepper 0 = .ok (.aload_n 0, 1) := by decide +kernel
theorem dX9_pepper_1 : decode cX9_pepper 1 = .ok (.invokevirtual 128, 3) := by decide +kernel
theorem dX9_pepper_4 : decode cX9_pepper 4 = .ok (.ifCond .lt 6, 3) := by decide +kernel
theorem dX9_pepper_7 : decode cX9_pepper 7 = .ok (.bipush (-5), 2) := by decide +kernel
theorem dX9_pepper_9 : decode cX9_pepper 9 = .ok (.ireturn, 1) := by decide +kernel
theorem dX9_pepper_10 : decode cX9_pepper 10 = .ok (.iload_n 1, 1) := by decide +kernel
theorem dX9_pepper_11 : decode cX9_pepper 11 = .ok (.i2l, 1) := by decide +kernel
theorem dX9_pepper_12 : decode cX9_pepper 12 = .ok (.lconst 0, 1) := by decide +kernel
theorem dX9_pepper_13 : decode cX9_pepper 13 = .ok (.aload_n 0, 1) := by decide +kernel
theorem dX9_pepper_14 : decode cX9_pepper 14 = .ok (.bipush 46, 2) := by decide +kernel
theorem dX9_pepper_16 : decode cX9_pepper 16 = .ok (.invokevirtual 133, 3) := by decide +kernel
theorem dX9_pepper_19 : decode cX9_pepper 19 = .ok (.i2l, 1) := by decide +kernel
theorem dX9_pepper_20 : decode cX9_pepper 20 = .ok (.invokestatic 71, 3) := by decide +kernel
theorem dX9_pepper_23 : decode cX9_pepper 23 = .ok (.ifCond .ne 6, 3) := by decide +kernel
theorem dX9_pepper_26 : decode cX9_pepper 26 = .ok (.bipush (-2), 2) := by decide +kernel
theorem dX9_pepper_28 : decode cX9_pepper 28 = .ok (.ireturn, 1) := by decide +kernel
theorem dX9_pepper_29 : decode cX9_pepper 29 = .ok (.aload_n 0, 1) := by decide +kernel
theorem dX9_pepper_30 : decode cX9_pepper 30 = .ok (.invokevirtual 147, 3) := by decide +kernel
theorem dX9_pepper_33 : decode cX9_pepper 33 = .ok (.bipush (-6), 2) := by decide +kernel
theorem dX9_pepper_35 : decode cX9_pepper 35 = .ok (.istore_n 2, 1) := by decide +kernel
theorem dX9_pepper_36 : decode cX9_pepper 36 = .ok (.iconst 0, 1) := by decide +kernel
theorem dX9_pepper_37 : decode cX9_pepper 37 = .ok (.istore_n 3, 1) := by decide +kernel
theorem dX9_pepper_38 : decode cX9_pepper 38 = .ok (.iload_n 3, 1) := by decide +kernel
theorem dX9_pepper_39 : decode cX9_pepper 39 = .ok (.bipush 12, 2) := by decide +kernel
theorem dX9_pepper_41 : decode cX9_pepper 41 = .ok (.if_icmp .gt 28, 3) := by decide +kernel
theorem dX9_pepper_44 : decode cX9_pepper 44 = .ok (.aload_n 0, 1) := by decide +kernel
theorem dX9_pepper_45 : decode cX9_pepper 45 = .ok (.invokevirtual 159, 3) := by decide +kernel
theorem dX9_pepper_48 : decode cX9_pepper 48 = .ok (.ifCond .ne 21, 3) := by decide +kernel
theorem dX9_pepper_51 : decode cX9_pepper 51 = .ok (.iload_n 3, 1) := by decide +kernel
theorem dX9_pepper_52 : decode cX9_pepper 52 = .ok (.istore_n 2, 1) := by decide +kernel
theorem dX9_pepper_53 : decode cX9_pepper 53 = .ok (.aload_n 0, 1) := by decide +kernel
theorem dX9_pepper_54 : decode cX9_pepper 54 = .ok (.getfield 28, 3) := by decide +kernel
theorem dX9_pepper_57 : decode cX9_pepper 57 = .ok (.iload_n 1, 1) := by decide +kernel
theorem dX9_pepper_58 : decode cX9_pepper 58 = .ok (.dup2, 1) := by decide +kernel
theorem dX9_pepper_59 : decode cX9_pepper 59 = .ok (.iaload, 1) := by decide +kernel
theorem dX9_pepper_60 : decode cX9_pepper 60 = .ok (.iconst 1, 1) := by decide +kernel
theorem dX9_pepper_61 : decode cX9_pepper 61 = .ok (.iadd, 1) := by decide +kernel
theorem dX9_pepper_62 : decode cX9_pepper 62 = .ok (.iastore, 1) := by decide +kernel
theorem dX9_pepper_63 : decode cX9_pepper 63 = .ok (.iinc 3 1, 3) := by decide +kernel
theorem dX9_pepper_66 : decode cX9_pepper 66 = .ok (.goto (-28), 3) := by decide +kernel
theorem dX9_pepper_69 : decode cX9_pepper 69 = .ok (.iload_n 2, 1) := by decide +kernel
theorem dX9_pepper_70 : decode cX9_pepper 70 = .ok (.ireturn, 1) := by decide +kernel
theorem dX9_refusal_0 : decode cX9_refusal 0 = .ok (.aload_n 0, 1) := by decide +kernel
theorem dX9_refusal_1 : decode cX9_refusal 1 = .ok (.invokevirtual 128, 3) := by decide +kernel
theorem dX9_refusal_4 : decode cX9_refusal 4 = .ok (.ifCond .lt 6, 3) := by decide +kernel
theorem dX9_refusal_7 : decode cX9_refusal 7 = .ok (.bipush (-5), 2) := by decide +kernel
theorem dX9_refusal_9 : decode cX9_refusal 9 = .ok (.ireturn, 1) := by decide +kernel
theorem dX9_refusal_10 : decode cX9_refusal 10 = .ok (.aload_n 0, 1) := by decide +kernel
theorem dX9_refusal_11 : decode cX9_refusal 11 = .ok (.getfield 95, 3) := by decide +kernel
theorem dX9_refusal_14 : decode cX9_refusal 14 = .ok (.aload_n 0, 1) := by decide +kernel
theorem dX9_refusal_15 : decode cX9_refusal 15 = .ok (.bipush 46, 2) := by decide +kernel
theorem dX9_refusal_17 : decode cX9_refusal 17 = .ok (.invokevirtual 133, 3) := by decide +kernel
theorem dX9_refusal_20 : decode cX9_refusal 20 = .ok (.isub, 1) := by decide +kernel
theorem dX9_refusal_21 : decode cX9_refusal 21 = .ok (.aload_n 0, 1) := by decide +kernel
theorem dX9_refusal_22 : decode cX9_refusal 22 = .ok (.bipush 33, 2) := by decide +kernel
theorem dX9_refusal_24 : decode cX9_refusal 24 = .ok (.invokevirtual 133, 3) := by decide +kernel
theorem dX9_refusal_27 : decode cX9_refusal 27 = .ok (.isub, 1) := by decide +kernel
theorem dX9_refusal_28 : decode cX9_refusal 28 = .ok (.istore_n 2, 1) := by decide +kernel
theorem dX9_refusal_29 : decode cX9_refusal 29 = .ok (.iload_n 2, 1) := by decide +kernel
theorem dX9_refusal_30 : decode cX9_refusal 30 = .ok (.ifCond .le 8, 3) := by decide +kernel
theorem dX9_refusal_33 : decode cX9_refusal 33 = .ok (.bipush (-3), 2) := by decide +kernel
theorem dX9_refusal_35 : decode cX9_refusal 35 = .ok (.goto 20, 3) := by decide +kernel
theorem dX9_refusal_38 : decode cX9_refusal 38 = .ok (.aload_n 0, 1) := by decide +kernel
theorem dX9_refusal_39 : decode cX9_refusal 39 = .ok (.bipush 33, 2) := by decide +kernel
theorem dX9_refusal_41 : decode cX9_refusal 41 = .ok (.invokevirtual 133, 3) := by decide +kernel
theorem dX9_refusal_44 : decode cX9_refusal 44 = .ok (.iload_n 1, 1) := by decide +kernel
theorem dX9_refusal_45 : decode cX9_refusal 45 = .ok (.if_icmp .le 8, 3) := by decide +kernel
theorem dX9_refusal_48 : decode cX9_refusal 48 = .ok (.bipush (-4), 2) := by decide +kernel
theorem dX9_refusal_50 : decode cX9_refusal 50 = .ok (.goto 5, 3) := by decide +kernel
theorem dX9_refusal_53 : decode cX9_refusal 53 = .ok (.bipush (-6), 2) := by decide +kernel
theorem dX9_refusal_55 : decode cX9_refusal 55 = .ok (.ireturn, 1) := by decide +kernel
theorem dX9_layThrows_0 : decode cX9_layThrows 0 = .ok (.iload_n 1, 1) := by decide +kernel
theorem dX9_layThrows_1 : decode cX9_layThrows 1 = .ok (.istore_n 3, 1) := by decide +kernel
theorem dX9_layThrows_2 : decode cX9_layThrows 2 = .ok (.iconst 0, 1) := by decide +kernel
theorem dX9_layThrows_3 : decode cX9_layThrows 3 = .ok (.istore 4, 2) := by decide +kernel
theorem dX9_layThrows_5 : decode cX9_layThrows 5 = .ok (.iconst 1, 1) := by decide +kernel
theorem dX9_layThrows_6 : decode cX9_layThrows 6 = .ok (.istore 5, 2) := by decide +kernel
theorem dX9_layThrows_8 : decode cX9_layThrows 8 = .ok (.iload_n 2, 1) := by decide +kernel
theorem dX9_layThrows_9 : decode cX9_layThrows 9 = .ok (.iconst 1, 1) := by decide +kernel
theorem dX9_layThrows_10 : decode cX9_layThrows 10 = .ok (.isub, 1) := by decide +kernel
theorem dX9_layThrows_11 : decode cX9_layThrows 11 = .ok (.istore 6, 2) := by decide +kernel
theorem dX9_layThrows_13 : decode cX9_layThrows 13 = .ok (.iload 6, 2) := by decide +kernel
theorem dX9_layThrows_15 : decode cX9_layThrows 15 = .ok (.ifCond .lt 89, 3) := by decide +kernel
theorem dX9_layThrows_18 : decode cX9_layThrows 18 = .ok (.iload_n 3, 1) := by decide +kernel
theorem dX9_layThrows_19 : decode cX9_layThrows 19 = .ok (.bipush 7, 2) := by decide +kernel
theorem dX9_layThrows_21 : decode cX9_layThrows 21 = .ok (.irem, 1) := by decide +kernel
theorem dX9_layThrows_22 : decode cX9_layThrows 22 = .ok (.istore 7, 2) := by decide +kernel
theorem dX9_layThrows_24 : decode cX9_layThrows 24 = .ok (.iload_n 3, 1) := by decide +kernel
theorem dX9_layThrows_25 : decode cX9_layThrows 25 = .ok (.bipush 7, 2) := by decide +kernel
theorem dX9_layThrows_27 : decode cX9_layThrows 27 = .ok (.idiv, 1) := by decide +kernel
theorem dX9_layThrows_28 : decode cX9_layThrows 28 = .ok (.istore_n 3, 1) := by decide +kernel
theorem dX9_layThrows_29 : decode cX9_layThrows 29 = .ok (.aload_n 0, 1) := by decide +kernel
theorem dX9_layThrows_30 : decode cX9_layThrows 30 = .ok (.getfield 31, 3) := by decide +kernel
theorem dX9_layThrows_33 : decode cX9_layThrows 33 = .ok (.iload 6, 2) := by decide +kernel
theorem dX9_layThrows_35 : decode cX9_layThrows 35 = .ok (.iload 7, 2) := by decide +kernel
theorem dX9_layThrows_37 : decode cX9_layThrows 37 = .ok (.iastore, 1) := by decide +kernel
theorem dX9_layThrows_38 : decode cX9_layThrows 38 = .ok (.iload 7, 2) := by decide +kernel
theorem dX9_layThrows_40 : decode cX9_layThrows 40 = .ok (.bipush 6, 2) := by decide +kernel
theorem dX9_layThrows_42 : decode cX9_layThrows 42 = .ok (.if_icmp .eq 23, 3) := by decide +kernel
theorem dX9_layThrows_45 : decode cX9_layThrows 45 = .ok (.aload_n 0, 1) := by decide +kernel
theorem dX9_layThrows_46 : decode cX9_layThrows 46 = .ok (.getfield 16, 3) := by decide +kernel
theorem dX9_layThrows_49 : decode cX9_layThrows 49 = .ok (.iload 7, 2) := by decide +kernel
theorem dX9_layThrows_51 : decode cX9_layThrows 51 = .ok (.iaload, 1) := by decide +kernel
theorem dX9_layThrows_52 : decode cX9_layThrows 52 = .ok (.ifCond .le 17, 3) := by decide +kernel
theorem dX9_layThrows_55 : decode cX9_layThrows 55 = .ok (.iload 4, 2) := by decide +kernel
theorem dX9_layThrows_57 : decode cX9_layThrows 57 = .ok (.iload 7, 2) := by decide +kernel
theorem dX9_layThrows_59 : decode cX9_layThrows 59 = .ok (.ishr, 1) := by decide +kernel
theorem dX9_layThrows_60 : decode cX9_layThrows 60 = .ok (.iconst 1, 1) := by decide +kernel
theorem dX9_layThrows_61 : decode cX9_layThrows 61 = .ok (.iand, 1) := by decide +kernel
theorem dX9_layThrows_62 : decode cX9_layThrows 62 = .ok (.ifCond .ne 7, 3) := by decide +kernel
theorem dX9_layThrows_65 : decode cX9_layThrows 65 = .ok (.iconst 1, 1) := by decide +kernel
theorem dX9_layThrows_66 : decode cX9_layThrows 66 = .ok (.goto 4, 3) := by decide +kernel
theorem dX9_layThrows_69 : decode cX9_layThrows 69 = .ok (.iconst 0, 1) := by decide +kernel
theorem dX9_layThrows_70 : decode cX9_layThrows 70 = .ok (.istore 8, 2) := by decide +kernel
theorem dX9_layThrows_72 : decode cX9_layThrows 72 = .ok (.iload 5, 2) := by decide +kernel
theorem dX9_layThrows_74 : decode cX9_layThrows 74 = .ok (.ifCond .eq 12, 3) := by decide +kernel
theorem dX9_layThrows_77 : decode cX9_layThrows 77 = .ok (.iload 8, 2) := by decide +kernel
theorem dX9_layThrows_79 : decode cX9_layThrows 79 = .ok (.ifCond .eq 7, 3) := by decide +kernel
theorem dX9_layThrows_82 : decode cX9_layThrows 82 = .ok (.iconst 1, 1) := by decide +kernel
theorem dX9_layThrows_83 : decode cX9_layThrows 83 = .ok (.goto 4, 3) := by decide +kernel
theorem dX9_layThrows_86 : decode cX9_layThrows 86 = .ok (.iconst 0, 1) := by decide +kernel
theorem dX9_layThrows_87 : decode cX9_layThrows 87 = .ok (.istore 5, 2) := by decide +kernel
theorem dX9_layThrows_89 : decode cX9_layThrows 89 = .ok (.iload 4, 2) := by decide +kernel
theorem dX9_layThrows_91 : decode cX9_layThrows 91 = .ok (.iconst 1, 1) := by decide +kernel
theorem dX9_layThrows_92 : decode cX9_layThrows 92 = .ok (.iload 7, 2) := by decide +kernel
theorem dX9_layThrows_94 : decode cX9_layThrows 94 = .ok (.ishl, 1) := by decide +kernel
theorem dX9_layThrows_95 : decode cX9_layThrows 95 = .ok (.ior, 1) := by decide +kernel
theorem dX9_layThrows_96 : decode cX9_layThrows 96 = .ok (.istore 4, 2) := by decide +kernel
theorem dX9_layThrows_98 : decode cX9_layThrows 98 = .ok (.iinc 6 (-1), 3) := by decide +kernel
theorem dX9_layThrows_101 : decode cX9_layThrows 101 = .ok (.goto (-88), 3) := by decide +kernel
theorem dX9_layThrows_104 : decode cX9_layThrows 104 = .ok (.iload 5, 2) := by decide +kernel
theorem dX9_layThrows_106 : decode cX9_layThrows 106 = .ok (.ireturn, 1) := by decide +kernel
theorem dX9_goCourse_0 : decode cX9_goCourse 0 = .ok (.iconst 0, 1) := by decide +kernel
theorem dX9_goCourse_1 : decode cX9_goCourse 1 = .ok (.istore_n 1, 1) := by decide +kernel
theorem dX9_goCourse_2 : decode cX9_goCourse 2 = .ok (.iconst 0, 1) := by decide +kernel
theorem dX9_goCourse_3 : decode cX9_goCourse 3 = .ok (.istore_n 2, 1) := by decide +kernel
theorem dX9_goCourse_4 : decode cX9_goCourse 4 = .ok (.iload_n 2, 1) := by decide +kernel
theorem dX9_goCourse_5 : decode cX9_goCourse 5 = .ok (.aload_n 0, 1) := by decide +kernel
theorem dX9_goCourse_6 : decode cX9_goCourse 6 = .ok (.getfield 95, 3) := by decide +kernel
theorem dX9_goCourse_9 : decode cX9_goCourse 9 = .ok (.if_icmp .ge 56, 3) := by decide +kernel
theorem dX9_goCourse_12 : decode cX9_goCourse 12 = .ok (.aload_n 0, 1) := by decide +kernel
theorem dX9_goCourse_13 : decode cX9_goCourse 13 = .ok (.getfield 25, 3) := by decide +kernel
theorem dX9_goCourse_16 : decode cX9_goCourse 16 = .ok (.iload_n 2, 1) := by decide +kernel
theorem dX9_goCourse_17 : decode cX9_goCourse 17 = .ok (.iaload, 1) := by decide +kernel
theorem dX9_goCourse_18 : decode cX9_goCourse 18 = .ok (.bipush 46, 2) := by decide +kernel
theorem dX9_goCourse_20 : decode cX9_goCourse 20 = .ok (.if_icmp .ne 10, 3) := by decide +kernel
theorem dX9_goCourse_23 : decode cX9_goCourse 23 = .ok (.aload_n 0, 1) := by decide +kernel
theorem dX9_goCourse_24 : decode cX9_goCourse 24 = .ok (.invokevirtual 121, 3) := by decide +kernel
theorem dX9_goCourse_27 : decode cX9_goCourse 27 = .ok (.goto 32, 3) := by decide +kernel
theorem dX9_goCourse_30 : decode cX9_goCourse 30 = .ok (.aload_n 0, 1) := by decide +kernel
theorem dX9_goCourse_31 : decode cX9_goCourse 31 = .ok (.aload_n 0, 1) := by decide +kernel
theorem dX9_goCourse_32 : decode cX9_goCourse 32 = .ok (.getfield 31, 3) := by decide +kernel
theorem dX9_goCourse_35 : decode cX9_goCourse 35 = .ok (.iload_n 1, 1) := by decide +kernel
theorem dX9_goCourse_36 : decode cX9_goCourse 36 = .ok (.iaload, 1) := by decide +kernel
theorem dX9_goCourse_37 : decode cX9_goCourse 37 = .ok (.bipush 6, 2) := by decide +kernel
theorem dX9_goCourse_39 : decode cX9_goCourse 39 = .ok (.if_icmp .ge 12, 3) := by decide +kernel
theorem dX9_goCourse_42 : decode cX9_goCourse 42 = .ok (.aload_n 0, 1) := by decide +kernel
theorem dX9_goCourse_43 : decode cX9_goCourse 43 = .ok (.getfield 31, 3) := by decide +kernel
theorem dX9_goCourse_46 : decode cX9_goCourse 46 = .ok (.iload_n 1, 1) := by decide +kernel
theorem dX9_goCourse_47 : decode cX9_goCourse 47 = .ok (.iaload, 1) := by decide +kernel
theorem dX9_goCourse_48 : decode cX9_goCourse 48 = .ok (.goto 5, 3) := by decide +kernel
theorem dX9_goCourse_51 : decode cX9_goCourse 51 = .ok (.bipush (-6), 2) := by decide +kernel
theorem dX9_goCourse_53 : decode cX9_goCourse 53 = .ok (.invokevirtual 124, 3) := by decide +kernel
theorem dX9_goCourse_56 : decode cX9_goCourse 56 = .ok (.iinc 1 1, 3) := by decide +kernel
theorem dX9_goCourse_59 : decode cX9_goCourse 59 = .ok (.iinc 2 1, 3) := by decide +kernel
theorem dX9_goCourse_62 : decode cX9_goCourse 62 = .ok (.goto (-58), 3) := by decide +kernel
theorem dX9_goCourse_65 : decode cX9_goCourse 65 = .ok (.return_, 1) := by decide +kernel
theorem dX9_sevens_0 : decode cX9_sevens 0 = .ok (.iconst 1, 1) := by decide +kernel
theorem dX9_sevens_1 : decode cX9_sevens 1 = .ok (.istore_n 1, 1) := by decide +kernel
theorem dX9_sevens_2 : decode cX9_sevens 2 = .ok (.iconst 0, 1) := by decide +kernel
theorem dX9_sevens_3 : decode cX9_sevens 3 = .ok (.istore_n 2, 1) := by decide +kernel
theorem dX9_sevens_4 : decode cX9_sevens 4 = .ok (.iload_n 2, 1) := by decide +kernel
theorem dX9_sevens_5 : decode cX9_sevens 5 = .ok (.iload_n 0, 1) := by decide +kernel
theorem dX9_sevens_6 : decode cX9_sevens 6 = .ok (.if_icmp .ge 14, 3) := by decide +kernel
theorem dX9_sevens_9 : decode cX9_sevens 9 = .ok (.iload_n 1, 1) := by decide +kernel
theorem dX9_sevens_10 : decode cX9_sevens 10 = .ok (.bipush 7, 2) := by decide +kernel
theorem dX9_sevens_12 : decode cX9_sevens 12 = .ok (.imul, 1) := by decide +kernel
theorem dX9_sevens_13 : decode cX9_sevens 13 = .ok (.istore_n 1, 1) := by decide +kernel
theorem dX9_sevens_14 : decode cX9_sevens 14 = .ok (.iinc 2 1, 3) := by decide +kernel
theorem dX9_sevens_17 : decode cX9_sevens 17 = .ok (.goto (-13), 3) := by decide +kernel
theorem dX9_sevens_20 : decode cX9_sevens 20 = .ok (.iload_n 1, 1) := by decide +kernel
theorem dX9_sevens_21 : decode cX9_sevens 21 = .ok (.ireturn, 1) := by decide +kernel
theorem dX9_isGoal_0 : decode cX9_isGoal 0 = .ok (.iload_n 0, 1) := by decide +kernel
theorem dX9_isGoal_1 : decode cX9_isGoal 1 = .ok (.i2l, 1) := by decide +kernel
theorem dX9_isGoal_2 : decode cX9_isGoal 2 = .ok (.ldc2_w 163, 3) := by decide +kernel
theorem dX9_isGoal_5 : decode cX9_isGoal 5 = .ok (.ldc2_w 165, 3) := by decide +kernel
theorem dX9_isGoal_8 : decode cX9_isGoal 8 = .ok (.invokestatic 71, 3) := by decide +kernel
theorem dX9_isGoal_11 : decode cX9_isGoal 11 = .ok (.ireturn, 1) := by decide +kernel
theorem dX9_apart_0 : decode cX9_apart 0 = .ok (.aload_n 0, 1) := by decide +kernel
theorem dX9_apart_1 : decode cX9_apart 1 = .ok (.getfield 102, 3) := by decide +kernel
theorem dX9_apart_4 : decode cX9_apart 4 = .ok (.iload_n 1, 1) := by decide +kernel
theorem dX9_apart_5 : decode cX9_apart 5 = .ok (.if_icmp .le 12, 3) := by decide +kernel
theorem dX9_apart_8 : decode cX9_apart 8 = .ok (.aload_n 0, 1) := by decide +kernel
theorem dX9_apart_9 : decode cX9_apart 9 = .ok (.getfield 102, 3) := by decide +kernel
theorem dX9_apart_12 : decode cX9_apart 12 = .ok (.iload_n 1, 1) := by decide +kernel
theorem dX9_apart_13 : decode cX9_apart 13 = .ok (.isub, 1) := by decide +kernel
theorem dX9_apart_14 : decode cX9_apart 14 = .ok (.goto 9, 3) := by decide +kernel
theorem dX9_apart_17 : decode cX9_apart 17 = .ok (.iload_n 1, 1) := by decide +kernel
theorem dX9_apart_18 : decode cX9_apart 18 = .ok (.aload_n 0, 1) := by decide +kernel
theorem dX9_apart_19 : decode cX9_apart 19 = .ok (.getfield 102, 3) := by decide +kernel
theorem dX9_apart_22 : decode cX9_apart 22 = .ok (.isub, 1) := by decide +kernel
theorem dX9_apart_23 : decode cX9_apart 23 = .ok (.ireturn, 1) := by decide +kernel
theorem dX9_nearest_0 : decode cX9_nearest 0 = .ok (.iload_n 1, 1) := by decide +kernel
theorem dX9_nearest_1 : decode cX9_nearest 1 = .ok (.invokestatic 167, 3) := by decide +kernel
theorem dX9_nearest_4 : decode cX9_nearest 4 = .ok (.ifCond .ne 6, 3) := by decide +kernel
theorem dX9_nearest_7 : decode cX9_nearest 7 = .ok (.bipush (-2), 2) := by decide +kernel
theorem dX9_nearest_9 : decode cX9_nearest 9 = .ok (.ireturn, 1) := by decide +kernel
theorem dX9_nearest_10 : decode cX9_nearest 10 = .ok (.aload_n 0, 1) := by decide +kernel
theorem dX9_nearest_11 : decode cX9_nearest 11 = .ok (.bipush 6, 2) := by decide +kernel
theorem dX9_nearest_13 : decode cX9_nearest 13 = .ok (.invokevirtual 170, 3) := by decide +kernel
theorem dX9_nearest_16 : decode cX9_nearest 16 = .ok (.istore_n 3, 1) := by decide +kernel
theorem dX9_nearest_17 : decode cX9_nearest 17 = .ok (.iload_n 3, 1) := by decide +kernel
theorem dX9_nearest_18 : decode cX9_nearest 18 = .ok (.bipush (-6), 2) := by decide +kernel
theorem dX9_nearest_20 : decode cX9_nearest 20 = .ok (.if_icmp .eq 5, 3) := by decide +kernel
theorem dX9_nearest_23 : decode cX9_nearest 23 = .ok (.iload_n 3, 1) := by decide +kernel
theorem dX9_nearest_24 : decode cX9_nearest 24 = .ok (.ireturn, 1) := by decide +kernel
theorem dX9_nearest_25 : decode cX9_nearest 25 = .ok (.aload_n 0, 1) := by decide +kernel
theorem dX9_nearest_26 : decode cX9_nearest 26 = .ok (.bipush 33, 2) := by decide +kernel
theorem dX9_nearest_28 : decode cX9_nearest 28 = .ok (.invokevirtual 133, 3) := by decide +kernel
theorem dX9_nearest_31 : decode cX9_nearest 31 = .ok (.istore 4, 2) := by decide +kernel
theorem dX9_nearest_33 : decode cX9_nearest 33 = .ok (.ldc 173, 2) := by decide +kernel
theorem dX9_nearest_35 : decode cX9_nearest 35 = .ok (.istore 5, 2) := by decide +kernel
theorem dX9_nearest_37 : decode cX9_nearest 37 = .ok (.iconst 0, 1) := by decide +kernel
theorem dX9_nearest_38 : decode cX9_nearest 38 = .ok (.istore 6, 2) := by decide +kernel
theorem dX9_nearest_40 : decode cX9_nearest 40 = .ok (.iload 6, 2) := by decide +kernel
theorem dX9_nearest_42 : decode cX9_nearest 42 = .ok (.iload 4, 2) := by decide +kernel
theorem dX9_nearest_44 : decode cX9_nearest 44 = .ok (.invokestatic 174, 3) := by decide +kernel
theorem dX9_nearest_47 : decode cX9_nearest 47 = .ok (.if_icmp .ge 97, 3) := by decide +kernel
theorem dX9_nearest_50 : decode cX9_nearest 50 = .ok (.aload_n 0, 1) := by decide +kernel
theorem dX9_nearest_51 : decode cX9_nearest 51 = .ok (.iload 6, 2) := by decide +kernel
theorem dX9_nearest_53 : decode cX9_nearest 53 = .ok (.iload 4, 2) := by decide +kernel
theorem dX9_nearest_55 : decode cX9_nearest 55 = .ok (.invokevirtual 177, 3) := by decide +kernel
theorem dX9_nearest_58 : decode cX9_nearest 58 = .ok (.ifCond .eq 80, 3) := by decide +kernel
theorem dX9_nearest_61 : decode cX9_nearest 61 = .ok (.aload_n 0, 1) := by decide +kernel
theorem dX9_nearest_62 : decode cX9_nearest 62 = .ok (.invokevirtual 138, 3) := by decide +kernel
theorem dX9_nearest_65 : decode cX9_nearest 65 = .ok (.aload_n 0, 1) := by decide +kernel
theorem dX9_nearest_66 : decode cX9_nearest 66 = .ok (.invokevirtual 181, 3) := by decide +kernel
theorem dX9_nearest_69 : decode cX9_nearest 69 = .ok (.bipush 10, 2) := by decide +kernel
theorem dX9_nearest_71 : decode cX9_nearest 71 = .ok (.aload_n 0, 1) := by decide +kernel
theorem dX9_nearest_72 : decode cX9_nearest 72 = .ok (.iload_n 1, 1) := by decide +kernel
theorem dX9_nearest_73 : decode cX9_nearest 73 = .ok (.invokevirtual 184, 3) := by decide +kernel
theorem dX9_nearest_76 : decode cX9_nearest 76 = .ok (.imul, 1) := by decide +kernel
theorem dX9_nearest_77 : decode cX9_nearest 77 = .ok (.aload_n 0, 1) := by decide +kernel
theorem dX9_nearest_78 : decode cX9_nearest 78 = .ok (.aload_n 0, 1) := by decide +kernel
theorem dX9_nearest_79 : decode cX9_nearest 79 = .ok (.invokevirtual 98, 3) := by decide +kernel
theorem dX9_nearest_82 : decode cX9_nearest 82 = .ok (.invokevirtual 144, 3) := by decide +kernel
theorem dX9_nearest_85 : decode cX9_nearest 85 = .ok (.iadd, 1) := by decide +kernel
theorem dX9_nearest_86 : decode cX9_nearest 86 = .ok (.aload_n 0, 1) := by decide +kernel
theorem dX9_nearest_87 : decode cX9_nearest 87 = .ok (.aload_n 0, 1) := by decide +kernel
theorem dX9_nearest_88 : decode cX9_nearest 88 = .ok (.getfield 111, 3) := by decide +kernel
theorem dX9_nearest_91 : decode cX9_nearest 91 = .ok (.invokevirtual 144, 3) := by decide +kernel
theorem dX9_nearest_94 : decode cX9_nearest 94 = .ok (.isub, 1) := by decide +kernel
theorem dX9_nearest_95 : decode cX9_nearest 95 = .ok (.istore 7, 2) := by decide +kernel
theorem dX9_nearest_97 : decode cX9_nearest 97 = .ok (.iload 7, 2) := by decide +kernel
theorem dX9_nearest_99 : decode cX9_nearest 99 = .ok (.iload 5, 2) := by decide +kernel
theorem dX9_nearest_101 : decode cX9_nearest 101 = .ok (.if_icmp .ge 37, 3) := by decide +kernel
theorem dX9_nearest_104 : decode cX9_nearest 104 = .ok (.iload 7, 2) := by decide +kernel
theorem dX9_nearest_106 : decode cX9_nearest 106 = .ok (.istore 5, 2) := by decide +kernel
theorem dX9_nearest_108 : decode cX9_nearest 108 = .ok (.iconst 0, 1) := by decide +kernel
theorem dX9_nearest_109 : decode cX9_nearest 109 = .ok (.istore 8, 2) := by decide +kernel
theorem dX9_nearest_111 : decode cX9_nearest 111 = .ok (.iload 8, 2) := by decide +kernel
theorem dX9_nearest_113 : decode cX9_nearest 113 = .ok (.iload 4, 2) := by decide +kernel
theorem dX9_nearest_115 : decode cX9_nearest 115 = .ok (.if_icmp .ge 23, 3) := by decide +kernel
theorem dX9_nearest_118 : decode cX9_nearest 118 = .ok (.aload_n 0, 1) := by decide +kernel
theorem dX9_nearest_119 : decode cX9_nearest 119 = .ok (.getfield 34, 3) := by decide +kernel
theorem dX9_nearest_122 : decode cX9_nearest 122 = .ok (.iload 8, 2) := by decide +kernel
theorem dX9_nearest_124 : decode cX9_nearest 124 = .ok (.aload_n 0, 1) := by decide +kernel
theorem dX9_nearest_125 : decode cX9_nearest 125 = .ok (.getfield 31, 3) := by decide +kernel
theorem dX9_nearest_128 : decode cX9_nearest 128 = .ok (.iload 8, 2) := by decide +kernel
theorem dX9_nearest_130 : decode cX9_nearest 130 = .ok (.iaload, 1) := by decide +kernel
theorem dX9_nearest_131 : decode cX9_nearest 131 = .ok (.iastore, 1) := by decide +kernel
theorem dX9_nearest_132 : decode cX9_nearest 132 = .ok (.iinc 8 1, 3) := by decide +kernel
theorem dX9_nearest_135 : decode cX9_nearest 135 = .ok (.goto (-24), 3) := by decide +kernel
theorem dX9_nearest_138 : decode cX9_nearest 138 = .ok (.iinc 6 1, 3) := by decide +kernel
theorem dX9_nearest_141 : decode cX9_nearest 141 = .ok (.goto (-101), 3) := by decide +kernel
theorem dX9_nearest_144 : decode cX9_nearest 144 = .ok (.iload_n 2, 1) := by decide +kernel
theorem dX9_nearest_145 : decode cX9_nearest 145 = .ok (.iconst (-1), 1) := by decide +kernel
theorem dX9_nearest_146 : decode cX9_nearest 146 = .ok (.if_icmp .ne 11, 3) := by decide +kernel
theorem dX9_nearest_149 : decode cX9_nearest 149 = .ok (.iload 5, 2) := by decide +kernel
theorem dX9_nearest_151 : decode cX9_nearest 151 = .ok (.bipush 10, 2) := by decide +kernel
theorem dX9_nearest_153 : decode cX9_nearest 153 = .ok (.idiv, 1) := by decide +kernel
theorem dX9_nearest_154 : decode cX9_nearest 154 = .ok (.goto 39, 3) := by decide +kernel
theorem dX9_nearest_157 : decode cX9_nearest 157 = .ok (.iload_n 2, 1) := by decide +kernel
theorem dX9_nearest_158 : decode cX9_nearest 158 = .ok (.i2l, 1) := by decide +kernel
theorem dX9_nearest_159 : decode cX9_nearest 159 = .ok (.lconst 0, 1) := by decide +kernel
theorem dX9_nearest_160 : decode cX9_nearest 160 = .ok (.iload 4, 2) := by decide +kernel
theorem dX9_nearest_162 : decode cX9_nearest 162 = .ok (.iconst 1, 1) := by decide +kernel
theorem dX9_nearest_163 : decode cX9_nearest 163 = .ok (.isub, 1) := by decide +kernel
theorem dX9_nearest_164 : decode cX9_nearest 164 = .ok (.i2l, 1) := by decide +kernel
theorem dX9_nearest_165 : decode cX9_nearest 165 = .ok (.invokestatic 71, 3) := by decide +kernel
theorem dX9_nearest_168 : decode cX9_nearest 168 = .ok (.ifCond .eq 23, 3) := by decide +kernel
theorem dX9_nearest_171 : decode cX9_nearest 171 = .ok (.aload_n 0, 1) := by decide +kernel
theorem dX9_nearest_172 : decode cX9_nearest 172 = .ok (.getfield 34, 3) := by decide +kernel
theorem dX9_nearest_175 : decode cX9_nearest 175 = .ok (.iload_n 2, 1) := by decide +kernel
theorem dX9_nearest_176 : decode cX9_nearest 176 = .ok (.iaload, 1) := by decide +kernel
theorem dX9_nearest_177 : decode cX9_nearest 177 = .ok (.bipush 6, 2) := by decide +kernel
theorem dX9_nearest_179 : decode cX9_nearest 179 = .ok (.if_icmp .ge 12, 3) := by decide +kernel
theorem dX9_nearest_182 : decode cX9_nearest 182 = .ok (.aload_n 0, 1) := by decide +kernel
theorem dX9_nearest_183 : decode cX9_nearest 183 = .ok (.getfield 34, 3) := by decide +kernel
theorem dX9_nearest_186 : decode cX9_nearest 186 = .ok (.iload_n 2, 1) := by decide +kernel
theorem dX9_nearest_187 : decode cX9_nearest 187 = .ok (.iaload, 1) := by decide +kernel
theorem dX9_nearest_188 : decode cX9_nearest 188 = .ok (.goto 5, 3) := by decide +kernel
theorem dX9_nearest_191 : decode cX9_nearest 191 = .ok (.bipush (-6), 2) := by decide +kernel
theorem dX9_nearest_193 : decode cX9_nearest 193 = .ok (.ireturn, 1) := by decide +kernel
theorem dX9_isSpan_0 : decode cX9_isSpan 0 = .ok (.iload_n 0, 1) := by decide +kernel
theorem dX9_isSpan_1 : decode cX9_isSpan 1 = .ok (.invokestatic 167, 3) := by decide +kernel
theorem dX9_isSpan_4 : decode cX9_isSpan 4 = .ok (.ifCond .eq 20, 3) := by decide +kernel
theorem dX9_isSpan_7 : decode cX9_isSpan 7 = .ok (.iload_n 1, 1) := by decide +kernel
theorem dX9_isSpan_8 : decode cX9_isSpan 8 = .ok (.i2l, 1) := by decide +kernel
theorem dX9_isSpan_9 : decode cX9_isSpan 9 = .ok (.iload_n 0, 1) := by decide +kernel
theorem dX9_isSpan_10 : decode cX9_isSpan 10 = .ok (.i2l, 1) := by decide +kernel
theorem dX9_isSpan_11 : decode cX9_isSpan 11 = .ok (.ldc2_w 165, 3) := by decide +kernel
theorem dX9_isSpan_14 : decode cX9_isSpan 14 = .ok (.invokestatic 71, 3) := by decide +kernel
theorem dX9_isSpan_17 : decode cX9_isSpan 17 = .ok (.ifCond .eq 7, 3) := by decide +kernel
theorem dX9_isSpan_20 : decode cX9_isSpan 20 = .ok (.iconst 1, 1) := by decide +kernel
theorem dX9_isSpan_21 : decode cX9_isSpan 21 = .ok (.goto 4, 3) := by decide +kernel
theorem dX9_isSpan_24 : decode cX9_isSpan 24 = .ok (.iconst 0, 1) := by decide +kernel
theorem dX9_isSpan_25 : decode cX9_isSpan 25 = .ok (.ireturn, 1) := by decide +kernel
theorem dX9_field_0 : decode cX9_field 0 = .ok (.iload_n 1, 1) := by decide +kernel
theorem dX9_field_1 : decode cX9_field 1 = .ok (.iload_n 2, 1) := by decide +kernel
theorem dX9_field_2 : decode cX9_field 2 = .ok (.invokestatic 187, 3) := by decide +kernel
theorem dX9_field_5 : decode cX9_field 5 = .ok (.ifCond .ne 6, 3) := by decide +kernel
theorem dX9_field_8 : decode cX9_field 8 = .ok (.bipush (-2), 2) := by decide +kernel
theorem dX9_field_10 : decode cX9_field 10 = .ok (.ireturn, 1) := by decide +kernel
theorem dX9_field_11 : decode cX9_field 11 = .ok (.aload_n 0, 1) := by decide +kernel
theorem dX9_field_12 : decode cX9_field 12 = .ok (.bipush 6, 2) := by decide +kernel
theorem dX9_field_14 : decode cX9_field 14 = .ok (.invokevirtual 170, 3) := by decide +kernel
theorem dX9_field_17 : decode cX9_field 17 = .ok (.istore_n 3, 1) := by decide +kernel
theorem dX9_field_18 : decode cX9_field 18 = .ok (.iload_n 3, 1) := by decide +kernel
theorem dX9_field_19 : decode cX9_field 19 = .ok (.bipush (-6), 2) := by decide +kernel
theorem dX9_field_21 : decode cX9_field 21 = .ok (.if_icmp .eq 5, 3) := by decide +kernel
theorem dX9_field_24 : decode cX9_field 24 = .ok (.iload_n 3, 1) := by decide +kernel
theorem dX9_field_25 : decode cX9_field 25 = .ok (.ireturn, 1) := by decide +kernel
theorem dX9_field_26 : decode cX9_field 26 = .ok (.aload_n 0, 1) := by decide +kernel
theorem dX9_field_27 : decode cX9_field 27 = .ok (.bipush 33, 2) := by decide +kernel
theorem dX9_field_29 : decode cX9_field 29 = .ok (.invokevirtual 133, 3) := by decide +kernel
theorem dX9_field_32 : decode cX9_field 32 = .ok (.istore 4, 2) := by decide +kernel
theorem dX9_field_34 : decode cX9_field 34 = .ok (.iconst 0, 1) := by decide +kernel
theorem dX9_field_35 : decode cX9_field 35 = .ok (.istore 5, 2) := by decide +kernel
theorem dX9_field_37 : decode cX9_field 37 = .ok (.iconst 0, 1) := by decide +kernel
theorem dX9_field_38 : decode cX9_field 38 = .ok (.istore 6, 2) := by decide +kernel
theorem dX9_field_40 : decode cX9_field 40 = .ok (.iload 6, 2) := by decide +kernel
theorem dX9_field_42 : decode cX9_field 42 = .ok (.iload 4, 2) := by decide +kernel
theorem dX9_field_44 : decode cX9_field 44 = .ok (.invokestatic 174, 3) := by decide +kernel
theorem dX9_field_47 : decode cX9_field 47 = .ok (.if_icmp .ge 53, 3) := by decide +kernel
theorem dX9_field_50 : decode cX9_field 50 = .ok (.aload_n 0, 1) := by decide +kernel
theorem dX9_field_51 : decode cX9_field 51 = .ok (.iload 6, 2) := by decide +kernel
theorem dX9_field_53 : decode cX9_field 53 = .ok (.iload 4, 2) := by decide +kernel
theorem dX9_field_55 : decode cX9_field 55 = .ok (.invokevirtual 177, 3) := by decide +kernel
theorem dX9_field_58 : decode cX9_field 58 = .ok (.ifCond .eq 36, 3) := by decide +kernel
theorem dX9_field_61 : decode cX9_field 61 = .ok (.aload_n 0, 1) := by decide +kernel
theorem dX9_field_62 : decode cX9_field 62 = .ok (.invokevirtual 138, 3) := by decide +kernel
theorem dX9_field_65 : decode cX9_field 65 = .ok (.aload_n 0, 1) := by decide +kernel
theorem dX9_field_66 : decode cX9_field 66 = .ok (.invokevirtual 181, 3) := by decide +kernel
theorem dX9_field_69 : decode cX9_field 69 = .ok (.iload 5, 2) := by decide +kernel
theorem dX9_field_71 : decode cX9_field 71 = .ok (.aload_n 0, 1) := by decide +kernel
theorem dX9_field_72 : decode cX9_field 72 = .ok (.getfield 102, 3) := by decide +kernel
theorem dX9_field_75 : decode cX9_field 75 = .ok (.i2l, 1) := by decide +kernel
theorem dX9_field_76 : decode cX9_field 76 = .ok (.iload_n 1, 1) := by decide +kernel
theorem dX9_field_77 : decode cX9_field 77 = .ok (.i2l, 1) := by decide +kernel
theorem dX9_field_78 : decode cX9_field 78 = .ok (.iload_n 2, 1) := by decide +kernel
theorem dX9_field_79 : decode cX9_field 79 = .ok (.i2l, 1) := by decide +kernel
theorem dX9_field_80 : decode cX9_field 80 = .ok (.invokestatic 71, 3) := by decide +kernel
theorem dX9_field_83 : decode cX9_field 83 = .ok (.ifCond .eq 7, 3) := by decide +kernel
theorem dX9_field_86 : decode cX9_field 86 = .ok (.iconst 1, 1) := by decide +kernel
theorem dX9_field_87 : decode cX9_field 87 = .ok (.goto 4, 3) := by decide +kernel
theorem dX9_field_90 : decode cX9_field 90 = .ok (.iconst 0, 1) := by decide +kernel
theorem dX9_field_91 : decode cX9_field 91 = .ok (.iadd, 1) := by decide +kernel
theorem dX9_field_92 : decode cX9_field 92 = .ok (.istore 5, 2) := by decide +kernel
theorem dX9_field_94 : decode cX9_field 94 = .ok (.iinc 6 1, 3) := by decide +kernel
theorem dX9_field_97 : decode cX9_field 97 = .ok (.goto (-57), 3) := by decide +kernel
theorem dX9_field_100 : decode cX9_field 100 = .ok (.iload 5, 2) := by decide +kernel
theorem dX9_field_102 : decode cX9_field 102 = .ok (.ireturn, 1) := by decide +kernel
theorem dX9_goMinutes_0 : decode cX9_goMinutes 0 = .ok (.aload_n 0, 1) := by decide +kernel
theorem dX9_goMinutes_1 : decode cX9_goMinutes 1 = .ok (.bipush 46, 2) := by decide +kernel
theorem dX9_goMinutes_3 : decode cX9_goMinutes 3 = .ok (.invokevirtual 133, 3) := by decide +kernel
theorem dX9_goMinutes_6 : decode cX9_goMinutes 6 = .ok (.istore_n 1, 1) := by decide +kernel
theorem dX9_goMinutes_7 : decode cX9_goMinutes 7 = .ok (.iload_n 1, 1) := by decide +kernel
theorem dX9_goMinutes_8 : decode cX9_goMinutes 8 = .ok (.ifCond .le 13, 3) := by decide +kernel
theorem dX9_goMinutes_11 : decode cX9_goMinutes 11 = .ok (.aload_n 0, 1) := by decide +kernel
theorem dX9_goMinutes_12 : decode cX9_goMinutes 12 = .ok (.invokevirtual 121, 3) := by decide +kernel
theorem dX9_goMinutes_15 : decode cX9_goMinutes 15 = .ok (.iinc 1 (-1), 3) := by decide +kernel
theorem dX9_goMinutes_18 : decode cX9_goMinutes 18 = .ok (.goto (-11), 3) := by decide +kernel
theorem dX9_goMinutes_21 : decode cX9_goMinutes 21 = .ok (.return_, 1) := by decide +kernel
theorem dX9_take_0 : decode cX9_take 0 = .ok (.iload_n 1, 1) := by decide +kernel
theorem dX9_take_1 : decode cX9_take 1 = .ok (.invokestatic 167, 3) := by decide +kernel
theorem dX9_take_4 : decode cX9_take 4 = .ok (.ifCond .eq 13, 3) := by decide +kernel
theorem dX9_take_7 : decode cX9_take 7 = .ok (.iload_n 2, 1) := by decide +kernel
theorem dX9_take_8 : decode cX9_take 8 = .ok (.i2l, 1) := by decide +kernel
theorem dX9_take_9 : decode cX9_take 9 = .ok (.lconst 0, 1) := by decide +kernel
theorem dX9_take_10 : decode cX9_take 10 = .ok (.lconst 1, 1) := by decide +kernel
theorem dX9_take_11 : decode cX9_take 11 = .ok (.invokestatic 71, 3) := by decide +kernel
theorem dX9_take_14 : decode cX9_take 14 = .ok (.ifCond .ne 6, 3) := by decide +kernel
theorem dX9_take_17 : decode cX9_take 17 = .ok (.bipush (-2), 2) := by decide +kernel
theorem dX9_take_19 : decode cX9_take 19 = .ok (.ireturn, 1) := by decide +kernel
theorem dX9_take_20 : decode cX9_take 20 = .ok (.aload_n 0, 1) := by decide +kernel
theorem dX9_take_21 : decode cX9_take 21 = .ok (.bipush 60, 2) := by decide +kernel
theorem dX9_take_23 : decode cX9_take 23 = .ok (.invokevirtual 170, 3) := by decide +kernel
theorem dX9_take_26 : decode cX9_take 26 = .ok (.istore_n 3, 1) := by decide +kernel
theorem dX9_take_27 : decode cX9_take 27 = .ok (.iload_n 3, 1) := by decide +kernel
theorem dX9_take_28 : decode cX9_take 28 = .ok (.bipush (-6), 2) := by decide +kernel
theorem dX9_take_30 : decode cX9_take 30 = .ok (.if_icmp .eq 5, 3) := by decide +kernel
theorem dX9_take_33 : decode cX9_take 33 = .ok (.iload_n 3, 1) := by decide +kernel
theorem dX9_take_34 : decode cX9_take 34 = .ok (.ireturn, 1) := by decide +kernel
theorem dX9_take_35 : decode cX9_take 35 = .ok (.bipush (-6), 2) := by decide +kernel
theorem dX9_take_37 : decode cX9_take 37 = .ok (.istore 4, 2) := by decide +kernel
theorem dX9_take_39 : decode cX9_take 39 = .ok (.ldc 173, 2) := by decide +kernel
theorem dX9_take_41 : decode cX9_take 41 = .ok (.istore 5, 2) := by decide +kernel
theorem dX9_take_43 : decode cX9_take 43 = .ok (.iconst 0, 1) := by decide +kernel
theorem dX9_take_44 : decode cX9_take 44 = .ok (.istore 6, 2) := by decide +kernel
theorem dX9_take_46 : decode cX9_take 46 = .ok (.iload 6, 2) := by decide +kernel
theorem dX9_take_48 : decode cX9_take 48 = .ok (.bipush 64, 2) := by decide +kernel
theorem dX9_take_50 : decode cX9_take 50 = .ok (.if_icmp .ge 76, 3) := by decide +kernel
theorem dX9_take_53 : decode cX9_take 53 = .ok (.iload 6, 2) := by decide +kernel
theorem dX9_take_55 : decode cX9_take 55 = .ok (.aload_n 0, 1) := by decide +kernel
theorem dX9_take_56 : decode cX9_take 56 = .ok (.invokevirtual 98, 3) := by decide +kernel
theorem dX9_take_59 : decode cX9_take 59 = .ok (.iconst (-1), 1) := by decide +kernel
theorem dX9_take_60 : decode cX9_take 60 = .ok (.ixor, 1) := by decide +kernel
theorem dX9_take_61 : decode cX9_take 61 = .ok (.iand, 1) := by decide +kernel
theorem dX9_take_62 : decode cX9_take 62 = .ok (.ifCond .ne 58, 3) := by decide +kernel
theorem dX9_take_65 : decode cX9_take 65 = .ok (.aload_n 0, 1) := by decide +kernel
theorem dX9_take_66 : decode cX9_take 66 = .ok (.aload_n 0, 1) := by decide +kernel
theorem dX9_take_67 : decode cX9_take 67 = .ok (.getfield 54, 3) := by decide +kernel
theorem dX9_take_70 : decode cX9_take 70 = .ok (.iload 6, 2) := by decide +kernel
theorem dX9_take_72 : decode cX9_take 72 = .ok (.invokevirtual 114, 3) := by decide +kernel
theorem dX9_take_75 : decode cX9_take 75 = .ok (.aload_n 0, 1) := by decide +kernel
theorem dX9_take_76 : decode cX9_take 76 = .ok (.invokevirtual 190, 3) := by decide +kernel
theorem dX9_take_79 : decode cX9_take 79 = .ok (.aload_n 0, 1) := by decide +kernel
theorem dX9_take_80 : decode cX9_take 80 = .ok (.iload_n 1, 1) := by decide +kernel
theorem dX9_take_81 : decode cX9_take 81 = .ok (.invokevirtual 184, 3) := by decide +kernel
theorem dX9_take_84 : decode cX9_take 84 = .ok (.iload 5, 2) := by decide +kernel
theorem dX9_take_86 : decode cX9_take 86 = .ok (.if_icmp .ge 8, 3) := by decide +kernel
theorem dX9_take_89 : decode cX9_take 89 = .ok (.iload 6, 2) := by decide +kernel
theorem dX9_take_91 : decode cX9_take 91 = .ok (.goto 5, 3) := by decide +kernel
theorem dX9_take_94 : decode cX9_take 94 = .ok (.iload 4, 2) := by decide +kernel
theorem dX9_take_96 : decode cX9_take 96 = .ok (.istore 4, 2) := by decide +kernel
theorem dX9_take_98 : decode cX9_take 98 = .ok (.aload_n 0, 1) := by decide +kernel
theorem dX9_take_99 : decode cX9_take 99 = .ok (.iload_n 1, 1) := by decide +kernel
theorem dX9_take_100 : decode cX9_take 100 = .ok (.invokevirtual 184, 3) := by decide +kernel
theorem dX9_take_103 : decode cX9_take 103 = .ok (.iload 5, 2) := by decide +kernel
theorem dX9_take_105 : decode cX9_take 105 = .ok (.if_icmp .ge 11, 3) := by decide +kernel
theorem dX9_take_108 : decode cX9_take 108 = .ok (.aload_n 0, 1) := by decide +kernel
theorem dX9_take_109 : decode cX9_take 109 = .ok (.iload_n 1, 1) := by decide +kernel
theorem dX9_take_110 : decode cX9_take 110 = .ok (.invokevirtual 184, 3) := by decide +kernel
theorem dX9_take_113 : decode cX9_take 113 = .ok (.goto 5, 3) := by decide +kernel
theorem dX9_take_116 : decode cX9_take 116 = .ok (.iload 5, 2) := by decide +kernel
theorem dX9_take_118 : decode cX9_take 118 = .ok (.istore 5, 2) := by decide +kernel
theorem dX9_take_120 : decode cX9_take 120 = .ok (.iinc 6 1, 3) := by decide +kernel
theorem dX9_take_123 : decode cX9_take 123 = .ok (.goto (-77), 3) := by decide +kernel
theorem dX9_take_126 : decode cX9_take 126 = .ok (.iload_n 2, 1) := by decide +kernel
theorem dX9_take_127 : decode cX9_take 127 = .ok (.ifCond .ne 8, 3) := by decide +kernel
theorem dX9_take_130 : decode cX9_take 130 = .ok (.iload 4, 2) := by decide +kernel
theorem dX9_take_132 : decode cX9_take 132 = .ok (.goto 5, 3) := by decide +kernel
theorem dX9_take_135 : decode cX9_take 135 = .ok (.iload 5, 2) := by decide +kernel
theorem dX9_take_137 : decode cX9_take 137 = .ok (.ireturn, 1) := by decide +kernel
theorem dX9_stay_0 : decode cX9_stay 0 = .ok (.iload_n 1, 1) := by decide +kernel
theorem dX9_stay_1 : decode cX9_stay 1 = .ok (.invokestatic 167, 3) := by decide +kernel
theorem dX9_stay_4 : decode cX9_stay 4 = .ok (.ifCond .eq 13, 3) := by decide +kernel
theorem dX9_stay_7 : decode cX9_stay 7 = .ok (.iload_n 2, 1) := by decide +kernel
theorem dX9_stay_8 : decode cX9_stay 8 = .ok (.i2l, 1) := by decide +kernel
theorem dX9_stay_9 : decode cX9_stay 9 = .ok (.lconst 0, 1) := by decide +kernel
theorem dX9_stay_10 : decode cX9_stay 10 = .ok (.lconst 1, 1) := by decide +kernel
theorem dX9_stay_11 : decode cX9_stay 11 = .ok (.invokestatic 71, 3) := by decide +kernel
theorem dX9_stay_14 : decode cX9_stay 14 = .ok (.ifCond .ne 6, 3) := by decide +kernel
theorem dX9_stay_17 : decode cX9_stay 17 = .ok (.bipush (-2), 2) := by decide +kernel
theorem dX9_stay_19 : decode cX9_stay 19 = .ok (.ireturn, 1) := by decide +kernel
theorem dX9_stay_20 : decode cX9_stay 20 = .ok (.aload_n 0, 1) := by decide +kernel
theorem dX9_stay_21 : decode cX9_stay 21 = .ok (.bipush 60, 2) := by decide +kernel
theorem dX9_stay_23 : decode cX9_stay 23 = .ok (.invokevirtual 170, 3) := by decide +kernel
theorem dX9_stay_26 : decode cX9_stay 26 = .ok (.istore_n 3, 1) := by decide +kernel
theorem dX9_stay_27 : decode cX9_stay 27 = .ok (.iload_n 3, 1) := by decide +kernel
theorem dX9_stay_28 : decode cX9_stay 28 = .ok (.bipush (-6), 2) := by decide +kernel
theorem dX9_stay_30 : decode cX9_stay 30 = .ok (.if_icmp .eq 5, 3) := by decide +kernel
theorem dX9_stay_33 : decode cX9_stay 33 = .ok (.iload_n 3, 1) := by decide +kernel
theorem dX9_stay_34 : decode cX9_stay 34 = .ok (.ireturn, 1) := by decide +kernel
theorem dX9_stay_35 : decode cX9_stay 35 = .ok (.bipush (-6), 2) := by decide +kernel
theorem dX9_stay_37 : decode cX9_stay 37 = .ok (.istore 4, 2) := by decide +kernel
theorem dX9_stay_39 : decode cX9_stay 39 = .ok (.ldc 173, 2) := by decide +kernel
theorem dX9_stay_41 : decode cX9_stay 41 = .ok (.istore 5, 2) := by decide +kernel
theorem dX9_stay_43 : decode cX9_stay 43 = .ok (.iconst 0, 1) := by decide +kernel
theorem dX9_stay_44 : decode cX9_stay 44 = .ok (.istore 6, 2) := by decide +kernel
theorem dX9_stay_46 : decode cX9_stay 46 = .ok (.iload 6, 2) := by decide +kernel
theorem dX9_stay_48 : decode cX9_stay 48 = .ok (.bipush 20, 2) := by decide +kernel
theorem dX9_stay_50 : decode cX9_stay 50 = .ok (.if_icmp .gt 64, 3) := by decide +kernel
theorem dX9_stay_53 : decode cX9_stay 53 = .ok (.aload_n 0, 1) := by decide +kernel
theorem dX9_stay_54 : decode cX9_stay 54 = .ok (.invokevirtual 138, 3) := by decide +kernel
theorem dX9_stay_57 : decode cX9_stay 57 = .ok (.aload_n 0, 1) := by decide +kernel
theorem dX9_stay_58 : decode cX9_stay 58 = .ok (.iload 6, 2) := by decide +kernel
theorem dX9_stay_60 : decode cX9_stay 60 = .ok (.putfield 105, 3) := by decide +kernel
theorem dX9_stay_63 : decode cX9_stay 63 = .ok (.aload_n 0, 1) := by decide +kernel
theorem dX9_stay_64 : decode cX9_stay 64 = .ok (.invokevirtual 190, 3) := by decide +kernel
theorem dX9_stay_67 : decode cX9_stay 67 = .ok (.aload_n 0, 1) := by decide +kernel
theorem dX9_stay_68 : decode cX9_stay 68 = .ok (.iload_n 1, 1) := by decide +kernel
theorem dX9_stay_69 : decode cX9_stay 69 = .ok (.invokevirtual 184, 3) := by decide +kernel
theorem dX9_stay_72 : decode cX9_stay 72 = .ok (.iload 5, 2) := by decide +kernel
theorem dX9_stay_74 : decode cX9_stay 74 = .ok (.if_icmp .ge 8, 3) := by decide +kernel
theorem dX9_stay_77 : decode cX9_stay 77 = .ok (.iload 6, 2) := by decide +kernel
theorem dX9_stay_79 : decode cX9_stay 79 = .ok (.goto 5, 3) := by decide +kernel
theorem dX9_stay_82 : decode cX9_stay 82 = .ok (.iload 4, 2) := by decide +kernel
theorem dX9_stay_84 : decode cX9_stay 84 = .ok (.istore 4, 2) := by decide +kernel
theorem dX9_stay_86 : decode cX9_stay 86 = .ok (.aload_n 0, 1) := by decide +kernel
theorem dX9_stay_87 : decode cX9_stay 87 = .ok (.iload_n 1, 1) := by decide +kernel
theorem dX9_stay_88 : decode cX9_stay 88 = .ok (.invokevirtual 184, 3) := by decide +kernel
theorem dX9_stay_91 : decode cX9_stay 91 = .ok (.iload 5, 2) := by decide +kernel
theorem dX9_stay_93 : decode cX9_stay 93 = .ok (.if_icmp .ge 11, 3) := by decide +kernel
theorem dX9_stay_96 : decode cX9_stay 96 = .ok (.aload_n 0, 1) := by decide +kernel
theorem dX9_stay_97 : decode cX9_stay 97 = .ok (.iload_n 1, 1) := by decide +kernel
theorem dX9_stay_98 : decode cX9_stay 98 = .ok (.invokevirtual 184, 3) := by decide +kernel
theorem dX9_stay_101 : decode cX9_stay 101 = .ok (.goto 5, 3) := by decide +kernel
theorem dX9_stay_104 : decode cX9_stay 104 = .ok (.iload 5, 2) := by decide +kernel
theorem dX9_stay_106 : decode cX9_stay 106 = .ok (.istore 5, 2) := by decide +kernel
theorem dX9_stay_108 : decode cX9_stay 108 = .ok (.iinc 6 1, 3) := by decide +kernel
theorem dX9_stay_111 : decode cX9_stay 111 = .ok (.goto (-65), 3) := by decide +kernel
theorem dX9_stay_114 : decode cX9_stay 114 = .ok (.iload_n 2, 1) := by decide +kernel
theorem dX9_stay_115 : decode cX9_stay 115 = .ok (.ifCond .ne 8, 3) := by decide +kernel
theorem dX9_stay_118 : decode cX9_stay 118 = .ok (.iload 4, 2) := by decide +kernel
theorem dX9_stay_120 : decode cX9_stay 120 = .ok (.goto 5, 3) := by decide +kernel
theorem dX9_stay_123 : decode cX9_stay 123 = .ok (.iload 5, 2) := by decide +kernel
theorem dX9_stay_125 : decode cX9_stay 125 = .ok (.ireturn, 1) := by decide +kernel
theorem dX9_goChance_0 : decode cX9_goChance 0 = .ok (.aload_n 0, 1) := by decide +kernel
theorem dX9_goChance_1 : decode cX9_goChance 1 = .ok (.invokevirtual 138, 3) := by decide +kernel
theorem dX9_goChance_4 : decode cX9_goChance 4 = .ok (.lconst 1, 1) := by decide +kernel
theorem dX9_goChance_5 : decode cX9_goChance 5 = .ok (.lstore_n 3, 1) := by decide +kernel
theorem dX9_goChance_6 : decode cX9_goChance 6 = .ok (.iconst 0, 1) := by decide +kernel
theorem dX9_goChance_7 : decode cX9_goChance 7 = .ok (.istore 5, 2) := by decide +kernel
theorem dX9_goChance_9 : decode cX9_goChance 9 = .ok (.iconst 0, 1) := by decide +kernel
theorem dX9_goChance_10 : decode cX9_goChance 10 = .ok (.istore 6, 2) := by decide +kernel
theorem dX9_goChance_12 : decode cX9_goChance 12 = .ok (.iload 6, 2) := by decide +kernel
theorem dX9_goChance_14 : decode cX9_goChance 14 = .ok (.aload_n 0, 1) := by decide +kernel
theorem dX9_goChance_15 : decode cX9_goChance 15 = .ok (.getfield 95, 3) := by decide +kernel
theorem dX9_goChance_18 : decode cX9_goChance 18 = .ok (.if_icmp .ge 84, 3) := by decide +kernel
theorem dX9_goChance_21 : decode cX9_goChance 21 = .ok (.aload_n 0, 1) := by decide +kernel
theorem dX9_goChance_22 : decode cX9_goChance 22 = .ok (.getfield 25, 3) := by decide +kernel
theorem dX9_goChance_25 : decode cX9_goChance 25 = .ok (.iload 6, 2) := by decide +kernel
theorem dX9_goChance_27 : decode cX9_goChance 27 = .ok (.iaload, 1) := by decide +kernel
theorem dX9_goChance_28 : decode cX9_goChance 28 = .ok (.bipush 46, 2) := by decide +kernel
theorem dX9_goChance_30 : decode cX9_goChance 30 = .ok (.if_icmp .ne 10, 3) := by decide +kernel
theorem dX9_goChance_33 : decode cX9_goChance 33 = .ok (.aload_n 0, 1) := by decide +kernel
theorem dX9_goChance_34 : decode cX9_goChance 34 = .ok (.invokevirtual 121, 3) := by decide +kernel
theorem dX9_goChance_37 : decode cX9_goChance 37 = .ok (.goto 59, 3) := by decide +kernel
theorem dX9_goChance_40 : decode cX9_goChance 40 = .ok (.iload_n 1, 1) := by decide +kernel
theorem dX9_goChance_41 : decode cX9_goChance 41 = .ok (.iload 5, 2) := by decide +kernel
theorem dX9_goChance_43 : decode cX9_goChance 43 = .ok (.ishr, 1) := by decide +kernel
theorem dX9_goChance_44 : decode cX9_goChance 44 = .ok (.iconst 1, 1) := by decide +kernel
theorem dX9_goChance_45 : decode cX9_goChance 45 = .ok (.iand, 1) := by decide +kernel
theorem dX9_goChance_46 : decode cX9_goChance 46 = .ok (.iconst 1, 1) := by decide +kernel
theorem dX9_goChance_47 : decode cX9_goChance 47 = .ok (.if_icmp .ne 7, 3) := by decide +kernel
theorem dX9_goChance_50 : decode cX9_goChance 50 = .ok (.iconst 1, 1) := by decide +kernel
theorem dX9_goChance_51 : decode cX9_goChance 51 = .ok (.goto 4, 3) := by decide +kernel
theorem dX9_goChance_54 : decode cX9_goChance 54 = .ok (.iconst 0, 1) := by decide +kernel
theorem dX9_goChance_55 : decode cX9_goChance 55 = .ok (.istore 7, 2) := by decide +kernel
theorem dX9_goChance_57 : decode cX9_goChance 57 = .ok (.aload_n 0, 1) := by decide +kernel
theorem dX9_goChance_58 : decode cX9_goChance 58 = .ok (.iload 7, 2) := by decide +kernel
theorem dX9_goChance_60 : decode cX9_goChance 60 = .ok (.ifCond .eq 10, 3) := by decide +kernel
theorem dX9_goChance_63 : decode cX9_goChance 63 = .ok (.aload_n 0, 1) := by decide +kernel
theorem dX9_goChance_64 : decode cX9_goChance 64 = .ok (.invokevirtual 193, 3) := by decide +kernel
theorem dX9_goChance_67 : decode cX9_goChance 67 = .ok (.goto 5, 3) := by decide +kernel
theorem dX9_goChance_70 : decode cX9_goChance 70 = .ok (.bipush (-6), 2) := by decide +kernel
theorem dX9_goChance_72 : decode cX9_goChance 72 = .ok (.invokevirtual 124, 3) := by decide +kernel
theorem dX9_goChance_75 : decode cX9_goChance 75 = .ok (.lload_n 3, 1) := by decide +kernel
theorem dX9_goChance_76 : decode cX9_goChance 76 = .ok (.iload 7, 2) := by decide +kernel
theorem dX9_goChance_78 : decode cX9_goChance 78 = .ok (.ifCond .eq 8, 3) := by decide +kernel
theorem dX9_goChance_81 : decode cX9_goChance 81 = .ok (.iload_n 2, 1) := by decide +kernel
theorem dX9_goChance_82 : decode cX9_goChance 82 = .ok (.i2l, 1) := by decide +kernel
theorem dX9_goChance_83 : decode cX9_goChance 83 = .ok (.goto 8, 3) := by decide +kernel
theorem dX9_goChance_86 : decode cX9_goChance 86 = .ok (.bipush 10, 2) := by decide +kernel
theorem dX9_goChance_88 : decode cX9_goChance 88 = .ok (.iload_n 2, 1) := by decide +kernel
theorem dX9_goChance_89 : decode cX9_goChance 89 = .ok (.isub, 1) := by decide +kernel
theorem dX9_goChance_90 : decode cX9_goChance 90 = .ok (.i2l, 1) := by decide +kernel
theorem dX9_goChance_91 : decode cX9_goChance 91 = .ok (.lmul, 1) := by decide +kernel
theorem dX9_goChance_92 : decode cX9_goChance 92 = .ok (.lstore_n 3, 1) := by decide +kernel
theorem dX9_goChance_93 : decode cX9_goChance 93 = .ok (.iinc 5 1, 3) := by decide +kernel
theorem dX9_goChance_96 : decode cX9_goChance 96 = .ok (.iinc 6 1, 3) := by decide +kernel
theorem dX9_goChance_99 : decode cX9_goChance 99 = .ok (.goto (-87), 3) := by decide +kernel
theorem dX9_goChance_102 : decode cX9_goChance 102 = .ok (.lload_n 3, 1) := by decide +kernel
theorem dX9_goChance_103 : decode cX9_goChance 103 = .ok (.lreturn, 1) := by decide +kernel
theorem dX9_allWays_0 : decode cX9_allWays 0 = .ok (.lconst 1, 1) := by decide +kernel
theorem dX9_allWays_1 : decode cX9_allWays 1 = .ok (.lstore_n 1, 1) := by decide +kernel
theorem dX9_allWays_2 : decode cX9_allWays 2 = .ok (.aload_n 0, 1) := by decide +kernel
theorem dX9_allWays_3 : decode cX9_allWays 3 = .ok (.bipush 33, 2) := by decide +kernel
theorem dX9_allWays_5 : decode cX9_allWays 5 = .ok (.invokevirtual 133, 3) := by decide +kernel
theorem dX9_allWays_8 : decode cX9_allWays 8 = .ok (.istore_n 3, 1) := by decide +kernel
theorem dX9_allWays_9 : decode cX9_allWays 9 = .ok (.iload_n 3, 1) := by decide +kernel
theorem dX9_allWays_10 : decode cX9_allWays 10 = .ok (.ifCond .le 15, 3) := by decide +kernel
theorem dX9_allWays_13 : decode cX9_allWays 13 = .ok (.lload_n 1, 1) := by decide +kernel
theorem dX9_allWays_14 : decode cX9_allWays 14 = .ok (.ldc2_w 196, 3) := by decide +kernel
theorem dX9_allWays_17 : decode cX9_allWays 17 = .ok (.lmul, 1) := by decide +kernel
theorem dX9_allWays_18 : decode cX9_allWays 18 = .ok (.lstore_n 1, 1) := by decide +kernel
theorem dX9_allWays_19 : decode cX9_allWays 19 = .ok (.iinc 3 (-1), 3) := by decide +kernel
theorem dX9_allWays_22 : decode cX9_allWays 22 = .ok (.goto (-13), 3) := by decide +kernel
theorem dX9_allWays_25 : decode cX9_allWays 25 = .ok (.lload_n 1, 1) := by decide +kernel
theorem dX9_allWays_26 : decode cX9_allWays 26 = .ok (.lreturn, 1) := by decide +kernel
theorem dX9_lowest_0 : decode cX9_lowest 0 = .ok (.lload_n 2, 1) := by decide +kernel
theorem dX9_lowest_1 : decode cX9_lowest 1 = .ok (.lstore 5, 2) := by decide +kernel
theorem dX9_lowest_3 : decode cX9_lowest 3 = .ok (.lload_n 0, 1) := by decide +kernel
theorem dX9_lowest_4 : decode cX9_lowest 4 = .ok (.lstore 7, 2) := by decide +kernel
theorem dX9_lowest_6 : decode cX9_lowest 6 = .ok (.lload 7, 2) := by decide +kernel
theorem dX9_lowest_8 : decode cX9_lowest 8 = .ok (.lconst 0, 1) := by decide +kernel
theorem dX9_lowest_9 : decode cX9_lowest 9 = .ok (.lcmp, 1) := by decide +kernel
theorem dX9_lowest_10 : decode cX9_lowest 10 = .ok (.ifCond .eq 21, 3) := by decide +kernel
theorem dX9_lowest_13 : decode cX9_lowest 13 = .ok (.lload 5, 2) := by decide +kernel
theorem dX9_lowest_15 : decode cX9_lowest 15 = .ok (.lload 7, 2) := by decide +kernel
theorem dX9_lowest_17 : decode cX9_lowest 17 = .ok (.lrem, 1) := by decide +kernel
theorem dX9_lowest_18 : decode cX9_lowest 18 = .ok (.lstore 9, 2) := by decide +kernel
theorem dX9_lowest_20 : decode cX9_lowest 20 = .ok (.lload 7, 2) := by decide +kernel
theorem dX9_lowest_22 : decode cX9_lowest 22 = .ok (.lstore 5, 2) := by decide +kernel
theorem dX9_lowest_24 : decode cX9_lowest 24 = .ok (.lload 9, 2) := by decide +kernel
theorem dX9_lowest_26 : decode cX9_lowest 26 = .ok (.lstore 7, 2) := by decide +kernel
theorem dX9_lowest_28 : decode cX9_lowest 28 = .ok (.goto (-22), 3) := by decide +kernel
theorem dX9_lowest_31 : decode cX9_lowest 31 = .ok (.iload 4, 2) := by decide +kernel
theorem dX9_lowest_33 : decode cX9_lowest 33 = .ok (.ifCond .ne 10, 3) := by decide +kernel
theorem dX9_lowest_36 : decode cX9_lowest 36 = .ok (.lload_n 0, 1) := by decide +kernel
theorem dX9_lowest_37 : decode cX9_lowest 37 = .ok (.lload 5, 2) := by decide +kernel
theorem dX9_lowest_39 : decode cX9_lowest 39 = .ok (.ldiv, 1) := by decide +kernel
theorem dX9_lowest_40 : decode cX9_lowest 40 = .ok (.goto 7, 3) := by decide +kernel
theorem dX9_lowest_43 : decode cX9_lowest 43 = .ok (.lload_n 2, 1) := by decide +kernel
theorem dX9_lowest_44 : decode cX9_lowest 44 = .ok (.lload 5, 2) := by decide +kernel
theorem dX9_lowest_46 : decode cX9_lowest 46 = .ok (.ldiv, 1) := by decide +kernel
theorem dX9_lowest_47 : decode cX9_lowest 47 = .ok (.lreturn, 1) := by decide +kernel
theorem dX9_likely_0 : decode cX9_likely 0 = .ok (.iload_n 1, 1) := by decide +kernel
theorem dX9_likely_1 : decode cX9_likely 1 = .ok (.iload_n 2, 1) := by decide +kernel
theorem dX9_likely_2 : decode cX9_likely 2 = .ok (.invokestatic 187, 3) := by decide +kernel
theorem dX9_likely_5 : decode cX9_likely 5 = .ok (.ifCond .eq 26, 3) := by decide +kernel
theorem dX9_likely_8 : decode cX9_likely 8 = .ok (.iload_n 3, 1) := by decide +kernel
theorem dX9_likely_9 : decode cX9_likely 9 = .ok (.i2l, 1) := by decide +kernel
theorem dX9_likely_10 : decode cX9_likely 10 = .ok (.lconst 0, 1) := by decide +kernel
theorem dX9_likely_11 : decode cX9_likely 11 = .ok (.ldc2_w 196, 3) := by decide +kernel
theorem dX9_likely_14 : decode cX9_likely 14 = .ok (.invokestatic 71, 3) := by decide +kernel
theorem dX9_likely_17 : decode cX9_likely 17 = .ok (.ifCond .eq 14, 3) := by decide +kernel
theorem dX9_likely_20 : decode cX9_likely 20 = .ok (.iload 4, 2) := by decide +kernel
theorem dX9_likely_22 : decode cX9_likely 22 = .ok (.i2l, 1) := by decide +kernel
theorem dX9_likely_23 : decode cX9_likely 23 = .ok (.lconst 0, 1) := by decide +kernel
theorem dX9_likely_24 : decode cX9_likely 24 = .ok (.lconst 1, 1) := by decide +kernel
theorem dX9_likely_25 : decode cX9_likely 25 = .ok (.invokestatic 71, 3) := by decide +kernel
theorem dX9_likely_28 : decode cX9_likely 28 = .ok (.ifCond .ne 7, 3) := by decide +kernel
theorem dX9_likely_31 : decode cX9_likely 31 = .ok (.ldc2_w 198, 3) := by decide +kernel
theorem dX9_likely_34 : decode cX9_likely 34 = .ok (.lreturn, 1) := by decide +kernel
theorem dX9_likely_35 : decode cX9_likely 35 = .ok (.aload_n 0, 1) := by decide +kernel
theorem dX9_likely_36 : decode cX9_likely 36 = .ok (.bipush 60, 2) := by decide +kernel
theorem dX9_likely_38 : decode cX9_likely 38 = .ok (.invokevirtual 170, 3) := by decide +kernel
theorem dX9_likely_41 : decode cX9_likely 41 = .ok (.istore 5, 2) := by decide +kernel
theorem dX9_likely_43 : decode cX9_likely 43 = .ok (.iload 5, 2) := by decide +kernel
theorem dX9_likely_45 : decode cX9_likely 45 = .ok (.bipush (-6), 2) := by decide +kernel
theorem dX9_likely_47 : decode cX9_likely 47 = .ok (.if_icmp .eq 11, 3) := by decide +kernel
theorem dX9_likely_50 : decode cX9_likely 50 = .ok (.ldc2_w 200, 3) := by decide +kernel
theorem dX9_likely_53 : decode cX9_likely 53 = .ok (.iload 5, 2) := by decide +kernel
theorem dX9_likely_55 : decode cX9_likely 55 = .ok (.i2l, 1) := by decide +kernel
theorem dX9_likely_56 : decode cX9_likely 56 = .ok (.ladd, 1) := by decide +kernel
theorem dX9_likely_57 : decode cX9_likely 57 = .ok (.lreturn, 1) := by decide +kernel
theorem dX9_likely_58 : decode cX9_likely 58 = .ok (.lconst 0, 1) := by decide +kernel
theorem dX9_likely_59 : decode cX9_likely 59 = .ok (.lstore 6, 2) := by decide +kernel
theorem dX9_likely_61 : decode cX9_likely 61 = .ok (.iconst 0, 1) := by decide +kernel
theorem dX9_likely_62 : decode cX9_likely 62 = .ok (.istore 8, 2) := by decide +kernel
theorem dX9_likely_64 : decode cX9_likely 64 = .ok (.iload 8, 2) := by decide +kernel
theorem dX9_likely_66 : decode cX9_likely 66 = .ok (.iconst 1, 1) := by decide +kernel
theorem dX9_likely_67 : decode cX9_likely 67 = .ok (.aload_n 0, 1) := by decide +kernel
theorem dX9_likely_68 : decode cX9_likely 68 = .ok (.bipush 33, 2) := by decide +kernel
theorem dX9_likely_70 : decode cX9_likely 70 = .ok (.invokevirtual 133, 3) := by decide +kernel
theorem dX9_likely_73 : decode cX9_likely 73 = .ok (.ishl, 1) := by decide +kernel
theorem dX9_likely_74 : decode cX9_likely 74 = .ok (.if_icmp .ge 44, 3) := by decide +kernel
theorem dX9_likely_77 : decode cX9_likely 77 = .ok (.aload_n 0, 1) := by decide +kernel
theorem dX9_likely_78 : decode cX9_likely 78 = .ok (.iload 8, 2) := by decide +kernel
theorem dX9_likely_80 : decode cX9_likely 80 = .ok (.iload_n 3, 1) := by decide +kernel
theorem dX9_likely_81 : decode cX9_likely 81 = .ok (.invokevirtual 202, 3) := by decide +kernel
theorem dX9_likely_84 : decode cX9_likely 84 = .ok (.lstore 9, 2) := by decide +kernel
theorem dX9_likely_86 : decode cX9_likely 86 = .ok (.lload 6, 2) := by decide +kernel
theorem dX9_likely_88 : decode cX9_likely 88 = .ok (.aload_n 0, 1) := by decide +kernel
theorem dX9_likely_89 : decode cX9_likely 89 = .ok (.getfield 102, 3) := by decide +kernel
theorem dX9_likely_92 : decode cX9_likely 92 = .ok (.i2l, 1) := by decide +kernel
theorem dX9_likely_93 : decode cX9_likely 93 = .ok (.iload_n 1, 1) := by decide +kernel
theorem dX9_likely_94 : decode cX9_likely 94 = .ok (.i2l, 1) := by decide +kernel
theorem dX9_likely_95 : decode cX9_likely 95 = .ok (.iload_n 2, 1) := by decide +kernel
theorem dX9_likely_96 : decode cX9_likely 96 = .ok (.i2l, 1) := by decide +kernel
theorem dX9_likely_97 : decode cX9_likely 97 = .ok (.invokestatic 71, 3) := by decide +kernel
theorem dX9_likely_100 : decode cX9_likely 100 = .ok (.ifCond .eq 8, 3) := by decide +kernel
theorem dX9_likely_103 : decode cX9_likely 103 = .ok (.lload 9, 2) := by decide +kernel
theorem dX9_likely_105 : decode cX9_likely 105 = .ok (.goto 4, 3) := by decide +kernel
theorem dX9_likely_108 : decode cX9_likely 108 = .ok (.lconst 0, 1) := by decide +kernel
theorem dX9_likely_109 : decode cX9_likely 109 = .ok (.ladd, 1) := by decide +kernel
theorem dX9_likely_110 : decode cX9_likely 110 = .ok (.lstore 6, 2) := by decide +kernel
theorem dX9_likely_112 : decode cX9_likely 112 = .ok (.iinc 8 1, 3) := by decide +kernel
theorem dX9_likely_115 : decode cX9_likely 115 = .ok (.goto (-51), 3) := by decide +kernel
theorem dX9_likely_118 : decode cX9_likely 118 = .ok (.lload 6, 2) := by decide +kernel
theorem dX9_likely_120 : decode cX9_likely 120 = .ok (.aload_n 0, 1) := by decide +kernel
theorem dX9_likely_121 : decode cX9_likely 121 = .ok (.invokevirtual 206, 3) := by decide +kernel
theorem dX9_likely_124 : decode cX9_likely 124 = .ok (.iload 4, 2) := by decide +kernel
theorem dX9_likely_126 : decode cX9_likely 126 = .ok (.invokestatic 210, 3) := by decide +kernel
theorem dX9_likely_129 : decode cX9_likely 129 = .ok (.lreturn, 1) := by decide +kernel
theorem dX9_mean_0 : decode cX9_mean 0 = .ok (.iload_n 1, 1) := by decide +kernel
theorem dX9_mean_1 : decode cX9_mean 1 = .ok (.i2l, 1) := by decide +kernel
theorem dX9_mean_2 : decode cX9_mean 2 = .ok (.lconst 0, 1) := by decide +kernel
theorem dX9_mean_3 : decode cX9_mean 3 = .ok (.ldc2_w 196, 3) := by decide +kernel
theorem dX9_mean_6 : decode cX9_mean 6 = .ok (.invokestatic 71, 3) := by decide +kernel
theorem dX9_mean_9 : decode cX9_mean 9 = .ok (.ifCond .eq 13, 3) := by decide +kernel
theorem dX9_mean_12 : decode cX9_mean 12 = .ok (.iload_n 2, 1) := by decide +kernel
theorem dX9_mean_13 : decode cX9_mean 13 = .ok (.i2l, 1) := by decide +kernel
theorem dX9_mean_14 : decode cX9_mean 14 = .ok (.lconst 0, 1) := by decide +kernel
theorem dX9_mean_15 : decode cX9_mean 15 = .ok (.lconst 1, 1) := by decide +kernel
theorem dX9_mean_16 : decode cX9_mean 16 = .ok (.invokestatic 71, 3) := by decide +kernel
theorem dX9_mean_19 : decode cX9_mean 19 = .ok (.ifCond .ne 7, 3) := by decide +kernel
theorem dX9_mean_22 : decode cX9_mean 22 = .ok (.ldc2_w 198, 3) := by decide +kernel
theorem dX9_mean_25 : decode cX9_mean 25 = .ok (.lreturn, 1) := by decide +kernel
theorem dX9_mean_26 : decode cX9_mean 26 = .ok (.aload_n 0, 1) := by decide +kernel
theorem dX9_mean_27 : decode cX9_mean 27 = .ok (.bipush 60, 2) := by decide +kernel
theorem dX9_mean_29 : decode cX9_mean 29 = .ok (.invokevirtual 170, 3) := by decide +kernel
theorem dX9_mean_32 : decode cX9_mean 32 = .ok (.istore_n 3, 1) := by decide +kernel
theorem dX9_mean_33 : decode cX9_mean 33 = .ok (.iload_n 3, 1) := by decide +kernel
theorem dX9_mean_34 : decode cX9_mean 34 = .ok (.bipush (-6), 2) := by decide +kernel
theorem dX9_mean_36 : decode cX9_mean 36 = .ok (.if_icmp .eq 10, 3) := by decide +kernel
theorem dX9_mean_39 : decode cX9_mean 39 = .ok (.ldc2_w 200, 3) := by decide +kernel
theorem dX9_mean_42 : decode cX9_mean 42 = .ok (.iload_n 3, 1) := by decide +kernel
theorem dX9_mean_43 : decode cX9_mean 43 = .ok (.i2l, 1) := by decide +kernel
theorem dX9_mean_44 : decode cX9_mean 44 = .ok (.ladd, 1) := by decide +kernel
theorem dX9_mean_45 : decode cX9_mean 45 = .ok (.lreturn, 1) := by decide +kernel
theorem dX9_mean_46 : decode cX9_mean 46 = .ok (.lconst 0, 1) := by decide +kernel
theorem dX9_mean_47 : decode cX9_mean 47 = .ok (.lstore 4, 2) := by decide +kernel
theorem dX9_mean_49 : decode cX9_mean 49 = .ok (.iconst 0, 1) := by decide +kernel
theorem dX9_mean_50 : decode cX9_mean 50 = .ok (.istore 6, 2) := by decide +kernel
theorem dX9_mean_52 : decode cX9_mean 52 = .ok (.iload 6, 2) := by decide +kernel
theorem dX9_mean_54 : decode cX9_mean 54 = .ok (.iconst 1, 1) := by decide +kernel
theorem dX9_mean_55 : decode cX9_mean 55 = .ok (.aload_n 0, 1) := by decide +kernel
theorem dX9_mean_56 : decode cX9_mean 56 = .ok (.bipush 33, 2) := by decide +kernel
theorem dX9_mean_58 : decode cX9_mean 58 = .ok (.invokevirtual 133, 3) := by decide +kernel
theorem dX9_mean_61 : decode cX9_mean 61 = .ok (.ishl, 1) := by decide +kernel
theorem dX9_mean_62 : decode cX9_mean 62 = .ok (.if_icmp .ge 35, 3) := by decide +kernel
theorem dX9_mean_65 : decode cX9_mean 65 = .ok (.aload_n 0, 1) := by decide +kernel
theorem dX9_mean_66 : decode cX9_mean 66 = .ok (.iload 6, 2) := by decide +kernel
theorem dX9_mean_68 : decode cX9_mean 68 = .ok (.iload_n 1, 1) := by decide +kernel
theorem dX9_mean_69 : decode cX9_mean 69 = .ok (.invokevirtual 202, 3) := by decide +kernel
theorem dX9_mean_72 : decode cX9_mean 72 = .ok (.lstore 7, 2) := by decide +kernel
theorem dX9_mean_74 : decode cX9_mean 74 = .ok (.lload 4, 2) := by decide +kernel
theorem dX9_mean_76 : decode cX9_mean 76 = .ok (.lload 7, 2) := by decide +kernel
theorem dX9_mean_78 : decode cX9_mean 78 = .ok (.aload_n 0, 1) := by decide +kernel
theorem dX9_mean_79 : decode cX9_mean 79 = .ok (.getfield 102, 3) := by decide +kernel
theorem dX9_mean_82 : decode cX9_mean 82 = .ok (.sipush 1000, 3) := by decide +kernel
theorem dX9_mean_85 : decode cX9_mean 85 = .ok (.iadd, 1) := by decide +kernel
theorem dX9_mean_86 : decode cX9_mean 86 = .ok (.i2l, 1) := by decide +kernel
theorem dX9_mean_87 : decode cX9_mean 87 = .ok (.lmul, 1) := by decide +kernel
theorem dX9_mean_88 : decode cX9_mean 88 = .ok (.ladd, 1) := by decide +kernel
theorem dX9_mean_89 : decode cX9_mean 89 = .ok (.lstore 4, 2) := by decide +kernel
theorem dX9_mean_91 : decode cX9_mean 91 = .ok (.iinc 6 1, 3) := by decide +kernel
theorem dX9_mean_94 : decode cX9_mean 94 = .ok (.goto (-42), 3) := by decide +kernel
theorem dX9_mean_97 : decode cX9_mean 97 = .ok (.lload 4, 2) := by decide +kernel
theorem dX9_mean_99 : decode cX9_mean 99 = .ok (.aload_n 0, 1) := by decide +kernel
theorem dX9_mean_100 : decode cX9_mean 100 = .ok (.invokevirtual 206, 3) := by decide +kernel
theorem dX9_mean_103 : decode cX9_mean 103 = .ok (.iload_n 2, 1) := by decide +kernel
theorem dX9_mean_104 : decode cX9_mean 104 = .ok (.invokestatic 210, 3) := by decide +kernel
theorem dX9_mean_107 : decode cX9_mean 107 = .ok (.lreturn, 1) := by decide +kernel
theorem dX9_fell_0 : decode cX9_fell 0 = .ok (.iload_n 1, 1) := by decide +kernel
theorem dX9_fell_1 : decode cX9_fell 1 = .ok (.invokestatic 85, 3) := by decide +kernel
theorem dX9_fell_4 : decode cX9_fell 4 = .ok (.ifCond .ne 5, 3) := by decide +kernel
theorem dX9_fell_7 : decode cX9_fell 7 = .ok (.iconst (-1), 1) := by decide +kernel
theorem dX9_fell_8 : decode cX9_fell 8 = .ok (.ireturn, 1) := by decide +kernel
theorem dX9_fell_9 : decode cX9_fell 9 = .ok (.iload_n 2, 1) := by decide +kernel
theorem dX9_fell_10 : decode cX9_fell 10 = .ok (.invokestatic 167, 3) := by decide +kernel
theorem dX9_fell_13 : decode cX9_fell 13 = .ok (.ifCond .ne 6, 3) := by decide +kernel
theorem dX9_fell_16 : decode cX9_fell 16 = .ok (.bipush (-2), 2) := by decide +kernel
theorem dX9_fell_18 : decode cX9_fell 18 = .ok (.ireturn, 1) := by decide +kernel
theorem dX9_fell_19 : decode cX9_fell 19 = .ok (.aload_n 0, 1) := by decide +kernel
theorem dX9_fell_20 : decode cX9_fell 20 = .ok (.getfield 214, 3) := by decide +kernel
theorem dX9_fell_23 : decode cX9_fell 23 = .ok (.bipush 6, 2) := by decide +kernel
theorem dX9_fell_25 : decode cX9_fell 25 = .ok (.if_icmp .ne 6, 3) := by decide +kernel
theorem dX9_fell_28 : decode cX9_fell 28 = .ok (.bipush (-4), 2) := by decide +kernel
theorem dX9_fell_30 : decode cX9_fell 30 = .ok (.ireturn, 1) := by decide +kernel
theorem dX9_fell_31 : decode cX9_fell 31 = .ok (.aload_n 0, 1) := by decide +kernel
theorem dX9_fell_32 : decode cX9_fell 32 = .ok (.getfield 19, 3) := by decide +kernel
theorem dX9_fell_35 : decode cX9_fell 35 = .ok (.aload_n 0, 1) := by decide +kernel
theorem dX9_fell_36 : decode cX9_fell 36 = .ok (.getfield 214, 3) := by decide +kernel
theorem dX9_fell_39 : decode cX9_fell 39 = .ok (.iload_n 1, 1) := by decide +kernel
theorem dX9_fell_40 : decode cX9_fell 40 = .ok (.iastore, 1) := by decide +kernel
theorem dX9_fell_41 : decode cX9_fell 41 = .ok (.aload_n 0, 1) := by decide +kernel
theorem dX9_fell_42 : decode cX9_fell 42 = .ok (.getfield 22, 3) := by decide +kernel
theorem dX9_fell_45 : decode cX9_fell 45 = .ok (.aload_n 0, 1) := by decide +kernel
theorem dX9_fell_46 : decode cX9_fell 46 = .ok (.getfield 214, 3) := by decide +kernel
theorem dX9_fell_49 : decode cX9_fell 49 = .ok (.iload_n 2, 1) := by decide +kernel
theorem dX9_fell_50 : decode cX9_fell 50 = .ok (.iastore, 1) := by decide +kernel
theorem dX9_fell_51 : decode cX9_fell 51 = .ok (.aload_n 0, 1) := by decide +kernel
theorem dX9_fell_52 : decode cX9_fell 52 = .ok (.dup, 1) := by decide +kernel
theorem dX9_fell_53 : decode cX9_fell 53 = .ok (.getfield 214, 3) := by decide +kernel
theorem dX9_fell_56 : decode cX9_fell 56 = .ok (.iconst 1, 1) := by decide +kernel
theorem dX9_fell_57 : decode cX9_fell 57 = .ok (.iadd, 1) := by decide +kernel
theorem dX9_fell_58 : decode cX9_fell 58 = .ok (.putfield 214, 3) := by decide +kernel
theorem dX9_fell_61 : decode cX9_fell 61 = .ok (.aload_n 0, 1) := by decide +kernel
theorem dX9_fell_62 : decode cX9_fell 62 = .ok (.getfield 214, 3) := by decide +kernel
theorem dX9_fell_65 : decode cX9_fell 65 = .ok (.ireturn, 1) := by decide +kernel
theorem dX9_forget_0 : decode cX9_forget 0 = .ok (.aload_n 0, 1) := by decide +kernel
theorem dX9_forget_1 : decode cX9_forget 1 = .ok (.getfield 214, 3) := by decide +kernel
theorem dX9_forget_4 : decode cX9_forget 4 = .ok (.istore_n 1, 1) := by decide +kernel
theorem dX9_forget_5 : decode cX9_forget 5 = .ok (.aload_n 0, 1) := by decide +kernel
theorem dX9_forget_6 : decode cX9_forget 6 = .ok (.iconst 0, 1) := by decide +kernel
theorem dX9_forget_7 : decode cX9_forget 7 = .ok (.putfield 214, 3) := by decide +kernel
theorem dX9_forget_10 : decode cX9_forget 10 = .ok (.iload_n 1, 1) := by decide +kernel
theorem dX9_forget_11 : decode cX9_forget 11 = .ok (.ireturn, 1) := by decide +kernel
theorem dX9_holdsFrom_0 : decode cX9_holdsFrom 0 = .ok (.iconst 0, 1) := by decide +kernel
theorem dX9_holdsFrom_1 : decode cX9_holdsFrom 1 = .ok (.istore_n 2, 1) := by decide +kernel
theorem dX9_holdsFrom_2 : decode cX9_holdsFrom 2 = .ok (.iload_n 2, 1) := by decide +kernel
theorem dX9_holdsFrom_3 : decode cX9_holdsFrom 3 = .ok (.bipush 6, 2) := by decide +kernel
theorem dX9_holdsFrom_5 : decode cX9_holdsFrom 5 = .ok (.if_icmp .ge 17, 3) := by decide +kernel
theorem dX9_holdsFrom_8 : decode cX9_holdsFrom 8 = .ok (.aload_n 0, 1) := by decide +kernel
theorem dX9_holdsFrom_9 : decode cX9_holdsFrom 9 = .ok (.getfield 37, 3) := by decide +kernel
theorem dX9_holdsFrom_12 : decode cX9_holdsFrom 12 = .ok (.iload_n 2, 1) := by decide +kernel
theorem dX9_holdsFrom_13 : decode cX9_holdsFrom 13 = .ok (.ldc 173, 2) := by decide +kernel
theorem dX9_holdsFrom_15 : decode cX9_holdsFrom 15 = .ok (.iastore, 1) := by decide +kernel
theorem dX9_holdsFrom_16 : decode cX9_holdsFrom 16 = .ok (.iinc 2 1, 3) := by decide +kernel
theorem dX9_holdsFrom_19 : decode cX9_holdsFrom 19 = .ok (.goto (-17), 3) := by decide +kernel
theorem dX9_holdsFrom_22 : decode cX9_holdsFrom 22 = .ok (.aload_n 0, 1) := by decide +kernel
theorem dX9_holdsFrom_23 : decode cX9_holdsFrom 23 = .ok (.iload_n 1, 1) := by decide +kernel
theorem dX9_holdsFrom_24 : decode cX9_holdsFrom 24 = .ok (.aload_n 0, 1) := by decide +kernel
theorem dX9_holdsFrom_25 : decode cX9_holdsFrom 25 = .ok (.invokevirtual 98, 3) := by decide +kernel
theorem dX9_holdsFrom_28 : decode cX9_holdsFrom 28 = .ok (.invokevirtual 114, 3) := by decide +kernel
theorem dX9_holdsFrom_31 : decode cX9_holdsFrom 31 = .ok (.iconst 0, 1) := by decide +kernel
theorem dX9_holdsFrom_32 : decode cX9_holdsFrom 32 = .ok (.istore_n 2, 1) := by decide +kernel
theorem dX9_holdsFrom_33 : decode cX9_holdsFrom 33 = .ok (.iload_n 2, 1) := by decide +kernel
theorem dX9_holdsFrom_34 : decode cX9_holdsFrom 34 = .ok (.aload_n 0, 1) := by decide +kernel
theorem dX9_holdsFrom_35 : decode cX9_holdsFrom 35 = .ok (.getfield 95, 3) := by decide +kernel
theorem dX9_holdsFrom_38 : decode cX9_holdsFrom 38 = .ok (.if_icmp .ge 46, 3) := by decide +kernel
theorem dX9_holdsFrom_41 : decode cX9_holdsFrom 41 = .ok (.aload_n 0, 1) := by decide +kernel
theorem dX9_holdsFrom_42 : decode cX9_holdsFrom 42 = .ok (.getfield 25, 3) := by decide +kernel
theorem dX9_holdsFrom_45 : decode cX9_holdsFrom 45 = .ok (.iload_n 2, 1) := by decide +kernel
theorem dX9_holdsFrom_46 : decode cX9_holdsFrom 46 = .ok (.iaload, 1) := by decide +kernel
theorem dX9_holdsFrom_47 : decode cX9_holdsFrom 47 = .ok (.bipush 97, 2) := by decide +kernel
theorem dX9_holdsFrom_49 : decode cX9_holdsFrom 49 = .ok (.isub, 1) := by decide +kernel
theorem dX9_holdsFrom_50 : decode cX9_holdsFrom 50 = .ok (.istore_n 3, 1) := by decide +kernel
theorem dX9_holdsFrom_51 : decode cX9_holdsFrom 51 = .ok (.iload_n 3, 1) := by decide +kernel
theorem dX9_holdsFrom_52 : decode cX9_holdsFrom 52 = .ok (.invokestatic 85, 3) := by decide +kernel
theorem dX9_holdsFrom_55 : decode cX9_holdsFrom 55 = .ok (.ifCond .eq 13, 3) := by decide +kernel
theorem dX9_holdsFrom_58 : decode cX9_holdsFrom 58 = .ok (.aload_n 0, 1) := by decide +kernel
theorem dX9_holdsFrom_59 : decode cX9_holdsFrom 59 = .ok (.getfield 37, 3) := by decide +kernel
theorem dX9_holdsFrom_62 : decode cX9_holdsFrom 62 = .ok (.iload_n 3, 1) := by decide +kernel
theorem dX9_holdsFrom_63 : decode cX9_holdsFrom 63 = .ok (.aload_n 0, 1) := by decide +kernel
theorem dX9_holdsFrom_64 : decode cX9_holdsFrom 64 = .ok (.getfield 102, 3) := by decide +kernel
theorem dX9_holdsFrom_67 : decode cX9_holdsFrom 67 = .ok (.iastore, 1) := by decide +kernel
theorem dX9_holdsFrom_68 : decode cX9_holdsFrom 68 = .ok (.aload_n 0, 1) := by decide +kernel
theorem dX9_holdsFrom_69 : decode cX9_holdsFrom 69 = .ok (.aload_n 0, 1) := by decide +kernel
theorem dX9_holdsFrom_70 : decode cX9_holdsFrom 70 = .ok (.getfield 25, 3) := by decide +kernel
theorem dX9_holdsFrom_73 : decode cX9_holdsFrom 73 = .ok (.iload_n 2, 1) := by decide +kernel
theorem dX9_holdsFrom_74 : decode cX9_holdsFrom 74 = .ok (.iaload, 1) := by decide +kernel
theorem dX9_holdsFrom_75 : decode cX9_holdsFrom 75 = .ok (.invokevirtual 141, 3) := by decide +kernel
theorem dX9_holdsFrom_78 : decode cX9_holdsFrom 78 = .ok (.iinc 2 1, 3) := by decide +kernel
theorem dX9_holdsFrom_81 : decode cX9_holdsFrom 81 = .ok (.goto (-48), 3) := by decide +kernel
theorem dX9_holdsFrom_84 : decode cX9_holdsFrom 84 = .ok (.iconst 1, 1) := by decide +kernel
theorem dX9_holdsFrom_85 : decode cX9_holdsFrom 85 = .ok (.istore_n 2, 1) := by decide +kernel
theorem dX9_holdsFrom_86 : decode cX9_holdsFrom 86 = .ok (.iconst 0, 1) := by decide +kernel
theorem dX9_holdsFrom_87 : decode cX9_holdsFrom 87 = .ok (.istore_n 3, 1) := by decide +kernel
theorem dX9_holdsFrom_88 : decode cX9_holdsFrom 88 = .ok (.iload_n 3, 1) := by decide +kernel
theorem dX9_holdsFrom_89 : decode cX9_holdsFrom 89 = .ok (.aload_n 0, 1) := by decide +kernel
theorem dX9_holdsFrom_90 : decode cX9_holdsFrom 90 = .ok (.getfield 214, 3) := by decide +kernel
theorem dX9_holdsFrom_93 : decode cX9_holdsFrom 93 = .ok (.if_icmp .ge 39, 3) := by decide +kernel
theorem dX9_holdsFrom_96 : decode cX9_holdsFrom 96 = .ok (.iload_n 2, 1) := by decide +kernel
theorem dX9_holdsFrom_97 : decode cX9_holdsFrom 97 = .ok (.ifCond .eq 27, 3) := by decide +kernel
theorem dX9_holdsFrom_100 : decode cX9_holdsFrom 100 = .ok (.aload_n 0, 1) := by decide +kernel
theorem dX9_holdsFrom_101 : decode cX9_holdsFrom 101 = .ok (.getfield 37, 3) := by decide +kernel
theorem dX9_holdsFrom_104 : decode cX9_holdsFrom 104 = .ok (.aload_n 0, 1) := by decide +kernel
theorem dX9_holdsFrom_105 : decode cX9_holdsFrom 105 = .ok (.getfield 19, 3) := by decide +kernel
theorem dX9_holdsFrom_108 : decode cX9_holdsFrom 108 = .ok (.iload_n 3, 1) := by decide +kernel
theorem dX9_holdsFrom_109 : decode cX9_holdsFrom 109 = .ok (.iaload, 1) := by decide +kernel
theorem dX9_holdsFrom_110 : decode cX9_holdsFrom 110 = .ok (.iaload, 1) := by decide +kernel
theorem dX9_holdsFrom_111 : decode cX9_holdsFrom 111 = .ok (.aload_n 0, 1) := by decide +kernel
theorem dX9_holdsFrom_112 : decode cX9_holdsFrom 112 = .ok (.getfield 22, 3) := by decide +kernel
theorem dX9_holdsFrom_115 : decode cX9_holdsFrom 115 = .ok (.iload_n 3, 1) := by decide +kernel
theorem dX9_holdsFrom_116 : decode cX9_holdsFrom 116 = .ok (.iaload, 1) := by decide +kernel
theorem dX9_holdsFrom_117 : decode cX9_holdsFrom 117 = .ok (.if_icmp .ne 7, 3) := by decide +kernel
theorem dX9_holdsFrom_120 : decode cX9_holdsFrom 120 = .ok (.iconst 1, 1) := by decide +kernel
theorem dX9_holdsFrom_121 : decode cX9_holdsFrom 121 = .ok (.goto 4, 3) := by decide +kernel
theorem dX9_holdsFrom_124 : decode cX9_holdsFrom 124 = .ok (.iconst 0, 1) := by decide +kernel
theorem dX9_holdsFrom_125 : decode cX9_holdsFrom 125 = .ok (.istore_n 2, 1) := by decide +kernel
theorem dX9_holdsFrom_126 : decode cX9_holdsFrom 126 = .ok (.iinc 3 1, 3) := by decide +kernel
theorem dX9_holdsFrom_129 : decode cX9_holdsFrom 129 = .ok (.goto (-41), 3) := by decide +kernel
theorem dX9_holdsFrom_132 : decode cX9_holdsFrom 132 = .ok (.iload_n 2, 1) := by decide +kernel
theorem dX9_holdsFrom_133 : decode cX9_holdsFrom 133 = .ok (.ireturn, 1) := by decide +kernel
theorem dX9_starts_0 : decode cX9_starts 0 = .ok (.iload_n 1, 1) := by decide +kernel
theorem dX9_starts_1 : decode cX9_starts 1 = .ok (.i2l, 1) := by decide +kernel
theorem dX9_starts_2 : decode cX9_starts 2 = .ok (.lconst 0, 1) := by decide +kernel
theorem dX9_starts_3 : decode cX9_starts 3 = .ok (.ldc2_w 217, 3) := by decide +kernel
theorem dX9_starts_6 : decode cX9_starts 6 = .ok (.invokestatic 71, 3) := by decide +kernel
theorem dX9_starts_9 : decode cX9_starts 9 = .ok (.ifCond .ne 6, 3) := by decide +kernel
theorem dX9_starts_12 : decode cX9_starts 12 = .ok (.bipush (-2), 2) := by decide +kernel
theorem dX9_starts_14 : decode cX9_starts 14 = .ok (.ireturn, 1) := by decide +kernel
theorem dX9_starts_15 : decode cX9_starts 15 = .ok (.aload_n 0, 1) := by decide +kernel
theorem dX9_starts_16 : decode cX9_starts 16 = .ok (.invokevirtual 128, 3) := by decide +kernel
theorem dX9_starts_19 : decode cX9_starts 19 = .ok (.ifCond .lt 6, 3) := by decide +kernel
theorem dX9_starts_22 : decode cX9_starts 22 = .ok (.bipush (-5), 2) := by decide +kernel
theorem dX9_starts_24 : decode cX9_starts 24 = .ok (.ireturn, 1) := by decide +kernel
theorem dX9_starts_25 : decode cX9_starts 25 = .ok (.iconst 0, 1) := by decide +kernel
theorem dX9_starts_26 : decode cX9_starts 26 = .ok (.istore_n 2, 1) := by decide +kernel
theorem dX9_starts_27 : decode cX9_starts 27 = .ok (.bipush (-6), 2) := by decide +kernel
theorem dX9_starts_29 : decode cX9_starts 29 = .ok (.istore_n 3, 1) := by decide +kernel
theorem dX9_starts_30 : decode cX9_starts 30 = .ok (.bipush (-6), 2) := by decide +kernel
theorem dX9_starts_32 : decode cX9_starts 32 = .ok (.istore 4, 2) := by decide +kernel
theorem dX9_starts_34 : decode cX9_starts 34 = .ok (.iconst 0, 1) := by decide +kernel
theorem dX9_starts_35 : decode cX9_starts 35 = .ok (.istore 5, 2) := by decide +kernel
theorem dX9_starts_37 : decode cX9_starts 37 = .ok (.iload 5, 2) := by decide +kernel
theorem dX9_starts_39 : decode cX9_starts 39 = .ok (.bipush 100, 2) := by decide +kernel
theorem dX9_starts_41 : decode cX9_starts 41 = .ok (.if_icmp .ge 36, 3) := by decide +kernel
theorem dX9_starts_44 : decode cX9_starts 44 = .ok (.aload_n 0, 1) := by decide +kernel
theorem dX9_starts_45 : decode cX9_starts 45 = .ok (.iload 5, 2) := by decide +kernel
theorem dX9_starts_47 : decode cX9_starts 47 = .ok (.invokevirtual 219, 3) := by decide +kernel
theorem dX9_starts_50 : decode cX9_starts 50 = .ok (.ifCond .eq 21, 3) := by decide +kernel
theorem dX9_starts_53 : decode cX9_starts 53 = .ok (.iload_n 2, 1) := by decide +kernel
theorem dX9_starts_54 : decode cX9_starts 54 = .ok (.ifCond .ne 8, 3) := by decide +kernel
theorem dX9_starts_57 : decode cX9_starts 57 = .ok (.iload 5, 2) := by decide +kernel
theorem dX9_starts_59 : decode cX9_starts 59 = .ok (.goto 4, 3) := by decide +kernel
theorem dX9_starts_62 : decode cX9_starts 62 = .ok (.iload_n 3, 1) := by decide +kernel
theorem dX9_starts_63 : decode cX9_starts 63 = .ok (.istore_n 3, 1) := by decide +kernel
theorem dX9_starts_64 : decode cX9_starts 64 = .ok (.iload 5, 2) := by decide +kernel
theorem dX9_starts_66 : decode cX9_starts 66 = .ok (.istore 4, 2) := by decide +kernel
theorem dX9_starts_68 : decode cX9_starts 68 = .ok (.iinc 2 1, 3) := by decide +kernel
theorem dX9_starts_71 : decode cX9_starts 71 = .ok (.iinc 5 1, 3) := by decide +kernel
theorem dX9_starts_74 : decode cX9_starts 74 = .ok (.goto (-37), 3) := by decide +kernel
theorem dX9_starts_77 : decode cX9_starts 77 = .ok (.iload_n 1, 1) := by decide +kernel
theorem dX9_starts_78 : decode cX9_starts 78 = .ok (.ifCond .ne 7, 3) := by decide +kernel
theorem dX9_starts_81 : decode cX9_starts 81 = .ok (.iload_n 2, 1) := by decide +kernel
theorem dX9_starts_82 : decode cX9_starts 82 = .ok (.goto 14, 3) := by decide +kernel
theorem dX9_starts_85 : decode cX9_starts 85 = .ok (.iload_n 1, 1) := by decide +kernel
theorem dX9_starts_86 : decode cX9_starts 86 = .ok (.iconst 1, 1) := by decide +kernel
theorem dX9_starts_87 : decode cX9_starts 87 = .ok (.if_icmp .ne 7, 3) := by decide +kernel
theorem dX9_starts_90 : decode cX9_starts 90 = .ok (.iload_n 3, 1) := by decide +kernel
theorem dX9_starts_91 : decode cX9_starts 91 = .ok (.goto 5, 3) := by decide +kernel
theorem dX9_starts_94 : decode cX9_starts 94 = .ok (.iload 4, 2) := by decide +kernel
theorem dX9_starts_96 : decode cX9_starts 96 = .ok (.ireturn, 1) := by decide +kernel
theorem dX9_ahead_0 : decode cX9_ahead 0 = .ok (.iload_n 1, 1) := by decide +kernel
theorem dX9_ahead_1 : decode cX9_ahead 1 = .ok (.i2l, 1) := by decide +kernel
theorem dX9_ahead_2 : decode cX9_ahead 2 = .ok (.lconst 0, 1) := by decide +kernel
theorem dX9_ahead_3 : decode cX9_ahead 3 = .ok (.ldc2_w 222, 3) := by decide +kernel
theorem dX9_ahead_6 : decode cX9_ahead 6 = .ok (.invokestatic 71, 3) := by decide +kernel
theorem dX9_ahead_9 : decode cX9_ahead 9 = .ok (.ifCond .eq 13, 3) := by decide +kernel
theorem dX9_ahead_12 : decode cX9_ahead 12 = .ok (.iload_n 2, 1) := by decide +kernel
theorem dX9_ahead_13 : decode cX9_ahead 13 = .ok (.i2l, 1) := by decide +kernel
theorem dX9_ahead_14 : decode cX9_ahead 14 = .ok (.lconst 0, 1) := by decide +kernel
theorem dX9_ahead_15 : decode cX9_ahead 15 = .ok (.lconst 1, 1) := by decide +kernel
theorem dX9_ahead_16 : decode cX9_ahead 16 = .ok (.invokestatic 71, 3) := by decide +kernel
theorem dX9_ahead_19 : decode cX9_ahead 19 = .ok (.ifCond .ne 6, 3) := by decide +kernel
theorem dX9_ahead_22 : decode cX9_ahead 22 = .ok (.bipush (-2), 2) := by decide +kernel
theorem dX9_ahead_24 : decode cX9_ahead 24 = .ok (.ireturn, 1) := by decide +kernel
theorem dX9_ahead_25 : decode cX9_ahead 25 = .ok (.aload_n 0, 1) := by decide +kernel
theorem dX9_ahead_26 : decode cX9_ahead 26 = .ok (.bipush 60, 2) := by decide +kernel
theorem dX9_ahead_28 : decode cX9_ahead 28 = .ok (.invokevirtual 170, 3) := by decide +kernel
theorem dX9_ahead_31 : decode cX9_ahead 31 = .ok (.istore_n 3, 1) := by decide +kernel
theorem dX9_ahead_32 : decode cX9_ahead 32 = .ok (.iload_n 3, 1) := by decide +kernel
theorem dX9_ahead_33 : decode cX9_ahead 33 = .ok (.bipush (-6), 2) := by decide +kernel
theorem dX9_ahead_35 : decode cX9_ahead 35 = .ok (.if_icmp .eq 5, 3) := by decide +kernel
theorem dX9_ahead_38 : decode cX9_ahead 38 = .ok (.iload_n 3, 1) := by decide +kernel
theorem dX9_ahead_39 : decode cX9_ahead 39 = .ok (.ireturn, 1) := by decide +kernel
theorem dX9_ahead_40 : decode cX9_ahead 40 = .ok (.aload_n 0, 1) := by decide +kernel
theorem dX9_ahead_41 : decode cX9_ahead 41 = .ok (.bipush 46, 2) := by decide +kernel
theorem dX9_ahead_43 : decode cX9_ahead 43 = .ok (.invokevirtual 133, 3) := by decide +kernel
theorem dX9_ahead_46 : decode cX9_ahead 46 = .ok (.istore 4, 2) := by decide +kernel
theorem dX9_ahead_48 : decode cX9_ahead 48 = .ok (.aload_n 0, 1) := by decide +kernel
theorem dX9_ahead_49 : decode cX9_ahead 49 = .ok (.invokevirtual 138, 3) := by decide +kernel
theorem dX9_ahead_52 : decode cX9_ahead 52 = .ok (.iconst 0, 1) := by decide +kernel
theorem dX9_ahead_53 : decode cX9_ahead 53 = .ok (.istore 5, 2) := by decide +kernel
theorem dX9_ahead_55 : decode cX9_ahead 55 = .ok (.iload 5, 2) := by decide +kernel
theorem dX9_ahead_57 : decode cX9_ahead 57 = .ok (.iload 4, 2) := by decide +kernel
theorem dX9_ahead_59 : decode cX9_ahead 59 = .ok (.if_icmp .ge 24, 3) := by decide +kernel
theorem dX9_ahead_62 : decode cX9_ahead 62 = .ok (.aload_n 0, 1) := by decide +kernel
theorem dX9_ahead_63 : decode cX9_ahead 63 = .ok (.invokevirtual 121, 3) := by decide +kernel
theorem dX9_ahead_66 : decode cX9_ahead 66 = .ok (.aload_n 0, 1) := by decide +kernel
theorem dX9_ahead_67 : decode cX9_ahead 67 = .ok (.getfield 40, 3) := by decide +kernel
theorem dX9_ahead_70 : decode cX9_ahead 70 = .ok (.iload 5, 2) := by decide +kernel
theorem dX9_ahead_72 : decode cX9_ahead 72 = .ok (.aload_n 0, 1) := by decide +kernel
theorem dX9_ahead_73 : decode cX9_ahead 73 = .ok (.getfield 102, 3) := by decide +kernel
theorem dX9_ahead_76 : decode cX9_ahead 76 = .ok (.iastore, 1) := by decide +kernel
theorem dX9_ahead_77 : decode cX9_ahead 77 = .ok (.iinc 5 1, 3) := by decide +kernel
theorem dX9_ahead_80 : decode cX9_ahead 80 = .ok (.goto (-25), 3) := by decide +kernel
theorem dX9_ahead_83 : decode cX9_ahead 83 = .ok (.aload_n 0, 1) := by decide +kernel
theorem dX9_ahead_84 : decode cX9_ahead 84 = .ok (.aload_n 0, 1) := by decide +kernel
theorem dX9_ahead_85 : decode cX9_ahead 85 = .ok (.getfield 54, 3) := by decide +kernel
theorem dX9_ahead_88 : decode cX9_ahead 88 = .ok (.aload_n 0, 1) := by decide +kernel
theorem dX9_ahead_89 : decode cX9_ahead 89 = .ok (.invokevirtual 98, 3) := by decide +kernel
theorem dX9_ahead_92 : decode cX9_ahead 92 = .ok (.iload_n 1, 1) := by decide +kernel
theorem dX9_ahead_93 : decode cX9_ahead 93 = .ok (.iand, 1) := by decide +kernel
theorem dX9_ahead_94 : decode cX9_ahead 94 = .ok (.invokevirtual 114, 3) := by decide +kernel
theorem dX9_ahead_97 : decode cX9_ahead 97 = .ok (.iconst 0, 1) := by decide +kernel
theorem dX9_ahead_98 : decode cX9_ahead 98 = .ok (.istore 5, 2) := by decide +kernel
theorem dX9_ahead_100 : decode cX9_ahead 100 = .ok (.iconst 0, 1) := by decide +kernel
theorem dX9_ahead_101 : decode cX9_ahead 101 = .ok (.istore 6, 2) := by decide +kernel
theorem dX9_ahead_103 : decode cX9_ahead 103 = .ok (.iload 6, 2) := by decide +kernel
theorem dX9_ahead_105 : decode cX9_ahead 105 = .ok (.iload 4, 2) := by decide +kernel
theorem dX9_ahead_107 : decode cX9_ahead 107 = .ok (.if_icmp .ge 63, 3) := by decide +kernel
theorem dX9_ahead_110 : decode cX9_ahead 110 = .ok (.aload_n 0, 1) := by decide +kernel
theorem dX9_ahead_111 : decode cX9_ahead 111 = .ok (.invokevirtual 121, 3) := by decide +kernel
theorem dX9_ahead_114 : decode cX9_ahead 114 = .ok (.iload 5, 2) := by decide +kernel
theorem dX9_ahead_116 : decode cX9_ahead 116 = .ok (.iload_n 2, 1) := by decide +kernel
theorem dX9_ahead_117 : decode cX9_ahead 117 = .ok (.ifCond .ne 25, 3) := by decide +kernel
theorem dX9_ahead_120 : decode cX9_ahead 120 = .ok (.aload_n 0, 1) := by decide +kernel
theorem dX9_ahead_121 : decode cX9_ahead 121 = .ok (.getfield 40, 3) := by decide +kernel
theorem dX9_ahead_124 : decode cX9_ahead 124 = .ok (.iload 6, 2) := by decide +kernel
theorem dX9_ahead_126 : decode cX9_ahead 126 = .ok (.iaload, 1) := by decide +kernel
theorem dX9_ahead_127 : decode cX9_ahead 127 = .ok (.aload_n 0, 1) := by decide +kernel
theorem dX9_ahead_128 : decode cX9_ahead 128 = .ok (.getfield 102, 3) := by decide +kernel
theorem dX9_ahead_131 : decode cX9_ahead 131 = .ok (.if_icmp .le 7, 3) := by decide +kernel
theorem dX9_ahead_134 : decode cX9_ahead 134 = .ok (.iconst 1, 1) := by decide +kernel
theorem dX9_ahead_135 : decode cX9_ahead 135 = .ok (.goto 26, 3) := by decide +kernel
theorem dX9_ahead_138 : decode cX9_ahead 138 = .ok (.iconst 0, 1) := by decide +kernel
theorem dX9_ahead_139 : decode cX9_ahead 139 = .ok (.goto 22, 3) := by decide +kernel
theorem dX9_ahead_142 : decode cX9_ahead 142 = .ok (.aload_n 0, 1) := by decide +kernel
theorem dX9_ahead_143 : decode cX9_ahead 143 = .ok (.getfield 102, 3) := by decide +kernel
theorem dX9_ahead_146 : decode cX9_ahead 146 = .ok (.aload_n 0, 1) := by decide +kernel
theorem dX9_ahead_147 : decode cX9_ahead 147 = .ok (.getfield 40, 3) := by decide +kernel
theorem dX9_ahead_150 : decode cX9_ahead 150 = .ok (.iload 6, 2) := by decide +kernel
theorem dX9_ahead_152 : decode cX9_ahead 152 = .ok (.iaload, 1) := by decide +kernel
theorem dX9_ahead_153 : decode cX9_ahead 153 = .ok (.if_icmp .le 7, 3) := by decide +kernel
theorem dX9_ahead_156 : decode cX9_ahead 156 = .ok (.iconst 1, 1) := by decide +kernel
theorem dX9_ahead_157 : decode cX9_ahead 157 = .ok (.goto 4, 3) := by decide +kernel
theorem dX9_ahead_160 : decode cX9_ahead 160 = .ok (.iconst 0, 1) := by decide +kernel
theorem dX9_ahead_161 : decode cX9_ahead 161 = .ok (.iadd, 1) := by decide +kernel
theorem dX9_ahead_162 : decode cX9_ahead 162 = .ok (.istore 5, 2) := by decide +kernel
theorem dX9_ahead_164 : decode cX9_ahead 164 = .ok (.iinc 6 1, 3) := by decide +kernel
theorem dX9_ahead_167 : decode cX9_ahead 167 = .ok (.goto (-64), 3) := by decide +kernel
theorem dX9_ahead_170 : decode cX9_ahead 170 = .ok (.iload 5, 2) := by decide +kernel
theorem dX9_ahead_172 : decode cX9_ahead 172 = .ok (.ireturn, 1) := by decide +kernel
theorem dX9_year_0 : decode cX9_year 0 = .ok (.iload_n 1, 1) := by decide +kernel
theorem dX9_year_1 : decode cX9_year 1 = .ok (.i2l, 1) := by decide +kernel
theorem dX9_year_2 : decode cX9_year 2 = .ok (.lconst 0, 1) := by decide +kernel
theorem dX9_year_3 : decode cX9_year 3 = .ok (.ldc2_w 224, 3) := by decide +kernel
theorem dX9_year_6 : decode cX9_year 6 = .ok (.invokestatic 71, 3) := by decide +kernel
theorem dX9_year_9 : decode cX9_year 9 = .ok (.ifCond .eq 27, 3) := by decide +kernel
theorem dX9_year_12 : decode cX9_year 12 = .ok (.iload_n 2, 1) := by decide +kernel
theorem dX9_year_13 : decode cX9_year 13 = .ok (.i2l, 1) := by decide +kernel
theorem dX9_year_14 : decode cX9_year 14 = .ok (.lconst 1, 1) := by decide +kernel
theorem dX9_year_15 : decode cX9_year 15 = .ok (.ldc2_w 226, 3) := by decide +kernel
theorem dX9_year_18 : decode cX9_year 18 = .ok (.invokestatic 71, 3) := by decide +kernel
theorem dX9_year_21 : decode cX9_year 21 = .ok (.ifCond .eq 15, 3) := by decide +kernel
theorem dX9_year_24 : decode cX9_year 24 = .ok (.iload_n 3, 1) := by decide +kernel
theorem dX9_year_25 : decode cX9_year 25 = .ok (.i2l, 1) := by decide +kernel
theorem dX9_year_26 : decode cX9_year 26 = .ok (.lconst 0, 1) := by decide +kernel
theorem dX9_year_27 : decode cX9_year 27 = .ok (.ldc2_w 217, 3) := by decide +kernel
theorem dX9_year_30 : decode cX9_year 30 = .ok (.invokestatic 71, 3) := by decide +kernel
theorem dX9_year_33 : decode cX9_year 33 = .ok (.ifCond .ne 6, 3) := by decide +kernel
theorem dX9_year_36 : decode cX9_year 36 = .ok (.bipush (-2), 2) := by decide +kernel
theorem dX9_year_38 : decode cX9_year 38 = .ok (.ireturn, 1) := by decide +kernel
theorem dX9_year_39 : decode cX9_year 39 = .ok (.iload_n 1, 1) := by decide +kernel
theorem dX9_year_40 : decode cX9_year 40 = .ok (.istore 4, 2) := by decide +kernel
theorem dX9_year_42 : decode cX9_year 42 = .ok (.iconst 0, 1) := by decide +kernel
theorem dX9_year_43 : decode cX9_year 43 = .ok (.istore 5, 2) := by decide +kernel
theorem dX9_year_45 : decode cX9_year 45 = .ok (.ldc 173, 2) := by decide +kernel
theorem dX9_year_47 : decode cX9_year 47 = .ok (.istore 6, 2) := by decide +kernel
theorem dX9_year_49 : decode cX9_year 49 = .ok (.ldc 228, 2) := by decide +kernel
theorem dX9_year_51 : decode cX9_year 51 = .ok (.istore 7, 2) := by decide +kernel
theorem dX9_year_53 : decode cX9_year 53 = .ok (.iconst 0, 1) := by decide +kernel
theorem dX9_year_54 : decode cX9_year 54 = .ok (.istore 8, 2) := by decide +kernel
theorem dX9_year_56 : decode cX9_year 56 = .ok (.iload 8, 2) := by decide +kernel
theorem dX9_year_58 : decode cX9_year 58 = .ok (.iload_n 2, 1) := by decide +kernel
theorem dX9_year_59 : decode cX9_year 59 = .ok (.if_icmp .ge 120, 3) := by decide +kernel
theorem dX9_year_62 : decode cX9_year 62 = .ok (.aload_n 0, 1) := by decide +kernel
theorem dX9_year_63 : decode cX9_year 63 = .ok (.invokevirtual 138, 3) := by decide +kernel
theorem dX9_year_66 : decode cX9_year 66 = .ok (.iconst 0, 1) := by decide +kernel
theorem dX9_year_67 : decode cX9_year 67 = .ok (.istore 9, 2) := by decide +kernel
theorem dX9_year_69 : decode cX9_year 69 = .ok (.iload 9, 2) := by decide +kernel
theorem dX9_year_71 : decode cX9_year 71 = .ok (.bipush 10, 2) := by decide +kernel
theorem dX9_year_73 : decode cX9_year 73 = .ok (.if_icmp .ge 51, 3) := by decide +kernel
theorem dX9_year_76 : decode cX9_year 76 = .ok (.ldc2_w 229, 3) := by decide +kernel
theorem dX9_year_79 : decode cX9_year 79 = .ok (.iload 4, 2) := by decide +kernel
theorem dX9_year_81 : decode cX9_year 81 = .ok (.i2l, 1) := by decide +kernel
theorem dX9_year_82 : decode cX9_year 82 = .ok (.lmul, 1) := by decide +kernel
theorem dX9_year_83 : decode cX9_year 83 = .ok (.ldc2_w 231, 3) := by decide +kernel
theorem dX9_year_86 : decode cX9_year 86 = .ok (.ladd, 1) := by decide +kernel
theorem dX9_year_87 : decode cX9_year 87 = .ok (.ldc2_w 233, 3) := by decide +kernel
theorem dX9_year_90 : decode cX9_year 90 = .ok (.lrem, 1) := by decide +kernel
theorem dX9_year_91 : decode cX9_year 91 = .ok (.l2i, 1) := by decide +kernel
theorem dX9_year_92 : decode cX9_year 92 = .ok (.istore 4, 2) := by decide +kernel
theorem dX9_year_94 : decode cX9_year 94 = .ok (.aload_n 0, 1) := by decide +kernel
theorem dX9_year_95 : decode cX9_year 95 = .ok (.iload 4, 2) := by decide +kernel
theorem dX9_year_97 : decode cX9_year 97 = .ok (.iconst 4, 1) := by decide +kernel
theorem dX9_year_98 : decode cX9_year 98 = .ok (.irem, 1) := by decide +kernel
theorem dX9_year_99 : decode cX9_year 99 = .ok (.ifCond .ne 10, 3) := by decide +kernel
theorem dX9_year_102 : decode cX9_year 102 = .ok (.aload_n 0, 1) := by decide +kernel
theorem dX9_year_103 : decode cX9_year 103 = .ok (.invokevirtual 193, 3) := by decide +kernel
theorem dX9_year_106 : decode cX9_year 106 = .ok (.goto 5, 3) := by decide +kernel
theorem dX9_year_109 : decode cX9_year 109 = .ok (.bipush (-6), 2) := by decide +kernel
theorem dX9_year_111 : decode cX9_year 111 = .ok (.invokevirtual 124, 3) := by decide +kernel
theorem dX9_year_114 : decode cX9_year 114 = .ok (.aload_n 0, 1) := by decide +kernel
theorem dX9_year_115 : decode cX9_year 115 = .ok (.invokevirtual 121, 3) := by decide +kernel
theorem dX9_year_118 : decode cX9_year 118 = .ok (.iinc 9 1, 3) := by decide +kernel
theorem dX9_year_121 : decode cX9_year 121 = .ok (.goto (-52), 3) := by decide +kernel
theorem dX9_year_124 : decode cX9_year 124 = .ok (.iload 5, 2) := by decide +kernel
theorem dX9_year_126 : decode cX9_year 126 = .ok (.aload_n 0, 1) := by decide +kernel
theorem dX9_year_127 : decode cX9_year 127 = .ok (.getfield 102, 3) := by decide +kernel
theorem dX9_year_130 : decode cX9_year 130 = .ok (.iadd, 1) := by decide +kernel
theorem dX9_year_131 : decode cX9_year 131 = .ok (.istore 5, 2) := by decide +kernel
theorem dX9_year_133 : decode cX9_year 133 = .ok (.aload_n 0, 1) := by decide +kernel
theorem dX9_year_134 : decode cX9_year 134 = .ok (.getfield 102, 3) := by decide +kernel
theorem dX9_year_137 : decode cX9_year 137 = .ok (.iload 6, 2) := by decide +kernel
theorem dX9_year_139 : decode cX9_year 139 = .ok (.if_icmp .ge 10, 3) := by decide +kernel
theorem dX9_year_142 : decode cX9_year 142 = .ok (.aload_n 0, 1) := by decide +kernel
theorem dX9_year_143 : decode cX9_year 143 = .ok (.getfield 102, 3) := by decide +kernel
theorem dX9_year_146 : decode cX9_year 146 = .ok (.goto 5, 3) := by decide +kernel
theorem dX9_year_149 : decode cX9_year 149 = .ok (.iload 6, 2) := by decide +kernel
theorem dX9_year_151 : decode cX9_year 151 = .ok (.istore 6, 2) := by decide +kernel
theorem dX9_year_153 : decode cX9_year 153 = .ok (.aload_n 0, 1) := by decide +kernel
theorem dX9_year_154 : decode cX9_year 154 = .ok (.getfield 102, 3) := by decide +kernel
theorem dX9_year_157 : decode cX9_year 157 = .ok (.iload 7, 2) := by decide +kernel
theorem dX9_year_159 : decode cX9_year 159 = .ok (.if_icmp .le 10, 3) := by decide +kernel
theorem dX9_year_162 : decode cX9_year 162 = .ok (.aload_n 0, 1) := by decide +kernel
theorem dX9_year_163 : decode cX9_year 163 = .ok (.getfield 102, 3) := by decide +kernel
theorem dX9_year_166 : decode cX9_year 166 = .ok (.goto 5, 3) := by decide +kernel
theorem dX9_year_169 : decode cX9_year 169 = .ok (.iload 7, 2) := by decide +kernel
theorem dX9_year_171 : decode cX9_year 171 = .ok (.istore 7, 2) := by decide +kernel
theorem dX9_year_173 : decode cX9_year 173 = .ok (.iinc 8 1, 3) := by decide +kernel
theorem dX9_year_176 : decode cX9_year 176 = .ok (.goto (-120), 3) := by decide +kernel
theorem dX9_year_179 : decode cX9_year 179 = .ok (.iload_n 3, 1) := by decide +kernel
theorem dX9_year_180 : decode cX9_year 180 = .ok (.ifCond .ne 11, 3) := by decide +kernel
theorem dX9_year_183 : decode cX9_year 183 = .ok (.iload 5, 2) := by decide +kernel
theorem dX9_year_185 : decode cX9_year 185 = .ok (.ldc 173, 2) := by decide +kernel
theorem dX9_year_187 : decode cX9_year 187 = .ok (.iadd, 1) := by decide +kernel
theorem dX9_year_188 : decode cX9_year 188 = .ok (.goto 23, 3) := by decide +kernel
theorem dX9_year_191 : decode cX9_year 191 = .ok (.iload_n 3, 1) := by decide +kernel
theorem dX9_year_192 : decode cX9_year 192 = .ok (.iconst 1, 1) := by decide +kernel
theorem dX9_year_193 : decode cX9_year 193 = .ok (.if_icmp .ne 12, 3) := by decide +kernel
theorem dX9_year_196 : decode cX9_year 196 = .ok (.iload 6, 2) := by decide +kernel
theorem dX9_year_198 : decode cX9_year 198 = .ok (.sipush 1000, 3) := by decide +kernel
theorem dX9_year_201 : decode cX9_year 201 = .ok (.iadd, 1) := by decide +kernel
theorem dX9_year_202 : decode cX9_year 202 = .ok (.goto 9, 3) := by decide +kernel
theorem dX9_year_205 : decode cX9_year 205 = .ok (.iload 7, 2) := by decide +kernel
theorem dX9_year_207 : decode cX9_year 207 = .ok (.sipush 1000, 3) := by decide +kernel
theorem dX9_year_210 : decode cX9_year 210 = .ok (.iadd, 1) := by decide +kernel
theorem dX9_year_211 : decode cX9_year 211 = .ok (.ireturn, 1) := by decide +kernel
theorem dX9_pass_0 : decode cX9_pass 0 = .ok (.aload_n 0, 1) := by decide +kernel
theorem dX9_pass_1 : decode cX9_pass 1 = .ok (.getfield 235, 3) := by decide +kernel
theorem dX9_pass_4 : decode cX9_pass 4 = .ok (.ifCond .eq 7, 3) := by decide +kernel
theorem dX9_pass_7 : decode cX9_pass 7 = .ok (.iload_n 1, 1) := by decide +kernel
theorem dX9_pass_8 : decode cX9_pass 8 = .ok (.goto 12, 3) := by decide +kernel
theorem dX9_pass_11 : decode cX9_pass 11 = .ok (.aload_n 0, 1) := by decide +kernel
theorem dX9_pass_12 : decode cX9_pass 12 = .ok (.getfield 43, 3) := by decide +kernel
theorem dX9_pass_15 : decode cX9_pass 15 = .ok (.aload_n 0, 1) := by decide +kernel
theorem dX9_pass_16 : decode cX9_pass 16 = .ok (.getfield 239, 3) := by decide +kernel
theorem dX9_pass_19 : decode cX9_pass 19 = .ok (.iaload, 1) := by decide +kernel
theorem dX9_pass_20 : decode cX9_pass 20 = .ok (.istore_n 2, 1) := by decide +kernel
theorem dX9_pass_21 : decode cX9_pass 21 = .ok (.aload_n 0, 1) := by decide +kernel
theorem dX9_pass_22 : decode cX9_pass 22 = .ok (.getfield 43, 3) := by decide +kernel
theorem dX9_pass_25 : decode cX9_pass 25 = .ok (.aload_n 0, 1) := by decide +kernel
theorem dX9_pass_26 : decode cX9_pass 26 = .ok (.getfield 239, 3) := by decide +kernel
theorem dX9_pass_29 : decode cX9_pass 29 = .ok (.iload_n 2, 1) := by decide +kernel
theorem dX9_pass_30 : decode cX9_pass 30 = .ok (.iastore, 1) := by decide +kernel
theorem dX9_pass_31 : decode cX9_pass 31 = .ok (.aload_n 0, 1) := by decide +kernel
theorem dX9_pass_32 : decode cX9_pass 32 = .ok (.dup, 1) := by decide +kernel
theorem dX9_pass_33 : decode cX9_pass 33 = .ok (.getfield 239, 3) := by decide +kernel
theorem dX9_pass_36 : decode cX9_pass 36 = .ok (.iconst 1, 1) := by decide +kernel
theorem dX9_pass_37 : decode cX9_pass 37 = .ok (.iadd, 1) := by decide +kernel
theorem dX9_pass_38 : decode cX9_pass 38 = .ok (.putfield 239, 3) := by decide +kernel
theorem dX9_pass_41 : decode cX9_pass 41 = .ok (.iload_n 2, 1) := by decide +kernel
theorem dX9_pass_42 : decode cX9_pass 42 = .ok (.ireturn, 1) := by decide +kernel
theorem dX9_passAll_0 : decode cX9_passAll 0 = .ok (.aload_n 0, 1) := by decide +kernel
theorem dX9_passAll_1 : decode cX9_passAll 1 = .ok (.aload_n 0, 1) := by decide +kernel
theorem dX9_passAll_2 : decode cX9_passAll 2 = .ok (.aload_n 0, 1) := by decide +kernel
theorem dX9_passAll_3 : decode cX9_passAll 3 = .ok (.getfield 50, 3) := by decide +kernel
theorem dX9_passAll_6 : decode cX9_passAll 6 = .ok (.invokevirtual 242, 3) := by decide +kernel
theorem dX9_passAll_9 : decode cX9_passAll 9 = .ok (.putfield 50, 3) := by decide +kernel
theorem dX9_passAll_12 : decode cX9_passAll 12 = .ok (.aload_n 0, 1) := by decide +kernel
theorem dX9_passAll_13 : decode cX9_passAll 13 = .ok (.aload_n 0, 1) := by decide +kernel
theorem dX9_passAll_14 : decode cX9_passAll 14 = .ok (.aload_n 0, 1) := by decide +kernel
theorem dX9_passAll_15 : decode cX9_passAll 15 = .ok (.getfield 54, 3) := by decide +kernel
theorem dX9_passAll_18 : decode cX9_passAll 18 = .ok (.invokevirtual 242, 3) := by decide +kernel
theorem dX9_passAll_21 : decode cX9_passAll 21 = .ok (.putfield 54, 3) := by decide +kernel
theorem dX9_passAll_24 : decode cX9_passAll 24 = .ok (.aload_n 0, 1) := by decide +kernel
theorem dX9_passAll_25 : decode cX9_passAll 25 = .ok (.aload_n 0, 1) := by decide +kernel
theorem dX9_passAll_26 : decode cX9_passAll 26 = .ok (.aload_n 0, 1) := by decide +kernel
theorem dX9_passAll_27 : decode cX9_passAll 27 = .ok (.getfield 57, 3) := by decide +kernel
theorem dX9_passAll_30 : decode cX9_passAll 30 = .ok (.invokevirtual 242, 3) := by decide +kernel
theorem dX9_passAll_33 : decode cX9_passAll 33 = .ok (.putfield 57, 3) := by decide +kernel
theorem dX9_passAll_36 : decode cX9_passAll 36 = .ok (.aload_n 0, 1) := by decide +kernel
theorem dX9_passAll_37 : decode cX9_passAll 37 = .ok (.aload_n 0, 1) := by decide +kernel
theorem dX9_passAll_38 : decode cX9_passAll 38 = .ok (.aload_n 0, 1) := by decide +kernel
theorem dX9_passAll_39 : decode cX9_passAll 39 = .ok (.getfield 60, 3) := by decide +kernel
theorem dX9_passAll_42 : decode cX9_passAll 42 = .ok (.invokevirtual 242, 3) := by decide +kernel
theorem dX9_passAll_45 : decode cX9_passAll 45 = .ok (.putfield 60, 3) := by decide +kernel
theorem dX9_passAll_48 : decode cX9_passAll 48 = .ok (.aload_n 0, 1) := by decide +kernel
theorem dX9_passAll_49 : decode cX9_passAll 49 = .ok (.aload_n 0, 1) := by decide +kernel
theorem dX9_passAll_50 : decode cX9_passAll 50 = .ok (.aload_n 0, 1) := by decide +kernel
theorem dX9_passAll_51 : decode cX9_passAll 51 = .ok (.getfield 63, 3) := by decide +kernel
theorem dX9_passAll_54 : decode cX9_passAll 54 = .ok (.invokevirtual 242, 3) := by decide +kernel
theorem dX9_passAll_57 : decode cX9_passAll 57 = .ok (.putfield 63, 3) := by decide +kernel
theorem dX9_passAll_60 : decode cX9_passAll 60 = .ok (.aload_n 0, 1) := by decide +kernel
theorem dX9_passAll_61 : decode cX9_passAll 61 = .ok (.aload_n 0, 1) := by decide +kernel
theorem dX9_passAll_62 : decode cX9_passAll 62 = .ok (.aload_n 0, 1) := by decide +kernel
theorem dX9_passAll_63 : decode cX9_passAll 63 = .ok (.getfield 66, 3) := by decide +kernel
theorem dX9_passAll_66 : decode cX9_passAll 66 = .ok (.invokevirtual 242, 3) := by decide +kernel
theorem dX9_passAll_69 : decode cX9_passAll 69 = .ok (.putfield 66, 3) := by decide +kernel
theorem dX9_passAll_72 : decode cX9_passAll 72 = .ok (.aload_n 0, 1) := by decide +kernel
theorem dX9_passAll_73 : decode cX9_passAll 73 = .ok (.aload_n 0, 1) := by decide +kernel
theorem dX9_passAll_74 : decode cX9_passAll 74 = .ok (.aload_n 0, 1) := by decide +kernel
theorem dX9_passAll_75 : decode cX9_passAll 75 = .ok (.getfield 214, 3) := by decide +kernel
theorem dX9_passAll_78 : decode cX9_passAll 78 = .ok (.invokevirtual 242, 3) := by decide +kernel
theorem dX9_passAll_81 : decode cX9_passAll 81 = .ok (.putfield 214, 3) := by decide +kernel
theorem dX9_passAll_84 : decode cX9_passAll 84 = .ok (.iconst 0, 1) := by decide +kernel
theorem dX9_passAll_85 : decode cX9_passAll 85 = .ok (.istore_n 1, 1) := by decide +kernel
theorem dX9_passAll_86 : decode cX9_passAll 86 = .ok (.iload_n 1, 1) := by decide +kernel
theorem dX9_passAll_87 : decode cX9_passAll 87 = .ok (.iconst 5, 1) := by decide +kernel
theorem dX9_passAll_88 : decode cX9_passAll 88 = .ok (.if_icmp .ge 41, 3) := by decide +kernel
theorem dX9_passAll_91 : decode cX9_passAll 91 = .ok (.aload_n 0, 1) := by decide +kernel
theorem dX9_passAll_92 : decode cX9_passAll 92 = .ok (.getfield 7, 3) := by decide +kernel
theorem dX9_passAll_95 : decode cX9_passAll 95 = .ok (.iload_n 1, 1) := by decide +kernel
theorem dX9_passAll_96 : decode cX9_passAll 96 = .ok (.aload_n 0, 1) := by decide +kernel
theorem dX9_passAll_97 : decode cX9_passAll 97 = .ok (.aload_n 0, 1) := by decide +kernel
theorem dX9_passAll_98 : decode cX9_passAll 98 = .ok (.getfield 7, 3) := by decide +kernel
theorem dX9_passAll_101 : decode cX9_passAll 101 = .ok (.iload_n 1, 1) := by decide +kernel
theorem dX9_passAll_102 : decode cX9_passAll 102 = .ok (.iaload, 1) := by decide +kernel
theorem dX9_passAll_103 : decode cX9_passAll 103 = .ok (.invokevirtual 242, 3) := by decide +kernel
theorem dX9_passAll_106 : decode cX9_passAll 106 = .ok (.iastore, 1) := by decide +kernel
theorem dX9_passAll_107 : decode cX9_passAll 107 = .ok (.aload_n 0, 1) := by decide +kernel
theorem dX9_passAll_108 : decode cX9_passAll 108 = .ok (.getfield 13, 3) := by decide +kernel
theorem dX9_passAll_111 : decode cX9_passAll 111 = .ok (.iload_n 1, 1) := by decide +kernel
theorem dX9_passAll_112 : decode cX9_passAll 112 = .ok (.aload_n 0, 1) := by decide +kernel
theorem dX9_passAll_113 : decode cX9_passAll 113 = .ok (.aload_n 0, 1) := by decide +kernel
theorem dX9_passAll_114 : decode cX9_passAll 114 = .ok (.getfield 13, 3) := by decide +kernel
theorem dX9_passAll_117 : decode cX9_passAll 117 = .ok (.iload_n 1, 1) := by decide +kernel
theorem dX9_passAll_118 : decode cX9_passAll 118 = .ok (.iaload, 1) := by decide +kernel
theorem dX9_passAll_119 : decode cX9_passAll 119 = .ok (.invokevirtual 242, 3) := by decide +kernel
theorem dX9_passAll_122 : decode cX9_passAll 122 = .ok (.iastore, 1) := by decide +kernel
theorem dX9_passAll_123 : decode cX9_passAll 123 = .ok (.iinc 1 1, 3) := by decide +kernel
theorem dX9_passAll_126 : decode cX9_passAll 126 = .ok (.goto (-40), 3) := by decide +kernel
theorem dX9_passAll_129 : decode cX9_passAll 129 = .ok (.iconst 0, 1) := by decide +kernel
theorem dX9_passAll_130 : decode cX9_passAll 130 = .ok (.istore_n 1, 1) := by decide +kernel
theorem dX9_passAll_131 : decode cX9_passAll 131 = .ok (.iload_n 1, 1) := by decide +kernel
theorem dX9_passAll_132 : decode cX9_passAll 132 = .ok (.bipush 6, 2) := by decide +kernel
theorem dX9_passAll_134 : decode cX9_passAll 134 = .ok (.if_icmp .ge 57, 3) := by decide +kernel
theorem dX9_passAll_137 : decode cX9_passAll 137 = .ok (.aload_n 0, 1) := by decide +kernel
theorem dX9_passAll_138 : decode cX9_passAll 138 = .ok (.getfield 16, 3) := by decide +kernel
theorem dX9_passAll_141 : decode cX9_passAll 141 = .ok (.iload_n 1, 1) := by decide +kernel
theorem dX9_passAll_142 : decode cX9_passAll 142 = .ok (.aload_n 0, 1) := by decide +kernel
theorem dX9_passAll_143 : decode cX9_passAll 143 = .ok (.aload_n 0, 1) := by decide +kernel
theorem dX9_passAll_144 : decode cX9_passAll 144 = .ok (.getfield 16, 3) := by decide +kernel
theorem dX9_passAll_147 : decode cX9_passAll 147 = .ok (.iload_n 1, 1) := by decide +kernel
theorem dX9_passAll_148 : decode cX9_passAll 148 = .ok (.iaload, 1) := by decide +kernel
theorem dX9_passAll_149 : decode cX9_passAll 149 = .ok (.invokevirtual 242, 3) := by decide +kernel
theorem dX9_passAll_152 : decode cX9_passAll 152 = .ok (.iastore, 1) := by decide +kernel
theorem dX9_passAll_153 : decode cX9_passAll 153 = .ok (.aload_n 0, 1) := by decide +kernel
theorem dX9_passAll_154 : decode cX9_passAll 154 = .ok (.getfield 19, 3) := by decide +kernel
theorem dX9_passAll_157 : decode cX9_passAll 157 = .ok (.iload_n 1, 1) := by decide +kernel
theorem dX9_passAll_158 : decode cX9_passAll 158 = .ok (.aload_n 0, 1) := by decide +kernel
theorem dX9_passAll_159 : decode cX9_passAll 159 = .ok (.aload_n 0, 1) := by decide +kernel
theorem dX9_passAll_160 : decode cX9_passAll 160 = .ok (.getfield 19, 3) := by decide +kernel
theorem dX9_passAll_163 : decode cX9_passAll 163 = .ok (.iload_n 1, 1) := by decide +kernel
theorem dX9_passAll_164 : decode cX9_passAll 164 = .ok (.iaload, 1) := by decide +kernel
theorem dX9_passAll_165 : decode cX9_passAll 165 = .ok (.invokevirtual 242, 3) := by decide +kernel
theorem dX9_passAll_168 : decode cX9_passAll 168 = .ok (.iastore, 1) := by decide +kernel
theorem dX9_passAll_169 : decode cX9_passAll 169 = .ok (.aload_n 0, 1) := by decide +kernel
theorem dX9_passAll_170 : decode cX9_passAll 170 = .ok (.getfield 22, 3) := by decide +kernel
theorem dX9_passAll_173 : decode cX9_passAll 173 = .ok (.iload_n 1, 1) := by decide +kernel
theorem dX9_passAll_174 : decode cX9_passAll 174 = .ok (.aload_n 0, 1) := by decide +kernel
theorem dX9_passAll_175 : decode cX9_passAll 175 = .ok (.aload_n 0, 1) := by decide +kernel
theorem dX9_passAll_176 : decode cX9_passAll 176 = .ok (.getfield 22, 3) := by decide +kernel
theorem dX9_passAll_179 : decode cX9_passAll 179 = .ok (.iload_n 1, 1) := by decide +kernel
theorem dX9_passAll_180 : decode cX9_passAll 180 = .ok (.iaload, 1) := by decide +kernel
theorem dX9_passAll_181 : decode cX9_passAll 181 = .ok (.invokevirtual 242, 3) := by decide +kernel
theorem dX9_passAll_184 : decode cX9_passAll 184 = .ok (.iastore, 1) := by decide +kernel
theorem dX9_passAll_185 : decode cX9_passAll 185 = .ok (.iinc 1 1, 3) := by decide +kernel
theorem dX9_passAll_188 : decode cX9_passAll 188 = .ok (.goto (-57), 3) := by decide +kernel
theorem dX9_passAll_191 : decode cX9_passAll 191 = .ok (.return_, 1) := by decide +kernel
theorem dX9_image_0 : decode cX9_image 0 = .ok (.iload_n 1, 1) := by decide +kernel
theorem dX9_image_1 : decode cX9_image 1 = .ok (.i2l, 1) := by decide +kernel
theorem dX9_image_2 : decode cX9_image 2 = .ok (.lconst 0, 1) := by decide +kernel
theorem dX9_image_3 : decode cX9_image 3 = .ok (.lconst 1, 1) := by decide +kernel
theorem dX9_image_4 : decode cX9_image 4 = .ok (.invokestatic 71, 3) := by decide +kernel
theorem dX9_image_7 : decode cX9_image 7 = .ok (.ifCond .ne 6, 3) := by decide +kernel
theorem dX9_image_10 : decode cX9_image 10 = .ok (.bipush (-2), 2) := by decide +kernel
theorem dX9_image_12 : decode cX9_image 12 = .ok (.ireturn, 1) := by decide +kernel
theorem dX9_image_13 : decode cX9_image 13 = .ok (.aload_n 0, 1) := by decide +kernel
theorem dX9_image_14 : decode cX9_image 14 = .ok (.bipush 50, 2) := by decide +kernel
theorem dX9_image_16 : decode cX9_image 16 = .ok (.iload_n 1, 1) := by decide +kernel
theorem dX9_image_17 : decode cX9_image 17 = .ok (.imul, 1) := by decide +kernel
theorem dX9_image_18 : decode cX9_image 18 = .ok (.putfield 239, 3) := by decide +kernel
theorem dX9_image_21 : decode cX9_image 21 = .ok (.aload_n 0, 1) := by decide +kernel
theorem dX9_image_22 : decode cX9_image 22 = .ok (.iconst 1, 1) := by decide +kernel
theorem dX9_image_23 : decode cX9_image 23 = .ok (.putfield 235, 3) := by decide +kernel
theorem dX9_image_26 : decode cX9_image 26 = .ok (.aload_n 0, 1) := by decide +kernel
theorem dX9_image_27 : decode cX9_image 27 = .ok (.invokevirtual 245, 3) := by decide +kernel
theorem dX9_image_30 : decode cX9_image 30 = .ok (.aload_n 0, 1) := by decide +kernel
theorem dX9_image_31 : decode cX9_image 31 = .ok (.getfield 46, 3) := by decide +kernel
theorem dX9_image_34 : decode cX9_image 34 = .ok (.iload_n 1, 1) := by decide +kernel
theorem dX9_image_35 : decode cX9_image 35 = .ok (.iconst 1, 1) := by decide +kernel
theorem dX9_image_36 : decode cX9_image 36 = .ok (.bastore, 1) := by decide +kernel
theorem dX9_image_37 : decode cX9_image 37 = .ok (.iconst 1, 1) := by decide +kernel
theorem dX9_image_38 : decode cX9_image 38 = .ok (.ireturn, 1) := by decide +kernel
theorem dX9_restore_0 : decode cX9_restore 0 = .ok (.iload_n 1, 1) := by decide +kernel
theorem dX9_restore_1 : decode cX9_restore 1 = .ok (.i2l, 1) := by decide +kernel
theorem dX9_restore_2 : decode cX9_restore 2 = .ok (.lconst 0, 1) := by decide +kernel
theorem dX9_restore_3 : decode cX9_restore 3 = .ok (.lconst 1, 1) := by decide +kernel
theorem dX9_restore_4 : decode cX9_restore 4 = .ok (.invokestatic 71, 3) := by decide +kernel
theorem dX9_restore_7 : decode cX9_restore 7 = .ok (.ifCond .ne 6, 3) := by decide +kernel
theorem dX9_restore_10 : decode cX9_restore 10 = .ok (.bipush (-2), 2) := by decide +kernel
theorem dX9_restore_12 : decode cX9_restore 12 = .ok (.ireturn, 1) := by decide +kernel
theorem dX9_restore_13 : decode cX9_restore 13 = .ok (.aload_n 0, 1) := by decide +kernel
theorem dX9_restore_14 : decode cX9_restore 14 = .ok (.getfield 46, 3) := by decide +kernel
theorem dX9_restore_17 : decode cX9_restore 17 = .ok (.iload_n 1, 1) := by decide +kernel
theorem dX9_restore_18 : decode cX9_restore 18 = .ok (.baload, 1) := by decide +kernel
theorem dX9_restore_19 : decode cX9_restore 19 = .ok (.ifCond .ne 6, 3) := by decide +kernel
theorem dX9_restore_22 : decode cX9_restore 22 = .ok (.bipush (-3), 2) := by decide +kernel
theorem dX9_restore_24 : decode cX9_restore 24 = .ok (.ireturn, 1) := by decide +kernel
theorem dX9_restore_25 : decode cX9_restore 25 = .ok (.aload_n 0, 1) := by decide +kernel
theorem dX9_restore_26 : decode cX9_restore 26 = .ok (.bipush 50, 2) := by decide +kernel
theorem dX9_restore_28 : decode cX9_restore 28 = .ok (.iload_n 1, 1) := by decide +kernel
theorem dX9_restore_29 : decode cX9_restore 29 = .ok (.imul, 1) := by decide +kernel
theorem dX9_restore_30 : decode cX9_restore 30 = .ok (.putfield 239, 3) := by decide +kernel
theorem dX9_restore_33 : decode cX9_restore 33 = .ok (.aload_n 0, 1) := by decide +kernel
theorem dX9_restore_34 : decode cX9_restore 34 = .ok (.iconst 0, 1) := by decide +kernel
theorem dX9_restore_35 : decode cX9_restore 35 = .ok (.putfield 235, 3) := by decide +kernel
theorem dX9_restore_38 : decode cX9_restore 38 = .ok (.aload_n 0, 1) := by decide +kernel
theorem dX9_restore_39 : decode cX9_restore 39 = .ok (.invokevirtual 245, 3) := by decide +kernel
theorem dX9_restore_42 : decode cX9_restore 42 = .ok (.iconst 1, 1) := by decide +kernel
theorem dX9_restore_43 : decode cX9_restore 43 = .ok (.ireturn, 1) := by decide +kernel
theorem dX9_told_0 : decode cX9_told 0 = .ok (.iload_n 1, 1) := by decide +kernel
theorem dX9_told_1 : decode cX9_told 1 = .ok (.i2l, 1) := by decide +kernel
theorem dX9_told_2 : decode cX9_told 2 = .ok (.ldc2_w 196, 3) := by decide +kernel
theorem dX9_told_5 : decode cX9_told 5 = .ok (.ldc2_w 248, 3) := by decide +kernel
theorem dX9_told_8 : decode cX9_told 8 = .ok (.invokestatic 71, 3) := by decide +kernel
theorem dX9_told_11 : decode cX9_told 11 = .ok (.ifCond .eq 13, 3) := by decide +kernel
theorem dX9_told_14 : decode cX9_told 14 = .ok (.aload_n 0, 1) := by decide +kernel
theorem dX9_told_15 : decode cX9_told 15 = .ok (.getfield 16, 3) := by decide +kernel
theorem dX9_told_18 : decode cX9_told 18 = .ok (.iload_n 1, 1) := by decide +kernel
theorem dX9_told_19 : decode cX9_told 19 = .ok (.bipush 10, 2) := by decide +kernel
theorem dX9_told_21 : decode cX9_told 21 = .ok (.isub, 1) := by decide +kernel
theorem dX9_told_22 : decode cX9_told 22 = .ok (.iaload, 1) := by decide +kernel
theorem dX9_told_23 : decode cX9_told 23 = .ok (.ireturn, 1) := by decide +kernel
theorem dX9_told_24 : decode cX9_told 24 = .ok (.iload_n 1, 1) := by decide +kernel
theorem dX9_told_25 : decode cX9_told 25 = .ok (.i2l, 1) := by decide +kernel
theorem dX9_told_26 : decode cX9_told 26 = .ok (.ldc2_w 89, 3) := by decide +kernel
theorem dX9_told_29 : decode cX9_told 29 = .ok (.ldc2_w 250, 3) := by decide +kernel
theorem dX9_told_32 : decode cX9_told 32 = .ok (.invokestatic 71, 3) := by decide +kernel
theorem dX9_told_35 : decode cX9_told 35 = .ok (.ifCond .ne 17, 3) := by decide +kernel
theorem dX9_told_38 : decode cX9_told 38 = .ok (.iload_n 1, 1) := by decide +kernel
theorem dX9_told_39 : decode cX9_told 39 = .ok (.i2l, 1) := by decide +kernel
theorem dX9_told_40 : decode cX9_told 40 = .ok (.ldc2_w 252, 3) := by decide +kernel
theorem dX9_told_43 : decode cX9_told 43 = .ok (.ldc2_w 254, 3) := by decide +kernel
theorem dX9_told_46 : decode cX9_told 46 = .ok (.invokestatic 71, 3) := by decide +kernel
theorem dX9_told_49 : decode cX9_told 49 = .ok (.ifCond .eq 34, 3) := by decide +kernel
theorem dX9_told_52 : decode cX9_told 52 = .ok (.iload_n 1, 1) := by decide +kernel
theorem dX9_told_53 : decode cX9_told 53 = .ok (.bipush 30, 2) := by decide +kernel
theorem dX9_told_55 : decode cX9_told 55 = .ok (.if_icmp .ge 15, 3) := by decide +kernel
theorem dX9_told_58 : decode cX9_told 58 = .ok (.aload_n 0, 1) := by decide +kernel
theorem dX9_told_59 : decode cX9_told 59 = .ok (.getfield 7, 3) := by decide +kernel
theorem dX9_told_62 : decode cX9_told 62 = .ok (.iload_n 1, 1) := by decide +kernel
theorem dX9_told_63 : decode cX9_told 63 = .ok (.bipush 20, 2) := by decide +kernel
theorem dX9_told_65 : decode cX9_told 65 = .ok (.isub, 1) := by decide +kernel
theorem dX9_told_66 : decode cX9_told 66 = .ok (.iaload, 1) := by decide +kernel
theorem dX9_told_67 : decode cX9_told 67 = .ok (.goto 12, 3) := by decide +kernel
theorem dX9_told_70 : decode cX9_told 70 = .ok (.aload_n 0, 1) := by decide +kernel
theorem dX9_told_71 : decode cX9_told 71 = .ok (.getfield 13, 3) := by decide +kernel
theorem dX9_told_74 : decode cX9_told 74 = .ok (.iload_n 1, 1) := by decide +kernel
theorem dX9_told_75 : decode cX9_told 75 = .ok (.bipush 30, 2) := by decide +kernel
theorem dX9_told_77 : decode cX9_told 77 = .ok (.isub, 1) := by decide +kernel
theorem dX9_told_78 : decode cX9_told 78 = .ok (.iaload, 1) := by decide +kernel
theorem dX9_told_79 : decode cX9_told 79 = .ok (.bipush 100, 2) := by decide +kernel
theorem dX9_told_81 : decode cX9_told 81 = .ok (.iadd, 1) := by decide +kernel
theorem dX9_told_82 : decode cX9_told 82 = .ok (.ireturn, 1) := by decide +kernel
theorem dX9_told_83 : decode cX9_told 83 = .ok (.iload_n 1, 1) := by decide +kernel
theorem dX9_told_84 : decode cX9_told 84 = .ok (.tableswitch 88 0 7 #[48, 53, 58, 63, 68, 73, 78, 83], 48) := by decide +kernel
theorem dX9_told_132 : decode cX9_told 132 = .ok (.aload_n 0, 1) := by decide +kernel
theorem dX9_told_133 : decode cX9_told 133 = .ok (.getfield 95, 3) := by decide +kernel
theorem dX9_told_136 : decode cX9_told 136 = .ok (.ireturn, 1) := by decide +kernel
theorem dX9_told_137 : decode cX9_told 137 = .ok (.aload_n 0, 1) := by decide +kernel
theorem dX9_told_138 : decode cX9_told 138 = .ok (.getfield 50, 3) := by decide +kernel
theorem dX9_told_141 : decode cX9_told 141 = .ok (.ireturn, 1) := by decide +kernel
theorem dX9_told_142 : decode cX9_told 142 = .ok (.aload_n 0, 1) := by decide +kernel
theorem dX9_told_143 : decode cX9_told 143 = .ok (.getfield 54, 3) := by decide +kernel
theorem dX9_told_146 : decode cX9_told 146 = .ok (.ireturn, 1) := by decide +kernel
theorem dX9_told_147 : decode cX9_told 147 = .ok (.aload_n 0, 1) := by decide +kernel
theorem dX9_told_148 : decode cX9_told 148 = .ok (.getfield 57, 3) := by decide +kernel
theorem dX9_told_151 : decode cX9_told 151 = .ok (.ireturn, 1) := by decide +kernel
theorem dX9_told_152 : decode cX9_told 152 = .ok (.aload_n 0, 1) := by decide +kernel
theorem dX9_told_153 : decode cX9_told 153 = .ok (.getfield 60, 3) := by decide +kernel
theorem dX9_told_156 : decode cX9_told 156 = .ok (.ireturn, 1) := by decide +kernel
theorem dX9_told_157 : decode cX9_told 157 = .ok (.aload_n 0, 1) := by decide +kernel
theorem dX9_told_158 : decode cX9_told 158 = .ok (.getfield 63, 3) := by decide +kernel
theorem dX9_told_161 : decode cX9_told 161 = .ok (.ireturn, 1) := by decide +kernel
theorem dX9_told_162 : decode cX9_told 162 = .ok (.aload_n 0, 1) := by decide +kernel
theorem dX9_told_163 : decode cX9_told 163 = .ok (.getfield 66, 3) := by decide +kernel
theorem dX9_told_166 : decode cX9_told 166 = .ok (.ireturn, 1) := by decide +kernel
theorem dX9_told_167 : decode cX9_told 167 = .ok (.aload_n 0, 1) := by decide +kernel
theorem dX9_told_168 : decode cX9_told 168 = .ok (.getfield 214, 3) := by decide +kernel
theorem dX9_told_171 : decode cX9_told 171 = .ok (.ireturn, 1) := by decide +kernel
theorem dX9_told_172 : decode cX9_told 172 = .ok (.bipush (-2), 2) := by decide +kernel
theorem dX9_told_174 : decode cX9_told 174 = .ok (.ireturn, 1) := by decide +kernel
