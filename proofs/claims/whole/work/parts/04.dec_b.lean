/-! decode rows, as claim/NAMES.whole.lean.txt prints them -/
theorem dX8_init_0 : decode cX8_init 0 = .ok (.aload_n 0, 1) := by decide +kernel
theorem dX8_init_1 : decode cX8_init 1 = .ok (.invokespecial 3, 3) := by decide +kernel
theorem dX8_init_4 : decode cX8_init 4 = .ok (.aload_n 0, 1) := by decide +kernel
theorem dX8_init_5 : decode cX8_init 5 = .ok (.new 9, 3) := by decide +kernel
theorem dX8_init_8 : decode cX8_init 8 = .ok (.dup, 1) := by decide +kernel
theorem dX8_init_9 : decode cX8_init 9 = .ok (.invokespecial 11, 3) := by decide +kernel
theorem dX8_init_12 : decode cX8_init 12 = .ok (.putfield 12, 3) := by decide +kernel
theorem dX8_init_15 : decode cX8_init 15 = .ok (.aload_n 0, 1) := by decide +kernel
theorem dX8_init_16 : decode cX8_init 16 = .ok (.new 9, 3) := by decide +kernel
theorem dX8_init_19 : decode cX8_init 19 = .ok (.dup, 1) := by decide +kernel
theorem dX8_init_20 : decode cX8_init 20 = .ok (.invokespecial 11, 3) := by decide +kernel
theorem dX8_init_23 : decode cX8_init 23 = .ok (.putfield 16, 3) := by decide +kernel
theorem dX8_init_26 : decode cX8_init 26 = .ok (.aload_n 0, 1) := by decide +kernel
theorem dX8_init_27 : decode cX8_init 27 = .ok (.new 9, 3) := by decide +kernel
theorem dX8_init_30 : decode cX8_init 30 = .ok (.dup, 1) := by decide +kernel
theorem dX8_init_31 : decode cX8_init 31 = .ok (.invokespecial 11, 3) := by decide +kernel
theorem dX8_init_34 : decode cX8_init 34 = .ok (.putfield 19, 3) := by decide +kernel
theorem dX8_init_37 : decode cX8_init 37 = .ok (.aload_n 0, 1) := by decide +kernel
theorem dX8_init_38 : decode cX8_init 38 = .ok (.new 22, 3) := by decide +kernel
theorem dX8_init_41 : decode cX8_init 41 = .ok (.dup, 1) := by decide +kernel
theorem dX8_init_42 : decode cX8_init 42 = .ok (.invokespecial 24, 3) := by decide +kernel
theorem dX8_init_45 : decode cX8_init 45 = .ok (.putfield 25, 3) := by decide +kernel
theorem dX8_init_48 : decode cX8_init 48 = .ok (.aload_n 0, 1) := by decide +kernel
theorem dX8_init_49 : decode cX8_init 49 = .ok (.new 29, 3) := by decide +kernel
theorem dX8_init_52 : decode cX8_init 52 = .ok (.dup, 1) := by decide +kernel
theorem dX8_init_53 : decode cX8_init 53 = .ok (.invokespecial 31, 3) := by decide +kernel
theorem dX8_init_56 : decode cX8_init 56 = .ok (.putfield 32, 3) := by decide +kernel
theorem dX8_init_59 : decode cX8_init 59 = .ok (.aload_n 0, 1) := by decide +kernel
theorem dX8_init_60 : decode cX8_init 60 = .ok (.new 29, 3) := by decide +kernel
theorem dX8_init_63 : decode cX8_init 63 = .ok (.dup, 1) := by decide +kernel
theorem dX8_init_64 : decode cX8_init 64 = .ok (.invokespecial 31, 3) := by decide +kernel
theorem dX8_init_67 : decode cX8_init 67 = .ok (.putfield 36, 3) := by decide +kernel
theorem dX8_init_70 : decode cX8_init 70 = .ok (.aload_n 0, 1) := by decide +kernel
theorem dX8_init_71 : decode cX8_init 71 = .ok (.new 39, 3) := by decide +kernel
theorem dX8_init_74 : decode cX8_init 74 = .ok (.dup, 1) := by decide +kernel
theorem dX8_init_75 : decode cX8_init 75 = .ok (.invokespecial 41, 3) := by decide +kernel
theorem dX8_init_78 : decode cX8_init 78 = .ok (.putfield 42, 3) := by decide +kernel
theorem dX8_init_81 : decode cX8_init 81 = .ok (.aload_n 0, 1) := by decide +kernel
theorem dX8_init_82 : decode cX8_init 82 = .ok (.new 46, 3) := by decide +kernel
theorem dX8_init_85 : decode cX8_init 85 = .ok (.dup, 1) := by decide +kernel
theorem dX8_init_86 : decode cX8_init 86 = .ok (.invokespecial 48, 3) := by decide +kernel
theorem dX8_init_89 : decode cX8_init 89 = .ok (.putfield 49, 3) := by decide +kernel
theorem dX8_init_92 : decode cX8_init 92 = .ok (.aload_n 0, 1) := by decide +kernel
theorem dX8_init_93 : decode cX8_init 93 = .ok (.new 53, 3) := by decide +kernel
theorem dX8_init_96 : decode cX8_init 96 = .ok (.dup, 1) := by decide +kernel
theorem dX8_init_97 : decode cX8_init 97 = .ok (.invokespecial 55, 3) := by decide +kernel
theorem dX8_init_100 : decode cX8_init 100 = .ok (.putfield 56, 3) := by decide +kernel
theorem dX8_init_103 : decode cX8_init 103 = .ok (.aload_n 0, 1) := by decide +kernel
theorem dX8_init_104 : decode cX8_init 104 = .ok (.new 60, 3) := by decide +kernel
theorem dX8_init_107 : decode cX8_init 107 = .ok (.dup, 1) := by decide +kernel
theorem dX8_init_108 : decode cX8_init 108 = .ok (.invokespecial 62, 3) := by decide +kernel
theorem dX8_init_111 : decode cX8_init 111 = .ok (.putfield 63, 3) := by decide +kernel
theorem dX8_init_114 : decode cX8_init 114 = .ok (.aload_n 0, 1) := by decide +kernel
theorem dX8_init_115 : decode cX8_init 115 = .ok (.new 67, 3) := by decide +kernel
theorem dX8_init_118 : decode cX8_init 118 = .ok (.dup, 1) := by decide +kernel
theorem dX8_init_119 : decode cX8_init 119 = .ok (.invokespecial 69, 3) := by decide +kernel
theorem dX8_init_122 : decode cX8_init 122 = .ok (.putfield 70, 3) := by decide +kernel
theorem dX8_init_125 : decode cX8_init 125 = .ok (.return_, 1) := by decide +kernel
theorem dX8_wind_0 : decode cX8_wind 0 = .ok (.iload_n 1, 1) := by decide +kernel
theorem dX8_wind_1 : decode cX8_wind 1 = .ok (.iconst 0, 1) := by decide +kernel
theorem dX8_wind_2 : decode cX8_wind 2 = .ok (.iconst 4, 1) := by decide +kernel
theorem dX8_wind_3 : decode cX8_wind 3 = .ok (.invokestatic 74, 3) := by decide +kernel
theorem dX8_wind_6 : decode cX8_wind 6 = .ok (.ifCond .ne 5, 3) := by decide +kernel
theorem dX8_wind_9 : decode cX8_wind 9 = .ok (.iconst (-1), 1) := by decide +kernel
theorem dX8_wind_10 : decode cX8_wind 10 = .ok (.ireturn, 1) := by decide +kernel
theorem dX8_wind_11 : decode cX8_wind 11 = .ok (.iload_n 2, 1) := by decide +kernel
theorem dX8_wind_12 : decode cX8_wind 12 = .ok (.iconst 0, 1) := by decide +kernel
theorem dX8_wind_13 : decode cX8_wind 13 = .ok (.iconst 1, 1) := by decide +kernel
theorem dX8_wind_14 : decode cX8_wind 14 = .ok (.invokestatic 74, 3) := by decide +kernel
theorem dX8_wind_17 : decode cX8_wind 17 = .ok (.ifCond .eq 14, 3) := by decide +kernel
theorem dX8_wind_20 : decode cX8_wind 20 = .ok (.iload_n 3, 1) := by decide +kernel
theorem dX8_wind_21 : decode cX8_wind 21 = .ok (.bipush (-9), 2) := by decide +kernel
theorem dX8_wind_23 : decode cX8_wind 23 = .ok (.bipush 9, 2) := by decide +kernel
theorem dX8_wind_25 : decode cX8_wind 25 = .ok (.invokestatic 74, 3) := by decide +kernel
theorem dX8_wind_28 : decode cX8_wind 28 = .ok (.ifCond .ne 6, 3) := by decide +kernel
theorem dX8_wind_31 : decode cX8_wind 31 = .ok (.bipush (-2), 2) := by decide +kernel
theorem dX8_wind_33 : decode cX8_wind 33 = .ok (.ireturn, 1) := by decide +kernel
theorem dX8_wind_34 : decode cX8_wind 34 = .ok (.aload_n 0, 1) := by decide +kernel
theorem dX8_wind_35 : decode cX8_wind 35 = .ok (.getfield 12, 3) := by decide +kernel
theorem dX8_wind_38 : decode cX8_wind 38 = .ok (.iload_n 1, 1) := by decide +kernel
theorem dX8_wind_39 : decode cX8_wind 39 = .ok (.iload_n 2, 1) := by decide +kernel
theorem dX8_wind_40 : decode cX8_wind 40 = .ok (.invokevirtual 78, 3) := by decide +kernel
theorem dX8_wind_43 : decode cX8_wind 43 = .ok (.istore 4, 2) := by decide +kernel
theorem dX8_wind_45 : decode cX8_wind 45 = .ok (.aload_n 0, 1) := by decide +kernel
theorem dX8_wind_46 : decode cX8_wind 46 = .ok (.getfield 12, 3) := by decide +kernel
theorem dX8_wind_49 : decode cX8_wind 49 = .ok (.iload_n 1, 1) := by decide +kernel
theorem dX8_wind_50 : decode cX8_wind 50 = .ok (.iload_n 2, 1) := by decide +kernel
theorem dX8_wind_51 : decode cX8_wind 51 = .ok (.iload_n 3, 1) := by decide +kernel
theorem dX8_wind_52 : decode cX8_wind 52 = .ok (.invokevirtual 82, 3) := by decide +kernel
theorem dX8_wind_55 : decode cX8_wind 55 = .ok (.iload 4, 2) := by decide +kernel
theorem dX8_wind_57 : decode cX8_wind 57 = .ok (.bipush 100, 2) := by decide +kernel
theorem dX8_wind_59 : decode cX8_wind 59 = .ok (.iadd, 1) := by decide +kernel
theorem dX8_wind_60 : decode cX8_wind 60 = .ok (.ireturn, 1) := by decide +kernel
theorem dX8_set_0 : decode cX8_set 0 = .ok (.iload_n 1, 1) := by decide +kernel
theorem dX8_set_1 : decode cX8_set 1 = .ok (.iconst 0, 1) := by decide +kernel
theorem dX8_set_2 : decode cX8_set 2 = .ok (.iconst 5, 1) := by decide +kernel
theorem dX8_set_3 : decode cX8_set 3 = .ok (.invokestatic 74, 3) := by decide +kernel
theorem dX8_set_6 : decode cX8_set 6 = .ok (.ifCond .eq 24, 3) := by decide +kernel
theorem dX8_set_9 : decode cX8_set 9 = .ok (.iload_n 2, 1) := by decide +kernel
theorem dX8_set_10 : decode cX8_set 10 = .ok (.getstatic 86, 3) := by decide +kernel
theorem dX8_set_13 : decode cX8_set 13 = .ok (.iload_n 1, 1) := by decide +kernel
theorem dX8_set_14 : decode cX8_set 14 = .ok (.invokestatic 90, 3) := by decide +kernel
theorem dX8_set_17 : decode cX8_set 17 = .ok (.getstatic 94, 3) := by decide +kernel
theorem dX8_set_20 : decode cX8_set 20 = .ok (.iload_n 1, 1) := by decide +kernel
theorem dX8_set_21 : decode cX8_set 21 = .ok (.invokestatic 90, 3) := by decide +kernel
theorem dX8_set_24 : decode cX8_set 24 = .ok (.invokestatic 74, 3) := by decide +kernel
theorem dX8_set_27 : decode cX8_set 27 = .ok (.ifCond .ne 6, 3) := by decide +kernel
theorem dX8_set_30 : decode cX8_set 30 = .ok (.bipush (-2), 2) := by decide +kernel
theorem dX8_set_32 : decode cX8_set 32 = .ok (.ireturn, 1) := by decide +kernel
theorem dX8_set_33 : decode cX8_set 33 = .ok (.aload_n 0, 1) := by decide +kernel
theorem dX8_set_34 : decode cX8_set 34 = .ok (.getfield 12, 3) := by decide +kernel
theorem dX8_set_37 : decode cX8_set 37 = .ok (.iload_n 1, 1) := by decide +kernel
theorem dX8_set_38 : decode cX8_set 38 = .ok (.invokevirtual 97, 3) := by decide +kernel
theorem dX8_set_41 : decode cX8_set 41 = .ok (.istore_n 3, 1) := by decide +kernel
theorem dX8_set_42 : decode cX8_set 42 = .ok (.aload_n 0, 1) := by decide +kernel
theorem dX8_set_43 : decode cX8_set 43 = .ok (.getfield 12, 3) := by decide +kernel
theorem dX8_set_46 : decode cX8_set 46 = .ok (.iload_n 1, 1) := by decide +kernel
theorem dX8_set_47 : decode cX8_set 47 = .ok (.iload_n 2, 1) := by decide +kernel
theorem dX8_set_48 : decode cX8_set 48 = .ok (.invokevirtual 101, 3) := by decide +kernel
theorem dX8_set_51 : decode cX8_set 51 = .ok (.iload_n 3, 1) := by decide +kernel
theorem dX8_set_52 : decode cX8_set 52 = .ok (.ireturn, 1) := by decide +kernel
theorem dX8_load_0 : decode cX8_load 0 = .ok (.iload_n 1, 1) := by decide +kernel
theorem dX8_load_1 : decode cX8_load 1 = .ok (.invokestatic 105, 3) := by decide +kernel
theorem dX8_load_4 : decode cX8_load 4 = .ok (.ifCond .ne 5, 3) := by decide +kernel
theorem dX8_load_7 : decode cX8_load 7 = .ok (.iconst (-1), 1) := by decide +kernel
theorem dX8_load_8 : decode cX8_load 8 = .ok (.ireturn, 1) := by decide +kernel
theorem dX8_load_9 : decode cX8_load 9 = .ok (.iload_n 2, 1) := by decide +kernel
theorem dX8_load_10 : decode cX8_load 10 = .ok (.iconst 0, 1) := by decide +kernel
theorem dX8_load_11 : decode cX8_load 11 = .ok (.bipush 20, 2) := by decide +kernel
theorem dX8_load_13 : decode cX8_load 13 = .ok (.invokestatic 74, 3) := by decide +kernel
theorem dX8_load_16 : decode cX8_load 16 = .ok (.ifCond .ne 6, 3) := by decide +kernel
theorem dX8_load_19 : decode cX8_load 19 = .ok (.bipush (-2), 2) := by decide +kernel
theorem dX8_load_21 : decode cX8_load 21 = .ok (.ireturn, 1) := by decide +kernel
theorem dX8_load_22 : decode cX8_load 22 = .ok (.aload_n 0, 1) := by decide +kernel
theorem dX8_load_23 : decode cX8_load 23 = .ok (.getfield 12, 3) := by decide +kernel
theorem dX8_load_26 : decode cX8_load 26 = .ok (.iload_n 1, 1) := by decide +kernel
theorem dX8_load_27 : decode cX8_load 27 = .ok (.invokevirtual 109, 3) := by decide +kernel
theorem dX8_load_30 : decode cX8_load 30 = .ok (.istore_n 3, 1) := by decide +kernel
theorem dX8_load_31 : decode cX8_load 31 = .ok (.aload_n 0, 1) := by decide +kernel
theorem dX8_load_32 : decode cX8_load 32 = .ok (.getfield 12, 3) := by decide +kernel
theorem dX8_load_35 : decode cX8_load 35 = .ok (.iload_n 1, 1) := by decide +kernel
theorem dX8_load_36 : decode cX8_load 36 = .ok (.iload_n 2, 1) := by decide +kernel
theorem dX8_load_37 : decode cX8_load 37 = .ok (.invokevirtual 112, 3) := by decide +kernel
theorem dX8_load_40 : decode cX8_load 40 = .ok (.iload_n 3, 1) := by decide +kernel
theorem dX8_load_41 : decode cX8_load 41 = .ok (.ireturn, 1) := by decide +kernel
theorem dX8_say_0 : decode cX8_say 0 = .ok (.iload_n 1, 1) := by decide +kernel
theorem dX8_say_1 : decode cX8_say 1 = .ok (.bipush 33, 2) := by decide +kernel
theorem dX8_say_3 : decode cX8_say 3 = .ok (.bipush 126, 2) := by decide +kernel
theorem dX8_say_5 : decode cX8_say 5 = .ok (.invokestatic 74, 3) := by decide +kernel
theorem dX8_say_8 : decode cX8_say 8 = .ok (.ifCond .ne 6, 3) := by decide +kernel
theorem dX8_say_11 : decode cX8_say 11 = .ok (.bipush (-2), 2) := by decide +kernel
theorem dX8_say_13 : decode cX8_say 13 = .ok (.ireturn, 1) := by decide +kernel
theorem dX8_say_14 : decode cX8_say 14 = .ok (.aload_n 0, 1) := by decide +kernel
theorem dX8_say_15 : decode cX8_say 15 = .ok (.getfield 25, 3) := by decide +kernel
theorem dX8_say_18 : decode cX8_say 18 = .ok (.invokevirtual 115, 3) := by decide +kernel
theorem dX8_say_21 : decode cX8_say 21 = .ok (.bipush 60, 2) := by decide +kernel
theorem dX8_say_23 : decode cX8_say 23 = .ok (.if_icmp .lt 6, 3) := by decide +kernel
theorem dX8_say_26 : decode cX8_say 26 = .ok (.bipush (-4), 2) := by decide +kernel
theorem dX8_say_28 : decode cX8_say 28 = .ok (.ireturn, 1) := by decide +kernel
theorem dX8_say_29 : decode cX8_say 29 = .ok (.aload_n 0, 1) := by decide +kernel
theorem dX8_say_30 : decode cX8_say 30 = .ok (.getfield 25, 3) := by decide +kernel
theorem dX8_say_33 : decode cX8_say 33 = .ok (.iload_n 1, 1) := by decide +kernel
theorem dX8_say_34 : decode cX8_say 34 = .ok (.invokevirtual 119, 3) := by decide +kernel
theorem dX8_say_37 : decode cX8_say 37 = .ok (.aload_n 0, 1) := by decide +kernel
theorem dX8_say_38 : decode cX8_say 38 = .ok (.getfield 25, 3) := by decide +kernel
theorem dX8_say_41 : decode cX8_say 41 = .ok (.invokevirtual 115, 3) := by decide +kernel
theorem dX8_say_44 : decode cX8_say 44 = .ok (.ireturn, 1) := by decide +kernel
theorem dX8_wipe_0 : decode cX8_wipe 0 = .ok (.aload_n 0, 1) := by decide +kernel
theorem dX8_wipe_1 : decode cX8_wipe 1 = .ok (.getfield 25, 3) := by decide +kernel
theorem dX8_wipe_4 : decode cX8_wipe 4 = .ok (.invokevirtual 115, 3) := by decide +kernel
theorem dX8_wipe_7 : decode cX8_wipe 7 = .ok (.istore_n 1, 1) := by decide +kernel
theorem dX8_wipe_8 : decode cX8_wipe 8 = .ok (.aload_n 0, 1) := by decide +kernel
theorem dX8_wipe_9 : decode cX8_wipe 9 = .ok (.getfield 25, 3) := by decide +kernel
theorem dX8_wipe_12 : decode cX8_wipe 12 = .ok (.invokevirtual 123, 3) := by decide +kernel
theorem dX8_wipe_15 : decode cX8_wipe 15 = .ok (.iload_n 1, 1) := by decide +kernel
theorem dX8_wipe_16 : decode cX8_wipe 16 = .ok (.ireturn, 1) := by decide +kernel
theorem dX8_fault_0 : decode cX8_fault 0 = .ok (.aload_n 0, 1) := by decide +kernel
theorem dX8_fault_1 : decode cX8_fault 1 = .ok (.invokevirtual 126, 3) := by decide +kernel
theorem dX8_fault_4 : decode cX8_fault 4 = .ok (.ireturn, 1) := by decide +kernel
theorem dX8_at_0 : decode cX8_at 0 = .ok (.aload_n 0, 1) := by decide +kernel
theorem dX8_at_1 : decode cX8_at 1 = .ok (.invokevirtual 126, 3) := by decide +kernel
theorem dX8_at_4 : decode cX8_at 4 = .ok (.bipush (-6), 2) := by decide +kernel
theorem dX8_at_6 : decode cX8_at 6 = .ok (.if_icmp .eq 6, 3) := by decide +kernel
theorem dX8_at_9 : decode cX8_at 9 = .ok (.bipush (-5), 2) := by decide +kernel
theorem dX8_at_11 : decode cX8_at 11 = .ok (.ireturn, 1) := by decide +kernel
theorem dX8_at_12 : decode cX8_at 12 = .ok (.iload_n 1, 1) := by decide +kernel
theorem dX8_at_13 : decode cX8_at 13 = .ok (.iconst (-1), 1) := by decide +kernel
theorem dX8_at_14 : decode cX8_at 14 = .ok (.aload_n 0, 1) := by decide +kernel
theorem dX8_at_15 : decode cX8_at 15 = .ok (.getfield 25, 3) := by decide +kernel
theorem dX8_at_18 : decode cX8_at 18 = .ok (.bipush 46, 2) := by decide +kernel
theorem dX8_at_20 : decode cX8_at 20 = .ok (.invokevirtual 129, 3) := by decide +kernel
theorem dX8_at_23 : decode cX8_at 23 = .ok (.invokestatic 74, 3) := by decide +kernel
theorem dX8_at_26 : decode cX8_at 26 = .ok (.ifCond .eq 12, 3) := by decide +kernel
theorem dX8_at_29 : decode cX8_at 29 = .ok (.iload_n 2, 1) := by decide +kernel
theorem dX8_at_30 : decode cX8_at 30 = .ok (.iconst 0, 1) := by decide +kernel
theorem dX8_at_31 : decode cX8_at 31 = .ok (.iconst 3, 1) := by decide +kernel
theorem dX8_at_32 : decode cX8_at 32 = .ok (.invokestatic 74, 3) := by decide +kernel
theorem dX8_at_35 : decode cX8_at 35 = .ok (.ifCond .ne 6, 3) := by decide +kernel
theorem dX8_at_38 : decode cX8_at 38 = .ok (.bipush (-2), 2) := by decide +kernel
theorem dX8_at_40 : decode cX8_at 40 = .ok (.ireturn, 1) := by decide +kernel
theorem dX8_at_41 : decode cX8_at 41 = .ok (.aload_n 0, 1) := by decide +kernel
theorem dX8_at_42 : decode cX8_at 42 = .ok (.iload_n 1, 1) := by decide +kernel
theorem dX8_at_43 : decode cX8_at 43 = .ok (.invokevirtual 132, 3) := by decide +kernel
theorem dX8_at_46 : decode cX8_at 46 = .ok (.iload_n 2, 1) := by decide +kernel
theorem dX8_at_47 : decode cX8_at 47 = .ok (.tableswitch 67 0 2 #[25, 37, 59], 25) := by decide +kernel
theorem dX8_at_72 : decode cX8_at 72 = .ok (.aload_n 0, 1) := by decide +kernel
theorem dX8_at_73 : decode cX8_at 73 = .ok (.getfield 32, 3) := by decide +kernel
theorem dX8_at_76 : decode cX8_at 76 = .ok (.invokevirtual 135, 3) := by decide +kernel
theorem dX8_at_79 : decode cX8_at 79 = .ok (.sipush 1000, 3) := by decide +kernel
theorem dX8_at_82 : decode cX8_at 82 = .ok (.iadd, 1) := by decide +kernel
theorem dX8_at_83 : decode cX8_at 83 = .ok (.ireturn, 1) := by decide +kernel
theorem dX8_at_84 : decode cX8_at 84 = .ok (.aload_n 0, 1) := by decide +kernel
theorem dX8_at_85 : decode cX8_at 85 = .ok (.getfield 12, 3) := by decide +kernel
theorem dX8_at_88 : decode cX8_at 88 = .ok (.aload_n 0, 1) := by decide +kernel
theorem dX8_at_89 : decode cX8_at 89 = .ok (.getfield 32, 3) := by decide +kernel
theorem dX8_at_92 : decode cX8_at 92 = .ok (.invokevirtual 138, 3) := by decide +kernel
theorem dX8_at_95 : decode cX8_at 95 = .ok (.aload_n 0, 1) := by decide +kernel
theorem dX8_at_96 : decode cX8_at 96 = .ok (.getfield 32, 3) := by decide +kernel
theorem dX8_at_99 : decode cX8_at 99 = .ok (.invokevirtual 141, 3) := by decide +kernel
theorem dX8_at_102 : decode cX8_at 102 = .ok (.invokevirtual 144, 3) := by decide +kernel
theorem dX8_at_105 : decode cX8_at 105 = .ok (.ireturn, 1) := by decide +kernel
theorem dX8_at_106 : decode cX8_at 106 = .ok (.aload_n 0, 1) := by decide +kernel
theorem dX8_at_107 : decode cX8_at 107 = .ok (.getfield 32, 3) := by decide +kernel
theorem dX8_at_110 : decode cX8_at 110 = .ok (.invokevirtual 138, 3) := by decide +kernel
theorem dX8_at_113 : decode cX8_at 113 = .ok (.ireturn, 1) := by decide +kernel
theorem dX8_at_114 : decode cX8_at 114 = .ok (.aload_n 0, 1) := by decide +kernel
theorem dX8_at_115 : decode cX8_at 115 = .ok (.getfield 32, 3) := by decide +kernel
theorem dX8_at_118 : decode cX8_at 118 = .ok (.invokevirtual 141, 3) := by decide +kernel
theorem dX8_at_121 : decode cX8_at 121 = .ok (.invokestatic 147, 3) := by decide +kernel
theorem dX8_at_124 : decode cX8_at 124 = .ok (.ireturn, 1) := by decide +kernel
theorem dX8_judge_0 : decode cX8_judge 0 = .ok (.aload_n 0, 1) := by decide +kernel
theorem dX8_judge_1 : decode cX8_judge 1 = .ok (.invokevirtual 126, 3) := by decide +kernel
theorem dX8_judge_4 : decode cX8_judge 4 = .ok (.bipush (-6), 2) := by decide +kernel
theorem dX8_judge_6 : decode cX8_judge 6 = .ok (.if_icmp .eq 6, 3) := by decide +kernel
theorem dX8_judge_9 : decode cX8_judge 9 = .ok (.bipush (-5), 2) := by decide +kernel
theorem dX8_judge_11 : decode cX8_judge 11 = .ok (.ireturn, 1) := by decide +kernel
theorem dX8_judge_12 : decode cX8_judge 12 = .ok (.iload_n 1, 1) := by decide +kernel
theorem dX8_judge_13 : decode cX8_judge 13 = .ok (.iconst 0, 1) := by decide +kernel
theorem dX8_judge_14 : decode cX8_judge 14 = .ok (.iconst 3, 1) := by decide +kernel
theorem dX8_judge_15 : decode cX8_judge 15 = .ok (.invokestatic 74, 3) := by decide +kernel
theorem dX8_judge_18 : decode cX8_judge 18 = .ok (.ifCond .ne 6, 3) := by decide +kernel
theorem dX8_judge_21 : decode cX8_judge 21 = .ok (.bipush (-2), 2) := by decide +kernel
theorem dX8_judge_23 : decode cX8_judge 23 = .ok (.ireturn, 1) := by decide +kernel
theorem dX8_judge_24 : decode cX8_judge 24 = .ok (.iload_n 1, 1) := by decide +kernel
theorem dX8_judge_25 : decode cX8_judge 25 = .ok (.tableswitch 55 0 2 #[27, 35, 45], 27) := by decide +kernel
theorem dX8_judge_52 : decode cX8_judge 52 = .ok (.aload_n 0, 1) := by decide +kernel
theorem dX8_judge_53 : decode cX8_judge 53 = .ok (.getfield 25, 3) := by decide +kernel
theorem dX8_judge_56 : decode cX8_judge 56 = .ok (.invokevirtual 152, 3) := by decide +kernel
theorem dX8_judge_59 : decode cX8_judge 59 = .ok (.ireturn, 1) := by decide +kernel
theorem dX8_judge_60 : decode cX8_judge 60 = .ok (.aload_n 0, 1) := by decide +kernel
theorem dX8_judge_61 : decode cX8_judge 61 = .ok (.getfield 25, 3) := by decide +kernel
theorem dX8_judge_64 : decode cX8_judge 64 = .ok (.bipush 46, 2) := by decide +kernel
theorem dX8_judge_66 : decode cX8_judge 66 = .ok (.invokevirtual 129, 3) := by decide +kernel
theorem dX8_judge_69 : decode cX8_judge 69 = .ok (.ireturn, 1) := by decide +kernel
theorem dX8_judge_70 : decode cX8_judge 70 = .ok (.aload_n 0, 1) := by decide +kernel
theorem dX8_judge_71 : decode cX8_judge 71 = .ok (.getfield 25, 3) := by decide +kernel
theorem dX8_judge_74 : decode cX8_judge 74 = .ok (.bipush 33, 2) := by decide +kernel
theorem dX8_judge_76 : decode cX8_judge 76 = .ok (.invokevirtual 129, 3) := by decide +kernel
theorem dX8_judge_79 : decode cX8_judge 79 = .ok (.ireturn, 1) := by decide +kernel
theorem dX8_judge_80 : decode cX8_judge 80 = .ok (.aload_n 0, 1) := by decide +kernel
theorem dX8_judge_81 : decode cX8_judge 81 = .ok (.iconst 0, 1) := by decide +kernel
theorem dX8_judge_82 : decode cX8_judge 82 = .ok (.iconst 0, 1) := by decide +kernel
theorem dX8_judge_83 : decode cX8_judge 83 = .ok (.invokevirtual 155, 3) := by decide +kernel
theorem dX8_judge_86 : decode cX8_judge 86 = .ok (.ireturn, 1) := by decide +kernel
theorem dX8_pepper_0 : decode cX8_pepper 0 = .ok (.aload_n 0, 1) := by decide +kernel
theorem dX8_pepper_1 : decode cX8_pepper 1 = .ok (.invokevirtual 126, 3) := by decide +kernel
theorem dX8_pepper_4 : decode cX8_pepper 4 = .ok (.bipush (-6), 2) := by decide +kernel
theorem dX8_pepper_6 : decode cX8_pepper 6 = .ok (.if_icmp .eq 6, 3) := by decide +kernel
theorem dX8_pepper_9 : decode cX8_pepper 9 = .ok (.bipush (-5), 2) := by decide +kernel
theorem dX8_pepper_11 : decode cX8_pepper 11 = .ok (.ireturn, 1) := by decide +kernel
theorem dX8_pepper_12 : decode cX8_pepper 12 = .ok (.iload_n 1, 1) := by decide +kernel
theorem dX8_pepper_13 : decode cX8_pepper 13 = .ok (.iconst 0, 1) := by decide +kernel
theorem dX8_pepper_14 : decode cX8_pepper 14 = .ok (.aload_n 0, 1) := by decide +kernel
theorem dX8_pepper_15 : decode cX8_pepper 15 = .ok (.getfield 25, 3) := by decide +kernel
theorem dX8_pepper_18 : decode cX8_pepper 18 = .ok (.bipush 46, 2) := by decide +kernel
theorem dX8_pepper_20 : decode cX8_pepper 20 = .ok (.invokevirtual 129, 3) := by decide +kernel
theorem dX8_pepper_23 : decode cX8_pepper 23 = .ok (.invokestatic 74, 3) := by decide +kernel
theorem dX8_pepper_26 : decode cX8_pepper 26 = .ok (.ifCond .ne 6, 3) := by decide +kernel
theorem dX8_pepper_29 : decode cX8_pepper 29 = .ok (.bipush (-2), 2) := by decide +kernel
theorem dX8_pepper_31 : decode cX8_pepper 31 = .ok (.ireturn, 1) := by decide +kernel
theorem dX8_pepper_32 : decode cX8_pepper 32 = .ok (.aload_n 0, 1) := by decide +kernel
theorem dX8_pepper_33 : decode cX8_pepper 33 = .ok (.iload_n 1, 1) := by decide +kernel
theorem dX8_pepper_34 : decode cX8_pepper 34 = .ok (.iconst 0, 1) := by decide +kernel
theorem dX8_pepper_35 : decode cX8_pepper 35 = .ok (.invokevirtual 155, 3) := by decide +kernel
theorem dX8_pepper_38 : decode cX8_pepper 38 = .ok (.bipush (-6), 2) := by decide +kernel
theorem dX8_pepper_40 : decode cX8_pepper 40 = .ok (.if_icmp .eq 6, 3) := by decide +kernel
theorem dX8_pepper_43 : decode cX8_pepper 43 = .ok (.bipush (-6), 2) := by decide +kernel
theorem dX8_pepper_45 : decode cX8_pepper 45 = .ok (.ireturn, 1) := by decide +kernel
theorem dX8_pepper_46 : decode cX8_pepper 46 = .ok (.iconst 0, 1) := by decide +kernel
theorem dX8_pepper_47 : decode cX8_pepper 47 = .ok (.istore_n 2, 1) := by decide +kernel
theorem dX8_pepper_48 : decode cX8_pepper 48 = .ok (.iload_n 2, 1) := by decide +kernel
theorem dX8_pepper_49 : decode cX8_pepper 49 = .ok (.bipush 12, 2) := by decide +kernel
theorem dX8_pepper_51 : decode cX8_pepper 51 = .ok (.if_icmp .ge 22, 3) := by decide +kernel
theorem dX8_pepper_54 : decode cX8_pepper 54 = .ok (.aload_n 0, 1) := by decide +kernel
theorem dX8_pepper_55 : decode cX8_pepper 55 = .ok (.iload_n 1, 1) := by decide +kernel
theorem dX8_pepper_56 : decode cX8_pepper 56 = .ok (.iload_n 2, 1) := by decide +kernel
theorem dX8_pepper_57 : decode cX8_pepper 57 = .ok (.iconst 1, 1) := by decide +kernel
theorem dX8_pepper_58 : decode cX8_pepper 58 = .ok (.iadd, 1) := by decide +kernel
theorem dX8_pepper_59 : decode cX8_pepper 59 = .ok (.invokevirtual 155, 3) := by decide +kernel
theorem dX8_pepper_62 : decode cX8_pepper 62 = .ok (.bipush (-6), 2) := by decide +kernel
theorem dX8_pepper_64 : decode cX8_pepper 64 = .ok (.if_icmp .ne 9, 3) := by decide +kernel
theorem dX8_pepper_67 : decode cX8_pepper 67 = .ok (.iinc 2 1, 3) := by decide +kernel
theorem dX8_pepper_70 : decode cX8_pepper 70 = .ok (.goto (-22), 3) := by decide +kernel
theorem dX8_pepper_73 : decode cX8_pepper 73 = .ok (.iload_n 2, 1) := by decide +kernel
theorem dX8_pepper_74 : decode cX8_pepper 74 = .ok (.ireturn, 1) := by decide +kernel
theorem dX8_nearest_0 : decode cX8_nearest 0 = .ok (.aload_n 0, 1) := by decide +kernel
theorem dX8_nearest_1 : decode cX8_nearest 1 = .ok (.iload_n 1, 1) := by decide +kernel
theorem dX8_nearest_2 : decode cX8_nearest 2 = .ok (.invokestatic 158, 3) := by decide +kernel
theorem dX8_nearest_5 : decode cX8_nearest 5 = .ok (.invokevirtual 161, 3) := by decide +kernel
theorem dX8_nearest_8 : decode cX8_nearest 8 = .ok (.istore_n 3, 1) := by decide +kernel
theorem dX8_nearest_9 : decode cX8_nearest 9 = .ok (.iload_n 3, 1) := by decide +kernel
theorem dX8_nearest_10 : decode cX8_nearest 10 = .ok (.ifCond .eq 5, 3) := by decide +kernel
theorem dX8_nearest_13 : decode cX8_nearest 13 = .ok (.iload_n 3, 1) := by decide +kernel
theorem dX8_nearest_14 : decode cX8_nearest 14 = .ok (.ireturn, 1) := by decide +kernel
theorem dX8_nearest_15 : decode cX8_nearest 15 = .ok (.aload_n 0, 1) := by decide +kernel
theorem dX8_nearest_16 : decode cX8_nearest 16 = .ok (.getfield 49, 3) := by decide +kernel
theorem dX8_nearest_19 : decode cX8_nearest 19 = .ok (.aload_n 0, 1) := by decide +kernel
theorem dX8_nearest_20 : decode cX8_nearest 20 = .ok (.getfield 12, 3) := by decide +kernel
theorem dX8_nearest_23 : decode cX8_nearest 23 = .ok (.aload_n 0, 1) := by decide +kernel
theorem dX8_nearest_24 : decode cX8_nearest 24 = .ok (.getfield 25, 3) := by decide +kernel
theorem dX8_nearest_27 : decode cX8_nearest 27 = .ok (.invokevirtual 165, 3) := by decide +kernel
theorem dX8_nearest_30 : decode cX8_nearest 30 = .ok (.aload_n 0, 1) := by decide +kernel
theorem dX8_nearest_31 : decode cX8_nearest 31 = .ok (.getfield 56, 3) := by decide +kernel
theorem dX8_nearest_34 : decode cX8_nearest 34 = .ok (.iload_n 1, 1) := by decide +kernel
theorem dX8_nearest_35 : decode cX8_nearest 35 = .ok (.invokevirtual 169, 3) := by decide +kernel
theorem dX8_nearest_38 : decode cX8_nearest 38 = .ok (.aload_n 0, 1) := by decide +kernel
theorem dX8_nearest_39 : decode cX8_nearest 39 = .ok (.getfield 49, 3) := by decide +kernel
theorem dX8_nearest_42 : decode cX8_nearest 42 = .ok (.aload_n 0, 1) := by decide +kernel
theorem dX8_nearest_43 : decode cX8_nearest 43 = .ok (.getfield 56, 3) := by decide +kernel
theorem dX8_nearest_46 : decode cX8_nearest 46 = .ok (.iconst 0, 1) := by decide +kernel
theorem dX8_nearest_47 : decode cX8_nearest 47 = .ok (.aload_n 0, 1) := by decide +kernel
theorem dX8_nearest_48 : decode cX8_nearest 48 = .ok (.getfield 12, 3) := by decide +kernel
theorem dX8_nearest_51 : decode cX8_nearest 51 = .ok (.invokevirtual 172, 3) := by decide +kernel
theorem dX8_nearest_54 : decode cX8_nearest 54 = .ok (.iconst 0, 1) := by decide +kernel
theorem dX8_nearest_55 : decode cX8_nearest 55 = .ok (.iconst 0, 1) := by decide +kernel
theorem dX8_nearest_56 : decode cX8_nearest 56 = .ok (.invokestatic 175, 3) := by decide +kernel
theorem dX8_nearest_59 : decode cX8_nearest 59 = .ok (.iload_n 2, 1) := by decide +kernel
theorem dX8_nearest_60 : decode cX8_nearest 60 = .ok (.iconst (-1), 1) := by decide +kernel
theorem dX8_nearest_61 : decode cX8_nearest 61 = .ok (.if_icmp .ne 11, 3) := by decide +kernel
theorem dX8_nearest_64 : decode cX8_nearest 64 = .ok (.aload_n 0, 1) := by decide +kernel
theorem dX8_nearest_65 : decode cX8_nearest 65 = .ok (.getfield 56, 3) := by decide +kernel
theorem dX8_nearest_68 : decode cX8_nearest 68 = .ok (.invokevirtual 179, 3) := by decide +kernel
theorem dX8_nearest_71 : decode cX8_nearest 71 = .ok (.ireturn, 1) := by decide +kernel
theorem dX8_nearest_72 : decode cX8_nearest 72 = .ok (.iload_n 2, 1) := by decide +kernel
theorem dX8_nearest_73 : decode cX8_nearest 73 = .ok (.iconst 0, 1) := by decide +kernel
theorem dX8_nearest_74 : decode cX8_nearest 74 = .ok (.aload_n 0, 1) := by decide +kernel
theorem dX8_nearest_75 : decode cX8_nearest 75 = .ok (.getfield 49, 3) := by decide +kernel
theorem dX8_nearest_78 : decode cX8_nearest 78 = .ok (.invokevirtual 182, 3) := by decide +kernel
theorem dX8_nearest_81 : decode cX8_nearest 81 = .ok (.iconst 1, 1) := by decide +kernel
theorem dX8_nearest_82 : decode cX8_nearest 82 = .ok (.isub, 1) := by decide +kernel
theorem dX8_nearest_83 : decode cX8_nearest 83 = .ok (.invokestatic 74, 3) := by decide +kernel
theorem dX8_nearest_86 : decode cX8_nearest 86 = .ok (.ifCond .eq 14, 3) := by decide +kernel
theorem dX8_nearest_89 : decode cX8_nearest 89 = .ok (.aload_n 0, 1) := by decide +kernel
theorem dX8_nearest_90 : decode cX8_nearest 90 = .ok (.getfield 56, 3) := by decide +kernel
theorem dX8_nearest_93 : decode cX8_nearest 93 = .ok (.iload_n 2, 1) := by decide +kernel
theorem dX8_nearest_94 : decode cX8_nearest 94 = .ok (.invokevirtual 184, 3) := by decide +kernel
theorem dX8_nearest_97 : decode cX8_nearest 97 = .ok (.goto 5, 3) := by decide +kernel
theorem dX8_nearest_100 : decode cX8_nearest 100 = .ok (.bipush (-6), 2) := by decide +kernel
theorem dX8_nearest_102 : decode cX8_nearest 102 = .ok (.ireturn, 1) := by decide +kernel
theorem dX8_field_0 : decode cX8_field 0 = .ok (.aload_n 0, 1) := by decide +kernel
theorem dX8_field_1 : decode cX8_field 1 = .ok (.iload_n 1, 1) := by decide +kernel
theorem dX8_field_2 : decode cX8_field 2 = .ok (.iload_n 2, 1) := by decide +kernel
theorem dX8_field_3 : decode cX8_field 3 = .ok (.invokestatic 187, 3) := by decide +kernel
theorem dX8_field_6 : decode cX8_field 6 = .ok (.invokevirtual 161, 3) := by decide +kernel
theorem dX8_field_9 : decode cX8_field 9 = .ok (.istore_n 3, 1) := by decide +kernel
theorem dX8_field_10 : decode cX8_field 10 = .ok (.iload_n 3, 1) := by decide +kernel
theorem dX8_field_11 : decode cX8_field 11 = .ok (.ifCond .eq 5, 3) := by decide +kernel
theorem dX8_field_14 : decode cX8_field 14 = .ok (.iload_n 3, 1) := by decide +kernel
theorem dX8_field_15 : decode cX8_field 15 = .ok (.ireturn, 1) := by decide +kernel
theorem dX8_field_16 : decode cX8_field 16 = .ok (.aload_n 0, 1) := by decide +kernel
theorem dX8_field_17 : decode cX8_field 17 = .ok (.getfield 49, 3) := by decide +kernel
theorem dX8_field_20 : decode cX8_field 20 = .ok (.aload_n 0, 1) := by decide +kernel
theorem dX8_field_21 : decode cX8_field 21 = .ok (.getfield 12, 3) := by decide +kernel
theorem dX8_field_24 : decode cX8_field 24 = .ok (.aload_n 0, 1) := by decide +kernel
theorem dX8_field_25 : decode cX8_field 25 = .ok (.getfield 25, 3) := by decide +kernel
theorem dX8_field_28 : decode cX8_field 28 = .ok (.invokevirtual 165, 3) := by decide +kernel
theorem dX8_field_31 : decode cX8_field 31 = .ok (.aload_n 0, 1) := by decide +kernel
theorem dX8_field_32 : decode cX8_field 32 = .ok (.getfield 49, 3) := by decide +kernel
theorem dX8_field_35 : decode cX8_field 35 = .ok (.iconst 0, 1) := by decide +kernel
theorem dX8_field_36 : decode cX8_field 36 = .ok (.aload_n 0, 1) := by decide +kernel
theorem dX8_field_37 : decode cX8_field 37 = .ok (.getfield 12, 3) := by decide +kernel
theorem dX8_field_40 : decode cX8_field 40 = .ok (.invokevirtual 172, 3) := by decide +kernel
theorem dX8_field_43 : decode cX8_field 43 = .ok (.iconst 0, 1) := by decide +kernel
theorem dX8_field_44 : decode cX8_field 44 = .ok (.iload_n 1, 1) := by decide +kernel
theorem dX8_field_45 : decode cX8_field 45 = .ok (.iload_n 2, 1) := by decide +kernel
theorem dX8_field_46 : decode cX8_field 46 = .ok (.invokestatic 191, 3) := by decide +kernel
theorem dX8_field_49 : decode cX8_field 49 = .ok (.ireturn, 1) := by decide +kernel
theorem dX8_take_0 : decode cX8_take 0 = .ok (.aload_n 0, 1) := by decide +kernel
theorem dX8_take_1 : decode cX8_take 1 = .ok (.iload_n 1, 1) := by decide +kernel
theorem dX8_take_2 : decode cX8_take 2 = .ok (.invokestatic 158, 3) := by decide +kernel
theorem dX8_take_5 : decode cX8_take 5 = .ok (.ifCond .eq 16, 3) := by decide +kernel
theorem dX8_take_8 : decode cX8_take 8 = .ok (.iload_n 2, 1) := by decide +kernel
theorem dX8_take_9 : decode cX8_take 9 = .ok (.iconst 0, 1) := by decide +kernel
theorem dX8_take_10 : decode cX8_take 10 = .ok (.iconst 1, 1) := by decide +kernel
theorem dX8_take_11 : decode cX8_take 11 = .ok (.invokestatic 74, 3) := by decide +kernel
theorem dX8_take_14 : decode cX8_take 14 = .ok (.ifCond .eq 7, 3) := by decide +kernel
theorem dX8_take_17 : decode cX8_take 17 = .ok (.iconst 1, 1) := by decide +kernel
theorem dX8_take_18 : decode cX8_take 18 = .ok (.goto 4, 3) := by decide +kernel
theorem dX8_take_21 : decode cX8_take 21 = .ok (.iconst 0, 1) := by decide +kernel
theorem dX8_take_22 : decode cX8_take 22 = .ok (.invokevirtual 195, 3) := by decide +kernel
theorem dX8_take_25 : decode cX8_take 25 = .ok (.istore_n 3, 1) := by decide +kernel
theorem dX8_take_26 : decode cX8_take 26 = .ok (.iload_n 3, 1) := by decide +kernel
theorem dX8_take_27 : decode cX8_take 27 = .ok (.ifCond .eq 5, 3) := by decide +kernel
theorem dX8_take_30 : decode cX8_take 30 = .ok (.iload_n 3, 1) := by decide +kernel
theorem dX8_take_31 : decode cX8_take 31 = .ok (.ireturn, 1) := by decide +kernel
theorem dX8_take_32 : decode cX8_take 32 = .ok (.iconst 0, 1) := by decide +kernel
theorem dX8_take_33 : decode cX8_take 33 = .ok (.istore 4, 2) := by decide +kernel
theorem dX8_take_35 : decode cX8_take 35 = .ok (.aload_n 0, 1) := by decide +kernel
theorem dX8_take_36 : decode cX8_take 36 = .ok (.iload_n 1, 1) := by decide +kernel
theorem dX8_take_37 : decode cX8_take 37 = .ok (.iconst 0, 1) := by decide +kernel
theorem dX8_take_38 : decode cX8_take 38 = .ok (.iconst 0, 1) := by decide +kernel
theorem dX8_take_39 : decode cX8_take 39 = .ok (.invokevirtual 198, 3) := by decide +kernel
theorem dX8_take_42 : decode cX8_take 42 = .ok (.istore 5, 2) := by decide +kernel
theorem dX8_take_44 : decode cX8_take 44 = .ok (.aload_n 0, 1) := by decide +kernel
theorem dX8_take_45 : decode cX8_take 45 = .ok (.getfield 12, 3) := by decide +kernel
theorem dX8_take_48 : decode cX8_take 48 = .ok (.invokevirtual 172, 3) := by decide +kernel
theorem dX8_take_51 : decode cX8_take 51 = .ok (.istore 6, 2) := by decide +kernel
theorem dX8_take_53 : decode cX8_take 53 = .ok (.iconst 1, 1) := by decide +kernel
theorem dX8_take_54 : decode cX8_take 54 = .ok (.istore 7, 2) := by decide +kernel
theorem dX8_take_56 : decode cX8_take 56 = .ok (.iload 7, 2) := by decide +kernel
theorem dX8_take_58 : decode cX8_take 58 = .ok (.bipush 64, 2) := by decide +kernel
theorem dX8_take_60 : decode cX8_take 60 = .ok (.if_icmp .ge 49, 3) := by decide +kernel
theorem dX8_take_63 : decode cX8_take 63 = .ok (.iload 7, 2) := by decide +kernel
theorem dX8_take_65 : decode cX8_take 65 = .ok (.iload 6, 2) := by decide +kernel
theorem dX8_take_67 : decode cX8_take 67 = .ok (.iand, 1) := by decide +kernel
theorem dX8_take_68 : decode cX8_take 68 = .ok (.iload 7, 2) := by decide +kernel
theorem dX8_take_70 : decode cX8_take 70 = .ok (.if_icmp .ne 14, 3) := by decide +kernel
theorem dX8_take_73 : decode cX8_take 73 = .ok (.aload_n 0, 1) := by decide +kernel
theorem dX8_take_74 : decode cX8_take 74 = .ok (.iload_n 1, 1) := by decide +kernel
theorem dX8_take_75 : decode cX8_take 75 = .ok (.iload 7, 2) := by decide +kernel
theorem dX8_take_77 : decode cX8_take 77 = .ok (.iconst 0, 1) := by decide +kernel
theorem dX8_take_78 : decode cX8_take 78 = .ok (.invokevirtual 198, 3) := by decide +kernel
theorem dX8_take_81 : decode cX8_take 81 = .ok (.goto 5, 3) := by decide +kernel
theorem dX8_take_84 : decode cX8_take 84 = .ok (.iload 5, 2) := by decide +kernel
theorem dX8_take_86 : decode cX8_take 86 = .ok (.istore 8, 2) := by decide +kernel
theorem dX8_take_88 : decode cX8_take 88 = .ok (.iload 8, 2) := by decide +kernel
theorem dX8_take_90 : decode cX8_take 90 = .ok (.iload 5, 2) := by decide +kernel
theorem dX8_take_92 : decode cX8_take 92 = .ok (.if_icmp .ge 11, 3) := by decide +kernel
theorem dX8_take_95 : decode cX8_take 95 = .ok (.iload 7, 2) := by decide +kernel
theorem dX8_take_97 : decode cX8_take 97 = .ok (.istore 4, 2) := by decide +kernel
theorem dX8_take_99 : decode cX8_take 99 = .ok (.iload 8, 2) := by decide +kernel
theorem dX8_take_101 : decode cX8_take 101 = .ok (.istore 5, 2) := by decide +kernel
theorem dX8_take_103 : decode cX8_take 103 = .ok (.iinc 7 1, 3) := by decide +kernel
theorem dX8_take_106 : decode cX8_take 106 = .ok (.goto (-50), 3) := by decide +kernel
theorem dX8_take_109 : decode cX8_take 109 = .ok (.iload_n 2, 1) := by decide +kernel
theorem dX8_take_110 : decode cX8_take 110 = .ok (.ifCond .ne 8, 3) := by decide +kernel
theorem dX8_take_113 : decode cX8_take 113 = .ok (.iload 4, 2) := by decide +kernel
theorem dX8_take_115 : decode cX8_take 115 = .ok (.goto 5, 3) := by decide +kernel
theorem dX8_take_118 : decode cX8_take 118 = .ok (.iload 5, 2) := by decide +kernel
theorem dX8_take_120 : decode cX8_take 120 = .ok (.ireturn, 1) := by decide +kernel
theorem dX8_stay_0 : decode cX8_stay 0 = .ok (.aload_n 0, 1) := by decide +kernel
theorem dX8_stay_1 : decode cX8_stay 1 = .ok (.iload_n 1, 1) := by decide +kernel
theorem dX8_stay_2 : decode cX8_stay 2 = .ok (.invokestatic 158, 3) := by decide +kernel
theorem dX8_stay_5 : decode cX8_stay 5 = .ok (.ifCond .eq 16, 3) := by decide +kernel
theorem dX8_stay_8 : decode cX8_stay 8 = .ok (.iload_n 2, 1) := by decide +kernel
theorem dX8_stay_9 : decode cX8_stay 9 = .ok (.iconst 0, 1) := by decide +kernel
theorem dX8_stay_10 : decode cX8_stay 10 = .ok (.iconst 1, 1) := by decide +kernel
theorem dX8_stay_11 : decode cX8_stay 11 = .ok (.invokestatic 74, 3) := by decide +kernel
theorem dX8_stay_14 : decode cX8_stay 14 = .ok (.ifCond .eq 7, 3) := by decide +kernel
theorem dX8_stay_17 : decode cX8_stay 17 = .ok (.iconst 1, 1) := by decide +kernel
theorem dX8_stay_18 : decode cX8_stay 18 = .ok (.goto 4, 3) := by decide +kernel
theorem dX8_stay_21 : decode cX8_stay 21 = .ok (.iconst 0, 1) := by decide +kernel
theorem dX8_stay_22 : decode cX8_stay 22 = .ok (.invokevirtual 195, 3) := by decide +kernel
theorem dX8_stay_25 : decode cX8_stay 25 = .ok (.istore_n 3, 1) := by decide +kernel
theorem dX8_stay_26 : decode cX8_stay 26 = .ok (.iload_n 3, 1) := by decide +kernel
theorem dX8_stay_27 : decode cX8_stay 27 = .ok (.ifCond .eq 5, 3) := by decide +kernel
theorem dX8_stay_30 : decode cX8_stay 30 = .ok (.iload_n 3, 1) := by decide +kernel
theorem dX8_stay_31 : decode cX8_stay 31 = .ok (.ireturn, 1) := by decide +kernel
theorem dX8_stay_32 : decode cX8_stay 32 = .ok (.iconst 0, 1) := by decide +kernel
theorem dX8_stay_33 : decode cX8_stay 33 = .ok (.istore 4, 2) := by decide +kernel
theorem dX8_stay_35 : decode cX8_stay 35 = .ok (.aload_n 0, 1) := by decide +kernel
theorem dX8_stay_36 : decode cX8_stay 36 = .ok (.getfield 12, 3) := by decide +kernel
theorem dX8_stay_39 : decode cX8_stay 39 = .ok (.invokevirtual 172, 3) := by decide +kernel
theorem dX8_stay_42 : decode cX8_stay 42 = .ok (.istore 5, 2) := by decide +kernel
theorem dX8_stay_44 : decode cX8_stay 44 = .ok (.aload_n 0, 1) := by decide +kernel
theorem dX8_stay_45 : decode cX8_stay 45 = .ok (.iload_n 1, 1) := by decide +kernel
theorem dX8_stay_46 : decode cX8_stay 46 = .ok (.iload 5, 2) := by decide +kernel
theorem dX8_stay_48 : decode cX8_stay 48 = .ok (.iconst 0, 1) := by decide +kernel
theorem dX8_stay_49 : decode cX8_stay 49 = .ok (.invokevirtual 198, 3) := by decide +kernel
theorem dX8_stay_52 : decode cX8_stay 52 = .ok (.istore 6, 2) := by decide +kernel
theorem dX8_stay_54 : decode cX8_stay 54 = .ok (.iconst 1, 1) := by decide +kernel
theorem dX8_stay_55 : decode cX8_stay 55 = .ok (.istore 7, 2) := by decide +kernel
theorem dX8_stay_57 : decode cX8_stay 57 = .ok (.iload 7, 2) := by decide +kernel
theorem dX8_stay_59 : decode cX8_stay 59 = .ok (.bipush 20, 2) := by decide +kernel
theorem dX8_stay_61 : decode cX8_stay 61 = .ok (.if_icmp .gt 35, 3) := by decide +kernel
theorem dX8_stay_64 : decode cX8_stay 64 = .ok (.aload_n 0, 1) := by decide +kernel
theorem dX8_stay_65 : decode cX8_stay 65 = .ok (.iload_n 1, 1) := by decide +kernel
theorem dX8_stay_66 : decode cX8_stay 66 = .ok (.iload 5, 2) := by decide +kernel
theorem dX8_stay_68 : decode cX8_stay 68 = .ok (.iload 7, 2) := by decide +kernel
theorem dX8_stay_70 : decode cX8_stay 70 = .ok (.invokevirtual 198, 3) := by decide +kernel
theorem dX8_stay_73 : decode cX8_stay 73 = .ok (.istore 8, 2) := by decide +kernel
theorem dX8_stay_75 : decode cX8_stay 75 = .ok (.iload 8, 2) := by decide +kernel
theorem dX8_stay_77 : decode cX8_stay 77 = .ok (.iload 6, 2) := by decide +kernel
theorem dX8_stay_79 : decode cX8_stay 79 = .ok (.if_icmp .ge 11, 3) := by decide +kernel
theorem dX8_stay_82 : decode cX8_stay 82 = .ok (.iload 7, 2) := by decide +kernel
theorem dX8_stay_84 : decode cX8_stay 84 = .ok (.istore 4, 2) := by decide +kernel
theorem dX8_stay_86 : decode cX8_stay 86 = .ok (.iload 8, 2) := by decide +kernel
theorem dX8_stay_88 : decode cX8_stay 88 = .ok (.istore 6, 2) := by decide +kernel
theorem dX8_stay_90 : decode cX8_stay 90 = .ok (.iinc 7 1, 3) := by decide +kernel
theorem dX8_stay_93 : decode cX8_stay 93 = .ok (.goto (-36), 3) := by decide +kernel
theorem dX8_stay_96 : decode cX8_stay 96 = .ok (.iload_n 2, 1) := by decide +kernel
theorem dX8_stay_97 : decode cX8_stay 97 = .ok (.ifCond .ne 8, 3) := by decide +kernel
theorem dX8_stay_100 : decode cX8_stay 100 = .ok (.iload 4, 2) := by decide +kernel
theorem dX8_stay_102 : decode cX8_stay 102 = .ok (.goto 5, 3) := by decide +kernel
theorem dX8_stay_105 : decode cX8_stay 105 = .ok (.iload 6, 2) := by decide +kernel
theorem dX8_stay_107 : decode cX8_stay 107 = .ok (.ireturn, 1) := by decide +kernel
theorem dX8_likely_0 : decode cX8_likely 0 = .ok (.aload_n 0, 1) := by decide +kernel
theorem dX8_likely_1 : decode cX8_likely 1 = .ok (.iload_n 1, 1) := by decide +kernel
theorem dX8_likely_2 : decode cX8_likely 2 = .ok (.iload_n 2, 1) := by decide +kernel
theorem dX8_likely_3 : decode cX8_likely 3 = .ok (.invokestatic 187, 3) := by decide +kernel
theorem dX8_likely_6 : decode cX8_likely 6 = .ok (.ifCond .eq 27, 3) := by decide +kernel
theorem dX8_likely_9 : decode cX8_likely 9 = .ok (.iload_n 3, 1) := by decide +kernel
theorem dX8_likely_10 : decode cX8_likely 10 = .ok (.iconst 0, 1) := by decide +kernel
theorem dX8_likely_11 : decode cX8_likely 11 = .ok (.bipush 10, 2) := by decide +kernel
theorem dX8_likely_13 : decode cX8_likely 13 = .ok (.invokestatic 74, 3) := by decide +kernel
theorem dX8_likely_16 : decode cX8_likely 16 = .ok (.ifCond .eq 17, 3) := by decide +kernel
theorem dX8_likely_19 : decode cX8_likely 19 = .ok (.iload 4, 2) := by decide +kernel
theorem dX8_likely_21 : decode cX8_likely 21 = .ok (.iconst 0, 1) := by decide +kernel
theorem dX8_likely_22 : decode cX8_likely 22 = .ok (.iconst 1, 1) := by decide +kernel
theorem dX8_likely_23 : decode cX8_likely 23 = .ok (.invokestatic 74, 3) := by decide +kernel
theorem dX8_likely_26 : decode cX8_likely 26 = .ok (.ifCond .eq 7, 3) := by decide +kernel
theorem dX8_likely_29 : decode cX8_likely 29 = .ok (.iconst 1, 1) := by decide +kernel
theorem dX8_likely_30 : decode cX8_likely 30 = .ok (.goto 4, 3) := by decide +kernel
theorem dX8_likely_33 : decode cX8_likely 33 = .ok (.iconst 0, 1) := by decide +kernel
theorem dX8_likely_34 : decode cX8_likely 34 = .ok (.invokevirtual 195, 3) := by decide +kernel
theorem dX8_likely_37 : decode cX8_likely 37 = .ok (.istore 5, 2) := by decide +kernel
theorem dX8_likely_39 : decode cX8_likely 39 = .ok (.iload 5, 2) := by decide +kernel
theorem dX8_likely_41 : decode cX8_likely 41 = .ok (.ifCond .eq 11, 3) := by decide +kernel
theorem dX8_likely_44 : decode cX8_likely 44 = .ok (.ldc2_w 202, 3) := by decide +kernel
theorem dX8_likely_47 : decode cX8_likely 47 = .ok (.iload 5, 2) := by decide +kernel
theorem dX8_likely_49 : decode cX8_likely 49 = .ok (.i2l, 1) := by decide +kernel
theorem dX8_likely_50 : decode cX8_likely 50 = .ok (.ladd, 1) := by decide +kernel
theorem dX8_likely_51 : decode cX8_likely 51 = .ok (.lreturn, 1) := by decide +kernel
theorem dX8_likely_52 : decode cX8_likely 52 = .ok (.aload_n 0, 1) := by decide +kernel
theorem dX8_likely_53 : decode cX8_likely 53 = .ok (.getfield 49, 3) := by decide +kernel
theorem dX8_likely_56 : decode cX8_likely 56 = .ok (.aload_n 0, 1) := by decide +kernel
theorem dX8_likely_57 : decode cX8_likely 57 = .ok (.getfield 12, 3) := by decide +kernel
theorem dX8_likely_60 : decode cX8_likely 60 = .ok (.aload_n 0, 1) := by decide +kernel
theorem dX8_likely_61 : decode cX8_likely 61 = .ok (.getfield 25, 3) := by decide +kernel
theorem dX8_likely_64 : decode cX8_likely 64 = .ok (.invokevirtual 165, 3) := by decide +kernel
theorem dX8_likely_67 : decode cX8_likely 67 = .ok (.aload_n 0, 1) := by decide +kernel
theorem dX8_likely_68 : decode cX8_likely 68 = .ok (.getfield 63, 3) := by decide +kernel
theorem dX8_likely_71 : decode cX8_likely 71 = .ok (.aload_n 0, 1) := by decide +kernel
theorem dX8_likely_72 : decode cX8_likely 72 = .ok (.getfield 12, 3) := by decide +kernel
theorem dX8_likely_75 : decode cX8_likely 75 = .ok (.invokevirtual 204, 3) := by decide +kernel
theorem dX8_likely_78 : decode cX8_likely 78 = .ok (.aload_n 0, 1) := by decide +kernel
theorem dX8_likely_79 : decode cX8_likely 79 = .ok (.getfield 63, 3) := by decide +kernel
theorem dX8_likely_82 : decode cX8_likely 82 = .ok (.aload_n 0, 1) := by decide +kernel
theorem dX8_likely_83 : decode cX8_likely 83 = .ok (.getfield 49, 3) := by decide +kernel
theorem dX8_likely_86 : decode cX8_likely 86 = .ok (.iload_n 3, 1) := by decide +kernel
theorem dX8_likely_87 : decode cX8_likely 87 = .ok (.iload_n 1, 1) := by decide +kernel
theorem dX8_likely_88 : decode cX8_likely 88 = .ok (.iload_n 2, 1) := by decide +kernel
theorem dX8_likely_89 : decode cX8_likely 89 = .ok (.invokevirtual 208, 3) := by decide +kernel
theorem dX8_likely_92 : decode cX8_likely 92 = .ok (.aload_n 0, 1) := by decide +kernel
theorem dX8_likely_93 : decode cX8_likely 93 = .ok (.getfield 63, 3) := by decide +kernel
theorem dX8_likely_96 : decode cX8_likely 96 = .ok (.aload_n 0, 1) := by decide +kernel
theorem dX8_likely_97 : decode cX8_likely 97 = .ok (.getfield 49, 3) := by decide +kernel
theorem dX8_likely_100 : decode cX8_likely 100 = .ok (.invokevirtual 212, 3) := by decide +kernel
theorem dX8_likely_103 : decode cX8_likely 103 = .ok (.iload 4, 2) := by decide +kernel
theorem dX8_likely_105 : decode cX8_likely 105 = .ok (.invokestatic 216, 3) := by decide +kernel
theorem dX8_likely_108 : decode cX8_likely 108 = .ok (.lreturn, 1) := by decide +kernel
theorem dX8_mean_0 : decode cX8_mean 0 = .ok (.aload_n 0, 1) := by decide +kernel
theorem dX8_mean_1 : decode cX8_mean 1 = .ok (.iload_n 1, 1) := by decide +kernel
theorem dX8_mean_2 : decode cX8_mean 2 = .ok (.iconst 0, 1) := by decide +kernel
theorem dX8_mean_3 : decode cX8_mean 3 = .ok (.bipush 10, 2) := by decide +kernel
theorem dX8_mean_5 : decode cX8_mean 5 = .ok (.invokestatic 74, 3) := by decide +kernel
theorem dX8_mean_8 : decode cX8_mean 8 = .ok (.ifCond .eq 16, 3) := by decide +kernel
theorem dX8_mean_11 : decode cX8_mean 11 = .ok (.iload_n 2, 1) := by decide +kernel
theorem dX8_mean_12 : decode cX8_mean 12 = .ok (.iconst 0, 1) := by decide +kernel
theorem dX8_mean_13 : decode cX8_mean 13 = .ok (.iconst 1, 1) := by decide +kernel
theorem dX8_mean_14 : decode cX8_mean 14 = .ok (.invokestatic 74, 3) := by decide +kernel
theorem dX8_mean_17 : decode cX8_mean 17 = .ok (.ifCond .eq 7, 3) := by decide +kernel
theorem dX8_mean_20 : decode cX8_mean 20 = .ok (.iconst 1, 1) := by decide +kernel
theorem dX8_mean_21 : decode cX8_mean 21 = .ok (.goto 4, 3) := by decide +kernel
theorem dX8_mean_24 : decode cX8_mean 24 = .ok (.iconst 0, 1) := by decide +kernel
theorem dX8_mean_25 : decode cX8_mean 25 = .ok (.invokevirtual 195, 3) := by decide +kernel
theorem dX8_mean_28 : decode cX8_mean 28 = .ok (.istore_n 3, 1) := by decide +kernel
theorem dX8_mean_29 : decode cX8_mean 29 = .ok (.iload_n 3, 1) := by decide +kernel
theorem dX8_mean_30 : decode cX8_mean 30 = .ok (.ifCond .eq 10, 3) := by decide +kernel
theorem dX8_mean_33 : decode cX8_mean 33 = .ok (.ldc2_w 202, 3) := by decide +kernel
theorem dX8_mean_36 : decode cX8_mean 36 = .ok (.iload_n 3, 1) := by decide +kernel
theorem dX8_mean_37 : decode cX8_mean 37 = .ok (.i2l, 1) := by decide +kernel
theorem dX8_mean_38 : decode cX8_mean 38 = .ok (.ladd, 1) := by decide +kernel
theorem dX8_mean_39 : decode cX8_mean 39 = .ok (.lreturn, 1) := by decide +kernel
theorem dX8_mean_40 : decode cX8_mean 40 = .ok (.aload_n 0, 1) := by decide +kernel
theorem dX8_mean_41 : decode cX8_mean 41 = .ok (.getfield 49, 3) := by decide +kernel
theorem dX8_mean_44 : decode cX8_mean 44 = .ok (.aload_n 0, 1) := by decide +kernel
theorem dX8_mean_45 : decode cX8_mean 45 = .ok (.getfield 12, 3) := by decide +kernel
theorem dX8_mean_48 : decode cX8_mean 48 = .ok (.aload_n 0, 1) := by decide +kernel
theorem dX8_mean_49 : decode cX8_mean 49 = .ok (.getfield 25, 3) := by decide +kernel
theorem dX8_mean_52 : decode cX8_mean 52 = .ok (.invokevirtual 165, 3) := by decide +kernel
theorem dX8_mean_55 : decode cX8_mean 55 = .ok (.aload_n 0, 1) := by decide +kernel
theorem dX8_mean_56 : decode cX8_mean 56 = .ok (.getfield 63, 3) := by decide +kernel
theorem dX8_mean_59 : decode cX8_mean 59 = .ok (.aload_n 0, 1) := by decide +kernel
theorem dX8_mean_60 : decode cX8_mean 60 = .ok (.getfield 12, 3) := by decide +kernel
theorem dX8_mean_63 : decode cX8_mean 63 = .ok (.invokevirtual 204, 3) := by decide +kernel
theorem dX8_mean_66 : decode cX8_mean 66 = .ok (.aload_n 0, 1) := by decide +kernel
theorem dX8_mean_67 : decode cX8_mean 67 = .ok (.getfield 63, 3) := by decide +kernel
theorem dX8_mean_70 : decode cX8_mean 70 = .ok (.aload_n 0, 1) := by decide +kernel
theorem dX8_mean_71 : decode cX8_mean 71 = .ok (.getfield 49, 3) := by decide +kernel
theorem dX8_mean_74 : decode cX8_mean 74 = .ok (.invokevirtual 212, 3) := by decide +kernel
theorem dX8_mean_77 : decode cX8_mean 77 = .ok (.lstore 4, 2) := by decide +kernel
theorem dX8_mean_79 : decode cX8_mean 79 = .ok (.aload_n 0, 1) := by decide +kernel
theorem dX8_mean_80 : decode cX8_mean 80 = .ok (.getfield 63, 3) := by decide +kernel
theorem dX8_mean_83 : decode cX8_mean 83 = .ok (.aload_n 0, 1) := by decide +kernel
theorem dX8_mean_84 : decode cX8_mean 84 = .ok (.getfield 49, 3) := by decide +kernel
theorem dX8_mean_87 : decode cX8_mean 87 = .ok (.iload_n 1, 1) := by decide +kernel
theorem dX8_mean_88 : decode cX8_mean 88 = .ok (.invokevirtual 220, 3) := by decide +kernel
theorem dX8_mean_91 : decode cX8_mean 91 = .ok (.ldc2_w 224, 3) := by decide +kernel
theorem dX8_mean_94 : decode cX8_mean 94 = .ok (.lload 4, 2) := by decide +kernel
theorem dX8_mean_96 : decode cX8_mean 96 = .ok (.lmul, 1) := by decide +kernel
theorem dX8_mean_97 : decode cX8_mean 97 = .ok (.ladd, 1) := by decide +kernel
theorem dX8_mean_98 : decode cX8_mean 98 = .ok (.lload 4, 2) := by decide +kernel
theorem dX8_mean_100 : decode cX8_mean 100 = .ok (.iload_n 2, 1) := by decide +kernel
theorem dX8_mean_101 : decode cX8_mean 101 = .ok (.invokestatic 216, 3) := by decide +kernel
theorem dX8_mean_104 : decode cX8_mean 104 = .ok (.lreturn, 1) := by decide +kernel
theorem dX8_fell_0 : decode cX8_fell 0 = .ok (.iload_n 1, 1) := by decide +kernel
theorem dX8_fell_1 : decode cX8_fell 1 = .ok (.invokestatic 105, 3) := by decide +kernel
theorem dX8_fell_4 : decode cX8_fell 4 = .ok (.ifCond .ne 5, 3) := by decide +kernel
theorem dX8_fell_7 : decode cX8_fell 7 = .ok (.iconst (-1), 1) := by decide +kernel
theorem dX8_fell_8 : decode cX8_fell 8 = .ok (.ireturn, 1) := by decide +kernel
theorem dX8_fell_9 : decode cX8_fell 9 = .ok (.iload_n 2, 1) := by decide +kernel
theorem dX8_fell_10 : decode cX8_fell 10 = .ok (.invokestatic 158, 3) := by decide +kernel
theorem dX8_fell_13 : decode cX8_fell 13 = .ok (.ifCond .ne 6, 3) := by decide +kernel
theorem dX8_fell_16 : decode cX8_fell 16 = .ok (.bipush (-2), 2) := by decide +kernel
theorem dX8_fell_18 : decode cX8_fell 18 = .ok (.ireturn, 1) := by decide +kernel
theorem dX8_fell_19 : decode cX8_fell 19 = .ok (.aload_n 0, 1) := by decide +kernel
theorem dX8_fell_20 : decode cX8_fell 20 = .ok (.getfield 12, 3) := by decide +kernel
theorem dX8_fell_23 : decode cX8_fell 23 = .ok (.invokevirtual 226, 3) := by decide +kernel
theorem dX8_fell_26 : decode cX8_fell 26 = .ok (.bipush 6, 2) := by decide +kernel
theorem dX8_fell_28 : decode cX8_fell 28 = .ok (.if_icmp .lt 6, 3) := by decide +kernel
theorem dX8_fell_31 : decode cX8_fell 31 = .ok (.bipush (-4), 2) := by decide +kernel
theorem dX8_fell_33 : decode cX8_fell 33 = .ok (.ireturn, 1) := by decide +kernel
theorem dX8_fell_34 : decode cX8_fell 34 = .ok (.aload_n 0, 1) := by decide +kernel
theorem dX8_fell_35 : decode cX8_fell 35 = .ok (.getfield 12, 3) := by decide +kernel
theorem dX8_fell_38 : decode cX8_fell 38 = .ok (.iload_n 1, 1) := by decide +kernel
theorem dX8_fell_39 : decode cX8_fell 39 = .ok (.iload_n 2, 1) := by decide +kernel
theorem dX8_fell_40 : decode cX8_fell 40 = .ok (.invokevirtual 229, 3) := by decide +kernel
theorem dX8_fell_43 : decode cX8_fell 43 = .ok (.aload_n 0, 1) := by decide +kernel
theorem dX8_fell_44 : decode cX8_fell 44 = .ok (.getfield 12, 3) := by decide +kernel
theorem dX8_fell_47 : decode cX8_fell 47 = .ok (.invokevirtual 226, 3) := by decide +kernel
theorem dX8_fell_50 : decode cX8_fell 50 = .ok (.ireturn, 1) := by decide +kernel
theorem dX8_forget_0 : decode cX8_forget 0 = .ok (.aload_n 0, 1) := by decide +kernel
theorem dX8_forget_1 : decode cX8_forget 1 = .ok (.getfield 12, 3) := by decide +kernel
theorem dX8_forget_4 : decode cX8_forget 4 = .ok (.invokevirtual 226, 3) := by decide +kernel
theorem dX8_forget_7 : decode cX8_forget 7 = .ok (.istore_n 1, 1) := by decide +kernel
theorem dX8_forget_8 : decode cX8_forget 8 = .ok (.aload_n 0, 1) := by decide +kernel
theorem dX8_forget_9 : decode cX8_forget 9 = .ok (.getfield 12, 3) := by decide +kernel
theorem dX8_forget_12 : decode cX8_forget 12 = .ok (.invokevirtual 232, 3) := by decide +kernel
theorem dX8_forget_15 : decode cX8_forget 15 = .ok (.iload_n 1, 1) := by decide +kernel
theorem dX8_forget_16 : decode cX8_forget 16 = .ok (.ireturn, 1) := by decide +kernel
theorem dX8_starts_0 : decode cX8_starts 0 = .ok (.iload_n 1, 1) := by decide +kernel
theorem dX8_starts_1 : decode cX8_starts 1 = .ok (.iconst 0, 1) := by decide +kernel
theorem dX8_starts_2 : decode cX8_starts 2 = .ok (.iconst 2, 1) := by decide +kernel
theorem dX8_starts_3 : decode cX8_starts 3 = .ok (.invokestatic 74, 3) := by decide +kernel
theorem dX8_starts_6 : decode cX8_starts 6 = .ok (.ifCond .ne 6, 3) := by decide +kernel
theorem dX8_starts_9 : decode cX8_starts 9 = .ok (.bipush (-2), 2) := by decide +kernel
theorem dX8_starts_11 : decode cX8_starts 11 = .ok (.ireturn, 1) := by decide +kernel
theorem dX8_starts_12 : decode cX8_starts 12 = .ok (.aload_n 0, 1) := by decide +kernel
theorem dX8_starts_13 : decode cX8_starts 13 = .ok (.invokevirtual 126, 3) := by decide +kernel
theorem dX8_starts_16 : decode cX8_starts 16 = .ok (.bipush (-6), 2) := by decide +kernel
theorem dX8_starts_18 : decode cX8_starts 18 = .ok (.if_icmp .eq 6, 3) := by decide +kernel
theorem dX8_starts_21 : decode cX8_starts 21 = .ok (.bipush (-5), 2) := by decide +kernel
theorem dX8_starts_23 : decode cX8_starts 23 = .ok (.ireturn, 1) := by decide +kernel
theorem dX8_starts_24 : decode cX8_starts 24 = .ok (.iconst 0, 1) := by decide +kernel
theorem dX8_starts_25 : decode cX8_starts 25 = .ok (.istore_n 2, 1) := by decide +kernel
theorem dX8_starts_26 : decode cX8_starts 26 = .ok (.bipush (-6), 2) := by decide +kernel
theorem dX8_starts_28 : decode cX8_starts 28 = .ok (.istore_n 3, 1) := by decide +kernel
theorem dX8_starts_29 : decode cX8_starts 29 = .ok (.bipush (-6), 2) := by decide +kernel
theorem dX8_starts_31 : decode cX8_starts 31 = .ok (.istore 4, 2) := by decide +kernel
theorem dX8_starts_33 : decode cX8_starts 33 = .ok (.iconst 0, 1) := by decide +kernel
theorem dX8_starts_34 : decode cX8_starts 34 = .ok (.istore 5, 2) := by decide +kernel
theorem dX8_starts_36 : decode cX8_starts 36 = .ok (.iload 5, 2) := by decide +kernel
theorem dX8_starts_38 : decode cX8_starts 38 = .ok (.bipush 100, 2) := by decide +kernel
theorem dX8_starts_40 : decode cX8_starts 40 = .ok (.if_icmp .ge 38, 3) := by decide +kernel
theorem dX8_starts_43 : decode cX8_starts 43 = .ok (.aload_n 0, 1) := by decide +kernel
theorem dX8_starts_44 : decode cX8_starts 44 = .ok (.iload 5, 2) := by decide +kernel
theorem dX8_starts_46 : decode cX8_starts 46 = .ok (.invokevirtual 235, 3) := by decide +kernel
theorem dX8_starts_49 : decode cX8_starts 49 = .ok (.ifCond .eq 23, 3) := by decide +kernel
theorem dX8_starts_52 : decode cX8_starts 52 = .ok (.iinc 2 1, 3) := by decide +kernel
theorem dX8_starts_55 : decode cX8_starts 55 = .ok (.iload_n 3, 1) := by decide +kernel
theorem dX8_starts_56 : decode cX8_starts 56 = .ok (.bipush (-6), 2) := by decide +kernel
theorem dX8_starts_58 : decode cX8_starts 58 = .ok (.if_icmp .ne 8, 3) := by decide +kernel
theorem dX8_starts_61 : decode cX8_starts 61 = .ok (.iload 5, 2) := by decide +kernel
theorem dX8_starts_63 : decode cX8_starts 63 = .ok (.goto 4, 3) := by decide +kernel
theorem dX8_starts_66 : decode cX8_starts 66 = .ok (.iload_n 3, 1) := by decide +kernel
theorem dX8_starts_67 : decode cX8_starts 67 = .ok (.istore_n 3, 1) := by decide +kernel
theorem dX8_starts_68 : decode cX8_starts 68 = .ok (.iload 5, 2) := by decide +kernel
theorem dX8_starts_70 : decode cX8_starts 70 = .ok (.istore 4, 2) := by decide +kernel
theorem dX8_starts_72 : decode cX8_starts 72 = .ok (.iinc 5 1, 3) := by decide +kernel
theorem dX8_starts_75 : decode cX8_starts 75 = .ok (.goto (-39), 3) := by decide +kernel
theorem dX8_starts_78 : decode cX8_starts 78 = .ok (.iload_n 1, 1) := by decide +kernel
theorem dX8_starts_79 : decode cX8_starts 79 = .ok (.iload_n 2, 1) := by decide +kernel
theorem dX8_starts_80 : decode cX8_starts 80 = .ok (.iload_n 3, 1) := by decide +kernel
theorem dX8_starts_81 : decode cX8_starts 81 = .ok (.iload 4, 2) := by decide +kernel
theorem dX8_starts_83 : decode cX8_starts 83 = .ok (.invokestatic 238, 3) := by decide +kernel
theorem dX8_starts_86 : decode cX8_starts 86 = .ok (.ireturn, 1) := by decide +kernel
theorem dX8_ahead_0 : decode cX8_ahead 0 = .ok (.aload_n 0, 1) := by decide +kernel
theorem dX8_ahead_1 : decode cX8_ahead 1 = .ok (.iload_n 1, 1) := by decide +kernel
theorem dX8_ahead_2 : decode cX8_ahead 2 = .ok (.iconst 0, 1) := by decide +kernel
theorem dX8_ahead_3 : decode cX8_ahead 3 = .ok (.bipush 63, 2) := by decide +kernel
theorem dX8_ahead_5 : decode cX8_ahead 5 = .ok (.invokestatic 74, 3) := by decide +kernel
theorem dX8_ahead_8 : decode cX8_ahead 8 = .ok (.ifCond .eq 16, 3) := by decide +kernel
theorem dX8_ahead_11 : decode cX8_ahead 11 = .ok (.iload_n 2, 1) := by decide +kernel
theorem dX8_ahead_12 : decode cX8_ahead 12 = .ok (.iconst 0, 1) := by decide +kernel
theorem dX8_ahead_13 : decode cX8_ahead 13 = .ok (.iconst 1, 1) := by decide +kernel
theorem dX8_ahead_14 : decode cX8_ahead 14 = .ok (.invokestatic 74, 3) := by decide +kernel
theorem dX8_ahead_17 : decode cX8_ahead 17 = .ok (.ifCond .eq 7, 3) := by decide +kernel
theorem dX8_ahead_20 : decode cX8_ahead 20 = .ok (.iconst 1, 1) := by decide +kernel
theorem dX8_ahead_21 : decode cX8_ahead 21 = .ok (.goto 4, 3) := by decide +kernel
theorem dX8_ahead_24 : decode cX8_ahead 24 = .ok (.iconst 0, 1) := by decide +kernel
theorem dX8_ahead_25 : decode cX8_ahead 25 = .ok (.invokevirtual 195, 3) := by decide +kernel
theorem dX8_ahead_28 : decode cX8_ahead 28 = .ok (.istore_n 3, 1) := by decide +kernel
theorem dX8_ahead_29 : decode cX8_ahead 29 = .ok (.iload_n 3, 1) := by decide +kernel
theorem dX8_ahead_30 : decode cX8_ahead 30 = .ok (.ifCond .eq 5, 3) := by decide +kernel
theorem dX8_ahead_33 : decode cX8_ahead 33 = .ok (.iload_n 3, 1) := by decide +kernel
theorem dX8_ahead_34 : decode cX8_ahead 34 = .ok (.ireturn, 1) := by decide +kernel
theorem dX8_ahead_35 : decode cX8_ahead 35 = .ok (.aload_n 0, 1) := by decide +kernel
theorem dX8_ahead_36 : decode cX8_ahead 36 = .ok (.getfield 12, 3) := by decide +kernel
theorem dX8_ahead_39 : decode cX8_ahead 39 = .ok (.invokevirtual 172, 3) := by decide +kernel
theorem dX8_ahead_42 : decode cX8_ahead 42 = .ok (.istore 4, 2) := by decide +kernel
theorem dX8_ahead_44 : decode cX8_ahead 44 = .ok (.aload_n 0, 1) := by decide +kernel
theorem dX8_ahead_45 : decode cX8_ahead 45 = .ok (.getfield 32, 3) := by decide +kernel
theorem dX8_ahead_48 : decode cX8_ahead 48 = .ok (.aload_n 0, 1) := by decide +kernel
theorem dX8_ahead_49 : decode cX8_ahead 49 = .ok (.getfield 12, 3) := by decide +kernel
theorem dX8_ahead_52 : decode cX8_ahead 52 = .ok (.iconst 1, 1) := by decide +kernel
theorem dX8_ahead_53 : decode cX8_ahead 53 = .ok (.invokevirtual 97, 3) := by decide +kernel
theorem dX8_ahead_56 : decode cX8_ahead 56 = .ok (.iload 4, 2) := by decide +kernel
theorem dX8_ahead_58 : decode cX8_ahead 58 = .ok (.iconst 0, 1) := by decide +kernel
theorem dX8_ahead_59 : decode cX8_ahead 59 = .ok (.invokevirtual 242, 3) := by decide +kernel
theorem dX8_ahead_62 : decode cX8_ahead 62 = .ok (.aload_n 0, 1) := by decide +kernel
theorem dX8_ahead_63 : decode cX8_ahead 63 = .ok (.getfield 36, 3) := by decide +kernel
theorem dX8_ahead_66 : decode cX8_ahead 66 = .ok (.aload_n 0, 1) := by decide +kernel
theorem dX8_ahead_67 : decode cX8_ahead 67 = .ok (.getfield 12, 3) := by decide +kernel
theorem dX8_ahead_70 : decode cX8_ahead 70 = .ok (.iconst 1, 1) := by decide +kernel
theorem dX8_ahead_71 : decode cX8_ahead 71 = .ok (.invokevirtual 97, 3) := by decide +kernel
theorem dX8_ahead_74 : decode cX8_ahead 74 = .ok (.iload 4, 2) := by decide +kernel
theorem dX8_ahead_76 : decode cX8_ahead 76 = .ok (.iload_n 1, 1) := by decide +kernel
theorem dX8_ahead_77 : decode cX8_ahead 77 = .ok (.iand, 1) := by decide +kernel
theorem dX8_ahead_78 : decode cX8_ahead 78 = .ok (.iconst 0, 1) := by decide +kernel
theorem dX8_ahead_79 : decode cX8_ahead 79 = .ok (.invokevirtual 242, 3) := by decide +kernel
theorem dX8_ahead_82 : decode cX8_ahead 82 = .ok (.iconst 0, 1) := by decide +kernel
theorem dX8_ahead_83 : decode cX8_ahead 83 = .ok (.istore 5, 2) := by decide +kernel
theorem dX8_ahead_85 : decode cX8_ahead 85 = .ok (.iconst 0, 1) := by decide +kernel
theorem dX8_ahead_86 : decode cX8_ahead 86 = .ok (.istore 6, 2) := by decide +kernel
theorem dX8_ahead_88 : decode cX8_ahead 88 = .ok (.aload_n 0, 1) := by decide +kernel
theorem dX8_ahead_89 : decode cX8_ahead 89 = .ok (.getfield 25, 3) := by decide +kernel
theorem dX8_ahead_92 : decode cX8_ahead 92 = .ok (.bipush 46, 2) := by decide +kernel
theorem dX8_ahead_94 : decode cX8_ahead 94 = .ok (.invokevirtual 129, 3) := by decide +kernel
theorem dX8_ahead_97 : decode cX8_ahead 97 = .ok (.istore 7, 2) := by decide +kernel
theorem dX8_ahead_99 : decode cX8_ahead 99 = .ok (.iload 7, 2) := by decide +kernel
theorem dX8_ahead_101 : decode cX8_ahead 101 = .ok (.ifCond .le 85, 3) := by decide +kernel
theorem dX8_ahead_104 : decode cX8_ahead 104 = .ok (.aload_n 0, 1) := by decide +kernel
theorem dX8_ahead_105 : decode cX8_ahead 105 = .ok (.getfield 32, 3) := by decide +kernel
theorem dX8_ahead_108 : decode cX8_ahead 108 = .ok (.aload_n 0, 1) := by decide +kernel
theorem dX8_ahead_109 : decode cX8_ahead 109 = .ok (.getfield 12, 3) := by decide +kernel
theorem dX8_ahead_112 : decode cX8_ahead 112 = .ok (.invokevirtual 245, 3) := by decide +kernel
theorem dX8_ahead_115 : decode cX8_ahead 115 = .ok (.aload_n 0, 1) := by decide +kernel
theorem dX8_ahead_116 : decode cX8_ahead 116 = .ok (.getfield 36, 3) := by decide +kernel
theorem dX8_ahead_119 : decode cX8_ahead 119 = .ok (.aload_n 0, 1) := by decide +kernel
theorem dX8_ahead_120 : decode cX8_ahead 120 = .ok (.getfield 12, 3) := by decide +kernel
theorem dX8_ahead_123 : decode cX8_ahead 123 = .ok (.invokevirtual 245, 3) := by decide +kernel
theorem dX8_ahead_126 : decode cX8_ahead 126 = .ok (.iload 5, 2) := by decide +kernel
theorem dX8_ahead_128 : decode cX8_ahead 128 = .ok (.aload_n 0, 1) := by decide +kernel
theorem dX8_ahead_129 : decode cX8_ahead 129 = .ok (.getfield 32, 3) := by decide +kernel
theorem dX8_ahead_132 : decode cX8_ahead 132 = .ok (.invokevirtual 135, 3) := by decide +kernel
theorem dX8_ahead_135 : decode cX8_ahead 135 = .ok (.aload_n 0, 1) := by decide +kernel
theorem dX8_ahead_136 : decode cX8_ahead 136 = .ok (.getfield 36, 3) := by decide +kernel
theorem dX8_ahead_139 : decode cX8_ahead 139 = .ok (.invokevirtual 135, 3) := by decide +kernel
theorem dX8_ahead_142 : decode cX8_ahead 142 = .ok (.if_icmp .le 7, 3) := by decide +kernel
theorem dX8_ahead_145 : decode cX8_ahead 145 = .ok (.iconst 1, 1) := by decide +kernel
theorem dX8_ahead_146 : decode cX8_ahead 146 = .ok (.goto 4, 3) := by decide +kernel
theorem dX8_ahead_149 : decode cX8_ahead 149 = .ok (.iconst 0, 1) := by decide +kernel
theorem dX8_ahead_150 : decode cX8_ahead 150 = .ok (.iadd, 1) := by decide +kernel
theorem dX8_ahead_151 : decode cX8_ahead 151 = .ok (.istore 5, 2) := by decide +kernel
theorem dX8_ahead_153 : decode cX8_ahead 153 = .ok (.iload 6, 2) := by decide +kernel
theorem dX8_ahead_155 : decode cX8_ahead 155 = .ok (.aload_n 0, 1) := by decide +kernel
theorem dX8_ahead_156 : decode cX8_ahead 156 = .ok (.getfield 36, 3) := by decide +kernel
theorem dX8_ahead_159 : decode cX8_ahead 159 = .ok (.invokevirtual 135, 3) := by decide +kernel
theorem dX8_ahead_162 : decode cX8_ahead 162 = .ok (.aload_n 0, 1) := by decide +kernel
theorem dX8_ahead_163 : decode cX8_ahead 163 = .ok (.getfield 32, 3) := by decide +kernel
theorem dX8_ahead_166 : decode cX8_ahead 166 = .ok (.invokevirtual 135, 3) := by decide +kernel
theorem dX8_ahead_169 : decode cX8_ahead 169 = .ok (.if_icmp .le 7, 3) := by decide +kernel
theorem dX8_ahead_172 : decode cX8_ahead 172 = .ok (.iconst 1, 1) := by decide +kernel
theorem dX8_ahead_173 : decode cX8_ahead 173 = .ok (.goto 4, 3) := by decide +kernel
theorem dX8_ahead_176 : decode cX8_ahead 176 = .ok (.iconst 0, 1) := by decide +kernel
theorem dX8_ahead_177 : decode cX8_ahead 177 = .ok (.iadd, 1) := by decide +kernel
theorem dX8_ahead_178 : decode cX8_ahead 178 = .ok (.istore 6, 2) := by decide +kernel
theorem dX8_ahead_180 : decode cX8_ahead 180 = .ok (.iinc 7 (-1), 3) := by decide +kernel
theorem dX8_ahead_183 : decode cX8_ahead 183 = .ok (.goto (-84), 3) := by decide +kernel
theorem dX8_ahead_186 : decode cX8_ahead 186 = .ok (.iload_n 2, 1) := by decide +kernel
theorem dX8_ahead_187 : decode cX8_ahead 187 = .ok (.ifCond .ne 8, 3) := by decide +kernel
theorem dX8_ahead_190 : decode cX8_ahead 190 = .ok (.iload 5, 2) := by decide +kernel
theorem dX8_ahead_192 : decode cX8_ahead 192 = .ok (.goto 5, 3) := by decide +kernel
theorem dX8_ahead_195 : decode cX8_ahead 195 = .ok (.iload 6, 2) := by decide +kernel
theorem dX8_ahead_197 : decode cX8_ahead 197 = .ok (.ireturn, 1) := by decide +kernel
theorem dX8_year_0 : decode cX8_year 0 = .ok (.iload_n 1, 1) := by decide +kernel
theorem dX8_year_1 : decode cX8_year 1 = .ok (.iconst 0, 1) := by decide +kernel
theorem dX8_year_2 : decode cX8_year 2 = .ok (.sipush 9999, 3) := by decide +kernel
theorem dX8_year_5 : decode cX8_year 5 = .ok (.invokestatic 74, 3) := by decide +kernel
theorem dX8_year_8 : decode cX8_year 8 = .ok (.ifCond .eq 22, 3) := by decide +kernel
theorem dX8_year_11 : decode cX8_year 11 = .ok (.iload_n 2, 1) := by decide +kernel
theorem dX8_year_12 : decode cX8_year 12 = .ok (.iconst 1, 1) := by decide +kernel
theorem dX8_year_13 : decode cX8_year 13 = .ok (.bipush 60, 2) := by decide +kernel
theorem dX8_year_15 : decode cX8_year 15 = .ok (.invokestatic 74, 3) := by decide +kernel
theorem dX8_year_18 : decode cX8_year 18 = .ok (.ifCond .eq 12, 3) := by decide +kernel
theorem dX8_year_21 : decode cX8_year 21 = .ok (.iload_n 3, 1) := by decide +kernel
theorem dX8_year_22 : decode cX8_year 22 = .ok (.iconst 0, 1) := by decide +kernel
theorem dX8_year_23 : decode cX8_year 23 = .ok (.iconst 2, 1) := by decide +kernel
theorem dX8_year_24 : decode cX8_year 24 = .ok (.invokestatic 74, 3) := by decide +kernel
theorem dX8_year_27 : decode cX8_year 27 = .ok (.ifCond .ne 6, 3) := by decide +kernel
theorem dX8_year_30 : decode cX8_year 30 = .ok (.bipush (-2), 2) := by decide +kernel
theorem dX8_year_32 : decode cX8_year 32 = .ok (.ireturn, 1) := by decide +kernel
theorem dX8_year_33 : decode cX8_year 33 = .ok (.iconst 0, 1) := by decide +kernel
theorem dX8_year_34 : decode cX8_year 34 = .ok (.istore 4, 2) := by decide +kernel
theorem dX8_year_36 : decode cX8_year 36 = .ok (.sipush 600, 3) := by decide +kernel
theorem dX8_year_39 : decode cX8_year 39 = .ok (.istore 5, 2) := by decide +kernel
theorem dX8_year_41 : decode cX8_year 41 = .ok (.sipush (-600), 3) := by decide +kernel
theorem dX8_year_44 : decode cX8_year 44 = .ok (.istore 6, 2) := by decide +kernel
theorem dX8_year_46 : decode cX8_year 46 = .ok (.iload_n 1, 1) := by decide +kernel
theorem dX8_year_47 : decode cX8_year 47 = .ok (.istore 7, 2) := by decide +kernel
theorem dX8_year_49 : decode cX8_year 49 = .ok (.iconst 0, 1) := by decide +kernel
theorem dX8_year_50 : decode cX8_year 50 = .ok (.istore 8, 2) := by decide +kernel
theorem dX8_year_52 : decode cX8_year 52 = .ok (.iload 8, 2) := by decide +kernel
theorem dX8_year_54 : decode cX8_year 54 = .ok (.iload_n 2, 1) := by decide +kernel
theorem dX8_year_55 : decode cX8_year 55 = .ok (.if_icmp .ge 57, 3) := by decide +kernel
theorem dX8_year_58 : decode cX8_year 58 = .ok (.aload_n 0, 1) := by decide +kernel
theorem dX8_year_59 : decode cX8_year 59 = .ok (.iload 7, 2) := by decide +kernel
theorem dX8_year_61 : decode cX8_year 61 = .ok (.invokevirtual 248, 3) := by decide +kernel
theorem dX8_year_64 : decode cX8_year 64 = .ok (.istore 7, 2) := by decide +kernel
theorem dX8_year_66 : decode cX8_year 66 = .ok (.iload 4, 2) := by decide +kernel
theorem dX8_year_68 : decode cX8_year 68 = .ok (.aload_n 0, 1) := by decide +kernel
theorem dX8_year_69 : decode cX8_year 69 = .ok (.getfield 32, 3) := by decide +kernel
theorem dX8_year_72 : decode cX8_year 72 = .ok (.invokevirtual 135, 3) := by decide +kernel
theorem dX8_year_75 : decode cX8_year 75 = .ok (.iadd, 1) := by decide +kernel
theorem dX8_year_76 : decode cX8_year 76 = .ok (.istore 4, 2) := by decide +kernel
theorem dX8_year_78 : decode cX8_year 78 = .ok (.iload 5, 2) := by decide +kernel
theorem dX8_year_80 : decode cX8_year 80 = .ok (.aload_n 0, 1) := by decide +kernel
theorem dX8_year_81 : decode cX8_year 81 = .ok (.getfield 32, 3) := by decide +kernel
theorem dX8_year_84 : decode cX8_year 84 = .ok (.invokevirtual 135, 3) := by decide +kernel
theorem dX8_year_87 : decode cX8_year 87 = .ok (.invokestatic 251, 3) := by decide +kernel
theorem dX8_year_90 : decode cX8_year 90 = .ok (.istore 5, 2) := by decide +kernel
theorem dX8_year_92 : decode cX8_year 92 = .ok (.iload 6, 2) := by decide +kernel
theorem dX8_year_94 : decode cX8_year 94 = .ok (.aload_n 0, 1) := by decide +kernel
theorem dX8_year_95 : decode cX8_year 95 = .ok (.getfield 32, 3) := by decide +kernel
theorem dX8_year_98 : decode cX8_year 98 = .ok (.invokevirtual 135, 3) := by decide +kernel
theorem dX8_year_101 : decode cX8_year 101 = .ok (.invokestatic 256, 3) := by decide +kernel
theorem dX8_year_104 : decode cX8_year 104 = .ok (.istore 6, 2) := by decide +kernel
theorem dX8_year_106 : decode cX8_year 106 = .ok (.iinc 8 1, 3) := by decide +kernel
theorem dX8_year_109 : decode cX8_year 109 = .ok (.goto (-57), 3) := by decide +kernel
theorem dX8_year_112 : decode cX8_year 112 = .ok (.iload_n 3, 1) := by decide +kernel
theorem dX8_year_113 : decode cX8_year 113 = .ok (.iload 4, 2) := by decide +kernel
theorem dX8_year_115 : decode cX8_year 115 = .ok (.ldc_w 259, 3) := by decide +kernel
theorem dX8_year_118 : decode cX8_year 118 = .ok (.iadd, 1) := by decide +kernel
theorem dX8_year_119 : decode cX8_year 119 = .ok (.iload 5, 2) := by decide +kernel
theorem dX8_year_121 : decode cX8_year 121 = .ok (.sipush 1000, 3) := by decide +kernel
theorem dX8_year_124 : decode cX8_year 124 = .ok (.iadd, 1) := by decide +kernel
theorem dX8_year_125 : decode cX8_year 125 = .ok (.iload 6, 2) := by decide +kernel
theorem dX8_year_127 : decode cX8_year 127 = .ok (.sipush 1000, 3) := by decide +kernel
theorem dX8_year_130 : decode cX8_year 130 = .ok (.iadd, 1) := by decide +kernel
theorem dX8_year_131 : decode cX8_year 131 = .ok (.invokestatic 238, 3) := by decide +kernel
theorem dX8_year_134 : decode cX8_year 134 = .ok (.ireturn, 1) := by decide +kernel
theorem dX8_image_0 : decode cX8_image 0 = .ok (.iload_n 1, 1) := by decide +kernel
theorem dX8_image_1 : decode cX8_image 1 = .ok (.iconst 0, 1) := by decide +kernel
theorem dX8_image_2 : decode cX8_image 2 = .ok (.iconst 1, 1) := by decide +kernel
theorem dX8_image_3 : decode cX8_image 3 = .ok (.invokestatic 74, 3) := by decide +kernel
theorem dX8_image_6 : decode cX8_image 6 = .ok (.ifCond .ne 6, 3) := by decide +kernel
theorem dX8_image_9 : decode cX8_image 9 = .ok (.bipush (-2), 2) := by decide +kernel
theorem dX8_image_11 : decode cX8_image 11 = .ok (.ireturn, 1) := by decide +kernel
theorem dX8_image_12 : decode cX8_image 12 = .ok (.aload_n 0, 1) := by decide +kernel
theorem dX8_image_13 : decode cX8_image 13 = .ok (.iload_n 1, 1) := by decide +kernel
theorem dX8_image_14 : decode cX8_image 14 = .ok (.invokevirtual 260, 3) := by decide +kernel
theorem dX8_image_17 : decode cX8_image 17 = .ok (.aload_n 0, 1) := by decide +kernel
theorem dX8_image_18 : decode cX8_image 18 = .ok (.getfield 12, 3) := by decide +kernel
theorem dX8_image_21 : decode cX8_image 21 = .ok (.invokevirtual 264, 3) := by decide +kernel
theorem dX8_image_24 : decode cX8_image 24 = .ok (.iconst 1, 1) := by decide +kernel
theorem dX8_image_25 : decode cX8_image 25 = .ok (.ireturn, 1) := by decide +kernel
theorem dX8_restore_0 : decode cX8_restore 0 = .ok (.iload_n 1, 1) := by decide +kernel
theorem dX8_restore_1 : decode cX8_restore 1 = .ok (.iconst 0, 1) := by decide +kernel
theorem dX8_restore_2 : decode cX8_restore 2 = .ok (.iconst 1, 1) := by decide +kernel
theorem dX8_restore_3 : decode cX8_restore 3 = .ok (.invokestatic 74, 3) := by decide +kernel
theorem dX8_restore_6 : decode cX8_restore 6 = .ok (.ifCond .ne 6, 3) := by decide +kernel
theorem dX8_restore_9 : decode cX8_restore 9 = .ok (.bipush (-2), 2) := by decide +kernel
theorem dX8_restore_11 : decode cX8_restore 11 = .ok (.ireturn, 1) := by decide +kernel
theorem dX8_restore_12 : decode cX8_restore 12 = .ok (.aload_n 0, 1) := by decide +kernel
theorem dX8_restore_13 : decode cX8_restore 13 = .ok (.iload_n 1, 1) := by decide +kernel
theorem dX8_restore_14 : decode cX8_restore 14 = .ok (.invokevirtual 260, 3) := by decide +kernel
theorem dX8_restore_17 : decode cX8_restore 17 = .ok (.invokevirtual 267, 3) := by decide +kernel
theorem dX8_restore_20 : decode cX8_restore 20 = .ok (.ifCond .ne 6, 3) := by decide +kernel
theorem dX8_restore_23 : decode cX8_restore 23 = .ok (.bipush (-3), 2) := by decide +kernel
theorem dX8_restore_25 : decode cX8_restore 25 = .ok (.ireturn, 1) := by decide +kernel
theorem dX8_restore_26 : decode cX8_restore 26 = .ok (.aload_n 0, 1) := by decide +kernel
theorem dX8_restore_27 : decode cX8_restore 27 = .ok (.getfield 12, 3) := by decide +kernel
theorem dX8_restore_30 : decode cX8_restore 30 = .ok (.aload_n 0, 1) := by decide +kernel
theorem dX8_restore_31 : decode cX8_restore 31 = .ok (.iload_n 1, 1) := by decide +kernel
theorem dX8_restore_32 : decode cX8_restore 32 = .ok (.invokevirtual 260, 3) := by decide +kernel
theorem dX8_restore_35 : decode cX8_restore 35 = .ok (.invokevirtual 271, 3) := by decide +kernel
theorem dX8_restore_38 : decode cX8_restore 38 = .ok (.iconst 1, 1) := by decide +kernel
theorem dX8_restore_39 : decode cX8_restore 39 = .ok (.ireturn, 1) := by decide +kernel
theorem dX8_told_0 : decode cX8_told 0 = .ok (.iload_n 1, 1) := by decide +kernel
theorem dX8_told_1 : decode cX8_told 1 = .ok (.ifCond .ne 11, 3) := by decide +kernel
theorem dX8_told_4 : decode cX8_told 4 = .ok (.aload_n 0, 1) := by decide +kernel
theorem dX8_told_5 : decode cX8_told 5 = .ok (.getfield 25, 3) := by decide +kernel
theorem dX8_told_8 : decode cX8_told 8 = .ok (.invokevirtual 115, 3) := by decide +kernel
theorem dX8_told_11 : decode cX8_told 11 = .ok (.ireturn, 1) := by decide +kernel
theorem dX8_told_12 : decode cX8_told 12 = .ok (.iload_n 1, 1) := by decide +kernel
theorem dX8_told_13 : decode cX8_told 13 = .ok (.iconst 1, 1) := by decide +kernel
theorem dX8_told_14 : decode cX8_told 14 = .ok (.bipush 6, 2) := by decide +kernel
theorem dX8_told_16 : decode cX8_told 16 = .ok (.invokestatic 74, 3) := by decide +kernel
theorem dX8_told_19 : decode cX8_told 19 = .ok (.ifCond .eq 14, 3) := by decide +kernel
theorem dX8_told_22 : decode cX8_told 22 = .ok (.aload_n 0, 1) := by decide +kernel
theorem dX8_told_23 : decode cX8_told 23 = .ok (.getfield 12, 3) := by decide +kernel
theorem dX8_told_26 : decode cX8_told 26 = .ok (.iload_n 1, 1) := by decide +kernel
theorem dX8_told_27 : decode cX8_told 27 = .ok (.iconst 1, 1) := by decide +kernel
theorem dX8_told_28 : decode cX8_told 28 = .ok (.isub, 1) := by decide +kernel
theorem dX8_told_29 : decode cX8_told 29 = .ok (.invokevirtual 97, 3) := by decide +kernel
theorem dX8_told_32 : decode cX8_told 32 = .ok (.ireturn, 1) := by decide +kernel
theorem dX8_told_33 : decode cX8_told 33 = .ok (.iload_n 1, 1) := by decide +kernel
theorem dX8_told_34 : decode cX8_told 34 = .ok (.bipush 7, 2) := by decide +kernel
theorem dX8_told_36 : decode cX8_told 36 = .ok (.if_icmp .ne 11, 3) := by decide +kernel
theorem dX8_told_39 : decode cX8_told 39 = .ok (.aload_n 0, 1) := by decide +kernel
theorem dX8_told_40 : decode cX8_told 40 = .ok (.getfield 12, 3) := by decide +kernel
theorem dX8_told_43 : decode cX8_told 43 = .ok (.invokevirtual 226, 3) := by decide +kernel
theorem dX8_told_46 : decode cX8_told 46 = .ok (.ireturn, 1) := by decide +kernel
theorem dX8_told_47 : decode cX8_told 47 = .ok (.iload_n 1, 1) := by decide +kernel
theorem dX8_told_48 : decode cX8_told 48 = .ok (.bipush 10, 2) := by decide +kernel
theorem dX8_told_50 : decode cX8_told 50 = .ok (.bipush 15, 2) := by decide +kernel
theorem dX8_told_52 : decode cX8_told 52 = .ok (.invokestatic 74, 3) := by decide +kernel
theorem dX8_told_55 : decode cX8_told 55 = .ok (.ifCond .eq 15, 3) := by decide +kernel
theorem dX8_told_58 : decode cX8_told 58 = .ok (.aload_n 0, 1) := by decide +kernel
theorem dX8_told_59 : decode cX8_told 59 = .ok (.getfield 12, 3) := by decide +kernel
theorem dX8_told_62 : decode cX8_told 62 = .ok (.iload_n 1, 1) := by decide +kernel
theorem dX8_told_63 : decode cX8_told 63 = .ok (.bipush 10, 2) := by decide +kernel
theorem dX8_told_65 : decode cX8_told 65 = .ok (.isub, 1) := by decide +kernel
theorem dX8_told_66 : decode cX8_told 66 = .ok (.invokevirtual 109, 3) := by decide +kernel
theorem dX8_told_69 : decode cX8_told 69 = .ok (.ireturn, 1) := by decide +kernel
theorem dX8_told_70 : decode cX8_told 70 = .ok (.iload_n 1, 1) := by decide +kernel
theorem dX8_told_71 : decode cX8_told 71 = .ok (.bipush 20, 2) := by decide +kernel
theorem dX8_told_73 : decode cX8_told 73 = .ok (.bipush 24, 2) := by decide +kernel
theorem dX8_told_75 : decode cX8_told 75 = .ok (.invokestatic 74, 3) := by decide +kernel
theorem dX8_told_78 : decode cX8_told 78 = .ok (.ifCond .eq 19, 3) := by decide +kernel
theorem dX8_told_81 : decode cX8_told 81 = .ok (.aload_n 0, 1) := by decide +kernel
theorem dX8_told_82 : decode cX8_told 82 = .ok (.getfield 12, 3) := by decide +kernel
theorem dX8_told_85 : decode cX8_told 85 = .ok (.iload_n 1, 1) := by decide +kernel
theorem dX8_told_86 : decode cX8_told 86 = .ok (.bipush 20, 2) := by decide +kernel
theorem dX8_told_88 : decode cX8_told 88 = .ok (.isub, 1) := by decide +kernel
theorem dX8_told_89 : decode cX8_told 89 = .ok (.iconst 0, 1) := by decide +kernel
theorem dX8_told_90 : decode cX8_told 90 = .ok (.invokevirtual 78, 3) := by decide +kernel
theorem dX8_told_93 : decode cX8_told 93 = .ok (.bipush 100, 2) := by decide +kernel
theorem dX8_told_95 : decode cX8_told 95 = .ok (.iadd, 1) := by decide +kernel
theorem dX8_told_96 : decode cX8_told 96 = .ok (.ireturn, 1) := by decide +kernel
theorem dX8_told_97 : decode cX8_told 97 = .ok (.iload_n 1, 1) := by decide +kernel
theorem dX8_told_98 : decode cX8_told 98 = .ok (.bipush 30, 2) := by decide +kernel
theorem dX8_told_100 : decode cX8_told 100 = .ok (.bipush 34, 2) := by decide +kernel
theorem dX8_told_102 : decode cX8_told 102 = .ok (.invokestatic 74, 3) := by decide +kernel
theorem dX8_told_105 : decode cX8_told 105 = .ok (.ifCond .eq 19, 3) := by decide +kernel
theorem dX8_told_108 : decode cX8_told 108 = .ok (.aload_n 0, 1) := by decide +kernel
theorem dX8_told_109 : decode cX8_told 109 = .ok (.getfield 12, 3) := by decide +kernel
theorem dX8_told_112 : decode cX8_told 112 = .ok (.iload_n 1, 1) := by decide +kernel
theorem dX8_told_113 : decode cX8_told 113 = .ok (.bipush 30, 2) := by decide +kernel
theorem dX8_told_115 : decode cX8_told 115 = .ok (.isub, 1) := by decide +kernel
theorem dX8_told_116 : decode cX8_told 116 = .ok (.iconst 1, 1) := by decide +kernel
theorem dX8_told_117 : decode cX8_told 117 = .ok (.invokevirtual 78, 3) := by decide +kernel
theorem dX8_told_120 : decode cX8_told 120 = .ok (.bipush 100, 2) := by decide +kernel
theorem dX8_told_122 : decode cX8_told 122 = .ok (.iadd, 1) := by decide +kernel
theorem dX8_told_123 : decode cX8_told 123 = .ok (.ireturn, 1) := by decide +kernel
theorem dX8_told_124 : decode cX8_told 124 = .ok (.bipush (-2), 2) := by decide +kernel
theorem dX8_told_126 : decode cX8_told 126 = .ok (.ireturn, 1) := by decide +kernel
theorem dX8_within_0 : decode cX8_within 0 = .ok (.iload_n 0, 1) := by decide +kernel
theorem dX8_within_1 : decode cX8_within 1 = .ok (.iload_n 1, 1) := by decide +kernel
theorem dX8_within_2 : decode cX8_within 2 = .ok (.if_icmp .lt 12, 3) := by decide +kernel
theorem dX8_within_5 : decode cX8_within 5 = .ok (.iload_n 0, 1) := by decide +kernel
theorem dX8_within_6 : decode cX8_within 6 = .ok (.iload_n 2, 1) := by decide +kernel
theorem dX8_within_7 : decode cX8_within 7 = .ok (.if_icmp .gt 7, 3) := by decide +kernel
theorem dX8_within_10 : decode cX8_within 10 = .ok (.iconst 1, 1) := by decide +kernel
theorem dX8_within_11 : decode cX8_within 11 = .ok (.goto 4, 3) := by decide +kernel
theorem dX8_within_14 : decode cX8_within 14 = .ok (.iconst 0, 1) := by decide +kernel
theorem dX8_within_15 : decode cX8_within 15 = .ok (.ireturn, 1) := by decide +kernel
theorem dX8_isThing_0 : decode cX8_isThing 0 = .ok (.iload_n 0, 1) := by decide +kernel
theorem dX8_isThing_1 : decode cX8_isThing 1 = .ok (.iconst 0, 1) := by decide +kernel
theorem dX8_isThing_2 : decode cX8_isThing 2 = .ok (.iconst 5, 1) := by decide +kernel
theorem dX8_isThing_3 : decode cX8_isThing 3 = .ok (.invokestatic 74, 3) := by decide +kernel
theorem dX8_isThing_6 : decode cX8_isThing 6 = .ok (.ireturn, 1) := by decide +kernel
theorem dX8_isPlace_0 : decode cX8_isPlace 0 = .ok (.iload_n 0, 1) := by decide +kernel
theorem dX8_isPlace_1 : decode cX8_isPlace 1 = .ok (.sipush (-600), 3) := by decide +kernel
theorem dX8_isPlace_4 : decode cX8_isPlace 4 = .ok (.sipush 600, 3) := by decide +kernel
theorem dX8_isPlace_7 : decode cX8_isPlace 7 = .ok (.invokestatic 74, 3) := by decide +kernel
theorem dX8_isPlace_10 : decode cX8_isPlace 10 = .ok (.ireturn, 1) := by decide +kernel
theorem dX8_isStretch_0 : decode cX8_isStretch 0 = .ok (.iload_n 0, 1) := by decide +kernel
theorem dX8_isStretch_1 : decode cX8_isStretch 1 = .ok (.invokestatic 158, 3) := by decide +kernel
theorem dX8_isStretch_4 : decode cX8_isStretch 4 = .ok (.ifCond .eq 19, 3) := by decide +kernel
theorem dX8_isStretch_7 : decode cX8_isStretch 7 = .ok (.iload_n 1, 1) := by decide +kernel
theorem dX8_isStretch_8 : decode cX8_isStretch 8 = .ok (.invokestatic 158, 3) := by decide +kernel
theorem dX8_isStretch_11 : decode cX8_isStretch 11 = .ok (.ifCond .eq 12, 3) := by decide +kernel
theorem dX8_isStretch_14 : decode cX8_isStretch 14 = .ok (.iload_n 1, 1) := by decide +kernel
theorem dX8_isStretch_15 : decode cX8_isStretch 15 = .ok (.iload_n 0, 1) := by decide +kernel
theorem dX8_isStretch_16 : decode cX8_isStretch 16 = .ok (.if_icmp .lt 7, 3) := by decide +kernel
theorem dX8_isStretch_19 : decode cX8_isStretch 19 = .ok (.iconst 1, 1) := by decide +kernel
theorem dX8_isStretch_20 : decode cX8_isStretch 20 = .ok (.goto 4, 3) := by decide +kernel
theorem dX8_isStretch_23 : decode cX8_isStretch 23 = .ok (.iconst 0, 1) := by decide +kernel
theorem dX8_isStretch_24 : decode cX8_isStretch 24 = .ok (.ireturn, 1) := by decide +kernel
theorem dX8_courseRefusal_0 : decode cX8_courseRefusal 0 = .ok (.iload_n 1, 1) := by decide +kernel
theorem dX8_courseRefusal_1 : decode cX8_courseRefusal 1 = .ok (.ifCond .ne 6, 3) := by decide +kernel
theorem dX8_courseRefusal_4 : decode cX8_courseRefusal 4 = .ok (.bipush (-2), 2) := by decide +kernel
theorem dX8_courseRefusal_6 : decode cX8_courseRefusal 6 = .ok (.ireturn, 1) := by decide +kernel
theorem dX8_courseRefusal_7 : decode cX8_courseRefusal 7 = .ok (.aload_n 0, 1) := by decide +kernel
theorem dX8_courseRefusal_8 : decode cX8_courseRefusal 8 = .ok (.invokevirtual 126, 3) := by decide +kernel
theorem dX8_courseRefusal_11 : decode cX8_courseRefusal 11 = .ok (.bipush (-6), 2) := by decide +kernel
theorem dX8_courseRefusal_13 : decode cX8_courseRefusal 13 = .ok (.if_icmp .eq 6, 3) := by decide +kernel
theorem dX8_courseRefusal_16 : decode cX8_courseRefusal 16 = .ok (.bipush (-5), 2) := by decide +kernel
theorem dX8_courseRefusal_18 : decode cX8_courseRefusal 18 = .ok (.ireturn, 1) := by decide +kernel
theorem dX8_courseRefusal_19 : decode cX8_courseRefusal 19 = .ok (.aload_n 0, 1) := by decide +kernel
theorem dX8_courseRefusal_20 : decode cX8_courseRefusal 20 = .ok (.getfield 25, 3) := by decide +kernel
theorem dX8_courseRefusal_23 : decode cX8_courseRefusal 23 = .ok (.invokevirtual 274, 3) := by decide +kernel
theorem dX8_courseRefusal_26 : decode cX8_courseRefusal 26 = .ok (.ifCond .eq 8, 3) := by decide +kernel
theorem dX8_courseRefusal_29 : decode cX8_courseRefusal 29 = .ok (.bipush (-3), 2) := by decide +kernel
theorem dX8_courseRefusal_31 : decode cX8_courseRefusal 31 = .ok (.goto 4, 3) := by decide +kernel
theorem dX8_courseRefusal_34 : decode cX8_courseRefusal 34 = .ok (.iconst 0, 1) := by decide +kernel
theorem dX8_courseRefusal_35 : decode cX8_courseRefusal 35 = .ok (.ireturn, 1) := by decide +kernel
theorem dX8_choiceRefusal_0 : decode cX8_choiceRefusal 0 = .ok (.aload_n 0, 1) := by decide +kernel
theorem dX8_choiceRefusal_1 : decode cX8_choiceRefusal 1 = .ok (.iload_n 1, 1) := by decide +kernel
theorem dX8_choiceRefusal_2 : decode cX8_choiceRefusal 2 = .ok (.invokevirtual 195, 3) := by decide +kernel
theorem dX8_choiceRefusal_5 : decode cX8_choiceRefusal 5 = .ok (.istore_n 2, 1) := by decide +kernel
theorem dX8_choiceRefusal_6 : decode cX8_choiceRefusal 6 = .ok (.iload_n 2, 1) := by decide +kernel
theorem dX8_choiceRefusal_7 : decode cX8_choiceRefusal 7 = .ok (.ifCond .eq 5, 3) := by decide +kernel
theorem dX8_choiceRefusal_10 : decode cX8_choiceRefusal 10 = .ok (.iload_n 2, 1) := by decide +kernel
theorem dX8_choiceRefusal_11 : decode cX8_choiceRefusal 11 = .ok (.ireturn, 1) := by decide +kernel
theorem dX8_choiceRefusal_12 : decode cX8_choiceRefusal 12 = .ok (.aload_n 0, 1) := by decide +kernel
theorem dX8_choiceRefusal_13 : decode cX8_choiceRefusal 13 = .ok (.getfield 25, 3) := by decide +kernel
theorem dX8_choiceRefusal_16 : decode cX8_choiceRefusal 16 = .ok (.bipush 33, 2) := by decide +kernel
theorem dX8_choiceRefusal_18 : decode cX8_choiceRefusal 18 = .ok (.invokevirtual 129, 3) := by decide +kernel
theorem dX8_choiceRefusal_21 : decode cX8_choiceRefusal 21 = .ok (.bipush 6, 2) := by decide +kernel
theorem dX8_choiceRefusal_23 : decode cX8_choiceRefusal 23 = .ok (.if_icmp .le 8, 3) := by decide +kernel
theorem dX8_choiceRefusal_26 : decode cX8_choiceRefusal 26 = .ok (.bipush (-4), 2) := by decide +kernel
theorem dX8_choiceRefusal_28 : decode cX8_choiceRefusal 28 = .ok (.goto 4, 3) := by decide +kernel
theorem dX8_choiceRefusal_31 : decode cX8_choiceRefusal 31 = .ok (.iconst 0, 1) := by decide +kernel
theorem dX8_choiceRefusal_32 : decode cX8_choiceRefusal 32 = .ok (.ireturn, 1) := by decide +kernel
theorem dX8_thingOf_0 : decode cX8_thingOf 0 = .ok (.iload_n 0, 1) := by decide +kernel
theorem dX8_thingOf_1 : decode cX8_thingOf 1 = .ok (.bipush 97, 2) := by decide +kernel
theorem dX8_thingOf_3 : decode cX8_thingOf 3 = .ok (.isub, 1) := by decide +kernel
theorem dX8_thingOf_4 : decode cX8_thingOf 4 = .ok (.invokestatic 105, 3) := by decide +kernel
theorem dX8_thingOf_7 : decode cX8_thingOf 7 = .ok (.ifCond .eq 10, 3) := by decide +kernel
theorem dX8_thingOf_10 : decode cX8_thingOf 10 = .ok (.iload_n 0, 1) := by decide +kernel
theorem dX8_thingOf_11 : decode cX8_thingOf 11 = .ok (.bipush 97, 2) := by decide +kernel
theorem dX8_thingOf_13 : decode cX8_thingOf 13 = .ok (.isub, 1) := by decide +kernel
theorem dX8_thingOf_14 : decode cX8_thingOf 14 = .ok (.goto 5, 3) := by decide +kernel
theorem dX8_thingOf_17 : decode cX8_thingOf 17 = .ok (.bipush (-6), 2) := by decide +kernel
theorem dX8_thingOf_19 : decode cX8_thingOf 19 = .ok (.ireturn, 1) := by decide +kernel
theorem dX8_firstFault_0 : decode cX8_firstFault 0 = .ok (.aload_n 0, 1) := by decide +kernel
theorem dX8_firstFault_1 : decode cX8_firstFault 1 = .ok (.getfield 12, 3) := by decide +kernel
theorem dX8_firstFault_4 : decode cX8_firstFault 4 = .ok (.invokevirtual 172, 3) := by decide +kernel
theorem dX8_firstFault_7 : decode cX8_firstFault 7 = .ok (.istore_n 1, 1) := by decide +kernel
theorem dX8_firstFault_8 : decode cX8_firstFault 8 = .ok (.iconst 0, 1) := by decide +kernel
theorem dX8_firstFault_9 : decode cX8_firstFault 9 = .ok (.istore_n 2, 1) := by decide +kernel
theorem dX8_firstFault_10 : decode cX8_firstFault 10 = .ok (.iconst 0, 1) := by decide +kernel
theorem dX8_firstFault_11 : decode cX8_firstFault 11 = .ok (.istore_n 3, 1) := by decide +kernel
theorem dX8_firstFault_12 : decode cX8_firstFault 12 = .ok (.iload_n 3, 1) := by decide +kernel
theorem dX8_firstFault_13 : decode cX8_firstFault 13 = .ok (.aload_n 0, 1) := by decide +kernel
theorem dX8_firstFault_14 : decode cX8_firstFault 14 = .ok (.getfield 25, 3) := by decide +kernel
theorem dX8_firstFault_17 : decode cX8_firstFault 17 = .ok (.invokevirtual 115, 3) := by decide +kernel
theorem dX8_firstFault_20 : decode cX8_firstFault 20 = .ok (.if_icmp .ge 93, 3) := by decide +kernel
theorem dX8_firstFault_23 : decode cX8_firstFault 23 = .ok (.aload_n 0, 1) := by decide +kernel
theorem dX8_firstFault_24 : decode cX8_firstFault 24 = .ok (.getfield 25, 3) := by decide +kernel
theorem dX8_firstFault_27 : decode cX8_firstFault 27 = .ok (.iload_n 3, 1) := by decide +kernel
theorem dX8_firstFault_28 : decode cX8_firstFault 28 = .ok (.invokevirtual 277, 3) := by decide +kernel
theorem dX8_firstFault_31 : decode cX8_firstFault 31 = .ok (.istore 4, 2) := by decide +kernel
theorem dX8_firstFault_33 : decode cX8_firstFault 33 = .ok (.iload 4, 2) := by decide +kernel
theorem dX8_firstFault_35 : decode cX8_firstFault 35 = .ok (.invokestatic 280, 3) := by decide +kernel
theorem dX8_firstFault_38 : decode cX8_firstFault 38 = .ok (.istore 5, 2) := by decide +kernel
theorem dX8_firstFault_40 : decode cX8_firstFault 40 = .ok (.iload 4, 2) := by decide +kernel
theorem dX8_firstFault_42 : decode cX8_firstFault 42 = .ok (.bipush 33, 2) := by decide +kernel
theorem dX8_firstFault_44 : decode cX8_firstFault 44 = .ok (.if_icmp .ne 6, 3) := by decide +kernel
theorem dX8_firstFault_47 : decode cX8_firstFault 47 = .ok (.iinc 2 1, 3) := by decide +kernel
theorem dX8_firstFault_50 : decode cX8_firstFault 50 = .ok (.iload 4, 2) := by decide +kernel
theorem dX8_firstFault_52 : decode cX8_firstFault 52 = .ok (.bipush 46, 2) := by decide +kernel
theorem dX8_firstFault_54 : decode cX8_firstFault 54 = .ok (.if_icmp .eq 32, 3) := by decide +kernel
theorem dX8_firstFault_57 : decode cX8_firstFault 57 = .ok (.iload 4, 2) := by decide +kernel
theorem dX8_firstFault_59 : decode cX8_firstFault 59 = .ok (.bipush 33, 2) := by decide +kernel
theorem dX8_firstFault_61 : decode cX8_firstFault 61 = .ok (.if_icmp .ne 9, 3) := by decide +kernel
theorem dX8_firstFault_64 : decode cX8_firstFault 64 = .ok (.iload_n 2, 1) := by decide +kernel
theorem dX8_firstFault_65 : decode cX8_firstFault 65 = .ok (.bipush 12, 2) := by decide +kernel
theorem dX8_firstFault_67 : decode cX8_firstFault 67 = .ok (.if_icmp .le 19, 3) := by decide +kernel
theorem dX8_firstFault_70 : decode cX8_firstFault 70 = .ok (.iload 5, 2) := by decide +kernel
theorem dX8_firstFault_72 : decode cX8_firstFault 72 = .ok (.bipush (-6), 2) := by decide +kernel
theorem dX8_firstFault_74 : decode cX8_firstFault 74 = .ok (.if_icmp .eq 16, 3) := by decide +kernel
theorem dX8_firstFault_77 : decode cX8_firstFault 77 = .ok (.iload_n 1, 1) := by decide +kernel
theorem dX8_firstFault_78 : decode cX8_firstFault 78 = .ok (.iload 5, 2) := by decide +kernel
theorem dX8_firstFault_80 : decode cX8_firstFault 80 = .ok (.invokestatic 283, 3) := by decide +kernel
theorem dX8_firstFault_83 : decode cX8_firstFault 83 = .ok (.ifCond .eq 7, 3) := by decide +kernel
theorem dX8_firstFault_86 : decode cX8_firstFault 86 = .ok (.iconst 1, 1) := by decide +kernel
theorem dX8_firstFault_87 : decode cX8_firstFault 87 = .ok (.goto 4, 3) := by decide +kernel
theorem dX8_firstFault_90 : decode cX8_firstFault 90 = .ok (.iconst 0, 1) := by decide +kernel
theorem dX8_firstFault_91 : decode cX8_firstFault 91 = .ok (.istore 6, 2) := by decide +kernel
theorem dX8_firstFault_93 : decode cX8_firstFault 93 = .ok (.iload 6, 2) := by decide +kernel
theorem dX8_firstFault_95 : decode cX8_firstFault 95 = .ok (.ifCond .ne 5, 3) := by decide +kernel
theorem dX8_firstFault_98 : decode cX8_firstFault 98 = .ok (.iload_n 3, 1) := by decide +kernel
theorem dX8_firstFault_99 : decode cX8_firstFault 99 = .ok (.ireturn, 1) := by decide +kernel
theorem dX8_firstFault_100 : decode cX8_firstFault 100 = .ok (.iload_n 1, 1) := by decide +kernel
theorem dX8_firstFault_101 : decode cX8_firstFault 101 = .ok (.iload 5, 2) := by decide +kernel
theorem dX8_firstFault_103 : decode cX8_firstFault 103 = .ok (.invokestatic 286, 3) := by decide +kernel
theorem dX8_firstFault_106 : decode cX8_firstFault 106 = .ok (.istore_n 1, 1) := by decide +kernel
theorem dX8_firstFault_107 : decode cX8_firstFault 107 = .ok (.iinc 3 1, 3) := by decide +kernel
theorem dX8_firstFault_110 : decode cX8_firstFault 110 = .ok (.goto (-98), 3) := by decide +kernel
theorem dX8_firstFault_113 : decode cX8_firstFault 113 = .ok (.bipush (-6), 2) := by decide +kernel
theorem dX8_firstFault_115 : decode cX8_firstFault 115 = .ok (.ireturn, 1) := by decide +kernel
theorem dX8_has_0 : decode cX8_has 0 = .ok (.iload_n 1, 1) := by decide +kernel
theorem dX8_has_1 : decode cX8_has 1 = .ok (.ifCond .lt 21, 3) := by decide +kernel
theorem dX8_has_4 : decode cX8_has 4 = .ok (.iload_n 1, 1) := by decide +kernel
theorem dX8_has_5 : decode cX8_has 5 = .ok (.bipush 6, 2) := by decide +kernel
theorem dX8_has_7 : decode cX8_has 7 = .ok (.if_icmp .ge 15, 3) := by decide +kernel
theorem dX8_has_10 : decode cX8_has 10 = .ok (.iload_n 0, 1) := by decide +kernel
theorem dX8_has_11 : decode cX8_has 11 = .ok (.iload_n 1, 1) := by decide +kernel
theorem dX8_has_12 : decode cX8_has 12 = .ok (.ishr, 1) := by decide +kernel
theorem dX8_has_13 : decode cX8_has 13 = .ok (.iconst 1, 1) := by decide +kernel
theorem dX8_has_14 : decode cX8_has 14 = .ok (.iand, 1) := by decide +kernel
theorem dX8_has_15 : decode cX8_has 15 = .ok (.ifCond .eq 7, 3) := by decide +kernel
theorem dX8_has_18 : decode cX8_has 18 = .ok (.iconst 1, 1) := by decide +kernel
theorem dX8_has_19 : decode cX8_has 19 = .ok (.goto 4, 3) := by decide +kernel
theorem dX8_has_22 : decode cX8_has 22 = .ok (.iconst 0, 1) := by decide +kernel
theorem dX8_has_23 : decode cX8_has 23 = .ok (.ireturn, 1) := by decide +kernel
theorem dX8_without_0 : decode cX8_without 0 = .ok (.iload_n 1, 1) := by decide +kernel
theorem dX8_without_1 : decode cX8_without 1 = .ok (.invokestatic 105, 3) := by decide +kernel
theorem dX8_without_4 : decode cX8_without 4 = .ok (.ifCond .eq 13, 3) := by decide +kernel
theorem dX8_without_7 : decode cX8_without 7 = .ok (.iload_n 0, 1) := by decide +kernel
theorem dX8_without_8 : decode cX8_without 8 = .ok (.iconst 1, 1) := by decide +kernel
theorem dX8_without_9 : decode cX8_without 9 = .ok (.iload_n 1, 1) := by decide +kernel
theorem dX8_without_10 : decode cX8_without 10 = .ok (.ishl, 1) := by decide +kernel
theorem dX8_without_11 : decode cX8_without 11 = .ok (.iconst (-1), 1) := by decide +kernel
theorem dX8_without_12 : decode cX8_without 12 = .ok (.ixor, 1) := by decide +kernel
theorem dX8_without_13 : decode cX8_without 13 = .ok (.iand, 1) := by decide +kernel
theorem dX8_without_14 : decode cX8_without 14 = .ok (.goto 4, 3) := by decide +kernel
theorem dX8_without_17 : decode cX8_without 17 = .ok (.iload_n 0, 1) := by decide +kernel
theorem dX8_without_18 : decode cX8_without 18 = .ok (.ireturn, 1) := by decide +kernel
theorem dX8_flyBehind_0 : decode cX8_flyBehind 0 = .ok (.aload_n 0, 1) := by decide +kernel
theorem dX8_flyBehind_1 : decode cX8_flyBehind 1 = .ok (.getfield 32, 3) := by decide +kernel
theorem dX8_flyBehind_4 : decode cX8_flyBehind 4 = .ok (.aload_n 0, 1) := by decide +kernel
theorem dX8_flyBehind_5 : decode cX8_flyBehind 5 = .ok (.getfield 12, 3) := by decide +kernel
theorem dX8_flyBehind_8 : decode cX8_flyBehind 8 = .ok (.iconst 1, 1) := by decide +kernel
theorem dX8_flyBehind_9 : decode cX8_flyBehind 9 = .ok (.invokevirtual 97, 3) := by decide +kernel
theorem dX8_flyBehind_12 : decode cX8_flyBehind 12 = .ok (.aload_n 0, 1) := by decide +kernel
theorem dX8_flyBehind_13 : decode cX8_flyBehind 13 = .ok (.getfield 12, 3) := by decide +kernel
theorem dX8_flyBehind_16 : decode cX8_flyBehind 16 = .ok (.invokevirtual 172, 3) := by decide +kernel
theorem dX8_flyBehind_19 : decode cX8_flyBehind 19 = .ok (.iconst 0, 1) := by decide +kernel
theorem dX8_flyBehind_20 : decode cX8_flyBehind 20 = .ok (.invokevirtual 242, 3) := by decide +kernel
theorem dX8_flyBehind_23 : decode cX8_flyBehind 23 = .ok (.iconst 0, 1) := by decide +kernel
theorem dX8_flyBehind_24 : decode cX8_flyBehind 24 = .ok (.istore_n 2, 1) := by decide +kernel
theorem dX8_flyBehind_25 : decode cX8_flyBehind 25 = .ok (.iconst 0, 1) := by decide +kernel
theorem dX8_flyBehind_26 : decode cX8_flyBehind 26 = .ok (.istore_n 3, 1) := by decide +kernel
theorem dX8_flyBehind_27 : decode cX8_flyBehind 27 = .ok (.iload_n 3, 1) := by decide +kernel
theorem dX8_flyBehind_28 : decode cX8_flyBehind 28 = .ok (.aload_n 0, 1) := by decide +kernel
theorem dX8_flyBehind_29 : decode cX8_flyBehind 29 = .ok (.getfield 25, 3) := by decide +kernel
theorem dX8_flyBehind_32 : decode cX8_flyBehind 32 = .ok (.invokevirtual 115, 3) := by decide +kernel
theorem dX8_flyBehind_35 : decode cX8_flyBehind 35 = .ok (.if_icmp .ge 62, 3) := by decide +kernel
theorem dX8_flyBehind_38 : decode cX8_flyBehind 38 = .ok (.iload_n 2, 1) := by decide +kernel
theorem dX8_flyBehind_39 : decode cX8_flyBehind 39 = .ok (.iload_n 1, 1) := by decide +kernel
theorem dX8_flyBehind_40 : decode cX8_flyBehind 40 = .ok (.if_icmp .eq 57, 3) := by decide +kernel
theorem dX8_flyBehind_43 : decode cX8_flyBehind 43 = .ok (.aload_n 0, 1) := by decide +kernel
theorem dX8_flyBehind_44 : decode cX8_flyBehind 44 = .ok (.getfield 25, 3) := by decide +kernel
theorem dX8_flyBehind_47 : decode cX8_flyBehind 47 = .ok (.iload_n 3, 1) := by decide +kernel
theorem dX8_flyBehind_48 : decode cX8_flyBehind 48 = .ok (.invokevirtual 277, 3) := by decide +kernel
theorem dX8_flyBehind_51 : decode cX8_flyBehind 51 = .ok (.bipush 46, 2) := by decide +kernel
theorem dX8_flyBehind_53 : decode cX8_flyBehind 53 = .ok (.if_icmp .ne 20, 3) := by decide +kernel
theorem dX8_flyBehind_56 : decode cX8_flyBehind 56 = .ok (.aload_n 0, 1) := by decide +kernel
theorem dX8_flyBehind_57 : decode cX8_flyBehind 57 = .ok (.getfield 32, 3) := by decide +kernel
theorem dX8_flyBehind_60 : decode cX8_flyBehind 60 = .ok (.aload_n 0, 1) := by decide +kernel
theorem dX8_flyBehind_61 : decode cX8_flyBehind 61 = .ok (.getfield 12, 3) := by decide +kernel
theorem dX8_flyBehind_64 : decode cX8_flyBehind 64 = .ok (.invokevirtual 245, 3) := by decide +kernel
theorem dX8_flyBehind_67 : decode cX8_flyBehind 67 = .ok (.iinc 2 1, 3) := by decide +kernel
theorem dX8_flyBehind_70 : decode cX8_flyBehind 70 = .ok (.goto 21, 3) := by decide +kernel
theorem dX8_flyBehind_73 : decode cX8_flyBehind 73 = .ok (.aload_n 0, 1) := by decide +kernel
theorem dX8_flyBehind_74 : decode cX8_flyBehind 74 = .ok (.getfield 32, 3) := by decide +kernel
theorem dX8_flyBehind_77 : decode cX8_flyBehind 77 = .ok (.aload_n 0, 1) := by decide +kernel
theorem dX8_flyBehind_78 : decode cX8_flyBehind 78 = .ok (.getfield 25, 3) := by decide +kernel
theorem dX8_flyBehind_81 : decode cX8_flyBehind 81 = .ok (.iload_n 3, 1) := by decide +kernel
theorem dX8_flyBehind_82 : decode cX8_flyBehind 82 = .ok (.invokevirtual 277, 3) := by decide +kernel
theorem dX8_flyBehind_85 : decode cX8_flyBehind 85 = .ok (.invokestatic 280, 3) := by decide +kernel
theorem dX8_flyBehind_88 : decode cX8_flyBehind 88 = .ok (.invokevirtual 289, 3) := by decide +kernel
theorem dX8_flyBehind_91 : decode cX8_flyBehind 91 = .ok (.iinc 3 1, 3) := by decide +kernel
theorem dX8_flyBehind_94 : decode cX8_flyBehind 94 = .ok (.goto (-67), 3) := by decide +kernel
theorem dX8_flyBehind_97 : decode cX8_flyBehind 97 = .ok (.return_, 1) := by decide +kernel
theorem dX8_offWith_0 : decode cX8_offWith 0 = .ok (.aload_n 0, 1) := by decide +kernel
theorem dX8_offWith_1 : decode cX8_offWith 1 = .ok (.getfield 32, 3) := by decide +kernel
theorem dX8_offWith_4 : decode cX8_offWith 4 = .ok (.aload_n 0, 1) := by decide +kernel
theorem dX8_offWith_5 : decode cX8_offWith 5 = .ok (.getfield 12, 3) := by decide +kernel
theorem dX8_offWith_8 : decode cX8_offWith 8 = .ok (.iconst 1, 1) := by decide +kernel
theorem dX8_offWith_9 : decode cX8_offWith 9 = .ok (.invokevirtual 97, 3) := by decide +kernel
theorem dX8_offWith_12 : decode cX8_offWith 12 = .ok (.iload_n 2, 1) := by decide +kernel
theorem dX8_offWith_13 : decode cX8_offWith 13 = .ok (.iload_n 3, 1) := by decide +kernel
theorem dX8_offWith_14 : decode cX8_offWith 14 = .ok (.invokevirtual 242, 3) := by decide +kernel
theorem dX8_offWith_17 : decode cX8_offWith 17 = .ok (.aload_n 0, 1) := by decide +kernel
theorem dX8_offWith_18 : decode cX8_offWith 18 = .ok (.getfield 25, 3) := by decide +kernel
theorem dX8_offWith_21 : decode cX8_offWith 21 = .ok (.bipush 46, 2) := by decide +kernel
theorem dX8_offWith_23 : decode cX8_offWith 23 = .ok (.invokevirtual 129, 3) := by decide +kernel
theorem dX8_offWith_26 : decode cX8_offWith 26 = .ok (.istore 4, 2) := by decide +kernel
theorem dX8_offWith_28 : decode cX8_offWith 28 = .ok (.iload 4, 2) := by decide +kernel
theorem dX8_offWith_30 : decode cX8_offWith 30 = .ok (.ifCond .le 20, 3) := by decide +kernel
theorem dX8_offWith_33 : decode cX8_offWith 33 = .ok (.aload_n 0, 1) := by decide +kernel
theorem dX8_offWith_34 : decode cX8_offWith 34 = .ok (.getfield 32, 3) := by decide +kernel
theorem dX8_offWith_37 : decode cX8_offWith 37 = .ok (.aload_n 0, 1) := by decide +kernel
theorem dX8_offWith_38 : decode cX8_offWith 38 = .ok (.getfield 12, 3) := by decide +kernel
theorem dX8_offWith_41 : decode cX8_offWith 41 = .ok (.invokevirtual 245, 3) := by decide +kernel
theorem dX8_offWith_44 : decode cX8_offWith 44 = .ok (.iinc 4 (-1), 3) := by decide +kernel
theorem dX8_offWith_47 : decode cX8_offWith 47 = .ok (.goto (-19), 3) := by decide +kernel
theorem dX8_offWith_50 : decode cX8_offWith 50 = .ok (.aload_n 0, 1) := by decide +kernel
theorem dX8_offWith_51 : decode cX8_offWith 51 = .ok (.getfield 32, 3) := by decide +kernel
theorem dX8_offWith_54 : decode cX8_offWith 54 = .ok (.invokevirtual 135, 3) := by decide +kernel
theorem dX8_offWith_57 : decode cX8_offWith 57 = .ok (.iload_n 1, 1) := by decide +kernel
theorem dX8_offWith_58 : decode cX8_offWith 58 = .ok (.isub, 1) := by decide +kernel
theorem dX8_offWith_59 : decode cX8_offWith 59 = .ok (.invokestatic 292, 3) := by decide +kernel
theorem dX8_offWith_62 : decode cX8_offWith 62 = .ok (.ireturn, 1) := by decide +kernel
theorem dX8_sightsHold_0 : decode cX8_sightsHold 0 = .ok (.aload_n 0, 1) := by decide +kernel
theorem dX8_sightsHold_1 : decode cX8_sightsHold 1 = .ok (.getfield 32, 3) := by decide +kernel
theorem dX8_sightsHold_4 : decode cX8_sightsHold 4 = .ok (.iload_n 1, 1) := by decide +kernel
theorem dX8_sightsHold_5 : decode cX8_sightsHold 5 = .ok (.aload_n 0, 1) := by decide +kernel
theorem dX8_sightsHold_6 : decode cX8_sightsHold 6 = .ok (.getfield 12, 3) := by decide +kernel
theorem dX8_sightsHold_9 : decode cX8_sightsHold 9 = .ok (.invokevirtual 172, 3) := by decide +kernel
theorem dX8_sightsHold_12 : decode cX8_sightsHold 12 = .ok (.iconst 0, 1) := by decide +kernel
theorem dX8_sightsHold_13 : decode cX8_sightsHold 13 = .ok (.invokevirtual 242, 3) := by decide +kernel
theorem dX8_sightsHold_16 : decode cX8_sightsHold 16 = .ok (.aload_n 0, 1) := by decide +kernel
theorem dX8_sightsHold_17 : decode cX8_sightsHold 17 = .ok (.getfield 70, 3) := by decide +kernel
theorem dX8_sightsHold_20 : decode cX8_sightsHold 20 = .ok (.invokevirtual 295, 3) := by decide +kernel
theorem dX8_sightsHold_23 : decode cX8_sightsHold 23 = .ok (.iconst 0, 1) := by decide +kernel
theorem dX8_sightsHold_24 : decode cX8_sightsHold 24 = .ok (.istore_n 2, 1) := by decide +kernel
theorem dX8_sightsHold_25 : decode cX8_sightsHold 25 = .ok (.iload_n 2, 1) := by decide +kernel
theorem dX8_sightsHold_26 : decode cX8_sightsHold 26 = .ok (.aload_n 0, 1) := by decide +kernel
theorem dX8_sightsHold_27 : decode cX8_sightsHold 27 = .ok (.getfield 25, 3) := by decide +kernel
theorem dX8_sightsHold_30 : decode cX8_sightsHold 30 = .ok (.invokevirtual 115, 3) := by decide +kernel
theorem dX8_sightsHold_33 : decode cX8_sightsHold 33 = .ok (.if_icmp .ge 79, 3) := by decide +kernel
theorem dX8_sightsHold_36 : decode cX8_sightsHold 36 = .ok (.aload_n 0, 1) := by decide +kernel
theorem dX8_sightsHold_37 : decode cX8_sightsHold 37 = .ok (.getfield 25, 3) := by decide +kernel
theorem dX8_sightsHold_40 : decode cX8_sightsHold 40 = .ok (.iload_n 2, 1) := by decide +kernel
theorem dX8_sightsHold_41 : decode cX8_sightsHold 41 = .ok (.invokevirtual 277, 3) := by decide +kernel
theorem dX8_sightsHold_44 : decode cX8_sightsHold 44 = .ok (.bipush 46, 2) := by decide +kernel
theorem dX8_sightsHold_46 : decode cX8_sightsHold 46 = .ok (.if_icmp .ne 17, 3) := by decide +kernel
theorem dX8_sightsHold_49 : decode cX8_sightsHold 49 = .ok (.aload_n 0, 1) := by decide +kernel
theorem dX8_sightsHold_50 : decode cX8_sightsHold 50 = .ok (.getfield 32, 3) := by decide +kernel
theorem dX8_sightsHold_53 : decode cX8_sightsHold 53 = .ok (.aload_n 0, 1) := by decide +kernel
theorem dX8_sightsHold_54 : decode cX8_sightsHold 54 = .ok (.getfield 12, 3) := by decide +kernel
theorem dX8_sightsHold_57 : decode cX8_sightsHold 57 = .ok (.invokevirtual 245, 3) := by decide +kernel
theorem dX8_sightsHold_60 : decode cX8_sightsHold 60 = .ok (.goto 46, 3) := by decide +kernel
theorem dX8_sightsHold_63 : decode cX8_sightsHold 63 = .ok (.aload_n 0, 1) := by decide +kernel
theorem dX8_sightsHold_64 : decode cX8_sightsHold 64 = .ok (.getfield 70, 3) := by decide +kernel
theorem dX8_sightsHold_67 : decode cX8_sightsHold 67 = .ok (.aload_n 0, 1) := by decide +kernel
theorem dX8_sightsHold_68 : decode cX8_sightsHold 68 = .ok (.getfield 25, 3) := by decide +kernel
theorem dX8_sightsHold_71 : decode cX8_sightsHold 71 = .ok (.iload_n 2, 1) := by decide +kernel
theorem dX8_sightsHold_72 : decode cX8_sightsHold 72 = .ok (.invokevirtual 277, 3) := by decide +kernel
theorem dX8_sightsHold_75 : decode cX8_sightsHold 75 = .ok (.invokestatic 280, 3) := by decide +kernel
theorem dX8_sightsHold_78 : decode cX8_sightsHold 78 = .ok (.aload_n 0, 1) := by decide +kernel
theorem dX8_sightsHold_79 : decode cX8_sightsHold 79 = .ok (.getfield 32, 3) := by decide +kernel
theorem dX8_sightsHold_82 : decode cX8_sightsHold 82 = .ok (.invokevirtual 135, 3) := by decide +kernel
theorem dX8_sightsHold_85 : decode cX8_sightsHold 85 = .ok (.invokevirtual 296, 3) := by decide +kernel
theorem dX8_sightsHold_88 : decode cX8_sightsHold 88 = .ok (.aload_n 0, 1) := by decide +kernel
theorem dX8_sightsHold_89 : decode cX8_sightsHold 89 = .ok (.getfield 32, 3) := by decide +kernel
theorem dX8_sightsHold_92 : decode cX8_sightsHold 92 = .ok (.aload_n 0, 1) := by decide +kernel
theorem dX8_sightsHold_93 : decode cX8_sightsHold 93 = .ok (.getfield 25, 3) := by decide +kernel
theorem dX8_sightsHold_96 : decode cX8_sightsHold 96 = .ok (.iload_n 2, 1) := by decide +kernel
theorem dX8_sightsHold_97 : decode cX8_sightsHold 97 = .ok (.invokevirtual 277, 3) := by decide +kernel
theorem dX8_sightsHold_100 : decode cX8_sightsHold 100 = .ok (.invokestatic 280, 3) := by decide +kernel
theorem dX8_sightsHold_103 : decode cX8_sightsHold 103 = .ok (.invokevirtual 289, 3) := by decide +kernel
theorem dX8_sightsHold_106 : decode cX8_sightsHold 106 = .ok (.iinc 2 1, 3) := by decide +kernel
theorem dX8_sightsHold_109 : decode cX8_sightsHold 109 = .ok (.goto (-84), 3) := by decide +kernel
theorem dX8_sightsHold_112 : decode cX8_sightsHold 112 = .ok (.iconst 0, 1) := by decide +kernel
theorem dX8_sightsHold_113 : decode cX8_sightsHold 113 = .ok (.istore_n 2, 1) := by decide +kernel
theorem dX8_sightsHold_114 : decode cX8_sightsHold 114 = .ok (.iload_n 2, 1) := by decide +kernel
theorem dX8_sightsHold_115 : decode cX8_sightsHold 115 = .ok (.aload_n 0, 1) := by decide +kernel
theorem dX8_sightsHold_116 : decode cX8_sightsHold 116 = .ok (.getfield 12, 3) := by decide +kernel
theorem dX8_sightsHold_119 : decode cX8_sightsHold 119 = .ok (.invokevirtual 226, 3) := by decide +kernel
theorem dX8_sightsHold_122 : decode cX8_sightsHold 122 = .ok (.if_icmp .ge 37, 3) := by decide +kernel
theorem dX8_sightsHold_125 : decode cX8_sightsHold 125 = .ok (.aload_n 0, 1) := by decide +kernel
theorem dX8_sightsHold_126 : decode cX8_sightsHold 126 = .ok (.getfield 70, 3) := by decide +kernel
theorem dX8_sightsHold_129 : decode cX8_sightsHold 129 = .ok (.aload_n 0, 1) := by decide +kernel
theorem dX8_sightsHold_130 : decode cX8_sightsHold 130 = .ok (.getfield 12, 3) := by decide +kernel
theorem dX8_sightsHold_133 : decode cX8_sightsHold 133 = .ok (.iload_n 2, 1) := by decide +kernel
theorem dX8_sightsHold_134 : decode cX8_sightsHold 134 = .ok (.invokevirtual 299, 3) := by decide +kernel
theorem dX8_sightsHold_137 : decode cX8_sightsHold 137 = .ok (.aload_n 0, 1) := by decide +kernel
theorem dX8_sightsHold_138 : decode cX8_sightsHold 138 = .ok (.getfield 12, 3) := by decide +kernel
theorem dX8_sightsHold_141 : decode cX8_sightsHold 141 = .ok (.iload_n 2, 1) := by decide +kernel
theorem dX8_sightsHold_142 : decode cX8_sightsHold 142 = .ok (.invokevirtual 302, 3) := by decide +kernel
theorem dX8_sightsHold_145 : decode cX8_sightsHold 145 = .ok (.invokevirtual 305, 3) := by decide +kernel
theorem dX8_sightsHold_148 : decode cX8_sightsHold 148 = .ok (.ifCond .ne 5, 3) := by decide +kernel
theorem dX8_sightsHold_151 : decode cX8_sightsHold 151 = .ok (.iconst 0, 1) := by decide +kernel
theorem dX8_sightsHold_152 : decode cX8_sightsHold 152 = .ok (.ireturn, 1) := by decide +kernel
theorem dX8_sightsHold_153 : decode cX8_sightsHold 153 = .ok (.iinc 2 1, 3) := by decide +kernel
theorem dX8_sightsHold_156 : decode cX8_sightsHold 156 = .ok (.goto (-42), 3) := by decide +kernel
theorem dX8_sightsHold_159 : decode cX8_sightsHold 159 = .ok (.iconst 1, 1) := by decide +kernel
theorem dX8_sightsHold_160 : decode cX8_sightsHold 160 = .ok (.ireturn, 1) := by decide +kernel
theorem dX8_flyByDraws_0 : decode cX8_flyByDraws 0 = .ok (.iload_n 1, 1) := by decide +kernel
theorem dX8_flyByDraws_1 : decode cX8_flyByDraws 1 = .ok (.istore_n 2, 1) := by decide +kernel
theorem dX8_flyByDraws_2 : decode cX8_flyByDraws 2 = .ok (.aload_n 0, 1) := by decide +kernel
theorem dX8_flyByDraws_3 : decode cX8_flyByDraws 3 = .ok (.getfield 32, 3) := by decide +kernel
theorem dX8_flyByDraws_6 : decode cX8_flyByDraws 6 = .ok (.aload_n 0, 1) := by decide +kernel
theorem dX8_flyByDraws_7 : decode cX8_flyByDraws 7 = .ok (.getfield 12, 3) := by decide +kernel
theorem dX8_flyByDraws_10 : decode cX8_flyByDraws 10 = .ok (.iconst 1, 1) := by decide +kernel
theorem dX8_flyByDraws_11 : decode cX8_flyByDraws 11 = .ok (.invokevirtual 97, 3) := by decide +kernel
theorem dX8_flyByDraws_14 : decode cX8_flyByDraws 14 = .ok (.aload_n 0, 1) := by decide +kernel
theorem dX8_flyByDraws_15 : decode cX8_flyByDraws 15 = .ok (.getfield 12, 3) := by decide +kernel
theorem dX8_flyByDraws_18 : decode cX8_flyByDraws 18 = .ok (.invokevirtual 172, 3) := by decide +kernel
theorem dX8_flyByDraws_21 : decode cX8_flyByDraws 21 = .ok (.iconst 0, 1) := by decide +kernel
theorem dX8_flyByDraws_22 : decode cX8_flyByDraws 22 = .ok (.invokevirtual 242, 3) := by decide +kernel
theorem dX8_flyByDraws_25 : decode cX8_flyByDraws 25 = .ok (.iconst 0, 1) := by decide +kernel
theorem dX8_flyByDraws_26 : decode cX8_flyByDraws 26 = .ok (.istore_n 3, 1) := by decide +kernel
theorem dX8_flyByDraws_27 : decode cX8_flyByDraws 27 = .ok (.iload_n 3, 1) := by decide +kernel
theorem dX8_flyByDraws_28 : decode cX8_flyByDraws 28 = .ok (.bipush 10, 2) := by decide +kernel
theorem dX8_flyByDraws_30 : decode cX8_flyByDraws 30 = .ok (.if_icmp .ge 59, 3) := by decide +kernel
theorem dX8_flyByDraws_33 : decode cX8_flyByDraws 33 = .ok (.bipush 75, 2) := by decide +kernel
theorem dX8_flyByDraws_35 : decode cX8_flyByDraws 35 = .ok (.iload_n 2, 1) := by decide +kernel
theorem dX8_flyByDraws_36 : decode cX8_flyByDraws 36 = .ok (.imul, 1) := by decide +kernel
theorem dX8_flyByDraws_37 : decode cX8_flyByDraws 37 = .ok (.bipush 74, 2) := by decide +kernel
theorem dX8_flyByDraws_39 : decode cX8_flyByDraws 39 = .ok (.iadd, 1) := by decide +kernel
theorem dX8_flyByDraws_40 : decode cX8_flyByDraws 40 = .ok (.ldc_w 308, 3) := by decide +kernel
theorem dX8_flyByDraws_43 : decode cX8_flyByDraws 43 = .ok (.irem, 1) := by decide +kernel
theorem dX8_flyByDraws_44 : decode cX8_flyByDraws 44 = .ok (.istore_n 2, 1) := by decide +kernel
theorem dX8_flyByDraws_45 : decode cX8_flyByDraws 45 = .ok (.iload_n 2, 1) := by decide +kernel
theorem dX8_flyByDraws_46 : decode cX8_flyByDraws 46 = .ok (.iconst 4, 1) := by decide +kernel
theorem dX8_flyByDraws_47 : decode cX8_flyByDraws 47 = .ok (.irem, 1) := by decide +kernel
theorem dX8_flyByDraws_48 : decode cX8_flyByDraws 48 = .ok (.ifCond .ne 24, 3) := by decide +kernel
theorem dX8_flyByDraws_51 : decode cX8_flyByDraws 51 = .ok (.aload_n 0, 1) := by decide +kernel
theorem dX8_flyByDraws_52 : decode cX8_flyByDraws 52 = .ok (.getfield 32, 3) := by decide +kernel
theorem dX8_flyByDraws_55 : decode cX8_flyByDraws 55 = .ok (.aload_n 0, 1) := by decide +kernel
theorem dX8_flyByDraws_56 : decode cX8_flyByDraws 56 = .ok (.getfield 12, 3) := by decide +kernel
theorem dX8_flyByDraws_59 : decode cX8_flyByDraws 59 = .ok (.aload_n 0, 1) := by decide +kernel
theorem dX8_flyByDraws_60 : decode cX8_flyByDraws 60 = .ok (.getfield 32, 3) := by decide +kernel
theorem dX8_flyByDraws_63 : decode cX8_flyByDraws 63 = .ok (.invokevirtual 141, 3) := by decide +kernel
theorem dX8_flyByDraws_66 : decode cX8_flyByDraws 66 = .ok (.invokevirtual 309, 3) := by decide +kernel
theorem dX8_flyByDraws_69 : decode cX8_flyByDraws 69 = .ok (.invokevirtual 289, 3) := by decide +kernel
theorem dX8_flyByDraws_72 : decode cX8_flyByDraws 72 = .ok (.aload_n 0, 1) := by decide +kernel
theorem dX8_flyByDraws_73 : decode cX8_flyByDraws 73 = .ok (.getfield 32, 3) := by decide +kernel
theorem dX8_flyByDraws_76 : decode cX8_flyByDraws 76 = .ok (.aload_n 0, 1) := by decide +kernel
theorem dX8_flyByDraws_77 : decode cX8_flyByDraws 77 = .ok (.getfield 12, 3) := by decide +kernel
theorem dX8_flyByDraws_80 : decode cX8_flyByDraws 80 = .ok (.invokevirtual 245, 3) := by decide +kernel
theorem dX8_flyByDraws_83 : decode cX8_flyByDraws 83 = .ok (.iinc 3 1, 3) := by decide +kernel
theorem dX8_flyByDraws_86 : decode cX8_flyByDraws 86 = .ok (.goto (-59), 3) := by decide +kernel
theorem dX8_flyByDraws_89 : decode cX8_flyByDraws 89 = .ok (.iload_n 2, 1) := by decide +kernel
theorem dX8_flyByDraws_90 : decode cX8_flyByDraws 90 = .ok (.ireturn, 1) := by decide +kernel
theorem dX8_doubtWith_0 : decode cX8_doubtWith 0 = .ok (.aload_n 0, 1) := by decide +kernel
theorem dX8_doubtWith_1 : decode cX8_doubtWith 1 = .ok (.getfield 42, 3) := by decide +kernel
theorem dX8_doubtWith_4 : decode cX8_doubtWith 4 = .ok (.aload_n 0, 1) := by decide +kernel
theorem dX8_doubtWith_5 : decode cX8_doubtWith 5 = .ok (.getfield 25, 3) := by decide +kernel
theorem dX8_doubtWith_8 : decode cX8_doubtWith 8 = .ok (.iload_n 1, 1) := by decide +kernel
theorem dX8_doubtWith_9 : decode cX8_doubtWith 9 = .ok (.iload_n 2, 1) := by decide +kernel
theorem dX8_doubtWith_10 : decode cX8_doubtWith 10 = .ok (.invokevirtual 312, 3) := by decide +kernel
theorem dX8_doubtWith_13 : decode cX8_doubtWith 13 = .ok (.aload_n 0, 1) := by decide +kernel
theorem dX8_doubtWith_14 : decode cX8_doubtWith 14 = .ok (.getfield 42, 3) := by decide +kernel
theorem dX8_doubtWith_17 : decode cX8_doubtWith 17 = .ok (.aload_n 0, 1) := by decide +kernel
theorem dX8_doubtWith_18 : decode cX8_doubtWith 18 = .ok (.getfield 12, 3) := by decide +kernel
theorem dX8_doubtWith_21 : decode cX8_doubtWith 21 = .ok (.iconst 4, 1) := by decide +kernel
theorem dX8_doubtWith_22 : decode cX8_doubtWith 22 = .ok (.invokevirtual 97, 3) := by decide +kernel
theorem dX8_doubtWith_25 : decode cX8_doubtWith 25 = .ok (.aload_n 0, 1) := by decide +kernel
theorem dX8_doubtWith_26 : decode cX8_doubtWith 26 = .ok (.getfield 12, 3) := by decide +kernel
theorem dX8_doubtWith_29 : decode cX8_doubtWith 29 = .ok (.iconst 5, 1) := by decide +kernel
theorem dX8_doubtWith_30 : decode cX8_doubtWith 30 = .ok (.invokevirtual 97, 3) := by decide +kernel
theorem dX8_doubtWith_33 : decode cX8_doubtWith 33 = .ok (.invokevirtual 316, 3) := by decide +kernel
theorem dX8_doubtWith_36 : decode cX8_doubtWith 36 = .ok (.ireturn, 1) := by decide +kernel
theorem dX8_seek_0 : decode cX8_seek 0 = .ok (.iload 4, 2) := by decide +kernel
theorem dX8_seek_2 : decode cX8_seek 2 = .ok (.aload_n 0, 1) := by decide +kernel
theorem dX8_seek_3 : decode cX8_seek 3 = .ok (.iload_n 2, 1) := by decide +kernel
theorem dX8_seek_4 : decode cX8_seek 4 = .ok (.iload_n 3, 1) := by decide +kernel
theorem dX8_seek_5 : decode cX8_seek 5 = .ok (.invokevirtual 319, 3) := by decide +kernel
theorem dX8_seek_8 : decode cX8_seek 8 = .ok (.iadd, 1) := by decide +kernel
theorem dX8_seek_9 : decode cX8_seek 9 = .ok (.istore 6, 2) := by decide +kernel
theorem dX8_seek_11 : decode cX8_seek 11 = .ok (.iload_n 2, 1) := by decide +kernel
theorem dX8_seek_12 : decode cX8_seek 12 = .ok (.aload_n 0, 1) := by decide +kernel
theorem dX8_seek_13 : decode cX8_seek 13 = .ok (.invokevirtual 182, 3) := by decide +kernel
theorem dX8_seek_16 : decode cX8_seek 16 = .ok (.if_icmp .ge 9, 3) := by decide +kernel
theorem dX8_seek_19 : decode cX8_seek 19 = .ok (.iload_n 2, 1) := by decide +kernel
theorem dX8_seek_20 : decode cX8_seek 20 = .ok (.bipush 6, 2) := by decide +kernel
theorem dX8_seek_22 : decode cX8_seek 22 = .ok (.if_icmp .lt 12, 3) := by decide +kernel
theorem dX8_seek_25 : decode cX8_seek 25 = .ok (.aload_n 1, 1) := by decide +kernel
theorem dX8_seek_26 : decode cX8_seek 26 = .ok (.iload 6, 2) := by decide +kernel
theorem dX8_seek_28 : decode cX8_seek 28 = .ok (.iload 5, 2) := by decide +kernel
theorem dX8_seek_30 : decode cX8_seek 30 = .ok (.invokevirtual 322, 3) := by decide +kernel
theorem dX8_seek_33 : decode cX8_seek 33 = .ok (.return_, 1) := by decide +kernel
theorem dX8_seek_34 : decode cX8_seek 34 = .ok (.iconst 0, 1) := by decide +kernel
theorem dX8_seek_35 : decode cX8_seek 35 = .ok (.istore 7, 2) := by decide +kernel
theorem dX8_seek_37 : decode cX8_seek 37 = .ok (.iload 7, 2) := by decide +kernel
theorem dX8_seek_39 : decode cX8_seek 39 = .ok (.bipush 6, 2) := by decide +kernel
theorem dX8_seek_41 : decode cX8_seek 41 = .ok (.if_icmp .ge 45, 3) := by decide +kernel
theorem dX8_seek_44 : decode cX8_seek 44 = .ok (.iload_n 3, 1) := by decide +kernel
theorem dX8_seek_45 : decode cX8_seek 45 = .ok (.iload 7, 2) := by decide +kernel
theorem dX8_seek_47 : decode cX8_seek 47 = .ok (.invokestatic 283, 3) := by decide +kernel
theorem dX8_seek_50 : decode cX8_seek 50 = .ok (.ifCond .eq 30, 3) := by decide +kernel
theorem dX8_seek_53 : decode cX8_seek 53 = .ok (.aload_n 1, 1) := by decide +kernel
theorem dX8_seek_54 : decode cX8_seek 54 = .ok (.iload_n 2, 1) := by decide +kernel
theorem dX8_seek_55 : decode cX8_seek 55 = .ok (.iload 7, 2) := by decide +kernel
theorem dX8_seek_57 : decode cX8_seek 57 = .ok (.invokevirtual 325, 3) := by decide +kernel
theorem dX8_seek_60 : decode cX8_seek 60 = .ok (.aload_n 0, 1) := by decide +kernel
theorem dX8_seek_61 : decode cX8_seek 61 = .ok (.aload_n 1, 1) := by decide +kernel
theorem dX8_seek_62 : decode cX8_seek 62 = .ok (.iload_n 2, 1) := by decide +kernel
theorem dX8_seek_63 : decode cX8_seek 63 = .ok (.iconst 1, 1) := by decide +kernel
theorem dX8_seek_64 : decode cX8_seek 64 = .ok (.iadd, 1) := by decide +kernel
theorem dX8_seek_65 : decode cX8_seek 65 = .ok (.iload_n 3, 1) := by decide +kernel
theorem dX8_seek_66 : decode cX8_seek 66 = .ok (.iload 7, 2) := by decide +kernel
theorem dX8_seek_68 : decode cX8_seek 68 = .ok (.invokestatic 286, 3) := by decide +kernel
theorem dX8_seek_71 : decode cX8_seek 71 = .ok (.iload 6, 2) := by decide +kernel
theorem dX8_seek_73 : decode cX8_seek 73 = .ok (.iload 5, 2) := by decide +kernel
theorem dX8_seek_75 : decode cX8_seek 75 = .ok (.iconst 1, 1) := by decide +kernel
theorem dX8_seek_76 : decode cX8_seek 76 = .ok (.iadd, 1) := by decide +kernel
theorem dX8_seek_77 : decode cX8_seek 77 = .ok (.invokestatic 175, 3) := by decide +kernel
theorem dX8_seek_80 : decode cX8_seek 80 = .ok (.iinc 7 1, 3) := by decide +kernel
theorem dX8_seek_83 : decode cX8_seek 83 = .ok (.goto (-46), 3) := by decide +kernel
theorem dX8_seek_86 : decode cX8_seek 86 = .ok (.aload_n 1, 1) := by decide +kernel
theorem dX8_seek_87 : decode cX8_seek 87 = .ok (.iload_n 2, 1) := by decide +kernel
theorem dX8_seek_88 : decode cX8_seek 88 = .ok (.bipush (-6), 2) := by decide +kernel
theorem dX8_seek_90 : decode cX8_seek 90 = .ok (.invokevirtual 325, 3) := by decide +kernel
theorem dX8_seek_93 : decode cX8_seek 93 = .ok (.aload_n 0, 1) := by decide +kernel
theorem dX8_seek_94 : decode cX8_seek 94 = .ok (.aload_n 1, 1) := by decide +kernel
theorem dX8_seek_95 : decode cX8_seek 95 = .ok (.iload_n 2, 1) := by decide +kernel
theorem dX8_seek_96 : decode cX8_seek 96 = .ok (.iconst 1, 1) := by decide +kernel
theorem dX8_seek_97 : decode cX8_seek 97 = .ok (.iadd, 1) := by decide +kernel
theorem dX8_seek_98 : decode cX8_seek 98 = .ok (.iload_n 3, 1) := by decide +kernel
theorem dX8_seek_99 : decode cX8_seek 99 = .ok (.iload 6, 2) := by decide +kernel
theorem dX8_seek_101 : decode cX8_seek 101 = .ok (.iload 5, 2) := by decide +kernel
theorem dX8_seek_103 : decode cX8_seek 103 = .ok (.invokestatic 175, 3) := by decide +kernel
theorem dX8_seek_106 : decode cX8_seek 106 = .ok (.return_, 1) := by decide +kernel
theorem dX8_ways_0 : decode cX8_ways 0 = .ok (.iload_n 3, 1) := by decide +kernel
theorem dX8_ways_1 : decode cX8_ways 1 = .ok (.aload_n 0, 1) := by decide +kernel
theorem dX8_ways_2 : decode cX8_ways 2 = .ok (.iload_n 1, 1) := by decide +kernel
theorem dX8_ways_3 : decode cX8_ways 3 = .ok (.iload_n 2, 1) := by decide +kernel
theorem dX8_ways_4 : decode cX8_ways 4 = .ok (.invokevirtual 319, 3) := by decide +kernel
theorem dX8_ways_7 : decode cX8_ways 7 = .ok (.iadd, 1) := by decide +kernel
theorem dX8_ways_8 : decode cX8_ways 8 = .ok (.istore 6, 2) := by decide +kernel
theorem dX8_ways_10 : decode cX8_ways 10 = .ok (.iload_n 1, 1) := by decide +kernel
theorem dX8_ways_11 : decode cX8_ways 11 = .ok (.aload_n 0, 1) := by decide +kernel
theorem dX8_ways_12 : decode cX8_ways 12 = .ok (.invokevirtual 182, 3) := by decide +kernel
theorem dX8_ways_15 : decode cX8_ways 15 = .ok (.if_icmp .ge 9, 3) := by decide +kernel
theorem dX8_ways_18 : decode cX8_ways 18 = .ok (.iload_n 1, 1) := by decide +kernel
theorem dX8_ways_19 : decode cX8_ways 19 = .ok (.bipush 6, 2) := by decide +kernel
theorem dX8_ways_21 : decode cX8_ways 21 = .ok (.if_icmp .lt 21, 3) := by decide +kernel
theorem dX8_ways_24 : decode cX8_ways 24 = .ok (.iload 6, 2) := by decide +kernel
theorem dX8_ways_26 : decode cX8_ways 26 = .ok (.iload 4, 2) := by decide +kernel
theorem dX8_ways_28 : decode cX8_ways 28 = .ok (.iload 5, 2) := by decide +kernel
theorem dX8_ways_30 : decode cX8_ways 30 = .ok (.invokestatic 74, 3) := by decide +kernel
theorem dX8_ways_33 : decode cX8_ways 33 = .ok (.ifCond .eq 7, 3) := by decide +kernel
theorem dX8_ways_36 : decode cX8_ways 36 = .ok (.iconst 1, 1) := by decide +kernel
theorem dX8_ways_37 : decode cX8_ways 37 = .ok (.goto 4, 3) := by decide +kernel
theorem dX8_ways_40 : decode cX8_ways 40 = .ok (.iconst 0, 1) := by decide +kernel
theorem dX8_ways_41 : decode cX8_ways 41 = .ok (.ireturn, 1) := by decide +kernel
theorem dX8_ways_42 : decode cX8_ways 42 = .ok (.aload_n 0, 1) := by decide +kernel
theorem dX8_ways_43 : decode cX8_ways 43 = .ok (.iload_n 1, 1) := by decide +kernel
theorem dX8_ways_44 : decode cX8_ways 44 = .ok (.iconst 1, 1) := by decide +kernel
theorem dX8_ways_45 : decode cX8_ways 45 = .ok (.iadd, 1) := by decide +kernel
theorem dX8_ways_46 : decode cX8_ways 46 = .ok (.iload_n 2, 1) := by decide +kernel
theorem dX8_ways_47 : decode cX8_ways 47 = .ok (.iload 6, 2) := by decide +kernel
theorem dX8_ways_49 : decode cX8_ways 49 = .ok (.iload 4, 2) := by decide +kernel
theorem dX8_ways_51 : decode cX8_ways 51 = .ok (.iload 5, 2) := by decide +kernel
theorem dX8_ways_53 : decode cX8_ways 53 = .ok (.invokestatic 191, 3) := by decide +kernel
theorem dX8_ways_56 : decode cX8_ways 56 = .ok (.istore 7, 2) := by decide +kernel
theorem dX8_ways_58 : decode cX8_ways 58 = .ok (.iconst 0, 1) := by decide +kernel
theorem dX8_ways_59 : decode cX8_ways 59 = .ok (.istore 8, 2) := by decide +kernel
theorem dX8_ways_61 : decode cX8_ways 61 = .ok (.iload 8, 2) := by decide +kernel
theorem dX8_ways_63 : decode cX8_ways 63 = .ok (.bipush 6, 2) := by decide +kernel
theorem dX8_ways_65 : decode cX8_ways 65 = .ok (.if_icmp .ge 42, 3) := by decide +kernel
theorem dX8_ways_68 : decode cX8_ways 68 = .ok (.iload_n 2, 1) := by decide +kernel
theorem dX8_ways_69 : decode cX8_ways 69 = .ok (.iload 8, 2) := by decide +kernel
theorem dX8_ways_71 : decode cX8_ways 71 = .ok (.invokestatic 283, 3) := by decide +kernel
theorem dX8_ways_74 : decode cX8_ways 74 = .ok (.ifCond .eq 27, 3) := by decide +kernel
theorem dX8_ways_77 : decode cX8_ways 77 = .ok (.iload 7, 2) := by decide +kernel
theorem dX8_ways_79 : decode cX8_ways 79 = .ok (.aload_n 0, 1) := by decide +kernel
theorem dX8_ways_80 : decode cX8_ways 80 = .ok (.iload_n 1, 1) := by decide +kernel
theorem dX8_ways_81 : decode cX8_ways 81 = .ok (.iconst 1, 1) := by decide +kernel
theorem dX8_ways_82 : decode cX8_ways 82 = .ok (.iadd, 1) := by decide +kernel
theorem dX8_ways_83 : decode cX8_ways 83 = .ok (.iload_n 2, 1) := by decide +kernel
theorem dX8_ways_84 : decode cX8_ways 84 = .ok (.iload 8, 2) := by decide +kernel
theorem dX8_ways_86 : decode cX8_ways 86 = .ok (.invokestatic 286, 3) := by decide +kernel
theorem dX8_ways_89 : decode cX8_ways 89 = .ok (.iload 6, 2) := by decide +kernel
theorem dX8_ways_91 : decode cX8_ways 91 = .ok (.iload 4, 2) := by decide +kernel
theorem dX8_ways_93 : decode cX8_ways 93 = .ok (.iload 5, 2) := by decide +kernel
theorem dX8_ways_95 : decode cX8_ways 95 = .ok (.invokestatic 191, 3) := by decide +kernel
theorem dX8_ways_98 : decode cX8_ways 98 = .ok (.iadd, 1) := by decide +kernel
theorem dX8_ways_99 : decode cX8_ways 99 = .ok (.istore 7, 2) := by decide +kernel
theorem dX8_ways_101 : decode cX8_ways 101 = .ok (.iinc 8 1, 3) := by decide +kernel
theorem dX8_ways_104 : decode cX8_ways 104 = .ok (.goto (-43), 3) := by decide +kernel
theorem dX8_ways_107 : decode cX8_ways 107 = .ok (.iload 7, 2) := by decide +kernel
theorem dX8_ways_109 : decode cX8_ways 109 = .ok (.ireturn, 1) := by decide +kernel
theorem dX8_oneOf_0 : decode cX8_oneOf 0 = .ok (.iload_n 0, 1) := by decide +kernel
theorem dX8_oneOf_1 : decode cX8_oneOf 1 = .ok (.ifCond .ne 5, 3) := by decide +kernel
theorem dX8_oneOf_4 : decode cX8_oneOf 4 = .ok (.iload_n 1, 1) := by decide +kernel
theorem dX8_oneOf_5 : decode cX8_oneOf 5 = .ok (.ireturn, 1) := by decide +kernel
theorem dX8_oneOf_6 : decode cX8_oneOf 6 = .ok (.iload_n 0, 1) := by decide +kernel
theorem dX8_oneOf_7 : decode cX8_oneOf 7 = .ok (.iconst 1, 1) := by decide +kernel
theorem dX8_oneOf_8 : decode cX8_oneOf 8 = .ok (.if_icmp .ne 7, 3) := by decide +kernel
theorem dX8_oneOf_11 : decode cX8_oneOf 11 = .ok (.iload_n 2, 1) := by decide +kernel
theorem dX8_oneOf_12 : decode cX8_oneOf 12 = .ok (.goto 4, 3) := by decide +kernel
theorem dX8_oneOf_15 : decode cX8_oneOf 15 = .ok (.iload_n 3, 1) := by decide +kernel
theorem dX8_oneOf_16 : decode cX8_oneOf 16 = .ok (.ireturn, 1) := by decide +kernel
theorem dX8_inLowestTerms_0 : decode cX8_inLowestTerms 0 = .ok (.lload_n 0, 1) := by decide +kernel
theorem dX8_inLowestTerms_1 : decode cX8_inLowestTerms 1 = .ok (.lload_n 2, 1) := by decide +kernel
theorem dX8_inLowestTerms_2 : decode cX8_inLowestTerms 2 = .ok (.invokestatic 328, 3) := by decide +kernel
theorem dX8_inLowestTerms_5 : decode cX8_inLowestTerms 5 = .ok (.lstore 5, 2) := by decide +kernel
theorem dX8_inLowestTerms_7 : decode cX8_inLowestTerms 7 = .ok (.lload 5, 2) := by decide +kernel
theorem dX8_inLowestTerms_9 : decode cX8_inLowestTerms 9 = .ok (.lconst 1, 1) := by decide +kernel
theorem dX8_inLowestTerms_10 : decode cX8_inLowestTerms 10 = .ok (.lcmp, 1) := by decide +kernel
theorem dX8_inLowestTerms_11 : decode cX8_inLowestTerms 11 = .ok (.ifCond .ge 7, 3) := by decide +kernel
theorem dX8_inLowestTerms_14 : decode cX8_inLowestTerms 14 = .ok (.ldc2_w 202, 3) := by decide +kernel
theorem dX8_inLowestTerms_17 : decode cX8_inLowestTerms 17 = .ok (.lreturn, 1) := by decide +kernel
theorem dX8_inLowestTerms_18 : decode cX8_inLowestTerms 18 = .ok (.iload 4, 2) := by decide +kernel
theorem dX8_inLowestTerms_20 : decode cX8_inLowestTerms 20 = .ok (.ifCond .ne 10, 3) := by decide +kernel
theorem dX8_inLowestTerms_23 : decode cX8_inLowestTerms 23 = .ok (.lload_n 0, 1) := by decide +kernel
theorem dX8_inLowestTerms_24 : decode cX8_inLowestTerms 24 = .ok (.lload 5, 2) := by decide +kernel
theorem dX8_inLowestTerms_26 : decode cX8_inLowestTerms 26 = .ok (.ldiv, 1) := by decide +kernel
theorem dX8_inLowestTerms_27 : decode cX8_inLowestTerms 27 = .ok (.goto 7, 3) := by decide +kernel
theorem dX8_inLowestTerms_30 : decode cX8_inLowestTerms 30 = .ok (.lload_n 2, 1) := by decide +kernel
theorem dX8_inLowestTerms_31 : decode cX8_inLowestTerms 31 = .ok (.lload 5, 2) := by decide +kernel
theorem dX8_inLowestTerms_33 : decode cX8_inLowestTerms 33 = .ok (.ldiv, 1) := by decide +kernel
theorem dX8_inLowestTerms_34 : decode cX8_inLowestTerms 34 = .ok (.lreturn, 1) := by decide +kernel
theorem dX8_commonDivisor_0 : decode cX8_commonDivisor 0 = .ok (.lload_n 0, 1) := by decide +kernel
theorem dX8_commonDivisor_1 : decode cX8_commonDivisor 1 = .ok (.lstore 4, 2) := by decide +kernel
theorem dX8_commonDivisor_3 : decode cX8_commonDivisor 3 = .ok (.lload_n 2, 1) := by decide +kernel
theorem dX8_commonDivisor_4 : decode cX8_commonDivisor 4 = .ok (.lstore 6, 2) := by decide +kernel
theorem dX8_commonDivisor_6 : decode cX8_commonDivisor 6 = .ok (.iconst 0, 1) := by decide +kernel
theorem dX8_commonDivisor_7 : decode cX8_commonDivisor 7 = .ok (.istore 8, 2) := by decide +kernel
theorem dX8_commonDivisor_9 : decode cX8_commonDivisor 9 = .ok (.iload 8, 2) := by decide +kernel
theorem dX8_commonDivisor_11 : decode cX8_commonDivisor 11 = .ok (.sipush 200, 3) := by decide +kernel
theorem dX8_commonDivisor_14 : decode cX8_commonDivisor 14 = .ok (.if_icmp .ge 31, 3) := by decide +kernel
theorem dX8_commonDivisor_17 : decode cX8_commonDivisor 17 = .ok (.lload 6, 2) := by decide +kernel
theorem dX8_commonDivisor_19 : decode cX8_commonDivisor 19 = .ok (.lconst 0, 1) := by decide +kernel
theorem dX8_commonDivisor_20 : decode cX8_commonDivisor 20 = .ok (.lcmp, 1) := by decide +kernel
theorem dX8_commonDivisor_21 : decode cX8_commonDivisor 21 = .ok (.ifCond .eq 24, 3) := by decide +kernel
theorem dX8_commonDivisor_24 : decode cX8_commonDivisor 24 = .ok (.lload 4, 2) := by decide +kernel
theorem dX8_commonDivisor_26 : decode cX8_commonDivisor 26 = .ok (.lload 6, 2) := by decide +kernel
theorem dX8_commonDivisor_28 : decode cX8_commonDivisor 28 = .ok (.lrem, 1) := by decide +kernel
theorem dX8_commonDivisor_29 : decode cX8_commonDivisor 29 = .ok (.lstore 9, 2) := by decide +kernel
theorem dX8_commonDivisor_31 : decode cX8_commonDivisor 31 = .ok (.lload 6, 2) := by decide +kernel
theorem dX8_commonDivisor_33 : decode cX8_commonDivisor 33 = .ok (.lstore 4, 2) := by decide +kernel
theorem dX8_commonDivisor_35 : decode cX8_commonDivisor 35 = .ok (.lload 9, 2) := by decide +kernel
theorem dX8_commonDivisor_37 : decode cX8_commonDivisor 37 = .ok (.lstore 6, 2) := by decide +kernel
theorem dX8_commonDivisor_39 : decode cX8_commonDivisor 39 = .ok (.iinc 8 1, 3) := by decide +kernel
theorem dX8_commonDivisor_42 : decode cX8_commonDivisor 42 = .ok (.goto (-33), 3) := by decide +kernel
theorem dX8_commonDivisor_45 : decode cX8_commonDivisor 45 = .ok (.lload 4, 2) := by decide +kernel
theorem dX8_commonDivisor_47 : decode cX8_commonDivisor 47 = .ok (.lreturn, 1) := by decide +kernel
theorem dX8_cell_0 : decode cX8_cell 0 = .ok (.aload_n 0, 1) := by decide +kernel
theorem dX8_cell_1 : decode cX8_cell 1 = .ok (.ifnull 19, 3) := by decide +kernel
theorem dX8_cell_4 : decode cX8_cell 4 = .ok (.iload_n 1, 1) := by decide +kernel
theorem dX8_cell_5 : decode cX8_cell 5 = .ok (.ifCond .lt 15, 3) := by decide +kernel
theorem dX8_cell_8 : decode cX8_cell 8 = .ok (.iload_n 1, 1) := by decide +kernel
theorem dX8_cell_9 : decode cX8_cell 9 = .ok (.aload_n 0, 1) := by decide +kernel
theorem dX8_cell_10 : decode cX8_cell 10 = .ok (.arraylength, 1) := by decide +kernel
theorem dX8_cell_11 : decode cX8_cell 11 = .ok (.if_icmp .ge 9, 3) := by decide +kernel
theorem dX8_cell_14 : decode cX8_cell 14 = .ok (.aload_n 0, 1) := by decide +kernel
theorem dX8_cell_15 : decode cX8_cell 15 = .ok (.iload_n 1, 1) := by decide +kernel
theorem dX8_cell_16 : decode cX8_cell 16 = .ok (.iaload, 1) := by decide +kernel
theorem dX8_cell_17 : decode cX8_cell 17 = .ok (.goto 4, 3) := by decide +kernel
theorem dX8_cell_20 : decode cX8_cell 20 = .ok (.iconst 0, 1) := by decide +kernel
theorem dX8_cell_21 : decode cX8_cell 21 = .ok (.ireturn, 1) := by decide +kernel
theorem dX8_put_0 : decode cX8_put 0 = .ok (.aload_n 0, 1) := by decide +kernel
theorem dX8_put_1 : decode cX8_put 1 = .ok (.ifnull 17, 3) := by decide +kernel
theorem dX8_put_4 : decode cX8_put 4 = .ok (.iload_n 1, 1) := by decide +kernel
theorem dX8_put_5 : decode cX8_put 5 = .ok (.ifCond .lt 13, 3) := by decide +kernel
theorem dX8_put_8 : decode cX8_put 8 = .ok (.iload_n 1, 1) := by decide +kernel
theorem dX8_put_9 : decode cX8_put 9 = .ok (.aload_n 0, 1) := by decide +kernel
theorem dX8_put_10 : decode cX8_put 10 = .ok (.arraylength, 1) := by decide +kernel
theorem dX8_put_11 : decode cX8_put 11 = .ok (.if_icmp .ge 7, 3) := by decide +kernel
theorem dX8_put_14 : decode cX8_put 14 = .ok (.aload_n 0, 1) := by decide +kernel
theorem dX8_put_15 : decode cX8_put 15 = .ok (.iload_n 1, 1) := by decide +kernel
theorem dX8_put_16 : decode cX8_put 16 = .ok (.iload_n 2, 1) := by decide +kernel
theorem dX8_put_17 : decode cX8_put 17 = .ok (.iastore, 1) := by decide +kernel
theorem dX8_put_18 : decode cX8_put 18 = .ok (.return_, 1) := by decide +kernel
theorem dX8_copy_0 : decode cX8_copy 0 = .ok (.iconst 0, 1) := by decide +kernel
theorem dX8_copy_1 : decode cX8_copy 1 = .ok (.istore_n 2, 1) := by decide +kernel
theorem dX8_copy_2 : decode cX8_copy 2 = .ok (.aload_n 0, 1) := by decide +kernel
theorem dX8_copy_3 : decode cX8_copy 3 = .ok (.ifnull 31, 3) := by decide +kernel
theorem dX8_copy_6 : decode cX8_copy 6 = .ok (.aload_n 1, 1) := by decide +kernel
theorem dX8_copy_7 : decode cX8_copy 7 = .ok (.ifnull 27, 3) := by decide +kernel
theorem dX8_copy_10 : decode cX8_copy 10 = .ok (.iload_n 2, 1) := by decide +kernel
theorem dX8_copy_11 : decode cX8_copy 11 = .ok (.aload_n 0, 1) := by decide +kernel
theorem dX8_copy_12 : decode cX8_copy 12 = .ok (.arraylength, 1) := by decide +kernel
theorem dX8_copy_13 : decode cX8_copy 13 = .ok (.if_icmp .ge 21, 3) := by decide +kernel
theorem dX8_copy_16 : decode cX8_copy 16 = .ok (.iload_n 2, 1) := by decide +kernel
theorem dX8_copy_17 : decode cX8_copy 17 = .ok (.aload_n 1, 1) := by decide +kernel
theorem dX8_copy_18 : decode cX8_copy 18 = .ok (.arraylength, 1) := by decide +kernel
theorem dX8_copy_19 : decode cX8_copy 19 = .ok (.if_icmp .ge 15, 3) := by decide +kernel
theorem dX8_copy_22 : decode cX8_copy 22 = .ok (.aload_n 1, 1) := by decide +kernel
theorem dX8_copy_23 : decode cX8_copy 23 = .ok (.iload_n 2, 1) := by decide +kernel
theorem dX8_copy_24 : decode cX8_copy 24 = .ok (.aload_n 0, 1) := by decide +kernel
theorem dX8_copy_25 : decode cX8_copy 25 = .ok (.iload_n 2, 1) := by decide +kernel
theorem dX8_copy_26 : decode cX8_copy 26 = .ok (.iaload, 1) := by decide +kernel
theorem dX8_copy_27 : decode cX8_copy 27 = .ok (.iastore, 1) := by decide +kernel
theorem dX8_copy_28 : decode cX8_copy 28 = .ok (.iinc 2 1, 3) := by decide +kernel
theorem dX8_copy_31 : decode cX8_copy 31 = .ok (.goto (-29), 3) := by decide +kernel
theorem dX8_copy_34 : decode cX8_copy 34 = .ok (.return_, 1) := by decide +kernel
theorem dX8_imageOf_0 : decode cX8_imageOf 0 = .ok (.iload_n 1, 1) := by decide +kernel
theorem dX8_imageOf_1 : decode cX8_imageOf 1 = .ok (.ifCond .ne 10, 3) := by decide +kernel
theorem dX8_imageOf_4 : decode cX8_imageOf 4 = .ok (.aload_n 0, 1) := by decide +kernel
theorem dX8_imageOf_5 : decode cX8_imageOf 5 = .ok (.getfield 16, 3) := by decide +kernel
theorem dX8_imageOf_8 : decode cX8_imageOf 8 = .ok (.goto 7, 3) := by decide +kernel
theorem dX8_imageOf_11 : decode cX8_imageOf 11 = .ok (.aload_n 0, 1) := by decide +kernel
theorem dX8_imageOf_12 : decode cX8_imageOf 12 = .ok (.getfield 19, 3) := by decide +kernel
theorem dX8_imageOf_15 : decode cX8_imageOf 15 = .ok (.areturn, 1) := by decide +kernel
