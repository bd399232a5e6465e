/-! decode rows, as claim/NAMES.whole.lean.txt prints them -/
theorem dX0_init_0 : decode cX0_init 0 = .ok (.aload_n 0, 1) := by decide +kernel
theorem dX0_init_1 : decode cX0_init 1 = .ok (.invokespecial 1, 3) := by decide +kernel
theorem dX0_init_4 : decode cX0_init 4 = .ok (.return_, 1) := by decide +kernel
theorem dX0_start_0 : decode cX0_start 0 = .ok (.aload_n 0, 1) := by decide +kernel
theorem dX0_start_1 : decode cX0_start 1 = .ok (.iconst 0, 1) := by decide +kernel
theorem dX0_start_2 : decode cX0_start 2 = .ok (.putfield 7, 3) := by decide +kernel
theorem dX0_start_5 : decode cX0_start 5 = .ok (.aload_n 0, 1) := by decide +kernel
theorem dX0_start_6 : decode cX0_start 6 = .ok (.iload_n 1, 1) := by decide +kernel
theorem dX0_start_7 : decode cX0_start 7 = .ok (.putfield 13, 3) := by decide +kernel
theorem dX0_start_10 : decode cX0_start 10 = .ok (.aload_n 0, 1) := by decide +kernel
theorem dX0_start_11 : decode cX0_start 11 = .ok (.iload_n 2, 1) := by decide +kernel
theorem dX0_start_12 : decode cX0_start 12 = .ok (.putfield 16, 3) := by decide +kernel
theorem dX0_start_15 : decode cX0_start 15 = .ok (.aload_n 0, 1) := by decide +kernel
theorem dX0_start_16 : decode cX0_start 16 = .ok (.iload_n 3, 1) := by decide +kernel
theorem dX0_start_17 : decode cX0_start 17 = .ok (.putfield 19, 3) := by decide +kernel
theorem dX0_start_20 : decode cX0_start 20 = .ok (.return_, 1) := by decide +kernel
theorem dX0_fly_0 : decode cX0_fly 0 = .ok (.aload_n 0, 1) := by decide +kernel
theorem dX0_fly_1 : decode cX0_fly 1 = .ok (.dup, 1) := by decide +kernel
theorem dX0_fly_2 : decode cX0_fly 2 = .ok (.getfield 7, 3) := by decide +kernel
theorem dX0_fly_5 : decode cX0_fly 5 = .ok (.aload_n 1, 1) := by decide +kernel
theorem dX0_fly_6 : decode cX0_fly 6 = .ok (.aload_n 0, 1) := by decide +kernel
theorem dX0_fly_7 : decode cX0_fly 7 = .ok (.getfield 13, 3) := by decide +kernel
theorem dX0_fly_10 : decode cX0_fly 10 = .ok (.aload_n 0, 1) := by decide +kernel
theorem dX0_fly_11 : decode cX0_fly 11 = .ok (.getfield 16, 3) := by decide +kernel
theorem dX0_fly_14 : decode cX0_fly 14 = .ok (.aload_n 0, 1) := by decide +kernel
theorem dX0_fly_15 : decode cX0_fly 15 = .ok (.getfield 19, 3) := by decide +kernel
theorem dX0_fly_18 : decode cX0_fly 18 = .ok (.invokevirtual 22, 3) := by decide +kernel
theorem dX0_fly_21 : decode cX0_fly 21 = .ok (.iadd, 1) := by decide +kernel
theorem dX0_fly_22 : decode cX0_fly 22 = .ok (.putfield 7, 3) := by decide +kernel
theorem dX0_fly_25 : decode cX0_fly 25 = .ok (.aload_n 0, 1) := by decide +kernel
theorem dX0_fly_26 : decode cX0_fly 26 = .ok (.aload_n 1, 1) := by decide +kernel
theorem dX0_fly_27 : decode cX0_fly 27 = .ok (.aload_n 0, 1) := by decide +kernel
theorem dX0_fly_28 : decode cX0_fly 28 = .ok (.getfield 13, 3) := by decide +kernel
theorem dX0_fly_31 : decode cX0_fly 31 = .ok (.invokevirtual 28, 3) := by decide +kernel
theorem dX0_fly_34 : decode cX0_fly 34 = .ok (.putfield 13, 3) := by decide +kernel
theorem dX0_fly_37 : decode cX0_fly 37 = .ok (.aload_n 0, 1) := by decide +kernel
theorem dX0_fly_38 : decode cX0_fly 38 = .ok (.dup, 1) := by decide +kernel
theorem dX0_fly_39 : decode cX0_fly 39 = .ok (.getfield 19, 3) := by decide +kernel
theorem dX0_fly_42 : decode cX0_fly 42 = .ok (.iconst 1, 1) := by decide +kernel
theorem dX0_fly_43 : decode cX0_fly 43 = .ok (.iadd, 1) := by decide +kernel
theorem dX0_fly_44 : decode cX0_fly 44 = .ok (.putfield 19, 3) := by decide +kernel
theorem dX0_fly_47 : decode cX0_fly 47 = .ok (.return_, 1) := by decide +kernel
theorem dX0_lose_0 : decode cX0_lose 0 = .ok (.aload_n 0, 1) := by decide +kernel
theorem dX0_lose_1 : decode cX0_lose 1 = .ok (.aload_n 0, 1) := by decide +kernel
theorem dX0_lose_2 : decode cX0_lose 2 = .ok (.getfield 16, 3) := by decide +kernel
theorem dX0_lose_5 : decode cX0_lose 5 = .ok (.iload_n 1, 1) := by decide +kernel
theorem dX0_lose_6 : decode cX0_lose 6 = .ok (.invokestatic 32, 3) := by decide +kernel
theorem dX0_lose_9 : decode cX0_lose 9 = .ok (.putfield 16, 3) := by decide +kernel
theorem dX0_lose_12 : decode cX0_lose 12 = .ok (.return_, 1) := by decide +kernel
theorem dX0_place_0 : decode cX0_place 0 = .ok (.aload_n 0, 1) := by decide +kernel
theorem dX0_place_1 : decode cX0_place 1 = .ok (.getfield 7, 3) := by decide +kernel
theorem dX0_place_4 : decode cX0_place 4 = .ok (.ireturn, 1) := by decide +kernel
theorem dX0_gas_0 : decode cX0_gas 0 = .ok (.aload_n 0, 1) := by decide +kernel
theorem dX0_gas_1 : decode cX0_gas 1 = .ok (.getfield 13, 3) := by decide +kernel
theorem dX0_gas_4 : decode cX0_gas 4 = .ok (.ireturn, 1) := by decide +kernel
theorem dX0_aboard_0 : decode cX0_aboard 0 = .ok (.aload_n 0, 1) := by decide +kernel
theorem dX0_aboard_1 : decode cX0_aboard 1 = .ok (.getfield 16, 3) := by decide +kernel
theorem dX0_aboard_4 : decode cX0_aboard 4 = .ok (.ireturn, 1) := by decide +kernel
theorem dX1_init_0 : decode cX1_init 0 = .ok (.aload_n 0, 1) := by decide +kernel
theorem dX1_init_1 : decode cX1_init 1 = .ok (.invokespecial 3, 3) := by decide +kernel
theorem dX1_init_4 : decode cX1_init 4 = .ok (.aload_n 0, 1) := by decide +kernel
theorem dX1_init_5 : decode cX1_init 5 = .ok (.bipush 7, 2) := by decide +kernel
theorem dX1_init_7 : decode cX1_init 7 = .ok (.newarray .int, 2) := by decide +kernel
theorem dX1_init_9 : decode cX1_init 9 = .ok (.putfield 9, 3) := by decide +kernel
theorem dX1_init_12 : decode cX1_init 12 = .ok (.return_, 1) := by decide +kernel
theorem dX1_line_0 : decode cX1_line 0 = .ok (.aload_n 1, 1) := by decide +kernel
theorem dX1_line_1 : decode cX1_line 1 = .ok (.invokevirtual 15, 3) := by decide +kernel
theorem dX1_line_4 : decode cX1_line 4 = .ok (.istore_n 2, 1) := by decide +kernel
theorem dX1_line_5 : decode cX1_line 5 = .ok (.iconst 0, 1) := by decide +kernel
theorem dX1_line_6 : decode cX1_line 6 = .ok (.istore_n 3, 1) := by decide +kernel
theorem dX1_line_7 : decode cX1_line 7 = .ok (.iload_n 3, 1) := by decide +kernel
theorem dX1_line_8 : decode cX1_line 8 = .ok (.aload_n 0, 1) := by decide +kernel
theorem dX1_line_9 : decode cX1_line 9 = .ok (.getfield 9, 3) := by decide +kernel
theorem dX1_line_12 : decode cX1_line 12 = .ok (.arraylength, 1) := by decide +kernel
theorem dX1_line_13 : decode cX1_line 13 = .ok (.if_icmp .ge 26, 3) := by decide +kernel
theorem dX1_line_16 : decode cX1_line 16 = .ok (.aload_n 0, 1) := by decide +kernel
theorem dX1_line_17 : decode cX1_line 17 = .ok (.getfield 9, 3) := by decide +kernel
theorem dX1_line_20 : decode cX1_line 20 = .ok (.iload_n 3, 1) := by decide +kernel
theorem dX1_line_21 : decode cX1_line 21 = .ok (.iload_n 2, 1) := by decide +kernel
theorem dX1_line_22 : decode cX1_line 22 = .ok (.iastore, 1) := by decide +kernel
theorem dX1_line_23 : decode cX1_line 23 = .ok (.iload_n 2, 1) := by decide +kernel
theorem dX1_line_24 : decode cX1_line 24 = .ok (.aload_n 1, 1) := by decide +kernel
theorem dX1_line_25 : decode cX1_line 25 = .ok (.iload_n 2, 1) := by decide +kernel
theorem dX1_line_26 : decode cX1_line 26 = .ok (.invokevirtual 21, 3) := by decide +kernel
theorem dX1_line_29 : decode cX1_line 29 = .ok (.invokestatic 25, 3) := by decide +kernel
theorem dX1_line_32 : decode cX1_line 32 = .ok (.istore_n 2, 1) := by decide +kernel
theorem dX1_line_33 : decode cX1_line 33 = .ok (.iinc 3 1, 3) := by decide +kernel
theorem dX1_line_36 : decode cX1_line 36 = .ok (.goto (-29), 3) := by decide +kernel
theorem dX1_line_39 : decode cX1_line 39 = .ok (.return_, 1) := by decide +kernel
theorem dX1_all_0 : decode cX1_all 0 = .ok (.bipush 10, 2) := by decide +kernel
theorem dX1_all_2 : decode cX1_all 2 = .ok (.aload_n 1, 1) := by decide +kernel
theorem dX1_all_3 : decode cX1_all 3 = .ok (.invokevirtual 29, 3) := by decide +kernel
theorem dX1_all_6 : decode cX1_all 6 = .ok (.invokestatic 34, 3) := by decide +kernel
theorem dX1_all_9 : decode cX1_all 9 = .ok (.lreturn, 1) := by decide +kernel
theorem dX1_landing_0 : decode cX1_landing 0 = .ok (.lconst 0, 1) := by decide +kernel
theorem dX1_landing_1 : decode cX1_landing 1 = .ok (.lstore 5, 2) := by decide +kernel
theorem dX1_landing_3 : decode cX1_landing 3 = .ok (.iconst 0, 1) := by decide +kernel
theorem dX1_landing_4 : decode cX1_landing 4 = .ok (.istore 7, 2) := by decide +kernel
theorem dX1_landing_6 : decode cX1_landing 6 = .ok (.iload 7, 2) := by decide +kernel
theorem dX1_landing_8 : decode cX1_landing 8 = .ok (.sipush 4096, 3) := by decide +kernel
theorem dX1_landing_11 : decode cX1_landing 11 = .ok (.if_icmp .ge 53, 3) := by decide +kernel
theorem dX1_landing_14 : decode cX1_landing 14 = .ok (.iload 7, 2) := by decide +kernel
theorem dX1_landing_16 : decode cX1_landing 16 = .ok (.iconst 1, 1) := by decide +kernel
theorem dX1_landing_17 : decode cX1_landing 17 = .ok (.aload_n 1, 1) := by decide +kernel
theorem dX1_landing_18 : decode cX1_landing 18 = .ok (.invokevirtual 29, 3) := by decide +kernel
theorem dX1_landing_21 : decode cX1_landing 21 = .ok (.ishl, 1) := by decide +kernel
theorem dX1_landing_22 : decode cX1_landing 22 = .ok (.if_icmp .ge 42, 3) := by decide +kernel
theorem dX1_landing_25 : decode cX1_landing 25 = .ok (.lload 5, 2) := by decide +kernel
theorem dX1_landing_27 : decode cX1_landing 27 = .ok (.aload_n 0, 1) := by decide +kernel
theorem dX1_landing_28 : decode cX1_landing 28 = .ok (.aload_n 1, 1) := by decide +kernel
theorem dX1_landing_29 : decode cX1_landing 29 = .ok (.iload 7, 2) := by decide +kernel
theorem dX1_landing_31 : decode cX1_landing 31 = .ok (.invokevirtual 38, 3) := by decide +kernel
theorem dX1_landing_34 : decode cX1_landing 34 = .ok (.iload_n 3, 1) := by decide +kernel
theorem dX1_landing_35 : decode cX1_landing 35 = .ok (.iload 4, 2) := by decide +kernel
theorem dX1_landing_37 : decode cX1_landing 37 = .ok (.invokestatic 42, 3) := by decide +kernel
theorem dX1_landing_40 : decode cX1_landing 40 = .ok (.ifCond .eq 14, 3) := by decide +kernel
theorem dX1_landing_43 : decode cX1_landing 43 = .ok (.aload_n 0, 1) := by decide +kernel
theorem dX1_landing_44 : decode cX1_landing 44 = .ok (.aload_n 1, 1) := by decide +kernel
theorem dX1_landing_45 : decode cX1_landing 45 = .ok (.iload 7, 2) := by decide +kernel
theorem dX1_landing_47 : decode cX1_landing 47 = .ok (.iload_n 2, 1) := by decide +kernel
theorem dX1_landing_48 : decode cX1_landing 48 = .ok (.invokevirtual 46, 3) := by decide +kernel
theorem dX1_landing_51 : decode cX1_landing 51 = .ok (.goto 4, 3) := by decide +kernel
theorem dX1_landing_54 : decode cX1_landing 54 = .ok (.lconst 0, 1) := by decide +kernel
theorem dX1_landing_55 : decode cX1_landing 55 = .ok (.ladd, 1) := by decide +kernel
theorem dX1_landing_56 : decode cX1_landing 56 = .ok (.lstore 5, 2) := by decide +kernel
theorem dX1_landing_58 : decode cX1_landing 58 = .ok (.iinc 7 1, 3) := by decide +kernel
theorem dX1_landing_61 : decode cX1_landing 61 = .ok (.goto (-55), 3) := by decide +kernel
theorem dX1_landing_64 : decode cX1_landing 64 = .ok (.lload 5, 2) := by decide +kernel
theorem dX1_landing_66 : decode cX1_landing 66 = .ok (.lreturn, 1) := by decide +kernel
theorem dX1_places_0 : decode cX1_places 0 = .ok (.lconst 0, 1) := by decide +kernel
theorem dX1_places_1 : decode cX1_places 1 = .ok (.lstore_n 3, 1) := by decide +kernel
theorem dX1_places_2 : decode cX1_places 2 = .ok (.iconst 0, 1) := by decide +kernel
theorem dX1_places_3 : decode cX1_places 3 = .ok (.istore 5, 2) := by decide +kernel
theorem dX1_places_5 : decode cX1_places 5 = .ok (.iload 5, 2) := by decide +kernel
theorem dX1_places_7 : decode cX1_places 7 = .ok (.sipush 4096, 3) := by decide +kernel
theorem dX1_places_10 : decode cX1_places 10 = .ok (.if_icmp .ge 40, 3) := by decide +kernel
theorem dX1_places_13 : decode cX1_places 13 = .ok (.iload 5, 2) := by decide +kernel
theorem dX1_places_15 : decode cX1_places 15 = .ok (.iconst 1, 1) := by decide +kernel
theorem dX1_places_16 : decode cX1_places 16 = .ok (.aload_n 1, 1) := by decide +kernel
theorem dX1_places_17 : decode cX1_places 17 = .ok (.invokevirtual 29, 3) := by decide +kernel
theorem dX1_places_20 : decode cX1_places 20 = .ok (.ishl, 1) := by decide +kernel
theorem dX1_places_21 : decode cX1_places 21 = .ok (.if_icmp .ge 29, 3) := by decide +kernel
theorem dX1_places_24 : decode cX1_places 24 = .ok (.lload_n 3, 1) := by decide +kernel
theorem dX1_places_25 : decode cX1_places 25 = .ok (.aload_n 0, 1) := by decide +kernel
theorem dX1_places_26 : decode cX1_places 26 = .ok (.aload_n 1, 1) := by decide +kernel
theorem dX1_places_27 : decode cX1_places 27 = .ok (.iload 5, 2) := by decide +kernel
theorem dX1_places_29 : decode cX1_places 29 = .ok (.invokevirtual 38, 3) := by decide +kernel
theorem dX1_places_32 : decode cX1_places 32 = .ok (.i2l, 1) := by decide +kernel
theorem dX1_places_33 : decode cX1_places 33 = .ok (.aload_n 0, 1) := by decide +kernel
theorem dX1_places_34 : decode cX1_places 34 = .ok (.aload_n 1, 1) := by decide +kernel
theorem dX1_places_35 : decode cX1_places 35 = .ok (.iload 5, 2) := by decide +kernel
theorem dX1_places_37 : decode cX1_places 37 = .ok (.iload_n 2, 1) := by decide +kernel
theorem dX1_places_38 : decode cX1_places 38 = .ok (.invokevirtual 46, 3) := by decide +kernel
theorem dX1_places_41 : decode cX1_places 41 = .ok (.lmul, 1) := by decide +kernel
theorem dX1_places_42 : decode cX1_places 42 = .ok (.ladd, 1) := by decide +kernel
theorem dX1_places_43 : decode cX1_places 43 = .ok (.lstore_n 3, 1) := by decide +kernel
theorem dX1_places_44 : decode cX1_places 44 = .ok (.iinc 5 1, 3) := by decide +kernel
theorem dX1_places_47 : decode cX1_places 47 = .ok (.goto (-42), 3) := by decide +kernel
theorem dX1_places_50 : decode cX1_places 50 = .ok (.lload_n 3, 1) := by decide +kernel
theorem dX1_places_51 : decode cX1_places 51 = .ok (.lreturn, 1) := by decide +kernel
theorem dX1_placeBy_0 : decode cX1_placeBy 0 = .ok (.iconst 0, 1) := by decide +kernel
theorem dX1_placeBy_1 : decode cX1_placeBy 1 = .ok (.istore_n 3, 1) := by decide +kernel
theorem dX1_placeBy_2 : decode cX1_placeBy 2 = .ok (.iconst 0, 1) := by decide +kernel
theorem dX1_placeBy_3 : decode cX1_placeBy 3 = .ok (.istore 4, 2) := by decide +kernel
theorem dX1_placeBy_5 : decode cX1_placeBy 5 = .ok (.iconst 0, 1) := by decide +kernel
theorem dX1_placeBy_6 : decode cX1_placeBy 6 = .ok (.istore 5, 2) := by decide +kernel
theorem dX1_placeBy_8 : decode cX1_placeBy 8 = .ok (.iload 5, 2) := by decide +kernel
theorem dX1_placeBy_10 : decode cX1_placeBy 10 = .ok (.aload_n 1, 1) := by decide +kernel
theorem dX1_placeBy_11 : decode cX1_placeBy 11 = .ok (.invokevirtual 29, 3) := by decide +kernel
theorem dX1_placeBy_14 : decode cX1_placeBy 14 = .ok (.if_icmp .gt 42, 3) := by decide +kernel
theorem dX1_placeBy_17 : decode cX1_placeBy 17 = .ok (.iload 4, 2) := by decide +kernel
theorem dX1_placeBy_19 : decode cX1_placeBy 19 = .ok (.aload_n 1, 1) := by decide +kernel
theorem dX1_placeBy_20 : decode cX1_placeBy 20 = .ok (.iload 5, 2) := by decide +kernel
theorem dX1_placeBy_22 : decode cX1_placeBy 22 = .ok (.aload_n 0, 1) := by decide +kernel
theorem dX1_placeBy_23 : decode cX1_placeBy 23 = .ok (.getfield 9, 3) := by decide +kernel
theorem dX1_placeBy_26 : decode cX1_placeBy 26 = .ok (.iload_n 3, 1) := by decide +kernel
theorem dX1_placeBy_27 : decode cX1_placeBy 27 = .ok (.invokestatic 50, 3) := by decide +kernel
theorem dX1_placeBy_30 : decode cX1_placeBy 30 = .ok (.invokevirtual 54, 3) := by decide +kernel
theorem dX1_placeBy_33 : decode cX1_placeBy 33 = .ok (.iadd, 1) := by decide +kernel
theorem dX1_placeBy_34 : decode cX1_placeBy 34 = .ok (.istore 4, 2) := by decide +kernel
theorem dX1_placeBy_36 : decode cX1_placeBy 36 = .ok (.iload_n 3, 1) := by decide +kernel
theorem dX1_placeBy_37 : decode cX1_placeBy 37 = .ok (.iload_n 2, 1) := by decide +kernel
theorem dX1_placeBy_38 : decode cX1_placeBy 38 = .ok (.iload 5, 2) := by decide +kernel
theorem dX1_placeBy_40 : decode cX1_placeBy 40 = .ok (.ishr, 1) := by decide +kernel
theorem dX1_placeBy_41 : decode cX1_placeBy 41 = .ok (.iconst 1, 1) := by decide +kernel
theorem dX1_placeBy_42 : decode cX1_placeBy 42 = .ok (.iand, 1) := by decide +kernel
theorem dX1_placeBy_43 : decode cX1_placeBy 43 = .ok (.iadd, 1) := by decide +kernel
theorem dX1_placeBy_44 : decode cX1_placeBy 44 = .ok (.bipush 6, 2) := by decide +kernel
theorem dX1_placeBy_46 : decode cX1_placeBy 46 = .ok (.invokestatic 57, 3) := by decide +kernel
theorem dX1_placeBy_49 : decode cX1_placeBy 49 = .ok (.istore_n 3, 1) := by decide +kernel
theorem dX1_placeBy_50 : decode cX1_placeBy 50 = .ok (.iinc 5 1, 3) := by decide +kernel
theorem dX1_placeBy_53 : decode cX1_placeBy 53 = .ok (.goto (-45), 3) := by decide +kernel
theorem dX1_placeBy_56 : decode cX1_placeBy 56 = .ok (.iload 4, 2) := by decide +kernel
theorem dX1_placeBy_58 : decode cX1_placeBy 58 = .ok (.ireturn, 1) := by decide +kernel
theorem dX1_chance_0 : decode cX1_chance 0 = .ok (.iload_n 2, 1) := by decide +kernel
theorem dX1_chance_1 : decode cX1_chance 1 = .ok (.invokestatic 62, 3) := by decide +kernel
theorem dX1_chance_4 : decode cX1_chance 4 = .ok (.istore 4, 2) := by decide +kernel
theorem dX1_chance_6 : decode cX1_chance 6 = .ok (.iload_n 3, 1) := by decide +kernel
theorem dX1_chance_7 : decode cX1_chance 7 = .ok (.iload 4, 2) := by decide +kernel
theorem dX1_chance_9 : decode cX1_chance 9 = .ok (.invokestatic 34, 3) := by decide +kernel
theorem dX1_chance_12 : decode cX1_chance 12 = .ok (.bipush 10, 2) := by decide +kernel
theorem dX1_chance_14 : decode cX1_chance 14 = .ok (.iload_n 3, 1) := by decide +kernel
theorem dX1_chance_15 : decode cX1_chance 15 = .ok (.isub, 1) := by decide +kernel
theorem dX1_chance_16 : decode cX1_chance 16 = .ok (.aload_n 1, 1) := by decide +kernel
theorem dX1_chance_17 : decode cX1_chance 17 = .ok (.invokevirtual 29, 3) := by decide +kernel
theorem dX1_chance_20 : decode cX1_chance 20 = .ok (.iload 4, 2) := by decide +kernel
theorem dX1_chance_22 : decode cX1_chance 22 = .ok (.isub, 1) := by decide +kernel
theorem dX1_chance_23 : decode cX1_chance 23 = .ok (.invokestatic 34, 3) := by decide +kernel
theorem dX1_chance_26 : decode cX1_chance 26 = .ok (.lmul, 1) := by decide +kernel
theorem dX1_chance_27 : decode cX1_chance 27 = .ok (.lreturn, 1) := by decide +kernel
theorem dX1_power_0 : decode cX1_power 0 = .ok (.lconst 1, 1) := by decide +kernel
theorem dX1_power_1 : decode cX1_power 1 = .ok (.lstore_n 2, 1) := by decide +kernel
theorem dX1_power_2 : decode cX1_power 2 = .ok (.iconst 0, 1) := by decide +kernel
theorem dX1_power_3 : decode cX1_power 3 = .ok (.istore 4, 2) := by decide +kernel
theorem dX1_power_5 : decode cX1_power 5 = .ok (.iload 4, 2) := by decide +kernel
theorem dX1_power_7 : decode cX1_power 7 = .ok (.iload_n 1, 1) := by decide +kernel
theorem dX1_power_8 : decode cX1_power 8 = .ok (.if_icmp .ge 14, 3) := by decide +kernel
theorem dX1_power_11 : decode cX1_power 11 = .ok (.lload_n 2, 1) := by decide +kernel
theorem dX1_power_12 : decode cX1_power 12 = .ok (.iload_n 0, 1) := by decide +kernel
theorem dX1_power_13 : decode cX1_power 13 = .ok (.i2l, 1) := by decide +kernel
theorem dX1_power_14 : decode cX1_power 14 = .ok (.lmul, 1) := by decide +kernel
theorem dX1_power_15 : decode cX1_power 15 = .ok (.lstore_n 2, 1) := by decide +kernel
theorem dX1_power_16 : decode cX1_power 16 = .ok (.iinc 4 1, 3) := by decide +kernel
theorem dX1_power_19 : decode cX1_power 19 = .ok (.goto (-14), 3) := by decide +kernel
theorem dX1_power_22 : decode cX1_power 22 = .ok (.lload_n 2, 1) := by decide +kernel
theorem dX1_power_23 : decode cX1_power 23 = .ok (.lreturn, 1) := by decide +kernel
theorem dX2_init_0 : decode cX2_init 0 = .ok (.aload_n 0, 1) := by decide +kernel
theorem dX2_init_1 : decode cX2_init 1 = .ok (.invokespecial 3, 3) := by decide +kernel
theorem dX2_init_4 : decode cX2_init 4 = .ok (.aload_n 0, 1) := by decide +kernel
theorem dX2_init_5 : decode cX2_init 5 = .ok (.sipush 832, 3) := by decide +kernel
theorem dX2_init_8 : decode cX2_init 8 = .ok (.newarray .int, 2) := by decide +kernel
theorem dX2_init_10 : decode cX2_init 10 = .ok (.putfield 9, 3) := by decide +kernel
theorem dX2_init_13 : decode cX2_init 13 = .ok (.return_, 1) := by decide +kernel
theorem dX2_sneezes_0 : decode cX2_sneezes 0 = .ok (.aload_n 0, 1) := by decide +kernel
theorem dX2_sneezes_1 : decode cX2_sneezes 1 = .ok (.getfield 15, 3) := by decide +kernel
theorem dX2_sneezes_4 : decode cX2_sneezes 4 = .ok (.ireturn, 1) := by decide +kernel
theorem dX2_drift_0 : decode cX2_drift 0 = .ok (.aload_n 0, 1) := by decide +kernel
theorem dX2_drift_1 : decode cX2_drift 1 = .ok (.getfield 9, 3) := by decide +kernel
theorem dX2_drift_4 : decode cX2_drift 4 = .ok (.iload_n 1, 1) := by decide +kernel
theorem dX2_drift_5 : decode cX2_drift 5 = .ok (.bipush 64, 2) := by decide +kernel
theorem dX2_drift_7 : decode cX2_drift 7 = .ok (.imul, 1) := by decide +kernel
theorem dX2_drift_8 : decode cX2_drift 8 = .ok (.iload_n 2, 1) := by decide +kernel
theorem dX2_drift_9 : decode cX2_drift 9 = .ok (.iadd, 1) := by decide +kernel
theorem dX2_drift_10 : decode cX2_drift 10 = .ok (.invokestatic 19, 3) := by decide +kernel
theorem dX2_drift_13 : decode cX2_drift 13 = .ok (.ireturn, 1) := by decide +kernel
theorem dX2_draw_0 : decode cX2_draw 0 = .ok (.iconst 0, 1) := by decide +kernel
theorem dX2_draw_1 : decode cX2_draw 1 = .ok (.istore_n 3, 1) := by decide +kernel
theorem dX2_draw_2 : decode cX2_draw 2 = .ok (.iload_n 3, 1) := by decide +kernel
theorem dX2_draw_3 : decode cX2_draw 3 = .ok (.aload_n 0, 1) := by decide +kernel
theorem dX2_draw_4 : decode cX2_draw 4 = .ok (.getfield 9, 3) := by decide +kernel
theorem dX2_draw_7 : decode cX2_draw 7 = .ok (.arraylength, 1) := by decide +kernel
theorem dX2_draw_8 : decode cX2_draw 8 = .ok (.if_icmp .ge 16, 3) := by decide +kernel
theorem dX2_draw_11 : decode cX2_draw 11 = .ok (.aload_n 0, 1) := by decide +kernel
theorem dX2_draw_12 : decode cX2_draw 12 = .ok (.getfield 9, 3) := by decide +kernel
theorem dX2_draw_15 : decode cX2_draw 15 = .ok (.iload_n 3, 1) := by decide +kernel
theorem dX2_draw_16 : decode cX2_draw 16 = .ok (.iconst 0, 1) := by decide +kernel
theorem dX2_draw_17 : decode cX2_draw 17 = .ok (.iastore, 1) := by decide +kernel
theorem dX2_draw_18 : decode cX2_draw 18 = .ok (.iinc 3 1, 3) := by decide +kernel
theorem dX2_draw_21 : decode cX2_draw 21 = .ok (.goto (-19), 3) := by decide +kernel
theorem dX2_draw_24 : decode cX2_draw 24 = .ok (.aload_n 0, 1) := by decide +kernel
theorem dX2_draw_25 : decode cX2_draw 25 = .ok (.iconst 0, 1) := by decide +kernel
theorem dX2_draw_26 : decode cX2_draw 26 = .ok (.putfield 15, 3) := by decide +kernel
theorem dX2_draw_29 : decode cX2_draw 29 = .ok (.aload_n 1, 1) := by decide +kernel
theorem dX2_draw_30 : decode cX2_draw 30 = .ok (.iconst 1, 1) := by decide +kernel
theorem dX2_draw_31 : decode cX2_draw 31 = .ok (.invokevirtual 23, 3) := by decide +kernel
theorem dX2_draw_34 : decode cX2_draw 34 = .ok (.istore_n 3, 1) := by decide +kernel
theorem dX2_draw_35 : decode cX2_draw 35 = .ok (.iconst 0, 1) := by decide +kernel
theorem dX2_draw_36 : decode cX2_draw 36 = .ok (.istore 4, 2) := by decide +kernel
theorem dX2_draw_38 : decode cX2_draw 38 = .ok (.iconst 0, 1) := by decide +kernel
theorem dX2_draw_39 : decode cX2_draw 39 = .ok (.istore 5, 2) := by decide +kernel
theorem dX2_draw_41 : decode cX2_draw 41 = .ok (.iload 5, 2) := by decide +kernel
theorem dX2_draw_43 : decode cX2_draw 43 = .ok (.aload_n 2, 1) := by decide +kernel
theorem dX2_draw_44 : decode cX2_draw 44 = .ok (.invokevirtual 29, 3) := by decide +kernel
theorem dX2_draw_47 : decode cX2_draw 47 = .ok (.if_icmp .ge 63, 3) := by decide +kernel
theorem dX2_draw_50 : decode cX2_draw 50 = .ok (.aload_n 2, 1) := by decide +kernel
theorem dX2_draw_51 : decode cX2_draw 51 = .ok (.iload 5, 2) := by decide +kernel
theorem dX2_draw_53 : decode cX2_draw 53 = .ok (.invokevirtual 35, 3) := by decide +kernel
theorem dX2_draw_56 : decode cX2_draw 56 = .ok (.bipush 33, 2) := by decide +kernel
theorem dX2_draw_58 : decode cX2_draw 58 = .ok (.if_icmp .ne 18, 3) := by decide +kernel
theorem dX2_draw_61 : decode cX2_draw 61 = .ok (.aload_n 0, 1) := by decide +kernel
theorem dX2_draw_62 : decode cX2_draw 62 = .ok (.aload_n 0, 1) := by decide +kernel
theorem dX2_draw_63 : decode cX2_draw 63 = .ok (.getfield 15, 3) := by decide +kernel
theorem dX2_draw_66 : decode cX2_draw 66 = .ok (.iconst 1, 1) := by decide +kernel
theorem dX2_draw_67 : decode cX2_draw 67 = .ok (.iadd, 1) := by decide +kernel
theorem dX2_draw_68 : decode cX2_draw 68 = .ok (.bipush 12, 2) := by decide +kernel
theorem dX2_draw_70 : decode cX2_draw 70 = .ok (.invokestatic 38, 3) := by decide +kernel
theorem dX2_draw_73 : decode cX2_draw 73 = .ok (.putfield 15, 3) := by decide +kernel
theorem dX2_draw_76 : decode cX2_draw 76 = .ok (.aload_n 2, 1) := by decide +kernel
theorem dX2_draw_77 : decode cX2_draw 77 = .ok (.iload 5, 2) := by decide +kernel
theorem dX2_draw_79 : decode cX2_draw 79 = .ok (.invokevirtual 35, 3) := by decide +kernel
theorem dX2_draw_82 : decode cX2_draw 82 = .ok (.bipush 46, 2) := by decide +kernel
theorem dX2_draw_84 : decode cX2_draw 84 = .ok (.if_icmp .ne 20, 3) := by decide +kernel
theorem dX2_draw_87 : decode cX2_draw 87 = .ok (.aload_n 0, 1) := by decide +kernel
theorem dX2_draw_88 : decode cX2_draw 88 = .ok (.aload_n 1, 1) := by decide +kernel
theorem dX2_draw_89 : decode cX2_draw 89 = .ok (.iload_n 3, 1) := by decide +kernel
theorem dX2_draw_90 : decode cX2_draw 90 = .ok (.iload 4, 2) := by decide +kernel
theorem dX2_draw_92 : decode cX2_draw 92 = .ok (.invokevirtual 44, 3) := by decide +kernel
theorem dX2_draw_95 : decode cX2_draw 95 = .ok (.aload_n 1, 1) := by decide +kernel
theorem dX2_draw_96 : decode cX2_draw 96 = .ok (.iload_n 3, 1) := by decide +kernel
theorem dX2_draw_97 : decode cX2_draw 97 = .ok (.invokevirtual 48, 3) := by decide +kernel
theorem dX2_draw_100 : decode cX2_draw 100 = .ok (.istore_n 3, 1) := by decide +kernel
theorem dX2_draw_101 : decode cX2_draw 101 = .ok (.iinc 4 1, 3) := by decide +kernel
theorem dX2_draw_104 : decode cX2_draw 104 = .ok (.iinc 5 1, 3) := by decide +kernel
theorem dX2_draw_107 : decode cX2_draw 107 = .ok (.goto (-66), 3) := by decide +kernel
theorem dX2_draw_110 : decode cX2_draw 110 = .ok (.return_, 1) := by decide +kernel
theorem dX2_addMinute_0 : decode cX2_addMinute 0 = .ok (.iconst 0, 1) := by decide +kernel
theorem dX2_addMinute_1 : decode cX2_addMinute 1 = .ok (.istore 4, 2) := by decide +kernel
theorem dX2_addMinute_3 : decode cX2_addMinute 3 = .ok (.iload 4, 2) := by decide +kernel
theorem dX2_addMinute_5 : decode cX2_addMinute 5 = .ok (.bipush 64, 2) := by decide +kernel
theorem dX2_addMinute_7 : decode cX2_addMinute 7 = .ok (.if_icmp .ge 45, 3) := by decide +kernel
theorem dX2_addMinute_10 : decode cX2_addMinute 10 = .ok (.aload_n 0, 1) := by decide +kernel
theorem dX2_addMinute_11 : decode cX2_addMinute 11 = .ok (.getfield 9, 3) := by decide +kernel
theorem dX2_addMinute_14 : decode cX2_addMinute 14 = .ok (.aload_n 0, 1) := by decide +kernel
theorem dX2_addMinute_15 : decode cX2_addMinute 15 = .ok (.getfield 15, 3) := by decide +kernel
theorem dX2_addMinute_18 : decode cX2_addMinute 18 = .ok (.bipush 64, 2) := by decide +kernel
theorem dX2_addMinute_20 : decode cX2_addMinute 20 = .ok (.imul, 1) := by decide +kernel
theorem dX2_addMinute_21 : decode cX2_addMinute 21 = .ok (.iload 4, 2) := by decide +kernel
theorem dX2_addMinute_23 : decode cX2_addMinute 23 = .ok (.iadd, 1) := by decide +kernel
theorem dX2_addMinute_24 : decode cX2_addMinute 24 = .ok (.aload_n 0, 1) := by decide +kernel
theorem dX2_addMinute_25 : decode cX2_addMinute 25 = .ok (.aload_n 0, 1) := by decide +kernel
theorem dX2_addMinute_26 : decode cX2_addMinute 26 = .ok (.getfield 15, 3) := by decide +kernel
theorem dX2_addMinute_29 : decode cX2_addMinute 29 = .ok (.iload 4, 2) := by decide +kernel
theorem dX2_addMinute_31 : decode cX2_addMinute 31 = .ok (.invokevirtual 51, 3) := by decide +kernel
theorem dX2_addMinute_34 : decode cX2_addMinute 34 = .ok (.aload_n 1, 1) := by decide +kernel
theorem dX2_addMinute_35 : decode cX2_addMinute 35 = .ok (.iload_n 2, 1) := by decide +kernel
theorem dX2_addMinute_36 : decode cX2_addMinute 36 = .ok (.iload 4, 2) := by decide +kernel
theorem dX2_addMinute_38 : decode cX2_addMinute 38 = .ok (.iload_n 3, 1) := by decide +kernel
theorem dX2_addMinute_39 : decode cX2_addMinute 39 = .ok (.invokevirtual 54, 3) := by decide +kernel
theorem dX2_addMinute_42 : decode cX2_addMinute 42 = .ok (.iadd, 1) := by decide +kernel
theorem dX2_addMinute_43 : decode cX2_addMinute 43 = .ok (.invokestatic 57, 3) := by decide +kernel
theorem dX2_addMinute_46 : decode cX2_addMinute 46 = .ok (.iinc 4 1, 3) := by decide +kernel
theorem dX2_addMinute_49 : decode cX2_addMinute 49 = .ok (.goto (-46), 3) := by decide +kernel
theorem dX2_addMinute_52 : decode cX2_addMinute 52 = .ok (.return_, 1) := by decide +kernel
theorem dX3_init_0 : decode cX3_init 0 = .ok (.aload_n 0, 1) := by decide +kernel
theorem dX3_init_1 : decode cX3_init 1 = .ok (.invokespecial 3, 3) := by decide +kernel
theorem dX3_init_4 : decode cX3_init 4 = .ok (.aload_n 0, 1) := by decide +kernel
theorem dX3_init_5 : decode cX3_init 5 = .ok (.bipush 6, 2) := by decide +kernel
theorem dX3_init_7 : decode cX3_init 7 = .ok (.newarray .int, 2) := by decide +kernel
theorem dX3_init_9 : decode cX3_init 9 = .ok (.putfield 9, 3) := by decide +kernel
theorem dX3_init_12 : decode cX3_init 12 = .ok (.return_, 1) := by decide +kernel
theorem dX3_clear_0 : decode cX3_clear 0 = .ok (.aload_n 0, 1) := by decide +kernel
theorem dX3_clear_1 : decode cX3_clear 1 = .ok (.iconst 0, 1) := by decide +kernel
theorem dX3_clear_2 : decode cX3_clear 2 = .ok (.putfield 15, 3) := by decide +kernel
theorem dX3_clear_5 : decode cX3_clear 5 = .ok (.return_, 1) := by decide +kernel
theorem dX3_note_0 : decode cX3_note 0 = .ok (.iload_n 1, 1) := by decide +kernel
theorem dX3_note_1 : decode cX3_note 1 = .ok (.invokestatic 19, 3) := by decide +kernel
theorem dX3_note_4 : decode cX3_note 4 = .ok (.ifCond .eq 24, 3) := by decide +kernel
theorem dX3_note_7 : decode cX3_note 7 = .ok (.aload_n 0, 1) := by decide +kernel
theorem dX3_note_8 : decode cX3_note 8 = .ok (.getfield 9, 3) := by decide +kernel
theorem dX3_note_11 : decode cX3_note 11 = .ok (.iload_n 1, 1) := by decide +kernel
theorem dX3_note_12 : decode cX3_note 12 = .ok (.iload_n 2, 1) := by decide +kernel
theorem dX3_note_13 : decode cX3_note 13 = .ok (.invokestatic 23, 3) := by decide +kernel
theorem dX3_note_16 : decode cX3_note 16 = .ok (.aload_n 0, 1) := by decide +kernel
theorem dX3_note_17 : decode cX3_note 17 = .ok (.dup, 1) := by decide +kernel
theorem dX3_note_18 : decode cX3_note 18 = .ok (.getfield 15, 3) := by decide +kernel
theorem dX3_note_21 : decode cX3_note 21 = .ok (.iconst 1, 1) := by decide +kernel
theorem dX3_note_22 : decode cX3_note 22 = .ok (.iload_n 1, 1) := by decide +kernel
theorem dX3_note_23 : decode cX3_note 23 = .ok (.ishl, 1) := by decide +kernel
theorem dX3_note_24 : decode cX3_note 24 = .ok (.ior, 1) := by decide +kernel
theorem dX3_note_25 : decode cX3_note 25 = .ok (.putfield 15, 3) := by decide +kernel
theorem dX3_note_28 : decode cX3_note 28 = .ok (.return_, 1) := by decide +kernel
theorem dX3_saw_0 : decode cX3_saw 0 = .ok (.aload_n 0, 1) := by decide +kernel
theorem dX3_saw_1 : decode cX3_saw 1 = .ok (.getfield 15, 3) := by decide +kernel
theorem dX3_saw_4 : decode cX3_saw 4 = .ok (.iload_n 1, 1) := by decide +kernel
theorem dX3_saw_5 : decode cX3_saw 5 = .ok (.invokestatic 27, 3) := by decide +kernel
theorem dX3_saw_8 : decode cX3_saw 8 = .ok (.ifCond .eq 19, 3) := by decide +kernel
theorem dX3_saw_11 : decode cX3_saw 11 = .ok (.aload_n 0, 1) := by decide +kernel
theorem dX3_saw_12 : decode cX3_saw 12 = .ok (.getfield 9, 3) := by decide +kernel
theorem dX3_saw_15 : decode cX3_saw 15 = .ok (.iload_n 1, 1) := by decide +kernel
theorem dX3_saw_16 : decode cX3_saw 16 = .ok (.invokestatic 31, 3) := by decide +kernel
theorem dX3_saw_19 : decode cX3_saw 19 = .ok (.iload_n 2, 1) := by decide +kernel
theorem dX3_saw_20 : decode cX3_saw 20 = .ok (.if_icmp .ne 7, 3) := by decide +kernel
theorem dX3_saw_23 : decode cX3_saw 23 = .ok (.iconst 1, 1) := by decide +kernel
theorem dX3_saw_24 : decode cX3_saw 24 = .ok (.goto 4, 3) := by decide +kernel
theorem dX3_saw_27 : decode cX3_saw 27 = .ok (.iconst 0, 1) := by decide +kernel
theorem dX3_saw_28 : decode cX3_saw 28 = .ok (.ireturn, 1) := by decide +kernel
theorem dX4_init_0 : decode cX4_init 0 = .ok (.aload_n 0, 1) := by decide +kernel
theorem dX4_init_1 : decode cX4_init 1 = .ok (.invokespecial 3, 3) := by decide +kernel
theorem dX4_init_4 : decode cX4_init 4 = .ok (.aload_n 0, 1) := by decide +kernel
theorem dX4_init_5 : decode cX4_init 5 = .ok (.bipush 60, 2) := by decide +kernel
theorem dX4_init_7 : decode cX4_init 7 = .ok (.newarray .int, 2) := by decide +kernel
theorem dX4_init_9 : decode cX4_init 9 = .ok (.putfield 9, 3) := by decide +kernel
theorem dX4_init_12 : decode cX4_init 12 = .ok (.return_, 1) := by decide +kernel
theorem dX4_length_0 : decode cX4_length 0 = .ok (.aload_n 0, 1) := by decide +kernel
theorem dX4_length_1 : decode cX4_length 1 = .ok (.getfield 15, 3) := by decide +kernel
theorem dX4_length_4 : decode cX4_length 4 = .ok (.ireturn, 1) := by decide +kernel
theorem dX4_sign_0 : decode cX4_sign 0 = .ok (.aload_n 0, 1) := by decide +kernel
theorem dX4_sign_1 : decode cX4_sign 1 = .ok (.getfield 9, 3) := by decide +kernel
theorem dX4_sign_4 : decode cX4_sign 4 = .ok (.iload_n 1, 1) := by decide +kernel
theorem dX4_sign_5 : decode cX4_sign 5 = .ok (.invokestatic 19, 3) := by decide +kernel
theorem dX4_sign_8 : decode cX4_sign 8 = .ok (.ireturn, 1) := by decide +kernel
theorem dX4_write_0 : decode cX4_write 0 = .ok (.aload_n 0, 1) := by decide +kernel
theorem dX4_write_1 : decode cX4_write 1 = .ok (.getfield 9, 3) := by decide +kernel
theorem dX4_write_4 : decode cX4_write 4 = .ok (.aload_n 0, 1) := by decide +kernel
theorem dX4_write_5 : decode cX4_write 5 = .ok (.getfield 15, 3) := by decide +kernel
theorem dX4_write_8 : decode cX4_write 8 = .ok (.iload_n 1, 1) := by decide +kernel
theorem dX4_write_9 : decode cX4_write 9 = .ok (.invokestatic 23, 3) := by decide +kernel
theorem dX4_write_12 : decode cX4_write 12 = .ok (.aload_n 0, 1) := by decide +kernel
theorem dX4_write_13 : decode cX4_write 13 = .ok (.dup, 1) := by decide +kernel
theorem dX4_write_14 : decode cX4_write 14 = .ok (.getfield 15, 3) := by decide +kernel
theorem dX4_write_17 : decode cX4_write 17 = .ok (.iconst 1, 1) := by decide +kernel
theorem dX4_write_18 : decode cX4_write 18 = .ok (.iadd, 1) := by decide +kernel
theorem dX4_write_19 : decode cX4_write 19 = .ok (.putfield 15, 3) := by decide +kernel
theorem dX4_write_22 : decode cX4_write 22 = .ok (.return_, 1) := by decide +kernel
theorem dX4_clear_0 : decode cX4_clear 0 = .ok (.aload_n 0, 1) := by decide +kernel
theorem dX4_clear_1 : decode cX4_clear 1 = .ok (.iconst 0, 1) := by decide +kernel
theorem dX4_clear_2 : decode cX4_clear 2 = .ok (.putfield 15, 3) := by decide +kernel
theorem dX4_clear_5 : decode cX4_clear 5 = .ok (.return_, 1) := by decide +kernel
theorem dX4_count_0 : decode cX4_count 0 = .ok (.iconst 0, 1) := by decide +kernel
theorem dX4_count_1 : decode cX4_count 1 = .ok (.istore_n 2, 1) := by decide +kernel
theorem dX4_count_2 : decode cX4_count 2 = .ok (.iconst 0, 1) := by decide +kernel
theorem dX4_count_3 : decode cX4_count 3 = .ok (.istore_n 3, 1) := by decide +kernel
theorem dX4_count_4 : decode cX4_count 4 = .ok (.iload_n 3, 1) := by decide +kernel
theorem dX4_count_5 : decode cX4_count 5 = .ok (.aload_n 0, 1) := by decide +kernel
theorem dX4_count_6 : decode cX4_count 6 = .ok (.getfield 15, 3) := by decide +kernel
theorem dX4_count_9 : decode cX4_count 9 = .ok (.if_icmp .ge 26, 3) := by decide +kernel
theorem dX4_count_12 : decode cX4_count 12 = .ok (.iload_n 2, 1) := by decide +kernel
theorem dX4_count_13 : decode cX4_count 13 = .ok (.aload_n 0, 1) := by decide +kernel
theorem dX4_count_14 : decode cX4_count 14 = .ok (.iload_n 3, 1) := by decide +kernel
theorem dX4_count_15 : decode cX4_count 15 = .ok (.invokevirtual 27, 3) := by decide +kernel
theorem dX4_count_18 : decode cX4_count 18 = .ok (.iload_n 1, 1) := by decide +kernel
theorem dX4_count_19 : decode cX4_count 19 = .ok (.if_icmp .ne 7, 3) := by decide +kernel
theorem dX4_count_22 : decode cX4_count 22 = .ok (.iconst 1, 1) := by decide +kernel
theorem dX4_count_23 : decode cX4_count 23 = .ok (.goto 4, 3) := by decide +kernel
theorem dX4_count_26 : decode cX4_count 26 = .ok (.iconst 0, 1) := by decide +kernel
theorem dX4_count_27 : decode cX4_count 27 = .ok (.iadd, 1) := by decide +kernel
theorem dX4_count_28 : decode cX4_count 28 = .ok (.istore_n 2, 1) := by decide +kernel
theorem dX4_count_29 : decode cX4_count 29 = .ok (.iinc 3 1, 3) := by decide +kernel
theorem dX4_count_32 : decode cX4_count 32 = .ok (.goto (-28), 3) := by decide +kernel
theorem dX4_count_35 : decode cX4_count 35 = .ok (.iload_n 2, 1) := by decide +kernel
theorem dX4_count_36 : decode cX4_count 36 = .ok (.ireturn, 1) := by decide +kernel
theorem dX4_hasThrow_0 : decode cX4_hasThrow 0 = .ok (.iconst 0, 1) := by decide +kernel
theorem dX4_hasThrow_1 : decode cX4_hasThrow 1 = .ok (.istore_n 1, 1) := by decide +kernel
theorem dX4_hasThrow_2 : decode cX4_hasThrow 2 = .ok (.iload_n 1, 1) := by decide +kernel
theorem dX4_hasThrow_3 : decode cX4_hasThrow 3 = .ok (.aload_n 0, 1) := by decide +kernel
theorem dX4_hasThrow_4 : decode cX4_hasThrow 4 = .ok (.getfield 15, 3) := by decide +kernel
theorem dX4_hasThrow_7 : decode cX4_hasThrow 7 = .ok (.if_icmp .ge 24, 3) := by decide +kernel
theorem dX4_hasThrow_10 : decode cX4_hasThrow 10 = .ok (.aload_n 0, 1) := by decide +kernel
theorem dX4_hasThrow_11 : decode cX4_hasThrow 11 = .ok (.iload_n 1, 1) := by decide +kernel
theorem dX4_hasThrow_12 : decode cX4_hasThrow 12 = .ok (.invokevirtual 27, 3) := by decide +kernel
theorem dX4_hasThrow_15 : decode cX4_hasThrow 15 = .ok (.invokestatic 31, 3) := by decide +kernel
theorem dX4_hasThrow_18 : decode cX4_hasThrow 18 = .ok (.bipush (-6), 2) := by decide +kernel
theorem dX4_hasThrow_20 : decode cX4_hasThrow 20 = .ok (.if_icmp .eq 5, 3) := by decide +kernel
theorem dX4_hasThrow_23 : decode cX4_hasThrow 23 = .ok (.iconst 1, 1) := by decide +kernel
theorem dX4_hasThrow_24 : decode cX4_hasThrow 24 = .ok (.ireturn, 1) := by decide +kernel
theorem dX4_hasThrow_25 : decode cX4_hasThrow 25 = .ok (.iinc 1 1, 3) := by decide +kernel
theorem dX4_hasThrow_28 : decode cX4_hasThrow 28 = .ok (.goto (-26), 3) := by decide +kernel
theorem dX4_hasThrow_31 : decode cX4_hasThrow 31 = .ok (.iconst 0, 1) := by decide +kernel
theorem dX4_hasThrow_32 : decode cX4_hasThrow 32 = .ok (.ireturn, 1) := by decide +kernel
theorem dX4_fines_0 : decode cX4_fines 0 = .ok (.iconst 0, 1) := by decide +kernel
theorem dX4_fines_1 : decode cX4_fines 1 = .ok (.istore_n 1, 1) := by decide +kernel
theorem dX4_fines_2 : decode cX4_fines 2 = .ok (.iconst 0, 1) := by decide +kernel
theorem dX4_fines_3 : decode cX4_fines 3 = .ok (.istore_n 2, 1) := by decide +kernel
theorem dX4_fines_4 : decode cX4_fines 4 = .ok (.iload_n 2, 1) := by decide +kernel
theorem dX4_fines_5 : decode cX4_fines 5 = .ok (.aload_n 0, 1) := by decide +kernel
theorem dX4_fines_6 : decode cX4_fines 6 = .ok (.getfield 15, 3) := by decide +kernel
theorem dX4_fines_9 : decode cX4_fines 9 = .ok (.if_icmp .ge 56, 3) := by decide +kernel
theorem dX4_fines_12 : decode cX4_fines 12 = .ok (.iload_n 2, 1) := by decide +kernel
theorem dX4_fines_13 : decode cX4_fines 13 = .ok (.ifCond .le 19, 3) := by decide +kernel
theorem dX4_fines_16 : decode cX4_fines 16 = .ok (.aload_n 0, 1) := by decide +kernel
theorem dX4_fines_17 : decode cX4_fines 17 = .ok (.iload_n 2, 1) := by decide +kernel
theorem dX4_fines_18 : decode cX4_fines 18 = .ok (.iconst 1, 1) := by decide +kernel
theorem dX4_fines_19 : decode cX4_fines 19 = .ok (.isub, 1) := by decide +kernel
theorem dX4_fines_20 : decode cX4_fines 20 = .ok (.invokevirtual 27, 3) := by decide +kernel
theorem dX4_fines_23 : decode cX4_fines 23 = .ok (.bipush 33, 2) := by decide +kernel
theorem dX4_fines_25 : decode cX4_fines 25 = .ok (.if_icmp .ne 7, 3) := by decide +kernel
theorem dX4_fines_28 : decode cX4_fines 28 = .ok (.iconst 1, 1) := by decide +kernel
theorem dX4_fines_29 : decode cX4_fines 29 = .ok (.goto 4, 3) := by decide +kernel
theorem dX4_fines_32 : decode cX4_fines 32 = .ok (.iconst 0, 1) := by decide +kernel
theorem dX4_fines_33 : decode cX4_fines 33 = .ok (.istore_n 3, 1) := by decide +kernel
theorem dX4_fines_34 : decode cX4_fines 34 = .ok (.iload_n 1, 1) := by decide +kernel
theorem dX4_fines_35 : decode cX4_fines 35 = .ok (.aload_n 0, 1) := by decide +kernel
theorem dX4_fines_36 : decode cX4_fines 36 = .ok (.iload_n 2, 1) := by decide +kernel
theorem dX4_fines_37 : decode cX4_fines 37 = .ok (.invokevirtual 27, 3) := by decide +kernel
theorem dX4_fines_40 : decode cX4_fines 40 = .ok (.invokestatic 31, 3) := by decide +kernel
theorem dX4_fines_43 : decode cX4_fines 43 = .ok (.bipush (-6), 2) := by decide +kernel
theorem dX4_fines_45 : decode cX4_fines 45 = .ok (.if_icmp .eq 11, 3) := by decide +kernel
theorem dX4_fines_48 : decode cX4_fines 48 = .ok (.iload_n 3, 1) := by decide +kernel
theorem dX4_fines_49 : decode cX4_fines 49 = .ok (.ifCond .ne 7, 3) := by decide +kernel
theorem dX4_fines_52 : decode cX4_fines 52 = .ok (.iconst 1, 1) := by decide +kernel
theorem dX4_fines_53 : decode cX4_fines 53 = .ok (.goto 4, 3) := by decide +kernel
theorem dX4_fines_56 : decode cX4_fines 56 = .ok (.iconst 0, 1) := by decide +kernel
theorem dX4_fines_57 : decode cX4_fines 57 = .ok (.iadd, 1) := by decide +kernel
theorem dX4_fines_58 : decode cX4_fines 58 = .ok (.istore_n 1, 1) := by decide +kernel
theorem dX4_fines_59 : decode cX4_fines 59 = .ok (.iinc 2 1, 3) := by decide +kernel
theorem dX4_fines_62 : decode cX4_fines 62 = .ok (.goto (-58), 3) := by decide +kernel
theorem dX4_fines_65 : decode cX4_fines 65 = .ok (.iload_n 1, 1) := by decide +kernel
theorem dX4_fines_66 : decode cX4_fines 66 = .ok (.ireturn, 1) := by decide +kernel
theorem dX5_init_0 : decode cX5_init 0 = .ok (.aload_n 0, 1) := by decide +kernel
theorem dX5_init_1 : decode cX5_init 1 = .ok (.invokespecial 3, 3) := by decide +kernel
theorem dX5_init_4 : decode cX5_init 4 = .ok (.aload_n 0, 1) := by decide +kernel
theorem dX5_init_5 : decode cX5_init 5 = .ok (.bipush 24, 2) := by decide +kernel
theorem dX5_init_7 : decode cX5_init 7 = .ok (.newarray .int, 2) := by decide +kernel
theorem dX5_init_9 : decode cX5_init 9 = .ok (.putfield 9, 3) := by decide +kernel
theorem dX5_init_12 : decode cX5_init 12 = .ok (.return_, 1) := by decide +kernel
theorem dX5_gather_0 : decode cX5_gather 0 = .ok (.aload_n 0, 1) := by decide +kernel
theorem dX5_gather_1 : decode cX5_gather 1 = .ok (.iconst 0, 1) := by decide +kernel
theorem dX5_gather_2 : decode cX5_gather 2 = .ok (.putfield 15, 3) := by decide +kernel
theorem dX5_gather_5 : decode cX5_gather 5 = .ok (.iconst 0, 1) := by decide +kernel
theorem dX5_gather_6 : decode cX5_gather 6 = .ok (.istore 4, 2) := by decide +kernel
theorem dX5_gather_8 : decode cX5_gather 8 = .ok (.iconst 0, 1) := by decide +kernel
theorem dX5_gather_9 : decode cX5_gather 9 = .ok (.istore 5, 2) := by decide +kernel
theorem dX5_gather_11 : decode cX5_gather 11 = .ok (.iload 5, 2) := by decide +kernel
theorem dX5_gather_13 : decode cX5_gather 13 = .ok (.aload_n 1, 1) := by decide +kernel
theorem dX5_gather_14 : decode cX5_gather 14 = .ok (.invokevirtual 19, 3) := by decide +kernel
theorem dX5_gather_17 : decode cX5_gather 17 = .ok (.if_icmp .ge 58, 3) := by decide +kernel
theorem dX5_gather_20 : decode cX5_gather 20 = .ok (.aload_n 1, 1) := by decide +kernel
theorem dX5_gather_21 : decode cX5_gather 21 = .ok (.iload 5, 2) := by decide +kernel
theorem dX5_gather_23 : decode cX5_gather 23 = .ok (.invokevirtual 25, 3) := by decide +kernel
theorem dX5_gather_26 : decode cX5_gather 26 = .ok (.bipush 33, 2) := by decide +kernel
theorem dX5_gather_28 : decode cX5_gather 28 = .ok (.if_icmp .ne 10, 3) := by decide +kernel
theorem dX5_gather_31 : decode cX5_gather 31 = .ok (.aload_n 0, 1) := by decide +kernel
theorem dX5_gather_32 : decode cX5_gather 32 = .ok (.iload 4, 2) := by decide +kernel
theorem dX5_gather_34 : decode cX5_gather 34 = .ok (.iconst 1, 1) := by decide +kernel
theorem dX5_gather_35 : decode cX5_gather 35 = .ok (.invokevirtual 29, 3) := by decide +kernel
theorem dX5_gather_38 : decode cX5_gather 38 = .ok (.aload_n 1, 1) := by decide +kernel
theorem dX5_gather_39 : decode cX5_gather 39 = .ok (.iload 5, 2) := by decide +kernel
theorem dX5_gather_41 : decode cX5_gather 41 = .ok (.invokevirtual 25, 3) := by decide +kernel
theorem dX5_gather_44 : decode cX5_gather 44 = .ok (.bipush 46, 2) := by decide +kernel
theorem dX5_gather_46 : decode cX5_gather 46 = .ok (.if_icmp .ne 23, 3) := by decide +kernel
theorem dX5_gather_49 : decode cX5_gather 49 = .ok (.aload_n 0, 1) := by decide +kernel
theorem dX5_gather_50 : decode cX5_gather 50 = .ok (.iload 4, 2) := by decide +kernel
theorem dX5_gather_52 : decode cX5_gather 52 = .ok (.iload 4, 2) := by decide +kernel
theorem dX5_gather_54 : decode cX5_gather 54 = .ok (.iload_n 2, 1) := by decide +kernel
theorem dX5_gather_55 : decode cX5_gather 55 = .ok (.if_icmp .ne 7, 3) := by decide +kernel
theorem dX5_gather_58 : decode cX5_gather 58 = .ok (.iload_n 3, 1) := by decide +kernel
theorem dX5_gather_59 : decode cX5_gather 59 = .ok (.goto 4, 3) := by decide +kernel
theorem dX5_gather_62 : decode cX5_gather 62 = .ok (.iconst 0, 1) := by decide +kernel
theorem dX5_gather_63 : decode cX5_gather 63 = .ok (.invokevirtual 29, 3) := by decide +kernel
theorem dX5_gather_66 : decode cX5_gather 66 = .ok (.iinc 4 1, 3) := by decide +kernel
theorem dX5_gather_69 : decode cX5_gather 69 = .ok (.iinc 5 1, 3) := by decide +kernel
theorem dX5_gather_72 : decode cX5_gather 72 = .ok (.goto (-61), 3) := by decide +kernel
theorem dX5_gather_75 : decode cX5_gather 75 = .ok (.aload_n 0, 1) := by decide +kernel
theorem dX5_gather_76 : decode cX5_gather 76 = .ok (.iload 4, 2) := by decide +kernel
theorem dX5_gather_78 : decode cX5_gather 78 = .ok (.iload 4, 2) := by decide +kernel
theorem dX5_gather_80 : decode cX5_gather 80 = .ok (.iload_n 2, 1) := by decide +kernel
theorem dX5_gather_81 : decode cX5_gather 81 = .ok (.if_icmp .ne 7, 3) := by decide +kernel
theorem dX5_gather_84 : decode cX5_gather 84 = .ok (.iload_n 3, 1) := by decide +kernel
theorem dX5_gather_85 : decode cX5_gather 85 = .ok (.goto 4, 3) := by decide +kernel
theorem dX5_gather_88 : decode cX5_gather 88 = .ok (.iconst 0, 1) := by decide +kernel
theorem dX5_gather_89 : decode cX5_gather 89 = .ok (.invokevirtual 29, 3) := by decide +kernel
theorem dX5_gather_92 : decode cX5_gather 92 = .ok (.return_, 1) := by decide +kernel
theorem dX5_add_0 : decode cX5_add 0 = .ok (.iconst 0, 1) := by decide +kernel
theorem dX5_add_1 : decode cX5_add 1 = .ok (.istore_n 3, 1) := by decide +kernel
theorem dX5_add_2 : decode cX5_add 2 = .ok (.iload_n 3, 1) := by decide +kernel
theorem dX5_add_3 : decode cX5_add 3 = .ok (.iload_n 2, 1) := by decide +kernel
theorem dX5_add_4 : decode cX5_add 4 = .ok (.if_icmp .ge 31, 3) := by decide +kernel
theorem dX5_add_7 : decode cX5_add 7 = .ok (.aload_n 0, 1) := by decide +kernel
theorem dX5_add_8 : decode cX5_add 8 = .ok (.getfield 9, 3) := by decide +kernel
theorem dX5_add_11 : decode cX5_add 11 = .ok (.aload_n 0, 1) := by decide +kernel
theorem dX5_add_12 : decode cX5_add 12 = .ok (.getfield 15, 3) := by decide +kernel
theorem dX5_add_15 : decode cX5_add 15 = .ok (.iload_n 1, 1) := by decide +kernel
theorem dX5_add_16 : decode cX5_add 16 = .ok (.invokestatic 33, 3) := by decide +kernel
theorem dX5_add_19 : decode cX5_add 19 = .ok (.aload_n 0, 1) := by decide +kernel
theorem dX5_add_20 : decode cX5_add 20 = .ok (.dup, 1) := by decide +kernel
theorem dX5_add_21 : decode cX5_add 21 = .ok (.getfield 15, 3) := by decide +kernel
theorem dX5_add_24 : decode cX5_add 24 = .ok (.iconst 1, 1) := by decide +kernel
theorem dX5_add_25 : decode cX5_add 25 = .ok (.iadd, 1) := by decide +kernel
theorem dX5_add_26 : decode cX5_add 26 = .ok (.putfield 15, 3) := by decide +kernel
theorem dX5_add_29 : decode cX5_add 29 = .ok (.iinc 3 1, 3) := by decide +kernel
theorem dX5_add_32 : decode cX5_add 32 = .ok (.goto (-30), 3) := by decide +kernel
theorem dX5_add_35 : decode cX5_add 35 = .ok (.return_, 1) := by decide +kernel
theorem dX5_firstDoubt_0 : decode cX5_firstDoubt 0 = .ok (.iconst 0, 1) := by decide +kernel
theorem dX5_firstDoubt_1 : decode cX5_firstDoubt 1 = .ok (.istore_n 3, 1) := by decide +kernel
theorem dX5_firstDoubt_2 : decode cX5_firstDoubt 2 = .ok (.iload_n 3, 1) := by decide +kernel
theorem dX5_firstDoubt_3 : decode cX5_firstDoubt 3 = .ok (.aload_n 0, 1) := by decide +kernel
theorem dX5_firstDoubt_4 : decode cX5_firstDoubt 4 = .ok (.getfield 15, 3) := by decide +kernel
theorem dX5_firstDoubt_7 : decode cX5_firstDoubt 7 = .ok (.if_icmp .ge 21, 3) := by decide +kernel
theorem dX5_firstDoubt_10 : decode cX5_firstDoubt 10 = .ok (.aload_n 0, 1) := by decide +kernel
theorem dX5_firstDoubt_11 : decode cX5_firstDoubt 11 = .ok (.iload_n 3, 1) := by decide +kernel
theorem dX5_firstDoubt_12 : decode cX5_firstDoubt 12 = .ok (.iload_n 2, 1) := by decide +kernel
theorem dX5_firstDoubt_13 : decode cX5_firstDoubt 13 = .ok (.invokevirtual 37, 3) := by decide +kernel
theorem dX5_firstDoubt_16 : decode cX5_firstDoubt 16 = .ok (.iload_n 1, 1) := by decide +kernel
theorem dX5_firstDoubt_17 : decode cX5_firstDoubt 17 = .ok (.if_icmp .le 5, 3) := by decide +kernel
theorem dX5_firstDoubt_20 : decode cX5_firstDoubt 20 = .ok (.iload_n 3, 1) := by decide +kernel
theorem dX5_firstDoubt_21 : decode cX5_firstDoubt 21 = .ok (.ireturn, 1) := by decide +kernel
theorem dX5_firstDoubt_22 : decode cX5_firstDoubt 22 = .ok (.iinc 3 1, 3) := by decide +kernel
theorem dX5_firstDoubt_25 : decode cX5_firstDoubt 25 = .ok (.goto (-23), 3) := by decide +kernel
theorem dX5_firstDoubt_28 : decode cX5_firstDoubt 28 = .ok (.bipush (-6), 2) := by decide +kernel
theorem dX5_firstDoubt_30 : decode cX5_firstDoubt 30 = .ok (.ireturn, 1) := by decide +kernel
theorem dX5_near_0 : decode cX5_near 0 = .ok (.iconst 0, 1) := by decide +kernel
theorem dX5_near_1 : decode cX5_near 1 = .ok (.istore_n 3, 1) := by decide +kernel
theorem dX5_near_2 : decode cX5_near 2 = .ok (.iconst 0, 1) := by decide +kernel
theorem dX5_near_3 : decode cX5_near 3 = .ok (.istore 4, 2) := by decide +kernel
theorem dX5_near_5 : decode cX5_near 5 = .ok (.iload 4, 2) := by decide +kernel
theorem dX5_near_7 : decode cX5_near 7 = .ok (.iload_n 1, 1) := by decide +kernel
theorem dX5_near_8 : decode cX5_near 8 = .ok (.if_icmp .gt 39, 3) := by decide +kernel
theorem dX5_near_11 : decode cX5_near 11 = .ok (.iload_n 3, 1) := by decide +kernel
theorem dX5_near_12 : decode cX5_near 12 = .ok (.aload_n 0, 1) := by decide +kernel
theorem dX5_near_13 : decode cX5_near 13 = .ok (.getfield 9, 3) := by decide +kernel
theorem dX5_near_16 : decode cX5_near 16 = .ok (.iload 4, 2) := by decide +kernel
theorem dX5_near_18 : decode cX5_near 18 = .ok (.invokestatic 41, 3) := by decide +kernel
theorem dX5_near_21 : decode cX5_near 21 = .ok (.aload_n 0, 1) := by decide +kernel
theorem dX5_near_22 : decode cX5_near 22 = .ok (.getfield 9, 3) := by decide +kernel
theorem dX5_near_25 : decode cX5_near 25 = .ok (.iload_n 1, 1) := by decide +kernel
theorem dX5_near_26 : decode cX5_near 26 = .ok (.invokestatic 41, 3) := by decide +kernel
theorem dX5_near_29 : decode cX5_near 29 = .ok (.iload_n 2, 1) := by decide +kernel
theorem dX5_near_30 : decode cX5_near 30 = .ok (.isub, 1) := by decide +kernel
theorem dX5_near_31 : decode cX5_near 31 = .ok (.if_icmp .le 7, 3) := by decide +kernel
theorem dX5_near_34 : decode cX5_near 34 = .ok (.iconst 1, 1) := by decide +kernel
theorem dX5_near_35 : decode cX5_near 35 = .ok (.goto 4, 3) := by decide +kernel
theorem dX5_near_38 : decode cX5_near 38 = .ok (.iconst 0, 1) := by decide +kernel
theorem dX5_near_39 : decode cX5_near 39 = .ok (.iadd, 1) := by decide +kernel
theorem dX5_near_40 : decode cX5_near 40 = .ok (.istore_n 3, 1) := by decide +kernel
theorem dX5_near_41 : decode cX5_near 41 = .ok (.iinc 4 1, 3) := by decide +kernel
theorem dX5_near_44 : decode cX5_near 44 = .ok (.goto (-39), 3) := by decide +kernel
theorem dX5_near_47 : decode cX5_near 47 = .ok (.iload_n 3, 1) := by decide +kernel
theorem dX5_near_48 : decode cX5_near 48 = .ok (.ireturn, 1) := by decide +kernel
theorem dX6_init_0 : decode cX6_init 0 = .ok (.aload_n 0, 1) := by decide +kernel
theorem dX6_init_1 : decode cX6_init 1 = .ok (.invokespecial 3, 3) := by decide +kernel
theorem dX6_init_4 : decode cX6_init 4 = .ok (.aload_n 0, 1) := by decide +kernel
theorem dX6_init_5 : decode cX6_init 5 = .ok (.bipush 6, 2) := by decide +kernel
theorem dX6_init_7 : decode cX6_init 7 = .ok (.newarray .int, 2) := by decide +kernel
theorem dX6_init_9 : decode cX6_init 9 = .ok (.putfield 9, 3) := by decide +kernel
theorem dX6_init_12 : decode cX6_init 12 = .ok (.aload_n 0, 1) := by decide +kernel
theorem dX6_init_13 : decode cX6_init 13 = .ok (.bipush 6, 2) := by decide +kernel
theorem dX6_init_15 : decode cX6_init 15 = .ok (.newarray .int, 2) := by decide +kernel
theorem dX6_init_17 : decode cX6_init 17 = .ok (.putfield 15, 3) := by decide +kernel
theorem dX6_init_20 : decode cX6_init 20 = .ok (.return_, 1) := by decide +kernel
theorem dX6_begin_0 : decode cX6_begin 0 = .ok (.aload_n 0, 1) := by decide +kernel
theorem dX6_begin_1 : decode cX6_begin 1 = .ok (.iload_n 1, 1) := by decide +kernel
theorem dX6_begin_2 : decode cX6_begin 2 = .ok (.putfield 18, 3) := by decide +kernel
theorem dX6_begin_5 : decode cX6_begin 5 = .ok (.aload_n 0, 1) := by decide +kernel
theorem dX6_begin_6 : decode cX6_begin 6 = .ok (.sipush 1201, 3) := by decide +kernel
theorem dX6_begin_9 : decode cX6_begin 9 = .ok (.putfield 22, 3) := by decide +kernel
theorem dX6_begin_12 : decode cX6_begin 12 = .ok (.aload_n 0, 1) := by decide +kernel
theorem dX6_begin_13 : decode cX6_begin 13 = .ok (.iconst 0, 1) := by decide +kernel
theorem dX6_begin_14 : decode cX6_begin 14 = .ok (.putfield 25, 3) := by decide +kernel
theorem dX6_begin_17 : decode cX6_begin 17 = .ok (.return_, 1) := by decide +kernel
theorem dX6_pick_0 : decode cX6_pick 0 = .ok (.aload_n 0, 1) := by decide +kernel
theorem dX6_pick_1 : decode cX6_pick 1 = .ok (.getfield 9, 3) := by decide +kernel
theorem dX6_pick_4 : decode cX6_pick 4 = .ok (.iload_n 1, 1) := by decide +kernel
theorem dX6_pick_5 : decode cX6_pick 5 = .ok (.iload_n 2, 1) := by decide +kernel
theorem dX6_pick_6 : decode cX6_pick 6 = .ok (.invokestatic 28, 3) := by decide +kernel
theorem dX6_pick_9 : decode cX6_pick 9 = .ok (.return_, 1) := by decide +kernel
theorem dX6_end_0 : decode cX6_end 0 = .ok (.iload_n 1, 1) := by decide +kernel
theorem dX6_end_1 : decode cX6_end 1 = .ok (.aload_n 0, 1) := by decide +kernel
theorem dX6_end_2 : decode cX6_end 2 = .ok (.getfield 18, 3) := by decide +kernel
theorem dX6_end_5 : decode cX6_end 5 = .ok (.isub, 1) := by decide +kernel
theorem dX6_end_6 : decode cX6_end 6 = .ok (.invokestatic 32, 3) := by decide +kernel
theorem dX6_end_9 : decode cX6_end 9 = .ok (.istore_n 3, 1) := by decide +kernel
theorem dX6_end_10 : decode cX6_end 10 = .ok (.iload_n 3, 1) := by decide +kernel
theorem dX6_end_11 : decode cX6_end 11 = .ok (.aload_n 0, 1) := by decide +kernel
theorem dX6_end_12 : decode cX6_end 12 = .ok (.getfield 22, 3) := by decide +kernel
theorem dX6_end_15 : decode cX6_end 15 = .ok (.if_icmp .lt 19, 3) := by decide +kernel
theorem dX6_end_18 : decode cX6_end 18 = .ok (.iload_n 3, 1) := by decide +kernel
theorem dX6_end_19 : decode cX6_end 19 = .ok (.aload_n 0, 1) := by decide +kernel
theorem dX6_end_20 : decode cX6_end 20 = .ok (.getfield 22, 3) := by decide +kernel
theorem dX6_end_23 : decode cX6_end 23 = .ok (.if_icmp .ne 32, 3) := by decide +kernel
theorem dX6_end_26 : decode cX6_end 26 = .ok (.iload_n 2, 1) := by decide +kernel
theorem dX6_end_27 : decode cX6_end 27 = .ok (.aload_n 0, 1) := by decide +kernel
theorem dX6_end_28 : decode cX6_end 28 = .ok (.getfield 25, 3) := by decide +kernel
theorem dX6_end_31 : decode cX6_end 31 = .ok (.if_icmp .ge 24, 3) := by decide +kernel
theorem dX6_end_34 : decode cX6_end 34 = .ok (.aload_n 0, 1) := by decide +kernel
theorem dX6_end_35 : decode cX6_end 35 = .ok (.iload_n 3, 1) := by decide +kernel
theorem dX6_end_36 : decode cX6_end 36 = .ok (.putfield 22, 3) := by decide +kernel
theorem dX6_end_39 : decode cX6_end 39 = .ok (.aload_n 0, 1) := by decide +kernel
theorem dX6_end_40 : decode cX6_end 40 = .ok (.iload_n 2, 1) := by decide +kernel
theorem dX6_end_41 : decode cX6_end 41 = .ok (.putfield 25, 3) := by decide +kernel
theorem dX6_end_44 : decode cX6_end 44 = .ok (.aload_n 0, 1) := by decide +kernel
theorem dX6_end_45 : decode cX6_end 45 = .ok (.getfield 9, 3) := by decide +kernel
theorem dX6_end_48 : decode cX6_end 48 = .ok (.aload_n 0, 1) := by decide +kernel
theorem dX6_end_49 : decode cX6_end 49 = .ok (.getfield 15, 3) := by decide +kernel
theorem dX6_end_52 : decode cX6_end 52 = .ok (.invokestatic 38, 3) := by decide +kernel
theorem dX6_end_55 : decode cX6_end 55 = .ok (.return_, 1) := by decide +kernel
theorem dX6_off_0 : decode cX6_off 0 = .ok (.aload_n 0, 1) := by decide +kernel
theorem dX6_off_1 : decode cX6_off 1 = .ok (.getfield 22, 3) := by decide +kernel
theorem dX6_off_4 : decode cX6_off 4 = .ok (.ireturn, 1) := by decide +kernel
theorem dX6_chosen_0 : decode cX6_chosen 0 = .ok (.aload_n 0, 1) := by decide +kernel
theorem dX6_chosen_1 : decode cX6_chosen 1 = .ok (.getfield 15, 3) := by decide +kernel
theorem dX6_chosen_4 : decode cX6_chosen 4 = .ok (.iload_n 1, 1) := by decide +kernel
theorem dX6_chosen_5 : decode cX6_chosen 5 = .ok (.invokestatic 42, 3) := by decide +kernel
theorem dX6_chosen_8 : decode cX6_chosen 8 = .ok (.ireturn, 1) := by decide +kernel
theorem dX7_init_0 : decode cX7_init 0 = .ok (.aload_n 0, 1) := by decide +kernel
theorem dX7_init_1 : decode cX7_init 1 = .ok (.invokespecial 3, 3) := by decide +kernel
theorem dX7_init_4 : decode cX7_init 4 = .ok (.aload_n 0, 1) := by decide +kernel
theorem dX7_init_5 : decode cX7_init 5 = .ok (.bipush 6, 2) := by decide +kernel
theorem dX7_init_7 : decode cX7_init 7 = .ok (.newarray .int, 2) := by decide +kernel
theorem dX7_init_9 : decode cX7_init 9 = .ok (.putfield 9, 3) := by decide +kernel
theorem dX7_init_12 : decode cX7_init 12 = .ok (.aload_n 0, 1) := by decide +kernel
theorem dX7_init_13 : decode cX7_init 13 = .ok (.bipush 10, 2) := by decide +kernel
theorem dX7_init_15 : decode cX7_init 15 = .ok (.newarray .int, 2) := by decide +kernel
theorem dX7_init_17 : decode cX7_init 17 = .ok (.putfield 15, 3) := by decide +kernel
theorem dX7_init_20 : decode cX7_init 20 = .ok (.aload_n 0, 1) := by decide +kernel
theorem dX7_init_21 : decode cX7_init 21 = .ok (.bipush 6, 2) := by decide +kernel
theorem dX7_init_23 : decode cX7_init 23 = .ok (.newarray .int, 2) := by decide +kernel
theorem dX7_init_25 : decode cX7_init 25 = .ok (.putfield 18, 3) := by decide +kernel
theorem dX7_init_28 : decode cX7_init 28 = .ok (.aload_n 0, 1) := by decide +kernel
theorem dX7_init_29 : decode cX7_init 29 = .ok (.bipush 6, 2) := by decide +kernel
theorem dX7_init_31 : decode cX7_init 31 = .ok (.newarray .int, 2) := by decide +kernel
theorem dX7_init_33 : decode cX7_init 33 = .ok (.putfield 21, 3) := by decide +kernel
theorem dX7_init_36 : decode cX7_init 36 = .ok (.aload_n 0, 1) := by decide +kernel
theorem dX7_init_37 : decode cX7_init 37 = .ok (.bipush 6, 2) := by decide +kernel
theorem dX7_init_39 : decode cX7_init 39 = .ok (.newarray .int, 2) := by decide +kernel
theorem dX7_init_41 : decode cX7_init 41 = .ok (.putfield 24, 3) := by decide +kernel
theorem dX7_init_44 : decode cX7_init 44 = .ok (.iconst 0, 1) := by decide +kernel
theorem dX7_init_45 : decode cX7_init 45 = .ok (.istore_n 1, 1) := by decide +kernel
theorem dX7_init_46 : decode cX7_init 46 = .ok (.iload_n 1, 1) := by decide +kernel
theorem dX7_init_47 : decode cX7_init 47 = .ok (.aload_n 0, 1) := by decide +kernel
theorem dX7_init_48 : decode cX7_init 48 = .ok (.getfield 9, 3) := by decide +kernel
theorem dX7_init_51 : decode cX7_init 51 = .ok (.arraylength, 1) := by decide +kernel
theorem dX7_init_52 : decode cX7_init 52 = .ok (.if_icmp .ge 28, 3) := by decide +kernel
theorem dX7_init_55 : decode cX7_init 55 = .ok (.iload_n 1, 1) := by decide +kernel
theorem dX7_init_56 : decode cX7_init 56 = .ok (.getstatic 27, 3) := by decide +kernel
theorem dX7_init_59 : decode cX7_init 59 = .ok (.arraylength, 1) := by decide +kernel
theorem dX7_init_60 : decode cX7_init 60 = .ok (.if_icmp .ge 20, 3) := by decide +kernel
theorem dX7_init_63 : decode cX7_init 63 = .ok (.aload_n 0, 1) := by decide +kernel
theorem dX7_init_64 : decode cX7_init 64 = .ok (.getfield 9, 3) := by decide +kernel
theorem dX7_init_67 : decode cX7_init 67 = .ok (.iload_n 1, 1) := by decide +kernel
theorem dX7_init_68 : decode cX7_init 68 = .ok (.getstatic 27, 3) := by decide +kernel
theorem dX7_init_71 : decode cX7_init 71 = .ok (.iload_n 1, 1) := by decide +kernel
theorem dX7_init_72 : decode cX7_init 72 = .ok (.iaload, 1) := by decide +kernel
theorem dX7_init_73 : decode cX7_init 73 = .ok (.iastore, 1) := by decide +kernel
theorem dX7_init_74 : decode cX7_init 74 = .ok (.iinc 1 1, 3) := by decide +kernel
theorem dX7_init_77 : decode cX7_init 77 = .ok (.goto (-31), 3) := by decide +kernel
theorem dX7_init_80 : decode cX7_init 80 = .ok (.iconst 0, 1) := by decide +kernel
theorem dX7_init_81 : decode cX7_init 81 = .ok (.istore_n 1, 1) := by decide +kernel
theorem dX7_init_82 : decode cX7_init 82 = .ok (.iload_n 1, 1) := by decide +kernel
theorem dX7_init_83 : decode cX7_init 83 = .ok (.iconst 5, 1) := by decide +kernel
theorem dX7_init_84 : decode cX7_init 84 = .ok (.if_icmp .ge 37, 3) := by decide +kernel
theorem dX7_init_87 : decode cX7_init 87 = .ok (.iconst 5, 1) := by decide +kernel
theorem dX7_init_88 : decode cX7_init 88 = .ok (.iload_n 1, 1) := by decide +kernel
theorem dX7_init_89 : decode cX7_init 89 = .ok (.iadd, 1) := by decide +kernel
theorem dX7_init_90 : decode cX7_init 90 = .ok (.aload_n 0, 1) := by decide +kernel
theorem dX7_init_91 : decode cX7_init 91 = .ok (.getfield 15, 3) := by decide +kernel
theorem dX7_init_94 : decode cX7_init 94 = .ok (.arraylength, 1) := by decide +kernel
theorem dX7_init_95 : decode cX7_init 95 = .ok (.if_icmp .ge 26, 3) := by decide +kernel
theorem dX7_init_98 : decode cX7_init 98 = .ok (.aload_n 0, 1) := by decide +kernel
theorem dX7_init_99 : decode cX7_init 99 = .ok (.getfield 15, 3) := by decide +kernel
theorem dX7_init_102 : decode cX7_init 102 = .ok (.iload_n 1, 1) := by decide +kernel
theorem dX7_init_103 : decode cX7_init 103 = .ok (.iload_n 1, 1) := by decide +kernel
theorem dX7_init_104 : decode cX7_init 104 = .ok (.iastore, 1) := by decide +kernel
theorem dX7_init_105 : decode cX7_init 105 = .ok (.aload_n 0, 1) := by decide +kernel
theorem dX7_init_106 : decode cX7_init 106 = .ok (.getfield 15, 3) := by decide +kernel
theorem dX7_init_109 : decode cX7_init 109 = .ok (.iconst 5, 1) := by decide +kernel
theorem dX7_init_110 : decode cX7_init 110 = .ok (.iload_n 1, 1) := by decide +kernel
theorem dX7_init_111 : decode cX7_init 111 = .ok (.iadd, 1) := by decide +kernel
theorem dX7_init_112 : decode cX7_init 112 = .ok (.iload_n 1, 1) := by decide +kernel
theorem dX7_init_113 : decode cX7_init 113 = .ok (.ineg, 1) := by decide +kernel
theorem dX7_init_114 : decode cX7_init 114 = .ok (.iastore, 1) := by decide +kernel
theorem dX7_init_115 : decode cX7_init 115 = .ok (.iinc 1 1, 3) := by decide +kernel
theorem dX7_init_118 : decode cX7_init 118 = .ok (.goto (-36), 3) := by decide +kernel
theorem dX7_init_121 : decode cX7_init 121 = .ok (.return_, 1) := by decide +kernel
theorem dX7_number_0 : decode cX7_number 0 = .ok (.aload_n 0, 1) := by decide +kernel
theorem dX7_number_1 : decode cX7_number 1 = .ok (.getfield 9, 3) := by decide +kernel
theorem dX7_number_4 : decode cX7_number 4 = .ok (.iload_n 1, 1) := by decide +kernel
theorem dX7_number_5 : decode cX7_number 5 = .ok (.invokestatic 30, 3) := by decide +kernel
theorem dX7_number_8 : decode cX7_number 8 = .ok (.ireturn, 1) := by decide +kernel
theorem dX7_changeNumber_0 : decode cX7_changeNumber 0 = .ok (.aload_n 0, 1) := by decide +kernel
theorem dX7_changeNumber_1 : decode cX7_changeNumber 1 = .ok (.getfield 9, 3) := by decide +kernel
theorem dX7_changeNumber_4 : decode cX7_changeNumber 4 = .ok (.iload_n 1, 1) := by decide +kernel
theorem dX7_changeNumber_5 : decode cX7_changeNumber 5 = .ok (.iload_n 2, 1) := by decide +kernel
theorem dX7_changeNumber_6 : decode cX7_changeNumber 6 = .ok (.invokestatic 34, 3) := by decide +kernel
theorem dX7_changeNumber_9 : decode cX7_changeNumber 9 = .ok (.return_, 1) := by decide +kernel
theorem dX7_windAt_0 : decode cX7_windAt 0 = .ok (.aload_n 0, 1) := by decide +kernel
theorem dX7_windAt_1 : decode cX7_windAt 1 = .ok (.getfield 15, 3) := by decide +kernel
theorem dX7_windAt_4 : decode cX7_windAt 4 = .ok (.iload_n 2, 1) := by decide +kernel
theorem dX7_windAt_5 : decode cX7_windAt 5 = .ok (.iconst 5, 1) := by decide +kernel
theorem dX7_windAt_6 : decode cX7_windAt 6 = .ok (.imul, 1) := by decide +kernel
theorem dX7_windAt_7 : decode cX7_windAt 7 = .ok (.iload_n 1, 1) := by decide +kernel
theorem dX7_windAt_8 : decode cX7_windAt 8 = .ok (.iadd, 1) := by decide +kernel
theorem dX7_windAt_9 : decode cX7_windAt 9 = .ok (.invokestatic 30, 3) := by decide +kernel
theorem dX7_windAt_12 : decode cX7_windAt 12 = .ok (.ireturn, 1) := by decide +kernel
theorem dX7_changeWind_0 : decode cX7_changeWind 0 = .ok (.aload_n 0, 1) := by decide +kernel
theorem dX7_changeWind_1 : decode cX7_changeWind 1 = .ok (.getfield 15, 3) := by decide +kernel
theorem dX7_changeWind_4 : decode cX7_changeWind 4 = .ok (.iload_n 2, 1) := by decide +kernel
theorem dX7_changeWind_5 : decode cX7_changeWind 5 = .ok (.iconst 5, 1) := by decide +kernel
theorem dX7_changeWind_6 : decode cX7_changeWind 6 = .ok (.imul, 1) := by decide +kernel
theorem dX7_changeWind_7 : decode cX7_changeWind 7 = .ok (.iload_n 1, 1) := by decide +kernel
theorem dX7_changeWind_8 : decode cX7_changeWind 8 = .ok (.iadd, 1) := by decide +kernel
theorem dX7_changeWind_9 : decode cX7_changeWind 9 = .ok (.iload_n 3, 1) := by decide +kernel
theorem dX7_changeWind_10 : decode cX7_changeWind 10 = .ok (.invokestatic 34, 3) := by decide +kernel
theorem dX7_changeWind_13 : decode cX7_changeWind 13 = .ok (.return_, 1) := by decide +kernel
theorem dX7_weight_0 : decode cX7_weight 0 = .ok (.aload_n 0, 1) := by decide +kernel
theorem dX7_weight_1 : decode cX7_weight 1 = .ok (.getfield 18, 3) := by decide +kernel
theorem dX7_weight_4 : decode cX7_weight 4 = .ok (.iload_n 1, 1) := by decide +kernel
theorem dX7_weight_5 : decode cX7_weight 5 = .ok (.invokestatic 30, 3) := by decide +kernel
theorem dX7_weight_8 : decode cX7_weight 8 = .ok (.ireturn, 1) := by decide +kernel
theorem dX7_changeWeight_0 : decode cX7_changeWeight 0 = .ok (.aload_n 0, 1) := by decide +kernel
theorem dX7_changeWeight_1 : decode cX7_changeWeight 1 = .ok (.getfield 18, 3) := by decide +kernel
theorem dX7_changeWeight_4 : decode cX7_changeWeight 4 = .ok (.iload_n 1, 1) := by decide +kernel
theorem dX7_changeWeight_5 : decode cX7_changeWeight 5 = .ok (.iload_n 2, 1) := by decide +kernel
theorem dX7_changeWeight_6 : decode cX7_changeWeight 6 = .ok (.invokestatic 34, 3) := by decide +kernel
theorem dX7_changeWeight_9 : decode cX7_changeWeight 9 = .ok (.return_, 1) := by decide +kernel
theorem dX7_sights_0 : decode cX7_sights 0 = .ok (.aload_n 0, 1) := by decide +kernel
theorem dX7_sights_1 : decode cX7_sights 1 = .ok (.getfield 38, 3) := by decide +kernel
theorem dX7_sights_4 : decode cX7_sights 4 = .ok (.ireturn, 1) := by decide +kernel
theorem dX7_sightThing_0 : decode cX7_sightThing 0 = .ok (.aload_n 0, 1) := by decide +kernel
theorem dX7_sightThing_1 : decode cX7_sightThing 1 = .ok (.getfield 21, 3) := by decide +kernel
theorem dX7_sightThing_4 : decode cX7_sightThing 4 = .ok (.iload_n 1, 1) := by decide +kernel
theorem dX7_sightThing_5 : decode cX7_sightThing 5 = .ok (.invokestatic 30, 3) := by decide +kernel
theorem dX7_sightThing_8 : decode cX7_sightThing 8 = .ok (.ireturn, 1) := by decide +kernel
theorem dX7_sightPlace_0 : decode cX7_sightPlace 0 = .ok (.aload_n 0, 1) := by decide +kernel
theorem dX7_sightPlace_1 : decode cX7_sightPlace 1 = .ok (.getfield 24, 3) := by decide +kernel
theorem dX7_sightPlace_4 : decode cX7_sightPlace 4 = .ok (.iload_n 1, 1) := by decide +kernel
theorem dX7_sightPlace_5 : decode cX7_sightPlace 5 = .ok (.invokestatic 30, 3) := by decide +kernel
theorem dX7_sightPlace_8 : decode cX7_sightPlace 8 = .ok (.ireturn, 1) := by decide +kernel
theorem dX7_addSight_0 : decode cX7_addSight 0 = .ok (.aload_n 0, 1) := by decide +kernel
theorem dX7_addSight_1 : decode cX7_addSight 1 = .ok (.getfield 21, 3) := by decide +kernel
theorem dX7_addSight_4 : decode cX7_addSight 4 = .ok (.aload_n 0, 1) := by decide +kernel
theorem dX7_addSight_5 : decode cX7_addSight 5 = .ok (.getfield 38, 3) := by decide +kernel
theorem dX7_addSight_8 : decode cX7_addSight 8 = .ok (.iload_n 1, 1) := by decide +kernel
theorem dX7_addSight_9 : decode cX7_addSight 9 = .ok (.invokestatic 34, 3) := by decide +kernel
theorem dX7_addSight_12 : decode cX7_addSight 12 = .ok (.aload_n 0, 1) := by decide +kernel
theorem dX7_addSight_13 : decode cX7_addSight 13 = .ok (.getfield 24, 3) := by decide +kernel
theorem dX7_addSight_16 : decode cX7_addSight 16 = .ok (.aload_n 0, 1) := by decide +kernel
theorem dX7_addSight_17 : decode cX7_addSight 17 = .ok (.getfield 38, 3) := by decide +kernel
theorem dX7_addSight_20 : decode cX7_addSight 20 = .ok (.iload_n 2, 1) := by decide +kernel
theorem dX7_addSight_21 : decode cX7_addSight 21 = .ok (.invokestatic 34, 3) := by decide +kernel
theorem dX7_addSight_24 : decode cX7_addSight 24 = .ok (.aload_n 0, 1) := by decide +kernel
theorem dX7_addSight_25 : decode cX7_addSight 25 = .ok (.dup, 1) := by decide +kernel
theorem dX7_addSight_26 : decode cX7_addSight 26 = .ok (.getfield 38, 3) := by decide +kernel
theorem dX7_addSight_29 : decode cX7_addSight 29 = .ok (.iconst 1, 1) := by decide +kernel
theorem dX7_addSight_30 : decode cX7_addSight 30 = .ok (.iadd, 1) := by decide +kernel
theorem dX7_addSight_31 : decode cX7_addSight 31 = .ok (.putfield 38, 3) := by decide +kernel
theorem dX7_addSight_34 : decode cX7_addSight 34 = .ok (.return_, 1) := by decide +kernel
theorem dX7_forgetSights_0 : decode cX7_forgetSights 0 = .ok (.aload_n 0, 1) := by decide +kernel
theorem dX7_forgetSights_1 : decode cX7_forgetSights 1 = .ok (.iconst 0, 1) := by decide +kernel
theorem dX7_forgetSights_2 : decode cX7_forgetSights 2 = .ok (.putfield 38, 3) := by decide +kernel
theorem dX7_forgetSights_5 : decode cX7_forgetSights 5 = .ok (.return_, 1) := by decide +kernel
theorem dX7_loaded_0 : decode cX7_loaded 0 = .ok (.iconst 0, 1) := by decide +kernel
theorem dX7_loaded_1 : decode cX7_loaded 1 = .ok (.istore_n 1, 1) := by decide +kernel
theorem dX7_loaded_2 : decode cX7_loaded 2 = .ok (.iconst 0, 1) := by decide +kernel
theorem dX7_loaded_3 : decode cX7_loaded 3 = .ok (.istore_n 2, 1) := by decide +kernel
theorem dX7_loaded_4 : decode cX7_loaded 4 = .ok (.iload_n 2, 1) := by decide +kernel
theorem dX7_loaded_5 : decode cX7_loaded 5 = .ok (.bipush 6, 2) := by decide +kernel
theorem dX7_loaded_7 : decode cX7_loaded 7 = .ok (.if_icmp .ge 27, 3) := by decide +kernel
theorem dX7_loaded_10 : decode cX7_loaded 10 = .ok (.iload_n 1, 1) := by decide +kernel
theorem dX7_loaded_11 : decode cX7_loaded 11 = .ok (.aload_n 0, 1) := by decide +kernel
theorem dX7_loaded_12 : decode cX7_loaded 12 = .ok (.iload_n 2, 1) := by decide +kernel
theorem dX7_loaded_13 : decode cX7_loaded 13 = .ok (.invokevirtual 42, 3) := by decide +kernel
theorem dX7_loaded_16 : decode cX7_loaded 16 = .ok (.ifCond .le 9, 3) := by decide +kernel
theorem dX7_loaded_19 : decode cX7_loaded 19 = .ok (.iconst 1, 1) := by decide +kernel
theorem dX7_loaded_20 : decode cX7_loaded 20 = .ok (.iload_n 2, 1) := by decide +kernel
theorem dX7_loaded_21 : decode cX7_loaded 21 = .ok (.ishl, 1) := by decide +kernel
theorem dX7_loaded_22 : decode cX7_loaded 22 = .ok (.goto 4, 3) := by decide +kernel
theorem dX7_loaded_25 : decode cX7_loaded 25 = .ok (.iconst 0, 1) := by decide +kernel
theorem dX7_loaded_26 : decode cX7_loaded 26 = .ok (.ior, 1) := by decide +kernel
theorem dX7_loaded_27 : decode cX7_loaded 27 = .ok (.istore_n 1, 1) := by decide +kernel
theorem dX7_loaded_28 : decode cX7_loaded 28 = .ok (.iinc 2 1, 3) := by decide +kernel
theorem dX7_loaded_31 : decode cX7_loaded 31 = .ok (.goto (-27), 3) := by decide +kernel
theorem dX7_loaded_34 : decode cX7_loaded 34 = .ok (.iload_n 1, 1) := by decide +kernel
theorem dX7_loaded_35 : decode cX7_loaded 35 = .ok (.ireturn, 1) := by decide +kernel
theorem dX7_heaviest_0 : decode cX7_heaviest 0 = .ok (.bipush (-6), 2) := by decide +kernel
theorem dX7_heaviest_2 : decode cX7_heaviest 2 = .ok (.istore_n 2, 1) := by decide +kernel
theorem dX7_heaviest_3 : decode cX7_heaviest 3 = .ok (.iconst 0, 1) := by decide +kernel
theorem dX7_heaviest_4 : decode cX7_heaviest 4 = .ok (.istore_n 3, 1) := by decide +kernel
theorem dX7_heaviest_5 : decode cX7_heaviest 5 = .ok (.iload_n 3, 1) := by decide +kernel
theorem dX7_heaviest_6 : decode cX7_heaviest 6 = .ok (.bipush 6, 2) := by decide +kernel
theorem dX7_heaviest_8 : decode cX7_heaviest 8 = .ok (.if_icmp .ge 38, 3) := by decide +kernel
theorem dX7_heaviest_11 : decode cX7_heaviest 11 = .ok (.iload_n 1, 1) := by decide +kernel
theorem dX7_heaviest_12 : decode cX7_heaviest 12 = .ok (.iload_n 3, 1) := by decide +kernel
theorem dX7_heaviest_13 : decode cX7_heaviest 13 = .ok (.invokestatic 46, 3) := by decide +kernel
theorem dX7_heaviest_16 : decode cX7_heaviest 16 = .ok (.ifCond .eq 24, 3) := by decide +kernel
theorem dX7_heaviest_19 : decode cX7_heaviest 19 = .ok (.iload_n 2, 1) := by decide +kernel
theorem dX7_heaviest_20 : decode cX7_heaviest 20 = .ok (.bipush (-6), 2) := by decide +kernel
theorem dX7_heaviest_22 : decode cX7_heaviest 22 = .ok (.if_icmp .eq 16, 3) := by decide +kernel
theorem dX7_heaviest_25 : decode cX7_heaviest 25 = .ok (.aload_n 0, 1) := by decide +kernel
theorem dX7_heaviest_26 : decode cX7_heaviest 26 = .ok (.iload_n 3, 1) := by decide +kernel
theorem dX7_heaviest_27 : decode cX7_heaviest 27 = .ok (.invokevirtual 42, 3) := by decide +kernel
theorem dX7_heaviest_30 : decode cX7_heaviest 30 = .ok (.aload_n 0, 1) := by decide +kernel
theorem dX7_heaviest_31 : decode cX7_heaviest 31 = .ok (.iload_n 2, 1) := by decide +kernel
theorem dX7_heaviest_32 : decode cX7_heaviest 32 = .ok (.invokevirtual 42, 3) := by decide +kernel
theorem dX7_heaviest_35 : decode cX7_heaviest 35 = .ok (.if_icmp .le 5, 3) := by decide +kernel
theorem dX7_heaviest_38 : decode cX7_heaviest 38 = .ok (.iload_n 3, 1) := by decide +kernel
theorem dX7_heaviest_39 : decode cX7_heaviest 39 = .ok (.istore_n 2, 1) := by decide +kernel
theorem dX7_heaviest_40 : decode cX7_heaviest 40 = .ok (.iinc 3 1, 3) := by decide +kernel
theorem dX7_heaviest_43 : decode cX7_heaviest 43 = .ok (.goto (-38), 3) := by decide +kernel
theorem dX7_heaviest_46 : decode cX7_heaviest 46 = .ok (.iload_n 2, 1) := by decide +kernel
theorem dX7_heaviest_47 : decode cX7_heaviest 47 = .ok (.ireturn, 1) := by decide +kernel
theorem dX7_height_0 : decode cX7_height 0 = .ok (.iload_n 1, 1) := by decide +kernel
theorem dX7_height_1 : decode cX7_height 1 = .ok (.istore_n 3, 1) := by decide +kernel
theorem dX7_height_2 : decode cX7_height 2 = .ok (.iconst 0, 1) := by decide +kernel
theorem dX7_height_3 : decode cX7_height 3 = .ok (.istore 4, 2) := by decide +kernel
theorem dX7_height_5 : decode cX7_height 5 = .ok (.iload 4, 2) := by decide +kernel
theorem dX7_height_7 : decode cX7_height 7 = .ok (.bipush 6, 2) := by decide +kernel
theorem dX7_height_9 : decode cX7_height 9 = .ok (.if_icmp .ge 31, 3) := by decide +kernel
theorem dX7_height_12 : decode cX7_height 12 = .ok (.iload_n 3, 1) := by decide +kernel
theorem dX7_height_13 : decode cX7_height 13 = .ok (.iload_n 2, 1) := by decide +kernel
theorem dX7_height_14 : decode cX7_height 14 = .ok (.iload 4, 2) := by decide +kernel
theorem dX7_height_16 : decode cX7_height 16 = .ok (.invokestatic 46, 3) := by decide +kernel
theorem dX7_height_19 : decode cX7_height 19 = .ok (.ifCond .eq 12, 3) := by decide +kernel
theorem dX7_height_22 : decode cX7_height 22 = .ok (.aload_n 0, 1) := by decide +kernel
theorem dX7_height_23 : decode cX7_height 23 = .ok (.iload 4, 2) := by decide +kernel
theorem dX7_height_25 : decode cX7_height 25 = .ok (.invokevirtual 42, 3) := by decide +kernel
theorem dX7_height_28 : decode cX7_height 28 = .ok (.goto 4, 3) := by decide +kernel
theorem dX7_height_31 : decode cX7_height 31 = .ok (.iconst 0, 1) := by decide +kernel
theorem dX7_height_32 : decode cX7_height 32 = .ok (.isub, 1) := by decide +kernel
theorem dX7_height_33 : decode cX7_height 33 = .ok (.istore_n 3, 1) := by decide +kernel
theorem dX7_height_34 : decode cX7_height 34 = .ok (.iinc 4 1, 3) := by decide +kernel
theorem dX7_height_37 : decode cX7_height 37 = .ok (.goto (-32), 3) := by decide +kernel
theorem dX7_height_40 : decode cX7_height 40 = .ok (.aload_n 0, 1) := by decide +kernel
theorem dX7_height_41 : decode cX7_height 41 = .ok (.iconst 3, 1) := by decide +kernel
theorem dX7_height_42 : decode cX7_height 42 = .ok (.invokevirtual 50, 3) := by decide +kernel
theorem dX7_height_45 : decode cX7_height 45 = .ok (.istore 4, 2) := by decide +kernel
theorem dX7_height_47 : decode cX7_height 47 = .ok (.iload 4, 2) := by decide +kernel
theorem dX7_height_49 : decode cX7_height 49 = .ok (.iconst 1, 1) := by decide +kernel
theorem dX7_height_50 : decode cX7_height 50 = .ok (.if_icmp .lt 7, 3) := by decide +kernel
theorem dX7_height_53 : decode cX7_height 53 = .ok (.iload_n 3, 1) := by decide +kernel
theorem dX7_height_54 : decode cX7_height 54 = .ok (.ifCond .ge 5, 3) := by decide +kernel
theorem dX7_height_57 : decode cX7_height 57 = .ok (.iconst 0, 1) := by decide +kernel
theorem dX7_height_58 : decode cX7_height 58 = .ok (.ireturn, 1) := by decide +kernel
theorem dX7_height_59 : decode cX7_height 59 = .ok (.iload_n 3, 1) := by decide +kernel
theorem dX7_height_60 : decode cX7_height 60 = .ok (.iload 4, 2) := by decide +kernel
theorem dX7_height_62 : decode cX7_height 62 = .ok (.idiv, 1) := by decide +kernel
theorem dX7_height_63 : decode cX7_height 63 = .ok (.iconst 4, 1) := by decide +kernel
theorem dX7_height_64 : decode cX7_height 64 = .ok (.invokestatic 53, 3) := by decide +kernel
theorem dX7_height_67 : decode cX7_height 67 = .ok (.ireturn, 1) := by decide +kernel
theorem dX7_drift_0 : decode cX7_drift 0 = .ok (.aload_n 0, 1) := by decide +kernel
theorem dX7_drift_1 : decode cX7_drift 1 = .ok (.aload_n 0, 1) := by decide +kernel
theorem dX7_drift_2 : decode cX7_drift 2 = .ok (.iload_n 1, 1) := by decide +kernel
theorem dX7_drift_3 : decode cX7_drift 3 = .ok (.iload_n 2, 1) := by decide +kernel
theorem dX7_drift_4 : decode cX7_drift 4 = .ok (.invokevirtual 59, 3) := by decide +kernel
theorem dX7_drift_7 : decode cX7_drift 7 = .ok (.iload_n 3, 1) := by decide +kernel
theorem dX7_drift_8 : decode cX7_drift 8 = .ok (.aload_n 0, 1) := by decide +kernel
theorem dX7_drift_9 : decode cX7_drift 9 = .ok (.iconst 0, 1) := by decide +kernel
theorem dX7_drift_10 : decode cX7_drift 10 = .ok (.invokevirtual 50, 3) := by decide +kernel
theorem dX7_drift_13 : decode cX7_drift 13 = .ok (.if_icmp .lt 7, 3) := by decide +kernel
theorem dX7_drift_16 : decode cX7_drift 16 = .ok (.iconst 1, 1) := by decide +kernel
theorem dX7_drift_17 : decode cX7_drift 17 = .ok (.goto 4, 3) := by decide +kernel
theorem dX7_drift_20 : decode cX7_drift 20 = .ok (.iconst 0, 1) := by decide +kernel
theorem dX7_drift_21 : decode cX7_drift 21 = .ok (.invokevirtual 62, 3) := by decide +kernel
theorem dX7_drift_24 : decode cX7_drift 24 = .ok (.ireturn, 1) := by decide +kernel
theorem dX7_leaked_0 : decode cX7_leaked 0 = .ok (.iload_n 1, 1) := by decide +kernel
theorem dX7_leaked_1 : decode cX7_leaked 1 = .ok (.aload_n 0, 1) := by decide +kernel
theorem dX7_leaked_2 : decode cX7_leaked 2 = .ok (.iconst 2, 1) := by decide +kernel
theorem dX7_leaked_3 : decode cX7_leaked 3 = .ok (.invokevirtual 50, 3) := by decide +kernel
theorem dX7_leaked_6 : decode cX7_leaked 6 = .ok (.isub, 1) := by decide +kernel
theorem dX7_leaked_7 : decode cX7_leaked 7 = .ok (.iconst 0, 1) := by decide +kernel
theorem dX7_leaked_8 : decode cX7_leaked 8 = .ok (.invokestatic 65, 3) := by decide +kernel
theorem dX7_leaked_11 : decode cX7_leaked 11 = .ok (.ireturn, 1) := by decide +kernel
theorem dX7_become_0 : decode cX7_become 0 = .ok (.aload_n 1, 1) := by decide +kernel
theorem dX7_become_1 : decode cX7_become 1 = .ok (.getfield 9, 3) := by decide +kernel
theorem dX7_become_4 : decode cX7_become 4 = .ok (.aload_n 0, 1) := by decide +kernel
theorem dX7_become_5 : decode cX7_become 5 = .ok (.getfield 9, 3) := by decide +kernel
theorem dX7_become_8 : decode cX7_become 8 = .ok (.invokestatic 68, 3) := by decide +kernel
theorem dX7_become_11 : decode cX7_become 11 = .ok (.aload_n 1, 1) := by decide +kernel
theorem dX7_become_12 : decode cX7_become 12 = .ok (.getfield 15, 3) := by decide +kernel
theorem dX7_become_15 : decode cX7_become 15 = .ok (.aload_n 0, 1) := by decide +kernel
theorem dX7_become_16 : decode cX7_become 16 = .ok (.getfield 15, 3) := by decide +kernel
theorem dX7_become_19 : decode cX7_become 19 = .ok (.invokestatic 68, 3) := by decide +kernel
theorem dX7_become_22 : decode cX7_become 22 = .ok (.aload_n 1, 1) := by decide +kernel
theorem dX7_become_23 : decode cX7_become 23 = .ok (.getfield 18, 3) := by decide +kernel
theorem dX7_become_26 : decode cX7_become 26 = .ok (.aload_n 0, 1) := by decide +kernel
theorem dX7_become_27 : decode cX7_become 27 = .ok (.getfield 18, 3) := by decide +kernel
theorem dX7_become_30 : decode cX7_become 30 = .ok (.invokestatic 68, 3) := by decide +kernel
theorem dX7_become_33 : decode cX7_become 33 = .ok (.aload_n 1, 1) := by decide +kernel
theorem dX7_become_34 : decode cX7_become 34 = .ok (.getfield 21, 3) := by decide +kernel
theorem dX7_become_37 : decode cX7_become 37 = .ok (.aload_n 0, 1) := by decide +kernel
theorem dX7_become_38 : decode cX7_become 38 = .ok (.getfield 21, 3) := by decide +kernel
theorem dX7_become_41 : decode cX7_become 41 = .ok (.invokestatic 68, 3) := by decide +kernel
theorem dX7_become_44 : decode cX7_become 44 = .ok (.aload_n 1, 1) := by decide +kernel
theorem dX7_become_45 : decode cX7_become 45 = .ok (.getfield 24, 3) := by decide +kernel
theorem dX7_become_48 : decode cX7_become 48 = .ok (.aload_n 0, 1) := by decide +kernel
theorem dX7_become_49 : decode cX7_become 49 = .ok (.getfield 24, 3) := by decide +kernel
theorem dX7_become_52 : decode cX7_become 52 = .ok (.invokestatic 68, 3) := by decide +kernel
theorem dX7_become_55 : decode cX7_become 55 = .ok (.aload_n 0, 1) := by decide +kernel
theorem dX7_become_56 : decode cX7_become 56 = .ok (.aload_n 1, 1) := by decide +kernel
theorem dX7_become_57 : decode cX7_become 57 = .ok (.getfield 38, 3) := by decide +kernel
theorem dX7_become_60 : decode cX7_become 60 = .ok (.putfield 38, 3) := by decide +kernel
theorem dX7_become_63 : decode cX7_become 63 = .ok (.return_, 1) := by decide +kernel
theorem dX7_keep_0 : decode cX7_keep 0 = .ok (.aload_n 0, 1) := by decide +kernel
theorem dX7_keep_1 : decode cX7_keep 1 = .ok (.aload_n 1, 1) := by decide +kernel
theorem dX7_keep_2 : decode cX7_keep 2 = .ok (.invokevirtual 72, 3) := by decide +kernel
theorem dX7_keep_5 : decode cX7_keep 5 = .ok (.aload_n 0, 1) := by decide +kernel
theorem dX7_keep_6 : decode cX7_keep 6 = .ok (.iconst 1, 1) := by decide +kernel
theorem dX7_keep_7 : decode cX7_keep 7 = .ok (.putfield 76, 3) := by decide +kernel
theorem dX7_keep_10 : decode cX7_keep 10 = .ok (.return_, 1) := by decide +kernel
theorem dX7_isKept_0 : decode cX7_isKept 0 = .ok (.aload_n 0, 1) := by decide +kernel
theorem dX7_isKept_1 : decode cX7_isKept 1 = .ok (.getfield 76, 3) := by decide +kernel
theorem dX7_isKept_4 : decode cX7_isKept 4 = .ok (.ireturn, 1) := by decide +kernel
theorem dJ6_bitCount_0f7a4_0 : decode cJ6_bitCount_0f7a4 0 = .ok (.iload_n 0, 1) := by decide +kernel
theorem dJ6_bitCount_0f7a4_1 : decode cJ6_bitCount_0f7a4 1 = .ok (.iload_n 0, 1) := by decide +kernel
theorem dJ6_bitCount_0f7a4_2 : decode cJ6_bitCount_0f7a4 2 = .ok (.iconst 1, 1) := by decide +kernel
theorem dJ6_bitCount_0f7a4_3 : decode cJ6_bitCount_0f7a4 3 = .ok (.iushr, 1) := by decide +kernel
theorem dJ6_bitCount_0f7a4_4 : decode cJ6_bitCount_0f7a4 4 = .ok (.ldc_w 265, 3) := by decide +kernel
theorem dJ6_bitCount_0f7a4_7 : decode cJ6_bitCount_0f7a4 7 = .ok (.iand, 1) := by decide +kernel
theorem dJ6_bitCount_0f7a4_8 : decode cJ6_bitCount_0f7a4 8 = .ok (.isub, 1) := by decide +kernel
theorem dJ6_bitCount_0f7a4_9 : decode cJ6_bitCount_0f7a4 9 = .ok (.istore_n 0, 1) := by decide +kernel
theorem dJ6_bitCount_0f7a4_10 : decode cJ6_bitCount_0f7a4 10 = .ok (.iload_n 0, 1) := by decide +kernel
theorem dJ6_bitCount_0f7a4_11 : decode cJ6_bitCount_0f7a4 11 = .ok (.ldc_w 266, 3) := by decide +kernel
theorem dJ6_bitCount_0f7a4_14 : decode cJ6_bitCount_0f7a4 14 = .ok (.iand, 1) := by decide +kernel
theorem dJ6_bitCount_0f7a4_15 : decode cJ6_bitCount_0f7a4 15 = .ok (.iload_n 0, 1) := by decide +kernel
theorem dJ6_bitCount_0f7a4_16 : decode cJ6_bitCount_0f7a4 16 = .ok (.iconst 2, 1) := by decide +kernel
theorem dJ6_bitCount_0f7a4_17 : decode cJ6_bitCount_0f7a4 17 = .ok (.iushr, 1) := by decide +kernel
theorem dJ6_bitCount_0f7a4_18 : decode cJ6_bitCount_0f7a4 18 = .ok (.ldc_w 266, 3) := by decide +kernel
theorem dJ6_bitCount_0f7a4_21 : decode cJ6_bitCount_0f7a4 21 = .ok (.iand, 1) := by decide +kernel
theorem dJ6_bitCount_0f7a4_22 : decode cJ6_bitCount_0f7a4 22 = .ok (.iadd, 1) := by decide +kernel
theorem dJ6_bitCount_0f7a4_23 : decode cJ6_bitCount_0f7a4 23 = .ok (.istore_n 0, 1) := by decide +kernel
theorem dJ6_bitCount_0f7a4_24 : decode cJ6_bitCount_0f7a4 24 = .ok (.iload_n 0, 1) := by decide +kernel
theorem dJ6_bitCount_0f7a4_25 : decode cJ6_bitCount_0f7a4 25 = .ok (.iload_n 0, 1) := by decide +kernel
theorem dJ6_bitCount_0f7a4_26 : decode cJ6_bitCount_0f7a4 26 = .ok (.iconst 4, 1) := by decide +kernel
theorem dJ6_bitCount_0f7a4_27 : decode cJ6_bitCount_0f7a4 27 = .ok (.iushr, 1) := by decide +kernel
theorem dJ6_bitCount_0f7a4_28 : decode cJ6_bitCount_0f7a4 28 = .ok (.iadd, 1) := by decide +kernel
theorem dJ6_bitCount_0f7a4_29 : decode cJ6_bitCount_0f7a4 29 = .ok (.ldc_w 267, 3) := by decide +kernel
theorem dJ6_bitCount_0f7a4_32 : decode cJ6_bitCount_0f7a4 32 = .ok (.iand, 1) := by decide +kernel
theorem dJ6_bitCount_0f7a4_33 : decode cJ6_bitCount_0f7a4 33 = .ok (.istore_n 0, 1) := by decide +kernel
theorem dJ6_bitCount_0f7a4_34 : decode cJ6_bitCount_0f7a4 34 = .ok (.iload_n 0, 1) := by decide +kernel
theorem dJ6_bitCount_0f7a4_35 : decode cJ6_bitCount_0f7a4 35 = .ok (.iload_n 0, 1) := by decide +kernel
theorem dJ6_bitCount_0f7a4_36 : decode cJ6_bitCount_0f7a4 36 = .ok (.bipush 8, 2) := by decide +kernel
theorem dJ6_bitCount_0f7a4_38 : decode cJ6_bitCount_0f7a4 38 = .ok (.iushr, 1) := by decide +kernel
theorem dJ6_bitCount_0f7a4_39 : decode cJ6_bitCount_0f7a4 39 = .ok (.iadd, 1) := by decide +kernel
theorem dJ6_bitCount_0f7a4_40 : decode cJ6_bitCount_0f7a4 40 = .ok (.istore_n 0, 1) := by decide +kernel
theorem dJ6_bitCount_0f7a4_41 : decode cJ6_bitCount_0f7a4 41 = .ok (.iload_n 0, 1) := by decide +kernel
theorem dJ6_bitCount_0f7a4_42 : decode cJ6_bitCount_0f7a4 42 = .ok (.iload_n 0, 1) := by decide +kernel
theorem dJ6_bitCount_0f7a4_43 : decode cJ6_bitCount_0f7a4 43 = .ok (.bipush 16, 2) := by decide +kernel
theorem dJ6_bitCount_0f7a4_45 : decode cJ6_bitCount_0f7a4 45 = .ok (.iushr, 1) := by decide +kernel
theorem dJ6_bitCount_0f7a4_46 : decode cJ6_bitCount_0f7a4 46 = .ok (.iadd, 1) := by decide +kernel
theorem dJ6_bitCount_0f7a4_47 : decode cJ6_bitCount_0f7a4 47 = .ok (.istore_n 0, 1) := by decide +kernel
theorem dJ6_bitCount_0f7a4_48 : decode cJ6_bitCount_0f7a4 48 = .ok (.iload_n 0, 1) := by decide +kernel
theorem dJ6_bitCount_0f7a4_49 : decode cJ6_bitCount_0f7a4 49 = .ok (.bipush 63, 2) := by decide +kernel
theorem dJ6_bitCount_0f7a4_51 : decode cJ6_bitCount_0f7a4 51 = .ok (.iand, 1) := by decide +kernel
theorem dJ6_bitCount_0f7a4_52 : decode cJ6_bitCount_0f7a4 52 = .ok (.ireturn, 1) := by decide +kernel
