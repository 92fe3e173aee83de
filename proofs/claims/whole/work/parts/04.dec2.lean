theorem d_PC_init_0 : decode b_PC_init 0 = .ok (.aload_n 0, 1) := by decide +kernel
theorem d_PC_init_1 : decode b_PC_init 1 = .ok (.invokespecial 3, 3) := by decide +kernel
theorem d_PC_init_4 : decode b_PC_init 4 = .ok (.aload_n 0, 1) := by decide +kernel
theorem d_PC_init_5 : decode b_PC_init 5 = .ok (.iload_n 1, 1) := by decide +kernel
theorem d_PC_init_6 : decode b_PC_init 6 = .ok (.invokestatic 9, 3) := by decide +kernel
theorem d_PC_init_9 : decode b_PC_init 9 = .ok (.putfield 13, 3) := by decide +kernel
theorem d_PC_init_12 : decode b_PC_init 12 = .ok (.aload_n 0, 1) := by decide +kernel
theorem d_PC_init_13 : decode b_PC_init 13 = .ok (.iload_n 2, 1) := by decide +kernel
theorem d_PC_init_14 : decode b_PC_init 14 = .ok (.invokestatic 9, 3) := by decide +kernel
theorem d_PC_init_17 : decode b_PC_init 17 = .ok (.putfield 17, 3) := by decide +kernel
theorem d_PC_init_20 : decode b_PC_init 20 = .ok (.aload_n 0, 1) := by decide +kernel
theorem d_PC_init_21 : decode b_PC_init 21 = .ok (.bipush 32, 2) := by decide +kernel
theorem d_PC_init_23 : decode b_PC_init 23 = .ok (.putfield 20, 3) := by decide +kernel
theorem d_PC_init_26 : decode b_PC_init 26 = .ok (.aload_n 0, 1) := by decide +kernel
theorem d_PC_init_27 : decode b_PC_init 27 = .ok (.new 23, 3) := by decide +kernel
theorem d_PC_init_30 : decode b_PC_init 30 = .ok (.dup, 1) := by decide +kernel
theorem d_PC_init_31 : decode b_PC_init 31 = .ok (.invokespecial 25, 3) := by decide +kernel
theorem d_PC_init_34 : decode b_PC_init 34 = .ok (.putfield 26, 3) := by decide +kernel
theorem d_PC_init_37 : decode b_PC_init 37 = .ok (.iconst 0, 1) := by decide +kernel
theorem d_PC_init_38 : decode b_PC_init 38 = .ok (.istore_n 3, 1) := by decide +kernel
theorem d_PC_init_39 : decode b_PC_init 39 = .ok (.iload_n 3, 1) := by decide +kernel
theorem d_PC_init_40 : decode b_PC_init 40 = .ok (.iconst 3, 1) := by decide +kernel
theorem d_PC_init_41 : decode b_PC_init 41 = .ok (.if_icmp .ge 17, 3) := by decide +kernel
theorem d_PC_init_44 : decode b_PC_init 44 = .ok (.aload_n 0, 1) := by decide +kernel
theorem d_PC_init_45 : decode b_PC_init 45 = .ok (.getfield 26, 3) := by decide +kernel
theorem d_PC_init_48 : decode b_PC_init 48 = .ok (.invokevirtual 30, 3) := by decide +kernel
theorem d_PC_init_51 : decode b_PC_init 51 = .ok (.pop, 1) := by decide +kernel
theorem d_PC_init_52 : decode b_PC_init 52 = .ok (.iinc 3 1, 3) := by decide +kernel
theorem d_PC_init_55 : decode b_PC_init 55 = .ok (.goto (-16), 3) := by decide +kernel
theorem d_PC_init_58 : decode b_PC_init 58 = .ok (.aload_n 0, 1) := by decide +kernel
theorem d_PC_init_59 : decode b_PC_init 59 = .ok (.new 23, 3) := by decide +kernel
theorem d_PC_init_62 : decode b_PC_init 62 = .ok (.dup, 1) := by decide +kernel
theorem d_PC_init_63 : decode b_PC_init 63 = .ok (.invokespecial 25, 3) := by decide +kernel
theorem d_PC_init_66 : decode b_PC_init 66 = .ok (.putfield 34, 3) := by decide +kernel
theorem d_PC_init_69 : decode b_PC_init 69 = .ok (.aload_n 0, 1) := by decide +kernel
theorem d_PC_init_70 : decode b_PC_init 70 = .ok (.new 23, 3) := by decide +kernel
theorem d_PC_init_73 : decode b_PC_init 73 = .ok (.dup, 1) := by decide +kernel
theorem d_PC_init_74 : decode b_PC_init 74 = .ok (.invokespecial 25, 3) := by decide +kernel
theorem d_PC_init_77 : decode b_PC_init 77 = .ok (.putfield 37, 3) := by decide +kernel
theorem d_PC_init_80 : decode b_PC_init 80 = .ok (.aload_n 0, 1) := by decide +kernel
theorem d_PC_init_81 : decode b_PC_init 81 = .ok (.new 23, 3) := by decide +kernel
theorem d_PC_init_84 : decode b_PC_init 84 = .ok (.dup, 1) := by decide +kernel
theorem d_PC_init_85 : decode b_PC_init 85 = .ok (.invokespecial 25, 3) := by decide +kernel
theorem d_PC_init_88 : decode b_PC_init 88 = .ok (.putfield 40, 3) := by decide +kernel
theorem d_PC_init_91 : decode b_PC_init 91 = .ok (.aload_n 0, 1) := by decide +kernel
theorem d_PC_init_92 : decode b_PC_init 92 = .ok (.new 43, 3) := by decide +kernel
theorem d_PC_init_95 : decode b_PC_init 95 = .ok (.dup, 1) := by decide +kernel
theorem d_PC_init_96 : decode b_PC_init 96 = .ok (.invokespecial 45, 3) := by decide +kernel
theorem d_PC_init_99 : decode b_PC_init 99 = .ok (.putfield 46, 3) := by decide +kernel
theorem d_PC_init_102 : decode b_PC_init 102 = .ok (.return_, 1) := by decide +kernel
theorem d_PC_focus_0 : decode b_PC_focus 0 = .ok (.iload_n 1, 1) := by decide +kernel
theorem d_PC_focus_1 : decode b_PC_focus 1 = .ok (.bipush 8, 2) := by decide +kernel
theorem d_PC_focus_3 : decode b_PC_focus 3 = .ok (.if_icmp .lt 10, 3) := by decide +kernel
theorem d_PC_focus_6 : decode b_PC_focus 6 = .ok (.iload_n 1, 1) := by decide +kernel
theorem d_PC_focus_7 : decode b_PC_focus 7 = .ok (.sipush 512, 3) := by decide +kernel
theorem d_PC_focus_10 : decode b_PC_focus 10 = .ok (.if_icmp .le 5, 3) := by decide +kernel
theorem d_PC_focus_13 : decode b_PC_focus 13 = .ok (.iconst 0, 1) := by decide +kernel
theorem d_PC_focus_14 : decode b_PC_focus 14 = .ok (.ireturn, 1) := by decide +kernel
theorem d_PC_focus_15 : decode b_PC_focus 15 = .ok (.aload_n 0, 1) := by decide +kernel
theorem d_PC_focus_16 : decode b_PC_focus 16 = .ok (.iload_n 1, 1) := by decide +kernel
theorem d_PC_focus_17 : decode b_PC_focus 17 = .ok (.putfield 20, 3) := by decide +kernel
theorem d_PC_focus_20 : decode b_PC_focus 20 = .ok (.iconst 1, 1) := by decide +kernel
theorem d_PC_focus_21 : decode b_PC_focus 21 = .ok (.ireturn, 1) := by decide +kernel
theorem d_PC_place_0 : decode b_PC_place 0 = .ok (.aload_n 0, 1) := by decide +kernel
theorem d_PC_place_1 : decode b_PC_place 1 = .ok (.getfield 26, 3) := by decide +kernel
theorem d_PC_place_4 : decode b_PC_place 4 = .ok (.iload_n 1, 1) := by decide +kernel
theorem d_PC_place_5 : decode b_PC_place 5 = .ok (.invokevirtual 50, 3) := by decide +kernel
theorem d_PC_place_8 : decode b_PC_place 8 = .ok (.ifCond .eq 25, 3) := by decide +kernel
theorem d_PC_place_11 : decode b_PC_place 11 = .ok (.iload_n 2, 1) := by decide +kernel
theorem d_PC_place_12 : decode b_PC_place 12 = .ok (.invokestatic 54, 3) := by decide +kernel
theorem d_PC_place_15 : decode b_PC_place 15 = .ok (.ifCond .eq 18, 3) := by decide +kernel
theorem d_PC_place_18 : decode b_PC_place 18 = .ok (.iload_n 3, 1) := by decide +kernel
theorem d_PC_place_19 : decode b_PC_place 19 = .ok (.invokestatic 54, 3) := by decide +kernel
theorem d_PC_place_22 : decode b_PC_place 22 = .ok (.ifCond .eq 11, 3) := by decide +kernel
theorem d_PC_place_25 : decode b_PC_place 25 = .ok (.iload 4, 2) := by decide +kernel
theorem d_PC_place_27 : decode b_PC_place 27 = .ok (.invokestatic 54, 3) := by decide +kernel
theorem d_PC_place_30 : decode b_PC_place 30 = .ok (.ifCond .ne 5, 3) := by decide +kernel
theorem d_PC_place_33 : decode b_PC_place 33 = .ok (.iconst 0, 1) := by decide +kernel
theorem d_PC_place_34 : decode b_PC_place 34 = .ok (.ireturn, 1) := by decide +kernel
theorem d_PC_place_35 : decode b_PC_place 35 = .ok (.aload_n 0, 1) := by decide +kernel
theorem d_PC_place_36 : decode b_PC_place 36 = .ok (.getfield 26, 3) := by decide +kernel
theorem d_PC_place_39 : decode b_PC_place 39 = .ok (.iload_n 1, 1) := by decide +kernel
theorem d_PC_place_40 : decode b_PC_place 40 = .ok (.iconst 0, 1) := by decide +kernel
theorem d_PC_place_41 : decode b_PC_place 41 = .ok (.iload_n 2, 1) := by decide +kernel
theorem d_PC_place_42 : decode b_PC_place 42 = .ok (.i2l, 1) := by decide +kernel
theorem d_PC_place_43 : decode b_PC_place 43 = .ok (.invokevirtual 57, 3) := by decide +kernel
theorem d_PC_place_46 : decode b_PC_place 46 = .ok (.aload_n 0, 1) := by decide +kernel
theorem d_PC_place_47 : decode b_PC_place 47 = .ok (.getfield 26, 3) := by decide +kernel
theorem d_PC_place_50 : decode b_PC_place 50 = .ok (.iload_n 1, 1) := by decide +kernel
theorem d_PC_place_51 : decode b_PC_place 51 = .ok (.iconst 1, 1) := by decide +kernel
theorem d_PC_place_52 : decode b_PC_place 52 = .ok (.iload_n 3, 1) := by decide +kernel
theorem d_PC_place_53 : decode b_PC_place 53 = .ok (.i2l, 1) := by decide +kernel
theorem d_PC_place_54 : decode b_PC_place 54 = .ok (.invokevirtual 57, 3) := by decide +kernel
theorem d_PC_place_57 : decode b_PC_place 57 = .ok (.aload_n 0, 1) := by decide +kernel
theorem d_PC_place_58 : decode b_PC_place 58 = .ok (.getfield 26, 3) := by decide +kernel
theorem d_PC_place_61 : decode b_PC_place 61 = .ok (.iload_n 1, 1) := by decide +kernel
theorem d_PC_place_62 : decode b_PC_place 62 = .ok (.iconst 2, 1) := by decide +kernel
theorem d_PC_place_63 : decode b_PC_place 63 = .ok (.iload 4, 2) := by decide +kernel
theorem d_PC_place_65 : decode b_PC_place 65 = .ok (.i2l, 1) := by decide +kernel
theorem d_PC_place_66 : decode b_PC_place 66 = .ok (.invokevirtual 57, 3) := by decide +kernel
theorem d_PC_place_69 : decode b_PC_place 69 = .ok (.iconst 1, 1) := by decide +kernel
theorem d_PC_place_70 : decode b_PC_place 70 = .ok (.ireturn, 1) := by decide +kernel
theorem d_PC_paint_0 : decode b_PC_paint 0 = .ok (.aload_n 0, 1) := by decide +kernel
theorem d_PC_paint_1 : decode b_PC_paint 1 = .ok (.getfield 26, 3) := by decide +kernel
theorem d_PC_paint_4 : decode b_PC_paint 4 = .ok (.iload_n 1, 1) := by decide +kernel
theorem d_PC_paint_5 : decode b_PC_paint 5 = .ok (.invokevirtual 50, 3) := by decide +kernel
theorem d_PC_paint_8 : decode b_PC_paint 8 = .ok (.ifCond .eq 29, 3) := by decide +kernel
theorem d_PC_paint_11 : decode b_PC_paint 11 = .ok (.iload_n 2, 1) := by decide +kernel
theorem d_PC_paint_12 : decode b_PC_paint 12 = .ok (.invokestatic 61, 3) := by decide +kernel
theorem d_PC_paint_15 : decode b_PC_paint 15 = .ok (.ifCond .eq 22, 3) := by decide +kernel
theorem d_PC_paint_18 : decode b_PC_paint 18 = .ok (.iload_n 3, 1) := by decide +kernel
theorem d_PC_paint_19 : decode b_PC_paint 19 = .ok (.invokestatic 61, 3) := by decide +kernel
theorem d_PC_paint_22 : decode b_PC_paint 22 = .ok (.ifCond .eq 15, 3) := by decide +kernel
theorem d_PC_paint_25 : decode b_PC_paint 25 = .ok (.iload 4, 2) := by decide +kernel
theorem d_PC_paint_27 : decode b_PC_paint 27 = .ok (.ifCond .lt 10, 3) := by decide +kernel
theorem d_PC_paint_30 : decode b_PC_paint 30 = .ok (.iload 4, 2) := by decide +kernel
theorem d_PC_paint_32 : decode b_PC_paint 32 = .ok (.ldc 64, 2) := by decide +kernel
theorem d_PC_paint_34 : decode b_PC_paint 34 = .ok (.if_icmp .le 5, 3) := by decide +kernel
theorem d_PC_paint_37 : decode b_PC_paint 37 = .ok (.iconst 0, 1) := by decide +kernel
theorem d_PC_paint_38 : decode b_PC_paint 38 = .ok (.ireturn, 1) := by decide +kernel
theorem d_PC_paint_39 : decode b_PC_paint 39 = .ok (.aload_n 0, 1) := by decide +kernel
theorem d_PC_paint_40 : decode b_PC_paint 40 = .ok (.getfield 26, 3) := by decide +kernel
theorem d_PC_paint_43 : decode b_PC_paint 43 = .ok (.iload_n 1, 1) := by decide +kernel
theorem d_PC_paint_44 : decode b_PC_paint 44 = .ok (.iconst 3, 1) := by decide +kernel
theorem d_PC_paint_45 : decode b_PC_paint 45 = .ok (.iload_n 2, 1) := by decide +kernel
theorem d_PC_paint_46 : decode b_PC_paint 46 = .ok (.i2l, 1) := by decide +kernel
theorem d_PC_paint_47 : decode b_PC_paint 47 = .ok (.invokevirtual 57, 3) := by decide +kernel
theorem d_PC_paint_50 : decode b_PC_paint 50 = .ok (.aload_n 0, 1) := by decide +kernel
theorem d_PC_paint_51 : decode b_PC_paint 51 = .ok (.getfield 26, 3) := by decide +kernel
theorem d_PC_paint_54 : decode b_PC_paint 54 = .ok (.iload_n 1, 1) := by decide +kernel
theorem d_PC_paint_55 : decode b_PC_paint 55 = .ok (.iconst 4, 1) := by decide +kernel
theorem d_PC_paint_56 : decode b_PC_paint 56 = .ok (.iload_n 3, 1) := by decide +kernel
theorem d_PC_paint_57 : decode b_PC_paint 57 = .ok (.i2l, 1) := by decide +kernel
theorem d_PC_paint_58 : decode b_PC_paint 58 = .ok (.invokevirtual 57, 3) := by decide +kernel
theorem d_PC_paint_61 : decode b_PC_paint 61 = .ok (.aload_n 0, 1) := by decide +kernel
theorem d_PC_paint_62 : decode b_PC_paint 62 = .ok (.getfield 26, 3) := by decide +kernel
theorem d_PC_paint_65 : decode b_PC_paint 65 = .ok (.iload_n 1, 1) := by decide +kernel
theorem d_PC_paint_66 : decode b_PC_paint 66 = .ok (.iconst 5, 1) := by decide +kernel
theorem d_PC_paint_67 : decode b_PC_paint 67 = .ok (.iload 4, 2) := by decide +kernel
theorem d_PC_paint_69 : decode b_PC_paint 69 = .ok (.i2l, 1) := by decide +kernel
theorem d_PC_paint_70 : decode b_PC_paint 70 = .ok (.invokevirtual 57, 3) := by decide +kernel
theorem d_PC_paint_73 : decode b_PC_paint 73 = .ok (.iconst 1, 1) := by decide +kernel
theorem d_PC_paint_74 : decode b_PC_paint 74 = .ok (.ireturn, 1) := by decide +kernel
theorem d_PC_cut_0 : decode b_PC_cut 0 = .ok (.aload_n 0, 1) := by decide +kernel
theorem d_PC_cut_1 : decode b_PC_cut 1 = .ok (.getfield 34, 3) := by decide +kernel
theorem d_PC_cut_4 : decode b_PC_cut 4 = .ok (.invokevirtual 65, 3) := by decide +kernel
theorem d_PC_cut_7 : decode b_PC_cut 7 = .ok (.iconst 0, 1) := by decide +kernel
theorem d_PC_cut_8 : decode b_PC_cut 8 = .ok (.istore_n 2, 1) := by decide +kernel
theorem d_PC_cut_9 : decode b_PC_cut 9 = .ok (.iload_n 2, 1) := by decide +kernel
theorem d_PC_cut_10 : decode b_PC_cut 10 = .ok (.iconst 3, 1) := by decide +kernel
theorem d_PC_cut_11 : decode b_PC_cut 11 = .ok (.if_icmp .ge 21, 3) := by decide +kernel
theorem d_PC_cut_14 : decode b_PC_cut 14 = .ok (.aload_n 0, 1) := by decide +kernel
theorem d_PC_cut_15 : decode b_PC_cut 15 = .ok (.getfield 34, 3) := by decide +kernel
theorem d_PC_cut_18 : decode b_PC_cut 18 = .ok (.aload_n 0, 1) := by decide +kernel
theorem d_PC_cut_19 : decode b_PC_cut 19 = .ok (.getfield 26, 3) := by decide +kernel
theorem d_PC_cut_22 : decode b_PC_cut 22 = .ok (.iload_n 2, 1) := by decide +kernel
theorem d_PC_cut_23 : decode b_PC_cut 23 = .ok (.invokevirtual 68, 3) := by decide +kernel
theorem d_PC_cut_26 : decode b_PC_cut 26 = .ok (.iinc 2 1, 3) := by decide +kernel
theorem d_PC_cut_29 : decode b_PC_cut 29 = .ok (.goto (-20), 3) := by decide +kernel
theorem d_PC_cut_32 : decode b_PC_cut 32 = .ok (.iconst 0, 1) := by decide +kernel
theorem d_PC_cut_33 : decode b_PC_cut 33 = .ok (.istore_n 2, 1) := by decide +kernel
theorem d_PC_cut_34 : decode b_PC_cut 34 = .ok (.iload_n 2, 1) := by decide +kernel
theorem d_PC_cut_35 : decode b_PC_cut 35 = .ok (.iconst 5, 1) := by decide +kernel
theorem d_PC_cut_36 : decode b_PC_cut 36 = .ok (.if_icmp .ge 14, 3) := by decide +kernel
theorem d_PC_cut_39 : decode b_PC_cut 39 = .ok (.aload_n 0, 1) := by decide +kernel
theorem d_PC_cut_40 : decode b_PC_cut 40 = .ok (.iload_n 2, 1) := by decide +kernel
theorem d_PC_cut_41 : decode b_PC_cut 41 = .ok (.invokevirtual 72, 3) := by decide +kernel
theorem d_PC_cut_44 : decode b_PC_cut 44 = .ok (.iinc 2 1, 3) := by decide +kernel
theorem d_PC_cut_47 : decode b_PC_cut 47 = .ok (.goto (-13), 3) := by decide +kernel
theorem d_PC_cut_50 : decode b_PC_cut 50 = .ok (.aload_n 0, 1) := by decide +kernel
theorem d_PC_cut_51 : decode b_PC_cut 51 = .ok (.invokevirtual 76, 3) := by decide +kernel
theorem d_PC_cut_54 : decode b_PC_cut 54 = .ok (.aload_n 0, 1) := by decide +kernel
theorem d_PC_cut_55 : decode b_PC_cut 55 = .ok (.iload_n 1, 1) := by decide +kernel
theorem d_PC_cut_56 : decode b_PC_cut 56 = .ok (.invokevirtual 79, 3) := by decide +kernel
theorem d_PC_cut_59 : decode b_PC_cut 59 = .ok (.aload_n 0, 1) := by decide +kernel
theorem d_PC_cut_60 : decode b_PC_cut 60 = .ok (.getfield 46, 3) := by decide +kernel
theorem d_PC_cut_63 : decode b_PC_cut 63 = .ok (.getfield 83, 3) := by decide +kernel
theorem d_PC_cut_66 : decode b_PC_cut 66 = .ok (.ireturn, 1) := by decide +kernel
theorem d_PC_piece_0 : decode b_PC_piece 0 = .ok (.aload_n 0, 1) := by decide +kernel
theorem d_PC_piece_1 : decode b_PC_piece 1 = .ok (.getfield 40, 3) := by decide +kernel
theorem d_PC_piece_4 : decode b_PC_piece 4 = .ok (.aload_n 0, 1) := by decide +kernel
theorem d_PC_piece_5 : decode b_PC_piece 5 = .ok (.getfield 46, 3) := by decide +kernel
theorem d_PC_piece_8 : decode b_PC_piece 8 = .ok (.iload_n 1, 1) := by decide +kernel
theorem d_PC_piece_9 : decode b_PC_piece 9 = .ok (.iload_n 2, 1) := by decide +kernel
theorem d_PC_piece_10 : decode b_PC_piece 10 = .ok (.invokevirtual 86, 3) := by decide +kernel
theorem d_PC_piece_13 : decode b_PC_piece 13 = .ok (.iload_n 3, 1) := by decide +kernel
theorem d_PC_piece_14 : decode b_PC_piece 14 = .ok (.invokevirtual 90, 3) := by decide +kernel
theorem d_PC_piece_17 : decode b_PC_piece 17 = .ok (.l2i, 1) := by decide +kernel
theorem d_PC_piece_18 : decode b_PC_piece 18 = .ok (.ireturn, 1) := by decide +kernel
theorem d_PC_area_0 : decode b_PC_area 0 = .ok (.aload_n 0, 1) := by decide +kernel
theorem d_PC_area_1 : decode b_PC_area 1 = .ok (.getfield 46, 3) := by decide +kernel
theorem d_PC_area_4 : decode b_PC_area 4 = .ok (.iload_n 1, 1) := by decide +kernel
theorem d_PC_area_5 : decode b_PC_area 5 = .ok (.invokevirtual 94, 3) := by decide +kernel
theorem d_PC_area_8 : decode b_PC_area 8 = .ok (.ifCond .eq 15, 3) := by decide +kernel
theorem d_PC_area_11 : decode b_PC_area 11 = .ok (.aload_n 0, 1) := by decide +kernel
theorem d_PC_area_12 : decode b_PC_area 12 = .ok (.getfield 46, 3) := by decide +kernel
theorem d_PC_area_15 : decode b_PC_area 15 = .ok (.getfield 95, 3) := by decide +kernel
theorem d_PC_area_18 : decode b_PC_area 18 = .ok (.iload_n 1, 1) := by decide +kernel
theorem d_PC_area_19 : decode b_PC_area 19 = .ok (.iaload, 1) := by decide +kernel
theorem d_PC_area_20 : decode b_PC_area 20 = .ok (.goto 4, 3) := by decide +kernel
theorem d_PC_area_23 : decode b_PC_area 23 = .ok (.iconst (-1), 1) := by decide +kernel
theorem d_PC_area_24 : decode b_PC_area 24 = .ok (.ireturn, 1) := by decide +kernel
theorem d_PC_first_0 : decode b_PC_first 0 = .ok (.iconst 0, 1) := by decide +kernel
theorem d_PC_first_1 : decode b_PC_first 1 = .ok (.istore_n 3, 1) := by decide +kernel
theorem d_PC_first_2 : decode b_PC_first 2 = .ok (.iload_n 3, 1) := by decide +kernel
theorem d_PC_first_3 : decode b_PC_first 3 = .ok (.aload_n 0, 1) := by decide +kernel
theorem d_PC_first_4 : decode b_PC_first 4 = .ok (.getfield 13, 3) := by decide +kernel
theorem d_PC_first_7 : decode b_PC_first 7 = .ok (.if_icmp .ge 21, 3) := by decide +kernel
theorem d_PC_first_10 : decode b_PC_first 10 = .ok (.aload_n 0, 1) := by decide +kernel
theorem d_PC_first_11 : decode b_PC_first 11 = .ok (.iload_n 1, 1) := by decide +kernel
theorem d_PC_first_12 : decode b_PC_first 12 = .ok (.iload_n 3, 1) := by decide +kernel
theorem d_PC_first_13 : decode b_PC_first 13 = .ok (.iload_n 2, 1) := by decide +kernel
theorem d_PC_first_14 : decode b_PC_first 14 = .ok (.invokevirtual 99, 3) := by decide +kernel
theorem d_PC_first_17 : decode b_PC_first 17 = .ok (.ifCond .eq 5, 3) := by decide +kernel
theorem d_PC_first_20 : decode b_PC_first 20 = .ok (.iload_n 3, 1) := by decide +kernel
theorem d_PC_first_21 : decode b_PC_first 21 = .ok (.ireturn, 1) := by decide +kernel
theorem d_PC_first_22 : decode b_PC_first 22 = .ok (.iinc 3 1, 3) := by decide +kernel
theorem d_PC_first_25 : decode b_PC_first 25 = .ok (.goto (-23), 3) := by decide +kernel
theorem d_PC_first_28 : decode b_PC_first 28 = .ok (.iconst (-1), 1) := by decide +kernel
theorem d_PC_first_29 : decode b_PC_first 29 = .ok (.ireturn, 1) := by decide +kernel
theorem d_PC_last_0 : decode b_PC_last 0 = .ok (.aload_n 0, 1) := by decide +kernel
theorem d_PC_last_1 : decode b_PC_last 1 = .ok (.getfield 13, 3) := by decide +kernel
theorem d_PC_last_4 : decode b_PC_last 4 = .ok (.iconst 1, 1) := by decide +kernel
theorem d_PC_last_5 : decode b_PC_last 5 = .ok (.isub, 1) := by decide +kernel
theorem d_PC_last_6 : decode b_PC_last 6 = .ok (.istore_n 3, 1) := by decide +kernel
theorem d_PC_last_7 : decode b_PC_last 7 = .ok (.iload_n 3, 1) := by decide +kernel
theorem d_PC_last_8 : decode b_PC_last 8 = .ok (.ifCond .lt 21, 3) := by decide +kernel
theorem d_PC_last_11 : decode b_PC_last 11 = .ok (.aload_n 0, 1) := by decide +kernel
theorem d_PC_last_12 : decode b_PC_last 12 = .ok (.iload_n 1, 1) := by decide +kernel
theorem d_PC_last_13 : decode b_PC_last 13 = .ok (.iload_n 3, 1) := by decide +kernel
theorem d_PC_last_14 : decode b_PC_last 14 = .ok (.iload_n 2, 1) := by decide +kernel
theorem d_PC_last_15 : decode b_PC_last 15 = .ok (.invokevirtual 99, 3) := by decide +kernel
theorem d_PC_last_18 : decode b_PC_last 18 = .ok (.ifCond .eq 5, 3) := by decide +kernel
theorem d_PC_last_21 : decode b_PC_last 21 = .ok (.iload_n 3, 1) := by decide +kernel
theorem d_PC_last_22 : decode b_PC_last 22 = .ok (.ireturn, 1) := by decide +kernel
theorem d_PC_last_23 : decode b_PC_last 23 = .ok (.iinc 3 (-1), 3) := by decide +kernel
theorem d_PC_last_26 : decode b_PC_last 26 = .ok (.goto (-19), 3) := by decide +kernel
theorem d_PC_last_29 : decode b_PC_last 29 = .ok (.iconst (-1), 1) := by decide +kernel
theorem d_PC_last_30 : decode b_PC_last 30 = .ok (.ireturn, 1) := by decide +kernel
theorem d_PC_near_0 : decode b_PC_near 0 = .ok (.aload_n 0, 1) := by decide +kernel
theorem d_PC_near_1 : decode b_PC_near 1 = .ok (.iload_n 1, 1) := by decide +kernel
theorem d_PC_near_2 : decode b_PC_near 2 = .ok (.iload_n 2, 1) := by decide +kernel
theorem d_PC_near_3 : decode b_PC_near 3 = .ok (.iload_n 3, 1) := by decide +kernel
theorem d_PC_near_4 : decode b_PC_near 4 = .ok (.invokevirtual 99, 3) := by decide +kernel
theorem d_PC_near_7 : decode b_PC_near 7 = .ok (.ifCond .ne 5, 3) := by decide +kernel
theorem d_PC_near_10 : decode b_PC_near 10 = .ok (.iconst (-1), 1) := by decide +kernel
theorem d_PC_near_11 : decode b_PC_near 11 = .ok (.ireturn, 1) := by decide +kernel
theorem d_PC_near_12 : decode b_PC_near 12 = .ok (.aload_n 0, 1) := by decide +kernel
theorem d_PC_near_13 : decode b_PC_near 13 = .ok (.iload_n 1, 1) := by decide +kernel
theorem d_PC_near_14 : decode b_PC_near 14 = .ok (.iload_n 2, 1) := by decide +kernel
theorem d_PC_near_15 : decode b_PC_near 15 = .ok (.iload_n 3, 1) := by decide +kernel
theorem d_PC_near_16 : decode b_PC_near 16 = .ok (.invokevirtual 103, 3) := by decide +kernel
theorem d_PC_near_19 : decode b_PC_near 19 = .ok (.aload_n 0, 1) := by decide +kernel
theorem d_PC_near_20 : decode b_PC_near 20 = .ok (.iload_n 1, 1) := by decide +kernel
theorem d_PC_near_21 : decode b_PC_near 21 = .ok (.invokevirtual 107, 3) := by decide +kernel
theorem d_PC_near_24 : decode b_PC_near 24 = .ok (.i2l, 1) := by decide +kernel
theorem d_PC_near_25 : decode b_PC_near 25 = .ok (.invokestatic 110, 3) := by decide +kernel
theorem d_PC_near_28 : decode b_PC_near 28 = .ok (.l2i, 1) := by decide +kernel
theorem d_PC_near_29 : decode b_PC_near 29 = .ok (.ireturn, 1) := by decide +kernel
theorem d_PC_number_0 : decode b_PC_number 0 = .ok (.iload 4, 2) := by decide +kernel
theorem d_PC_number_2 : decode b_PC_number 2 = .ok (.ifCond .lt 19, 3) := by decide +kernel
theorem d_PC_number_5 : decode b_PC_number 5 = .ok (.iload 4, 2) := by decide +kernel
theorem d_PC_number_7 : decode b_PC_number 7 = .ok (.iconst 3, 1) := by decide +kernel
theorem d_PC_number_8 : decode b_PC_number 8 = .ok (.if_icmp .ge 13, 3) := by decide +kernel
theorem d_PC_number_11 : decode b_PC_number 11 = .ok (.aload_n 0, 1) := by decide +kernel
theorem d_PC_number_12 : decode b_PC_number 12 = .ok (.iload_n 1, 1) := by decide +kernel
theorem d_PC_number_13 : decode b_PC_number 13 = .ok (.iload_n 2, 1) := by decide +kernel
theorem d_PC_number_14 : decode b_PC_number 14 = .ok (.iload_n 3, 1) := by decide +kernel
theorem d_PC_number_15 : decode b_PC_number 15 = .ok (.invokevirtual 99, 3) := by decide +kernel
theorem d_PC_number_18 : decode b_PC_number 18 = .ok (.ifCond .ne 5, 3) := by decide +kernel
theorem d_PC_number_21 : decode b_PC_number 21 = .ok (.iconst 0, 1) := by decide +kernel
theorem d_PC_number_22 : decode b_PC_number 22 = .ok (.ireturn, 1) := by decide +kernel
theorem d_PC_number_23 : decode b_PC_number 23 = .ok (.lconst 0, 1) := by decide +kernel
theorem d_PC_number_24 : decode b_PC_number 24 = .ok (.lstore 5, 2) := by decide +kernel
theorem d_PC_number_26 : decode b_PC_number 26 = .ok (.iconst 0, 1) := by decide +kernel
theorem d_PC_number_27 : decode b_PC_number 27 = .ok (.istore 7, 2) := by decide +kernel
theorem d_PC_number_29 : decode b_PC_number 29 = .ok (.iload 7, 2) := by decide +kernel
theorem d_PC_number_31 : decode b_PC_number 31 = .ok (.iconst 3, 1) := by decide +kernel
theorem d_PC_number_32 : decode b_PC_number 32 = .ok (.if_icmp .ge 45, 3) := by decide +kernel
theorem d_PC_number_35 : decode b_PC_number 35 = .ok (.lload 5, 2) := by decide +kernel
theorem d_PC_number_37 : decode b_PC_number 37 = .ok (.aload_n 0, 1) := by decide +kernel
theorem d_PC_number_38 : decode b_PC_number 38 = .ok (.iload_n 1, 1) := by decide +kernel
theorem d_PC_number_39 : decode b_PC_number 39 = .ok (.iload 7, 2) := by decide +kernel
theorem d_PC_number_41 : decode b_PC_number 41 = .ok (.iload_n 2, 1) := by decide +kernel
theorem d_PC_number_42 : decode b_PC_number 42 = .ok (.iload_n 3, 1) := by decide +kernel
theorem d_PC_number_43 : decode b_PC_number 43 = .ok (.invokevirtual 114, 3) := by decide +kernel
theorem d_PC_number_46 : decode b_PC_number 46 = .ok (.aload_n 0, 1) := by decide +kernel
theorem d_PC_number_47 : decode b_PC_number 47 = .ok (.getfield 40, 3) := by decide +kernel
theorem d_PC_number_50 : decode b_PC_number 50 = .ok (.aload_n 0, 1) := by decide +kernel
theorem d_PC_number_51 : decode b_PC_number 51 = .ok (.getfield 46, 3) := by decide +kernel
theorem d_PC_number_54 : decode b_PC_number 54 = .ok (.iload_n 1, 1) := by decide +kernel
theorem d_PC_number_55 : decode b_PC_number 55 = .ok (.iload 7, 2) := by decide +kernel
theorem d_PC_number_57 : decode b_PC_number 57 = .ok (.invokevirtual 86, 3) := by decide +kernel
theorem d_PC_number_60 : decode b_PC_number 60 = .ok (.iconst 3, 1) := by decide +kernel
theorem d_PC_number_61 : decode b_PC_number 61 = .ok (.iload 4, 2) := by decide +kernel
theorem d_PC_number_63 : decode b_PC_number 63 = .ok (.iadd, 1) := by decide +kernel
theorem d_PC_number_64 : decode b_PC_number 64 = .ok (.invokevirtual 90, 3) := by decide +kernel
theorem d_PC_number_67 : decode b_PC_number 67 = .ok (.lmul, 1) := by decide +kernel
theorem d_PC_number_68 : decode b_PC_number 68 = .ok (.ladd, 1) := by decide +kernel
theorem d_PC_number_69 : decode b_PC_number 69 = .ok (.lstore 5, 2) := by decide +kernel
theorem d_PC_number_71 : decode b_PC_number 71 = .ok (.iinc 7 1, 3) := by decide +kernel
theorem d_PC_number_74 : decode b_PC_number 74 = .ok (.goto (-45), 3) := by decide +kernel
theorem d_PC_number_77 : decode b_PC_number 77 = .ok (.lload 5, 2) := by decide +kernel
theorem d_PC_number_79 : decode b_PC_number 79 = .ok (.aload_n 0, 1) := by decide +kernel
theorem d_PC_number_80 : decode b_PC_number 80 = .ok (.iload_n 1, 1) := by decide +kernel
theorem d_PC_number_81 : decode b_PC_number 81 = .ok (.iload_n 2, 1) := by decide +kernel
theorem d_PC_number_82 : decode b_PC_number 82 = .ok (.iload_n 3, 1) := by decide +kernel
theorem d_PC_number_83 : decode b_PC_number 83 = .ok (.invokevirtual 103, 3) := by decide +kernel
theorem d_PC_number_86 : decode b_PC_number 86 = .ok (.invokestatic 110, 3) := by decide +kernel
theorem d_PC_number_89 : decode b_PC_number 89 = .ok (.l2i, 1) := by decide +kernel
theorem d_PC_number_90 : decode b_PC_number 90 = .ok (.ireturn, 1) := by decide +kernel
theorem d_PC_covered_0 : decode b_PC_covered 0 = .ok (.aload_n 0, 1) := by decide +kernel
theorem d_PC_covered_1 : decode b_PC_covered 1 = .ok (.iload_n 1, 1) := by decide +kernel
theorem d_PC_covered_2 : decode b_PC_covered 2 = .ok (.iload_n 2, 1) := by decide +kernel
theorem d_PC_covered_3 : decode b_PC_covered 3 = .ok (.invokevirtual 118, 3) := by decide +kernel
theorem d_PC_covered_6 : decode b_PC_covered 6 = .ok (.ifCond .ne 5, 3) := by decide +kernel
theorem d_PC_covered_9 : decode b_PC_covered 9 = .ok (.iconst (-1), 1) := by decide +kernel
theorem d_PC_covered_10 : decode b_PC_covered 10 = .ok (.ireturn, 1) := by decide +kernel
theorem d_PC_covered_11 : decode b_PC_covered 11 = .ok (.iconst 0, 1) := by decide +kernel
theorem d_PC_covered_12 : decode b_PC_covered 12 = .ok (.istore_n 3, 1) := by decide +kernel
theorem d_PC_covered_13 : decode b_PC_covered 13 = .ok (.iconst 0, 1) := by decide +kernel
theorem d_PC_covered_14 : decode b_PC_covered 14 = .ok (.istore 4, 2) := by decide +kernel
theorem d_PC_covered_16 : decode b_PC_covered 16 = .ok (.iload 4, 2) := by decide +kernel
theorem d_PC_covered_18 : decode b_PC_covered 18 = .ok (.aload_n 0, 1) := by decide +kernel
theorem d_PC_covered_19 : decode b_PC_covered 19 = .ok (.getfield 46, 3) := by decide +kernel
theorem d_PC_covered_22 : decode b_PC_covered 22 = .ok (.getfield 83, 3) := by decide +kernel
theorem d_PC_covered_25 : decode b_PC_covered 25 = .ok (.if_icmp .ge 23, 3) := by decide +kernel
theorem d_PC_covered_28 : decode b_PC_covered 28 = .ok (.aload_n 0, 1) := by decide +kernel
theorem d_PC_covered_29 : decode b_PC_covered 29 = .ok (.iload 4, 2) := by decide +kernel
theorem d_PC_covered_31 : decode b_PC_covered 31 = .ok (.iload_n 1, 1) := by decide +kernel
theorem d_PC_covered_32 : decode b_PC_covered 32 = .ok (.iload_n 2, 1) := by decide +kernel
theorem d_PC_covered_33 : decode b_PC_covered 33 = .ok (.invokevirtual 99, 3) := by decide +kernel
theorem d_PC_covered_36 : decode b_PC_covered 36 = .ok (.ifCond .eq 6, 3) := by decide +kernel
theorem d_PC_covered_39 : decode b_PC_covered 39 = .ok (.iinc 3 1, 3) := by decide +kernel
theorem d_PC_covered_42 : decode b_PC_covered 42 = .ok (.iinc 4 1, 3) := by decide +kernel
theorem d_PC_covered_45 : decode b_PC_covered 45 = .ok (.goto (-29), 3) := by decide +kernel
theorem d_PC_covered_48 : decode b_PC_covered 48 = .ok (.iload_n 3, 1) := by decide +kernel
theorem d_PC_covered_49 : decode b_PC_covered 49 = .ok (.ireturn, 1) := by decide +kernel
theorem d_PC_pictureSize_0 : decode b_PC_pictureSize 0 = .ok (.bipush 8, 2) := by decide +kernel
theorem d_PC_pictureSize_2 : decode b_PC_pictureSize 2 = .ok (.bipush 48, 2) := by decide +kernel
theorem d_PC_pictureSize_4 : decode b_PC_pictureSize 4 = .ok (.iload_n 0, 1) := by decide +kernel
theorem d_PC_pictureSize_5 : decode b_PC_pictureSize 5 = .ok (.invokestatic 122, 3) := by decide +kernel
theorem d_PC_pictureSize_8 : decode b_PC_pictureSize 8 = .ok (.invokestatic 127, 3) := by decide +kernel
theorem d_PC_pictureSize_11 : decode b_PC_pictureSize 11 = .ok (.ireturn, 1) := by decide +kernel
theorem d_PC_isPlace_0 : decode b_PC_isPlace 0 = .ok (.iload_n 0, 1) := by decide +kernel
theorem d_PC_isPlace_1 : decode b_PC_isPlace 1 = .ok (.ldc 130, 2) := by decide +kernel
theorem d_PC_isPlace_3 : decode b_PC_isPlace 3 = .ok (.if_icmp .lt 13, 3) := by decide +kernel
theorem d_PC_isPlace_6 : decode b_PC_isPlace 6 = .ok (.iload_n 0, 1) := by decide +kernel
theorem d_PC_isPlace_7 : decode b_PC_isPlace 7 = .ok (.ldc 131, 2) := by decide +kernel
theorem d_PC_isPlace_9 : decode b_PC_isPlace 9 = .ok (.if_icmp .gt 7, 3) := by decide +kernel
theorem d_PC_isPlace_12 : decode b_PC_isPlace 12 = .ok (.iconst 1, 1) := by decide +kernel
theorem d_PC_isPlace_13 : decode b_PC_isPlace 13 = .ok (.goto 4, 3) := by decide +kernel
theorem d_PC_isPlace_16 : decode b_PC_isPlace 16 = .ok (.iconst 0, 1) := by decide +kernel
theorem d_PC_isPlace_17 : decode b_PC_isPlace 17 = .ok (.ireturn, 1) := by decide +kernel
theorem d_PC_isPaint_0 : decode b_PC_isPaint 0 = .ok (.iload_n 0, 1) := by decide +kernel
theorem d_PC_isPaint_1 : decode b_PC_isPaint 1 = .ok (.ldc 132, 2) := by decide +kernel
theorem d_PC_isPaint_3 : decode b_PC_isPaint 3 = .ok (.if_icmp .lt 13, 3) := by decide +kernel
theorem d_PC_isPaint_6 : decode b_PC_isPaint 6 = .ok (.iload_n 0, 1) := by decide +kernel
theorem d_PC_isPaint_7 : decode b_PC_isPaint 7 = .ok (.ldc 133, 2) := by decide +kernel
theorem d_PC_isPaint_9 : decode b_PC_isPaint 9 = .ok (.if_icmp .gt 7, 3) := by decide +kernel
theorem d_PC_isPaint_12 : decode b_PC_isPaint 12 = .ok (.iconst 1, 1) := by decide +kernel
theorem d_PC_isPaint_13 : decode b_PC_isPaint 13 = .ok (.goto 4, 3) := by decide +kernel
theorem d_PC_isPaint_16 : decode b_PC_isPaint 16 = .ok (.iconst 0, 1) := by decide +kernel
theorem d_PC_isPaint_17 : decode b_PC_isPaint 17 = .ok (.ireturn, 1) := by decide +kernel
theorem d_PC_isPixel_0 : decode b_PC_isPixel 0 = .ok (.iload_n 1, 1) := by decide +kernel
theorem d_PC_isPixel_1 : decode b_PC_isPixel 1 = .ok (.ifCond .lt 27, 3) := by decide +kernel
theorem d_PC_isPixel_4 : decode b_PC_isPixel 4 = .ok (.iload_n 1, 1) := by decide +kernel
theorem d_PC_isPixel_5 : decode b_PC_isPixel 5 = .ok (.aload_n 0, 1) := by decide +kernel
theorem d_PC_isPixel_6 : decode b_PC_isPixel 6 = .ok (.getfield 13, 3) := by decide +kernel
theorem d_PC_isPixel_9 : decode b_PC_isPixel 9 = .ok (.if_icmp .ge 19, 3) := by decide +kernel
theorem d_PC_isPixel_12 : decode b_PC_isPixel 12 = .ok (.iload_n 2, 1) := by decide +kernel
theorem d_PC_isPixel_13 : decode b_PC_isPixel 13 = .ok (.ifCond .lt 15, 3) := by decide +kernel
theorem d_PC_isPixel_16 : decode b_PC_isPixel 16 = .ok (.iload_n 2, 1) := by decide +kernel
theorem d_PC_isPixel_17 : decode b_PC_isPixel 17 = .ok (.aload_n 0, 1) := by decide +kernel
theorem d_PC_isPixel_18 : decode b_PC_isPixel 18 = .ok (.getfield 17, 3) := by decide +kernel
theorem d_PC_isPixel_21 : decode b_PC_isPixel 21 = .ok (.if_icmp .ge 7, 3) := by decide +kernel
theorem d_PC_isPixel_24 : decode b_PC_isPixel 24 = .ok (.iconst 1, 1) := by decide +kernel
theorem d_PC_isPixel_25 : decode b_PC_isPixel 25 = .ok (.goto 4, 3) := by decide +kernel
theorem d_PC_isPixel_28 : decode b_PC_isPixel 28 = .ok (.iconst 0, 1) := by decide +kernel
theorem d_PC_isPixel_29 : decode b_PC_isPixel 29 = .ok (.ireturn, 1) := by decide +kernel
theorem d_PC_div_0 : decode b_PC_div 0 = .ok (.lload_n 2, 1) := by decide +kernel
theorem d_PC_div_1 : decode b_PC_div 1 = .ok (.lconst 0, 1) := by decide +kernel
theorem d_PC_div_2 : decode b_PC_div 2 = .ok (.lcmp, 1) := by decide +kernel
theorem d_PC_div_3 : decode b_PC_div 3 = .ok (.ifCond .ne 7, 3) := by decide +kernel
theorem d_PC_div_6 : decode b_PC_div 6 = .ok (.lconst 0, 1) := by decide +kernel
theorem d_PC_div_7 : decode b_PC_div 7 = .ok (.goto 8, 3) := by decide +kernel
theorem d_PC_div_10 : decode b_PC_div 10 = .ok (.lload_n 0, 1) := by decide +kernel
theorem d_PC_div_11 : decode b_PC_div 11 = .ok (.lload_n 2, 1) := by decide +kernel
theorem d_PC_div_12 : decode b_PC_div 12 = .ok (.invokestatic 134, 3) := by decide +kernel
theorem d_PC_div_15 : decode b_PC_div 15 = .ok (.lreturn, 1) := by decide +kernel
theorem d_PC_cutBySide_0 : decode b_PC_cutBySide 0 = .ok (.aload_n 0, 1) := by decide +kernel
theorem d_PC_cutBySide_1 : decode b_PC_cutBySide 1 = .ok (.getfield 37, 3) := by decide +kernel
theorem d_PC_cutBySide_4 : decode b_PC_cutBySide 4 = .ok (.invokevirtual 65, 3) := by decide +kernel
theorem d_PC_cutBySide_7 : decode b_PC_cutBySide 7 = .ok (.iconst 0, 1) := by decide +kernel
theorem d_PC_cutBySide_8 : decode b_PC_cutBySide 8 = .ok (.istore_n 2, 1) := by decide +kernel
theorem d_PC_cutBySide_9 : decode b_PC_cutBySide 9 = .ok (.iload_n 2, 1) := by decide +kernel
theorem d_PC_cutBySide_10 : decode b_PC_cutBySide 10 = .ok (.aload_n 0, 1) := by decide +kernel
theorem d_PC_cutBySide_11 : decode b_PC_cutBySide 11 = .ok (.getfield 34, 3) := by decide +kernel
theorem d_PC_cutBySide_14 : decode b_PC_cutBySide 14 = .ok (.getfield 137, 3) := by decide +kernel
theorem d_PC_cutBySide_17 : decode b_PC_cutBySide 17 = .ok (.if_icmp .ge 120, 3) := by decide +kernel
theorem d_PC_cutBySide_20 : decode b_PC_cutBySide 20 = .ok (.iload_n 2, 1) := by decide +kernel
theorem d_PC_cutBySide_21 : decode b_PC_cutBySide 21 = .ok (.iconst 1, 1) := by decide +kernel
theorem d_PC_cutBySide_22 : decode b_PC_cutBySide 22 = .ok (.iadd, 1) := by decide +kernel
theorem d_PC_cutBySide_23 : decode b_PC_cutBySide 23 = .ok (.aload_n 0, 1) := by decide +kernel
theorem d_PC_cutBySide_24 : decode b_PC_cutBySide 24 = .ok (.getfield 34, 3) := by decide +kernel
theorem d_PC_cutBySide_27 : decode b_PC_cutBySide 27 = .ok (.getfield 137, 3) := by decide +kernel
theorem d_PC_cutBySide_30 : decode b_PC_cutBySide 30 = .ok (.if_icmp .ge 9, 3) := by decide +kernel
theorem d_PC_cutBySide_33 : decode b_PC_cutBySide 33 = .ok (.iload_n 2, 1) := by decide +kernel
theorem d_PC_cutBySide_34 : decode b_PC_cutBySide 34 = .ok (.iconst 1, 1) := by decide +kernel
theorem d_PC_cutBySide_35 : decode b_PC_cutBySide 35 = .ok (.iadd, 1) := by decide +kernel
theorem d_PC_cutBySide_36 : decode b_PC_cutBySide 36 = .ok (.goto 4, 3) := by decide +kernel
theorem d_PC_cutBySide_39 : decode b_PC_cutBySide 39 = .ok (.iconst 0, 1) := by decide +kernel
theorem d_PC_cutBySide_40 : decode b_PC_cutBySide 40 = .ok (.istore_n 3, 1) := by decide +kernel
theorem d_PC_cutBySide_41 : decode b_PC_cutBySide 41 = .ok (.aload_n 0, 1) := by decide +kernel
theorem d_PC_cutBySide_42 : decode b_PC_cutBySide 42 = .ok (.iload_n 2, 1) := by decide +kernel
theorem d_PC_cutBySide_43 : decode b_PC_cutBySide 43 = .ok (.iload_n 1, 1) := by decide +kernel
theorem d_PC_cutBySide_44 : decode b_PC_cutBySide 44 = .ok (.invokevirtual 138, 3) := by decide +kernel
theorem d_PC_cutBySide_47 : decode b_PC_cutBySide 47 = .ok (.lconst 0, 1) := by decide +kernel
theorem d_PC_cutBySide_48 : decode b_PC_cutBySide 48 = .ok (.lcmp, 1) := by decide +kernel
theorem d_PC_cutBySide_49 : decode b_PC_cutBySide 49 = .ok (.ifCond .lt 7, 3) := by decide +kernel
theorem d_PC_cutBySide_52 : decode b_PC_cutBySide 52 = .ok (.iconst 1, 1) := by decide +kernel
theorem d_PC_cutBySide_53 : decode b_PC_cutBySide 53 = .ok (.goto 4, 3) := by decide +kernel
theorem d_PC_cutBySide_56 : decode b_PC_cutBySide 56 = .ok (.iconst 0, 1) := by decide +kernel
theorem d_PC_cutBySide_57 : decode b_PC_cutBySide 57 = .ok (.istore 4, 2) := by decide +kernel
theorem d_PC_cutBySide_59 : decode b_PC_cutBySide 59 = .ok (.aload_n 0, 1) := by decide +kernel
theorem d_PC_cutBySide_60 : decode b_PC_cutBySide 60 = .ok (.iload_n 3, 1) := by decide +kernel
theorem d_PC_cutBySide_61 : decode b_PC_cutBySide 61 = .ok (.iload_n 1, 1) := by decide +kernel
theorem d_PC_cutBySide_62 : decode b_PC_cutBySide 62 = .ok (.invokevirtual 138, 3) := by decide +kernel
theorem d_PC_cutBySide_65 : decode b_PC_cutBySide 65 = .ok (.lconst 0, 1) := by decide +kernel
theorem d_PC_cutBySide_66 : decode b_PC_cutBySide 66 = .ok (.lcmp, 1) := by decide +kernel
theorem d_PC_cutBySide_67 : decode b_PC_cutBySide 67 = .ok (.ifCond .lt 7, 3) := by decide +kernel
theorem d_PC_cutBySide_70 : decode b_PC_cutBySide 70 = .ok (.iconst 1, 1) := by decide +kernel
theorem d_PC_cutBySide_71 : decode b_PC_cutBySide 71 = .ok (.goto 4, 3) := by decide +kernel
theorem d_PC_cutBySide_74 : decode b_PC_cutBySide 74 = .ok (.iconst 0, 1) := by decide +kernel
theorem d_PC_cutBySide_75 : decode b_PC_cutBySide 75 = .ok (.istore 5, 2) := by decide +kernel
theorem d_PC_cutBySide_77 : decode b_PC_cutBySide 77 = .ok (.iload 4, 2) := by decide +kernel
theorem d_PC_cutBySide_79 : decode b_PC_cutBySide 79 = .ok (.ifCond .eq 15, 3) := by decide +kernel
theorem d_PC_cutBySide_82 : decode b_PC_cutBySide 82 = .ok (.aload_n 0, 1) := by decide +kernel
theorem d_PC_cutBySide_83 : decode b_PC_cutBySide 83 = .ok (.getfield 37, 3) := by decide +kernel
theorem d_PC_cutBySide_86 : decode b_PC_cutBySide 86 = .ok (.aload_n 0, 1) := by decide +kernel
theorem d_PC_cutBySide_87 : decode b_PC_cutBySide 87 = .ok (.getfield 34, 3) := by decide +kernel
theorem d_PC_cutBySide_90 : decode b_PC_cutBySide 90 = .ok (.iload_n 2, 1) := by decide +kernel
theorem d_PC_cutBySide_91 : decode b_PC_cutBySide 91 = .ok (.invokevirtual 68, 3) := by decide +kernel
theorem d_PC_cutBySide_94 : decode b_PC_cutBySide 94 = .ok (.iload 4, 2) := by decide +kernel
theorem d_PC_cutBySide_96 : decode b_PC_cutBySide 96 = .ok (.ifCond .eq 18, 3) := by decide +kernel
theorem d_PC_cutBySide_99 : decode b_PC_cutBySide 99 = .ok (.iload 5, 2) := by decide +kernel
theorem d_PC_cutBySide_101 : decode b_PC_cutBySide 101 = .ok (.ifCond .ne 13, 3) := by decide +kernel
theorem d_PC_cutBySide_104 : decode b_PC_cutBySide 104 = .ok (.aload_n 0, 1) := by decide +kernel
theorem d_PC_cutBySide_105 : decode b_PC_cutBySide 105 = .ok (.iload_n 2, 1) := by decide +kernel
theorem d_PC_cutBySide_106 : decode b_PC_cutBySide 106 = .ok (.iload_n 3, 1) := by decide +kernel
theorem d_PC_cutBySide_107 : decode b_PC_cutBySide 107 = .ok (.iload_n 1, 1) := by decide +kernel
theorem d_PC_cutBySide_108 : decode b_PC_cutBySide 108 = .ok (.invokevirtual 141, 3) := by decide +kernel
theorem d_PC_cutBySide_111 : decode b_PC_cutBySide 111 = .ok (.goto 20, 3) := by decide +kernel
theorem d_PC_cutBySide_114 : decode b_PC_cutBySide 114 = .ok (.iload 4, 2) := by decide +kernel
theorem d_PC_cutBySide_116 : decode b_PC_cutBySide 116 = .ok (.ifCond .ne 15, 3) := by decide +kernel
theorem d_PC_cutBySide_119 : decode b_PC_cutBySide 119 = .ok (.iload 5, 2) := by decide +kernel
theorem d_PC_cutBySide_121 : decode b_PC_cutBySide 121 = .ok (.ifCond .eq 10, 3) := by decide +kernel
theorem d_PC_cutBySide_124 : decode b_PC_cutBySide 124 = .ok (.aload_n 0, 1) := by decide +kernel
theorem d_PC_cutBySide_125 : decode b_PC_cutBySide 125 = .ok (.iload_n 3, 1) := by decide +kernel
theorem d_PC_cutBySide_126 : decode b_PC_cutBySide 126 = .ok (.iload_n 2, 1) := by decide +kernel
theorem d_PC_cutBySide_127 : decode b_PC_cutBySide 127 = .ok (.iload_n 1, 1) := by decide +kernel
theorem d_PC_cutBySide_128 : decode b_PC_cutBySide 128 = .ok (.invokevirtual 141, 3) := by decide +kernel
theorem d_PC_cutBySide_131 : decode b_PC_cutBySide 131 = .ok (.iinc 2 1, 3) := by decide +kernel
theorem d_PC_cutBySide_134 : decode b_PC_cutBySide 134 = .ok (.goto (-125), 3) := by decide +kernel
theorem d_PC_cutBySide_137 : decode b_PC_cutBySide 137 = .ok (.aload_n 0, 1) := by decide +kernel
theorem d_PC_cutBySide_138 : decode b_PC_cutBySide 138 = .ok (.getfield 37, 3) := by decide +kernel
theorem d_PC_cutBySide_141 : decode b_PC_cutBySide 141 = .ok (.astore_n 2, 1) := by decide +kernel
theorem d_PC_cutBySide_142 : decode b_PC_cutBySide 142 = .ok (.aload_n 0, 1) := by decide +kernel
theorem d_PC_cutBySide_143 : decode b_PC_cutBySide 143 = .ok (.aload_n 0, 1) := by decide +kernel
theorem d_PC_cutBySide_144 : decode b_PC_cutBySide 144 = .ok (.getfield 34, 3) := by decide +kernel
theorem d_PC_cutBySide_147 : decode b_PC_cutBySide 147 = .ok (.putfield 37, 3) := by decide +kernel
theorem d_PC_cutBySide_150 : decode b_PC_cutBySide 150 = .ok (.aload_n 0, 1) := by decide +kernel
theorem d_PC_cutBySide_151 : decode b_PC_cutBySide 151 = .ok (.aload_n 2, 1) := by decide +kernel
theorem d_PC_cutBySide_152 : decode b_PC_cutBySide 152 = .ok (.putfield 34, 3) := by decide +kernel
theorem d_PC_cutBySide_155 : decode b_PC_cutBySide 155 = .ok (.return_, 1) := by decide +kernel
theorem d_PC_sideNumber_0 : decode b_PC_sideNumber 0 = .ok (.aload_n 0, 1) := by decide +kernel
theorem d_PC_sideNumber_1 : decode b_PC_sideNumber 1 = .ok (.getfield 20, 3) := by decide +kernel
theorem d_PC_sideNumber_4 : decode b_PC_sideNumber 4 = .ok (.i2l, 1) := by decide +kernel
theorem d_PC_sideNumber_5 : decode b_PC_sideNumber 5 = .ok (.aload_n 0, 1) := by decide +kernel
theorem d_PC_sideNumber_6 : decode b_PC_sideNumber 6 = .ok (.getfield 34, 3) := by decide +kernel
theorem d_PC_sideNumber_9 : decode b_PC_sideNumber 9 = .ok (.iload_n 1, 1) := by decide +kernel
theorem d_PC_sideNumber_10 : decode b_PC_sideNumber 10 = .ok (.iconst 0, 1) := by decide +kernel
theorem d_PC_sideNumber_11 : decode b_PC_sideNumber 11 = .ok (.invokevirtual 90, 3) := by decide +kernel
theorem d_PC_sideNumber_14 : decode b_PC_sideNumber 14 = .ok (.lmul, 1) := by decide +kernel
theorem d_PC_sideNumber_15 : decode b_PC_sideNumber 15 = .ok (.lstore_n 3, 1) := by decide +kernel
theorem d_PC_sideNumber_16 : decode b_PC_sideNumber 16 = .ok (.aload_n 0, 1) := by decide +kernel
theorem d_PC_sideNumber_17 : decode b_PC_sideNumber 17 = .ok (.getfield 20, 3) := by decide +kernel
theorem d_PC_sideNumber_20 : decode b_PC_sideNumber 20 = .ok (.i2l, 1) := by decide +kernel
theorem d_PC_sideNumber_21 : decode b_PC_sideNumber 21 = .ok (.aload_n 0, 1) := by decide +kernel
theorem d_PC_sideNumber_22 : decode b_PC_sideNumber 22 = .ok (.getfield 34, 3) := by decide +kernel
theorem d_PC_sideNumber_25 : decode b_PC_sideNumber 25 = .ok (.iload_n 1, 1) := by decide +kernel
theorem d_PC_sideNumber_26 : decode b_PC_sideNumber 26 = .ok (.iconst 1, 1) := by decide +kernel
theorem d_PC_sideNumber_27 : decode b_PC_sideNumber 27 = .ok (.invokevirtual 90, 3) := by decide +kernel
theorem d_PC_sideNumber_30 : decode b_PC_sideNumber 30 = .ok (.lmul, 1) := by decide +kernel
theorem d_PC_sideNumber_31 : decode b_PC_sideNumber 31 = .ok (.lstore 5, 2) := by decide +kernel
theorem d_PC_sideNumber_33 : decode b_PC_sideNumber 33 = .ok (.aload_n 0, 1) := by decide +kernel
theorem d_PC_sideNumber_34 : decode b_PC_sideNumber 34 = .ok (.getfield 34, 3) := by decide +kernel
theorem d_PC_sideNumber_37 : decode b_PC_sideNumber 37 = .ok (.iload_n 1, 1) := by decide +kernel
theorem d_PC_sideNumber_38 : decode b_PC_sideNumber 38 = .ok (.iconst 2, 1) := by decide +kernel
theorem d_PC_sideNumber_39 : decode b_PC_sideNumber 39 = .ok (.invokevirtual 90, 3) := by decide +kernel
theorem d_PC_sideNumber_42 : decode b_PC_sideNumber 42 = .ok (.lstore 7, 2) := by decide +kernel
theorem d_PC_sideNumber_44 : decode b_PC_sideNumber 44 = .ok (.iload_n 2, 1) := by decide +kernel
theorem d_PC_sideNumber_45 : decode b_PC_sideNumber 45 = .ok (.tableswitch 72 0 3 #[31, 38, 49, 60], 31) := by decide +kernel
theorem d_PC_sideNumber_76 : decode b_PC_sideNumber 76 = .ok (.lload 7, 2) := by decide +kernel
theorem d_PC_sideNumber_78 : decode b_PC_sideNumber 78 = .ok (.ldc2_w 145, 3) := by decide +kernel
theorem d_PC_sideNumber_81 : decode b_PC_sideNumber 81 = .ok (.lsub, 1) := by decide +kernel
theorem d_PC_sideNumber_82 : decode b_PC_sideNumber 82 = .ok (.lreturn, 1) := by decide +kernel
theorem d_PC_sideNumber_83 : decode b_PC_sideNumber 83 = .ok (.lload_n 3, 1) := by decide +kernel
theorem d_PC_sideNumber_84 : decode b_PC_sideNumber 84 = .ok (.aload_n 0, 1) := by decide +kernel
theorem d_PC_sideNumber_85 : decode b_PC_sideNumber 85 = .ok (.getfield 13, 3) := by decide +kernel
theorem d_PC_sideNumber_88 : decode b_PC_sideNumber 88 = .ok (.i2l, 1) := by decide +kernel
theorem d_PC_sideNumber_89 : decode b_PC_sideNumber 89 = .ok (.lload 7, 2) := by decide +kernel
theorem d_PC_sideNumber_91 : decode b_PC_sideNumber 91 = .ok (.lmul, 1) := by decide +kernel
theorem d_PC_sideNumber_92 : decode b_PC_sideNumber 92 = .ok (.ladd, 1) := by decide +kernel
theorem d_PC_sideNumber_93 : decode b_PC_sideNumber 93 = .ok (.lreturn, 1) := by decide +kernel
theorem d_PC_sideNumber_94 : decode b_PC_sideNumber 94 = .ok (.aload_n 0, 1) := by decide +kernel
theorem d_PC_sideNumber_95 : decode b_PC_sideNumber 95 = .ok (.getfield 13, 3) := by decide +kernel
theorem d_PC_sideNumber_98 : decode b_PC_sideNumber 98 = .ok (.i2l, 1) := by decide +kernel
theorem d_PC_sideNumber_99 : decode b_PC_sideNumber 99 = .ok (.lload 7, 2) := by decide +kernel
theorem d_PC_sideNumber_101 : decode b_PC_sideNumber 101 = .ok (.lmul, 1) := by decide +kernel
theorem d_PC_sideNumber_102 : decode b_PC_sideNumber 102 = .ok (.lload_n 3, 1) := by decide +kernel
theorem d_PC_sideNumber_103 : decode b_PC_sideNumber 103 = .ok (.lsub, 1) := by decide +kernel
theorem d_PC_sideNumber_104 : decode b_PC_sideNumber 104 = .ok (.lreturn, 1) := by decide +kernel
theorem d_PC_sideNumber_105 : decode b_PC_sideNumber 105 = .ok (.lload 5, 2) := by decide +kernel
theorem d_PC_sideNumber_107 : decode b_PC_sideNumber 107 = .ok (.aload_n 0, 1) := by decide +kernel
theorem d_PC_sideNumber_108 : decode b_PC_sideNumber 108 = .ok (.getfield 17, 3) := by decide +kernel
theorem d_PC_sideNumber_111 : decode b_PC_sideNumber 111 = .ok (.i2l, 1) := by decide +kernel
theorem d_PC_sideNumber_112 : decode b_PC_sideNumber 112 = .ok (.lload 7, 2) := by decide +kernel
theorem d_PC_sideNumber_114 : decode b_PC_sideNumber 114 = .ok (.lmul, 1) := by decide +kernel
theorem d_PC_sideNumber_115 : decode b_PC_sideNumber 115 = .ok (.ladd, 1) := by decide +kernel
theorem d_PC_sideNumber_116 : decode b_PC_sideNumber 116 = .ok (.lreturn, 1) := by decide +kernel
theorem d_PC_sideNumber_117 : decode b_PC_sideNumber 117 = .ok (.aload_n 0, 1) := by decide +kernel
theorem d_PC_sideNumber_118 : decode b_PC_sideNumber 118 = .ok (.getfield 17, 3) := by decide +kernel
theorem d_PC_sideNumber_121 : decode b_PC_sideNumber 121 = .ok (.i2l, 1) := by decide +kernel
theorem d_PC_sideNumber_122 : decode b_PC_sideNumber 122 = .ok (.lload 7, 2) := by decide +kernel
theorem d_PC_sideNumber_124 : decode b_PC_sideNumber 124 = .ok (.lmul, 1) := by decide +kernel
theorem d_PC_sideNumber_125 : decode b_PC_sideNumber 125 = .ok (.lload 5, 2) := by decide +kernel
theorem d_PC_sideNumber_127 : decode b_PC_sideNumber 127 = .ok (.lsub, 1) := by decide +kernel
theorem d_PC_sideNumber_128 : decode b_PC_sideNumber 128 = .ok (.lreturn, 1) := by decide +kernel
theorem d_PC_addBetween_0 : decode b_PC_addBetween 0 = .ok (.aload_n 0, 1) := by decide +kernel
theorem d_PC_addBetween_1 : decode b_PC_addBetween 1 = .ok (.iload_n 1, 1) := by decide +kernel
theorem d_PC_addBetween_2 : decode b_PC_addBetween 2 = .ok (.iload_n 3, 1) := by decide +kernel
theorem d_PC_addBetween_3 : decode b_PC_addBetween 3 = .ok (.invokevirtual 138, 3) := by decide +kernel
theorem d_PC_addBetween_6 : decode b_PC_addBetween 6 = .ok (.lstore 4, 2) := by decide +kernel
theorem d_PC_addBetween_8 : decode b_PC_addBetween 8 = .ok (.aload_n 0, 1) := by decide +kernel
theorem d_PC_addBetween_9 : decode b_PC_addBetween 9 = .ok (.iload_n 2, 1) := by decide +kernel
theorem d_PC_addBetween_10 : decode b_PC_addBetween 10 = .ok (.iload_n 3, 1) := by decide +kernel
theorem d_PC_addBetween_11 : decode b_PC_addBetween 11 = .ok (.invokevirtual 138, 3) := by decide +kernel
theorem d_PC_addBetween_14 : decode b_PC_addBetween 14 = .ok (.lstore 6, 2) := by decide +kernel
theorem d_PC_addBetween_16 : decode b_PC_addBetween 16 = .ok (.aload_n 0, 1) := by decide +kernel
theorem d_PC_addBetween_17 : decode b_PC_addBetween 17 = .ok (.getfield 37, 3) := by decide +kernel
theorem d_PC_addBetween_20 : decode b_PC_addBetween 20 = .ok (.invokevirtual 30, 3) := by decide +kernel
theorem d_PC_addBetween_23 : decode b_PC_addBetween 23 = .ok (.istore 8, 2) := by decide +kernel
theorem d_PC_addBetween_25 : decode b_PC_addBetween 25 = .ok (.iconst 0, 1) := by decide +kernel
theorem d_PC_addBetween_26 : decode b_PC_addBetween 26 = .ok (.istore 9, 2) := by decide +kernel
theorem d_PC_addBetween_28 : decode b_PC_addBetween 28 = .ok (.iload 9, 2) := by decide +kernel
theorem d_PC_addBetween_30 : decode b_PC_addBetween 30 = .ok (.bipush 6, 2) := by decide +kernel
theorem d_PC_addBetween_32 : decode b_PC_addBetween 32 = .ok (.if_icmp .ge 63, 3) := by decide +kernel
theorem d_PC_addBetween_35 : decode b_PC_addBetween 35 = .ok (.aload_n 0, 1) := by decide +kernel
theorem d_PC_addBetween_36 : decode b_PC_addBetween 36 = .ok (.getfield 34, 3) := by decide +kernel
theorem d_PC_addBetween_39 : decode b_PC_addBetween 39 = .ok (.iload_n 1, 1) := by decide +kernel
theorem d_PC_addBetween_40 : decode b_PC_addBetween 40 = .ok (.iload 9, 2) := by decide +kernel
theorem d_PC_addBetween_42 : decode b_PC_addBetween 42 = .ok (.invokevirtual 90, 3) := by decide +kernel
theorem d_PC_addBetween_45 : decode b_PC_addBetween 45 = .ok (.lstore 10, 2) := by decide +kernel
theorem d_PC_addBetween_47 : decode b_PC_addBetween 47 = .ok (.aload_n 0, 1) := by decide +kernel
theorem d_PC_addBetween_48 : decode b_PC_addBetween 48 = .ok (.getfield 34, 3) := by decide +kernel
theorem d_PC_addBetween_51 : decode b_PC_addBetween 51 = .ok (.iload_n 2, 1) := by decide +kernel
theorem d_PC_addBetween_52 : decode b_PC_addBetween 52 = .ok (.iload 9, 2) := by decide +kernel
theorem d_PC_addBetween_54 : decode b_PC_addBetween 54 = .ok (.invokevirtual 90, 3) := by decide +kernel
theorem d_PC_addBetween_57 : decode b_PC_addBetween 57 = .ok (.lstore 12, 2) := by decide +kernel
theorem d_PC_addBetween_59 : decode b_PC_addBetween 59 = .ok (.aload_n 0, 1) := by decide +kernel
theorem d_PC_addBetween_60 : decode b_PC_addBetween 60 = .ok (.getfield 37, 3) := by decide +kernel
theorem d_PC_addBetween_63 : decode b_PC_addBetween 63 = .ok (.iload 8, 2) := by decide +kernel
theorem d_PC_addBetween_65 : decode b_PC_addBetween 65 = .ok (.iload 9, 2) := by decide +kernel
theorem d_PC_addBetween_67 : decode b_PC_addBetween 67 = .ok (.lload 10, 2) := by decide +kernel
theorem d_PC_addBetween_69 : decode b_PC_addBetween 69 = .ok (.lload 12, 2) := by decide +kernel
theorem d_PC_addBetween_71 : decode b_PC_addBetween 71 = .ok (.lload 10, 2) := by decide +kernel
theorem d_PC_addBetween_73 : decode b_PC_addBetween 73 = .ok (.lsub, 1) := by decide +kernel
theorem d_PC_addBetween_74 : decode b_PC_addBetween 74 = .ok (.lload 4, 2) := by decide +kernel
theorem d_PC_addBetween_76 : decode b_PC_addBetween 76 = .ok (.lmul, 1) := by decide +kernel
theorem d_PC_addBetween_77 : decode b_PC_addBetween 77 = .ok (.lload 4, 2) := by decide +kernel
theorem d_PC_addBetween_79 : decode b_PC_addBetween 79 = .ok (.lload 6, 2) := by decide +kernel
theorem d_PC_addBetween_81 : decode b_PC_addBetween 81 = .ok (.lsub, 1) := by decide +kernel
theorem d_PC_addBetween_82 : decode b_PC_addBetween 82 = .ok (.invokestatic 110, 3) := by decide +kernel
theorem d_PC_addBetween_85 : decode b_PC_addBetween 85 = .ok (.ladd, 1) := by decide +kernel
theorem d_PC_addBetween_86 : decode b_PC_addBetween 86 = .ok (.invokevirtual 57, 3) := by decide +kernel
theorem d_PC_addBetween_89 : decode b_PC_addBetween 89 = .ok (.iinc 9 1, 3) := by decide +kernel
theorem d_PC_addBetween_92 : decode b_PC_addBetween 92 = .ok (.goto (-64), 3) := by decide +kernel
theorem d_PC_addBetween_95 : decode b_PC_addBetween 95 = .ok (.return_, 1) := by decide +kernel
theorem d_PC_layOnPicture_0 : decode b_PC_layOnPicture 0 = .ok (.aload_n 0, 1) := by decide +kernel
theorem d_PC_layOnPicture_1 : decode b_PC_layOnPicture 1 = .ok (.getfield 40, 3) := by decide +kernel
theorem d_PC_layOnPicture_4 : decode b_PC_layOnPicture 4 = .ok (.invokevirtual 65, 3) := by decide +kernel
theorem d_PC_layOnPicture_7 : decode b_PC_layOnPicture 7 = .ok (.iconst 0, 1) := by decide +kernel
theorem d_PC_layOnPicture_8 : decode b_PC_layOnPicture 8 = .ok (.istore_n 1, 1) := by decide +kernel
theorem d_PC_layOnPicture_9 : decode b_PC_layOnPicture 9 = .ok (.iload_n 1, 1) := by decide +kernel
theorem d_PC_layOnPicture_10 : decode b_PC_layOnPicture 10 = .ok (.aload_n 0, 1) := by decide +kernel
theorem d_PC_layOnPicture_11 : decode b_PC_layOnPicture 11 = .ok (.getfield 34, 3) := by decide +kernel
theorem d_PC_layOnPicture_14 : decode b_PC_layOnPicture 14 = .ok (.getfield 137, 3) := by decide +kernel
theorem d_PC_layOnPicture_17 : decode b_PC_layOnPicture 17 = .ok (.if_icmp .ge 131, 3) := by decide +kernel
theorem d_PC_layOnPicture_20 : decode b_PC_layOnPicture 20 = .ok (.aload_n 0, 1) := by decide +kernel
theorem d_PC_layOnPicture_21 : decode b_PC_layOnPicture 21 = .ok (.getfield 34, 3) := by decide +kernel
theorem d_PC_layOnPicture_24 : decode b_PC_layOnPicture 24 = .ok (.iload_n 1, 1) := by decide +kernel
theorem d_PC_layOnPicture_25 : decode b_PC_layOnPicture 25 = .ok (.iconst 2, 1) := by decide +kernel
theorem d_PC_layOnPicture_26 : decode b_PC_layOnPicture 26 = .ok (.invokevirtual 90, 3) := by decide +kernel
theorem d_PC_layOnPicture_29 : decode b_PC_layOnPicture 29 = .ok (.lstore_n 2, 1) := by decide +kernel
theorem d_PC_layOnPicture_30 : decode b_PC_layOnPicture 30 = .ok (.aload_n 0, 1) := by decide +kernel
theorem d_PC_layOnPicture_31 : decode b_PC_layOnPicture 31 = .ok (.getfield 40, 3) := by decide +kernel
theorem d_PC_layOnPicture_34 : decode b_PC_layOnPicture 34 = .ok (.aload_n 0, 1) := by decide +kernel
theorem d_PC_layOnPicture_35 : decode b_PC_layOnPicture 35 = .ok (.getfield 34, 3) := by decide +kernel
theorem d_PC_layOnPicture_38 : decode b_PC_layOnPicture 38 = .ok (.iload_n 1, 1) := by decide +kernel
theorem d_PC_layOnPicture_39 : decode b_PC_layOnPicture 39 = .ok (.invokevirtual 68, 3) := by decide +kernel
theorem d_PC_layOnPicture_42 : decode b_PC_layOnPicture 42 = .ok (.aload_n 0, 1) := by decide +kernel
theorem d_PC_layOnPicture_43 : decode b_PC_layOnPicture 43 = .ok (.getfield 40, 3) := by decide +kernel
theorem d_PC_layOnPicture_46 : decode b_PC_layOnPicture 46 = .ok (.iload_n 1, 1) := by decide +kernel
theorem d_PC_layOnPicture_47 : decode b_PC_layOnPicture 47 = .ok (.iconst 0, 1) := by decide +kernel
theorem d_PC_layOnPicture_48 : decode b_PC_layOnPicture 48 = .ok (.ldc2_w 147, 3) := by decide +kernel
theorem d_PC_layOnPicture_51 : decode b_PC_layOnPicture 51 = .ok (.aload_n 0, 1) := by decide +kernel
theorem d_PC_layOnPicture_52 : decode b_PC_layOnPicture 52 = .ok (.getfield 20, 3) := by decide +kernel
theorem d_PC_layOnPicture_55 : decode b_PC_layOnPicture 55 = .ok (.i2l, 1) := by decide +kernel
theorem d_PC_layOnPicture_56 : decode b_PC_layOnPicture 56 = .ok (.lmul, 1) := by decide +kernel
theorem d_PC_layOnPicture_57 : decode b_PC_layOnPicture 57 = .ok (.aload_n 0, 1) := by decide +kernel
theorem d_PC_layOnPicture_58 : decode b_PC_layOnPicture 58 = .ok (.getfield 34, 3) := by decide +kernel
theorem d_PC_layOnPicture_61 : decode b_PC_layOnPicture 61 = .ok (.iload_n 1, 1) := by decide +kernel
theorem d_PC_layOnPicture_62 : decode b_PC_layOnPicture 62 = .ok (.iconst 0, 1) := by decide +kernel
theorem d_PC_layOnPicture_63 : decode b_PC_layOnPicture 63 = .ok (.invokevirtual 90, 3) := by decide +kernel
theorem d_PC_layOnPicture_66 : decode b_PC_layOnPicture 66 = .ok (.lmul, 1) := by decide +kernel
theorem d_PC_layOnPicture_67 : decode b_PC_layOnPicture 67 = .ok (.lload_n 2, 1) := by decide +kernel
theorem d_PC_layOnPicture_68 : decode b_PC_layOnPicture 68 = .ok (.invokestatic 110, 3) := by decide +kernel
theorem d_PC_layOnPicture_71 : decode b_PC_layOnPicture 71 = .ok (.ldc2_w 149, 3) := by decide +kernel
theorem d_PC_layOnPicture_74 : decode b_PC_layOnPicture 74 = .ok (.aload_n 0, 1) := by decide +kernel
theorem d_PC_layOnPicture_75 : decode b_PC_layOnPicture 75 = .ok (.getfield 13, 3) := by decide +kernel
theorem d_PC_layOnPicture_78 : decode b_PC_layOnPicture 78 = .ok (.i2l, 1) := by decide +kernel
theorem d_PC_layOnPicture_79 : decode b_PC_layOnPicture 79 = .ok (.lmul, 1) := by decide +kernel
theorem d_PC_layOnPicture_80 : decode b_PC_layOnPicture 80 = .ok (.ladd, 1) := by decide +kernel
theorem d_PC_layOnPicture_81 : decode b_PC_layOnPicture 81 = .ok (.invokevirtual 57, 3) := by decide +kernel
theorem d_PC_layOnPicture_84 : decode b_PC_layOnPicture 84 = .ok (.aload_n 0, 1) := by decide +kernel
theorem d_PC_layOnPicture_85 : decode b_PC_layOnPicture 85 = .ok (.getfield 40, 3) := by decide +kernel
theorem d_PC_layOnPicture_88 : decode b_PC_layOnPicture 88 = .ok (.iload_n 1, 1) := by decide +kernel
theorem d_PC_layOnPicture_89 : decode b_PC_layOnPicture 89 = .ok (.iconst 1, 1) := by decide +kernel
theorem d_PC_layOnPicture_90 : decode b_PC_layOnPicture 90 = .ok (.ldc2_w 147, 3) := by decide +kernel
theorem d_PC_layOnPicture_93 : decode b_PC_layOnPicture 93 = .ok (.aload_n 0, 1) := by decide +kernel
theorem d_PC_layOnPicture_94 : decode b_PC_layOnPicture 94 = .ok (.getfield 20, 3) := by decide +kernel
theorem d_PC_layOnPicture_97 : decode b_PC_layOnPicture 97 = .ok (.i2l, 1) := by decide +kernel
theorem d_PC_layOnPicture_98 : decode b_PC_layOnPicture 98 = .ok (.lmul, 1) := by decide +kernel
theorem d_PC_layOnPicture_99 : decode b_PC_layOnPicture 99 = .ok (.aload_n 0, 1) := by decide +kernel
theorem d_PC_layOnPicture_100 : decode b_PC_layOnPicture 100 = .ok (.getfield 34, 3) := by decide +kernel
theorem d_PC_layOnPicture_103 : decode b_PC_layOnPicture 103 = .ok (.iload_n 1, 1) := by decide +kernel
theorem d_PC_layOnPicture_104 : decode b_PC_layOnPicture 104 = .ok (.iconst 1, 1) := by decide +kernel
theorem d_PC_layOnPicture_105 : decode b_PC_layOnPicture 105 = .ok (.invokevirtual 90, 3) := by decide +kernel
theorem d_PC_layOnPicture_108 : decode b_PC_layOnPicture 108 = .ok (.lmul, 1) := by decide +kernel
theorem d_PC_layOnPicture_109 : decode b_PC_layOnPicture 109 = .ok (.lload_n 2, 1) := by decide +kernel
theorem d_PC_layOnPicture_110 : decode b_PC_layOnPicture 110 = .ok (.invokestatic 110, 3) := by decide +kernel
theorem d_PC_layOnPicture_113 : decode b_PC_layOnPicture 113 = .ok (.ldc2_w 149, 3) := by decide +kernel
theorem d_PC_layOnPicture_116 : decode b_PC_layOnPicture 116 = .ok (.aload_n 0, 1) := by decide +kernel
theorem d_PC_layOnPicture_117 : decode b_PC_layOnPicture 117 = .ok (.getfield 17, 3) := by decide +kernel
theorem d_PC_layOnPicture_120 : decode b_PC_layOnPicture 120 = .ok (.i2l, 1) := by decide +kernel
theorem d_PC_layOnPicture_121 : decode b_PC_layOnPicture 121 = .ok (.lmul, 1) := by decide +kernel
theorem d_PC_layOnPicture_122 : decode b_PC_layOnPicture 122 = .ok (.ladd, 1) := by decide +kernel
theorem d_PC_layOnPicture_123 : decode b_PC_layOnPicture 123 = .ok (.invokevirtual 57, 3) := by decide +kernel
theorem d_PC_layOnPicture_126 : decode b_PC_layOnPicture 126 = .ok (.aload_n 0, 1) := by decide +kernel
theorem d_PC_layOnPicture_127 : decode b_PC_layOnPicture 127 = .ok (.getfield 40, 3) := by decide +kernel
theorem d_PC_layOnPicture_130 : decode b_PC_layOnPicture 130 = .ok (.iload_n 1, 1) := by decide +kernel
theorem d_PC_layOnPicture_131 : decode b_PC_layOnPicture 131 = .ok (.iconst 2, 1) := by decide +kernel
theorem d_PC_layOnPicture_132 : decode b_PC_layOnPicture 132 = .ok (.ldc2_w 151, 3) := by decide +kernel
theorem d_PC_layOnPicture_135 : decode b_PC_layOnPicture 135 = .ok (.lload_n 2, 1) := by decide +kernel
theorem d_PC_layOnPicture_136 : decode b_PC_layOnPicture 136 = .ok (.invokestatic 110, 3) := by decide +kernel
theorem d_PC_layOnPicture_139 : decode b_PC_layOnPicture 139 = .ok (.invokevirtual 57, 3) := by decide +kernel
theorem d_PC_layOnPicture_142 : decode b_PC_layOnPicture 142 = .ok (.iinc 1 1, 3) := by decide +kernel
theorem d_PC_layOnPicture_145 : decode b_PC_layOnPicture 145 = .ok (.goto (-136), 3) := by decide +kernel
theorem d_PC_layOnPicture_148 : decode b_PC_layOnPicture 148 = .ok (.return_, 1) := by decide +kernel
theorem d_PC_divide_0 : decode b_PC_divide 0 = .ok (.aload_n 0, 1) := by decide +kernel
theorem d_PC_divide_1 : decode b_PC_divide 1 = .ok (.getfield 46, 3) := by decide +kernel
theorem d_PC_divide_4 : decode b_PC_divide 4 = .ok (.invokevirtual 153, 3) := by decide +kernel
theorem d_PC_divide_7 : decode b_PC_divide 7 = .ok (.iconst 1, 1) := by decide +kernel
theorem d_PC_divide_8 : decode b_PC_divide 8 = .ok (.istore_n 2, 1) := by decide +kernel
theorem d_PC_divide_9 : decode b_PC_divide 9 = .ok (.iload_n 2, 1) := by decide +kernel
theorem d_PC_divide_10 : decode b_PC_divide 10 = .ok (.iconst 1, 1) := by decide +kernel
theorem d_PC_divide_11 : decode b_PC_divide 11 = .ok (.iadd, 1) := by decide +kernel
theorem d_PC_divide_12 : decode b_PC_divide 12 = .ok (.aload_n 0, 1) := by decide +kernel
theorem d_PC_divide_13 : decode b_PC_divide 13 = .ok (.getfield 40, 3) := by decide +kernel
theorem d_PC_divide_16 : decode b_PC_divide 16 = .ok (.getfield 137, 3) := by decide +kernel
theorem d_PC_divide_19 : decode b_PC_divide 19 = .ok (.if_icmp .ge 62, 3) := by decide +kernel
theorem d_PC_divide_22 : decode b_PC_divide 22 = .ok (.aload_n 0, 1) := by decide +kernel
theorem d_PC_divide_23 : decode b_PC_divide 23 = .ok (.iload_n 2, 1) := by decide +kernel
theorem d_PC_divide_24 : decode b_PC_divide 24 = .ok (.iload_n 2, 1) := by decide +kernel
theorem d_PC_divide_25 : decode b_PC_divide 25 = .ok (.iconst 1, 1) := by decide +kernel
theorem d_PC_divide_26 : decode b_PC_divide 26 = .ok (.iadd, 1) := by decide +kernel
theorem d_PC_divide_27 : decode b_PC_divide 27 = .ok (.invokevirtual 154, 3) := by decide +kernel
theorem d_PC_divide_30 : decode b_PC_divide 30 = .ok (.lstore_n 3, 1) := by decide +kernel
theorem d_PC_divide_31 : decode b_PC_divide 31 = .ok (.lload_n 3, 1) := by decide +kernel
theorem d_PC_divide_32 : decode b_PC_divide 32 = .ok (.lconst 0, 1) := by decide +kernel
theorem d_PC_divide_33 : decode b_PC_divide 33 = .ok (.lcmp, 1) := by decide +kernel
theorem d_PC_divide_34 : decode b_PC_divide 34 = .ok (.ifCond .le 18, 3) := by decide +kernel
theorem d_PC_divide_37 : decode b_PC_divide 37 = .ok (.aload_n 0, 1) := by decide +kernel
theorem d_PC_divide_38 : decode b_PC_divide 38 = .ok (.getfield 46, 3) := by decide +kernel
theorem d_PC_divide_41 : decode b_PC_divide 41 = .ok (.iload_n 2, 1) := by decide +kernel
theorem d_PC_divide_42 : decode b_PC_divide 42 = .ok (.iload_n 2, 1) := by decide +kernel
theorem d_PC_divide_43 : decode b_PC_divide 43 = .ok (.iconst 1, 1) := by decide +kernel
theorem d_PC_divide_44 : decode b_PC_divide 44 = .ok (.iadd, 1) := by decide +kernel
theorem d_PC_divide_45 : decode b_PC_divide 45 = .ok (.lload_n 3, 1) := by decide +kernel
theorem d_PC_divide_46 : decode b_PC_divide 46 = .ok (.invokevirtual 157, 3) := by decide +kernel
theorem d_PC_divide_49 : decode b_PC_divide 49 = .ok (.goto 26, 3) := by decide +kernel
theorem d_PC_divide_52 : decode b_PC_divide 52 = .ok (.lload_n 3, 1) := by decide +kernel
theorem d_PC_divide_53 : decode b_PC_divide 53 = .ok (.lconst 0, 1) := by decide +kernel
theorem d_PC_divide_54 : decode b_PC_divide 54 = .ok (.lcmp, 1) := by decide +kernel
theorem d_PC_divide_55 : decode b_PC_divide 55 = .ok (.ifCond .ge 20, 3) := by decide +kernel
theorem d_PC_divide_58 : decode b_PC_divide 58 = .ok (.iload_n 1, 1) := by decide +kernel
theorem d_PC_divide_59 : decode b_PC_divide 59 = .ok (.ifCond .eq 16, 3) := by decide +kernel
theorem d_PC_divide_62 : decode b_PC_divide 62 = .ok (.aload_n 0, 1) := by decide +kernel
theorem d_PC_divide_63 : decode b_PC_divide 63 = .ok (.getfield 46, 3) := by decide +kernel
theorem d_PC_divide_66 : decode b_PC_divide 66 = .ok (.iload_n 2, 1) := by decide +kernel
theorem d_PC_divide_67 : decode b_PC_divide 67 = .ok (.iconst 1, 1) := by decide +kernel
theorem d_PC_divide_68 : decode b_PC_divide 68 = .ok (.iadd, 1) := by decide +kernel
theorem d_PC_divide_69 : decode b_PC_divide 69 = .ok (.iload_n 2, 1) := by decide +kernel
theorem d_PC_divide_70 : decode b_PC_divide 70 = .ok (.lload_n 3, 1) := by decide +kernel
theorem d_PC_divide_71 : decode b_PC_divide 71 = .ok (.lneg, 1) := by decide +kernel
theorem d_PC_divide_72 : decode b_PC_divide 72 = .ok (.invokevirtual 157, 3) := by decide +kernel
theorem d_PC_divide_75 : decode b_PC_divide 75 = .ok (.iinc 2 1, 3) := by decide +kernel
theorem d_PC_divide_78 : decode b_PC_divide 78 = .ok (.goto (-69), 3) := by decide +kernel
theorem d_PC_divide_81 : decode b_PC_divide 81 = .ok (.return_, 1) := by decide +kernel
theorem d_PC_areaWith_0 : decode b_PC_areaWith 0 = .ok (.aload_n 0, 1) := by decide +kernel
theorem d_PC_areaWith_1 : decode b_PC_areaWith 1 = .ok (.getfield 40, 3) := by decide +kernel
theorem d_PC_areaWith_4 : decode b_PC_areaWith 4 = .ok (.iconst 0, 1) := by decide +kernel
theorem d_PC_areaWith_5 : decode b_PC_areaWith 5 = .ok (.iconst 0, 1) := by decide +kernel
theorem d_PC_areaWith_6 : decode b_PC_areaWith 6 = .ok (.invokevirtual 90, 3) := by decide +kernel
theorem d_PC_areaWith_9 : decode b_PC_areaWith 9 = .ok (.lstore_n 3, 1) := by decide +kernel
theorem d_PC_areaWith_10 : decode b_PC_areaWith 10 = .ok (.aload_n 0, 1) := by decide +kernel
theorem d_PC_areaWith_11 : decode b_PC_areaWith 11 = .ok (.getfield 40, 3) := by decide +kernel
theorem d_PC_areaWith_14 : decode b_PC_areaWith 14 = .ok (.iconst 0, 1) := by decide +kernel
theorem d_PC_areaWith_15 : decode b_PC_areaWith 15 = .ok (.iconst 1, 1) := by decide +kernel
theorem d_PC_areaWith_16 : decode b_PC_areaWith 16 = .ok (.invokevirtual 90, 3) := by decide +kernel
theorem d_PC_areaWith_19 : decode b_PC_areaWith 19 = .ok (.lstore 5, 2) := by decide +kernel
theorem d_PC_areaWith_21 : decode b_PC_areaWith 21 = .ok (.aload_n 0, 1) := by decide +kernel
theorem d_PC_areaWith_22 : decode b_PC_areaWith 22 = .ok (.getfield 40, 3) := by decide +kernel
theorem d_PC_areaWith_25 : decode b_PC_areaWith 25 = .ok (.iload_n 1, 1) := by decide +kernel
theorem d_PC_areaWith_26 : decode b_PC_areaWith 26 = .ok (.iconst 0, 1) := by decide +kernel
theorem d_PC_areaWith_27 : decode b_PC_areaWith 27 = .ok (.invokevirtual 90, 3) := by decide +kernel
theorem d_PC_areaWith_30 : decode b_PC_areaWith 30 = .ok (.lload_n 3, 1) := by decide +kernel
theorem d_PC_areaWith_31 : decode b_PC_areaWith 31 = .ok (.lsub, 1) := by decide +kernel
theorem d_PC_areaWith_32 : decode b_PC_areaWith 32 = .ok (.aload_n 0, 1) := by decide +kernel
theorem d_PC_areaWith_33 : decode b_PC_areaWith 33 = .ok (.getfield 40, 3) := by decide +kernel
theorem d_PC_areaWith_36 : decode b_PC_areaWith 36 = .ok (.iload_n 2, 1) := by decide +kernel
theorem d_PC_areaWith_37 : decode b_PC_areaWith 37 = .ok (.iconst 1, 1) := by decide +kernel
theorem d_PC_areaWith_38 : decode b_PC_areaWith 38 = .ok (.invokevirtual 90, 3) := by decide +kernel
theorem d_PC_areaWith_41 : decode b_PC_areaWith 41 = .ok (.lload 5, 2) := by decide +kernel
theorem d_PC_areaWith_43 : decode b_PC_areaWith 43 = .ok (.lsub, 1) := by decide +kernel
theorem d_PC_areaWith_44 : decode b_PC_areaWith 44 = .ok (.lmul, 1) := by decide +kernel
theorem d_PC_areaWith_45 : decode b_PC_areaWith 45 = .ok (.aload_n 0, 1) := by decide +kernel
theorem d_PC_areaWith_46 : decode b_PC_areaWith 46 = .ok (.getfield 40, 3) := by decide +kernel
theorem d_PC_areaWith_49 : decode b_PC_areaWith 49 = .ok (.iload_n 2, 1) := by decide +kernel
theorem d_PC_areaWith_50 : decode b_PC_areaWith 50 = .ok (.iconst 0, 1) := by decide +kernel
theorem d_PC_areaWith_51 : decode b_PC_areaWith 51 = .ok (.invokevirtual 90, 3) := by decide +kernel
theorem d_PC_areaWith_54 : decode b_PC_areaWith 54 = .ok (.lload_n 3, 1) := by decide +kernel
theorem d_PC_areaWith_55 : decode b_PC_areaWith 55 = .ok (.lsub, 1) := by decide +kernel
theorem d_PC_areaWith_56 : decode b_PC_areaWith 56 = .ok (.aload_n 0, 1) := by decide +kernel
theorem d_PC_areaWith_57 : decode b_PC_areaWith 57 = .ok (.getfield 40, 3) := by decide +kernel
theorem d_PC_areaWith_60 : decode b_PC_areaWith 60 = .ok (.iload_n 1, 1) := by decide +kernel
theorem d_PC_areaWith_61 : decode b_PC_areaWith 61 = .ok (.iconst 1, 1) := by decide +kernel
theorem d_PC_areaWith_62 : decode b_PC_areaWith 62 = .ok (.invokevirtual 90, 3) := by decide +kernel
theorem d_PC_areaWith_65 : decode b_PC_areaWith 65 = .ok (.lload 5, 2) := by decide +kernel
theorem d_PC_areaWith_67 : decode b_PC_areaWith 67 = .ok (.lsub, 1) := by decide +kernel
theorem d_PC_areaWith_68 : decode b_PC_areaWith 68 = .ok (.lmul, 1) := by decide +kernel
theorem d_PC_areaWith_69 : decode b_PC_areaWith 69 = .ok (.lsub, 1) := by decide +kernel
theorem d_PC_areaWith_70 : decode b_PC_areaWith 70 = .ok (.lreturn, 1) := by decide +kernel
theorem d_PC_covers_0 : decode b_PC_covers 0 = .ok (.aload_n 0, 1) := by decide +kernel
theorem d_PC_covers_1 : decode b_PC_covers 1 = .ok (.iload_n 2, 1) := by decide +kernel
theorem d_PC_covers_2 : decode b_PC_covers 2 = .ok (.iload_n 3, 1) := by decide +kernel
theorem d_PC_covers_3 : decode b_PC_covers 3 = .ok (.invokevirtual 118, 3) := by decide +kernel
theorem d_PC_covers_6 : decode b_PC_covers 6 = .ok (.ifCond .eq 14, 3) := by decide +kernel
theorem d_PC_covers_9 : decode b_PC_covers 9 = .ok (.aload_n 0, 1) := by decide +kernel
theorem d_PC_covers_10 : decode b_PC_covers 10 = .ok (.getfield 46, 3) := by decide +kernel
theorem d_PC_covers_13 : decode b_PC_covers 13 = .ok (.iload_n 1, 1) := by decide +kernel
theorem d_PC_covers_14 : decode b_PC_covers 14 = .ok (.invokevirtual 94, 3) := by decide +kernel
theorem d_PC_covers_17 : decode b_PC_covers 17 = .ok (.ifCond .ne 5, 3) := by decide +kernel
theorem d_PC_covers_20 : decode b_PC_covers 20 = .ok (.iconst 0, 1) := by decide +kernel
theorem d_PC_covers_21 : decode b_PC_covers 21 = .ok (.ireturn, 1) := by decide +kernel
theorem d_PC_covers_22 : decode b_PC_covers 22 = .ok (.iconst 0, 1) := by decide +kernel
theorem d_PC_covers_23 : decode b_PC_covers 23 = .ok (.istore 4, 2) := by decide +kernel
theorem d_PC_covers_25 : decode b_PC_covers 25 = .ok (.iload 4, 2) := by decide +kernel
theorem d_PC_covers_27 : decode b_PC_covers 27 = .ok (.iconst 3, 1) := by decide +kernel
theorem d_PC_covers_28 : decode b_PC_covers 28 = .ok (.if_icmp .ge 23, 3) := by decide +kernel
theorem d_PC_covers_31 : decode b_PC_covers 31 = .ok (.aload_n 0, 1) := by decide +kernel
theorem d_PC_covers_32 : decode b_PC_covers 32 = .ok (.iload_n 1, 1) := by decide +kernel
theorem d_PC_covers_33 : decode b_PC_covers 33 = .ok (.iload 4, 2) := by decide +kernel
theorem d_PC_covers_35 : decode b_PC_covers 35 = .ok (.iload_n 2, 1) := by decide +kernel
theorem d_PC_covers_36 : decode b_PC_covers 36 = .ok (.iload_n 3, 1) := by decide +kernel
theorem d_PC_covers_37 : decode b_PC_covers 37 = .ok (.invokevirtual 160, 3) := by decide +kernel
theorem d_PC_covers_40 : decode b_PC_covers 40 = .ok (.ifCond .ne 5, 3) := by decide +kernel
theorem d_PC_covers_43 : decode b_PC_covers 43 = .ok (.iconst 0, 1) := by decide +kernel
theorem d_PC_covers_44 : decode b_PC_covers 44 = .ok (.ireturn, 1) := by decide +kernel
theorem d_PC_covers_45 : decode b_PC_covers 45 = .ok (.iinc 4 1, 3) := by decide +kernel
theorem d_PC_covers_48 : decode b_PC_covers 48 = .ok (.goto (-23), 3) := by decide +kernel
theorem d_PC_covers_51 : decode b_PC_covers 51 = .ok (.iconst 1, 1) := by decide +kernel
theorem d_PC_covers_52 : decode b_PC_covers 52 = .ok (.ireturn, 1) := by decide +kernel
theorem d_PC_isInside_0 : decode b_PC_isInside 0 = .ok (.aload_n 0, 1) := by decide +kernel
theorem d_PC_isInside_1 : decode b_PC_isInside 1 = .ok (.iload_n 1, 1) := by decide +kernel
theorem d_PC_isInside_2 : decode b_PC_isInside 2 = .ok (.iload_n 2, 1) := by decide +kernel
theorem d_PC_isInside_3 : decode b_PC_isInside 3 = .ok (.iload_n 3, 1) := by decide +kernel
theorem d_PC_isInside_4 : decode b_PC_isInside 4 = .ok (.iload 4, 2) := by decide +kernel
theorem d_PC_isInside_6 : decode b_PC_isInside 6 = .ok (.invokevirtual 164, 3) := by decide +kernel
theorem d_PC_isInside_9 : decode b_PC_isInside 9 = .ok (.lstore 5, 2) := by decide +kernel
theorem d_PC_isInside_11 : decode b_PC_isInside 11 = .ok (.lload 5, 2) := by decide +kernel
theorem d_PC_isInside_13 : decode b_PC_isInside 13 = .ok (.lconst 0, 1) := by decide +kernel
theorem d_PC_isInside_14 : decode b_PC_isInside 14 = .ok (.lcmp, 1) := by decide +kernel
theorem d_PC_isInside_15 : decode b_PC_isInside 15 = .ok (.ifCond .eq 16, 3) := by decide +kernel
theorem d_PC_isInside_18 : decode b_PC_isInside 18 = .ok (.lload 5, 2) := by decide +kernel
theorem d_PC_isInside_20 : decode b_PC_isInside 20 = .ok (.lconst 0, 1) := by decide +kernel
theorem d_PC_isInside_21 : decode b_PC_isInside 21 = .ok (.lcmp, 1) := by decide +kernel
theorem d_PC_isInside_22 : decode b_PC_isInside 22 = .ok (.ifCond .le 7, 3) := by decide +kernel
theorem d_PC_isInside_25 : decode b_PC_isInside 25 = .ok (.iconst 1, 1) := by decide +kernel
theorem d_PC_isInside_26 : decode b_PC_isInside 26 = .ok (.goto 4, 3) := by decide +kernel
theorem d_PC_isInside_29 : decode b_PC_isInside 29 = .ok (.iconst 0, 1) := by decide +kernel
theorem d_PC_isInside_30 : decode b_PC_isInside 30 = .ok (.ireturn, 1) := by decide +kernel
theorem d_PC_isInside_31 : decode b_PC_isInside 31 = .ok (.aload_n 0, 1) := by decide +kernel
theorem d_PC_isInside_32 : decode b_PC_isInside 32 = .ok (.getfield 46, 3) := by decide +kernel
theorem d_PC_isInside_35 : decode b_PC_isInside 35 = .ok (.iload_n 1, 1) := by decide +kernel
theorem d_PC_isInside_36 : decode b_PC_isInside 36 = .ok (.iload_n 2, 1) := by decide +kernel
theorem d_PC_isInside_37 : decode b_PC_isInside 37 = .ok (.invokestatic 167, 3) := by decide +kernel
theorem d_PC_isInside_40 : decode b_PC_isInside 40 = .ok (.invokevirtual 86, 3) := by decide +kernel
theorem d_PC_isInside_43 : decode b_PC_isInside 43 = .ok (.istore 7, 2) := by decide +kernel
theorem d_PC_isInside_45 : decode b_PC_isInside 45 = .ok (.aload_n 0, 1) := by decide +kernel
theorem d_PC_isInside_46 : decode b_PC_isInside 46 = .ok (.getfield 46, 3) := by decide +kernel
theorem d_PC_isInside_49 : decode b_PC_isInside 49 = .ok (.iload_n 1, 1) := by decide +kernel
theorem d_PC_isInside_50 : decode b_PC_isInside 50 = .ok (.iload_n 2, 1) := by decide +kernel
theorem d_PC_isInside_51 : decode b_PC_isInside 51 = .ok (.invokestatic 167, 3) := by decide +kernel
theorem d_PC_isInside_54 : decode b_PC_isInside 54 = .ok (.invokestatic 167, 3) := by decide +kernel
theorem d_PC_isInside_57 : decode b_PC_isInside 57 = .ok (.invokevirtual 86, 3) := by decide +kernel
theorem d_PC_isInside_60 : decode b_PC_isInside 60 = .ok (.istore 8, 2) := by decide +kernel
theorem d_PC_isInside_62 : decode b_PC_isInside 62 = .ok (.aload_n 0, 1) := by decide +kernel
theorem d_PC_isInside_63 : decode b_PC_isInside 63 = .ok (.getfield 40, 3) := by decide +kernel
theorem d_PC_isInside_66 : decode b_PC_isInside 66 = .ok (.iload 8, 2) := by decide +kernel
theorem d_PC_isInside_68 : decode b_PC_isInside 68 = .ok (.iconst 1, 1) := by decide +kernel
theorem d_PC_isInside_69 : decode b_PC_isInside 69 = .ok (.invokevirtual 90, 3) := by decide +kernel
theorem d_PC_isInside_72 : decode b_PC_isInside 72 = .ok (.aload_n 0, 1) := by decide +kernel
theorem d_PC_isInside_73 : decode b_PC_isInside 73 = .ok (.getfield 40, 3) := by decide +kernel
theorem d_PC_isInside_76 : decode b_PC_isInside 76 = .ok (.iload 7, 2) := by decide +kernel
theorem d_PC_isInside_78 : decode b_PC_isInside 78 = .ok (.iconst 1, 1) := by decide +kernel
theorem d_PC_isInside_79 : decode b_PC_isInside 79 = .ok (.invokevirtual 90, 3) := by decide +kernel
theorem d_PC_isInside_82 : decode b_PC_isInside 82 = .ok (.lsub, 1) := by decide +kernel
theorem d_PC_isInside_83 : decode b_PC_isInside 83 = .ok (.lstore 9, 2) := by decide +kernel
theorem d_PC_isInside_85 : decode b_PC_isInside 85 = .ok (.lload 9, 2) := by decide +kernel
theorem d_PC_isInside_87 : decode b_PC_isInside 87 = .ok (.lconst 0, 1) := by decide +kernel
theorem d_PC_isInside_88 : decode b_PC_isInside 88 = .ok (.lcmp, 1) := by decide +kernel
theorem d_PC_isInside_89 : decode b_PC_isInside 89 = .ok (.ifCond .lt 34, 3) := by decide +kernel
theorem d_PC_isInside_92 : decode b_PC_isInside 92 = .ok (.lload 9, 2) := by decide +kernel
theorem d_PC_isInside_94 : decode b_PC_isInside 94 = .ok (.lconst 0, 1) := by decide +kernel
theorem d_PC_isInside_95 : decode b_PC_isInside 95 = .ok (.lcmp, 1) := by decide +kernel
theorem d_PC_isInside_96 : decode b_PC_isInside 96 = .ok (.ifCond .ne 31, 3) := by decide +kernel
theorem d_PC_isInside_99 : decode b_PC_isInside 99 = .ok (.aload_n 0, 1) := by decide +kernel
theorem d_PC_isInside_100 : decode b_PC_isInside 100 = .ok (.getfield 40, 3) := by decide +kernel
theorem d_PC_isInside_103 : decode b_PC_isInside 103 = .ok (.iload 8, 2) := by decide +kernel
theorem d_PC_isInside_105 : decode b_PC_isInside 105 = .ok (.iconst 0, 1) := by decide +kernel
theorem d_PC_isInside_106 : decode b_PC_isInside 106 = .ok (.invokevirtual 90, 3) := by decide +kernel
theorem d_PC_isInside_109 : decode b_PC_isInside 109 = .ok (.aload_n 0, 1) := by decide +kernel
theorem d_PC_isInside_110 : decode b_PC_isInside 110 = .ok (.getfield 40, 3) := by decide +kernel
theorem d_PC_isInside_113 : decode b_PC_isInside 113 = .ok (.iload 7, 2) := by decide +kernel
theorem d_PC_isInside_115 : decode b_PC_isInside 115 = .ok (.iconst 0, 1) := by decide +kernel
theorem d_PC_isInside_116 : decode b_PC_isInside 116 = .ok (.invokevirtual 90, 3) := by decide +kernel
theorem d_PC_isInside_119 : decode b_PC_isInside 119 = .ok (.lcmp, 1) := by decide +kernel
theorem d_PC_isInside_120 : decode b_PC_isInside 120 = .ok (.ifCond .le 7, 3) := by decide +kernel
theorem d_PC_isInside_123 : decode b_PC_isInside 123 = .ok (.iconst 1, 1) := by decide +kernel
theorem d_PC_isInside_124 : decode b_PC_isInside 124 = .ok (.goto 4, 3) := by decide +kernel
theorem d_PC_isInside_127 : decode b_PC_isInside 127 = .ok (.iconst 0, 1) := by decide +kernel
theorem d_PC_isInside_128 : decode b_PC_isInside 128 = .ok (.ireturn, 1) := by decide +kernel
theorem d_PC_edgeNumber_0 : decode b_PC_edgeNumber 0 = .ok (.aload_n 0, 1) := by decide +kernel
theorem d_PC_edgeNumber_1 : decode b_PC_edgeNumber 1 = .ok (.getfield 46, 3) := by decide +kernel
theorem d_PC_edgeNumber_4 : decode b_PC_edgeNumber 4 = .ok (.iload_n 1, 1) := by decide +kernel
theorem d_PC_edgeNumber_5 : decode b_PC_edgeNumber 5 = .ok (.iload_n 2, 1) := by decide +kernel
theorem d_PC_edgeNumber_6 : decode b_PC_edgeNumber 6 = .ok (.invokestatic 167, 3) := by decide +kernel
theorem d_PC_edgeNumber_9 : decode b_PC_edgeNumber 9 = .ok (.invokevirtual 86, 3) := by decide +kernel
theorem d_PC_edgeNumber_12 : decode b_PC_edgeNumber 12 = .ok (.istore 5, 2) := by decide +kernel
theorem d_PC_edgeNumber_14 : decode b_PC_edgeNumber 14 = .ok (.aload_n 0, 1) := by decide +kernel
theorem d_PC_edgeNumber_15 : decode b_PC_edgeNumber 15 = .ok (.getfield 46, 3) := by decide +kernel
theorem d_PC_edgeNumber_18 : decode b_PC_edgeNumber 18 = .ok (.iload_n 1, 1) := by decide +kernel
theorem d_PC_edgeNumber_19 : decode b_PC_edgeNumber 19 = .ok (.iload_n 2, 1) := by decide +kernel
theorem d_PC_edgeNumber_20 : decode b_PC_edgeNumber 20 = .ok (.invokestatic 167, 3) := by decide +kernel
theorem d_PC_edgeNumber_23 : decode b_PC_edgeNumber 23 = .ok (.invokestatic 167, 3) := by decide +kernel
theorem d_PC_edgeNumber_26 : decode b_PC_edgeNumber 26 = .ok (.invokevirtual 86, 3) := by decide +kernel
theorem d_PC_edgeNumber_29 : decode b_PC_edgeNumber 29 = .ok (.istore 6, 2) := by decide +kernel
theorem d_PC_edgeNumber_31 : decode b_PC_edgeNumber 31 = .ok (.aload_n 0, 1) := by decide +kernel
theorem d_PC_edgeNumber_32 : decode b_PC_edgeNumber 32 = .ok (.getfield 40, 3) := by decide +kernel
theorem d_PC_edgeNumber_35 : decode b_PC_edgeNumber 35 = .ok (.iload 5, 2) := by decide +kernel
theorem d_PC_edgeNumber_37 : decode b_PC_edgeNumber 37 = .ok (.iconst 0, 1) := by decide +kernel
theorem d_PC_edgeNumber_38 : decode b_PC_edgeNumber 38 = .ok (.invokevirtual 90, 3) := by decide +kernel
theorem d_PC_edgeNumber_41 : decode b_PC_edgeNumber 41 = .ok (.lstore 7, 2) := by decide +kernel
theorem d_PC_edgeNumber_43 : decode b_PC_edgeNumber 43 = .ok (.aload_n 0, 1) := by decide +kernel
theorem d_PC_edgeNumber_44 : decode b_PC_edgeNumber 44 = .ok (.getfield 40, 3) := by decide +kernel
theorem d_PC_edgeNumber_47 : decode b_PC_edgeNumber 47 = .ok (.iload 5, 2) := by decide +kernel
theorem d_PC_edgeNumber_49 : decode b_PC_edgeNumber 49 = .ok (.iconst 1, 1) := by decide +kernel
theorem d_PC_edgeNumber_50 : decode b_PC_edgeNumber 50 = .ok (.invokevirtual 90, 3) := by decide +kernel
theorem d_PC_edgeNumber_53 : decode b_PC_edgeNumber 53 = .ok (.lstore 9, 2) := by decide +kernel
theorem d_PC_edgeNumber_55 : decode b_PC_edgeNumber 55 = .ok (.aload_n 0, 1) := by decide +kernel
theorem d_PC_edgeNumber_56 : decode b_PC_edgeNumber 56 = .ok (.getfield 40, 3) := by decide +kernel
theorem d_PC_edgeNumber_59 : decode b_PC_edgeNumber 59 = .ok (.iload 6, 2) := by decide +kernel
theorem d_PC_edgeNumber_61 : decode b_PC_edgeNumber 61 = .ok (.iconst 0, 1) := by decide +kernel
theorem d_PC_edgeNumber_62 : decode b_PC_edgeNumber 62 = .ok (.invokevirtual 90, 3) := by decide +kernel
theorem d_PC_edgeNumber_65 : decode b_PC_edgeNumber 65 = .ok (.lload 7, 2) := by decide +kernel
theorem d_PC_edgeNumber_67 : decode b_PC_edgeNumber 67 = .ok (.lsub, 1) := by decide +kernel
theorem d_PC_edgeNumber_68 : decode b_PC_edgeNumber 68 = .ok (.iload 4, 2) := by decide +kernel
theorem d_PC_edgeNumber_70 : decode b_PC_edgeNumber 70 = .ok (.invokestatic 170, 3) := by decide +kernel
theorem d_PC_edgeNumber_73 : decode b_PC_edgeNumber 73 = .ok (.lload 9, 2) := by decide +kernel
theorem d_PC_edgeNumber_75 : decode b_PC_edgeNumber 75 = .ok (.lsub, 1) := by decide +kernel
theorem d_PC_edgeNumber_76 : decode b_PC_edgeNumber 76 = .ok (.lmul, 1) := by decide +kernel
theorem d_PC_edgeNumber_77 : decode b_PC_edgeNumber 77 = .ok (.aload_n 0, 1) := by decide +kernel
theorem d_PC_edgeNumber_78 : decode b_PC_edgeNumber 78 = .ok (.getfield 40, 3) := by decide +kernel
theorem d_PC_edgeNumber_81 : decode b_PC_edgeNumber 81 = .ok (.iload 6, 2) := by decide +kernel
theorem d_PC_edgeNumber_83 : decode b_PC_edgeNumber 83 = .ok (.iconst 1, 1) := by decide +kernel
theorem d_PC_edgeNumber_84 : decode b_PC_edgeNumber 84 = .ok (.invokevirtual 90, 3) := by decide +kernel
theorem d_PC_edgeNumber_87 : decode b_PC_edgeNumber 87 = .ok (.lload 9, 2) := by decide +kernel
theorem d_PC_edgeNumber_89 : decode b_PC_edgeNumber 89 = .ok (.lsub, 1) := by decide +kernel
theorem d_PC_edgeNumber_90 : decode b_PC_edgeNumber 90 = .ok (.iload_n 3, 1) := by decide +kernel
theorem d_PC_edgeNumber_91 : decode b_PC_edgeNumber 91 = .ok (.invokestatic 170, 3) := by decide +kernel
theorem d_PC_edgeNumber_94 : decode b_PC_edgeNumber 94 = .ok (.lload 7, 2) := by decide +kernel
theorem d_PC_edgeNumber_96 : decode b_PC_edgeNumber 96 = .ok (.lsub, 1) := by decide +kernel
theorem d_PC_edgeNumber_97 : decode b_PC_edgeNumber 97 = .ok (.lmul, 1) := by decide +kernel
theorem d_PC_edgeNumber_98 : decode b_PC_edgeNumber 98 = .ok (.lsub, 1) := by decide +kernel
theorem d_PC_edgeNumber_99 : decode b_PC_edgeNumber 99 = .ok (.lreturn, 1) := by decide +kernel
theorem d_PC_cornerAfter_0 : decode b_PC_cornerAfter 0 = .ok (.iload_n 0, 1) := by decide +kernel
theorem d_PC_cornerAfter_1 : decode b_PC_cornerAfter 1 = .ok (.iconst 2, 1) := by decide +kernel
theorem d_PC_cornerAfter_2 : decode b_PC_cornerAfter 2 = .ok (.if_icmp .ge 9, 3) := by decide +kernel
theorem d_PC_cornerAfter_5 : decode b_PC_cornerAfter 5 = .ok (.iload_n 0, 1) := by decide +kernel
theorem d_PC_cornerAfter_6 : decode b_PC_cornerAfter 6 = .ok (.iconst 1, 1) := by decide +kernel
theorem d_PC_cornerAfter_7 : decode b_PC_cornerAfter 7 = .ok (.iadd, 1) := by decide +kernel
theorem d_PC_cornerAfter_8 : decode b_PC_cornerAfter 8 = .ok (.goto 4, 3) := by decide +kernel
theorem d_PC_cornerAfter_11 : decode b_PC_cornerAfter 11 = .ok (.iconst 0, 1) := by decide +kernel
theorem d_PC_cornerAfter_12 : decode b_PC_cornerAfter 12 = .ok (.ireturn, 1) := by decide +kernel
theorem d_PC_middle_0 : decode b_PC_middle 0 = .ok (.ldc2_w 147, 3) := by decide +kernel
theorem d_PC_middle_3 : decode b_PC_middle 3 = .ok (.iload_n 0, 1) := by decide +kernel
theorem d_PC_middle_4 : decode b_PC_middle 4 = .ok (.i2l, 1) := by decide +kernel
theorem d_PC_middle_5 : decode b_PC_middle 5 = .ok (.lmul, 1) := by decide +kernel
theorem d_PC_middle_6 : decode b_PC_middle 6 = .ok (.ldc2_w 149, 3) := by decide +kernel
theorem d_PC_middle_9 : decode b_PC_middle 9 = .ok (.ladd, 1) := by decide +kernel
theorem d_PC_middle_10 : decode b_PC_middle 10 = .ok (.lreturn, 1) := by decide +kernel
theorem d_PC_weight_0 : decode b_PC_weight 0 = .ok (.aload_n 0, 1) := by decide +kernel
theorem d_PC_weight_1 : decode b_PC_weight 1 = .ok (.iload_n 1, 1) := by decide +kernel
theorem d_PC_weight_2 : decode b_PC_weight 2 = .ok (.iload_n 2, 1) := by decide +kernel
theorem d_PC_weight_3 : decode b_PC_weight 3 = .ok (.iload_n 3, 1) := by decide +kernel
theorem d_PC_weight_4 : decode b_PC_weight 4 = .ok (.iload 4, 2) := by decide +kernel
theorem d_PC_weight_6 : decode b_PC_weight 6 = .ok (.invokevirtual 164, 3) := by decide +kernel
theorem d_PC_weight_9 : decode b_PC_weight 9 = .ok (.aload_n 0, 1) := by decide +kernel
theorem d_PC_weight_10 : decode b_PC_weight 10 = .ok (.getfield 40, 3) := by decide +kernel
theorem d_PC_weight_13 : decode b_PC_weight 13 = .ok (.aload_n 0, 1) := by decide +kernel
theorem d_PC_weight_14 : decode b_PC_weight 14 = .ok (.getfield 46, 3) := by decide +kernel
theorem d_PC_weight_17 : decode b_PC_weight 17 = .ok (.iload_n 1, 1) := by decide +kernel
theorem d_PC_weight_18 : decode b_PC_weight 18 = .ok (.iload_n 2, 1) := by decide +kernel
theorem d_PC_weight_19 : decode b_PC_weight 19 = .ok (.invokevirtual 86, 3) := by decide +kernel
theorem d_PC_weight_22 : decode b_PC_weight 22 = .ok (.iconst 2, 1) := by decide +kernel
theorem d_PC_weight_23 : decode b_PC_weight 23 = .ok (.invokevirtual 90, 3) := by decide +kernel
theorem d_PC_weight_26 : decode b_PC_weight 26 = .ok (.lmul, 1) := by decide +kernel
theorem d_PC_weight_27 : decode b_PC_weight 27 = .ok (.lreturn, 1) := by decide +kernel
theorem d_PC_weightSum_0 : decode b_PC_weightSum 0 = .ok (.aload_n 0, 1) := by decide +kernel
theorem d_PC_weightSum_1 : decode b_PC_weightSum 1 = .ok (.iload_n 1, 1) := by decide +kernel
theorem d_PC_weightSum_2 : decode b_PC_weightSum 2 = .ok (.iconst 0, 1) := by decide +kernel
theorem d_PC_weightSum_3 : decode b_PC_weightSum 3 = .ok (.iload_n 2, 1) := by decide +kernel
theorem d_PC_weightSum_4 : decode b_PC_weightSum 4 = .ok (.iload_n 3, 1) := by decide +kernel
theorem d_PC_weightSum_5 : decode b_PC_weightSum 5 = .ok (.invokevirtual 114, 3) := by decide +kernel
theorem d_PC_weightSum_8 : decode b_PC_weightSum 8 = .ok (.aload_n 0, 1) := by decide +kernel
theorem d_PC_weightSum_9 : decode b_PC_weightSum 9 = .ok (.iload_n 1, 1) := by decide +kernel
theorem d_PC_weightSum_10 : decode b_PC_weightSum 10 = .ok (.iconst 1, 1) := by decide +kernel
theorem d_PC_weightSum_11 : decode b_PC_weightSum 11 = .ok (.iload_n 2, 1) := by decide +kernel
theorem d_PC_weightSum_12 : decode b_PC_weightSum 12 = .ok (.iload_n 3, 1) := by decide +kernel
theorem d_PC_weightSum_13 : decode b_PC_weightSum 13 = .ok (.invokevirtual 114, 3) := by decide +kernel
theorem d_PC_weightSum_16 : decode b_PC_weightSum 16 = .ok (.ladd, 1) := by decide +kernel
theorem d_PC_weightSum_17 : decode b_PC_weightSum 17 = .ok (.aload_n 0, 1) := by decide +kernel
theorem d_PC_weightSum_18 : decode b_PC_weightSum 18 = .ok (.iload_n 1, 1) := by decide +kernel
theorem d_PC_weightSum_19 : decode b_PC_weightSum 19 = .ok (.iconst 2, 1) := by decide +kernel
theorem d_PC_weightSum_20 : decode b_PC_weightSum 20 = .ok (.iload_n 2, 1) := by decide +kernel
theorem d_PC_weightSum_21 : decode b_PC_weightSum 21 = .ok (.iload_n 3, 1) := by decide +kernel
theorem d_PC_weightSum_22 : decode b_PC_weightSum 22 = .ok (.invokevirtual 114, 3) := by decide +kernel
theorem d_PC_weightSum_25 : decode b_PC_weightSum 25 = .ok (.ladd, 1) := by decide +kernel
theorem d_PC_weightSum_26 : decode b_PC_weightSum 26 = .ok (.lreturn, 1) := by decide +kernel
