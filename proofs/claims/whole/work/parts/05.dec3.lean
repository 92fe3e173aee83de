theorem d_Mo_init_0 : decode b_Mo_init 0 = .ok (.aload_n 0, 1) := by decide +kernel
theorem d_Mo_init_1 : decode b_Mo_init 1 = .ok (.invokespecial 1, 3) := by decide +kernel
theorem d_Mo_init_4 : decode b_Mo_init 4 = .ok (.aload_n 0, 1) := by decide +kernel
theorem d_Mo_init_5 : decode b_Mo_init 5 = .ok (.bipush 32, 2) := by decide +kernel
theorem d_Mo_init_7 : decode b_Mo_init 7 = .ok (.putfield 7, 3) := by decide +kernel
theorem d_Mo_init_10 : decode b_Mo_init 10 = .ok (.aload_n 0, 1) := by decide +kernel
theorem d_Mo_init_11 : decode b_Mo_init 11 = .ok (.bipush 18, 2) := by decide +kernel
theorem d_Mo_init_13 : decode b_Mo_init 13 = .ok (.newarray .long, 2) := by decide +kernel
theorem d_Mo_init_15 : decode b_Mo_init 15 = .ok (.putfield 13, 3) := by decide +kernel
theorem d_Mo_init_18 : decode b_Mo_init 18 = .ok (.aload_n 0, 1) := by decide +kernel
theorem d_Mo_init_19 : decode b_Mo_init 19 = .ok (.bipush 120, 2) := by decide +kernel
theorem d_Mo_init_21 : decode b_Mo_init 21 = .ok (.newarray .long, 2) := by decide +kernel
theorem d_Mo_init_23 : decode b_Mo_init 23 = .ok (.putfield 17, 3) := by decide +kernel
theorem d_Mo_init_26 : decode b_Mo_init 26 = .ok (.aload_n 0, 1) := by decide +kernel
theorem d_Mo_init_27 : decode b_Mo_init 27 = .ok (.bipush 120, 2) := by decide +kernel
theorem d_Mo_init_29 : decode b_Mo_init 29 = .ok (.newarray .long, 2) := by decide +kernel
theorem d_Mo_init_31 : decode b_Mo_init 31 = .ok (.putfield 20, 3) := by decide +kernel
theorem d_Mo_init_34 : decode b_Mo_init 34 = .ok (.aload_n 0, 1) := by decide +kernel
theorem d_Mo_init_35 : decode b_Mo_init 35 = .ok (.sipush 324, 3) := by decide +kernel
theorem d_Mo_init_38 : decode b_Mo_init 38 = .ok (.newarray .long, 2) := by decide +kernel
theorem d_Mo_init_40 : decode b_Mo_init 40 = .ok (.putfield 23, 3) := by decide +kernel
theorem d_Mo_init_43 : decode b_Mo_init 43 = .ok (.aload_n 0, 1) := by decide +kernel
theorem d_Mo_init_44 : decode b_Mo_init 44 = .ok (.bipush 18, 2) := by decide +kernel
theorem d_Mo_init_46 : decode b_Mo_init 46 = .ok (.newarray .long, 2) := by decide +kernel
theorem d_Mo_init_48 : decode b_Mo_init 48 = .ok (.putfield 26, 3) := by decide +kernel
theorem d_Mo_init_51 : decode b_Mo_init 51 = .ok (.aload_n 0, 1) := by decide +kernel
theorem d_Mo_init_52 : decode b_Mo_init 52 = .ok (.iload_n 1, 1) := by decide +kernel
theorem d_Mo_init_53 : decode b_Mo_init 53 = .ok (.bipush 8, 2) := by decide +kernel
theorem d_Mo_init_55 : decode b_Mo_init 55 = .ok (.if_icmp .ge 8, 3) := by decide +kernel
theorem d_Mo_init_58 : decode b_Mo_init 58 = .ok (.bipush 8, 2) := by decide +kernel
theorem d_Mo_init_60 : decode b_Mo_init 60 = .ok (.goto 15, 3) := by decide +kernel
theorem d_Mo_init_63 : decode b_Mo_init 63 = .ok (.iload_n 1, 1) := by decide +kernel
theorem d_Mo_init_64 : decode b_Mo_init 64 = .ok (.bipush 48, 2) := by decide +kernel
theorem d_Mo_init_66 : decode b_Mo_init 66 = .ok (.if_icmp .le 8, 3) := by decide +kernel
theorem d_Mo_init_69 : decode b_Mo_init 69 = .ok (.bipush 48, 2) := by decide +kernel
theorem d_Mo_init_71 : decode b_Mo_init 71 = .ok (.goto 4, 3) := by decide +kernel
theorem d_Mo_init_74 : decode b_Mo_init 74 = .ok (.iload_n 1, 1) := by decide +kernel
theorem d_Mo_init_75 : decode b_Mo_init 75 = .ok (.putfield 29, 3) := by decide +kernel
theorem d_Mo_init_78 : decode b_Mo_init 78 = .ok (.aload_n 0, 1) := by decide +kernel
theorem d_Mo_init_79 : decode b_Mo_init 79 = .ok (.iload_n 2, 1) := by decide +kernel
theorem d_Mo_init_80 : decode b_Mo_init 80 = .ok (.bipush 8, 2) := by decide +kernel
theorem d_Mo_init_82 : decode b_Mo_init 82 = .ok (.if_icmp .ge 8, 3) := by decide +kernel
theorem d_Mo_init_85 : decode b_Mo_init 85 = .ok (.bipush 8, 2) := by decide +kernel
theorem d_Mo_init_87 : decode b_Mo_init 87 = .ok (.goto 15, 3) := by decide +kernel
theorem d_Mo_init_90 : decode b_Mo_init 90 = .ok (.iload_n 2, 1) := by decide +kernel
theorem d_Mo_init_91 : decode b_Mo_init 91 = .ok (.bipush 48, 2) := by decide +kernel
theorem d_Mo_init_93 : decode b_Mo_init 93 = .ok (.if_icmp .le 8, 3) := by decide +kernel
theorem d_Mo_init_96 : decode b_Mo_init 96 = .ok (.bipush 48, 2) := by decide +kernel
theorem d_Mo_init_98 : decode b_Mo_init 98 = .ok (.goto 4, 3) := by decide +kernel
theorem d_Mo_init_101 : decode b_Mo_init 101 = .ok (.iload_n 2, 1) := by decide +kernel
theorem d_Mo_init_102 : decode b_Mo_init 102 = .ok (.putfield 32, 3) := by decide +kernel
theorem d_Mo_init_105 : decode b_Mo_init 105 = .ok (.return_, 1) := by decide +kernel
theorem d_Mo_div_0 : decode b_Mo_div 0 = .ok (.lload_n 0, 1) := by decide +kernel
theorem d_Mo_div_1 : decode b_Mo_div 1 = .ok (.lload_n 2, 1) := by decide +kernel
theorem d_Mo_div_2 : decode b_Mo_div 2 = .ok (.ldiv, 1) := by decide +kernel
theorem d_Mo_div_3 : decode b_Mo_div 3 = .ok (.lstore 4, 2) := by decide +kernel
theorem d_Mo_div_5 : decode b_Mo_div 5 = .ok (.lload 4, 2) := by decide +kernel
theorem d_Mo_div_7 : decode b_Mo_div 7 = .ok (.lload_n 2, 1) := by decide +kernel
theorem d_Mo_div_8 : decode b_Mo_div 8 = .ok (.lmul, 1) := by decide +kernel
theorem d_Mo_div_9 : decode b_Mo_div 9 = .ok (.lload_n 0, 1) := by decide +kernel
theorem d_Mo_div_10 : decode b_Mo_div 10 = .ok (.lcmp, 1) := by decide +kernel
theorem d_Mo_div_11 : decode b_Mo_div 11 = .ok (.ifCond .le 10, 3) := by decide +kernel
theorem d_Mo_div_14 : decode b_Mo_div 14 = .ok (.lload 4, 2) := by decide +kernel
theorem d_Mo_div_16 : decode b_Mo_div 16 = .ok (.lconst 1, 1) := by decide +kernel
theorem d_Mo_div_17 : decode b_Mo_div 17 = .ok (.lsub, 1) := by decide +kernel
theorem d_Mo_div_18 : decode b_Mo_div 18 = .ok (.goto 5, 3) := by decide +kernel
theorem d_Mo_div_21 : decode b_Mo_div 21 = .ok (.lload 4, 2) := by decide +kernel
theorem d_Mo_div_23 : decode b_Mo_div 23 = .ok (.lreturn, 1) := by decide +kernel
theorem d_Mo_within_0 : decode b_Mo_within 0 = .ok (.iload_n 0, 1) := by decide +kernel
theorem d_Mo_within_1 : decode b_Mo_within 1 = .ok (.iload_n 1, 1) := by decide +kernel
theorem d_Mo_within_2 : decode b_Mo_within 2 = .ok (.if_icmp .lt 12, 3) := by decide +kernel
theorem d_Mo_within_5 : decode b_Mo_within 5 = .ok (.iload_n 0, 1) := by decide +kernel
theorem d_Mo_within_6 : decode b_Mo_within 6 = .ok (.iload_n 2, 1) := by decide +kernel
theorem d_Mo_within_7 : decode b_Mo_within 7 = .ok (.if_icmp .gt 7, 3) := by decide +kernel
theorem d_Mo_within_10 : decode b_Mo_within 10 = .ok (.iconst 1, 1) := by decide +kernel
theorem d_Mo_within_11 : decode b_Mo_within 11 = .ok (.goto 4, 3) := by decide +kernel
theorem d_Mo_within_14 : decode b_Mo_within 14 = .ok (.iconst 0, 1) := by decide +kernel
theorem d_Mo_within_15 : decode b_Mo_within 15 = .ok (.ireturn, 1) := by decide +kernel
theorem d_Mo_focus_0 : decode b_Mo_focus 0 = .ok (.aload_n 0, 1) := by decide +kernel
theorem d_Mo_focus_1 : decode b_Mo_focus 1 = .ok (.iconst 0, 1) := by decide +kernel
theorem d_Mo_focus_2 : decode b_Mo_focus 2 = .ok (.putfield 35, 3) := by decide +kernel
theorem d_Mo_focus_5 : decode b_Mo_focus 5 = .ok (.iload_n 1, 1) := by decide +kernel
theorem d_Mo_focus_6 : decode b_Mo_focus 6 = .ok (.bipush 8, 2) := by decide +kernel
theorem d_Mo_focus_8 : decode b_Mo_focus 8 = .ok (.sipush 512, 3) := by decide +kernel
theorem d_Mo_focus_11 : decode b_Mo_focus 11 = .ok (.invokestatic 38, 3) := by decide +kernel
theorem d_Mo_focus_14 : decode b_Mo_focus 14 = .ok (.ifCond .ne 5, 3) := by decide +kernel
theorem d_Mo_focus_17 : decode b_Mo_focus 17 = .ok (.iconst 0, 1) := by decide +kernel
theorem d_Mo_focus_18 : decode b_Mo_focus 18 = .ok (.ireturn, 1) := by decide +kernel
theorem d_Mo_focus_19 : decode b_Mo_focus 19 = .ok (.aload_n 0, 1) := by decide +kernel
theorem d_Mo_focus_20 : decode b_Mo_focus 20 = .ok (.iload_n 1, 1) := by decide +kernel
theorem d_Mo_focus_21 : decode b_Mo_focus 21 = .ok (.putfield 7, 3) := by decide +kernel
theorem d_Mo_focus_24 : decode b_Mo_focus 24 = .ok (.iconst 1, 1) := by decide +kernel
theorem d_Mo_focus_25 : decode b_Mo_focus 25 = .ok (.ireturn, 1) := by decide +kernel
theorem d_Mo_far_0 : decode b_Mo_far 0 = .ok (.iload_n 0, 1) := by decide +kernel
theorem d_Mo_far_1 : decode b_Mo_far 1 = .ok (.ldc 42, 2) := by decide +kernel
theorem d_Mo_far_3 : decode b_Mo_far 3 = .ok (.ldc 43, 2) := by decide +kernel
theorem d_Mo_far_5 : decode b_Mo_far 5 = .ok (.invokestatic 38, 3) := by decide +kernel
theorem d_Mo_far_8 : decode b_Mo_far 8 = .ok (.ireturn, 1) := by decide +kernel
theorem d_Mo_place_0 : decode b_Mo_place 0 = .ok (.aload_n 0, 1) := by decide +kernel
theorem d_Mo_place_1 : decode b_Mo_place 1 = .ok (.iconst 0, 1) := by decide +kernel
theorem d_Mo_place_2 : decode b_Mo_place 2 = .ok (.putfield 35, 3) := by decide +kernel
theorem d_Mo_place_5 : decode b_Mo_place 5 = .ok (.iload_n 1, 1) := by decide +kernel
theorem d_Mo_place_6 : decode b_Mo_place 6 = .ok (.iconst 0, 1) := by decide +kernel
theorem d_Mo_place_7 : decode b_Mo_place 7 = .ok (.iconst 2, 1) := by decide +kernel
theorem d_Mo_place_8 : decode b_Mo_place 8 = .ok (.invokestatic 38, 3) := by decide +kernel
theorem d_Mo_place_11 : decode b_Mo_place 11 = .ok (.ifCond .eq 25, 3) := by decide +kernel
theorem d_Mo_place_14 : decode b_Mo_place 14 = .ok (.iload_n 2, 1) := by decide +kernel
theorem d_Mo_place_15 : decode b_Mo_place 15 = .ok (.invokestatic 44, 3) := by decide +kernel
theorem d_Mo_place_18 : decode b_Mo_place 18 = .ok (.ifCond .eq 18, 3) := by decide +kernel
theorem d_Mo_place_21 : decode b_Mo_place 21 = .ok (.iload_n 3, 1) := by decide +kernel
theorem d_Mo_place_22 : decode b_Mo_place 22 = .ok (.invokestatic 44, 3) := by decide +kernel
theorem d_Mo_place_25 : decode b_Mo_place 25 = .ok (.ifCond .eq 11, 3) := by decide +kernel
theorem d_Mo_place_28 : decode b_Mo_place 28 = .ok (.iload 4, 2) := by decide +kernel
theorem d_Mo_place_30 : decode b_Mo_place 30 = .ok (.invokestatic 44, 3) := by decide +kernel
theorem d_Mo_place_33 : decode b_Mo_place 33 = .ok (.ifCond .ne 5, 3) := by decide +kernel
theorem d_Mo_place_36 : decode b_Mo_place 36 = .ok (.iconst 0, 1) := by decide +kernel
theorem d_Mo_place_37 : decode b_Mo_place 37 = .ok (.ireturn, 1) := by decide +kernel
theorem d_Mo_place_38 : decode b_Mo_place 38 = .ok (.aload_n 0, 1) := by decide +kernel
theorem d_Mo_place_39 : decode b_Mo_place 39 = .ok (.getfield 13, 3) := by decide +kernel
theorem d_Mo_place_42 : decode b_Mo_place 42 = .ok (.bipush 6, 2) := by decide +kernel
theorem d_Mo_place_44 : decode b_Mo_place 44 = .ok (.iload_n 1, 1) := by decide +kernel
theorem d_Mo_place_45 : decode b_Mo_place 45 = .ok (.imul, 1) := by decide +kernel
theorem d_Mo_place_46 : decode b_Mo_place 46 = .ok (.iload_n 2, 1) := by decide +kernel
theorem d_Mo_place_47 : decode b_Mo_place 47 = .ok (.i2l, 1) := by decide +kernel
theorem d_Mo_place_48 : decode b_Mo_place 48 = .ok (.lastore, 1) := by decide +kernel
theorem d_Mo_place_49 : decode b_Mo_place 49 = .ok (.aload_n 0, 1) := by decide +kernel
theorem d_Mo_place_50 : decode b_Mo_place 50 = .ok (.getfield 13, 3) := by decide +kernel
theorem d_Mo_place_53 : decode b_Mo_place 53 = .ok (.bipush 6, 2) := by decide +kernel
theorem d_Mo_place_55 : decode b_Mo_place 55 = .ok (.iload_n 1, 1) := by decide +kernel
theorem d_Mo_place_56 : decode b_Mo_place 56 = .ok (.imul, 1) := by decide +kernel
theorem d_Mo_place_57 : decode b_Mo_place 57 = .ok (.iconst 1, 1) := by decide +kernel
theorem d_Mo_place_58 : decode b_Mo_place 58 = .ok (.iadd, 1) := by decide +kernel
theorem d_Mo_place_59 : decode b_Mo_place 59 = .ok (.iload_n 3, 1) := by decide +kernel
theorem d_Mo_place_60 : decode b_Mo_place 60 = .ok (.i2l, 1) := by decide +kernel
theorem d_Mo_place_61 : decode b_Mo_place 61 = .ok (.lastore, 1) := by decide +kernel
theorem d_Mo_place_62 : decode b_Mo_place 62 = .ok (.aload_n 0, 1) := by decide +kernel
theorem d_Mo_place_63 : decode b_Mo_place 63 = .ok (.getfield 13, 3) := by decide +kernel
theorem d_Mo_place_66 : decode b_Mo_place 66 = .ok (.bipush 6, 2) := by decide +kernel
theorem d_Mo_place_68 : decode b_Mo_place 68 = .ok (.iload_n 1, 1) := by decide +kernel
theorem d_Mo_place_69 : decode b_Mo_place 69 = .ok (.imul, 1) := by decide +kernel
theorem d_Mo_place_70 : decode b_Mo_place 70 = .ok (.iconst 2, 1) := by decide +kernel
theorem d_Mo_place_71 : decode b_Mo_place 71 = .ok (.iadd, 1) := by decide +kernel
theorem d_Mo_place_72 : decode b_Mo_place 72 = .ok (.iload 4, 2) := by decide +kernel
theorem d_Mo_place_74 : decode b_Mo_place 74 = .ok (.i2l, 1) := by decide +kernel
theorem d_Mo_place_75 : decode b_Mo_place 75 = .ok (.lastore, 1) := by decide +kernel
theorem d_Mo_place_76 : decode b_Mo_place 76 = .ok (.iconst 1, 1) := by decide +kernel
theorem d_Mo_place_77 : decode b_Mo_place 77 = .ok (.ireturn, 1) := by decide +kernel
theorem d_Mo_paint_0 : decode b_Mo_paint 0 = .ok (.aload_n 0, 1) := by decide +kernel
theorem d_Mo_paint_1 : decode b_Mo_paint 1 = .ok (.iconst 0, 1) := by decide +kernel
theorem d_Mo_paint_2 : decode b_Mo_paint 2 = .ok (.putfield 35, 3) := by decide +kernel
theorem d_Mo_paint_5 : decode b_Mo_paint 5 = .ok (.iload_n 1, 1) := by decide +kernel
theorem d_Mo_paint_6 : decode b_Mo_paint 6 = .ok (.iconst 0, 1) := by decide +kernel
theorem d_Mo_paint_7 : decode b_Mo_paint 7 = .ok (.iconst 2, 1) := by decide +kernel
theorem d_Mo_paint_8 : decode b_Mo_paint 8 = .ok (.invokestatic 38, 3) := by decide +kernel
theorem d_Mo_paint_11 : decode b_Mo_paint 11 = .ok (.ifCond .eq 36, 3) := by decide +kernel
theorem d_Mo_paint_14 : decode b_Mo_paint 14 = .ok (.iload_n 2, 1) := by decide +kernel
theorem d_Mo_paint_15 : decode b_Mo_paint 15 = .ok (.ldc 48, 2) := by decide +kernel
theorem d_Mo_paint_17 : decode b_Mo_paint 17 = .ok (.ldc 49, 2) := by decide +kernel
theorem d_Mo_paint_19 : decode b_Mo_paint 19 = .ok (.invokestatic 38, 3) := by decide +kernel
theorem d_Mo_paint_22 : decode b_Mo_paint 22 = .ok (.ifCond .eq 25, 3) := by decide +kernel
theorem d_Mo_paint_25 : decode b_Mo_paint 25 = .ok (.iload_n 3, 1) := by decide +kernel
theorem d_Mo_paint_26 : decode b_Mo_paint 26 = .ok (.ldc 48, 2) := by decide +kernel
theorem d_Mo_paint_28 : decode b_Mo_paint 28 = .ok (.ldc 49, 2) := by decide +kernel
theorem d_Mo_paint_30 : decode b_Mo_paint 30 = .ok (.invokestatic 38, 3) := by decide +kernel
theorem d_Mo_paint_33 : decode b_Mo_paint 33 = .ok (.ifCond .eq 14, 3) := by decide +kernel
theorem d_Mo_paint_36 : decode b_Mo_paint 36 = .ok (.iload 4, 2) := by decide +kernel
theorem d_Mo_paint_38 : decode b_Mo_paint 38 = .ok (.iconst 0, 1) := by decide +kernel
theorem d_Mo_paint_39 : decode b_Mo_paint 39 = .ok (.ldc 50, 2) := by decide +kernel
theorem d_Mo_paint_41 : decode b_Mo_paint 41 = .ok (.invokestatic 38, 3) := by decide +kernel
theorem d_Mo_paint_44 : decode b_Mo_paint 44 = .ok (.ifCond .ne 5, 3) := by decide +kernel
theorem d_Mo_paint_47 : decode b_Mo_paint 47 = .ok (.iconst 0, 1) := by decide +kernel
theorem d_Mo_paint_48 : decode b_Mo_paint 48 = .ok (.ireturn, 1) := by decide +kernel
theorem d_Mo_paint_49 : decode b_Mo_paint 49 = .ok (.aload_n 0, 1) := by decide +kernel
theorem d_Mo_paint_50 : decode b_Mo_paint 50 = .ok (.getfield 13, 3) := by decide +kernel
theorem d_Mo_paint_53 : decode b_Mo_paint 53 = .ok (.bipush 6, 2) := by decide +kernel
theorem d_Mo_paint_55 : decode b_Mo_paint 55 = .ok (.iload_n 1, 1) := by decide +kernel
theorem d_Mo_paint_56 : decode b_Mo_paint 56 = .ok (.imul, 1) := by decide +kernel
theorem d_Mo_paint_57 : decode b_Mo_paint 57 = .ok (.iconst 3, 1) := by decide +kernel
theorem d_Mo_paint_58 : decode b_Mo_paint 58 = .ok (.iadd, 1) := by decide +kernel
theorem d_Mo_paint_59 : decode b_Mo_paint 59 = .ok (.iload_n 2, 1) := by decide +kernel
theorem d_Mo_paint_60 : decode b_Mo_paint 60 = .ok (.i2l, 1) := by decide +kernel
theorem d_Mo_paint_61 : decode b_Mo_paint 61 = .ok (.lastore, 1) := by decide +kernel
theorem d_Mo_paint_62 : decode b_Mo_paint 62 = .ok (.aload_n 0, 1) := by decide +kernel
theorem d_Mo_paint_63 : decode b_Mo_paint 63 = .ok (.getfield 13, 3) := by decide +kernel
theorem d_Mo_paint_66 : decode b_Mo_paint 66 = .ok (.bipush 6, 2) := by decide +kernel
theorem d_Mo_paint_68 : decode b_Mo_paint 68 = .ok (.iload_n 1, 1) := by decide +kernel
theorem d_Mo_paint_69 : decode b_Mo_paint 69 = .ok (.imul, 1) := by decide +kernel
theorem d_Mo_paint_70 : decode b_Mo_paint 70 = .ok (.iconst 4, 1) := by decide +kernel
theorem d_Mo_paint_71 : decode b_Mo_paint 71 = .ok (.iadd, 1) := by decide +kernel
theorem d_Mo_paint_72 : decode b_Mo_paint 72 = .ok (.iload_n 3, 1) := by decide +kernel
theorem d_Mo_paint_73 : decode b_Mo_paint 73 = .ok (.i2l, 1) := by decide +kernel
theorem d_Mo_paint_74 : decode b_Mo_paint 74 = .ok (.lastore, 1) := by decide +kernel
theorem d_Mo_paint_75 : decode b_Mo_paint 75 = .ok (.aload_n 0, 1) := by decide +kernel
theorem d_Mo_paint_76 : decode b_Mo_paint 76 = .ok (.getfield 13, 3) := by decide +kernel
theorem d_Mo_paint_79 : decode b_Mo_paint 79 = .ok (.bipush 6, 2) := by decide +kernel
theorem d_Mo_paint_81 : decode b_Mo_paint 81 = .ok (.iload_n 1, 1) := by decide +kernel
theorem d_Mo_paint_82 : decode b_Mo_paint 82 = .ok (.imul, 1) := by decide +kernel
theorem d_Mo_paint_83 : decode b_Mo_paint 83 = .ok (.iconst 5, 1) := by decide +kernel
theorem d_Mo_paint_84 : decode b_Mo_paint 84 = .ok (.iadd, 1) := by decide +kernel
theorem d_Mo_paint_85 : decode b_Mo_paint 85 = .ok (.iload 4, 2) := by decide +kernel
theorem d_Mo_paint_87 : decode b_Mo_paint 87 = .ok (.i2l, 1) := by decide +kernel
theorem d_Mo_paint_88 : decode b_Mo_paint 88 = .ok (.lastore, 1) := by decide +kernel
theorem d_Mo_paint_89 : decode b_Mo_paint 89 = .ok (.iconst 1, 1) := by decide +kernel
theorem d_Mo_paint_90 : decode b_Mo_paint 90 = .ok (.ireturn, 1) := by decide +kernel
theorem d_Mo_number2_0 : decode b_Mo_number2 0 = .ok (.aload_n 0, 1) := by decide +kernel
theorem d_Mo_number2_1 : decode b_Mo_number2 1 = .ok (.getfield 17, 3) := by decide +kernel
theorem d_Mo_number2_4 : decode b_Mo_number2 4 = .ok (.bipush 6, 2) := by decide +kernel
theorem d_Mo_number2_6 : decode b_Mo_number2 6 = .ok (.iload_n 2, 1) := by decide +kernel
theorem d_Mo_number2_7 : decode b_Mo_number2 7 = .ok (.imul, 1) := by decide +kernel
theorem d_Mo_number2_8 : decode b_Mo_number2 8 = .ok (.laload, 1) := by decide +kernel
theorem d_Mo_number2_9 : decode b_Mo_number2 9 = .ok (.lstore_n 3, 1) := by decide +kernel
theorem d_Mo_number2_10 : decode b_Mo_number2 10 = .ok (.aload_n 0, 1) := by decide +kernel
theorem d_Mo_number2_11 : decode b_Mo_number2 11 = .ok (.getfield 17, 3) := by decide +kernel
theorem d_Mo_number2_14 : decode b_Mo_number2 14 = .ok (.bipush 6, 2) := by decide +kernel
theorem d_Mo_number2_16 : decode b_Mo_number2 16 = .ok (.iload_n 2, 1) := by decide +kernel
theorem d_Mo_number2_17 : decode b_Mo_number2 17 = .ok (.imul, 1) := by decide +kernel
theorem d_Mo_number2_18 : decode b_Mo_number2 18 = .ok (.iconst 1, 1) := by decide +kernel
theorem d_Mo_number2_19 : decode b_Mo_number2 19 = .ok (.iadd, 1) := by decide +kernel
theorem d_Mo_number2_20 : decode b_Mo_number2 20 = .ok (.laload, 1) := by decide +kernel
theorem d_Mo_number2_21 : decode b_Mo_number2 21 = .ok (.lstore 5, 2) := by decide +kernel
theorem d_Mo_number2_23 : decode b_Mo_number2 23 = .ok (.aload_n 0, 1) := by decide +kernel
theorem d_Mo_number2_24 : decode b_Mo_number2 24 = .ok (.getfield 17, 3) := by decide +kernel
theorem d_Mo_number2_27 : decode b_Mo_number2 27 = .ok (.bipush 6, 2) := by decide +kernel
theorem d_Mo_number2_29 : decode b_Mo_number2 29 = .ok (.iload_n 2, 1) := by decide +kernel
theorem d_Mo_number2_30 : decode b_Mo_number2 30 = .ok (.imul, 1) := by decide +kernel
theorem d_Mo_number2_31 : decode b_Mo_number2 31 = .ok (.iconst 2, 1) := by decide +kernel
theorem d_Mo_number2_32 : decode b_Mo_number2 32 = .ok (.iadd, 1) := by decide +kernel
theorem d_Mo_number2_33 : decode b_Mo_number2 33 = .ok (.laload, 1) := by decide +kernel
theorem d_Mo_number2_34 : decode b_Mo_number2 34 = .ok (.lstore 7, 2) := by decide +kernel
theorem d_Mo_number2_36 : decode b_Mo_number2 36 = .ok (.iload_n 1, 1) := by decide +kernel
theorem d_Mo_number2_37 : decode b_Mo_number2 37 = .ok (.tableswitch 90 0 3 #[31, 38, 55, 72], 31) := by decide +kernel
theorem d_Mo_number2_68 : decode b_Mo_number2 68 = .ok (.lload 7, 2) := by decide +kernel
theorem d_Mo_number2_70 : decode b_Mo_number2 70 = .ok (.ldc2_w 51, 3) := by decide +kernel
theorem d_Mo_number2_73 : decode b_Mo_number2 73 = .ok (.lsub, 1) := by decide +kernel
theorem d_Mo_number2_74 : decode b_Mo_number2 74 = .ok (.lreturn, 1) := by decide +kernel
theorem d_Mo_number2_75 : decode b_Mo_number2 75 = .ok (.aload_n 0, 1) := by decide +kernel
theorem d_Mo_number2_76 : decode b_Mo_number2 76 = .ok (.getfield 7, 3) := by decide +kernel
theorem d_Mo_number2_79 : decode b_Mo_number2 79 = .ok (.i2l, 1) := by decide +kernel
theorem d_Mo_number2_80 : decode b_Mo_number2 80 = .ok (.lload_n 3, 1) := by decide +kernel
theorem d_Mo_number2_81 : decode b_Mo_number2 81 = .ok (.lmul, 1) := by decide +kernel
theorem d_Mo_number2_82 : decode b_Mo_number2 82 = .ok (.aload_n 0, 1) := by decide +kernel
theorem d_Mo_number2_83 : decode b_Mo_number2 83 = .ok (.getfield 29, 3) := by decide +kernel
theorem d_Mo_number2_86 : decode b_Mo_number2 86 = .ok (.i2l, 1) := by decide +kernel
theorem d_Mo_number2_87 : decode b_Mo_number2 87 = .ok (.lload 7, 2) := by decide +kernel
theorem d_Mo_number2_89 : decode b_Mo_number2 89 = .ok (.lmul, 1) := by decide +kernel
theorem d_Mo_number2_90 : decode b_Mo_number2 90 = .ok (.ladd, 1) := by decide +kernel
theorem d_Mo_number2_91 : decode b_Mo_number2 91 = .ok (.lreturn, 1) := by decide +kernel
theorem d_Mo_number2_92 : decode b_Mo_number2 92 = .ok (.aload_n 0, 1) := by decide +kernel
theorem d_Mo_number2_93 : decode b_Mo_number2 93 = .ok (.getfield 29, 3) := by decide +kernel
theorem d_Mo_number2_96 : decode b_Mo_number2 96 = .ok (.i2l, 1) := by decide +kernel
theorem d_Mo_number2_97 : decode b_Mo_number2 97 = .ok (.lload 7, 2) := by decide +kernel
theorem d_Mo_number2_99 : decode b_Mo_number2 99 = .ok (.lmul, 1) := by decide +kernel
theorem d_Mo_number2_100 : decode b_Mo_number2 100 = .ok (.aload_n 0, 1) := by decide +kernel
theorem d_Mo_number2_101 : decode b_Mo_number2 101 = .ok (.getfield 7, 3) := by decide +kernel
theorem d_Mo_number2_104 : decode b_Mo_number2 104 = .ok (.i2l, 1) := by decide +kernel
theorem d_Mo_number2_105 : decode b_Mo_number2 105 = .ok (.lload_n 3, 1) := by decide +kernel
theorem d_Mo_number2_106 : decode b_Mo_number2 106 = .ok (.lmul, 1) := by decide +kernel
theorem d_Mo_number2_107 : decode b_Mo_number2 107 = .ok (.lsub, 1) := by decide +kernel
theorem d_Mo_number2_108 : decode b_Mo_number2 108 = .ok (.lreturn, 1) := by decide +kernel
theorem d_Mo_number2_109 : decode b_Mo_number2 109 = .ok (.aload_n 0, 1) := by decide +kernel
theorem d_Mo_number2_110 : decode b_Mo_number2 110 = .ok (.getfield 7, 3) := by decide +kernel
theorem d_Mo_number2_113 : decode b_Mo_number2 113 = .ok (.i2l, 1) := by decide +kernel
theorem d_Mo_number2_114 : decode b_Mo_number2 114 = .ok (.lload 5, 2) := by decide +kernel
theorem d_Mo_number2_116 : decode b_Mo_number2 116 = .ok (.lmul, 1) := by decide +kernel
theorem d_Mo_number2_117 : decode b_Mo_number2 117 = .ok (.aload_n 0, 1) := by decide +kernel
theorem d_Mo_number2_118 : decode b_Mo_number2 118 = .ok (.getfield 32, 3) := by decide +kernel
theorem d_Mo_number2_121 : decode b_Mo_number2 121 = .ok (.i2l, 1) := by decide +kernel
theorem d_Mo_number2_122 : decode b_Mo_number2 122 = .ok (.lload 7, 2) := by decide +kernel
theorem d_Mo_number2_124 : decode b_Mo_number2 124 = .ok (.lmul, 1) := by decide +kernel
theorem d_Mo_number2_125 : decode b_Mo_number2 125 = .ok (.ladd, 1) := by decide +kernel
theorem d_Mo_number2_126 : decode b_Mo_number2 126 = .ok (.lreturn, 1) := by decide +kernel
theorem d_Mo_number2_127 : decode b_Mo_number2 127 = .ok (.aload_n 0, 1) := by decide +kernel
theorem d_Mo_number2_128 : decode b_Mo_number2 128 = .ok (.getfield 32, 3) := by decide +kernel
theorem d_Mo_number2_131 : decode b_Mo_number2 131 = .ok (.i2l, 1) := by decide +kernel
theorem d_Mo_number2_132 : decode b_Mo_number2 132 = .ok (.lload 7, 2) := by decide +kernel
theorem d_Mo_number2_134 : decode b_Mo_number2 134 = .ok (.lmul, 1) := by decide +kernel
theorem d_Mo_number2_135 : decode b_Mo_number2 135 = .ok (.aload_n 0, 1) := by decide +kernel
theorem d_Mo_number2_136 : decode b_Mo_number2 136 = .ok (.getfield 7, 3) := by decide +kernel
theorem d_Mo_number2_139 : decode b_Mo_number2 139 = .ok (.i2l, 1) := by decide +kernel
theorem d_Mo_number2_140 : decode b_Mo_number2 140 = .ok (.lload 5, 2) := by decide +kernel
theorem d_Mo_number2_142 : decode b_Mo_number2 142 = .ok (.lmul, 1) := by decide +kernel
theorem d_Mo_number2_143 : decode b_Mo_number2 143 = .ok (.lsub, 1) := by decide +kernel
theorem d_Mo_number2_144 : decode b_Mo_number2 144 = .ok (.lreturn, 1) := by decide +kernel
theorem d_Mo_between_0 : decode b_Mo_between 0 = .ok (.iconst 0, 1) := by decide +kernel
theorem d_Mo_between_1 : decode b_Mo_between 1 = .ok (.istore 7, 2) := by decide +kernel
theorem d_Mo_between_3 : decode b_Mo_between 3 = .ok (.iload 7, 2) := by decide +kernel
theorem d_Mo_between_5 : decode b_Mo_between 5 = .ok (.bipush 6, 2) := by decide +kernel
theorem d_Mo_between_7 : decode b_Mo_between 7 = .ok (.if_icmp .ge 72, 3) := by decide +kernel
theorem d_Mo_between_10 : decode b_Mo_between 10 = .ok (.aload_n 0, 1) := by decide +kernel
theorem d_Mo_between_11 : decode b_Mo_between 11 = .ok (.getfield 20, 3) := by decide +kernel
theorem d_Mo_between_14 : decode b_Mo_between 14 = .ok (.bipush 6, 2) := by decide +kernel
theorem d_Mo_between_16 : decode b_Mo_between 16 = .ok (.aload_n 0, 1) := by decide +kernel
theorem d_Mo_between_17 : decode b_Mo_between 17 = .ok (.getfield 53, 3) := by decide +kernel
theorem d_Mo_between_20 : decode b_Mo_between 20 = .ok (.imul, 1) := by decide +kernel
theorem d_Mo_between_21 : decode b_Mo_between 21 = .ok (.iload 7, 2) := by decide +kernel
theorem d_Mo_between_23 : decode b_Mo_between 23 = .ok (.iadd, 1) := by decide +kernel
theorem d_Mo_between_24 : decode b_Mo_between 24 = .ok (.aload_n 0, 1) := by decide +kernel
theorem d_Mo_between_25 : decode b_Mo_between 25 = .ok (.getfield 17, 3) := by decide +kernel
theorem d_Mo_between_28 : decode b_Mo_between 28 = .ok (.bipush 6, 2) := by decide +kernel
theorem d_Mo_between_30 : decode b_Mo_between 30 = .ok (.iload_n 1, 1) := by decide +kernel
theorem d_Mo_between_31 : decode b_Mo_between 31 = .ok (.imul, 1) := by decide +kernel
theorem d_Mo_between_32 : decode b_Mo_between 32 = .ok (.iload 7, 2) := by decide +kernel
theorem d_Mo_between_34 : decode b_Mo_between 34 = .ok (.iadd, 1) := by decide +kernel
theorem d_Mo_between_35 : decode b_Mo_between 35 = .ok (.laload, 1) := by decide +kernel
theorem d_Mo_between_36 : decode b_Mo_between 36 = .ok (.aload_n 0, 1) := by decide +kernel
theorem d_Mo_between_37 : decode b_Mo_between 37 = .ok (.getfield 17, 3) := by decide +kernel
theorem d_Mo_between_40 : decode b_Mo_between 40 = .ok (.bipush 6, 2) := by decide +kernel
theorem d_Mo_between_42 : decode b_Mo_between 42 = .ok (.iload 4, 2) := by decide +kernel
theorem d_Mo_between_44 : decode b_Mo_between 44 = .ok (.imul, 1) := by decide +kernel
theorem d_Mo_between_45 : decode b_Mo_between 45 = .ok (.iload 7, 2) := by decide +kernel
theorem d_Mo_between_47 : decode b_Mo_between 47 = .ok (.iadd, 1) := by decide +kernel
theorem d_Mo_between_48 : decode b_Mo_between 48 = .ok (.laload, 1) := by decide +kernel
theorem d_Mo_between_49 : decode b_Mo_between 49 = .ok (.aload_n 0, 1) := by decide +kernel
theorem d_Mo_between_50 : decode b_Mo_between 50 = .ok (.getfield 17, 3) := by decide +kernel
theorem d_Mo_between_53 : decode b_Mo_between 53 = .ok (.bipush 6, 2) := by decide +kernel
theorem d_Mo_between_55 : decode b_Mo_between 55 = .ok (.iload_n 1, 1) := by decide +kernel
theorem d_Mo_between_56 : decode b_Mo_between 56 = .ok (.imul, 1) := by decide +kernel
theorem d_Mo_between_57 : decode b_Mo_between 57 = .ok (.iload 7, 2) := by decide +kernel
theorem d_Mo_between_59 : decode b_Mo_between 59 = .ok (.iadd, 1) := by decide +kernel
theorem d_Mo_between_60 : decode b_Mo_between 60 = .ok (.laload, 1) := by decide +kernel
theorem d_Mo_between_61 : decode b_Mo_between 61 = .ok (.lsub, 1) := by decide +kernel
theorem d_Mo_between_62 : decode b_Mo_between 62 = .ok (.lload_n 2, 1) := by decide +kernel
theorem d_Mo_between_63 : decode b_Mo_between 63 = .ok (.lmul, 1) := by decide +kernel
theorem d_Mo_between_64 : decode b_Mo_between 64 = .ok (.lload_n 2, 1) := by decide +kernel
theorem d_Mo_between_65 : decode b_Mo_between 65 = .ok (.lload 5, 2) := by decide +kernel
theorem d_Mo_between_67 : decode b_Mo_between 67 = .ok (.lsub, 1) := by decide +kernel
theorem d_Mo_between_68 : decode b_Mo_between 68 = .ok (.invokestatic 56, 3) := by decide +kernel
theorem d_Mo_between_71 : decode b_Mo_between 71 = .ok (.ladd, 1) := by decide +kernel
theorem d_Mo_between_72 : decode b_Mo_between 72 = .ok (.lastore, 1) := by decide +kernel
theorem d_Mo_between_73 : decode b_Mo_between 73 = .ok (.iinc 7 1, 3) := by decide +kernel
theorem d_Mo_between_76 : decode b_Mo_between 76 = .ok (.goto (-73), 3) := by decide +kernel
theorem d_Mo_between_79 : decode b_Mo_between 79 = .ok (.aload_n 0, 1) := by decide +kernel
theorem d_Mo_between_80 : decode b_Mo_between 80 = .ok (.dup, 1) := by decide +kernel
theorem d_Mo_between_81 : decode b_Mo_between 81 = .ok (.getfield 53, 3) := by decide +kernel
theorem d_Mo_between_84 : decode b_Mo_between 84 = .ok (.iconst 1, 1) := by decide +kernel
theorem d_Mo_between_85 : decode b_Mo_between 85 = .ok (.iadd, 1) := by decide +kernel
theorem d_Mo_between_86 : decode b_Mo_between 86 = .ok (.putfield 53, 3) := by decide +kernel
theorem d_Mo_between_89 : decode b_Mo_between 89 = .ok (.return_, 1) := by decide +kernel
theorem d_Mo_cutBy_0 : decode b_Mo_cutBy 0 = .ok (.aload_n 0, 1) := by decide +kernel
theorem d_Mo_cutBy_1 : decode b_Mo_cutBy 1 = .ok (.iconst 0, 1) := by decide +kernel
theorem d_Mo_cutBy_2 : decode b_Mo_cutBy 2 = .ok (.putfield 53, 3) := by decide +kernel
theorem d_Mo_cutBy_5 : decode b_Mo_cutBy 5 = .ok (.iconst 0, 1) := by decide +kernel
theorem d_Mo_cutBy_6 : decode b_Mo_cutBy 6 = .ok (.istore_n 2, 1) := by decide +kernel
theorem d_Mo_cutBy_7 : decode b_Mo_cutBy 7 = .ok (.iload_n 2, 1) := by decide +kernel
theorem d_Mo_cutBy_8 : decode b_Mo_cutBy 8 = .ok (.aload_n 0, 1) := by decide +kernel
theorem d_Mo_cutBy_9 : decode b_Mo_cutBy 9 = .ok (.getfield 60, 3) := by decide +kernel
theorem d_Mo_cutBy_12 : decode b_Mo_cutBy 12 = .ok (.if_icmp .ge 142, 3) := by decide +kernel
theorem d_Mo_cutBy_15 : decode b_Mo_cutBy 15 = .ok (.iload_n 2, 1) := by decide +kernel
theorem d_Mo_cutBy_16 : decode b_Mo_cutBy 16 = .ok (.iconst 1, 1) := by decide +kernel
theorem d_Mo_cutBy_17 : decode b_Mo_cutBy 17 = .ok (.iadd, 1) := by decide +kernel
theorem d_Mo_cutBy_18 : decode b_Mo_cutBy 18 = .ok (.aload_n 0, 1) := by decide +kernel
theorem d_Mo_cutBy_19 : decode b_Mo_cutBy 19 = .ok (.getfield 60, 3) := by decide +kernel
theorem d_Mo_cutBy_22 : decode b_Mo_cutBy 22 = .ok (.irem, 1) := by decide +kernel
theorem d_Mo_cutBy_23 : decode b_Mo_cutBy 23 = .ok (.istore_n 3, 1) := by decide +kernel
theorem d_Mo_cutBy_24 : decode b_Mo_cutBy 24 = .ok (.aload_n 0, 1) := by decide +kernel
theorem d_Mo_cutBy_25 : decode b_Mo_cutBy 25 = .ok (.iload_n 1, 1) := by decide +kernel
theorem d_Mo_cutBy_26 : decode b_Mo_cutBy 26 = .ok (.iload_n 2, 1) := by decide +kernel
theorem d_Mo_cutBy_27 : decode b_Mo_cutBy 27 = .ok (.invokevirtual 63, 3) := by decide +kernel
theorem d_Mo_cutBy_30 : decode b_Mo_cutBy 30 = .ok (.lstore 4, 2) := by decide +kernel
theorem d_Mo_cutBy_32 : decode b_Mo_cutBy 32 = .ok (.aload_n 0, 1) := by decide +kernel
theorem d_Mo_cutBy_33 : decode b_Mo_cutBy 33 = .ok (.iload_n 1, 1) := by decide +kernel
theorem d_Mo_cutBy_34 : decode b_Mo_cutBy 34 = .ok (.iload_n 3, 1) := by decide +kernel
theorem d_Mo_cutBy_35 : decode b_Mo_cutBy 35 = .ok (.invokevirtual 63, 3) := by decide +kernel
theorem d_Mo_cutBy_38 : decode b_Mo_cutBy 38 = .ok (.lstore 6, 2) := by decide +kernel
theorem d_Mo_cutBy_40 : decode b_Mo_cutBy 40 = .ok (.lload 4, 2) := by decide +kernel
theorem d_Mo_cutBy_42 : decode b_Mo_cutBy 42 = .ok (.lconst 0, 1) := by decide +kernel
theorem d_Mo_cutBy_43 : decode b_Mo_cutBy 43 = .ok (.lcmp, 1) := by decide +kernel
theorem d_Mo_cutBy_44 : decode b_Mo_cutBy 44 = .ok (.ifCond .lt 56, 3) := by decide +kernel
theorem d_Mo_cutBy_47 : decode b_Mo_cutBy 47 = .ok (.iconst 0, 1) := by decide +kernel
theorem d_Mo_cutBy_48 : decode b_Mo_cutBy 48 = .ok (.istore 8, 2) := by decide +kernel
theorem d_Mo_cutBy_50 : decode b_Mo_cutBy 50 = .ok (.iload 8, 2) := by decide +kernel
theorem d_Mo_cutBy_52 : decode b_Mo_cutBy 52 = .ok (.bipush 6, 2) := by decide +kernel
theorem d_Mo_cutBy_54 : decode b_Mo_cutBy 54 = .ok (.if_icmp .ge 36, 3) := by decide +kernel
theorem d_Mo_cutBy_57 : decode b_Mo_cutBy 57 = .ok (.aload_n 0, 1) := by decide +kernel
theorem d_Mo_cutBy_58 : decode b_Mo_cutBy 58 = .ok (.getfield 20, 3) := by decide +kernel
theorem d_Mo_cutBy_61 : decode b_Mo_cutBy 61 = .ok (.bipush 6, 2) := by decide +kernel
theorem d_Mo_cutBy_63 : decode b_Mo_cutBy 63 = .ok (.aload_n 0, 1) := by decide +kernel
theorem d_Mo_cutBy_64 : decode b_Mo_cutBy 64 = .ok (.getfield 53, 3) := by decide +kernel
theorem d_Mo_cutBy_67 : decode b_Mo_cutBy 67 = .ok (.imul, 1) := by decide +kernel
theorem d_Mo_cutBy_68 : decode b_Mo_cutBy 68 = .ok (.iload 8, 2) := by decide +kernel
theorem d_Mo_cutBy_70 : decode b_Mo_cutBy 70 = .ok (.iadd, 1) := by decide +kernel
theorem d_Mo_cutBy_71 : decode b_Mo_cutBy 71 = .ok (.aload_n 0, 1) := by decide +kernel
theorem d_Mo_cutBy_72 : decode b_Mo_cutBy 72 = .ok (.getfield 17, 3) := by decide +kernel
theorem d_Mo_cutBy_75 : decode b_Mo_cutBy 75 = .ok (.bipush 6, 2) := by decide +kernel
theorem d_Mo_cutBy_77 : decode b_Mo_cutBy 77 = .ok (.iload_n 2, 1) := by decide +kernel
theorem d_Mo_cutBy_78 : decode b_Mo_cutBy 78 = .ok (.imul, 1) := by decide +kernel
theorem d_Mo_cutBy_79 : decode b_Mo_cutBy 79 = .ok (.iload 8, 2) := by decide +kernel
theorem d_Mo_cutBy_81 : decode b_Mo_cutBy 81 = .ok (.iadd, 1) := by decide +kernel
theorem d_Mo_cutBy_82 : decode b_Mo_cutBy 82 = .ok (.laload, 1) := by decide +kernel
theorem d_Mo_cutBy_83 : decode b_Mo_cutBy 83 = .ok (.lastore, 1) := by decide +kernel
theorem d_Mo_cutBy_84 : decode b_Mo_cutBy 84 = .ok (.iinc 8 1, 3) := by decide +kernel
theorem d_Mo_cutBy_87 : decode b_Mo_cutBy 87 = .ok (.goto (-37), 3) := by decide +kernel
theorem d_Mo_cutBy_90 : decode b_Mo_cutBy 90 = .ok (.aload_n 0, 1) := by decide +kernel
theorem d_Mo_cutBy_91 : decode b_Mo_cutBy 91 = .ok (.dup, 1) := by decide +kernel
theorem d_Mo_cutBy_92 : decode b_Mo_cutBy 92 = .ok (.getfield 53, 3) := by decide +kernel
theorem d_Mo_cutBy_95 : decode b_Mo_cutBy 95 = .ok (.iconst 1, 1) := by decide +kernel
theorem d_Mo_cutBy_96 : decode b_Mo_cutBy 96 = .ok (.iadd, 1) := by decide +kernel
theorem d_Mo_cutBy_97 : decode b_Mo_cutBy 97 = .ok (.putfield 53, 3) := by decide +kernel
theorem d_Mo_cutBy_100 : decode b_Mo_cutBy 100 = .ok (.lload 4, 2) := by decide +kernel
theorem d_Mo_cutBy_102 : decode b_Mo_cutBy 102 = .ok (.lconst 0, 1) := by decide +kernel
theorem d_Mo_cutBy_103 : decode b_Mo_cutBy 103 = .ok (.lcmp, 1) := by decide +kernel
theorem d_Mo_cutBy_104 : decode b_Mo_cutBy 104 = .ok (.ifCond .lt 20, 3) := by decide +kernel
theorem d_Mo_cutBy_107 : decode b_Mo_cutBy 107 = .ok (.lload 6, 2) := by decide +kernel
theorem d_Mo_cutBy_109 : decode b_Mo_cutBy 109 = .ok (.lconst 0, 1) := by decide +kernel
theorem d_Mo_cutBy_110 : decode b_Mo_cutBy 110 = .ok (.lcmp, 1) := by decide +kernel
theorem d_Mo_cutBy_111 : decode b_Mo_cutBy 111 = .ok (.ifCond .ge 13, 3) := by decide +kernel
theorem d_Mo_cutBy_114 : decode b_Mo_cutBy 114 = .ok (.aload_n 0, 1) := by decide +kernel
theorem d_Mo_cutBy_115 : decode b_Mo_cutBy 115 = .ok (.iload_n 2, 1) := by decide +kernel
theorem d_Mo_cutBy_116 : decode b_Mo_cutBy 116 = .ok (.lload 4, 2) := by decide +kernel
theorem d_Mo_cutBy_118 : decode b_Mo_cutBy 118 = .ok (.iload_n 3, 1) := by decide +kernel
theorem d_Mo_cutBy_119 : decode b_Mo_cutBy 119 = .ok (.lload 6, 2) := by decide +kernel
theorem d_Mo_cutBy_121 : decode b_Mo_cutBy 121 = .ok (.invokevirtual 67, 3) := by decide +kernel
theorem d_Mo_cutBy_124 : decode b_Mo_cutBy 124 = .ok (.lload 4, 2) := by decide +kernel
theorem d_Mo_cutBy_126 : decode b_Mo_cutBy 126 = .ok (.lconst 0, 1) := by decide +kernel
theorem d_Mo_cutBy_127 : decode b_Mo_cutBy 127 = .ok (.lcmp, 1) := by decide +kernel
theorem d_Mo_cutBy_128 : decode b_Mo_cutBy 128 = .ok (.ifCond .ge 20, 3) := by decide +kernel
theorem d_Mo_cutBy_131 : decode b_Mo_cutBy 131 = .ok (.lload 6, 2) := by decide +kernel
theorem d_Mo_cutBy_133 : decode b_Mo_cutBy 133 = .ok (.lconst 0, 1) := by decide +kernel
theorem d_Mo_cutBy_134 : decode b_Mo_cutBy 134 = .ok (.lcmp, 1) := by decide +kernel
theorem d_Mo_cutBy_135 : decode b_Mo_cutBy 135 = .ok (.ifCond .lt 13, 3) := by decide +kernel
theorem d_Mo_cutBy_138 : decode b_Mo_cutBy 138 = .ok (.aload_n 0, 1) := by decide +kernel
theorem d_Mo_cutBy_139 : decode b_Mo_cutBy 139 = .ok (.iload_n 3, 1) := by decide +kernel
theorem d_Mo_cutBy_140 : decode b_Mo_cutBy 140 = .ok (.lload 6, 2) := by decide +kernel
theorem d_Mo_cutBy_142 : decode b_Mo_cutBy 142 = .ok (.iload_n 2, 1) := by decide +kernel
theorem d_Mo_cutBy_143 : decode b_Mo_cutBy 143 = .ok (.lload 4, 2) := by decide +kernel
theorem d_Mo_cutBy_145 : decode b_Mo_cutBy 145 = .ok (.invokevirtual 67, 3) := by decide +kernel
theorem d_Mo_cutBy_148 : decode b_Mo_cutBy 148 = .ok (.iinc 2 1, 3) := by decide +kernel
theorem d_Mo_cutBy_151 : decode b_Mo_cutBy 151 = .ok (.goto (-144), 3) := by decide +kernel
theorem d_Mo_cutBy_154 : decode b_Mo_cutBy 154 = .ok (.aload_n 0, 1) := by decide +kernel
theorem d_Mo_cutBy_155 : decode b_Mo_cutBy 155 = .ok (.aload_n 0, 1) := by decide +kernel
theorem d_Mo_cutBy_156 : decode b_Mo_cutBy 156 = .ok (.getfield 53, 3) := by decide +kernel
theorem d_Mo_cutBy_159 : decode b_Mo_cutBy 159 = .ok (.iconst 3, 1) := by decide +kernel
theorem d_Mo_cutBy_160 : decode b_Mo_cutBy 160 = .ok (.if_icmp .ge 7, 3) := by decide +kernel
theorem d_Mo_cutBy_163 : decode b_Mo_cutBy 163 = .ok (.iconst 0, 1) := by decide +kernel
theorem d_Mo_cutBy_164 : decode b_Mo_cutBy 164 = .ok (.goto 7, 3) := by decide +kernel
theorem d_Mo_cutBy_167 : decode b_Mo_cutBy 167 = .ok (.aload_n 0, 1) := by decide +kernel
theorem d_Mo_cutBy_168 : decode b_Mo_cutBy 168 = .ok (.getfield 53, 3) := by decide +kernel
theorem d_Mo_cutBy_171 : decode b_Mo_cutBy 171 = .ok (.putfield 60, 3) := by decide +kernel
theorem d_Mo_cutBy_174 : decode b_Mo_cutBy 174 = .ok (.aload_n 0, 1) := by decide +kernel
theorem d_Mo_cutBy_175 : decode b_Mo_cutBy 175 = .ok (.getfield 17, 3) := by decide +kernel
theorem d_Mo_cutBy_178 : decode b_Mo_cutBy 178 = .ok (.astore_n 2, 1) := by decide +kernel
theorem d_Mo_cutBy_179 : decode b_Mo_cutBy 179 = .ok (.aload_n 0, 1) := by decide +kernel
theorem d_Mo_cutBy_180 : decode b_Mo_cutBy 180 = .ok (.aload_n 0, 1) := by decide +kernel
theorem d_Mo_cutBy_181 : decode b_Mo_cutBy 181 = .ok (.getfield 20, 3) := by decide +kernel
theorem d_Mo_cutBy_184 : decode b_Mo_cutBy 184 = .ok (.putfield 17, 3) := by decide +kernel
theorem d_Mo_cutBy_187 : decode b_Mo_cutBy 187 = .ok (.aload_n 0, 1) := by decide +kernel
theorem d_Mo_cutBy_188 : decode b_Mo_cutBy 188 = .ok (.aload_n 2, 1) := by decide +kernel
theorem d_Mo_cutBy_189 : decode b_Mo_cutBy 189 = .ok (.putfield 20, 3) := by decide +kernel
theorem d_Mo_cutBy_192 : decode b_Mo_cutBy 192 = .ok (.return_, 1) := by decide +kernel
theorem d_Mo_lay_0 : decode b_Mo_lay 0 = .ok (.bipush 18, 2) := by decide +kernel
theorem d_Mo_lay_2 : decode b_Mo_lay 2 = .ok (.iload_n 1, 1) := by decide +kernel
theorem d_Mo_lay_3 : decode b_Mo_lay 3 = .ok (.imul, 1) := by decide +kernel
theorem d_Mo_lay_4 : decode b_Mo_lay 4 = .ok (.bipush 6, 2) := by decide +kernel
theorem d_Mo_lay_6 : decode b_Mo_lay 6 = .ok (.iload_n 2, 1) := by decide +kernel
theorem d_Mo_lay_7 : decode b_Mo_lay 7 = .ok (.imul, 1) := by decide +kernel
theorem d_Mo_lay_8 : decode b_Mo_lay 8 = .ok (.iadd, 1) := by decide +kernel
theorem d_Mo_lay_9 : decode b_Mo_lay 9 = .ok (.istore 4, 2) := by decide +kernel
theorem d_Mo_lay_11 : decode b_Mo_lay 11 = .ok (.aload_n 0, 1) := by decide +kernel
theorem d_Mo_lay_12 : decode b_Mo_lay 12 = .ok (.getfield 17, 3) := by decide +kernel
theorem d_Mo_lay_15 : decode b_Mo_lay 15 = .ok (.bipush 6, 2) := by decide +kernel
theorem d_Mo_lay_17 : decode b_Mo_lay 17 = .ok (.iload_n 3, 1) := by decide +kernel
theorem d_Mo_lay_18 : decode b_Mo_lay 18 = .ok (.imul, 1) := by decide +kernel
theorem d_Mo_lay_19 : decode b_Mo_lay 19 = .ok (.iconst 2, 1) := by decide +kernel
theorem d_Mo_lay_20 : decode b_Mo_lay 20 = .ok (.iadd, 1) := by decide +kernel
theorem d_Mo_lay_21 : decode b_Mo_lay 21 = .ok (.laload, 1) := by decide +kernel
theorem d_Mo_lay_22 : decode b_Mo_lay 22 = .ok (.lstore 5, 2) := by decide +kernel
theorem d_Mo_lay_24 : decode b_Mo_lay 24 = .ok (.aload_n 0, 1) := by decide +kernel
theorem d_Mo_lay_25 : decode b_Mo_lay 25 = .ok (.getfield 23, 3) := by decide +kernel
theorem d_Mo_lay_28 : decode b_Mo_lay 28 = .ok (.iload 4, 2) := by decide +kernel
theorem d_Mo_lay_30 : decode b_Mo_lay 30 = .ok (.ldc2_w 71, 3) := by decide +kernel
theorem d_Mo_lay_33 : decode b_Mo_lay 33 = .ok (.aload_n 0, 1) := by decide +kernel
theorem d_Mo_lay_34 : decode b_Mo_lay 34 = .ok (.getfield 7, 3) := by decide +kernel
theorem d_Mo_lay_37 : decode b_Mo_lay 37 = .ok (.i2l, 1) := by decide +kernel
theorem d_Mo_lay_38 : decode b_Mo_lay 38 = .ok (.lmul, 1) := by decide +kernel
theorem d_Mo_lay_39 : decode b_Mo_lay 39 = .ok (.aload_n 0, 1) := by decide +kernel
theorem d_Mo_lay_40 : decode b_Mo_lay 40 = .ok (.getfield 17, 3) := by decide +kernel
theorem d_Mo_lay_43 : decode b_Mo_lay 43 = .ok (.bipush 6, 2) := by decide +kernel
theorem d_Mo_lay_45 : decode b_Mo_lay 45 = .ok (.iload_n 3, 1) := by decide +kernel
theorem d_Mo_lay_46 : decode b_Mo_lay 46 = .ok (.imul, 1) := by decide +kernel
theorem d_Mo_lay_47 : decode b_Mo_lay 47 = .ok (.laload, 1) := by decide +kernel
theorem d_Mo_lay_48 : decode b_Mo_lay 48 = .ok (.lmul, 1) := by decide +kernel
theorem d_Mo_lay_49 : decode b_Mo_lay 49 = .ok (.lload 5, 2) := by decide +kernel
theorem d_Mo_lay_51 : decode b_Mo_lay 51 = .ok (.invokestatic 56, 3) := by decide +kernel
theorem d_Mo_lay_54 : decode b_Mo_lay 54 = .ok (.ldc2_w 73, 3) := by decide +kernel
theorem d_Mo_lay_57 : decode b_Mo_lay 57 = .ok (.aload_n 0, 1) := by decide +kernel
theorem d_Mo_lay_58 : decode b_Mo_lay 58 = .ok (.getfield 29, 3) := by decide +kernel
theorem d_Mo_lay_61 : decode b_Mo_lay 61 = .ok (.i2l, 1) := by decide +kernel
theorem d_Mo_lay_62 : decode b_Mo_lay 62 = .ok (.lmul, 1) := by decide +kernel
theorem d_Mo_lay_63 : decode b_Mo_lay 63 = .ok (.ladd, 1) := by decide +kernel
theorem d_Mo_lay_64 : decode b_Mo_lay 64 = .ok (.lastore, 1) := by decide +kernel
theorem d_Mo_lay_65 : decode b_Mo_lay 65 = .ok (.aload_n 0, 1) := by decide +kernel
theorem d_Mo_lay_66 : decode b_Mo_lay 66 = .ok (.getfield 23, 3) := by decide +kernel
theorem d_Mo_lay_69 : decode b_Mo_lay 69 = .ok (.iload 4, 2) := by decide +kernel
theorem d_Mo_lay_71 : decode b_Mo_lay 71 = .ok (.iconst 1, 1) := by decide +kernel
theorem d_Mo_lay_72 : decode b_Mo_lay 72 = .ok (.iadd, 1) := by decide +kernel
theorem d_Mo_lay_73 : decode b_Mo_lay 73 = .ok (.ldc2_w 71, 3) := by decide +kernel
theorem d_Mo_lay_76 : decode b_Mo_lay 76 = .ok (.aload_n 0, 1) := by decide +kernel
theorem d_Mo_lay_77 : decode b_Mo_lay 77 = .ok (.getfield 7, 3) := by decide +kernel
theorem d_Mo_lay_80 : decode b_Mo_lay 80 = .ok (.i2l, 1) := by decide +kernel
theorem d_Mo_lay_81 : decode b_Mo_lay 81 = .ok (.lmul, 1) := by decide +kernel
theorem d_Mo_lay_82 : decode b_Mo_lay 82 = .ok (.aload_n 0, 1) := by decide +kernel
theorem d_Mo_lay_83 : decode b_Mo_lay 83 = .ok (.getfield 17, 3) := by decide +kernel
theorem d_Mo_lay_86 : decode b_Mo_lay 86 = .ok (.bipush 6, 2) := by decide +kernel
theorem d_Mo_lay_88 : decode b_Mo_lay 88 = .ok (.iload_n 3, 1) := by decide +kernel
theorem d_Mo_lay_89 : decode b_Mo_lay 89 = .ok (.imul, 1) := by decide +kernel
theorem d_Mo_lay_90 : decode b_Mo_lay 90 = .ok (.iconst 1, 1) := by decide +kernel
theorem d_Mo_lay_91 : decode b_Mo_lay 91 = .ok (.iadd, 1) := by decide +kernel
theorem d_Mo_lay_92 : decode b_Mo_lay 92 = .ok (.laload, 1) := by decide +kernel
theorem d_Mo_lay_93 : decode b_Mo_lay 93 = .ok (.lmul, 1) := by decide +kernel
theorem d_Mo_lay_94 : decode b_Mo_lay 94 = .ok (.lload 5, 2) := by decide +kernel
theorem d_Mo_lay_96 : decode b_Mo_lay 96 = .ok (.invokestatic 56, 3) := by decide +kernel
theorem d_Mo_lay_99 : decode b_Mo_lay 99 = .ok (.ldc2_w 73, 3) := by decide +kernel
theorem d_Mo_lay_102 : decode b_Mo_lay 102 = .ok (.aload_n 0, 1) := by decide +kernel
theorem d_Mo_lay_103 : decode b_Mo_lay 103 = .ok (.getfield 32, 3) := by decide +kernel
theorem d_Mo_lay_106 : decode b_Mo_lay 106 = .ok (.i2l, 1) := by decide +kernel
theorem d_Mo_lay_107 : decode b_Mo_lay 107 = .ok (.lmul, 1) := by decide +kernel
theorem d_Mo_lay_108 : decode b_Mo_lay 108 = .ok (.ladd, 1) := by decide +kernel
theorem d_Mo_lay_109 : decode b_Mo_lay 109 = .ok (.lastore, 1) := by decide +kernel
theorem d_Mo_lay_110 : decode b_Mo_lay 110 = .ok (.aload_n 0, 1) := by decide +kernel
theorem d_Mo_lay_111 : decode b_Mo_lay 111 = .ok (.getfield 23, 3) := by decide +kernel
theorem d_Mo_lay_114 : decode b_Mo_lay 114 = .ok (.iload 4, 2) := by decide +kernel
theorem d_Mo_lay_116 : decode b_Mo_lay 116 = .ok (.iconst 2, 1) := by decide +kernel
theorem d_Mo_lay_117 : decode b_Mo_lay 117 = .ok (.iadd, 1) := by decide +kernel
theorem d_Mo_lay_118 : decode b_Mo_lay 118 = .ok (.ldc2_w 75, 3) := by decide +kernel
theorem d_Mo_lay_121 : decode b_Mo_lay 121 = .ok (.lload 5, 2) := by decide +kernel
theorem d_Mo_lay_123 : decode b_Mo_lay 123 = .ok (.invokestatic 56, 3) := by decide +kernel
theorem d_Mo_lay_126 : decode b_Mo_lay 126 = .ok (.lastore, 1) := by decide +kernel
theorem d_Mo_lay_127 : decode b_Mo_lay 127 = .ok (.iconst 3, 1) := by decide +kernel
theorem d_Mo_lay_128 : decode b_Mo_lay 128 = .ok (.istore 7, 2) := by decide +kernel
theorem d_Mo_lay_130 : decode b_Mo_lay 130 = .ok (.iload 7, 2) := by decide +kernel
theorem d_Mo_lay_132 : decode b_Mo_lay 132 = .ok (.bipush 6, 2) := by decide +kernel
theorem d_Mo_lay_134 : decode b_Mo_lay 134 = .ok (.if_icmp .ge 31, 3) := by decide +kernel
theorem d_Mo_lay_137 : decode b_Mo_lay 137 = .ok (.aload_n 0, 1) := by decide +kernel
theorem d_Mo_lay_138 : decode b_Mo_lay 138 = .ok (.getfield 23, 3) := by decide +kernel
theorem d_Mo_lay_141 : decode b_Mo_lay 141 = .ok (.iload 4, 2) := by decide +kernel
theorem d_Mo_lay_143 : decode b_Mo_lay 143 = .ok (.iload 7, 2) := by decide +kernel
theorem d_Mo_lay_145 : decode b_Mo_lay 145 = .ok (.iadd, 1) := by decide +kernel
theorem d_Mo_lay_146 : decode b_Mo_lay 146 = .ok (.aload_n 0, 1) := by decide +kernel
theorem d_Mo_lay_147 : decode b_Mo_lay 147 = .ok (.getfield 17, 3) := by decide +kernel
theorem d_Mo_lay_150 : decode b_Mo_lay 150 = .ok (.bipush 6, 2) := by decide +kernel
theorem d_Mo_lay_152 : decode b_Mo_lay 152 = .ok (.iload_n 3, 1) := by decide +kernel
theorem d_Mo_lay_153 : decode b_Mo_lay 153 = .ok (.imul, 1) := by decide +kernel
theorem d_Mo_lay_154 : decode b_Mo_lay 154 = .ok (.iload 7, 2) := by decide +kernel
theorem d_Mo_lay_156 : decode b_Mo_lay 156 = .ok (.iadd, 1) := by decide +kernel
theorem d_Mo_lay_157 : decode b_Mo_lay 157 = .ok (.laload, 1) := by decide +kernel
theorem d_Mo_lay_158 : decode b_Mo_lay 158 = .ok (.lastore, 1) := by decide +kernel
theorem d_Mo_lay_159 : decode b_Mo_lay 159 = .ok (.iinc 7 1, 3) := by decide +kernel
theorem d_Mo_lay_162 : decode b_Mo_lay 162 = .ok (.goto (-32), 3) := by decide +kernel
theorem d_Mo_lay_165 : decode b_Mo_lay 165 = .ok (.return_, 1) := by decide +kernel
theorem d_Mo_areaOf_0 : decode b_Mo_areaOf 0 = .ok (.bipush 18, 2) := by decide +kernel
theorem d_Mo_areaOf_2 : decode b_Mo_areaOf 2 = .ok (.iload_n 1, 1) := by decide +kernel
theorem d_Mo_areaOf_3 : decode b_Mo_areaOf 3 = .ok (.imul, 1) := by decide +kernel
theorem d_Mo_areaOf_4 : decode b_Mo_areaOf 4 = .ok (.istore_n 2, 1) := by decide +kernel
theorem d_Mo_areaOf_5 : decode b_Mo_areaOf 5 = .ok (.aload_n 0, 1) := by decide +kernel
theorem d_Mo_areaOf_6 : decode b_Mo_areaOf 6 = .ok (.getfield 23, 3) := by decide +kernel
theorem d_Mo_areaOf_9 : decode b_Mo_areaOf 9 = .ok (.iload_n 2, 1) := by decide +kernel
theorem d_Mo_areaOf_10 : decode b_Mo_areaOf 10 = .ok (.bipush 6, 2) := by decide +kernel
theorem d_Mo_areaOf_12 : decode b_Mo_areaOf 12 = .ok (.iadd, 1) := by decide +kernel
theorem d_Mo_areaOf_13 : decode b_Mo_areaOf 13 = .ok (.laload, 1) := by decide +kernel
theorem d_Mo_areaOf_14 : decode b_Mo_areaOf 14 = .ok (.aload_n 0, 1) := by decide +kernel
theorem d_Mo_areaOf_15 : decode b_Mo_areaOf 15 = .ok (.getfield 23, 3) := by decide +kernel
theorem d_Mo_areaOf_18 : decode b_Mo_areaOf 18 = .ok (.iload_n 2, 1) := by decide +kernel
theorem d_Mo_areaOf_19 : decode b_Mo_areaOf 19 = .ok (.laload, 1) := by decide +kernel
theorem d_Mo_areaOf_20 : decode b_Mo_areaOf 20 = .ok (.lsub, 1) := by decide +kernel
theorem d_Mo_areaOf_21 : decode b_Mo_areaOf 21 = .ok (.aload_n 0, 1) := by decide +kernel
theorem d_Mo_areaOf_22 : decode b_Mo_areaOf 22 = .ok (.getfield 23, 3) := by decide +kernel
theorem d_Mo_areaOf_25 : decode b_Mo_areaOf 25 = .ok (.iload_n 2, 1) := by decide +kernel
theorem d_Mo_areaOf_26 : decode b_Mo_areaOf 26 = .ok (.bipush 13, 2) := by decide +kernel
theorem d_Mo_areaOf_28 : decode b_Mo_areaOf 28 = .ok (.iadd, 1) := by decide +kernel
theorem d_Mo_areaOf_29 : decode b_Mo_areaOf 29 = .ok (.laload, 1) := by decide +kernel
theorem d_Mo_areaOf_30 : decode b_Mo_areaOf 30 = .ok (.aload_n 0, 1) := by decide +kernel
theorem d_Mo_areaOf_31 : decode b_Mo_areaOf 31 = .ok (.getfield 23, 3) := by decide +kernel
theorem d_Mo_areaOf_34 : decode b_Mo_areaOf 34 = .ok (.iload_n 2, 1) := by decide +kernel
theorem d_Mo_areaOf_35 : decode b_Mo_areaOf 35 = .ok (.iconst 1, 1) := by decide +kernel
theorem d_Mo_areaOf_36 : decode b_Mo_areaOf 36 = .ok (.iadd, 1) := by decide +kernel
theorem d_Mo_areaOf_37 : decode b_Mo_areaOf 37 = .ok (.laload, 1) := by decide +kernel
theorem d_Mo_areaOf_38 : decode b_Mo_areaOf 38 = .ok (.lsub, 1) := by decide +kernel
theorem d_Mo_areaOf_39 : decode b_Mo_areaOf 39 = .ok (.lmul, 1) := by decide +kernel
theorem d_Mo_areaOf_40 : decode b_Mo_areaOf 40 = .ok (.aload_n 0, 1) := by decide +kernel
theorem d_Mo_areaOf_41 : decode b_Mo_areaOf 41 = .ok (.getfield 23, 3) := by decide +kernel
theorem d_Mo_areaOf_44 : decode b_Mo_areaOf 44 = .ok (.iload_n 2, 1) := by decide +kernel
theorem d_Mo_areaOf_45 : decode b_Mo_areaOf 45 = .ok (.bipush 12, 2) := by decide +kernel
theorem d_Mo_areaOf_47 : decode b_Mo_areaOf 47 = .ok (.iadd, 1) := by decide +kernel
theorem d_Mo_areaOf_48 : decode b_Mo_areaOf 48 = .ok (.laload, 1) := by decide +kernel
theorem d_Mo_areaOf_49 : decode b_Mo_areaOf 49 = .ok (.aload_n 0, 1) := by decide +kernel
theorem d_Mo_areaOf_50 : decode b_Mo_areaOf 50 = .ok (.getfield 23, 3) := by decide +kernel
theorem d_Mo_areaOf_53 : decode b_Mo_areaOf 53 = .ok (.iload_n 2, 1) := by decide +kernel
theorem d_Mo_areaOf_54 : decode b_Mo_areaOf 54 = .ok (.laload, 1) := by decide +kernel
theorem d_Mo_areaOf_55 : decode b_Mo_areaOf 55 = .ok (.lsub, 1) := by decide +kernel
theorem d_Mo_areaOf_56 : decode b_Mo_areaOf 56 = .ok (.aload_n 0, 1) := by decide +kernel
theorem d_Mo_areaOf_57 : decode b_Mo_areaOf 57 = .ok (.getfield 23, 3) := by decide +kernel
theorem d_Mo_areaOf_60 : decode b_Mo_areaOf 60 = .ok (.iload_n 2, 1) := by decide +kernel
theorem d_Mo_areaOf_61 : decode b_Mo_areaOf 61 = .ok (.bipush 7, 2) := by decide +kernel
theorem d_Mo_areaOf_63 : decode b_Mo_areaOf 63 = .ok (.iadd, 1) := by decide +kernel
theorem d_Mo_areaOf_64 : decode b_Mo_areaOf 64 = .ok (.laload, 1) := by decide +kernel
theorem d_Mo_areaOf_65 : decode b_Mo_areaOf 65 = .ok (.aload_n 0, 1) := by decide +kernel
theorem d_Mo_areaOf_66 : decode b_Mo_areaOf 66 = .ok (.getfield 23, 3) := by decide +kernel
theorem d_Mo_areaOf_69 : decode b_Mo_areaOf 69 = .ok (.iload_n 2, 1) := by decide +kernel
theorem d_Mo_areaOf_70 : decode b_Mo_areaOf 70 = .ok (.iconst 1, 1) := by decide +kernel
theorem d_Mo_areaOf_71 : decode b_Mo_areaOf 71 = .ok (.iadd, 1) := by decide +kernel
theorem d_Mo_areaOf_72 : decode b_Mo_areaOf 72 = .ok (.laload, 1) := by decide +kernel
theorem d_Mo_areaOf_73 : decode b_Mo_areaOf 73 = .ok (.lsub, 1) := by decide +kernel
theorem d_Mo_areaOf_74 : decode b_Mo_areaOf 74 = .ok (.lmul, 1) := by decide +kernel
theorem d_Mo_areaOf_75 : decode b_Mo_areaOf 75 = .ok (.lsub, 1) := by decide +kernel
theorem d_Mo_areaOf_76 : decode b_Mo_areaOf 76 = .ok (.lreturn, 1) := by decide +kernel
theorem d_Mo_cut_0 : decode b_Mo_cut 0 = .ok (.aload_n 0, 1) := by decide +kernel
theorem d_Mo_cut_1 : decode b_Mo_cut 1 = .ok (.iconst 0, 1) := by decide +kernel
theorem d_Mo_cut_2 : decode b_Mo_cut 2 = .ok (.putfield 35, 3) := by decide +kernel
theorem d_Mo_cut_5 : decode b_Mo_cut 5 = .ok (.iconst 0, 1) := by decide +kernel
theorem d_Mo_cut_6 : decode b_Mo_cut 6 = .ok (.istore_n 2, 1) := by decide +kernel
theorem d_Mo_cut_7 : decode b_Mo_cut 7 = .ok (.iload_n 2, 1) := by decide +kernel
theorem d_Mo_cut_8 : decode b_Mo_cut 8 = .ok (.bipush 18, 2) := by decide +kernel
theorem d_Mo_cut_10 : decode b_Mo_cut 10 = .ok (.if_icmp .ge 21, 3) := by decide +kernel
theorem d_Mo_cut_13 : decode b_Mo_cut 13 = .ok (.aload_n 0, 1) := by decide +kernel
theorem d_Mo_cut_14 : decode b_Mo_cut 14 = .ok (.getfield 17, 3) := by decide +kernel
theorem d_Mo_cut_17 : decode b_Mo_cut 17 = .ok (.iload_n 2, 1) := by decide +kernel
theorem d_Mo_cut_18 : decode b_Mo_cut 18 = .ok (.aload_n 0, 1) := by decide +kernel
theorem d_Mo_cut_19 : decode b_Mo_cut 19 = .ok (.getfield 13, 3) := by decide +kernel
theorem d_Mo_cut_22 : decode b_Mo_cut 22 = .ok (.iload_n 2, 1) := by decide +kernel
theorem d_Mo_cut_23 : decode b_Mo_cut 23 = .ok (.laload, 1) := by decide +kernel
theorem d_Mo_cut_24 : decode b_Mo_cut 24 = .ok (.lastore, 1) := by decide +kernel
theorem d_Mo_cut_25 : decode b_Mo_cut 25 = .ok (.iinc 2 1, 3) := by decide +kernel
theorem d_Mo_cut_28 : decode b_Mo_cut 28 = .ok (.goto (-21), 3) := by decide +kernel
theorem d_Mo_cut_31 : decode b_Mo_cut 31 = .ok (.aload_n 0, 1) := by decide +kernel
theorem d_Mo_cut_32 : decode b_Mo_cut 32 = .ok (.iconst 3, 1) := by decide +kernel
theorem d_Mo_cut_33 : decode b_Mo_cut 33 = .ok (.putfield 60, 3) := by decide +kernel
theorem d_Mo_cut_36 : decode b_Mo_cut 36 = .ok (.iconst 0, 1) := by decide +kernel
theorem d_Mo_cut_37 : decode b_Mo_cut 37 = .ok (.istore_n 2, 1) := by decide +kernel
theorem d_Mo_cut_38 : decode b_Mo_cut 38 = .ok (.iload_n 2, 1) := by decide +kernel
theorem d_Mo_cut_39 : decode b_Mo_cut 39 = .ok (.iconst 5, 1) := by decide +kernel
theorem d_Mo_cut_40 : decode b_Mo_cut 40 = .ok (.if_icmp .ge 21, 3) := by decide +kernel
theorem d_Mo_cut_43 : decode b_Mo_cut 43 = .ok (.aload_n 0, 1) := by decide +kernel
theorem d_Mo_cut_44 : decode b_Mo_cut 44 = .ok (.getfield 60, 3) := by decide +kernel
theorem d_Mo_cut_47 : decode b_Mo_cut 47 = .ok (.ifCond .le 14, 3) := by decide +kernel
theorem d_Mo_cut_50 : decode b_Mo_cut 50 = .ok (.aload_n 0, 1) := by decide +kernel
theorem d_Mo_cut_51 : decode b_Mo_cut 51 = .ok (.iload_n 2, 1) := by decide +kernel
theorem d_Mo_cut_52 : decode b_Mo_cut 52 = .ok (.invokevirtual 77, 3) := by decide +kernel
theorem d_Mo_cut_55 : decode b_Mo_cut 55 = .ok (.iinc 2 1, 3) := by decide +kernel
theorem d_Mo_cut_58 : decode b_Mo_cut 58 = .ok (.goto (-20), 3) := by decide +kernel
theorem d_Mo_cut_61 : decode b_Mo_cut 61 = .ok (.aload_n 0, 1) := by decide +kernel
theorem d_Mo_cut_62 : decode b_Mo_cut 62 = .ok (.iconst 0, 1) := by decide +kernel
theorem d_Mo_cut_63 : decode b_Mo_cut 63 = .ok (.putfield 81, 3) := by decide +kernel
theorem d_Mo_cut_66 : decode b_Mo_cut 66 = .ok (.iconst 1, 1) := by decide +kernel
theorem d_Mo_cut_67 : decode b_Mo_cut 67 = .ok (.istore_n 2, 1) := by decide +kernel
theorem d_Mo_cut_68 : decode b_Mo_cut 68 = .ok (.iload_n 2, 1) := by decide +kernel
theorem d_Mo_cut_69 : decode b_Mo_cut 69 = .ok (.iconst 1, 1) := by decide +kernel
theorem d_Mo_cut_70 : decode b_Mo_cut 70 = .ok (.iadd, 1) := by decide +kernel
theorem d_Mo_cut_71 : decode b_Mo_cut 71 = .ok (.aload_n 0, 1) := by decide +kernel
theorem d_Mo_cut_72 : decode b_Mo_cut 72 = .ok (.getfield 60, 3) := by decide +kernel
theorem d_Mo_cut_75 : decode b_Mo_cut 75 = .ok (.if_icmp .ge 125, 3) := by decide +kernel
theorem d_Mo_cut_78 : decode b_Mo_cut 78 = .ok (.aload_n 0, 1) := by decide +kernel
theorem d_Mo_cut_79 : decode b_Mo_cut 79 = .ok (.aload_n 0, 1) := by decide +kernel
theorem d_Mo_cut_80 : decode b_Mo_cut 80 = .ok (.getfield 81, 3) := by decide +kernel
theorem d_Mo_cut_83 : decode b_Mo_cut 83 = .ok (.iconst 0, 1) := by decide +kernel
theorem d_Mo_cut_84 : decode b_Mo_cut 84 = .ok (.iconst 0, 1) := by decide +kernel
theorem d_Mo_cut_85 : decode b_Mo_cut 85 = .ok (.invokevirtual 84, 3) := by decide +kernel
theorem d_Mo_cut_88 : decode b_Mo_cut 88 = .ok (.aload_n 0, 1) := by decide +kernel
theorem d_Mo_cut_89 : decode b_Mo_cut 89 = .ok (.aload_n 0, 1) := by decide +kernel
theorem d_Mo_cut_90 : decode b_Mo_cut 90 = .ok (.getfield 81, 3) := by decide +kernel
theorem d_Mo_cut_93 : decode b_Mo_cut 93 = .ok (.iconst 1, 1) := by decide +kernel
theorem d_Mo_cut_94 : decode b_Mo_cut 94 = .ok (.iload_n 2, 1) := by decide +kernel
theorem d_Mo_cut_95 : decode b_Mo_cut 95 = .ok (.invokevirtual 84, 3) := by decide +kernel
theorem d_Mo_cut_98 : decode b_Mo_cut 98 = .ok (.aload_n 0, 1) := by decide +kernel
theorem d_Mo_cut_99 : decode b_Mo_cut 99 = .ok (.aload_n 0, 1) := by decide +kernel
theorem d_Mo_cut_100 : decode b_Mo_cut 100 = .ok (.getfield 81, 3) := by decide +kernel
theorem d_Mo_cut_103 : decode b_Mo_cut 103 = .ok (.iconst 2, 1) := by decide +kernel
theorem d_Mo_cut_104 : decode b_Mo_cut 104 = .ok (.iload_n 2, 1) := by decide +kernel
theorem d_Mo_cut_105 : decode b_Mo_cut 105 = .ok (.iconst 1, 1) := by decide +kernel
theorem d_Mo_cut_106 : decode b_Mo_cut 106 = .ok (.iadd, 1) := by decide +kernel
theorem d_Mo_cut_107 : decode b_Mo_cut 107 = .ok (.invokevirtual 84, 3) := by decide +kernel
theorem d_Mo_cut_110 : decode b_Mo_cut 110 = .ok (.aload_n 0, 1) := by decide +kernel
theorem d_Mo_cut_111 : decode b_Mo_cut 111 = .ok (.aload_n 0, 1) := by decide +kernel
theorem d_Mo_cut_112 : decode b_Mo_cut 112 = .ok (.getfield 81, 3) := by decide +kernel
theorem d_Mo_cut_115 : decode b_Mo_cut 115 = .ok (.invokevirtual 88, 3) := by decide +kernel
theorem d_Mo_cut_118 : decode b_Mo_cut 118 = .ok (.lconst 0, 1) := by decide +kernel
theorem d_Mo_cut_119 : decode b_Mo_cut 119 = .ok (.lcmp, 1) := by decide +kernel
theorem d_Mo_cut_120 : decode b_Mo_cut 120 = .ok (.ifCond .ge 29, 3) := by decide +kernel
theorem d_Mo_cut_123 : decode b_Mo_cut 123 = .ok (.iload_n 1, 1) := by decide +kernel
theorem d_Mo_cut_124 : decode b_Mo_cut 124 = .ok (.ifCond .eq 25, 3) := by decide +kernel
theorem d_Mo_cut_127 : decode b_Mo_cut 127 = .ok (.aload_n 0, 1) := by decide +kernel
theorem d_Mo_cut_128 : decode b_Mo_cut 128 = .ok (.aload_n 0, 1) := by decide +kernel
theorem d_Mo_cut_129 : decode b_Mo_cut 129 = .ok (.getfield 81, 3) := by decide +kernel
theorem d_Mo_cut_132 : decode b_Mo_cut 132 = .ok (.iconst 1, 1) := by decide +kernel
theorem d_Mo_cut_133 : decode b_Mo_cut 133 = .ok (.iload_n 2, 1) := by decide +kernel
theorem d_Mo_cut_134 : decode b_Mo_cut 134 = .ok (.iconst 1, 1) := by decide +kernel
theorem d_Mo_cut_135 : decode b_Mo_cut 135 = .ok (.iadd, 1) := by decide +kernel
theorem d_Mo_cut_136 : decode b_Mo_cut 136 = .ok (.invokevirtual 84, 3) := by decide +kernel
theorem d_Mo_cut_139 : decode b_Mo_cut 139 = .ok (.aload_n 0, 1) := by decide +kernel
theorem d_Mo_cut_140 : decode b_Mo_cut 140 = .ok (.aload_n 0, 1) := by decide +kernel
theorem d_Mo_cut_141 : decode b_Mo_cut 141 = .ok (.getfield 81, 3) := by decide +kernel
theorem d_Mo_cut_144 : decode b_Mo_cut 144 = .ok (.iconst 2, 1) := by decide +kernel
theorem d_Mo_cut_145 : decode b_Mo_cut 145 = .ok (.iload_n 2, 1) := by decide +kernel
theorem d_Mo_cut_146 : decode b_Mo_cut 146 = .ok (.invokevirtual 84, 3) := by decide +kernel
theorem d_Mo_cut_149 : decode b_Mo_cut 149 = .ok (.aload_n 0, 1) := by decide +kernel
theorem d_Mo_cut_150 : decode b_Mo_cut 150 = .ok (.getfield 26, 3) := by decide +kernel
theorem d_Mo_cut_153 : decode b_Mo_cut 153 = .ok (.aload_n 0, 1) := by decide +kernel
theorem d_Mo_cut_154 : decode b_Mo_cut 154 = .ok (.getfield 81, 3) := by decide +kernel
theorem d_Mo_cut_157 : decode b_Mo_cut 157 = .ok (.aload_n 0, 1) := by decide +kernel
theorem d_Mo_cut_158 : decode b_Mo_cut 158 = .ok (.aload_n 0, 1) := by decide +kernel
theorem d_Mo_cut_159 : decode b_Mo_cut 159 = .ok (.getfield 81, 3) := by decide +kernel
theorem d_Mo_cut_162 : decode b_Mo_cut 162 = .ok (.invokevirtual 88, 3) := by decide +kernel
theorem d_Mo_cut_165 : decode b_Mo_cut 165 = .ok (.lastore, 1) := by decide +kernel
theorem d_Mo_cut_166 : decode b_Mo_cut 166 = .ok (.aload_n 0, 1) := by decide +kernel
theorem d_Mo_cut_167 : decode b_Mo_cut 167 = .ok (.dup, 1) := by decide +kernel
theorem d_Mo_cut_168 : decode b_Mo_cut 168 = .ok (.getfield 81, 3) := by decide +kernel
theorem d_Mo_cut_171 : decode b_Mo_cut 171 = .ok (.aload_n 0, 1) := by decide +kernel
theorem d_Mo_cut_172 : decode b_Mo_cut 172 = .ok (.getfield 26, 3) := by decide +kernel
theorem d_Mo_cut_175 : decode b_Mo_cut 175 = .ok (.aload_n 0, 1) := by decide +kernel
theorem d_Mo_cut_176 : decode b_Mo_cut 176 = .ok (.getfield 81, 3) := by decide +kernel
theorem d_Mo_cut_179 : decode b_Mo_cut 179 = .ok (.laload, 1) := by decide +kernel
theorem d_Mo_cut_180 : decode b_Mo_cut 180 = .ok (.lconst 0, 1) := by decide +kernel
theorem d_Mo_cut_181 : decode b_Mo_cut 181 = .ok (.lcmp, 1) := by decide +kernel
theorem d_Mo_cut_182 : decode b_Mo_cut 182 = .ok (.ifCond .le 7, 3) := by decide +kernel
theorem d_Mo_cut_185 : decode b_Mo_cut 185 = .ok (.iconst 1, 1) := by decide +kernel
theorem d_Mo_cut_186 : decode b_Mo_cut 186 = .ok (.goto 4, 3) := by decide +kernel
theorem d_Mo_cut_189 : decode b_Mo_cut 189 = .ok (.iconst 0, 1) := by decide +kernel
theorem d_Mo_cut_190 : decode b_Mo_cut 190 = .ok (.iadd, 1) := by decide +kernel
theorem d_Mo_cut_191 : decode b_Mo_cut 191 = .ok (.putfield 81, 3) := by decide +kernel
theorem d_Mo_cut_194 : decode b_Mo_cut 194 = .ok (.iinc 2 1, 3) := by decide +kernel
theorem d_Mo_cut_197 : decode b_Mo_cut 197 = .ok (.goto (-129), 3) := by decide +kernel
theorem d_Mo_cut_200 : decode b_Mo_cut 200 = .ok (.aload_n 0, 1) := by decide +kernel
theorem d_Mo_cut_201 : decode b_Mo_cut 201 = .ok (.getfield 81, 3) := by decide +kernel
theorem d_Mo_cut_204 : decode b_Mo_cut 204 = .ok (.ireturn, 1) := by decide +kernel
theorem d_Mo_piece_0 : decode b_Mo_piece 0 = .ok (.aload_n 0, 1) := by decide +kernel
theorem d_Mo_piece_1 : decode b_Mo_piece 1 = .ok (.iconst 0, 1) := by decide +kernel
theorem d_Mo_piece_2 : decode b_Mo_piece 2 = .ok (.putfield 35, 3) := by decide +kernel
theorem d_Mo_piece_5 : decode b_Mo_piece 5 = .ok (.iload_n 1, 1) := by decide +kernel
theorem d_Mo_piece_6 : decode b_Mo_piece 6 = .ok (.iconst 0, 1) := by decide +kernel
theorem d_Mo_piece_7 : decode b_Mo_piece 7 = .ok (.aload_n 0, 1) := by decide +kernel
theorem d_Mo_piece_8 : decode b_Mo_piece 8 = .ok (.getfield 81, 3) := by decide +kernel
theorem d_Mo_piece_11 : decode b_Mo_piece 11 = .ok (.iconst 1, 1) := by decide +kernel
theorem d_Mo_piece_12 : decode b_Mo_piece 12 = .ok (.isub, 1) := by decide +kernel
theorem d_Mo_piece_13 : decode b_Mo_piece 13 = .ok (.invokestatic 38, 3) := by decide +kernel
theorem d_Mo_piece_16 : decode b_Mo_piece 16 = .ok (.ifCond .eq 41, 3) := by decide +kernel
theorem d_Mo_piece_19 : decode b_Mo_piece 19 = .ok (.iload_n 2, 1) := by decide +kernel
theorem d_Mo_piece_20 : decode b_Mo_piece 20 = .ok (.iconst 0, 1) := by decide +kernel
theorem d_Mo_piece_21 : decode b_Mo_piece 21 = .ok (.iconst 2, 1) := by decide +kernel
theorem d_Mo_piece_22 : decode b_Mo_piece 22 = .ok (.invokestatic 38, 3) := by decide +kernel
theorem d_Mo_piece_25 : decode b_Mo_piece 25 = .ok (.ifCond .eq 32, 3) := by decide +kernel
theorem d_Mo_piece_28 : decode b_Mo_piece 28 = .ok (.iload_n 3, 1) := by decide +kernel
theorem d_Mo_piece_29 : decode b_Mo_piece 29 = .ok (.iconst 0, 1) := by decide +kernel
theorem d_Mo_piece_30 : decode b_Mo_piece 30 = .ok (.iconst 5, 1) := by decide +kernel
theorem d_Mo_piece_31 : decode b_Mo_piece 31 = .ok (.invokestatic 38, 3) := by decide +kernel
theorem d_Mo_piece_34 : decode b_Mo_piece 34 = .ok (.ifCond .eq 23, 3) := by decide +kernel
theorem d_Mo_piece_37 : decode b_Mo_piece 37 = .ok (.aload_n 0, 1) := by decide +kernel
theorem d_Mo_piece_38 : decode b_Mo_piece 38 = .ok (.getfield 23, 3) := by decide +kernel
theorem d_Mo_piece_41 : decode b_Mo_piece 41 = .ok (.bipush 18, 2) := by decide +kernel
theorem d_Mo_piece_43 : decode b_Mo_piece 43 = .ok (.iload_n 1, 1) := by decide +kernel
theorem d_Mo_piece_44 : decode b_Mo_piece 44 = .ok (.imul, 1) := by decide +kernel
theorem d_Mo_piece_45 : decode b_Mo_piece 45 = .ok (.bipush 6, 2) := by decide +kernel
theorem d_Mo_piece_47 : decode b_Mo_piece 47 = .ok (.iload_n 2, 1) := by decide +kernel
theorem d_Mo_piece_48 : decode b_Mo_piece 48 = .ok (.imul, 1) := by decide +kernel
theorem d_Mo_piece_49 : decode b_Mo_piece 49 = .ok (.iadd, 1) := by decide +kernel
theorem d_Mo_piece_50 : decode b_Mo_piece 50 = .ok (.iload_n 3, 1) := by decide +kernel
theorem d_Mo_piece_51 : decode b_Mo_piece 51 = .ok (.iadd, 1) := by decide +kernel
theorem d_Mo_piece_52 : decode b_Mo_piece 52 = .ok (.laload, 1) := by decide +kernel
theorem d_Mo_piece_53 : decode b_Mo_piece 53 = .ok (.l2i, 1) := by decide +kernel
theorem d_Mo_piece_54 : decode b_Mo_piece 54 = .ok (.goto 4, 3) := by decide +kernel
theorem d_Mo_piece_57 : decode b_Mo_piece 57 = .ok (.iconst 0, 1) := by decide +kernel
theorem d_Mo_piece_58 : decode b_Mo_piece 58 = .ok (.ireturn, 1) := by decide +kernel
theorem d_Mo_area_0 : decode b_Mo_area 0 = .ok (.aload_n 0, 1) := by decide +kernel
theorem d_Mo_area_1 : decode b_Mo_area 1 = .ok (.iconst 0, 1) := by decide +kernel
theorem d_Mo_area_2 : decode b_Mo_area 2 = .ok (.putfield 35, 3) := by decide +kernel
theorem d_Mo_area_5 : decode b_Mo_area 5 = .ok (.iload_n 1, 1) := by decide +kernel
theorem d_Mo_area_6 : decode b_Mo_area 6 = .ok (.iconst 0, 1) := by decide +kernel
theorem d_Mo_area_7 : decode b_Mo_area 7 = .ok (.aload_n 0, 1) := by decide +kernel
theorem d_Mo_area_8 : decode b_Mo_area 8 = .ok (.getfield 81, 3) := by decide +kernel
theorem d_Mo_area_11 : decode b_Mo_area 11 = .ok (.iconst 1, 1) := by decide +kernel
theorem d_Mo_area_12 : decode b_Mo_area 12 = .ok (.isub, 1) := by decide +kernel
theorem d_Mo_area_13 : decode b_Mo_area 13 = .ok (.invokestatic 38, 3) := by decide +kernel
theorem d_Mo_area_16 : decode b_Mo_area 16 = .ok (.ifCond .eq 13, 3) := by decide +kernel
theorem d_Mo_area_19 : decode b_Mo_area 19 = .ok (.aload_n 0, 1) := by decide +kernel
theorem d_Mo_area_20 : decode b_Mo_area 20 = .ok (.getfield 26, 3) := by decide +kernel
theorem d_Mo_area_23 : decode b_Mo_area 23 = .ok (.iload_n 1, 1) := by decide +kernel
theorem d_Mo_area_24 : decode b_Mo_area 24 = .ok (.laload, 1) := by decide +kernel
theorem d_Mo_area_25 : decode b_Mo_area 25 = .ok (.l2i, 1) := by decide +kernel
theorem d_Mo_area_26 : decode b_Mo_area 26 = .ok (.goto 4, 3) := by decide +kernel
theorem d_Mo_area_29 : decode b_Mo_area 29 = .ok (.iconst (-1), 1) := by decide +kernel
theorem d_Mo_area_30 : decode b_Mo_area 30 = .ok (.ireturn, 1) := by decide +kernel
theorem d_Mo_edge_0 : decode b_Mo_edge 0 = .ok (.bipush 18, 2) := by decide +kernel
theorem d_Mo_edge_2 : decode b_Mo_edge 2 = .ok (.iload_n 1, 1) := by decide +kernel
theorem d_Mo_edge_3 : decode b_Mo_edge 3 = .ok (.imul, 1) := by decide +kernel
theorem d_Mo_edge_4 : decode b_Mo_edge 4 = .ok (.bipush 6, 2) := by decide +kernel
theorem d_Mo_edge_6 : decode b_Mo_edge 6 = .ok (.iload_n 2, 1) := by decide +kernel
theorem d_Mo_edge_7 : decode b_Mo_edge 7 = .ok (.imul, 1) := by decide +kernel
theorem d_Mo_edge_8 : decode b_Mo_edge 8 = .ok (.iadd, 1) := by decide +kernel
theorem d_Mo_edge_9 : decode b_Mo_edge 9 = .ok (.istore 6, 2) := by decide +kernel
theorem d_Mo_edge_11 : decode b_Mo_edge 11 = .ok (.bipush 18, 2) := by decide +kernel
theorem d_Mo_edge_13 : decode b_Mo_edge 13 = .ok (.iload_n 1, 1) := by decide +kernel
theorem d_Mo_edge_14 : decode b_Mo_edge 14 = .ok (.imul, 1) := by decide +kernel
theorem d_Mo_edge_15 : decode b_Mo_edge 15 = .ok (.bipush 6, 2) := by decide +kernel
theorem d_Mo_edge_17 : decode b_Mo_edge 17 = .ok (.iload_n 3, 1) := by decide +kernel
theorem d_Mo_edge_18 : decode b_Mo_edge 18 = .ok (.imul, 1) := by decide +kernel
theorem d_Mo_edge_19 : decode b_Mo_edge 19 = .ok (.iadd, 1) := by decide +kernel
theorem d_Mo_edge_20 : decode b_Mo_edge 20 = .ok (.istore 7, 2) := by decide +kernel
theorem d_Mo_edge_22 : decode b_Mo_edge 22 = .ok (.aload_n 0, 1) := by decide +kernel
theorem d_Mo_edge_23 : decode b_Mo_edge 23 = .ok (.getfield 23, 3) := by decide +kernel
theorem d_Mo_edge_26 : decode b_Mo_edge 26 = .ok (.iload 7, 2) := by decide +kernel
theorem d_Mo_edge_28 : decode b_Mo_edge 28 = .ok (.laload, 1) := by decide +kernel
theorem d_Mo_edge_29 : decode b_Mo_edge 29 = .ok (.aload_n 0, 1) := by decide +kernel
theorem d_Mo_edge_30 : decode b_Mo_edge 30 = .ok (.getfield 23, 3) := by decide +kernel
theorem d_Mo_edge_33 : decode b_Mo_edge 33 = .ok (.iload 6, 2) := by decide +kernel
theorem d_Mo_edge_35 : decode b_Mo_edge 35 = .ok (.laload, 1) := by decide +kernel
theorem d_Mo_edge_36 : decode b_Mo_edge 36 = .ok (.lsub, 1) := by decide +kernel
theorem d_Mo_edge_37 : decode b_Mo_edge 37 = .ok (.ldc2_w 71, 3) := by decide +kernel
theorem d_Mo_edge_40 : decode b_Mo_edge 40 = .ok (.iload 5, 2) := by decide +kernel
theorem d_Mo_edge_42 : decode b_Mo_edge 42 = .ok (.i2l, 1) := by decide +kernel
theorem d_Mo_edge_43 : decode b_Mo_edge 43 = .ok (.lmul, 1) := by decide +kernel
theorem d_Mo_edge_44 : decode b_Mo_edge 44 = .ok (.ldc2_w 73, 3) := by decide +kernel
theorem d_Mo_edge_47 : decode b_Mo_edge 47 = .ok (.ladd, 1) := by decide +kernel
theorem d_Mo_edge_48 : decode b_Mo_edge 48 = .ok (.aload_n 0, 1) := by decide +kernel
theorem d_Mo_edge_49 : decode b_Mo_edge 49 = .ok (.getfield 23, 3) := by decide +kernel
theorem d_Mo_edge_52 : decode b_Mo_edge 52 = .ok (.iload 6, 2) := by decide +kernel
theorem d_Mo_edge_54 : decode b_Mo_edge 54 = .ok (.iconst 1, 1) := by decide +kernel
theorem d_Mo_edge_55 : decode b_Mo_edge 55 = .ok (.iadd, 1) := by decide +kernel
theorem d_Mo_edge_56 : decode b_Mo_edge 56 = .ok (.laload, 1) := by decide +kernel
theorem d_Mo_edge_57 : decode b_Mo_edge 57 = .ok (.lsub, 1) := by decide +kernel
theorem d_Mo_edge_58 : decode b_Mo_edge 58 = .ok (.lmul, 1) := by decide +kernel
theorem d_Mo_edge_59 : decode b_Mo_edge 59 = .ok (.aload_n 0, 1) := by decide +kernel
theorem d_Mo_edge_60 : decode b_Mo_edge 60 = .ok (.getfield 23, 3) := by decide +kernel
theorem d_Mo_edge_63 : decode b_Mo_edge 63 = .ok (.iload 7, 2) := by decide +kernel
theorem d_Mo_edge_65 : decode b_Mo_edge 65 = .ok (.iconst 1, 1) := by decide +kernel
theorem d_Mo_edge_66 : decode b_Mo_edge 66 = .ok (.iadd, 1) := by decide +kernel
theorem d_Mo_edge_67 : decode b_Mo_edge 67 = .ok (.laload, 1) := by decide +kernel
theorem d_Mo_edge_68 : decode b_Mo_edge 68 = .ok (.aload_n 0, 1) := by decide +kernel
theorem d_Mo_edge_69 : decode b_Mo_edge 69 = .ok (.getfield 23, 3) := by decide +kernel
theorem d_Mo_edge_72 : decode b_Mo_edge 72 = .ok (.iload 6, 2) := by decide +kernel
theorem d_Mo_edge_74 : decode b_Mo_edge 74 = .ok (.iconst 1, 1) := by decide +kernel
theorem d_Mo_edge_75 : decode b_Mo_edge 75 = .ok (.iadd, 1) := by decide +kernel
theorem d_Mo_edge_76 : decode b_Mo_edge 76 = .ok (.laload, 1) := by decide +kernel
theorem d_Mo_edge_77 : decode b_Mo_edge 77 = .ok (.lsub, 1) := by decide +kernel
theorem d_Mo_edge_78 : decode b_Mo_edge 78 = .ok (.ldc2_w 71, 3) := by decide +kernel
theorem d_Mo_edge_81 : decode b_Mo_edge 81 = .ok (.iload 4, 2) := by decide +kernel
theorem d_Mo_edge_83 : decode b_Mo_edge 83 = .ok (.i2l, 1) := by decide +kernel
theorem d_Mo_edge_84 : decode b_Mo_edge 84 = .ok (.lmul, 1) := by decide +kernel
theorem d_Mo_edge_85 : decode b_Mo_edge 85 = .ok (.ldc2_w 73, 3) := by decide +kernel
theorem d_Mo_edge_88 : decode b_Mo_edge 88 = .ok (.ladd, 1) := by decide +kernel
theorem d_Mo_edge_89 : decode b_Mo_edge 89 = .ok (.aload_n 0, 1) := by decide +kernel
theorem d_Mo_edge_90 : decode b_Mo_edge 90 = .ok (.getfield 23, 3) := by decide +kernel
theorem d_Mo_edge_93 : decode b_Mo_edge 93 = .ok (.iload 6, 2) := by decide +kernel
theorem d_Mo_edge_95 : decode b_Mo_edge 95 = .ok (.laload, 1) := by decide +kernel
theorem d_Mo_edge_96 : decode b_Mo_edge 96 = .ok (.lsub, 1) := by decide +kernel
theorem d_Mo_edge_97 : decode b_Mo_edge 97 = .ok (.lmul, 1) := by decide +kernel
theorem d_Mo_edge_98 : decode b_Mo_edge 98 = .ok (.lsub, 1) := by decide +kernel
theorem d_Mo_edge_99 : decode b_Mo_edge 99 = .ok (.lreturn, 1) := by decide +kernel
theorem d_Mo_owns_0 : decode b_Mo_owns 0 = .ok (.bipush 18, 2) := by decide +kernel
theorem d_Mo_owns_2 : decode b_Mo_owns 2 = .ok (.iload_n 1, 1) := by decide +kernel
theorem d_Mo_owns_3 : decode b_Mo_owns 3 = .ok (.imul, 1) := by decide +kernel
theorem d_Mo_owns_4 : decode b_Mo_owns 4 = .ok (.bipush 6, 2) := by decide +kernel
theorem d_Mo_owns_6 : decode b_Mo_owns 6 = .ok (.iload_n 2, 1) := by decide +kernel
theorem d_Mo_owns_7 : decode b_Mo_owns 7 = .ok (.imul, 1) := by decide +kernel
theorem d_Mo_owns_8 : decode b_Mo_owns 8 = .ok (.iadd, 1) := by decide +kernel
theorem d_Mo_owns_9 : decode b_Mo_owns 9 = .ok (.istore 6, 2) := by decide +kernel
theorem d_Mo_owns_11 : decode b_Mo_owns 11 = .ok (.bipush 18, 2) := by decide +kernel
theorem d_Mo_owns_13 : decode b_Mo_owns 13 = .ok (.iload_n 1, 1) := by decide +kernel
theorem d_Mo_owns_14 : decode b_Mo_owns 14 = .ok (.imul, 1) := by decide +kernel
theorem d_Mo_owns_15 : decode b_Mo_owns 15 = .ok (.bipush 6, 2) := by decide +kernel
theorem d_Mo_owns_17 : decode b_Mo_owns 17 = .ok (.iload_n 3, 1) := by decide +kernel
theorem d_Mo_owns_18 : decode b_Mo_owns 18 = .ok (.imul, 1) := by decide +kernel
theorem d_Mo_owns_19 : decode b_Mo_owns 19 = .ok (.iadd, 1) := by decide +kernel
theorem d_Mo_owns_20 : decode b_Mo_owns 20 = .ok (.istore 7, 2) := by decide +kernel
theorem d_Mo_owns_22 : decode b_Mo_owns 22 = .ok (.aload_n 0, 1) := by decide +kernel
theorem d_Mo_owns_23 : decode b_Mo_owns 23 = .ok (.iload_n 1, 1) := by decide +kernel
theorem d_Mo_owns_24 : decode b_Mo_owns 24 = .ok (.iload_n 2, 1) := by decide +kernel
theorem d_Mo_owns_25 : decode b_Mo_owns 25 = .ok (.iload_n 3, 1) := by decide +kernel
theorem d_Mo_owns_26 : decode b_Mo_owns 26 = .ok (.iload 4, 2) := by decide +kernel
theorem d_Mo_owns_28 : decode b_Mo_owns 28 = .ok (.iload 5, 2) := by decide +kernel
theorem d_Mo_owns_30 : decode b_Mo_owns 30 = .ok (.invokevirtual 92, 3) := by decide +kernel
theorem d_Mo_owns_33 : decode b_Mo_owns 33 = .ok (.lstore 8, 2) := by decide +kernel
theorem d_Mo_owns_35 : decode b_Mo_owns 35 = .ok (.lload 8, 2) := by decide +kernel
theorem d_Mo_owns_37 : decode b_Mo_owns 37 = .ok (.lconst 0, 1) := by decide +kernel
theorem d_Mo_owns_38 : decode b_Mo_owns 38 = .ok (.lcmp, 1) := by decide +kernel
theorem d_Mo_owns_39 : decode b_Mo_owns 39 = .ok (.ifCond .gt 72, 3) := by decide +kernel
theorem d_Mo_owns_42 : decode b_Mo_owns 42 = .ok (.lload 8, 2) := by decide +kernel
theorem d_Mo_owns_44 : decode b_Mo_owns 44 = .ok (.lconst 0, 1) := by decide +kernel
theorem d_Mo_owns_45 : decode b_Mo_owns 45 = .ok (.lcmp, 1) := by decide +kernel
theorem d_Mo_owns_46 : decode b_Mo_owns 46 = .ok (.ifCond .ne 69, 3) := by decide +kernel
theorem d_Mo_owns_49 : decode b_Mo_owns 49 = .ok (.aload_n 0, 1) := by decide +kernel
theorem d_Mo_owns_50 : decode b_Mo_owns 50 = .ok (.getfield 23, 3) := by decide +kernel
theorem d_Mo_owns_53 : decode b_Mo_owns 53 = .ok (.iload 7, 2) := by decide +kernel
theorem d_Mo_owns_55 : decode b_Mo_owns 55 = .ok (.iconst 1, 1) := by decide +kernel
theorem d_Mo_owns_56 : decode b_Mo_owns 56 = .ok (.iadd, 1) := by decide +kernel
theorem d_Mo_owns_57 : decode b_Mo_owns 57 = .ok (.laload, 1) := by decide +kernel
theorem d_Mo_owns_58 : decode b_Mo_owns 58 = .ok (.aload_n 0, 1) := by decide +kernel
theorem d_Mo_owns_59 : decode b_Mo_owns 59 = .ok (.getfield 23, 3) := by decide +kernel
theorem d_Mo_owns_62 : decode b_Mo_owns 62 = .ok (.iload 6, 2) := by decide +kernel
theorem d_Mo_owns_64 : decode b_Mo_owns 64 = .ok (.iconst 1, 1) := by decide +kernel
theorem d_Mo_owns_65 : decode b_Mo_owns 65 = .ok (.iadd, 1) := by decide +kernel
theorem d_Mo_owns_66 : decode b_Mo_owns 66 = .ok (.laload, 1) := by decide +kernel
theorem d_Mo_owns_67 : decode b_Mo_owns 67 = .ok (.lcmp, 1) := by decide +kernel
theorem d_Mo_owns_68 : decode b_Mo_owns 68 = .ok (.ifCond .lt 43, 3) := by decide +kernel
theorem d_Mo_owns_71 : decode b_Mo_owns 71 = .ok (.aload_n 0, 1) := by decide +kernel
theorem d_Mo_owns_72 : decode b_Mo_owns 72 = .ok (.getfield 23, 3) := by decide +kernel
theorem d_Mo_owns_75 : decode b_Mo_owns 75 = .ok (.iload 7, 2) := by decide +kernel
theorem d_Mo_owns_77 : decode b_Mo_owns 77 = .ok (.iconst 1, 1) := by decide +kernel
theorem d_Mo_owns_78 : decode b_Mo_owns 78 = .ok (.iadd, 1) := by decide +kernel
theorem d_Mo_owns_79 : decode b_Mo_owns 79 = .ok (.laload, 1) := by decide +kernel
theorem d_Mo_owns_80 : decode b_Mo_owns 80 = .ok (.aload_n 0, 1) := by decide +kernel
theorem d_Mo_owns_81 : decode b_Mo_owns 81 = .ok (.getfield 23, 3) := by decide +kernel
theorem d_Mo_owns_84 : decode b_Mo_owns 84 = .ok (.iload 6, 2) := by decide +kernel
theorem d_Mo_owns_86 : decode b_Mo_owns 86 = .ok (.iconst 1, 1) := by decide +kernel
theorem d_Mo_owns_87 : decode b_Mo_owns 87 = .ok (.iadd, 1) := by decide +kernel
theorem d_Mo_owns_88 : decode b_Mo_owns 88 = .ok (.laload, 1) := by decide +kernel
theorem d_Mo_owns_89 : decode b_Mo_owns 89 = .ok (.lcmp, 1) := by decide +kernel
theorem d_Mo_owns_90 : decode b_Mo_owns 90 = .ok (.ifCond .ne 25, 3) := by decide +kernel
theorem d_Mo_owns_93 : decode b_Mo_owns 93 = .ok (.aload_n 0, 1) := by decide +kernel
theorem d_Mo_owns_94 : decode b_Mo_owns 94 = .ok (.getfield 23, 3) := by decide +kernel
theorem d_Mo_owns_97 : decode b_Mo_owns 97 = .ok (.iload 7, 2) := by decide +kernel
theorem d_Mo_owns_99 : decode b_Mo_owns 99 = .ok (.laload, 1) := by decide +kernel
theorem d_Mo_owns_100 : decode b_Mo_owns 100 = .ok (.aload_n 0, 1) := by decide +kernel
theorem d_Mo_owns_101 : decode b_Mo_owns 101 = .ok (.getfield 23, 3) := by decide +kernel
theorem d_Mo_owns_104 : decode b_Mo_owns 104 = .ok (.iload 6, 2) := by decide +kernel
theorem d_Mo_owns_106 : decode b_Mo_owns 106 = .ok (.laload, 1) := by decide +kernel
theorem d_Mo_owns_107 : decode b_Mo_owns 107 = .ok (.lcmp, 1) := by decide +kernel
theorem d_Mo_owns_108 : decode b_Mo_owns 108 = .ok (.ifCond .le 7, 3) := by decide +kernel
theorem d_Mo_owns_111 : decode b_Mo_owns 111 = .ok (.iconst 1, 1) := by decide +kernel
theorem d_Mo_owns_112 : decode b_Mo_owns 112 = .ok (.goto 4, 3) := by decide +kernel
theorem d_Mo_owns_115 : decode b_Mo_owns 115 = .ok (.iconst 0, 1) := by decide +kernel
theorem d_Mo_owns_116 : decode b_Mo_owns 116 = .ok (.ireturn, 1) := by decide +kernel
theorem d_Mo_isPixel_0 : decode b_Mo_isPixel 0 = .ok (.iload_n 1, 1) := by decide +kernel
theorem d_Mo_isPixel_1 : decode b_Mo_isPixel 1 = .ok (.iconst 0, 1) := by decide +kernel
theorem d_Mo_isPixel_2 : decode b_Mo_isPixel 2 = .ok (.aload_n 0, 1) := by decide +kernel
theorem d_Mo_isPixel_3 : decode b_Mo_isPixel 3 = .ok (.getfield 29, 3) := by decide +kernel
theorem d_Mo_isPixel_6 : decode b_Mo_isPixel 6 = .ok (.iconst 1, 1) := by decide +kernel
theorem d_Mo_isPixel_7 : decode b_Mo_isPixel 7 = .ok (.isub, 1) := by decide +kernel
theorem d_Mo_isPixel_8 : decode b_Mo_isPixel 8 = .ok (.invokestatic 38, 3) := by decide +kernel
theorem d_Mo_isPixel_11 : decode b_Mo_isPixel 11 = .ok (.ifCond .eq 21, 3) := by decide +kernel
theorem d_Mo_isPixel_14 : decode b_Mo_isPixel 14 = .ok (.iload_n 2, 1) := by decide +kernel
theorem d_Mo_isPixel_15 : decode b_Mo_isPixel 15 = .ok (.iconst 0, 1) := by decide +kernel
theorem d_Mo_isPixel_16 : decode b_Mo_isPixel 16 = .ok (.aload_n 0, 1) := by decide +kernel
theorem d_Mo_isPixel_17 : decode b_Mo_isPixel 17 = .ok (.getfield 32, 3) := by decide +kernel
theorem d_Mo_isPixel_20 : decode b_Mo_isPixel 20 = .ok (.iconst 1, 1) := by decide +kernel
theorem d_Mo_isPixel_21 : decode b_Mo_isPixel 21 = .ok (.isub, 1) := by decide +kernel
theorem d_Mo_isPixel_22 : decode b_Mo_isPixel 22 = .ok (.invokestatic 38, 3) := by decide +kernel
theorem d_Mo_isPixel_25 : decode b_Mo_isPixel 25 = .ok (.ifCond .eq 7, 3) := by decide +kernel
theorem d_Mo_isPixel_28 : decode b_Mo_isPixel 28 = .ok (.iconst 1, 1) := by decide +kernel
theorem d_Mo_isPixel_29 : decode b_Mo_isPixel 29 = .ok (.goto 4, 3) := by decide +kernel
theorem d_Mo_isPixel_32 : decode b_Mo_isPixel 32 = .ok (.iconst 0, 1) := by decide +kernel
theorem d_Mo_isPixel_33 : decode b_Mo_isPixel 33 = .ok (.ireturn, 1) := by decide +kernel
theorem d_Mo_covers_0 : decode b_Mo_covers 0 = .ok (.iload_n 1, 1) := by decide +kernel
theorem d_Mo_covers_1 : decode b_Mo_covers 1 = .ok (.iconst 0, 1) := by decide +kernel
theorem d_Mo_covers_2 : decode b_Mo_covers 2 = .ok (.aload_n 0, 1) := by decide +kernel
theorem d_Mo_covers_3 : decode b_Mo_covers 3 = .ok (.getfield 81, 3) := by decide +kernel
theorem d_Mo_covers_6 : decode b_Mo_covers 6 = .ok (.iconst 1, 1) := by decide +kernel
theorem d_Mo_covers_7 : decode b_Mo_covers 7 = .ok (.isub, 1) := by decide +kernel
theorem d_Mo_covers_8 : decode b_Mo_covers 8 = .ok (.invokestatic 38, 3) := by decide +kernel
theorem d_Mo_covers_11 : decode b_Mo_covers 11 = .ok (.ifCond .eq 52, 3) := by decide +kernel
theorem d_Mo_covers_14 : decode b_Mo_covers 14 = .ok (.aload_n 0, 1) := by decide +kernel
theorem d_Mo_covers_15 : decode b_Mo_covers 15 = .ok (.iload_n 2, 1) := by decide +kernel
theorem d_Mo_covers_16 : decode b_Mo_covers 16 = .ok (.iload_n 3, 1) := by decide +kernel
theorem d_Mo_covers_17 : decode b_Mo_covers 17 = .ok (.invokevirtual 96, 3) := by decide +kernel
theorem d_Mo_covers_20 : decode b_Mo_covers 20 = .ok (.ifCond .eq 43, 3) := by decide +kernel
theorem d_Mo_covers_23 : decode b_Mo_covers 23 = .ok (.aload_n 0, 1) := by decide +kernel
theorem d_Mo_covers_24 : decode b_Mo_covers 24 = .ok (.iload_n 1, 1) := by decide +kernel
theorem d_Mo_covers_25 : decode b_Mo_covers 25 = .ok (.iconst 1, 1) := by decide +kernel
theorem d_Mo_covers_26 : decode b_Mo_covers 26 = .ok (.iconst 2, 1) := by decide +kernel
theorem d_Mo_covers_27 : decode b_Mo_covers 27 = .ok (.iload_n 2, 1) := by decide +kernel
theorem d_Mo_covers_28 : decode b_Mo_covers 28 = .ok (.iload_n 3, 1) := by decide +kernel
theorem d_Mo_covers_29 : decode b_Mo_covers 29 = .ok (.invokevirtual 100, 3) := by decide +kernel
theorem d_Mo_covers_32 : decode b_Mo_covers 32 = .ok (.ifCond .eq 31, 3) := by decide +kernel
theorem d_Mo_covers_35 : decode b_Mo_covers 35 = .ok (.aload_n 0, 1) := by decide +kernel
theorem d_Mo_covers_36 : decode b_Mo_covers 36 = .ok (.iload_n 1, 1) := by decide +kernel
theorem d_Mo_covers_37 : decode b_Mo_covers 37 = .ok (.iconst 2, 1) := by decide +kernel
theorem d_Mo_covers_38 : decode b_Mo_covers 38 = .ok (.iconst 0, 1) := by decide +kernel
theorem d_Mo_covers_39 : decode b_Mo_covers 39 = .ok (.iload_n 2, 1) := by decide +kernel
theorem d_Mo_covers_40 : decode b_Mo_covers 40 = .ok (.iload_n 3, 1) := by decide +kernel
theorem d_Mo_covers_41 : decode b_Mo_covers 41 = .ok (.invokevirtual 100, 3) := by decide +kernel
theorem d_Mo_covers_44 : decode b_Mo_covers 44 = .ok (.ifCond .eq 19, 3) := by decide +kernel
theorem d_Mo_covers_47 : decode b_Mo_covers 47 = .ok (.aload_n 0, 1) := by decide +kernel
theorem d_Mo_covers_48 : decode b_Mo_covers 48 = .ok (.iload_n 1, 1) := by decide +kernel
theorem d_Mo_covers_49 : decode b_Mo_covers 49 = .ok (.iconst 0, 1) := by decide +kernel
theorem d_Mo_covers_50 : decode b_Mo_covers 50 = .ok (.iconst 1, 1) := by decide +kernel
theorem d_Mo_covers_51 : decode b_Mo_covers 51 = .ok (.iload_n 2, 1) := by decide +kernel
theorem d_Mo_covers_52 : decode b_Mo_covers 52 = .ok (.iload_n 3, 1) := by decide +kernel
theorem d_Mo_covers_53 : decode b_Mo_covers 53 = .ok (.invokevirtual 100, 3) := by decide +kernel
theorem d_Mo_covers_56 : decode b_Mo_covers 56 = .ok (.ifCond .eq 7, 3) := by decide +kernel
theorem d_Mo_covers_59 : decode b_Mo_covers 59 = .ok (.iconst 1, 1) := by decide +kernel
theorem d_Mo_covers_60 : decode b_Mo_covers 60 = .ok (.goto 4, 3) := by decide +kernel
theorem d_Mo_covers_63 : decode b_Mo_covers 63 = .ok (.iconst 0, 1) := by decide +kernel
theorem d_Mo_covers_64 : decode b_Mo_covers 64 = .ok (.ireturn, 1) := by decide +kernel
theorem d_Mo_first_0 : decode b_Mo_first 0 = .ok (.aload_n 0, 1) := by decide +kernel
theorem d_Mo_first_1 : decode b_Mo_first 1 = .ok (.iconst 0, 1) := by decide +kernel
theorem d_Mo_first_2 : decode b_Mo_first 2 = .ok (.putfield 35, 3) := by decide +kernel
theorem d_Mo_first_5 : decode b_Mo_first 5 = .ok (.iconst 0, 1) := by decide +kernel
theorem d_Mo_first_6 : decode b_Mo_first 6 = .ok (.istore_n 3, 1) := by decide +kernel
theorem d_Mo_first_7 : decode b_Mo_first 7 = .ok (.iload_n 3, 1) := by decide +kernel
theorem d_Mo_first_8 : decode b_Mo_first 8 = .ok (.aload_n 0, 1) := by decide +kernel
theorem d_Mo_first_9 : decode b_Mo_first 9 = .ok (.getfield 29, 3) := by decide +kernel
theorem d_Mo_first_12 : decode b_Mo_first 12 = .ok (.if_icmp .ge 21, 3) := by decide +kernel
theorem d_Mo_first_15 : decode b_Mo_first 15 = .ok (.aload_n 0, 1) := by decide +kernel
theorem d_Mo_first_16 : decode b_Mo_first 16 = .ok (.iload_n 1, 1) := by decide +kernel
theorem d_Mo_first_17 : decode b_Mo_first 17 = .ok (.iload_n 3, 1) := by decide +kernel
theorem d_Mo_first_18 : decode b_Mo_first 18 = .ok (.iload_n 2, 1) := by decide +kernel
theorem d_Mo_first_19 : decode b_Mo_first 19 = .ok (.invokevirtual 104, 3) := by decide +kernel
theorem d_Mo_first_22 : decode b_Mo_first 22 = .ok (.ifCond .eq 5, 3) := by decide +kernel
theorem d_Mo_first_25 : decode b_Mo_first 25 = .ok (.iload_n 3, 1) := by decide +kernel
theorem d_Mo_first_26 : decode b_Mo_first 26 = .ok (.ireturn, 1) := by decide +kernel
theorem d_Mo_first_27 : decode b_Mo_first 27 = .ok (.iinc 3 1, 3) := by decide +kernel
theorem d_Mo_first_30 : decode b_Mo_first 30 = .ok (.goto (-23), 3) := by decide +kernel
theorem d_Mo_first_33 : decode b_Mo_first 33 = .ok (.iconst (-1), 1) := by decide +kernel
theorem d_Mo_first_34 : decode b_Mo_first 34 = .ok (.ireturn, 1) := by decide +kernel
theorem d_Mo_last_0 : decode b_Mo_last 0 = .ok (.aload_n 0, 1) := by decide +kernel
theorem d_Mo_last_1 : decode b_Mo_last 1 = .ok (.iconst 0, 1) := by decide +kernel
theorem d_Mo_last_2 : decode b_Mo_last 2 = .ok (.putfield 35, 3) := by decide +kernel
theorem d_Mo_last_5 : decode b_Mo_last 5 = .ok (.aload_n 0, 1) := by decide +kernel
theorem d_Mo_last_6 : decode b_Mo_last 6 = .ok (.getfield 29, 3) := by decide +kernel
theorem d_Mo_last_9 : decode b_Mo_last 9 = .ok (.iconst 1, 1) := by decide +kernel
theorem d_Mo_last_10 : decode b_Mo_last 10 = .ok (.isub, 1) := by decide +kernel
theorem d_Mo_last_11 : decode b_Mo_last 11 = .ok (.istore_n 3, 1) := by decide +kernel
theorem d_Mo_last_12 : decode b_Mo_last 12 = .ok (.iload_n 3, 1) := by decide +kernel
theorem d_Mo_last_13 : decode b_Mo_last 13 = .ok (.ifCond .lt 21, 3) := by decide +kernel
theorem d_Mo_last_16 : decode b_Mo_last 16 = .ok (.aload_n 0, 1) := by decide +kernel
theorem d_Mo_last_17 : decode b_Mo_last 17 = .ok (.iload_n 1, 1) := by decide +kernel
theorem d_Mo_last_18 : decode b_Mo_last 18 = .ok (.iload_n 3, 1) := by decide +kernel
theorem d_Mo_last_19 : decode b_Mo_last 19 = .ok (.iload_n 2, 1) := by decide +kernel
theorem d_Mo_last_20 : decode b_Mo_last 20 = .ok (.invokevirtual 104, 3) := by decide +kernel
theorem d_Mo_last_23 : decode b_Mo_last 23 = .ok (.ifCond .eq 5, 3) := by decide +kernel
theorem d_Mo_last_26 : decode b_Mo_last 26 = .ok (.iload_n 3, 1) := by decide +kernel
theorem d_Mo_last_27 : decode b_Mo_last 27 = .ok (.ireturn, 1) := by decide +kernel
theorem d_Mo_last_28 : decode b_Mo_last 28 = .ok (.iinc 3 (-1), 3) := by decide +kernel
theorem d_Mo_last_31 : decode b_Mo_last 31 = .ok (.goto (-19), 3) := by decide +kernel
theorem d_Mo_last_34 : decode b_Mo_last 34 = .ok (.iconst (-1), 1) := by decide +kernel
theorem d_Mo_last_35 : decode b_Mo_last 35 = .ok (.ireturn, 1) := by decide +kernel
theorem d_Mo_weight_0 : decode b_Mo_weight 0 = .ok (.aload_n 0, 1) := by decide +kernel
theorem d_Mo_weight_1 : decode b_Mo_weight 1 = .ok (.iload_n 1, 1) := by decide +kernel
theorem d_Mo_weight_2 : decode b_Mo_weight 2 = .ok (.iload_n 2, 1) := by decide +kernel
theorem d_Mo_weight_3 : decode b_Mo_weight 3 = .ok (.iconst 1, 1) := by decide +kernel
theorem d_Mo_weight_4 : decode b_Mo_weight 4 = .ok (.iadd, 1) := by decide +kernel
theorem d_Mo_weight_5 : decode b_Mo_weight 5 = .ok (.iconst 3, 1) := by decide +kernel
theorem d_Mo_weight_6 : decode b_Mo_weight 6 = .ok (.irem, 1) := by decide +kernel
theorem d_Mo_weight_7 : decode b_Mo_weight 7 = .ok (.iload_n 2, 1) := by decide +kernel
theorem d_Mo_weight_8 : decode b_Mo_weight 8 = .ok (.iconst 2, 1) := by decide +kernel
theorem d_Mo_weight_9 : decode b_Mo_weight 9 = .ok (.iadd, 1) := by decide +kernel
theorem d_Mo_weight_10 : decode b_Mo_weight 10 = .ok (.iconst 3, 1) := by decide +kernel
theorem d_Mo_weight_11 : decode b_Mo_weight 11 = .ok (.irem, 1) := by decide +kernel
theorem d_Mo_weight_12 : decode b_Mo_weight 12 = .ok (.iload_n 3, 1) := by decide +kernel
theorem d_Mo_weight_13 : decode b_Mo_weight 13 = .ok (.iload 4, 2) := by decide +kernel
theorem d_Mo_weight_15 : decode b_Mo_weight 15 = .ok (.invokevirtual 92, 3) := by decide +kernel
theorem d_Mo_weight_18 : decode b_Mo_weight 18 = .ok (.aload_n 0, 1) := by decide +kernel
theorem d_Mo_weight_19 : decode b_Mo_weight 19 = .ok (.getfield 23, 3) := by decide +kernel
theorem d_Mo_weight_22 : decode b_Mo_weight 22 = .ok (.bipush 18, 2) := by decide +kernel
theorem d_Mo_weight_24 : decode b_Mo_weight 24 = .ok (.iload_n 1, 1) := by decide +kernel
theorem d_Mo_weight_25 : decode b_Mo_weight 25 = .ok (.imul, 1) := by decide +kernel
theorem d_Mo_weight_26 : decode b_Mo_weight 26 = .ok (.bipush 6, 2) := by decide +kernel
theorem d_Mo_weight_28 : decode b_Mo_weight 28 = .ok (.iload_n 2, 1) := by decide +kernel
theorem d_Mo_weight_29 : decode b_Mo_weight 29 = .ok (.imul, 1) := by decide +kernel
theorem d_Mo_weight_30 : decode b_Mo_weight 30 = .ok (.iadd, 1) := by decide +kernel
theorem d_Mo_weight_31 : decode b_Mo_weight 31 = .ok (.iconst 2, 1) := by decide +kernel
theorem d_Mo_weight_32 : decode b_Mo_weight 32 = .ok (.iadd, 1) := by decide +kernel
theorem d_Mo_weight_33 : decode b_Mo_weight 33 = .ok (.laload, 1) := by decide +kernel
theorem d_Mo_weight_34 : decode b_Mo_weight 34 = .ok (.lmul, 1) := by decide +kernel
theorem d_Mo_weight_35 : decode b_Mo_weight 35 = .ok (.lreturn, 1) := by decide +kernel
theorem d_Mo_near_0 : decode b_Mo_near 0 = .ok (.aload_n 0, 1) := by decide +kernel
theorem d_Mo_near_1 : decode b_Mo_near 1 = .ok (.iconst 0, 1) := by decide +kernel
theorem d_Mo_near_2 : decode b_Mo_near 2 = .ok (.putfield 35, 3) := by decide +kernel
theorem d_Mo_near_5 : decode b_Mo_near 5 = .ok (.aload_n 0, 1) := by decide +kernel
theorem d_Mo_near_6 : decode b_Mo_near 6 = .ok (.iload_n 1, 1) := by decide +kernel
theorem d_Mo_near_7 : decode b_Mo_near 7 = .ok (.iload_n 2, 1) := by decide +kernel
theorem d_Mo_near_8 : decode b_Mo_near 8 = .ok (.iload_n 3, 1) := by decide +kernel
theorem d_Mo_near_9 : decode b_Mo_near 9 = .ok (.invokevirtual 104, 3) := by decide +kernel
theorem d_Mo_near_12 : decode b_Mo_near 12 = .ok (.ifCond .eq 42, 3) := by decide +kernel
theorem d_Mo_near_15 : decode b_Mo_near 15 = .ok (.aload_n 0, 1) := by decide +kernel
theorem d_Mo_near_16 : decode b_Mo_near 16 = .ok (.iload_n 1, 1) := by decide +kernel
theorem d_Mo_near_17 : decode b_Mo_near 17 = .ok (.iconst 0, 1) := by decide +kernel
theorem d_Mo_near_18 : decode b_Mo_near 18 = .ok (.iload_n 2, 1) := by decide +kernel
theorem d_Mo_near_19 : decode b_Mo_near 19 = .ok (.iload_n 3, 1) := by decide +kernel
theorem d_Mo_near_20 : decode b_Mo_near 20 = .ok (.invokevirtual 107, 3) := by decide +kernel
theorem d_Mo_near_23 : decode b_Mo_near 23 = .ok (.aload_n 0, 1) := by decide +kernel
theorem d_Mo_near_24 : decode b_Mo_near 24 = .ok (.iload_n 1, 1) := by decide +kernel
theorem d_Mo_near_25 : decode b_Mo_near 25 = .ok (.iconst 1, 1) := by decide +kernel
theorem d_Mo_near_26 : decode b_Mo_near 26 = .ok (.iload_n 2, 1) := by decide +kernel
theorem d_Mo_near_27 : decode b_Mo_near 27 = .ok (.iload_n 3, 1) := by decide +kernel
theorem d_Mo_near_28 : decode b_Mo_near 28 = .ok (.invokevirtual 107, 3) := by decide +kernel
theorem d_Mo_near_31 : decode b_Mo_near 31 = .ok (.ladd, 1) := by decide +kernel
theorem d_Mo_near_32 : decode b_Mo_near 32 = .ok (.aload_n 0, 1) := by decide +kernel
theorem d_Mo_near_33 : decode b_Mo_near 33 = .ok (.iload_n 1, 1) := by decide +kernel
theorem d_Mo_near_34 : decode b_Mo_near 34 = .ok (.iconst 2, 1) := by decide +kernel
theorem d_Mo_near_35 : decode b_Mo_near 35 = .ok (.iload_n 2, 1) := by decide +kernel
theorem d_Mo_near_36 : decode b_Mo_near 36 = .ok (.iload_n 3, 1) := by decide +kernel
theorem d_Mo_near_37 : decode b_Mo_near 37 = .ok (.invokevirtual 107, 3) := by decide +kernel
theorem d_Mo_near_40 : decode b_Mo_near 40 = .ok (.ladd, 1) := by decide +kernel
theorem d_Mo_near_41 : decode b_Mo_near 41 = .ok (.aload_n 0, 1) := by decide +kernel
theorem d_Mo_near_42 : decode b_Mo_near 42 = .ok (.getfield 26, 3) := by decide +kernel
theorem d_Mo_near_45 : decode b_Mo_near 45 = .ok (.iload_n 1, 1) := by decide +kernel
theorem d_Mo_near_46 : decode b_Mo_near 46 = .ok (.laload, 1) := by decide +kernel
theorem d_Mo_near_47 : decode b_Mo_near 47 = .ok (.invokestatic 56, 3) := by decide +kernel
theorem d_Mo_near_50 : decode b_Mo_near 50 = .ok (.l2i, 1) := by decide +kernel
theorem d_Mo_near_51 : decode b_Mo_near 51 = .ok (.goto 4, 3) := by decide +kernel
theorem d_Mo_near_54 : decode b_Mo_near 54 = .ok (.iconst (-1), 1) := by decide +kernel
theorem d_Mo_near_55 : decode b_Mo_near 55 = .ok (.ireturn, 1) := by decide +kernel
theorem d_Mo_number_0 : decode b_Mo_number 0 = .ok (.aload_n 0, 1) := by decide +kernel
theorem d_Mo_number_1 : decode b_Mo_number 1 = .ok (.iconst 0, 1) := by decide +kernel
theorem d_Mo_number_2 : decode b_Mo_number 2 = .ok (.putfield 35, 3) := by decide +kernel
theorem d_Mo_number_5 : decode b_Mo_number 5 = .ok (.aload_n 0, 1) := by decide +kernel
theorem d_Mo_number_6 : decode b_Mo_number 6 = .ok (.iload_n 1, 1) := by decide +kernel
theorem d_Mo_number_7 : decode b_Mo_number 7 = .ok (.iload_n 2, 1) := by decide +kernel
theorem d_Mo_number_8 : decode b_Mo_number 8 = .ok (.iload_n 3, 1) := by decide +kernel
theorem d_Mo_number_9 : decode b_Mo_number 9 = .ok (.invokevirtual 104, 3) := by decide +kernel
theorem d_Mo_number_12 : decode b_Mo_number 12 = .ok (.ifCond .eq 13, 3) := by decide +kernel
theorem d_Mo_number_15 : decode b_Mo_number 15 = .ok (.iload 4, 2) := by decide +kernel
theorem d_Mo_number_17 : decode b_Mo_number 17 = .ok (.iconst 0, 1) := by decide +kernel
theorem d_Mo_number_18 : decode b_Mo_number 18 = .ok (.iconst 2, 1) := by decide +kernel
theorem d_Mo_number_19 : decode b_Mo_number 19 = .ok (.invokestatic 38, 3) := by decide +kernel
theorem d_Mo_number_22 : decode b_Mo_number 22 = .ok (.ifCond .ne 5, 3) := by decide +kernel
theorem d_Mo_number_25 : decode b_Mo_number 25 = .ok (.iconst 0, 1) := by decide +kernel
theorem d_Mo_number_26 : decode b_Mo_number 26 = .ok (.ireturn, 1) := by decide +kernel
theorem d_Mo_number_27 : decode b_Mo_number 27 = .ok (.lconst 0, 1) := by decide +kernel
theorem d_Mo_number_28 : decode b_Mo_number 28 = .ok (.lstore 5, 2) := by decide +kernel
theorem d_Mo_number_30 : decode b_Mo_number 30 = .ok (.lconst 0, 1) := by decide +kernel
theorem d_Mo_number_31 : decode b_Mo_number 31 = .ok (.lstore 7, 2) := by decide +kernel
theorem d_Mo_number_33 : decode b_Mo_number 33 = .ok (.iconst 0, 1) := by decide +kernel
theorem d_Mo_number_34 : decode b_Mo_number 34 = .ok (.istore 9, 2) := by decide +kernel
theorem d_Mo_number_36 : decode b_Mo_number 36 = .ok (.iload 9, 2) := by decide +kernel
theorem d_Mo_number_38 : decode b_Mo_number 38 = .ok (.iconst 3, 1) := by decide +kernel
theorem d_Mo_number_39 : decode b_Mo_number 39 = .ok (.if_icmp .ge 58, 3) := by decide +kernel
theorem d_Mo_number_42 : decode b_Mo_number 42 = .ok (.lload 5, 2) := by decide +kernel
theorem d_Mo_number_44 : decode b_Mo_number 44 = .ok (.aload_n 0, 1) := by decide +kernel
theorem d_Mo_number_45 : decode b_Mo_number 45 = .ok (.iload_n 1, 1) := by decide +kernel
theorem d_Mo_number_46 : decode b_Mo_number 46 = .ok (.iload 9, 2) := by decide +kernel
theorem d_Mo_number_48 : decode b_Mo_number 48 = .ok (.iload_n 2, 1) := by decide +kernel
theorem d_Mo_number_49 : decode b_Mo_number 49 = .ok (.iload_n 3, 1) := by decide +kernel
theorem d_Mo_number_50 : decode b_Mo_number 50 = .ok (.invokevirtual 107, 3) := by decide +kernel
theorem d_Mo_number_53 : decode b_Mo_number 53 = .ok (.aload_n 0, 1) := by decide +kernel
theorem d_Mo_number_54 : decode b_Mo_number 54 = .ok (.getfield 23, 3) := by decide +kernel
theorem d_Mo_number_57 : decode b_Mo_number 57 = .ok (.bipush 18, 2) := by decide +kernel
theorem d_Mo_number_59 : decode b_Mo_number 59 = .ok (.iload_n 1, 1) := by decide +kernel
theorem d_Mo_number_60 : decode b_Mo_number 60 = .ok (.imul, 1) := by decide +kernel
theorem d_Mo_number_61 : decode b_Mo_number 61 = .ok (.bipush 6, 2) := by decide +kernel
theorem d_Mo_number_63 : decode b_Mo_number 63 = .ok (.iload 9, 2) := by decide +kernel
theorem d_Mo_number_65 : decode b_Mo_number 65 = .ok (.imul, 1) := by decide +kernel
theorem d_Mo_number_66 : decode b_Mo_number 66 = .ok (.iadd, 1) := by decide +kernel
theorem d_Mo_number_67 : decode b_Mo_number 67 = .ok (.iconst 3, 1) := by decide +kernel
theorem d_Mo_number_68 : decode b_Mo_number 68 = .ok (.iadd, 1) := by decide +kernel
theorem d_Mo_number_69 : decode b_Mo_number 69 = .ok (.iload 4, 2) := by decide +kernel
theorem d_Mo_number_71 : decode b_Mo_number 71 = .ok (.iadd, 1) := by decide +kernel
theorem d_Mo_number_72 : decode b_Mo_number 72 = .ok (.laload, 1) := by decide +kernel
theorem d_Mo_number_73 : decode b_Mo_number 73 = .ok (.lmul, 1) := by decide +kernel
theorem d_Mo_number_74 : decode b_Mo_number 74 = .ok (.ladd, 1) := by decide +kernel
theorem d_Mo_number_75 : decode b_Mo_number 75 = .ok (.lstore 5, 2) := by decide +kernel
theorem d_Mo_number_77 : decode b_Mo_number 77 = .ok (.lload 7, 2) := by decide +kernel
theorem d_Mo_number_79 : decode b_Mo_number 79 = .ok (.aload_n 0, 1) := by decide +kernel
theorem d_Mo_number_80 : decode b_Mo_number 80 = .ok (.iload_n 1, 1) := by decide +kernel
theorem d_Mo_number_81 : decode b_Mo_number 81 = .ok (.iload 9, 2) := by decide +kernel
theorem d_Mo_number_83 : decode b_Mo_number 83 = .ok (.iload_n 2, 1) := by decide +kernel
theorem d_Mo_number_84 : decode b_Mo_number 84 = .ok (.iload_n 3, 1) := by decide +kernel
theorem d_Mo_number_85 : decode b_Mo_number 85 = .ok (.invokevirtual 107, 3) := by decide +kernel
theorem d_Mo_number_88 : decode b_Mo_number 88 = .ok (.ladd, 1) := by decide +kernel
theorem d_Mo_number_89 : decode b_Mo_number 89 = .ok (.lstore 7, 2) := by decide +kernel
theorem d_Mo_number_91 : decode b_Mo_number 91 = .ok (.iinc 9 1, 3) := by decide +kernel
theorem d_Mo_number_94 : decode b_Mo_number 94 = .ok (.goto (-58), 3) := by decide +kernel
theorem d_Mo_number_97 : decode b_Mo_number 97 = .ok (.lload 5, 2) := by decide +kernel
theorem d_Mo_number_99 : decode b_Mo_number 99 = .ok (.lload 7, 2) := by decide +kernel
theorem d_Mo_number_101 : decode b_Mo_number 101 = .ok (.invokestatic 56, 3) := by decide +kernel
theorem d_Mo_number_104 : decode b_Mo_number 104 = .ok (.l2i, 1) := by decide +kernel
theorem d_Mo_number_105 : decode b_Mo_number 105 = .ok (.ireturn, 1) := by decide +kernel
theorem d_Mo_covered_0 : decode b_Mo_covered 0 = .ok (.aload_n 0, 1) := by decide +kernel
theorem d_Mo_covered_1 : decode b_Mo_covered 1 = .ok (.iconst 0, 1) := by decide +kernel
theorem d_Mo_covered_2 : decode b_Mo_covered 2 = .ok (.putfield 35, 3) := by decide +kernel
theorem d_Mo_covered_5 : decode b_Mo_covered 5 = .ok (.aload_n 0, 1) := by decide +kernel
theorem d_Mo_covered_6 : decode b_Mo_covered 6 = .ok (.iload_n 1, 1) := by decide +kernel
theorem d_Mo_covered_7 : decode b_Mo_covered 7 = .ok (.iload_n 2, 1) := by decide +kernel
theorem d_Mo_covered_8 : decode b_Mo_covered 8 = .ok (.invokevirtual 96, 3) := by decide +kernel
theorem d_Mo_covered_11 : decode b_Mo_covered 11 = .ok (.ifCond .ne 5, 3) := by decide +kernel
theorem d_Mo_covered_14 : decode b_Mo_covered 14 = .ok (.iconst (-1), 1) := by decide +kernel
theorem d_Mo_covered_15 : decode b_Mo_covered 15 = .ok (.ireturn, 1) := by decide +kernel
theorem d_Mo_covered_16 : decode b_Mo_covered 16 = .ok (.iconst 0, 1) := by decide +kernel
theorem d_Mo_covered_17 : decode b_Mo_covered 17 = .ok (.istore_n 3, 1) := by decide +kernel
theorem d_Mo_covered_18 : decode b_Mo_covered 18 = .ok (.iconst 0, 1) := by decide +kernel
theorem d_Mo_covered_19 : decode b_Mo_covered 19 = .ok (.istore 4, 2) := by decide +kernel
theorem d_Mo_covered_21 : decode b_Mo_covered 21 = .ok (.iload 4, 2) := by decide +kernel
theorem d_Mo_covered_23 : decode b_Mo_covered 23 = .ok (.aload_n 0, 1) := by decide +kernel
theorem d_Mo_covered_24 : decode b_Mo_covered 24 = .ok (.getfield 81, 3) := by decide +kernel
theorem d_Mo_covered_27 : decode b_Mo_covered 27 = .ok (.if_icmp .ge 28, 3) := by decide +kernel
theorem d_Mo_covered_30 : decode b_Mo_covered 30 = .ok (.iload_n 3, 1) := by decide +kernel
theorem d_Mo_covered_31 : decode b_Mo_covered 31 = .ok (.aload_n 0, 1) := by decide +kernel
theorem d_Mo_covered_32 : decode b_Mo_covered 32 = .ok (.iload 4, 2) := by decide +kernel
theorem d_Mo_covered_34 : decode b_Mo_covered 34 = .ok (.iload_n 1, 1) := by decide +kernel
theorem d_Mo_covered_35 : decode b_Mo_covered 35 = .ok (.iload_n 2, 1) := by decide +kernel
theorem d_Mo_covered_36 : decode b_Mo_covered 36 = .ok (.invokevirtual 104, 3) := by decide +kernel
theorem d_Mo_covered_39 : decode b_Mo_covered 39 = .ok (.ifCond .eq 7, 3) := by decide +kernel
theorem d_Mo_covered_42 : decode b_Mo_covered 42 = .ok (.iconst 1, 1) := by decide +kernel
theorem d_Mo_covered_43 : decode b_Mo_covered 43 = .ok (.goto 4, 3) := by decide +kernel
theorem d_Mo_covered_46 : decode b_Mo_covered 46 = .ok (.iconst 0, 1) := by decide +kernel
theorem d_Mo_covered_47 : decode b_Mo_covered 47 = .ok (.iadd, 1) := by decide +kernel
theorem d_Mo_covered_48 : decode b_Mo_covered 48 = .ok (.istore_n 3, 1) := by decide +kernel
theorem d_Mo_covered_49 : decode b_Mo_covered 49 = .ok (.iinc 4 1, 3) := by decide +kernel
theorem d_Mo_covered_52 : decode b_Mo_covered 52 = .ok (.goto (-31), 3) := by decide +kernel
theorem d_Mo_covered_55 : decode b_Mo_covered 55 = .ok (.iload_n 3, 1) := by decide +kernel
theorem d_Mo_covered_56 : decode b_Mo_covered 56 = .ok (.ireturn, 1) := by decide +kernel
