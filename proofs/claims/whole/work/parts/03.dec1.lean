theorem d_Fa_init_0 : decode b_Fa_init 0 = .ok (.aload_n 0, 1) := by decide +kernel
theorem d_Fa_init_1 : decode b_Fa_init 1 = .ok (.invokespecial 3, 3) := by decide +kernel
theorem d_Fa_init_4 : decode b_Fa_init 4 = .ok (.aload_n 0, 1) := by decide +kernel
theorem d_Fa_init_5 : decode b_Fa_init 5 = .ok (.bipush 17, 2) := by decide +kernel
theorem d_Fa_init_7 : decode b_Fa_init 7 = .ok (.newarray .int, 2) := by decide +kernel
theorem d_Fa_init_9 : decode b_Fa_init 9 = .ok (.putfield 9, 3) := by decide +kernel
theorem d_Fa_init_12 : decode b_Fa_init 12 = .ok (.aload_n 0, 1) := by decide +kernel
theorem d_Fa_init_13 : decode b_Fa_init 13 = .ok (.bipush 17, 2) := by decide +kernel
theorem d_Fa_init_15 : decode b_Fa_init 15 = .ok (.newarray .int, 2) := by decide +kernel
theorem d_Fa_init_17 : decode b_Fa_init 17 = .ok (.putfield 15, 3) := by decide +kernel
theorem d_Fa_init_20 : decode b_Fa_init 20 = .ok (.aload_n 0, 1) := by decide +kernel
theorem d_Fa_init_21 : decode b_Fa_init 21 = .ok (.bipush 17, 2) := by decide +kernel
theorem d_Fa_init_23 : decode b_Fa_init 23 = .ok (.newarray .int, 2) := by decide +kernel
theorem d_Fa_init_25 : decode b_Fa_init 25 = .ok (.putfield 18, 3) := by decide +kernel
theorem d_Fa_init_28 : decode b_Fa_init 28 = .ok (.aload_n 0, 1) := by decide +kernel
theorem d_Fa_init_29 : decode b_Fa_init 29 = .ok (.iconst 0, 1) := by decide +kernel
theorem d_Fa_init_30 : decode b_Fa_init 30 = .ok (.putfield 21, 3) := by decide +kernel
theorem d_Fa_init_33 : decode b_Fa_init 33 = .ok (.return_, 1) := by decide +kernel
theorem d_Fa_has_0 : decode b_Fa_has 0 = .ok (.iload_n 1, 1) := by decide +kernel
theorem d_Fa_has_1 : decode b_Fa_has 1 = .ok (.ifCond .lt 24, 3) := by decide +kernel
theorem d_Fa_has_4 : decode b_Fa_has 4 = .ok (.iload_n 1, 1) := by decide +kernel
theorem d_Fa_has_5 : decode b_Fa_has 5 = .ok (.aload_n 0, 1) := by decide +kernel
theorem d_Fa_has_6 : decode b_Fa_has 6 = .ok (.getfield 21, 3) := by decide +kernel
theorem d_Fa_has_9 : decode b_Fa_has 9 = .ok (.if_icmp .ge 16, 3) := by decide +kernel
theorem d_Fa_has_12 : decode b_Fa_has 12 = .ok (.aload_n 0, 1) := by decide +kernel
theorem d_Fa_has_13 : decode b_Fa_has 13 = .ok (.getfield 21, 3) := by decide +kernel
theorem d_Fa_has_16 : decode b_Fa_has 16 = .ok (.bipush 17, 2) := by decide +kernel
theorem d_Fa_has_18 : decode b_Fa_has 18 = .ok (.if_icmp .gt 7, 3) := by decide +kernel
theorem d_Fa_has_21 : decode b_Fa_has 21 = .ok (.iconst 1, 1) := by decide +kernel
theorem d_Fa_has_22 : decode b_Fa_has 22 = .ok (.goto 4, 3) := by decide +kernel
theorem d_Fa_has_25 : decode b_Fa_has 25 = .ok (.iconst 0, 1) := by decide +kernel
theorem d_Fa_has_26 : decode b_Fa_has 26 = .ok (.ireturn, 1) := by decide +kernel
theorem d_Fa_clear_0 : decode b_Fa_clear 0 = .ok (.aload_n 0, 1) := by decide +kernel
theorem d_Fa_clear_1 : decode b_Fa_clear 1 = .ok (.iconst 0, 1) := by decide +kernel
theorem d_Fa_clear_2 : decode b_Fa_clear 2 = .ok (.putfield 21, 3) := by decide +kernel
theorem d_Fa_clear_5 : decode b_Fa_clear 5 = .ok (.return_, 1) := by decide +kernel
theorem d_Fa_add_0 : decode b_Fa_add 0 = .ok (.aload_n 0, 1) := by decide +kernel
theorem d_Fa_add_1 : decode b_Fa_add 1 = .ok (.getfield 21, 3) := by decide +kernel
theorem d_Fa_add_4 : decode b_Fa_add 4 = .ok (.ifCond .lt 53, 3) := by decide +kernel
theorem d_Fa_add_7 : decode b_Fa_add 7 = .ok (.aload_n 0, 1) := by decide +kernel
theorem d_Fa_add_8 : decode b_Fa_add 8 = .ok (.getfield 21, 3) := by decide +kernel
theorem d_Fa_add_11 : decode b_Fa_add 11 = .ok (.bipush 17, 2) := by decide +kernel
theorem d_Fa_add_13 : decode b_Fa_add 13 = .ok (.if_icmp .ge 44, 3) := by decide +kernel
theorem d_Fa_add_16 : decode b_Fa_add 16 = .ok (.aload_n 0, 1) := by decide +kernel
theorem d_Fa_add_17 : decode b_Fa_add 17 = .ok (.getfield 9, 3) := by decide +kernel
theorem d_Fa_add_20 : decode b_Fa_add 20 = .ok (.aload_n 0, 1) := by decide +kernel
theorem d_Fa_add_21 : decode b_Fa_add 21 = .ok (.getfield 21, 3) := by decide +kernel
theorem d_Fa_add_24 : decode b_Fa_add 24 = .ok (.iload_n 1, 1) := by decide +kernel
theorem d_Fa_add_25 : decode b_Fa_add 25 = .ok (.iastore, 1) := by decide +kernel
theorem d_Fa_add_26 : decode b_Fa_add 26 = .ok (.aload_n 0, 1) := by decide +kernel
theorem d_Fa_add_27 : decode b_Fa_add 27 = .ok (.getfield 15, 3) := by decide +kernel
theorem d_Fa_add_30 : decode b_Fa_add 30 = .ok (.aload_n 0, 1) := by decide +kernel
theorem d_Fa_add_31 : decode b_Fa_add 31 = .ok (.getfield 21, 3) := by decide +kernel
theorem d_Fa_add_34 : decode b_Fa_add 34 = .ok (.iload_n 2, 1) := by decide +kernel
theorem d_Fa_add_35 : decode b_Fa_add 35 = .ok (.iastore, 1) := by decide +kernel
theorem d_Fa_add_36 : decode b_Fa_add 36 = .ok (.aload_n 0, 1) := by decide +kernel
theorem d_Fa_add_37 : decode b_Fa_add 37 = .ok (.getfield 18, 3) := by decide +kernel
theorem d_Fa_add_40 : decode b_Fa_add 40 = .ok (.aload_n 0, 1) := by decide +kernel
theorem d_Fa_add_41 : decode b_Fa_add 41 = .ok (.getfield 21, 3) := by decide +kernel
theorem d_Fa_add_44 : decode b_Fa_add 44 = .ok (.lload_n 3, 1) := by decide +kernel
theorem d_Fa_add_45 : decode b_Fa_add 45 = .ok (.l2i, 1) := by decide +kernel
theorem d_Fa_add_46 : decode b_Fa_add 46 = .ok (.iastore, 1) := by decide +kernel
theorem d_Fa_add_47 : decode b_Fa_add 47 = .ok (.aload_n 0, 1) := by decide +kernel
theorem d_Fa_add_48 : decode b_Fa_add 48 = .ok (.dup, 1) := by decide +kernel
theorem d_Fa_add_49 : decode b_Fa_add 49 = .ok (.getfield 21, 3) := by decide +kernel
theorem d_Fa_add_52 : decode b_Fa_add 52 = .ok (.iconst 1, 1) := by decide +kernel
theorem d_Fa_add_53 : decode b_Fa_add 53 = .ok (.iadd, 1) := by decide +kernel
theorem d_Fa_add_54 : decode b_Fa_add 54 = .ok (.putfield 21, 3) := by decide +kernel
theorem d_Fa_add_57 : decode b_Fa_add 57 = .ok (.return_, 1) := by decide +kernel
theorem d_Fa_corner_0 : decode b_Fa_corner 0 = .ok (.aload_n 0, 1) := by decide +kernel
theorem d_Fa_corner_1 : decode b_Fa_corner 1 = .ok (.iload_n 1, 1) := by decide +kernel
theorem d_Fa_corner_2 : decode b_Fa_corner 2 = .ok (.invokevirtual 25, 3) := by decide +kernel
theorem d_Fa_corner_5 : decode b_Fa_corner 5 = .ok (.ifCond .ne 5, 3) := by decide +kernel
theorem d_Fa_corner_8 : decode b_Fa_corner 8 = .ok (.iconst (-1), 1) := by decide +kernel
theorem d_Fa_corner_9 : decode b_Fa_corner 9 = .ok (.ireturn, 1) := by decide +kernel
theorem d_Fa_corner_10 : decode b_Fa_corner 10 = .ok (.iload_n 2, 1) := by decide +kernel
theorem d_Fa_corner_11 : decode b_Fa_corner 11 = .ok (.tableswitch 41 0 2 #[25, 27, 34], 25) := by decide +kernel
theorem d_Fa_corner_36 : decode b_Fa_corner 36 = .ok (.iconst 0, 1) := by decide +kernel
theorem d_Fa_corner_37 : decode b_Fa_corner 37 = .ok (.ireturn, 1) := by decide +kernel
theorem d_Fa_corner_38 : decode b_Fa_corner 38 = .ok (.aload_n 0, 1) := by decide +kernel
theorem d_Fa_corner_39 : decode b_Fa_corner 39 = .ok (.getfield 9, 3) := by decide +kernel
theorem d_Fa_corner_42 : decode b_Fa_corner 42 = .ok (.iload_n 1, 1) := by decide +kernel
theorem d_Fa_corner_43 : decode b_Fa_corner 43 = .ok (.iaload, 1) := by decide +kernel
theorem d_Fa_corner_44 : decode b_Fa_corner 44 = .ok (.ireturn, 1) := by decide +kernel
theorem d_Fa_corner_45 : decode b_Fa_corner 45 = .ok (.aload_n 0, 1) := by decide +kernel
theorem d_Fa_corner_46 : decode b_Fa_corner 46 = .ok (.getfield 15, 3) := by decide +kernel
theorem d_Fa_corner_49 : decode b_Fa_corner 49 = .ok (.iload_n 1, 1) := by decide +kernel
theorem d_Fa_corner_50 : decode b_Fa_corner 50 = .ok (.iaload, 1) := by decide +kernel
theorem d_Fa_corner_51 : decode b_Fa_corner 51 = .ok (.ireturn, 1) := by decide +kernel
theorem d_Fa_corner_52 : decode b_Fa_corner 52 = .ok (.iconst (-1), 1) := by decide +kernel
theorem d_Fa_corner_53 : decode b_Fa_corner 53 = .ok (.ireturn, 1) := by decide +kernel
theorem d_Ri_init_0 : decode b_Ri_init 0 = .ok (.aload_n 0, 1) := by decide +kernel
theorem d_Ri_init_1 : decode b_Ri_init 1 = .ok (.invokespecial 3, 3) := by decide +kernel
theorem d_Ri_init_4 : decode b_Ri_init 4 = .ok (.aload_n 0, 1) := by decide +kernel
theorem d_Ri_init_5 : decode b_Ri_init 5 = .ok (.bipush 114, 2) := by decide +kernel
theorem d_Ri_init_7 : decode b_Ri_init 7 = .ok (.newarray .long, 2) := by decide +kernel
theorem d_Ri_init_9 : decode b_Ri_init 9 = .ok (.putfield 9, 3) := by decide +kernel
theorem d_Ri_init_12 : decode b_Ri_init 12 = .ok (.aload_n 0, 1) := by decide +kernel
theorem d_Ri_init_13 : decode b_Ri_init 13 = .ok (.iconst 0, 1) := by decide +kernel
theorem d_Ri_init_14 : decode b_Ri_init 14 = .ok (.putfield 15, 3) := by decide +kernel
theorem d_Ri_init_17 : decode b_Ri_init 17 = .ok (.return_, 1) := by decide +kernel
theorem d_Ri_has_0 : decode b_Ri_has 0 = .ok (.iload_n 1, 1) := by decide +kernel
theorem d_Ri_has_1 : decode b_Ri_has 1 = .ok (.ifCond .lt 24, 3) := by decide +kernel
theorem d_Ri_has_4 : decode b_Ri_has 4 = .ok (.iload_n 1, 1) := by decide +kernel
theorem d_Ri_has_5 : decode b_Ri_has 5 = .ok (.aload_n 0, 1) := by decide +kernel
theorem d_Ri_has_6 : decode b_Ri_has 6 = .ok (.getfield 15, 3) := by decide +kernel
theorem d_Ri_has_9 : decode b_Ri_has 9 = .ok (.if_icmp .ge 16, 3) := by decide +kernel
theorem d_Ri_has_12 : decode b_Ri_has 12 = .ok (.aload_n 0, 1) := by decide +kernel
theorem d_Ri_has_13 : decode b_Ri_has 13 = .ok (.getfield 15, 3) := by decide +kernel
theorem d_Ri_has_16 : decode b_Ri_has 16 = .ok (.bipush 19, 2) := by decide +kernel
theorem d_Ri_has_18 : decode b_Ri_has 18 = .ok (.if_icmp .gt 7, 3) := by decide +kernel
theorem d_Ri_has_21 : decode b_Ri_has 21 = .ok (.iconst 1, 1) := by decide +kernel
theorem d_Ri_has_22 : decode b_Ri_has 22 = .ok (.goto 4, 3) := by decide +kernel
theorem d_Ri_has_25 : decode b_Ri_has 25 = .ok (.iconst 0, 1) := by decide +kernel
theorem d_Ri_has_26 : decode b_Ri_has 26 = .ok (.ireturn, 1) := by decide +kernel
theorem d_Ri_at_0 : decode b_Ri_at 0 = .ok (.aload_n 0, 1) := by decide +kernel
theorem d_Ri_at_1 : decode b_Ri_at 1 = .ok (.iload_n 1, 1) := by decide +kernel
theorem d_Ri_at_2 : decode b_Ri_at 2 = .ok (.invokevirtual 19, 3) := by decide +kernel
theorem d_Ri_at_5 : decode b_Ri_at 5 = .ok (.ifCond .eq 27, 3) := by decide +kernel
theorem d_Ri_at_8 : decode b_Ri_at 8 = .ok (.iload_n 2, 1) := by decide +kernel
theorem d_Ri_at_9 : decode b_Ri_at 9 = .ok (.ifCond .lt 23, 3) := by decide +kernel
theorem d_Ri_at_12 : decode b_Ri_at 12 = .ok (.iload_n 2, 1) := by decide +kernel
theorem d_Ri_at_13 : decode b_Ri_at 13 = .ok (.bipush 6, 2) := by decide +kernel
theorem d_Ri_at_15 : decode b_Ri_at 15 = .ok (.if_icmp .ge 17, 3) := by decide +kernel
theorem d_Ri_at_18 : decode b_Ri_at 18 = .ok (.aload_n 0, 1) := by decide +kernel
theorem d_Ri_at_19 : decode b_Ri_at 19 = .ok (.getfield 9, 3) := by decide +kernel
theorem d_Ri_at_22 : decode b_Ri_at 22 = .ok (.iload_n 1, 1) := by decide +kernel
theorem d_Ri_at_23 : decode b_Ri_at 23 = .ok (.bipush 6, 2) := by decide +kernel
theorem d_Ri_at_25 : decode b_Ri_at 25 = .ok (.imul, 1) := by decide +kernel
theorem d_Ri_at_26 : decode b_Ri_at 26 = .ok (.iload_n 2, 1) := by decide +kernel
theorem d_Ri_at_27 : decode b_Ri_at 27 = .ok (.iadd, 1) := by decide +kernel
theorem d_Ri_at_28 : decode b_Ri_at 28 = .ok (.laload, 1) := by decide +kernel
theorem d_Ri_at_29 : decode b_Ri_at 29 = .ok (.goto 4, 3) := by decide +kernel
theorem d_Ri_at_32 : decode b_Ri_at 32 = .ok (.lconst 0, 1) := by decide +kernel
theorem d_Ri_at_33 : decode b_Ri_at 33 = .ok (.lreturn, 1) := by decide +kernel
theorem d_Ri_put_0 : decode b_Ri_put 0 = .ok (.aload_n 0, 1) := by decide +kernel
theorem d_Ri_put_1 : decode b_Ri_put 1 = .ok (.iload_n 1, 1) := by decide +kernel
theorem d_Ri_put_2 : decode b_Ri_put 2 = .ok (.invokevirtual 19, 3) := by decide +kernel
theorem d_Ri_put_5 : decode b_Ri_put 5 = .ok (.ifCond .eq 25, 3) := by decide +kernel
theorem d_Ri_put_8 : decode b_Ri_put 8 = .ok (.iload_n 2, 1) := by decide +kernel
theorem d_Ri_put_9 : decode b_Ri_put 9 = .ok (.ifCond .lt 21, 3) := by decide +kernel
theorem d_Ri_put_12 : decode b_Ri_put 12 = .ok (.iload_n 2, 1) := by decide +kernel
theorem d_Ri_put_13 : decode b_Ri_put 13 = .ok (.bipush 6, 2) := by decide +kernel
theorem d_Ri_put_15 : decode b_Ri_put 15 = .ok (.if_icmp .ge 15, 3) := by decide +kernel
theorem d_Ri_put_18 : decode b_Ri_put 18 = .ok (.aload_n 0, 1) := by decide +kernel
theorem d_Ri_put_19 : decode b_Ri_put 19 = .ok (.getfield 9, 3) := by decide +kernel
theorem d_Ri_put_22 : decode b_Ri_put 22 = .ok (.iload_n 1, 1) := by decide +kernel
theorem d_Ri_put_23 : decode b_Ri_put 23 = .ok (.bipush 6, 2) := by decide +kernel
theorem d_Ri_put_25 : decode b_Ri_put 25 = .ok (.imul, 1) := by decide +kernel
theorem d_Ri_put_26 : decode b_Ri_put 26 = .ok (.iload_n 2, 1) := by decide +kernel
theorem d_Ri_put_27 : decode b_Ri_put 27 = .ok (.iadd, 1) := by decide +kernel
theorem d_Ri_put_28 : decode b_Ri_put 28 = .ok (.lload_n 3, 1) := by decide +kernel
theorem d_Ri_put_29 : decode b_Ri_put 29 = .ok (.lastore, 1) := by decide +kernel
theorem d_Ri_put_30 : decode b_Ri_put 30 = .ok (.return_, 1) := by decide +kernel
theorem d_Ri_clear_0 : decode b_Ri_clear 0 = .ok (.aload_n 0, 1) := by decide +kernel
theorem d_Ri_clear_1 : decode b_Ri_clear 1 = .ok (.iconst 0, 1) := by decide +kernel
theorem d_Ri_clear_2 : decode b_Ri_clear 2 = .ok (.putfield 15, 3) := by decide +kernel
theorem d_Ri_clear_5 : decode b_Ri_clear 5 = .ok (.return_, 1) := by decide +kernel
theorem d_Ri_addRow_0 : decode b_Ri_addRow 0 = .ok (.aload_n 0, 1) := by decide +kernel
theorem d_Ri_addRow_1 : decode b_Ri_addRow 1 = .ok (.getfield 15, 3) := by decide +kernel
theorem d_Ri_addRow_4 : decode b_Ri_addRow 4 = .ok (.bipush 19, 2) := by decide +kernel
theorem d_Ri_addRow_6 : decode b_Ri_addRow 6 = .ok (.if_icmp .lt 5, 3) := by decide +kernel
theorem d_Ri_addRow_9 : decode b_Ri_addRow 9 = .ok (.iconst (-1), 1) := by decide +kernel
theorem d_Ri_addRow_10 : decode b_Ri_addRow 10 = .ok (.ireturn, 1) := by decide +kernel
theorem d_Ri_addRow_11 : decode b_Ri_addRow 11 = .ok (.aload_n 0, 1) := by decide +kernel
theorem d_Ri_addRow_12 : decode b_Ri_addRow 12 = .ok (.dup, 1) := by decide +kernel
theorem d_Ri_addRow_13 : decode b_Ri_addRow 13 = .ok (.getfield 15, 3) := by decide +kernel
theorem d_Ri_addRow_16 : decode b_Ri_addRow 16 = .ok (.iconst 1, 1) := by decide +kernel
theorem d_Ri_addRow_17 : decode b_Ri_addRow 17 = .ok (.iadd, 1) := by decide +kernel
theorem d_Ri_addRow_18 : decode b_Ri_addRow 18 = .ok (.putfield 15, 3) := by decide +kernel
theorem d_Ri_addRow_21 : decode b_Ri_addRow 21 = .ok (.aload_n 0, 1) := by decide +kernel
theorem d_Ri_addRow_22 : decode b_Ri_addRow 22 = .ok (.getfield 15, 3) := by decide +kernel
theorem d_Ri_addRow_25 : decode b_Ri_addRow 25 = .ok (.iconst 1, 1) := by decide +kernel
theorem d_Ri_addRow_26 : decode b_Ri_addRow 26 = .ok (.isub, 1) := by decide +kernel
theorem d_Ri_addRow_27 : decode b_Ri_addRow 27 = .ok (.ireturn, 1) := by decide +kernel
theorem d_Ri_addCopy_0 : decode b_Ri_addCopy 0 = .ok (.aload_n 0, 1) := by decide +kernel
theorem d_Ri_addCopy_1 : decode b_Ri_addCopy 1 = .ok (.invokevirtual 23, 3) := by decide +kernel
theorem d_Ri_addCopy_4 : decode b_Ri_addCopy 4 = .ok (.istore_n 3, 1) := by decide +kernel
theorem d_Ri_addCopy_5 : decode b_Ri_addCopy 5 = .ok (.iconst 0, 1) := by decide +kernel
theorem d_Ri_addCopy_6 : decode b_Ri_addCopy 6 = .ok (.istore 4, 2) := by decide +kernel
theorem d_Ri_addCopy_8 : decode b_Ri_addCopy 8 = .ok (.iload 4, 2) := by decide +kernel
theorem d_Ri_addCopy_10 : decode b_Ri_addCopy 10 = .ok (.bipush 6, 2) := by decide +kernel
theorem d_Ri_addCopy_12 : decode b_Ri_addCopy 12 = .ok (.if_icmp .ge 23, 3) := by decide +kernel
theorem d_Ri_addCopy_15 : decode b_Ri_addCopy 15 = .ok (.aload_n 0, 1) := by decide +kernel
theorem d_Ri_addCopy_16 : decode b_Ri_addCopy 16 = .ok (.iload_n 3, 1) := by decide +kernel
theorem d_Ri_addCopy_17 : decode b_Ri_addCopy 17 = .ok (.iload 4, 2) := by decide +kernel
theorem d_Ri_addCopy_19 : decode b_Ri_addCopy 19 = .ok (.aload_n 1, 1) := by decide +kernel
theorem d_Ri_addCopy_20 : decode b_Ri_addCopy 20 = .ok (.iload_n 2, 1) := by decide +kernel
theorem d_Ri_addCopy_21 : decode b_Ri_addCopy 21 = .ok (.iload 4, 2) := by decide +kernel
theorem d_Ri_addCopy_23 : decode b_Ri_addCopy 23 = .ok (.invokevirtual 27, 3) := by decide +kernel
theorem d_Ri_addCopy_26 : decode b_Ri_addCopy 26 = .ok (.invokevirtual 31, 3) := by decide +kernel
theorem d_Ri_addCopy_29 : decode b_Ri_addCopy 29 = .ok (.iinc 4 1, 3) := by decide +kernel
theorem d_Ri_addCopy_32 : decode b_Ri_addCopy 32 = .ok (.goto (-24), 3) := by decide +kernel
theorem d_Ri_addCopy_35 : decode b_Ri_addCopy 35 = .ok (.return_, 1) := by decide +kernel
theorem d_Ma_floorDiv_0 : decode b_Ma_floorDiv 0 = .ok (.lload_n 0, 1) := by decide +kernel
theorem d_Ma_floorDiv_1 : decode b_Ma_floorDiv 1 = .ok (.lload_n 2, 1) := by decide +kernel
theorem d_Ma_floorDiv_2 : decode b_Ma_floorDiv 2 = .ok (.ldiv, 1) := by decide +kernel
theorem d_Ma_floorDiv_3 : decode b_Ma_floorDiv 3 = .ok (.lstore 4, 2) := by decide +kernel
theorem d_Ma_floorDiv_5 : decode b_Ma_floorDiv 5 = .ok (.lload_n 0, 1) := by decide +kernel
theorem d_Ma_floorDiv_6 : decode b_Ma_floorDiv 6 = .ok (.lload_n 2, 1) := by decide +kernel
theorem d_Ma_floorDiv_7 : decode b_Ma_floorDiv 7 = .ok (.lxor, 1) := by decide +kernel
theorem d_Ma_floorDiv_8 : decode b_Ma_floorDiv 8 = .ok (.lconst 0, 1) := by decide +kernel
theorem d_Ma_floorDiv_9 : decode b_Ma_floorDiv 9 = .ok (.lcmp, 1) := by decide +kernel
theorem d_Ma_floorDiv_10 : decode b_Ma_floorDiv 10 = .ok (.ifCond .ge 17, 3) := by decide +kernel
theorem d_Ma_floorDiv_13 : decode b_Ma_floorDiv 13 = .ok (.lload 4, 2) := by decide +kernel
theorem d_Ma_floorDiv_15 : decode b_Ma_floorDiv 15 = .ok (.lload_n 2, 1) := by decide +kernel
theorem d_Ma_floorDiv_16 : decode b_Ma_floorDiv 16 = .ok (.lmul, 1) := by decide +kernel
theorem d_Ma_floorDiv_17 : decode b_Ma_floorDiv 17 = .ok (.lload_n 0, 1) := by decide +kernel
theorem d_Ma_floorDiv_18 : decode b_Ma_floorDiv 18 = .ok (.lcmp, 1) := by decide +kernel
theorem d_Ma_floorDiv_19 : decode b_Ma_floorDiv 19 = .ok (.ifCond .eq 8, 3) := by decide +kernel
theorem d_Ma_floorDiv_22 : decode b_Ma_floorDiv 22 = .ok (.lload 4, 2) := by decide +kernel
theorem d_Ma_floorDiv_24 : decode b_Ma_floorDiv 24 = .ok (.lconst 1, 1) := by decide +kernel
theorem d_Ma_floorDiv_25 : decode b_Ma_floorDiv 25 = .ok (.lsub, 1) := by decide +kernel
theorem d_Ma_floorDiv_26 : decode b_Ma_floorDiv 26 = .ok (.lreturn, 1) := by decide +kernel
theorem d_Ma_floorDiv_27 : decode b_Ma_floorDiv 27 = .ok (.lload 4, 2) := by decide +kernel
theorem d_Ma_floorDiv_29 : decode b_Ma_floorDiv 29 = .ok (.lreturn, 1) := by decide +kernel
