theorem dX3_init_0 : decode cX3_init 0 = .ok (.aload_n 0, 1) := by decide +kernel
theorem dX3_init_1 : decode cX3_init 1 = .ok (.invokespecial 5, 3) := by decide +kernel
theorem dX3_init_4 : decode cX3_init 4 = .ok (.aload_n 0, 1) := by decide +kernel
theorem dX3_init_5 : decode cX3_init 5 = .ok (.sipush 200, 3) := by decide +kernel
theorem dX3_init_8 : decode cX3_init 8 = .ok (.newarray .long, 2) := by decide +kernel
theorem dX3_init_10 : decode cX3_init 10 = .ok (.putfield 11, 3) := by decide +kernel
theorem dX3_init_13 : decode cX3_init 13 = .ok (.aload_n 0, 1) := by decide +kernel
theorem dX3_init_14 : decode cX3_init 14 = .ok (.sipush 512, 3) := by decide +kernel
theorem dX3_init_17 : decode cX3_init 17 = .ok (.newarray .long, 2) := by decide +kernel
theorem dX3_init_19 : decode cX3_init 19 = .ok (.putfield 15, 3) := by decide +kernel
theorem dX3_init_22 : decode cX3_init 22 = .ok (.aload_n 0, 1) := by decide +kernel
theorem dX3_init_23 : decode cX3_init 23 = .ok (.iconst 0, 1) := by decide +kernel
theorem dX3_init_24 : decode cX3_init 24 = .ok (.putfield 18, 3) := by decide +kernel
theorem dX3_init_27 : decode cX3_init 27 = .ok (.return_, 1) := by decide +kernel
theorem dX3_clear_0 : decode cX3_clear 0 = .ok (.aload_n 0, 1) := by decide +kernel
theorem dX3_clear_1 : decode cX3_clear 1 = .ok (.iconst 0, 1) := by decide +kernel
theorem dX3_clear_2 : decode cX3_clear 2 = .ok (.putfield 18, 3) := by decide +kernel
theorem dX3_clear_5 : decode cX3_clear 5 = .ok (.iconst 0, 1) := by decide +kernel
theorem dX3_clear_6 : decode cX3_clear 6 = .ok (.istore_n 1, 1) := by decide +kernel
theorem dX3_clear_7 : decode cX3_clear 7 = .ok (.iload_n 1, 1) := by decide +kernel
theorem dX3_clear_8 : decode cX3_clear 8 = .ok (.sipush 512, 3) := by decide +kernel
theorem dX3_clear_11 : decode cX3_clear 11 = .ok (.if_icmp .ge 16, 3) := by decide +kernel
theorem dX3_clear_14 : decode cX3_clear 14 = .ok (.aload_n 0, 1) := by decide +kernel
theorem dX3_clear_15 : decode cX3_clear 15 = .ok (.getfield 15, 3) := by decide +kernel
theorem dX3_clear_18 : decode cX3_clear 18 = .ok (.iload_n 1, 1) := by decide +kernel
theorem dX3_clear_19 : decode cX3_clear 19 = .ok (.lconst 0, 1) := by decide +kernel
theorem dX3_clear_20 : decode cX3_clear 20 = .ok (.lastore, 1) := by decide +kernel
theorem dX3_clear_21 : decode cX3_clear 21 = .ok (.iinc 1 1, 3) := by decide +kernel
theorem dX3_clear_24 : decode cX3_clear 24 = .ok (.goto (-17), 3) := by decide +kernel
theorem dX3_clear_27 : decode cX3_clear 27 = .ok (.return_, 1) := by decide +kernel
theorem dX3_add_0 : decode cX3_add 0 = .ok (.aload_n 0, 1) := by decide +kernel
theorem dX3_add_1 : decode cX3_add 1 = .ok (.getfield 18, 3) := by decide +kernel
theorem dX3_add_4 : decode cX3_add 4 = .ok (.sipush 200, 3) := by decide +kernel
theorem dX3_add_7 : decode cX3_add 7 = .ok (.if_icmp .ge 34, 3) := by decide +kernel
theorem dX3_add_10 : decode cX3_add 10 = .ok (.aload_n 0, 1) := by decide +kernel
theorem dX3_add_11 : decode cX3_add 11 = .ok (.getfield 11, 3) := by decide +kernel
theorem dX3_add_14 : decode cX3_add 14 = .ok (.aload_n 0, 1) := by decide +kernel
theorem dX3_add_15 : decode cX3_add 15 = .ok (.getfield 18, 3) := by decide +kernel
theorem dX3_add_18 : decode cX3_add 18 = .ok (.lload_n 1, 1) := by decide +kernel
theorem dX3_add_19 : decode cX3_add 19 = .ok (.lastore, 1) := by decide +kernel
theorem dX3_add_20 : decode cX3_add 20 = .ok (.aload_n 0, 1) := by decide +kernel
theorem dX3_add_21 : decode cX3_add 21 = .ok (.dup, 1) := by decide +kernel
theorem dX3_add_22 : decode cX3_add 22 = .ok (.getfield 18, 3) := by decide +kernel
theorem dX3_add_25 : decode cX3_add 25 = .ok (.iconst 1, 1) := by decide +kernel
theorem dX3_add_26 : decode cX3_add 26 = .ok (.iadd, 1) := by decide +kernel
theorem dX3_add_27 : decode cX3_add 27 = .ok (.putfield 18, 3) := by decide +kernel
theorem dX3_add_30 : decode cX3_add 30 = .ok (.aload_n 0, 1) := by decide +kernel
theorem dX3_add_31 : decode cX3_add 31 = .ok (.getfield 15, 3) := by decide +kernel
theorem dX3_add_34 : decode cX3_add 34 = .ok (.aload_n 0, 1) := by decide +kernel
theorem dX3_add_35 : decode cX3_add 35 = .ok (.lload_n 1, 1) := by decide +kernel
theorem dX3_add_36 : decode cX3_add 36 = .ok (.invokevirtual 22, 3) := by decide +kernel
theorem dX3_add_39 : decode cX3_add 39 = .ok (.lload_n 1, 1) := by decide +kernel
theorem dX3_add_40 : decode cX3_add 40 = .ok (.lastore, 1) := by decide +kernel
theorem dX3_add_41 : decode cX3_add 41 = .ok (.return_, 1) := by decide +kernel
theorem dX3_has_0 : decode cX3_has 0 = .ok (.lload_n 1, 1) := by decide +kernel
theorem dX3_has_1 : decode cX3_has 1 = .ok (.lconst 0, 1) := by decide +kernel
theorem dX3_has_2 : decode cX3_has 2 = .ok (.lcmp, 1) := by decide +kernel
theorem dX3_has_3 : decode cX3_has 3 = .ok (.ifCond .eq 22, 3) := by decide +kernel
theorem dX3_has_6 : decode cX3_has 6 = .ok (.aload_n 0, 1) := by decide +kernel
theorem dX3_has_7 : decode cX3_has 7 = .ok (.getfield 15, 3) := by decide +kernel
theorem dX3_has_10 : decode cX3_has 10 = .ok (.aload_n 0, 1) := by decide +kernel
theorem dX3_has_11 : decode cX3_has 11 = .ok (.lload_n 1, 1) := by decide +kernel
theorem dX3_has_12 : decode cX3_has 12 = .ok (.invokevirtual 22, 3) := by decide +kernel
theorem dX3_has_15 : decode cX3_has 15 = .ok (.laload, 1) := by decide +kernel
theorem dX3_has_16 : decode cX3_has 16 = .ok (.lload_n 1, 1) := by decide +kernel
theorem dX3_has_17 : decode cX3_has 17 = .ok (.lcmp, 1) := by decide +kernel
theorem dX3_has_18 : decode cX3_has 18 = .ok (.ifCond .ne 7, 3) := by decide +kernel
theorem dX3_has_21 : decode cX3_has 21 = .ok (.iconst 1, 1) := by decide +kernel
theorem dX3_has_22 : decode cX3_has 22 = .ok (.goto 4, 3) := by decide +kernel
theorem dX3_has_25 : decode cX3_has 25 = .ok (.iconst 0, 1) := by decide +kernel
theorem dX3_has_26 : decode cX3_has 26 = .ok (.ireturn, 1) := by decide +kernel
theorem dX3_hasTwo_0 : decode cX3_hasTwo 0 = .ok (.iconst 0, 1) := by decide +kernel
theorem dX3_hasTwo_1 : decode cX3_hasTwo 1 = .ok (.istore_n 3, 1) := by decide +kernel
theorem dX3_hasTwo_2 : decode cX3_hasTwo 2 = .ok (.iload_n 3, 1) := by decide +kernel
theorem dX3_hasTwo_3 : decode cX3_hasTwo 3 = .ok (.aload_n 0, 1) := by decide +kernel
theorem dX3_hasTwo_4 : decode cX3_hasTwo 4 = .ok (.getfield 18, 3) := by decide +kernel
theorem dX3_hasTwo_7 : decode cX3_hasTwo 7 = .ok (.if_icmp .ge 26, 3) := by decide +kernel
theorem dX3_hasTwo_10 : decode cX3_hasTwo 10 = .ok (.aload_n 0, 1) := by decide +kernel
theorem dX3_hasTwo_11 : decode cX3_hasTwo 11 = .ok (.lload_n 1, 1) := by decide +kernel
theorem dX3_hasTwo_12 : decode cX3_hasTwo 12 = .ok (.aload_n 0, 1) := by decide +kernel
theorem dX3_hasTwo_13 : decode cX3_hasTwo 13 = .ok (.getfield 11, 3) := by decide +kernel
theorem dX3_hasTwo_16 : decode cX3_hasTwo 16 = .ok (.iload_n 3, 1) := by decide +kernel
theorem dX3_hasTwo_17 : decode cX3_hasTwo 17 = .ok (.laload, 1) := by decide +kernel
theorem dX3_hasTwo_18 : decode cX3_hasTwo 18 = .ok (.lxor, 1) := by decide +kernel
theorem dX3_hasTwo_19 : decode cX3_hasTwo 19 = .ok (.invokevirtual 26, 3) := by decide +kernel
theorem dX3_hasTwo_22 : decode cX3_hasTwo 22 = .ok (.ifCond .eq 5, 3) := by decide +kernel
theorem dX3_hasTwo_25 : decode cX3_hasTwo 25 = .ok (.iconst 1, 1) := by decide +kernel
theorem dX3_hasTwo_26 : decode cX3_hasTwo 26 = .ok (.ireturn, 1) := by decide +kernel
theorem dX3_hasTwo_27 : decode cX3_hasTwo 27 = .ok (.iinc 3 1, 3) := by decide +kernel
theorem dX3_hasTwo_30 : decode cX3_hasTwo 30 = .ok (.goto (-28), 3) := by decide +kernel
theorem dX3_hasTwo_33 : decode cX3_hasTwo 33 = .ok (.iconst 0, 1) := by decide +kernel
theorem dX3_hasTwo_34 : decode cX3_hasTwo 34 = .ok (.ireturn, 1) := by decide +kernel
theorem dX3_slotOf_0 : decode cX3_slotOf 0 = .ok (.lload_n 1, 1) := by decide +kernel
theorem dX3_slotOf_1 : decode cX3_slotOf 1 = .ok (.ldc2_w 30, 3) := by decide +kernel
theorem dX3_slotOf_4 : decode cX3_slotOf 4 = .ok (.lmul, 1) := by decide +kernel
theorem dX3_slotOf_5 : decode cX3_slotOf 5 = .ok (.bipush 55, 2) := by decide +kernel
theorem dX3_slotOf_7 : decode cX3_slotOf 7 = .ok (.lushr, 1) := by decide +kernel
theorem dX3_slotOf_8 : decode cX3_slotOf 8 = .ok (.l2i, 1) := by decide +kernel
theorem dX3_slotOf_9 : decode cX3_slotOf 9 = .ok (.istore_n 3, 1) := by decide +kernel
theorem dX3_slotOf_10 : decode cX3_slotOf 10 = .ok (.iconst 0, 1) := by decide +kernel
theorem dX3_slotOf_11 : decode cX3_slotOf 11 = .ok (.istore 4, 2) := by decide +kernel
theorem dX3_slotOf_13 : decode cX3_slotOf 13 = .ok (.iload 4, 2) := by decide +kernel
theorem dX3_slotOf_15 : decode cX3_slotOf 15 = .ok (.sipush 512, 3) := by decide +kernel
theorem dX3_slotOf_18 : decode cX3_slotOf 18 = .ok (.if_icmp .ge 39, 3) := by decide +kernel
theorem dX3_slotOf_21 : decode cX3_slotOf 21 = .ok (.aload_n 0, 1) := by decide +kernel
theorem dX3_slotOf_22 : decode cX3_slotOf 22 = .ok (.getfield 15, 3) := by decide +kernel
theorem dX3_slotOf_25 : decode cX3_slotOf 25 = .ok (.iload_n 3, 1) := by decide +kernel
theorem dX3_slotOf_26 : decode cX3_slotOf 26 = .ok (.laload, 1) := by decide +kernel
theorem dX3_slotOf_27 : decode cX3_slotOf 27 = .ok (.lconst 0, 1) := by decide +kernel
theorem dX3_slotOf_28 : decode cX3_slotOf 28 = .ok (.lcmp, 1) := by decide +kernel
theorem dX3_slotOf_29 : decode cX3_slotOf 29 = .ok (.ifCond .eq 28, 3) := by decide +kernel
theorem dX3_slotOf_32 : decode cX3_slotOf 32 = .ok (.aload_n 0, 1) := by decide +kernel
theorem dX3_slotOf_33 : decode cX3_slotOf 33 = .ok (.getfield 15, 3) := by decide +kernel
theorem dX3_slotOf_36 : decode cX3_slotOf 36 = .ok (.iload_n 3, 1) := by decide +kernel
theorem dX3_slotOf_37 : decode cX3_slotOf 37 = .ok (.laload, 1) := by decide +kernel
theorem dX3_slotOf_38 : decode cX3_slotOf 38 = .ok (.lload_n 1, 1) := by decide +kernel
theorem dX3_slotOf_39 : decode cX3_slotOf 39 = .ok (.lcmp, 1) := by decide +kernel
theorem dX3_slotOf_40 : decode cX3_slotOf 40 = .ok (.ifCond .eq 17, 3) := by decide +kernel
theorem dX3_slotOf_43 : decode cX3_slotOf 43 = .ok (.iload_n 3, 1) := by decide +kernel
theorem dX3_slotOf_44 : decode cX3_slotOf 44 = .ok (.iconst 1, 1) := by decide +kernel
theorem dX3_slotOf_45 : decode cX3_slotOf 45 = .ok (.iadd, 1) := by decide +kernel
theorem dX3_slotOf_46 : decode cX3_slotOf 46 = .ok (.sipush 511, 3) := by decide +kernel
theorem dX3_slotOf_49 : decode cX3_slotOf 49 = .ok (.iand, 1) := by decide +kernel
theorem dX3_slotOf_50 : decode cX3_slotOf 50 = .ok (.istore_n 3, 1) := by decide +kernel
theorem dX3_slotOf_51 : decode cX3_slotOf 51 = .ok (.iinc 4 1, 3) := by decide +kernel
theorem dX3_slotOf_54 : decode cX3_slotOf 54 = .ok (.goto (-41), 3) := by decide +kernel
theorem dX3_slotOf_57 : decode cX3_slotOf 57 = .ok (.iload_n 3, 1) := by decide +kernel
theorem dX3_slotOf_58 : decode cX3_slotOf 58 = .ok (.ireturn, 1) := by decide +kernel
