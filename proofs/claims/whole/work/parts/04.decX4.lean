theorem dX4_init_0 : decode cX4_init 0 = .ok (.aload_n 0, 1) := by decide +kernel
theorem dX4_init_1 : decode cX4_init 1 = .ok (.invokespecial 3, 3) := by decide +kernel
theorem dX4_init_4 : decode cX4_init 4 = .ok (.aload_n 0, 1) := by decide +kernel
theorem dX4_init_5 : decode cX4_init 5 = .ok (.sipush 201, 3) := by decide +kernel
theorem dX4_init_8 : decode cX4_init 8 = .ok (.putfield 11, 3) := by decide +kernel
theorem dX4_init_11 : decode cX4_init 11 = .ok (.aload_n 0, 1) := by decide +kernel
theorem dX4_init_12 : decode cX4_init 12 = .ok (.sipush 201, 3) := by decide +kernel
theorem dX4_init_15 : decode cX4_init 15 = .ok (.putfield 15, 3) := by decide +kernel
theorem dX4_init_18 : decode cX4_init 18 = .ok (.aload_n 0, 1) := by decide +kernel
theorem dX4_init_19 : decode cX4_init 19 = .ok (.sipush 201, 3) := by decide +kernel
theorem dX4_init_22 : decode cX4_init 22 = .ok (.putfield 18, 3) := by decide +kernel
theorem dX4_init_25 : decode cX4_init 25 = .ok (.aload_n 0, 1) := by decide +kernel
theorem dX4_init_26 : decode cX4_init 26 = .ok (.lconst 0, 1) := by decide +kernel
theorem dX4_init_27 : decode cX4_init 27 = .ok (.putfield 21, 3) := by decide +kernel
theorem dX4_init_30 : decode cX4_init 30 = .ok (.return_, 1) := by decide +kernel
theorem dX4_fewest_0 : decode cX4_fewest 0 = .ok (.iload_n 1, 1) := by decide +kernel
theorem dX4_fewest_1 : decode cX4_fewest 1 = .ok (.aload_n 0, 1) := by decide +kernel
theorem dX4_fewest_2 : decode cX4_fewest 2 = .ok (.getfield 11, 3) := by decide +kernel
theorem dX4_fewest_5 : decode cX4_fewest 5 = .ok (.if_icmp .lt 5, 3) := by decide +kernel
theorem dX4_fewest_8 : decode cX4_fewest 8 = .ok (.iconst 2, 1) := by decide +kernel
theorem dX4_fewest_9 : decode cX4_fewest 9 = .ok (.ireturn, 1) := by decide +kernel
theorem dX4_fewest_10 : decode cX4_fewest 10 = .ok (.iload_n 1, 1) := by decide +kernel
theorem dX4_fewest_11 : decode cX4_fewest 11 = .ok (.aload_n 0, 1) := by decide +kernel
theorem dX4_fewest_12 : decode cX4_fewest 12 = .ok (.getfield 15, 3) := by decide +kernel
theorem dX4_fewest_15 : decode cX4_fewest 15 = .ok (.if_icmp .lt 5, 3) := by decide +kernel
theorem dX4_fewest_18 : decode cX4_fewest 18 = .ok (.iconst 3, 1) := by decide +kernel
theorem dX4_fewest_19 : decode cX4_fewest 19 = .ok (.ireturn, 1) := by decide +kernel
theorem dX4_fewest_20 : decode cX4_fewest 20 = .ok (.iload_n 1, 1) := by decide +kernel
theorem dX4_fewest_21 : decode cX4_fewest 21 = .ok (.aload_n 0, 1) := by decide +kernel
theorem dX4_fewest_22 : decode cX4_fewest 22 = .ok (.getfield 18, 3) := by decide +kernel
theorem dX4_fewest_25 : decode cX4_fewest 25 = .ok (.if_icmp .lt 7, 3) := by decide +kernel
theorem dX4_fewest_28 : decode cX4_fewest 28 = .ok (.iconst 4, 1) := by decide +kernel
theorem dX4_fewest_29 : decode cX4_fewest 29 = .ok (.goto 4, 3) := by decide +kernel
theorem dX4_fewest_32 : decode cX4_fewest 32 = .ok (.iconst 5, 1) := by decide +kernel
theorem dX4_fewest_33 : decode cX4_fewest 33 = .ok (.ireturn, 1) := by decide +kernel
theorem dX4_findFor_0 : decode cX4_findFor 0 = .ok (.aload_n 0, 1) := by decide +kernel
theorem dX4_findFor_1 : decode cX4_findFor 1 = .ok (.getfield 21, 3) := by decide +kernel
theorem dX4_findFor_4 : decode cX4_findFor 4 = .ok (.lload_n 1, 1) := by decide +kernel
theorem dX4_findFor_5 : decode cX4_findFor 5 = .ok (.lcmp, 1) := by decide +kernel
theorem dX4_findFor_6 : decode cX4_findFor 6 = .ok (.ifCond .ne 4, 3) := by decide +kernel
theorem dX4_findFor_9 : decode cX4_findFor 9 = .ok (.return_, 1) := by decide +kernel
theorem dX4_findFor_10 : decode cX4_findFor 10 = .ok (.aload_n 0, 1) := by decide +kernel
theorem dX4_findFor_11 : decode cX4_findFor 11 = .ok (.lload_n 1, 1) := by decide +kernel
theorem dX4_findFor_12 : decode cX4_findFor 12 = .ok (.putfield 21, 3) := by decide +kernel
theorem dX4_findFor_15 : decode cX4_findFor 15 = .ok (.aload_n 0, 1) := by decide +kernel
theorem dX4_findFor_16 : decode cX4_findFor 16 = .ok (.sipush 201, 3) := by decide +kernel
theorem dX4_findFor_19 : decode cX4_findFor 19 = .ok (.putfield 11, 3) := by decide +kernel
theorem dX4_findFor_22 : decode cX4_findFor 22 = .ok (.aload_n 0, 1) := by decide +kernel
theorem dX4_findFor_23 : decode cX4_findFor 23 = .ok (.sipush 201, 3) := by decide +kernel
theorem dX4_findFor_26 : decode cX4_findFor 26 = .ok (.putfield 15, 3) := by decide +kernel
theorem dX4_findFor_29 : decode cX4_findFor 29 = .ok (.aload_n 0, 1) := by decide +kernel
theorem dX4_findFor_30 : decode cX4_findFor 30 = .ok (.sipush 201, 3) := by decide +kernel
theorem dX4_findFor_33 : decode cX4_findFor 33 = .ok (.putfield 18, 3) := by decide +kernel
theorem dX4_findFor_36 : decode cX4_findFor 36 = .ok (.lload_n 1, 1) := by decide +kernel
theorem dX4_findFor_37 : decode cX4_findFor 37 = .ok (.invokestatic 25, 3) := by decide +kernel
theorem dX4_findFor_40 : decode cX4_findFor 40 = .ok (.istore 4, 2) := by decide +kernel
theorem dX4_findFor_42 : decode cX4_findFor 42 = .ok (.lconst 1, 1) := by decide +kernel
theorem dX4_findFor_43 : decode cX4_findFor 43 = .ok (.lstore 5, 2) := by decide +kernel
theorem dX4_findFor_45 : decode cX4_findFor 45 = .ok (.aload_n 3, 1) := by decide +kernel
theorem dX4_findFor_46 : decode cX4_findFor 46 = .ok (.invokevirtual 31, 3) := by decide +kernel
theorem dX4_findFor_49 : decode cX4_findFor 49 = .ok (.iconst 1, 1) := by decide +kernel
theorem dX4_findFor_50 : decode cX4_findFor 50 = .ok (.istore 7, 2) := by decide +kernel
theorem dX4_findFor_52 : decode cX4_findFor 52 = .ok (.iload 7, 2) := by decide +kernel
theorem dX4_findFor_54 : decode cX4_findFor 54 = .ok (.sipush 200, 3) := by decide +kernel
theorem dX4_findFor_57 : decode cX4_findFor 57 = .ok (.if_icmp .ge 48, 3) := by decide +kernel
theorem dX4_findFor_60 : decode cX4_findFor 60 = .ok (.aload_n 0, 1) := by decide +kernel
theorem dX4_findFor_61 : decode cX4_findFor 61 = .ok (.getfield 11, 3) := by decide +kernel
theorem dX4_findFor_64 : decode cX4_findFor 64 = .ok (.sipush 201, 3) := by decide +kernel
theorem dX4_findFor_67 : decode cX4_findFor 67 = .ok (.if_icmp .ne 38, 3) := by decide +kernel
theorem dX4_findFor_70 : decode cX4_findFor 70 = .ok (.aload_n 3, 1) := by decide +kernel
theorem dX4_findFor_71 : decode cX4_findFor 71 = .ok (.lload 5, 2) := by decide +kernel
theorem dX4_findFor_73 : decode cX4_findFor 73 = .ok (.invokevirtual 36, 3) := by decide +kernel
theorem dX4_findFor_76 : decode cX4_findFor 76 = .ok (.lload 5, 2) := by decide +kernel
theorem dX4_findFor_78 : decode cX4_findFor 78 = .ok (.lload_n 1, 1) := by decide +kernel
theorem dX4_findFor_79 : decode cX4_findFor 79 = .ok (.iload 4, 2) := by decide +kernel
theorem dX4_findFor_81 : decode cX4_findFor 81 = .ok (.invokestatic 40, 3) := by decide +kernel
theorem dX4_findFor_84 : decode cX4_findFor 84 = .ok (.lstore 5, 2) := by decide +kernel
theorem dX4_findFor_86 : decode cX4_findFor 86 = .ok (.aload_n 0, 1) := by decide +kernel
theorem dX4_findFor_87 : decode cX4_findFor 87 = .ok (.lload 5, 2) := by decide +kernel
theorem dX4_findFor_89 : decode cX4_findFor 89 = .ok (.lconst 1, 1) := by decide +kernel
theorem dX4_findFor_90 : decode cX4_findFor 90 = .ok (.lxor, 1) := by decide +kernel
theorem dX4_findFor_91 : decode cX4_findFor 91 = .ok (.iload 7, 2) := by decide +kernel
theorem dX4_findFor_93 : decode cX4_findFor 93 = .ok (.iconst 1, 1) := by decide +kernel
theorem dX4_findFor_94 : decode cX4_findFor 94 = .ok (.iadd, 1) := by decide +kernel
theorem dX4_findFor_95 : decode cX4_findFor 95 = .ok (.aload_n 3, 1) := by decide +kernel
theorem dX4_findFor_96 : decode cX4_findFor 96 = .ok (.invokevirtual 44, 3) := by decide +kernel
theorem dX4_findFor_99 : decode cX4_findFor 99 = .ok (.iinc 7 1, 3) := by decide +kernel
theorem dX4_findFor_102 : decode cX4_findFor 102 = .ok (.goto (-50), 3) := by decide +kernel
theorem dX4_findFor_105 : decode cX4_findFor 105 = .ok (.return_, 1) := by decide +kernel
theorem dX4_lookAt_0 : decode cX4_lookAt 0 = .ok (.lload_n 1, 1) := by decide +kernel
theorem dX4_lookAt_1 : decode cX4_lookAt 1 = .ok (.lconst 0, 1) := by decide +kernel
theorem dX4_lookAt_2 : decode cX4_lookAt 2 = .ok (.lcmp, 1) := by decide +kernel
theorem dX4_lookAt_3 : decode cX4_lookAt 3 = .ok (.ifCond .ne 11, 3) := by decide +kernel
theorem dX4_lookAt_6 : decode cX4_lookAt 6 = .ok (.aload_n 0, 1) := by decide +kernel
theorem dX4_lookAt_7 : decode cX4_lookAt 7 = .ok (.iload_n 3, 1) := by decide +kernel
theorem dX4_lookAt_8 : decode cX4_lookAt 8 = .ok (.putfield 11, 3) := by decide +kernel
theorem dX4_lookAt_11 : decode cX4_lookAt 11 = .ok (.goto 54, 3) := by decide +kernel
theorem dX4_lookAt_14 : decode cX4_lookAt 14 = .ok (.aload_n 0, 1) := by decide +kernel
theorem dX4_lookAt_15 : decode cX4_lookAt 15 = .ok (.getfield 15, 3) := by decide +kernel
theorem dX4_lookAt_18 : decode cX4_lookAt 18 = .ok (.sipush 201, 3) := by decide +kernel
theorem dX4_lookAt_21 : decode cX4_lookAt 21 = .ok (.if_icmp .ne 44, 3) := by decide +kernel
theorem dX4_lookAt_24 : decode cX4_lookAt 24 = .ok (.aload 4, 2) := by decide +kernel
theorem dX4_lookAt_26 : decode cX4_lookAt 26 = .ok (.lload_n 1, 1) := by decide +kernel
theorem dX4_lookAt_27 : decode cX4_lookAt 27 = .ok (.invokevirtual 48, 3) := by decide +kernel
theorem dX4_lookAt_30 : decode cX4_lookAt 30 = .ok (.ifCond .eq 11, 3) := by decide +kernel
theorem dX4_lookAt_33 : decode cX4_lookAt 33 = .ok (.aload_n 0, 1) := by decide +kernel
theorem dX4_lookAt_34 : decode cX4_lookAt 34 = .ok (.iload_n 3, 1) := by decide +kernel
theorem dX4_lookAt_35 : decode cX4_lookAt 35 = .ok (.putfield 15, 3) := by decide +kernel
theorem dX4_lookAt_38 : decode cX4_lookAt 38 = .ok (.goto 27, 3) := by decide +kernel
theorem dX4_lookAt_41 : decode cX4_lookAt 41 = .ok (.aload_n 0, 1) := by decide +kernel
theorem dX4_lookAt_42 : decode cX4_lookAt 42 = .ok (.getfield 18, 3) := by decide +kernel
theorem dX4_lookAt_45 : decode cX4_lookAt 45 = .ok (.sipush 201, 3) := by decide +kernel
theorem dX4_lookAt_48 : decode cX4_lookAt 48 = .ok (.if_icmp .ne 17, 3) := by decide +kernel
theorem dX4_lookAt_51 : decode cX4_lookAt 51 = .ok (.aload 4, 2) := by decide +kernel
theorem dX4_lookAt_53 : decode cX4_lookAt 53 = .ok (.lload_n 1, 1) := by decide +kernel
theorem dX4_lookAt_54 : decode cX4_lookAt 54 = .ok (.invokevirtual 52, 3) := by decide +kernel
theorem dX4_lookAt_57 : decode cX4_lookAt 57 = .ok (.ifCond .eq 8, 3) := by decide +kernel
theorem dX4_lookAt_60 : decode cX4_lookAt 60 = .ok (.aload_n 0, 1) := by decide +kernel
theorem dX4_lookAt_61 : decode cX4_lookAt 61 = .ok (.iload_n 3, 1) := by decide +kernel
theorem dX4_lookAt_62 : decode cX4_lookAt 62 = .ok (.putfield 18, 3) := by decide +kernel
theorem dX4_lookAt_65 : decode cX4_lookAt 65 = .ok (.return_, 1) := by decide +kernel
