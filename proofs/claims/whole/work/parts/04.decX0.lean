theorem dX0_init_0 : decode cX0_init 0 = .ok (.aload_n 0, 1) := by decide +kernel
theorem dX0_init_1 : decode cX0_init 1 = .ok (.invokespecial 3, 3) := by decide +kernel
theorem dX0_init_4 : decode cX0_init 4 = .ok (.aload_n 0, 1) := by decide +kernel
theorem dX0_init_5 : decode cX0_init 5 = .ok (.bipush 9, 2) := by decide +kernel
theorem dX0_init_7 : decode cX0_init 7 = .ok (.newarray .long, 2) := by decide +kernel
theorem dX0_init_9 : decode cX0_init 9 = .ok (.putfield 11, 3) := by decide +kernel
theorem dX0_init_12 : decode cX0_init 12 = .ok (.aload_n 0, 1) := by decide +kernel
theorem dX0_init_13 : decode cX0_init 13 = .ok (.bipush 9, 2) := by decide +kernel
theorem dX0_init_15 : decode cX0_init 15 = .ok (.newarray .int, 2) := by decide +kernel
theorem dX0_init_17 : decode cX0_init 17 = .ok (.putfield 15, 3) := by decide +kernel
theorem dX0_init_20 : decode cX0_init 20 = .ok (.aload_n 0, 1) := by decide +kernel
theorem dX0_init_21 : decode cX0_init 21 = .ok (.iconst 0, 1) := by decide +kernel
theorem dX0_init_22 : decode cX0_init 22 = .ok (.putfield 19, 3) := by decide +kernel
theorem dX0_init_25 : decode cX0_init 25 = .ok (.aload_n 0, 1) := by decide +kernel
theorem dX0_init_26 : decode cX0_init 26 = .ok (.lconst 0, 1) := by decide +kernel
theorem dX0_init_27 : decode cX0_init 27 = .ok (.putfield 23, 3) := by decide +kernel
theorem dX0_init_30 : decode cX0_init 30 = .ok (.aload_n 0, 1) := by decide +kernel
theorem dX0_init_31 : decode cX0_init 31 = .ok (.lconst 0, 1) := by decide +kernel
theorem dX0_init_32 : decode cX0_init 32 = .ok (.putfield 27, 3) := by decide +kernel
theorem dX0_init_35 : decode cX0_init 35 = .ok (.return_, 1) := by decide +kernel
theorem dX0_findFor_0 : decode cX0_findFor 0 = .ok (.aload_n 0, 1) := by decide +kernel
theorem dX0_findFor_1 : decode cX0_findFor 1 = .ok (.getfield 27, 3) := by decide +kernel
theorem dX0_findFor_4 : decode cX0_findFor 4 = .ok (.lload_n 1, 1) := by decide +kernel
theorem dX0_findFor_5 : decode cX0_findFor 5 = .ok (.lcmp, 1) := by decide +kernel
theorem dX0_findFor_6 : decode cX0_findFor 6 = .ok (.ifCond .ne 4, 3) := by decide +kernel
theorem dX0_findFor_9 : decode cX0_findFor 9 = .ok (.return_, 1) := by decide +kernel
theorem dX0_findFor_10 : decode cX0_findFor 10 = .ok (.aload_n 0, 1) := by decide +kernel
theorem dX0_findFor_11 : decode cX0_findFor 11 = .ok (.lload_n 1, 1) := by decide +kernel
theorem dX0_findFor_12 : decode cX0_findFor 12 = .ok (.putfield 27, 3) := by decide +kernel
theorem dX0_findFor_15 : decode cX0_findFor 15 = .ok (.aload_n 0, 1) := by decide +kernel
theorem dX0_findFor_16 : decode cX0_findFor 16 = .ok (.iconst 0, 1) := by decide +kernel
theorem dX0_findFor_17 : decode cX0_findFor 17 = .ok (.putfield 19, 3) := by decide +kernel
theorem dX0_findFor_20 : decode cX0_findFor 20 = .ok (.aload_n 0, 1) := by decide +kernel
theorem dX0_findFor_21 : decode cX0_findFor 21 = .ok (.lconst 0, 1) := by decide +kernel
theorem dX0_findFor_22 : decode cX0_findFor 22 = .ok (.putfield 23, 3) := by decide +kernel
theorem dX0_findFor_25 : decode cX0_findFor 25 = .ok (.lload_n 1, 1) := by decide +kernel
theorem dX0_findFor_26 : decode cX0_findFor 26 = .ok (.lstore_n 3, 1) := by decide +kernel
theorem dX0_findFor_27 : decode cX0_findFor 27 = .ok (.ldc2_w 32, 3) := by decide +kernel
theorem dX0_findFor_30 : decode cX0_findFor 30 = .ok (.lstore 5, 2) := by decide +kernel
theorem dX0_findFor_32 : decode cX0_findFor 32 = .ok (.iconst 1, 1) := by decide +kernel
theorem dX0_findFor_33 : decode cX0_findFor 33 = .ok (.istore 7, 2) := by decide +kernel
theorem dX0_findFor_35 : decode cX0_findFor 35 = .ok (.iload 7, 2) := by decide +kernel
theorem dX0_findFor_37 : decode cX0_findFor 37 = .ok (.bipush 32, 2) := by decide +kernel
theorem dX0_findFor_39 : decode cX0_findFor 39 = .ok (.if_icmp .ge 94, 3) := by decide +kernel
theorem dX0_findFor_42 : decode cX0_findFor 42 = .ok (.iconst 2, 1) := by decide +kernel
theorem dX0_findFor_43 : decode cX0_findFor 43 = .ok (.iload 7, 2) := by decide +kernel
theorem dX0_findFor_45 : decode cX0_findFor 45 = .ok (.imul, 1) := by decide +kernel
theorem dX0_findFor_46 : decode cX0_findFor 46 = .ok (.lload_n 3, 1) := by decide +kernel
theorem dX0_findFor_47 : decode cX0_findFor 47 = .ok (.invokestatic 34, 3) := by decide +kernel
theorem dX0_findFor_50 : decode cX0_findFor 50 = .ok (.if_icmp .gt 83, 3) := by decide +kernel
theorem dX0_findFor_53 : decode cX0_findFor 53 = .ok (.lload 5, 2) := by decide +kernel
theorem dX0_findFor_55 : decode cX0_findFor 55 = .ok (.lload 5, 2) := by decide +kernel
theorem dX0_findFor_57 : decode cX0_findFor 57 = .ok (.lload_n 3, 1) := by decide +kernel
theorem dX0_findFor_58 : decode cX0_findFor 58 = .ok (.invokestatic 38, 3) := by decide +kernel
theorem dX0_findFor_61 : decode cX0_findFor 61 = .ok (.lstore 5, 2) := by decide +kernel
theorem dX0_findFor_63 : decode cX0_findFor 63 = .ok (.lload_n 3, 1) := by decide +kernel
theorem dX0_findFor_64 : decode cX0_findFor 64 = .ok (.lload 5, 2) := by decide +kernel
theorem dX0_findFor_66 : decode cX0_findFor 66 = .ok (.ldc2_w 32, 3) := by decide +kernel
theorem dX0_findFor_69 : decode cX0_findFor 69 = .ok (.lxor, 1) := by decide +kernel
theorem dX0_findFor_70 : decode cX0_findFor 70 = .ok (.invokestatic 42, 3) := by decide +kernel
theorem dX0_findFor_73 : decode cX0_findFor 73 = .ok (.lstore 8, 2) := by decide +kernel
theorem dX0_findFor_75 : decode cX0_findFor 75 = .ok (.lload 8, 2) := by decide +kernel
theorem dX0_findFor_77 : decode cX0_findFor 77 = .ok (.lconst 1, 1) := by decide +kernel
theorem dX0_findFor_78 : decode cX0_findFor 78 = .ok (.lcmp, 1) := by decide +kernel
theorem dX0_findFor_79 : decode cX0_findFor 79 = .ok (.ifCond .eq 48, 3) := by decide +kernel
theorem dX0_findFor_82 : decode cX0_findFor 82 = .ok (.aload_n 0, 1) := by decide +kernel
theorem dX0_findFor_83 : decode cX0_findFor 83 = .ok (.getfield 19, 3) := by decide +kernel
theorem dX0_findFor_86 : decode cX0_findFor 86 = .ok (.istore 10, 2) := by decide +kernel
theorem dX0_findFor_88 : decode cX0_findFor 88 = .ok (.aload_n 0, 1) := by decide +kernel
theorem dX0_findFor_89 : decode cX0_findFor 89 = .ok (.lload 8, 2) := by decide +kernel
theorem dX0_findFor_91 : decode cX0_findFor 91 = .ok (.iconst 0, 1) := by decide +kernel
theorem dX0_findFor_92 : decode cX0_findFor 92 = .ok (.invokevirtual 46, 3) := by decide +kernel
theorem dX0_findFor_95 : decode cX0_findFor 95 = .ok (.aload_n 0, 1) := by decide +kernel
theorem dX0_findFor_96 : decode cX0_findFor 96 = .ok (.iload 10, 2) := by decide +kernel
theorem dX0_findFor_98 : decode cX0_findFor 98 = .ok (.lload 8, 2) := by decide +kernel
theorem dX0_findFor_100 : decode cX0_findFor 100 = .ok (.iload 7, 2) := by decide +kernel
theorem dX0_findFor_102 : decode cX0_findFor 102 = .ok (.invokevirtual 50, 3) := by decide +kernel
theorem dX0_findFor_105 : decode cX0_findFor 105 = .ok (.aload_n 0, 1) := by decide +kernel
theorem dX0_findFor_106 : decode cX0_findFor 106 = .ok (.iload 10, 2) := by decide +kernel
theorem dX0_findFor_108 : decode cX0_findFor 108 = .ok (.invokevirtual 54, 3) := by decide +kernel
theorem dX0_findFor_111 : decode cX0_findFor 111 = .ok (.aload_n 0, 1) := by decide +kernel
theorem dX0_findFor_112 : decode cX0_findFor 112 = .ok (.iload 10, 2) := by decide +kernel
theorem dX0_findFor_114 : decode cX0_findFor 114 = .ok (.lload_n 3, 1) := by decide +kernel
theorem dX0_findFor_115 : decode cX0_findFor 115 = .ok (.invokevirtual 58, 3) := by decide +kernel
theorem dX0_findFor_118 : decode cX0_findFor 118 = .ok (.lstore_n 3, 1) := by decide +kernel
theorem dX0_findFor_119 : decode cX0_findFor 119 = .ok (.lload 5, 2) := by decide +kernel
theorem dX0_findFor_121 : decode cX0_findFor 121 = .ok (.lload_n 3, 1) := by decide +kernel
theorem dX0_findFor_122 : decode cX0_findFor 122 = .ok (.invokestatic 62, 3) := by decide +kernel
theorem dX0_findFor_125 : decode cX0_findFor 125 = .ok (.lstore 5, 2) := by decide +kernel
theorem dX0_findFor_127 : decode cX0_findFor 127 = .ok (.iinc 7 1, 3) := by decide +kernel
theorem dX0_findFor_130 : decode cX0_findFor 130 = .ok (.goto (-95), 3) := by decide +kernel
theorem dX0_findFor_133 : decode cX0_findFor 133 = .ok (.lload_n 3, 1) := by decide +kernel
theorem dX0_findFor_134 : decode cX0_findFor 134 = .ok (.lconst 1, 1) := by decide +kernel
theorem dX0_findFor_135 : decode cX0_findFor 135 = .ok (.lcmp, 1) := by decide +kernel
theorem dX0_findFor_136 : decode cX0_findFor 136 = .ok (.ifCond .eq 9, 3) := by decide +kernel
theorem dX0_findFor_139 : decode cX0_findFor 139 = .ok (.aload_n 0, 1) := by decide +kernel
theorem dX0_findFor_140 : decode cX0_findFor 140 = .ok (.lload_n 3, 1) := by decide +kernel
theorem dX0_findFor_141 : decode cX0_findFor 141 = .ok (.iconst 1, 1) := by decide +kernel
theorem dX0_findFor_142 : decode cX0_findFor 142 = .ok (.invokevirtual 46, 3) := by decide +kernel
theorem dX0_findFor_145 : decode cX0_findFor 145 = .ok (.return_, 1) := by decide +kernel
theorem dX0_append_0 : decode cX0_append 0 = .ok (.aload_n 0, 1) := by decide +kernel
theorem dX0_append_1 : decode cX0_append 1 = .ok (.getfield 19, 3) := by decide +kernel
theorem dX0_append_4 : decode cX0_append 4 = .ok (.bipush 9, 2) := by decide +kernel
theorem dX0_append_6 : decode cX0_append 6 = .ok (.if_icmp .ge 33, 3) := by decide +kernel
theorem dX0_append_9 : decode cX0_append 9 = .ok (.aload_n 0, 1) := by decide +kernel
theorem dX0_append_10 : decode cX0_append 10 = .ok (.getfield 11, 3) := by decide +kernel
theorem dX0_append_13 : decode cX0_append 13 = .ok (.aload_n 0, 1) := by decide +kernel
theorem dX0_append_14 : decode cX0_append 14 = .ok (.getfield 19, 3) := by decide +kernel
theorem dX0_append_17 : decode cX0_append 17 = .ok (.lload_n 1, 1) := by decide +kernel
theorem dX0_append_18 : decode cX0_append 18 = .ok (.lastore, 1) := by decide +kernel
theorem dX0_append_19 : decode cX0_append 19 = .ok (.aload_n 0, 1) := by decide +kernel
theorem dX0_append_20 : decode cX0_append 20 = .ok (.getfield 15, 3) := by decide +kernel
theorem dX0_append_23 : decode cX0_append 23 = .ok (.aload_n 0, 1) := by decide +kernel
theorem dX0_append_24 : decode cX0_append 24 = .ok (.getfield 19, 3) := by decide +kernel
theorem dX0_append_27 : decode cX0_append 27 = .ok (.iload_n 3, 1) := by decide +kernel
theorem dX0_append_28 : decode cX0_append 28 = .ok (.iastore, 1) := by decide +kernel
theorem dX0_append_29 : decode cX0_append 29 = .ok (.aload_n 0, 1) := by decide +kernel
theorem dX0_append_30 : decode cX0_append 30 = .ok (.dup, 1) := by decide +kernel
theorem dX0_append_31 : decode cX0_append 31 = .ok (.getfield 19, 3) := by decide +kernel
theorem dX0_append_34 : decode cX0_append 34 = .ok (.iconst 1, 1) := by decide +kernel
theorem dX0_append_35 : decode cX0_append 35 = .ok (.iadd, 1) := by decide +kernel
theorem dX0_append_36 : decode cX0_append 36 = .ok (.putfield 19, 3) := by decide +kernel
theorem dX0_append_39 : decode cX0_append 39 = .ok (.return_, 1) := by decide +kernel
theorem dX0_split_0 : decode cX0_split 0 = .ok (.lload_n 2, 1) := by decide +kernel
theorem dX0_split_1 : decode cX0_split 1 = .ok (.invokestatic 34, 3) := by decide +kernel
theorem dX0_split_4 : decode cX0_split 4 = .ok (.istore 5, 2) := by decide +kernel
theorem dX0_split_6 : decode cX0_split 6 = .ok (.lconst 1, 1) := by decide +kernel
theorem dX0_split_7 : decode cX0_split 7 = .ok (.lstore 6, 2) := by decide +kernel
theorem dX0_split_9 : decode cX0_split 9 = .ok (.iconst 1, 1) := by decide +kernel
theorem dX0_split_10 : decode cX0_split 10 = .ok (.istore 8, 2) := by decide +kernel
theorem dX0_split_12 : decode cX0_split 12 = .ok (.iload 8, 2) := by decide +kernel
theorem dX0_split_14 : decode cX0_split 14 = .ok (.iload 5, 2) := by decide +kernel
theorem dX0_split_16 : decode cX0_split 16 = .ok (.if_icmp .ge 73, 3) := by decide +kernel
theorem dX0_split_19 : decode cX0_split 19 = .ok (.aload_n 0, 1) := by decide +kernel
theorem dX0_split_20 : decode cX0_split 20 = .ok (.getfield 19, 3) := by decide +kernel
theorem dX0_split_23 : decode cX0_split 23 = .ok (.iload_n 1, 1) := by decide +kernel
theorem dX0_split_24 : decode cX0_split 24 = .ok (.isub, 1) := by decide +kernel
theorem dX0_split_25 : decode cX0_split 25 = .ok (.iload 4, 2) := by decide +kernel
theorem dX0_split_27 : decode cX0_split 27 = .ok (.imul, 1) := by decide +kernel
theorem dX0_split_28 : decode cX0_split 28 = .ok (.iload 5, 2) := by decide +kernel
theorem dX0_split_30 : decode cX0_split 30 = .ok (.if_icmp .ge 59, 3) := by decide +kernel
theorem dX0_split_33 : decode cX0_split 33 = .ok (.lload 6, 2) := by decide +kernel
theorem dX0_split_35 : decode cX0_split 35 = .ok (.lload_n 2, 1) := by decide +kernel
theorem dX0_split_36 : decode cX0_split 36 = .ok (.iload 5, 2) := by decide +kernel
theorem dX0_split_38 : decode cX0_split 38 = .ok (.invokestatic 65, 3) := by decide +kernel
theorem dX0_split_41 : decode cX0_split 41 = .ok (.lstore 6, 2) := by decide +kernel
theorem dX0_split_43 : decode cX0_split 43 = .ok (.lload 6, 2) := by decide +kernel
theorem dX0_split_45 : decode cX0_split 45 = .ok (.iload 4, 2) := by decide +kernel
theorem dX0_split_47 : decode cX0_split 47 = .ok (.lload_n 2, 1) := by decide +kernel
theorem dX0_split_48 : decode cX0_split 48 = .ok (.invokestatic 69, 3) := by decide +kernel
theorem dX0_split_51 : decode cX0_split 51 = .ok (.lstore 9, 2) := by decide +kernel
theorem dX0_split_53 : decode cX0_split 53 = .ok (.aload_n 0, 1) := by decide +kernel
theorem dX0_split_54 : decode cX0_split 54 = .ok (.getfield 19, 3) := by decide +kernel
theorem dX0_split_57 : decode cX0_split 57 = .ok (.istore 11, 2) := by decide +kernel
theorem dX0_split_59 : decode cX0_split 59 = .ok (.iload_n 1, 1) := by decide +kernel
theorem dX0_split_60 : decode cX0_split 60 = .ok (.istore 12, 2) := by decide +kernel
theorem dX0_split_62 : decode cX0_split 62 = .ok (.iload 12, 2) := by decide +kernel
theorem dX0_split_64 : decode cX0_split 64 = .ok (.iload 11, 2) := by decide +kernel
theorem dX0_split_66 : decode cX0_split 66 = .ok (.if_icmp .ge 17, 3) := by decide +kernel
theorem dX0_split_69 : decode cX0_split 69 = .ok (.aload_n 0, 1) := by decide +kernel
theorem dX0_split_70 : decode cX0_split 70 = .ok (.iload 12, 2) := by decide +kernel
theorem dX0_split_72 : decode cX0_split 72 = .ok (.lload 9, 2) := by decide +kernel
theorem dX0_split_74 : decode cX0_split 74 = .ok (.invokevirtual 73, 3) := by decide +kernel
theorem dX0_split_77 : decode cX0_split 77 = .ok (.iinc 12 1, 3) := by decide +kernel
theorem dX0_split_80 : decode cX0_split 80 = .ok (.goto (-18), 3) := by decide +kernel
theorem dX0_split_83 : decode cX0_split 83 = .ok (.iinc 8 1, 3) := by decide +kernel
theorem dX0_split_86 : decode cX0_split 86 = .ok (.goto (-74), 3) := by decide +kernel
theorem dX0_split_89 : decode cX0_split 89 = .ok (.return_, 1) := by decide +kernel
theorem dX0_splitOne_0 : decode cX0_splitOne 0 = .ok (.aload_n 0, 1) := by decide +kernel
theorem dX0_splitOne_1 : decode cX0_splitOne 1 = .ok (.getfield 11, 3) := by decide +kernel
theorem dX0_splitOne_4 : decode cX0_splitOne 4 = .ok (.iload_n 1, 1) := by decide +kernel
theorem dX0_splitOne_5 : decode cX0_splitOne 5 = .ok (.laload, 1) := by decide +kernel
theorem dX0_splitOne_6 : decode cX0_splitOne 6 = .ok (.lstore 4, 2) := by decide +kernel
theorem dX0_splitOne_8 : decode cX0_splitOne 8 = .ok (.lload 4, 2) := by decide +kernel
theorem dX0_splitOne_10 : decode cX0_splitOne 10 = .ok (.lload_n 2, 1) := by decide +kernel
theorem dX0_splitOne_11 : decode cX0_splitOne 11 = .ok (.lload 4, 2) := by decide +kernel
theorem dX0_splitOne_13 : decode cX0_splitOne 13 = .ok (.invokestatic 62, 3) := by decide +kernel
theorem dX0_splitOne_16 : decode cX0_splitOne 16 = .ok (.invokestatic 42, 3) := by decide +kernel
theorem dX0_splitOne_19 : decode cX0_splitOne 19 = .ok (.lstore 6, 2) := by decide +kernel
theorem dX0_splitOne_21 : decode cX0_splitOne 21 = .ok (.lload 6, 2) := by decide +kernel
theorem dX0_splitOne_23 : decode cX0_splitOne 23 = .ok (.lconst 1, 1) := by decide +kernel
theorem dX0_splitOne_24 : decode cX0_splitOne 24 = .ok (.lcmp, 1) := by decide +kernel
theorem dX0_splitOne_25 : decode cX0_splitOne 25 = .ok (.ifCond .eq 31, 3) := by decide +kernel
theorem dX0_splitOne_28 : decode cX0_splitOne 28 = .ok (.lload 6, 2) := by decide +kernel
theorem dX0_splitOne_30 : decode cX0_splitOne 30 = .ok (.lload 4, 2) := by decide +kernel
theorem dX0_splitOne_32 : decode cX0_splitOne 32 = .ok (.lcmp, 1) := by decide +kernel
theorem dX0_splitOne_33 : decode cX0_splitOne 33 = .ok (.ifCond .eq 23, 3) := by decide +kernel
theorem dX0_splitOne_36 : decode cX0_splitOne 36 = .ok (.aload_n 0, 1) := by decide +kernel
theorem dX0_splitOne_37 : decode cX0_splitOne 37 = .ok (.getfield 11, 3) := by decide +kernel
theorem dX0_splitOne_40 : decode cX0_splitOne 40 = .ok (.iload_n 1, 1) := by decide +kernel
theorem dX0_splitOne_41 : decode cX0_splitOne 41 = .ok (.lload 6, 2) := by decide +kernel
theorem dX0_splitOne_43 : decode cX0_splitOne 43 = .ok (.lastore, 1) := by decide +kernel
theorem dX0_splitOne_44 : decode cX0_splitOne 44 = .ok (.aload_n 0, 1) := by decide +kernel
theorem dX0_splitOne_45 : decode cX0_splitOne 45 = .ok (.lload 4, 2) := by decide +kernel
theorem dX0_splitOne_47 : decode cX0_splitOne 47 = .ok (.lload 6, 2) := by decide +kernel
theorem dX0_splitOne_49 : decode cX0_splitOne 49 = .ok (.invokestatic 77, 3) := by decide +kernel
theorem dX0_splitOne_52 : decode cX0_splitOne 52 = .ok (.iconst 0, 1) := by decide +kernel
theorem dX0_splitOne_53 : decode cX0_splitOne 53 = .ok (.invokevirtual 46, 3) := by decide +kernel
theorem dX0_splitOne_56 : decode cX0_splitOne 56 = .ok (.return_, 1) := by decide +kernel
theorem dX0_sort_0 : decode cX0_sort 0 = .ok (.iload_n 1, 1) := by decide +kernel
theorem dX0_sort_1 : decode cX0_sort 1 = .ok (.iconst 1, 1) := by decide +kernel
theorem dX0_sort_2 : decode cX0_sort 2 = .ok (.iadd, 1) := by decide +kernel
theorem dX0_sort_3 : decode cX0_sort 3 = .ok (.istore_n 2, 1) := by decide +kernel
theorem dX0_sort_4 : decode cX0_sort 4 = .ok (.iload_n 2, 1) := by decide +kernel
theorem dX0_sort_5 : decode cX0_sort 5 = .ok (.aload_n 0, 1) := by decide +kernel
theorem dX0_sort_6 : decode cX0_sort 6 = .ok (.getfield 19, 3) := by decide +kernel
theorem dX0_sort_9 : decode cX0_sort 9 = .ok (.if_icmp .ge 72, 3) := by decide +kernel
theorem dX0_sort_12 : decode cX0_sort 12 = .ok (.iload_n 2, 1) := by decide +kernel
theorem dX0_sort_13 : decode cX0_sort 13 = .ok (.istore_n 3, 1) := by decide +kernel
theorem dX0_sort_14 : decode cX0_sort 14 = .ok (.iload_n 3, 1) := by decide +kernel
theorem dX0_sort_15 : decode cX0_sort 15 = .ok (.iload_n 1, 1) := by decide +kernel
theorem dX0_sort_16 : decode cX0_sort 16 = .ok (.if_icmp .le 59, 3) := by decide +kernel
theorem dX0_sort_19 : decode cX0_sort 19 = .ok (.aload_n 0, 1) := by decide +kernel
theorem dX0_sort_20 : decode cX0_sort 20 = .ok (.getfield 11, 3) := by decide +kernel
theorem dX0_sort_23 : decode cX0_sort 23 = .ok (.iload_n 3, 1) := by decide +kernel
theorem dX0_sort_24 : decode cX0_sort 24 = .ok (.iconst 1, 1) := by decide +kernel
theorem dX0_sort_25 : decode cX0_sort 25 = .ok (.isub, 1) := by decide +kernel
theorem dX0_sort_26 : decode cX0_sort 26 = .ok (.laload, 1) := by decide +kernel
theorem dX0_sort_27 : decode cX0_sort 27 = .ok (.aload_n 0, 1) := by decide +kernel
theorem dX0_sort_28 : decode cX0_sort 28 = .ok (.getfield 11, 3) := by decide +kernel
theorem dX0_sort_31 : decode cX0_sort 31 = .ok (.iload_n 3, 1) := by decide +kernel
theorem dX0_sort_32 : decode cX0_sort 32 = .ok (.laload, 1) := by decide +kernel
theorem dX0_sort_33 : decode cX0_sort 33 = .ok (.lcmp, 1) := by decide +kernel
theorem dX0_sort_34 : decode cX0_sort 34 = .ok (.ifCond .le 41, 3) := by decide +kernel
theorem dX0_sort_37 : decode cX0_sort 37 = .ok (.aload_n 0, 1) := by decide +kernel
theorem dX0_sort_38 : decode cX0_sort 38 = .ok (.getfield 11, 3) := by decide +kernel
theorem dX0_sort_41 : decode cX0_sort 41 = .ok (.iload_n 3, 1) := by decide +kernel
theorem dX0_sort_42 : decode cX0_sort 42 = .ok (.iconst 1, 1) := by decide +kernel
theorem dX0_sort_43 : decode cX0_sort 43 = .ok (.isub, 1) := by decide +kernel
theorem dX0_sort_44 : decode cX0_sort 44 = .ok (.laload, 1) := by decide +kernel
theorem dX0_sort_45 : decode cX0_sort 45 = .ok (.lstore 4, 2) := by decide +kernel
theorem dX0_sort_47 : decode cX0_sort 47 = .ok (.aload_n 0, 1) := by decide +kernel
theorem dX0_sort_48 : decode cX0_sort 48 = .ok (.getfield 11, 3) := by decide +kernel
theorem dX0_sort_51 : decode cX0_sort 51 = .ok (.iload_n 3, 1) := by decide +kernel
theorem dX0_sort_52 : decode cX0_sort 52 = .ok (.iconst 1, 1) := by decide +kernel
theorem dX0_sort_53 : decode cX0_sort 53 = .ok (.isub, 1) := by decide +kernel
theorem dX0_sort_54 : decode cX0_sort 54 = .ok (.aload_n 0, 1) := by decide +kernel
theorem dX0_sort_55 : decode cX0_sort 55 = .ok (.getfield 11, 3) := by decide +kernel
theorem dX0_sort_58 : decode cX0_sort 58 = .ok (.iload_n 3, 1) := by decide +kernel
theorem dX0_sort_59 : decode cX0_sort 59 = .ok (.laload, 1) := by decide +kernel
theorem dX0_sort_60 : decode cX0_sort 60 = .ok (.lastore, 1) := by decide +kernel
theorem dX0_sort_61 : decode cX0_sort 61 = .ok (.aload_n 0, 1) := by decide +kernel
theorem dX0_sort_62 : decode cX0_sort 62 = .ok (.getfield 11, 3) := by decide +kernel
theorem dX0_sort_65 : decode cX0_sort 65 = .ok (.iload_n 3, 1) := by decide +kernel
theorem dX0_sort_66 : decode cX0_sort 66 = .ok (.lload 4, 2) := by decide +kernel
theorem dX0_sort_68 : decode cX0_sort 68 = .ok (.lastore, 1) := by decide +kernel
theorem dX0_sort_69 : decode cX0_sort 69 = .ok (.iinc 3 (-1), 3) := by decide +kernel
theorem dX0_sort_72 : decode cX0_sort 72 = .ok (.goto (-58), 3) := by decide +kernel
theorem dX0_sort_75 : decode cX0_sort 75 = .ok (.iinc 2 1, 3) := by decide +kernel
theorem dX0_sort_78 : decode cX0_sort 78 = .ok (.goto (-74), 3) := by decide +kernel
theorem dX0_sort_81 : decode cX0_sort 81 = .ok (.return_, 1) := by decide +kernel
theorem dX0_withoutFactorsFrom_0 : decode cX0_withoutFactorsFrom 0 = .ok (.lload_n 2, 1) := by decide +kernel
theorem dX0_withoutFactorsFrom_1 : decode cX0_withoutFactorsFrom 1 = .ok (.lstore 4, 2) := by decide +kernel
theorem dX0_withoutFactorsFrom_3 : decode cX0_withoutFactorsFrom 3 = .ok (.iload_n 1, 1) := by decide +kernel
theorem dX0_withoutFactorsFrom_4 : decode cX0_withoutFactorsFrom 4 = .ok (.istore 6, 2) := by decide +kernel
theorem dX0_withoutFactorsFrom_6 : decode cX0_withoutFactorsFrom 6 = .ok (.iload 6, 2) := by decide +kernel
theorem dX0_withoutFactorsFrom_8 : decode cX0_withoutFactorsFrom 8 = .ok (.aload_n 0, 1) := by decide +kernel
theorem dX0_withoutFactorsFrom_9 : decode cX0_withoutFactorsFrom 9 = .ok (.getfield 19, 3) := by decide +kernel
theorem dX0_withoutFactorsFrom_12 : decode cX0_withoutFactorsFrom 12 = .ok (.if_icmp .ge 66, 3) := by decide +kernel
theorem dX0_withoutFactorsFrom_15 : decode cX0_withoutFactorsFrom 15 = .ok (.aload_n 0, 1) := by decide +kernel
theorem dX0_withoutFactorsFrom_16 : decode cX0_withoutFactorsFrom 16 = .ok (.getfield 15, 3) := by decide +kernel
theorem dX0_withoutFactorsFrom_19 : decode cX0_withoutFactorsFrom 19 = .ok (.iload 6, 2) := by decide +kernel
theorem dX0_withoutFactorsFrom_21 : decode cX0_withoutFactorsFrom 21 = .ok (.iaload, 1) := by decide +kernel
theorem dX0_withoutFactorsFrom_22 : decode cX0_withoutFactorsFrom 22 = .ok (.bipush 32, 2) := by decide +kernel
theorem dX0_withoutFactorsFrom_24 : decode cX0_withoutFactorsFrom 24 = .ok (.if_icmp .ge 48, 3) := by decide +kernel
theorem dX0_withoutFactorsFrom_27 : decode cX0_withoutFactorsFrom 27 = .ok (.lload 4, 2) := by decide +kernel
theorem dX0_withoutFactorsFrom_29 : decode cX0_withoutFactorsFrom 29 = .ok (.aload_n 0, 1) := by decide +kernel
theorem dX0_withoutFactorsFrom_30 : decode cX0_withoutFactorsFrom 30 = .ok (.getfield 11, 3) := by decide +kernel
theorem dX0_withoutFactorsFrom_33 : decode cX0_withoutFactorsFrom 33 = .ok (.iload 6, 2) := by decide +kernel
theorem dX0_withoutFactorsFrom_35 : decode cX0_withoutFactorsFrom 35 = .ok (.laload, 1) := by decide +kernel
theorem dX0_withoutFactorsFrom_36 : decode cX0_withoutFactorsFrom 36 = .ok (.invokestatic 62, 3) := by decide +kernel
theorem dX0_withoutFactorsFrom_39 : decode cX0_withoutFactorsFrom 39 = .ok (.lconst 0, 1) := by decide +kernel
theorem dX0_withoutFactorsFrom_40 : decode cX0_withoutFactorsFrom 40 = .ok (.lcmp, 1) := by decide +kernel
theorem dX0_withoutFactorsFrom_41 : decode cX0_withoutFactorsFrom 41 = .ok (.ifCond .ne 31, 3) := by decide +kernel
theorem dX0_withoutFactorsFrom_44 : decode cX0_withoutFactorsFrom 44 = .ok (.lload 4, 2) := by decide +kernel
theorem dX0_withoutFactorsFrom_46 : decode cX0_withoutFactorsFrom 46 = .ok (.aload_n 0, 1) := by decide +kernel
theorem dX0_withoutFactorsFrom_47 : decode cX0_withoutFactorsFrom 47 = .ok (.getfield 11, 3) := by decide +kernel
theorem dX0_withoutFactorsFrom_50 : decode cX0_withoutFactorsFrom 50 = .ok (.iload 6, 2) := by decide +kernel
theorem dX0_withoutFactorsFrom_52 : decode cX0_withoutFactorsFrom 52 = .ok (.laload, 1) := by decide +kernel
theorem dX0_withoutFactorsFrom_53 : decode cX0_withoutFactorsFrom 53 = .ok (.invokestatic 77, 3) := by decide +kernel
theorem dX0_withoutFactorsFrom_56 : decode cX0_withoutFactorsFrom 56 = .ok (.lstore 4, 2) := by decide +kernel
theorem dX0_withoutFactorsFrom_58 : decode cX0_withoutFactorsFrom 58 = .ok (.aload_n 0, 1) := by decide +kernel
theorem dX0_withoutFactorsFrom_59 : decode cX0_withoutFactorsFrom 59 = .ok (.getfield 15, 3) := by decide +kernel
theorem dX0_withoutFactorsFrom_62 : decode cX0_withoutFactorsFrom 62 = .ok (.iload 6, 2) := by decide +kernel
theorem dX0_withoutFactorsFrom_64 : decode cX0_withoutFactorsFrom 64 = .ok (.dup2, 1) := by decide +kernel
theorem dX0_withoutFactorsFrom_65 : decode cX0_withoutFactorsFrom 65 = .ok (.iaload, 1) := by decide +kernel
theorem dX0_withoutFactorsFrom_66 : decode cX0_withoutFactorsFrom 66 = .ok (.iconst 1, 1) := by decide +kernel
theorem dX0_withoutFactorsFrom_67 : decode cX0_withoutFactorsFrom 67 = .ok (.iadd, 1) := by decide +kernel
theorem dX0_withoutFactorsFrom_68 : decode cX0_withoutFactorsFrom 68 = .ok (.iastore, 1) := by decide +kernel
theorem dX0_withoutFactorsFrom_69 : decode cX0_withoutFactorsFrom 69 = .ok (.goto (-54), 3) := by decide +kernel
theorem dX0_withoutFactorsFrom_72 : decode cX0_withoutFactorsFrom 72 = .ok (.iinc 6 1, 3) := by decide +kernel
theorem dX0_withoutFactorsFrom_75 : decode cX0_withoutFactorsFrom 75 = .ok (.goto (-69), 3) := by decide +kernel
theorem dX0_withoutFactorsFrom_78 : decode cX0_withoutFactorsFrom 78 = .ok (.lload 4, 2) := by decide +kernel
theorem dX0_withoutFactorsFrom_80 : decode cX0_withoutFactorsFrom 80 = .ok (.lreturn, 1) := by decide +kernel
theorem dX0_foundPeriod_0 : decode cX0_foundPeriod 0 = .ok (.aload_n 0, 1) := by decide +kernel
theorem dX0_foundPeriod_1 : decode cX0_foundPeriod 1 = .ok (.getfield 23, 3) := by decide +kernel
theorem dX0_foundPeriod_4 : decode cX0_foundPeriod 4 = .ok (.lconst 0, 1) := by decide +kernel
theorem dX0_foundPeriod_5 : decode cX0_foundPeriod 5 = .ok (.lcmp, 1) := by decide +kernel
theorem dX0_foundPeriod_6 : decode cX0_foundPeriod 6 = .ok (.ifCond .eq 8, 3) := by decide +kernel
theorem dX0_foundPeriod_9 : decode cX0_foundPeriod 9 = .ok (.aload_n 0, 1) := by decide +kernel
theorem dX0_foundPeriod_10 : decode cX0_foundPeriod 10 = .ok (.getfield 23, 3) := by decide +kernel
theorem dX0_foundPeriod_13 : decode cX0_foundPeriod 13 = .ok (.lreturn, 1) := by decide +kernel
theorem dX0_foundPeriod_14 : decode cX0_foundPeriod 14 = .ok (.iconst 1, 1) := by decide +kernel
theorem dX0_foundPeriod_15 : decode cX0_foundPeriod 15 = .ok (.istore_n 1, 1) := by decide +kernel
theorem dX0_foundPeriod_16 : decode cX0_foundPeriod 16 = .ok (.aload_n 0, 1) := by decide +kernel
theorem dX0_foundPeriod_17 : decode cX0_foundPeriod 17 = .ok (.lconst 1, 1) := by decide +kernel
theorem dX0_foundPeriod_18 : decode cX0_foundPeriod 18 = .ok (.putfield 23, 3) := by decide +kernel
theorem dX0_foundPeriod_21 : decode cX0_foundPeriod 21 = .ok (.iconst 0, 1) := by decide +kernel
theorem dX0_foundPeriod_22 : decode cX0_foundPeriod 22 = .ok (.istore_n 2, 1) := by decide +kernel
theorem dX0_foundPeriod_23 : decode cX0_foundPeriod 23 = .ok (.iload_n 2, 1) := by decide +kernel
theorem dX0_foundPeriod_24 : decode cX0_foundPeriod 24 = .ok (.aload_n 0, 1) := by decide +kernel
theorem dX0_foundPeriod_25 : decode cX0_foundPeriod 25 = .ok (.getfield 19, 3) := by decide +kernel
theorem dX0_foundPeriod_28 : decode cX0_foundPeriod 28 = .ok (.if_icmp .ge 50, 3) := by decide +kernel
theorem dX0_foundPeriod_31 : decode cX0_foundPeriod 31 = .ok (.aload_n 0, 1) := by decide +kernel
theorem dX0_foundPeriod_32 : decode cX0_foundPeriod 32 = .ok (.aload_n 0, 1) := by decide +kernel
theorem dX0_foundPeriod_33 : decode cX0_foundPeriod 33 = .ok (.getfield 23, 3) := by decide +kernel
theorem dX0_foundPeriod_36 : decode cX0_foundPeriod 36 = .ok (.aload_n 0, 1) := by decide +kernel
theorem dX0_foundPeriod_37 : decode cX0_foundPeriod 37 = .ok (.getfield 11, 3) := by decide +kernel
theorem dX0_foundPeriod_40 : decode cX0_foundPeriod 40 = .ok (.iload_n 2, 1) := by decide +kernel
theorem dX0_foundPeriod_41 : decode cX0_foundPeriod 41 = .ok (.laload, 1) := by decide +kernel
theorem dX0_foundPeriod_42 : decode cX0_foundPeriod 42 = .ok (.invokestatic 80, 3) := by decide +kernel
theorem dX0_foundPeriod_45 : decode cX0_foundPeriod 45 = .ok (.invokestatic 84, 3) := by decide +kernel
theorem dX0_foundPeriod_48 : decode cX0_foundPeriod 48 = .ok (.putfield 23, 3) := by decide +kernel
theorem dX0_foundPeriod_51 : decode cX0_foundPeriod 51 = .ok (.iload_n 1, 1) := by decide +kernel
theorem dX0_foundPeriod_52 : decode cX0_foundPeriod 52 = .ok (.aload_n 0, 1) := by decide +kernel
theorem dX0_foundPeriod_53 : decode cX0_foundPeriod 53 = .ok (.getfield 15, 3) := by decide +kernel
theorem dX0_foundPeriod_56 : decode cX0_foundPeriod 56 = .ok (.iload_n 2, 1) := by decide +kernel
theorem dX0_foundPeriod_57 : decode cX0_foundPeriod 57 = .ok (.iaload, 1) := by decide +kernel
theorem dX0_foundPeriod_58 : decode cX0_foundPeriod 58 = .ok (.if_icmp .ge 12, 3) := by decide +kernel
theorem dX0_foundPeriod_61 : decode cX0_foundPeriod 61 = .ok (.aload_n 0, 1) := by decide +kernel
theorem dX0_foundPeriod_62 : decode cX0_foundPeriod 62 = .ok (.getfield 15, 3) := by decide +kernel
theorem dX0_foundPeriod_65 : decode cX0_foundPeriod 65 = .ok (.iload_n 2, 1) := by decide +kernel
theorem dX0_foundPeriod_66 : decode cX0_foundPeriod 66 = .ok (.iaload, 1) := by decide +kernel
theorem dX0_foundPeriod_67 : decode cX0_foundPeriod 67 = .ok (.goto 4, 3) := by decide +kernel
theorem dX0_foundPeriod_70 : decode cX0_foundPeriod 70 = .ok (.iload_n 1, 1) := by decide +kernel
theorem dX0_foundPeriod_71 : decode cX0_foundPeriod 71 = .ok (.istore_n 1, 1) := by decide +kernel
theorem dX0_foundPeriod_72 : decode cX0_foundPeriod 72 = .ok (.iinc 2 1, 3) := by decide +kernel
theorem dX0_foundPeriod_75 : decode cX0_foundPeriod 75 = .ok (.goto (-52), 3) := by decide +kernel
theorem dX0_foundPeriod_78 : decode cX0_foundPeriod 78 = .ok (.iconst 1, 1) := by decide +kernel
theorem dX0_foundPeriod_79 : decode cX0_foundPeriod 79 = .ok (.istore_n 2, 1) := by decide +kernel
theorem dX0_foundPeriod_80 : decode cX0_foundPeriod 80 = .ok (.iload_n 2, 1) := by decide +kernel
theorem dX0_foundPeriod_81 : decode cX0_foundPeriod 81 = .ok (.bipush 32, 2) := by decide +kernel
theorem dX0_foundPeriod_83 : decode cX0_foundPeriod 83 = .ok (.if_icmp .ge 27, 3) := by decide +kernel
theorem dX0_foundPeriod_86 : decode cX0_foundPeriod 86 = .ok (.iload_n 2, 1) := by decide +kernel
theorem dX0_foundPeriod_87 : decode cX0_foundPeriod 87 = .ok (.iload_n 1, 1) := by decide +kernel
theorem dX0_foundPeriod_88 : decode cX0_foundPeriod 88 = .ok (.if_icmp .ge 22, 3) := by decide +kernel
theorem dX0_foundPeriod_91 : decode cX0_foundPeriod 91 = .ok (.aload_n 0, 1) := by decide +kernel
theorem dX0_foundPeriod_92 : decode cX0_foundPeriod 92 = .ok (.dup, 1) := by decide +kernel
theorem dX0_foundPeriod_93 : decode cX0_foundPeriod 93 = .ok (.getfield 23, 3) := by decide +kernel
theorem dX0_foundPeriod_96 : decode cX0_foundPeriod 96 = .ok (.ldc2_w 32, 3) := by decide +kernel
theorem dX0_foundPeriod_99 : decode cX0_foundPeriod 99 = .ok (.lmul, 1) := by decide +kernel
theorem dX0_foundPeriod_100 : decode cX0_foundPeriod 100 = .ok (.putfield 23, 3) := by decide +kernel
theorem dX0_foundPeriod_103 : decode cX0_foundPeriod 103 = .ok (.iload_n 2, 1) := by decide +kernel
theorem dX0_foundPeriod_104 : decode cX0_foundPeriod 104 = .ok (.iconst 2, 1) := by decide +kernel
theorem dX0_foundPeriod_105 : decode cX0_foundPeriod 105 = .ok (.imul, 1) := by decide +kernel
theorem dX0_foundPeriod_106 : decode cX0_foundPeriod 106 = .ok (.istore_n 2, 1) := by decide +kernel
theorem dX0_foundPeriod_107 : decode cX0_foundPeriod 107 = .ok (.goto (-27), 3) := by decide +kernel
theorem dX0_foundPeriod_110 : decode cX0_foundPeriod 110 = .ok (.aload_n 0, 1) := by decide +kernel
theorem dX0_foundPeriod_111 : decode cX0_foundPeriod 111 = .ok (.getfield 23, 3) := by decide +kernel
theorem dX0_foundPeriod_114 : decode cX0_foundPeriod 114 = .ok (.lreturn, 1) := by decide +kernel
theorem dX0_periodOf_0 : decode cX0_periodOf 0 = .ok (.lconst 1, 1) := by decide +kernel
theorem dX0_periodOf_1 : decode cX0_periodOf 1 = .ok (.lload_n 0, 1) := by decide +kernel
theorem dX0_periodOf_2 : decode cX0_periodOf 2 = .ok (.invokestatic 34, 3) := by decide +kernel
theorem dX0_periodOf_5 : decode cX0_periodOf 5 = .ok (.lshl, 1) := by decide +kernel
theorem dX0_periodOf_6 : decode cX0_periodOf 6 = .ok (.lconst 1, 1) := by decide +kernel
theorem dX0_periodOf_7 : decode cX0_periodOf 7 = .ok (.lsub, 1) := by decide +kernel
theorem dX0_periodOf_8 : decode cX0_periodOf 8 = .ok (.lstore_n 2, 1) := by decide +kernel
theorem dX0_periodOf_9 : decode cX0_periodOf 9 = .ok (.getstatic 87, 3) := by decide +kernel
theorem dX0_periodOf_12 : decode cX0_periodOf 12 = .ok (.astore 4, 2) := by decide +kernel
theorem dX0_periodOf_14 : decode cX0_periodOf 14 = .ok (.aload 4, 2) := by decide +kernel
theorem dX0_periodOf_16 : decode cX0_periodOf 16 = .ok (.arraylength, 1) := by decide +kernel
theorem dX0_periodOf_17 : decode cX0_periodOf 17 = .ok (.istore 5, 2) := by decide +kernel
theorem dX0_periodOf_19 : decode cX0_periodOf 19 = .ok (.iconst 0, 1) := by decide +kernel
theorem dX0_periodOf_20 : decode cX0_periodOf 20 = .ok (.istore 6, 2) := by decide +kernel
theorem dX0_periodOf_22 : decode cX0_periodOf 22 = .ok (.iload 6, 2) := by decide +kernel
theorem dX0_periodOf_24 : decode cX0_periodOf 24 = .ok (.iload 5, 2) := by decide +kernel
theorem dX0_periodOf_26 : decode cX0_periodOf 26 = .ok (.if_icmp .ge 24, 3) := by decide +kernel
theorem dX0_periodOf_29 : decode cX0_periodOf 29 = .ok (.aload 4, 2) := by decide +kernel
theorem dX0_periodOf_31 : decode cX0_periodOf 31 = .ok (.iload 6, 2) := by decide +kernel
theorem dX0_periodOf_33 : decode cX0_periodOf 33 = .ok (.iaload, 1) := by decide +kernel
theorem dX0_periodOf_34 : decode cX0_periodOf 34 = .ok (.istore 7, 2) := by decide +kernel
theorem dX0_periodOf_36 : decode cX0_periodOf 36 = .ok (.lload_n 2, 1) := by decide +kernel
theorem dX0_periodOf_37 : decode cX0_periodOf 37 = .ok (.iload 7, 2) := by decide +kernel
theorem dX0_periodOf_39 : decode cX0_periodOf 39 = .ok (.lload_n 0, 1) := by decide +kernel
theorem dX0_periodOf_40 : decode cX0_periodOf 40 = .ok (.invokestatic 90, 3) := by decide +kernel
theorem dX0_periodOf_43 : decode cX0_periodOf 43 = .ok (.lstore_n 2, 1) := by decide +kernel
theorem dX0_periodOf_44 : decode cX0_periodOf 44 = .ok (.iinc 6 1, 3) := by decide +kernel
theorem dX0_periodOf_47 : decode cX0_periodOf 47 = .ok (.goto (-25), 3) := by decide +kernel
theorem dX0_periodOf_50 : decode cX0_periodOf 50 = .ok (.lload_n 2, 1) := by decide +kernel
theorem dX0_periodOf_51 : decode cX0_periodOf 51 = .ok (.lreturn, 1) := by decide +kernel
theorem dX0_withoutPrime_0 : decode cX0_withoutPrime 0 = .ok (.lload_n 0, 1) := by decide +kernel
theorem dX0_withoutPrime_1 : decode cX0_withoutPrime 1 = .ok (.lstore 5, 2) := by decide +kernel
theorem dX0_withoutPrime_3 : decode cX0_withoutPrime 3 = .ok (.iconst 0, 1) := by decide +kernel
theorem dX0_withoutPrime_4 : decode cX0_withoutPrime 4 = .ok (.istore 7, 2) := by decide +kernel
theorem dX0_withoutPrime_6 : decode cX0_withoutPrime 6 = .ok (.iload 7, 2) := by decide +kernel
theorem dX0_withoutPrime_8 : decode cX0_withoutPrime 8 = .ok (.bipush 32, 2) := by decide +kernel
theorem dX0_withoutPrime_10 : decode cX0_withoutPrime 10 = .ok (.if_icmp .ge 43, 3) := by decide +kernel
theorem dX0_withoutPrime_13 : decode cX0_withoutPrime 13 = .ok (.lload 5, 2) := by decide +kernel
theorem dX0_withoutPrime_15 : decode cX0_withoutPrime 15 = .ok (.iload_n 2, 1) := by decide +kernel
theorem dX0_withoutPrime_16 : decode cX0_withoutPrime 16 = .ok (.i2l, 1) := by decide +kernel
theorem dX0_withoutPrime_17 : decode cX0_withoutPrime 17 = .ok (.lrem, 1) := by decide +kernel
theorem dX0_withoutPrime_18 : decode cX0_withoutPrime 18 = .ok (.lconst 0, 1) := by decide +kernel
theorem dX0_withoutPrime_19 : decode cX0_withoutPrime 19 = .ok (.lcmp, 1) := by decide +kernel
theorem dX0_withoutPrime_20 : decode cX0_withoutPrime 20 = .ok (.ifCond .ne 33, 3) := by decide +kernel
theorem dX0_withoutPrime_23 : decode cX0_withoutPrime 23 = .ok (.lload 5, 2) := by decide +kernel
theorem dX0_withoutPrime_25 : decode cX0_withoutPrime 25 = .ok (.iload_n 2, 1) := by decide +kernel
theorem dX0_withoutPrime_26 : decode cX0_withoutPrime 26 = .ok (.i2l, 1) := by decide +kernel
theorem dX0_withoutPrime_27 : decode cX0_withoutPrime 27 = .ok (.ldiv, 1) := by decide +kernel
theorem dX0_withoutPrime_28 : decode cX0_withoutPrime 28 = .ok (.lload_n 3, 1) := by decide +kernel
theorem dX0_withoutPrime_29 : decode cX0_withoutPrime 29 = .ok (.invokestatic 93, 3) := by decide +kernel
theorem dX0_withoutPrime_32 : decode cX0_withoutPrime 32 = .ok (.lconst 1, 1) := by decide +kernel
theorem dX0_withoutPrime_33 : decode cX0_withoutPrime 33 = .ok (.lcmp, 1) := by decide +kernel
theorem dX0_withoutPrime_34 : decode cX0_withoutPrime 34 = .ok (.ifCond .eq 6, 3) := by decide +kernel
theorem dX0_withoutPrime_37 : decode cX0_withoutPrime 37 = .ok (.goto 16, 3) := by decide +kernel
theorem dX0_withoutPrime_40 : decode cX0_withoutPrime 40 = .ok (.lload 5, 2) := by decide +kernel
theorem dX0_withoutPrime_42 : decode cX0_withoutPrime 42 = .ok (.iload_n 2, 1) := by decide +kernel
theorem dX0_withoutPrime_43 : decode cX0_withoutPrime 43 = .ok (.i2l, 1) := by decide +kernel
theorem dX0_withoutPrime_44 : decode cX0_withoutPrime 44 = .ok (.ldiv, 1) := by decide +kernel
theorem dX0_withoutPrime_45 : decode cX0_withoutPrime 45 = .ok (.lstore 5, 2) := by decide +kernel
theorem dX0_withoutPrime_47 : decode cX0_withoutPrime 47 = .ok (.iinc 7 1, 3) := by decide +kernel
theorem dX0_withoutPrime_50 : decode cX0_withoutPrime 50 = .ok (.goto (-44), 3) := by decide +kernel
theorem dX0_withoutPrime_53 : decode cX0_withoutPrime 53 = .ok (.lload 5, 2) := by decide +kernel
theorem dX0_withoutPrime_55 : decode cX0_withoutPrime 55 = .ok (.lreturn, 1) := by decide +kernel
theorem dX0_leastCommonMultiple_0 : decode cX0_leastCommonMultiple 0 = .ok (.lload_n 0, 1) := by decide +kernel
theorem dX0_leastCommonMultiple_1 : decode cX0_leastCommonMultiple 1 = .ok (.lstore 4, 2) := by decide +kernel
theorem dX0_leastCommonMultiple_3 : decode cX0_leastCommonMultiple 3 = .ok (.lload_n 2, 1) := by decide +kernel
theorem dX0_leastCommonMultiple_4 : decode cX0_leastCommonMultiple 4 = .ok (.lstore 6, 2) := by decide +kernel
theorem dX0_leastCommonMultiple_6 : decode cX0_leastCommonMultiple 6 = .ok (.iconst 0, 1) := by decide +kernel
theorem dX0_leastCommonMultiple_7 : decode cX0_leastCommonMultiple 7 = .ok (.istore 8, 2) := by decide +kernel
theorem dX0_leastCommonMultiple_9 : decode cX0_leastCommonMultiple 9 = .ok (.iload 8, 2) := by decide +kernel
theorem dX0_leastCommonMultiple_11 : decode cX0_leastCommonMultiple 11 = .ok (.bipush 100, 2) := by decide +kernel
theorem dX0_leastCommonMultiple_13 : decode cX0_leastCommonMultiple 13 = .ok (.if_icmp .ge 31, 3) := by decide +kernel
theorem dX0_leastCommonMultiple_16 : decode cX0_leastCommonMultiple 16 = .ok (.lload 6, 2) := by decide +kernel
theorem dX0_leastCommonMultiple_18 : decode cX0_leastCommonMultiple 18 = .ok (.lconst 0, 1) := by decide +kernel
theorem dX0_leastCommonMultiple_19 : decode cX0_leastCommonMultiple 19 = .ok (.lcmp, 1) := by decide +kernel
theorem dX0_leastCommonMultiple_20 : decode cX0_leastCommonMultiple 20 = .ok (.ifCond .eq 24, 3) := by decide +kernel
theorem dX0_leastCommonMultiple_23 : decode cX0_leastCommonMultiple 23 = .ok (.lload 4, 2) := by decide +kernel
theorem dX0_leastCommonMultiple_25 : decode cX0_leastCommonMultiple 25 = .ok (.lload 6, 2) := by decide +kernel
theorem dX0_leastCommonMultiple_27 : decode cX0_leastCommonMultiple 27 = .ok (.lrem, 1) := by decide +kernel
theorem dX0_leastCommonMultiple_28 : decode cX0_leastCommonMultiple 28 = .ok (.lstore 9, 2) := by decide +kernel
theorem dX0_leastCommonMultiple_30 : decode cX0_leastCommonMultiple 30 = .ok (.lload 6, 2) := by decide +kernel
theorem dX0_leastCommonMultiple_32 : decode cX0_leastCommonMultiple 32 = .ok (.lstore 4, 2) := by decide +kernel
theorem dX0_leastCommonMultiple_34 : decode cX0_leastCommonMultiple 34 = .ok (.lload 9, 2) := by decide +kernel
theorem dX0_leastCommonMultiple_36 : decode cX0_leastCommonMultiple 36 = .ok (.lstore 6, 2) := by decide +kernel
theorem dX0_leastCommonMultiple_38 : decode cX0_leastCommonMultiple 38 = .ok (.iinc 8 1, 3) := by decide +kernel
theorem dX0_leastCommonMultiple_41 : decode cX0_leastCommonMultiple 41 = .ok (.goto (-32), 3) := by decide +kernel
theorem dX0_leastCommonMultiple_44 : decode cX0_leastCommonMultiple 44 = .ok (.lload 4, 2) := by decide +kernel
theorem dX0_leastCommonMultiple_46 : decode cX0_leastCommonMultiple 46 = .ok (.lconst 0, 1) := by decide +kernel
theorem dX0_leastCommonMultiple_47 : decode cX0_leastCommonMultiple 47 = .ok (.lcmp, 1) := by decide +kernel
theorem dX0_leastCommonMultiple_48 : decode cX0_leastCommonMultiple 48 = .ok (.ifCond .ne 7, 3) := by decide +kernel
theorem dX0_leastCommonMultiple_51 : decode cX0_leastCommonMultiple 51 = .ok (.lconst 0, 1) := by decide +kernel
theorem dX0_leastCommonMultiple_52 : decode cX0_leastCommonMultiple 52 = .ok (.goto 9, 3) := by decide +kernel
theorem dX0_leastCommonMultiple_55 : decode cX0_leastCommonMultiple 55 = .ok (.lload_n 0, 1) := by decide +kernel
theorem dX0_leastCommonMultiple_56 : decode cX0_leastCommonMultiple 56 = .ok (.lload 4, 2) := by decide +kernel
theorem dX0_leastCommonMultiple_58 : decode cX0_leastCommonMultiple 58 = .ok (.ldiv, 1) := by decide +kernel
theorem dX0_leastCommonMultiple_59 : decode cX0_leastCommonMultiple 59 = .ok (.lload_n 2, 1) := by decide +kernel
theorem dX0_leastCommonMultiple_60 : decode cX0_leastCommonMultiple 60 = .ok (.lmul, 1) := by decide +kernel
theorem dX0_leastCommonMultiple_61 : decode cX0_leastCommonMultiple 61 = .ok (.lreturn, 1) := by decide +kernel
