theorem dX5_init_0 : decode cX5_init 0 = .ok (.aload_n 0, 1) := by decide +kernel
theorem dX5_init_1 : decode cX5_init 1 = .ok (.invokespecial 1, 3) := by decide +kernel
theorem dX5_init_4 : decode cX5_init 4 = .ok (.aload_n 0, 1) := by decide +kernel
theorem dX5_init_5 : decode cX5_init 5 = .ok (.sipush 600, 3) := by decide +kernel
theorem dX5_init_8 : decode cX5_init 8 = .ok (.newarray .int, 2) := by decide +kernel
theorem dX5_init_10 : decode cX5_init 10 = .ok (.putfield 9, 3) := by decide +kernel
theorem dX5_init_13 : decode cX5_init 13 = .ok (.aload_n 0, 1) := by decide +kernel
theorem dX5_init_14 : decode cX5_init 14 = .ok (.iconst 0, 1) := by decide +kernel
theorem dX5_init_15 : decode cX5_init 15 = .ok (.putfield 13, 3) := by decide +kernel
theorem dX5_init_18 : decode cX5_init 18 = .ok (.aload_n 0, 1) := by decide +kernel
theorem dX5_init_19 : decode cX5_init 19 = .ok (.bipush 8, 2) := by decide +kernel
theorem dX5_init_21 : decode cX5_init 21 = .ok (.anewarray 17, 3) := by decide +kernel
theorem dX5_init_24 : decode cX5_init 24 = .ok (.putfield 19, 3) := by decide +kernel
theorem dX5_init_27 : decode cX5_init 27 = .ok (.aload_n 0, 1) := by decide +kernel
theorem dX5_init_28 : decode cX5_init 28 = .ok (.iconst 0, 1) := by decide +kernel
theorem dX5_init_29 : decode cX5_init 29 = .ok (.putfield 23, 3) := by decide +kernel
theorem dX5_init_32 : decode cX5_init 32 = .ok (.aload_n 0, 1) := by decide +kernel
theorem dX5_init_33 : decode cX5_init 33 = .ok (.new 26, 3) := by decide +kernel
theorem dX5_init_36 : decode cX5_init 36 = .ok (.dup, 1) := by decide +kernel
theorem dX5_init_37 : decode cX5_init 37 = .ok (.invokespecial 28, 3) := by decide +kernel
theorem dX5_init_40 : decode cX5_init 40 = .ok (.putfield 29, 3) := by decide +kernel
theorem dX5_init_43 : decode cX5_init 43 = .ok (.iconst 0, 1) := by decide +kernel
theorem dX5_init_44 : decode cX5_init 44 = .ok (.istore_n 1, 1) := by decide +kernel
theorem dX5_init_45 : decode cX5_init 45 = .ok (.iload_n 1, 1) := by decide +kernel
theorem dX5_init_46 : decode cX5_init 46 = .ok (.bipush 8, 2) := by decide +kernel
theorem dX5_init_48 : decode cX5_init 48 = .ok (.if_icmp .ge 22, 3) := by decide +kernel
theorem dX5_init_51 : decode cX5_init 51 = .ok (.aload_n 0, 1) := by decide +kernel
theorem dX5_init_52 : decode cX5_init 52 = .ok (.getfield 19, 3) := by decide +kernel
theorem dX5_init_55 : decode cX5_init 55 = .ok (.iload_n 1, 1) := by decide +kernel
theorem dX5_init_56 : decode cX5_init 56 = .ok (.new 17, 3) := by decide +kernel
theorem dX5_init_59 : decode cX5_init 59 = .ok (.dup, 1) := by decide +kernel
theorem dX5_init_60 : decode cX5_init 60 = .ok (.invokespecial 33, 3) := by decide +kernel
theorem dX5_init_63 : decode cX5_init 63 = .ok (.aastore, 1) := by decide +kernel
theorem dX5_init_64 : decode cX5_init 64 = .ok (.iinc 1 1, 3) := by decide +kernel
theorem dX5_init_67 : decode cX5_init 67 = .ok (.goto (-22), 3) := by decide +kernel
theorem dX5_init_70 : decode cX5_init 70 = .ok (.return_, 1) := by decide +kernel
theorem dX5_form_0 : decode cX5_form 0 = .ok (.iload_n 1, 1) := by decide +kernel
theorem dX5_form_1 : decode cX5_form 1 = .ok (.iconst 3, 1) := by decide +kernel
theorem dX5_form_2 : decode cX5_form 2 = .ok (.if_icmp .lt 9, 3) := by decide +kernel
theorem dX5_form_5 : decode cX5_form 5 = .ok (.iload_n 1, 1) := by decide +kernel
theorem dX5_form_6 : decode cX5_form 6 = .ok (.bipush 32, 2) := by decide +kernel
theorem dX5_form_8 : decode cX5_form 8 = .ok (.if_icmp .le 5, 3) := by decide +kernel
theorem dX5_form_11 : decode cX5_form 11 = .ok (.iconst (-1), 1) := by decide +kernel
theorem dX5_form_12 : decode cX5_form 12 = .ok (.ireturn, 1) := by decide +kernel
theorem dX5_form_13 : decode cX5_form 13 = .ok (.lload_n 2, 1) := by decide +kernel
theorem dX5_form_14 : decode cX5_form 14 = .ok (.iload_n 1, 1) := by decide +kernel
theorem dX5_form_15 : decode cX5_form 15 = .ok (.invokestatic 34, 3) := by decide +kernel
theorem dX5_form_18 : decode cX5_form 18 = .ok (.ifCond .eq 21, 3) := by decide +kernel
theorem dX5_form_21 : decode cX5_form 21 = .ok (.lload 4, 2) := by decide +kernel
theorem dX5_form_23 : decode cX5_form 23 = .ok (.iload_n 1, 1) := by decide +kernel
theorem dX5_form_24 : decode cX5_form 24 = .ok (.invokestatic 34, 3) := by decide +kernel
theorem dX5_form_27 : decode cX5_form 27 = .ok (.ifCond .eq 12, 3) := by decide +kernel
theorem dX5_form_30 : decode cX5_form 30 = .ok (.lload 6, 2) := by decide +kernel
theorem dX5_form_32 : decode cX5_form 32 = .ok (.iload_n 1, 1) := by decide +kernel
theorem dX5_form_33 : decode cX5_form 33 = .ok (.invokestatic 34, 3) := by decide +kernel
theorem dX5_form_36 : decode cX5_form 36 = .ok (.ifCond .ne 5, 3) := by decide +kernel
theorem dX5_form_39 : decode cX5_form 39 = .ok (.iconst (-1), 1) := by decide +kernel
theorem dX5_form_40 : decode cX5_form 40 = .ok (.ireturn, 1) := by decide +kernel
theorem dX5_form_41 : decode cX5_form 41 = .ok (.lload_n 2, 1) := by decide +kernel
theorem dX5_form_42 : decode cX5_form 42 = .ok (.lconst 1, 1) := by decide +kernel
theorem dX5_form_43 : decode cX5_form 43 = .ok (.land, 1) := by decide +kernel
theorem dX5_form_44 : decode cX5_form 44 = .ok (.lconst 0, 1) := by decide +kernel
theorem dX5_form_45 : decode cX5_form 45 = .ok (.lcmp, 1) := by decide +kernel
theorem dX5_form_46 : decode cX5_form 46 = .ok (.ifCond .ne 5, 3) := by decide +kernel
theorem dX5_form_49 : decode cX5_form 49 = .ok (.iconst (-1), 1) := by decide +kernel
theorem dX5_form_50 : decode cX5_form 50 = .ok (.ireturn, 1) := by decide +kernel
theorem dX5_form_51 : decode cX5_form 51 = .ok (.aload_n 0, 1) := by decide +kernel
theorem dX5_form_52 : decode cX5_form 52 = .ok (.getfield 23, 3) := by decide +kernel
theorem dX5_form_55 : decode cX5_form 55 = .ok (.bipush 8, 2) := by decide +kernel
theorem dX5_form_57 : decode cX5_form 57 = .ok (.if_icmp .lt 6, 3) := by decide +kernel
theorem dX5_form_60 : decode cX5_form 60 = .ok (.bipush (-2), 2) := by decide +kernel
theorem dX5_form_62 : decode cX5_form 62 = .ok (.ireturn, 1) := by decide +kernel
theorem dX5_form_63 : decode cX5_form 63 = .ok (.aload_n 0, 1) := by decide +kernel
theorem dX5_form_64 : decode cX5_form 64 = .ok (.getfield 19, 3) := by decide +kernel
theorem dX5_form_67 : decode cX5_form 67 = .ok (.aload_n 0, 1) := by decide +kernel
theorem dX5_form_68 : decode cX5_form 68 = .ok (.getfield 23, 3) := by decide +kernel
theorem dX5_form_71 : decode cX5_form 71 = .ok (.aaload, 1) := by decide +kernel
theorem dX5_form_72 : decode cX5_form 72 = .ok (.iload_n 1, 1) := by decide +kernel
theorem dX5_form_73 : decode cX5_form 73 = .ok (.lload_n 2, 1) := by decide +kernel
theorem dX5_form_74 : decode cX5_form 74 = .ok (.lload 4, 2) := by decide +kernel
theorem dX5_form_76 : decode cX5_form 76 = .ok (.lload 6, 2) := by decide +kernel
theorem dX5_form_78 : decode cX5_form 78 = .ok (.iload 8, 2) := by decide +kernel
theorem dX5_form_80 : decode cX5_form 80 = .ok (.iload 9, 2) := by decide +kernel
theorem dX5_form_82 : decode cX5_form 82 = .ok (.invokevirtual 38, 3) := by decide +kernel
theorem dX5_form_85 : decode cX5_form 85 = .ok (.aload_n 0, 1) := by decide +kernel
theorem dX5_form_86 : decode cX5_form 86 = .ok (.dup, 1) := by decide +kernel
theorem dX5_form_87 : decode cX5_form 87 = .ok (.getfield 23, 3) := by decide +kernel
theorem dX5_form_90 : decode cX5_form 90 = .ok (.iconst 1, 1) := by decide +kernel
theorem dX5_form_91 : decode cX5_form 91 = .ok (.iadd, 1) := by decide +kernel
theorem dX5_form_92 : decode cX5_form 92 = .ok (.putfield 23, 3) := by decide +kernel
theorem dX5_form_95 : decode cX5_form 95 = .ok (.aload_n 0, 1) := by decide +kernel
theorem dX5_form_96 : decode cX5_form 96 = .ok (.getfield 23, 3) := by decide +kernel
theorem dX5_form_99 : decode cX5_form 99 = .ok (.iconst 1, 1) := by decide +kernel
theorem dX5_form_100 : decode cX5_form 100 = .ok (.isub, 1) := by decide +kernel
theorem dX5_form_101 : decode cX5_form 101 = .ok (.ireturn, 1) := by decide +kernel
theorem dX5_forget_0 : decode cX5_forget 0 = .ok (.aload_n 0, 1) := by decide +kernel
theorem dX5_forget_1 : decode cX5_forget 1 = .ok (.getfield 23, 3) := by decide +kernel
theorem dX5_forget_4 : decode cX5_forget 4 = .ok (.istore_n 1, 1) := by decide +kernel
theorem dX5_forget_5 : decode cX5_forget 5 = .ok (.aload_n 0, 1) := by decide +kernel
theorem dX5_forget_6 : decode cX5_forget 6 = .ok (.iconst 0, 1) := by decide +kernel
theorem dX5_forget_7 : decode cX5_forget 7 = .ok (.putfield 23, 3) := by decide +kernel
theorem dX5_forget_10 : decode cX5_forget 10 = .ok (.iload_n 1, 1) := by decide +kernel
theorem dX5_forget_11 : decode cX5_forget 11 = .ok (.ireturn, 1) := by decide +kernel
theorem dX5_feed_0 : decode cX5_feed 0 = .ok (.iload_n 1, 1) := by decide +kernel
theorem dX5_feed_1 : decode cX5_feed 1 = .ok (.iconst 1, 1) := by decide +kernel
theorem dX5_feed_2 : decode cX5_feed 2 = .ok (.if_icmp .lt 9, 3) := by decide +kernel
theorem dX5_feed_5 : decode cX5_feed 5 = .ok (.iload_n 1, 1) := by decide +kernel
theorem dX5_feed_6 : decode cX5_feed 6 = .ok (.bipush 8, 2) := by decide +kernel
theorem dX5_feed_8 : decode cX5_feed 8 = .ok (.if_icmp .le 5, 3) := by decide +kernel
theorem dX5_feed_11 : decode cX5_feed 11 = .ok (.iconst (-1), 1) := by decide +kernel
theorem dX5_feed_12 : decode cX5_feed 12 = .ok (.ireturn, 1) := by decide +kernel
theorem dX5_feed_13 : decode cX5_feed 13 = .ok (.aload_n 0, 1) := by decide +kernel
theorem dX5_feed_14 : decode cX5_feed 14 = .ok (.getfield 13, 3) := by decide +kernel
theorem dX5_feed_17 : decode cX5_feed 17 = .ok (.iload_n 1, 1) := by decide +kernel
theorem dX5_feed_18 : decode cX5_feed 18 = .ok (.iadd, 1) := by decide +kernel
theorem dX5_feed_19 : decode cX5_feed 19 = .ok (.sipush 600, 3) := by decide +kernel
theorem dX5_feed_22 : decode cX5_feed 22 = .ok (.if_icmp .le 6, 3) := by decide +kernel
theorem dX5_feed_25 : decode cX5_feed 25 = .ok (.bipush (-2), 2) := by decide +kernel
theorem dX5_feed_27 : decode cX5_feed 27 = .ok (.ireturn, 1) := by decide +kernel
theorem dX5_feed_28 : decode cX5_feed 28 = .ok (.iload_n 1, 1) := by decide +kernel
theorem dX5_feed_29 : decode cX5_feed 29 = .ok (.iconst 1, 1) := by decide +kernel
theorem dX5_feed_30 : decode cX5_feed 30 = .ok (.isub, 1) := by decide +kernel
theorem dX5_feed_31 : decode cX5_feed 31 = .ok (.istore 4, 2) := by decide +kernel
theorem dX5_feed_33 : decode cX5_feed 33 = .ok (.iload 4, 2) := by decide +kernel
theorem dX5_feed_35 : decode cX5_feed 35 = .ok (.ifCond .lt 40, 3) := by decide +kernel
theorem dX5_feed_38 : decode cX5_feed 38 = .ok (.aload_n 0, 1) := by decide +kernel
theorem dX5_feed_39 : decode cX5_feed 39 = .ok (.getfield 9, 3) := by decide +kernel
theorem dX5_feed_42 : decode cX5_feed 42 = .ok (.aload_n 0, 1) := by decide +kernel
theorem dX5_feed_43 : decode cX5_feed 43 = .ok (.getfield 13, 3) := by decide +kernel
theorem dX5_feed_46 : decode cX5_feed 46 = .ok (.lload_n 2, 1) := by decide +kernel
theorem dX5_feed_47 : decode cX5_feed 47 = .ok (.bipush 8, 2) := by decide +kernel
theorem dX5_feed_49 : decode cX5_feed 49 = .ok (.iload 4, 2) := by decide +kernel
theorem dX5_feed_51 : decode cX5_feed 51 = .ok (.imul, 1) := by decide +kernel
theorem dX5_feed_52 : decode cX5_feed 52 = .ok (.lushr, 1) := by decide +kernel
theorem dX5_feed_53 : decode cX5_feed 53 = .ok (.l2i, 1) := by decide +kernel
theorem dX5_feed_54 : decode cX5_feed 54 = .ok (.sipush 255, 3) := by decide +kernel
theorem dX5_feed_57 : decode cX5_feed 57 = .ok (.iand, 1) := by decide +kernel
theorem dX5_feed_58 : decode cX5_feed 58 = .ok (.iastore, 1) := by decide +kernel
theorem dX5_feed_59 : decode cX5_feed 59 = .ok (.aload_n 0, 1) := by decide +kernel
theorem dX5_feed_60 : decode cX5_feed 60 = .ok (.dup, 1) := by decide +kernel
theorem dX5_feed_61 : decode cX5_feed 61 = .ok (.getfield 13, 3) := by decide +kernel
theorem dX5_feed_64 : decode cX5_feed 64 = .ok (.iconst 1, 1) := by decide +kernel
theorem dX5_feed_65 : decode cX5_feed 65 = .ok (.iadd, 1) := by decide +kernel
theorem dX5_feed_66 : decode cX5_feed 66 = .ok (.putfield 13, 3) := by decide +kernel
theorem dX5_feed_69 : decode cX5_feed 69 = .ok (.iinc 4 (-1), 3) := by decide +kernel
theorem dX5_feed_72 : decode cX5_feed 72 = .ok (.goto (-39), 3) := by decide +kernel
theorem dX5_feed_75 : decode cX5_feed 75 = .ok (.aload_n 0, 1) := by decide +kernel
theorem dX5_feed_76 : decode cX5_feed 76 = .ok (.getfield 13, 3) := by decide +kernel
theorem dX5_feed_79 : decode cX5_feed 79 = .ok (.ireturn, 1) := by decide +kernel
theorem dX5_cut_0 : decode cX5_cut 0 = .ok (.iload_n 1, 1) := by decide +kernel
theorem dX5_cut_1 : decode cX5_cut 1 = .ok (.ifCond .lt 11, 3) := by decide +kernel
theorem dX5_cut_4 : decode cX5_cut 4 = .ok (.iload_n 1, 1) := by decide +kernel
theorem dX5_cut_5 : decode cX5_cut 5 = .ok (.aload_n 0, 1) := by decide +kernel
theorem dX5_cut_6 : decode cX5_cut 6 = .ok (.getfield 13, 3) := by decide +kernel
theorem dX5_cut_9 : decode cX5_cut 9 = .ok (.if_icmp .le 5, 3) := by decide +kernel
theorem dX5_cut_12 : decode cX5_cut 12 = .ok (.iconst (-1), 1) := by decide +kernel
theorem dX5_cut_13 : decode cX5_cut 13 = .ok (.ireturn, 1) := by decide +kernel
theorem dX5_cut_14 : decode cX5_cut 14 = .ok (.aload_n 0, 1) := by decide +kernel
theorem dX5_cut_15 : decode cX5_cut 15 = .ok (.getfield 13, 3) := by decide +kernel
theorem dX5_cut_18 : decode cX5_cut 18 = .ok (.iload_n 1, 1) := by decide +kernel
theorem dX5_cut_19 : decode cX5_cut 19 = .ok (.isub, 1) := by decide +kernel
theorem dX5_cut_20 : decode cX5_cut 20 = .ok (.istore_n 2, 1) := by decide +kernel
theorem dX5_cut_21 : decode cX5_cut 21 = .ok (.aload_n 0, 1) := by decide +kernel
theorem dX5_cut_22 : decode cX5_cut 22 = .ok (.iload_n 1, 1) := by decide +kernel
theorem dX5_cut_23 : decode cX5_cut 23 = .ok (.putfield 13, 3) := by decide +kernel
theorem dX5_cut_26 : decode cX5_cut 26 = .ok (.iload_n 2, 1) := by decide +kernel
theorem dX5_cut_27 : decode cX5_cut 27 = .ok (.ireturn, 1) := by decide +kernel
theorem dX5_octet_0 : decode cX5_octet 0 = .ok (.iload_n 1, 1) := by decide +kernel
theorem dX5_octet_1 : decode cX5_octet 1 = .ok (.ifCond .lt 11, 3) := by decide +kernel
theorem dX5_octet_4 : decode cX5_octet 4 = .ok (.iload_n 1, 1) := by decide +kernel
theorem dX5_octet_5 : decode cX5_octet 5 = .ok (.aload_n 0, 1) := by decide +kernel
theorem dX5_octet_6 : decode cX5_octet 6 = .ok (.getfield 13, 3) := by decide +kernel
theorem dX5_octet_9 : decode cX5_octet 9 = .ok (.if_icmp .lt 5, 3) := by decide +kernel
theorem dX5_octet_12 : decode cX5_octet 12 = .ok (.iconst (-1), 1) := by decide +kernel
theorem dX5_octet_13 : decode cX5_octet 13 = .ok (.ireturn, 1) := by decide +kernel
theorem dX5_octet_14 : decode cX5_octet 14 = .ok (.aload_n 0, 1) := by decide +kernel
theorem dX5_octet_15 : decode cX5_octet 15 = .ok (.getfield 9, 3) := by decide +kernel
theorem dX5_octet_18 : decode cX5_octet 18 = .ok (.iload_n 1, 1) := by decide +kernel
theorem dX5_octet_19 : decode cX5_octet 19 = .ok (.iaload, 1) := by decide +kernel
theorem dX5_octet_20 : decode cX5_octet 20 = .ok (.ireturn, 1) := by decide +kernel
theorem dX5_count_0 : decode cX5_count 0 = .ok (.iload_n 1, 1) := by decide +kernel
theorem dX5_count_1 : decode cX5_count 1 = .ok (.ifCond .ne 8, 3) := by decide +kernel
theorem dX5_count_4 : decode cX5_count 4 = .ok (.aload_n 0, 1) := by decide +kernel
theorem dX5_count_5 : decode cX5_count 5 = .ok (.getfield 23, 3) := by decide +kernel
theorem dX5_count_8 : decode cX5_count 8 = .ok (.ireturn, 1) := by decide +kernel
theorem dX5_count_9 : decode cX5_count 9 = .ok (.iload_n 1, 1) := by decide +kernel
theorem dX5_count_10 : decode cX5_count 10 = .ok (.iconst 1, 1) := by decide +kernel
theorem dX5_count_11 : decode cX5_count 11 = .ok (.if_icmp .ne 10, 3) := by decide +kernel
theorem dX5_count_14 : decode cX5_count 14 = .ok (.aload_n 0, 1) := by decide +kernel
theorem dX5_count_15 : decode cX5_count 15 = .ok (.getfield 13, 3) := by decide +kernel
theorem dX5_count_18 : decode cX5_count 18 = .ok (.goto 4, 3) := by decide +kernel
theorem dX5_count_21 : decode cX5_count 21 = .ok (.iconst (-1), 1) := by decide +kernel
theorem dX5_count_22 : decode cX5_count 22 = .ok (.ireturn, 1) := by decide +kernel
theorem dX5_sum_0 : decode cX5_sum 0 = .ok (.aload_n 0, 1) := by decide +kernel
theorem dX5_sum_1 : decode cX5_sum 1 = .ok (.iload_n 1, 1) := by decide +kernel
theorem dX5_sum_2 : decode cX5_sum 2 = .ok (.invokevirtual 42, 3) := by decide +kernel
theorem dX5_sum_5 : decode cX5_sum 5 = .ok (.ifCond .eq 12, 3) := by decide +kernel
theorem dX5_sum_8 : decode cX5_sum 8 = .ok (.aload_n 0, 1) := by decide +kernel
theorem dX5_sum_9 : decode cX5_sum 9 = .ok (.iload_n 2, 1) := by decide +kernel
theorem dX5_sum_10 : decode cX5_sum 10 = .ok (.iload_n 3, 1) := by decide +kernel
theorem dX5_sum_11 : decode cX5_sum 11 = .ok (.invokevirtual 46, 3) := by decide +kernel
theorem dX5_sum_14 : decode cX5_sum 14 = .ok (.ifCond .ne 7, 3) := by decide +kernel
theorem dX5_sum_17 : decode cX5_sum 17 = .ok (.ldc2_w 50, 3) := by decide +kernel
theorem dX5_sum_20 : decode cX5_sum 20 = .ok (.lreturn, 1) := by decide +kernel
theorem dX5_sum_21 : decode cX5_sum 21 = .ok (.aload_n 0, 1) := by decide +kernel
theorem dX5_sum_22 : decode cX5_sum 22 = .ok (.getfield 19, 3) := by decide +kernel
theorem dX5_sum_25 : decode cX5_sum 25 = .ok (.iload_n 1, 1) := by decide +kernel
theorem dX5_sum_26 : decode cX5_sum 26 = .ok (.aaload, 1) := by decide +kernel
theorem dX5_sum_27 : decode cX5_sum 27 = .ok (.astore 4, 2) := by decide +kernel
theorem dX5_sum_29 : decode cX5_sum 29 = .ok (.aload 4, 2) := by decide +kernel
theorem dX5_sum_31 : decode cX5_sum 31 = .ok (.getfield 52, 3) := by decide +kernel
theorem dX5_sum_34 : decode cX5_sum 34 = .ok (.lstore 5, 2) := by decide +kernel
theorem dX5_sum_36 : decode cX5_sum 36 = .ok (.iload_n 2, 1) := by decide +kernel
theorem dX5_sum_37 : decode cX5_sum 37 = .ok (.istore 7, 2) := by decide +kernel
theorem dX5_sum_39 : decode cX5_sum 39 = .ok (.iload 7, 2) := by decide +kernel
theorem dX5_sum_41 : decode cX5_sum 41 = .ok (.iload_n 3, 1) := by decide +kernel
theorem dX5_sum_42 : decode cX5_sum 42 = .ok (.if_icmp .ge 25, 3) := by decide +kernel
theorem dX5_sum_45 : decode cX5_sum 45 = .ok (.aload 4, 2) := by decide +kernel
theorem dX5_sum_47 : decode cX5_sum 47 = .ok (.lload 5, 2) := by decide +kernel
theorem dX5_sum_49 : decode cX5_sum 49 = .ok (.aload_n 0, 1) := by decide +kernel
theorem dX5_sum_50 : decode cX5_sum 50 = .ok (.getfield 9, 3) := by decide +kernel
theorem dX5_sum_53 : decode cX5_sum 53 = .ok (.iload 7, 2) := by decide +kernel
theorem dX5_sum_55 : decode cX5_sum 55 = .ok (.iaload, 1) := by decide +kernel
theorem dX5_sum_56 : decode cX5_sum 56 = .ok (.invokevirtual 56, 3) := by decide +kernel
theorem dX5_sum_59 : decode cX5_sum 59 = .ok (.lstore 5, 2) := by decide +kernel
theorem dX5_sum_61 : decode cX5_sum 61 = .ok (.iinc 7 1, 3) := by decide +kernel
theorem dX5_sum_64 : decode cX5_sum 64 = .ok (.goto (-25), 3) := by decide +kernel
theorem dX5_sum_67 : decode cX5_sum 67 = .ok (.aload 4, 2) := by decide +kernel
theorem dX5_sum_69 : decode cX5_sum 69 = .ok (.lload 5, 2) := by decide +kernel
theorem dX5_sum_71 : decode cX5_sum 71 = .ok (.invokevirtual 60, 3) := by decide +kernel
theorem dX5_sum_74 : decode cX5_sum 74 = .ok (.lreturn, 1) := by decide +kernel
theorem dX5_joined_0 : decode cX5_joined 0 = .ok (.aload_n 0, 1) := by decide +kernel
theorem dX5_joined_1 : decode cX5_joined 1 = .ok (.iload_n 1, 1) := by decide +kernel
theorem dX5_joined_2 : decode cX5_joined 2 = .ok (.lload_n 2, 1) := by decide +kernel
theorem dX5_joined_3 : decode cX5_joined 3 = .ok (.invokevirtual 64, 3) := by decide +kernel
theorem dX5_joined_6 : decode cX5_joined 6 = .ok (.ifCond .eq 21, 3) := by decide +kernel
theorem dX5_joined_9 : decode cX5_joined 9 = .ok (.aload_n 0, 1) := by decide +kernel
theorem dX5_joined_10 : decode cX5_joined 10 = .ok (.iload_n 1, 1) := by decide +kernel
theorem dX5_joined_11 : decode cX5_joined 11 = .ok (.lload 4, 2) := by decide +kernel
theorem dX5_joined_13 : decode cX5_joined 13 = .ok (.invokevirtual 64, 3) := by decide +kernel
theorem dX5_joined_16 : decode cX5_joined 16 = .ok (.ifCond .eq 11, 3) := by decide +kernel
theorem dX5_joined_19 : decode cX5_joined 19 = .ok (.lload 6, 2) := by decide +kernel
theorem dX5_joined_21 : decode cX5_joined 21 = .ok (.invokestatic 68, 3) := by decide +kernel
theorem dX5_joined_24 : decode cX5_joined 24 = .ok (.ifCond .ne 7, 3) := by decide +kernel
theorem dX5_joined_27 : decode cX5_joined 27 = .ok (.ldc2_w 50, 3) := by decide +kernel
theorem dX5_joined_30 : decode cX5_joined 30 = .ok (.lreturn, 1) := by decide +kernel
theorem dX5_joined_31 : decode cX5_joined 31 = .ok (.aload_n 0, 1) := by decide +kernel
theorem dX5_joined_32 : decode cX5_joined 32 = .ok (.getfield 19, 3) := by decide +kernel
theorem dX5_joined_35 : decode cX5_joined 35 = .ok (.iload_n 1, 1) := by decide +kernel
theorem dX5_joined_36 : decode cX5_joined 36 = .ok (.aaload, 1) := by decide +kernel
theorem dX5_joined_37 : decode cX5_joined 37 = .ok (.astore 8, 2) := by decide +kernel
theorem dX5_joined_39 : decode cX5_joined 39 = .ok (.aload 8, 2) := by decide +kernel
theorem dX5_joined_41 : decode cX5_joined 41 = .ok (.aload 8, 2) := by decide +kernel
theorem dX5_joined_43 : decode cX5_joined 43 = .ok (.lload_n 2, 1) := by decide +kernel
theorem dX5_joined_44 : decode cX5_joined 44 = .ok (.invokevirtual 72, 3) := by decide +kernel
theorem dX5_joined_47 : decode cX5_joined 47 = .ok (.aload 8, 2) := by decide +kernel
theorem dX5_joined_49 : decode cX5_joined 49 = .ok (.getfield 52, 3) := by decide +kernel
theorem dX5_joined_52 : decode cX5_joined 52 = .ok (.lxor, 1) := by decide +kernel
theorem dX5_joined_53 : decode cX5_joined 53 = .ok (.lload 6, 2) := by decide +kernel
theorem dX5_joined_55 : decode cX5_joined 55 = .ok (.invokevirtual 75, 3) := by decide +kernel
theorem dX5_joined_58 : decode cX5_joined 58 = .ok (.lstore 9, 2) := by decide +kernel
theorem dX5_joined_60 : decode cX5_joined 60 = .ok (.aload 8, 2) := by decide +kernel
theorem dX5_joined_62 : decode cX5_joined 62 = .ok (.aload 8, 2) := by decide +kernel
theorem dX5_joined_64 : decode cX5_joined 64 = .ok (.lload 4, 2) := by decide +kernel
theorem dX5_joined_66 : decode cX5_joined 66 = .ok (.invokevirtual 72, 3) := by decide +kernel
theorem dX5_joined_69 : decode cX5_joined 69 = .ok (.lload 9, 2) := by decide +kernel
theorem dX5_joined_71 : decode cX5_joined 71 = .ok (.lxor, 1) := by decide +kernel
theorem dX5_joined_72 : decode cX5_joined 72 = .ok (.invokevirtual 60, 3) := by decide +kernel
theorem dX5_joined_75 : decode cX5_joined 75 = .ok (.lreturn, 1) := by decide +kernel
theorem dX5_zeros_0 : decode cX5_zeros 0 = .ok (.aload_n 0, 1) := by decide +kernel
theorem dX5_zeros_1 : decode cX5_zeros 1 = .ok (.iload_n 1, 1) := by decide +kernel
theorem dX5_zeros_2 : decode cX5_zeros 2 = .ok (.lload_n 2, 1) := by decide +kernel
theorem dX5_zeros_3 : decode cX5_zeros 3 = .ok (.invokevirtual 64, 3) := by decide +kernel
theorem dX5_zeros_6 : decode cX5_zeros 6 = .ok (.ifCond .eq 11, 3) := by decide +kernel
theorem dX5_zeros_9 : decode cX5_zeros 9 = .ok (.lload 4, 2) := by decide +kernel
theorem dX5_zeros_11 : decode cX5_zeros 11 = .ok (.invokestatic 68, 3) := by decide +kernel
theorem dX5_zeros_14 : decode cX5_zeros 14 = .ok (.ifCond .ne 7, 3) := by decide +kernel
theorem dX5_zeros_17 : decode cX5_zeros 17 = .ok (.ldc2_w 50, 3) := by decide +kernel
theorem dX5_zeros_20 : decode cX5_zeros 20 = .ok (.lreturn, 1) := by decide +kernel
theorem dX5_zeros_21 : decode cX5_zeros 21 = .ok (.aload_n 0, 1) := by decide +kernel
theorem dX5_zeros_22 : decode cX5_zeros 22 = .ok (.getfield 19, 3) := by decide +kernel
theorem dX5_zeros_25 : decode cX5_zeros 25 = .ok (.iload_n 1, 1) := by decide +kernel
theorem dX5_zeros_26 : decode cX5_zeros 26 = .ok (.aaload, 1) := by decide +kernel
theorem dX5_zeros_27 : decode cX5_zeros 27 = .ok (.astore 6, 2) := by decide +kernel
theorem dX5_zeros_29 : decode cX5_zeros 29 = .ok (.aload 6, 2) := by decide +kernel
theorem dX5_zeros_31 : decode cX5_zeros 31 = .ok (.aload 6, 2) := by decide +kernel
theorem dX5_zeros_33 : decode cX5_zeros 33 = .ok (.aload 6, 2) := by decide +kernel
theorem dX5_zeros_35 : decode cX5_zeros 35 = .ok (.lload_n 2, 1) := by decide +kernel
theorem dX5_zeros_36 : decode cX5_zeros 36 = .ok (.invokevirtual 72, 3) := by decide +kernel
theorem dX5_zeros_39 : decode cX5_zeros 39 = .ok (.lload 4, 2) := by decide +kernel
theorem dX5_zeros_41 : decode cX5_zeros 41 = .ok (.invokevirtual 75, 3) := by decide +kernel
theorem dX5_zeros_44 : decode cX5_zeros 44 = .ok (.invokevirtual 60, 3) := by decide +kernel
theorem dX5_zeros_47 : decode cX5_zeros 47 = .ok (.lreturn, 1) := by decide +kernel
theorem dX5_changed_0 : decode cX5_changed 0 = .ok (.aload_n 0, 1) := by decide +kernel
theorem dX5_changed_1 : decode cX5_changed 1 = .ok (.iload_n 1, 1) := by decide +kernel
theorem dX5_changed_2 : decode cX5_changed 2 = .ok (.lload_n 2, 1) := by decide +kernel
theorem dX5_changed_3 : decode cX5_changed 3 = .ok (.invokevirtual 64, 3) := by decide +kernel
theorem dX5_changed_6 : decode cX5_changed 6 = .ok (.ifCond .eq 24, 3) := by decide +kernel
theorem dX5_changed_9 : decode cX5_changed 9 = .ok (.lload 4, 2) := by decide +kernel
theorem dX5_changed_11 : decode cX5_changed 11 = .ok (.invokestatic 68, 3) := by decide +kernel
theorem dX5_changed_14 : decode cX5_changed 14 = .ok (.ifCond .eq 16, 3) := by decide +kernel
theorem dX5_changed_17 : decode cX5_changed 17 = .ok (.iload 6, 2) := by decide +kernel
theorem dX5_changed_19 : decode cX5_changed 19 = .ok (.ifCond .lt 11, 3) := by decide +kernel
theorem dX5_changed_22 : decode cX5_changed 22 = .ok (.iload 6, 2) := by decide +kernel
theorem dX5_changed_24 : decode cX5_changed 24 = .ok (.sipush 255, 3) := by decide +kernel
theorem dX5_changed_27 : decode cX5_changed 27 = .ok (.if_icmp .le 7, 3) := by decide +kernel
theorem dX5_changed_30 : decode cX5_changed 30 = .ok (.ldc2_w 50, 3) := by decide +kernel
theorem dX5_changed_33 : decode cX5_changed 33 = .ok (.lreturn, 1) := by decide +kernel
theorem dX5_changed_34 : decode cX5_changed 34 = .ok (.aload_n 0, 1) := by decide +kernel
theorem dX5_changed_35 : decode cX5_changed 35 = .ok (.getfield 19, 3) := by decide +kernel
theorem dX5_changed_38 : decode cX5_changed 38 = .ok (.iload_n 1, 1) := by decide +kernel
theorem dX5_changed_39 : decode cX5_changed 39 = .ok (.aaload, 1) := by decide +kernel
theorem dX5_changed_40 : decode cX5_changed 40 = .ok (.astore 7, 2) := by decide +kernel
theorem dX5_changed_42 : decode cX5_changed 42 = .ok (.aload 7, 2) := by decide +kernel
theorem dX5_changed_44 : decode cX5_changed 44 = .ok (.aload 7, 2) := by decide +kernel
theorem dX5_changed_46 : decode cX5_changed 46 = .ok (.lconst 0, 1) := by decide +kernel
theorem dX5_changed_47 : decode cX5_changed 47 = .ok (.iload 6, 2) := by decide +kernel
theorem dX5_changed_49 : decode cX5_changed 49 = .ok (.invokevirtual 56, 3) := by decide +kernel
theorem dX5_changed_52 : decode cX5_changed 52 = .ok (.lload 4, 2) := by decide +kernel
theorem dX5_changed_54 : decode cX5_changed 54 = .ok (.invokevirtual 75, 3) := by decide +kernel
theorem dX5_changed_57 : decode cX5_changed 57 = .ok (.lstore 8, 2) := by decide +kernel
theorem dX5_changed_59 : decode cX5_changed 59 = .ok (.aload 7, 2) := by decide +kernel
theorem dX5_changed_61 : decode cX5_changed 61 = .ok (.aload 7, 2) := by decide +kernel
theorem dX5_changed_63 : decode cX5_changed 63 = .ok (.lload_n 2, 1) := by decide +kernel
theorem dX5_changed_64 : decode cX5_changed 64 = .ok (.invokevirtual 72, 3) := by decide +kernel
theorem dX5_changed_67 : decode cX5_changed 67 = .ok (.lload 8, 2) := by decide +kernel
theorem dX5_changed_69 : decode cX5_changed 69 = .ok (.lxor, 1) := by decide +kernel
theorem dX5_changed_70 : decode cX5_changed 70 = .ok (.invokevirtual 60, 3) := by decide +kernel
theorem dX5_changed_73 : decode cX5_changed 73 = .ok (.lreturn, 1) := by decide +kernel
theorem dX5_tail_0 : decode cX5_tail 0 = .ok (.aload_n 0, 1) := by decide +kernel
theorem dX5_tail_1 : decode cX5_tail 1 = .ok (.iload_n 1, 1) := by decide +kernel
theorem dX5_tail_2 : decode cX5_tail 2 = .ok (.lload_n 2, 1) := by decide +kernel
theorem dX5_tail_3 : decode cX5_tail 3 = .ok (.invokevirtual 64, 3) := by decide +kernel
theorem dX5_tail_6 : decode cX5_tail 6 = .ok (.ifCond .eq 28, 3) := by decide +kernel
theorem dX5_tail_9 : decode cX5_tail 9 = .ok (.aload_n 0, 1) := by decide +kernel
theorem dX5_tail_10 : decode cX5_tail 10 = .ok (.iload_n 1, 1) := by decide +kernel
theorem dX5_tail_11 : decode cX5_tail 11 = .ok (.lload 4, 2) := by decide +kernel
theorem dX5_tail_13 : decode cX5_tail 13 = .ok (.invokevirtual 64, 3) := by decide +kernel
theorem dX5_tail_16 : decode cX5_tail 16 = .ok (.ifCond .eq 18, 3) := by decide +kernel
theorem dX5_tail_19 : decode cX5_tail 19 = .ok (.aload_n 0, 1) := by decide +kernel
theorem dX5_tail_20 : decode cX5_tail 20 = .ok (.getfield 19, 3) := by decide +kernel
theorem dX5_tail_23 : decode cX5_tail 23 = .ok (.iload_n 1, 1) := by decide +kernel
theorem dX5_tail_24 : decode cX5_tail 24 = .ok (.aaload, 1) := by decide +kernel
theorem dX5_tail_25 : decode cX5_tail 25 = .ok (.getfield 79, 3) := by decide +kernel
theorem dX5_tail_28 : decode cX5_tail 28 = .ok (.bipush 8, 2) := by decide +kernel
theorem dX5_tail_30 : decode cX5_tail 30 = .ok (.irem, 1) := by decide +kernel
theorem dX5_tail_31 : decode cX5_tail 31 = .ok (.ifCond .eq 7, 3) := by decide +kernel
theorem dX5_tail_34 : decode cX5_tail 34 = .ok (.ldc2_w 50, 3) := by decide +kernel
theorem dX5_tail_37 : decode cX5_tail 37 = .ok (.lreturn, 1) := by decide +kernel
theorem dX5_tail_38 : decode cX5_tail 38 = .ok (.aload_n 0, 1) := by decide +kernel
theorem dX5_tail_39 : decode cX5_tail 39 = .ok (.getfield 19, 3) := by decide +kernel
theorem dX5_tail_42 : decode cX5_tail 42 = .ok (.iload_n 1, 1) := by decide +kernel
theorem dX5_tail_43 : decode cX5_tail 43 = .ok (.aaload, 1) := by decide +kernel
theorem dX5_tail_44 : decode cX5_tail 44 = .ok (.astore 6, 2) := by decide +kernel
theorem dX5_tail_46 : decode cX5_tail 46 = .ok (.aload 6, 2) := by decide +kernel
theorem dX5_tail_48 : decode cX5_tail 48 = .ok (.aload 6, 2) := by decide +kernel
theorem dX5_tail_50 : decode cX5_tail 50 = .ok (.lload_n 2, 1) := by decide +kernel
theorem dX5_tail_51 : decode cX5_tail 51 = .ok (.invokevirtual 72, 3) := by decide +kernel
theorem dX5_tail_54 : decode cX5_tail 54 = .ok (.aload 6, 2) := by decide +kernel
theorem dX5_tail_56 : decode cX5_tail 56 = .ok (.lload 4, 2) := by decide +kernel
theorem dX5_tail_58 : decode cX5_tail 58 = .ok (.invokevirtual 72, 3) := by decide +kernel
theorem dX5_tail_61 : decode cX5_tail 61 = .ok (.invokevirtual 82, 3) := by decide +kernel
theorem dX5_tail_64 : decode cX5_tail 64 = .ok (.lreturn, 1) := by decide +kernel
theorem dX5_factors_0 : decode cX5_factors 0 = .ok (.aload_n 0, 1) := by decide +kernel
theorem dX5_factors_1 : decode cX5_factors 1 = .ok (.iload_n 1, 1) := by decide +kernel
theorem dX5_factors_2 : decode cX5_factors 2 = .ok (.invokevirtual 42, 3) := by decide +kernel
theorem dX5_factors_5 : decode cX5_factors 5 = .ok (.ifCond .ne 5, 3) := by decide +kernel
theorem dX5_factors_8 : decode cX5_factors 8 = .ok (.iconst (-1), 1) := by decide +kernel
theorem dX5_factors_9 : decode cX5_factors 9 = .ok (.ireturn, 1) := by decide +kernel
theorem dX5_factors_10 : decode cX5_factors 10 = .ok (.aload_n 0, 1) := by decide +kernel
theorem dX5_factors_11 : decode cX5_factors 11 = .ok (.getfield 19, 3) := by decide +kernel
theorem dX5_factors_14 : decode cX5_factors 14 = .ok (.iload_n 1, 1) := by decide +kernel
theorem dX5_factors_15 : decode cX5_factors 15 = .ok (.aaload, 1) := by decide +kernel
theorem dX5_factors_16 : decode cX5_factors 16 = .ok (.astore_n 2, 1) := by decide +kernel
theorem dX5_factors_17 : decode cX5_factors 17 = .ok (.aload_n 2, 1) := by decide +kernel
theorem dX5_factors_18 : decode cX5_factors 18 = .ok (.getfield 85, 3) := by decide +kernel
theorem dX5_factors_21 : decode cX5_factors 21 = .ok (.aload_n 2, 1) := by decide +kernel
theorem dX5_factors_22 : decode cX5_factors 22 = .ok (.getfield 89, 3) := by decide +kernel
theorem dX5_factors_25 : decode cX5_factors 25 = .ok (.invokevirtual 92, 3) := by decide +kernel
theorem dX5_factors_28 : decode cX5_factors 28 = .ok (.aload_n 2, 1) := by decide +kernel
theorem dX5_factors_29 : decode cX5_factors 29 = .ok (.getfield 85, 3) := by decide +kernel
theorem dX5_factors_32 : decode cX5_factors 32 = .ok (.getfield 98, 3) := by decide +kernel
theorem dX5_factors_35 : decode cX5_factors 35 = .ok (.ireturn, 1) := by decide +kernel
theorem dX5_factor_0 : decode cX5_factor 0 = .ok (.aload_n 0, 1) := by decide +kernel
theorem dX5_factor_1 : decode cX5_factor 1 = .ok (.iload_n 1, 1) := by decide +kernel
theorem dX5_factor_2 : decode cX5_factor 2 = .ok (.invokevirtual 42, 3) := by decide +kernel
theorem dX5_factor_5 : decode cX5_factor 5 = .ok (.ifCond .eq 16, 3) := by decide +kernel
theorem dX5_factor_8 : decode cX5_factor 8 = .ok (.iload_n 2, 1) := by decide +kernel
theorem dX5_factor_9 : decode cX5_factor 9 = .ok (.ifCond .lt 12, 3) := by decide +kernel
theorem dX5_factor_12 : decode cX5_factor 12 = .ok (.iload_n 3, 1) := by decide +kernel
theorem dX5_factor_13 : decode cX5_factor 13 = .ok (.ifCond .lt 8, 3) := by decide +kernel
theorem dX5_factor_16 : decode cX5_factor 16 = .ok (.iload_n 3, 1) := by decide +kernel
theorem dX5_factor_17 : decode cX5_factor 17 = .ok (.iconst 1, 1) := by decide +kernel
theorem dX5_factor_18 : decode cX5_factor 18 = .ok (.if_icmp .le 7, 3) := by decide +kernel
theorem dX5_factor_21 : decode cX5_factor 21 = .ok (.ldc2_w 50, 3) := by decide +kernel
theorem dX5_factor_24 : decode cX5_factor 24 = .ok (.lreturn, 1) := by decide +kernel
theorem dX5_factor_25 : decode cX5_factor 25 = .ok (.aload_n 0, 1) := by decide +kernel
theorem dX5_factor_26 : decode cX5_factor 26 = .ok (.getfield 19, 3) := by decide +kernel
theorem dX5_factor_29 : decode cX5_factor 29 = .ok (.iload_n 1, 1) := by decide +kernel
theorem dX5_factor_30 : decode cX5_factor 30 = .ok (.aaload, 1) := by decide +kernel
theorem dX5_factor_31 : decode cX5_factor 31 = .ok (.astore 4, 2) := by decide +kernel
theorem dX5_factor_33 : decode cX5_factor 33 = .ok (.aload 4, 2) := by decide +kernel
theorem dX5_factor_35 : decode cX5_factor 35 = .ok (.getfield 85, 3) := by decide +kernel
theorem dX5_factor_38 : decode cX5_factor 38 = .ok (.aload 4, 2) := by decide +kernel
theorem dX5_factor_40 : decode cX5_factor 40 = .ok (.getfield 89, 3) := by decide +kernel
theorem dX5_factor_43 : decode cX5_factor 43 = .ok (.invokevirtual 92, 3) := by decide +kernel
theorem dX5_factor_46 : decode cX5_factor 46 = .ok (.iload_n 2, 1) := by decide +kernel
theorem dX5_factor_47 : decode cX5_factor 47 = .ok (.aload 4, 2) := by decide +kernel
theorem dX5_factor_49 : decode cX5_factor 49 = .ok (.getfield 85, 3) := by decide +kernel
theorem dX5_factor_52 : decode cX5_factor 52 = .ok (.getfield 98, 3) := by decide +kernel
theorem dX5_factor_55 : decode cX5_factor 55 = .ok (.if_icmp .lt 7, 3) := by decide +kernel
theorem dX5_factor_58 : decode cX5_factor 58 = .ok (.ldc2_w 50, 3) := by decide +kernel
theorem dX5_factor_61 : decode cX5_factor 61 = .ok (.lreturn, 1) := by decide +kernel
theorem dX5_factor_62 : decode cX5_factor 62 = .ok (.iload_n 3, 1) := by decide +kernel
theorem dX5_factor_63 : decode cX5_factor 63 = .ok (.ifCond .ne 16, 3) := by decide +kernel
theorem dX5_factor_66 : decode cX5_factor 66 = .ok (.aload 4, 2) := by decide +kernel
theorem dX5_factor_68 : decode cX5_factor 68 = .ok (.getfield 85, 3) := by decide +kernel
theorem dX5_factor_71 : decode cX5_factor 71 = .ok (.getfield 101, 3) := by decide +kernel
theorem dX5_factor_74 : decode cX5_factor 74 = .ok (.iload_n 2, 1) := by decide +kernel
theorem dX5_factor_75 : decode cX5_factor 75 = .ok (.laload, 1) := by decide +kernel
theorem dX5_factor_76 : decode cX5_factor 76 = .ok (.goto 14, 3) := by decide +kernel
theorem dX5_factor_79 : decode cX5_factor 79 = .ok (.aload 4, 2) := by decide +kernel
theorem dX5_factor_81 : decode cX5_factor 81 = .ok (.getfield 85, 3) := by decide +kernel
theorem dX5_factor_84 : decode cX5_factor 84 = .ok (.getfield 105, 3) := by decide +kernel
theorem dX5_factor_87 : decode cX5_factor 87 = .ok (.iload_n 2, 1) := by decide +kernel
theorem dX5_factor_88 : decode cX5_factor 88 = .ok (.iaload, 1) := by decide +kernel
theorem dX5_factor_89 : decode cX5_factor 89 = .ok (.i2l, 1) := by decide +kernel
theorem dX5_factor_90 : decode cX5_factor 90 = .ok (.lreturn, 1) := by decide +kernel
theorem dX5_order_0 : decode cX5_order 0 = .ok (.aload_n 0, 1) := by decide +kernel
theorem dX5_order_1 : decode cX5_order 1 = .ok (.iload_n 1, 1) := by decide +kernel
theorem dX5_order_2 : decode cX5_order 2 = .ok (.invokevirtual 42, 3) := by decide +kernel
theorem dX5_order_5 : decode cX5_order 5 = .ok (.ifCond .ne 7, 3) := by decide +kernel
theorem dX5_order_8 : decode cX5_order 8 = .ok (.ldc2_w 50, 3) := by decide +kernel
theorem dX5_order_11 : decode cX5_order 11 = .ok (.lreturn, 1) := by decide +kernel
theorem dX5_order_12 : decode cX5_order 12 = .ok (.aload_n 0, 1) := by decide +kernel
theorem dX5_order_13 : decode cX5_order 13 = .ok (.getfield 19, 3) := by decide +kernel
theorem dX5_order_16 : decode cX5_order 16 = .ok (.iload_n 1, 1) := by decide +kernel
theorem dX5_order_17 : decode cX5_order 17 = .ok (.aaload, 1) := by decide +kernel
theorem dX5_order_18 : decode cX5_order 18 = .ok (.astore_n 2, 1) := by decide +kernel
theorem dX5_order_19 : decode cX5_order 19 = .ok (.aload_n 2, 1) := by decide +kernel
theorem dX5_order_20 : decode cX5_order 20 = .ok (.getfield 85, 3) := by decide +kernel
theorem dX5_order_23 : decode cX5_order 23 = .ok (.aload_n 2, 1) := by decide +kernel
theorem dX5_order_24 : decode cX5_order 24 = .ok (.getfield 89, 3) := by decide +kernel
theorem dX5_order_27 : decode cX5_order 27 = .ok (.invokevirtual 92, 3) := by decide +kernel
theorem dX5_order_30 : decode cX5_order 30 = .ok (.aload_n 2, 1) := by decide +kernel
theorem dX5_order_31 : decode cX5_order 31 = .ok (.getfield 85, 3) := by decide +kernel
theorem dX5_order_34 : decode cX5_order 34 = .ok (.invokevirtual 108, 3) := by decide +kernel
theorem dX5_order_37 : decode cX5_order 37 = .ok (.lreturn, 1) := by decide +kernel
theorem dX5_distance_0 : decode cX5_distance 0 = .ok (.aload_n 0, 1) := by decide +kernel
theorem dX5_distance_1 : decode cX5_distance 1 = .ok (.iload_n 1, 1) := by decide +kernel
theorem dX5_distance_2 : decode cX5_distance 2 = .ok (.invokevirtual 42, 3) := by decide +kernel
theorem dX5_distance_5 : decode cX5_distance 5 = .ok (.ifCond .eq 15, 3) := by decide +kernel
theorem dX5_distance_8 : decode cX5_distance 8 = .ok (.iload_n 2, 1) := by decide +kernel
theorem dX5_distance_9 : decode cX5_distance 9 = .ok (.iconst 1, 1) := by decide +kernel
theorem dX5_distance_10 : decode cX5_distance 10 = .ok (.if_icmp .lt 10, 3) := by decide +kernel
theorem dX5_distance_13 : decode cX5_distance 13 = .ok (.iload_n 2, 1) := by decide +kernel
theorem dX5_distance_14 : decode cX5_distance 14 = .ok (.sipush 200, 3) := by decide +kernel
theorem dX5_distance_17 : decode cX5_distance 17 = .ok (.if_icmp .le 5, 3) := by decide +kernel
theorem dX5_distance_20 : decode cX5_distance 20 = .ok (.iconst (-1), 1) := by decide +kernel
theorem dX5_distance_21 : decode cX5_distance 21 = .ok (.ireturn, 1) := by decide +kernel
theorem dX5_distance_22 : decode cX5_distance 22 = .ok (.aload_n 0, 1) := by decide +kernel
theorem dX5_distance_23 : decode cX5_distance 23 = .ok (.getfield 19, 3) := by decide +kernel
theorem dX5_distance_26 : decode cX5_distance 26 = .ok (.iload_n 1, 1) := by decide +kernel
theorem dX5_distance_27 : decode cX5_distance 27 = .ok (.aaload, 1) := by decide +kernel
theorem dX5_distance_28 : decode cX5_distance 28 = .ok (.astore_n 3, 1) := by decide +kernel
theorem dX5_distance_29 : decode cX5_distance 29 = .ok (.aload_n 3, 1) := by decide +kernel
theorem dX5_distance_30 : decode cX5_distance 30 = .ok (.getfield 112, 3) := by decide +kernel
theorem dX5_distance_33 : decode cX5_distance 33 = .ok (.aload_n 3, 1) := by decide +kernel
theorem dX5_distance_34 : decode cX5_distance 34 = .ok (.getfield 89, 3) := by decide +kernel
theorem dX5_distance_37 : decode cX5_distance 37 = .ok (.aload_n 0, 1) := by decide +kernel
theorem dX5_distance_38 : decode cX5_distance 38 = .ok (.getfield 29, 3) := by decide +kernel
theorem dX5_distance_41 : decode cX5_distance 41 = .ok (.invokevirtual 116, 3) := by decide +kernel
theorem dX5_distance_44 : decode cX5_distance 44 = .ok (.aload_n 3, 1) := by decide +kernel
theorem dX5_distance_45 : decode cX5_distance 45 = .ok (.getfield 112, 3) := by decide +kernel
theorem dX5_distance_48 : decode cX5_distance 48 = .ok (.iload_n 2, 1) := by decide +kernel
theorem dX5_distance_49 : decode cX5_distance 49 = .ok (.invokevirtual 121, 3) := by decide +kernel
theorem dX5_distance_52 : decode cX5_distance 52 = .ok (.ireturn, 1) := by decide +kernel
theorem dX5_added_0 : decode cX5_added 0 = .ok (.iload_n 1, 1) := by decide +kernel
theorem dX5_added_1 : decode cX5_added 1 = .ok (.invokestatic 125, 3) := by decide +kernel
theorem dX5_added_4 : decode cX5_added 4 = .ok (.ifCond .eq 12, 3) := by decide +kernel
theorem dX5_added_7 : decode cX5_added 7 = .ok (.aload_n 0, 1) := by decide +kernel
theorem dX5_added_8 : decode cX5_added 8 = .ok (.iload_n 2, 1) := by decide +kernel
theorem dX5_added_9 : decode cX5_added 9 = .ok (.iload_n 3, 1) := by decide +kernel
theorem dX5_added_10 : decode cX5_added 10 = .ok (.invokevirtual 46, 3) := by decide +kernel
theorem dX5_added_13 : decode cX5_added 13 = .ok (.ifCond .ne 7, 3) := by decide +kernel
theorem dX5_added_16 : decode cX5_added 16 = .ok (.ldc2_w 50, 3) := by decide +kernel
theorem dX5_added_19 : decode cX5_added 19 = .ok (.lreturn, 1) := by decide +kernel
theorem dX5_added_20 : decode cX5_added 20 = .ok (.getstatic 128, 3) := by decide +kernel
theorem dX5_added_23 : decode cX5_added 23 = .ok (.iload_n 1, 1) := by decide +kernel
theorem dX5_added_24 : decode cX5_added 24 = .ok (.iaload, 1) := by decide +kernel
theorem dX5_added_25 : decode cX5_added 25 = .ok (.istore 4, 2) := by decide +kernel
theorem dX5_added_27 : decode cX5_added 27 = .ok (.getstatic 131, 3) := by decide +kernel
theorem dX5_added_30 : decode cX5_added 30 = .ok (.iload_n 1, 1) := by decide +kernel
theorem dX5_added_31 : decode cX5_added 31 = .ok (.iaload, 1) := by decide +kernel
theorem dX5_added_32 : decode cX5_added 32 = .ok (.istore 5, 2) := by decide +kernel
theorem dX5_added_34 : decode cX5_added 34 = .ok (.iconst 0, 1) := by decide +kernel
theorem dX5_added_35 : decode cX5_added 35 = .ok (.istore 6, 2) := by decide +kernel
theorem dX5_added_37 : decode cX5_added 37 = .ok (.iload_n 2, 1) := by decide +kernel
theorem dX5_added_38 : decode cX5_added 38 = .ok (.istore 7, 2) := by decide +kernel
theorem dX5_added_40 : decode cX5_added 40 = .ok (.iload 7, 2) := by decide +kernel
theorem dX5_added_42 : decode cX5_added 42 = .ok (.iload_n 3, 1) := by decide +kernel
theorem dX5_added_43 : decode cX5_added 43 = .ok (.if_icmp .ge 34, 3) := by decide +kernel
theorem dX5_added_46 : decode cX5_added 46 = .ok (.iload 5, 2) := by decide +kernel
theorem dX5_added_48 : decode cX5_added 48 = .ok (.aload_n 0, 1) := by decide +kernel
theorem dX5_added_49 : decode cX5_added 49 = .ok (.getfield 9, 3) := by decide +kernel
theorem dX5_added_52 : decode cX5_added 52 = .ok (.iload 7, 2) := by decide +kernel
theorem dX5_added_54 : decode cX5_added 54 = .ok (.iaload, 1) := by decide +kernel
theorem dX5_added_55 : decode cX5_added 55 = .ok (.iadd, 1) := by decide +kernel
theorem dX5_added_56 : decode cX5_added 56 = .ok (.iload 4, 2) := by decide +kernel
theorem dX5_added_58 : decode cX5_added 58 = .ok (.irem, 1) := by decide +kernel
theorem dX5_added_59 : decode cX5_added 59 = .ok (.istore 5, 2) := by decide +kernel
theorem dX5_added_61 : decode cX5_added 61 = .ok (.iload 6, 2) := by decide +kernel
theorem dX5_added_63 : decode cX5_added 63 = .ok (.iload 5, 2) := by decide +kernel
theorem dX5_added_65 : decode cX5_added 65 = .ok (.iadd, 1) := by decide +kernel
theorem dX5_added_66 : decode cX5_added 66 = .ok (.iload 4, 2) := by decide +kernel
theorem dX5_added_68 : decode cX5_added 68 = .ok (.irem, 1) := by decide +kernel
theorem dX5_added_69 : decode cX5_added 69 = .ok (.istore 6, 2) := by decide +kernel
theorem dX5_added_71 : decode cX5_added 71 = .ok (.iinc 7 1, 3) := by decide +kernel
theorem dX5_added_74 : decode cX5_added 74 = .ok (.goto (-34), 3) := by decide +kernel
theorem dX5_added_77 : decode cX5_added 77 = .ok (.iload_n 1, 1) := by decide +kernel
theorem dX5_added_78 : decode cX5_added 78 = .ok (.iload 5, 2) := by decide +kernel
theorem dX5_added_80 : decode cX5_added 80 = .ok (.i2l, 1) := by decide +kernel
theorem dX5_added_81 : decode cX5_added 81 = .ok (.iload 6, 2) := by decide +kernel
theorem dX5_added_83 : decode cX5_added 83 = .ok (.i2l, 1) := by decide +kernel
theorem dX5_added_84 : decode cX5_added 84 = .ok (.invokestatic 134, 3) := by decide +kernel
theorem dX5_added_87 : decode cX5_added 87 = .ok (.lreturn, 1) := by decide +kernel
theorem dX5_addedJoined_0 : decode cX5_addedJoined 0 = .ok (.iload_n 1, 1) := by decide +kernel
theorem dX5_addedJoined_1 : decode cX5_addedJoined 1 = .ok (.invokestatic 125, 3) := by decide +kernel
theorem dX5_addedJoined_4 : decode cX5_addedJoined 4 = .ok (.ifCond .eq 28, 3) := by decide +kernel
theorem dX5_addedJoined_7 : decode cX5_addedJoined 7 = .ok (.iload_n 1, 1) := by decide +kernel
theorem dX5_addedJoined_8 : decode cX5_addedJoined 8 = .ok (.lload_n 2, 1) := by decide +kernel
theorem dX5_addedJoined_9 : decode cX5_addedJoined 9 = .ok (.invokestatic 138, 3) := by decide +kernel
theorem dX5_addedJoined_12 : decode cX5_addedJoined 12 = .ok (.ifCond .eq 20, 3) := by decide +kernel
theorem dX5_addedJoined_15 : decode cX5_addedJoined 15 = .ok (.iload_n 1, 1) := by decide +kernel
theorem dX5_addedJoined_16 : decode cX5_addedJoined 16 = .ok (.lload 4, 2) := by decide +kernel
theorem dX5_addedJoined_18 : decode cX5_addedJoined 18 = .ok (.invokestatic 138, 3) := by decide +kernel
theorem dX5_addedJoined_21 : decode cX5_addedJoined 21 = .ok (.ifCond .eq 11, 3) := by decide +kernel
theorem dX5_addedJoined_24 : decode cX5_addedJoined 24 = .ok (.lload 6, 2) := by decide +kernel
theorem dX5_addedJoined_26 : decode cX5_addedJoined 26 = .ok (.invokestatic 68, 3) := by decide +kernel
theorem dX5_addedJoined_29 : decode cX5_addedJoined 29 = .ok (.ifCond .ne 7, 3) := by decide +kernel
theorem dX5_addedJoined_32 : decode cX5_addedJoined 32 = .ok (.ldc2_w 50, 3) := by decide +kernel
theorem dX5_addedJoined_35 : decode cX5_addedJoined 35 = .ok (.lreturn, 1) := by decide +kernel
theorem dX5_addedJoined_36 : decode cX5_addedJoined 36 = .ok (.getstatic 128, 3) := by decide +kernel
theorem dX5_addedJoined_39 : decode cX5_addedJoined 39 = .ok (.iload_n 1, 1) := by decide +kernel
theorem dX5_addedJoined_40 : decode cX5_addedJoined 40 = .ok (.iaload, 1) := by decide +kernel
theorem dX5_addedJoined_41 : decode cX5_addedJoined 41 = .ok (.istore 8, 2) := by decide +kernel
theorem dX5_addedJoined_43 : decode cX5_addedJoined 43 = .ok (.iload_n 1, 1) := by decide +kernel
theorem dX5_addedJoined_44 : decode cX5_addedJoined 44 = .ok (.lload_n 2, 1) := by decide +kernel
theorem dX5_addedJoined_45 : decode cX5_addedJoined 45 = .ok (.invokestatic 141, 3) := by decide +kernel
theorem dX5_addedJoined_48 : decode cX5_addedJoined 48 = .ok (.iload 8, 2) := by decide +kernel
theorem dX5_addedJoined_50 : decode cX5_addedJoined 50 = .ok (.i2l, 1) := by decide +kernel
theorem dX5_addedJoined_51 : decode cX5_addedJoined 51 = .ok (.ladd, 1) := by decide +kernel
theorem dX5_addedJoined_52 : decode cX5_addedJoined 52 = .ok (.getstatic 131, 3) := by decide +kernel
theorem dX5_addedJoined_55 : decode cX5_addedJoined 55 = .ok (.iload_n 1, 1) := by decide +kernel
theorem dX5_addedJoined_56 : decode cX5_addedJoined 56 = .ok (.iaload, 1) := by decide +kernel
theorem dX5_addedJoined_57 : decode cX5_addedJoined 57 = .ok (.i2l, 1) := by decide +kernel
theorem dX5_addedJoined_58 : decode cX5_addedJoined 58 = .ok (.lsub, 1) := by decide +kernel
theorem dX5_addedJoined_59 : decode cX5_addedJoined 59 = .ok (.iload 8, 2) := by decide +kernel
theorem dX5_addedJoined_61 : decode cX5_addedJoined 61 = .ok (.i2l, 1) := by decide +kernel
theorem dX5_addedJoined_62 : decode cX5_addedJoined 62 = .ok (.lrem, 1) := by decide +kernel
theorem dX5_addedJoined_63 : decode cX5_addedJoined 63 = .ok (.lstore 9, 2) := by decide +kernel
theorem dX5_addedJoined_65 : decode cX5_addedJoined 65 = .ok (.iload_n 1, 1) := by decide +kernel
theorem dX5_addedJoined_66 : decode cX5_addedJoined 66 = .ok (.lload 4, 2) := by decide +kernel
theorem dX5_addedJoined_68 : decode cX5_addedJoined 68 = .ok (.invokestatic 141, 3) := by decide +kernel
theorem dX5_addedJoined_71 : decode cX5_addedJoined 71 = .ok (.lload 9, 2) := by decide +kernel
theorem dX5_addedJoined_73 : decode cX5_addedJoined 73 = .ok (.ladd, 1) := by decide +kernel
theorem dX5_addedJoined_74 : decode cX5_addedJoined 74 = .ok (.iload 8, 2) := by decide +kernel
theorem dX5_addedJoined_76 : decode cX5_addedJoined 76 = .ok (.i2l, 1) := by decide +kernel
theorem dX5_addedJoined_77 : decode cX5_addedJoined 77 = .ok (.lrem, 1) := by decide +kernel
theorem dX5_addedJoined_78 : decode cX5_addedJoined 78 = .ok (.lstore 11, 2) := by decide +kernel
theorem dX5_addedJoined_80 : decode cX5_addedJoined 80 = .ok (.iload_n 1, 1) := by decide +kernel
theorem dX5_addedJoined_81 : decode cX5_addedJoined 81 = .ok (.lload_n 2, 1) := by decide +kernel
theorem dX5_addedJoined_82 : decode cX5_addedJoined 82 = .ok (.invokestatic 145, 3) := by decide +kernel
theorem dX5_addedJoined_85 : decode cX5_addedJoined 85 = .ok (.iload_n 1, 1) := by decide +kernel
theorem dX5_addedJoined_86 : decode cX5_addedJoined 86 = .ok (.lload 4, 2) := by decide +kernel
theorem dX5_addedJoined_88 : decode cX5_addedJoined 88 = .ok (.invokestatic 145, 3) := by decide +kernel
theorem dX5_addedJoined_91 : decode cX5_addedJoined 91 = .ok (.ladd, 1) := by decide +kernel
theorem dX5_addedJoined_92 : decode cX5_addedJoined 92 = .ok (.lload 6, 2) := by decide +kernel
theorem dX5_addedJoined_94 : decode cX5_addedJoined 94 = .ok (.iload 8, 2) := by decide +kernel
theorem dX5_addedJoined_96 : decode cX5_addedJoined 96 = .ok (.i2l, 1) := by decide +kernel
theorem dX5_addedJoined_97 : decode cX5_addedJoined 97 = .ok (.lrem, 1) := by decide +kernel
theorem dX5_addedJoined_98 : decode cX5_addedJoined 98 = .ok (.lload 9, 2) := by decide +kernel
theorem dX5_addedJoined_100 : decode cX5_addedJoined 100 = .ok (.lmul, 1) := by decide +kernel
theorem dX5_addedJoined_101 : decode cX5_addedJoined 101 = .ok (.ladd, 1) := by decide +kernel
theorem dX5_addedJoined_102 : decode cX5_addedJoined 102 = .ok (.iload 8, 2) := by decide +kernel
theorem dX5_addedJoined_104 : decode cX5_addedJoined 104 = .ok (.i2l, 1) := by decide +kernel
theorem dX5_addedJoined_105 : decode cX5_addedJoined 105 = .ok (.lrem, 1) := by decide +kernel
theorem dX5_addedJoined_106 : decode cX5_addedJoined 106 = .ok (.lstore 13, 2) := by decide +kernel
theorem dX5_addedJoined_108 : decode cX5_addedJoined 108 = .ok (.iload_n 1, 1) := by decide +kernel
theorem dX5_addedJoined_109 : decode cX5_addedJoined 109 = .ok (.lload 11, 2) := by decide +kernel
theorem dX5_addedJoined_111 : decode cX5_addedJoined 111 = .ok (.lload 13, 2) := by decide +kernel
theorem dX5_addedJoined_113 : decode cX5_addedJoined 113 = .ok (.invokestatic 134, 3) := by decide +kernel
theorem dX5_addedJoined_116 : decode cX5_addedJoined 116 = .ok (.lreturn, 1) := by decide +kernel
theorem dX5_isForm_0 : decode cX5_isForm 0 = .ok (.iload_n 1, 1) := by decide +kernel
theorem dX5_isForm_1 : decode cX5_isForm 1 = .ok (.ifCond .lt 15, 3) := by decide +kernel
theorem dX5_isForm_4 : decode cX5_isForm 4 = .ok (.iload_n 1, 1) := by decide +kernel
theorem dX5_isForm_5 : decode cX5_isForm 5 = .ok (.aload_n 0, 1) := by decide +kernel
theorem dX5_isForm_6 : decode cX5_isForm 6 = .ok (.getfield 23, 3) := by decide +kernel
theorem dX5_isForm_9 : decode cX5_isForm 9 = .ok (.if_icmp .ge 7, 3) := by decide +kernel
theorem dX5_isForm_12 : decode cX5_isForm 12 = .ok (.iconst 1, 1) := by decide +kernel
theorem dX5_isForm_13 : decode cX5_isForm 13 = .ok (.goto 4, 3) := by decide +kernel
theorem dX5_isForm_16 : decode cX5_isForm 16 = .ok (.iconst 0, 1) := by decide +kernel
theorem dX5_isForm_17 : decode cX5_isForm 17 = .ok (.ireturn, 1) := by decide +kernel
theorem dX5_isSum_0 : decode cX5_isSum 0 = .ok (.aload_n 0, 1) := by decide +kernel
theorem dX5_isSum_1 : decode cX5_isSum 1 = .ok (.iload_n 1, 1) := by decide +kernel
theorem dX5_isSum_2 : decode cX5_isSum 2 = .ok (.invokevirtual 42, 3) := by decide +kernel
theorem dX5_isSum_5 : decode cX5_isSum 5 = .ok (.ifCond .eq 23, 3) := by decide +kernel
theorem dX5_isSum_8 : decode cX5_isSum 8 = .ok (.lload_n 2, 1) := by decide +kernel
theorem dX5_isSum_9 : decode cX5_isSum 9 = .ok (.aload_n 0, 1) := by decide +kernel
theorem dX5_isSum_10 : decode cX5_isSum 10 = .ok (.getfield 19, 3) := by decide +kernel
theorem dX5_isSum_13 : decode cX5_isSum 13 = .ok (.iload_n 1, 1) := by decide +kernel
theorem dX5_isSum_14 : decode cX5_isSum 14 = .ok (.aaload, 1) := by decide +kernel
theorem dX5_isSum_15 : decode cX5_isSum 15 = .ok (.getfield 79, 3) := by decide +kernel
theorem dX5_isSum_18 : decode cX5_isSum 18 = .ok (.invokestatic 34, 3) := by decide +kernel
theorem dX5_isSum_21 : decode cX5_isSum 21 = .ok (.ifCond .eq 7, 3) := by decide +kernel
theorem dX5_isSum_24 : decode cX5_isSum 24 = .ok (.iconst 1, 1) := by decide +kernel
theorem dX5_isSum_25 : decode cX5_isSum 25 = .ok (.goto 4, 3) := by decide +kernel
theorem dX5_isSum_28 : decode cX5_isSum 28 = .ok (.iconst 0, 1) := by decide +kernel
theorem dX5_isSum_29 : decode cX5_isSum 29 = .ok (.ireturn, 1) := by decide +kernel
theorem dX5_isPart_0 : decode cX5_isPart 0 = .ok (.iload_n 1, 1) := by decide +kernel
theorem dX5_isPart_1 : decode cX5_isPart 1 = .ok (.ifCond .lt 20, 3) := by decide +kernel
theorem dX5_isPart_4 : decode cX5_isPart 4 = .ok (.iload_n 1, 1) := by decide +kernel
theorem dX5_isPart_5 : decode cX5_isPart 5 = .ok (.iload_n 2, 1) := by decide +kernel
theorem dX5_isPart_6 : decode cX5_isPart 6 = .ok (.if_icmp .gt 15, 3) := by decide +kernel
theorem dX5_isPart_9 : decode cX5_isPart 9 = .ok (.iload_n 2, 1) := by decide +kernel
theorem dX5_isPart_10 : decode cX5_isPart 10 = .ok (.aload_n 0, 1) := by decide +kernel
theorem dX5_isPart_11 : decode cX5_isPart 11 = .ok (.getfield 13, 3) := by decide +kernel
theorem dX5_isPart_14 : decode cX5_isPart 14 = .ok (.if_icmp .gt 7, 3) := by decide +kernel
theorem dX5_isPart_17 : decode cX5_isPart 17 = .ok (.iconst 1, 1) := by decide +kernel
theorem dX5_isPart_18 : decode cX5_isPart 18 = .ok (.goto 4, 3) := by decide +kernel
theorem dX5_isPart_21 : decode cX5_isPart 21 = .ok (.iconst 0, 1) := by decide +kernel
theorem dX5_isPart_22 : decode cX5_isPart 22 = .ok (.ireturn, 1) := by decide +kernel
theorem dX5_isLength_0 : decode cX5_isLength 0 = .ok (.lload_n 0, 1) := by decide +kernel
theorem dX5_isLength_1 : decode cX5_isLength 1 = .ok (.lconst 0, 1) := by decide +kernel
theorem dX5_isLength_2 : decode cX5_isLength 2 = .ok (.lcmp, 1) := by decide +kernel
theorem dX5_isLength_3 : decode cX5_isLength 3 = .ok (.ifCond .lt 15, 3) := by decide +kernel
theorem dX5_isLength_6 : decode cX5_isLength 6 = .ok (.lload_n 0, 1) := by decide +kernel
theorem dX5_isLength_7 : decode cX5_isLength 7 = .ok (.ldc2_w 148, 3) := by decide +kernel
theorem dX5_isLength_10 : decode cX5_isLength 10 = .ok (.lcmp, 1) := by decide +kernel
theorem dX5_isLength_11 : decode cX5_isLength 11 = .ok (.ifCond .gt 7, 3) := by decide +kernel
theorem dX5_isLength_14 : decode cX5_isLength 14 = .ok (.iconst 1, 1) := by decide +kernel
theorem dX5_isLength_15 : decode cX5_isLength 15 = .ok (.goto 4, 3) := by decide +kernel
theorem dX5_isLength_18 : decode cX5_isLength 18 = .ok (.iconst 0, 1) := by decide +kernel
theorem dX5_isLength_19 : decode cX5_isLength 19 = .ok (.ireturn, 1) := by decide +kernel
theorem dX5_hasBits_0 : decode cX5_hasBits 0 = .ok (.lload_n 0, 1) := by decide +kernel
theorem dX5_hasBits_1 : decode cX5_hasBits 1 = .ok (.lconst 0, 1) := by decide +kernel
theorem dX5_hasBits_2 : decode cX5_hasBits 2 = .ok (.lcmp, 1) := by decide +kernel
theorem dX5_hasBits_3 : decode cX5_hasBits 3 = .ok (.ifCond .lt 15, 3) := by decide +kernel
theorem dX5_hasBits_6 : decode cX5_hasBits 6 = .ok (.lload_n 0, 1) := by decide +kernel
theorem dX5_hasBits_7 : decode cX5_hasBits 7 = .ok (.lconst 1, 1) := by decide +kernel
theorem dX5_hasBits_8 : decode cX5_hasBits 8 = .ok (.iload_n 2, 1) := by decide +kernel
theorem dX5_hasBits_9 : decode cX5_hasBits 9 = .ok (.lshl, 1) := by decide +kernel
theorem dX5_hasBits_10 : decode cX5_hasBits 10 = .ok (.lcmp, 1) := by decide +kernel
theorem dX5_hasBits_11 : decode cX5_hasBits 11 = .ok (.ifCond .ge 7, 3) := by decide +kernel
theorem dX5_hasBits_14 : decode cX5_hasBits 14 = .ok (.iconst 1, 1) := by decide +kernel
theorem dX5_hasBits_15 : decode cX5_hasBits 15 = .ok (.goto 4, 3) := by decide +kernel
theorem dX5_hasBits_18 : decode cX5_hasBits 18 = .ok (.iconst 0, 1) := by decide +kernel
theorem dX5_hasBits_19 : decode cX5_hasBits 19 = .ok (.ireturn, 1) := by decide +kernel
theorem dX5_isAdding_0 : decode cX5_isAdding 0 = .ok (.iload_n 0, 1) := by decide +kernel
theorem dX5_isAdding_1 : decode cX5_isAdding 1 = .ok (.ifCond .eq 8, 3) := by decide +kernel
theorem dX5_isAdding_4 : decode cX5_isAdding 4 = .ok (.iload_n 0, 1) := by decide +kernel
theorem dX5_isAdding_5 : decode cX5_isAdding 5 = .ok (.iconst 1, 1) := by decide +kernel
theorem dX5_isAdding_6 : decode cX5_isAdding 6 = .ok (.if_icmp .ne 7, 3) := by decide +kernel
theorem dX5_isAdding_9 : decode cX5_isAdding 9 = .ok (.iconst 1, 1) := by decide +kernel
theorem dX5_isAdding_10 : decode cX5_isAdding 10 = .ok (.goto 4, 3) := by decide +kernel
theorem dX5_isAdding_13 : decode cX5_isAdding 13 = .ok (.iconst 0, 1) := by decide +kernel
theorem dX5_isAdding_14 : decode cX5_isAdding 14 = .ok (.ireturn, 1) := by decide +kernel
theorem dX5_isAddingSum_0 : decode cX5_isAddingSum 0 = .ok (.getstatic 128, 3) := by decide +kernel
theorem dX5_isAddingSum_3 : decode cX5_isAddingSum 3 = .ok (.iload_n 0, 1) := by decide +kernel
theorem dX5_isAddingSum_4 : decode cX5_isAddingSum 4 = .ok (.iaload, 1) := by decide +kernel
theorem dX5_isAddingSum_5 : decode cX5_isAddingSum 5 = .ok (.istore_n 3, 1) := by decide +kernel
theorem dX5_isAddingSum_6 : decode cX5_isAddingSum 6 = .ok (.lload_n 1, 1) := by decide +kernel
theorem dX5_isAddingSum_7 : decode cX5_isAddingSum 7 = .ok (.lconst 0, 1) := by decide +kernel
theorem dX5_isAddingSum_8 : decode cX5_isAddingSum 8 = .ok (.lcmp, 1) := by decide +kernel
theorem dX5_isAddingSum_9 : decode cX5_isAddingSum 9 = .ok (.ifCond .lt 29, 3) := by decide +kernel
theorem dX5_isAddingSum_12 : decode cX5_isAddingSum 12 = .ok (.iload_n 0, 1) := by decide +kernel
theorem dX5_isAddingSum_13 : decode cX5_isAddingSum 13 = .ok (.lload_n 1, 1) := by decide +kernel
theorem dX5_isAddingSum_14 : decode cX5_isAddingSum 14 = .ok (.invokestatic 141, 3) := by decide +kernel
theorem dX5_isAddingSum_17 : decode cX5_isAddingSum 17 = .ok (.iload_n 3, 1) := by decide +kernel
theorem dX5_isAddingSum_18 : decode cX5_isAddingSum 18 = .ok (.i2l, 1) := by decide +kernel
theorem dX5_isAddingSum_19 : decode cX5_isAddingSum 19 = .ok (.lcmp, 1) := by decide +kernel
theorem dX5_isAddingSum_20 : decode cX5_isAddingSum 20 = .ok (.ifCond .ge 18, 3) := by decide +kernel
theorem dX5_isAddingSum_23 : decode cX5_isAddingSum 23 = .ok (.iload_n 0, 1) := by decide +kernel
theorem dX5_isAddingSum_24 : decode cX5_isAddingSum 24 = .ok (.lload_n 1, 1) := by decide +kernel
theorem dX5_isAddingSum_25 : decode cX5_isAddingSum 25 = .ok (.invokestatic 145, 3) := by decide +kernel
theorem dX5_isAddingSum_28 : decode cX5_isAddingSum 28 = .ok (.iload_n 3, 1) := by decide +kernel
theorem dX5_isAddingSum_29 : decode cX5_isAddingSum 29 = .ok (.i2l, 1) := by decide +kernel
theorem dX5_isAddingSum_30 : decode cX5_isAddingSum 30 = .ok (.lcmp, 1) := by decide +kernel
theorem dX5_isAddingSum_31 : decode cX5_isAddingSum 31 = .ok (.ifCond .ge 7, 3) := by decide +kernel
theorem dX5_isAddingSum_34 : decode cX5_isAddingSum 34 = .ok (.iconst 1, 1) := by decide +kernel
theorem dX5_isAddingSum_35 : decode cX5_isAddingSum 35 = .ok (.goto 4, 3) := by decide +kernel
theorem dX5_isAddingSum_38 : decode cX5_isAddingSum 38 = .ok (.iconst 0, 1) := by decide +kernel
theorem dX5_isAddingSum_39 : decode cX5_isAddingSum 39 = .ok (.ireturn, 1) := by decide +kernel
theorem dX5_lowHalf_0 : decode cX5_lowHalf 0 = .ok (.lload_n 1, 1) := by decide +kernel
theorem dX5_lowHalf_1 : decode cX5_lowHalf 1 = .ok (.lconst 1, 1) := by decide +kernel
theorem dX5_lowHalf_2 : decode cX5_lowHalf 2 = .ok (.getstatic 150, 3) := by decide +kernel
theorem dX5_lowHalf_5 : decode cX5_lowHalf 5 = .ok (.iload_n 0, 1) := by decide +kernel
theorem dX5_lowHalf_6 : decode cX5_lowHalf 6 = .ok (.iaload, 1) := by decide +kernel
theorem dX5_lowHalf_7 : decode cX5_lowHalf 7 = .ok (.lshl, 1) := by decide +kernel
theorem dX5_lowHalf_8 : decode cX5_lowHalf 8 = .ok (.lconst 1, 1) := by decide +kernel
theorem dX5_lowHalf_9 : decode cX5_lowHalf 9 = .ok (.lsub, 1) := by decide +kernel
theorem dX5_lowHalf_10 : decode cX5_lowHalf 10 = .ok (.land, 1) := by decide +kernel
theorem dX5_lowHalf_11 : decode cX5_lowHalf 11 = .ok (.lreturn, 1) := by decide +kernel
theorem dX5_highHalf_0 : decode cX5_highHalf 0 = .ok (.lload_n 1, 1) := by decide +kernel
theorem dX5_highHalf_1 : decode cX5_highHalf 1 = .ok (.getstatic 150, 3) := by decide +kernel
theorem dX5_highHalf_4 : decode cX5_highHalf 4 = .ok (.iload_n 0, 1) := by decide +kernel
theorem dX5_highHalf_5 : decode cX5_highHalf 5 = .ok (.iaload, 1) := by decide +kernel
theorem dX5_highHalf_6 : decode cX5_highHalf 6 = .ok (.lushr, 1) := by decide +kernel
theorem dX5_highHalf_7 : decode cX5_highHalf 7 = .ok (.lreturn, 1) := by decide +kernel
theorem dX5_halves_0 : decode cX5_halves 0 = .ok (.lload_n 3, 1) := by decide +kernel
theorem dX5_halves_1 : decode cX5_halves 1 = .ok (.getstatic 150, 3) := by decide +kernel
theorem dX5_halves_4 : decode cX5_halves 4 = .ok (.iload_n 0, 1) := by decide +kernel
theorem dX5_halves_5 : decode cX5_halves 5 = .ok (.iaload, 1) := by decide +kernel
theorem dX5_halves_6 : decode cX5_halves 6 = .ok (.lshl, 1) := by decide +kernel
theorem dX5_halves_7 : decode cX5_halves 7 = .ok (.lload_n 1, 1) := by decide +kernel
theorem dX5_halves_8 : decode cX5_halves 8 = .ok (.ladd, 1) := by decide +kernel
theorem dX5_halves_9 : decode cX5_halves 9 = .ok (.lreturn, 1) := by decide +kernel
