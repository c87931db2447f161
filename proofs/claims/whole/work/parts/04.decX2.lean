theorem dX2_degree_0 : decode cX2_degree 0 = .ok (.lload_n 0, 1) := by decide +kernel
theorem dX2_degree_1 : decode cX2_degree 1 = .ok (.lconst 0, 1) := by decide +kernel
theorem dX2_degree_2 : decode cX2_degree 2 = .ok (.lcmp, 1) := by decide +kernel
theorem dX2_degree_3 : decode cX2_degree 3 = .ok (.ifCond .ne 5, 3) := by decide +kernel
theorem dX2_degree_6 : decode cX2_degree 6 = .ok (.iconst (-1), 1) := by decide +kernel
theorem dX2_degree_7 : decode cX2_degree 7 = .ok (.ireturn, 1) := by decide +kernel
theorem dX2_degree_8 : decode cX2_degree 8 = .ok (.iconst 0, 1) := by decide +kernel
theorem dX2_degree_9 : decode cX2_degree 9 = .ok (.istore_n 2, 1) := by decide +kernel
theorem dX2_degree_10 : decode cX2_degree 10 = .ok (.bipush 32, 2) := by decide +kernel
theorem dX2_degree_12 : decode cX2_degree 12 = .ok (.istore_n 3, 1) := by decide +kernel
theorem dX2_degree_13 : decode cX2_degree 13 = .ok (.iload_n 3, 1) := by decide +kernel
theorem dX2_degree_14 : decode cX2_degree 14 = .ok (.ifCond .le 24, 3) := by decide +kernel
theorem dX2_degree_17 : decode cX2_degree 17 = .ok (.lload_n 0, 1) := by decide +kernel
theorem dX2_degree_18 : decode cX2_degree 18 = .ok (.iload_n 2, 1) := by decide +kernel
theorem dX2_degree_19 : decode cX2_degree 19 = .ok (.iload_n 3, 1) := by decide +kernel
theorem dX2_degree_20 : decode cX2_degree 20 = .ok (.iadd, 1) := by decide +kernel
theorem dX2_degree_21 : decode cX2_degree 21 = .ok (.lushr, 1) := by decide +kernel
theorem dX2_degree_22 : decode cX2_degree 22 = .ok (.lconst 0, 1) := by decide +kernel
theorem dX2_degree_23 : decode cX2_degree 23 = .ok (.lcmp, 1) := by decide +kernel
theorem dX2_degree_24 : decode cX2_degree 24 = .ok (.ifCond .eq 7, 3) := by decide +kernel
theorem dX2_degree_27 : decode cX2_degree 27 = .ok (.iload_n 2, 1) := by decide +kernel
theorem dX2_degree_28 : decode cX2_degree 28 = .ok (.iload_n 3, 1) := by decide +kernel
theorem dX2_degree_29 : decode cX2_degree 29 = .ok (.iadd, 1) := by decide +kernel
theorem dX2_degree_30 : decode cX2_degree 30 = .ok (.istore_n 2, 1) := by decide +kernel
theorem dX2_degree_31 : decode cX2_degree 31 = .ok (.iload_n 3, 1) := by decide +kernel
theorem dX2_degree_32 : decode cX2_degree 32 = .ok (.iconst 1, 1) := by decide +kernel
theorem dX2_degree_33 : decode cX2_degree 33 = .ok (.ishr, 1) := by decide +kernel
theorem dX2_degree_34 : decode cX2_degree 34 = .ok (.istore_n 3, 1) := by decide +kernel
theorem dX2_degree_35 : decode cX2_degree 35 = .ok (.goto (-22), 3) := by decide +kernel
theorem dX2_degree_38 : decode cX2_degree 38 = .ok (.iload_n 2, 1) := by decide +kernel
theorem dX2_degree_39 : decode cX2_degree 39 = .ok (.ireturn, 1) := by decide +kernel
theorem dX2_remainder_0 : decode cX2_remainder 0 = .ok (.lload_n 2, 1) := by decide +kernel
theorem dX2_remainder_1 : decode cX2_remainder 1 = .ok (.invokestatic 7, 3) := by decide +kernel
theorem dX2_remainder_4 : decode cX2_remainder 4 = .ok (.istore 4, 2) := by decide +kernel
theorem dX2_remainder_6 : decode cX2_remainder 6 = .ok (.iload 4, 2) := by decide +kernel
theorem dX2_remainder_8 : decode cX2_remainder 8 = .ok (.ifCond .ge 5, 3) := by decide +kernel
theorem dX2_remainder_11 : decode cX2_remainder 11 = .ok (.lload_n 0, 1) := by decide +kernel
theorem dX2_remainder_12 : decode cX2_remainder 12 = .ok (.lreturn, 1) := by decide +kernel
theorem dX2_remainder_13 : decode cX2_remainder 13 = .ok (.lload_n 0, 1) := by decide +kernel
theorem dX2_remainder_14 : decode cX2_remainder 14 = .ok (.lstore 5, 2) := by decide +kernel
theorem dX2_remainder_16 : decode cX2_remainder 16 = .ok (.lload_n 0, 1) := by decide +kernel
theorem dX2_remainder_17 : decode cX2_remainder 17 = .ok (.invokestatic 7, 3) := by decide +kernel
theorem dX2_remainder_20 : decode cX2_remainder 20 = .ok (.istore 7, 2) := by decide +kernel
theorem dX2_remainder_22 : decode cX2_remainder 22 = .ok (.iload 7, 2) := by decide +kernel
theorem dX2_remainder_24 : decode cX2_remainder 24 = .ok (.iload 4, 2) := by decide +kernel
theorem dX2_remainder_26 : decode cX2_remainder 26 = .ok (.if_icmp .lt 33, 3) := by decide +kernel
theorem dX2_remainder_29 : decode cX2_remainder 29 = .ok (.lload 5, 2) := by decide +kernel
theorem dX2_remainder_31 : decode cX2_remainder 31 = .ok (.iload 7, 2) := by decide +kernel
theorem dX2_remainder_33 : decode cX2_remainder 33 = .ok (.lushr, 1) := by decide +kernel
theorem dX2_remainder_34 : decode cX2_remainder 34 = .ok (.lconst 1, 1) := by decide +kernel
theorem dX2_remainder_35 : decode cX2_remainder 35 = .ok (.land, 1) := by decide +kernel
theorem dX2_remainder_36 : decode cX2_remainder 36 = .ok (.lconst 0, 1) := by decide +kernel
theorem dX2_remainder_37 : decode cX2_remainder 37 = .ok (.lcmp, 1) := by decide +kernel
theorem dX2_remainder_38 : decode cX2_remainder 38 = .ok (.ifCond .eq 15, 3) := by decide +kernel
theorem dX2_remainder_41 : decode cX2_remainder 41 = .ok (.lload 5, 2) := by decide +kernel
theorem dX2_remainder_43 : decode cX2_remainder 43 = .ok (.lload_n 2, 1) := by decide +kernel
theorem dX2_remainder_44 : decode cX2_remainder 44 = .ok (.iload 7, 2) := by decide +kernel
theorem dX2_remainder_46 : decode cX2_remainder 46 = .ok (.iload 4, 2) := by decide +kernel
theorem dX2_remainder_48 : decode cX2_remainder 48 = .ok (.isub, 1) := by decide +kernel
theorem dX2_remainder_49 : decode cX2_remainder 49 = .ok (.lshl, 1) := by decide +kernel
theorem dX2_remainder_50 : decode cX2_remainder 50 = .ok (.lxor, 1) := by decide +kernel
theorem dX2_remainder_51 : decode cX2_remainder 51 = .ok (.lstore 5, 2) := by decide +kernel
theorem dX2_remainder_53 : decode cX2_remainder 53 = .ok (.iinc 7 (-1), 3) := by decide +kernel
theorem dX2_remainder_56 : decode cX2_remainder 56 = .ok (.goto (-34), 3) := by decide +kernel
theorem dX2_remainder_59 : decode cX2_remainder 59 = .ok (.lload 5, 2) := by decide +kernel
theorem dX2_remainder_61 : decode cX2_remainder 61 = .ok (.lreturn, 1) := by decide +kernel
theorem dX2_quotient_0 : decode cX2_quotient 0 = .ok (.lload_n 2, 1) := by decide +kernel
theorem dX2_quotient_1 : decode cX2_quotient 1 = .ok (.invokestatic 7, 3) := by decide +kernel
theorem dX2_quotient_4 : decode cX2_quotient 4 = .ok (.istore 4, 2) := by decide +kernel
theorem dX2_quotient_6 : decode cX2_quotient 6 = .ok (.iload 4, 2) := by decide +kernel
theorem dX2_quotient_8 : decode cX2_quotient 8 = .ok (.ifCond .ge 5, 3) := by decide +kernel
theorem dX2_quotient_11 : decode cX2_quotient 11 = .ok (.lconst 0, 1) := by decide +kernel
theorem dX2_quotient_12 : decode cX2_quotient 12 = .ok (.lreturn, 1) := by decide +kernel
theorem dX2_quotient_13 : decode cX2_quotient 13 = .ok (.lload_n 0, 1) := by decide +kernel
theorem dX2_quotient_14 : decode cX2_quotient 14 = .ok (.lstore 5, 2) := by decide +kernel
theorem dX2_quotient_16 : decode cX2_quotient 16 = .ok (.lconst 0, 1) := by decide +kernel
theorem dX2_quotient_17 : decode cX2_quotient 17 = .ok (.lstore 7, 2) := by decide +kernel
theorem dX2_quotient_19 : decode cX2_quotient 19 = .ok (.lload_n 0, 1) := by decide +kernel
theorem dX2_quotient_20 : decode cX2_quotient 20 = .ok (.invokestatic 7, 3) := by decide +kernel
theorem dX2_quotient_23 : decode cX2_quotient 23 = .ok (.istore 9, 2) := by decide +kernel
theorem dX2_quotient_25 : decode cX2_quotient 25 = .ok (.iload 9, 2) := by decide +kernel
theorem dX2_quotient_27 : decode cX2_quotient 27 = .ok (.iload 4, 2) := by decide +kernel
theorem dX2_quotient_29 : decode cX2_quotient 29 = .ok (.if_icmp .lt 45, 3) := by decide +kernel
theorem dX2_quotient_32 : decode cX2_quotient 32 = .ok (.lload 5, 2) := by decide +kernel
theorem dX2_quotient_34 : decode cX2_quotient 34 = .ok (.iload 9, 2) := by decide +kernel
theorem dX2_quotient_36 : decode cX2_quotient 36 = .ok (.lushr, 1) := by decide +kernel
theorem dX2_quotient_37 : decode cX2_quotient 37 = .ok (.lconst 1, 1) := by decide +kernel
theorem dX2_quotient_38 : decode cX2_quotient 38 = .ok (.land, 1) := by decide +kernel
theorem dX2_quotient_39 : decode cX2_quotient 39 = .ok (.lconst 0, 1) := by decide +kernel
theorem dX2_quotient_40 : decode cX2_quotient 40 = .ok (.lcmp, 1) := by decide +kernel
theorem dX2_quotient_41 : decode cX2_quotient 41 = .ok (.ifCond .eq 27, 3) := by decide +kernel
theorem dX2_quotient_44 : decode cX2_quotient 44 = .ok (.lload 5, 2) := by decide +kernel
theorem dX2_quotient_46 : decode cX2_quotient 46 = .ok (.lload_n 2, 1) := by decide +kernel
theorem dX2_quotient_47 : decode cX2_quotient 47 = .ok (.iload 9, 2) := by decide +kernel
theorem dX2_quotient_49 : decode cX2_quotient 49 = .ok (.iload 4, 2) := by decide +kernel
theorem dX2_quotient_51 : decode cX2_quotient 51 = .ok (.isub, 1) := by decide +kernel
theorem dX2_quotient_52 : decode cX2_quotient 52 = .ok (.lshl, 1) := by decide +kernel
theorem dX2_quotient_53 : decode cX2_quotient 53 = .ok (.lxor, 1) := by decide +kernel
theorem dX2_quotient_54 : decode cX2_quotient 54 = .ok (.lstore 5, 2) := by decide +kernel
theorem dX2_quotient_56 : decode cX2_quotient 56 = .ok (.lload 7, 2) := by decide +kernel
theorem dX2_quotient_58 : decode cX2_quotient 58 = .ok (.lconst 1, 1) := by decide +kernel
theorem dX2_quotient_59 : decode cX2_quotient 59 = .ok (.iload 9, 2) := by decide +kernel
theorem dX2_quotient_61 : decode cX2_quotient 61 = .ok (.iload 4, 2) := by decide +kernel
theorem dX2_quotient_63 : decode cX2_quotient 63 = .ok (.isub, 1) := by decide +kernel
theorem dX2_quotient_64 : decode cX2_quotient 64 = .ok (.lshl, 1) := by decide +kernel
theorem dX2_quotient_65 : decode cX2_quotient 65 = .ok (.lor, 1) := by decide +kernel
theorem dX2_quotient_66 : decode cX2_quotient 66 = .ok (.lstore 7, 2) := by decide +kernel
theorem dX2_quotient_68 : decode cX2_quotient 68 = .ok (.iinc 9 (-1), 3) := by decide +kernel
theorem dX2_quotient_71 : decode cX2_quotient 71 = .ok (.goto (-46), 3) := by decide +kernel
theorem dX2_quotient_74 : decode cX2_quotient 74 = .ok (.lload 7, 2) := by decide +kernel
theorem dX2_quotient_76 : decode cX2_quotient 76 = .ok (.lreturn, 1) := by decide +kernel
theorem dX2_greatestCommon_0 : decode cX2_greatestCommon 0 = .ok (.lload_n 0, 1) := by decide +kernel
theorem dX2_greatestCommon_1 : decode cX2_greatestCommon 1 = .ok (.lstore 4, 2) := by decide +kernel
theorem dX2_greatestCommon_3 : decode cX2_greatestCommon 3 = .ok (.lload_n 2, 1) := by decide +kernel
theorem dX2_greatestCommon_4 : decode cX2_greatestCommon 4 = .ok (.lstore 6, 2) := by decide +kernel
theorem dX2_greatestCommon_6 : decode cX2_greatestCommon 6 = .ok (.iconst 0, 1) := by decide +kernel
theorem dX2_greatestCommon_7 : decode cX2_greatestCommon 7 = .ok (.istore 8, 2) := by decide +kernel
theorem dX2_greatestCommon_9 : decode cX2_greatestCommon 9 = .ok (.iload 8, 2) := by decide +kernel
theorem dX2_greatestCommon_11 : decode cX2_greatestCommon 11 = .ok (.bipush 64, 2) := by decide +kernel
theorem dX2_greatestCommon_13 : decode cX2_greatestCommon 13 = .ok (.if_icmp .ge 33, 3) := by decide +kernel
theorem dX2_greatestCommon_16 : decode cX2_greatestCommon 16 = .ok (.lload 6, 2) := by decide +kernel
theorem dX2_greatestCommon_18 : decode cX2_greatestCommon 18 = .ok (.lconst 0, 1) := by decide +kernel
theorem dX2_greatestCommon_19 : decode cX2_greatestCommon 19 = .ok (.lcmp, 1) := by decide +kernel
theorem dX2_greatestCommon_20 : decode cX2_greatestCommon 20 = .ok (.ifCond .eq 26, 3) := by decide +kernel
theorem dX2_greatestCommon_23 : decode cX2_greatestCommon 23 = .ok (.lload 4, 2) := by decide +kernel
theorem dX2_greatestCommon_25 : decode cX2_greatestCommon 25 = .ok (.lload 6, 2) := by decide +kernel
theorem dX2_greatestCommon_27 : decode cX2_greatestCommon 27 = .ok (.invokestatic 13, 3) := by decide +kernel
theorem dX2_greatestCommon_30 : decode cX2_greatestCommon 30 = .ok (.lstore 9, 2) := by decide +kernel
theorem dX2_greatestCommon_32 : decode cX2_greatestCommon 32 = .ok (.lload 6, 2) := by decide +kernel
theorem dX2_greatestCommon_34 : decode cX2_greatestCommon 34 = .ok (.lstore 4, 2) := by decide +kernel
theorem dX2_greatestCommon_36 : decode cX2_greatestCommon 36 = .ok (.lload 9, 2) := by decide +kernel
theorem dX2_greatestCommon_38 : decode cX2_greatestCommon 38 = .ok (.lstore 6, 2) := by decide +kernel
theorem dX2_greatestCommon_40 : decode cX2_greatestCommon 40 = .ok (.iinc 8 1, 3) := by decide +kernel
theorem dX2_greatestCommon_43 : decode cX2_greatestCommon 43 = .ok (.goto (-34), 3) := by decide +kernel
theorem dX2_greatestCommon_46 : decode cX2_greatestCommon 46 = .ok (.lload 4, 2) := by decide +kernel
theorem dX2_greatestCommon_48 : decode cX2_greatestCommon 48 = .ok (.lreturn, 1) := by decide +kernel
theorem dX2_timesX_0 : decode cX2_timesX 0 = .ok (.lload_n 0, 1) := by decide +kernel
theorem dX2_timesX_1 : decode cX2_timesX 1 = .ok (.iconst 1, 1) := by decide +kernel
theorem dX2_timesX_2 : decode cX2_timesX 2 = .ok (.lshl, 1) := by decide +kernel
theorem dX2_timesX_3 : decode cX2_timesX 3 = .ok (.lstore 5, 2) := by decide +kernel
theorem dX2_timesX_5 : decode cX2_timesX 5 = .ok (.lload 5, 2) := by decide +kernel
theorem dX2_timesX_7 : decode cX2_timesX 7 = .ok (.iload 4, 2) := by decide +kernel
theorem dX2_timesX_9 : decode cX2_timesX 9 = .ok (.lushr, 1) := by decide +kernel
theorem dX2_timesX_10 : decode cX2_timesX 10 = .ok (.lconst 1, 1) := by decide +kernel
theorem dX2_timesX_11 : decode cX2_timesX 11 = .ok (.land, 1) := by decide +kernel
theorem dX2_timesX_12 : decode cX2_timesX 12 = .ok (.lconst 0, 1) := by decide +kernel
theorem dX2_timesX_13 : decode cX2_timesX 13 = .ok (.lcmp, 1) := by decide +kernel
theorem dX2_timesX_14 : decode cX2_timesX 14 = .ok (.ifCond .eq 10, 3) := by decide +kernel
theorem dX2_timesX_17 : decode cX2_timesX 17 = .ok (.lload 5, 2) := by decide +kernel
theorem dX2_timesX_19 : decode cX2_timesX 19 = .ok (.lload_n 2, 1) := by decide +kernel
theorem dX2_timesX_20 : decode cX2_timesX 20 = .ok (.lxor, 1) := by decide +kernel
theorem dX2_timesX_21 : decode cX2_timesX 21 = .ok (.goto 5, 3) := by decide +kernel
theorem dX2_timesX_24 : decode cX2_timesX 24 = .ok (.lload 5, 2) := by decide +kernel
theorem dX2_timesX_26 : decode cX2_timesX 26 = .ok (.lreturn, 1) := by decide +kernel
theorem dX2_product_0 : decode cX2_product 0 = .ok (.lload 4, 2) := by decide +kernel
theorem dX2_product_2 : decode cX2_product 2 = .ok (.invokestatic 7, 3) := by decide +kernel
theorem dX2_product_5 : decode cX2_product 5 = .ok (.istore 6, 2) := by decide +kernel
theorem dX2_product_7 : decode cX2_product 7 = .ok (.lconst 0, 1) := by decide +kernel
theorem dX2_product_8 : decode cX2_product 8 = .ok (.lstore 7, 2) := by decide +kernel
theorem dX2_product_10 : decode cX2_product 10 = .ok (.iload 6, 2) := by decide +kernel
theorem dX2_product_12 : decode cX2_product 12 = .ok (.iconst 1, 1) := by decide +kernel
theorem dX2_product_13 : decode cX2_product 13 = .ok (.isub, 1) := by decide +kernel
theorem dX2_product_14 : decode cX2_product 14 = .ok (.istore 9, 2) := by decide +kernel
theorem dX2_product_16 : decode cX2_product 16 = .ok (.iload 9, 2) := by decide +kernel
theorem dX2_product_18 : decode cX2_product 18 = .ok (.ifCond .lt 37, 3) := by decide +kernel
theorem dX2_product_21 : decode cX2_product 21 = .ok (.lload 7, 2) := by decide +kernel
theorem dX2_product_23 : decode cX2_product 23 = .ok (.lload 4, 2) := by decide +kernel
theorem dX2_product_25 : decode cX2_product 25 = .ok (.iload 6, 2) := by decide +kernel
theorem dX2_product_27 : decode cX2_product 27 = .ok (.invokestatic 17, 3) := by decide +kernel
theorem dX2_product_30 : decode cX2_product 30 = .ok (.lstore 7, 2) := by decide +kernel
theorem dX2_product_32 : decode cX2_product 32 = .ok (.lload_n 2, 1) := by decide +kernel
theorem dX2_product_33 : decode cX2_product 33 = .ok (.iload 9, 2) := by decide +kernel
theorem dX2_product_35 : decode cX2_product 35 = .ok (.lushr, 1) := by decide +kernel
theorem dX2_product_36 : decode cX2_product 36 = .ok (.lconst 1, 1) := by decide +kernel
theorem dX2_product_37 : decode cX2_product 37 = .ok (.land, 1) := by decide +kernel
theorem dX2_product_38 : decode cX2_product 38 = .ok (.lconst 0, 1) := by decide +kernel
theorem dX2_product_39 : decode cX2_product 39 = .ok (.lcmp, 1) := by decide +kernel
theorem dX2_product_40 : decode cX2_product 40 = .ok (.ifCond .eq 9, 3) := by decide +kernel
theorem dX2_product_43 : decode cX2_product 43 = .ok (.lload 7, 2) := by decide +kernel
theorem dX2_product_45 : decode cX2_product 45 = .ok (.lload_n 0, 1) := by decide +kernel
theorem dX2_product_46 : decode cX2_product 46 = .ok (.lxor, 1) := by decide +kernel
theorem dX2_product_47 : decode cX2_product 47 = .ok (.lstore 7, 2) := by decide +kernel
theorem dX2_product_49 : decode cX2_product 49 = .ok (.iinc 9 (-1), 3) := by decide +kernel
theorem dX2_product_52 : decode cX2_product 52 = .ok (.goto (-36), 3) := by decide +kernel
theorem dX2_product_55 : decode cX2_product 55 = .ok (.lload 7, 2) := by decide +kernel
theorem dX2_product_57 : decode cX2_product 57 = .ok (.lreturn, 1) := by decide +kernel
theorem dX2_powerOfX_0 : decode cX2_powerOfX 0 = .ok (.lload_n 2, 1) := by decide +kernel
theorem dX2_powerOfX_1 : decode cX2_powerOfX 1 = .ok (.invokestatic 7, 3) := by decide +kernel
theorem dX2_powerOfX_4 : decode cX2_powerOfX 4 = .ok (.istore 4, 2) := by decide +kernel
theorem dX2_powerOfX_6 : decode cX2_powerOfX 6 = .ok (.lconst 1, 1) := by decide +kernel
theorem dX2_powerOfX_7 : decode cX2_powerOfX 7 = .ok (.lstore 5, 2) := by decide +kernel
theorem dX2_powerOfX_9 : decode cX2_powerOfX 9 = .ok (.lload_n 0, 1) := by decide +kernel
theorem dX2_powerOfX_10 : decode cX2_powerOfX 10 = .ok (.invokestatic 7, 3) := by decide +kernel
theorem dX2_powerOfX_13 : decode cX2_powerOfX 13 = .ok (.istore 7, 2) := by decide +kernel
theorem dX2_powerOfX_15 : decode cX2_powerOfX 15 = .ok (.iload 7, 2) := by decide +kernel
theorem dX2_powerOfX_17 : decode cX2_powerOfX 17 = .ok (.ifCond .lt 40, 3) := by decide +kernel
theorem dX2_powerOfX_20 : decode cX2_powerOfX 20 = .ok (.lload 5, 2) := by decide +kernel
theorem dX2_powerOfX_22 : decode cX2_powerOfX 22 = .ok (.lload 5, 2) := by decide +kernel
theorem dX2_powerOfX_24 : decode cX2_powerOfX 24 = .ok (.lload_n 2, 1) := by decide +kernel
theorem dX2_powerOfX_25 : decode cX2_powerOfX 25 = .ok (.invokestatic 21, 3) := by decide +kernel
theorem dX2_powerOfX_28 : decode cX2_powerOfX 28 = .ok (.lstore 5, 2) := by decide +kernel
theorem dX2_powerOfX_30 : decode cX2_powerOfX 30 = .ok (.lload_n 0, 1) := by decide +kernel
theorem dX2_powerOfX_31 : decode cX2_powerOfX 31 = .ok (.iload 7, 2) := by decide +kernel
theorem dX2_powerOfX_33 : decode cX2_powerOfX 33 = .ok (.lushr, 1) := by decide +kernel
theorem dX2_powerOfX_34 : decode cX2_powerOfX 34 = .ok (.lconst 1, 1) := by decide +kernel
theorem dX2_powerOfX_35 : decode cX2_powerOfX 35 = .ok (.land, 1) := by decide +kernel
theorem dX2_powerOfX_36 : decode cX2_powerOfX 36 = .ok (.lconst 0, 1) := by decide +kernel
theorem dX2_powerOfX_37 : decode cX2_powerOfX 37 = .ok (.lcmp, 1) := by decide +kernel
theorem dX2_powerOfX_38 : decode cX2_powerOfX 38 = .ok (.ifCond .eq 13, 3) := by decide +kernel
theorem dX2_powerOfX_41 : decode cX2_powerOfX 41 = .ok (.lload 5, 2) := by decide +kernel
theorem dX2_powerOfX_43 : decode cX2_powerOfX 43 = .ok (.lload_n 2, 1) := by decide +kernel
theorem dX2_powerOfX_44 : decode cX2_powerOfX 44 = .ok (.iload 4, 2) := by decide +kernel
theorem dX2_powerOfX_46 : decode cX2_powerOfX 46 = .ok (.invokestatic 17, 3) := by decide +kernel
theorem dX2_powerOfX_49 : decode cX2_powerOfX 49 = .ok (.lstore 5, 2) := by decide +kernel
theorem dX2_powerOfX_51 : decode cX2_powerOfX 51 = .ok (.iinc 7 (-1), 3) := by decide +kernel
theorem dX2_powerOfX_54 : decode cX2_powerOfX 54 = .ok (.goto (-39), 3) := by decide +kernel
theorem dX2_powerOfX_57 : decode cX2_powerOfX 57 = .ok (.lload 5, 2) := by decide +kernel
theorem dX2_powerOfX_59 : decode cX2_powerOfX 59 = .ok (.lreturn, 1) := by decide +kernel
theorem dX2_trace_0 : decode cX2_trace 0 = .ok (.lload_n 0, 1) := by decide +kernel
theorem dX2_trace_1 : decode cX2_trace 1 = .ok (.lstore 5, 2) := by decide +kernel
theorem dX2_trace_3 : decode cX2_trace 3 = .ok (.lload_n 0, 1) := by decide +kernel
theorem dX2_trace_4 : decode cX2_trace 4 = .ok (.lstore 7, 2) := by decide +kernel
theorem dX2_trace_6 : decode cX2_trace 6 = .ok (.iconst 1, 1) := by decide +kernel
theorem dX2_trace_7 : decode cX2_trace 7 = .ok (.istore 9, 2) := by decide +kernel
theorem dX2_trace_9 : decode cX2_trace 9 = .ok (.iload 9, 2) := by decide +kernel
theorem dX2_trace_11 : decode cX2_trace 11 = .ok (.iload_n 2, 1) := by decide +kernel
theorem dX2_trace_12 : decode cX2_trace 12 = .ok (.if_icmp .ge 26, 3) := by decide +kernel
theorem dX2_trace_15 : decode cX2_trace 15 = .ok (.lload 5, 2) := by decide +kernel
theorem dX2_trace_17 : decode cX2_trace 17 = .ok (.lload 5, 2) := by decide +kernel
theorem dX2_trace_19 : decode cX2_trace 19 = .ok (.lload_n 3, 1) := by decide +kernel
theorem dX2_trace_20 : decode cX2_trace 20 = .ok (.invokestatic 21, 3) := by decide +kernel
theorem dX2_trace_23 : decode cX2_trace 23 = .ok (.lstore 5, 2) := by decide +kernel
theorem dX2_trace_25 : decode cX2_trace 25 = .ok (.lload 7, 2) := by decide +kernel
theorem dX2_trace_27 : decode cX2_trace 27 = .ok (.lload 5, 2) := by decide +kernel
theorem dX2_trace_29 : decode cX2_trace 29 = .ok (.lxor, 1) := by decide +kernel
theorem dX2_trace_30 : decode cX2_trace 30 = .ok (.lstore 7, 2) := by decide +kernel
theorem dX2_trace_32 : decode cX2_trace 32 = .ok (.iinc 9 1, 3) := by decide +kernel
theorem dX2_trace_35 : decode cX2_trace 35 = .ok (.goto (-26), 3) := by decide +kernel
theorem dX2_trace_38 : decode cX2_trace 38 = .ok (.lload 7, 2) := by decide +kernel
theorem dX2_trace_40 : decode cX2_trace 40 = .ok (.lreturn, 1) := by decide +kernel
