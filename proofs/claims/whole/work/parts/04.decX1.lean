theorem dX1_init_0 : decode cX1_init 0 = .ok (.aload_n 0, 1) := by decide +kernel
theorem dX1_init_1 : decode cX1_init 1 = .ok (.invokespecial 3, 3) := by decide +kernel
theorem dX1_init_4 : decode cX1_init 4 = .ok (.aload_n 0, 1) := by decide +kernel
theorem dX1_init_5 : decode cX1_init 5 = .ok (.new 9, 3) := by decide +kernel
theorem dX1_init_8 : decode cX1_init 8 = .ok (.dup, 1) := by decide +kernel
theorem dX1_init_9 : decode cX1_init 9 = .ok (.invokespecial 11, 3) := by decide +kernel
theorem dX1_init_12 : decode cX1_init 12 = .ok (.putfield 12, 3) := by decide +kernel
theorem dX1_init_15 : decode cX1_init 15 = .ok (.aload_n 0, 1) := by decide +kernel
theorem dX1_init_16 : decode cX1_init 16 = .ok (.new 18, 3) := by decide +kernel
theorem dX1_init_19 : decode cX1_init 19 = .ok (.dup, 1) := by decide +kernel
theorem dX1_init_20 : decode cX1_init 20 = .ok (.invokespecial 20, 3) := by decide +kernel
theorem dX1_init_23 : decode cX1_init 23 = .ok (.putfield 21, 3) := by decide +kernel
theorem dX1_init_26 : decode cX1_init 26 = .ok (.return_, 1) := by decide +kernel
theorem dX1_become_0 : decode cX1_become 0 = .ok (.aload_n 0, 1) := by decide +kernel
theorem dX1_become_1 : decode cX1_become 1 = .ok (.iload_n 1, 1) := by decide +kernel
theorem dX1_become_2 : decode cX1_become 2 = .ok (.putfield 25, 3) := by decide +kernel
theorem dX1_become_5 : decode cX1_become 5 = .ok (.aload_n 0, 1) := by decide +kernel
theorem dX1_become_6 : decode cX1_become 6 = .ok (.lconst 1, 1) := by decide +kernel
theorem dX1_become_7 : decode cX1_become 7 = .ok (.iload_n 1, 1) := by decide +kernel
theorem dX1_become_8 : decode cX1_become 8 = .ok (.lshl, 1) := by decide +kernel
theorem dX1_become_9 : decode cX1_become 9 = .ok (.lload_n 2, 1) := by decide +kernel
theorem dX1_become_10 : decode cX1_become 10 = .ok (.lor, 1) := by decide +kernel
theorem dX1_become_11 : decode cX1_become 11 = .ok (.putfield 29, 3) := by decide +kernel
theorem dX1_become_14 : decode cX1_become 14 = .ok (.aload_n 0, 1) := by decide +kernel
theorem dX1_become_15 : decode cX1_become 15 = .ok (.lload 4, 2) := by decide +kernel
theorem dX1_become_17 : decode cX1_become 17 = .ok (.putfield 33, 3) := by decide +kernel
theorem dX1_become_20 : decode cX1_become 20 = .ok (.aload_n 0, 1) := by decide +kernel
theorem dX1_become_21 : decode cX1_become 21 = .ok (.lload 6, 2) := by decide +kernel
theorem dX1_become_23 : decode cX1_become 23 = .ok (.putfield 36, 3) := by decide +kernel
theorem dX1_become_26 : decode cX1_become 26 = .ok (.aload_n 0, 1) := by decide +kernel
theorem dX1_become_27 : decode cX1_become 27 = .ok (.iload 8, 2) := by decide +kernel
theorem dX1_become_29 : decode cX1_become 29 = .ok (.putfield 39, 3) := by decide +kernel
theorem dX1_become_32 : decode cX1_become 32 = .ok (.aload_n 0, 1) := by decide +kernel
theorem dX1_become_33 : decode cX1_become 33 = .ok (.iload 9, 2) := by decide +kernel
theorem dX1_become_35 : decode cX1_become 35 = .ok (.putfield 43, 3) := by decide +kernel
theorem dX1_become_38 : decode cX1_become 38 = .ok (.return_, 1) := by decide +kernel
theorem dX1_sumOf_0 : decode cX1_sumOf 0 = .ok (.aload_n 0, 1) := by decide +kernel
theorem dX1_sumOf_1 : decode cX1_sumOf 1 = .ok (.getfield 43, 3) := by decide +kernel
theorem dX1_sumOf_4 : decode cX1_sumOf 4 = .ok (.ifCond .eq 14, 3) := by decide +kernel
theorem dX1_sumOf_7 : decode cX1_sumOf 7 = .ok (.lload_n 1, 1) := by decide +kernel
theorem dX1_sumOf_8 : decode cX1_sumOf 8 = .ok (.aload_n 0, 1) := by decide +kernel
theorem dX1_sumOf_9 : decode cX1_sumOf 9 = .ok (.getfield 25, 3) := by decide +kernel
theorem dX1_sumOf_12 : decode cX1_sumOf 12 = .ok (.invokestatic 46, 3) := by decide +kernel
theorem dX1_sumOf_15 : decode cX1_sumOf 15 = .ok (.goto 4, 3) := by decide +kernel
theorem dX1_sumOf_18 : decode cX1_sumOf 18 = .ok (.lload_n 1, 1) := by decide +kernel
theorem dX1_sumOf_19 : decode cX1_sumOf 19 = .ok (.aload_n 0, 1) := by decide +kernel
theorem dX1_sumOf_20 : decode cX1_sumOf 20 = .ok (.getfield 36, 3) := by decide +kernel
theorem dX1_sumOf_23 : decode cX1_sumOf 23 = .ok (.lxor, 1) := by decide +kernel
theorem dX1_sumOf_24 : decode cX1_sumOf 24 = .ok (.lreturn, 1) := by decide +kernel
theorem dX1_registerOf_0 : decode cX1_registerOf 0 = .ok (.aload_n 0, 1) := by decide +kernel
theorem dX1_registerOf_1 : decode cX1_registerOf 1 = .ok (.getfield 43, 3) := by decide +kernel
theorem dX1_registerOf_4 : decode cX1_registerOf 4 = .ok (.ifCond .eq 19, 3) := by decide +kernel
theorem dX1_registerOf_7 : decode cX1_registerOf 7 = .ok (.lload_n 1, 1) := by decide +kernel
theorem dX1_registerOf_8 : decode cX1_registerOf 8 = .ok (.aload_n 0, 1) := by decide +kernel
theorem dX1_registerOf_9 : decode cX1_registerOf 9 = .ok (.getfield 36, 3) := by decide +kernel
theorem dX1_registerOf_12 : decode cX1_registerOf 12 = .ok (.lxor, 1) := by decide +kernel
theorem dX1_registerOf_13 : decode cX1_registerOf 13 = .ok (.aload_n 0, 1) := by decide +kernel
theorem dX1_registerOf_14 : decode cX1_registerOf 14 = .ok (.getfield 25, 3) := by decide +kernel
theorem dX1_registerOf_17 : decode cX1_registerOf 17 = .ok (.invokestatic 46, 3) := by decide +kernel
theorem dX1_registerOf_20 : decode cX1_registerOf 20 = .ok (.goto 9, 3) := by decide +kernel
theorem dX1_registerOf_23 : decode cX1_registerOf 23 = .ok (.lload_n 1, 1) := by decide +kernel
theorem dX1_registerOf_24 : decode cX1_registerOf 24 = .ok (.aload_n 0, 1) := by decide +kernel
theorem dX1_registerOf_25 : decode cX1_registerOf 25 = .ok (.getfield 36, 3) := by decide +kernel
theorem dX1_registerOf_28 : decode cX1_registerOf 28 = .ok (.lxor, 1) := by decide +kernel
theorem dX1_registerOf_29 : decode cX1_registerOf 29 = .ok (.lreturn, 1) := by decide +kernel
theorem dX1_behindOctet_0 : decode cX1_behindOctet 0 = .ok (.lload_n 1, 1) := by decide +kernel
theorem dX1_behindOctet_1 : decode cX1_behindOctet 1 = .ok (.lstore 4, 2) := by decide +kernel
theorem dX1_behindOctet_3 : decode cX1_behindOctet 3 = .ok (.iconst 0, 1) := by decide +kernel
theorem dX1_behindOctet_4 : decode cX1_behindOctet 4 = .ok (.istore 6, 2) := by decide +kernel
theorem dX1_behindOctet_6 : decode cX1_behindOctet 6 = .ok (.iload 6, 2) := by decide +kernel
theorem dX1_behindOctet_8 : decode cX1_behindOctet 8 = .ok (.bipush 8, 2) := by decide +kernel
theorem dX1_behindOctet_10 : decode cX1_behindOctet 10 = .ok (.if_icmp .ge 58, 3) := by decide +kernel
theorem dX1_behindOctet_13 : decode cX1_behindOctet 13 = .ok (.iload_n 3, 1) := by decide +kernel
theorem dX1_behindOctet_14 : decode cX1_behindOctet 14 = .ok (.aload_n 0, 1) := by decide +kernel
theorem dX1_behindOctet_15 : decode cX1_behindOctet 15 = .ok (.getfield 39, 3) := by decide +kernel
theorem dX1_behindOctet_18 : decode cX1_behindOctet 18 = .ok (.ifCond .eq 8, 3) := by decide +kernel
theorem dX1_behindOctet_21 : decode cX1_behindOctet 21 = .ok (.iload 6, 2) := by decide +kernel
theorem dX1_behindOctet_23 : decode cX1_behindOctet 23 = .ok (.goto 8, 3) := by decide +kernel
theorem dX1_behindOctet_26 : decode cX1_behindOctet 26 = .ok (.bipush 7, 2) := by decide +kernel
theorem dX1_behindOctet_28 : decode cX1_behindOctet 28 = .ok (.iload 6, 2) := by decide +kernel
theorem dX1_behindOctet_30 : decode cX1_behindOctet 30 = .ok (.isub, 1) := by decide +kernel
theorem dX1_behindOctet_31 : decode cX1_behindOctet 31 = .ok (.ishr, 1) := by decide +kernel
theorem dX1_behindOctet_32 : decode cX1_behindOctet 32 = .ok (.iconst 1, 1) := by decide +kernel
theorem dX1_behindOctet_33 : decode cX1_behindOctet 33 = .ok (.iand, 1) := by decide +kernel
theorem dX1_behindOctet_34 : decode cX1_behindOctet 34 = .ok (.i2l, 1) := by decide +kernel
theorem dX1_behindOctet_35 : decode cX1_behindOctet 35 = .ok (.lstore 7, 2) := by decide +kernel
theorem dX1_behindOctet_37 : decode cX1_behindOctet 37 = .ok (.lload 4, 2) := by decide +kernel
theorem dX1_behindOctet_39 : decode cX1_behindOctet 39 = .ok (.lload 7, 2) := by decide +kernel
theorem dX1_behindOctet_41 : decode cX1_behindOctet 41 = .ok (.aload_n 0, 1) := by decide +kernel
theorem dX1_behindOctet_42 : decode cX1_behindOctet 42 = .ok (.getfield 25, 3) := by decide +kernel
theorem dX1_behindOctet_45 : decode cX1_behindOctet 45 = .ok (.iconst 1, 1) := by decide +kernel
theorem dX1_behindOctet_46 : decode cX1_behindOctet 46 = .ok (.isub, 1) := by decide +kernel
theorem dX1_behindOctet_47 : decode cX1_behindOctet 47 = .ok (.lshl, 1) := by decide +kernel
theorem dX1_behindOctet_48 : decode cX1_behindOctet 48 = .ok (.lxor, 1) := by decide +kernel
theorem dX1_behindOctet_49 : decode cX1_behindOctet 49 = .ok (.aload_n 0, 1) := by decide +kernel
theorem dX1_behindOctet_50 : decode cX1_behindOctet 50 = .ok (.getfield 29, 3) := by decide +kernel
theorem dX1_behindOctet_53 : decode cX1_behindOctet 53 = .ok (.aload_n 0, 1) := by decide +kernel
theorem dX1_behindOctet_54 : decode cX1_behindOctet 54 = .ok (.getfield 25, 3) := by decide +kernel
theorem dX1_behindOctet_57 : decode cX1_behindOctet 57 = .ok (.invokestatic 50, 3) := by decide +kernel
theorem dX1_behindOctet_60 : decode cX1_behindOctet 60 = .ok (.lstore 4, 2) := by decide +kernel
theorem dX1_behindOctet_62 : decode cX1_behindOctet 62 = .ok (.iinc 6 1, 3) := by decide +kernel
theorem dX1_behindOctet_65 : decode cX1_behindOctet 65 = .ok (.goto (-59), 3) := by decide +kernel
theorem dX1_behindOctet_68 : decode cX1_behindOctet 68 = .ok (.lload 4, 2) := by decide +kernel
theorem dX1_behindOctet_70 : decode cX1_behindOctet 70 = .ok (.lreturn, 1) := by decide +kernel
theorem dX1_movedDown_0 : decode cX1_movedDown 0 = .ok (.lload_n 1, 1) := by decide +kernel
theorem dX1_movedDown_1 : decode cX1_movedDown 1 = .ok (.lconst 1, 1) := by decide +kernel
theorem dX1_movedDown_2 : decode cX1_movedDown 2 = .ok (.land, 1) := by decide +kernel
theorem dX1_movedDown_3 : decode cX1_movedDown 3 = .ok (.lconst 0, 1) := by decide +kernel
theorem dX1_movedDown_4 : decode cX1_movedDown 4 = .ok (.lcmp, 1) := by decide +kernel
theorem dX1_movedDown_5 : decode cX1_movedDown 5 = .ok (.ifCond .eq 12, 3) := by decide +kernel
theorem dX1_movedDown_8 : decode cX1_movedDown 8 = .ok (.lload_n 1, 1) := by decide +kernel
theorem dX1_movedDown_9 : decode cX1_movedDown 9 = .ok (.aload_n 0, 1) := by decide +kernel
theorem dX1_movedDown_10 : decode cX1_movedDown 10 = .ok (.getfield 29, 3) := by decide +kernel
theorem dX1_movedDown_13 : decode cX1_movedDown 13 = .ok (.lxor, 1) := by decide +kernel
theorem dX1_movedDown_14 : decode cX1_movedDown 14 = .ok (.goto 4, 3) := by decide +kernel
theorem dX1_movedDown_17 : decode cX1_movedDown 17 = .ok (.lload_n 1, 1) := by decide +kernel
theorem dX1_movedDown_18 : decode cX1_movedDown 18 = .ok (.iconst 1, 1) := by decide +kernel
theorem dX1_movedDown_19 : decode cX1_movedDown 19 = .ok (.lushr, 1) := by decide +kernel
theorem dX1_movedDown_20 : decode cX1_movedDown 20 = .ok (.lreturn, 1) := by decide +kernel
theorem dX1_movedByOctets_0 : decode cX1_movedByOctets 0 = .ok (.lconst 1, 1) := by decide +kernel
theorem dX1_movedByOctets_1 : decode cX1_movedByOctets 1 = .ok (.lstore 5, 2) := by decide +kernel
theorem dX1_movedByOctets_3 : decode cX1_movedByOctets 3 = .ok (.iconst 0, 1) := by decide +kernel
theorem dX1_movedByOctets_4 : decode cX1_movedByOctets 4 = .ok (.istore 7, 2) := by decide +kernel
theorem dX1_movedByOctets_6 : decode cX1_movedByOctets 6 = .ok (.iload 7, 2) := by decide +kernel
theorem dX1_movedByOctets_8 : decode cX1_movedByOctets 8 = .ok (.bipush 8, 2) := by decide +kernel
theorem dX1_movedByOctets_10 : decode cX1_movedByOctets 10 = .ok (.if_icmp .ge 24, 3) := by decide +kernel
theorem dX1_movedByOctets_13 : decode cX1_movedByOctets 13 = .ok (.lload 5, 2) := by decide +kernel
theorem dX1_movedByOctets_15 : decode cX1_movedByOctets 15 = .ok (.aload_n 0, 1) := by decide +kernel
theorem dX1_movedByOctets_16 : decode cX1_movedByOctets 16 = .ok (.getfield 29, 3) := by decide +kernel
theorem dX1_movedByOctets_19 : decode cX1_movedByOctets 19 = .ok (.aload_n 0, 1) := by decide +kernel
theorem dX1_movedByOctets_20 : decode cX1_movedByOctets 20 = .ok (.getfield 25, 3) := by decide +kernel
theorem dX1_movedByOctets_23 : decode cX1_movedByOctets 23 = .ok (.invokestatic 50, 3) := by decide +kernel
theorem dX1_movedByOctets_26 : decode cX1_movedByOctets 26 = .ok (.lstore 5, 2) := by decide +kernel
theorem dX1_movedByOctets_28 : decode cX1_movedByOctets 28 = .ok (.iinc 7 1, 3) := by decide +kernel
theorem dX1_movedByOctets_31 : decode cX1_movedByOctets 31 = .ok (.goto (-25), 3) := by decide +kernel
theorem dX1_movedByOctets_34 : decode cX1_movedByOctets 34 = .ok (.lload_n 1, 1) := by decide +kernel
theorem dX1_movedByOctets_35 : decode cX1_movedByOctets 35 = .ok (.lstore 7, 2) := by decide +kernel
theorem dX1_movedByOctets_37 : decode cX1_movedByOctets 37 = .ok (.iconst 0, 1) := by decide +kernel
theorem dX1_movedByOctets_38 : decode cX1_movedByOctets 38 = .ok (.istore 9, 2) := by decide +kernel
theorem dX1_movedByOctets_40 : decode cX1_movedByOctets 40 = .ok (.iload 9, 2) := by decide +kernel
theorem dX1_movedByOctets_42 : decode cX1_movedByOctets 42 = .ok (.bipush 61, 2) := by decide +kernel
theorem dX1_movedByOctets_44 : decode cX1_movedByOctets 44 = .ok (.if_icmp .ge 55, 3) := by decide +kernel
theorem dX1_movedByOctets_47 : decode cX1_movedByOctets 47 = .ok (.lload_n 3, 1) := by decide +kernel
theorem dX1_movedByOctets_48 : decode cX1_movedByOctets 48 = .ok (.iload 9, 2) := by decide +kernel
theorem dX1_movedByOctets_50 : decode cX1_movedByOctets 50 = .ok (.lushr, 1) := by decide +kernel
theorem dX1_movedByOctets_51 : decode cX1_movedByOctets 51 = .ok (.lconst 0, 1) := by decide +kernel
theorem dX1_movedByOctets_52 : decode cX1_movedByOctets 52 = .ok (.lcmp, 1) := by decide +kernel
theorem dX1_movedByOctets_53 : decode cX1_movedByOctets 53 = .ok (.ifCond .eq 46, 3) := by decide +kernel
theorem dX1_movedByOctets_56 : decode cX1_movedByOctets 56 = .ok (.lload_n 3, 1) := by decide +kernel
theorem dX1_movedByOctets_57 : decode cX1_movedByOctets 57 = .ok (.iload 9, 2) := by decide +kernel
theorem dX1_movedByOctets_59 : decode cX1_movedByOctets 59 = .ok (.lushr, 1) := by decide +kernel
theorem dX1_movedByOctets_60 : decode cX1_movedByOctets 60 = .ok (.lconst 1, 1) := by decide +kernel
theorem dX1_movedByOctets_61 : decode cX1_movedByOctets 61 = .ok (.land, 1) := by decide +kernel
theorem dX1_movedByOctets_62 : decode cX1_movedByOctets 62 = .ok (.lconst 0, 1) := by decide +kernel
theorem dX1_movedByOctets_63 : decode cX1_movedByOctets 63 = .ok (.lcmp, 1) := by decide +kernel
theorem dX1_movedByOctets_64 : decode cX1_movedByOctets 64 = .ok (.ifCond .eq 16, 3) := by decide +kernel
theorem dX1_movedByOctets_67 : decode cX1_movedByOctets 67 = .ok (.lload 7, 2) := by decide +kernel
theorem dX1_movedByOctets_69 : decode cX1_movedByOctets 69 = .ok (.lload 5, 2) := by decide +kernel
theorem dX1_movedByOctets_71 : decode cX1_movedByOctets 71 = .ok (.aload_n 0, 1) := by decide +kernel
theorem dX1_movedByOctets_72 : decode cX1_movedByOctets 72 = .ok (.getfield 29, 3) := by decide +kernel
theorem dX1_movedByOctets_75 : decode cX1_movedByOctets 75 = .ok (.invokestatic 56, 3) := by decide +kernel
theorem dX1_movedByOctets_78 : decode cX1_movedByOctets 78 = .ok (.lstore 7, 2) := by decide +kernel
theorem dX1_movedByOctets_80 : decode cX1_movedByOctets 80 = .ok (.lload 5, 2) := by decide +kernel
theorem dX1_movedByOctets_82 : decode cX1_movedByOctets 82 = .ok (.lload 5, 2) := by decide +kernel
theorem dX1_movedByOctets_84 : decode cX1_movedByOctets 84 = .ok (.aload_n 0, 1) := by decide +kernel
theorem dX1_movedByOctets_85 : decode cX1_movedByOctets 85 = .ok (.getfield 29, 3) := by decide +kernel
theorem dX1_movedByOctets_88 : decode cX1_movedByOctets 88 = .ok (.invokestatic 56, 3) := by decide +kernel
theorem dX1_movedByOctets_91 : decode cX1_movedByOctets 91 = .ok (.lstore 5, 2) := by decide +kernel
theorem dX1_movedByOctets_93 : decode cX1_movedByOctets 93 = .ok (.iinc 9 1, 3) := by decide +kernel
theorem dX1_movedByOctets_96 : decode cX1_movedByOctets 96 = .ok (.goto (-56), 3) := by decide +kernel
theorem dX1_movedByOctets_99 : decode cX1_movedByOctets 99 = .ok (.lload 7, 2) := by decide +kernel
theorem dX1_movedByOctets_101 : decode cX1_movedByOctets 101 = .ok (.lreturn, 1) := by decide +kernel
theorem dX1_octetsBetween_0 : decode cX1_octetsBetween 0 = .ok (.lload_n 3, 1) := by decide +kernel
theorem dX1_octetsBetween_1 : decode cX1_octetsBetween 1 = .ok (.lstore 5, 2) := by decide +kernel
theorem dX1_octetsBetween_3 : decode cX1_octetsBetween 3 = .ok (.iconst 0, 1) := by decide +kernel
theorem dX1_octetsBetween_4 : decode cX1_octetsBetween 4 = .ok (.istore 7, 2) := by decide +kernel
theorem dX1_octetsBetween_6 : decode cX1_octetsBetween 6 = .ok (.iload 7, 2) := by decide +kernel
theorem dX1_octetsBetween_8 : decode cX1_octetsBetween 8 = .ok (.aload_n 0, 1) := by decide +kernel
theorem dX1_octetsBetween_9 : decode cX1_octetsBetween 9 = .ok (.getfield 25, 3) := by decide +kernel
theorem dX1_octetsBetween_12 : decode cX1_octetsBetween 12 = .ok (.if_icmp .ge 17, 3) := by decide +kernel
theorem dX1_octetsBetween_15 : decode cX1_octetsBetween 15 = .ok (.aload_n 0, 1) := by decide +kernel
theorem dX1_octetsBetween_16 : decode cX1_octetsBetween 16 = .ok (.lload 5, 2) := by decide +kernel
theorem dX1_octetsBetween_18 : decode cX1_octetsBetween 18 = .ok (.invokevirtual 60, 3) := by decide +kernel
theorem dX1_octetsBetween_21 : decode cX1_octetsBetween 21 = .ok (.lstore 5, 2) := by decide +kernel
theorem dX1_octetsBetween_23 : decode cX1_octetsBetween 23 = .ok (.iinc 7 1, 3) := by decide +kernel
theorem dX1_octetsBetween_26 : decode cX1_octetsBetween 26 = .ok (.goto (-20), 3) := by decide +kernel
theorem dX1_octetsBetween_29 : decode cX1_octetsBetween 29 = .ok (.lload 5, 2) := by decide +kernel
theorem dX1_octetsBetween_31 : decode cX1_octetsBetween 31 = .ok (.lload_n 1, 1) := by decide +kernel
theorem dX1_octetsBetween_32 : decode cX1_octetsBetween 32 = .ok (.lxor, 1) := by decide +kernel
theorem dX1_octetsBetween_33 : decode cX1_octetsBetween 33 = .ok (.lstore 7, 2) := by decide +kernel
theorem dX1_octetsBetween_35 : decode cX1_octetsBetween 35 = .ok (.aload_n 0, 1) := by decide +kernel
theorem dX1_octetsBetween_36 : decode cX1_octetsBetween 36 = .ok (.getfield 39, 3) := by decide +kernel
theorem dX1_octetsBetween_39 : decode cX1_octetsBetween 39 = .ok (.ifCond .eq 12, 3) := by decide +kernel
theorem dX1_octetsBetween_42 : decode cX1_octetsBetween 42 = .ok (.aload_n 0, 1) := by decide +kernel
theorem dX1_octetsBetween_43 : decode cX1_octetsBetween 43 = .ok (.lload 7, 2) := by decide +kernel
theorem dX1_octetsBetween_45 : decode cX1_octetsBetween 45 = .ok (.invokevirtual 64, 3) := by decide +kernel
theorem dX1_octetsBetween_48 : decode cX1_octetsBetween 48 = .ok (.goto 5, 3) := by decide +kernel
theorem dX1_octetsBetween_51 : decode cX1_octetsBetween 51 = .ok (.lload 7, 2) := by decide +kernel
theorem dX1_octetsBetween_53 : decode cX1_octetsBetween 53 = .ok (.lreturn, 1) := by decide +kernel
theorem dX1_turnedByOctets_0 : decode cX1_turnedByOctets 0 = .ok (.lconst 0, 1) := by decide +kernel
theorem dX1_turnedByOctets_1 : decode cX1_turnedByOctets 1 = .ok (.lstore_n 3, 1) := by decide +kernel
theorem dX1_turnedByOctets_2 : decode cX1_turnedByOctets 2 = .ok (.iconst 0, 1) := by decide +kernel
theorem dX1_turnedByOctets_3 : decode cX1_turnedByOctets 3 = .ok (.istore 5, 2) := by decide +kernel
theorem dX1_turnedByOctets_5 : decode cX1_turnedByOctets 5 = .ok (.iload 5, 2) := by decide +kernel
theorem dX1_turnedByOctets_7 : decode cX1_turnedByOctets 7 = .ok (.aload_n 0, 1) := by decide +kernel
theorem dX1_turnedByOctets_8 : decode cX1_turnedByOctets 8 = .ok (.getfield 25, 3) := by decide +kernel
theorem dX1_turnedByOctets_11 : decode cX1_turnedByOctets 11 = .ok (.if_icmp .ge 28, 3) := by decide +kernel
theorem dX1_turnedByOctets_14 : decode cX1_turnedByOctets 14 = .ok (.lload_n 3, 1) := by decide +kernel
theorem dX1_turnedByOctets_15 : decode cX1_turnedByOctets 15 = .ok (.lload_n 1, 1) := by decide +kernel
theorem dX1_turnedByOctets_16 : decode cX1_turnedByOctets 16 = .ok (.iload 5, 2) := by decide +kernel
theorem dX1_turnedByOctets_18 : decode cX1_turnedByOctets 18 = .ok (.lushr, 1) := by decide +kernel
theorem dX1_turnedByOctets_19 : decode cX1_turnedByOctets 19 = .ok (.ldc2_w 67, 3) := by decide +kernel
theorem dX1_turnedByOctets_22 : decode cX1_turnedByOctets 22 = .ok (.land, 1) := by decide +kernel
theorem dX1_turnedByOctets_23 : decode cX1_turnedByOctets 23 = .ok (.bipush 8, 2) := by decide +kernel
theorem dX1_turnedByOctets_25 : decode cX1_turnedByOctets 25 = .ok (.invokestatic 46, 3) := by decide +kernel
theorem dX1_turnedByOctets_28 : decode cX1_turnedByOctets 28 = .ok (.iload 5, 2) := by decide +kernel
theorem dX1_turnedByOctets_30 : decode cX1_turnedByOctets 30 = .ok (.lshl, 1) := by decide +kernel
theorem dX1_turnedByOctets_31 : decode cX1_turnedByOctets 31 = .ok (.lor, 1) := by decide +kernel
theorem dX1_turnedByOctets_32 : decode cX1_turnedByOctets 32 = .ok (.lstore_n 3, 1) := by decide +kernel
theorem dX1_turnedByOctets_33 : decode cX1_turnedByOctets 33 = .ok (.iinc 5 8, 3) := by decide +kernel
theorem dX1_turnedByOctets_36 : decode cX1_turnedByOctets 36 = .ok (.goto (-31), 3) := by decide +kernel
theorem dX1_turnedByOctets_39 : decode cX1_turnedByOctets 39 = .ok (.lload_n 3, 1) := by decide +kernel
theorem dX1_turnedByOctets_40 : decode cX1_turnedByOctets 40 = .ok (.lreturn, 1) := by decide +kernel
theorem dX1_turned_0 : decode cX1_turned 0 = .ok (.lconst 0, 1) := by decide +kernel
theorem dX1_turned_1 : decode cX1_turned 1 = .ok (.lstore_n 3, 1) := by decide +kernel
theorem dX1_turned_2 : decode cX1_turned 2 = .ok (.iconst 0, 1) := by decide +kernel
theorem dX1_turned_3 : decode cX1_turned 3 = .ok (.istore 5, 2) := by decide +kernel
theorem dX1_turned_5 : decode cX1_turned 5 = .ok (.iload 5, 2) := by decide +kernel
theorem dX1_turned_7 : decode cX1_turned 7 = .ok (.iload_n 2, 1) := by decide +kernel
theorem dX1_turned_8 : decode cX1_turned 8 = .ok (.if_icmp .ge 20, 3) := by decide +kernel
theorem dX1_turned_11 : decode cX1_turned 11 = .ok (.lload_n 3, 1) := by decide +kernel
theorem dX1_turned_12 : decode cX1_turned 12 = .ok (.iconst 1, 1) := by decide +kernel
theorem dX1_turned_13 : decode cX1_turned 13 = .ok (.lshl, 1) := by decide +kernel
theorem dX1_turned_14 : decode cX1_turned 14 = .ok (.lload_n 0, 1) := by decide +kernel
theorem dX1_turned_15 : decode cX1_turned 15 = .ok (.iload 5, 2) := by decide +kernel
theorem dX1_turned_17 : decode cX1_turned 17 = .ok (.lushr, 1) := by decide +kernel
theorem dX1_turned_18 : decode cX1_turned 18 = .ok (.lconst 1, 1) := by decide +kernel
theorem dX1_turned_19 : decode cX1_turned 19 = .ok (.land, 1) := by decide +kernel
theorem dX1_turned_20 : decode cX1_turned 20 = .ok (.lor, 1) := by decide +kernel
theorem dX1_turned_21 : decode cX1_turned 21 = .ok (.lstore_n 3, 1) := by decide +kernel
theorem dX1_turned_22 : decode cX1_turned 22 = .ok (.iinc 5 1, 3) := by decide +kernel
theorem dX1_turned_25 : decode cX1_turned 25 = .ok (.goto (-20), 3) := by decide +kernel
theorem dX1_turned_28 : decode cX1_turned 28 = .ok (.lload_n 3, 1) := by decide +kernel
theorem dX1_turned_29 : decode cX1_turned 29 = .ok (.lreturn, 1) := by decide +kernel
