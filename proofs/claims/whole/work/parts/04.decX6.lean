theorem dX6_init_0 : decode cX6_init 0 = .ok (.aload_n 0, 1) := by decide +kernel
theorem dX6_init_1 : decode cX6_init 1 = .ok (.invokespecial 1, 3) := by decide +kernel
theorem dX6_init_4 : decode cX6_init 4 = .ok (.aload_n 0, 1) := by decide +kernel
theorem dX6_init_5 : decode cX6_init 5 = .ok (.bipush 8, 2) := by decide +kernel
theorem dX6_init_7 : decode cX6_init 7 = .ok (.newarray .int, 2) := by decide +kernel
theorem dX6_init_9 : decode cX6_init 9 = .ok (.putfield 7, 3) := by decide +kernel
theorem dX6_init_12 : decode cX6_init 12 = .ok (.aload_n 0, 1) := by decide +kernel
theorem dX6_init_13 : decode cX6_init 13 = .ok (.bipush 8, 2) := by decide +kernel
theorem dX6_init_15 : decode cX6_init 15 = .ok (.newarray .long, 2) := by decide +kernel
theorem dX6_init_17 : decode cX6_init 17 = .ok (.putfield 13, 3) := by decide +kernel
theorem dX6_init_20 : decode cX6_init 20 = .ok (.aload_n 0, 1) := by decide +kernel
theorem dX6_init_21 : decode cX6_init 21 = .ok (.bipush 8, 2) := by decide +kernel
theorem dX6_init_23 : decode cX6_init 23 = .ok (.newarray .long, 2) := by decide +kernel
theorem dX6_init_25 : decode cX6_init 25 = .ok (.putfield 17, 3) := by decide +kernel
theorem dX6_init_28 : decode cX6_init 28 = .ok (.aload_n 0, 1) := by decide +kernel
theorem dX6_init_29 : decode cX6_init 29 = .ok (.bipush 8, 2) := by decide +kernel
theorem dX6_init_31 : decode cX6_init 31 = .ok (.newarray .long, 2) := by decide +kernel
theorem dX6_init_33 : decode cX6_init 33 = .ok (.putfield 20, 3) := by decide +kernel
theorem dX6_init_36 : decode cX6_init 36 = .ok (.aload_n 0, 1) := by decide +kernel
theorem dX6_init_37 : decode cX6_init 37 = .ok (.bipush 8, 2) := by decide +kernel
theorem dX6_init_39 : decode cX6_init 39 = .ok (.newarray .boolean, 2) := by decide +kernel
theorem dX6_init_41 : decode cX6_init 41 = .ok (.putfield 23, 3) := by decide +kernel
theorem dX6_init_44 : decode cX6_init 44 = .ok (.aload_n 0, 1) := by decide +kernel
theorem dX6_init_45 : decode cX6_init 45 = .ok (.bipush 8, 2) := by decide +kernel
theorem dX6_init_47 : decode cX6_init 47 = .ok (.newarray .boolean, 2) := by decide +kernel
theorem dX6_init_49 : decode cX6_init 49 = .ok (.putfield 27, 3) := by decide +kernel
theorem dX6_init_52 : decode cX6_init 52 = .ok (.aload_n 0, 1) := by decide +kernel
theorem dX6_init_53 : decode cX6_init 53 = .ok (.sipush 600, 3) := by decide +kernel
theorem dX6_init_56 : decode cX6_init 56 = .ok (.newarray .int, 2) := by decide +kernel
theorem dX6_init_58 : decode cX6_init 58 = .ok (.putfield 30, 3) := by decide +kernel
theorem dX6_init_61 : decode cX6_init 61 = .ok (.aload_n 0, 1) := by decide +kernel
theorem dX6_init_62 : decode cX6_init 62 = .ok (.bipush 8, 2) := by decide +kernel
theorem dX6_init_64 : decode cX6_init 64 = .ok (.newarray .boolean, 2) := by decide +kernel
theorem dX6_init_66 : decode cX6_init 66 = .ok (.putfield 33, 3) := by decide +kernel
theorem dX6_init_69 : decode cX6_init 69 = .ok (.aload_n 0, 1) := by decide +kernel
theorem dX6_init_70 : decode cX6_init 70 = .ok (.sipush 264, 3) := by decide +kernel
theorem dX6_init_73 : decode cX6_init 73 = .ok (.newarray .long, 2) := by decide +kernel
theorem dX6_init_75 : decode cX6_init 75 = .ok (.putfield 36, 3) := by decide +kernel
theorem dX6_init_78 : decode cX6_init 78 = .ok (.aload_n 0, 1) := by decide +kernel
theorem dX6_init_79 : decode cX6_init 79 = .ok (.sipush 264, 3) := by decide +kernel
theorem dX6_init_82 : decode cX6_init 82 = .ok (.newarray .int, 2) := by decide +kernel
theorem dX6_init_84 : decode cX6_init 84 = .ok (.putfield 39, 3) := by decide +kernel
theorem dX6_init_87 : decode cX6_init 87 = .ok (.aload_n 0, 1) := by decide +kernel
theorem dX6_init_88 : decode cX6_init 88 = .ok (.bipush 8, 2) := by decide +kernel
theorem dX6_init_90 : decode cX6_init 90 = .ok (.newarray .int, 2) := by decide +kernel
theorem dX6_init_92 : decode cX6_init 92 = .ok (.putfield 42, 3) := by decide +kernel
theorem dX6_init_95 : decode cX6_init 95 = .ok (.aload_n 0, 1) := by decide +kernel
theorem dX6_init_96 : decode cX6_init 96 = .ok (.bipush 8, 2) := by decide +kernel
theorem dX6_init_98 : decode cX6_init 98 = .ok (.newarray .long, 2) := by decide +kernel
theorem dX6_init_100 : decode cX6_init 100 = .ok (.putfield 45, 3) := by decide +kernel
theorem dX6_init_103 : decode cX6_init 103 = .ok (.aload_n 0, 1) := by decide +kernel
theorem dX6_init_104 : decode cX6_init 104 = .ok (.sipush 200, 3) := by decide +kernel
theorem dX6_init_107 : decode cX6_init 107 = .ok (.newarray .long, 2) := by decide +kernel
theorem dX6_init_109 : decode cX6_init 109 = .ok (.putfield 48, 3) := by decide +kernel
theorem dX6_init_112 : decode cX6_init 112 = .ok (.aload_n 0, 1) := by decide +kernel
theorem dX6_init_113 : decode cX6_init 113 = .ok (.ldc 51, 2) := by decide +kernel
theorem dX6_init_115 : decode cX6_init 115 = .ok (.newarray .long, 2) := by decide +kernel
theorem dX6_init_117 : decode cX6_init 117 = .ok (.putfield 52, 3) := by decide +kernel
theorem dX6_init_120 : decode cX6_init 120 = .ok (.return_, 1) := by decide +kernel
theorem dX6_isOf_0 : decode cX6_isOf 0 = .ok (.lload_n 1, 1) := by decide +kernel
theorem dX6_isOf_1 : decode cX6_isOf 1 = .ok (.lconst 0, 1) := by decide +kernel
theorem dX6_isOf_2 : decode cX6_isOf 2 = .ok (.lcmp, 1) := by decide +kernel
theorem dX6_isOf_3 : decode cX6_isOf 3 = .ok (.ifCond .lt 15, 3) := by decide +kernel
theorem dX6_isOf_6 : decode cX6_isOf 6 = .ok (.lload_n 1, 1) := by decide +kernel
theorem dX6_isOf_7 : decode cX6_isOf 7 = .ok (.lconst 1, 1) := by decide +kernel
theorem dX6_isOf_8 : decode cX6_isOf 8 = .ok (.iload_n 0, 1) := by decide +kernel
theorem dX6_isOf_9 : decode cX6_isOf 9 = .ok (.lshl, 1) := by decide +kernel
theorem dX6_isOf_10 : decode cX6_isOf 10 = .ok (.lcmp, 1) := by decide +kernel
theorem dX6_isOf_11 : decode cX6_isOf 11 = .ok (.ifCond .ge 7, 3) := by decide +kernel
theorem dX6_isOf_14 : decode cX6_isOf 14 = .ok (.iconst 1, 1) := by decide +kernel
theorem dX6_isOf_15 : decode cX6_isOf 15 = .ok (.goto 4, 3) := by decide +kernel
theorem dX6_isOf_18 : decode cX6_isOf 18 = .ok (.iconst 0, 1) := by decide +kernel
theorem dX6_isOf_19 : decode cX6_isOf 19 = .ok (.ireturn, 1) := by decide +kernel
theorem dX6_form_0 : decode cX6_form 0 = .ok (.iload_n 1, 1) := by decide +kernel
theorem dX6_form_1 : decode cX6_form 1 = .ok (.iconst 3, 1) := by decide +kernel
theorem dX6_form_2 : decode cX6_form 2 = .ok (.if_icmp .lt 47, 3) := by decide +kernel
theorem dX6_form_5 : decode cX6_form 5 = .ok (.iload_n 1, 1) := by decide +kernel
theorem dX6_form_6 : decode cX6_form 6 = .ok (.bipush 32, 2) := by decide +kernel
theorem dX6_form_8 : decode cX6_form 8 = .ok (.if_icmp .gt 41, 3) := by decide +kernel
theorem dX6_form_11 : decode cX6_form 11 = .ok (.iload_n 1, 1) := by decide +kernel
theorem dX6_form_12 : decode cX6_form 12 = .ok (.lload_n 2, 1) := by decide +kernel
theorem dX6_form_13 : decode cX6_form 13 = .ok (.invokestatic 55, 3) := by decide +kernel
theorem dX6_form_16 : decode cX6_form 16 = .ok (.ifCond .eq 33, 3) := by decide +kernel
theorem dX6_form_19 : decode cX6_form 19 = .ok (.lload_n 2, 1) := by decide +kernel
theorem dX6_form_20 : decode cX6_form 20 = .ok (.lconst 1, 1) := by decide +kernel
theorem dX6_form_21 : decode cX6_form 21 = .ok (.land, 1) := by decide +kernel
theorem dX6_form_22 : decode cX6_form 22 = .ok (.lconst 1, 1) := by decide +kernel
theorem dX6_form_23 : decode cX6_form 23 = .ok (.lcmp, 1) := by decide +kernel
theorem dX6_form_24 : decode cX6_form 24 = .ok (.ifCond .ne 25, 3) := by decide +kernel
theorem dX6_form_27 : decode cX6_form 27 = .ok (.iload_n 1, 1) := by decide +kernel
theorem dX6_form_28 : decode cX6_form 28 = .ok (.lload 4, 2) := by decide +kernel
theorem dX6_form_30 : decode cX6_form 30 = .ok (.invokestatic 55, 3) := by decide +kernel
theorem dX6_form_33 : decode cX6_form 33 = .ok (.ifCond .eq 16, 3) := by decide +kernel
theorem dX6_form_36 : decode cX6_form 36 = .ok (.iload_n 1, 1) := by decide +kernel
theorem dX6_form_37 : decode cX6_form 37 = .ok (.lload 6, 2) := by decide +kernel
theorem dX6_form_39 : decode cX6_form 39 = .ok (.invokestatic 55, 3) := by decide +kernel
theorem dX6_form_42 : decode cX6_form 42 = .ok (.ifCond .eq 7, 3) := by decide +kernel
theorem dX6_form_45 : decode cX6_form 45 = .ok (.iconst 1, 1) := by decide +kernel
theorem dX6_form_46 : decode cX6_form 46 = .ok (.goto 4, 3) := by decide +kernel
theorem dX6_form_49 : decode cX6_form 49 = .ok (.iconst 0, 1) := by decide +kernel
theorem dX6_form_50 : decode cX6_form 50 = .ok (.istore 10, 2) := by decide +kernel
theorem dX6_form_52 : decode cX6_form 52 = .ok (.iload 10, 2) := by decide +kernel
theorem dX6_form_54 : decode cX6_form 54 = .ok (.ifCond .ne 5, 3) := by decide +kernel
theorem dX6_form_57 : decode cX6_form 57 = .ok (.iconst (-1), 1) := by decide +kernel
theorem dX6_form_58 : decode cX6_form 58 = .ok (.ireturn, 1) := by decide +kernel
theorem dX6_form_59 : decode cX6_form 59 = .ok (.aload_n 0, 1) := by decide +kernel
theorem dX6_form_60 : decode cX6_form 60 = .ok (.getfield 59, 3) := by decide +kernel
theorem dX6_form_63 : decode cX6_form 63 = .ok (.bipush 8, 2) := by decide +kernel
theorem dX6_form_65 : decode cX6_form 65 = .ok (.if_icmp .ne 6, 3) := by decide +kernel
theorem dX6_form_68 : decode cX6_form 68 = .ok (.bipush (-2), 2) := by decide +kernel
theorem dX6_form_70 : decode cX6_form 70 = .ok (.ireturn, 1) := by decide +kernel
theorem dX6_form_71 : decode cX6_form 71 = .ok (.aload_n 0, 1) := by decide +kernel
theorem dX6_form_72 : decode cX6_form 72 = .ok (.getfield 7, 3) := by decide +kernel
theorem dX6_form_75 : decode cX6_form 75 = .ok (.aload_n 0, 1) := by decide +kernel
theorem dX6_form_76 : decode cX6_form 76 = .ok (.getfield 59, 3) := by decide +kernel
theorem dX6_form_79 : decode cX6_form 79 = .ok (.iload_n 1, 1) := by decide +kernel
theorem dX6_form_80 : decode cX6_form 80 = .ok (.iastore, 1) := by decide +kernel
theorem dX6_form_81 : decode cX6_form 81 = .ok (.aload_n 0, 1) := by decide +kernel
theorem dX6_form_82 : decode cX6_form 82 = .ok (.getfield 13, 3) := by decide +kernel
theorem dX6_form_85 : decode cX6_form 85 = .ok (.aload_n 0, 1) := by decide +kernel
theorem dX6_form_86 : decode cX6_form 86 = .ok (.getfield 59, 3) := by decide +kernel
theorem dX6_form_89 : decode cX6_form 89 = .ok (.lload_n 2, 1) := by decide +kernel
theorem dX6_form_90 : decode cX6_form 90 = .ok (.lastore, 1) := by decide +kernel
theorem dX6_form_91 : decode cX6_form 91 = .ok (.aload_n 0, 1) := by decide +kernel
theorem dX6_form_92 : decode cX6_form 92 = .ok (.getfield 17, 3) := by decide +kernel
theorem dX6_form_95 : decode cX6_form 95 = .ok (.aload_n 0, 1) := by decide +kernel
theorem dX6_form_96 : decode cX6_form 96 = .ok (.getfield 59, 3) := by decide +kernel
theorem dX6_form_99 : decode cX6_form 99 = .ok (.lload 4, 2) := by decide +kernel
theorem dX6_form_101 : decode cX6_form 101 = .ok (.lastore, 1) := by decide +kernel
theorem dX6_form_102 : decode cX6_form 102 = .ok (.aload_n 0, 1) := by decide +kernel
theorem dX6_form_103 : decode cX6_form 103 = .ok (.getfield 20, 3) := by decide +kernel
theorem dX6_form_106 : decode cX6_form 106 = .ok (.aload_n 0, 1) := by decide +kernel
theorem dX6_form_107 : decode cX6_form 107 = .ok (.getfield 59, 3) := by decide +kernel
theorem dX6_form_110 : decode cX6_form 110 = .ok (.lload 6, 2) := by decide +kernel
theorem dX6_form_112 : decode cX6_form 112 = .ok (.lastore, 1) := by decide +kernel
theorem dX6_form_113 : decode cX6_form 113 = .ok (.aload_n 0, 1) := by decide +kernel
theorem dX6_form_114 : decode cX6_form 114 = .ok (.getfield 23, 3) := by decide +kernel
theorem dX6_form_117 : decode cX6_form 117 = .ok (.aload_n 0, 1) := by decide +kernel
theorem dX6_form_118 : decode cX6_form 118 = .ok (.getfield 59, 3) := by decide +kernel
theorem dX6_form_121 : decode cX6_form 121 = .ok (.iload 8, 2) := by decide +kernel
theorem dX6_form_123 : decode cX6_form 123 = .ok (.bastore, 1) := by decide +kernel
theorem dX6_form_124 : decode cX6_form 124 = .ok (.aload_n 0, 1) := by decide +kernel
theorem dX6_form_125 : decode cX6_form 125 = .ok (.getfield 27, 3) := by decide +kernel
theorem dX6_form_128 : decode cX6_form 128 = .ok (.aload_n 0, 1) := by decide +kernel
theorem dX6_form_129 : decode cX6_form 129 = .ok (.getfield 59, 3) := by decide +kernel
theorem dX6_form_132 : decode cX6_form 132 = .ok (.iload 9, 2) := by decide +kernel
theorem dX6_form_134 : decode cX6_form 134 = .ok (.bastore, 1) := by decide +kernel
theorem dX6_form_135 : decode cX6_form 135 = .ok (.aload_n 0, 1) := by decide +kernel
theorem dX6_form_136 : decode cX6_form 136 = .ok (.getfield 33, 3) := by decide +kernel
theorem dX6_form_139 : decode cX6_form 139 = .ok (.aload_n 0, 1) := by decide +kernel
theorem dX6_form_140 : decode cX6_form 140 = .ok (.getfield 59, 3) := by decide +kernel
theorem dX6_form_143 : decode cX6_form 143 = .ok (.iconst 0, 1) := by decide +kernel
theorem dX6_form_144 : decode cX6_form 144 = .ok (.bastore, 1) := by decide +kernel
theorem dX6_form_145 : decode cX6_form 145 = .ok (.aload_n 0, 1) := by decide +kernel
theorem dX6_form_146 : decode cX6_form 146 = .ok (.dup, 1) := by decide +kernel
theorem dX6_form_147 : decode cX6_form 147 = .ok (.getfield 59, 3) := by decide +kernel
theorem dX6_form_150 : decode cX6_form 150 = .ok (.iconst 1, 1) := by decide +kernel
theorem dX6_form_151 : decode cX6_form 151 = .ok (.iadd, 1) := by decide +kernel
theorem dX6_form_152 : decode cX6_form 152 = .ok (.putfield 59, 3) := by decide +kernel
theorem dX6_form_155 : decode cX6_form 155 = .ok (.aload_n 0, 1) := by decide +kernel
theorem dX6_form_156 : decode cX6_form 156 = .ok (.getfield 59, 3) := by decide +kernel
theorem dX6_form_159 : decode cX6_form 159 = .ok (.iconst 1, 1) := by decide +kernel
theorem dX6_form_160 : decode cX6_form 160 = .ok (.isub, 1) := by decide +kernel
theorem dX6_form_161 : decode cX6_form 161 = .ok (.ireturn, 1) := by decide +kernel
theorem dX6_forget_0 : decode cX6_forget 0 = .ok (.aload_n 0, 1) := by decide +kernel
theorem dX6_forget_1 : decode cX6_forget 1 = .ok (.getfield 59, 3) := by decide +kernel
theorem dX6_forget_4 : decode cX6_forget 4 = .ok (.istore_n 1, 1) := by decide +kernel
theorem dX6_forget_5 : decode cX6_forget 5 = .ok (.aload_n 0, 1) := by decide +kernel
theorem dX6_forget_6 : decode cX6_forget 6 = .ok (.iconst 0, 1) := by decide +kernel
theorem dX6_forget_7 : decode cX6_forget 7 = .ok (.putfield 59, 3) := by decide +kernel
theorem dX6_forget_10 : decode cX6_forget 10 = .ok (.iload_n 1, 1) := by decide +kernel
theorem dX6_forget_11 : decode cX6_forget 11 = .ok (.ireturn, 1) := by decide +kernel
theorem dX6_feed_0 : decode cX6_feed 0 = .ok (.iload_n 1, 1) := by decide +kernel
theorem dX6_feed_1 : decode cX6_feed 1 = .ok (.iconst 1, 1) := by decide +kernel
theorem dX6_feed_2 : decode cX6_feed 2 = .ok (.if_icmp .lt 9, 3) := by decide +kernel
theorem dX6_feed_5 : decode cX6_feed 5 = .ok (.iload_n 1, 1) := by decide +kernel
theorem dX6_feed_6 : decode cX6_feed 6 = .ok (.bipush 8, 2) := by decide +kernel
theorem dX6_feed_8 : decode cX6_feed 8 = .ok (.if_icmp .le 5, 3) := by decide +kernel
theorem dX6_feed_11 : decode cX6_feed 11 = .ok (.iconst (-1), 1) := by decide +kernel
theorem dX6_feed_12 : decode cX6_feed 12 = .ok (.ireturn, 1) := by decide +kernel
theorem dX6_feed_13 : decode cX6_feed 13 = .ok (.aload_n 0, 1) := by decide +kernel
theorem dX6_feed_14 : decode cX6_feed 14 = .ok (.getfield 63, 3) := by decide +kernel
theorem dX6_feed_17 : decode cX6_feed 17 = .ok (.iload_n 1, 1) := by decide +kernel
theorem dX6_feed_18 : decode cX6_feed 18 = .ok (.iadd, 1) := by decide +kernel
theorem dX6_feed_19 : decode cX6_feed 19 = .ok (.sipush 600, 3) := by decide +kernel
theorem dX6_feed_22 : decode cX6_feed 22 = .ok (.if_icmp .le 6, 3) := by decide +kernel
theorem dX6_feed_25 : decode cX6_feed 25 = .ok (.bipush (-2), 2) := by decide +kernel
theorem dX6_feed_27 : decode cX6_feed 27 = .ok (.ireturn, 1) := by decide +kernel
theorem dX6_feed_28 : decode cX6_feed 28 = .ok (.iload_n 1, 1) := by decide +kernel
theorem dX6_feed_29 : decode cX6_feed 29 = .ok (.iconst 1, 1) := by decide +kernel
theorem dX6_feed_30 : decode cX6_feed 30 = .ok (.isub, 1) := by decide +kernel
theorem dX6_feed_31 : decode cX6_feed 31 = .ok (.istore 4, 2) := by decide +kernel
theorem dX6_feed_33 : decode cX6_feed 33 = .ok (.iload 4, 2) := by decide +kernel
theorem dX6_feed_35 : decode cX6_feed 35 = .ok (.ifCond .lt 40, 3) := by decide +kernel
theorem dX6_feed_38 : decode cX6_feed 38 = .ok (.aload_n 0, 1) := by decide +kernel
theorem dX6_feed_39 : decode cX6_feed 39 = .ok (.getfield 30, 3) := by decide +kernel
theorem dX6_feed_42 : decode cX6_feed 42 = .ok (.aload_n 0, 1) := by decide +kernel
theorem dX6_feed_43 : decode cX6_feed 43 = .ok (.getfield 63, 3) := by decide +kernel
theorem dX6_feed_46 : decode cX6_feed 46 = .ok (.lload_n 2, 1) := by decide +kernel
theorem dX6_feed_47 : decode cX6_feed 47 = .ok (.bipush 8, 2) := by decide +kernel
theorem dX6_feed_49 : decode cX6_feed 49 = .ok (.iload 4, 2) := by decide +kernel
theorem dX6_feed_51 : decode cX6_feed 51 = .ok (.imul, 1) := by decide +kernel
theorem dX6_feed_52 : decode cX6_feed 52 = .ok (.lshr, 1) := by decide +kernel
theorem dX6_feed_53 : decode cX6_feed 53 = .ok (.ldc2_w 66, 3) := by decide +kernel
theorem dX6_feed_56 : decode cX6_feed 56 = .ok (.land, 1) := by decide +kernel
theorem dX6_feed_57 : decode cX6_feed 57 = .ok (.l2i, 1) := by decide +kernel
theorem dX6_feed_58 : decode cX6_feed 58 = .ok (.iastore, 1) := by decide +kernel
theorem dX6_feed_59 : decode cX6_feed 59 = .ok (.aload_n 0, 1) := by decide +kernel
theorem dX6_feed_60 : decode cX6_feed 60 = .ok (.dup, 1) := by decide +kernel
theorem dX6_feed_61 : decode cX6_feed 61 = .ok (.getfield 63, 3) := by decide +kernel
theorem dX6_feed_64 : decode cX6_feed 64 = .ok (.iconst 1, 1) := by decide +kernel
theorem dX6_feed_65 : decode cX6_feed 65 = .ok (.iadd, 1) := by decide +kernel
theorem dX6_feed_66 : decode cX6_feed 66 = .ok (.putfield 63, 3) := by decide +kernel
theorem dX6_feed_69 : decode cX6_feed 69 = .ok (.iinc 4 (-1), 3) := by decide +kernel
theorem dX6_feed_72 : decode cX6_feed 72 = .ok (.goto (-39), 3) := by decide +kernel
theorem dX6_feed_75 : decode cX6_feed 75 = .ok (.aload_n 0, 1) := by decide +kernel
theorem dX6_feed_76 : decode cX6_feed 76 = .ok (.getfield 63, 3) := by decide +kernel
theorem dX6_feed_79 : decode cX6_feed 79 = .ok (.ireturn, 1) := by decide +kernel
theorem dX6_cut_0 : decode cX6_cut 0 = .ok (.iload_n 1, 1) := by decide +kernel
theorem dX6_cut_1 : decode cX6_cut 1 = .ok (.ifCond .lt 11, 3) := by decide +kernel
theorem dX6_cut_4 : decode cX6_cut 4 = .ok (.iload_n 1, 1) := by decide +kernel
theorem dX6_cut_5 : decode cX6_cut 5 = .ok (.aload_n 0, 1) := by decide +kernel
theorem dX6_cut_6 : decode cX6_cut 6 = .ok (.getfield 63, 3) := by decide +kernel
theorem dX6_cut_9 : decode cX6_cut 9 = .ok (.if_icmp .le 5, 3) := by decide +kernel
theorem dX6_cut_12 : decode cX6_cut 12 = .ok (.iconst (-1), 1) := by decide +kernel
theorem dX6_cut_13 : decode cX6_cut 13 = .ok (.ireturn, 1) := by decide +kernel
theorem dX6_cut_14 : decode cX6_cut 14 = .ok (.aload_n 0, 1) := by decide +kernel
theorem dX6_cut_15 : decode cX6_cut 15 = .ok (.getfield 63, 3) := by decide +kernel
theorem dX6_cut_18 : decode cX6_cut 18 = .ok (.iload_n 1, 1) := by decide +kernel
theorem dX6_cut_19 : decode cX6_cut 19 = .ok (.isub, 1) := by decide +kernel
theorem dX6_cut_20 : decode cX6_cut 20 = .ok (.istore_n 2, 1) := by decide +kernel
theorem dX6_cut_21 : decode cX6_cut 21 = .ok (.aload_n 0, 1) := by decide +kernel
theorem dX6_cut_22 : decode cX6_cut 22 = .ok (.iload_n 1, 1) := by decide +kernel
theorem dX6_cut_23 : decode cX6_cut 23 = .ok (.putfield 63, 3) := by decide +kernel
theorem dX6_cut_26 : decode cX6_cut 26 = .ok (.iload_n 2, 1) := by decide +kernel
theorem dX6_cut_27 : decode cX6_cut 27 = .ok (.ireturn, 1) := by decide +kernel
theorem dX6_octet_0 : decode cX6_octet 0 = .ok (.iload_n 1, 1) := by decide +kernel
theorem dX6_octet_1 : decode cX6_octet 1 = .ok (.ifCond .lt 11, 3) := by decide +kernel
theorem dX6_octet_4 : decode cX6_octet 4 = .ok (.iload_n 1, 1) := by decide +kernel
theorem dX6_octet_5 : decode cX6_octet 5 = .ok (.aload_n 0, 1) := by decide +kernel
theorem dX6_octet_6 : decode cX6_octet 6 = .ok (.getfield 63, 3) := by decide +kernel
theorem dX6_octet_9 : decode cX6_octet 9 = .ok (.if_icmp .lt 7, 3) := by decide +kernel
theorem dX6_octet_12 : decode cX6_octet 12 = .ok (.iconst (-1), 1) := by decide +kernel
theorem dX6_octet_13 : decode cX6_octet 13 = .ok (.goto 9, 3) := by decide +kernel
theorem dX6_octet_16 : decode cX6_octet 16 = .ok (.aload_n 0, 1) := by decide +kernel
theorem dX6_octet_17 : decode cX6_octet 17 = .ok (.getfield 30, 3) := by decide +kernel
theorem dX6_octet_20 : decode cX6_octet 20 = .ok (.iload_n 1, 1) := by decide +kernel
theorem dX6_octet_21 : decode cX6_octet 21 = .ok (.iaload, 1) := by decide +kernel
theorem dX6_octet_22 : decode cX6_octet 22 = .ok (.ireturn, 1) := by decide +kernel
theorem dX6_count_0 : decode cX6_count 0 = .ok (.iload_n 1, 1) := by decide +kernel
theorem dX6_count_1 : decode cX6_count 1 = .ok (.ifCond .ne 10, 3) := by decide +kernel
theorem dX6_count_4 : decode cX6_count 4 = .ok (.aload_n 0, 1) := by decide +kernel
theorem dX6_count_5 : decode cX6_count 5 = .ok (.getfield 59, 3) := by decide +kernel
theorem dX6_count_8 : decode cX6_count 8 = .ok (.goto 16, 3) := by decide +kernel
theorem dX6_count_11 : decode cX6_count 11 = .ok (.iload_n 1, 1) := by decide +kernel
theorem dX6_count_12 : decode cX6_count 12 = .ok (.iconst 1, 1) := by decide +kernel
theorem dX6_count_13 : decode cX6_count 13 = .ok (.if_icmp .ne 10, 3) := by decide +kernel
theorem dX6_count_16 : decode cX6_count 16 = .ok (.aload_n 0, 1) := by decide +kernel
theorem dX6_count_17 : decode cX6_count 17 = .ok (.getfield 63, 3) := by decide +kernel
theorem dX6_count_20 : decode cX6_count 20 = .ok (.goto 4, 3) := by decide +kernel
theorem dX6_count_23 : decode cX6_count 23 = .ok (.iconst (-1), 1) := by decide +kernel
theorem dX6_count_24 : decode cX6_count 24 = .ok (.ireturn, 1) := by decide +kernel
theorem dX6_isForm_0 : decode cX6_isForm 0 = .ok (.iload_n 1, 1) := by decide +kernel
theorem dX6_isForm_1 : decode cX6_isForm 1 = .ok (.ifCond .lt 15, 3) := by decide +kernel
theorem dX6_isForm_4 : decode cX6_isForm 4 = .ok (.iload_n 1, 1) := by decide +kernel
theorem dX6_isForm_5 : decode cX6_isForm 5 = .ok (.aload_n 0, 1) := by decide +kernel
theorem dX6_isForm_6 : decode cX6_isForm 6 = .ok (.getfield 59, 3) := by decide +kernel
theorem dX6_isForm_9 : decode cX6_isForm 9 = .ok (.if_icmp .ge 7, 3) := by decide +kernel
theorem dX6_isForm_12 : decode cX6_isForm 12 = .ok (.iconst 1, 1) := by decide +kernel
theorem dX6_isForm_13 : decode cX6_isForm 13 = .ok (.goto 4, 3) := by decide +kernel
theorem dX6_isForm_16 : decode cX6_isForm 16 = .ok (.iconst 0, 1) := by decide +kernel
theorem dX6_isForm_17 : decode cX6_isForm 17 = .ok (.ireturn, 1) := by decide +kernel
theorem dX6_isSum_0 : decode cX6_isSum 0 = .ok (.aload_n 0, 1) := by decide +kernel
theorem dX6_isSum_1 : decode cX6_isSum 1 = .ok (.iload_n 1, 1) := by decide +kernel
theorem dX6_isSum_2 : decode cX6_isSum 2 = .ok (.invokevirtual 68, 3) := by decide +kernel
theorem dX6_isSum_5 : decode cX6_isSum 5 = .ok (.ifCond .eq 20, 3) := by decide +kernel
theorem dX6_isSum_8 : decode cX6_isSum 8 = .ok (.aload_n 0, 1) := by decide +kernel
theorem dX6_isSum_9 : decode cX6_isSum 9 = .ok (.getfield 7, 3) := by decide +kernel
theorem dX6_isSum_12 : decode cX6_isSum 12 = .ok (.iload_n 1, 1) := by decide +kernel
theorem dX6_isSum_13 : decode cX6_isSum 13 = .ok (.iaload, 1) := by decide +kernel
theorem dX6_isSum_14 : decode cX6_isSum 14 = .ok (.lload_n 2, 1) := by decide +kernel
theorem dX6_isSum_15 : decode cX6_isSum 15 = .ok (.invokestatic 55, 3) := by decide +kernel
theorem dX6_isSum_18 : decode cX6_isSum 18 = .ok (.ifCond .eq 7, 3) := by decide +kernel
theorem dX6_isSum_21 : decode cX6_isSum 21 = .ok (.iconst 1, 1) := by decide +kernel
theorem dX6_isSum_22 : decode cX6_isSum 22 = .ok (.goto 4, 3) := by decide +kernel
theorem dX6_isSum_25 : decode cX6_isSum 25 = .ok (.iconst 0, 1) := by decide +kernel
theorem dX6_isSum_26 : decode cX6_isSum 26 = .ok (.ireturn, 1) := by decide +kernel
theorem dX6_turned_0 : decode cX6_turned 0 = .ok (.lconst 0, 1) := by decide +kernel
theorem dX6_turned_1 : decode cX6_turned 1 = .ok (.lstore_n 3, 1) := by decide +kernel
theorem dX6_turned_2 : decode cX6_turned 2 = .ok (.iconst 0, 1) := by decide +kernel
theorem dX6_turned_3 : decode cX6_turned 3 = .ok (.istore 5, 2) := by decide +kernel
theorem dX6_turned_5 : decode cX6_turned 5 = .ok (.iload 5, 2) := by decide +kernel
theorem dX6_turned_7 : decode cX6_turned 7 = .ok (.iload_n 2, 1) := by decide +kernel
theorem dX6_turned_8 : decode cX6_turned 8 = .ok (.if_icmp .ge 25, 3) := by decide +kernel
theorem dX6_turned_11 : decode cX6_turned 11 = .ok (.lload_n 3, 1) := by decide +kernel
theorem dX6_turned_12 : decode cX6_turned 12 = .ok (.lload_n 0, 1) := by decide +kernel
theorem dX6_turned_13 : decode cX6_turned 13 = .ok (.iload 5, 2) := by decide +kernel
theorem dX6_turned_15 : decode cX6_turned 15 = .ok (.lshr, 1) := by decide +kernel
theorem dX6_turned_16 : decode cX6_turned 16 = .ok (.lconst 1, 1) := by decide +kernel
theorem dX6_turned_17 : decode cX6_turned 17 = .ok (.land, 1) := by decide +kernel
theorem dX6_turned_18 : decode cX6_turned 18 = .ok (.iload_n 2, 1) := by decide +kernel
theorem dX6_turned_19 : decode cX6_turned 19 = .ok (.iconst 1, 1) := by decide +kernel
theorem dX6_turned_20 : decode cX6_turned 20 = .ok (.isub, 1) := by decide +kernel
theorem dX6_turned_21 : decode cX6_turned 21 = .ok (.iload 5, 2) := by decide +kernel
theorem dX6_turned_23 : decode cX6_turned 23 = .ok (.isub, 1) := by decide +kernel
theorem dX6_turned_24 : decode cX6_turned 24 = .ok (.lshl, 1) := by decide +kernel
theorem dX6_turned_25 : decode cX6_turned 25 = .ok (.lor, 1) := by decide +kernel
theorem dX6_turned_26 : decode cX6_turned 26 = .ok (.lstore_n 3, 1) := by decide +kernel
theorem dX6_turned_27 : decode cX6_turned 27 = .ok (.iinc 5 1, 3) := by decide +kernel
theorem dX6_turned_30 : decode cX6_turned 30 = .ok (.goto (-25), 3) := by decide +kernel
theorem dX6_turned_33 : decode cX6_turned 33 = .ok (.lload_n 3, 1) := by decide +kernel
theorem dX6_turned_34 : decode cX6_turned 34 = .ok (.lreturn, 1) := by decide +kernel
theorem dX6_up_0 : decode cX6_up 0 = .ok (.lload_n 2, 1) := by decide +kernel
theorem dX6_up_1 : decode cX6_up 1 = .ok (.aload_n 0, 1) := by decide +kernel
theorem dX6_up_2 : decode cX6_up 2 = .ok (.getfield 7, 3) := by decide +kernel
theorem dX6_up_5 : decode cX6_up 5 = .ok (.iload_n 1, 1) := by decide +kernel
theorem dX6_up_6 : decode cX6_up 6 = .ok (.iaload, 1) := by decide +kernel
theorem dX6_up_7 : decode cX6_up 7 = .ok (.iconst 1, 1) := by decide +kernel
theorem dX6_up_8 : decode cX6_up 8 = .ok (.isub, 1) := by decide +kernel
theorem dX6_up_9 : decode cX6_up 9 = .ok (.lshr, 1) := by decide +kernel
theorem dX6_up_10 : decode cX6_up 10 = .ok (.lconst 1, 1) := by decide +kernel
theorem dX6_up_11 : decode cX6_up 11 = .ok (.land, 1) := by decide +kernel
theorem dX6_up_12 : decode cX6_up 12 = .ok (.lstore 4, 2) := by decide +kernel
theorem dX6_up_14 : decode cX6_up 14 = .ok (.lload_n 2, 1) := by decide +kernel
theorem dX6_up_15 : decode cX6_up 15 = .ok (.iconst 1, 1) := by decide +kernel
theorem dX6_up_16 : decode cX6_up 16 = .ok (.lshl, 1) := by decide +kernel
theorem dX6_up_17 : decode cX6_up 17 = .ok (.lconst 1, 1) := by decide +kernel
theorem dX6_up_18 : decode cX6_up 18 = .ok (.aload_n 0, 1) := by decide +kernel
theorem dX6_up_19 : decode cX6_up 19 = .ok (.getfield 7, 3) := by decide +kernel
theorem dX6_up_22 : decode cX6_up 22 = .ok (.iload_n 1, 1) := by decide +kernel
theorem dX6_up_23 : decode cX6_up 23 = .ok (.iaload, 1) := by decide +kernel
theorem dX6_up_24 : decode cX6_up 24 = .ok (.lshl, 1) := by decide +kernel
theorem dX6_up_25 : decode cX6_up 25 = .ok (.lconst 1, 1) := by decide +kernel
theorem dX6_up_26 : decode cX6_up 26 = .ok (.lsub, 1) := by decide +kernel
theorem dX6_up_27 : decode cX6_up 27 = .ok (.land, 1) := by decide +kernel
theorem dX6_up_28 : decode cX6_up 28 = .ok (.lstore 6, 2) := by decide +kernel
theorem dX6_up_30 : decode cX6_up 30 = .ok (.lload 4, 2) := by decide +kernel
theorem dX6_up_32 : decode cX6_up 32 = .ok (.lconst 1, 1) := by decide +kernel
theorem dX6_up_33 : decode cX6_up 33 = .ok (.lcmp, 1) := by decide +kernel
theorem dX6_up_34 : decode cX6_up 34 = .ok (.ifCond .ne 15, 3) := by decide +kernel
theorem dX6_up_37 : decode cX6_up 37 = .ok (.lload 6, 2) := by decide +kernel
theorem dX6_up_39 : decode cX6_up 39 = .ok (.aload_n 0, 1) := by decide +kernel
theorem dX6_up_40 : decode cX6_up 40 = .ok (.getfield 13, 3) := by decide +kernel
theorem dX6_up_43 : decode cX6_up 43 = .ok (.iload_n 1, 1) := by decide +kernel
theorem dX6_up_44 : decode cX6_up 44 = .ok (.laload, 1) := by decide +kernel
theorem dX6_up_45 : decode cX6_up 45 = .ok (.lxor, 1) := by decide +kernel
theorem dX6_up_46 : decode cX6_up 46 = .ok (.goto 5, 3) := by decide +kernel
theorem dX6_up_49 : decode cX6_up 49 = .ok (.lload 6, 2) := by decide +kernel
theorem dX6_up_51 : decode cX6_up 51 = .ok (.lreturn, 1) := by decide +kernel
theorem dX6_down_0 : decode cX6_down 0 = .ok (.lconst 1, 1) := by decide +kernel
theorem dX6_down_1 : decode cX6_down 1 = .ok (.aload_n 0, 1) := by decide +kernel
theorem dX6_down_2 : decode cX6_down 2 = .ok (.getfield 7, 3) := by decide +kernel
theorem dX6_down_5 : decode cX6_down 5 = .ok (.iload_n 1, 1) := by decide +kernel
theorem dX6_down_6 : decode cX6_down 6 = .ok (.iaload, 1) := by decide +kernel
theorem dX6_down_7 : decode cX6_down 7 = .ok (.iconst 1, 1) := by decide +kernel
theorem dX6_down_8 : decode cX6_down 8 = .ok (.isub, 1) := by decide +kernel
theorem dX6_down_9 : decode cX6_down 9 = .ok (.lshl, 1) := by decide +kernel
theorem dX6_down_10 : decode cX6_down 10 = .ok (.lstore 4, 2) := by decide +kernel
theorem dX6_down_12 : decode cX6_down 12 = .ok (.lload_n 2, 1) := by decide +kernel
theorem dX6_down_13 : decode cX6_down 13 = .ok (.lconst 1, 1) := by decide +kernel
theorem dX6_down_14 : decode cX6_down 14 = .ok (.land, 1) := by decide +kernel
theorem dX6_down_15 : decode cX6_down 15 = .ok (.lconst 1, 1) := by decide +kernel
theorem dX6_down_16 : decode cX6_down 16 = .ok (.lcmp, 1) := by decide +kernel
theorem dX6_down_17 : decode cX6_down 17 = .ok (.ifCond .ne 19, 3) := by decide +kernel
theorem dX6_down_20 : decode cX6_down 20 = .ok (.lload_n 2, 1) := by decide +kernel
theorem dX6_down_21 : decode cX6_down 21 = .ok (.aload_n 0, 1) := by decide +kernel
theorem dX6_down_22 : decode cX6_down 22 = .ok (.getfield 13, 3) := by decide +kernel
theorem dX6_down_25 : decode cX6_down 25 = .ok (.iload_n 1, 1) := by decide +kernel
theorem dX6_down_26 : decode cX6_down 26 = .ok (.laload, 1) := by decide +kernel
theorem dX6_down_27 : decode cX6_down 27 = .ok (.lxor, 1) := by decide +kernel
theorem dX6_down_28 : decode cX6_down 28 = .ok (.iconst 1, 1) := by decide +kernel
theorem dX6_down_29 : decode cX6_down 29 = .ok (.lshr, 1) := by decide +kernel
theorem dX6_down_30 : decode cX6_down 30 = .ok (.lload 4, 2) := by decide +kernel
theorem dX6_down_32 : decode cX6_down 32 = .ok (.lor, 1) := by decide +kernel
theorem dX6_down_33 : decode cX6_down 33 = .ok (.goto 6, 3) := by decide +kernel
theorem dX6_down_36 : decode cX6_down 36 = .ok (.lload_n 2, 1) := by decide +kernel
theorem dX6_down_37 : decode cX6_down 37 = .ok (.iconst 1, 1) := by decide +kernel
theorem dX6_down_38 : decode cX6_down 38 = .ok (.lshr, 1) := by decide +kernel
theorem dX6_down_39 : decode cX6_down 39 = .ok (.lreturn, 1) := by decide +kernel
theorem dX6_times_0 : decode cX6_times 0 = .ok (.lconst 0, 1) := by decide +kernel
theorem dX6_times_1 : decode cX6_times 1 = .ok (.lstore 6, 2) := by decide +kernel
theorem dX6_times_3 : decode cX6_times 3 = .ok (.aload_n 0, 1) := by decide +kernel
theorem dX6_times_4 : decode cX6_times 4 = .ok (.getfield 7, 3) := by decide +kernel
theorem dX6_times_7 : decode cX6_times 7 = .ok (.iload_n 1, 1) := by decide +kernel
theorem dX6_times_8 : decode cX6_times 8 = .ok (.iaload, 1) := by decide +kernel
theorem dX6_times_9 : decode cX6_times 9 = .ok (.iconst 1, 1) := by decide +kernel
theorem dX6_times_10 : decode cX6_times 10 = .ok (.isub, 1) := by decide +kernel
theorem dX6_times_11 : decode cX6_times 11 = .ok (.istore 8, 2) := by decide +kernel
theorem dX6_times_13 : decode cX6_times 13 = .ok (.iload 8, 2) := by decide +kernel
theorem dX6_times_15 : decode cX6_times 15 = .ok (.ifCond .lt 40, 3) := by decide +kernel
theorem dX6_times_18 : decode cX6_times 18 = .ok (.aload_n 0, 1) := by decide +kernel
theorem dX6_times_19 : decode cX6_times 19 = .ok (.iload_n 1, 1) := by decide +kernel
theorem dX6_times_20 : decode cX6_times 20 = .ok (.lload 6, 2) := by decide +kernel
theorem dX6_times_22 : decode cX6_times 22 = .ok (.invokevirtual 72, 3) := by decide +kernel
theorem dX6_times_25 : decode cX6_times 25 = .ok (.lstore 6, 2) := by decide +kernel
theorem dX6_times_27 : decode cX6_times 27 = .ok (.lload 6, 2) := by decide +kernel
theorem dX6_times_29 : decode cX6_times 29 = .ok (.lload 4, 2) := by decide +kernel
theorem dX6_times_31 : decode cX6_times 31 = .ok (.iload 8, 2) := by decide +kernel
theorem dX6_times_33 : decode cX6_times 33 = .ok (.lshr, 1) := by decide +kernel
theorem dX6_times_34 : decode cX6_times 34 = .ok (.lconst 1, 1) := by decide +kernel
theorem dX6_times_35 : decode cX6_times 35 = .ok (.land, 1) := by decide +kernel
theorem dX6_times_36 : decode cX6_times 36 = .ok (.lconst 1, 1) := by decide +kernel
theorem dX6_times_37 : decode cX6_times 37 = .ok (.lcmp, 1) := by decide +kernel
theorem dX6_times_38 : decode cX6_times 38 = .ok (.ifCond .ne 7, 3) := by decide +kernel
theorem dX6_times_41 : decode cX6_times 41 = .ok (.lload_n 2, 1) := by decide +kernel
theorem dX6_times_42 : decode cX6_times 42 = .ok (.goto 4, 3) := by decide +kernel
theorem dX6_times_45 : decode cX6_times 45 = .ok (.lconst 0, 1) := by decide +kernel
theorem dX6_times_46 : decode cX6_times 46 = .ok (.lxor, 1) := by decide +kernel
theorem dX6_times_47 : decode cX6_times 47 = .ok (.lstore 6, 2) := by decide +kernel
theorem dX6_times_49 : decode cX6_times 49 = .ok (.iinc 8 (-1), 3) := by decide +kernel
theorem dX6_times_52 : decode cX6_times 52 = .ok (.goto (-39), 3) := by decide +kernel
theorem dX6_times_55 : decode cX6_times 55 = .ok (.lload 6, 2) := by decide +kernel
theorem dX6_times_57 : decode cX6_times 57 = .ok (.lreturn, 1) := by decide +kernel
theorem dX6_power_0 : decode cX6_power 0 = .ok (.lconst 1, 1) := by decide +kernel
theorem dX6_power_1 : decode cX6_power 1 = .ok (.lstore 6, 2) := by decide +kernel
theorem dX6_power_3 : decode cX6_power 3 = .ok (.lload_n 2, 1) := by decide +kernel
theorem dX6_power_4 : decode cX6_power 4 = .ok (.lstore 8, 2) := by decide +kernel
theorem dX6_power_6 : decode cX6_power 6 = .ok (.iconst 0, 1) := by decide +kernel
theorem dX6_power_7 : decode cX6_power 7 = .ok (.istore 10, 2) := by decide +kernel
theorem dX6_power_9 : decode cX6_power 9 = .ok (.iload 10, 2) := by decide +kernel
theorem dX6_power_11 : decode cX6_power 11 = .ok (.bipush 63, 2) := by decide +kernel
theorem dX6_power_13 : decode cX6_power 13 = .ok (.if_icmp .ge 43, 3) := by decide +kernel
theorem dX6_power_16 : decode cX6_power 16 = .ok (.lload 4, 2) := by decide +kernel
theorem dX6_power_18 : decode cX6_power 18 = .ok (.iload 10, 2) := by decide +kernel
theorem dX6_power_20 : decode cX6_power 20 = .ok (.lshr, 1) := by decide +kernel
theorem dX6_power_21 : decode cX6_power 21 = .ok (.lconst 1, 1) := by decide +kernel
theorem dX6_power_22 : decode cX6_power 22 = .ok (.land, 1) := by decide +kernel
theorem dX6_power_23 : decode cX6_power 23 = .ok (.lconst 1, 1) := by decide +kernel
theorem dX6_power_24 : decode cX6_power 24 = .ok (.lcmp, 1) := by decide +kernel
theorem dX6_power_25 : decode cX6_power 25 = .ok (.ifCond .ne 14, 3) := by decide +kernel
theorem dX6_power_28 : decode cX6_power 28 = .ok (.aload_n 0, 1) := by decide +kernel
theorem dX6_power_29 : decode cX6_power 29 = .ok (.iload_n 1, 1) := by decide +kernel
theorem dX6_power_30 : decode cX6_power 30 = .ok (.lload 6, 2) := by decide +kernel
theorem dX6_power_32 : decode cX6_power 32 = .ok (.lload 8, 2) := by decide +kernel
theorem dX6_power_34 : decode cX6_power 34 = .ok (.invokevirtual 76, 3) := by decide +kernel
theorem dX6_power_37 : decode cX6_power 37 = .ok (.lstore 6, 2) := by decide +kernel
theorem dX6_power_39 : decode cX6_power 39 = .ok (.aload_n 0, 1) := by decide +kernel
theorem dX6_power_40 : decode cX6_power 40 = .ok (.iload_n 1, 1) := by decide +kernel
theorem dX6_power_41 : decode cX6_power 41 = .ok (.lload 8, 2) := by decide +kernel
theorem dX6_power_43 : decode cX6_power 43 = .ok (.lload 8, 2) := by decide +kernel
theorem dX6_power_45 : decode cX6_power 45 = .ok (.invokevirtual 76, 3) := by decide +kernel
theorem dX6_power_48 : decode cX6_power 48 = .ok (.lstore 8, 2) := by decide +kernel
theorem dX6_power_50 : decode cX6_power 50 = .ok (.iinc 10 1, 3) := by decide +kernel
theorem dX6_power_53 : decode cX6_power 53 = .ok (.goto (-44), 3) := by decide +kernel
theorem dX6_power_56 : decode cX6_power 56 = .ok (.lload 6, 2) := by decide +kernel
theorem dX6_power_58 : decode cX6_power 58 = .ok (.lreturn, 1) := by decide +kernel
theorem dX6_moved_0 : decode cX6_moved 0 = .ok (.lconst 1, 1) := by decide +kernel
theorem dX6_moved_1 : decode cX6_moved 1 = .ok (.lstore 6, 2) := by decide +kernel
theorem dX6_moved_3 : decode cX6_moved 3 = .ok (.iconst 0, 1) := by decide +kernel
theorem dX6_moved_4 : decode cX6_moved 4 = .ok (.istore 8, 2) := by decide +kernel
theorem dX6_moved_6 : decode cX6_moved 6 = .ok (.iload 8, 2) := by decide +kernel
theorem dX6_moved_8 : decode cX6_moved 8 = .ok (.bipush 8, 2) := by decide +kernel
theorem dX6_moved_10 : decode cX6_moved 10 = .ok (.if_icmp .ge 18, 3) := by decide +kernel
theorem dX6_moved_13 : decode cX6_moved 13 = .ok (.aload_n 0, 1) := by decide +kernel
theorem dX6_moved_14 : decode cX6_moved 14 = .ok (.iload_n 1, 1) := by decide +kernel
theorem dX6_moved_15 : decode cX6_moved 15 = .ok (.lload 6, 2) := by decide +kernel
theorem dX6_moved_17 : decode cX6_moved 17 = .ok (.invokevirtual 72, 3) := by decide +kernel
theorem dX6_moved_20 : decode cX6_moved 20 = .ok (.lstore 6, 2) := by decide +kernel
theorem dX6_moved_22 : decode cX6_moved 22 = .ok (.iinc 8 1, 3) := by decide +kernel
theorem dX6_moved_25 : decode cX6_moved 25 = .ok (.goto (-19), 3) := by decide +kernel
theorem dX6_moved_28 : decode cX6_moved 28 = .ok (.aload_n 0, 1) := by decide +kernel
theorem dX6_moved_29 : decode cX6_moved 29 = .ok (.iload_n 1, 1) := by decide +kernel
theorem dX6_moved_30 : decode cX6_moved 30 = .ok (.lload_n 2, 1) := by decide +kernel
theorem dX6_moved_31 : decode cX6_moved 31 = .ok (.aload_n 0, 1) := by decide +kernel
theorem dX6_moved_32 : decode cX6_moved 32 = .ok (.iload_n 1, 1) := by decide +kernel
theorem dX6_moved_33 : decode cX6_moved 33 = .ok (.lload 6, 2) := by decide +kernel
theorem dX6_moved_35 : decode cX6_moved 35 = .ok (.lload 4, 2) := by decide +kernel
theorem dX6_moved_37 : decode cX6_moved 37 = .ok (.invokevirtual 80, 3) := by decide +kernel
theorem dX6_moved_40 : decode cX6_moved 40 = .ok (.invokevirtual 76, 3) := by decide +kernel
theorem dX6_moved_43 : decode cX6_moved 43 = .ok (.lreturn, 1) := by decide +kernel
theorem dX6_taken_0 : decode cX6_taken 0 = .ok (.lload_n 2, 1) := by decide +kernel
theorem dX6_taken_1 : decode cX6_taken 1 = .ok (.lstore 5, 2) := by decide +kernel
theorem dX6_taken_3 : decode cX6_taken 3 = .ok (.iconst 0, 1) := by decide +kernel
theorem dX6_taken_4 : decode cX6_taken 4 = .ok (.istore 7, 2) := by decide +kernel
theorem dX6_taken_6 : decode cX6_taken 6 = .ok (.iload 7, 2) := by decide +kernel
theorem dX6_taken_8 : decode cX6_taken 8 = .ok (.bipush 8, 2) := by decide +kernel
theorem dX6_taken_10 : decode cX6_taken 10 = .ok (.if_icmp .ge 71, 3) := by decide +kernel
theorem dX6_taken_13 : decode cX6_taken 13 = .ok (.aload_n 0, 1) := by decide +kernel
theorem dX6_taken_14 : decode cX6_taken 14 = .ok (.getfield 23, 3) := by decide +kernel
theorem dX6_taken_17 : decode cX6_taken 17 = .ok (.iload_n 1, 1) := by decide +kernel
theorem dX6_taken_18 : decode cX6_taken 18 = .ok (.baload, 1) := by decide +kernel
theorem dX6_taken_19 : decode cX6_taken 19 = .ok (.ifCond .eq 13, 3) := by decide +kernel
theorem dX6_taken_22 : decode cX6_taken 22 = .ok (.iload 4, 2) := by decide +kernel
theorem dX6_taken_24 : decode cX6_taken 24 = .ok (.iload 7, 2) := by decide +kernel
theorem dX6_taken_26 : decode cX6_taken 26 = .ok (.ishr, 1) := by decide +kernel
theorem dX6_taken_27 : decode cX6_taken 27 = .ok (.iconst 1, 1) := by decide +kernel
theorem dX6_taken_28 : decode cX6_taken 28 = .ok (.iand, 1) := by decide +kernel
theorem dX6_taken_29 : decode cX6_taken 29 = .ok (.goto 13, 3) := by decide +kernel
theorem dX6_taken_32 : decode cX6_taken 32 = .ok (.iload 4, 2) := by decide +kernel
theorem dX6_taken_34 : decode cX6_taken 34 = .ok (.bipush 7, 2) := by decide +kernel
theorem dX6_taken_36 : decode cX6_taken 36 = .ok (.iload 7, 2) := by decide +kernel
theorem dX6_taken_38 : decode cX6_taken 38 = .ok (.isub, 1) := by decide +kernel
theorem dX6_taken_39 : decode cX6_taken 39 = .ok (.ishr, 1) := by decide +kernel
theorem dX6_taken_40 : decode cX6_taken 40 = .ok (.iconst 1, 1) := by decide +kernel
theorem dX6_taken_41 : decode cX6_taken 41 = .ok (.iand, 1) := by decide +kernel
theorem dX6_taken_42 : decode cX6_taken 42 = .ok (.istore 8, 2) := by decide +kernel
theorem dX6_taken_44 : decode cX6_taken 44 = .ok (.aload_n 0, 1) := by decide +kernel
theorem dX6_taken_45 : decode cX6_taken 45 = .ok (.iload_n 1, 1) := by decide +kernel
theorem dX6_taken_46 : decode cX6_taken 46 = .ok (.iload 8, 2) := by decide +kernel
theorem dX6_taken_48 : decode cX6_taken 48 = .ok (.iconst 1, 1) := by decide +kernel
theorem dX6_taken_49 : decode cX6_taken 49 = .ok (.if_icmp .ne 19, 3) := by decide +kernel
theorem dX6_taken_52 : decode cX6_taken 52 = .ok (.lload 5, 2) := by decide +kernel
theorem dX6_taken_54 : decode cX6_taken 54 = .ok (.lconst 1, 1) := by decide +kernel
theorem dX6_taken_55 : decode cX6_taken 55 = .ok (.aload_n 0, 1) := by decide +kernel
theorem dX6_taken_56 : decode cX6_taken 56 = .ok (.getfield 7, 3) := by decide +kernel
theorem dX6_taken_59 : decode cX6_taken 59 = .ok (.iload_n 1, 1) := by decide +kernel
theorem dX6_taken_60 : decode cX6_taken 60 = .ok (.iaload, 1) := by decide +kernel
theorem dX6_taken_61 : decode cX6_taken 61 = .ok (.iconst 1, 1) := by decide +kernel
theorem dX6_taken_62 : decode cX6_taken 62 = .ok (.isub, 1) := by decide +kernel
theorem dX6_taken_63 : decode cX6_taken 63 = .ok (.lshl, 1) := by decide +kernel
theorem dX6_taken_64 : decode cX6_taken 64 = .ok (.lxor, 1) := by decide +kernel
theorem dX6_taken_65 : decode cX6_taken 65 = .ok (.goto 5, 3) := by decide +kernel
theorem dX6_taken_68 : decode cX6_taken 68 = .ok (.lload 5, 2) := by decide +kernel
theorem dX6_taken_70 : decode cX6_taken 70 = .ok (.invokevirtual 72, 3) := by decide +kernel
theorem dX6_taken_73 : decode cX6_taken 73 = .ok (.lstore 5, 2) := by decide +kernel
theorem dX6_taken_75 : decode cX6_taken 75 = .ok (.iinc 7 1, 3) := by decide +kernel
theorem dX6_taken_78 : decode cX6_taken 78 = .ok (.goto (-72), 3) := by decide +kernel
theorem dX6_taken_81 : decode cX6_taken 81 = .ok (.lload 5, 2) := by decide +kernel
theorem dX6_taken_83 : decode cX6_taken 83 = .ok (.lreturn, 1) := by decide +kernel
theorem dX6_told_0 : decode cX6_told 0 = .ok (.aload_n 0, 1) := by decide +kernel
theorem dX6_told_1 : decode cX6_told 1 = .ok (.getfield 27, 3) := by decide +kernel
theorem dX6_told_4 : decode cX6_told 4 = .ok (.iload_n 1, 1) := by decide +kernel
theorem dX6_told_5 : decode cX6_told 5 = .ok (.baload, 1) := by decide +kernel
theorem dX6_told_6 : decode cX6_told 6 = .ok (.ifCond .eq 16, 3) := by decide +kernel
theorem dX6_told_9 : decode cX6_told 9 = .ok (.lload_n 2, 1) := by decide +kernel
theorem dX6_told_10 : decode cX6_told 10 = .ok (.aload_n 0, 1) := by decide +kernel
theorem dX6_told_11 : decode cX6_told 11 = .ok (.getfield 7, 3) := by decide +kernel
theorem dX6_told_14 : decode cX6_told 14 = .ok (.iload_n 1, 1) := by decide +kernel
theorem dX6_told_15 : decode cX6_told 15 = .ok (.iaload, 1) := by decide +kernel
theorem dX6_told_16 : decode cX6_told 16 = .ok (.invokestatic 83, 3) := by decide +kernel
theorem dX6_told_19 : decode cX6_told 19 = .ok (.goto 4, 3) := by decide +kernel
theorem dX6_told_22 : decode cX6_told 22 = .ok (.lload_n 2, 1) := by decide +kernel
theorem dX6_told_23 : decode cX6_told 23 = .ok (.aload_n 0, 1) := by decide +kernel
theorem dX6_told_24 : decode cX6_told 24 = .ok (.getfield 20, 3) := by decide +kernel
theorem dX6_told_27 : decode cX6_told 27 = .ok (.iload_n 1, 1) := by decide +kernel
theorem dX6_told_28 : decode cX6_told 28 = .ok (.laload, 1) := by decide +kernel
theorem dX6_told_29 : decode cX6_told 29 = .ok (.lxor, 1) := by decide +kernel
theorem dX6_told_30 : decode cX6_told 30 = .ok (.lreturn, 1) := by decide +kernel
theorem dX6_register_0 : decode cX6_register 0 = .ok (.lload_n 2, 1) := by decide +kernel
theorem dX6_register_1 : decode cX6_register 1 = .ok (.aload_n 0, 1) := by decide +kernel
theorem dX6_register_2 : decode cX6_register 2 = .ok (.getfield 20, 3) := by decide +kernel
theorem dX6_register_5 : decode cX6_register 5 = .ok (.iload_n 1, 1) := by decide +kernel
theorem dX6_register_6 : decode cX6_register 6 = .ok (.laload, 1) := by decide +kernel
theorem dX6_register_7 : decode cX6_register 7 = .ok (.lxor, 1) := by decide +kernel
theorem dX6_register_8 : decode cX6_register 8 = .ok (.lstore 4, 2) := by decide +kernel
theorem dX6_register_10 : decode cX6_register 10 = .ok (.aload_n 0, 1) := by decide +kernel
theorem dX6_register_11 : decode cX6_register 11 = .ok (.getfield 27, 3) := by decide +kernel
theorem dX6_register_14 : decode cX6_register 14 = .ok (.iload_n 1, 1) := by decide +kernel
theorem dX6_register_15 : decode cX6_register 15 = .ok (.baload, 1) := by decide +kernel
theorem dX6_register_16 : decode cX6_register 16 = .ok (.ifCond .eq 17, 3) := by decide +kernel
theorem dX6_register_19 : decode cX6_register 19 = .ok (.lload 4, 2) := by decide +kernel
theorem dX6_register_21 : decode cX6_register 21 = .ok (.aload_n 0, 1) := by decide +kernel
theorem dX6_register_22 : decode cX6_register 22 = .ok (.getfield 7, 3) := by decide +kernel
theorem dX6_register_25 : decode cX6_register 25 = .ok (.iload_n 1, 1) := by decide +kernel
theorem dX6_register_26 : decode cX6_register 26 = .ok (.iaload, 1) := by decide +kernel
theorem dX6_register_27 : decode cX6_register 27 = .ok (.invokestatic 83, 3) := by decide +kernel
theorem dX6_register_30 : decode cX6_register 30 = .ok (.goto 5, 3) := by decide +kernel
theorem dX6_register_33 : decode cX6_register 33 = .ok (.lload 4, 2) := by decide +kernel
theorem dX6_register_35 : decode cX6_register 35 = .ok (.lreturn, 1) := by decide +kernel
theorem dX6_isSpan_0 : decode cX6_isSpan 0 = .ok (.iload_n 1, 1) := by decide +kernel
theorem dX6_isSpan_1 : decode cX6_isSpan 1 = .ok (.ifCond .lt 20, 3) := by decide +kernel
theorem dX6_isSpan_4 : decode cX6_isSpan 4 = .ok (.iload_n 1, 1) := by decide +kernel
theorem dX6_isSpan_5 : decode cX6_isSpan 5 = .ok (.iload_n 2, 1) := by decide +kernel
theorem dX6_isSpan_6 : decode cX6_isSpan 6 = .ok (.if_icmp .gt 15, 3) := by decide +kernel
theorem dX6_isSpan_9 : decode cX6_isSpan 9 = .ok (.iload_n 2, 1) := by decide +kernel
theorem dX6_isSpan_10 : decode cX6_isSpan 10 = .ok (.aload_n 0, 1) := by decide +kernel
theorem dX6_isSpan_11 : decode cX6_isSpan 11 = .ok (.getfield 63, 3) := by decide +kernel
theorem dX6_isSpan_14 : decode cX6_isSpan 14 = .ok (.if_icmp .gt 7, 3) := by decide +kernel
theorem dX6_isSpan_17 : decode cX6_isSpan 17 = .ok (.iconst 1, 1) := by decide +kernel
theorem dX6_isSpan_18 : decode cX6_isSpan 18 = .ok (.goto 4, 3) := by decide +kernel
theorem dX6_isSpan_21 : decode cX6_isSpan 21 = .ok (.iconst 0, 1) := by decide +kernel
theorem dX6_isSpan_22 : decode cX6_isSpan 22 = .ok (.ireturn, 1) := by decide +kernel
theorem dX6_sum_0 : decode cX6_sum 0 = .ok (.aload_n 0, 1) := by decide +kernel
theorem dX6_sum_1 : decode cX6_sum 1 = .ok (.iload_n 1, 1) := by decide +kernel
theorem dX6_sum_2 : decode cX6_sum 2 = .ok (.invokevirtual 68, 3) := by decide +kernel
theorem dX6_sum_5 : decode cX6_sum 5 = .ok (.ifCond .eq 12, 3) := by decide +kernel
theorem dX6_sum_8 : decode cX6_sum 8 = .ok (.aload_n 0, 1) := by decide +kernel
theorem dX6_sum_9 : decode cX6_sum 9 = .ok (.iload_n 2, 1) := by decide +kernel
theorem dX6_sum_10 : decode cX6_sum 10 = .ok (.iload_n 3, 1) := by decide +kernel
theorem dX6_sum_11 : decode cX6_sum 11 = .ok (.invokevirtual 87, 3) := by decide +kernel
theorem dX6_sum_14 : decode cX6_sum 14 = .ok (.ifCond .ne 7, 3) := by decide +kernel
theorem dX6_sum_17 : decode cX6_sum 17 = .ok (.ldc2_w 91, 3) := by decide +kernel
theorem dX6_sum_20 : decode cX6_sum 20 = .ok (.lreturn, 1) := by decide +kernel
theorem dX6_sum_21 : decode cX6_sum 21 = .ok (.aload_n 0, 1) := by decide +kernel
theorem dX6_sum_22 : decode cX6_sum 22 = .ok (.getfield 17, 3) := by decide +kernel
theorem dX6_sum_25 : decode cX6_sum 25 = .ok (.iload_n 1, 1) := by decide +kernel
theorem dX6_sum_26 : decode cX6_sum 26 = .ok (.laload, 1) := by decide +kernel
theorem dX6_sum_27 : decode cX6_sum 27 = .ok (.lstore 4, 2) := by decide +kernel
theorem dX6_sum_29 : decode cX6_sum 29 = .ok (.iload_n 2, 1) := by decide +kernel
theorem dX6_sum_30 : decode cX6_sum 30 = .ok (.istore 6, 2) := by decide +kernel
theorem dX6_sum_32 : decode cX6_sum 32 = .ok (.iload 6, 2) := by decide +kernel
theorem dX6_sum_34 : decode cX6_sum 34 = .ok (.iload_n 3, 1) := by decide +kernel
theorem dX6_sum_35 : decode cX6_sum 35 = .ok (.if_icmp .ge 25, 3) := by decide +kernel
theorem dX6_sum_38 : decode cX6_sum 38 = .ok (.aload_n 0, 1) := by decide +kernel
theorem dX6_sum_39 : decode cX6_sum 39 = .ok (.iload_n 1, 1) := by decide +kernel
theorem dX6_sum_40 : decode cX6_sum 40 = .ok (.lload 4, 2) := by decide +kernel
theorem dX6_sum_42 : decode cX6_sum 42 = .ok (.aload_n 0, 1) := by decide +kernel
theorem dX6_sum_43 : decode cX6_sum 43 = .ok (.getfield 30, 3) := by decide +kernel
theorem dX6_sum_46 : decode cX6_sum 46 = .ok (.iload 6, 2) := by decide +kernel
theorem dX6_sum_48 : decode cX6_sum 48 = .ok (.iaload, 1) := by decide +kernel
theorem dX6_sum_49 : decode cX6_sum 49 = .ok (.invokevirtual 93, 3) := by decide +kernel
theorem dX6_sum_52 : decode cX6_sum 52 = .ok (.lstore 4, 2) := by decide +kernel
theorem dX6_sum_54 : decode cX6_sum 54 = .ok (.iinc 6 1, 3) := by decide +kernel
theorem dX6_sum_57 : decode cX6_sum 57 = .ok (.goto (-25), 3) := by decide +kernel
theorem dX6_sum_60 : decode cX6_sum 60 = .ok (.aload_n 0, 1) := by decide +kernel
theorem dX6_sum_61 : decode cX6_sum 61 = .ok (.iload_n 1, 1) := by decide +kernel
theorem dX6_sum_62 : decode cX6_sum 62 = .ok (.lload 4, 2) := by decide +kernel
theorem dX6_sum_64 : decode cX6_sum 64 = .ok (.invokevirtual 97, 3) := by decide +kernel
theorem dX6_sum_67 : decode cX6_sum 67 = .ok (.lreturn, 1) := by decide +kernel
theorem dX6_isFar_0 : decode cX6_isFar 0 = .ok (.lload_n 0, 1) := by decide +kernel
theorem dX6_isFar_1 : decode cX6_isFar 1 = .ok (.lconst 0, 1) := by decide +kernel
theorem dX6_isFar_2 : decode cX6_isFar 2 = .ok (.lcmp, 1) := by decide +kernel
theorem dX6_isFar_3 : decode cX6_isFar 3 = .ok (.ifCond .lt 15, 3) := by decide +kernel
theorem dX6_isFar_6 : decode cX6_isFar 6 = .ok (.lload_n 0, 1) := by decide +kernel
theorem dX6_isFar_7 : decode cX6_isFar 7 = .ok (.ldc2_w 100, 3) := by decide +kernel
theorem dX6_isFar_10 : decode cX6_isFar 10 = .ok (.lcmp, 1) := by decide +kernel
theorem dX6_isFar_11 : decode cX6_isFar 11 = .ok (.ifCond .gt 7, 3) := by decide +kernel
theorem dX6_isFar_14 : decode cX6_isFar 14 = .ok (.iconst 1, 1) := by decide +kernel
theorem dX6_isFar_15 : decode cX6_isFar 15 = .ok (.goto 4, 3) := by decide +kernel
theorem dX6_isFar_18 : decode cX6_isFar 18 = .ok (.iconst 0, 1) := by decide +kernel
theorem dX6_isFar_19 : decode cX6_isFar 19 = .ok (.ireturn, 1) := by decide +kernel
theorem dX6_joined_0 : decode cX6_joined 0 = .ok (.aload_n 0, 1) := by decide +kernel
theorem dX6_joined_1 : decode cX6_joined 1 = .ok (.iload_n 1, 1) := by decide +kernel
theorem dX6_joined_2 : decode cX6_joined 2 = .ok (.lload_n 2, 1) := by decide +kernel
theorem dX6_joined_3 : decode cX6_joined 3 = .ok (.invokevirtual 102, 3) := by decide +kernel
theorem dX6_joined_6 : decode cX6_joined 6 = .ok (.ifCond .eq 21, 3) := by decide +kernel
theorem dX6_joined_9 : decode cX6_joined 9 = .ok (.aload_n 0, 1) := by decide +kernel
theorem dX6_joined_10 : decode cX6_joined 10 = .ok (.iload_n 1, 1) := by decide +kernel
theorem dX6_joined_11 : decode cX6_joined 11 = .ok (.lload 4, 2) := by decide +kernel
theorem dX6_joined_13 : decode cX6_joined 13 = .ok (.invokevirtual 102, 3) := by decide +kernel
theorem dX6_joined_16 : decode cX6_joined 16 = .ok (.ifCond .eq 11, 3) := by decide +kernel
theorem dX6_joined_19 : decode cX6_joined 19 = .ok (.lload 6, 2) := by decide +kernel
theorem dX6_joined_21 : decode cX6_joined 21 = .ok (.invokestatic 105, 3) := by decide +kernel
theorem dX6_joined_24 : decode cX6_joined 24 = .ok (.ifCond .ne 7, 3) := by decide +kernel
theorem dX6_joined_27 : decode cX6_joined 27 = .ok (.ldc2_w 91, 3) := by decide +kernel
theorem dX6_joined_30 : decode cX6_joined 30 = .ok (.lreturn, 1) := by decide +kernel
theorem dX6_joined_31 : decode cX6_joined 31 = .ok (.aload_n 0, 1) := by decide +kernel
theorem dX6_joined_32 : decode cX6_joined 32 = .ok (.iload_n 1, 1) := by decide +kernel
theorem dX6_joined_33 : decode cX6_joined 33 = .ok (.aload_n 0, 1) := by decide +kernel
theorem dX6_joined_34 : decode cX6_joined 34 = .ok (.iload_n 1, 1) := by decide +kernel
theorem dX6_joined_35 : decode cX6_joined 35 = .ok (.lload 4, 2) := by decide +kernel
theorem dX6_joined_37 : decode cX6_joined 37 = .ok (.invokevirtual 109, 3) := by decide +kernel
theorem dX6_joined_40 : decode cX6_joined 40 = .ok (.aload_n 0, 1) := by decide +kernel
theorem dX6_joined_41 : decode cX6_joined 41 = .ok (.iload_n 1, 1) := by decide +kernel
theorem dX6_joined_42 : decode cX6_joined 42 = .ok (.aload_n 0, 1) := by decide +kernel
theorem dX6_joined_43 : decode cX6_joined 43 = .ok (.iload_n 1, 1) := by decide +kernel
theorem dX6_joined_44 : decode cX6_joined 44 = .ok (.lload_n 2, 1) := by decide +kernel
theorem dX6_joined_45 : decode cX6_joined 45 = .ok (.invokevirtual 109, 3) := by decide +kernel
theorem dX6_joined_48 : decode cX6_joined 48 = .ok (.aload_n 0, 1) := by decide +kernel
theorem dX6_joined_49 : decode cX6_joined 49 = .ok (.getfield 17, 3) := by decide +kernel
theorem dX6_joined_52 : decode cX6_joined 52 = .ok (.iload_n 1, 1) := by decide +kernel
theorem dX6_joined_53 : decode cX6_joined 53 = .ok (.laload, 1) := by decide +kernel
theorem dX6_joined_54 : decode cX6_joined 54 = .ok (.lxor, 1) := by decide +kernel
theorem dX6_joined_55 : decode cX6_joined 55 = .ok (.lload 6, 2) := by decide +kernel
theorem dX6_joined_57 : decode cX6_joined 57 = .ok (.invokevirtual 112, 3) := by decide +kernel
theorem dX6_joined_60 : decode cX6_joined 60 = .ok (.lxor, 1) := by decide +kernel
theorem dX6_joined_61 : decode cX6_joined 61 = .ok (.invokevirtual 97, 3) := by decide +kernel
theorem dX6_joined_64 : decode cX6_joined 64 = .ok (.lreturn, 1) := by decide +kernel
theorem dX6_zeros_0 : decode cX6_zeros 0 = .ok (.aload_n 0, 1) := by decide +kernel
theorem dX6_zeros_1 : decode cX6_zeros 1 = .ok (.iload_n 1, 1) := by decide +kernel
theorem dX6_zeros_2 : decode cX6_zeros 2 = .ok (.lload_n 2, 1) := by decide +kernel
theorem dX6_zeros_3 : decode cX6_zeros 3 = .ok (.invokevirtual 102, 3) := by decide +kernel
theorem dX6_zeros_6 : decode cX6_zeros 6 = .ok (.ifCond .eq 32, 3) := by decide +kernel
theorem dX6_zeros_9 : decode cX6_zeros 9 = .ok (.lload 4, 2) := by decide +kernel
theorem dX6_zeros_11 : decode cX6_zeros 11 = .ok (.invokestatic 105, 3) := by decide +kernel
theorem dX6_zeros_14 : decode cX6_zeros 14 = .ok (.ifCond .eq 24, 3) := by decide +kernel
theorem dX6_zeros_17 : decode cX6_zeros 17 = .ok (.aload_n 0, 1) := by decide +kernel
theorem dX6_zeros_18 : decode cX6_zeros 18 = .ok (.iload_n 1, 1) := by decide +kernel
theorem dX6_zeros_19 : decode cX6_zeros 19 = .ok (.aload_n 0, 1) := by decide +kernel
theorem dX6_zeros_20 : decode cX6_zeros 20 = .ok (.iload_n 1, 1) := by decide +kernel
theorem dX6_zeros_21 : decode cX6_zeros 21 = .ok (.aload_n 0, 1) := by decide +kernel
theorem dX6_zeros_22 : decode cX6_zeros 22 = .ok (.iload_n 1, 1) := by decide +kernel
theorem dX6_zeros_23 : decode cX6_zeros 23 = .ok (.lload_n 2, 1) := by decide +kernel
theorem dX6_zeros_24 : decode cX6_zeros 24 = .ok (.invokevirtual 109, 3) := by decide +kernel
theorem dX6_zeros_27 : decode cX6_zeros 27 = .ok (.lload 4, 2) := by decide +kernel
theorem dX6_zeros_29 : decode cX6_zeros 29 = .ok (.invokevirtual 112, 3) := by decide +kernel
theorem dX6_zeros_32 : decode cX6_zeros 32 = .ok (.invokevirtual 97, 3) := by decide +kernel
theorem dX6_zeros_35 : decode cX6_zeros 35 = .ok (.goto 6, 3) := by decide +kernel
theorem dX6_zeros_38 : decode cX6_zeros 38 = .ok (.ldc2_w 91, 3) := by decide +kernel
theorem dX6_zeros_41 : decode cX6_zeros 41 = .ok (.lreturn, 1) := by decide +kernel
theorem dX6_changed_0 : decode cX6_changed 0 = .ok (.aload_n 0, 1) := by decide +kernel
theorem dX6_changed_1 : decode cX6_changed 1 = .ok (.iload_n 1, 1) := by decide +kernel
theorem dX6_changed_2 : decode cX6_changed 2 = .ok (.lload_n 2, 1) := by decide +kernel
theorem dX6_changed_3 : decode cX6_changed 3 = .ok (.invokevirtual 102, 3) := by decide +kernel
theorem dX6_changed_6 : decode cX6_changed 6 = .ok (.ifCond .eq 24, 3) := by decide +kernel
theorem dX6_changed_9 : decode cX6_changed 9 = .ok (.lload 4, 2) := by decide +kernel
theorem dX6_changed_11 : decode cX6_changed 11 = .ok (.invokestatic 105, 3) := by decide +kernel
theorem dX6_changed_14 : decode cX6_changed 14 = .ok (.ifCond .eq 16, 3) := by decide +kernel
theorem dX6_changed_17 : decode cX6_changed 17 = .ok (.iload 6, 2) := by decide +kernel
theorem dX6_changed_19 : decode cX6_changed 19 = .ok (.ifCond .lt 11, 3) := by decide +kernel
theorem dX6_changed_22 : decode cX6_changed 22 = .ok (.iload 6, 2) := by decide +kernel
theorem dX6_changed_24 : decode cX6_changed 24 = .ok (.sipush 255, 3) := by decide +kernel
theorem dX6_changed_27 : decode cX6_changed 27 = .ok (.if_icmp .le 7, 3) := by decide +kernel
theorem dX6_changed_30 : decode cX6_changed 30 = .ok (.ldc2_w 91, 3) := by decide +kernel
theorem dX6_changed_33 : decode cX6_changed 33 = .ok (.lreturn, 1) := by decide +kernel
theorem dX6_changed_34 : decode cX6_changed 34 = .ok (.aload_n 0, 1) := by decide +kernel
theorem dX6_changed_35 : decode cX6_changed 35 = .ok (.iload_n 1, 1) := by decide +kernel
theorem dX6_changed_36 : decode cX6_changed 36 = .ok (.aload_n 0, 1) := by decide +kernel
theorem dX6_changed_37 : decode cX6_changed 37 = .ok (.iload_n 1, 1) := by decide +kernel
theorem dX6_changed_38 : decode cX6_changed 38 = .ok (.lload_n 2, 1) := by decide +kernel
theorem dX6_changed_39 : decode cX6_changed 39 = .ok (.invokevirtual 109, 3) := by decide +kernel
theorem dX6_changed_42 : decode cX6_changed 42 = .ok (.aload_n 0, 1) := by decide +kernel
theorem dX6_changed_43 : decode cX6_changed 43 = .ok (.iload_n 1, 1) := by decide +kernel
theorem dX6_changed_44 : decode cX6_changed 44 = .ok (.aload_n 0, 1) := by decide +kernel
theorem dX6_changed_45 : decode cX6_changed 45 = .ok (.iload_n 1, 1) := by decide +kernel
theorem dX6_changed_46 : decode cX6_changed 46 = .ok (.lconst 0, 1) := by decide +kernel
theorem dX6_changed_47 : decode cX6_changed 47 = .ok (.iload 6, 2) := by decide +kernel
theorem dX6_changed_49 : decode cX6_changed 49 = .ok (.invokevirtual 93, 3) := by decide +kernel
theorem dX6_changed_52 : decode cX6_changed 52 = .ok (.lload 4, 2) := by decide +kernel
theorem dX6_changed_54 : decode cX6_changed 54 = .ok (.invokevirtual 112, 3) := by decide +kernel
theorem dX6_changed_57 : decode cX6_changed 57 = .ok (.lxor, 1) := by decide +kernel
theorem dX6_changed_58 : decode cX6_changed 58 = .ok (.invokevirtual 97, 3) := by decide +kernel
theorem dX6_changed_61 : decode cX6_changed 61 = .ok (.lreturn, 1) := by decide +kernel
theorem dX6_tail_0 : decode cX6_tail 0 = .ok (.aload_n 0, 1) := by decide +kernel
theorem dX6_tail_1 : decode cX6_tail 1 = .ok (.iload_n 1, 1) := by decide +kernel
theorem dX6_tail_2 : decode cX6_tail 2 = .ok (.lload_n 2, 1) := by decide +kernel
theorem dX6_tail_3 : decode cX6_tail 3 = .ok (.invokevirtual 102, 3) := by decide +kernel
theorem dX6_tail_6 : decode cX6_tail 6 = .ok (.ifCond .eq 25, 3) := by decide +kernel
theorem dX6_tail_9 : decode cX6_tail 9 = .ok (.aload_n 0, 1) := by decide +kernel
theorem dX6_tail_10 : decode cX6_tail 10 = .ok (.iload_n 1, 1) := by decide +kernel
theorem dX6_tail_11 : decode cX6_tail 11 = .ok (.lload 4, 2) := by decide +kernel
theorem dX6_tail_13 : decode cX6_tail 13 = .ok (.invokevirtual 102, 3) := by decide +kernel
theorem dX6_tail_16 : decode cX6_tail 16 = .ok (.ifCond .eq 15, 3) := by decide +kernel
theorem dX6_tail_19 : decode cX6_tail 19 = .ok (.aload_n 0, 1) := by decide +kernel
theorem dX6_tail_20 : decode cX6_tail 20 = .ok (.getfield 7, 3) := by decide +kernel
theorem dX6_tail_23 : decode cX6_tail 23 = .ok (.iload_n 1, 1) := by decide +kernel
theorem dX6_tail_24 : decode cX6_tail 24 = .ok (.iaload, 1) := by decide +kernel
theorem dX6_tail_25 : decode cX6_tail 25 = .ok (.bipush 8, 2) := by decide +kernel
theorem dX6_tail_27 : decode cX6_tail 27 = .ok (.irem, 1) := by decide +kernel
theorem dX6_tail_28 : decode cX6_tail 28 = .ok (.ifCond .eq 7, 3) := by decide +kernel
theorem dX6_tail_31 : decode cX6_tail 31 = .ok (.ldc2_w 91, 3) := by decide +kernel
theorem dX6_tail_34 : decode cX6_tail 34 = .ok (.lreturn, 1) := by decide +kernel
theorem dX6_tail_35 : decode cX6_tail 35 = .ok (.aload_n 0, 1) := by decide +kernel
theorem dX6_tail_36 : decode cX6_tail 36 = .ok (.iload_n 1, 1) := by decide +kernel
theorem dX6_tail_37 : decode cX6_tail 37 = .ok (.lload 4, 2) := by decide +kernel
theorem dX6_tail_39 : decode cX6_tail 39 = .ok (.invokevirtual 109, 3) := by decide +kernel
theorem dX6_tail_42 : decode cX6_tail 42 = .ok (.lstore 6, 2) := by decide +kernel
theorem dX6_tail_44 : decode cX6_tail 44 = .ok (.iconst 0, 1) := by decide +kernel
theorem dX6_tail_45 : decode cX6_tail 45 = .ok (.istore 8, 2) := by decide +kernel
theorem dX6_tail_47 : decode cX6_tail 47 = .ok (.iload 8, 2) := by decide +kernel
theorem dX6_tail_49 : decode cX6_tail 49 = .ok (.aload_n 0, 1) := by decide +kernel
theorem dX6_tail_50 : decode cX6_tail 50 = .ok (.getfield 7, 3) := by decide +kernel
theorem dX6_tail_53 : decode cX6_tail 53 = .ok (.iload_n 1, 1) := by decide +kernel
theorem dX6_tail_54 : decode cX6_tail 54 = .ok (.iaload, 1) := by decide +kernel
theorem dX6_tail_55 : decode cX6_tail 55 = .ok (.if_icmp .ge 18, 3) := by decide +kernel
theorem dX6_tail_58 : decode cX6_tail 58 = .ok (.aload_n 0, 1) := by decide +kernel
theorem dX6_tail_59 : decode cX6_tail 59 = .ok (.iload_n 1, 1) := by decide +kernel
theorem dX6_tail_60 : decode cX6_tail 60 = .ok (.lload 6, 2) := by decide +kernel
theorem dX6_tail_62 : decode cX6_tail 62 = .ok (.invokevirtual 115, 3) := by decide +kernel
theorem dX6_tail_65 : decode cX6_tail 65 = .ok (.lstore 6, 2) := by decide +kernel
theorem dX6_tail_67 : decode cX6_tail 67 = .ok (.iinc 8 1, 3) := by decide +kernel
theorem dX6_tail_70 : decode cX6_tail 70 = .ok (.goto (-23), 3) := by decide +kernel
theorem dX6_tail_73 : decode cX6_tail 73 = .ok (.lload 6, 2) := by decide +kernel
theorem dX6_tail_75 : decode cX6_tail 75 = .ok (.aload_n 0, 1) := by decide +kernel
theorem dX6_tail_76 : decode cX6_tail 76 = .ok (.iload_n 1, 1) := by decide +kernel
theorem dX6_tail_77 : decode cX6_tail 77 = .ok (.lload_n 2, 1) := by decide +kernel
theorem dX6_tail_78 : decode cX6_tail 78 = .ok (.invokevirtual 109, 3) := by decide +kernel
theorem dX6_tail_81 : decode cX6_tail 81 = .ok (.lxor, 1) := by decide +kernel
theorem dX6_tail_82 : decode cX6_tail 82 = .ok (.lstore 8, 2) := by decide +kernel
theorem dX6_tail_84 : decode cX6_tail 84 = .ok (.lconst 0, 1) := by decide +kernel
theorem dX6_tail_85 : decode cX6_tail 85 = .ok (.lstore 10, 2) := by decide +kernel
theorem dX6_tail_87 : decode cX6_tail 87 = .ok (.aload_n 0, 1) := by decide +kernel
theorem dX6_tail_88 : decode cX6_tail 88 = .ok (.getfield 7, 3) := by decide +kernel
theorem dX6_tail_91 : decode cX6_tail 91 = .ok (.iload_n 1, 1) := by decide +kernel
theorem dX6_tail_92 : decode cX6_tail 92 = .ok (.iaload, 1) := by decide +kernel
theorem dX6_tail_93 : decode cX6_tail 93 = .ok (.bipush 8, 2) := by decide +kernel
theorem dX6_tail_95 : decode cX6_tail 95 = .ok (.isub, 1) := by decide +kernel
theorem dX6_tail_96 : decode cX6_tail 96 = .ok (.istore 12, 2) := by decide +kernel
theorem dX6_tail_98 : decode cX6_tail 98 = .ok (.iload 12, 2) := by decide +kernel
theorem dX6_tail_100 : decode cX6_tail 100 = .ok (.ifCond .lt 49, 3) := by decide +kernel
theorem dX6_tail_103 : decode cX6_tail 103 = .ok (.lload 8, 2) := by decide +kernel
theorem dX6_tail_105 : decode cX6_tail 105 = .ok (.iload 12, 2) := by decide +kernel
theorem dX6_tail_107 : decode cX6_tail 107 = .ok (.lshr, 1) := by decide +kernel
theorem dX6_tail_108 : decode cX6_tail 108 = .ok (.ldc2_w 66, 3) := by decide +kernel
theorem dX6_tail_111 : decode cX6_tail 111 = .ok (.land, 1) := by decide +kernel
theorem dX6_tail_112 : decode cX6_tail 112 = .ok (.lstore 13, 2) := by decide +kernel
theorem dX6_tail_114 : decode cX6_tail 114 = .ok (.lload 10, 2) := by decide +kernel
theorem dX6_tail_116 : decode cX6_tail 116 = .ok (.bipush 8, 2) := by decide +kernel
theorem dX6_tail_118 : decode cX6_tail 118 = .ok (.lshl, 1) := by decide +kernel
theorem dX6_tail_119 : decode cX6_tail 119 = .ok (.aload_n 0, 1) := by decide +kernel
theorem dX6_tail_120 : decode cX6_tail 120 = .ok (.getfield 23, 3) := by decide +kernel
theorem dX6_tail_123 : decode cX6_tail 123 = .ok (.iload_n 1, 1) := by decide +kernel
theorem dX6_tail_124 : decode cX6_tail 124 = .ok (.baload, 1) := by decide +kernel
theorem dX6_tail_125 : decode cX6_tail 125 = .ok (.ifCond .eq 13, 3) := by decide +kernel
theorem dX6_tail_128 : decode cX6_tail 128 = .ok (.lload 13, 2) := by decide +kernel
theorem dX6_tail_130 : decode cX6_tail 130 = .ok (.bipush 8, 2) := by decide +kernel
theorem dX6_tail_132 : decode cX6_tail 132 = .ok (.invokestatic 83, 3) := by decide +kernel
theorem dX6_tail_135 : decode cX6_tail 135 = .ok (.goto 5, 3) := by decide +kernel
theorem dX6_tail_138 : decode cX6_tail 138 = .ok (.lload 13, 2) := by decide +kernel
theorem dX6_tail_140 : decode cX6_tail 140 = .ok (.lor, 1) := by decide +kernel
theorem dX6_tail_141 : decode cX6_tail 141 = .ok (.lstore 10, 2) := by decide +kernel
theorem dX6_tail_143 : decode cX6_tail 143 = .ok (.iinc 12 (-8), 3) := by decide +kernel
theorem dX6_tail_146 : decode cX6_tail 146 = .ok (.goto (-48), 3) := by decide +kernel
theorem dX6_tail_149 : decode cX6_tail 149 = .ok (.lload 10, 2) := by decide +kernel
theorem dX6_tail_151 : decode cX6_tail 151 = .ok (.lreturn, 1) := by decide +kernel
theorem dX6_degree_0 : decode cX6_degree 0 = .ok (.iconst (-1), 1) := by decide +kernel
theorem dX6_degree_1 : decode cX6_degree 1 = .ok (.istore_n 2, 1) := by decide +kernel
theorem dX6_degree_2 : decode cX6_degree 2 = .ok (.iconst 0, 1) := by decide +kernel
theorem dX6_degree_3 : decode cX6_degree 3 = .ok (.istore_n 3, 1) := by decide +kernel
theorem dX6_degree_4 : decode cX6_degree 4 = .ok (.iload_n 3, 1) := by decide +kernel
theorem dX6_degree_5 : decode cX6_degree 5 = .ok (.bipush 34, 2) := by decide +kernel
theorem dX6_degree_7 : decode cX6_degree 7 = .ok (.if_icmp .ge 25, 3) := by decide +kernel
theorem dX6_degree_10 : decode cX6_degree 10 = .ok (.lload_n 0, 1) := by decide +kernel
theorem dX6_degree_11 : decode cX6_degree 11 = .ok (.iload_n 3, 1) := by decide +kernel
theorem dX6_degree_12 : decode cX6_degree 12 = .ok (.lshr, 1) := by decide +kernel
theorem dX6_degree_13 : decode cX6_degree 13 = .ok (.lconst 1, 1) := by decide +kernel
theorem dX6_degree_14 : decode cX6_degree 14 = .ok (.land, 1) := by decide +kernel
theorem dX6_degree_15 : decode cX6_degree 15 = .ok (.lconst 1, 1) := by decide +kernel
theorem dX6_degree_16 : decode cX6_degree 16 = .ok (.lcmp, 1) := by decide +kernel
theorem dX6_degree_17 : decode cX6_degree 17 = .ok (.ifCond .ne 7, 3) := by decide +kernel
theorem dX6_degree_20 : decode cX6_degree 20 = .ok (.iload_n 3, 1) := by decide +kernel
theorem dX6_degree_21 : decode cX6_degree 21 = .ok (.goto 4, 3) := by decide +kernel
theorem dX6_degree_24 : decode cX6_degree 24 = .ok (.iload_n 2, 1) := by decide +kernel
theorem dX6_degree_25 : decode cX6_degree 25 = .ok (.istore_n 2, 1) := by decide +kernel
theorem dX6_degree_26 : decode cX6_degree 26 = .ok (.iinc 3 1, 3) := by decide +kernel
theorem dX6_degree_29 : decode cX6_degree 29 = .ok (.goto (-25), 3) := by decide +kernel
theorem dX6_degree_32 : decode cX6_degree 32 = .ok (.iload_n 2, 1) := by decide +kernel
theorem dX6_degree_33 : decode cX6_degree 33 = .ok (.ireturn, 1) := by decide +kernel
theorem dX6_rest_0 : decode cX6_rest 0 = .ok (.lload_n 0, 1) := by decide +kernel
theorem dX6_rest_1 : decode cX6_rest 1 = .ok (.lstore 5, 2) := by decide +kernel
theorem dX6_rest_3 : decode cX6_rest 3 = .ok (.bipush 33, 2) := by decide +kernel
theorem dX6_rest_5 : decode cX6_rest 5 = .ok (.istore 7, 2) := by decide +kernel
theorem dX6_rest_7 : decode cX6_rest 7 = .ok (.iload 7, 2) := by decide +kernel
theorem dX6_rest_9 : decode cX6_rest 9 = .ok (.iload 4, 2) := by decide +kernel
theorem dX6_rest_11 : decode cX6_rest 11 = .ok (.if_icmp .lt 37, 3) := by decide +kernel
theorem dX6_rest_14 : decode cX6_rest 14 = .ok (.lload 5, 2) := by decide +kernel
theorem dX6_rest_16 : decode cX6_rest 16 = .ok (.lload 5, 2) := by decide +kernel
theorem dX6_rest_18 : decode cX6_rest 18 = .ok (.iload 7, 2) := by decide +kernel
theorem dX6_rest_20 : decode cX6_rest 20 = .ok (.lshr, 1) := by decide +kernel
theorem dX6_rest_21 : decode cX6_rest 21 = .ok (.lconst 1, 1) := by decide +kernel
theorem dX6_rest_22 : decode cX6_rest 22 = .ok (.land, 1) := by decide +kernel
theorem dX6_rest_23 : decode cX6_rest 23 = .ok (.lconst 1, 1) := by decide +kernel
theorem dX6_rest_24 : decode cX6_rest 24 = .ok (.lcmp, 1) := by decide +kernel
theorem dX6_rest_25 : decode cX6_rest 25 = .ok (.ifCond .ne 13, 3) := by decide +kernel
theorem dX6_rest_28 : decode cX6_rest 28 = .ok (.lload_n 2, 1) := by decide +kernel
theorem dX6_rest_29 : decode cX6_rest 29 = .ok (.iload 7, 2) := by decide +kernel
theorem dX6_rest_31 : decode cX6_rest 31 = .ok (.iload 4, 2) := by decide +kernel
theorem dX6_rest_33 : decode cX6_rest 33 = .ok (.isub, 1) := by decide +kernel
theorem dX6_rest_34 : decode cX6_rest 34 = .ok (.lshl, 1) := by decide +kernel
theorem dX6_rest_35 : decode cX6_rest 35 = .ok (.goto 4, 3) := by decide +kernel
theorem dX6_rest_38 : decode cX6_rest 38 = .ok (.lconst 0, 1) := by decide +kernel
theorem dX6_rest_39 : decode cX6_rest 39 = .ok (.lxor, 1) := by decide +kernel
theorem dX6_rest_40 : decode cX6_rest 40 = .ok (.lstore 5, 2) := by decide +kernel
theorem dX6_rest_42 : decode cX6_rest 42 = .ok (.iinc 7 (-1), 3) := by decide +kernel
theorem dX6_rest_45 : decode cX6_rest 45 = .ok (.goto (-38), 3) := by decide +kernel
theorem dX6_rest_48 : decode cX6_rest 48 = .ok (.lload 5, 2) := by decide +kernel
theorem dX6_rest_50 : decode cX6_rest 50 = .ok (.lreturn, 1) := by decide +kernel
theorem dX6_quotient_0 : decode cX6_quotient 0 = .ok (.lload_n 0, 1) := by decide +kernel
theorem dX6_quotient_1 : decode cX6_quotient 1 = .ok (.lstore 5, 2) := by decide +kernel
theorem dX6_quotient_3 : decode cX6_quotient 3 = .ok (.lconst 0, 1) := by decide +kernel
theorem dX6_quotient_4 : decode cX6_quotient 4 = .ok (.lstore 7, 2) := by decide +kernel
theorem dX6_quotient_6 : decode cX6_quotient 6 = .ok (.bipush 33, 2) := by decide +kernel
theorem dX6_quotient_8 : decode cX6_quotient 8 = .ok (.istore 9, 2) := by decide +kernel
theorem dX6_quotient_10 : decode cX6_quotient 10 = .ok (.iload 9, 2) := by decide +kernel
theorem dX6_quotient_12 : decode cX6_quotient 12 = .ok (.iload 4, 2) := by decide +kernel
theorem dX6_quotient_14 : decode cX6_quotient 14 = .ok (.if_icmp .lt 45, 3) := by decide +kernel
theorem dX6_quotient_17 : decode cX6_quotient 17 = .ok (.lload 5, 2) := by decide +kernel
theorem dX6_quotient_19 : decode cX6_quotient 19 = .ok (.iload 9, 2) := by decide +kernel
theorem dX6_quotient_21 : decode cX6_quotient 21 = .ok (.lshr, 1) := by decide +kernel
theorem dX6_quotient_22 : decode cX6_quotient 22 = .ok (.lconst 1, 1) := by decide +kernel
theorem dX6_quotient_23 : decode cX6_quotient 23 = .ok (.land, 1) := by decide +kernel
theorem dX6_quotient_24 : decode cX6_quotient 24 = .ok (.lconst 1, 1) := by decide +kernel
theorem dX6_quotient_25 : decode cX6_quotient 25 = .ok (.lcmp, 1) := by decide +kernel
theorem dX6_quotient_26 : decode cX6_quotient 26 = .ok (.ifCond .ne 27, 3) := by decide +kernel
theorem dX6_quotient_29 : decode cX6_quotient 29 = .ok (.lload 5, 2) := by decide +kernel
theorem dX6_quotient_31 : decode cX6_quotient 31 = .ok (.lload_n 2, 1) := by decide +kernel
theorem dX6_quotient_32 : decode cX6_quotient 32 = .ok (.iload 9, 2) := by decide +kernel
theorem dX6_quotient_34 : decode cX6_quotient 34 = .ok (.iload 4, 2) := by decide +kernel
theorem dX6_quotient_36 : decode cX6_quotient 36 = .ok (.isub, 1) := by decide +kernel
theorem dX6_quotient_37 : decode cX6_quotient 37 = .ok (.lshl, 1) := by decide +kernel
theorem dX6_quotient_38 : decode cX6_quotient 38 = .ok (.lxor, 1) := by decide +kernel
theorem dX6_quotient_39 : decode cX6_quotient 39 = .ok (.lstore 5, 2) := by decide +kernel
theorem dX6_quotient_41 : decode cX6_quotient 41 = .ok (.lload 7, 2) := by decide +kernel
theorem dX6_quotient_43 : decode cX6_quotient 43 = .ok (.lconst 1, 1) := by decide +kernel
theorem dX6_quotient_44 : decode cX6_quotient 44 = .ok (.iload 9, 2) := by decide +kernel
theorem dX6_quotient_46 : decode cX6_quotient 46 = .ok (.iload 4, 2) := by decide +kernel
theorem dX6_quotient_48 : decode cX6_quotient 48 = .ok (.isub, 1) := by decide +kernel
theorem dX6_quotient_49 : decode cX6_quotient 49 = .ok (.lshl, 1) := by decide +kernel
theorem dX6_quotient_50 : decode cX6_quotient 50 = .ok (.lor, 1) := by decide +kernel
theorem dX6_quotient_51 : decode cX6_quotient 51 = .ok (.lstore 7, 2) := by decide +kernel
theorem dX6_quotient_53 : decode cX6_quotient 53 = .ok (.iinc 9 (-1), 3) := by decide +kernel
theorem dX6_quotient_56 : decode cX6_quotient 56 = .ok (.goto (-46), 3) := by decide +kernel
theorem dX6_quotient_59 : decode cX6_quotient 59 = .ok (.lload 7, 2) := by decide +kernel
theorem dX6_quotient_61 : decode cX6_quotient 61 = .ok (.lreturn, 1) := by decide +kernel
theorem dX6_know_0 : decode cX6_know 0 = .ok (.aload_n 0, 1) := by decide +kernel
theorem dX6_know_1 : decode cX6_know 1 = .ok (.getfield 33, 3) := by decide +kernel
theorem dX6_know_4 : decode cX6_know 4 = .ok (.iload_n 1, 1) := by decide +kernel
theorem dX6_know_5 : decode cX6_know 5 = .ok (.baload, 1) := by decide +kernel
theorem dX6_know_6 : decode cX6_know 6 = .ok (.ifCond .eq 4, 3) := by decide +kernel
theorem dX6_know_9 : decode cX6_know 9 = .ok (.return_, 1) := by decide +kernel
theorem dX6_know_10 : decode cX6_know 10 = .ok (.aload_n 0, 1) := by decide +kernel
theorem dX6_know_11 : decode cX6_know 11 = .ok (.getfield 33, 3) := by decide +kernel
theorem dX6_know_14 : decode cX6_know 14 = .ok (.iload_n 1, 1) := by decide +kernel
theorem dX6_know_15 : decode cX6_know 15 = .ok (.iconst 1, 1) := by decide +kernel
theorem dX6_know_16 : decode cX6_know 16 = .ok (.bastore, 1) := by decide +kernel
theorem dX6_know_17 : decode cX6_know 17 = .ok (.aload_n 0, 1) := by decide +kernel
theorem dX6_know_18 : decode cX6_know 18 = .ok (.getfield 42, 3) := by decide +kernel
theorem dX6_know_21 : decode cX6_know 21 = .ok (.iload_n 1, 1) := by decide +kernel
theorem dX6_know_22 : decode cX6_know 22 = .ok (.iconst 0, 1) := by decide +kernel
theorem dX6_know_23 : decode cX6_know 23 = .ok (.iastore, 1) := by decide +kernel
theorem dX6_know_24 : decode cX6_know 24 = .ok (.lconst 1, 1) := by decide +kernel
theorem dX6_know_25 : decode cX6_know 25 = .ok (.aload_n 0, 1) := by decide +kernel
theorem dX6_know_26 : decode cX6_know 26 = .ok (.getfield 7, 3) := by decide +kernel
theorem dX6_know_29 : decode cX6_know 29 = .ok (.iload_n 1, 1) := by decide +kernel
theorem dX6_know_30 : decode cX6_know 30 = .ok (.iaload, 1) := by decide +kernel
theorem dX6_know_31 : decode cX6_know 31 = .ok (.lshl, 1) := by decide +kernel
theorem dX6_know_32 : decode cX6_know 32 = .ok (.aload_n 0, 1) := by decide +kernel
theorem dX6_know_33 : decode cX6_know 33 = .ok (.getfield 13, 3) := by decide +kernel
theorem dX6_know_36 : decode cX6_know 36 = .ok (.iload_n 1, 1) := by decide +kernel
theorem dX6_know_37 : decode cX6_know 37 = .ok (.laload, 1) := by decide +kernel
theorem dX6_know_38 : decode cX6_know 38 = .ok (.lor, 1) := by decide +kernel
theorem dX6_know_39 : decode cX6_know 39 = .ok (.lstore_n 2, 1) := by decide +kernel
theorem dX6_know_40 : decode cX6_know 40 = .ok (.ldc2_w 118, 3) := by decide +kernel
theorem dX6_know_43 : decode cX6_know 43 = .ok (.lstore 4, 2) := by decide +kernel
theorem dX6_know_45 : decode cX6_know 45 = .ok (.iconst 1, 1) := by decide +kernel
theorem dX6_know_46 : decode cX6_know 46 = .ok (.istore 6, 2) := by decide +kernel
theorem dX6_know_48 : decode cX6_know 48 = .ok (.lload_n 2, 1) := by decide +kernel
theorem dX6_know_49 : decode cX6_know 49 = .ok (.invokestatic 120, 3) := by decide +kernel
theorem dX6_know_52 : decode cX6_know 52 = .ok (.ifCond .le 148, 3) := by decide +kernel
theorem dX6_know_55 : decode cX6_know 55 = .ok (.iconst 2, 1) := by decide +kernel
theorem dX6_know_56 : decode cX6_know 56 = .ok (.iload 6, 2) := by decide +kernel
theorem dX6_know_58 : decode cX6_know 58 = .ok (.imul, 1) := by decide +kernel
theorem dX6_know_59 : decode cX6_know 59 = .ok (.lload_n 2, 1) := by decide +kernel
theorem dX6_know_60 : decode cX6_know 60 = .ok (.invokestatic 120, 3) := by decide +kernel
theorem dX6_know_63 : decode cX6_know 63 = .ok (.if_icmp .le 12, 3) := by decide +kernel
theorem dX6_know_66 : decode cX6_know 66 = .ok (.lload_n 2, 1) := by decide +kernel
theorem dX6_know_67 : decode cX6_know 67 = .ok (.lstore 4, 2) := by decide +kernel
theorem dX6_know_69 : decode cX6_know 69 = .ok (.lload_n 2, 1) := by decide +kernel
theorem dX6_know_70 : decode cX6_know 70 = .ok (.invokestatic 120, 3) := by decide +kernel
theorem dX6_know_73 : decode cX6_know 73 = .ok (.istore 6, 2) := by decide +kernel
theorem dX6_know_75 : decode cX6_know 75 = .ok (.iconst 0, 1) := by decide +kernel
theorem dX6_know_76 : decode cX6_know 76 = .ok (.istore 7, 2) := by decide +kernel
theorem dX6_know_78 : decode cX6_know 78 = .ok (.lload_n 2, 1) := by decide +kernel
theorem dX6_know_79 : decode cX6_know 79 = .ok (.invokestatic 120, 3) := by decide +kernel
theorem dX6_know_82 : decode cX6_know 82 = .ok (.iload 6, 2) := by decide +kernel
theorem dX6_know_84 : decode cX6_know 84 = .ok (.if_icmp .lt 31, 3) := by decide +kernel
theorem dX6_know_87 : decode cX6_know 87 = .ok (.lload_n 2, 1) := by decide +kernel
theorem dX6_know_88 : decode cX6_know 88 = .ok (.lload 4, 2) := by decide +kernel
theorem dX6_know_90 : decode cX6_know 90 = .ok (.iload 6, 2) := by decide +kernel
theorem dX6_know_92 : decode cX6_know 92 = .ok (.invokestatic 124, 3) := by decide +kernel
theorem dX6_know_95 : decode cX6_know 95 = .ok (.lconst 0, 1) := by decide +kernel
theorem dX6_know_96 : decode cX6_know 96 = .ok (.lcmp, 1) := by decide +kernel
theorem dX6_know_97 : decode cX6_know 97 = .ok (.ifCond .ne 18, 3) := by decide +kernel
theorem dX6_know_100 : decode cX6_know 100 = .ok (.lload_n 2, 1) := by decide +kernel
theorem dX6_know_101 : decode cX6_know 101 = .ok (.lload 4, 2) := by decide +kernel
theorem dX6_know_103 : decode cX6_know 103 = .ok (.iload 6, 2) := by decide +kernel
theorem dX6_know_105 : decode cX6_know 105 = .ok (.invokestatic 128, 3) := by decide +kernel
theorem dX6_know_108 : decode cX6_know 108 = .ok (.lstore_n 2, 1) := by decide +kernel
theorem dX6_know_109 : decode cX6_know 109 = .ok (.iinc 7 1, 3) := by decide +kernel
theorem dX6_know_112 : decode cX6_know 112 = .ok (.goto (-34), 3) := by decide +kernel
theorem dX6_know_115 : decode cX6_know 115 = .ok (.iload 7, 2) := by decide +kernel
theorem dX6_know_117 : decode cX6_know 117 = .ok (.ifCond .le 49, 3) := by decide +kernel
theorem dX6_know_120 : decode cX6_know 120 = .ok (.aload_n 0, 1) := by decide +kernel
theorem dX6_know_121 : decode cX6_know 121 = .ok (.getfield 36, 3) := by decide +kernel
theorem dX6_know_124 : decode cX6_know 124 = .ok (.bipush 33, 2) := by decide +kernel
theorem dX6_know_126 : decode cX6_know 126 = .ok (.iload_n 1, 1) := by decide +kernel
theorem dX6_know_127 : decode cX6_know 127 = .ok (.imul, 1) := by decide +kernel
theorem dX6_know_128 : decode cX6_know 128 = .ok (.aload_n 0, 1) := by decide +kernel
theorem dX6_know_129 : decode cX6_know 129 = .ok (.getfield 42, 3) := by decide +kernel
theorem dX6_know_132 : decode cX6_know 132 = .ok (.iload_n 1, 1) := by decide +kernel
theorem dX6_know_133 : decode cX6_know 133 = .ok (.iaload, 1) := by decide +kernel
theorem dX6_know_134 : decode cX6_know 134 = .ok (.iadd, 1) := by decide +kernel
theorem dX6_know_135 : decode cX6_know 135 = .ok (.lload 4, 2) := by decide +kernel
theorem dX6_know_137 : decode cX6_know 137 = .ok (.lastore, 1) := by decide +kernel
theorem dX6_know_138 : decode cX6_know 138 = .ok (.aload_n 0, 1) := by decide +kernel
theorem dX6_know_139 : decode cX6_know 139 = .ok (.getfield 39, 3) := by decide +kernel
theorem dX6_know_142 : decode cX6_know 142 = .ok (.bipush 33, 2) := by decide +kernel
theorem dX6_know_144 : decode cX6_know 144 = .ok (.iload_n 1, 1) := by decide +kernel
theorem dX6_know_145 : decode cX6_know 145 = .ok (.imul, 1) := by decide +kernel
theorem dX6_know_146 : decode cX6_know 146 = .ok (.aload_n 0, 1) := by decide +kernel
theorem dX6_know_147 : decode cX6_know 147 = .ok (.getfield 42, 3) := by decide +kernel
theorem dX6_know_150 : decode cX6_know 150 = .ok (.iload_n 1, 1) := by decide +kernel
theorem dX6_know_151 : decode cX6_know 151 = .ok (.iaload, 1) := by decide +kernel
theorem dX6_know_152 : decode cX6_know 152 = .ok (.iadd, 1) := by decide +kernel
theorem dX6_know_153 : decode cX6_know 153 = .ok (.iload 7, 2) := by decide +kernel
theorem dX6_know_155 : decode cX6_know 155 = .ok (.iastore, 1) := by decide +kernel
theorem dX6_know_156 : decode cX6_know 156 = .ok (.aload_n 0, 1) := by decide +kernel
theorem dX6_know_157 : decode cX6_know 157 = .ok (.getfield 42, 3) := by decide +kernel
theorem dX6_know_160 : decode cX6_know 160 = .ok (.iload_n 1, 1) := by decide +kernel
theorem dX6_know_161 : decode cX6_know 161 = .ok (.dup2, 1) := by decide +kernel
theorem dX6_know_162 : decode cX6_know 162 = .ok (.iaload, 1) := by decide +kernel
theorem dX6_know_163 : decode cX6_know 163 = .ok (.iconst 1, 1) := by decide +kernel
theorem dX6_know_164 : decode cX6_know 164 = .ok (.iadd, 1) := by decide +kernel
theorem dX6_know_165 : decode cX6_know 165 = .ok (.iastore, 1) := by decide +kernel
theorem dX6_know_166 : decode cX6_know 166 = .ok (.lload 4, 2) := by decide +kernel
theorem dX6_know_168 : decode cX6_know 168 = .ok (.ldc2_w 131, 3) := by decide +kernel
theorem dX6_know_171 : decode cX6_know 171 = .ok (.ladd, 1) := by decide +kernel
theorem dX6_know_172 : decode cX6_know 172 = .ok (.lstore 4, 2) := by decide +kernel
theorem dX6_know_174 : decode cX6_know 174 = .ok (.lload 4, 2) := by decide +kernel
theorem dX6_know_176 : decode cX6_know 176 = .ok (.iload 6, 2) := by decide +kernel
theorem dX6_know_178 : decode cX6_know 178 = .ok (.iconst 1, 1) := by decide +kernel
theorem dX6_know_179 : decode cX6_know 179 = .ok (.iadd, 1) := by decide +kernel
theorem dX6_know_180 : decode cX6_know 180 = .ok (.lshr, 1) := by decide +kernel
theorem dX6_know_181 : decode cX6_know 181 = .ok (.lconst 0, 1) := by decide +kernel
theorem dX6_know_182 : decode cX6_know 182 = .ok (.lcmp, 1) := by decide +kernel
theorem dX6_know_183 : decode cX6_know 183 = .ok (.ifCond .ne 8, 3) := by decide +kernel
theorem dX6_know_186 : decode cX6_know 186 = .ok (.iload 6, 2) := by decide +kernel
theorem dX6_know_188 : decode cX6_know 188 = .ok (.goto 7, 3) := by decide +kernel
theorem dX6_know_191 : decode cX6_know 191 = .ok (.iload 6, 2) := by decide +kernel
theorem dX6_know_193 : decode cX6_know 193 = .ok (.iconst 1, 1) := by decide +kernel
theorem dX6_know_194 : decode cX6_know 194 = .ok (.iadd, 1) := by decide +kernel
theorem dX6_know_195 : decode cX6_know 195 = .ok (.istore 6, 2) := by decide +kernel
theorem dX6_know_197 : decode cX6_know 197 = .ok (.goto (-149), 3) := by decide +kernel
theorem dX6_know_200 : decode cX6_know 200 = .ok (.aload_n 0, 1) := by decide +kernel
theorem dX6_know_201 : decode cX6_know 201 = .ok (.getfield 45, 3) := by decide +kernel
theorem dX6_know_204 : decode cX6_know 204 = .ok (.iload_n 1, 1) := by decide +kernel
theorem dX6_know_205 : decode cX6_know 205 = .ok (.aload_n 0, 1) := by decide +kernel
theorem dX6_know_206 : decode cX6_know 206 = .ok (.iload_n 1, 1) := by decide +kernel
theorem dX6_know_207 : decode cX6_know 207 = .ok (.invokevirtual 133, 3) := by decide +kernel
theorem dX6_know_210 : decode cX6_know 210 = .ok (.lastore, 1) := by decide +kernel
theorem dX6_know_211 : decode cX6_know 211 = .ok (.return_, 1) := by decide +kernel
theorem dX6_common_0 : decode cX6_common 0 = .ok (.lload_n 0, 1) := by decide +kernel
theorem dX6_common_1 : decode cX6_common 1 = .ok (.lstore 4, 2) := by decide +kernel
theorem dX6_common_3 : decode cX6_common 3 = .ok (.lload_n 2, 1) := by decide +kernel
theorem dX6_common_4 : decode cX6_common 4 = .ok (.lstore 6, 2) := by decide +kernel
theorem dX6_common_6 : decode cX6_common 6 = .ok (.lload 6, 2) := by decide +kernel
theorem dX6_common_8 : decode cX6_common 8 = .ok (.lconst 0, 1) := by decide +kernel
theorem dX6_common_9 : decode cX6_common 9 = .ok (.lcmp, 1) := by decide +kernel
theorem dX6_common_10 : decode cX6_common 10 = .ok (.ifCond .eq 21, 3) := by decide +kernel
theorem dX6_common_13 : decode cX6_common 13 = .ok (.lload 4, 2) := by decide +kernel
theorem dX6_common_15 : decode cX6_common 15 = .ok (.lload 6, 2) := by decide +kernel
theorem dX6_common_17 : decode cX6_common 17 = .ok (.lrem, 1) := by decide +kernel
theorem dX6_common_18 : decode cX6_common 18 = .ok (.lstore 8, 2) := by decide +kernel
theorem dX6_common_20 : decode cX6_common 20 = .ok (.lload 6, 2) := by decide +kernel
theorem dX6_common_22 : decode cX6_common 22 = .ok (.lstore 4, 2) := by decide +kernel
theorem dX6_common_24 : decode cX6_common 24 = .ok (.lload 8, 2) := by decide +kernel
theorem dX6_common_26 : decode cX6_common 26 = .ok (.lstore 6, 2) := by decide +kernel
theorem dX6_common_28 : decode cX6_common 28 = .ok (.goto (-22), 3) := by decide +kernel
theorem dX6_common_31 : decode cX6_common 31 = .ok (.lload 4, 2) := by decide +kernel
theorem dX6_common_33 : decode cX6_common 33 = .ok (.lreturn, 1) := by decide +kernel
theorem dX6_findOrder_0 : decode cX6_findOrder 0 = .ok (.lconst 1, 1) := by decide +kernel
theorem dX6_findOrder_1 : decode cX6_findOrder 1 = .ok (.lstore_n 2, 1) := by decide +kernel
theorem dX6_findOrder_2 : decode cX6_findOrder 2 = .ok (.iconst 1, 1) := by decide +kernel
theorem dX6_findOrder_3 : decode cX6_findOrder 3 = .ok (.istore 4, 2) := by decide +kernel
theorem dX6_findOrder_5 : decode cX6_findOrder 5 = .ok (.iconst 0, 1) := by decide +kernel
theorem dX6_findOrder_6 : decode cX6_findOrder 6 = .ok (.istore 5, 2) := by decide +kernel
theorem dX6_findOrder_8 : decode cX6_findOrder 8 = .ok (.iload 5, 2) := by decide +kernel
theorem dX6_findOrder_10 : decode cX6_findOrder 10 = .ok (.aload_n 0, 1) := by decide +kernel
theorem dX6_findOrder_11 : decode cX6_findOrder 11 = .ok (.getfield 42, 3) := by decide +kernel
theorem dX6_findOrder_14 : decode cX6_findOrder 14 = .ok (.iload_n 1, 1) := by decide +kernel
theorem dX6_findOrder_15 : decode cX6_findOrder 15 = .ok (.iaload, 1) := by decide +kernel
theorem dX6_findOrder_16 : decode cX6_findOrder 16 = .ok (.if_icmp .ge 78, 3) := by decide +kernel
theorem dX6_findOrder_19 : decode cX6_findOrder 19 = .ok (.lconst 1, 1) := by decide +kernel
theorem dX6_findOrder_20 : decode cX6_findOrder 20 = .ok (.aload_n 0, 1) := by decide +kernel
theorem dX6_findOrder_21 : decode cX6_findOrder 21 = .ok (.getfield 36, 3) := by decide +kernel
theorem dX6_findOrder_24 : decode cX6_findOrder 24 = .ok (.bipush 33, 2) := by decide +kernel
theorem dX6_findOrder_26 : decode cX6_findOrder 26 = .ok (.iload_n 1, 1) := by decide +kernel
theorem dX6_findOrder_27 : decode cX6_findOrder 27 = .ok (.imul, 1) := by decide +kernel
theorem dX6_findOrder_28 : decode cX6_findOrder 28 = .ok (.iload 5, 2) := by decide +kernel
theorem dX6_findOrder_30 : decode cX6_findOrder 30 = .ok (.iadd, 1) := by decide +kernel
theorem dX6_findOrder_31 : decode cX6_findOrder 31 = .ok (.laload, 1) := by decide +kernel
theorem dX6_findOrder_32 : decode cX6_findOrder 32 = .ok (.invokestatic 120, 3) := by decide +kernel
theorem dX6_findOrder_35 : decode cX6_findOrder 35 = .ok (.lshl, 1) := by decide +kernel
theorem dX6_findOrder_36 : decode cX6_findOrder 36 = .ok (.lconst 1, 1) := by decide +kernel
theorem dX6_findOrder_37 : decode cX6_findOrder 37 = .ok (.lsub, 1) := by decide +kernel
theorem dX6_findOrder_38 : decode cX6_findOrder 38 = .ok (.lstore 6, 2) := by decide +kernel
theorem dX6_findOrder_40 : decode cX6_findOrder 40 = .ok (.lload_n 2, 1) := by decide +kernel
theorem dX6_findOrder_41 : decode cX6_findOrder 41 = .ok (.lload_n 2, 1) := by decide +kernel
theorem dX6_findOrder_42 : decode cX6_findOrder 42 = .ok (.lload 6, 2) := by decide +kernel
theorem dX6_findOrder_44 : decode cX6_findOrder 44 = .ok (.invokestatic 137, 3) := by decide +kernel
theorem dX6_findOrder_47 : decode cX6_findOrder 47 = .ok (.ldiv, 1) := by decide +kernel
theorem dX6_findOrder_48 : decode cX6_findOrder 48 = .ok (.lload 6, 2) := by decide +kernel
theorem dX6_findOrder_50 : decode cX6_findOrder 50 = .ok (.lmul, 1) := by decide +kernel
theorem dX6_findOrder_51 : decode cX6_findOrder 51 = .ok (.lstore_n 2, 1) := by decide +kernel
theorem dX6_findOrder_52 : decode cX6_findOrder 52 = .ok (.aload_n 0, 1) := by decide +kernel
theorem dX6_findOrder_53 : decode cX6_findOrder 53 = .ok (.getfield 39, 3) := by decide +kernel
theorem dX6_findOrder_56 : decode cX6_findOrder 56 = .ok (.bipush 33, 2) := by decide +kernel
theorem dX6_findOrder_58 : decode cX6_findOrder 58 = .ok (.iload_n 1, 1) := by decide +kernel
theorem dX6_findOrder_59 : decode cX6_findOrder 59 = .ok (.imul, 1) := by decide +kernel
theorem dX6_findOrder_60 : decode cX6_findOrder 60 = .ok (.iload 5, 2) := by decide +kernel
theorem dX6_findOrder_62 : decode cX6_findOrder 62 = .ok (.iadd, 1) := by decide +kernel
theorem dX6_findOrder_63 : decode cX6_findOrder 63 = .ok (.iaload, 1) := by decide +kernel
theorem dX6_findOrder_64 : decode cX6_findOrder 64 = .ok (.iload 4, 2) := by decide +kernel
theorem dX6_findOrder_66 : decode cX6_findOrder 66 = .ok (.if_icmp .le 18, 3) := by decide +kernel
theorem dX6_findOrder_69 : decode cX6_findOrder 69 = .ok (.aload_n 0, 1) := by decide +kernel
theorem dX6_findOrder_70 : decode cX6_findOrder 70 = .ok (.getfield 39, 3) := by decide +kernel
theorem dX6_findOrder_73 : decode cX6_findOrder 73 = .ok (.bipush 33, 2) := by decide +kernel
theorem dX6_findOrder_75 : decode cX6_findOrder 75 = .ok (.iload_n 1, 1) := by decide +kernel
theorem dX6_findOrder_76 : decode cX6_findOrder 76 = .ok (.imul, 1) := by decide +kernel
theorem dX6_findOrder_77 : decode cX6_findOrder 77 = .ok (.iload 5, 2) := by decide +kernel
theorem dX6_findOrder_79 : decode cX6_findOrder 79 = .ok (.iadd, 1) := by decide +kernel
theorem dX6_findOrder_80 : decode cX6_findOrder 80 = .ok (.iaload, 1) := by decide +kernel
theorem dX6_findOrder_81 : decode cX6_findOrder 81 = .ok (.goto 5, 3) := by decide +kernel
theorem dX6_findOrder_84 : decode cX6_findOrder 84 = .ok (.iload 4, 2) := by decide +kernel
theorem dX6_findOrder_86 : decode cX6_findOrder 86 = .ok (.istore 4, 2) := by decide +kernel
theorem dX6_findOrder_88 : decode cX6_findOrder 88 = .ok (.iinc 5 1, 3) := by decide +kernel
theorem dX6_findOrder_91 : decode cX6_findOrder 91 = .ok (.goto (-83), 3) := by decide +kernel
theorem dX6_findOrder_94 : decode cX6_findOrder 94 = .ok (.iconst 1, 1) := by decide +kernel
theorem dX6_findOrder_95 : decode cX6_findOrder 95 = .ok (.istore 5, 2) := by decide +kernel
theorem dX6_findOrder_97 : decode cX6_findOrder 97 = .ok (.iload 5, 2) := by decide +kernel
theorem dX6_findOrder_99 : decode cX6_findOrder 99 = .ok (.iload 4, 2) := by decide +kernel
theorem dX6_findOrder_101 : decode cX6_findOrder 101 = .ok (.if_icmp .ge 12, 3) := by decide +kernel
theorem dX6_findOrder_104 : decode cX6_findOrder 104 = .ok (.iload 5, 2) := by decide +kernel
theorem dX6_findOrder_106 : decode cX6_findOrder 106 = .ok (.iconst 2, 1) := by decide +kernel
theorem dX6_findOrder_107 : decode cX6_findOrder 107 = .ok (.imul, 1) := by decide +kernel
theorem dX6_findOrder_108 : decode cX6_findOrder 108 = .ok (.istore 5, 2) := by decide +kernel
theorem dX6_findOrder_110 : decode cX6_findOrder 110 = .ok (.goto (-13), 3) := by decide +kernel
theorem dX6_findOrder_113 : decode cX6_findOrder 113 = .ok (.lload_n 2, 1) := by decide +kernel
theorem dX6_findOrder_114 : decode cX6_findOrder 114 = .ok (.iload 5, 2) := by decide +kernel
theorem dX6_findOrder_116 : decode cX6_findOrder 116 = .ok (.i2l, 1) := by decide +kernel
theorem dX6_findOrder_117 : decode cX6_findOrder 117 = .ok (.lmul, 1) := by decide +kernel
theorem dX6_findOrder_118 : decode cX6_findOrder 118 = .ok (.lstore_n 2, 1) := by decide +kernel
theorem dX6_findOrder_119 : decode cX6_findOrder 119 = .ok (.lload_n 2, 1) := by decide +kernel
theorem dX6_findOrder_120 : decode cX6_findOrder 120 = .ok (.lstore 6, 2) := by decide +kernel
theorem dX6_findOrder_122 : decode cX6_findOrder 122 = .ok (.ldc2_w 131, 3) := by decide +kernel
theorem dX6_findOrder_125 : decode cX6_findOrder 125 = .ok (.lstore 8, 2) := by decide +kernel
theorem dX6_findOrder_127 : decode cX6_findOrder 127 = .ok (.lload 6, 2) := by decide +kernel
theorem dX6_findOrder_129 : decode cX6_findOrder 129 = .ok (.lconst 1, 1) := by decide +kernel
theorem dX6_findOrder_130 : decode cX6_findOrder 130 = .ok (.lcmp, 1) := by decide +kernel
theorem dX6_findOrder_131 : decode cX6_findOrder 131 = .ok (.ifCond .le 81, 3) := by decide +kernel
theorem dX6_findOrder_134 : decode cX6_findOrder 134 = .ok (.lload 8, 2) := by decide +kernel
theorem dX6_findOrder_136 : decode cX6_findOrder 136 = .ok (.lload 8, 2) := by decide +kernel
theorem dX6_findOrder_138 : decode cX6_findOrder 138 = .ok (.lmul, 1) := by decide +kernel
theorem dX6_findOrder_139 : decode cX6_findOrder 139 = .ok (.lload 6, 2) := by decide +kernel
theorem dX6_findOrder_141 : decode cX6_findOrder 141 = .ok (.lcmp, 1) := by decide +kernel
theorem dX6_findOrder_142 : decode cX6_findOrder 142 = .ok (.ifCond .le 8, 3) := by decide +kernel
theorem dX6_findOrder_145 : decode cX6_findOrder 145 = .ok (.lload 6, 2) := by decide +kernel
theorem dX6_findOrder_147 : decode cX6_findOrder 147 = .ok (.goto 5, 3) := by decide +kernel
theorem dX6_findOrder_150 : decode cX6_findOrder 150 = .ok (.lload 8, 2) := by decide +kernel
theorem dX6_findOrder_152 : decode cX6_findOrder 152 = .ok (.lstore 8, 2) := by decide +kernel
theorem dX6_findOrder_154 : decode cX6_findOrder 154 = .ok (.lload 6, 2) := by decide +kernel
theorem dX6_findOrder_156 : decode cX6_findOrder 156 = .ok (.lload 8, 2) := by decide +kernel
theorem dX6_findOrder_158 : decode cX6_findOrder 158 = .ok (.lrem, 1) := by decide +kernel
theorem dX6_findOrder_159 : decode cX6_findOrder 159 = .ok (.lconst 0, 1) := by decide +kernel
theorem dX6_findOrder_160 : decode cX6_findOrder 160 = .ok (.lcmp, 1) := by decide +kernel
theorem dX6_findOrder_161 : decode cX6_findOrder 161 = .ok (.ifCond .ne 42, 3) := by decide +kernel
theorem dX6_findOrder_164 : decode cX6_findOrder 164 = .ok (.lload 6, 2) := by decide +kernel
theorem dX6_findOrder_166 : decode cX6_findOrder 166 = .ok (.lload 8, 2) := by decide +kernel
theorem dX6_findOrder_168 : decode cX6_findOrder 168 = .ok (.ldiv, 1) := by decide +kernel
theorem dX6_findOrder_169 : decode cX6_findOrder 169 = .ok (.lstore 6, 2) := by decide +kernel
theorem dX6_findOrder_171 : decode cX6_findOrder 171 = .ok (.aload_n 0, 1) := by decide +kernel
theorem dX6_findOrder_172 : decode cX6_findOrder 172 = .ok (.iload_n 1, 1) := by decide +kernel
theorem dX6_findOrder_173 : decode cX6_findOrder 173 = .ok (.aload_n 0, 1) := by decide +kernel
theorem dX6_findOrder_174 : decode cX6_findOrder 174 = .ok (.iload_n 1, 1) := by decide +kernel
theorem dX6_findOrder_175 : decode cX6_findOrder 175 = .ok (.lconst 1, 1) := by decide +kernel
theorem dX6_findOrder_176 : decode cX6_findOrder 176 = .ok (.invokevirtual 72, 3) := by decide +kernel
theorem dX6_findOrder_179 : decode cX6_findOrder 179 = .ok (.lload_n 2, 1) := by decide +kernel
theorem dX6_findOrder_180 : decode cX6_findOrder 180 = .ok (.lload 8, 2) := by decide +kernel
theorem dX6_findOrder_182 : decode cX6_findOrder 182 = .ok (.ldiv, 1) := by decide +kernel
theorem dX6_findOrder_183 : decode cX6_findOrder 183 = .ok (.invokevirtual 80, 3) := by decide +kernel
theorem dX6_findOrder_186 : decode cX6_findOrder 186 = .ok (.lconst 1, 1) := by decide +kernel
theorem dX6_findOrder_187 : decode cX6_findOrder 187 = .ok (.lcmp, 1) := by decide +kernel
theorem dX6_findOrder_188 : decode cX6_findOrder 188 = .ok (.ifCond .ne 10, 3) := by decide +kernel
theorem dX6_findOrder_191 : decode cX6_findOrder 191 = .ok (.lload_n 2, 1) := by decide +kernel
theorem dX6_findOrder_192 : decode cX6_findOrder 192 = .ok (.lload 8, 2) := by decide +kernel
theorem dX6_findOrder_194 : decode cX6_findOrder 194 = .ok (.ldiv, 1) := by decide +kernel
theorem dX6_findOrder_195 : decode cX6_findOrder 195 = .ok (.goto 4, 3) := by decide +kernel
theorem dX6_findOrder_198 : decode cX6_findOrder 198 = .ok (.lload_n 2, 1) := by decide +kernel
theorem dX6_findOrder_199 : decode cX6_findOrder 199 = .ok (.lstore_n 2, 1) := by decide +kernel
theorem dX6_findOrder_200 : decode cX6_findOrder 200 = .ok (.goto (-73), 3) := by decide +kernel
theorem dX6_findOrder_203 : decode cX6_findOrder 203 = .ok (.lload 8, 2) := by decide +kernel
theorem dX6_findOrder_205 : decode cX6_findOrder 205 = .ok (.lconst 1, 1) := by decide +kernel
theorem dX6_findOrder_206 : decode cX6_findOrder 206 = .ok (.ladd, 1) := by decide +kernel
theorem dX6_findOrder_207 : decode cX6_findOrder 207 = .ok (.lstore 8, 2) := by decide +kernel
theorem dX6_findOrder_209 : decode cX6_findOrder 209 = .ok (.goto (-82), 3) := by decide +kernel
theorem dX6_findOrder_212 : decode cX6_findOrder 212 = .ok (.lload_n 2, 1) := by decide +kernel
theorem dX6_findOrder_213 : decode cX6_findOrder 213 = .ok (.lreturn, 1) := by decide +kernel
theorem dX6_factors_0 : decode cX6_factors 0 = .ok (.aload_n 0, 1) := by decide +kernel
theorem dX6_factors_1 : decode cX6_factors 1 = .ok (.iload_n 1, 1) := by decide +kernel
theorem dX6_factors_2 : decode cX6_factors 2 = .ok (.invokevirtual 68, 3) := by decide +kernel
theorem dX6_factors_5 : decode cX6_factors 5 = .ok (.ifCond .ne 5, 3) := by decide +kernel
theorem dX6_factors_8 : decode cX6_factors 8 = .ok (.iconst (-1), 1) := by decide +kernel
theorem dX6_factors_9 : decode cX6_factors 9 = .ok (.ireturn, 1) := by decide +kernel
theorem dX6_factors_10 : decode cX6_factors 10 = .ok (.aload_n 0, 1) := by decide +kernel
theorem dX6_factors_11 : decode cX6_factors 11 = .ok (.iload_n 1, 1) := by decide +kernel
theorem dX6_factors_12 : decode cX6_factors 12 = .ok (.invokevirtual 141, 3) := by decide +kernel
theorem dX6_factors_15 : decode cX6_factors 15 = .ok (.aload_n 0, 1) := by decide +kernel
theorem dX6_factors_16 : decode cX6_factors 16 = .ok (.getfield 42, 3) := by decide +kernel
theorem dX6_factors_19 : decode cX6_factors 19 = .ok (.iload_n 1, 1) := by decide +kernel
theorem dX6_factors_20 : decode cX6_factors 20 = .ok (.iaload, 1) := by decide +kernel
theorem dX6_factors_21 : decode cX6_factors 21 = .ok (.ireturn, 1) := by decide +kernel
theorem dX6_factor_0 : decode cX6_factor 0 = .ok (.aload_n 0, 1) := by decide +kernel
theorem dX6_factor_1 : decode cX6_factor 1 = .ok (.iload_n 1, 1) := by decide +kernel
theorem dX6_factor_2 : decode cX6_factor 2 = .ok (.invokevirtual 68, 3) := by decide +kernel
theorem dX6_factor_5 : decode cX6_factor 5 = .ok (.ifCond .eq 12, 3) := by decide +kernel
theorem dX6_factor_8 : decode cX6_factor 8 = .ok (.iload_n 3, 1) := by decide +kernel
theorem dX6_factor_9 : decode cX6_factor 9 = .ok (.ifCond .lt 8, 3) := by decide +kernel
theorem dX6_factor_12 : decode cX6_factor 12 = .ok (.iload_n 3, 1) := by decide +kernel
theorem dX6_factor_13 : decode cX6_factor 13 = .ok (.iconst 1, 1) := by decide +kernel
theorem dX6_factor_14 : decode cX6_factor 14 = .ok (.if_icmp .le 7, 3) := by decide +kernel
theorem dX6_factor_17 : decode cX6_factor 17 = .ok (.ldc2_w 91, 3) := by decide +kernel
theorem dX6_factor_20 : decode cX6_factor 20 = .ok (.lreturn, 1) := by decide +kernel
theorem dX6_factor_21 : decode cX6_factor 21 = .ok (.aload_n 0, 1) := by decide +kernel
theorem dX6_factor_22 : decode cX6_factor 22 = .ok (.iload_n 1, 1) := by decide +kernel
theorem dX6_factor_23 : decode cX6_factor 23 = .ok (.invokevirtual 141, 3) := by decide +kernel
theorem dX6_factor_26 : decode cX6_factor 26 = .ok (.iload_n 2, 1) := by decide +kernel
theorem dX6_factor_27 : decode cX6_factor 27 = .ok (.ifCond .lt 13, 3) := by decide +kernel
theorem dX6_factor_30 : decode cX6_factor 30 = .ok (.iload_n 2, 1) := by decide +kernel
theorem dX6_factor_31 : decode cX6_factor 31 = .ok (.aload_n 0, 1) := by decide +kernel
theorem dX6_factor_32 : decode cX6_factor 32 = .ok (.getfield 42, 3) := by decide +kernel
theorem dX6_factor_35 : decode cX6_factor 35 = .ok (.iload_n 1, 1) := by decide +kernel
theorem dX6_factor_36 : decode cX6_factor 36 = .ok (.iaload, 1) := by decide +kernel
theorem dX6_factor_37 : decode cX6_factor 37 = .ok (.if_icmp .lt 7, 3) := by decide +kernel
theorem dX6_factor_40 : decode cX6_factor 40 = .ok (.ldc2_w 91, 3) := by decide +kernel
theorem dX6_factor_43 : decode cX6_factor 43 = .ok (.lreturn, 1) := by decide +kernel
theorem dX6_factor_44 : decode cX6_factor 44 = .ok (.iload_n 3, 1) := by decide +kernel
theorem dX6_factor_45 : decode cX6_factor 45 = .ok (.ifCond .ne 17, 3) := by decide +kernel
theorem dX6_factor_48 : decode cX6_factor 48 = .ok (.aload_n 0, 1) := by decide +kernel
theorem dX6_factor_49 : decode cX6_factor 49 = .ok (.getfield 36, 3) := by decide +kernel
theorem dX6_factor_52 : decode cX6_factor 52 = .ok (.bipush 33, 2) := by decide +kernel
theorem dX6_factor_54 : decode cX6_factor 54 = .ok (.iload_n 1, 1) := by decide +kernel
theorem dX6_factor_55 : decode cX6_factor 55 = .ok (.imul, 1) := by decide +kernel
theorem dX6_factor_56 : decode cX6_factor 56 = .ok (.iload_n 2, 1) := by decide +kernel
theorem dX6_factor_57 : decode cX6_factor 57 = .ok (.iadd, 1) := by decide +kernel
theorem dX6_factor_58 : decode cX6_factor 58 = .ok (.laload, 1) := by decide +kernel
theorem dX6_factor_59 : decode cX6_factor 59 = .ok (.goto 15, 3) := by decide +kernel
theorem dX6_factor_62 : decode cX6_factor 62 = .ok (.aload_n 0, 1) := by decide +kernel
theorem dX6_factor_63 : decode cX6_factor 63 = .ok (.getfield 39, 3) := by decide +kernel
theorem dX6_factor_66 : decode cX6_factor 66 = .ok (.bipush 33, 2) := by decide +kernel
theorem dX6_factor_68 : decode cX6_factor 68 = .ok (.iload_n 1, 1) := by decide +kernel
theorem dX6_factor_69 : decode cX6_factor 69 = .ok (.imul, 1) := by decide +kernel
theorem dX6_factor_70 : decode cX6_factor 70 = .ok (.iload_n 2, 1) := by decide +kernel
theorem dX6_factor_71 : decode cX6_factor 71 = .ok (.iadd, 1) := by decide +kernel
theorem dX6_factor_72 : decode cX6_factor 72 = .ok (.iaload, 1) := by decide +kernel
theorem dX6_factor_73 : decode cX6_factor 73 = .ok (.i2l, 1) := by decide +kernel
theorem dX6_factor_74 : decode cX6_factor 74 = .ok (.lreturn, 1) := by decide +kernel
theorem dX6_order_0 : decode cX6_order 0 = .ok (.aload_n 0, 1) := by decide +kernel
theorem dX6_order_1 : decode cX6_order 1 = .ok (.iload_n 1, 1) := by decide +kernel
theorem dX6_order_2 : decode cX6_order 2 = .ok (.invokevirtual 68, 3) := by decide +kernel
theorem dX6_order_5 : decode cX6_order 5 = .ok (.ifCond .ne 7, 3) := by decide +kernel
theorem dX6_order_8 : decode cX6_order 8 = .ok (.ldc2_w 91, 3) := by decide +kernel
theorem dX6_order_11 : decode cX6_order 11 = .ok (.lreturn, 1) := by decide +kernel
theorem dX6_order_12 : decode cX6_order 12 = .ok (.aload_n 0, 1) := by decide +kernel
theorem dX6_order_13 : decode cX6_order 13 = .ok (.iload_n 1, 1) := by decide +kernel
theorem dX6_order_14 : decode cX6_order 14 = .ok (.invokevirtual 141, 3) := by decide +kernel
theorem dX6_order_17 : decode cX6_order 17 = .ok (.aload_n 0, 1) := by decide +kernel
theorem dX6_order_18 : decode cX6_order 18 = .ok (.getfield 45, 3) := by decide +kernel
theorem dX6_order_21 : decode cX6_order 21 = .ok (.iload_n 1, 1) := by decide +kernel
theorem dX6_order_22 : decode cX6_order 22 = .ok (.laload, 1) := by decide +kernel
theorem dX6_order_23 : decode cX6_order 23 = .ok (.lreturn, 1) := by decide +kernel
theorem dX6_had_0 : decode cX6_had 0 = .ok (.lload_n 1, 1) := by decide +kernel
theorem dX6_had_1 : decode cX6_had 1 = .ok (.ldc2_w 145, 3) := by decide +kernel
theorem dX6_had_4 : decode cX6_had 4 = .ok (.lmul, 1) := by decide +kernel
theorem dX6_had_5 : decode cX6_had 5 = .ok (.bipush 13, 2) := by decide +kernel
theorem dX6_had_7 : decode cX6_had 7 = .ok (.lshr, 1) := by decide +kernel
theorem dX6_had_8 : decode cX6_had 8 = .ok (.ldc2_w 147, 3) := by decide +kernel
theorem dX6_had_11 : decode cX6_had 11 = .ok (.land, 1) := by decide +kernel
theorem dX6_had_12 : decode cX6_had 12 = .ok (.l2i, 1) := by decide +kernel
theorem dX6_had_13 : decode cX6_had 13 = .ok (.istore 4, 2) := by decide +kernel
theorem dX6_had_15 : decode cX6_had 15 = .ok (.aload_n 0, 1) := by decide +kernel
theorem dX6_had_16 : decode cX6_had 16 = .ok (.getfield 52, 3) := by decide +kernel
theorem dX6_had_19 : decode cX6_had 19 = .ok (.iload 4, 2) := by decide +kernel
theorem dX6_had_21 : decode cX6_had 21 = .ok (.laload, 1) := by decide +kernel
theorem dX6_had_22 : decode cX6_had 22 = .ok (.lconst 0, 1) := by decide +kernel
theorem dX6_had_23 : decode cX6_had 23 = .ok (.lcmp, 1) := by decide +kernel
theorem dX6_had_24 : decode cX6_had 24 = .ok (.ifCond .eq 29, 3) := by decide +kernel
theorem dX6_had_27 : decode cX6_had 27 = .ok (.aload_n 0, 1) := by decide +kernel
theorem dX6_had_28 : decode cX6_had 28 = .ok (.getfield 52, 3) := by decide +kernel
theorem dX6_had_31 : decode cX6_had 31 = .ok (.iload 4, 2) := by decide +kernel
theorem dX6_had_33 : decode cX6_had 33 = .ok (.laload, 1) := by decide +kernel
theorem dX6_had_34 : decode cX6_had 34 = .ok (.lload_n 1, 1) := by decide +kernel
theorem dX6_had_35 : decode cX6_had 35 = .ok (.lconst 1, 1) := by decide +kernel
theorem dX6_had_36 : decode cX6_had 36 = .ok (.ladd, 1) := by decide +kernel
theorem dX6_had_37 : decode cX6_had 37 = .ok (.lcmp, 1) := by decide +kernel
theorem dX6_had_38 : decode cX6_had 38 = .ok (.ifCond .eq 15, 3) := by decide +kernel
theorem dX6_had_41 : decode cX6_had 41 = .ok (.iload 4, 2) := by decide +kernel
theorem dX6_had_43 : decode cX6_had 43 = .ok (.iconst 1, 1) := by decide +kernel
theorem dX6_had_44 : decode cX6_had 44 = .ok (.iadd, 1) := by decide +kernel
theorem dX6_had_45 : decode cX6_had 45 = .ok (.ldc 149, 2) := by decide +kernel
theorem dX6_had_47 : decode cX6_had 47 = .ok (.iand, 1) := by decide +kernel
theorem dX6_had_48 : decode cX6_had 48 = .ok (.istore 4, 2) := by decide +kernel
theorem dX6_had_50 : decode cX6_had 50 = .ok (.goto (-35), 3) := by decide +kernel
theorem dX6_had_53 : decode cX6_had 53 = .ok (.aload_n 0, 1) := by decide +kernel
theorem dX6_had_54 : decode cX6_had 54 = .ok (.getfield 52, 3) := by decide +kernel
theorem dX6_had_57 : decode cX6_had 57 = .ok (.iload 4, 2) := by decide +kernel
theorem dX6_had_59 : decode cX6_had 59 = .ok (.laload, 1) := by decide +kernel
theorem dX6_had_60 : decode cX6_had 60 = .ok (.lconst 0, 1) := by decide +kernel
theorem dX6_had_61 : decode cX6_had 61 = .ok (.lcmp, 1) := by decide +kernel
theorem dX6_had_62 : decode cX6_had 62 = .ok (.ifCond .eq 7, 3) := by decide +kernel
theorem dX6_had_65 : decode cX6_had 65 = .ok (.iconst 1, 1) := by decide +kernel
theorem dX6_had_66 : decode cX6_had 66 = .ok (.goto 4, 3) := by decide +kernel
theorem dX6_had_69 : decode cX6_had 69 = .ok (.iconst 0, 1) := by decide +kernel
theorem dX6_had_70 : decode cX6_had 70 = .ok (.istore 5, 2) := by decide +kernel
theorem dX6_had_72 : decode cX6_had 72 = .ok (.iload_n 3, 1) := by decide +kernel
theorem dX6_had_73 : decode cX6_had 73 = .ok (.ifCond .eq 13, 3) := by decide +kernel
theorem dX6_had_76 : decode cX6_had 76 = .ok (.aload_n 0, 1) := by decide +kernel
theorem dX6_had_77 : decode cX6_had 77 = .ok (.getfield 52, 3) := by decide +kernel
theorem dX6_had_80 : decode cX6_had 80 = .ok (.iload 4, 2) := by decide +kernel
theorem dX6_had_82 : decode cX6_had 82 = .ok (.lload_n 1, 1) := by decide +kernel
theorem dX6_had_83 : decode cX6_had 83 = .ok (.lconst 1, 1) := by decide +kernel
theorem dX6_had_84 : decode cX6_had 84 = .ok (.ladd, 1) := by decide +kernel
theorem dX6_had_85 : decode cX6_had 85 = .ok (.lastore, 1) := by decide +kernel
theorem dX6_had_86 : decode cX6_had 86 = .ok (.iload 5, 2) := by decide +kernel
theorem dX6_had_88 : decode cX6_had 88 = .ok (.ireturn, 1) := by decide +kernel
theorem dX6_clear_0 : decode cX6_clear 0 = .ok (.iconst 0, 1) := by decide +kernel
theorem dX6_clear_1 : decode cX6_clear 1 = .ok (.istore_n 1, 1) := by decide +kernel
theorem dX6_clear_2 : decode cX6_clear 2 = .ok (.iload_n 1, 1) := by decide +kernel
theorem dX6_clear_3 : decode cX6_clear 3 = .ok (.ldc 51, 2) := by decide +kernel
theorem dX6_clear_5 : decode cX6_clear 5 = .ok (.if_icmp .ge 16, 3) := by decide +kernel
theorem dX6_clear_8 : decode cX6_clear 8 = .ok (.aload_n 0, 1) := by decide +kernel
theorem dX6_clear_9 : decode cX6_clear 9 = .ok (.getfield 52, 3) := by decide +kernel
theorem dX6_clear_12 : decode cX6_clear 12 = .ok (.iload_n 1, 1) := by decide +kernel
theorem dX6_clear_13 : decode cX6_clear 13 = .ok (.lconst 0, 1) := by decide +kernel
theorem dX6_clear_14 : decode cX6_clear 14 = .ok (.lastore, 1) := by decide +kernel
theorem dX6_clear_15 : decode cX6_clear 15 = .ok (.iinc 1 1, 3) := by decide +kernel
theorem dX6_clear_18 : decode cX6_clear 18 = .ok (.goto (-16), 3) := by decide +kernel
theorem dX6_clear_21 : decode cX6_clear 21 = .ok (.return_, 1) := by decide +kernel
theorem dX6_distance_0 : decode cX6_distance 0 = .ok (.aload_n 0, 1) := by decide +kernel
theorem dX6_distance_1 : decode cX6_distance 1 = .ok (.iload_n 1, 1) := by decide +kernel
theorem dX6_distance_2 : decode cX6_distance 2 = .ok (.invokevirtual 68, 3) := by decide +kernel
theorem dX6_distance_5 : decode cX6_distance 5 = .ok (.ifCond .eq 15, 3) := by decide +kernel
theorem dX6_distance_8 : decode cX6_distance 8 = .ok (.iload_n 2, 1) := by decide +kernel
theorem dX6_distance_9 : decode cX6_distance 9 = .ok (.iconst 1, 1) := by decide +kernel
theorem dX6_distance_10 : decode cX6_distance 10 = .ok (.if_icmp .lt 10, 3) := by decide +kernel
theorem dX6_distance_13 : decode cX6_distance 13 = .ok (.iload_n 2, 1) := by decide +kernel
theorem dX6_distance_14 : decode cX6_distance 14 = .ok (.sipush 200, 3) := by decide +kernel
theorem dX6_distance_17 : decode cX6_distance 17 = .ok (.if_icmp .le 5, 3) := by decide +kernel
theorem dX6_distance_20 : decode cX6_distance 20 = .ok (.iconst (-1), 1) := by decide +kernel
theorem dX6_distance_21 : decode cX6_distance 21 = .ok (.ireturn, 1) := by decide +kernel
theorem dX6_distance_22 : decode cX6_distance 22 = .ok (.lconst 1, 1) := by decide +kernel
theorem dX6_distance_23 : decode cX6_distance 23 = .ok (.lstore_n 3, 1) := by decide +kernel
theorem dX6_distance_24 : decode cX6_distance 24 = .ok (.aload_n 0, 1) := by decide +kernel
theorem dX6_distance_25 : decode cX6_distance 25 = .ok (.invokevirtual 150, 3) := by decide +kernel
theorem dX6_distance_28 : decode cX6_distance 28 = .ok (.iconst 0, 1) := by decide +kernel
theorem dX6_distance_29 : decode cX6_distance 29 = .ok (.istore 5, 2) := by decide +kernel
theorem dX6_distance_31 : decode cX6_distance 31 = .ok (.iload 5, 2) := by decide +kernel
theorem dX6_distance_33 : decode cX6_distance 33 = .ok (.iload_n 2, 1) := by decide +kernel
theorem dX6_distance_34 : decode cX6_distance 34 = .ok (.if_icmp .ge 41, 3) := by decide +kernel
theorem dX6_distance_37 : decode cX6_distance 37 = .ok (.aload_n 0, 1) := by decide +kernel
theorem dX6_distance_38 : decode cX6_distance 38 = .ok (.getfield 48, 3) := by decide +kernel
theorem dX6_distance_41 : decode cX6_distance 41 = .ok (.iload 5, 2) := by decide +kernel
theorem dX6_distance_43 : decode cX6_distance 43 = .ok (.lload_n 3, 1) := by decide +kernel
theorem dX6_distance_44 : decode cX6_distance 44 = .ok (.lastore, 1) := by decide +kernel
theorem dX6_distance_45 : decode cX6_distance 45 = .ok (.aload_n 0, 1) := by decide +kernel
theorem dX6_distance_46 : decode cX6_distance 46 = .ok (.iload_n 1, 1) := by decide +kernel
theorem dX6_distance_47 : decode cX6_distance 47 = .ok (.lload_n 3, 1) := by decide +kernel
theorem dX6_distance_48 : decode cX6_distance 48 = .ok (.invokevirtual 72, 3) := by decide +kernel
theorem dX6_distance_51 : decode cX6_distance 51 = .ok (.lstore_n 3, 1) := by decide +kernel
theorem dX6_distance_52 : decode cX6_distance 52 = .ok (.aload_n 0, 1) := by decide +kernel
theorem dX6_distance_53 : decode cX6_distance 53 = .ok (.aload_n 0, 1) := by decide +kernel
theorem dX6_distance_54 : decode cX6_distance 54 = .ok (.getfield 48, 3) := by decide +kernel
theorem dX6_distance_57 : decode cX6_distance 57 = .ok (.iload 5, 2) := by decide +kernel
theorem dX6_distance_59 : decode cX6_distance 59 = .ok (.laload, 1) := by decide +kernel
theorem dX6_distance_60 : decode cX6_distance 60 = .ok (.iconst 1, 1) := by decide +kernel
theorem dX6_distance_61 : decode cX6_distance 61 = .ok (.invokevirtual 153, 3) := by decide +kernel
theorem dX6_distance_64 : decode cX6_distance 64 = .ok (.ifCond .eq 5, 3) := by decide +kernel
theorem dX6_distance_67 : decode cX6_distance 67 = .ok (.iconst 2, 1) := by decide +kernel
theorem dX6_distance_68 : decode cX6_distance 68 = .ok (.ireturn, 1) := by decide +kernel
theorem dX6_distance_69 : decode cX6_distance 69 = .ok (.iinc 5 1, 3) := by decide +kernel
theorem dX6_distance_72 : decode cX6_distance 72 = .ok (.goto (-41), 3) := by decide +kernel
theorem dX6_distance_75 : decode cX6_distance 75 = .ok (.iconst 0, 1) := by decide +kernel
theorem dX6_distance_76 : decode cX6_distance 76 = .ok (.istore 5, 2) := by decide +kernel
theorem dX6_distance_78 : decode cX6_distance 78 = .ok (.iload 5, 2) := by decide +kernel
theorem dX6_distance_80 : decode cX6_distance 80 = .ok (.iload_n 2, 1) := by decide +kernel
theorem dX6_distance_81 : decode cX6_distance 81 = .ok (.if_icmp .ge 50, 3) := by decide +kernel
theorem dX6_distance_84 : decode cX6_distance 84 = .ok (.iconst 0, 1) := by decide +kernel
theorem dX6_distance_85 : decode cX6_distance 85 = .ok (.istore 6, 2) := by decide +kernel
theorem dX6_distance_87 : decode cX6_distance 87 = .ok (.iload 6, 2) := by decide +kernel
theorem dX6_distance_89 : decode cX6_distance 89 = .ok (.iload 5, 2) := by decide +kernel
theorem dX6_distance_91 : decode cX6_distance 91 = .ok (.if_icmp .ge 34, 3) := by decide +kernel
theorem dX6_distance_94 : decode cX6_distance 94 = .ok (.aload_n 0, 1) := by decide +kernel
theorem dX6_distance_95 : decode cX6_distance 95 = .ok (.aload_n 0, 1) := by decide +kernel
theorem dX6_distance_96 : decode cX6_distance 96 = .ok (.getfield 48, 3) := by decide +kernel
theorem dX6_distance_99 : decode cX6_distance 99 = .ok (.iload 5, 2) := by decide +kernel
theorem dX6_distance_101 : decode cX6_distance 101 = .ok (.laload, 1) := by decide +kernel
theorem dX6_distance_102 : decode cX6_distance 102 = .ok (.aload_n 0, 1) := by decide +kernel
theorem dX6_distance_103 : decode cX6_distance 103 = .ok (.getfield 48, 3) := by decide +kernel
theorem dX6_distance_106 : decode cX6_distance 106 = .ok (.iload 6, 2) := by decide +kernel
theorem dX6_distance_108 : decode cX6_distance 108 = .ok (.laload, 1) := by decide +kernel
theorem dX6_distance_109 : decode cX6_distance 109 = .ok (.lxor, 1) := by decide +kernel
theorem dX6_distance_110 : decode cX6_distance 110 = .ok (.iconst 0, 1) := by decide +kernel
theorem dX6_distance_111 : decode cX6_distance 111 = .ok (.invokevirtual 153, 3) := by decide +kernel
theorem dX6_distance_114 : decode cX6_distance 114 = .ok (.ifCond .eq 5, 3) := by decide +kernel
theorem dX6_distance_117 : decode cX6_distance 117 = .ok (.iconst 3, 1) := by decide +kernel
theorem dX6_distance_118 : decode cX6_distance 118 = .ok (.ireturn, 1) := by decide +kernel
theorem dX6_distance_119 : decode cX6_distance 119 = .ok (.iinc 6 1, 3) := by decide +kernel
theorem dX6_distance_122 : decode cX6_distance 122 = .ok (.goto (-35), 3) := by decide +kernel
theorem dX6_distance_125 : decode cX6_distance 125 = .ok (.iinc 5 1, 3) := by decide +kernel
theorem dX6_distance_128 : decode cX6_distance 128 = .ok (.goto (-50), 3) := by decide +kernel
theorem dX6_distance_131 : decode cX6_distance 131 = .ok (.aload_n 0, 1) := by decide +kernel
theorem dX6_distance_132 : decode cX6_distance 132 = .ok (.invokevirtual 150, 3) := by decide +kernel
theorem dX6_distance_135 : decode cX6_distance 135 = .ok (.iconst 0, 1) := by decide +kernel
theorem dX6_distance_136 : decode cX6_distance 136 = .ok (.istore 5, 2) := by decide +kernel
theorem dX6_distance_138 : decode cX6_distance 138 = .ok (.iload 5, 2) := by decide +kernel
theorem dX6_distance_140 : decode cX6_distance 140 = .ok (.iload_n 2, 1) := by decide +kernel
theorem dX6_distance_141 : decode cX6_distance 141 = .ok (.if_icmp .ge 50, 3) := by decide +kernel
theorem dX6_distance_144 : decode cX6_distance 144 = .ok (.iconst 0, 1) := by decide +kernel
theorem dX6_distance_145 : decode cX6_distance 145 = .ok (.istore 6, 2) := by decide +kernel
theorem dX6_distance_147 : decode cX6_distance 147 = .ok (.iload 6, 2) := by decide +kernel
theorem dX6_distance_149 : decode cX6_distance 149 = .ok (.iload 5, 2) := by decide +kernel
theorem dX6_distance_151 : decode cX6_distance 151 = .ok (.if_icmp .ge 34, 3) := by decide +kernel
theorem dX6_distance_154 : decode cX6_distance 154 = .ok (.aload_n 0, 1) := by decide +kernel
theorem dX6_distance_155 : decode cX6_distance 155 = .ok (.aload_n 0, 1) := by decide +kernel
theorem dX6_distance_156 : decode cX6_distance 156 = .ok (.getfield 48, 3) := by decide +kernel
theorem dX6_distance_159 : decode cX6_distance 159 = .ok (.iload 5, 2) := by decide +kernel
theorem dX6_distance_161 : decode cX6_distance 161 = .ok (.laload, 1) := by decide +kernel
theorem dX6_distance_162 : decode cX6_distance 162 = .ok (.aload_n 0, 1) := by decide +kernel
theorem dX6_distance_163 : decode cX6_distance 163 = .ok (.getfield 48, 3) := by decide +kernel
theorem dX6_distance_166 : decode cX6_distance 166 = .ok (.iload 6, 2) := by decide +kernel
theorem dX6_distance_168 : decode cX6_distance 168 = .ok (.laload, 1) := by decide +kernel
theorem dX6_distance_169 : decode cX6_distance 169 = .ok (.lxor, 1) := by decide +kernel
theorem dX6_distance_170 : decode cX6_distance 170 = .ok (.iconst 1, 1) := by decide +kernel
theorem dX6_distance_171 : decode cX6_distance 171 = .ok (.invokevirtual 153, 3) := by decide +kernel
theorem dX6_distance_174 : decode cX6_distance 174 = .ok (.ifCond .eq 5, 3) := by decide +kernel
theorem dX6_distance_177 : decode cX6_distance 177 = .ok (.iconst 4, 1) := by decide +kernel
theorem dX6_distance_178 : decode cX6_distance 178 = .ok (.ireturn, 1) := by decide +kernel
theorem dX6_distance_179 : decode cX6_distance 179 = .ok (.iinc 6 1, 3) := by decide +kernel
theorem dX6_distance_182 : decode cX6_distance 182 = .ok (.goto (-35), 3) := by decide +kernel
theorem dX6_distance_185 : decode cX6_distance 185 = .ok (.iinc 5 1, 3) := by decide +kernel
theorem dX6_distance_188 : decode cX6_distance 188 = .ok (.goto (-50), 3) := by decide +kernel
theorem dX6_distance_191 : decode cX6_distance 191 = .ok (.iconst 5, 1) := by decide +kernel
theorem dX6_distance_192 : decode cX6_distance 192 = .ok (.ireturn, 1) := by decide +kernel
theorem dX6_added_0 : decode cX6_added 0 = .ok (.iload_n 1, 1) := by decide +kernel
theorem dX6_added_1 : decode cX6_added 1 = .ok (.ifCond .lt 17, 3) := by decide +kernel
theorem dX6_added_4 : decode cX6_added 4 = .ok (.iload_n 1, 1) := by decide +kernel
theorem dX6_added_5 : decode cX6_added 5 = .ok (.iconst 1, 1) := by decide +kernel
theorem dX6_added_6 : decode cX6_added 6 = .ok (.if_icmp .gt 12, 3) := by decide +kernel
theorem dX6_added_9 : decode cX6_added 9 = .ok (.aload_n 0, 1) := by decide +kernel
theorem dX6_added_10 : decode cX6_added 10 = .ok (.iload_n 2, 1) := by decide +kernel
theorem dX6_added_11 : decode cX6_added 11 = .ok (.iload_n 3, 1) := by decide +kernel
theorem dX6_added_12 : decode cX6_added 12 = .ok (.invokevirtual 87, 3) := by decide +kernel
theorem dX6_added_15 : decode cX6_added 15 = .ok (.ifCond .ne 7, 3) := by decide +kernel
theorem dX6_added_18 : decode cX6_added 18 = .ok (.ldc2_w 91, 3) := by decide +kernel
theorem dX6_added_21 : decode cX6_added 21 = .ok (.lreturn, 1) := by decide +kernel
theorem dX6_added_22 : decode cX6_added 22 = .ok (.iload_n 1, 1) := by decide +kernel
theorem dX6_added_23 : decode cX6_added 23 = .ok (.ifCond .ne 9, 3) := by decide +kernel
theorem dX6_added_26 : decode cX6_added 26 = .ok (.ldc2_w 157, 3) := by decide +kernel
theorem dX6_added_29 : decode cX6_added 29 = .ok (.goto 6, 3) := by decide +kernel
theorem dX6_added_32 : decode cX6_added 32 = .ok (.ldc2_w 66, 3) := by decide +kernel
theorem dX6_added_35 : decode cX6_added 35 = .ok (.lstore 4, 2) := by decide +kernel
theorem dX6_added_37 : decode cX6_added 37 = .ok (.lconst 1, 1) := by decide +kernel
theorem dX6_added_38 : decode cX6_added 38 = .ok (.iload_n 1, 1) := by decide +kernel
theorem dX6_added_39 : decode cX6_added 39 = .ok (.i2l, 1) := by decide +kernel
theorem dX6_added_40 : decode cX6_added 40 = .ok (.lsub, 1) := by decide +kernel
theorem dX6_added_41 : decode cX6_added 41 = .ok (.lstore 6, 2) := by decide +kernel
theorem dX6_added_43 : decode cX6_added 43 = .ok (.lconst 0, 1) := by decide +kernel
theorem dX6_added_44 : decode cX6_added 44 = .ok (.lstore 8, 2) := by decide +kernel
theorem dX6_added_46 : decode cX6_added 46 = .ok (.iload_n 2, 1) := by decide +kernel
theorem dX6_added_47 : decode cX6_added 47 = .ok (.istore 10, 2) := by decide +kernel
theorem dX6_added_49 : decode cX6_added 49 = .ok (.iload 10, 2) := by decide +kernel
theorem dX6_added_51 : decode cX6_added 51 = .ok (.iload_n 3, 1) := by decide +kernel
theorem dX6_added_52 : decode cX6_added 52 = .ok (.if_icmp .ge 35, 3) := by decide +kernel
theorem dX6_added_55 : decode cX6_added 55 = .ok (.lload 6, 2) := by decide +kernel
theorem dX6_added_57 : decode cX6_added 57 = .ok (.aload_n 0, 1) := by decide +kernel
theorem dX6_added_58 : decode cX6_added 58 = .ok (.getfield 30, 3) := by decide +kernel
theorem dX6_added_61 : decode cX6_added 61 = .ok (.iload 10, 2) := by decide +kernel
theorem dX6_added_63 : decode cX6_added 63 = .ok (.iaload, 1) := by decide +kernel
theorem dX6_added_64 : decode cX6_added 64 = .ok (.i2l, 1) := by decide +kernel
theorem dX6_added_65 : decode cX6_added 65 = .ok (.ladd, 1) := by decide +kernel
theorem dX6_added_66 : decode cX6_added 66 = .ok (.lload 4, 2) := by decide +kernel
theorem dX6_added_68 : decode cX6_added 68 = .ok (.lrem, 1) := by decide +kernel
theorem dX6_added_69 : decode cX6_added 69 = .ok (.lstore 6, 2) := by decide +kernel
theorem dX6_added_71 : decode cX6_added 71 = .ok (.lload 8, 2) := by decide +kernel
theorem dX6_added_73 : decode cX6_added 73 = .ok (.lload 6, 2) := by decide +kernel
theorem dX6_added_75 : decode cX6_added 75 = .ok (.ladd, 1) := by decide +kernel
theorem dX6_added_76 : decode cX6_added 76 = .ok (.lload 4, 2) := by decide +kernel
theorem dX6_added_78 : decode cX6_added 78 = .ok (.lrem, 1) := by decide +kernel
theorem dX6_added_79 : decode cX6_added 79 = .ok (.lstore 8, 2) := by decide +kernel
theorem dX6_added_81 : decode cX6_added 81 = .ok (.iinc 10 1, 3) := by decide +kernel
theorem dX6_added_84 : decode cX6_added 84 = .ok (.goto (-35), 3) := by decide +kernel
theorem dX6_added_87 : decode cX6_added 87 = .ok (.lload 8, 2) := by decide +kernel
theorem dX6_added_89 : decode cX6_added 89 = .ok (.iload_n 1, 1) := by decide +kernel
theorem dX6_added_90 : decode cX6_added 90 = .ok (.ifCond .ne 9, 3) := by decide +kernel
theorem dX6_added_93 : decode cX6_added 93 = .ok (.ldc2_w 159, 3) := by decide +kernel
theorem dX6_added_96 : decode cX6_added 96 = .ok (.goto 6, 3) := by decide +kernel
theorem dX6_added_99 : decode cX6_added 99 = .ok (.ldc2_w 161, 3) := by decide +kernel
theorem dX6_added_102 : decode cX6_added 102 = .ok (.lmul, 1) := by decide +kernel
theorem dX6_added_103 : decode cX6_added 103 = .ok (.lload 6, 2) := by decide +kernel
theorem dX6_added_105 : decode cX6_added 105 = .ok (.ladd, 1) := by decide +kernel
theorem dX6_added_106 : decode cX6_added 106 = .ok (.lreturn, 1) := by decide +kernel
theorem dX6_isAdded_0 : decode cX6_isAdded 0 = .ok (.iload_n 0, 1) := by decide +kernel
theorem dX6_isAdded_1 : decode cX6_isAdded 1 = .ok (.ifCond .ne 9, 3) := by decide +kernel
theorem dX6_isAdded_4 : decode cX6_isAdded 4 = .ok (.ldc2_w 159, 3) := by decide +kernel
theorem dX6_isAdded_7 : decode cX6_isAdded 7 = .ok (.goto 6, 3) := by decide +kernel
theorem dX6_isAdded_10 : decode cX6_isAdded 10 = .ok (.ldc2_w 161, 3) := by decide +kernel
theorem dX6_isAdded_13 : decode cX6_isAdded 13 = .ok (.lstore_n 3, 1) := by decide +kernel
theorem dX6_isAdded_14 : decode cX6_isAdded 14 = .ok (.iload_n 0, 1) := by decide +kernel
theorem dX6_isAdded_15 : decode cX6_isAdded 15 = .ok (.ifCond .ne 9, 3) := by decide +kernel
theorem dX6_isAdded_18 : decode cX6_isAdded 18 = .ok (.ldc2_w 157, 3) := by decide +kernel
theorem dX6_isAdded_21 : decode cX6_isAdded 21 = .ok (.goto 6, 3) := by decide +kernel
theorem dX6_isAdded_24 : decode cX6_isAdded 24 = .ok (.ldc2_w 66, 3) := by decide +kernel
theorem dX6_isAdded_27 : decode cX6_isAdded 27 = .ok (.lstore 5, 2) := by decide +kernel
theorem dX6_isAdded_29 : decode cX6_isAdded 29 = .ok (.lload_n 1, 1) := by decide +kernel
theorem dX6_isAdded_30 : decode cX6_isAdded 30 = .ok (.lconst 0, 1) := by decide +kernel
theorem dX6_isAdded_31 : decode cX6_isAdded 31 = .ok (.lcmp, 1) := by decide +kernel
theorem dX6_isAdded_32 : decode cX6_isAdded 32 = .ok (.ifCond .lt 25, 3) := by decide +kernel
theorem dX6_isAdded_35 : decode cX6_isAdded 35 = .ok (.lload_n 1, 1) := by decide +kernel
theorem dX6_isAdded_36 : decode cX6_isAdded 36 = .ok (.lload_n 3, 1) := by decide +kernel
theorem dX6_isAdded_37 : decode cX6_isAdded 37 = .ok (.lrem, 1) := by decide +kernel
theorem dX6_isAdded_38 : decode cX6_isAdded 38 = .ok (.lload 5, 2) := by decide +kernel
theorem dX6_isAdded_40 : decode cX6_isAdded 40 = .ok (.lcmp, 1) := by decide +kernel
theorem dX6_isAdded_41 : decode cX6_isAdded 41 = .ok (.ifCond .ge 16, 3) := by decide +kernel
theorem dX6_isAdded_44 : decode cX6_isAdded 44 = .ok (.lload_n 1, 1) := by decide +kernel
theorem dX6_isAdded_45 : decode cX6_isAdded 45 = .ok (.lload_n 3, 1) := by decide +kernel
theorem dX6_isAdded_46 : decode cX6_isAdded 46 = .ok (.ldiv, 1) := by decide +kernel
theorem dX6_isAdded_47 : decode cX6_isAdded 47 = .ok (.lload 5, 2) := by decide +kernel
theorem dX6_isAdded_49 : decode cX6_isAdded 49 = .ok (.lcmp, 1) := by decide +kernel
theorem dX6_isAdded_50 : decode cX6_isAdded 50 = .ok (.ifCond .ge 7, 3) := by decide +kernel
theorem dX6_isAdded_53 : decode cX6_isAdded 53 = .ok (.iconst 1, 1) := by decide +kernel
theorem dX6_isAdded_54 : decode cX6_isAdded 54 = .ok (.goto 4, 3) := by decide +kernel
theorem dX6_isAdded_57 : decode cX6_isAdded 57 = .ok (.iconst 0, 1) := by decide +kernel
theorem dX6_isAdded_58 : decode cX6_isAdded 58 = .ok (.ireturn, 1) := by decide +kernel
theorem dX6_addedJoined_0 : decode cX6_addedJoined 0 = .ok (.iload_n 1, 1) := by decide +kernel
theorem dX6_addedJoined_1 : decode cX6_addedJoined 1 = .ok (.ifCond .lt 33, 3) := by decide +kernel
theorem dX6_addedJoined_4 : decode cX6_addedJoined 4 = .ok (.iload_n 1, 1) := by decide +kernel
theorem dX6_addedJoined_5 : decode cX6_addedJoined 5 = .ok (.iconst 1, 1) := by decide +kernel
theorem dX6_addedJoined_6 : decode cX6_addedJoined 6 = .ok (.if_icmp .gt 28, 3) := by decide +kernel
theorem dX6_addedJoined_9 : decode cX6_addedJoined 9 = .ok (.iload_n 1, 1) := by decide +kernel
theorem dX6_addedJoined_10 : decode cX6_addedJoined 10 = .ok (.lload_n 2, 1) := by decide +kernel
theorem dX6_addedJoined_11 : decode cX6_addedJoined 11 = .ok (.invokestatic 163, 3) := by decide +kernel
theorem dX6_addedJoined_14 : decode cX6_addedJoined 14 = .ok (.ifCond .eq 20, 3) := by decide +kernel
theorem dX6_addedJoined_17 : decode cX6_addedJoined 17 = .ok (.iload_n 1, 1) := by decide +kernel
theorem dX6_addedJoined_18 : decode cX6_addedJoined 18 = .ok (.lload 4, 2) := by decide +kernel
theorem dX6_addedJoined_20 : decode cX6_addedJoined 20 = .ok (.invokestatic 163, 3) := by decide +kernel
theorem dX6_addedJoined_23 : decode cX6_addedJoined 23 = .ok (.ifCond .eq 11, 3) := by decide +kernel
theorem dX6_addedJoined_26 : decode cX6_addedJoined 26 = .ok (.lload 6, 2) := by decide +kernel
theorem dX6_addedJoined_28 : decode cX6_addedJoined 28 = .ok (.invokestatic 105, 3) := by decide +kernel
theorem dX6_addedJoined_31 : decode cX6_addedJoined 31 = .ok (.ifCond .ne 7, 3) := by decide +kernel
theorem dX6_addedJoined_34 : decode cX6_addedJoined 34 = .ok (.ldc2_w 91, 3) := by decide +kernel
theorem dX6_addedJoined_37 : decode cX6_addedJoined 37 = .ok (.lreturn, 1) := by decide +kernel
theorem dX6_addedJoined_38 : decode cX6_addedJoined 38 = .ok (.iload_n 1, 1) := by decide +kernel
theorem dX6_addedJoined_39 : decode cX6_addedJoined 39 = .ok (.ifCond .ne 9, 3) := by decide +kernel
theorem dX6_addedJoined_42 : decode cX6_addedJoined 42 = .ok (.ldc2_w 159, 3) := by decide +kernel
theorem dX6_addedJoined_45 : decode cX6_addedJoined 45 = .ok (.goto 6, 3) := by decide +kernel
theorem dX6_addedJoined_48 : decode cX6_addedJoined 48 = .ok (.ldc2_w 161, 3) := by decide +kernel
theorem dX6_addedJoined_51 : decode cX6_addedJoined 51 = .ok (.lstore 8, 2) := by decide +kernel
theorem dX6_addedJoined_53 : decode cX6_addedJoined 53 = .ok (.iload_n 1, 1) := by decide +kernel
theorem dX6_addedJoined_54 : decode cX6_addedJoined 54 = .ok (.ifCond .ne 9, 3) := by decide +kernel
theorem dX6_addedJoined_57 : decode cX6_addedJoined 57 = .ok (.ldc2_w 157, 3) := by decide +kernel
theorem dX6_addedJoined_60 : decode cX6_addedJoined 60 = .ok (.goto 6, 3) := by decide +kernel
theorem dX6_addedJoined_63 : decode cX6_addedJoined 63 = .ok (.ldc2_w 66, 3) := by decide +kernel
theorem dX6_addedJoined_66 : decode cX6_addedJoined 66 = .ok (.lstore 10, 2) := by decide +kernel
theorem dX6_addedJoined_68 : decode cX6_addedJoined 68 = .ok (.lconst 1, 1) := by decide +kernel
theorem dX6_addedJoined_69 : decode cX6_addedJoined 69 = .ok (.iload_n 1, 1) := by decide +kernel
theorem dX6_addedJoined_70 : decode cX6_addedJoined 70 = .ok (.i2l, 1) := by decide +kernel
theorem dX6_addedJoined_71 : decode cX6_addedJoined 71 = .ok (.lsub, 1) := by decide +kernel
theorem dX6_addedJoined_72 : decode cX6_addedJoined 72 = .ok (.lstore 12, 2) := by decide +kernel
theorem dX6_addedJoined_74 : decode cX6_addedJoined 74 = .ok (.lload_n 2, 1) := by decide +kernel
theorem dX6_addedJoined_75 : decode cX6_addedJoined 75 = .ok (.lload 8, 2) := by decide +kernel
theorem dX6_addedJoined_77 : decode cX6_addedJoined 77 = .ok (.lrem, 1) := by decide +kernel
theorem dX6_addedJoined_78 : decode cX6_addedJoined 78 = .ok (.lload 4, 2) := by decide +kernel
theorem dX6_addedJoined_80 : decode cX6_addedJoined 80 = .ok (.lload 8, 2) := by decide +kernel
theorem dX6_addedJoined_82 : decode cX6_addedJoined 82 = .ok (.lrem, 1) := by decide +kernel
theorem dX6_addedJoined_83 : decode cX6_addedJoined 83 = .ok (.ladd, 1) := by decide +kernel
theorem dX6_addedJoined_84 : decode cX6_addedJoined 84 = .ok (.lload 12, 2) := by decide +kernel
theorem dX6_addedJoined_86 : decode cX6_addedJoined 86 = .ok (.lsub, 1) := by decide +kernel
theorem dX6_addedJoined_87 : decode cX6_addedJoined 87 = .ok (.lload 10, 2) := by decide +kernel
theorem dX6_addedJoined_89 : decode cX6_addedJoined 89 = .ok (.ladd, 1) := by decide +kernel
theorem dX6_addedJoined_90 : decode cX6_addedJoined 90 = .ok (.lload 10, 2) := by decide +kernel
theorem dX6_addedJoined_92 : decode cX6_addedJoined 92 = .ok (.lrem, 1) := by decide +kernel
theorem dX6_addedJoined_93 : decode cX6_addedJoined 93 = .ok (.lstore 14, 2) := by decide +kernel
theorem dX6_addedJoined_95 : decode cX6_addedJoined 95 = .ok (.lload 6, 2) := by decide +kernel
theorem dX6_addedJoined_97 : decode cX6_addedJoined 97 = .ok (.lload 10, 2) := by decide +kernel
theorem dX6_addedJoined_99 : decode cX6_addedJoined 99 = .ok (.lrem, 1) := by decide +kernel
theorem dX6_addedJoined_100 : decode cX6_addedJoined 100 = .ok (.lload_n 2, 1) := by decide +kernel
theorem dX6_addedJoined_101 : decode cX6_addedJoined 101 = .ok (.lload 8, 2) := by decide +kernel
theorem dX6_addedJoined_103 : decode cX6_addedJoined 103 = .ok (.lrem, 1) := by decide +kernel
theorem dX6_addedJoined_104 : decode cX6_addedJoined 104 = .ok (.lload 12, 2) := by decide +kernel
theorem dX6_addedJoined_106 : decode cX6_addedJoined 106 = .ok (.lsub, 1) := by decide +kernel
theorem dX6_addedJoined_107 : decode cX6_addedJoined 107 = .ok (.lload 10, 2) := by decide +kernel
theorem dX6_addedJoined_109 : decode cX6_addedJoined 109 = .ok (.ladd, 1) := by decide +kernel
theorem dX6_addedJoined_110 : decode cX6_addedJoined 110 = .ok (.lload 10, 2) := by decide +kernel
theorem dX6_addedJoined_112 : decode cX6_addedJoined 112 = .ok (.lrem, 1) := by decide +kernel
theorem dX6_addedJoined_113 : decode cX6_addedJoined 113 = .ok (.lmul, 1) := by decide +kernel
theorem dX6_addedJoined_114 : decode cX6_addedJoined 114 = .ok (.lload 10, 2) := by decide +kernel
theorem dX6_addedJoined_116 : decode cX6_addedJoined 116 = .ok (.lrem, 1) := by decide +kernel
theorem dX6_addedJoined_117 : decode cX6_addedJoined 117 = .ok (.lstore 16, 2) := by decide +kernel
theorem dX6_addedJoined_119 : decode cX6_addedJoined 119 = .ok (.lload_n 2, 1) := by decide +kernel
theorem dX6_addedJoined_120 : decode cX6_addedJoined 120 = .ok (.lload 8, 2) := by decide +kernel
theorem dX6_addedJoined_122 : decode cX6_addedJoined 122 = .ok (.ldiv, 1) := by decide +kernel
theorem dX6_addedJoined_123 : decode cX6_addedJoined 123 = .ok (.lload 4, 2) := by decide +kernel
theorem dX6_addedJoined_125 : decode cX6_addedJoined 125 = .ok (.lload 8, 2) := by decide +kernel
theorem dX6_addedJoined_127 : decode cX6_addedJoined 127 = .ok (.ldiv, 1) := by decide +kernel
theorem dX6_addedJoined_128 : decode cX6_addedJoined 128 = .ok (.ladd, 1) := by decide +kernel
theorem dX6_addedJoined_129 : decode cX6_addedJoined 129 = .ok (.lload 16, 2) := by decide +kernel
theorem dX6_addedJoined_131 : decode cX6_addedJoined 131 = .ok (.ladd, 1) := by decide +kernel
theorem dX6_addedJoined_132 : decode cX6_addedJoined 132 = .ok (.lload 10, 2) := by decide +kernel
theorem dX6_addedJoined_134 : decode cX6_addedJoined 134 = .ok (.lrem, 1) := by decide +kernel
theorem dX6_addedJoined_135 : decode cX6_addedJoined 135 = .ok (.lstore 18, 2) := by decide +kernel
theorem dX6_addedJoined_137 : decode cX6_addedJoined 137 = .ok (.lload 18, 2) := by decide +kernel
theorem dX6_addedJoined_139 : decode cX6_addedJoined 139 = .ok (.lload 8, 2) := by decide +kernel
theorem dX6_addedJoined_141 : decode cX6_addedJoined 141 = .ok (.lmul, 1) := by decide +kernel
theorem dX6_addedJoined_142 : decode cX6_addedJoined 142 = .ok (.lload 14, 2) := by decide +kernel
theorem dX6_addedJoined_144 : decode cX6_addedJoined 144 = .ok (.ladd, 1) := by decide +kernel
theorem dX6_addedJoined_145 : decode cX6_addedJoined 145 = .ok (.lreturn, 1) := by decide +kernel
