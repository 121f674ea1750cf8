theorem dX5_init_0 : decode cX5_init 0 = .ok (.aload_n 0, 1) := by decide +kernel
theorem dX5_init_1 : decode cX5_init 1 = .ok (.invokespecial 1, 3) := by decide +kernel
theorem dX5_init_4 : decode cX5_init 4 = .ok (.aload_n 0, 1) := by decide +kernel
theorem dX5_init_5 : decode cX5_init 5 = .ok (.sipush 153, 3) := by decide +kernel
theorem dX5_init_8 : decode cX5_init 8 = .ok (.newarray .int, 2) := by decide +kernel
theorem dX5_init_10 : decode cX5_init 10 = .ok (.putfield 7, 3) := by decide +kernel
theorem dX5_init_13 : decode cX5_init 13 = .ok (.aload_n 0, 1) := by decide +kernel
theorem dX5_init_14 : decode cX5_init 14 = .ok (.bipush 51, 2) := by decide +kernel
theorem dX5_init_16 : decode cX5_init 16 = .ok (.newarray .int, 2) := by decide +kernel
theorem dX5_init_18 : decode cX5_init 18 = .ok (.putfield 13, 3) := by decide +kernel
theorem dX5_init_21 : decode cX5_init 21 = .ok (.aload_n 0, 1) := by decide +kernel
theorem dX5_init_22 : decode cX5_init 22 = .ok (.iconst 2, 1) := by decide +kernel
theorem dX5_init_23 : decode cX5_init 23 = .ok (.newarray .boolean, 2) := by decide +kernel
theorem dX5_init_25 : decode cX5_init 25 = .ok (.putfield 16, 3) := by decide +kernel
theorem dX5_init_28 : decode cX5_init 28 = .ok (.aload_n 0, 1) := by decide +kernel
theorem dX5_init_29 : decode cX5_init 29 = .ok (.bipush 51, 2) := by decide +kernel
theorem dX5_init_31 : decode cX5_init 31 = .ok (.newarray .int, 2) := by decide +kernel
theorem dX5_init_33 : decode cX5_init 33 = .ok (.putfield 20, 3) := by decide +kernel
theorem dX5_init_36 : decode cX5_init 36 = .ok (.aload_n 0, 1) := by decide +kernel
theorem dX5_init_37 : decode cX5_init 37 = .ok (.iconst 4, 1) := by decide +kernel
theorem dX5_init_38 : decode cX5_init 38 = .ok (.newarray .boolean, 2) := by decide +kernel
theorem dX5_init_40 : decode cX5_init 40 = .ok (.putfield 23, 3) := by decide +kernel
theorem dX5_init_43 : decode cX5_init 43 = .ok (.aload_n 0, 1) := by decide +kernel
theorem dX5_init_44 : decode cX5_init 44 = .ok (.sipush 160, 3) := by decide +kernel
theorem dX5_init_47 : decode cX5_init 47 = .ok (.newarray .int, 2) := by decide +kernel
theorem dX5_init_49 : decode cX5_init 49 = .ok (.putfield 26, 3) := by decide +kernel
theorem dX5_init_52 : decode cX5_init 52 = .ok (.aload_n 0, 1) := by decide +kernel
theorem dX5_init_53 : decode cX5_init 53 = .ok (.bipush 8, 2) := by decide +kernel
theorem dX5_init_55 : decode cX5_init 55 = .ok (.newarray .int, 2) := by decide +kernel
theorem dX5_init_57 : decode cX5_init 57 = .ok (.putfield 29, 3) := by decide +kernel
theorem dX5_init_60 : decode cX5_init 60 = .ok (.aload_n 0, 1) := by decide +kernel
theorem dX5_init_61 : decode cX5_init 61 = .ok (.bipush 8, 2) := by decide +kernel
theorem dX5_init_63 : decode cX5_init 63 = .ok (.newarray .int, 2) := by decide +kernel
theorem dX5_init_65 : decode cX5_init 65 = .ok (.putfield 32, 3) := by decide +kernel
theorem dX5_init_68 : decode cX5_init 68 = .ok (.aload_n 0, 1) := by decide +kernel
theorem dX5_init_69 : decode cX5_init 69 = .ok (.sipush 168, 3) := by decide +kernel
theorem dX5_init_72 : decode cX5_init 72 = .ok (.newarray .int, 2) := by decide +kernel
theorem dX5_init_74 : decode cX5_init 74 = .ok (.putfield 35, 3) := by decide +kernel
theorem dX5_init_77 : decode cX5_init 77 = .ok (.aload_n 0, 1) := by decide +kernel
theorem dX5_init_78 : decode cX5_init 78 = .ok (.sipush 2016, 3) := by decide +kernel
theorem dX5_init_81 : decode cX5_init 81 = .ok (.newarray .int, 2) := by decide +kernel
theorem dX5_init_83 : decode cX5_init 83 = .ok (.putfield 38, 3) := by decide +kernel
theorem dX5_init_86 : decode cX5_init 86 = .ok (.aload_n 0, 1) := by decide +kernel
theorem dX5_init_87 : decode cX5_init 87 = .ok (.iconst 4, 1) := by decide +kernel
theorem dX5_init_88 : decode cX5_init 88 = .ok (.newarray .int, 2) := by decide +kernel
theorem dX5_init_90 : decode cX5_init 90 = .ok (.putfield 41, 3) := by decide +kernel
theorem dX5_init_93 : decode cX5_init 93 = .ok (.aload_n 0, 1) := by decide +kernel
theorem dX5_init_94 : decode cX5_init 94 = .ok (.iconst 4, 1) := by decide +kernel
theorem dX5_init_95 : decode cX5_init 95 = .ok (.newarray .int, 2) := by decide +kernel
theorem dX5_init_97 : decode cX5_init 97 = .ok (.putfield 44, 3) := by decide +kernel
theorem dX5_init_100 : decode cX5_init 100 = .ok (.aload_n 0, 1) := by decide +kernel
theorem dX5_init_101 : decode cX5_init 101 = .ok (.sipush 160, 3) := by decide +kernel
theorem dX5_init_104 : decode cX5_init 104 = .ok (.newarray .int, 2) := by decide +kernel
theorem dX5_init_106 : decode cX5_init 106 = .ok (.putfield 47, 3) := by decide +kernel
theorem dX5_init_109 : decode cX5_init 109 = .ok (.aload_n 0, 1) := by decide +kernel
theorem dX5_init_110 : decode cX5_init 110 = .ok (.bipush 51, 2) := by decide +kernel
theorem dX5_init_112 : decode cX5_init 112 = .ok (.newarray .int, 2) := by decide +kernel
theorem dX5_init_114 : decode cX5_init 114 = .ok (.putfield 50, 3) := by decide +kernel
theorem dX5_init_117 : decode cX5_init 117 = .ok (.iconst 0, 1) := by decide +kernel
theorem dX5_init_118 : decode cX5_init 118 = .ok (.istore_n 1, 1) := by decide +kernel
theorem dX5_init_119 : decode cX5_init 119 = .ok (.iload_n 1, 1) := by decide +kernel
theorem dX5_init_120 : decode cX5_init 120 = .ok (.iconst 4, 1) := by decide +kernel
theorem dX5_init_121 : decode cX5_init 121 = .ok (.if_icmp .ge 17, 3) := by decide +kernel
theorem dX5_init_124 : decode cX5_init 124 = .ok (.aload_n 0, 1) := by decide +kernel
theorem dX5_init_125 : decode cX5_init 125 = .ok (.getfield 41, 3) := by decide +kernel
theorem dX5_init_128 : decode cX5_init 128 = .ok (.iload_n 1, 1) := by decide +kernel
theorem dX5_init_129 : decode cX5_init 129 = .ok (.bipush (-4), 2) := by decide +kernel
theorem dX5_init_131 : decode cX5_init 131 = .ok (.iastore, 1) := by decide +kernel
theorem dX5_init_132 : decode cX5_init 132 = .ok (.iinc 1 1, 3) := by decide +kernel
theorem dX5_init_135 : decode cX5_init 135 = .ok (.goto (-16), 3) := by decide +kernel
theorem dX5_init_138 : decode cX5_init 138 = .ok (.aload_n 0, 1) := by decide +kernel
theorem dX5_init_139 : decode cX5_init 139 = .ok (.invokevirtual 53, 3) := by decide +kernel
theorem dX5_init_142 : decode cX5_init 142 = .ok (.aload_n 0, 1) := by decide +kernel
theorem dX5_init_143 : decode cX5_init 143 = .ok (.invokevirtual 56, 3) := by decide +kernel
theorem dX5_init_146 : decode cX5_init 146 = .ok (.return_, 1) := by decide +kernel
theorem dX5_in_0 : decode cX5_in 0 = .ok (.lload_n 0, 1) := by decide +kernel
theorem dX5_in_1 : decode cX5_in 1 = .ok (.lload_n 2, 1) := by decide +kernel
theorem dX5_in_2 : decode cX5_in 2 = .ok (.lcmp, 1) := by decide +kernel
theorem dX5_in_3 : decode cX5_in 3 = .ok (.ifCond .lt 14, 3) := by decide +kernel
theorem dX5_in_6 : decode cX5_in 6 = .ok (.lload_n 0, 1) := by decide +kernel
theorem dX5_in_7 : decode cX5_in 7 = .ok (.lload 4, 2) := by decide +kernel
theorem dX5_in_9 : decode cX5_in 9 = .ok (.lcmp, 1) := by decide +kernel
theorem dX5_in_10 : decode cX5_in 10 = .ok (.ifCond .gt 7, 3) := by decide +kernel
theorem dX5_in_13 : decode cX5_in 13 = .ok (.iconst 1, 1) := by decide +kernel
theorem dX5_in_14 : decode cX5_in 14 = .ok (.goto 4, 3) := by decide +kernel
theorem dX5_in_17 : decode cX5_in 17 = .ok (.iconst 0, 1) := by decide +kernel
theorem dX5_in_18 : decode cX5_in 18 = .ok (.ireturn, 1) := by decide +kernel
theorem dX5_flag_0 : decode cX5_flag 0 = .ok (.iload_n 0, 1) := by decide +kernel
theorem dX5_flag_1 : decode cX5_flag 1 = .ok (.ifCond .eq 7, 3) := by decide +kernel
theorem dX5_flag_4 : decode cX5_flag 4 = .ok (.iconst 1, 1) := by decide +kernel
theorem dX5_flag_5 : decode cX5_flag 5 = .ok (.goto 4, 3) := by decide +kernel
theorem dX5_flag_8 : decode cX5_flag 8 = .ok (.iconst 0, 1) := by decide +kernel
theorem dX5_flag_9 : decode cX5_flag 9 = .ok (.ireturn, 1) := by decide +kernel
theorem dX5_firstDraft_0 : decode cX5_firstDraft 0 = .ok (.iconst 0, 1) := by decide +kernel
theorem dX5_firstDraft_1 : decode cX5_firstDraft 1 = .ok (.istore_n 1, 1) := by decide +kernel
theorem dX5_firstDraft_2 : decode cX5_firstDraft 2 = .ok (.iload_n 1, 1) := by decide +kernel
theorem dX5_firstDraft_3 : decode cX5_firstDraft 3 = .ok (.bipush 51, 2) := by decide +kernel
theorem dX5_firstDraft_5 : decode cX5_firstDraft 5 = .ok (.if_icmp .ge 16, 3) := by decide +kernel
theorem dX5_firstDraft_8 : decode cX5_firstDraft 8 = .ok (.aload_n 0, 1) := by decide +kernel
theorem dX5_firstDraft_9 : decode cX5_firstDraft 9 = .ok (.getfield 20, 3) := by decide +kernel
theorem dX5_firstDraft_12 : decode cX5_firstDraft 12 = .ok (.iload_n 1, 1) := by decide +kernel
theorem dX5_firstDraft_13 : decode cX5_firstDraft 13 = .ok (.iconst 0, 1) := by decide +kernel
theorem dX5_firstDraft_14 : decode cX5_firstDraft 14 = .ok (.iastore, 1) := by decide +kernel
theorem dX5_firstDraft_15 : decode cX5_firstDraft 15 = .ok (.iinc 1 1, 3) := by decide +kernel
theorem dX5_firstDraft_18 : decode cX5_firstDraft 18 = .ok (.goto (-16), 3) := by decide +kernel
theorem dX5_firstDraft_21 : decode cX5_firstDraft 21 = .ok (.iconst 0, 1) := by decide +kernel
theorem dX5_firstDraft_22 : decode cX5_firstDraft 22 = .ok (.istore_n 1, 1) := by decide +kernel
theorem dX5_firstDraft_23 : decode cX5_firstDraft 23 = .ok (.iload_n 1, 1) := by decide +kernel
theorem dX5_firstDraft_24 : decode cX5_firstDraft 24 = .ok (.iconst 4, 1) := by decide +kernel
theorem dX5_firstDraft_25 : decode cX5_firstDraft 25 = .ok (.if_icmp .ge 16, 3) := by decide +kernel
theorem dX5_firstDraft_28 : decode cX5_firstDraft 28 = .ok (.aload_n 0, 1) := by decide +kernel
theorem dX5_firstDraft_29 : decode cX5_firstDraft 29 = .ok (.getfield 23, 3) := by decide +kernel
theorem dX5_firstDraft_32 : decode cX5_firstDraft 32 = .ok (.iload_n 1, 1) := by decide +kernel
theorem dX5_firstDraft_33 : decode cX5_firstDraft 33 = .ok (.iconst 0, 1) := by decide +kernel
theorem dX5_firstDraft_34 : decode cX5_firstDraft 34 = .ok (.bastore, 1) := by decide +kernel
theorem dX5_firstDraft_35 : decode cX5_firstDraft 35 = .ok (.iinc 1 1, 3) := by decide +kernel
theorem dX5_firstDraft_38 : decode cX5_firstDraft 38 = .ok (.goto (-15), 3) := by decide +kernel
theorem dX5_firstDraft_41 : decode cX5_firstDraft 41 = .ok (.aload_n 0, 1) := by decide +kernel
theorem dX5_firstDraft_42 : decode cX5_firstDraft 42 = .ok (.getfield 20, 3) := by decide +kernel
theorem dX5_firstDraft_45 : decode cX5_firstDraft 45 = .ok (.bipush 17, 2) := by decide +kernel
theorem dX5_firstDraft_47 : decode cX5_firstDraft 47 = .ok (.iconst 4, 1) := by decide +kernel
theorem dX5_firstDraft_48 : decode cX5_firstDraft 48 = .ok (.iastore, 1) := by decide +kernel
theorem dX5_firstDraft_49 : decode cX5_firstDraft 49 = .ok (.aload_n 0, 1) := by decide +kernel
theorem dX5_firstDraft_50 : decode cX5_firstDraft 50 = .ok (.getfield 20, 3) := by decide +kernel
theorem dX5_firstDraft_53 : decode cX5_firstDraft 53 = .ok (.bipush 18, 2) := by decide +kernel
theorem dX5_firstDraft_55 : decode cX5_firstDraft 55 = .ok (.iconst 2, 1) := by decide +kernel
theorem dX5_firstDraft_56 : decode cX5_firstDraft 56 = .ok (.iastore, 1) := by decide +kernel
theorem dX5_firstDraft_57 : decode cX5_firstDraft 57 = .ok (.aload_n 0, 1) := by decide +kernel
theorem dX5_firstDraft_58 : decode cX5_firstDraft 58 = .ok (.getfield 20, 3) := by decide +kernel
theorem dX5_firstDraft_61 : decode cX5_firstDraft 61 = .ok (.bipush 19, 2) := by decide +kernel
theorem dX5_firstDraft_63 : decode cX5_firstDraft 63 = .ok (.iconst 4, 1) := by decide +kernel
theorem dX5_firstDraft_64 : decode cX5_firstDraft 64 = .ok (.iastore, 1) := by decide +kernel
theorem dX5_firstDraft_65 : decode cX5_firstDraft 65 = .ok (.aload_n 0, 1) := by decide +kernel
theorem dX5_firstDraft_66 : decode cX5_firstDraft 66 = .ok (.getfield 20, 3) := by decide +kernel
theorem dX5_firstDraft_69 : decode cX5_firstDraft 69 = .ok (.bipush 20, 2) := by decide +kernel
theorem dX5_firstDraft_71 : decode cX5_firstDraft 71 = .ok (.bipush 20, 2) := by decide +kernel
theorem dX5_firstDraft_73 : decode cX5_firstDraft 73 = .ok (.iastore, 1) := by decide +kernel
theorem dX5_firstDraft_74 : decode cX5_firstDraft 74 = .ok (.return_, 1) := by decide +kernel
theorem dX5_keepDraft_0 : decode cX5_keepDraft 0 = .ok (.iconst 0, 1) := by decide +kernel
theorem dX5_keepDraft_1 : decode cX5_keepDraft 1 = .ok (.istore_n 1, 1) := by decide +kernel
theorem dX5_keepDraft_2 : decode cX5_keepDraft 2 = .ok (.iload_n 1, 1) := by decide +kernel
theorem dX5_keepDraft_3 : decode cX5_keepDraft 3 = .ok (.bipush 51, 2) := by decide +kernel
theorem dX5_keepDraft_5 : decode cX5_keepDraft 5 = .ok (.if_icmp .ge 21, 3) := by decide +kernel
theorem dX5_keepDraft_8 : decode cX5_keepDraft 8 = .ok (.aload_n 0, 1) := by decide +kernel
theorem dX5_keepDraft_9 : decode cX5_keepDraft 9 = .ok (.getfield 7, 3) := by decide +kernel
theorem dX5_keepDraft_12 : decode cX5_keepDraft 12 = .ok (.iload_n 1, 1) := by decide +kernel
theorem dX5_keepDraft_13 : decode cX5_keepDraft 13 = .ok (.aload_n 0, 1) := by decide +kernel
theorem dX5_keepDraft_14 : decode cX5_keepDraft 14 = .ok (.getfield 20, 3) := by decide +kernel
theorem dX5_keepDraft_17 : decode cX5_keepDraft 17 = .ok (.iload_n 1, 1) := by decide +kernel
theorem dX5_keepDraft_18 : decode cX5_keepDraft 18 = .ok (.iaload, 1) := by decide +kernel
theorem dX5_keepDraft_19 : decode cX5_keepDraft 19 = .ok (.iastore, 1) := by decide +kernel
theorem dX5_keepDraft_20 : decode cX5_keepDraft 20 = .ok (.iinc 1 1, 3) := by decide +kernel
theorem dX5_keepDraft_23 : decode cX5_keepDraft 23 = .ok (.goto (-21), 3) := by decide +kernel
theorem dX5_keepDraft_26 : decode cX5_keepDraft 26 = .ok (.aload_n 0, 1) := by decide +kernel
theorem dX5_keepDraft_27 : decode cX5_keepDraft 27 = .ok (.getfield 16, 3) := by decide +kernel
theorem dX5_keepDraft_30 : decode cX5_keepDraft 30 = .ok (.iconst 0, 1) := by decide +kernel
theorem dX5_keepDraft_31 : decode cX5_keepDraft 31 = .ok (.iconst 0, 1) := by decide +kernel
theorem dX5_keepDraft_32 : decode cX5_keepDraft 32 = .ok (.bastore, 1) := by decide +kernel
theorem dX5_keepDraft_33 : decode cX5_keepDraft 33 = .ok (.aload_n 0, 1) := by decide +kernel
theorem dX5_keepDraft_34 : decode cX5_keepDraft 34 = .ok (.getfield 16, 3) := by decide +kernel
theorem dX5_keepDraft_37 : decode cX5_keepDraft 37 = .ok (.iconst 1, 1) := by decide +kernel
theorem dX5_keepDraft_38 : decode cX5_keepDraft 38 = .ok (.iconst 0, 1) := by decide +kernel
theorem dX5_keepDraft_39 : decode cX5_keepDraft 39 = .ok (.bastore, 1) := by decide +kernel
theorem dX5_keepDraft_40 : decode cX5_keepDraft 40 = .ok (.return_, 1) := by decide +kernel
theorem dX5_feed_0 : decode cX5_feed 0 = .ok (.iload_n 1, 1) := by decide +kernel
theorem dX5_feed_1 : decode cX5_feed 1 = .ok (.i2l, 1) := by decide +kernel
theorem dX5_feed_2 : decode cX5_feed 2 = .ok (.lconst 0, 1) := by decide +kernel
theorem dX5_feed_3 : decode cX5_feed 3 = .ok (.ldc2_w 59, 3) := by decide +kernel
theorem dX5_feed_6 : decode cX5_feed 6 = .ok (.invokestatic 61, 3) := by decide +kernel
theorem dX5_feed_9 : decode cX5_feed 9 = .ok (.ifCond .ne 5, 3) := by decide +kernel
theorem dX5_feed_12 : decode cX5_feed 12 = .ok (.iconst (-1), 1) := by decide +kernel
theorem dX5_feed_13 : decode cX5_feed 13 = .ok (.ireturn, 1) := by decide +kernel
theorem dX5_feed_14 : decode cX5_feed 14 = .ok (.aload_n 0, 1) := by decide +kernel
theorem dX5_feed_15 : decode cX5_feed 15 = .ok (.getfield 65, 3) := by decide +kernel
theorem dX5_feed_18 : decode cX5_feed 18 = .ok (.sipush 160, 3) := by decide +kernel
theorem dX5_feed_21 : decode cX5_feed 21 = .ok (.if_icmp .ne 6, 3) := by decide +kernel
theorem dX5_feed_24 : decode cX5_feed 24 = .ok (.bipush (-3), 2) := by decide +kernel
theorem dX5_feed_26 : decode cX5_feed 26 = .ok (.ireturn, 1) := by decide +kernel
theorem dX5_feed_27 : decode cX5_feed 27 = .ok (.aload_n 0, 1) := by decide +kernel
theorem dX5_feed_28 : decode cX5_feed 28 = .ok (.getfield 26, 3) := by decide +kernel
theorem dX5_feed_31 : decode cX5_feed 31 = .ok (.aload_n 0, 1) := by decide +kernel
theorem dX5_feed_32 : decode cX5_feed 32 = .ok (.getfield 65, 3) := by decide +kernel
theorem dX5_feed_35 : decode cX5_feed 35 = .ok (.iload_n 1, 1) := by decide +kernel
theorem dX5_feed_36 : decode cX5_feed 36 = .ok (.iastore, 1) := by decide +kernel
theorem dX5_feed_37 : decode cX5_feed 37 = .ok (.aload_n 0, 1) := by decide +kernel
theorem dX5_feed_38 : decode cX5_feed 38 = .ok (.dup, 1) := by decide +kernel
theorem dX5_feed_39 : decode cX5_feed 39 = .ok (.getfield 65, 3) := by decide +kernel
theorem dX5_feed_42 : decode cX5_feed 42 = .ok (.iconst 1, 1) := by decide +kernel
theorem dX5_feed_43 : decode cX5_feed 43 = .ok (.iadd, 1) := by decide +kernel
theorem dX5_feed_44 : decode cX5_feed 44 = .ok (.putfield 65, 3) := by decide +kernel
theorem dX5_feed_47 : decode cX5_feed 47 = .ok (.aload_n 0, 1) := by decide +kernel
theorem dX5_feed_48 : decode cX5_feed 48 = .ok (.getfield 65, 3) := by decide +kernel
theorem dX5_feed_51 : decode cX5_feed 51 = .ok (.ireturn, 1) := by decide +kernel
theorem dX5_end_0 : decode cX5_end 0 = .ok (.iload_n 1, 1) := by decide +kernel
theorem dX5_end_1 : decode cX5_end 1 = .ok (.i2l, 1) := by decide +kernel
theorem dX5_end_2 : decode cX5_end 2 = .ok (.lconst 0, 1) := by decide +kernel
theorem dX5_end_3 : decode cX5_end 3 = .ok (.aload_n 0, 1) := by decide +kernel
theorem dX5_end_4 : decode cX5_end 4 = .ok (.getfield 65, 3) := by decide +kernel
theorem dX5_end_7 : decode cX5_end 7 = .ok (.i2l, 1) := by decide +kernel
theorem dX5_end_8 : decode cX5_end 8 = .ok (.invokestatic 61, 3) := by decide +kernel
theorem dX5_end_11 : decode cX5_end 11 = .ok (.ifCond .ne 5, 3) := by decide +kernel
theorem dX5_end_14 : decode cX5_end 14 = .ok (.iconst (-1), 1) := by decide +kernel
theorem dX5_end_15 : decode cX5_end 15 = .ok (.ireturn, 1) := by decide +kernel
theorem dX5_end_16 : decode cX5_end 16 = .ok (.aload_n 0, 1) := by decide +kernel
theorem dX5_end_17 : decode cX5_end 17 = .ok (.getfield 65, 3) := by decide +kernel
theorem dX5_end_20 : decode cX5_end 20 = .ok (.istore_n 2, 1) := by decide +kernel
theorem dX5_end_21 : decode cX5_end 21 = .ok (.aload_n 0, 1) := by decide +kernel
theorem dX5_end_22 : decode cX5_end 22 = .ok (.iload_n 1, 1) := by decide +kernel
theorem dX5_end_23 : decode cX5_end 23 = .ok (.putfield 65, 3) := by decide +kernel
theorem dX5_end_26 : decode cX5_end 26 = .ok (.iload_n 2, 1) := by decide +kernel
theorem dX5_end_27 : decode cX5_end 27 = .ok (.ireturn, 1) := by decide +kernel
theorem dX5_requires_0 : decode cX5_requires 0 = .ok (.iload_n 1, 1) := by decide +kernel
theorem dX5_requires_1 : decode cX5_requires 1 = .ok (.ifCond .ne 23, 3) := by decide +kernel
theorem dX5_requires_4 : decode cX5_requires 4 = .ok (.aload_n 0, 1) := by decide +kernel
theorem dX5_requires_5 : decode cX5_requires 5 = .ok (.getfield 69, 3) := by decide +kernel
theorem dX5_requires_8 : decode cX5_requires 8 = .ok (.ifCond .ne 16, 3) := by decide +kernel
theorem dX5_requires_11 : decode cX5_requires 11 = .ok (.aload_n 0, 1) := by decide +kernel
theorem dX5_requires_12 : decode cX5_requires 12 = .ok (.iload_n 2, 1) := by decide +kernel
theorem dX5_requires_13 : decode cX5_requires 13 = .ok (.putfield 69, 3) := by decide +kernel
theorem dX5_requires_16 : decode cX5_requires 16 = .ok (.aload_n 0, 1) := by decide +kernel
theorem dX5_requires_17 : decode cX5_requires 17 = .ok (.aload_n 0, 1) := by decide +kernel
theorem dX5_requires_18 : decode cX5_requires 18 = .ok (.getfield 72, 3) := by decide +kernel
theorem dX5_requires_21 : decode cX5_requires 21 = .ok (.putfield 75, 3) := by decide +kernel
theorem dX5_requires_24 : decode cX5_requires 24 = .ok (.return_, 1) := by decide +kernel
theorem dX5_byteAt_0 : decode cX5_byteAt 0 = .ok (.iload_n 1, 1) := by decide +kernel
theorem dX5_byteAt_1 : decode cX5_byteAt 1 = .ok (.aload_n 0, 1) := by decide +kernel
theorem dX5_byteAt_2 : decode cX5_byteAt 2 = .ok (.getfield 65, 3) := by decide +kernel
theorem dX5_byteAt_5 : decode cX5_byteAt 5 = .ok (.if_icmp .ge 12, 3) := by decide +kernel
theorem dX5_byteAt_8 : decode cX5_byteAt 8 = .ok (.aload_n 0, 1) := by decide +kernel
theorem dX5_byteAt_9 : decode cX5_byteAt 9 = .ok (.getfield 26, 3) := by decide +kernel
theorem dX5_byteAt_12 : decode cX5_byteAt 12 = .ok (.iload_n 1, 1) := by decide +kernel
theorem dX5_byteAt_13 : decode cX5_byteAt 13 = .ok (.iaload, 1) := by decide +kernel
theorem dX5_byteAt_14 : decode cX5_byteAt 14 = .ok (.goto 4, 3) := by decide +kernel
theorem dX5_byteAt_17 : decode cX5_byteAt 17 = .ok (.iconst (-1), 1) := by decide +kernel
theorem dX5_byteAt_18 : decode cX5_byteAt 18 = .ok (.ireturn, 1) := by decide +kernel
theorem dX5_is_0 : decode cX5_is 0 = .ok (.aload_n 0, 1) := by decide +kernel
theorem dX5_is_1 : decode cX5_is 1 = .ok (.getfield 78, 3) := by decide +kernel
theorem dX5_is_4 : decode cX5_is 4 = .ok (.aload_n 0, 1) := by decide +kernel
theorem dX5_is_5 : decode cX5_is 5 = .ok (.getfield 72, 3) := by decide +kernel
theorem dX5_is_8 : decode cX5_is 8 = .ok (.isub, 1) := by decide +kernel
theorem dX5_is_9 : decode cX5_is 9 = .ok (.iload_n 1, 1) := by decide +kernel
theorem dX5_is_10 : decode cX5_is 10 = .ok (.if_icmp .ne 48, 3) := by decide +kernel
theorem dX5_is_13 : decode cX5_is 13 = .ok (.aload_n 0, 1) := by decide +kernel
theorem dX5_is_14 : decode cX5_is 14 = .ok (.aload_n 0, 1) := by decide +kernel
theorem dX5_is_15 : decode cX5_is 15 = .ok (.getfield 72, 3) := by decide +kernel
theorem dX5_is_18 : decode cX5_is 18 = .ok (.invokevirtual 81, 3) := by decide +kernel
theorem dX5_is_21 : decode cX5_is 21 = .ok (.iload_n 2, 1) := by decide +kernel
theorem dX5_is_22 : decode cX5_is 22 = .ok (.if_icmp .ne 36, 3) := by decide +kernel
theorem dX5_is_25 : decode cX5_is 25 = .ok (.aload_n 0, 1) := by decide +kernel
theorem dX5_is_26 : decode cX5_is 26 = .ok (.aload_n 0, 1) := by decide +kernel
theorem dX5_is_27 : decode cX5_is 27 = .ok (.getfield 72, 3) := by decide +kernel
theorem dX5_is_30 : decode cX5_is 30 = .ok (.iconst 1, 1) := by decide +kernel
theorem dX5_is_31 : decode cX5_is 31 = .ok (.iadd, 1) := by decide +kernel
theorem dX5_is_32 : decode cX5_is 32 = .ok (.invokevirtual 81, 3) := by decide +kernel
theorem dX5_is_35 : decode cX5_is 35 = .ok (.iload_n 3, 1) := by decide +kernel
theorem dX5_is_36 : decode cX5_is 36 = .ok (.if_icmp .ne 22, 3) := by decide +kernel
theorem dX5_is_39 : decode cX5_is 39 = .ok (.aload_n 0, 1) := by decide +kernel
theorem dX5_is_40 : decode cX5_is 40 = .ok (.aload_n 0, 1) := by decide +kernel
theorem dX5_is_41 : decode cX5_is 41 = .ok (.getfield 72, 3) := by decide +kernel
theorem dX5_is_44 : decode cX5_is 44 = .ok (.iconst 2, 1) := by decide +kernel
theorem dX5_is_45 : decode cX5_is 45 = .ok (.iadd, 1) := by decide +kernel
theorem dX5_is_46 : decode cX5_is 46 = .ok (.invokevirtual 81, 3) := by decide +kernel
theorem dX5_is_49 : decode cX5_is 49 = .ok (.iload 4, 2) := by decide +kernel
theorem dX5_is_51 : decode cX5_is 51 = .ok (.if_icmp .ne 7, 3) := by decide +kernel
theorem dX5_is_54 : decode cX5_is 54 = .ok (.iconst 1, 1) := by decide +kernel
theorem dX5_is_55 : decode cX5_is 55 = .ok (.goto 4, 3) := by decide +kernel
theorem dX5_is_58 : decode cX5_is 58 = .ok (.iconst 0, 1) := by decide +kernel
theorem dX5_is_59 : decode cX5_is 59 = .ok (.ireturn, 1) := by decide +kernel
theorem dX5_endsIn_0 : decode cX5_endsIn 0 = .ok (.aload_n 0, 1) := by decide +kernel
theorem dX5_endsIn_1 : decode cX5_endsIn 1 = .ok (.aload_n 0, 1) := by decide +kernel
theorem dX5_endsIn_2 : decode cX5_endsIn 2 = .ok (.getfield 72, 3) := by decide +kernel
theorem dX5_endsIn_5 : decode cX5_endsIn 5 = .ok (.iconst 3, 1) := by decide +kernel
theorem dX5_endsIn_6 : decode cX5_endsIn 6 = .ok (.iadd, 1) := by decide +kernel
theorem dX5_endsIn_7 : decode cX5_endsIn 7 = .ok (.invokevirtual 81, 3) := by decide +kernel
theorem dX5_endsIn_10 : decode cX5_endsIn 10 = .ok (.iload_n 1, 1) := by decide +kernel
theorem dX5_endsIn_11 : decode cX5_endsIn 11 = .ok (.if_icmp .ne 43, 3) := by decide +kernel
theorem dX5_endsIn_14 : decode cX5_endsIn 14 = .ok (.iload_n 2, 1) := by decide +kernel
theorem dX5_endsIn_15 : decode cX5_endsIn 15 = .ok (.ifCond .eq 17, 3) := by decide +kernel
theorem dX5_endsIn_18 : decode cX5_endsIn 18 = .ok (.aload_n 0, 1) := by decide +kernel
theorem dX5_endsIn_19 : decode cX5_endsIn 19 = .ok (.aload_n 0, 1) := by decide +kernel
theorem dX5_endsIn_20 : decode cX5_endsIn 20 = .ok (.getfield 72, 3) := by decide +kernel
theorem dX5_endsIn_23 : decode cX5_endsIn 23 = .ok (.iconst 4, 1) := by decide +kernel
theorem dX5_endsIn_24 : decode cX5_endsIn 24 = .ok (.iadd, 1) := by decide +kernel
theorem dX5_endsIn_25 : decode cX5_endsIn 25 = .ok (.invokevirtual 81, 3) := by decide +kernel
theorem dX5_endsIn_28 : decode cX5_endsIn 28 = .ok (.iload_n 2, 1) := by decide +kernel
theorem dX5_endsIn_29 : decode cX5_endsIn 29 = .ok (.if_icmp .ne 25, 3) := by decide +kernel
theorem dX5_endsIn_32 : decode cX5_endsIn 32 = .ok (.iload_n 3, 1) := by decide +kernel
theorem dX5_endsIn_33 : decode cX5_endsIn 33 = .ok (.ifCond .eq 17, 3) := by decide +kernel
theorem dX5_endsIn_36 : decode cX5_endsIn 36 = .ok (.aload_n 0, 1) := by decide +kernel
theorem dX5_endsIn_37 : decode cX5_endsIn 37 = .ok (.aload_n 0, 1) := by decide +kernel
theorem dX5_endsIn_38 : decode cX5_endsIn 38 = .ok (.getfield 72, 3) := by decide +kernel
theorem dX5_endsIn_41 : decode cX5_endsIn 41 = .ok (.iconst 5, 1) := by decide +kernel
theorem dX5_endsIn_42 : decode cX5_endsIn 42 = .ok (.iadd, 1) := by decide +kernel
theorem dX5_endsIn_43 : decode cX5_endsIn 43 = .ok (.invokevirtual 81, 3) := by decide +kernel
theorem dX5_endsIn_46 : decode cX5_endsIn 46 = .ok (.iload_n 3, 1) := by decide +kernel
theorem dX5_endsIn_47 : decode cX5_endsIn 47 = .ok (.if_icmp .ne 7, 3) := by decide +kernel
theorem dX5_endsIn_50 : decode cX5_endsIn 50 = .ok (.iconst 1, 1) := by decide +kernel
theorem dX5_endsIn_51 : decode cX5_endsIn 51 = .ok (.goto 4, 3) := by decide +kernel
theorem dX5_endsIn_54 : decode cX5_endsIn 54 = .ok (.iconst 0, 1) := by decide +kernel
theorem dX5_endsIn_55 : decode cX5_endsIn 55 = .ok (.ireturn, 1) := by decide +kernel
theorem dX5_lineNow_0 : decode cX5_lineNow 0 = .ok (.aload_n 0, 1) := by decide +kernel
theorem dX5_lineNow_1 : decode cX5_lineNow 1 = .ok (.bipush 6, 2) := by decide +kernel
theorem dX5_lineNow_3 : decode cX5_lineNow 3 = .ok (.bipush 115, 2) := by decide +kernel
theorem dX5_lineNow_5 : decode cX5_lineNow 5 = .ok (.bipush 116, 2) := by decide +kernel
theorem dX5_lineNow_7 : decode cX5_lineNow 7 = .ok (.bipush 101, 2) := by decide +kernel
theorem dX5_lineNow_9 : decode cX5_lineNow 9 = .ok (.invokevirtual 85, 3) := by decide +kernel
theorem dX5_lineNow_12 : decode cX5_lineNow 12 = .ok (.ifCond .eq 18, 3) := by decide +kernel
theorem dX5_lineNow_15 : decode cX5_lineNow 15 = .ok (.aload_n 0, 1) := by decide +kernel
theorem dX5_lineNow_16 : decode cX5_lineNow 16 = .ok (.bipush 97, 2) := by decide +kernel
theorem dX5_lineNow_18 : decode cX5_lineNow 18 = .ok (.bipush 100, 2) := by decide +kernel
theorem dX5_lineNow_20 : decode cX5_lineNow 20 = .ok (.bipush 121, 2) := by decide +kernel
theorem dX5_lineNow_22 : decode cX5_lineNow 22 = .ok (.invokevirtual 89, 3) := by decide +kernel
theorem dX5_lineNow_25 : decode cX5_lineNow 25 = .ok (.ifCond .eq 5, 3) := by decide +kernel
theorem dX5_lineNow_28 : decode cX5_lineNow 28 = .ok (.iconst 0, 1) := by decide +kernel
theorem dX5_lineNow_29 : decode cX5_lineNow 29 = .ok (.ireturn, 1) := by decide +kernel
theorem dX5_lineNow_30 : decode cX5_lineNow 30 = .ok (.aload_n 0, 1) := by decide +kernel
theorem dX5_lineNow_31 : decode cX5_lineNow 31 = .ok (.iconst 5, 1) := by decide +kernel
theorem dX5_lineNow_32 : decode cX5_lineNow 32 = .ok (.bipush 98, 2) := by decide +kernel
theorem dX5_lineNow_34 : decode cX5_lineNow 34 = .ok (.bipush 108, 2) := by decide +kernel
theorem dX5_lineNow_36 : decode cX5_lineNow 36 = .ok (.bipush 105, 2) := by decide +kernel
theorem dX5_lineNow_38 : decode cX5_lineNow 38 = .ok (.invokevirtual 85, 3) := by decide +kernel
theorem dX5_lineNow_41 : decode cX5_lineNow 41 = .ok (.ifCond .eq 17, 3) := by decide +kernel
theorem dX5_lineNow_44 : decode cX5_lineNow 44 = .ok (.aload_n 0, 1) := by decide +kernel
theorem dX5_lineNow_45 : decode cX5_lineNow 45 = .ok (.bipush 110, 2) := by decide +kernel
theorem dX5_lineNow_47 : decode cX5_lineNow 47 = .ok (.bipush 107, 2) := by decide +kernel
theorem dX5_lineNow_49 : decode cX5_lineNow 49 = .ok (.iconst 0, 1) := by decide +kernel
theorem dX5_lineNow_50 : decode cX5_lineNow 50 = .ok (.invokevirtual 89, 3) := by decide +kernel
theorem dX5_lineNow_53 : decode cX5_lineNow 53 = .ok (.ifCond .eq 5, 3) := by decide +kernel
theorem dX5_lineNow_56 : decode cX5_lineNow 56 = .ok (.iconst 1, 1) := by decide +kernel
theorem dX5_lineNow_57 : decode cX5_lineNow 57 = .ok (.ireturn, 1) := by decide +kernel
theorem dX5_lineNow_58 : decode cX5_lineNow 58 = .ok (.aload_n 0, 1) := by decide +kernel
theorem dX5_lineNow_59 : decode cX5_lineNow 59 = .ok (.iconst 3, 1) := by decide +kernel
theorem dX5_lineNow_60 : decode cX5_lineNow 60 = .ok (.bipush 115, 2) := by decide +kernel
theorem dX5_lineNow_62 : decode cX5_lineNow 62 = .ok (.bipush 97, 2) := by decide +kernel
theorem dX5_lineNow_64 : decode cX5_lineNow 64 = .ok (.bipush 119, 2) := by decide +kernel
theorem dX5_lineNow_66 : decode cX5_lineNow 66 = .ok (.invokevirtual 85, 3) := by decide +kernel
theorem dX5_lineNow_69 : decode cX5_lineNow 69 = .ok (.ifCond .eq 5, 3) := by decide +kernel
theorem dX5_lineNow_72 : decode cX5_lineNow 72 = .ok (.iconst 2, 1) := by decide +kernel
theorem dX5_lineNow_73 : decode cX5_lineNow 73 = .ok (.ireturn, 1) := by decide +kernel
theorem dX5_lineNow_74 : decode cX5_lineNow 74 = .ok (.aload_n 0, 1) := by decide +kernel
theorem dX5_lineNow_75 : decode cX5_lineNow 75 = .ok (.iconst 4, 1) := by decide +kernel
theorem dX5_lineNow_76 : decode cX5_lineNow 76 = .ok (.bipush 112, 2) := by decide +kernel
theorem dX5_lineNow_78 : decode cX5_lineNow 78 = .ok (.bipush 97, 2) := by decide +kernel
theorem dX5_lineNow_80 : decode cX5_lineNow 80 = .ok (.bipush 105, 2) := by decide +kernel
theorem dX5_lineNow_82 : decode cX5_lineNow 82 = .ok (.invokevirtual 85, 3) := by decide +kernel
theorem dX5_lineNow_85 : decode cX5_lineNow 85 = .ok (.ifCond .eq 16, 3) := by decide +kernel
theorem dX5_lineNow_88 : decode cX5_lineNow 88 = .ok (.aload_n 0, 1) := by decide +kernel
theorem dX5_lineNow_89 : decode cX5_lineNow 89 = .ok (.bipush 114, 2) := by decide +kernel
theorem dX5_lineNow_91 : decode cX5_lineNow 91 = .ok (.iconst 0, 1) := by decide +kernel
theorem dX5_lineNow_92 : decode cX5_lineNow 92 = .ok (.iconst 0, 1) := by decide +kernel
theorem dX5_lineNow_93 : decode cX5_lineNow 93 = .ok (.invokevirtual 89, 3) := by decide +kernel
theorem dX5_lineNow_96 : decode cX5_lineNow 96 = .ok (.ifCond .eq 5, 3) := by decide +kernel
theorem dX5_lineNow_99 : decode cX5_lineNow 99 = .ok (.iconst 3, 1) := by decide +kernel
theorem dX5_lineNow_100 : decode cX5_lineNow 100 = .ok (.ireturn, 1) := by decide +kernel
theorem dX5_lineNow_101 : decode cX5_lineNow 101 = .ok (.aload_n 0, 1) := by decide +kernel
theorem dX5_lineNow_102 : decode cX5_lineNow 102 = .ok (.iconst 4, 1) := by decide +kernel
theorem dX5_lineNow_103 : decode cX5_lineNow 103 = .ok (.bipush 114, 2) := by decide +kernel
theorem dX5_lineNow_105 : decode cX5_lineNow 105 = .ok (.bipush 111, 2) := by decide +kernel
theorem dX5_lineNow_107 : decode cX5_lineNow 107 = .ok (.bipush 119, 2) := by decide +kernel
theorem dX5_lineNow_109 : decode cX5_lineNow 109 = .ok (.invokevirtual 85, 3) := by decide +kernel
theorem dX5_lineNow_112 : decode cX5_lineNow 112 = .ok (.ifCond .eq 16, 3) := by decide +kernel
theorem dX5_lineNow_115 : decode cX5_lineNow 115 = .ok (.aload_n 0, 1) := by decide +kernel
theorem dX5_lineNow_116 : decode cX5_lineNow 116 = .ok (.bipush 115, 2) := by decide +kernel
theorem dX5_lineNow_118 : decode cX5_lineNow 118 = .ok (.iconst 0, 1) := by decide +kernel
theorem dX5_lineNow_119 : decode cX5_lineNow 119 = .ok (.iconst 0, 1) := by decide +kernel
theorem dX5_lineNow_120 : decode cX5_lineNow 120 = .ok (.invokevirtual 89, 3) := by decide +kernel
theorem dX5_lineNow_123 : decode cX5_lineNow 123 = .ok (.ifCond .eq 5, 3) := by decide +kernel
theorem dX5_lineNow_126 : decode cX5_lineNow 126 = .ok (.iconst 4, 1) := by decide +kernel
theorem dX5_lineNow_127 : decode cX5_lineNow 127 = .ok (.ireturn, 1) := by decide +kernel
theorem dX5_lineNow_128 : decode cX5_lineNow 128 = .ok (.aload_n 0, 1) := by decide +kernel
theorem dX5_lineNow_129 : decode cX5_lineNow 129 = .ok (.iconst 5, 1) := by decide +kernel
theorem dX5_lineNow_130 : decode cX5_lineNow 130 = .ok (.bipush 100, 2) := by decide +kernel
theorem dX5_lineNow_132 : decode cX5_lineNow 132 = .ok (.bipush 101, 2) := by decide +kernel
theorem dX5_lineNow_134 : decode cX5_lineNow 134 = .ok (.bipush 108, 2) := by decide +kernel
theorem dX5_lineNow_136 : decode cX5_lineNow 136 = .ok (.invokevirtual 85, 3) := by decide +kernel
theorem dX5_lineNow_139 : decode cX5_lineNow 139 = .ok (.ifCond .eq 17, 3) := by decide +kernel
theorem dX5_lineNow_142 : decode cX5_lineNow 142 = .ok (.aload_n 0, 1) := by decide +kernel
theorem dX5_lineNow_143 : decode cX5_lineNow 143 = .ok (.bipush 97, 2) := by decide +kernel
theorem dX5_lineNow_145 : decode cX5_lineNow 145 = .ok (.bipush 121, 2) := by decide +kernel
theorem dX5_lineNow_147 : decode cX5_lineNow 147 = .ok (.iconst 0, 1) := by decide +kernel
theorem dX5_lineNow_148 : decode cX5_lineNow 148 = .ok (.invokevirtual 89, 3) := by decide +kernel
theorem dX5_lineNow_151 : decode cX5_lineNow 151 = .ok (.ifCond .eq 5, 3) := by decide +kernel
theorem dX5_lineNow_154 : decode cX5_lineNow 154 = .ok (.iconst 5, 1) := by decide +kernel
theorem dX5_lineNow_155 : decode cX5_lineNow 155 = .ok (.ireturn, 1) := by decide +kernel
theorem dX5_lineNow_156 : decode cX5_lineNow 156 = .ok (.aload_n 0, 1) := by decide +kernel
theorem dX5_lineNow_157 : decode cX5_lineNow 157 = .ok (.bipush 6, 2) := by decide +kernel
theorem dX5_lineNow_159 : decode cX5_lineNow 159 = .ok (.bipush 101, 2) := by decide +kernel
theorem dX5_lineNow_161 : decode cX5_lineNow 161 = .ok (.bipush 120, 2) := by decide +kernel
theorem dX5_lineNow_163 : decode cX5_lineNow 163 = .ok (.bipush 112, 2) := by decide +kernel
theorem dX5_lineNow_165 : decode cX5_lineNow 165 = .ok (.invokevirtual 85, 3) := by decide +kernel
theorem dX5_lineNow_168 : decode cX5_lineNow 168 = .ok (.ifCond .eq 19, 3) := by decide +kernel
theorem dX5_lineNow_171 : decode cX5_lineNow 171 = .ok (.aload_n 0, 1) := by decide +kernel
theorem dX5_lineNow_172 : decode cX5_lineNow 172 = .ok (.bipush 111, 2) := by decide +kernel
theorem dX5_lineNow_174 : decode cX5_lineNow 174 = .ok (.bipush 115, 2) := by decide +kernel
theorem dX5_lineNow_176 : decode cX5_lineNow 176 = .ok (.bipush 101, 2) := by decide +kernel
theorem dX5_lineNow_178 : decode cX5_lineNow 178 = .ok (.invokevirtual 89, 3) := by decide +kernel
theorem dX5_lineNow_181 : decode cX5_lineNow 181 = .ok (.ifCond .eq 6, 3) := by decide +kernel
theorem dX5_lineNow_184 : decode cX5_lineNow 184 = .ok (.bipush 6, 2) := by decide +kernel
theorem dX5_lineNow_186 : decode cX5_lineNow 186 = .ok (.ireturn, 1) := by decide +kernel
theorem dX5_lineNow_187 : decode cX5_lineNow 187 = .ok (.aload_n 0, 1) := by decide +kernel
theorem dX5_lineNow_188 : decode cX5_lineNow 188 = .ok (.iconst 4, 1) := by decide +kernel
theorem dX5_lineNow_189 : decode cX5_lineNow 189 = .ok (.bipush 112, 2) := by decide +kernel
theorem dX5_lineNow_191 : decode cX5_lineNow 191 = .ok (.bipush 97, 2) := by decide +kernel
theorem dX5_lineNow_193 : decode cX5_lineNow 193 = .ok (.bipush 99, 2) := by decide +kernel
theorem dX5_lineNow_195 : decode cX5_lineNow 195 = .ok (.invokevirtual 85, 3) := by decide +kernel
theorem dX5_lineNow_198 : decode cX5_lineNow 198 = .ok (.ifCond .eq 19, 3) := by decide +kernel
theorem dX5_lineNow_201 : decode cX5_lineNow 201 = .ok (.aload_n 0, 1) := by decide +kernel
theorem dX5_lineNow_202 : decode cX5_lineNow 202 = .ok (.bipush 101, 2) := by decide +kernel
theorem dX5_lineNow_204 : decode cX5_lineNow 204 = .ok (.iconst 0, 1) := by decide +kernel
theorem dX5_lineNow_205 : decode cX5_lineNow 205 = .ok (.iconst 0, 1) := by decide +kernel
theorem dX5_lineNow_206 : decode cX5_lineNow 206 = .ok (.invokevirtual 89, 3) := by decide +kernel
theorem dX5_lineNow_209 : decode cX5_lineNow 209 = .ok (.ifCond .eq 8, 3) := by decide +kernel
theorem dX5_lineNow_212 : decode cX5_lineNow 212 = .ok (.bipush 7, 2) := by decide +kernel
theorem dX5_lineNow_214 : decode cX5_lineNow 214 = .ok (.goto 5, 3) := by decide +kernel
theorem dX5_lineNow_217 : decode cX5_lineNow 217 = .ok (.bipush (-4), 2) := by decide +kernel
theorem dX5_lineNow_219 : decode cX5_lineNow 219 = .ok (.ireturn, 1) := by decide +kernel
theorem dX5_reads_0 : decode cX5_reads 0 = .ok (.aload_n 0, 1) := by decide +kernel
theorem dX5_reads_1 : decode cX5_reads 1 = .ok (.getfield 69, 3) := by decide +kernel
theorem dX5_reads_4 : decode cX5_reads 4 = .ok (.ifCond .le 4, 3) := by decide +kernel
theorem dX5_reads_7 : decode cX5_reads 7 = .ok (.return_, 1) := by decide +kernel
theorem dX5_reads_8 : decode cX5_reads 8 = .ok (.aload_n 0, 1) := by decide +kernel
theorem dX5_reads_9 : decode cX5_reads 9 = .ok (.aload_n 0, 1) := by decide +kernel
theorem dX5_reads_10 : decode cX5_reads 10 = .ok (.getfield 78, 3) := by decide +kernel
theorem dX5_reads_13 : decode cX5_reads 13 = .ok (.invokevirtual 81, 3) := by decide +kernel
theorem dX5_reads_16 : decode cX5_reads 16 = .ok (.bipush 32, 2) := by decide +kernel
theorem dX5_reads_18 : decode cX5_reads 18 = .ok (.if_icmp .ne 16, 3) := by decide +kernel
theorem dX5_reads_21 : decode cX5_reads 21 = .ok (.aload_n 0, 1) := by decide +kernel
theorem dX5_reads_22 : decode cX5_reads 22 = .ok (.dup, 1) := by decide +kernel
theorem dX5_reads_23 : decode cX5_reads 23 = .ok (.getfield 78, 3) := by decide +kernel
theorem dX5_reads_26 : decode cX5_reads 26 = .ok (.iconst 1, 1) := by decide +kernel
theorem dX5_reads_27 : decode cX5_reads 27 = .ok (.iadd, 1) := by decide +kernel
theorem dX5_reads_28 : decode cX5_reads 28 = .ok (.putfield 78, 3) := by decide +kernel
theorem dX5_reads_31 : decode cX5_reads 31 = .ok (.goto (-23), 3) := by decide +kernel
theorem dX5_reads_34 : decode cX5_reads 34 = .ok (.aload_n 0, 1) := by decide +kernel
theorem dX5_reads_35 : decode cX5_reads 35 = .ok (.aload_n 0, 1) := by decide +kernel
theorem dX5_reads_36 : decode cX5_reads 36 = .ok (.getfield 78, 3) := by decide +kernel
theorem dX5_reads_39 : decode cX5_reads 39 = .ok (.putfield 72, 3) := by decide +kernel
theorem dX5_reads_42 : decode cX5_reads 42 = .ok (.aload_n 0, 1) := by decide +kernel
theorem dX5_reads_43 : decode cX5_reads 43 = .ok (.aload_n 0, 1) := by decide +kernel
theorem dX5_reads_44 : decode cX5_reads 44 = .ok (.getfield 78, 3) := by decide +kernel
theorem dX5_reads_47 : decode cX5_reads 47 = .ok (.invokevirtual 81, 3) := by decide +kernel
theorem dX5_reads_50 : decode cX5_reads 50 = .ok (.istore_n 1, 1) := by decide +kernel
theorem dX5_reads_51 : decode cX5_reads 51 = .ok (.iload_n 1, 1) := by decide +kernel
theorem dX5_reads_52 : decode cX5_reads 52 = .ok (.ifCond .ge 11, 3) := by decide +kernel
theorem dX5_reads_55 : decode cX5_reads 55 = .ok (.aload_n 0, 1) := by decide +kernel
theorem dX5_reads_56 : decode cX5_reads 56 = .ok (.iconst 0, 1) := by decide +kernel
theorem dX5_reads_57 : decode cX5_reads 57 = .ok (.putfield 93, 3) := by decide +kernel
theorem dX5_reads_60 : decode cX5_reads 60 = .ok (.goto 214, 3) := by decide +kernel
theorem dX5_reads_63 : decode cX5_reads 63 = .ok (.iload_n 1, 1) := by decide +kernel
theorem dX5_reads_64 : decode cX5_reads 64 = .ok (.i2l, 1) := by decide +kernel
theorem dX5_reads_65 : decode cX5_reads 65 = .ok (.ldc2_w 96, 3) := by decide +kernel
theorem dX5_reads_68 : decode cX5_reads 68 = .ok (.ldc2_w 98, 3) := by decide +kernel
theorem dX5_reads_71 : decode cX5_reads 71 = .ok (.invokestatic 61, 3) := by decide +kernel
theorem dX5_reads_74 : decode cX5_reads 74 = .ok (.ifCond .eq 42, 3) := by decide +kernel
theorem dX5_reads_77 : decode cX5_reads 77 = .ok (.aload_n 0, 1) := by decide +kernel
theorem dX5_reads_78 : decode cX5_reads 78 = .ok (.iconst 1, 1) := by decide +kernel
theorem dX5_reads_79 : decode cX5_reads 79 = .ok (.putfield 93, 3) := by decide +kernel
theorem dX5_reads_82 : decode cX5_reads 82 = .ok (.aload_n 0, 1) := by decide +kernel
theorem dX5_reads_83 : decode cX5_reads 83 = .ok (.aload_n 0, 1) := by decide +kernel
theorem dX5_reads_84 : decode cX5_reads 84 = .ok (.getfield 78, 3) := by decide +kernel
theorem dX5_reads_87 : decode cX5_reads 87 = .ok (.invokevirtual 81, 3) := by decide +kernel
theorem dX5_reads_90 : decode cX5_reads 90 = .ok (.i2l, 1) := by decide +kernel
theorem dX5_reads_91 : decode cX5_reads 91 = .ok (.ldc2_w 96, 3) := by decide +kernel
theorem dX5_reads_94 : decode cX5_reads 94 = .ok (.ldc2_w 98, 3) := by decide +kernel
theorem dX5_reads_97 : decode cX5_reads 97 = .ok (.invokestatic 61, 3) := by decide +kernel
theorem dX5_reads_100 : decode cX5_reads 100 = .ok (.ifCond .eq 174, 3) := by decide +kernel
theorem dX5_reads_103 : decode cX5_reads 103 = .ok (.aload_n 0, 1) := by decide +kernel
theorem dX5_reads_104 : decode cX5_reads 104 = .ok (.dup, 1) := by decide +kernel
theorem dX5_reads_105 : decode cX5_reads 105 = .ok (.getfield 78, 3) := by decide +kernel
theorem dX5_reads_108 : decode cX5_reads 108 = .ok (.iconst 1, 1) := by decide +kernel
theorem dX5_reads_109 : decode cX5_reads 109 = .ok (.iadd, 1) := by decide +kernel
theorem dX5_reads_110 : decode cX5_reads 110 = .ok (.putfield 78, 3) := by decide +kernel
theorem dX5_reads_113 : decode cX5_reads 113 = .ok (.goto (-31), 3) := by decide +kernel
theorem dX5_reads_116 : decode cX5_reads 116 = .ok (.iload_n 1, 1) := by decide +kernel
theorem dX5_reads_117 : decode cX5_reads 117 = .ok (.i2l, 1) := by decide +kernel
theorem dX5_reads_118 : decode cX5_reads 118 = .ok (.ldc2_w 100, 3) := by decide +kernel
theorem dX5_reads_121 : decode cX5_reads 121 = .ok (.ldc2_w 102, 3) := by decide +kernel
theorem dX5_reads_124 : decode cX5_reads 124 = .ok (.invokestatic 61, 3) := by decide +kernel
theorem dX5_reads_127 : decode cX5_reads 127 = .ok (.ifCond .eq 116, 3) := by decide +kernel
theorem dX5_reads_130 : decode cX5_reads 130 = .ok (.aload_n 0, 1) := by decide +kernel
theorem dX5_reads_131 : decode cX5_reads 131 = .ok (.iconst 2, 1) := by decide +kernel
theorem dX5_reads_132 : decode cX5_reads 132 = .ok (.putfield 93, 3) := by decide +kernel
theorem dX5_reads_135 : decode cX5_reads 135 = .ok (.aload_n 0, 1) := by decide +kernel
theorem dX5_reads_136 : decode cX5_reads 136 = .ok (.iconst 0, 1) := by decide +kernel
theorem dX5_reads_137 : decode cX5_reads 137 = .ok (.putfield 104, 3) := by decide +kernel
theorem dX5_reads_140 : decode cX5_reads 140 = .ok (.aload_n 0, 1) := by decide +kernel
theorem dX5_reads_141 : decode cX5_reads 141 = .ok (.aload_n 0, 1) := by decide +kernel
theorem dX5_reads_142 : decode cX5_reads 142 = .ok (.getfield 78, 3) := by decide +kernel
theorem dX5_reads_145 : decode cX5_reads 145 = .ok (.invokevirtual 81, 3) := by decide +kernel
theorem dX5_reads_148 : decode cX5_reads 148 = .ok (.i2l, 1) := by decide +kernel
theorem dX5_reads_149 : decode cX5_reads 149 = .ok (.ldc2_w 100, 3) := by decide +kernel
theorem dX5_reads_152 : decode cX5_reads 152 = .ok (.ldc2_w 102, 3) := by decide +kernel
theorem dX5_reads_155 : decode cX5_reads 155 = .ok (.invokestatic 61, 3) := by decide +kernel
theorem dX5_reads_158 : decode cX5_reads 158 = .ok (.ifCond .eq 59, 3) := by decide +kernel
theorem dX5_reads_161 : decode cX5_reads 161 = .ok (.aload_n 0, 1) := by decide +kernel
theorem dX5_reads_162 : decode cX5_reads 162 = .ok (.aload_n 0, 1) := by decide +kernel
theorem dX5_reads_163 : decode cX5_reads 163 = .ok (.getfield 78, 3) := by decide +kernel
theorem dX5_reads_166 : decode cX5_reads 166 = .ok (.aload_n 0, 1) := by decide +kernel
theorem dX5_reads_167 : decode cX5_reads 167 = .ok (.getfield 72, 3) := by decide +kernel
theorem dX5_reads_170 : decode cX5_reads 170 = .ok (.isub, 1) := by decide +kernel
theorem dX5_reads_171 : decode cX5_reads 171 = .ok (.iconst 2, 1) := by decide +kernel
theorem dX5_reads_172 : decode cX5_reads 172 = .ok (.if_icmp .ge 25, 3) := by decide +kernel
theorem dX5_reads_175 : decode cX5_reads 175 = .ok (.bipush 10, 2) := by decide +kernel
theorem dX5_reads_177 : decode cX5_reads 177 = .ok (.aload_n 0, 1) := by decide +kernel
theorem dX5_reads_178 : decode cX5_reads 178 = .ok (.getfield 104, 3) := by decide +kernel
theorem dX5_reads_181 : decode cX5_reads 181 = .ok (.imul, 1) := by decide +kernel
theorem dX5_reads_182 : decode cX5_reads 182 = .ok (.aload_n 0, 1) := by decide +kernel
theorem dX5_reads_183 : decode cX5_reads 183 = .ok (.aload_n 0, 1) := by decide +kernel
theorem dX5_reads_184 : decode cX5_reads 184 = .ok (.getfield 78, 3) := by decide +kernel
theorem dX5_reads_187 : decode cX5_reads 187 = .ok (.invokevirtual 81, 3) := by decide +kernel
theorem dX5_reads_190 : decode cX5_reads 190 = .ok (.iadd, 1) := by decide +kernel
theorem dX5_reads_191 : decode cX5_reads 191 = .ok (.bipush 48, 2) := by decide +kernel
theorem dX5_reads_193 : decode cX5_reads 193 = .ok (.isub, 1) := by decide +kernel
theorem dX5_reads_194 : decode cX5_reads 194 = .ok (.goto 7, 3) := by decide +kernel
theorem dX5_reads_197 : decode cX5_reads 197 = .ok (.aload_n 0, 1) := by decide +kernel
theorem dX5_reads_198 : decode cX5_reads 198 = .ok (.getfield 104, 3) := by decide +kernel
theorem dX5_reads_201 : decode cX5_reads 201 = .ok (.putfield 104, 3) := by decide +kernel
theorem dX5_reads_204 : decode cX5_reads 204 = .ok (.aload_n 0, 1) := by decide +kernel
theorem dX5_reads_205 : decode cX5_reads 205 = .ok (.dup, 1) := by decide +kernel
theorem dX5_reads_206 : decode cX5_reads 206 = .ok (.getfield 78, 3) := by decide +kernel
theorem dX5_reads_209 : decode cX5_reads 209 = .ok (.iconst 1, 1) := by decide +kernel
theorem dX5_reads_210 : decode cX5_reads 210 = .ok (.iadd, 1) := by decide +kernel
theorem dX5_reads_211 : decode cX5_reads 211 = .ok (.putfield 78, 3) := by decide +kernel
theorem dX5_reads_214 : decode cX5_reads 214 = .ok (.goto (-74), 3) := by decide +kernel
theorem dX5_reads_217 : decode cX5_reads 217 = .ok (.aload_n 0, 1) := by decide +kernel
theorem dX5_reads_218 : decode cX5_reads 218 = .ok (.aload_n 0, 1) := by decide +kernel
theorem dX5_reads_219 : decode cX5_reads 219 = .ok (.getfield 78, 3) := by decide +kernel
theorem dX5_reads_222 : decode cX5_reads 222 = .ok (.aload_n 0, 1) := by decide +kernel
theorem dX5_reads_223 : decode cX5_reads 223 = .ok (.getfield 72, 3) := by decide +kernel
theorem dX5_reads_226 : decode cX5_reads 226 = .ok (.isub, 1) := by decide +kernel
theorem dX5_reads_227 : decode cX5_reads 227 = .ok (.iconst 2, 1) := by decide +kernel
theorem dX5_reads_228 : decode cX5_reads 228 = .ok (.if_icmp .gt 7, 3) := by decide +kernel
theorem dX5_reads_231 : decode cX5_reads 231 = .ok (.iconst 1, 1) := by decide +kernel
theorem dX5_reads_232 : decode cX5_reads 232 = .ok (.goto 4, 3) := by decide +kernel
theorem dX5_reads_235 : decode cX5_reads 235 = .ok (.iconst 0, 1) := by decide +kernel
theorem dX5_reads_236 : decode cX5_reads 236 = .ok (.iconst 1, 1) := by decide +kernel
theorem dX5_reads_237 : decode cX5_reads 237 = .ok (.invokevirtual 107, 3) := by decide +kernel
theorem dX5_reads_240 : decode cX5_reads 240 = .ok (.goto 34, 3) := by decide +kernel
theorem dX5_reads_243 : decode cX5_reads 243 = .ok (.aload_n 0, 1) := by decide +kernel
theorem dX5_reads_244 : decode cX5_reads 244 = .ok (.iconst 3, 1) := by decide +kernel
theorem dX5_reads_245 : decode cX5_reads 245 = .ok (.putfield 93, 3) := by decide +kernel
theorem dX5_reads_248 : decode cX5_reads 248 = .ok (.aload_n 0, 1) := by decide +kernel
theorem dX5_reads_249 : decode cX5_reads 249 = .ok (.iload_n 1, 1) := by decide +kernel
theorem dX5_reads_250 : decode cX5_reads 250 = .ok (.bipush 59, 2) := by decide +kernel
theorem dX5_reads_252 : decode cX5_reads 252 = .ok (.if_icmp .ne 7, 3) := by decide +kernel
theorem dX5_reads_255 : decode cX5_reads 255 = .ok (.iconst 1, 1) := by decide +kernel
theorem dX5_reads_256 : decode cX5_reads 256 = .ok (.goto 4, 3) := by decide +kernel
theorem dX5_reads_259 : decode cX5_reads 259 = .ok (.iconst 0, 1) := by decide +kernel
theorem dX5_reads_260 : decode cX5_reads 260 = .ok (.iconst 1, 1) := by decide +kernel
theorem dX5_reads_261 : decode cX5_reads 261 = .ok (.invokevirtual 107, 3) := by decide +kernel
theorem dX5_reads_264 : decode cX5_reads 264 = .ok (.aload_n 0, 1) := by decide +kernel
theorem dX5_reads_265 : decode cX5_reads 265 = .ok (.dup, 1) := by decide +kernel
theorem dX5_reads_266 : decode cX5_reads 266 = .ok (.getfield 78, 3) := by decide +kernel
theorem dX5_reads_269 : decode cX5_reads 269 = .ok (.iconst 1, 1) := by decide +kernel
theorem dX5_reads_270 : decode cX5_reads 270 = .ok (.iadd, 1) := by decide +kernel
theorem dX5_reads_271 : decode cX5_reads 271 = .ok (.putfield 78, 3) := by decide +kernel
theorem dX5_reads_274 : decode cX5_reads 274 = .ok (.return_, 1) := by decide +kernel
theorem dX5_readNumber_0 : decode cX5_readNumber 0 = .ok (.aload_n 0, 1) := by decide +kernel
theorem dX5_readNumber_1 : decode cX5_readNumber 1 = .ok (.getfield 69, 3) := by decide +kernel
theorem dX5_readNumber_4 : decode cX5_readNumber 4 = .ok (.ifCond .ne 21, 3) := by decide +kernel
theorem dX5_readNumber_7 : decode cX5_readNumber 7 = .ok (.aload_n 0, 1) := by decide +kernel
theorem dX5_readNumber_8 : decode cX5_readNumber 8 = .ok (.aload_n 0, 1) := by decide +kernel
theorem dX5_readNumber_9 : decode cX5_readNumber 9 = .ok (.getfield 93, 3) := by decide +kernel
theorem dX5_readNumber_12 : decode cX5_readNumber 12 = .ok (.iconst 2, 1) := by decide +kernel
theorem dX5_readNumber_13 : decode cX5_readNumber 13 = .ok (.if_icmp .ne 7, 3) := by decide +kernel
theorem dX5_readNumber_16 : decode cX5_readNumber 16 = .ok (.iconst 1, 1) := by decide +kernel
theorem dX5_readNumber_17 : decode cX5_readNumber 17 = .ok (.goto 4, 3) := by decide +kernel
theorem dX5_readNumber_20 : decode cX5_readNumber 20 = .ok (.iconst 0, 1) := by decide +kernel
theorem dX5_readNumber_21 : decode cX5_readNumber 21 = .ok (.iconst 2, 1) := by decide +kernel
theorem dX5_readNumber_22 : decode cX5_readNumber 22 = .ok (.invokevirtual 107, 3) := by decide +kernel
theorem dX5_readNumber_25 : decode cX5_readNumber 25 = .ok (.aload_n 0, 1) := by decide +kernel
theorem dX5_readNumber_26 : decode cX5_readNumber 26 = .ok (.getfield 69, 3) := by decide +kernel
theorem dX5_readNumber_29 : decode cX5_readNumber 29 = .ok (.ifCond .ne 20, 3) := by decide +kernel
theorem dX5_readNumber_32 : decode cX5_readNumber 32 = .ok (.aload_n 0, 1) := by decide +kernel
theorem dX5_readNumber_33 : decode cX5_readNumber 33 = .ok (.aload_n 0, 1) := by decide +kernel
theorem dX5_readNumber_34 : decode cX5_readNumber 34 = .ok (.getfield 104, 3) := by decide +kernel
theorem dX5_readNumber_37 : decode cX5_readNumber 37 = .ok (.i2l, 1) := by decide +kernel
theorem dX5_readNumber_38 : decode cX5_readNumber 38 = .ok (.iload_n 1, 1) := by decide +kernel
theorem dX5_readNumber_39 : decode cX5_readNumber 39 = .ok (.i2l, 1) := by decide +kernel
theorem dX5_readNumber_40 : decode cX5_readNumber 40 = .ok (.iload_n 2, 1) := by decide +kernel
theorem dX5_readNumber_41 : decode cX5_readNumber 41 = .ok (.i2l, 1) := by decide +kernel
theorem dX5_readNumber_42 : decode cX5_readNumber 42 = .ok (.invokestatic 61, 3) := by decide +kernel
theorem dX5_readNumber_45 : decode cX5_readNumber 45 = .ok (.iconst 3, 1) := by decide +kernel
theorem dX5_readNumber_46 : decode cX5_readNumber 46 = .ok (.invokevirtual 107, 3) := by decide +kernel
theorem dX5_readNumber_49 : decode cX5_readNumber 49 = .ok (.aload_n 0, 1) := by decide +kernel
theorem dX5_readNumber_50 : decode cX5_readNumber 50 = .ok (.getfield 69, 3) := by decide +kernel
theorem dX5_readNumber_53 : decode cX5_readNumber 53 = .ok (.ifCond .ne 10, 3) := by decide +kernel
theorem dX5_readNumber_56 : decode cX5_readNumber 56 = .ok (.aload_n 0, 1) := by decide +kernel
theorem dX5_readNumber_57 : decode cX5_readNumber 57 = .ok (.getfield 104, 3) := by decide +kernel
theorem dX5_readNumber_60 : decode cX5_readNumber 60 = .ok (.goto 4, 3) := by decide +kernel
theorem dX5_readNumber_63 : decode cX5_readNumber 63 = .ok (.iconst 0, 1) := by decide +kernel
theorem dX5_readNumber_64 : decode cX5_readNumber 64 = .ok (.istore_n 3, 1) := by decide +kernel
theorem dX5_readNumber_65 : decode cX5_readNumber 65 = .ok (.aload_n 0, 1) := by decide +kernel
theorem dX5_readNumber_66 : decode cX5_readNumber 66 = .ok (.invokevirtual 111, 3) := by decide +kernel
theorem dX5_readNumber_69 : decode cX5_readNumber 69 = .ok (.iload_n 3, 1) := by decide +kernel
theorem dX5_readNumber_70 : decode cX5_readNumber 70 = .ok (.ireturn, 1) := by decide +kernel
theorem dX5_lowOf_0 : decode cX5_lowOf 0 = .ok (.iload_n 0, 1) := by decide +kernel
theorem dX5_lowOf_1 : decode cX5_lowOf 1 = .ok (.iconst 1, 1) := by decide +kernel
theorem dX5_lowOf_2 : decode cX5_lowOf 2 = .ok (.if_icmp .eq 8, 3) := by decide +kernel
theorem dX5_lowOf_5 : decode cX5_lowOf 5 = .ok (.iload_n 0, 1) := by decide +kernel
theorem dX5_lowOf_6 : decode cX5_lowOf 6 = .ok (.iconst 2, 1) := by decide +kernel
theorem dX5_lowOf_7 : decode cX5_lowOf 7 = .ok (.if_icmp .ne 7, 3) := by decide +kernel
theorem dX5_lowOf_10 : decode cX5_lowOf 10 = .ok (.iconst 1, 1) := by decide +kernel
theorem dX5_lowOf_11 : decode cX5_lowOf 11 = .ok (.goto 4, 3) := by decide +kernel
theorem dX5_lowOf_14 : decode cX5_lowOf 14 = .ok (.iconst 0, 1) := by decide +kernel
theorem dX5_lowOf_15 : decode cX5_lowOf 15 = .ok (.ireturn, 1) := by decide +kernel
theorem dX5_mostOf_0 : decode cX5_mostOf 0 = .ok (.iload_n 0, 1) := by decide +kernel
theorem dX5_mostOf_1 : decode cX5_mostOf 1 = .ok (.tableswitch 35 0 2 #[27, 29, 32], 27) := by decide +kernel
theorem dX5_mostOf_28 : decode cX5_mostOf 28 = .ok (.iconst 3, 1) := by decide +kernel
theorem dX5_mostOf_29 : decode cX5_mostOf 29 = .ok (.ireturn, 1) := by decide +kernel
theorem dX5_mostOf_30 : decode cX5_mostOf 30 = .ok (.bipush 9, 2) := by decide +kernel
theorem dX5_mostOf_32 : decode cX5_mostOf 32 = .ok (.ireturn, 1) := by decide +kernel
theorem dX5_mostOf_33 : decode cX5_mostOf 33 = .ok (.bipush 12, 2) := by decide +kernel
theorem dX5_mostOf_35 : decode cX5_mostOf 35 = .ok (.ireturn, 1) := by decide +kernel
theorem dX5_mostOf_36 : decode cX5_mostOf 36 = .ok (.bipush 11, 2) := by decide +kernel
theorem dX5_mostOf_38 : decode cX5_mostOf 38 = .ok (.ireturn, 1) := by decide +kernel
theorem dX5_lowTold_0 : decode cX5_lowTold 0 = .ok (.iload_n 0, 1) := by decide +kernel
theorem dX5_lowTold_1 : decode cX5_lowTold 1 = .ok (.iconst 1, 1) := by decide +kernel
theorem dX5_lowTold_2 : decode cX5_lowTold 2 = .ok (.if_icmp .ne 7, 3) := by decide +kernel
theorem dX5_lowTold_5 : decode cX5_lowTold 5 = .ok (.iconst 0, 1) := by decide +kernel
theorem dX5_lowTold_6 : decode cX5_lowTold 6 = .ok (.goto 4, 3) := by decide +kernel
theorem dX5_lowTold_9 : decode cX5_lowTold 9 = .ok (.iconst 1, 1) := by decide +kernel
theorem dX5_lowTold_10 : decode cX5_lowTold 10 = .ok (.ireturn, 1) := by decide +kernel
theorem dX5_mostTold_0 : decode cX5_mostTold 0 = .ok (.iload_n 0, 1) := by decide +kernel
theorem dX5_mostTold_1 : decode cX5_mostTold 1 = .ok (.tableswitch 36 0 2 #[27, 30, 33], 27) := by decide +kernel
theorem dX5_mostTold_28 : decode cX5_mostTold 28 = .ok (.bipush 8, 2) := by decide +kernel
theorem dX5_mostTold_30 : decode cX5_mostTold 30 = .ok (.ireturn, 1) := by decide +kernel
theorem dX5_mostTold_31 : decode cX5_mostTold 31 = .ok (.bipush 9, 2) := by decide +kernel
theorem dX5_mostTold_33 : decode cX5_mostTold 33 = .ok (.ireturn, 1) := by decide +kernel
theorem dX5_mostTold_34 : decode cX5_mostTold 34 = .ok (.bipush 20, 2) := by decide +kernel
theorem dX5_mostTold_36 : decode cX5_mostTold 36 = .ok (.ireturn, 1) := by decide +kernel
theorem dX5_mostTold_37 : decode cX5_mostTold 37 = .ok (.bipush 60, 2) := by decide +kernel
theorem dX5_mostTold_39 : decode cX5_mostTold 39 = .ok (.ireturn, 1) := by decide +kernel
theorem dX5_readLineOf_0 : decode cX5_readLineOf 0 = .ok (.iload_n 1, 1) := by decide +kernel
theorem dX5_readLineOf_1 : decode cX5_readLineOf 1 = .ok (.iconst 4, 1) := by decide +kernel
theorem dX5_readLineOf_2 : decode cX5_readLineOf 2 = .ok (.if_icmp .lt 31, 3) := by decide +kernel
theorem dX5_readLineOf_5 : decode cX5_readLineOf 5 = .ok (.aload_n 0, 1) := by decide +kernel
theorem dX5_readLineOf_6 : decode cX5_readLineOf 6 = .ok (.getfield 20, 3) := by decide +kernel
theorem dX5_readLineOf_9 : decode cX5_readLineOf 9 = .ok (.bipush 17, 2) := by decide +kernel
theorem dX5_readLineOf_11 : decode cX5_readLineOf 11 = .ok (.iload_n 1, 1) := by decide +kernel
theorem dX5_readLineOf_12 : decode cX5_readLineOf 12 = .ok (.iadd, 1) := by decide +kernel
theorem dX5_readLineOf_13 : decode cX5_readLineOf 13 = .ok (.iconst 4, 1) := by decide +kernel
theorem dX5_readLineOf_14 : decode cX5_readLineOf 14 = .ok (.isub, 1) := by decide +kernel
theorem dX5_readLineOf_15 : decode cX5_readLineOf 15 = .ok (.aload_n 0, 1) := by decide +kernel
theorem dX5_readLineOf_16 : decode cX5_readLineOf 16 = .ok (.iload_n 1, 1) := by decide +kernel
theorem dX5_readLineOf_17 : decode cX5_readLineOf 17 = .ok (.iconst 4, 1) := by decide +kernel
theorem dX5_readLineOf_18 : decode cX5_readLineOf 18 = .ok (.isub, 1) := by decide +kernel
theorem dX5_readLineOf_19 : decode cX5_readLineOf 19 = .ok (.invokestatic 114, 3) := by decide +kernel
theorem dX5_readLineOf_22 : decode cX5_readLineOf 22 = .ok (.iload_n 1, 1) := by decide +kernel
theorem dX5_readLineOf_23 : decode cX5_readLineOf 23 = .ok (.iconst 4, 1) := by decide +kernel
theorem dX5_readLineOf_24 : decode cX5_readLineOf 24 = .ok (.isub, 1) := by decide +kernel
theorem dX5_readLineOf_25 : decode cX5_readLineOf 25 = .ok (.invokestatic 117, 3) := by decide +kernel
theorem dX5_readLineOf_28 : decode cX5_readLineOf 28 = .ok (.invokevirtual 120, 3) := by decide +kernel
theorem dX5_readLineOf_31 : decode cX5_readLineOf 31 = .ok (.iastore, 1) := by decide +kernel
theorem dX5_readLineOf_32 : decode cX5_readLineOf 32 = .ok (.return_, 1) := by decide +kernel
theorem dX5_readLineOf_33 : decode cX5_readLineOf 33 = .ok (.iconst 4, 1) := by decide +kernel
theorem dX5_readLineOf_34 : decode cX5_readLineOf 34 = .ok (.aload_n 0, 1) := by decide +kernel
theorem dX5_readLineOf_35 : decode cX5_readLineOf 35 = .ok (.getfield 20, 3) := by decide +kernel
theorem dX5_readLineOf_38 : decode cX5_readLineOf 38 = .ok (.bipush 16, 2) := by decide +kernel
theorem dX5_readLineOf_40 : decode cX5_readLineOf 40 = .ok (.iaload, 1) := by decide +kernel
theorem dX5_readLineOf_41 : decode cX5_readLineOf 41 = .ok (.imul, 1) := by decide +kernel
theorem dX5_readLineOf_42 : decode cX5_readLineOf 42 = .ok (.istore_n 2, 1) := by decide +kernel
theorem dX5_readLineOf_43 : decode cX5_readLineOf 43 = .ok (.aload_n 0, 1) := by decide +kernel
theorem dX5_readLineOf_44 : decode cX5_readLineOf 44 = .ok (.getfield 20, 3) := by decide +kernel
theorem dX5_readLineOf_47 : decode cX5_readLineOf 47 = .ok (.iload_n 2, 1) := by decide +kernel
theorem dX5_readLineOf_48 : decode cX5_readLineOf 48 = .ok (.iconst 0, 1) := by decide +kernel
theorem dX5_readLineOf_49 : decode cX5_readLineOf 49 = .ok (.iadd, 1) := by decide +kernel
theorem dX5_readLineOf_50 : decode cX5_readLineOf 50 = .ok (.iload_n 1, 1) := by decide +kernel
theorem dX5_readLineOf_51 : decode cX5_readLineOf 51 = .ok (.iastore, 1) := by decide +kernel
theorem dX5_readLineOf_52 : decode cX5_readLineOf 52 = .ok (.iconst 1, 1) := by decide +kernel
theorem dX5_readLineOf_53 : decode cX5_readLineOf 53 = .ok (.istore_n 3, 1) := by decide +kernel
theorem dX5_readLineOf_54 : decode cX5_readLineOf 54 = .ok (.iload_n 3, 1) := by decide +kernel
theorem dX5_readLineOf_55 : decode cX5_readLineOf 55 = .ok (.iconst 3, 1) := by decide +kernel
theorem dX5_readLineOf_56 : decode cX5_readLineOf 56 = .ok (.if_icmp .gt 29, 3) := by decide +kernel
theorem dX5_readLineOf_59 : decode cX5_readLineOf 59 = .ok (.aload_n 0, 1) := by decide +kernel
theorem dX5_readLineOf_60 : decode cX5_readLineOf 60 = .ok (.getfield 20, 3) := by decide +kernel
theorem dX5_readLineOf_63 : decode cX5_readLineOf 63 = .ok (.iload_n 2, 1) := by decide +kernel
theorem dX5_readLineOf_64 : decode cX5_readLineOf 64 = .ok (.iload_n 3, 1) := by decide +kernel
theorem dX5_readLineOf_65 : decode cX5_readLineOf 65 = .ok (.iadd, 1) := by decide +kernel
theorem dX5_readLineOf_66 : decode cX5_readLineOf 66 = .ok (.aload_n 0, 1) := by decide +kernel
theorem dX5_readLineOf_67 : decode cX5_readLineOf 67 = .ok (.iload_n 3, 1) := by decide +kernel
theorem dX5_readLineOf_68 : decode cX5_readLineOf 68 = .ok (.invokestatic 124, 3) := by decide +kernel
theorem dX5_readLineOf_71 : decode cX5_readLineOf 71 = .ok (.iload_n 3, 1) := by decide +kernel
theorem dX5_readLineOf_72 : decode cX5_readLineOf 72 = .ok (.invokestatic 127, 3) := by decide +kernel
theorem dX5_readLineOf_75 : decode cX5_readLineOf 75 = .ok (.invokevirtual 120, 3) := by decide +kernel
theorem dX5_readLineOf_78 : decode cX5_readLineOf 78 = .ok (.iastore, 1) := by decide +kernel
theorem dX5_readLineOf_79 : decode cX5_readLineOf 79 = .ok (.iinc 3 1, 3) := by decide +kernel
theorem dX5_readLineOf_82 : decode cX5_readLineOf 82 = .ok (.goto (-28), 3) := by decide +kernel
theorem dX5_readLineOf_85 : decode cX5_readLineOf 85 = .ok (.aload_n 0, 1) := by decide +kernel
theorem dX5_readLineOf_86 : decode cX5_readLineOf 86 = .ok (.getfield 20, 3) := by decide +kernel
theorem dX5_readLineOf_89 : decode cX5_readLineOf 89 = .ok (.bipush 16, 2) := by decide +kernel
theorem dX5_readLineOf_91 : decode cX5_readLineOf 91 = .ok (.dup2, 1) := by decide +kernel
theorem dX5_readLineOf_92 : decode cX5_readLineOf 92 = .ok (.iaload, 1) := by decide +kernel
theorem dX5_readLineOf_93 : decode cX5_readLineOf 93 = .ok (.iconst 1, 1) := by decide +kernel
theorem dX5_readLineOf_94 : decode cX5_readLineOf 94 = .ok (.iadd, 1) := by decide +kernel
theorem dX5_readLineOf_95 : decode cX5_readLineOf 95 = .ok (.iastore, 1) := by decide +kernel
theorem dX5_readLineOf_96 : decode cX5_readLineOf 96 = .ok (.return_, 1) := by decide +kernel
theorem dX5_readLine_0 : decode cX5_readLine 0 = .ok (.aload_n 0, 1) := by decide +kernel
theorem dX5_readLine_1 : decode cX5_readLine 1 = .ok (.getfield 93, 3) := by decide +kernel
theorem dX5_readLine_4 : decode cX5_readLine 4 = .ok (.iconst 1, 1) := by decide +kernel
theorem dX5_readLine_5 : decode cX5_readLine 5 = .ok (.if_icmp .ne 10, 3) := by decide +kernel
theorem dX5_readLine_8 : decode cX5_readLine 8 = .ok (.aload_n 0, 1) := by decide +kernel
theorem dX5_readLine_9 : decode cX5_readLine 9 = .ok (.invokevirtual 130, 3) := by decide +kernel
theorem dX5_readLine_12 : decode cX5_readLine 12 = .ok (.goto 5, 3) := by decide +kernel
theorem dX5_readLine_15 : decode cX5_readLine 15 = .ok (.bipush (-4), 2) := by decide +kernel
theorem dX5_readLine_17 : decode cX5_readLine 17 = .ok (.istore_n 1, 1) := by decide +kernel
theorem dX5_readLine_18 : decode cX5_readLine 18 = .ok (.aload_n 0, 1) := by decide +kernel
theorem dX5_readLine_19 : decode cX5_readLine 19 = .ok (.iload_n 1, 1) := by decide +kernel
theorem dX5_readLine_20 : decode cX5_readLine 20 = .ok (.bipush (-4), 2) := by decide +kernel
theorem dX5_readLine_22 : decode cX5_readLine 22 = .ok (.if_icmp .eq 7, 3) := by decide +kernel
theorem dX5_readLine_25 : decode cX5_readLine 25 = .ok (.iconst 1, 1) := by decide +kernel
theorem dX5_readLine_26 : decode cX5_readLine 26 = .ok (.goto 4, 3) := by decide +kernel
theorem dX5_readLine_29 : decode cX5_readLine 29 = .ok (.iconst 0, 1) := by decide +kernel
theorem dX5_readLine_30 : decode cX5_readLine 30 = .ok (.iconst 2, 1) := by decide +kernel
theorem dX5_readLine_31 : decode cX5_readLine 31 = .ok (.invokevirtual 107, 3) := by decide +kernel
theorem dX5_readLine_34 : decode cX5_readLine 34 = .ok (.aload_n 0, 1) := by decide +kernel
theorem dX5_readLine_35 : decode cX5_readLine 35 = .ok (.iload_n 1, 1) := by decide +kernel
theorem dX5_readLine_36 : decode cX5_readLine 36 = .ok (.iconst 4, 1) := by decide +kernel
theorem dX5_readLine_37 : decode cX5_readLine 37 = .ok (.if_icmp .ge 14, 3) := by decide +kernel
theorem dX5_readLine_40 : decode cX5_readLine 40 = .ok (.aload_n 0, 1) := by decide +kernel
theorem dX5_readLine_41 : decode cX5_readLine 41 = .ok (.getfield 20, 3) := by decide +kernel
theorem dX5_readLine_44 : decode cX5_readLine 44 = .ok (.bipush 16, 2) := by decide +kernel
theorem dX5_readLine_46 : decode cX5_readLine 46 = .ok (.iaload, 1) := by decide +kernel
theorem dX5_readLine_47 : decode cX5_readLine 47 = .ok (.iconst 4, 1) := by decide +kernel
theorem dX5_readLine_48 : decode cX5_readLine 48 = .ok (.if_icmp .ge 7, 3) := by decide +kernel
theorem dX5_readLine_51 : decode cX5_readLine 51 = .ok (.iconst 1, 1) := by decide +kernel
theorem dX5_readLine_52 : decode cX5_readLine 52 = .ok (.goto 4, 3) := by decide +kernel
theorem dX5_readLine_55 : decode cX5_readLine 55 = .ok (.iconst 0, 1) := by decide +kernel
theorem dX5_readLine_56 : decode cX5_readLine 56 = .ok (.iconst 5, 1) := by decide +kernel
theorem dX5_readLine_57 : decode cX5_readLine 57 = .ok (.invokevirtual 107, 3) := by decide +kernel
theorem dX5_readLine_60 : decode cX5_readLine 60 = .ok (.iload_n 1, 1) := by decide +kernel
theorem dX5_readLine_61 : decode cX5_readLine 61 = .ok (.iconst 4, 1) := by decide +kernel
theorem dX5_readLine_62 : decode cX5_readLine 62 = .ok (.if_icmp .lt 33, 3) := by decide +kernel
theorem dX5_readLine_65 : decode cX5_readLine 65 = .ok (.aload_n 0, 1) := by decide +kernel
theorem dX5_readLine_66 : decode cX5_readLine 66 = .ok (.aload_n 0, 1) := by decide +kernel
theorem dX5_readLine_67 : decode cX5_readLine 67 = .ok (.getfield 23, 3) := by decide +kernel
theorem dX5_readLine_70 : decode cX5_readLine 70 = .ok (.iload_n 1, 1) := by decide +kernel
theorem dX5_readLine_71 : decode cX5_readLine 71 = .ok (.iconst 4, 1) := by decide +kernel
theorem dX5_readLine_72 : decode cX5_readLine 72 = .ok (.isub, 1) := by decide +kernel
theorem dX5_readLine_73 : decode cX5_readLine 73 = .ok (.baload, 1) := by decide +kernel
theorem dX5_readLine_74 : decode cX5_readLine 74 = .ok (.ifCond .ne 7, 3) := by decide +kernel
theorem dX5_readLine_77 : decode cX5_readLine 77 = .ok (.iconst 1, 1) := by decide +kernel
theorem dX5_readLine_78 : decode cX5_readLine 78 = .ok (.goto 4, 3) := by decide +kernel
theorem dX5_readLine_81 : decode cX5_readLine 81 = .ok (.iconst 0, 1) := by decide +kernel
theorem dX5_readLine_82 : decode cX5_readLine 82 = .ok (.iconst 4, 1) := by decide +kernel
theorem dX5_readLine_83 : decode cX5_readLine 83 = .ok (.invokevirtual 107, 3) := by decide +kernel
theorem dX5_readLine_86 : decode cX5_readLine 86 = .ok (.aload_n 0, 1) := by decide +kernel
theorem dX5_readLine_87 : decode cX5_readLine 87 = .ok (.getfield 23, 3) := by decide +kernel
theorem dX5_readLine_90 : decode cX5_readLine 90 = .ok (.iload_n 1, 1) := by decide +kernel
theorem dX5_readLine_91 : decode cX5_readLine 91 = .ok (.iconst 4, 1) := by decide +kernel
theorem dX5_readLine_92 : decode cX5_readLine 92 = .ok (.isub, 1) := by decide +kernel
theorem dX5_readLine_93 : decode cX5_readLine 93 = .ok (.iconst 1, 1) := by decide +kernel
theorem dX5_readLine_94 : decode cX5_readLine 94 = .ok (.bastore, 1) := by decide +kernel
theorem dX5_readLine_95 : decode cX5_readLine 95 = .ok (.aload_n 0, 1) := by decide +kernel
theorem dX5_readLine_96 : decode cX5_readLine 96 = .ok (.invokevirtual 111, 3) := by decide +kernel
theorem dX5_readLine_99 : decode cX5_readLine 99 = .ok (.aload_n 0, 1) := by decide +kernel
theorem dX5_readLine_100 : decode cX5_readLine 100 = .ok (.getfield 69, 3) := by decide +kernel
theorem dX5_readLine_103 : decode cX5_readLine 103 = .ok (.ifCond .le 4, 3) := by decide +kernel
theorem dX5_readLine_106 : decode cX5_readLine 106 = .ok (.return_, 1) := by decide +kernel
theorem dX5_readLine_107 : decode cX5_readLine 107 = .ok (.aload_n 0, 1) := by decide +kernel
theorem dX5_readLine_108 : decode cX5_readLine 108 = .ok (.iload_n 1, 1) := by decide +kernel
theorem dX5_readLine_109 : decode cX5_readLine 109 = .ok (.invokevirtual 134, 3) := by decide +kernel
theorem dX5_readLine_112 : decode cX5_readLine 112 = .ok (.aload_n 0, 1) := by decide +kernel
theorem dX5_readLine_113 : decode cX5_readLine 113 = .ok (.getfield 69, 3) := by decide +kernel
theorem dX5_readLine_116 : decode cX5_readLine 116 = .ok (.ifCond .ne 21, 3) := by decide +kernel
theorem dX5_readLine_119 : decode cX5_readLine 119 = .ok (.aload_n 0, 1) := by decide +kernel
theorem dX5_readLine_120 : decode cX5_readLine 120 = .ok (.aload_n 0, 1) := by decide +kernel
theorem dX5_readLine_121 : decode cX5_readLine 121 = .ok (.getfield 93, 3) := by decide +kernel
theorem dX5_readLine_124 : decode cX5_readLine 124 = .ok (.iconst 3, 1) := by decide +kernel
theorem dX5_readLine_125 : decode cX5_readLine 125 = .ok (.if_icmp .ne 7, 3) := by decide +kernel
theorem dX5_readLine_128 : decode cX5_readLine 128 = .ok (.iconst 1, 1) := by decide +kernel
theorem dX5_readLine_129 : decode cX5_readLine 129 = .ok (.goto 4, 3) := by decide +kernel
theorem dX5_readLine_132 : decode cX5_readLine 132 = .ok (.iconst 0, 1) := by decide +kernel
theorem dX5_readLine_133 : decode cX5_readLine 133 = .ok (.iconst 2, 1) := by decide +kernel
theorem dX5_readLine_134 : decode cX5_readLine 134 = .ok (.invokevirtual 107, 3) := by decide +kernel
theorem dX5_readLine_137 : decode cX5_readLine 137 = .ok (.aload_n 0, 1) := by decide +kernel
theorem dX5_readLine_138 : decode cX5_readLine 138 = .ok (.invokevirtual 111, 3) := by decide +kernel
theorem dX5_readLine_141 : decode cX5_readLine 141 = .ok (.return_, 1) := by decide +kernel
theorem dX5_text_0 : decode cX5_text 0 = .ok (.iconst 0, 1) := by decide +kernel
theorem dX5_text_1 : decode cX5_text 1 = .ok (.istore_n 1, 1) := by decide +kernel
theorem dX5_text_2 : decode cX5_text 2 = .ok (.aload_n 0, 1) := by decide +kernel
theorem dX5_text_3 : decode cX5_text 3 = .ok (.iconst 0, 1) := by decide +kernel
theorem dX5_text_4 : decode cX5_text 4 = .ok (.putfield 69, 3) := by decide +kernel
theorem dX5_text_7 : decode cX5_text 7 = .ok (.aload_n 0, 1) := by decide +kernel
theorem dX5_text_8 : decode cX5_text 8 = .ok (.iconst 0, 1) := by decide +kernel
theorem dX5_text_9 : decode cX5_text 9 = .ok (.putfield 78, 3) := by decide +kernel
theorem dX5_text_12 : decode cX5_text 12 = .ok (.aload_n 0, 1) := by decide +kernel
theorem dX5_text_13 : decode cX5_text 13 = .ok (.invokevirtual 53, 3) := by decide +kernel
theorem dX5_text_16 : decode cX5_text 16 = .ok (.aload_n 0, 1) := by decide +kernel
theorem dX5_text_17 : decode cX5_text 17 = .ok (.invokevirtual 111, 3) := by decide +kernel
theorem dX5_text_20 : decode cX5_text 20 = .ok (.aload_n 0, 1) := by decide +kernel
theorem dX5_text_21 : decode cX5_text 21 = .ok (.getfield 69, 3) := by decide +kernel
theorem dX5_text_24 : decode cX5_text 24 = .ok (.ifCond .ne 20, 3) := by decide +kernel
theorem dX5_text_27 : decode cX5_text 27 = .ok (.aload_n 0, 1) := by decide +kernel
theorem dX5_text_28 : decode cX5_text 28 = .ok (.getfield 93, 3) := by decide +kernel
theorem dX5_text_31 : decode cX5_text 31 = .ok (.ifCond .eq 13, 3) := by decide +kernel
theorem dX5_text_34 : decode cX5_text 34 = .ok (.aload_n 0, 1) := by decide +kernel
theorem dX5_text_35 : decode cX5_text 35 = .ok (.invokevirtual 138, 3) := by decide +kernel
theorem dX5_text_38 : decode cX5_text 38 = .ok (.iinc 1 1, 3) := by decide +kernel
theorem dX5_text_41 : decode cX5_text 41 = .ok (.goto (-21), 3) := by decide +kernel
theorem dX5_text_44 : decode cX5_text 44 = .ok (.aload_n 0, 1) := by decide +kernel
theorem dX5_text_45 : decode cX5_text 45 = .ok (.iconst 0, 1) := by decide +kernel
theorem dX5_text_46 : decode cX5_text 46 = .ok (.putfield 65, 3) := by decide +kernel
theorem dX5_text_49 : decode cX5_text 49 = .ok (.aload_n 0, 1) := by decide +kernel
theorem dX5_text_50 : decode cX5_text 50 = .ok (.getfield 69, 3) := by decide +kernel
theorem dX5_text_53 : decode cX5_text 53 = .ok (.ifCond .le 11, 3) := by decide +kernel
theorem dX5_text_56 : decode cX5_text 56 = .ok (.bipush (-10), 2) := by decide +kernel
theorem dX5_text_58 : decode cX5_text 58 = .ok (.aload_n 0, 1) := by decide +kernel
theorem dX5_text_59 : decode cX5_text 59 = .ok (.getfield 75, 3) := by decide +kernel
theorem dX5_text_62 : decode cX5_text 62 = .ok (.isub, 1) := by decide +kernel
theorem dX5_text_63 : decode cX5_text 63 = .ok (.ireturn, 1) := by decide +kernel
theorem dX5_text_64 : decode cX5_text 64 = .ok (.aload_n 0, 1) := by decide +kernel
theorem dX5_text_65 : decode cX5_text 65 = .ok (.invokevirtual 56, 3) := by decide +kernel
theorem dX5_text_68 : decode cX5_text 68 = .ok (.iload_n 1, 1) := by decide +kernel
theorem dX5_text_69 : decode cX5_text 69 = .ok (.ireturn, 1) := by decide +kernel
theorem dX5_fault_0 : decode cX5_fault 0 = .ok (.aload_n 0, 1) := by decide +kernel
theorem dX5_fault_1 : decode cX5_fault 1 = .ok (.getfield 69, 3) := by decide +kernel
theorem dX5_fault_4 : decode cX5_fault 4 = .ok (.ireturn, 1) := by decide +kernel
theorem dX5_isLamp_0 : decode cX5_isLamp 0 = .ok (.iload_n 1, 1) := by decide +kernel
theorem dX5_isLamp_1 : decode cX5_isLamp 1 = .ok (.i2l, 1) := by decide +kernel
theorem dX5_isLamp_2 : decode cX5_isLamp 2 = .ok (.lconst 0, 1) := by decide +kernel
theorem dX5_isLamp_3 : decode cX5_isLamp 3 = .ok (.aload_n 0, 1) := by decide +kernel
theorem dX5_isLamp_4 : decode cX5_isLamp 4 = .ok (.getfield 7, 3) := by decide +kernel
theorem dX5_isLamp_7 : decode cX5_isLamp 7 = .ok (.bipush 16, 2) := by decide +kernel
theorem dX5_isLamp_9 : decode cX5_isLamp 9 = .ok (.iaload, 1) := by decide +kernel
theorem dX5_isLamp_10 : decode cX5_isLamp 10 = .ok (.iconst 1, 1) := by decide +kernel
theorem dX5_isLamp_11 : decode cX5_isLamp 11 = .ok (.isub, 1) := by decide +kernel
theorem dX5_isLamp_12 : decode cX5_isLamp 12 = .ok (.i2l, 1) := by decide +kernel
theorem dX5_isLamp_13 : decode cX5_isLamp 13 = .ok (.invokestatic 61, 3) := by decide +kernel
theorem dX5_isLamp_16 : decode cX5_isLamp 16 = .ok (.ireturn, 1) := by decide +kernel
theorem dX5_isRow_0 : decode cX5_isRow 0 = .ok (.iload_n 0, 1) := by decide +kernel
theorem dX5_isRow_1 : decode cX5_isRow 1 = .ok (.i2l, 1) := by decide +kernel
theorem dX5_isRow_2 : decode cX5_isRow 2 = .ok (.lconst 0, 1) := by decide +kernel
theorem dX5_isRow_3 : decode cX5_isRow 3 = .ok (.ldc2_w 141, 3) := by decide +kernel
theorem dX5_isRow_6 : decode cX5_isRow 6 = .ok (.invokestatic 61, 3) := by decide +kernel
theorem dX5_isRow_9 : decode cX5_isRow 9 = .ok (.ireturn, 1) := by decide +kernel
theorem dX5_isPart_0 : decode cX5_isPart 0 = .ok (.iload_n 0, 1) := by decide +kernel
theorem dX5_isPart_1 : decode cX5_isPart 1 = .ok (.i2l, 1) := by decide +kernel
theorem dX5_isPart_2 : decode cX5_isPart 2 = .ok (.lconst 0, 1) := by decide +kernel
theorem dX5_isPart_3 : decode cX5_isPart 3 = .ok (.lconst 1, 1) := by decide +kernel
theorem dX5_isPart_4 : decode cX5_isPart 4 = .ok (.invokestatic 61, 3) := by decide +kernel
theorem dX5_isPart_7 : decode cX5_isPart 7 = .ok (.ireturn, 1) := by decide +kernel
theorem dX5_starts_0 : decode cX5_starts 0 = .ok (.iconst 0, 1) := by decide +kernel
theorem dX5_starts_1 : decode cX5_starts 1 = .ok (.istore_n 1, 1) := by decide +kernel
theorem dX5_starts_2 : decode cX5_starts 2 = .ok (.iload_n 1, 1) := by decide +kernel
theorem dX5_starts_3 : decode cX5_starts 3 = .ok (.bipush 51, 2) := by decide +kernel
theorem dX5_starts_5 : decode cX5_starts 5 = .ok (.if_icmp .ge 21, 3) := by decide +kernel
theorem dX5_starts_8 : decode cX5_starts 8 = .ok (.aload_n 0, 1) := by decide +kernel
theorem dX5_starts_9 : decode cX5_starts 9 = .ok (.getfield 13, 3) := by decide +kernel
theorem dX5_starts_12 : decode cX5_starts 12 = .ok (.iload_n 1, 1) := by decide +kernel
theorem dX5_starts_13 : decode cX5_starts 13 = .ok (.aload_n 0, 1) := by decide +kernel
theorem dX5_starts_14 : decode cX5_starts 14 = .ok (.getfield 7, 3) := by decide +kernel
theorem dX5_starts_17 : decode cX5_starts 17 = .ok (.iload_n 1, 1) := by decide +kernel
theorem dX5_starts_18 : decode cX5_starts 18 = .ok (.iaload, 1) := by decide +kernel
theorem dX5_starts_19 : decode cX5_starts 19 = .ok (.iastore, 1) := by decide +kernel
theorem dX5_starts_20 : decode cX5_starts 20 = .ok (.iinc 1 1, 3) := by decide +kernel
theorem dX5_starts_23 : decode cX5_starts 23 = .ok (.goto (-21), 3) := by decide +kernel
theorem dX5_starts_26 : decode cX5_starts 26 = .ok (.aload_n 0, 1) := by decide +kernel
theorem dX5_starts_27 : decode cX5_starts 27 = .ok (.bipush (-4), 2) := by decide +kernel
theorem dX5_starts_29 : decode cX5_starts 29 = .ok (.putfield 143, 3) := by decide +kernel
theorem dX5_starts_32 : decode cX5_starts 32 = .ok (.aload_n 0, 1) := by decide +kernel
theorem dX5_starts_33 : decode cX5_starts 33 = .ok (.iconst 0, 1) := by decide +kernel
theorem dX5_starts_34 : decode cX5_starts 34 = .ok (.putfield 146, 3) := by decide +kernel
theorem dX5_starts_37 : decode cX5_starts 37 = .ok (.aload_n 0, 1) := by decide +kernel
theorem dX5_starts_38 : decode cX5_starts 38 = .ok (.iconst 0, 1) := by decide +kernel
theorem dX5_starts_39 : decode cX5_starts 39 = .ok (.putfield 150, 3) := by decide +kernel
theorem dX5_starts_42 : decode cX5_starts 42 = .ok (.aload_n 0, 1) := by decide +kernel
theorem dX5_starts_43 : decode cX5_starts 43 = .ok (.bipush (-4), 2) := by decide +kernel
theorem dX5_starts_45 : decode cX5_starts 45 = .ok (.putfield 153, 3) := by decide +kernel
theorem dX5_starts_48 : decode cX5_starts 48 = .ok (.aload_n 0, 1) := by decide +kernel
theorem dX5_starts_49 : decode cX5_starts 49 = .ok (.iconst 0, 1) := by decide +kernel
theorem dX5_starts_50 : decode cX5_starts 50 = .ok (.putfield 156, 3) := by decide +kernel
theorem dX5_starts_53 : decode cX5_starts 53 = .ok (.aload_n 0, 1) := by decide +kernel
theorem dX5_starts_54 : decode cX5_starts 54 = .ok (.iconst 0, 1) := by decide +kernel
theorem dX5_starts_55 : decode cX5_starts 55 = .ok (.putfield 159, 3) := by decide +kernel
theorem dX5_starts_58 : decode cX5_starts 58 = .ok (.return_, 1) := by decide +kernel
theorem dX5_settles_0 : decode cX5_settles 0 = .ok (.iconst 0, 1) := by decide +kernel
theorem dX5_settles_1 : decode cX5_settles 1 = .ok (.istore_n 1, 1) := by decide +kernel
theorem dX5_settles_2 : decode cX5_settles 2 = .ok (.iload_n 1, 1) := by decide +kernel
theorem dX5_settles_3 : decode cX5_settles 3 = .ok (.bipush 51, 2) := by decide +kernel
theorem dX5_settles_5 : decode cX5_settles 5 = .ok (.if_icmp .ge 21, 3) := by decide +kernel
theorem dX5_settles_8 : decode cX5_settles 8 = .ok (.aload_n 0, 1) := by decide +kernel
theorem dX5_settles_9 : decode cX5_settles 9 = .ok (.getfield 7, 3) := by decide +kernel
theorem dX5_settles_12 : decode cX5_settles 12 = .ok (.iload_n 1, 1) := by decide +kernel
theorem dX5_settles_13 : decode cX5_settles 13 = .ok (.aload_n 0, 1) := by decide +kernel
theorem dX5_settles_14 : decode cX5_settles 14 = .ok (.getfield 13, 3) := by decide +kernel
theorem dX5_settles_17 : decode cX5_settles 17 = .ok (.iload_n 1, 1) := by decide +kernel
theorem dX5_settles_18 : decode cX5_settles 18 = .ok (.iaload, 1) := by decide +kernel
theorem dX5_settles_19 : decode cX5_settles 19 = .ok (.iastore, 1) := by decide +kernel
theorem dX5_settles_20 : decode cX5_settles 20 = .ok (.iinc 1 1, 3) := by decide +kernel
theorem dX5_settles_23 : decode cX5_settles 23 = .ok (.goto (-21), 3) := by decide +kernel
theorem dX5_settles_26 : decode cX5_settles 26 = .ok (.return_, 1) := by decide +kernel
theorem dX5_of_0 : decode cX5_of 0 = .ok (.aload_n 0, 1) := by decide +kernel
theorem dX5_of_1 : decode cX5_of 1 = .ok (.getfield 13, 3) := by decide +kernel
theorem dX5_of_4 : decode cX5_of 4 = .ok (.iconst 4, 1) := by decide +kernel
theorem dX5_of_5 : decode cX5_of 5 = .ok (.iload_n 1, 1) := by decide +kernel
theorem dX5_of_6 : decode cX5_of 6 = .ok (.imul, 1) := by decide +kernel
theorem dX5_of_7 : decode cX5_of 7 = .ok (.iload_n 2, 1) := by decide +kernel
theorem dX5_of_8 : decode cX5_of 8 = .ok (.iadd, 1) := by decide +kernel
theorem dX5_of_9 : decode cX5_of 9 = .ok (.iaload, 1) := by decide +kernel
theorem dX5_of_10 : decode cX5_of 10 = .ok (.ireturn, 1) := by decide +kernel
theorem dX5_gives_0 : decode cX5_gives 0 = .ok (.iload_n 2, 1) := by decide +kernel
theorem dX5_gives_1 : decode cX5_gives 1 = .ok (.aload_n 0, 1) := by decide +kernel
theorem dX5_gives_2 : decode cX5_gives 2 = .ok (.iload_n 1, 1) := by decide +kernel
theorem dX5_gives_3 : decode cX5_gives 3 = .ok (.iconst 3, 1) := by decide +kernel
theorem dX5_gives_4 : decode cX5_gives 4 = .ok (.invokevirtual 162, 3) := by decide +kernel
theorem dX5_gives_7 : decode cX5_gives 7 = .ok (.iadd, 1) := by decide +kernel
theorem dX5_gives_8 : decode cX5_gives 8 = .ok (.aload_n 0, 1) := by decide +kernel
theorem dX5_gives_9 : decode cX5_gives 9 = .ok (.iload_n 1, 1) := by decide +kernel
theorem dX5_gives_10 : decode cX5_gives 10 = .ok (.iconst 2, 1) := by decide +kernel
theorem dX5_gives_11 : decode cX5_gives 11 = .ok (.invokevirtual 162, 3) := by decide +kernel
theorem dX5_gives_14 : decode cX5_gives 14 = .ok (.irem, 1) := by decide +kernel
theorem dX5_gives_15 : decode cX5_gives 15 = .ok (.istore_n 3, 1) := by decide +kernel
theorem dX5_gives_16 : decode cX5_gives 16 = .ok (.iconst 2, 1) := by decide +kernel
theorem dX5_gives_17 : decode cX5_gives 17 = .ok (.iload_n 3, 1) := by decide +kernel
theorem dX5_gives_18 : decode cX5_gives 18 = .ok (.imul, 1) := by decide +kernel
theorem dX5_gives_19 : decode cX5_gives 19 = .ok (.aload_n 0, 1) := by decide +kernel
theorem dX5_gives_20 : decode cX5_gives 20 = .ok (.iload_n 1, 1) := by decide +kernel
theorem dX5_gives_21 : decode cX5_gives 21 = .ok (.iconst 2, 1) := by decide +kernel
theorem dX5_gives_22 : decode cX5_gives 22 = .ok (.invokevirtual 162, 3) := by decide +kernel
theorem dX5_gives_25 : decode cX5_gives 25 = .ok (.if_icmp .ge 7, 3) := by decide +kernel
theorem dX5_gives_28 : decode cX5_gives 28 = .ok (.iconst 1, 1) := by decide +kernel
theorem dX5_gives_29 : decode cX5_gives 29 = .ok (.goto 4, 3) := by decide +kernel
theorem dX5_gives_32 : decode cX5_gives 32 = .ok (.iconst 0, 1) := by decide +kernel
theorem dX5_gives_33 : decode cX5_gives 33 = .ok (.istore 4, 2) := by decide +kernel
theorem dX5_gives_35 : decode cX5_gives 35 = .ok (.aload_n 0, 1) := by decide +kernel
theorem dX5_gives_36 : decode cX5_gives 36 = .ok (.iload_n 1, 1) := by decide +kernel
theorem dX5_gives_37 : decode cX5_gives 37 = .ok (.iconst 0, 1) := by decide +kernel
theorem dX5_gives_38 : decode cX5_gives 38 = .ok (.invokevirtual 162, 3) := by decide +kernel
theorem dX5_gives_41 : decode cX5_gives 41 = .ok (.tableswitch 82 1 3 #[27, 43, 59], 27) := by decide +kernel
theorem dX5_gives_68 : decode cX5_gives 68 = .ok (.iload 4, 2) := by decide +kernel
theorem dX5_gives_70 : decode cX5_gives 70 = .ok (.ifCond .eq 12, 3) := by decide +kernel
theorem dX5_gives_73 : decode cX5_gives 73 = .ok (.aload_n 0, 1) := by decide +kernel
theorem dX5_gives_74 : decode cX5_gives 74 = .ok (.iload_n 1, 1) := by decide +kernel
theorem dX5_gives_75 : decode cX5_gives 75 = .ok (.iconst 1, 1) := by decide +kernel
theorem dX5_gives_76 : decode cX5_gives 76 = .ok (.invokevirtual 162, 3) := by decide +kernel
theorem dX5_gives_79 : decode cX5_gives 79 = .ok (.goto 4, 3) := by decide +kernel
theorem dX5_gives_82 : decode cX5_gives 82 = .ok (.iconst 0, 1) := by decide +kernel
theorem dX5_gives_83 : decode cX5_gives 83 = .ok (.ireturn, 1) := by decide +kernel
theorem dX5_gives_84 : decode cX5_gives 84 = .ok (.aload_n 0, 1) := by decide +kernel
theorem dX5_gives_85 : decode cX5_gives 85 = .ok (.iload_n 1, 1) := by decide +kernel
theorem dX5_gives_86 : decode cX5_gives 86 = .ok (.iconst 1, 1) := by decide +kernel
theorem dX5_gives_87 : decode cX5_gives 87 = .ok (.invokevirtual 162, 3) := by decide +kernel
theorem dX5_gives_90 : decode cX5_gives 90 = .ok (.iload_n 3, 1) := by decide +kernel
theorem dX5_gives_91 : decode cX5_gives 91 = .ok (.imul, 1) := by decide +kernel
theorem dX5_gives_92 : decode cX5_gives 92 = .ok (.aload_n 0, 1) := by decide +kernel
theorem dX5_gives_93 : decode cX5_gives 93 = .ok (.iload_n 1, 1) := by decide +kernel
theorem dX5_gives_94 : decode cX5_gives 94 = .ok (.iconst 2, 1) := by decide +kernel
theorem dX5_gives_95 : decode cX5_gives 95 = .ok (.invokevirtual 162, 3) := by decide +kernel
theorem dX5_gives_98 : decode cX5_gives 98 = .ok (.idiv, 1) := by decide +kernel
theorem dX5_gives_99 : decode cX5_gives 99 = .ok (.ireturn, 1) := by decide +kernel
theorem dX5_gives_100 : decode cX5_gives 100 = .ok (.iload 4, 2) := by decide +kernel
theorem dX5_gives_102 : decode cX5_gives 102 = .ok (.ifCond .eq 12, 3) := by decide +kernel
theorem dX5_gives_105 : decode cX5_gives 105 = .ok (.aload_n 0, 1) := by decide +kernel
theorem dX5_gives_106 : decode cX5_gives 106 = .ok (.iload_n 1, 1) := by decide +kernel
theorem dX5_gives_107 : decode cX5_gives 107 = .ok (.iconst 1, 1) := by decide +kernel
theorem dX5_gives_108 : decode cX5_gives 108 = .ok (.invokevirtual 162, 3) := by decide +kernel
theorem dX5_gives_111 : decode cX5_gives 111 = .ok (.goto 11, 3) := by decide +kernel
theorem dX5_gives_114 : decode cX5_gives 114 = .ok (.aload_n 0, 1) := by decide +kernel
theorem dX5_gives_115 : decode cX5_gives 115 = .ok (.iload_n 1, 1) := by decide +kernel
theorem dX5_gives_116 : decode cX5_gives 116 = .ok (.iconst 1, 1) := by decide +kernel
theorem dX5_gives_117 : decode cX5_gives 117 = .ok (.invokevirtual 162, 3) := by decide +kernel
theorem dX5_gives_120 : decode cX5_gives 120 = .ok (.iconst 2, 1) := by decide +kernel
theorem dX5_gives_121 : decode cX5_gives 121 = .ok (.idiv, 1) := by decide +kernel
theorem dX5_gives_122 : decode cX5_gives 122 = .ok (.ireturn, 1) := by decide +kernel
theorem dX5_gives_123 : decode cX5_gives 123 = .ok (.aload_n 0, 1) := by decide +kernel
theorem dX5_gives_124 : decode cX5_gives 124 = .ok (.iload_n 1, 1) := by decide +kernel
theorem dX5_gives_125 : decode cX5_gives 125 = .ok (.iconst 1, 1) := by decide +kernel
theorem dX5_gives_126 : decode cX5_gives 126 = .ok (.invokevirtual 162, 3) := by decide +kernel
theorem dX5_gives_129 : decode cX5_gives 129 = .ok (.ireturn, 1) := by decide +kernel
theorem dX5_shine_0 : decode cX5_shine 0 = .ok (.iconst 0, 1) := by decide +kernel
theorem dX5_shine_1 : decode cX5_shine 1 = .ok (.istore_n 2, 1) := by decide +kernel
theorem dX5_shine_2 : decode cX5_shine 2 = .ok (.iconst 0, 1) := by decide +kernel
theorem dX5_shine_3 : decode cX5_shine 3 = .ok (.istore_n 3, 1) := by decide +kernel
theorem dX5_shine_4 : decode cX5_shine 4 = .ok (.iload_n 3, 1) := by decide +kernel
theorem dX5_shine_5 : decode cX5_shine 5 = .ok (.aload_n 0, 1) := by decide +kernel
theorem dX5_shine_6 : decode cX5_shine 6 = .ok (.getfield 13, 3) := by decide +kernel
theorem dX5_shine_9 : decode cX5_shine 9 = .ok (.bipush 16, 2) := by decide +kernel
theorem dX5_shine_11 : decode cX5_shine 11 = .ok (.iaload, 1) := by decide +kernel
theorem dX5_shine_12 : decode cX5_shine 12 = .ok (.if_icmp .ge 58, 3) := by decide +kernel
theorem dX5_shine_15 : decode cX5_shine 15 = .ok (.iload_n 3, 1) := by decide +kernel
theorem dX5_shine_16 : decode cX5_shine 16 = .ok (.aload_n 0, 1) := by decide +kernel
theorem dX5_shine_17 : decode cX5_shine 17 = .ok (.getfield 143, 3) := by decide +kernel
theorem dX5_shine_20 : decode cX5_shine 20 = .ok (.if_icmp .eq 23, 3) := by decide +kernel
theorem dX5_shine_23 : decode cX5_shine 23 = .ok (.aload_n 0, 1) := by decide +kernel
theorem dX5_shine_24 : decode cX5_shine 24 = .ok (.getfield 146, 3) := by decide +kernel
theorem dX5_shine_27 : decode cX5_shine 27 = .ok (.ifCond .eq 12, 3) := by decide +kernel
theorem dX5_shine_30 : decode cX5_shine 30 = .ok (.aload_n 0, 1) := by decide +kernel
theorem dX5_shine_31 : decode cX5_shine 31 = .ok (.iload_n 3, 1) := by decide +kernel
theorem dX5_shine_32 : decode cX5_shine 32 = .ok (.iconst 0, 1) := by decide +kernel
theorem dX5_shine_33 : decode cX5_shine 33 = .ok (.invokevirtual 162, 3) := by decide +kernel
theorem dX5_shine_36 : decode cX5_shine 36 = .ok (.ifCond .ne 7, 3) := by decide +kernel
theorem dX5_shine_39 : decode cX5_shine 39 = .ok (.iconst 1, 1) := by decide +kernel
theorem dX5_shine_40 : decode cX5_shine 40 = .ok (.goto 4, 3) := by decide +kernel
theorem dX5_shine_43 : decode cX5_shine 43 = .ok (.iconst 0, 1) := by decide +kernel
theorem dX5_shine_44 : decode cX5_shine 44 = .ok (.istore 4, 2) := by decide +kernel
theorem dX5_shine_46 : decode cX5_shine 46 = .ok (.iload_n 2, 1) := by decide +kernel
theorem dX5_shine_47 : decode cX5_shine 47 = .ok (.iload 4, 2) := by decide +kernel
theorem dX5_shine_49 : decode cX5_shine 49 = .ok (.ifCond .eq 12, 3) := by decide +kernel
theorem dX5_shine_52 : decode cX5_shine 52 = .ok (.aload_n 0, 1) := by decide +kernel
theorem dX5_shine_53 : decode cX5_shine 53 = .ok (.iload_n 3, 1) := by decide +kernel
theorem dX5_shine_54 : decode cX5_shine 54 = .ok (.iload_n 1, 1) := by decide +kernel
theorem dX5_shine_55 : decode cX5_shine 55 = .ok (.invokevirtual 165, 3) := by decide +kernel
theorem dX5_shine_58 : decode cX5_shine 58 = .ok (.goto 4, 3) := by decide +kernel
theorem dX5_shine_61 : decode cX5_shine 61 = .ok (.iconst 0, 1) := by decide +kernel
theorem dX5_shine_62 : decode cX5_shine 62 = .ok (.iadd, 1) := by decide +kernel
theorem dX5_shine_63 : decode cX5_shine 63 = .ok (.istore_n 2, 1) := by decide +kernel
theorem dX5_shine_64 : decode cX5_shine 64 = .ok (.iinc 3 1, 3) := by decide +kernel
theorem dX5_shine_67 : decode cX5_shine 67 = .ok (.goto (-63), 3) := by decide +kernel
theorem dX5_shine_70 : decode cX5_shine 70 = .ok (.iload_n 2, 1) := by decide +kernel
theorem dX5_shine_71 : decode cX5_shine 71 = .ok (.ireturn, 1) := by decide +kernel
theorem dX5_rowAt_0 : decode cX5_rowAt 0 = .ok (.iconst 0, 1) := by decide +kernel
theorem dX5_rowAt_1 : decode cX5_rowAt 1 = .ok (.istore_n 2, 1) := by decide +kernel
theorem dX5_rowAt_2 : decode cX5_rowAt 2 = .ok (.aload_n 0, 1) := by decide +kernel
theorem dX5_rowAt_3 : decode cX5_rowAt 3 = .ok (.getfield 13, 3) := by decide +kernel
theorem dX5_rowAt_6 : decode cX5_rowAt 6 = .ok (.bipush 21, 2) := by decide +kernel
theorem dX5_rowAt_8 : decode cX5_rowAt 8 = .ok (.iaload, 1) := by decide +kernel
theorem dX5_rowAt_9 : decode cX5_rowAt 9 = .ok (.aload_n 0, 1) := by decide +kernel
theorem dX5_rowAt_10 : decode cX5_rowAt 10 = .ok (.getfield 13, 3) := by decide +kernel
theorem dX5_rowAt_13 : decode cX5_rowAt 13 = .ok (.bipush 18, 2) := by decide +kernel
theorem dX5_rowAt_15 : decode cX5_rowAt 15 = .ok (.iaload, 1) := by decide +kernel
theorem dX5_rowAt_16 : decode cX5_rowAt 16 = .ok (.iload_n 1, 1) := by decide +kernel
theorem dX5_rowAt_17 : decode cX5_rowAt 17 = .ok (.imul, 1) := by decide +kernel
theorem dX5_rowAt_18 : decode cX5_rowAt 18 = .ok (.iadd, 1) := by decide +kernel
theorem dX5_rowAt_19 : decode cX5_rowAt 19 = .ok (.istore_n 3, 1) := by decide +kernel
theorem dX5_rowAt_20 : decode cX5_rowAt 20 = .ok (.iconst 0, 1) := by decide +kernel
theorem dX5_rowAt_21 : decode cX5_rowAt 21 = .ok (.istore 4, 2) := by decide +kernel
theorem dX5_rowAt_23 : decode cX5_rowAt 23 = .ok (.iload 4, 2) := by decide +kernel
theorem dX5_rowAt_25 : decode cX5_rowAt 25 = .ok (.aload_n 0, 1) := by decide +kernel
theorem dX5_rowAt_26 : decode cX5_rowAt 26 = .ok (.getfield 13, 3) := by decide +kernel
theorem dX5_rowAt_29 : decode cX5_rowAt 29 = .ok (.bipush 19, 2) := by decide +kernel
theorem dX5_rowAt_31 : decode cX5_rowAt 31 = .ok (.iaload, 1) := by decide +kernel
theorem dX5_rowAt_32 : decode cX5_rowAt 32 = .ok (.if_icmp .ge 20, 3) := by decide +kernel
theorem dX5_rowAt_35 : decode cX5_rowAt 35 = .ok (.iload_n 2, 1) := by decide +kernel
theorem dX5_rowAt_36 : decode cX5_rowAt 36 = .ok (.aload_n 0, 1) := by decide +kernel
theorem dX5_rowAt_37 : decode cX5_rowAt 37 = .ok (.iload_n 3, 1) := by decide +kernel
theorem dX5_rowAt_38 : decode cX5_rowAt 38 = .ok (.iload 4, 2) := by decide +kernel
theorem dX5_rowAt_40 : decode cX5_rowAt 40 = .ok (.iadd, 1) := by decide +kernel
theorem dX5_rowAt_41 : decode cX5_rowAt 41 = .ok (.invokevirtual 168, 3) := by decide +kernel
theorem dX5_rowAt_44 : decode cX5_rowAt 44 = .ok (.iadd, 1) := by decide +kernel
theorem dX5_rowAt_45 : decode cX5_rowAt 45 = .ok (.istore_n 2, 1) := by decide +kernel
theorem dX5_rowAt_46 : decode cX5_rowAt 46 = .ok (.iinc 4 1, 3) := by decide +kernel
theorem dX5_rowAt_49 : decode cX5_rowAt 49 = .ok (.goto (-26), 3) := by decide +kernel
theorem dX5_rowAt_52 : decode cX5_rowAt 52 = .ok (.iload_n 2, 1) := by decide +kernel
theorem dX5_rowAt_53 : decode cX5_rowAt 53 = .ok (.sipush 255, 3) := by decide +kernel
theorem dX5_rowAt_56 : decode cX5_rowAt 56 = .ok (.if_icmp .le 9, 3) := by decide +kernel
theorem dX5_rowAt_59 : decode cX5_rowAt 59 = .ok (.sipush 255, 3) := by decide +kernel
theorem dX5_rowAt_62 : decode cX5_rowAt 62 = .ok (.goto 4, 3) := by decide +kernel
theorem dX5_rowAt_65 : decode cX5_rowAt 65 = .ok (.iload_n 2, 1) := by decide +kernel
theorem dX5_rowAt_66 : decode cX5_rowAt 66 = .ok (.ireturn, 1) := by decide +kernel
theorem dX5_shotGoes_0 : decode cX5_shotGoes 0 = .ok (.sipush 255, 3) := by decide +kernel
theorem dX5_shotGoes_3 : decode cX5_shotGoes 3 = .ok (.istore_n 1, 1) := by decide +kernel
theorem dX5_shotGoes_4 : decode cX5_shotGoes 4 = .ok (.iconst 0, 1) := by decide +kernel
theorem dX5_shotGoes_5 : decode cX5_shotGoes 5 = .ok (.istore_n 2, 1) := by decide +kernel
theorem dX5_shotGoes_6 : decode cX5_shotGoes 6 = .ok (.iconst 0, 1) := by decide +kernel
theorem dX5_shotGoes_7 : decode cX5_shotGoes 7 = .ok (.istore_n 3, 1) := by decide +kernel
theorem dX5_shotGoes_8 : decode cX5_shotGoes 8 = .ok (.iload_n 3, 1) := by decide +kernel
theorem dX5_shotGoes_9 : decode cX5_shotGoes 9 = .ok (.aload_n 0, 1) := by decide +kernel
theorem dX5_shotGoes_10 : decode cX5_shotGoes 10 = .ok (.getfield 13, 3) := by decide +kernel
theorem dX5_shotGoes_13 : decode cX5_shotGoes 13 = .ok (.bipush 17, 2) := by decide +kernel
theorem dX5_shotGoes_15 : decode cX5_shotGoes 15 = .ok (.iaload, 1) := by decide +kernel
theorem dX5_shotGoes_16 : decode cX5_shotGoes 16 = .ok (.if_icmp .ge 97, 3) := by decide +kernel
theorem dX5_shotGoes_19 : decode cX5_shotGoes 19 = .ok (.aload_n 0, 1) := by decide +kernel
theorem dX5_shotGoes_20 : decode cX5_shotGoes 20 = .ok (.iload_n 3, 1) := by decide +kernel
theorem dX5_shotGoes_21 : decode cX5_shotGoes 21 = .ok (.invokevirtual 171, 3) := by decide +kernel
theorem dX5_shotGoes_24 : decode cX5_shotGoes 24 = .ok (.istore 4, 2) := by decide +kernel
theorem dX5_shotGoes_26 : decode cX5_shotGoes 26 = .ok (.aload_n 0, 1) := by decide +kernel
theorem dX5_shotGoes_27 : decode cX5_shotGoes 27 = .ok (.getfield 29, 3) := by decide +kernel
theorem dX5_shotGoes_30 : decode cX5_shotGoes 30 = .ok (.iload_n 3, 1) := by decide +kernel
theorem dX5_shotGoes_31 : decode cX5_shotGoes 31 = .ok (.iload 4, 2) := by decide +kernel
theorem dX5_shotGoes_33 : decode cX5_shotGoes 33 = .ok (.iastore, 1) := by decide +kernel
theorem dX5_shotGoes_34 : decode cX5_shotGoes 34 = .ok (.aload_n 0, 1) := by decide +kernel
theorem dX5_shotGoes_35 : decode cX5_shotGoes 35 = .ok (.getfield 13, 3) := by decide +kernel
theorem dX5_shotGoes_38 : decode cX5_shotGoes 38 = .ok (.bipush 24, 2) := by decide +kernel
theorem dX5_shotGoes_40 : decode cX5_shotGoes 40 = .ok (.iload_n 3, 1) := by decide +kernel
theorem dX5_shotGoes_41 : decode cX5_shotGoes 41 = .ok (.iadd, 1) := by decide +kernel
theorem dX5_shotGoes_42 : decode cX5_shotGoes 42 = .ok (.iload 4, 2) := by decide +kernel
theorem dX5_shotGoes_44 : decode cX5_shotGoes 44 = .ok (.iastore, 1) := by decide +kernel
theorem dX5_shotGoes_45 : decode cX5_shotGoes 45 = .ok (.iload 4, 2) := by decide +kernel
theorem dX5_shotGoes_47 : decode cX5_shotGoes 47 = .ok (.iload_n 1, 1) := by decide +kernel
theorem dX5_shotGoes_48 : decode cX5_shotGoes 48 = .ok (.if_icmp .ge 8, 3) := by decide +kernel
theorem dX5_shotGoes_51 : decode cX5_shotGoes 51 = .ok (.iload 4, 2) := by decide +kernel
theorem dX5_shotGoes_53 : decode cX5_shotGoes 53 = .ok (.goto 4, 3) := by decide +kernel
theorem dX5_shotGoes_56 : decode cX5_shotGoes 56 = .ok (.iload_n 1, 1) := by decide +kernel
theorem dX5_shotGoes_57 : decode cX5_shotGoes 57 = .ok (.istore_n 1, 1) := by decide +kernel
theorem dX5_shotGoes_58 : decode cX5_shotGoes 58 = .ok (.iload 4, 2) := by decide +kernel
theorem dX5_shotGoes_60 : decode cX5_shotGoes 60 = .ok (.iload_n 2, 1) := by decide +kernel
theorem dX5_shotGoes_61 : decode cX5_shotGoes 61 = .ok (.if_icmp .le 8, 3) := by decide +kernel
theorem dX5_shotGoes_64 : decode cX5_shotGoes 64 = .ok (.iload 4, 2) := by decide +kernel
theorem dX5_shotGoes_66 : decode cX5_shotGoes 66 = .ok (.goto 4, 3) := by decide +kernel
theorem dX5_shotGoes_69 : decode cX5_shotGoes 69 = .ok (.iload_n 2, 1) := by decide +kernel
theorem dX5_shotGoes_70 : decode cX5_shotGoes 70 = .ok (.istore_n 2, 1) := by decide +kernel
theorem dX5_shotGoes_71 : decode cX5_shotGoes 71 = .ok (.aload_n 0, 1) := by decide +kernel
theorem dX5_shotGoes_72 : decode cX5_shotGoes 72 = .ok (.dup, 1) := by decide +kernel
theorem dX5_shotGoes_73 : decode cX5_shotGoes 73 = .ok (.getfield 156, 3) := by decide +kernel
theorem dX5_shotGoes_76 : decode cX5_shotGoes 76 = .ok (.iload 4, 2) := by decide +kernel
theorem dX5_shotGoes_78 : decode cX5_shotGoes 78 = .ok (.iadd, 1) := by decide +kernel
theorem dX5_shotGoes_79 : decode cX5_shotGoes 79 = .ok (.putfield 156, 3) := by decide +kernel
theorem dX5_shotGoes_82 : decode cX5_shotGoes 82 = .ok (.aload_n 0, 1) := by decide +kernel
theorem dX5_shotGoes_83 : decode cX5_shotGoes 83 = .ok (.dup, 1) := by decide +kernel
theorem dX5_shotGoes_84 : decode cX5_shotGoes 84 = .ok (.getfield 159, 3) := by decide +kernel
theorem dX5_shotGoes_87 : decode cX5_shotGoes 87 = .ok (.iload 4, 2) := by decide +kernel
theorem dX5_shotGoes_89 : decode cX5_shotGoes 89 = .ok (.sipush 255, 3) := by decide +kernel
theorem dX5_shotGoes_92 : decode cX5_shotGoes 92 = .ok (.if_icmp .ne 7, 3) := by decide +kernel
theorem dX5_shotGoes_95 : decode cX5_shotGoes 95 = .ok (.iconst 1, 1) := by decide +kernel
theorem dX5_shotGoes_96 : decode cX5_shotGoes 96 = .ok (.goto 4, 3) := by decide +kernel
theorem dX5_shotGoes_99 : decode cX5_shotGoes 99 = .ok (.iconst 0, 1) := by decide +kernel
theorem dX5_shotGoes_100 : decode cX5_shotGoes 100 = .ok (.invokestatic 174, 3) := by decide +kernel
theorem dX5_shotGoes_103 : decode cX5_shotGoes 103 = .ok (.iadd, 1) := by decide +kernel
theorem dX5_shotGoes_104 : decode cX5_shotGoes 104 = .ok (.putfield 159, 3) := by decide +kernel
theorem dX5_shotGoes_107 : decode cX5_shotGoes 107 = .ok (.iinc 3 1, 3) := by decide +kernel
theorem dX5_shotGoes_110 : decode cX5_shotGoes 110 = .ok (.goto (-102), 3) := by decide +kernel
theorem dX5_shotGoes_113 : decode cX5_shotGoes 113 = .ok (.aload_n 0, 1) := by decide +kernel
theorem dX5_shotGoes_114 : decode cX5_shotGoes 114 = .ok (.iload_n 2, 1) := by decide +kernel
theorem dX5_shotGoes_115 : decode cX5_shotGoes 115 = .ok (.iload_n 1, 1) := by decide +kernel
theorem dX5_shotGoes_116 : decode cX5_shotGoes 116 = .ok (.isub, 1) := by decide +kernel
theorem dX5_shotGoes_117 : decode cX5_shotGoes 117 = .ok (.putfield 178, 3) := by decide +kernel
theorem dX5_shotGoes_120 : decode cX5_shotGoes 120 = .ok (.aload_n 0, 1) := by decide +kernel
theorem dX5_shotGoes_121 : decode cX5_shotGoes 121 = .ok (.aload_n 0, 1) := by decide +kernel
theorem dX5_shotGoes_122 : decode cX5_shotGoes 122 = .ok (.getfield 178, 3) := by decide +kernel
theorem dX5_shotGoes_125 : decode cX5_shotGoes 125 = .ok (.aload_n 0, 1) := by decide +kernel
theorem dX5_shotGoes_126 : decode cX5_shotGoes 126 = .ok (.getfield 150, 3) := by decide +kernel
theorem dX5_shotGoes_129 : decode cX5_shotGoes 129 = .ok (.if_icmp .le 10, 3) := by decide +kernel
theorem dX5_shotGoes_132 : decode cX5_shotGoes 132 = .ok (.aload_n 0, 1) := by decide +kernel
theorem dX5_shotGoes_133 : decode cX5_shotGoes 133 = .ok (.getfield 178, 3) := by decide +kernel
theorem dX5_shotGoes_136 : decode cX5_shotGoes 136 = .ok (.goto 7, 3) := by decide +kernel
theorem dX5_shotGoes_139 : decode cX5_shotGoes 139 = .ok (.aload_n 0, 1) := by decide +kernel
theorem dX5_shotGoes_140 : decode cX5_shotGoes 140 = .ok (.getfield 150, 3) := by decide +kernel
theorem dX5_shotGoes_143 : decode cX5_shotGoes 143 = .ok (.putfield 150, 3) := by decide +kernel
theorem dX5_shotGoes_146 : decode cX5_shotGoes 146 = .ok (.aload_n 0, 1) := by decide +kernel
theorem dX5_shotGoes_147 : decode cX5_shotGoes 147 = .ok (.aload_n 0, 1) := by decide +kernel
theorem dX5_shotGoes_148 : decode cX5_shotGoes 148 = .ok (.getfield 153, 3) := by decide +kernel
theorem dX5_shotGoes_151 : decode cX5_shotGoes 151 = .ok (.bipush (-4), 2) := by decide +kernel
theorem dX5_shotGoes_153 : decode cX5_shotGoes 153 = .ok (.if_icmp .eq 14, 3) := by decide +kernel
theorem dX5_shotGoes_156 : decode cX5_shotGoes 156 = .ok (.aload_n 0, 1) := by decide +kernel
theorem dX5_shotGoes_157 : decode cX5_shotGoes 157 = .ok (.getfield 178, 3) := by decide +kernel
theorem dX5_shotGoes_160 : decode cX5_shotGoes 160 = .ok (.aload_n 0, 1) := by decide +kernel
theorem dX5_shotGoes_161 : decode cX5_shotGoes 161 = .ok (.getfield 153, 3) := by decide +kernel
theorem dX5_shotGoes_164 : decode cX5_shotGoes 164 = .ok (.if_icmp .ge 10, 3) := by decide +kernel
theorem dX5_shotGoes_167 : decode cX5_shotGoes 167 = .ok (.aload_n 0, 1) := by decide +kernel
theorem dX5_shotGoes_168 : decode cX5_shotGoes 168 = .ok (.getfield 178, 3) := by decide +kernel
theorem dX5_shotGoes_171 : decode cX5_shotGoes 171 = .ok (.goto 7, 3) := by decide +kernel
theorem dX5_shotGoes_174 : decode cX5_shotGoes 174 = .ok (.aload_n 0, 1) := by decide +kernel
theorem dX5_shotGoes_175 : decode cX5_shotGoes 175 = .ok (.getfield 153, 3) := by decide +kernel
theorem dX5_shotGoes_178 : decode cX5_shotGoes 178 = .ok (.putfield 153, 3) := by decide +kernel
theorem dX5_shotGoes_181 : decode cX5_shotGoes 181 = .ok (.aload_n 0, 1) := by decide +kernel
theorem dX5_shotGoes_182 : decode cX5_shotGoes 182 = .ok (.getfield 13, 3) := by decide +kernel
theorem dX5_shotGoes_185 : decode cX5_shotGoes 185 = .ok (.bipush 23, 2) := by decide +kernel
theorem dX5_shotGoes_187 : decode cX5_shotGoes 187 = .ok (.aload_n 0, 1) := by decide +kernel
theorem dX5_shotGoes_188 : decode cX5_shotGoes 188 = .ok (.getfield 13, 3) := by decide +kernel
theorem dX5_shotGoes_191 : decode cX5_shotGoes 191 = .ok (.bipush 17, 2) := by decide +kernel
theorem dX5_shotGoes_193 : decode cX5_shotGoes 193 = .ok (.iaload, 1) := by decide +kernel
theorem dX5_shotGoes_194 : decode cX5_shotGoes 194 = .ok (.iastore, 1) := by decide +kernel
theorem dX5_shotGoes_195 : decode cX5_shotGoes 195 = .ok (.aload_n 0, 1) := by decide +kernel
theorem dX5_shotGoes_196 : decode cX5_shotGoes 196 = .ok (.getfield 13, 3) := by decide +kernel
theorem dX5_shotGoes_199 : decode cX5_shotGoes 199 = .ok (.bipush 21, 2) := by decide +kernel
theorem dX5_shotGoes_201 : decode cX5_shotGoes 201 = .ok (.dup2, 1) := by decide +kernel
theorem dX5_shotGoes_202 : decode cX5_shotGoes 202 = .ok (.iaload, 1) := by decide +kernel
theorem dX5_shotGoes_203 : decode cX5_shotGoes 203 = .ok (.aload_n 0, 1) := by decide +kernel
theorem dX5_shotGoes_204 : decode cX5_shotGoes 204 = .ok (.getfield 13, 3) := by decide +kernel
theorem dX5_shotGoes_207 : decode cX5_shotGoes 207 = .ok (.bipush 20, 2) := by decide +kernel
theorem dX5_shotGoes_209 : decode cX5_shotGoes 209 = .ok (.iaload, 1) := by decide +kernel
theorem dX5_shotGoes_210 : decode cX5_shotGoes 210 = .ok (.iadd, 1) := by decide +kernel
theorem dX5_shotGoes_211 : decode cX5_shotGoes 211 = .ok (.iastore, 1) := by decide +kernel
theorem dX5_shotGoes_212 : decode cX5_shotGoes 212 = .ok (.aload_n 0, 1) := by decide +kernel
theorem dX5_shotGoes_213 : decode cX5_shotGoes 213 = .ok (.getfield 13, 3) := by decide +kernel
theorem dX5_shotGoes_216 : decode cX5_shotGoes 216 = .ok (.bipush 22, 2) := by decide +kernel
theorem dX5_shotGoes_218 : decode cX5_shotGoes 218 = .ok (.dup2, 1) := by decide +kernel
theorem dX5_shotGoes_219 : decode cX5_shotGoes 219 = .ok (.iaload, 1) := by decide +kernel
theorem dX5_shotGoes_220 : decode cX5_shotGoes 220 = .ok (.iconst 1, 1) := by decide +kernel
theorem dX5_shotGoes_221 : decode cX5_shotGoes 221 = .ok (.iadd, 1) := by decide +kernel
theorem dX5_shotGoes_222 : decode cX5_shotGoes 222 = .ok (.iastore, 1) := by decide +kernel
theorem dX5_shotGoes_223 : decode cX5_shotGoes 223 = .ok (.return_, 1) := by decide +kernel
theorem dX5_shotsGo_0 : decode cX5_shotsGo 0 = .ok (.iconst 0, 1) := by decide +kernel
theorem dX5_shotsGo_1 : decode cX5_shotsGo 1 = .ok (.istore_n 2, 1) := by decide +kernel
theorem dX5_shotsGo_2 : decode cX5_shotsGo 2 = .ok (.iload_n 2, 1) := by decide +kernel
theorem dX5_shotsGo_3 : decode cX5_shotsGo 3 = .ok (.iload_n 1, 1) := by decide +kernel
theorem dX5_shotsGo_4 : decode cX5_shotsGo 4 = .ok (.if_icmp .ge 13, 3) := by decide +kernel
theorem dX5_shotsGo_7 : decode cX5_shotsGo 7 = .ok (.aload_n 0, 1) := by decide +kernel
theorem dX5_shotsGo_8 : decode cX5_shotsGo 8 = .ok (.invokevirtual 181, 3) := by decide +kernel
theorem dX5_shotsGo_11 : decode cX5_shotsGo 11 = .ok (.iinc 2 1, 3) := by decide +kernel
theorem dX5_shotsGo_14 : decode cX5_shotsGo 14 = .ok (.goto (-12), 3) := by decide +kernel
theorem dX5_shotsGo_17 : decode cX5_shotsGo 17 = .ok (.return_, 1) := by decide +kernel
theorem dX5_rule_0 : decode cX5_rule 0 = .ok (.aload_n 0, 1) := by decide +kernel
theorem dX5_rule_1 : decode cX5_rule 1 = .ok (.invokevirtual 184, 3) := by decide +kernel
theorem dX5_rule_4 : decode cX5_rule 4 = .ok (.iload_n 1, 1) := by decide +kernel
theorem dX5_rule_5 : decode cX5_rule 5 = .ok (.tableswitch 95 0 7 #[47, 55, 63, 71, 71, 71, 71, 83], 47) := by decide +kernel
theorem dX5_rule_52 : decode cX5_rule 52 = .ok (.aload_n 0, 1) := by decide +kernel
theorem dX5_rule_53 : decode cX5_rule 53 = .ok (.getfield 7, 3) := by decide +kernel
theorem dX5_rule_56 : decode cX5_rule 56 = .ok (.bipush 16, 2) := by decide +kernel
theorem dX5_rule_58 : decode cX5_rule 58 = .ok (.iaload, 1) := by decide +kernel
theorem dX5_rule_59 : decode cX5_rule 59 = .ok (.ireturn, 1) := by decide +kernel
theorem dX5_rule_60 : decode cX5_rule 60 = .ok (.aload_n 0, 1) := by decide +kernel
theorem dX5_rule_61 : decode cX5_rule 61 = .ok (.getfield 7, 3) := by decide +kernel
theorem dX5_rule_64 : decode cX5_rule 64 = .ok (.bipush 22, 2) := by decide +kernel
theorem dX5_rule_66 : decode cX5_rule 66 = .ok (.iaload, 1) := by decide +kernel
theorem dX5_rule_67 : decode cX5_rule 67 = .ok (.ireturn, 1) := by decide +kernel
theorem dX5_rule_68 : decode cX5_rule 68 = .ok (.aload_n 0, 1) := by decide +kernel
theorem dX5_rule_69 : decode cX5_rule 69 = .ok (.getfield 7, 3) := by decide +kernel
theorem dX5_rule_72 : decode cX5_rule 72 = .ok (.bipush 21, 2) := by decide +kernel
theorem dX5_rule_74 : decode cX5_rule 74 = .ok (.iaload, 1) := by decide +kernel
theorem dX5_rule_75 : decode cX5_rule 75 = .ok (.ireturn, 1) := by decide +kernel
theorem dX5_rule_76 : decode cX5_rule 76 = .ok (.aload_n 0, 1) := by decide +kernel
theorem dX5_rule_77 : decode cX5_rule 77 = .ok (.getfield 7, 3) := by decide +kernel
theorem dX5_rule_80 : decode cX5_rule 80 = .ok (.bipush 17, 2) := by decide +kernel
theorem dX5_rule_82 : decode cX5_rule 82 = .ok (.iload_n 1, 1) := by decide +kernel
theorem dX5_rule_83 : decode cX5_rule 83 = .ok (.iadd, 1) := by decide +kernel
theorem dX5_rule_84 : decode cX5_rule 84 = .ok (.iconst 3, 1) := by decide +kernel
theorem dX5_rule_85 : decode cX5_rule 85 = .ok (.isub, 1) := by decide +kernel
theorem dX5_rule_86 : decode cX5_rule 86 = .ok (.iaload, 1) := by decide +kernel
theorem dX5_rule_87 : decode cX5_rule 87 = .ok (.ireturn, 1) := by decide +kernel
theorem dX5_rule_88 : decode cX5_rule 88 = .ok (.aload_n 0, 1) := by decide +kernel
theorem dX5_rule_89 : decode cX5_rule 89 = .ok (.aload_n 0, 1) := by decide +kernel
theorem dX5_rule_90 : decode cX5_rule 90 = .ok (.getfield 7, 3) := by decide +kernel
theorem dX5_rule_93 : decode cX5_rule 93 = .ok (.bipush 21, 2) := by decide +kernel
theorem dX5_rule_95 : decode cX5_rule 95 = .ok (.iaload, 1) := by decide +kernel
theorem dX5_rule_96 : decode cX5_rule 96 = .ok (.invokevirtual 168, 3) := by decide +kernel
theorem dX5_rule_99 : decode cX5_rule 99 = .ok (.ireturn, 1) := by decide +kernel
theorem dX5_rule_100 : decode cX5_rule 100 = .ok (.iconst (-1), 1) := by decide +kernel
theorem dX5_rule_101 : decode cX5_rule 101 = .ok (.ireturn, 1) := by decide +kernel
theorem dX5_lamp_0 : decode cX5_lamp 0 = .ok (.aload_n 0, 1) := by decide +kernel
theorem dX5_lamp_1 : decode cX5_lamp 1 = .ok (.iload_n 1, 1) := by decide +kernel
theorem dX5_lamp_2 : decode cX5_lamp 2 = .ok (.invokevirtual 187, 3) := by decide +kernel
theorem dX5_lamp_5 : decode cX5_lamp 5 = .ok (.ifCond .eq 15, 3) := by decide +kernel
theorem dX5_lamp_8 : decode cX5_lamp 8 = .ok (.iload_n 2, 1) := by decide +kernel
theorem dX5_lamp_9 : decode cX5_lamp 9 = .ok (.i2l, 1) := by decide +kernel
theorem dX5_lamp_10 : decode cX5_lamp 10 = .ok (.lconst 0, 1) := by decide +kernel
theorem dX5_lamp_11 : decode cX5_lamp 11 = .ok (.ldc2_w 191, 3) := by decide +kernel
theorem dX5_lamp_14 : decode cX5_lamp 14 = .ok (.invokestatic 61, 3) := by decide +kernel
theorem dX5_lamp_17 : decode cX5_lamp 17 = .ok (.ifCond .ne 5, 3) := by decide +kernel
theorem dX5_lamp_20 : decode cX5_lamp 20 = .ok (.iconst (-1), 1) := by decide +kernel
theorem dX5_lamp_21 : decode cX5_lamp 21 = .ok (.ireturn, 1) := by decide +kernel
theorem dX5_lamp_22 : decode cX5_lamp 22 = .ok (.aload_n 0, 1) := by decide +kernel
theorem dX5_lamp_23 : decode cX5_lamp 23 = .ok (.invokevirtual 184, 3) := by decide +kernel
theorem dX5_lamp_26 : decode cX5_lamp 26 = .ok (.iload_n 2, 1) := by decide +kernel
theorem dX5_lamp_27 : decode cX5_lamp 27 = .ok (.iconst 4, 1) := by decide +kernel
theorem dX5_lamp_28 : decode cX5_lamp 28 = .ok (.if_icmp .ne 18, 3) := by decide +kernel
theorem dX5_lamp_31 : decode cX5_lamp 31 = .ok (.aload_n 0, 1) := by decide +kernel
theorem dX5_lamp_32 : decode cX5_lamp 32 = .ok (.iload_n 1, 1) := by decide +kernel
theorem dX5_lamp_33 : decode cX5_lamp 33 = .ok (.aload_n 0, 1) := by decide +kernel
theorem dX5_lamp_34 : decode cX5_lamp 34 = .ok (.getfield 7, 3) := by decide +kernel
theorem dX5_lamp_37 : decode cX5_lamp 37 = .ok (.bipush 21, 2) := by decide +kernel
theorem dX5_lamp_39 : decode cX5_lamp 39 = .ok (.iaload, 1) := by decide +kernel
theorem dX5_lamp_40 : decode cX5_lamp 40 = .ok (.invokevirtual 165, 3) := by decide +kernel
theorem dX5_lamp_43 : decode cX5_lamp 43 = .ok (.goto 9, 3) := by decide +kernel
theorem dX5_lamp_46 : decode cX5_lamp 46 = .ok (.aload_n 0, 1) := by decide +kernel
theorem dX5_lamp_47 : decode cX5_lamp 47 = .ok (.iload_n 1, 1) := by decide +kernel
theorem dX5_lamp_48 : decode cX5_lamp 48 = .ok (.iload_n 2, 1) := by decide +kernel
theorem dX5_lamp_49 : decode cX5_lamp 49 = .ok (.invokevirtual 162, 3) := by decide +kernel
theorem dX5_lamp_52 : decode cX5_lamp 52 = .ok (.ireturn, 1) := by decide +kernel
theorem dX5_row_0 : decode cX5_row 0 = .ok (.iload_n 1, 1) := by decide +kernel
theorem dX5_row_1 : decode cX5_row 1 = .ok (.invokestatic 193, 3) := by decide +kernel
theorem dX5_row_4 : decode cX5_row 4 = .ok (.ifCond .ne 5, 3) := by decide +kernel
theorem dX5_row_7 : decode cX5_row 7 = .ok (.iconst (-1), 1) := by decide +kernel
theorem dX5_row_8 : decode cX5_row 8 = .ok (.ireturn, 1) := by decide +kernel
theorem dX5_row_9 : decode cX5_row 9 = .ok (.aload_n 0, 1) := by decide +kernel
theorem dX5_row_10 : decode cX5_row 10 = .ok (.getfield 7, 3) := by decide +kernel
theorem dX5_row_13 : decode cX5_row 13 = .ok (.bipush 23, 2) := by decide +kernel
theorem dX5_row_15 : decode cX5_row 15 = .ok (.iaload, 1) := by decide +kernel
theorem dX5_row_16 : decode cX5_row 16 = .ok (.ifCond .ne 6, 3) := by decide +kernel
theorem dX5_row_19 : decode cX5_row 19 = .ok (.bipush (-2), 2) := by decide +kernel
theorem dX5_row_21 : decode cX5_row 21 = .ok (.ireturn, 1) := by decide +kernel
theorem dX5_row_22 : decode cX5_row 22 = .ok (.iload_n 1, 1) := by decide +kernel
theorem dX5_row_23 : decode cX5_row 23 = .ok (.aload_n 0, 1) := by decide +kernel
theorem dX5_row_24 : decode cX5_row 24 = .ok (.getfield 7, 3) := by decide +kernel
theorem dX5_row_27 : decode cX5_row 27 = .ok (.bipush 23, 2) := by decide +kernel
theorem dX5_row_29 : decode cX5_row 29 = .ok (.iaload, 1) := by decide +kernel
theorem dX5_row_30 : decode cX5_row 30 = .ok (.if_icmp .ge 15, 3) := by decide +kernel
theorem dX5_row_33 : decode cX5_row 33 = .ok (.aload_n 0, 1) := by decide +kernel
theorem dX5_row_34 : decode cX5_row 34 = .ok (.getfield 7, 3) := by decide +kernel
theorem dX5_row_37 : decode cX5_row 37 = .ok (.bipush 24, 2) := by decide +kernel
theorem dX5_row_39 : decode cX5_row 39 = .ok (.iload_n 1, 1) := by decide +kernel
theorem dX5_row_40 : decode cX5_row 40 = .ok (.iadd, 1) := by decide +kernel
theorem dX5_row_41 : decode cX5_row 41 = .ok (.iaload, 1) := by decide +kernel
theorem dX5_row_42 : decode cX5_row 42 = .ok (.goto 5, 3) := by decide +kernel
theorem dX5_row_45 : decode cX5_row 45 = .ok (.bipush (-4), 2) := by decide +kernel
theorem dX5_row_47 : decode cX5_row 47 = .ok (.ireturn, 1) := by decide +kernel
theorem dX5_becomes_0 : decode cX5_becomes 0 = .ok (.aload_n 0, 1) := by decide +kernel
theorem dX5_becomes_1 : decode cX5_becomes 1 = .ok (.getfield 7, 3) := by decide +kernel
theorem dX5_becomes_4 : decode cX5_becomes 4 = .ok (.iload_n 1, 1) := by decide +kernel
theorem dX5_becomes_5 : decode cX5_becomes 5 = .ok (.iaload, 1) := by decide +kernel
theorem dX5_becomes_6 : decode cX5_becomes 6 = .ok (.istore_n 3, 1) := by decide +kernel
theorem dX5_becomes_7 : decode cX5_becomes 7 = .ok (.aload_n 0, 1) := by decide +kernel
theorem dX5_becomes_8 : decode cX5_becomes 8 = .ok (.getfield 7, 3) := by decide +kernel
theorem dX5_becomes_11 : decode cX5_becomes 11 = .ok (.iload_n 1, 1) := by decide +kernel
theorem dX5_becomes_12 : decode cX5_becomes 12 = .ok (.iload_n 2, 1) := by decide +kernel
theorem dX5_becomes_13 : decode cX5_becomes 13 = .ok (.iastore, 1) := by decide +kernel
theorem dX5_becomes_14 : decode cX5_becomes 14 = .ok (.iload_n 3, 1) := by decide +kernel
theorem dX5_becomes_15 : decode cX5_becomes 15 = .ok (.ireturn, 1) := by decide +kernel
theorem dX5_alter_0 : decode cX5_alter 0 = .ok (.aload_n 0, 1) := by decide +kernel
theorem dX5_alter_1 : decode cX5_alter 1 = .ok (.iload_n 1, 1) := by decide +kernel
theorem dX5_alter_2 : decode cX5_alter 2 = .ok (.invokevirtual 187, 3) := by decide +kernel
theorem dX5_alter_5 : decode cX5_alter 5 = .ok (.ifCond .eq 46, 3) := by decide +kernel
theorem dX5_alter_8 : decode cX5_alter 8 = .ok (.iload_n 2, 1) := by decide +kernel
theorem dX5_alter_9 : decode cX5_alter 9 = .ok (.i2l, 1) := by decide +kernel
theorem dX5_alter_10 : decode cX5_alter 10 = .ok (.lconst 0, 1) := by decide +kernel
theorem dX5_alter_11 : decode cX5_alter 11 = .ok (.ldc2_w 196, 3) := by decide +kernel
theorem dX5_alter_14 : decode cX5_alter 14 = .ok (.invokestatic 61, 3) := by decide +kernel
theorem dX5_alter_17 : decode cX5_alter 17 = .ok (.ifCond .eq 34, 3) := by decide +kernel
theorem dX5_alter_20 : decode cX5_alter 20 = .ok (.iload_n 3, 1) := by decide +kernel
theorem dX5_alter_21 : decode cX5_alter 21 = .ok (.i2l, 1) := by decide +kernel
theorem dX5_alter_22 : decode cX5_alter 22 = .ok (.iload_n 2, 1) := by decide +kernel
theorem dX5_alter_23 : decode cX5_alter 23 = .ok (.invokestatic 124, 3) := by decide +kernel
theorem dX5_alter_26 : decode cX5_alter 26 = .ok (.i2l, 1) := by decide +kernel
theorem dX5_alter_27 : decode cX5_alter 27 = .ok (.iload_n 2, 1) := by decide +kernel
theorem dX5_alter_28 : decode cX5_alter 28 = .ok (.invokestatic 127, 3) := by decide +kernel
theorem dX5_alter_31 : decode cX5_alter 31 = .ok (.i2l, 1) := by decide +kernel
theorem dX5_alter_32 : decode cX5_alter 32 = .ok (.invokestatic 61, 3) := by decide +kernel
theorem dX5_alter_35 : decode cX5_alter 35 = .ok (.ifCond .eq 16, 3) := by decide +kernel
theorem dX5_alter_38 : decode cX5_alter 38 = .ok (.aload_n 0, 1) := by decide +kernel
theorem dX5_alter_39 : decode cX5_alter 39 = .ok (.iconst 4, 1) := by decide +kernel
theorem dX5_alter_40 : decode cX5_alter 40 = .ok (.iload_n 1, 1) := by decide +kernel
theorem dX5_alter_41 : decode cX5_alter 41 = .ok (.imul, 1) := by decide +kernel
theorem dX5_alter_42 : decode cX5_alter 42 = .ok (.iload_n 2, 1) := by decide +kernel
theorem dX5_alter_43 : decode cX5_alter 43 = .ok (.iadd, 1) := by decide +kernel
theorem dX5_alter_44 : decode cX5_alter 44 = .ok (.iload_n 3, 1) := by decide +kernel
theorem dX5_alter_45 : decode cX5_alter 45 = .ok (.invokevirtual 198, 3) := by decide +kernel
theorem dX5_alter_48 : decode cX5_alter 48 = .ok (.goto 4, 3) := by decide +kernel
theorem dX5_alter_51 : decode cX5_alter 51 = .ok (.iconst (-1), 1) := by decide +kernel
theorem dX5_alter_52 : decode cX5_alter 52 = .ok (.ireturn, 1) := by decide +kernel
theorem dX5_tell_0 : decode cX5_tell 0 = .ok (.iload_n 1, 1) := by decide +kernel
theorem dX5_tell_1 : decode cX5_tell 1 = .ok (.i2l, 1) := by decide +kernel
theorem dX5_tell_2 : decode cX5_tell 2 = .ok (.lconst 0, 1) := by decide +kernel
theorem dX5_tell_3 : decode cX5_tell 3 = .ok (.ldc2_w 196, 3) := by decide +kernel
theorem dX5_tell_6 : decode cX5_tell 6 = .ok (.invokestatic 61, 3) := by decide +kernel
theorem dX5_tell_9 : decode cX5_tell 9 = .ok (.ifCond .eq 33, 3) := by decide +kernel
theorem dX5_tell_12 : decode cX5_tell 12 = .ok (.iload_n 2, 1) := by decide +kernel
theorem dX5_tell_13 : decode cX5_tell 13 = .ok (.i2l, 1) := by decide +kernel
theorem dX5_tell_14 : decode cX5_tell 14 = .ok (.iload_n 1, 1) := by decide +kernel
theorem dX5_tell_15 : decode cX5_tell 15 = .ok (.invokestatic 114, 3) := by decide +kernel
theorem dX5_tell_18 : decode cX5_tell 18 = .ok (.i2l, 1) := by decide +kernel
theorem dX5_tell_19 : decode cX5_tell 19 = .ok (.iload_n 1, 1) := by decide +kernel
theorem dX5_tell_20 : decode cX5_tell 20 = .ok (.invokestatic 117, 3) := by decide +kernel
theorem dX5_tell_23 : decode cX5_tell 23 = .ok (.i2l, 1) := by decide +kernel
theorem dX5_tell_24 : decode cX5_tell 24 = .ok (.invokestatic 61, 3) := by decide +kernel
theorem dX5_tell_27 : decode cX5_tell 27 = .ok (.ifCond .eq 15, 3) := by decide +kernel
theorem dX5_tell_30 : decode cX5_tell 30 = .ok (.aload_n 0, 1) := by decide +kernel
theorem dX5_tell_31 : decode cX5_tell 31 = .ok (.bipush 17, 2) := by decide +kernel
theorem dX5_tell_33 : decode cX5_tell 33 = .ok (.iload_n 1, 1) := by decide +kernel
theorem dX5_tell_34 : decode cX5_tell 34 = .ok (.iadd, 1) := by decide +kernel
theorem dX5_tell_35 : decode cX5_tell 35 = .ok (.iload_n 2, 1) := by decide +kernel
theorem dX5_tell_36 : decode cX5_tell 36 = .ok (.invokevirtual 198, 3) := by decide +kernel
theorem dX5_tell_39 : decode cX5_tell 39 = .ok (.goto 4, 3) := by decide +kernel
theorem dX5_tell_42 : decode cX5_tell 42 = .ok (.iconst (-1), 1) := by decide +kernel
theorem dX5_tell_43 : decode cX5_tell 43 = .ok (.ireturn, 1) := by decide +kernel
theorem dX5_put_0 : decode cX5_put 0 = .ok (.iload_n 1, 1) := by decide +kernel
theorem dX5_put_1 : decode cX5_put 1 = .ok (.i2l, 1) := by decide +kernel
theorem dX5_put_2 : decode cX5_put 2 = .ok (.lconst 0, 1) := by decide +kernel
theorem dX5_put_3 : decode cX5_put 3 = .ok (.ldc2_w 196, 3) := by decide +kernel
theorem dX5_put_6 : decode cX5_put 6 = .ok (.invokestatic 61, 3) := by decide +kernel
theorem dX5_put_9 : decode cX5_put 9 = .ok (.ifCond .eq 27, 3) := by decide +kernel
theorem dX5_put_12 : decode cX5_put 12 = .ok (.iload_n 2, 1) := by decide +kernel
theorem dX5_put_13 : decode cX5_put 13 = .ok (.i2l, 1) := by decide +kernel
theorem dX5_put_14 : decode cX5_put 14 = .ok (.lconst 1, 1) := by decide +kernel
theorem dX5_put_15 : decode cX5_put 15 = .ok (.ldc2_w 201, 3) := by decide +kernel
theorem dX5_put_18 : decode cX5_put 18 = .ok (.invokestatic 61, 3) := by decide +kernel
theorem dX5_put_21 : decode cX5_put 21 = .ok (.ifCond .eq 15, 3) := by decide +kernel
theorem dX5_put_24 : decode cX5_put 24 = .ok (.iload_n 3, 1) := by decide +kernel
theorem dX5_put_25 : decode cX5_put 25 = .ok (.i2l, 1) := by decide +kernel
theorem dX5_put_26 : decode cX5_put 26 = .ok (.lconst 1, 1) := by decide +kernel
theorem dX5_put_27 : decode cX5_put 27 = .ok (.ldc2_w 203, 3) := by decide +kernel
theorem dX5_put_30 : decode cX5_put 30 = .ok (.invokestatic 61, 3) := by decide +kernel
theorem dX5_put_33 : decode cX5_put 33 = .ok (.ifCond .ne 5, 3) := by decide +kernel
theorem dX5_put_36 : decode cX5_put 36 = .ok (.iconst (-1), 1) := by decide +kernel
theorem dX5_put_37 : decode cX5_put 37 = .ok (.ireturn, 1) := by decide +kernel
theorem dX5_put_38 : decode cX5_put 38 = .ok (.aload_n 0, 1) := by decide +kernel
theorem dX5_put_39 : decode cX5_put 39 = .ok (.getfield 7, 3) := by decide +kernel
theorem dX5_put_42 : decode cX5_put 42 = .ok (.bipush 16, 2) := by decide +kernel
theorem dX5_put_44 : decode cX5_put 44 = .ok (.iaload, 1) := by decide +kernel
theorem dX5_put_45 : decode cX5_put 45 = .ok (.iconst 4, 1) := by decide +kernel
theorem dX5_put_46 : decode cX5_put 46 = .ok (.if_icmp .ne 6, 3) := by decide +kernel
theorem dX5_put_49 : decode cX5_put 49 = .ok (.bipush (-3), 2) := by decide +kernel
theorem dX5_put_51 : decode cX5_put 51 = .ok (.ireturn, 1) := by decide +kernel
theorem dX5_put_52 : decode cX5_put 52 = .ok (.iconst 4, 1) := by decide +kernel
theorem dX5_put_53 : decode cX5_put 53 = .ok (.aload_n 0, 1) := by decide +kernel
theorem dX5_put_54 : decode cX5_put 54 = .ok (.getfield 7, 3) := by decide +kernel
theorem dX5_put_57 : decode cX5_put 57 = .ok (.bipush 16, 2) := by decide +kernel
theorem dX5_put_59 : decode cX5_put 59 = .ok (.iaload, 1) := by decide +kernel
theorem dX5_put_60 : decode cX5_put 60 = .ok (.imul, 1) := by decide +kernel
theorem dX5_put_61 : decode cX5_put 61 = .ok (.istore 4, 2) := by decide +kernel
theorem dX5_put_63 : decode cX5_put 63 = .ok (.aload_n 0, 1) := by decide +kernel
theorem dX5_put_64 : decode cX5_put 64 = .ok (.getfield 7, 3) := by decide +kernel
theorem dX5_put_67 : decode cX5_put 67 = .ok (.iload 4, 2) := by decide +kernel
theorem dX5_put_69 : decode cX5_put 69 = .ok (.iconst 0, 1) := by decide +kernel
theorem dX5_put_70 : decode cX5_put 70 = .ok (.iadd, 1) := by decide +kernel
theorem dX5_put_71 : decode cX5_put 71 = .ok (.iload_n 1, 1) := by decide +kernel
theorem dX5_put_72 : decode cX5_put 72 = .ok (.iastore, 1) := by decide +kernel
theorem dX5_put_73 : decode cX5_put 73 = .ok (.aload_n 0, 1) := by decide +kernel
theorem dX5_put_74 : decode cX5_put 74 = .ok (.getfield 7, 3) := by decide +kernel
theorem dX5_put_77 : decode cX5_put 77 = .ok (.iload 4, 2) := by decide +kernel
theorem dX5_put_79 : decode cX5_put 79 = .ok (.iconst 1, 1) := by decide +kernel
theorem dX5_put_80 : decode cX5_put 80 = .ok (.iadd, 1) := by decide +kernel
theorem dX5_put_81 : decode cX5_put 81 = .ok (.iload_n 2, 1) := by decide +kernel
theorem dX5_put_82 : decode cX5_put 82 = .ok (.iastore, 1) := by decide +kernel
theorem dX5_put_83 : decode cX5_put 83 = .ok (.aload_n 0, 1) := by decide +kernel
theorem dX5_put_84 : decode cX5_put 84 = .ok (.getfield 7, 3) := by decide +kernel
theorem dX5_put_87 : decode cX5_put 87 = .ok (.iload 4, 2) := by decide +kernel
theorem dX5_put_89 : decode cX5_put 89 = .ok (.iconst 2, 1) := by decide +kernel
theorem dX5_put_90 : decode cX5_put 90 = .ok (.iadd, 1) := by decide +kernel
theorem dX5_put_91 : decode cX5_put 91 = .ok (.iload_n 3, 1) := by decide +kernel
theorem dX5_put_92 : decode cX5_put 92 = .ok (.iastore, 1) := by decide +kernel
theorem dX5_put_93 : decode cX5_put 93 = .ok (.aload_n 0, 1) := by decide +kernel
theorem dX5_put_94 : decode cX5_put 94 = .ok (.getfield 7, 3) := by decide +kernel
theorem dX5_put_97 : decode cX5_put 97 = .ok (.iload 4, 2) := by decide +kernel
theorem dX5_put_99 : decode cX5_put 99 = .ok (.iconst 3, 1) := by decide +kernel
theorem dX5_put_100 : decode cX5_put 100 = .ok (.iadd, 1) := by decide +kernel
theorem dX5_put_101 : decode cX5_put 101 = .ok (.iconst 0, 1) := by decide +kernel
theorem dX5_put_102 : decode cX5_put 102 = .ok (.iastore, 1) := by decide +kernel
theorem dX5_put_103 : decode cX5_put 103 = .ok (.aload_n 0, 1) := by decide +kernel
theorem dX5_put_104 : decode cX5_put 104 = .ok (.getfield 7, 3) := by decide +kernel
theorem dX5_put_107 : decode cX5_put 107 = .ok (.bipush 16, 2) := by decide +kernel
theorem dX5_put_109 : decode cX5_put 109 = .ok (.dup2, 1) := by decide +kernel
theorem dX5_put_110 : decode cX5_put 110 = .ok (.iaload, 1) := by decide +kernel
theorem dX5_put_111 : decode cX5_put 111 = .ok (.iconst 1, 1) := by decide +kernel
theorem dX5_put_112 : decode cX5_put 112 = .ok (.iadd, 1) := by decide +kernel
theorem dX5_put_113 : decode cX5_put 113 = .ok (.iastore, 1) := by decide +kernel
theorem dX5_put_114 : decode cX5_put 114 = .ok (.aload_n 0, 1) := by decide +kernel
theorem dX5_put_115 : decode cX5_put 115 = .ok (.getfield 7, 3) := by decide +kernel
theorem dX5_put_118 : decode cX5_put 118 = .ok (.bipush 16, 2) := by decide +kernel
theorem dX5_put_120 : decode cX5_put 120 = .ok (.iaload, 1) := by decide +kernel
theorem dX5_put_121 : decode cX5_put 121 = .ok (.ireturn, 1) := by decide +kernel
theorem dX5_cut_0 : decode cX5_cut 0 = .ok (.iload_n 1, 1) := by decide +kernel
theorem dX5_cut_1 : decode cX5_cut 1 = .ok (.i2l, 1) := by decide +kernel
theorem dX5_cut_2 : decode cX5_cut 2 = .ok (.lconst 0, 1) := by decide +kernel
theorem dX5_cut_3 : decode cX5_cut 3 = .ok (.aload_n 0, 1) := by decide +kernel
theorem dX5_cut_4 : decode cX5_cut 4 = .ok (.getfield 7, 3) := by decide +kernel
theorem dX5_cut_7 : decode cX5_cut 7 = .ok (.bipush 16, 2) := by decide +kernel
theorem dX5_cut_9 : decode cX5_cut 9 = .ok (.iaload, 1) := by decide +kernel
theorem dX5_cut_10 : decode cX5_cut 10 = .ok (.i2l, 1) := by decide +kernel
theorem dX5_cut_11 : decode cX5_cut 11 = .ok (.invokestatic 61, 3) := by decide +kernel
theorem dX5_cut_14 : decode cX5_cut 14 = .ok (.ifCond .eq 13, 3) := by decide +kernel
theorem dX5_cut_17 : decode cX5_cut 17 = .ok (.aload_n 0, 1) := by decide +kernel
theorem dX5_cut_18 : decode cX5_cut 18 = .ok (.bipush 16, 2) := by decide +kernel
theorem dX5_cut_20 : decode cX5_cut 20 = .ok (.iload_n 1, 1) := by decide +kernel
theorem dX5_cut_21 : decode cX5_cut 21 = .ok (.invokevirtual 198, 3) := by decide +kernel
theorem dX5_cut_24 : decode cX5_cut 24 = .ok (.goto 4, 3) := by decide +kernel
theorem dX5_cut_27 : decode cX5_cut 27 = .ok (.iconst (-1), 1) := by decide +kernel
theorem dX5_cut_28 : decode cX5_cut 28 = .ok (.ireturn, 1) := by decide +kernel
theorem dX5_rest_0 : decode cX5_rest 0 = .ok (.iload_n 1, 1) := by decide +kernel
theorem dX5_rest_1 : decode cX5_rest 1 = .ok (.i2l, 1) := by decide +kernel
theorem dX5_rest_2 : decode cX5_rest 2 = .ok (.lconst 0, 1) := by decide +kernel
theorem dX5_rest_3 : decode cX5_rest 3 = .ok (.ldc2_w 205, 3) := by decide +kernel
theorem dX5_rest_6 : decode cX5_rest 6 = .ok (.invokestatic 61, 3) := by decide +kernel
theorem dX5_rest_9 : decode cX5_rest 9 = .ok (.ifCond .ne 5, 3) := by decide +kernel
theorem dX5_rest_12 : decode cX5_rest 12 = .ok (.iconst (-1), 1) := by decide +kernel
theorem dX5_rest_13 : decode cX5_rest 13 = .ok (.ireturn, 1) := by decide +kernel
theorem dX5_rest_14 : decode cX5_rest 14 = .ok (.aload_n 0, 1) := by decide +kernel
theorem dX5_rest_15 : decode cX5_rest 15 = .ok (.getfield 7, 3) := by decide +kernel
theorem dX5_rest_18 : decode cX5_rest 18 = .ok (.bipush 21, 2) := by decide +kernel
theorem dX5_rest_20 : decode cX5_rest 20 = .ok (.iaload, 1) := by decide +kernel
theorem dX5_rest_21 : decode cX5_rest 21 = .ok (.iload_n 1, 1) := by decide +kernel
theorem dX5_rest_22 : decode cX5_rest 22 = .ok (.iadd, 1) := by decide +kernel
theorem dX5_rest_23 : decode cX5_rest 23 = .ok (.ldc 207, 2) := by decide +kernel
theorem dX5_rest_25 : decode cX5_rest 25 = .ok (.if_icmp .le 6, 3) := by decide +kernel
theorem dX5_rest_28 : decode cX5_rest 28 = .ok (.bipush (-3), 2) := by decide +kernel
theorem dX5_rest_30 : decode cX5_rest 30 = .ok (.ireturn, 1) := by decide +kernel
theorem dX5_rest_31 : decode cX5_rest 31 = .ok (.aload_n 0, 1) := by decide +kernel
theorem dX5_rest_32 : decode cX5_rest 32 = .ok (.getfield 7, 3) := by decide +kernel
theorem dX5_rest_35 : decode cX5_rest 35 = .ok (.bipush 21, 2) := by decide +kernel
theorem dX5_rest_37 : decode cX5_rest 37 = .ok (.dup2, 1) := by decide +kernel
theorem dX5_rest_38 : decode cX5_rest 38 = .ok (.iaload, 1) := by decide +kernel
theorem dX5_rest_39 : decode cX5_rest 39 = .ok (.iload_n 1, 1) := by decide +kernel
theorem dX5_rest_40 : decode cX5_rest 40 = .ok (.iadd, 1) := by decide +kernel
theorem dX5_rest_41 : decode cX5_rest 41 = .ok (.iastore, 1) := by decide +kernel
theorem dX5_rest_42 : decode cX5_rest 42 = .ok (.aload_n 0, 1) := by decide +kernel
theorem dX5_rest_43 : decode cX5_rest 43 = .ok (.getfield 7, 3) := by decide +kernel
theorem dX5_rest_46 : decode cX5_rest 46 = .ok (.bipush 21, 2) := by decide +kernel
theorem dX5_rest_48 : decode cX5_rest 48 = .ok (.iaload, 1) := by decide +kernel
theorem dX5_rest_49 : decode cX5_rest 49 = .ok (.ireturn, 1) := by decide +kernel
theorem dX5_isFar_0 : decode cX5_isFar 0 = .ok (.iload_n 0, 1) := by decide +kernel
theorem dX5_isFar_1 : decode cX5_isFar 1 = .ok (.i2l, 1) := by decide +kernel
theorem dX5_isFar_2 : decode cX5_isFar 2 = .ok (.lconst 0, 1) := by decide +kernel
theorem dX5_isFar_3 : decode cX5_isFar 3 = .ok (.ldc2_w 208, 3) := by decide +kernel
theorem dX5_isFar_6 : decode cX5_isFar 6 = .ok (.invokestatic 61, 3) := by decide +kernel
theorem dX5_isFar_9 : decode cX5_isFar 9 = .ok (.ireturn, 1) := by decide +kernel
theorem dX5_shoot_0 : decode cX5_shoot 0 = .ok (.iload_n 1, 1) := by decide +kernel
theorem dX5_shoot_1 : decode cX5_shoot 1 = .ok (.invokestatic 210, 3) := by decide +kernel
theorem dX5_shoot_4 : decode cX5_shoot 4 = .ok (.ifCond .ne 5, 3) := by decide +kernel
theorem dX5_shoot_7 : decode cX5_shoot 7 = .ok (.iconst (-1), 1) := by decide +kernel
theorem dX5_shoot_8 : decode cX5_shoot 8 = .ok (.ireturn, 1) := by decide +kernel
theorem dX5_shoot_9 : decode cX5_shoot 9 = .ok (.aload_n 0, 1) := by decide +kernel
theorem dX5_shoot_10 : decode cX5_shoot 10 = .ok (.getfield 7, 3) := by decide +kernel
theorem dX5_shoot_13 : decode cX5_shoot 13 = .ok (.bipush 21, 2) := by decide +kernel
theorem dX5_shoot_15 : decode cX5_shoot 15 = .ok (.iaload, 1) := by decide +kernel
theorem dX5_shoot_16 : decode cX5_shoot 16 = .ok (.iload_n 1, 1) := by decide +kernel
theorem dX5_shoot_17 : decode cX5_shoot 17 = .ok (.aload_n 0, 1) := by decide +kernel
theorem dX5_shoot_18 : decode cX5_shoot 18 = .ok (.getfield 7, 3) := by decide +kernel
theorem dX5_shoot_21 : decode cX5_shoot 21 = .ok (.bipush 20, 2) := by decide +kernel
theorem dX5_shoot_23 : decode cX5_shoot 23 = .ok (.iaload, 1) := by decide +kernel
theorem dX5_shoot_24 : decode cX5_shoot 24 = .ok (.imul, 1) := by decide +kernel
theorem dX5_shoot_25 : decode cX5_shoot 25 = .ok (.iadd, 1) := by decide +kernel
theorem dX5_shoot_26 : decode cX5_shoot 26 = .ok (.ldc 207, 2) := by decide +kernel
theorem dX5_shoot_28 : decode cX5_shoot 28 = .ok (.if_icmp .le 6, 3) := by decide +kernel
theorem dX5_shoot_31 : decode cX5_shoot 31 = .ok (.bipush (-3), 2) := by decide +kernel
theorem dX5_shoot_33 : decode cX5_shoot 33 = .ok (.ireturn, 1) := by decide +kernel
theorem dX5_shoot_34 : decode cX5_shoot 34 = .ok (.aload_n 0, 1) := by decide +kernel
theorem dX5_shoot_35 : decode cX5_shoot 35 = .ok (.invokevirtual 184, 3) := by decide +kernel
theorem dX5_shoot_38 : decode cX5_shoot 38 = .ok (.aload_n 0, 1) := by decide +kernel
theorem dX5_shoot_39 : decode cX5_shoot 39 = .ok (.iload_n 1, 1) := by decide +kernel
theorem dX5_shoot_40 : decode cX5_shoot 40 = .ok (.invokevirtual 213, 3) := by decide +kernel
theorem dX5_shoot_43 : decode cX5_shoot 43 = .ok (.aload_n 0, 1) := by decide +kernel
theorem dX5_shoot_44 : decode cX5_shoot 44 = .ok (.invokevirtual 216, 3) := by decide +kernel
theorem dX5_shoot_47 : decode cX5_shoot 47 = .ok (.aload_n 0, 1) := by decide +kernel
theorem dX5_shoot_48 : decode cX5_shoot 48 = .ok (.getfield 150, 3) := by decide +kernel
theorem dX5_shoot_51 : decode cX5_shoot 51 = .ok (.ireturn, 1) := by decide +kernel
theorem dX5_runs_0 : decode cX5_runs 0 = .ok (.iload_n 1, 1) := by decide +kernel
theorem dX5_runs_1 : decode cX5_runs 1 = .ok (.invokestatic 210, 3) := by decide +kernel
theorem dX5_runs_4 : decode cX5_runs 4 = .ok (.ifCond .eq 15, 3) := by decide +kernel
theorem dX5_runs_7 : decode cX5_runs 7 = .ok (.iload_n 2, 1) := by decide +kernel
theorem dX5_runs_8 : decode cX5_runs 8 = .ok (.i2l, 1) := by decide +kernel
theorem dX5_runs_9 : decode cX5_runs 9 = .ok (.lconst 0, 1) := by decide +kernel
theorem dX5_runs_10 : decode cX5_runs 10 = .ok (.ldc2_w 196, 3) := by decide +kernel
theorem dX5_runs_13 : decode cX5_runs 13 = .ok (.invokestatic 61, 3) := by decide +kernel
theorem dX5_runs_16 : decode cX5_runs 16 = .ok (.ifCond .ne 5, 3) := by decide +kernel
theorem dX5_runs_19 : decode cX5_runs 19 = .ok (.iconst (-1), 1) := by decide +kernel
theorem dX5_runs_20 : decode cX5_runs 20 = .ok (.ireturn, 1) := by decide +kernel
theorem dX5_runs_21 : decode cX5_runs 21 = .ok (.aload_n 0, 1) := by decide +kernel
theorem dX5_runs_22 : decode cX5_runs 22 = .ok (.invokevirtual 184, 3) := by decide +kernel
theorem dX5_runs_25 : decode cX5_runs 25 = .ok (.aload_n 0, 1) := by decide +kernel
theorem dX5_runs_26 : decode cX5_runs 26 = .ok (.iload_n 1, 1) := by decide +kernel
theorem dX5_runs_27 : decode cX5_runs 27 = .ok (.invokevirtual 213, 3) := by decide +kernel
theorem dX5_runs_30 : decode cX5_runs 30 = .ok (.iload_n 2, 1) := by decide +kernel
theorem dX5_runs_31 : decode cX5_runs 31 = .ok (.tableswitch 40 0 2 #[25, 30, 35], 25) := by decide +kernel
theorem dX5_runs_56 : decode cX5_runs 56 = .ok (.aload_n 0, 1) := by decide +kernel
theorem dX5_runs_57 : decode cX5_runs 57 = .ok (.getfield 150, 3) := by decide +kernel
theorem dX5_runs_60 : decode cX5_runs 60 = .ok (.ireturn, 1) := by decide +kernel
theorem dX5_runs_61 : decode cX5_runs 61 = .ok (.aload_n 0, 1) := by decide +kernel
theorem dX5_runs_62 : decode cX5_runs 62 = .ok (.getfield 153, 3) := by decide +kernel
theorem dX5_runs_65 : decode cX5_runs 65 = .ok (.ireturn, 1) := by decide +kernel
theorem dX5_runs_66 : decode cX5_runs 66 = .ok (.aload_n 0, 1) := by decide +kernel
theorem dX5_runs_67 : decode cX5_runs 67 = .ok (.getfield 156, 3) := by decide +kernel
theorem dX5_runs_70 : decode cX5_runs 70 = .ok (.ireturn, 1) := by decide +kernel
theorem dX5_runs_71 : decode cX5_runs 71 = .ok (.aload_n 0, 1) := by decide +kernel
theorem dX5_runs_72 : decode cX5_runs 72 = .ok (.getfield 159, 3) := by decide +kernel
theorem dX5_runs_75 : decode cX5_runs 75 = .ok (.ireturn, 1) := by decide +kernel
theorem dX5_ahead_0 : decode cX5_ahead 0 = .ok (.iload_n 1, 1) := by decide +kernel
theorem dX5_ahead_1 : decode cX5_ahead 1 = .ok (.invokestatic 210, 3) := by decide +kernel
theorem dX5_ahead_4 : decode cX5_ahead 4 = .ok (.ifCond .eq 22, 3) := by decide +kernel
theorem dX5_ahead_7 : decode cX5_ahead 7 = .ok (.iload_n 2, 1) := by decide +kernel
theorem dX5_ahead_8 : decode cX5_ahead 8 = .ok (.i2l, 1) := by decide +kernel
theorem dX5_ahead_9 : decode cX5_ahead 9 = .ok (.lconst 0, 1) := by decide +kernel
theorem dX5_ahead_10 : decode cX5_ahead 10 = .ok (.aload_n 0, 1) := by decide +kernel
theorem dX5_ahead_11 : decode cX5_ahead 11 = .ok (.getfield 7, 3) := by decide +kernel
theorem dX5_ahead_14 : decode cX5_ahead 14 = .ok (.bipush 17, 2) := by decide +kernel
theorem dX5_ahead_16 : decode cX5_ahead 16 = .ok (.iaload, 1) := by decide +kernel
theorem dX5_ahead_17 : decode cX5_ahead 17 = .ok (.iconst 1, 1) := by decide +kernel
theorem dX5_ahead_18 : decode cX5_ahead 18 = .ok (.isub, 1) := by decide +kernel
theorem dX5_ahead_19 : decode cX5_ahead 19 = .ok (.i2l, 1) := by decide +kernel
theorem dX5_ahead_20 : decode cX5_ahead 20 = .ok (.invokestatic 61, 3) := by decide +kernel
theorem dX5_ahead_23 : decode cX5_ahead 23 = .ok (.ifCond .ne 5, 3) := by decide +kernel
theorem dX5_ahead_26 : decode cX5_ahead 26 = .ok (.iconst (-1), 1) := by decide +kernel
theorem dX5_ahead_27 : decode cX5_ahead 27 = .ok (.ireturn, 1) := by decide +kernel
theorem dX5_ahead_28 : decode cX5_ahead 28 = .ok (.aload_n 0, 1) := by decide +kernel
theorem dX5_ahead_29 : decode cX5_ahead 29 = .ok (.invokevirtual 184, 3) := by decide +kernel
theorem dX5_ahead_32 : decode cX5_ahead 32 = .ok (.aload_n 0, 1) := by decide +kernel
theorem dX5_ahead_33 : decode cX5_ahead 33 = .ok (.iload_n 1, 1) := by decide +kernel
theorem dX5_ahead_34 : decode cX5_ahead 34 = .ok (.iconst 1, 1) := by decide +kernel
theorem dX5_ahead_35 : decode cX5_ahead 35 = .ok (.iadd, 1) := by decide +kernel
theorem dX5_ahead_36 : decode cX5_ahead 36 = .ok (.invokevirtual 213, 3) := by decide +kernel
theorem dX5_ahead_39 : decode cX5_ahead 39 = .ok (.aload_n 0, 1) := by decide +kernel
theorem dX5_ahead_40 : decode cX5_ahead 40 = .ok (.getfield 29, 3) := by decide +kernel
theorem dX5_ahead_43 : decode cX5_ahead 43 = .ok (.iload_n 2, 1) := by decide +kernel
theorem dX5_ahead_44 : decode cX5_ahead 44 = .ok (.iaload, 1) := by decide +kernel
theorem dX5_ahead_45 : decode cX5_ahead 45 = .ok (.ireturn, 1) := by decide +kernel
theorem dX5_when_0 : decode cX5_when 0 = .ok (.iload_n 1, 1) := by decide +kernel
theorem dX5_when_1 : decode cX5_when 1 = .ok (.i2l, 1) := by decide +kernel
theorem dX5_when_2 : decode cX5_when 2 = .ok (.lconst 0, 1) := by decide +kernel
theorem dX5_when_3 : decode cX5_when 3 = .ok (.ldc2_w 219, 3) := by decide +kernel
theorem dX5_when_6 : decode cX5_when 6 = .ok (.invokestatic 61, 3) := by decide +kernel
theorem dX5_when_9 : decode cX5_when 9 = .ok (.ifCond .ne 5, 3) := by decide +kernel
theorem dX5_when_12 : decode cX5_when 12 = .ok (.iconst (-1), 1) := by decide +kernel
theorem dX5_when_13 : decode cX5_when 13 = .ok (.ireturn, 1) := by decide +kernel
theorem dX5_when_14 : decode cX5_when 14 = .ok (.aload_n 0, 1) := by decide +kernel
theorem dX5_when_15 : decode cX5_when 15 = .ok (.invokevirtual 184, 3) := by decide +kernel
theorem dX5_when_18 : decode cX5_when 18 = .ok (.iconst 0, 1) := by decide +kernel
theorem dX5_when_19 : decode cX5_when 19 = .ok (.istore_n 2, 1) := by decide +kernel
theorem dX5_when_20 : decode cX5_when 20 = .ok (.iload_n 2, 1) := by decide +kernel
theorem dX5_when_21 : decode cX5_when 21 = .ok (.bipush 40, 2) := by decide +kernel
theorem dX5_when_23 : decode cX5_when 23 = .ok (.if_icmp .gt 23, 3) := by decide +kernel
theorem dX5_when_26 : decode cX5_when 26 = .ok (.aload_n 0, 1) := by decide +kernel
theorem dX5_when_27 : decode cX5_when 27 = .ok (.invokevirtual 181, 3) := by decide +kernel
theorem dX5_when_30 : decode cX5_when 30 = .ok (.aload_n 0, 1) := by decide +kernel
theorem dX5_when_31 : decode cX5_when 31 = .ok (.getfield 178, 3) := by decide +kernel
theorem dX5_when_34 : decode cX5_when 34 = .ok (.iload_n 1, 1) := by decide +kernel
theorem dX5_when_35 : decode cX5_when 35 = .ok (.if_icmp .lt 5, 3) := by decide +kernel
theorem dX5_when_38 : decode cX5_when 38 = .ok (.iload_n 2, 1) := by decide +kernel
theorem dX5_when_39 : decode cX5_when 39 = .ok (.ireturn, 1) := by decide +kernel
theorem dX5_when_40 : decode cX5_when 40 = .ok (.iinc 2 1, 3) := by decide +kernel
theorem dX5_when_43 : decode cX5_when 43 = .ok (.goto (-23), 3) := by decide +kernel
theorem dX5_when_46 : decode cX5_when 46 = .ok (.bipush (-4), 2) := by decide +kernel
theorem dX5_when_48 : decode cX5_when 48 = .ok (.ireturn, 1) := by decide +kernel
theorem dX5_again_0 : decode cX5_again 0 = .ok (.aload_n 0, 1) := by decide +kernel
theorem dX5_again_1 : decode cX5_again 1 = .ok (.invokevirtual 184, 3) := by decide +kernel
theorem dX5_again_4 : decode cX5_again 4 = .ok (.aload_n 0, 1) := by decide +kernel
theorem dX5_again_5 : decode cX5_again 5 = .ok (.invokevirtual 181, 3) := by decide +kernel
theorem dX5_again_8 : decode cX5_again 8 = .ok (.iconst 0, 1) := by decide +kernel
theorem dX5_again_9 : decode cX5_again 9 = .ok (.istore_n 1, 1) := by decide +kernel
theorem dX5_again_10 : decode cX5_again 10 = .ok (.iload_n 1, 1) := by decide +kernel
theorem dX5_again_11 : decode cX5_again 11 = .ok (.aload_n 0, 1) := by decide +kernel
theorem dX5_again_12 : decode cX5_again 12 = .ok (.getfield 13, 3) := by decide +kernel
theorem dX5_again_15 : decode cX5_again 15 = .ok (.bipush 17, 2) := by decide +kernel
theorem dX5_again_17 : decode cX5_again 17 = .ok (.iaload, 1) := by decide +kernel
theorem dX5_again_18 : decode cX5_again 18 = .ok (.if_icmp .ge 21, 3) := by decide +kernel
theorem dX5_again_21 : decode cX5_again 21 = .ok (.aload_n 0, 1) := by decide +kernel
theorem dX5_again_22 : decode cX5_again 22 = .ok (.getfield 32, 3) := by decide +kernel
theorem dX5_again_25 : decode cX5_again 25 = .ok (.iload_n 1, 1) := by decide +kernel
theorem dX5_again_26 : decode cX5_again 26 = .ok (.aload_n 0, 1) := by decide +kernel
theorem dX5_again_27 : decode cX5_again 27 = .ok (.getfield 29, 3) := by decide +kernel
theorem dX5_again_30 : decode cX5_again 30 = .ok (.iload_n 1, 1) := by decide +kernel
theorem dX5_again_31 : decode cX5_again 31 = .ok (.iaload, 1) := by decide +kernel
theorem dX5_again_32 : decode cX5_again 32 = .ok (.iastore, 1) := by decide +kernel
theorem dX5_again_33 : decode cX5_again 33 = .ok (.iinc 1 1, 3) := by decide +kernel
theorem dX5_again_36 : decode cX5_again 36 = .ok (.goto (-26), 3) := by decide +kernel
theorem dX5_again_39 : decode cX5_again 39 = .ok (.iconst 1, 1) := by decide +kernel
theorem dX5_again_40 : decode cX5_again 40 = .ok (.istore_n 1, 1) := by decide +kernel
theorem dX5_again_41 : decode cX5_again 41 = .ok (.iload_n 1, 1) := by decide +kernel
theorem dX5_again_42 : decode cX5_again 42 = .ok (.bipush 40, 2) := by decide +kernel
theorem dX5_again_44 : decode cX5_again 44 = .ok (.if_icmp .gt 65, 3) := by decide +kernel
theorem dX5_again_47 : decode cX5_again 47 = .ok (.aload_n 0, 1) := by decide +kernel
theorem dX5_again_48 : decode cX5_again 48 = .ok (.invokevirtual 181, 3) := by decide +kernel
theorem dX5_again_51 : decode cX5_again 51 = .ok (.iconst 1, 1) := by decide +kernel
theorem dX5_again_52 : decode cX5_again 52 = .ok (.istore_n 2, 1) := by decide +kernel
theorem dX5_again_53 : decode cX5_again 53 = .ok (.iconst 0, 1) := by decide +kernel
theorem dX5_again_54 : decode cX5_again 54 = .ok (.istore_n 3, 1) := by decide +kernel
theorem dX5_again_55 : decode cX5_again 55 = .ok (.iload_n 3, 1) := by decide +kernel
theorem dX5_again_56 : decode cX5_again 56 = .ok (.aload_n 0, 1) := by decide +kernel
theorem dX5_again_57 : decode cX5_again 57 = .ok (.getfield 13, 3) := by decide +kernel
theorem dX5_again_60 : decode cX5_again 60 = .ok (.bipush 17, 2) := by decide +kernel
theorem dX5_again_62 : decode cX5_again 62 = .ok (.iaload, 1) := by decide +kernel
theorem dX5_again_63 : decode cX5_again 63 = .ok (.if_icmp .ge 34, 3) := by decide +kernel
theorem dX5_again_66 : decode cX5_again 66 = .ok (.iload_n 2, 1) := by decide +kernel
theorem dX5_again_67 : decode cX5_again 67 = .ok (.ifCond .eq 22, 3) := by decide +kernel
theorem dX5_again_70 : decode cX5_again 70 = .ok (.aload_n 0, 1) := by decide +kernel
theorem dX5_again_71 : decode cX5_again 71 = .ok (.getfield 29, 3) := by decide +kernel
theorem dX5_again_74 : decode cX5_again 74 = .ok (.iload_n 3, 1) := by decide +kernel
theorem dX5_again_75 : decode cX5_again 75 = .ok (.iaload, 1) := by decide +kernel
theorem dX5_again_76 : decode cX5_again 76 = .ok (.aload_n 0, 1) := by decide +kernel
theorem dX5_again_77 : decode cX5_again 77 = .ok (.getfield 32, 3) := by decide +kernel
theorem dX5_again_80 : decode cX5_again 80 = .ok (.iload_n 3, 1) := by decide +kernel
theorem dX5_again_81 : decode cX5_again 81 = .ok (.iaload, 1) := by decide +kernel
theorem dX5_again_82 : decode cX5_again 82 = .ok (.if_icmp .ne 7, 3) := by decide +kernel
theorem dX5_again_85 : decode cX5_again 85 = .ok (.iconst 1, 1) := by decide +kernel
theorem dX5_again_86 : decode cX5_again 86 = .ok (.goto 4, 3) := by decide +kernel
theorem dX5_again_89 : decode cX5_again 89 = .ok (.iconst 0, 1) := by decide +kernel
theorem dX5_again_90 : decode cX5_again 90 = .ok (.istore_n 2, 1) := by decide +kernel
theorem dX5_again_91 : decode cX5_again 91 = .ok (.iinc 3 1, 3) := by decide +kernel
theorem dX5_again_94 : decode cX5_again 94 = .ok (.goto (-39), 3) := by decide +kernel
theorem dX5_again_97 : decode cX5_again 97 = .ok (.iload_n 2, 1) := by decide +kernel
theorem dX5_again_98 : decode cX5_again 98 = .ok (.ifCond .eq 5, 3) := by decide +kernel
theorem dX5_again_101 : decode cX5_again 101 = .ok (.iload_n 1, 1) := by decide +kernel
theorem dX5_again_102 : decode cX5_again 102 = .ok (.ireturn, 1) := by decide +kernel
theorem dX5_again_103 : decode cX5_again 103 = .ok (.iinc 1 1, 3) := by decide +kernel
theorem dX5_again_106 : decode cX5_again 106 = .ok (.goto (-65), 3) := by decide +kernel
theorem dX5_again_109 : decode cX5_again 109 = .ok (.bipush (-4), 2) := by decide +kernel
theorem dX5_again_111 : decode cX5_again 111 = .ok (.ireturn, 1) := by decide +kernel
theorem dX5_startsJudging_0 : decode cX5_startsJudging 0 = .ok (.aload_n 0, 1) := by decide +kernel
theorem dX5_startsJudging_1 : decode cX5_startsJudging 1 = .ok (.bipush (-4), 2) := by decide +kernel
theorem dX5_startsJudging_3 : decode cX5_startsJudging 3 = .ok (.putfield 221, 3) := by decide +kernel
theorem dX5_startsJudging_6 : decode cX5_startsJudging 6 = .ok (.aload_n 0, 1) := by decide +kernel
theorem dX5_startsJudging_7 : decode cX5_startsJudging 7 = .ok (.iload_n 1, 1) := by decide +kernel
theorem dX5_startsJudging_8 : decode cX5_startsJudging 8 = .ok (.putfield 224, 3) := by decide +kernel
theorem dX5_startsJudging_11 : decode cX5_startsJudging 11 = .ok (.return_, 1) := by decide +kernel
theorem dX5_judges_0 : decode cX5_judges 0 = .ok (.iload_n 2, 1) := by decide +kernel
theorem dX5_judges_1 : decode cX5_judges 1 = .ok (.aload_n 0, 1) := by decide +kernel
theorem dX5_judges_2 : decode cX5_judges 2 = .ok (.getfield 224, 3) := by decide +kernel
theorem dX5_judges_5 : decode cX5_judges 5 = .ok (.if_icmp .ge 13, 3) := by decide +kernel
theorem dX5_judges_8 : decode cX5_judges 8 = .ok (.aload_n 0, 1) := by decide +kernel
theorem dX5_judges_9 : decode cX5_judges 9 = .ok (.iload_n 1, 1) := by decide +kernel
theorem dX5_judges_10 : decode cX5_judges 10 = .ok (.putfield 221, 3) := by decide +kernel
theorem dX5_judges_13 : decode cX5_judges 13 = .ok (.aload_n 0, 1) := by decide +kernel
theorem dX5_judges_14 : decode cX5_judges 14 = .ok (.iload_n 2, 1) := by decide +kernel
theorem dX5_judges_15 : decode cX5_judges 15 = .ok (.putfield 224, 3) := by decide +kernel
theorem dX5_judges_18 : decode cX5_judges 18 = .ok (.return_, 1) := by decide +kernel
theorem dX5_judged_0 : decode cX5_judged 0 = .ok (.aload_n 0, 1) := by decide +kernel
theorem dX5_judged_1 : decode cX5_judged 1 = .ok (.getfield 221, 3) := by decide +kernel
theorem dX5_judged_4 : decode cX5_judged 4 = .ok (.bipush (-4), 2) := by decide +kernel
theorem dX5_judged_6 : decode cX5_judged 6 = .ok (.if_icmp .ne 8, 3) := by decide +kernel
theorem dX5_judged_9 : decode cX5_judged 9 = .ok (.bipush (-4), 2) := by decide +kernel
theorem dX5_judged_11 : decode cX5_judged 11 = .ok (.goto 18, 3) := by decide +kernel
theorem dX5_judged_14 : decode cX5_judged 14 = .ok (.iload_n 1, 1) := by decide +kernel
theorem dX5_judged_15 : decode cX5_judged 15 = .ok (.ifCond .ne 10, 3) := by decide +kernel
theorem dX5_judged_18 : decode cX5_judged 18 = .ok (.aload_n 0, 1) := by decide +kernel
theorem dX5_judged_19 : decode cX5_judged 19 = .ok (.getfield 221, 3) := by decide +kernel
theorem dX5_judged_22 : decode cX5_judged 22 = .ok (.goto 7, 3) := by decide +kernel
theorem dX5_judged_25 : decode cX5_judged 25 = .ok (.aload_n 0, 1) := by decide +kernel
theorem dX5_judged_26 : decode cX5_judged 26 = .ok (.getfield 224, 3) := by decide +kernel
theorem dX5_judged_29 : decode cX5_judged 29 = .ok (.ireturn, 1) := by decide +kernel
theorem dX5_bestOf_0 : decode cX5_bestOf 0 = .ok (.aload_n 0, 1) := by decide +kernel
theorem dX5_bestOf_1 : decode cX5_bestOf 1 = .ok (.ldc 227, 2) := by decide +kernel
theorem dX5_bestOf_3 : decode cX5_bestOf 3 = .ok (.invokevirtual 228, 3) := by decide +kernel
theorem dX5_bestOf_6 : decode cX5_bestOf 6 = .ok (.iload_n 2, 1) := by decide +kernel
theorem dX5_bestOf_7 : decode cX5_bestOf 7 = .ok (.istore 6, 2) := by decide +kernel
theorem dX5_bestOf_9 : decode cX5_bestOf 9 = .ok (.iload 6, 2) := by decide +kernel
theorem dX5_bestOf_11 : decode cX5_bestOf 11 = .ok (.iload_n 3, 1) := by decide +kernel
theorem dX5_bestOf_12 : decode cX5_bestOf 12 = .ok (.if_icmp .gt 37, 3) := by decide +kernel
theorem dX5_bestOf_15 : decode cX5_bestOf 15 = .ok (.aload_n 0, 1) := by decide +kernel
theorem dX5_bestOf_16 : decode cX5_bestOf 16 = .ok (.invokevirtual 184, 3) := by decide +kernel
theorem dX5_bestOf_19 : decode cX5_bestOf 19 = .ok (.aload_n 0, 1) := by decide +kernel
theorem dX5_bestOf_20 : decode cX5_bestOf 20 = .ok (.getfield 13, 3) := by decide +kernel
theorem dX5_bestOf_23 : decode cX5_bestOf 23 = .ok (.iload_n 1, 1) := by decide +kernel
theorem dX5_bestOf_24 : decode cX5_bestOf 24 = .ok (.iload 6, 2) := by decide +kernel
theorem dX5_bestOf_26 : decode cX5_bestOf 26 = .ok (.iastore, 1) := by decide +kernel
theorem dX5_bestOf_27 : decode cX5_bestOf 27 = .ok (.aload_n 0, 1) := by decide +kernel
theorem dX5_bestOf_28 : decode cX5_bestOf 28 = .ok (.iload 4, 2) := by decide +kernel
theorem dX5_bestOf_30 : decode cX5_bestOf 30 = .ok (.invokevirtual 213, 3) := by decide +kernel
theorem dX5_bestOf_33 : decode cX5_bestOf 33 = .ok (.aload_n 0, 1) := by decide +kernel
theorem dX5_bestOf_34 : decode cX5_bestOf 34 = .ok (.iload 6, 2) := by decide +kernel
theorem dX5_bestOf_36 : decode cX5_bestOf 36 = .ok (.aload_n 0, 1) := by decide +kernel
theorem dX5_bestOf_37 : decode cX5_bestOf 37 = .ok (.getfield 150, 3) := by decide +kernel
theorem dX5_bestOf_40 : decode cX5_bestOf 40 = .ok (.invokevirtual 231, 3) := by decide +kernel
theorem dX5_bestOf_43 : decode cX5_bestOf 43 = .ok (.iinc 6 1, 3) := by decide +kernel
theorem dX5_bestOf_46 : decode cX5_bestOf 46 = .ok (.goto (-37), 3) := by decide +kernel
theorem dX5_bestOf_49 : decode cX5_bestOf 49 = .ok (.aload_n 0, 1) := by decide +kernel
theorem dX5_bestOf_50 : decode cX5_bestOf 50 = .ok (.iload 5, 2) := by decide +kernel
theorem dX5_bestOf_52 : decode cX5_bestOf 52 = .ok (.invokevirtual 235, 3) := by decide +kernel
theorem dX5_bestOf_55 : decode cX5_bestOf 55 = .ok (.ireturn, 1) := by decide +kernel
theorem dX5_best_0 : decode cX5_best 0 = .ok (.iload_n 1, 1) := by decide +kernel
theorem dX5_best_1 : decode cX5_best 1 = .ok (.i2l, 1) := by decide +kernel
theorem dX5_best_2 : decode cX5_best 2 = .ok (.lconst 1, 1) := by decide +kernel
theorem dX5_best_3 : decode cX5_best 3 = .ok (.ldc2_w 196, 3) := by decide +kernel
theorem dX5_best_6 : decode cX5_best 6 = .ok (.invokestatic 61, 3) := by decide +kernel
theorem dX5_best_9 : decode cX5_best 9 = .ok (.ifCond .eq 38, 3) := by decide +kernel
theorem dX5_best_12 : decode cX5_best 12 = .ok (.iload_n 2, 1) := by decide +kernel
theorem dX5_best_13 : decode cX5_best 13 = .ok (.invokestatic 210, 3) := by decide +kernel
theorem dX5_best_16 : decode cX5_best 16 = .ok (.ifCond .eq 31, 3) := by decide +kernel
theorem dX5_best_19 : decode cX5_best 19 = .ok (.iload_n 3, 1) := by decide +kernel
theorem dX5_best_20 : decode cX5_best 20 = .ok (.invokestatic 238, 3) := by decide +kernel
theorem dX5_best_23 : decode cX5_best 23 = .ok (.ifCond .eq 24, 3) := by decide +kernel
theorem dX5_best_26 : decode cX5_best 26 = .ok (.aload_n 0, 1) := by decide +kernel
theorem dX5_best_27 : decode cX5_best 27 = .ok (.bipush 17, 2) := by decide +kernel
theorem dX5_best_29 : decode cX5_best 29 = .ok (.iload_n 1, 1) := by decide +kernel
theorem dX5_best_30 : decode cX5_best 30 = .ok (.iadd, 1) := by decide +kernel
theorem dX5_best_31 : decode cX5_best 31 = .ok (.iload_n 1, 1) := by decide +kernel
theorem dX5_best_32 : decode cX5_best 32 = .ok (.invokestatic 114, 3) := by decide +kernel
theorem dX5_best_35 : decode cX5_best 35 = .ok (.iload_n 1, 1) := by decide +kernel
theorem dX5_best_36 : decode cX5_best 36 = .ok (.invokestatic 117, 3) := by decide +kernel
theorem dX5_best_39 : decode cX5_best 39 = .ok (.iload_n 2, 1) := by decide +kernel
theorem dX5_best_40 : decode cX5_best 40 = .ok (.iload_n 3, 1) := by decide +kernel
theorem dX5_best_41 : decode cX5_best 41 = .ok (.invokevirtual 241, 3) := by decide +kernel
theorem dX5_best_44 : decode cX5_best 44 = .ok (.goto 4, 3) := by decide +kernel
theorem dX5_best_47 : decode cX5_best 47 = .ok (.iconst (-1), 1) := by decide +kernel
theorem dX5_best_48 : decode cX5_best 48 = .ok (.ireturn, 1) := by decide +kernel
theorem dX5_kind_0 : decode cX5_kind 0 = .ok (.aload_n 0, 1) := by decide +kernel
theorem dX5_kind_1 : decode cX5_kind 1 = .ok (.iload_n 1, 1) := by decide +kernel
theorem dX5_kind_2 : decode cX5_kind 2 = .ok (.invokevirtual 187, 3) := by decide +kernel
theorem dX5_kind_5 : decode cX5_kind 5 = .ok (.ifCond .eq 33, 3) := by decide +kernel
theorem dX5_kind_8 : decode cX5_kind 8 = .ok (.iload_n 2, 1) := by decide +kernel
theorem dX5_kind_9 : decode cX5_kind 9 = .ok (.invokestatic 210, 3) := by decide +kernel
theorem dX5_kind_12 : decode cX5_kind 12 = .ok (.ifCond .eq 26, 3) := by decide +kernel
theorem dX5_kind_15 : decode cX5_kind 15 = .ok (.iload_n 3, 1) := by decide +kernel
theorem dX5_kind_16 : decode cX5_kind 16 = .ok (.invokestatic 238, 3) := by decide +kernel
theorem dX5_kind_19 : decode cX5_kind 19 = .ok (.ifCond .eq 19, 3) := by decide +kernel
theorem dX5_kind_22 : decode cX5_kind 22 = .ok (.aload_n 0, 1) := by decide +kernel
theorem dX5_kind_23 : decode cX5_kind 23 = .ok (.iconst 4, 1) := by decide +kernel
theorem dX5_kind_24 : decode cX5_kind 24 = .ok (.iload_n 1, 1) := by decide +kernel
theorem dX5_kind_25 : decode cX5_kind 25 = .ok (.imul, 1) := by decide +kernel
theorem dX5_kind_26 : decode cX5_kind 26 = .ok (.iconst 0, 1) := by decide +kernel
theorem dX5_kind_27 : decode cX5_kind 27 = .ok (.iadd, 1) := by decide +kernel
theorem dX5_kind_28 : decode cX5_kind 28 = .ok (.iconst 0, 1) := by decide +kernel
theorem dX5_kind_29 : decode cX5_kind 29 = .ok (.iconst 3, 1) := by decide +kernel
theorem dX5_kind_30 : decode cX5_kind 30 = .ok (.iload_n 2, 1) := by decide +kernel
theorem dX5_kind_31 : decode cX5_kind 31 = .ok (.iload_n 3, 1) := by decide +kernel
theorem dX5_kind_32 : decode cX5_kind 32 = .ok (.invokevirtual 241, 3) := by decide +kernel
theorem dX5_kind_35 : decode cX5_kind 35 = .ok (.goto 4, 3) := by decide +kernel
theorem dX5_kind_38 : decode cX5_kind 38 = .ok (.iconst (-1), 1) := by decide +kernel
theorem dX5_kind_39 : decode cX5_kind 39 = .ok (.ireturn, 1) := by decide +kernel
theorem dX5_phase_0 : decode cX5_phase 0 = .ok (.aload_n 0, 1) := by decide +kernel
theorem dX5_phase_1 : decode cX5_phase 1 = .ok (.iload_n 1, 1) := by decide +kernel
theorem dX5_phase_2 : decode cX5_phase 2 = .ok (.invokevirtual 187, 3) := by decide +kernel
theorem dX5_phase_5 : decode cX5_phase 5 = .ok (.ifCond .eq 34, 3) := by decide +kernel
theorem dX5_phase_8 : decode cX5_phase 8 = .ok (.iload_n 2, 1) := by decide +kernel
theorem dX5_phase_9 : decode cX5_phase 9 = .ok (.invokestatic 210, 3) := by decide +kernel
theorem dX5_phase_12 : decode cX5_phase 12 = .ok (.ifCond .eq 27, 3) := by decide +kernel
theorem dX5_phase_15 : decode cX5_phase 15 = .ok (.iload_n 3, 1) := by decide +kernel
theorem dX5_phase_16 : decode cX5_phase 16 = .ok (.invokestatic 238, 3) := by decide +kernel
theorem dX5_phase_19 : decode cX5_phase 19 = .ok (.ifCond .eq 20, 3) := by decide +kernel
theorem dX5_phase_22 : decode cX5_phase 22 = .ok (.aload_n 0, 1) := by decide +kernel
theorem dX5_phase_23 : decode cX5_phase 23 = .ok (.iconst 4, 1) := by decide +kernel
theorem dX5_phase_24 : decode cX5_phase 24 = .ok (.iload_n 1, 1) := by decide +kernel
theorem dX5_phase_25 : decode cX5_phase 25 = .ok (.imul, 1) := by decide +kernel
theorem dX5_phase_26 : decode cX5_phase 26 = .ok (.iconst 3, 1) := by decide +kernel
theorem dX5_phase_27 : decode cX5_phase 27 = .ok (.iadd, 1) := by decide +kernel
theorem dX5_phase_28 : decode cX5_phase 28 = .ok (.iconst 0, 1) := by decide +kernel
theorem dX5_phase_29 : decode cX5_phase 29 = .ok (.bipush 11, 2) := by decide +kernel
theorem dX5_phase_31 : decode cX5_phase 31 = .ok (.iload_n 2, 1) := by decide +kernel
theorem dX5_phase_32 : decode cX5_phase 32 = .ok (.iload_n 3, 1) := by decide +kernel
theorem dX5_phase_33 : decode cX5_phase 33 = .ok (.invokevirtual 241, 3) := by decide +kernel
theorem dX5_phase_36 : decode cX5_phase 36 = .ok (.goto 4, 3) := by decide +kernel
theorem dX5_phase_39 : decode cX5_phase 39 = .ok (.iconst (-1), 1) := by decide +kernel
theorem dX5_phase_40 : decode cX5_phase 40 = .ok (.ireturn, 1) := by decide +kernel
theorem dX5_out_0 : decode cX5_out 0 = .ok (.iload_n 1, 1) := by decide +kernel
theorem dX5_out_1 : decode cX5_out 1 = .ok (.invokestatic 210, 3) := by decide +kernel
theorem dX5_out_4 : decode cX5_out 4 = .ok (.ifCond .eq 10, 3) := by decide +kernel
theorem dX5_out_7 : decode cX5_out 7 = .ok (.iload_n 2, 1) := by decide +kernel
theorem dX5_out_8 : decode cX5_out 8 = .ok (.invokestatic 238, 3) := by decide +kernel
theorem dX5_out_11 : decode cX5_out 11 = .ok (.ifCond .ne 5, 3) := by decide +kernel
theorem dX5_out_14 : decode cX5_out 14 = .ok (.iconst (-1), 1) := by decide +kernel
theorem dX5_out_15 : decode cX5_out 15 = .ok (.ireturn, 1) := by decide +kernel
theorem dX5_out_16 : decode cX5_out 16 = .ok (.aload_n 0, 1) := by decide +kernel
theorem dX5_out_17 : decode cX5_out 17 = .ok (.invokevirtual 184, 3) := by decide +kernel
theorem dX5_out_20 : decode cX5_out 20 = .ok (.aload_n 0, 1) := by decide +kernel
theorem dX5_out_21 : decode cX5_out 21 = .ok (.iload_n 1, 1) := by decide +kernel
theorem dX5_out_22 : decode cX5_out 22 = .ok (.invokevirtual 213, 3) := by decide +kernel
theorem dX5_out_25 : decode cX5_out 25 = .ok (.aload_n 0, 1) := by decide +kernel
theorem dX5_out_26 : decode cX5_out 26 = .ok (.aload_n 0, 1) := by decide +kernel
theorem dX5_out_27 : decode cX5_out 27 = .ok (.getfield 150, 3) := by decide +kernel
theorem dX5_out_30 : decode cX5_out 30 = .ok (.invokevirtual 228, 3) := by decide +kernel
theorem dX5_out_33 : decode cX5_out 33 = .ok (.iconst 0, 1) := by decide +kernel
theorem dX5_out_34 : decode cX5_out 34 = .ok (.istore_n 3, 1) := by decide +kernel
theorem dX5_out_35 : decode cX5_out 35 = .ok (.iload_n 3, 1) := by decide +kernel
theorem dX5_out_36 : decode cX5_out 36 = .ok (.aload_n 0, 1) := by decide +kernel
theorem dX5_out_37 : decode cX5_out 37 = .ok (.getfield 7, 3) := by decide +kernel
theorem dX5_out_40 : decode cX5_out 40 = .ok (.bipush 16, 2) := by decide +kernel
theorem dX5_out_42 : decode cX5_out 42 = .ok (.iaload, 1) := by decide +kernel
theorem dX5_out_43 : decode cX5_out 43 = .ok (.if_icmp .ge 32, 3) := by decide +kernel
theorem dX5_out_46 : decode cX5_out 46 = .ok (.aload_n 0, 1) := by decide +kernel
theorem dX5_out_47 : decode cX5_out 47 = .ok (.invokevirtual 184, 3) := by decide +kernel
theorem dX5_out_50 : decode cX5_out 50 = .ok (.aload_n 0, 1) := by decide +kernel
theorem dX5_out_51 : decode cX5_out 51 = .ok (.iload_n 3, 1) := by decide +kernel
theorem dX5_out_52 : decode cX5_out 52 = .ok (.putfield 143, 3) := by decide +kernel
theorem dX5_out_55 : decode cX5_out 55 = .ok (.aload_n 0, 1) := by decide +kernel
theorem dX5_out_56 : decode cX5_out 56 = .ok (.iload_n 1, 1) := by decide +kernel
theorem dX5_out_57 : decode cX5_out 57 = .ok (.invokevirtual 213, 3) := by decide +kernel
theorem dX5_out_60 : decode cX5_out 60 = .ok (.aload_n 0, 1) := by decide +kernel
theorem dX5_out_61 : decode cX5_out 61 = .ok (.iload_n 3, 1) := by decide +kernel
theorem dX5_out_62 : decode cX5_out 62 = .ok (.aload_n 0, 1) := by decide +kernel
theorem dX5_out_63 : decode cX5_out 63 = .ok (.getfield 150, 3) := by decide +kernel
theorem dX5_out_66 : decode cX5_out 66 = .ok (.invokevirtual 231, 3) := by decide +kernel
theorem dX5_out_69 : decode cX5_out 69 = .ok (.iinc 3 1, 3) := by decide +kernel
theorem dX5_out_72 : decode cX5_out 72 = .ok (.goto (-37), 3) := by decide +kernel
theorem dX5_out_75 : decode cX5_out 75 = .ok (.aload_n 0, 1) := by decide +kernel
theorem dX5_out_76 : decode cX5_out 76 = .ok (.iload_n 2, 1) := by decide +kernel
theorem dX5_out_77 : decode cX5_out 77 = .ok (.invokevirtual 235, 3) := by decide +kernel
theorem dX5_out_80 : decode cX5_out 80 = .ok (.ireturn, 1) := by decide +kernel
theorem dX5_common_0 : decode cX5_common 0 = .ok (.lload_n 0, 1) := by decide +kernel
theorem dX5_common_1 : decode cX5_common 1 = .ok (.lstore 4, 2) := by decide +kernel
theorem dX5_common_3 : decode cX5_common 3 = .ok (.lload_n 2, 1) := by decide +kernel
theorem dX5_common_4 : decode cX5_common 4 = .ok (.lstore 6, 2) := by decide +kernel
theorem dX5_common_6 : decode cX5_common 6 = .ok (.lload 6, 2) := by decide +kernel
theorem dX5_common_8 : decode cX5_common 8 = .ok (.lconst 0, 1) := by decide +kernel
theorem dX5_common_9 : decode cX5_common 9 = .ok (.lcmp, 1) := by decide +kernel
theorem dX5_common_10 : decode cX5_common 10 = .ok (.ifCond .eq 21, 3) := by decide +kernel
theorem dX5_common_13 : decode cX5_common 13 = .ok (.lload 4, 2) := by decide +kernel
theorem dX5_common_15 : decode cX5_common 15 = .ok (.lload 6, 2) := by decide +kernel
theorem dX5_common_17 : decode cX5_common 17 = .ok (.lrem, 1) := by decide +kernel
theorem dX5_common_18 : decode cX5_common 18 = .ok (.lstore 8, 2) := by decide +kernel
theorem dX5_common_20 : decode cX5_common 20 = .ok (.lload 6, 2) := by decide +kernel
theorem dX5_common_22 : decode cX5_common 22 = .ok (.lstore 4, 2) := by decide +kernel
theorem dX5_common_24 : decode cX5_common 24 = .ok (.lload 8, 2) := by decide +kernel
theorem dX5_common_26 : decode cX5_common 26 = .ok (.lstore 6, 2) := by decide +kernel
theorem dX5_common_28 : decode cX5_common 28 = .ok (.goto (-22), 3) := by decide +kernel
theorem dX5_common_31 : decode cX5_common 31 = .ok (.lload 4, 2) := by decide +kernel
theorem dX5_common_33 : decode cX5_common 33 = .ok (.lreturn, 1) := by decide +kernel
theorem dX5_lowest_0 : decode cX5_lowest 0 = .ok (.lload_n 2, 1) := by decide +kernel
theorem dX5_lowest_1 : decode cX5_lowest 1 = .ok (.lload_n 0, 1) := by decide +kernel
theorem dX5_lowest_2 : decode cX5_lowest 2 = .ok (.invokestatic 245, 3) := by decide +kernel
theorem dX5_lowest_5 : decode cX5_lowest 5 = .ok (.lstore 5, 2) := by decide +kernel
theorem dX5_lowest_7 : decode cX5_lowest 7 = .ok (.iload 4, 2) := by decide +kernel
theorem dX5_lowest_9 : decode cX5_lowest 9 = .ok (.ifCond .ne 10, 3) := by decide +kernel
theorem dX5_lowest_12 : decode cX5_lowest 12 = .ok (.lload_n 0, 1) := by decide +kernel
theorem dX5_lowest_13 : decode cX5_lowest 13 = .ok (.lload 5, 2) := by decide +kernel
theorem dX5_lowest_15 : decode cX5_lowest 15 = .ok (.ldiv, 1) := by decide +kernel
theorem dX5_lowest_16 : decode cX5_lowest 16 = .ok (.goto 7, 3) := by decide +kernel
theorem dX5_lowest_19 : decode cX5_lowest 19 = .ok (.lload_n 2, 1) := by decide +kernel
theorem dX5_lowest_20 : decode cX5_lowest 20 = .ok (.lload 5, 2) := by decide +kernel
theorem dX5_lowest_22 : decode cX5_lowest 22 = .ok (.ldiv, 1) := by decide +kernel
theorem dX5_lowest_23 : decode cX5_lowest 23 = .ok (.lreturn, 1) := by decide +kernel
theorem dX5_findOdds_0 : decode cX5_findOdds 0 = .ok (.aload_n 0, 1) := by decide +kernel
theorem dX5_findOdds_1 : decode cX5_findOdds 1 = .ok (.lconst 0, 1) := by decide +kernel
theorem dX5_findOdds_2 : decode cX5_findOdds 2 = .ok (.putfield 249, 3) := by decide +kernel
theorem dX5_findOdds_5 : decode cX5_findOdds 5 = .ok (.aload_n 0, 1) := by decide +kernel
theorem dX5_findOdds_6 : decode cX5_findOdds 6 = .ok (.lconst 0, 1) := by decide +kernel
theorem dX5_findOdds_7 : decode cX5_findOdds 7 = .ok (.putfield 253, 3) := by decide +kernel
theorem dX5_findOdds_10 : decode cX5_findOdds 10 = .ok (.aload_n 0, 1) := by decide +kernel
theorem dX5_findOdds_11 : decode cX5_findOdds 11 = .ok (.lconst 1, 1) := by decide +kernel
theorem dX5_findOdds_12 : decode cX5_findOdds 12 = .ok (.putfield 256, 3) := by decide +kernel
theorem dX5_findOdds_15 : decode cX5_findOdds 15 = .ok (.iconst 0, 1) := by decide +kernel
theorem dX5_findOdds_16 : decode cX5_findOdds 16 = .ok (.istore 4, 2) := by decide +kernel
theorem dX5_findOdds_18 : decode cX5_findOdds 18 = .ok (.iload 4, 2) := by decide +kernel
theorem dX5_findOdds_20 : decode cX5_findOdds 20 = .ok (.iload_n 2, 1) := by decide +kernel
theorem dX5_findOdds_21 : decode cX5_findOdds 21 = .ok (.if_icmp .ge 21, 3) := by decide +kernel
theorem dX5_findOdds_24 : decode cX5_findOdds 24 = .ok (.aload_n 0, 1) := by decide +kernel
theorem dX5_findOdds_25 : decode cX5_findOdds 25 = .ok (.dup, 1) := by decide +kernel
theorem dX5_findOdds_26 : decode cX5_findOdds 26 = .ok (.getfield 256, 3) := by decide +kernel
theorem dX5_findOdds_29 : decode cX5_findOdds 29 = .ok (.ldc2_w 259, 3) := by decide +kernel
theorem dX5_findOdds_32 : decode cX5_findOdds 32 = .ok (.lmul, 1) := by decide +kernel
theorem dX5_findOdds_33 : decode cX5_findOdds 33 = .ok (.putfield 256, 3) := by decide +kernel
theorem dX5_findOdds_36 : decode cX5_findOdds 36 = .ok (.iinc 4 1, 3) := by decide +kernel
theorem dX5_findOdds_39 : decode cX5_findOdds 39 = .ok (.goto (-21), 3) := by decide +kernel
theorem dX5_findOdds_42 : decode cX5_findOdds 42 = .ok (.iconst 0, 1) := by decide +kernel
theorem dX5_findOdds_43 : decode cX5_findOdds 43 = .ok (.istore 4, 2) := by decide +kernel
theorem dX5_findOdds_45 : decode cX5_findOdds 45 = .ok (.iload 4, 2) := by decide +kernel
theorem dX5_findOdds_47 : decode cX5_findOdds 47 = .ok (.iconst 1, 1) := by decide +kernel
theorem dX5_findOdds_48 : decode cX5_findOdds 48 = .ok (.iload_n 2, 1) := by decide +kernel
theorem dX5_findOdds_49 : decode cX5_findOdds 49 = .ok (.ishl, 1) := by decide +kernel
theorem dX5_findOdds_50 : decode cX5_findOdds 50 = .ok (.if_icmp .ge 117, 3) := by decide +kernel
theorem dX5_findOdds_53 : decode cX5_findOdds 53 = .ok (.lconst 1, 1) := by decide +kernel
theorem dX5_findOdds_54 : decode cX5_findOdds 54 = .ok (.lstore 5, 2) := by decide +kernel
theorem dX5_findOdds_56 : decode cX5_findOdds 56 = .ok (.aload_n 0, 1) := by decide +kernel
theorem dX5_findOdds_57 : decode cX5_findOdds 57 = .ok (.invokevirtual 184, 3) := by decide +kernel
theorem dX5_findOdds_60 : decode cX5_findOdds 60 = .ok (.iconst 0, 1) := by decide +kernel
theorem dX5_findOdds_61 : decode cX5_findOdds 61 = .ok (.istore 7, 2) := by decide +kernel
theorem dX5_findOdds_63 : decode cX5_findOdds 63 = .ok (.iload 7, 2) := by decide +kernel
theorem dX5_findOdds_65 : decode cX5_findOdds 65 = .ok (.iload_n 2, 1) := by decide +kernel
theorem dX5_findOdds_66 : decode cX5_findOdds 66 = .ok (.if_icmp .ge 55, 3) := by decide +kernel
theorem dX5_findOdds_69 : decode cX5_findOdds 69 = .ok (.aload_n 0, 1) := by decide +kernel
theorem dX5_findOdds_70 : decode cX5_findOdds 70 = .ok (.iload 4, 2) := by decide +kernel
theorem dX5_findOdds_72 : decode cX5_findOdds 72 = .ok (.iload 7, 2) := by decide +kernel
theorem dX5_findOdds_74 : decode cX5_findOdds 74 = .ok (.ishr, 1) := by decide +kernel
theorem dX5_findOdds_75 : decode cX5_findOdds 75 = .ok (.iconst 1, 1) := by decide +kernel
theorem dX5_findOdds_76 : decode cX5_findOdds 76 = .ok (.iand, 1) := by decide +kernel
theorem dX5_findOdds_77 : decode cX5_findOdds 77 = .ok (.iconst 1, 1) := by decide +kernel
theorem dX5_findOdds_78 : decode cX5_findOdds 78 = .ok (.if_icmp .ne 7, 3) := by decide +kernel
theorem dX5_findOdds_81 : decode cX5_findOdds 81 = .ok (.iconst 1, 1) := by decide +kernel
theorem dX5_findOdds_82 : decode cX5_findOdds 82 = .ok (.goto 4, 3) := by decide +kernel
theorem dX5_findOdds_85 : decode cX5_findOdds 85 = .ok (.iconst 0, 1) := by decide +kernel
theorem dX5_findOdds_86 : decode cX5_findOdds 86 = .ok (.putfield 146, 3) := by decide +kernel
theorem dX5_findOdds_89 : decode cX5_findOdds 89 = .ok (.lload 5, 2) := by decide +kernel
theorem dX5_findOdds_91 : decode cX5_findOdds 91 = .ok (.aload_n 0, 1) := by decide +kernel
theorem dX5_findOdds_92 : decode cX5_findOdds 92 = .ok (.getfield 146, 3) := by decide +kernel
theorem dX5_findOdds_95 : decode cX5_findOdds 95 = .ok (.ifCond .eq 8, 3) := by decide +kernel
theorem dX5_findOdds_98 : decode cX5_findOdds 98 = .ok (.iload_n 1, 1) := by decide +kernel
theorem dX5_findOdds_99 : decode cX5_findOdds 99 = .ok (.i2l, 1) := by decide +kernel
theorem dX5_findOdds_100 : decode cX5_findOdds 100 = .ok (.goto 8, 3) := by decide +kernel
theorem dX5_findOdds_103 : decode cX5_findOdds 103 = .ok (.bipush 10, 2) := by decide +kernel
theorem dX5_findOdds_105 : decode cX5_findOdds 105 = .ok (.iload_n 1, 1) := by decide +kernel
theorem dX5_findOdds_106 : decode cX5_findOdds 106 = .ok (.isub, 1) := by decide +kernel
theorem dX5_findOdds_107 : decode cX5_findOdds 107 = .ok (.i2l, 1) := by decide +kernel
theorem dX5_findOdds_108 : decode cX5_findOdds 108 = .ok (.lmul, 1) := by decide +kernel
theorem dX5_findOdds_109 : decode cX5_findOdds 109 = .ok (.lstore 5, 2) := by decide +kernel
theorem dX5_findOdds_111 : decode cX5_findOdds 111 = .ok (.aload_n 0, 1) := by decide +kernel
theorem dX5_findOdds_112 : decode cX5_findOdds 112 = .ok (.invokevirtual 181, 3) := by decide +kernel
theorem dX5_findOdds_115 : decode cX5_findOdds 115 = .ok (.iinc 7 1, 3) := by decide +kernel
theorem dX5_findOdds_118 : decode cX5_findOdds 118 = .ok (.goto (-55), 3) := by decide +kernel
theorem dX5_findOdds_121 : decode cX5_findOdds 121 = .ok (.aload_n 0, 1) := by decide +kernel
theorem dX5_findOdds_122 : decode cX5_findOdds 122 = .ok (.dup, 1) := by decide +kernel
theorem dX5_findOdds_123 : decode cX5_findOdds 123 = .ok (.getfield 249, 3) := by decide +kernel
theorem dX5_findOdds_126 : decode cX5_findOdds 126 = .ok (.aload_n 0, 1) := by decide +kernel
theorem dX5_findOdds_127 : decode cX5_findOdds 127 = .ok (.getfield 150, 3) := by decide +kernel
theorem dX5_findOdds_130 : decode cX5_findOdds 130 = .ok (.iload_n 3, 1) := by decide +kernel
theorem dX5_findOdds_131 : decode cX5_findOdds 131 = .ok (.if_icmp .gt 8, 3) := by decide +kernel
theorem dX5_findOdds_134 : decode cX5_findOdds 134 = .ok (.lload 5, 2) := by decide +kernel
theorem dX5_findOdds_136 : decode cX5_findOdds 136 = .ok (.goto 4, 3) := by decide +kernel
theorem dX5_findOdds_139 : decode cX5_findOdds 139 = .ok (.lconst 0, 1) := by decide +kernel
theorem dX5_findOdds_140 : decode cX5_findOdds 140 = .ok (.ladd, 1) := by decide +kernel
theorem dX5_findOdds_141 : decode cX5_findOdds 141 = .ok (.putfield 249, 3) := by decide +kernel
theorem dX5_findOdds_144 : decode cX5_findOdds 144 = .ok (.aload_n 0, 1) := by decide +kernel
theorem dX5_findOdds_145 : decode cX5_findOdds 145 = .ok (.dup, 1) := by decide +kernel
theorem dX5_findOdds_146 : decode cX5_findOdds 146 = .ok (.getfield 253, 3) := by decide +kernel
theorem dX5_findOdds_149 : decode cX5_findOdds 149 = .ok (.lload 5, 2) := by decide +kernel
theorem dX5_findOdds_151 : decode cX5_findOdds 151 = .ok (.aload_n 0, 1) := by decide +kernel
theorem dX5_findOdds_152 : decode cX5_findOdds 152 = .ok (.getfield 156, 3) := by decide +kernel
theorem dX5_findOdds_155 : decode cX5_findOdds 155 = .ok (.i2l, 1) := by decide +kernel
theorem dX5_findOdds_156 : decode cX5_findOdds 156 = .ok (.lmul, 1) := by decide +kernel
theorem dX5_findOdds_157 : decode cX5_findOdds 157 = .ok (.ladd, 1) := by decide +kernel
theorem dX5_findOdds_158 : decode cX5_findOdds 158 = .ok (.putfield 253, 3) := by decide +kernel
theorem dX5_findOdds_161 : decode cX5_findOdds 161 = .ok (.iinc 4 1, 3) := by decide +kernel
theorem dX5_findOdds_164 : decode cX5_findOdds 164 = .ok (.goto (-119), 3) := by decide +kernel
theorem dX5_findOdds_167 : decode cX5_findOdds 167 = .ok (.return_, 1) := by decide +kernel
theorem dX5_luck_0 : decode cX5_luck 0 = .ok (.iload_n 1, 1) := by decide +kernel
theorem dX5_luck_1 : decode cX5_luck 1 = .ok (.i2l, 1) := by decide +kernel
theorem dX5_luck_2 : decode cX5_luck 2 = .ok (.lconst 0, 1) := by decide +kernel
theorem dX5_luck_3 : decode cX5_luck 3 = .ok (.ldc2_w 259, 3) := by decide +kernel
theorem dX5_luck_6 : decode cX5_luck 6 = .ok (.invokestatic 61, 3) := by decide +kernel
theorem dX5_luck_9 : decode cX5_luck 9 = .ok (.ifCond .eq 35, 3) := by decide +kernel
theorem dX5_luck_12 : decode cX5_luck 12 = .ok (.iload_n 2, 1) := by decide +kernel
theorem dX5_luck_13 : decode cX5_luck 13 = .ok (.i2l, 1) := by decide +kernel
theorem dX5_luck_14 : decode cX5_luck 14 = .ok (.lconst 0, 1) := by decide +kernel
theorem dX5_luck_15 : decode cX5_luck 15 = .ok (.ldc2_w 261, 3) := by decide +kernel
theorem dX5_luck_18 : decode cX5_luck 18 = .ok (.invokestatic 61, 3) := by decide +kernel
theorem dX5_luck_21 : decode cX5_luck 21 = .ok (.ifCond .eq 23, 3) := by decide +kernel
theorem dX5_luck_24 : decode cX5_luck 24 = .ok (.iload_n 3, 1) := by decide +kernel
theorem dX5_luck_25 : decode cX5_luck 25 = .ok (.i2l, 1) := by decide +kernel
theorem dX5_luck_26 : decode cX5_luck 26 = .ok (.lconst 0, 1) := by decide +kernel
theorem dX5_luck_27 : decode cX5_luck 27 = .ok (.ldc2_w 219, 3) := by decide +kernel
theorem dX5_luck_30 : decode cX5_luck 30 = .ok (.invokestatic 61, 3) := by decide +kernel
theorem dX5_luck_33 : decode cX5_luck 33 = .ok (.ifCond .eq 11, 3) := by decide +kernel
theorem dX5_luck_36 : decode cX5_luck 36 = .ok (.iload 4, 2) := by decide +kernel
theorem dX5_luck_38 : decode cX5_luck 38 = .ok (.invokestatic 238, 3) := by decide +kernel
theorem dX5_luck_41 : decode cX5_luck 41 = .ok (.ifCond .ne 7, 3) := by decide +kernel
theorem dX5_luck_44 : decode cX5_luck 44 = .ok (.ldc2_w 263, 3) := by decide +kernel
theorem dX5_luck_47 : decode cX5_luck 47 = .ok (.lreturn, 1) := by decide +kernel
theorem dX5_luck_48 : decode cX5_luck 48 = .ok (.aload_n 0, 1) := by decide +kernel
theorem dX5_luck_49 : decode cX5_luck 49 = .ok (.iload_n 1, 1) := by decide +kernel
theorem dX5_luck_50 : decode cX5_luck 50 = .ok (.iload_n 2, 1) := by decide +kernel
theorem dX5_luck_51 : decode cX5_luck 51 = .ok (.iload_n 3, 1) := by decide +kernel
theorem dX5_luck_52 : decode cX5_luck 52 = .ok (.invokevirtual 265, 3) := by decide +kernel
theorem dX5_luck_55 : decode cX5_luck 55 = .ok (.aload_n 0, 1) := by decide +kernel
theorem dX5_luck_56 : decode cX5_luck 56 = .ok (.getfield 249, 3) := by decide +kernel
theorem dX5_luck_59 : decode cX5_luck 59 = .ok (.aload_n 0, 1) := by decide +kernel
theorem dX5_luck_60 : decode cX5_luck 60 = .ok (.getfield 256, 3) := by decide +kernel
theorem dX5_luck_63 : decode cX5_luck 63 = .ok (.iload 4, 2) := by decide +kernel
theorem dX5_luck_65 : decode cX5_luck 65 = .ok (.invokestatic 269, 3) := by decide +kernel
theorem dX5_luck_68 : decode cX5_luck 68 = .ok (.lreturn, 1) := by decide +kernel
theorem dX5_mean_0 : decode cX5_mean 0 = .ok (.iload_n 1, 1) := by decide +kernel
theorem dX5_mean_1 : decode cX5_mean 1 = .ok (.i2l, 1) := by decide +kernel
theorem dX5_mean_2 : decode cX5_mean 2 = .ok (.lconst 0, 1) := by decide +kernel
theorem dX5_mean_3 : decode cX5_mean 3 = .ok (.ldc2_w 259, 3) := by decide +kernel
theorem dX5_mean_6 : decode cX5_mean 6 = .ok (.invokestatic 61, 3) := by decide +kernel
theorem dX5_mean_9 : decode cX5_mean 9 = .ok (.ifCond .eq 22, 3) := by decide +kernel
theorem dX5_mean_12 : decode cX5_mean 12 = .ok (.iload_n 2, 1) := by decide +kernel
theorem dX5_mean_13 : decode cX5_mean 13 = .ok (.i2l, 1) := by decide +kernel
theorem dX5_mean_14 : decode cX5_mean 14 = .ok (.lconst 0, 1) := by decide +kernel
theorem dX5_mean_15 : decode cX5_mean 15 = .ok (.ldc2_w 261, 3) := by decide +kernel
theorem dX5_mean_18 : decode cX5_mean 18 = .ok (.invokestatic 61, 3) := by decide +kernel
theorem dX5_mean_21 : decode cX5_mean 21 = .ok (.ifCond .eq 10, 3) := by decide +kernel
theorem dX5_mean_24 : decode cX5_mean 24 = .ok (.iload_n 3, 1) := by decide +kernel
theorem dX5_mean_25 : decode cX5_mean 25 = .ok (.invokestatic 238, 3) := by decide +kernel
theorem dX5_mean_28 : decode cX5_mean 28 = .ok (.ifCond .ne 7, 3) := by decide +kernel
theorem dX5_mean_31 : decode cX5_mean 31 = .ok (.ldc2_w 263, 3) := by decide +kernel
theorem dX5_mean_34 : decode cX5_mean 34 = .ok (.lreturn, 1) := by decide +kernel
theorem dX5_mean_35 : decode cX5_mean 35 = .ok (.aload_n 0, 1) := by decide +kernel
theorem dX5_mean_36 : decode cX5_mean 36 = .ok (.iload_n 1, 1) := by decide +kernel
theorem dX5_mean_37 : decode cX5_mean 37 = .ok (.iload_n 2, 1) := by decide +kernel
theorem dX5_mean_38 : decode cX5_mean 38 = .ok (.iconst 0, 1) := by decide +kernel
theorem dX5_mean_39 : decode cX5_mean 39 = .ok (.invokevirtual 265, 3) := by decide +kernel
theorem dX5_mean_42 : decode cX5_mean 42 = .ok (.aload_n 0, 1) := by decide +kernel
theorem dX5_mean_43 : decode cX5_mean 43 = .ok (.getfield 253, 3) := by decide +kernel
theorem dX5_mean_46 : decode cX5_mean 46 = .ok (.aload_n 0, 1) := by decide +kernel
theorem dX5_mean_47 : decode cX5_mean 47 = .ok (.getfield 256, 3) := by decide +kernel
theorem dX5_mean_50 : decode cX5_mean 50 = .ok (.iload_n 3, 1) := by decide +kernel
theorem dX5_mean_51 : decode cX5_mean 51 = .ok (.invokestatic 269, 3) := by decide +kernel
theorem dX5_mean_54 : decode cX5_mean 54 = .ok (.lreturn, 1) := by decide +kernel
theorem dX5_see_0 : decode cX5_see 0 = .ok (.iload_n 1, 1) := by decide +kernel
theorem dX5_see_1 : decode cX5_see 1 = .ok (.i2l, 1) := by decide +kernel
theorem dX5_see_2 : decode cX5_see 2 = .ok (.lconst 0, 1) := by decide +kernel
theorem dX5_see_3 : decode cX5_see 3 = .ok (.ldc2_w 273, 3) := by decide +kernel
theorem dX5_see_6 : decode cX5_see 6 = .ok (.invokestatic 61, 3) := by decide +kernel
theorem dX5_see_9 : decode cX5_see 9 = .ok (.ifCond .eq 22, 3) := by decide +kernel
theorem dX5_see_12 : decode cX5_see 12 = .ok (.iload_n 2, 1) := by decide +kernel
theorem dX5_see_13 : decode cX5_see 13 = .ok (.invokestatic 193, 3) := by decide +kernel
theorem dX5_see_16 : decode cX5_see 16 = .ok (.ifCond .eq 15, 3) := by decide +kernel
theorem dX5_see_19 : decode cX5_see 19 = .ok (.iload_n 3, 1) := by decide +kernel
theorem dX5_see_20 : decode cX5_see 20 = .ok (.i2l, 1) := by decide +kernel
theorem dX5_see_21 : decode cX5_see 21 = .ok (.lconst 0, 1) := by decide +kernel
theorem dX5_see_22 : decode cX5_see 22 = .ok (.ldc2_w 219, 3) := by decide +kernel
theorem dX5_see_25 : decode cX5_see 25 = .ok (.invokestatic 61, 3) := by decide +kernel
theorem dX5_see_28 : decode cX5_see 28 = .ok (.ifCond .ne 5, 3) := by decide +kernel
theorem dX5_see_31 : decode cX5_see 31 = .ok (.iconst (-1), 1) := by decide +kernel
theorem dX5_see_32 : decode cX5_see 32 = .ok (.ireturn, 1) := by decide +kernel
theorem dX5_see_33 : decode cX5_see 33 = .ok (.aload_n 0, 1) := by decide +kernel
theorem dX5_see_34 : decode cX5_see 34 = .ok (.getfield 7, 3) := by decide +kernel
theorem dX5_see_37 : decode cX5_see 37 = .ok (.bipush 32, 2) := by decide +kernel
theorem dX5_see_39 : decode cX5_see 39 = .ok (.iaload, 1) := by decide +kernel
theorem dX5_see_40 : decode cX5_see 40 = .ok (.bipush 6, 2) := by decide +kernel
theorem dX5_see_42 : decode cX5_see 42 = .ok (.if_icmp .ne 6, 3) := by decide +kernel
theorem dX5_see_45 : decode cX5_see 45 = .ok (.bipush (-3), 2) := by decide +kernel
theorem dX5_see_47 : decode cX5_see 47 = .ok (.ireturn, 1) := by decide +kernel
theorem dX5_see_48 : decode cX5_see 48 = .ok (.bipush 33, 2) := by decide +kernel
theorem dX5_see_50 : decode cX5_see 50 = .ok (.iconst 3, 1) := by decide +kernel
theorem dX5_see_51 : decode cX5_see 51 = .ok (.aload_n 0, 1) := by decide +kernel
theorem dX5_see_52 : decode cX5_see 52 = .ok (.getfield 7, 3) := by decide +kernel
theorem dX5_see_55 : decode cX5_see 55 = .ok (.bipush 32, 2) := by decide +kernel
theorem dX5_see_57 : decode cX5_see 57 = .ok (.iaload, 1) := by decide +kernel
theorem dX5_see_58 : decode cX5_see 58 = .ok (.imul, 1) := by decide +kernel
theorem dX5_see_59 : decode cX5_see 59 = .ok (.iadd, 1) := by decide +kernel
theorem dX5_see_60 : decode cX5_see 60 = .ok (.istore 4, 2) := by decide +kernel
theorem dX5_see_62 : decode cX5_see 62 = .ok (.aload_n 0, 1) := by decide +kernel
theorem dX5_see_63 : decode cX5_see 63 = .ok (.getfield 7, 3) := by decide +kernel
theorem dX5_see_66 : decode cX5_see 66 = .ok (.iload 4, 2) := by decide +kernel
theorem dX5_see_68 : decode cX5_see 68 = .ok (.iload_n 1, 1) := by decide +kernel
theorem dX5_see_69 : decode cX5_see 69 = .ok (.iastore, 1) := by decide +kernel
theorem dX5_see_70 : decode cX5_see 70 = .ok (.aload_n 0, 1) := by decide +kernel
theorem dX5_see_71 : decode cX5_see 71 = .ok (.getfield 7, 3) := by decide +kernel
theorem dX5_see_74 : decode cX5_see 74 = .ok (.iload 4, 2) := by decide +kernel
theorem dX5_see_76 : decode cX5_see 76 = .ok (.iconst 1, 1) := by decide +kernel
theorem dX5_see_77 : decode cX5_see 77 = .ok (.iadd, 1) := by decide +kernel
theorem dX5_see_78 : decode cX5_see 78 = .ok (.iload_n 2, 1) := by decide +kernel
theorem dX5_see_79 : decode cX5_see 79 = .ok (.iastore, 1) := by decide +kernel
theorem dX5_see_80 : decode cX5_see 80 = .ok (.aload_n 0, 1) := by decide +kernel
theorem dX5_see_81 : decode cX5_see 81 = .ok (.getfield 7, 3) := by decide +kernel
theorem dX5_see_84 : decode cX5_see 84 = .ok (.iload 4, 2) := by decide +kernel
theorem dX5_see_86 : decode cX5_see 86 = .ok (.iconst 2, 1) := by decide +kernel
theorem dX5_see_87 : decode cX5_see 87 = .ok (.iadd, 1) := by decide +kernel
theorem dX5_see_88 : decode cX5_see 88 = .ok (.iload_n 3, 1) := by decide +kernel
theorem dX5_see_89 : decode cX5_see 89 = .ok (.iastore, 1) := by decide +kernel
theorem dX5_see_90 : decode cX5_see 90 = .ok (.aload_n 0, 1) := by decide +kernel
theorem dX5_see_91 : decode cX5_see 91 = .ok (.getfield 7, 3) := by decide +kernel
theorem dX5_see_94 : decode cX5_see 94 = .ok (.bipush 32, 2) := by decide +kernel
theorem dX5_see_96 : decode cX5_see 96 = .ok (.dup2, 1) := by decide +kernel
theorem dX5_see_97 : decode cX5_see 97 = .ok (.iaload, 1) := by decide +kernel
theorem dX5_see_98 : decode cX5_see 98 = .ok (.iconst 1, 1) := by decide +kernel
theorem dX5_see_99 : decode cX5_see 99 = .ok (.iadd, 1) := by decide +kernel
theorem dX5_see_100 : decode cX5_see 100 = .ok (.iastore, 1) := by decide +kernel
theorem dX5_see_101 : decode cX5_see 101 = .ok (.aload_n 0, 1) := by decide +kernel
theorem dX5_see_102 : decode cX5_see 102 = .ok (.getfield 7, 3) := by decide +kernel
theorem dX5_see_105 : decode cX5_see 105 = .ok (.bipush 32, 2) := by decide +kernel
theorem dX5_see_107 : decode cX5_see 107 = .ok (.iaload, 1) := by decide +kernel
theorem dX5_see_108 : decode cX5_see 108 = .ok (.ireturn, 1) := by decide +kernel
theorem dX5_forget_0 : decode cX5_forget 0 = .ok (.iload_n 1, 1) := by decide +kernel
theorem dX5_forget_1 : decode cX5_forget 1 = .ok (.i2l, 1) := by decide +kernel
theorem dX5_forget_2 : decode cX5_forget 2 = .ok (.lconst 0, 1) := by decide +kernel
theorem dX5_forget_3 : decode cX5_forget 3 = .ok (.aload_n 0, 1) := by decide +kernel
theorem dX5_forget_4 : decode cX5_forget 4 = .ok (.getfield 7, 3) := by decide +kernel
theorem dX5_forget_7 : decode cX5_forget 7 = .ok (.bipush 32, 2) := by decide +kernel
theorem dX5_forget_9 : decode cX5_forget 9 = .ok (.iaload, 1) := by decide +kernel
theorem dX5_forget_10 : decode cX5_forget 10 = .ok (.i2l, 1) := by decide +kernel
theorem dX5_forget_11 : decode cX5_forget 11 = .ok (.invokestatic 61, 3) := by decide +kernel
theorem dX5_forget_14 : decode cX5_forget 14 = .ok (.ifCond .eq 13, 3) := by decide +kernel
theorem dX5_forget_17 : decode cX5_forget 17 = .ok (.aload_n 0, 1) := by decide +kernel
theorem dX5_forget_18 : decode cX5_forget 18 = .ok (.bipush 32, 2) := by decide +kernel
theorem dX5_forget_20 : decode cX5_forget 20 = .ok (.iload_n 1, 1) := by decide +kernel
theorem dX5_forget_21 : decode cX5_forget 21 = .ok (.invokevirtual 198, 3) := by decide +kernel
theorem dX5_forget_24 : decode cX5_forget 24 = .ok (.goto 4, 3) := by decide +kernel
theorem dX5_forget_27 : decode cX5_forget 27 = .ok (.iconst (-1), 1) := by decide +kernel
theorem dX5_forget_28 : decode cX5_forget 28 = .ok (.ireturn, 1) := by decide +kernel
theorem dX5_isSoWith_0 : decode cX5_isSoWith 0 = .ok (.aload_n 0, 1) := by decide +kernel
theorem dX5_isSoWith_1 : decode cX5_isSoWith 1 = .ok (.invokevirtual 184, 3) := by decide +kernel
theorem dX5_isSoWith_4 : decode cX5_isSoWith 4 = .ok (.aload_n 0, 1) := by decide +kernel
theorem dX5_isSoWith_5 : decode cX5_isSoWith 5 = .ok (.getfield 13, 3) := by decide +kernel
theorem dX5_isSoWith_8 : decode cX5_isSoWith 8 = .ok (.iload_n 1, 1) := by decide +kernel
theorem dX5_isSoWith_9 : decode cX5_isSoWith 9 = .ok (.iload_n 2, 1) := by decide +kernel
theorem dX5_isSoWith_10 : decode cX5_isSoWith 10 = .ok (.iastore, 1) := by decide +kernel
theorem dX5_isSoWith_11 : decode cX5_isSoWith 11 = .ok (.iconst 0, 1) := by decide +kernel
theorem dX5_isSoWith_12 : decode cX5_isSoWith 12 = .ok (.istore_n 3, 1) := by decide +kernel
theorem dX5_isSoWith_13 : decode cX5_isSoWith 13 = .ok (.iload_n 3, 1) := by decide +kernel
theorem dX5_isSoWith_14 : decode cX5_isSoWith 14 = .ok (.bipush 20, 2) := by decide +kernel
theorem dX5_isSoWith_16 : decode cX5_isSoWith 16 = .ok (.if_icmp .gt 65, 3) := by decide +kernel
theorem dX5_isSoWith_19 : decode cX5_isSoWith 19 = .ok (.aload_n 0, 1) := by decide +kernel
theorem dX5_isSoWith_20 : decode cX5_isSoWith 20 = .ok (.invokevirtual 181, 3) := by decide +kernel
theorem dX5_isSoWith_23 : decode cX5_isSoWith 23 = .ok (.iconst 0, 1) := by decide +kernel
theorem dX5_isSoWith_24 : decode cX5_isSoWith 24 = .ok (.istore 4, 2) := by decide +kernel
theorem dX5_isSoWith_26 : decode cX5_isSoWith 26 = .ok (.iload 4, 2) := by decide +kernel
theorem dX5_isSoWith_28 : decode cX5_isSoWith 28 = .ok (.bipush 8, 2) := by decide +kernel
theorem dX5_isSoWith_30 : decode cX5_isSoWith 30 = .ok (.if_icmp .ge 45, 3) := by decide +kernel
theorem dX5_isSoWith_33 : decode cX5_isSoWith 33 = .ok (.aload_n 0, 1) := by decide +kernel
theorem dX5_isSoWith_34 : decode cX5_isSoWith 34 = .ok (.getfield 35, 3) := by decide +kernel
theorem dX5_isSoWith_37 : decode cX5_isSoWith 37 = .ok (.bipush 8, 2) := by decide +kernel
theorem dX5_isSoWith_39 : decode cX5_isSoWith 39 = .ok (.iload_n 3, 1) := by decide +kernel
theorem dX5_isSoWith_40 : decode cX5_isSoWith 40 = .ok (.imul, 1) := by decide +kernel
theorem dX5_isSoWith_41 : decode cX5_isSoWith 41 = .ok (.iload 4, 2) := by decide +kernel
theorem dX5_isSoWith_43 : decode cX5_isSoWith 43 = .ok (.iadd, 1) := by decide +kernel
theorem dX5_isSoWith_44 : decode cX5_isSoWith 44 = .ok (.iload 4, 2) := by decide +kernel
theorem dX5_isSoWith_46 : decode cX5_isSoWith 46 = .ok (.aload_n 0, 1) := by decide +kernel
theorem dX5_isSoWith_47 : decode cX5_isSoWith 47 = .ok (.getfield 13, 3) := by decide +kernel
theorem dX5_isSoWith_50 : decode cX5_isSoWith 50 = .ok (.bipush 17, 2) := by decide +kernel
theorem dX5_isSoWith_52 : decode cX5_isSoWith 52 = .ok (.iaload, 1) := by decide +kernel
theorem dX5_isSoWith_53 : decode cX5_isSoWith 53 = .ok (.if_icmp .ge 13, 3) := by decide +kernel
theorem dX5_isSoWith_56 : decode cX5_isSoWith 56 = .ok (.aload_n 0, 1) := by decide +kernel
theorem dX5_isSoWith_57 : decode cX5_isSoWith 57 = .ok (.getfield 29, 3) := by decide +kernel
theorem dX5_isSoWith_60 : decode cX5_isSoWith 60 = .ok (.iload 4, 2) := by decide +kernel
theorem dX5_isSoWith_62 : decode cX5_isSoWith 62 = .ok (.iaload, 1) := by decide +kernel
theorem dX5_isSoWith_63 : decode cX5_isSoWith 63 = .ok (.goto 5, 3) := by decide +kernel
theorem dX5_isSoWith_66 : decode cX5_isSoWith 66 = .ok (.bipush (-4), 2) := by decide +kernel
theorem dX5_isSoWith_68 : decode cX5_isSoWith 68 = .ok (.iastore, 1) := by decide +kernel
theorem dX5_isSoWith_69 : decode cX5_isSoWith 69 = .ok (.iinc 4 1, 3) := by decide +kernel
theorem dX5_isSoWith_72 : decode cX5_isSoWith 72 = .ok (.goto (-46), 3) := by decide +kernel
theorem dX5_isSoWith_75 : decode cX5_isSoWith 75 = .ok (.iinc 3 1, 3) := by decide +kernel
theorem dX5_isSoWith_78 : decode cX5_isSoWith 78 = .ok (.goto (-65), 3) := by decide +kernel
theorem dX5_isSoWith_81 : decode cX5_isSoWith 81 = .ok (.iconst 1, 1) := by decide +kernel
theorem dX5_isSoWith_82 : decode cX5_isSoWith 82 = .ok (.istore_n 3, 1) := by decide +kernel
theorem dX5_isSoWith_83 : decode cX5_isSoWith 83 = .ok (.iconst 0, 1) := by decide +kernel
theorem dX5_isSoWith_84 : decode cX5_isSoWith 84 = .ok (.istore 4, 2) := by decide +kernel
theorem dX5_isSoWith_86 : decode cX5_isSoWith 86 = .ok (.iload 4, 2) := by decide +kernel
theorem dX5_isSoWith_88 : decode cX5_isSoWith 88 = .ok (.aload_n 0, 1) := by decide +kernel
theorem dX5_isSoWith_89 : decode cX5_isSoWith 89 = .ok (.getfield 7, 3) := by decide +kernel
theorem dX5_isSoWith_92 : decode cX5_isSoWith 92 = .ok (.bipush 32, 2) := by decide +kernel
theorem dX5_isSoWith_94 : decode cX5_isSoWith 94 = .ok (.iaload, 1) := by decide +kernel
theorem dX5_isSoWith_95 : decode cX5_isSoWith 95 = .ok (.if_icmp .ge 65, 3) := by decide +kernel
theorem dX5_isSoWith_98 : decode cX5_isSoWith 98 = .ok (.bipush 33, 2) := by decide +kernel
theorem dX5_isSoWith_100 : decode cX5_isSoWith 100 = .ok (.iconst 3, 1) := by decide +kernel
theorem dX5_isSoWith_101 : decode cX5_isSoWith 101 = .ok (.iload 4, 2) := by decide +kernel
theorem dX5_isSoWith_103 : decode cX5_isSoWith 103 = .ok (.imul, 1) := by decide +kernel
theorem dX5_isSoWith_104 : decode cX5_isSoWith 104 = .ok (.iadd, 1) := by decide +kernel
theorem dX5_isSoWith_105 : decode cX5_isSoWith 105 = .ok (.istore 5, 2) := by decide +kernel
theorem dX5_isSoWith_107 : decode cX5_isSoWith 107 = .ok (.iload_n 3, 1) := by decide +kernel
theorem dX5_isSoWith_108 : decode cX5_isSoWith 108 = .ok (.ifCond .eq 44, 3) := by decide +kernel
theorem dX5_isSoWith_111 : decode cX5_isSoWith 111 = .ok (.aload_n 0, 1) := by decide +kernel
theorem dX5_isSoWith_112 : decode cX5_isSoWith 112 = .ok (.getfield 35, 3) := by decide +kernel
theorem dX5_isSoWith_115 : decode cX5_isSoWith 115 = .ok (.bipush 8, 2) := by decide +kernel
theorem dX5_isSoWith_117 : decode cX5_isSoWith 117 = .ok (.aload_n 0, 1) := by decide +kernel
theorem dX5_isSoWith_118 : decode cX5_isSoWith 118 = .ok (.getfield 7, 3) := by decide +kernel
theorem dX5_isSoWith_121 : decode cX5_isSoWith 121 = .ok (.iload 5, 2) := by decide +kernel
theorem dX5_isSoWith_123 : decode cX5_isSoWith 123 = .ok (.iaload, 1) := by decide +kernel
theorem dX5_isSoWith_124 : decode cX5_isSoWith 124 = .ok (.imul, 1) := by decide +kernel
theorem dX5_isSoWith_125 : decode cX5_isSoWith 125 = .ok (.aload_n 0, 1) := by decide +kernel
theorem dX5_isSoWith_126 : decode cX5_isSoWith 126 = .ok (.getfield 7, 3) := by decide +kernel
theorem dX5_isSoWith_129 : decode cX5_isSoWith 129 = .ok (.iload 5, 2) := by decide +kernel
theorem dX5_isSoWith_131 : decode cX5_isSoWith 131 = .ok (.iconst 1, 1) := by decide +kernel
theorem dX5_isSoWith_132 : decode cX5_isSoWith 132 = .ok (.iadd, 1) := by decide +kernel
theorem dX5_isSoWith_133 : decode cX5_isSoWith 133 = .ok (.iaload, 1) := by decide +kernel
theorem dX5_isSoWith_134 : decode cX5_isSoWith 134 = .ok (.iadd, 1) := by decide +kernel
theorem dX5_isSoWith_135 : decode cX5_isSoWith 135 = .ok (.iaload, 1) := by decide +kernel
theorem dX5_isSoWith_136 : decode cX5_isSoWith 136 = .ok (.aload_n 0, 1) := by decide +kernel
theorem dX5_isSoWith_137 : decode cX5_isSoWith 137 = .ok (.getfield 7, 3) := by decide +kernel
theorem dX5_isSoWith_140 : decode cX5_isSoWith 140 = .ok (.iload 5, 2) := by decide +kernel
theorem dX5_isSoWith_142 : decode cX5_isSoWith 142 = .ok (.iconst 2, 1) := by decide +kernel
theorem dX5_isSoWith_143 : decode cX5_isSoWith 143 = .ok (.iadd, 1) := by decide +kernel
theorem dX5_isSoWith_144 : decode cX5_isSoWith 144 = .ok (.iaload, 1) := by decide +kernel
theorem dX5_isSoWith_145 : decode cX5_isSoWith 145 = .ok (.if_icmp .ne 7, 3) := by decide +kernel
theorem dX5_isSoWith_148 : decode cX5_isSoWith 148 = .ok (.iconst 1, 1) := by decide +kernel
theorem dX5_isSoWith_149 : decode cX5_isSoWith 149 = .ok (.goto 4, 3) := by decide +kernel
theorem dX5_isSoWith_152 : decode cX5_isSoWith 152 = .ok (.iconst 0, 1) := by decide +kernel
theorem dX5_isSoWith_153 : decode cX5_isSoWith 153 = .ok (.istore_n 3, 1) := by decide +kernel
theorem dX5_isSoWith_154 : decode cX5_isSoWith 154 = .ok (.iinc 4 1, 3) := by decide +kernel
theorem dX5_isSoWith_157 : decode cX5_isSoWith 157 = .ok (.goto (-71), 3) := by decide +kernel
theorem dX5_isSoWith_160 : decode cX5_isSoWith 160 = .ok (.iload_n 3, 1) := by decide +kernel
theorem dX5_isSoWith_161 : decode cX5_isSoWith 161 = .ok (.ireturn, 1) := by decide +kernel
theorem dX5_which_0 : decode cX5_which 0 = .ok (.aload_n 0, 1) := by decide +kernel
theorem dX5_which_1 : decode cX5_which 1 = .ok (.iload_n 1, 1) := by decide +kernel
theorem dX5_which_2 : decode cX5_which 2 = .ok (.invokevirtual 187, 3) := by decide +kernel
theorem dX5_which_5 : decode cX5_which 5 = .ok (.ifCond .ne 5, 3) := by decide +kernel
theorem dX5_which_8 : decode cX5_which 8 = .ok (.iconst (-1), 1) := by decide +kernel
theorem dX5_which_9 : decode cX5_which 9 = .ok (.ireturn, 1) := by decide +kernel
theorem dX5_which_10 : decode cX5_which 10 = .ok (.iconst 0, 1) := by decide +kernel
theorem dX5_which_11 : decode cX5_which 11 = .ok (.istore_n 3, 1) := by decide +kernel
theorem dX5_which_12 : decode cX5_which 12 = .ok (.iconst 0, 1) := by decide +kernel
theorem dX5_which_13 : decode cX5_which 13 = .ok (.istore 4, 2) := by decide +kernel
theorem dX5_which_15 : decode cX5_which 15 = .ok (.iload 4, 2) := by decide +kernel
theorem dX5_which_17 : decode cX5_which 17 = .ok (.iload_n 2, 1) := by decide +kernel
theorem dX5_which_18 : decode cX5_which 18 = .ok (.invokestatic 127, 3) := by decide +kernel
theorem dX5_which_21 : decode cX5_which 21 = .ok (.if_icmp .gt 29, 3) := by decide +kernel
theorem dX5_which_24 : decode cX5_which 24 = .ok (.iload_n 3, 1) := by decide +kernel
theorem dX5_which_25 : decode cX5_which 25 = .ok (.aload_n 0, 1) := by decide +kernel
theorem dX5_which_26 : decode cX5_which 26 = .ok (.iconst 4, 1) := by decide +kernel
theorem dX5_which_27 : decode cX5_which 27 = .ok (.iload_n 1, 1) := by decide +kernel
theorem dX5_which_28 : decode cX5_which 28 = .ok (.imul, 1) := by decide +kernel
theorem dX5_which_29 : decode cX5_which 29 = .ok (.iload_n 2, 1) := by decide +kernel
theorem dX5_which_30 : decode cX5_which 30 = .ok (.iadd, 1) := by decide +kernel
theorem dX5_which_31 : decode cX5_which 31 = .ok (.iload 4, 2) := by decide +kernel
theorem dX5_which_33 : decode cX5_which 33 = .ok (.invokevirtual 275, 3) := by decide +kernel
theorem dX5_which_36 : decode cX5_which 36 = .ok (.invokestatic 174, 3) := by decide +kernel
theorem dX5_which_39 : decode cX5_which 39 = .ok (.iload 4, 2) := by decide +kernel
theorem dX5_which_41 : decode cX5_which 41 = .ok (.ishl, 1) := by decide +kernel
theorem dX5_which_42 : decode cX5_which 42 = .ok (.ior, 1) := by decide +kernel
theorem dX5_which_43 : decode cX5_which 43 = .ok (.istore_n 3, 1) := by decide +kernel
theorem dX5_which_44 : decode cX5_which 44 = .ok (.iinc 4 1, 3) := by decide +kernel
theorem dX5_which_47 : decode cX5_which 47 = .ok (.goto (-32), 3) := by decide +kernel
theorem dX5_which_50 : decode cX5_which 50 = .ok (.iload_n 3, 1) := by decide +kernel
theorem dX5_which_51 : decode cX5_which 51 = .ok (.ireturn, 1) := by decide +kernel
theorem dX5_kinds_0 : decode cX5_kinds 0 = .ok (.aload_n 0, 1) := by decide +kernel
theorem dX5_kinds_1 : decode cX5_kinds 1 = .ok (.iload_n 1, 1) := by decide +kernel
theorem dX5_kinds_2 : decode cX5_kinds 2 = .ok (.iconst 0, 1) := by decide +kernel
theorem dX5_kinds_3 : decode cX5_kinds 3 = .ok (.invokevirtual 279, 3) := by decide +kernel
theorem dX5_kinds_6 : decode cX5_kinds 6 = .ok (.ireturn, 1) := by decide +kernel
theorem dX5_phases_0 : decode cX5_phases 0 = .ok (.aload_n 0, 1) := by decide +kernel
theorem dX5_phases_1 : decode cX5_phases 1 = .ok (.iload_n 1, 1) := by decide +kernel
theorem dX5_phases_2 : decode cX5_phases 2 = .ok (.iconst 3, 1) := by decide +kernel
theorem dX5_phases_3 : decode cX5_phases 3 = .ok (.invokevirtual 279, 3) := by decide +kernel
theorem dX5_phases_6 : decode cX5_phases 6 = .ok (.ireturn, 1) := by decide +kernel
theorem dX5_ask_0 : decode cX5_ask 0 = .ok (.aload_n 0, 1) := by decide +kernel
theorem dX5_ask_1 : decode cX5_ask 1 = .ok (.iload_n 1, 1) := by decide +kernel
theorem dX5_ask_2 : decode cX5_ask 2 = .ok (.invokevirtual 187, 3) := by decide +kernel
theorem dX5_ask_5 : decode cX5_ask 5 = .ok (.ifCond .eq 10, 3) := by decide +kernel
theorem dX5_ask_8 : decode cX5_ask 8 = .ok (.iload_n 2, 1) := by decide +kernel
theorem dX5_ask_9 : decode cX5_ask 9 = .ok (.invokestatic 238, 3) := by decide +kernel
theorem dX5_ask_12 : decode cX5_ask 12 = .ok (.ifCond .ne 5, 3) := by decide +kernel
theorem dX5_ask_15 : decode cX5_ask 15 = .ok (.iconst (-1), 1) := by decide +kernel
theorem dX5_ask_16 : decode cX5_ask 16 = .ok (.ireturn, 1) := by decide +kernel
theorem dX5_ask_17 : decode cX5_ask 17 = .ok (.iconst 0, 1) := by decide +kernel
theorem dX5_ask_18 : decode cX5_ask 18 = .ok (.istore_n 3, 1) := by decide +kernel
theorem dX5_ask_19 : decode cX5_ask 19 = .ok (.iconst 0, 1) := by decide +kernel
theorem dX5_ask_20 : decode cX5_ask 20 = .ok (.istore 4, 2) := by decide +kernel
theorem dX5_ask_22 : decode cX5_ask 22 = .ok (.iload 4, 2) := by decide +kernel
theorem dX5_ask_24 : decode cX5_ask 24 = .ok (.bipush 11, 2) := by decide +kernel
theorem dX5_ask_26 : decode cX5_ask 26 = .ok (.if_icmp .gt 63, 3) := by decide +kernel
theorem dX5_ask_29 : decode cX5_ask 29 = .ok (.aload_n 0, 1) := by decide +kernel
theorem dX5_ask_30 : decode cX5_ask 30 = .ok (.iconst 4, 1) := by decide +kernel
theorem dX5_ask_31 : decode cX5_ask 31 = .ok (.iload_n 1, 1) := by decide +kernel
theorem dX5_ask_32 : decode cX5_ask 32 = .ok (.imul, 1) := by decide +kernel
theorem dX5_ask_33 : decode cX5_ask 33 = .ok (.iconst 3, 1) := by decide +kernel
theorem dX5_ask_34 : decode cX5_ask 34 = .ok (.iadd, 1) := by decide +kernel
theorem dX5_ask_35 : decode cX5_ask 35 = .ok (.iload 4, 2) := by decide +kernel
theorem dX5_ask_37 : decode cX5_ask 37 = .ok (.invokevirtual 275, 3) := by decide +kernel
theorem dX5_ask_40 : decode cX5_ask 40 = .ok (.ifCond .eq 43, 3) := by decide +kernel
theorem dX5_ask_43 : decode cX5_ask 43 = .ok (.iconst 0, 1) := by decide +kernel
theorem dX5_ask_44 : decode cX5_ask 44 = .ok (.istore 5, 2) := by decide +kernel
theorem dX5_ask_46 : decode cX5_ask 46 = .ok (.iload 5, 2) := by decide +kernel
theorem dX5_ask_48 : decode cX5_ask 48 = .ok (.sipush 168, 3) := by decide +kernel
theorem dX5_ask_51 : decode cX5_ask 51 = .ok (.if_icmp .ge 29, 3) := by decide +kernel
theorem dX5_ask_54 : decode cX5_ask 54 = .ok (.aload_n 0, 1) := by decide +kernel
theorem dX5_ask_55 : decode cX5_ask 55 = .ok (.getfield 38, 3) := by decide +kernel
theorem dX5_ask_58 : decode cX5_ask 58 = .ok (.sipush 168, 3) := by decide +kernel
theorem dX5_ask_61 : decode cX5_ask 61 = .ok (.iload_n 3, 1) := by decide +kernel
theorem dX5_ask_62 : decode cX5_ask 62 = .ok (.imul, 1) := by decide +kernel
theorem dX5_ask_63 : decode cX5_ask 63 = .ok (.iload 5, 2) := by decide +kernel
theorem dX5_ask_65 : decode cX5_ask 65 = .ok (.iadd, 1) := by decide +kernel
theorem dX5_ask_66 : decode cX5_ask 66 = .ok (.aload_n 0, 1) := by decide +kernel
theorem dX5_ask_67 : decode cX5_ask 67 = .ok (.getfield 35, 3) := by decide +kernel
theorem dX5_ask_70 : decode cX5_ask 70 = .ok (.iload 5, 2) := by decide +kernel
theorem dX5_ask_72 : decode cX5_ask 72 = .ok (.iaload, 1) := by decide +kernel
theorem dX5_ask_73 : decode cX5_ask 73 = .ok (.iastore, 1) := by decide +kernel
theorem dX5_ask_74 : decode cX5_ask 74 = .ok (.iinc 5 1, 3) := by decide +kernel
theorem dX5_ask_77 : decode cX5_ask 77 = .ok (.goto (-31), 3) := by decide +kernel
theorem dX5_ask_80 : decode cX5_ask 80 = .ok (.iinc 3 1, 3) := by decide +kernel
theorem dX5_ask_83 : decode cX5_ask 83 = .ok (.iinc 4 1, 3) := by decide +kernel
theorem dX5_ask_86 : decode cX5_ask 86 = .ok (.goto (-64), 3) := by decide +kernel
theorem dX5_ask_89 : decode cX5_ask 89 = .ok (.aload_n 0, 1) := by decide +kernel
theorem dX5_ask_90 : decode cX5_ask 90 = .ok (.iload_n 3, 1) := by decide +kernel
theorem dX5_ask_91 : decode cX5_ask 91 = .ok (.invokevirtual 228, 3) := by decide +kernel
theorem dX5_ask_94 : decode cX5_ask 94 = .ok (.iconst 0, 1) := by decide +kernel
theorem dX5_ask_95 : decode cX5_ask 95 = .ok (.istore 4, 2) := by decide +kernel
theorem dX5_ask_97 : decode cX5_ask 97 = .ok (.iload 4, 2) := by decide +kernel
theorem dX5_ask_99 : decode cX5_ask 99 = .ok (.bipush 20, 2) := by decide +kernel
theorem dX5_ask_101 : decode cX5_ask 101 = .ok (.if_icmp .gt 150, 3) := by decide +kernel
theorem dX5_ask_104 : decode cX5_ask 104 = .ok (.iconst 0, 1) := by decide +kernel
theorem dX5_ask_105 : decode cX5_ask 105 = .ok (.istore 5, 2) := by decide +kernel
theorem dX5_ask_107 : decode cX5_ask 107 = .ok (.iload 5, 2) := by decide +kernel
theorem dX5_ask_109 : decode cX5_ask 109 = .ok (.aload_n 0, 1) := by decide +kernel
theorem dX5_ask_110 : decode cX5_ask 110 = .ok (.getfield 7, 3) := by decide +kernel
theorem dX5_ask_113 : decode cX5_ask 113 = .ok (.bipush 17, 2) := by decide +kernel
theorem dX5_ask_115 : decode cX5_ask 115 = .ok (.iaload, 1) := by decide +kernel
theorem dX5_ask_116 : decode cX5_ask 116 = .ok (.if_icmp .ge 129, 3) := by decide +kernel
theorem dX5_ask_119 : decode cX5_ask 119 = .ok (.bipush 8, 2) := by decide +kernel
theorem dX5_ask_121 : decode cX5_ask 121 = .ok (.iload 4, 2) := by decide +kernel
theorem dX5_ask_123 : decode cX5_ask 123 = .ok (.imul, 1) := by decide +kernel
theorem dX5_ask_124 : decode cX5_ask 124 = .ok (.iload 5, 2) := by decide +kernel
theorem dX5_ask_126 : decode cX5_ask 126 = .ok (.iadd, 1) := by decide +kernel
theorem dX5_ask_127 : decode cX5_ask 127 = .ok (.istore 6, 2) := by decide +kernel
theorem dX5_ask_129 : decode cX5_ask 129 = .ok (.iconst 0, 1) := by decide +kernel
theorem dX5_ask_130 : decode cX5_ask 130 = .ok (.istore 7, 2) := by decide +kernel
theorem dX5_ask_132 : decode cX5_ask 132 = .ok (.iconst 0, 1) := by decide +kernel
theorem dX5_ask_133 : decode cX5_ask 133 = .ok (.istore 8, 2) := by decide +kernel
theorem dX5_ask_135 : decode cX5_ask 135 = .ok (.iload 8, 2) := by decide +kernel
theorem dX5_ask_137 : decode cX5_ask 137 = .ok (.iload_n 3, 1) := by decide +kernel
theorem dX5_ask_138 : decode cX5_ask 138 = .ok (.if_icmp .ge 87, 3) := by decide +kernel
theorem dX5_ask_141 : decode cX5_ask 141 = .ok (.iconst 0, 1) := by decide +kernel
theorem dX5_ask_142 : decode cX5_ask 142 = .ok (.istore 9, 2) := by decide +kernel
theorem dX5_ask_144 : decode cX5_ask 144 = .ok (.iconst 0, 1) := by decide +kernel
theorem dX5_ask_145 : decode cX5_ask 145 = .ok (.istore 10, 2) := by decide +kernel
theorem dX5_ask_147 : decode cX5_ask 147 = .ok (.iload 10, 2) := by decide +kernel
theorem dX5_ask_149 : decode cX5_ask 149 = .ok (.iload_n 3, 1) := by decide +kernel
theorem dX5_ask_150 : decode cX5_ask 150 = .ok (.if_icmp .ge 53, 3) := by decide +kernel
theorem dX5_ask_153 : decode cX5_ask 153 = .ok (.iload 9, 2) := by decide +kernel
theorem dX5_ask_155 : decode cX5_ask 155 = .ok (.aload_n 0, 1) := by decide +kernel
theorem dX5_ask_156 : decode cX5_ask 156 = .ok (.getfield 38, 3) := by decide +kernel
theorem dX5_ask_159 : decode cX5_ask 159 = .ok (.sipush 168, 3) := by decide +kernel
theorem dX5_ask_162 : decode cX5_ask 162 = .ok (.iload 8, 2) := by decide +kernel
theorem dX5_ask_164 : decode cX5_ask 164 = .ok (.imul, 1) := by decide +kernel
theorem dX5_ask_165 : decode cX5_ask 165 = .ok (.iload 6, 2) := by decide +kernel
theorem dX5_ask_167 : decode cX5_ask 167 = .ok (.iadd, 1) := by decide +kernel
theorem dX5_ask_168 : decode cX5_ask 168 = .ok (.iaload, 1) := by decide +kernel
theorem dX5_ask_169 : decode cX5_ask 169 = .ok (.aload_n 0, 1) := by decide +kernel
theorem dX5_ask_170 : decode cX5_ask 170 = .ok (.getfield 38, 3) := by decide +kernel
theorem dX5_ask_173 : decode cX5_ask 173 = .ok (.sipush 168, 3) := by decide +kernel
theorem dX5_ask_176 : decode cX5_ask 176 = .ok (.iload 10, 2) := by decide +kernel
theorem dX5_ask_178 : decode cX5_ask 178 = .ok (.imul, 1) := by decide +kernel
theorem dX5_ask_179 : decode cX5_ask 179 = .ok (.iload 6, 2) := by decide +kernel
theorem dX5_ask_181 : decode cX5_ask 181 = .ok (.iadd, 1) := by decide +kernel
theorem dX5_ask_182 : decode cX5_ask 182 = .ok (.iaload, 1) := by decide +kernel
theorem dX5_ask_183 : decode cX5_ask 183 = .ok (.if_icmp .ne 7, 3) := by decide +kernel
theorem dX5_ask_186 : decode cX5_ask 186 = .ok (.iconst 1, 1) := by decide +kernel
theorem dX5_ask_187 : decode cX5_ask 187 = .ok (.goto 4, 3) := by decide +kernel
theorem dX5_ask_190 : decode cX5_ask 190 = .ok (.iconst 0, 1) := by decide +kernel
theorem dX5_ask_191 : decode cX5_ask 191 = .ok (.invokestatic 174, 3) := by decide +kernel
theorem dX5_ask_194 : decode cX5_ask 194 = .ok (.iadd, 1) := by decide +kernel
theorem dX5_ask_195 : decode cX5_ask 195 = .ok (.istore 9, 2) := by decide +kernel
theorem dX5_ask_197 : decode cX5_ask 197 = .ok (.iinc 10 1, 3) := by decide +kernel
theorem dX5_ask_200 : decode cX5_ask 200 = .ok (.goto (-53), 3) := by decide +kernel
theorem dX5_ask_203 : decode cX5_ask 203 = .ok (.iload 9, 2) := by decide +kernel
theorem dX5_ask_205 : decode cX5_ask 205 = .ok (.iload 7, 2) := by decide +kernel
theorem dX5_ask_207 : decode cX5_ask 207 = .ok (.if_icmp .le 8, 3) := by decide +kernel
theorem dX5_ask_210 : decode cX5_ask 210 = .ok (.iload 9, 2) := by decide +kernel
theorem dX5_ask_212 : decode cX5_ask 212 = .ok (.goto 5, 3) := by decide +kernel
theorem dX5_ask_215 : decode cX5_ask 215 = .ok (.iload 7, 2) := by decide +kernel
theorem dX5_ask_217 : decode cX5_ask 217 = .ok (.istore 7, 2) := by decide +kernel
theorem dX5_ask_219 : decode cX5_ask 219 = .ok (.iinc 8 1, 3) := by decide +kernel
theorem dX5_ask_222 : decode cX5_ask 222 = .ok (.goto (-87), 3) := by decide +kernel
theorem dX5_ask_225 : decode cX5_ask 225 = .ok (.aload_n 0, 1) := by decide +kernel
theorem dX5_ask_226 : decode cX5_ask 226 = .ok (.bipush 10, 2) := by decide +kernel
theorem dX5_ask_228 : decode cX5_ask 228 = .ok (.iload 4, 2) := by decide +kernel
theorem dX5_ask_230 : decode cX5_ask 230 = .ok (.imul, 1) := by decide +kernel
theorem dX5_ask_231 : decode cX5_ask 231 = .ok (.iload 5, 2) := by decide +kernel
theorem dX5_ask_233 : decode cX5_ask 233 = .ok (.iadd, 1) := by decide +kernel
theorem dX5_ask_234 : decode cX5_ask 234 = .ok (.iload 7, 2) := by decide +kernel
theorem dX5_ask_236 : decode cX5_ask 236 = .ok (.invokevirtual 231, 3) := by decide +kernel
theorem dX5_ask_239 : decode cX5_ask 239 = .ok (.iinc 5 1, 3) := by decide +kernel
theorem dX5_ask_242 : decode cX5_ask 242 = .ok (.goto (-135), 3) := by decide +kernel
theorem dX5_ask_245 : decode cX5_ask 245 = .ok (.iinc 4 1, 3) := by decide +kernel
theorem dX5_ask_248 : decode cX5_ask 248 = .ok (.goto (-151), 3) := by decide +kernel
theorem dX5_ask_251 : decode cX5_ask 251 = .ok (.aload_n 0, 1) := by decide +kernel
theorem dX5_ask_252 : decode cX5_ask 252 = .ok (.iload_n 2, 1) := by decide +kernel
theorem dX5_ask_253 : decode cX5_ask 253 = .ok (.invokevirtual 235, 3) := by decide +kernel
theorem dX5_ask_256 : decode cX5_ask 256 = .ok (.ireturn, 1) := by decide +kernel
theorem dX5_drift_0 : decode cX5_drift 0 = .ok (.iload_n 2, 1) := by decide +kernel
theorem dX5_drift_1 : decode cX5_drift 1 = .ok (.i2l, 1) := by decide +kernel
theorem dX5_drift_2 : decode cX5_drift 2 = .ok (.lconst 1, 1) := by decide +kernel
theorem dX5_drift_3 : decode cX5_drift 3 = .ok (.ldc2_w 208, 3) := by decide +kernel
theorem dX5_drift_6 : decode cX5_drift 6 = .ok (.invokestatic 61, 3) := by decide +kernel
theorem dX5_drift_9 : decode cX5_drift 9 = .ok (.ifCond .eq 10, 3) := by decide +kernel
theorem dX5_drift_12 : decode cX5_drift 12 = .ok (.iload_n 3, 1) := by decide +kernel
theorem dX5_drift_13 : decode cX5_drift 13 = .ok (.invokestatic 238, 3) := by decide +kernel
theorem dX5_drift_16 : decode cX5_drift 16 = .ok (.ifCond .ne 5, 3) := by decide +kernel
theorem dX5_drift_19 : decode cX5_drift 19 = .ok (.iconst (-1), 1) := by decide +kernel
theorem dX5_drift_20 : decode cX5_drift 20 = .ok (.ireturn, 1) := by decide +kernel
theorem dX5_drift_21 : decode cX5_drift 21 = .ok (.aload_n 0, 1) := by decide +kernel
theorem dX5_drift_22 : decode cX5_drift 22 = .ok (.getfield 7, 3) := by decide +kernel
theorem dX5_drift_25 : decode cX5_drift 25 = .ok (.bipush 16, 2) := by decide +kernel
theorem dX5_drift_27 : decode cX5_drift 27 = .ok (.iaload, 1) := by decide +kernel
theorem dX5_drift_28 : decode cX5_drift 28 = .ok (.ifCond .ne 6, 3) := by decide +kernel
theorem dX5_drift_31 : decode cX5_drift 31 = .ok (.bipush (-2), 2) := by decide +kernel
theorem dX5_drift_33 : decode cX5_drift 33 = .ok (.ireturn, 1) := by decide +kernel
theorem dX5_drift_34 : decode cX5_drift 34 = .ok (.iload_n 1, 1) := by decide +kernel
theorem dX5_drift_35 : decode cX5_drift 35 = .ok (.istore 4, 2) := by decide +kernel
theorem dX5_drift_37 : decode cX5_drift 37 = .ok (.aload_n 0, 1) := by decide +kernel
theorem dX5_drift_38 : decode cX5_drift 38 = .ok (.invokevirtual 184, 3) := by decide +kernel
theorem dX5_drift_41 : decode cX5_drift 41 = .ok (.iconst 0, 1) := by decide +kernel
theorem dX5_drift_42 : decode cX5_drift 42 = .ok (.istore 5, 2) := by decide +kernel
theorem dX5_drift_44 : decode cX5_drift 44 = .ok (.iload 5, 2) := by decide +kernel
theorem dX5_drift_46 : decode cX5_drift 46 = .ok (.iload_n 2, 1) := by decide +kernel
theorem dX5_drift_47 : decode cX5_drift 47 = .ok (.if_icmp .ge 63, 3) := by decide +kernel
theorem dX5_drift_50 : decode cX5_drift 50 = .ok (.iload 4, 2) := by decide +kernel
theorem dX5_drift_52 : decode cX5_drift 52 = .ok (.ldc_w 282, 3) := by decide +kernel
theorem dX5_drift_55 : decode cX5_drift 55 = .ok (.imul, 1) := by decide +kernel
theorem dX5_drift_56 : decode cX5_drift 56 = .ok (.sipush 12345, 3) := by decide +kernel
theorem dX5_drift_59 : decode cX5_drift 59 = .ok (.iadd, 1) := by decide +kernel
theorem dX5_drift_60 : decode cX5_drift 60 = .ok (.istore 4, 2) := by decide +kernel
theorem dX5_drift_62 : decode cX5_drift 62 = .ok (.iload 4, 2) := by decide +kernel
theorem dX5_drift_64 : decode cX5_drift 64 = .ok (.bipush 16, 2) := by decide +kernel
theorem dX5_drift_66 : decode cX5_drift 66 = .ok (.ishr, 1) := by decide +kernel
theorem dX5_drift_67 : decode cX5_drift 67 = .ok (.sipush 32767, 3) := by decide +kernel
theorem dX5_drift_70 : decode cX5_drift 70 = .ok (.iand, 1) := by decide +kernel
theorem dX5_drift_71 : decode cX5_drift 71 = .ok (.istore 6, 2) := by decide +kernel
theorem dX5_drift_73 : decode cX5_drift 73 = .ok (.aload_n 0, 1) := by decide +kernel
theorem dX5_drift_74 : decode cX5_drift 74 = .ok (.getfield 13, 3) := by decide +kernel
theorem dX5_drift_77 : decode cX5_drift 77 = .ok (.iconst 4, 1) := by decide +kernel
theorem dX5_drift_78 : decode cX5_drift 78 = .ok (.iload 6, 2) := by decide +kernel
theorem dX5_drift_80 : decode cX5_drift 80 = .ok (.aload_n 0, 1) := by decide +kernel
theorem dX5_drift_81 : decode cX5_drift 81 = .ok (.getfield 7, 3) := by decide +kernel
theorem dX5_drift_84 : decode cX5_drift 84 = .ok (.bipush 16, 2) := by decide +kernel
theorem dX5_drift_86 : decode cX5_drift 86 = .ok (.iaload, 1) := by decide +kernel
theorem dX5_drift_87 : decode cX5_drift 87 = .ok (.irem, 1) := by decide +kernel
theorem dX5_drift_88 : decode cX5_drift 88 = .ok (.imul, 1) := by decide +kernel
theorem dX5_drift_89 : decode cX5_drift 89 = .ok (.iconst 3, 1) := by decide +kernel
theorem dX5_drift_90 : decode cX5_drift 90 = .ok (.iadd, 1) := by decide +kernel
theorem dX5_drift_91 : decode cX5_drift 91 = .ok (.iload 6, 2) := by decide +kernel
theorem dX5_drift_93 : decode cX5_drift 93 = .ok (.bipush 8, 2) := by decide +kernel
theorem dX5_drift_95 : decode cX5_drift 95 = .ok (.idiv, 1) := by decide +kernel
theorem dX5_drift_96 : decode cX5_drift 96 = .ok (.bipush 12, 2) := by decide +kernel
theorem dX5_drift_98 : decode cX5_drift 98 = .ok (.irem, 1) := by decide +kernel
theorem dX5_drift_99 : decode cX5_drift 99 = .ok (.iastore, 1) := by decide +kernel
theorem dX5_drift_100 : decode cX5_drift 100 = .ok (.aload_n 0, 1) := by decide +kernel
theorem dX5_drift_101 : decode cX5_drift 101 = .ok (.invokevirtual 181, 3) := by decide +kernel
theorem dX5_drift_104 : decode cX5_drift 104 = .ok (.iinc 5 1, 3) := by decide +kernel
theorem dX5_drift_107 : decode cX5_drift 107 = .ok (.goto (-63), 3) := by decide +kernel
theorem dX5_drift_110 : decode cX5_drift 110 = .ok (.iload_n 3, 1) := by decide +kernel
theorem dX5_drift_111 : decode cX5_drift 111 = .ok (.ifCond .ne 10, 3) := by decide +kernel
theorem dX5_drift_114 : decode cX5_drift 114 = .ok (.aload_n 0, 1) := by decide +kernel
theorem dX5_drift_115 : decode cX5_drift 115 = .ok (.getfield 150, 3) := by decide +kernel
theorem dX5_drift_118 : decode cX5_drift 118 = .ok (.goto 7, 3) := by decide +kernel
theorem dX5_drift_121 : decode cX5_drift 121 = .ok (.aload_n 0, 1) := by decide +kernel
theorem dX5_drift_122 : decode cX5_drift 122 = .ok (.getfield 156, 3) := by decide +kernel
theorem dX5_drift_125 : decode cX5_drift 125 = .ok (.ireturn, 1) := by decide +kernel
theorem dX5_copies_0 : decode cX5_copies 0 = .ok (.iconst 0, 1) := by decide +kernel
theorem dX5_copies_1 : decode cX5_copies 1 = .ok (.istore_n 3, 1) := by decide +kernel
theorem dX5_copies_2 : decode cX5_copies 2 = .ok (.iload_n 3, 1) := by decide +kernel
theorem dX5_copies_3 : decode cX5_copies 3 = .ok (.bipush 51, 2) := by decide +kernel
theorem dX5_copies_5 : decode cX5_copies 5 = .ok (.if_icmp .ge 25, 3) := by decide +kernel
theorem dX5_copies_8 : decode cX5_copies 8 = .ok (.aload_n 0, 1) := by decide +kernel
theorem dX5_copies_9 : decode cX5_copies 9 = .ok (.getfield 7, 3) := by decide +kernel
theorem dX5_copies_12 : decode cX5_copies 12 = .ok (.iload_n 1, 1) := by decide +kernel
theorem dX5_copies_13 : decode cX5_copies 13 = .ok (.iload_n 3, 1) := by decide +kernel
theorem dX5_copies_14 : decode cX5_copies 14 = .ok (.iadd, 1) := by decide +kernel
theorem dX5_copies_15 : decode cX5_copies 15 = .ok (.aload_n 0, 1) := by decide +kernel
theorem dX5_copies_16 : decode cX5_copies 16 = .ok (.getfield 7, 3) := by decide +kernel
theorem dX5_copies_19 : decode cX5_copies 19 = .ok (.iload_n 2, 1) := by decide +kernel
theorem dX5_copies_20 : decode cX5_copies 20 = .ok (.iload_n 3, 1) := by decide +kernel
theorem dX5_copies_21 : decode cX5_copies 21 = .ok (.iadd, 1) := by decide +kernel
theorem dX5_copies_22 : decode cX5_copies 22 = .ok (.iaload, 1) := by decide +kernel
theorem dX5_copies_23 : decode cX5_copies 23 = .ok (.iastore, 1) := by decide +kernel
theorem dX5_copies_24 : decode cX5_copies 24 = .ok (.iinc 3 1, 3) := by decide +kernel
theorem dX5_copies_27 : decode cX5_copies 27 = .ok (.goto (-25), 3) := by decide +kernel
theorem dX5_copies_30 : decode cX5_copies 30 = .ok (.return_, 1) := by decide +kernel
theorem dX5_keep_0 : decode cX5_keep 0 = .ok (.iload_n 1, 1) := by decide +kernel
theorem dX5_keep_1 : decode cX5_keep 1 = .ok (.i2l, 1) := by decide +kernel
theorem dX5_keep_2 : decode cX5_keep 2 = .ok (.lconst 0, 1) := by decide +kernel
theorem dX5_keep_3 : decode cX5_keep 3 = .ok (.lconst 1, 1) := by decide +kernel
theorem dX5_keep_4 : decode cX5_keep 4 = .ok (.invokestatic 61, 3) := by decide +kernel
theorem dX5_keep_7 : decode cX5_keep 7 = .ok (.ifCond .ne 5, 3) := by decide +kernel
theorem dX5_keep_10 : decode cX5_keep 10 = .ok (.iconst (-1), 1) := by decide +kernel
theorem dX5_keep_11 : decode cX5_keep 11 = .ok (.ireturn, 1) := by decide +kernel
theorem dX5_keep_12 : decode cX5_keep 12 = .ok (.aload_n 0, 1) := by decide +kernel
theorem dX5_keep_13 : decode cX5_keep 13 = .ok (.getfield 16, 3) := by decide +kernel
theorem dX5_keep_16 : decode cX5_keep 16 = .ok (.iload_n 1, 1) := by decide +kernel
theorem dX5_keep_17 : decode cX5_keep 17 = .ok (.baload, 1) := by decide +kernel
theorem dX5_keep_18 : decode cX5_keep 18 = .ok (.invokestatic 174, 3) := by decide +kernel
theorem dX5_keep_21 : decode cX5_keep 21 = .ok (.istore_n 2, 1) := by decide +kernel
theorem dX5_keep_22 : decode cX5_keep 22 = .ok (.aload_n 0, 1) := by decide +kernel
theorem dX5_keep_23 : decode cX5_keep 23 = .ok (.getfield 16, 3) := by decide +kernel
theorem dX5_keep_26 : decode cX5_keep 26 = .ok (.iload_n 1, 1) := by decide +kernel
theorem dX5_keep_27 : decode cX5_keep 27 = .ok (.iconst 1, 1) := by decide +kernel
theorem dX5_keep_28 : decode cX5_keep 28 = .ok (.bastore, 1) := by decide +kernel
theorem dX5_keep_29 : decode cX5_keep 29 = .ok (.aload_n 0, 1) := by decide +kernel
theorem dX5_keep_30 : decode cX5_keep 30 = .ok (.bipush 51, 2) := by decide +kernel
theorem dX5_keep_32 : decode cX5_keep 32 = .ok (.iload_n 1, 1) := by decide +kernel
theorem dX5_keep_33 : decode cX5_keep 33 = .ok (.iconst 1, 1) := by decide +kernel
theorem dX5_keep_34 : decode cX5_keep 34 = .ok (.iadd, 1) := by decide +kernel
theorem dX5_keep_35 : decode cX5_keep 35 = .ok (.imul, 1) := by decide +kernel
theorem dX5_keep_36 : decode cX5_keep 36 = .ok (.iconst 0, 1) := by decide +kernel
theorem dX5_keep_37 : decode cX5_keep 37 = .ok (.invokevirtual 283, 3) := by decide +kernel
theorem dX5_keep_40 : decode cX5_keep 40 = .ok (.iload_n 2, 1) := by decide +kernel
theorem dX5_keep_41 : decode cX5_keep 41 = .ok (.ireturn, 1) := by decide +kernel
theorem dX5_back_0 : decode cX5_back 0 = .ok (.iload_n 1, 1) := by decide +kernel
theorem dX5_back_1 : decode cX5_back 1 = .ok (.i2l, 1) := by decide +kernel
theorem dX5_back_2 : decode cX5_back 2 = .ok (.lconst 0, 1) := by decide +kernel
theorem dX5_back_3 : decode cX5_back 3 = .ok (.lconst 1, 1) := by decide +kernel
theorem dX5_back_4 : decode cX5_back 4 = .ok (.invokestatic 61, 3) := by decide +kernel
theorem dX5_back_7 : decode cX5_back 7 = .ok (.ifCond .ne 5, 3) := by decide +kernel
theorem dX5_back_10 : decode cX5_back 10 = .ok (.iconst (-1), 1) := by decide +kernel
theorem dX5_back_11 : decode cX5_back 11 = .ok (.ireturn, 1) := by decide +kernel
theorem dX5_back_12 : decode cX5_back 12 = .ok (.aload_n 0, 1) := by decide +kernel
theorem dX5_back_13 : decode cX5_back 13 = .ok (.getfield 16, 3) := by decide +kernel
theorem dX5_back_16 : decode cX5_back 16 = .ok (.iload_n 1, 1) := by decide +kernel
theorem dX5_back_17 : decode cX5_back 17 = .ok (.baload, 1) := by decide +kernel
theorem dX5_back_18 : decode cX5_back 18 = .ok (.ifCond .ne 6, 3) := by decide +kernel
theorem dX5_back_21 : decode cX5_back 21 = .ok (.bipush (-2), 2) := by decide +kernel
theorem dX5_back_23 : decode cX5_back 23 = .ok (.ireturn, 1) := by decide +kernel
theorem dX5_back_24 : decode cX5_back 24 = .ok (.aload_n 0, 1) := by decide +kernel
theorem dX5_back_25 : decode cX5_back 25 = .ok (.iconst 0, 1) := by decide +kernel
theorem dX5_back_26 : decode cX5_back 26 = .ok (.bipush 51, 2) := by decide +kernel
theorem dX5_back_28 : decode cX5_back 28 = .ok (.iload_n 1, 1) := by decide +kernel
theorem dX5_back_29 : decode cX5_back 29 = .ok (.iconst 1, 1) := by decide +kernel
theorem dX5_back_30 : decode cX5_back 30 = .ok (.iadd, 1) := by decide +kernel
theorem dX5_back_31 : decode cX5_back 31 = .ok (.imul, 1) := by decide +kernel
theorem dX5_back_32 : decode cX5_back 32 = .ok (.invokevirtual 283, 3) := by decide +kernel
theorem dX5_back_35 : decode cX5_back 35 = .ok (.aload_n 0, 1) := by decide +kernel
theorem dX5_back_36 : decode cX5_back 36 = .ok (.getfield 7, 3) := by decide +kernel
theorem dX5_back_39 : decode cX5_back 39 = .ok (.bipush 21, 2) := by decide +kernel
theorem dX5_back_41 : decode cX5_back 41 = .ok (.iaload, 1) := by decide +kernel
theorem dX5_back_42 : decode cX5_back 42 = .ok (.ireturn, 1) := by decide +kernel
theorem dX5_isSheet_0 : decode cX5_isSheet 0 = .ok (.iload_n 0, 1) := by decide +kernel
theorem dX5_isSheet_1 : decode cX5_isSheet 1 = .ok (.i2l, 1) := by decide +kernel
theorem dX5_isSheet_2 : decode cX5_isSheet 2 = .ok (.lconst 0, 1) := by decide +kernel
theorem dX5_isSheet_3 : decode cX5_isSheet 3 = .ok (.ldc2_w 196, 3) := by decide +kernel
theorem dX5_isSheet_6 : decode cX5_isSheet 6 = .ok (.invokestatic 61, 3) := by decide +kernel
theorem dX5_isSheet_9 : decode cX5_isSheet 9 = .ok (.ifCond .eq 19, 3) := by decide +kernel
theorem dX5_isSheet_12 : decode cX5_isSheet 12 = .ok (.iload_n 1, 1) := by decide +kernel
theorem dX5_isSheet_13 : decode cX5_isSheet 13 = .ok (.i2l, 1) := by decide +kernel
theorem dX5_isSheet_14 : decode cX5_isSheet 14 = .ok (.lconst 0, 1) := by decide +kernel
theorem dX5_isSheet_15 : decode cX5_isSheet 15 = .ok (.ldc2_w 286, 3) := by decide +kernel
theorem dX5_isSheet_18 : decode cX5_isSheet 18 = .ok (.invokestatic 61, 3) := by decide +kernel
theorem dX5_isSheet_21 : decode cX5_isSheet 21 = .ok (.ifCond .eq 7, 3) := by decide +kernel
theorem dX5_isSheet_24 : decode cX5_isSheet 24 = .ok (.iconst 1, 1) := by decide +kernel
theorem dX5_isSheet_25 : decode cX5_isSheet 25 = .ok (.goto 4, 3) := by decide +kernel
theorem dX5_isSheet_28 : decode cX5_isSheet 28 = .ok (.iconst 0, 1) := by decide +kernel
theorem dX5_isSheet_29 : decode cX5_isSheet 29 = .ok (.ireturn, 1) := by decide +kernel
theorem dX5_sheet_0 : decode cX5_sheet 0 = .ok (.iload_n 1, 1) := by decide +kernel
theorem dX5_sheet_1 : decode cX5_sheet 1 = .ok (.iload_n 2, 1) := by decide +kernel
theorem dX5_sheet_2 : decode cX5_sheet 2 = .ok (.invokestatic 288, 3) := by decide +kernel
theorem dX5_sheet_5 : decode cX5_sheet 5 = .ok (.ifCond .eq 9, 3) := by decide +kernel
theorem dX5_sheet_8 : decode cX5_sheet 8 = .ok (.iload_n 3, 1) := by decide +kernel
theorem dX5_sheet_9 : decode cX5_sheet 9 = .ok (.bipush 40, 2) := by decide +kernel
theorem dX5_sheet_11 : decode cX5_sheet 11 = .ok (.if_icmp .le 5, 3) := by decide +kernel
theorem dX5_sheet_14 : decode cX5_sheet 14 = .ok (.iconst (-1), 1) := by decide +kernel
theorem dX5_sheet_15 : decode cX5_sheet 15 = .ok (.ireturn, 1) := by decide +kernel
theorem dX5_sheet_16 : decode cX5_sheet 16 = .ok (.iload_n 3, 1) := by decide +kernel
theorem dX5_sheet_17 : decode cX5_sheet 17 = .ok (.ifCond .ge 6, 3) := by decide +kernel
theorem dX5_sheet_20 : decode cX5_sheet 20 = .ok (.bipush (-14), 2) := by decide +kernel
theorem dX5_sheet_22 : decode cX5_sheet 22 = .ok (.ireturn, 1) := by decide +kernel
theorem dX5_sheet_23 : decode cX5_sheet 23 = .ok (.aload_n 0, 1) := by decide +kernel
theorem dX5_sheet_24 : decode cX5_sheet 24 = .ok (.getfield 41, 3) := by decide +kernel
theorem dX5_sheet_27 : decode cX5_sheet 27 = .ok (.iload_n 1, 1) := by decide +kernel
theorem dX5_sheet_28 : decode cX5_sheet 28 = .ok (.iload_n 2, 1) := by decide +kernel
theorem dX5_sheet_29 : decode cX5_sheet 29 = .ok (.iastore, 1) := by decide +kernel
theorem dX5_sheet_30 : decode cX5_sheet 30 = .ok (.aload_n 0, 1) := by decide +kernel
theorem dX5_sheet_31 : decode cX5_sheet 31 = .ok (.getfield 44, 3) := by decide +kernel
theorem dX5_sheet_34 : decode cX5_sheet 34 = .ok (.iload_n 1, 1) := by decide +kernel
theorem dX5_sheet_35 : decode cX5_sheet 35 = .ok (.iload_n 3, 1) := by decide +kernel
theorem dX5_sheet_36 : decode cX5_sheet 36 = .ok (.iastore, 1) := by decide +kernel
theorem dX5_sheet_37 : decode cX5_sheet 37 = .ok (.iconst 0, 1) := by decide +kernel
theorem dX5_sheet_38 : decode cX5_sheet 38 = .ok (.istore 4, 2) := by decide +kernel
theorem dX5_sheet_40 : decode cX5_sheet 40 = .ok (.iload 4, 2) := by decide +kernel
theorem dX5_sheet_42 : decode cX5_sheet 42 = .ok (.bipush 40, 2) := by decide +kernel
theorem dX5_sheet_44 : decode cX5_sheet 44 = .ok (.if_icmp .ge 22, 3) := by decide +kernel
theorem dX5_sheet_47 : decode cX5_sheet 47 = .ok (.aload_n 0, 1) := by decide +kernel
theorem dX5_sheet_48 : decode cX5_sheet 48 = .ok (.getfield 47, 3) := by decide +kernel
theorem dX5_sheet_51 : decode cX5_sheet 51 = .ok (.bipush 40, 2) := by decide +kernel
theorem dX5_sheet_53 : decode cX5_sheet 53 = .ok (.iload_n 1, 1) := by decide +kernel
theorem dX5_sheet_54 : decode cX5_sheet 54 = .ok (.imul, 1) := by decide +kernel
theorem dX5_sheet_55 : decode cX5_sheet 55 = .ok (.iload 4, 2) := by decide +kernel
theorem dX5_sheet_57 : decode cX5_sheet 57 = .ok (.iadd, 1) := by decide +kernel
theorem dX5_sheet_58 : decode cX5_sheet 58 = .ok (.iconst 0, 1) := by decide +kernel
theorem dX5_sheet_59 : decode cX5_sheet 59 = .ok (.iastore, 1) := by decide +kernel
theorem dX5_sheet_60 : decode cX5_sheet 60 = .ok (.iinc 4 1, 3) := by decide +kernel
theorem dX5_sheet_63 : decode cX5_sheet 63 = .ok (.goto (-23), 3) := by decide +kernel
theorem dX5_sheet_66 : decode cX5_sheet 66 = .ok (.iconst 1, 1) := by decide +kernel
theorem dX5_sheet_67 : decode cX5_sheet 67 = .ok (.ireturn, 1) := by decide +kernel
theorem dX5_lay_0 : decode cX5_lay 0 = .ok (.iload_n 1, 1) := by decide +kernel
theorem dX5_lay_1 : decode cX5_lay 1 = .ok (.iconst 0, 1) := by decide +kernel
theorem dX5_lay_2 : decode cX5_lay 2 = .ok (.invokestatic 288, 3) := by decide +kernel
theorem dX5_lay_5 : decode cX5_lay 5 = .ok (.ifCond .ne 5, 3) := by decide +kernel
theorem dX5_lay_8 : decode cX5_lay 8 = .ok (.iconst (-1), 1) := by decide +kernel
theorem dX5_lay_9 : decode cX5_lay 9 = .ok (.ireturn, 1) := by decide +kernel
theorem dX5_lay_10 : decode cX5_lay 10 = .ok (.aload_n 0, 1) := by decide +kernel
theorem dX5_lay_11 : decode cX5_lay 11 = .ok (.getfield 41, 3) := by decide +kernel
theorem dX5_lay_14 : decode cX5_lay 14 = .ok (.iload_n 1, 1) := by decide +kernel
theorem dX5_lay_15 : decode cX5_lay 15 = .ok (.iaload, 1) := by decide +kernel
theorem dX5_lay_16 : decode cX5_lay 16 = .ok (.bipush (-4), 2) := by decide +kernel
theorem dX5_lay_18 : decode cX5_lay 18 = .ok (.if_icmp .ne 6, 3) := by decide +kernel
theorem dX5_lay_21 : decode cX5_lay 21 = .ok (.bipush (-11), 2) := by decide +kernel
theorem dX5_lay_23 : decode cX5_lay 23 = .ok (.ireturn, 1) := by decide +kernel
theorem dX5_lay_24 : decode cX5_lay 24 = .ok (.iload_n 2, 1) := by decide +kernel
theorem dX5_lay_25 : decode cX5_lay 25 = .ok (.i2l, 1) := by decide +kernel
theorem dX5_lay_26 : decode cX5_lay 26 = .ok (.lconst 0, 1) := by decide +kernel
theorem dX5_lay_27 : decode cX5_lay 27 = .ok (.aload_n 0, 1) := by decide +kernel
theorem dX5_lay_28 : decode cX5_lay 28 = .ok (.getfield 44, 3) := by decide +kernel
theorem dX5_lay_31 : decode cX5_lay 31 = .ok (.iload_n 1, 1) := by decide +kernel
theorem dX5_lay_32 : decode cX5_lay 32 = .ok (.iaload, 1) := by decide +kernel
theorem dX5_lay_33 : decode cX5_lay 33 = .ok (.iconst 1, 1) := by decide +kernel
theorem dX5_lay_34 : decode cX5_lay 34 = .ok (.isub, 1) := by decide +kernel
theorem dX5_lay_35 : decode cX5_lay 35 = .ok (.i2l, 1) := by decide +kernel
theorem dX5_lay_36 : decode cX5_lay 36 = .ok (.invokestatic 61, 3) := by decide +kernel
theorem dX5_lay_39 : decode cX5_lay 39 = .ok (.ifCond .ne 6, 3) := by decide +kernel
theorem dX5_lay_42 : decode cX5_lay 42 = .ok (.bipush (-12), 2) := by decide +kernel
theorem dX5_lay_44 : decode cX5_lay 44 = .ok (.ireturn, 1) := by decide +kernel
theorem dX5_lay_45 : decode cX5_lay 45 = .ok (.aload_n 0, 1) := by decide +kernel
theorem dX5_lay_46 : decode cX5_lay 46 = .ok (.getfield 47, 3) := by decide +kernel
theorem dX5_lay_49 : decode cX5_lay 49 = .ok (.bipush 40, 2) := by decide +kernel
theorem dX5_lay_51 : decode cX5_lay 51 = .ok (.iload_n 1, 1) := by decide +kernel
theorem dX5_lay_52 : decode cX5_lay 52 = .ok (.imul, 1) := by decide +kernel
theorem dX5_lay_53 : decode cX5_lay 53 = .ok (.iload_n 2, 1) := by decide +kernel
theorem dX5_lay_54 : decode cX5_lay 54 = .ok (.iadd, 1) := by decide +kernel
theorem dX5_lay_55 : decode cX5_lay 55 = .ok (.aload_n 0, 1) := by decide +kernel
theorem dX5_lay_56 : decode cX5_lay 56 = .ok (.getfield 41, 3) := by decide +kernel
theorem dX5_lay_59 : decode cX5_lay 59 = .ok (.iload_n 1, 1) := by decide +kernel
theorem dX5_lay_60 : decode cX5_lay 60 = .ok (.iaload, 1) := by decide +kernel
theorem dX5_lay_61 : decode cX5_lay 61 = .ok (.ifCond .ne 8, 3) := by decide +kernel
theorem dX5_lay_64 : decode cX5_lay 64 = .ok (.iload_n 3, 1) := by decide +kernel
theorem dX5_lay_65 : decode cX5_lay 65 = .ok (.i2b, 1) := by decide +kernel
theorem dX5_lay_66 : decode cX5_lay 66 = .ok (.goto 19, 3) := by decide +kernel
theorem dX5_lay_69 : decode cX5_lay 69 = .ok (.aload_n 0, 1) := by decide +kernel
theorem dX5_lay_70 : decode cX5_lay 70 = .ok (.getfield 41, 3) := by decide +kernel
theorem dX5_lay_73 : decode cX5_lay 73 = .ok (.iload_n 1, 1) := by decide +kernel
theorem dX5_lay_74 : decode cX5_lay 74 = .ok (.iaload, 1) := by decide +kernel
theorem dX5_lay_75 : decode cX5_lay 75 = .ok (.iconst 1, 1) := by decide +kernel
theorem dX5_lay_76 : decode cX5_lay 76 = .ok (.if_icmp .ne 8, 3) := by decide +kernel
theorem dX5_lay_79 : decode cX5_lay 79 = .ok (.iload_n 3, 1) := by decide +kernel
theorem dX5_lay_80 : decode cX5_lay 80 = .ok (.i2s, 1) := by decide +kernel
theorem dX5_lay_81 : decode cX5_lay 81 = .ok (.goto 4, 3) := by decide +kernel
theorem dX5_lay_84 : decode cX5_lay 84 = .ok (.iload_n 3, 1) := by decide +kernel
theorem dX5_lay_85 : decode cX5_lay 85 = .ok (.iastore, 1) := by decide +kernel
theorem dX5_lay_86 : decode cX5_lay 86 = .ok (.iconst 1, 1) := by decide +kernel
theorem dX5_lay_87 : decode cX5_lay 87 = .ok (.ireturn, 1) := by decide +kernel
theorem dX5_read_0 : decode cX5_read 0 = .ok (.iload_n 1, 1) := by decide +kernel
theorem dX5_read_1 : decode cX5_read 1 = .ok (.iload_n 2, 1) := by decide +kernel
theorem dX5_read_2 : decode cX5_read 2 = .ok (.invokestatic 288, 3) := by decide +kernel
theorem dX5_read_5 : decode cX5_read 5 = .ok (.ifCond .eq 16, 3) := by decide +kernel
theorem dX5_read_8 : decode cX5_read 8 = .ok (.iload 4, 2) := by decide +kernel
theorem dX5_read_10 : decode cX5_read 10 = .ok (.i2l, 1) := by decide +kernel
theorem dX5_read_11 : decode cX5_read 11 = .ok (.lconst 0, 1) := by decide +kernel
theorem dX5_read_12 : decode cX5_read 12 = .ok (.ldc2_w 273, 3) := by decide +kernel
theorem dX5_read_15 : decode cX5_read 15 = .ok (.invokestatic 61, 3) := by decide +kernel
theorem dX5_read_18 : decode cX5_read 18 = .ok (.ifCond .ne 5, 3) := by decide +kernel
theorem dX5_read_21 : decode cX5_read 21 = .ok (.iconst (-1), 1) := by decide +kernel
theorem dX5_read_22 : decode cX5_read 22 = .ok (.ireturn, 1) := by decide +kernel
theorem dX5_read_23 : decode cX5_read 23 = .ok (.iconst 0, 1) := by decide +kernel
theorem dX5_read_24 : decode cX5_read 24 = .ok (.istore 5, 2) := by decide +kernel
theorem dX5_read_26 : decode cX5_read 26 = .ok (.iload 5, 2) := by decide +kernel
theorem dX5_read_28 : decode cX5_read 28 = .ok (.bipush 51, 2) := by decide +kernel
theorem dX5_read_30 : decode cX5_read 30 = .ok (.if_icmp .ge 23, 3) := by decide +kernel
theorem dX5_read_33 : decode cX5_read 33 = .ok (.aload_n 0, 1) := by decide +kernel
theorem dX5_read_34 : decode cX5_read 34 = .ok (.getfield 50, 3) := by decide +kernel
theorem dX5_read_37 : decode cX5_read 37 = .ok (.iload 5, 2) := by decide +kernel
theorem dX5_read_39 : decode cX5_read 39 = .ok (.aload_n 0, 1) := by decide +kernel
theorem dX5_read_40 : decode cX5_read 40 = .ok (.getfield 7, 3) := by decide +kernel
theorem dX5_read_43 : decode cX5_read 43 = .ok (.iload 5, 2) := by decide +kernel
theorem dX5_read_45 : decode cX5_read 45 = .ok (.iaload, 1) := by decide +kernel
theorem dX5_read_46 : decode cX5_read 46 = .ok (.iastore, 1) := by decide +kernel
theorem dX5_read_47 : decode cX5_read 47 = .ok (.iinc 5 1, 3) := by decide +kernel
theorem dX5_read_50 : decode cX5_read 50 = .ok (.goto (-24), 3) := by decide +kernel
theorem dX5_read_53 : decode cX5_read 53 = .ok (.iconst 0, 1) := by decide +kernel
theorem dX5_read_54 : decode cX5_read 54 = .ok (.istore 5, 2) := by decide +kernel
theorem dX5_read_56 : decode cX5_read 56 = .ok (.iconst 0, 1) := by decide +kernel
theorem dX5_read_57 : decode cX5_read 57 = .ok (.istore 6, 2) := by decide +kernel
theorem dX5_read_59 : decode cX5_read 59 = .ok (.iconst 0, 1) := by decide +kernel
theorem dX5_read_60 : decode cX5_read 60 = .ok (.istore 7, 2) := by decide +kernel
theorem dX5_read_62 : decode cX5_read 62 = .ok (.iload 7, 2) := by decide +kernel
theorem dX5_read_64 : decode cX5_read 64 = .ok (.iload 4, 2) := by decide +kernel
theorem dX5_read_66 : decode cX5_read 66 = .ok (.if_icmp .ge 185, 3) := by decide +kernel
theorem dX5_read_69 : decode cX5_read 69 = .ok (.iload 5, 2) := by decide +kernel
theorem dX5_read_71 : decode cX5_read 71 = .ok (.ifCond .ne 180, 3) := by decide +kernel
theorem dX5_read_74 : decode cX5_read 74 = .ok (.iconst 0, 1) := by decide +kernel
theorem dX5_read_75 : decode cX5_read 75 = .ok (.istore 8, 2) := by decide +kernel
theorem dX5_read_77 : decode cX5_read 77 = .ok (.iload 8, 2) := by decide +kernel
theorem dX5_read_79 : decode cX5_read 79 = .ok (.iconst 2, 1) := by decide +kernel
theorem dX5_read_80 : decode cX5_read 80 = .ok (.if_icmp .ge 84, 3) := by decide +kernel
theorem dX5_read_83 : decode cX5_read 83 = .ok (.iload 5, 2) := by decide +kernel
theorem dX5_read_85 : decode cX5_read 85 = .ok (.ifCond .ne 79, 3) := by decide +kernel
theorem dX5_read_88 : decode cX5_read 88 = .ok (.iload_n 3, 1) := by decide +kernel
theorem dX5_read_89 : decode cX5_read 89 = .ok (.i2l, 1) := by decide +kernel
theorem dX5_read_90 : decode cX5_read 90 = .ok (.iconst 2, 1) := by decide +kernel
theorem dX5_read_91 : decode cX5_read 91 = .ok (.iload 7, 2) := by decide +kernel
theorem dX5_read_93 : decode cX5_read 93 = .ok (.imul, 1) := by decide +kernel
theorem dX5_read_94 : decode cX5_read 94 = .ok (.i2l, 1) := by decide +kernel
theorem dX5_read_95 : decode cX5_read 95 = .ok (.ladd, 1) := by decide +kernel
theorem dX5_read_96 : decode cX5_read 96 = .ok (.iload 8, 2) := by decide +kernel
theorem dX5_read_98 : decode cX5_read 98 = .ok (.i2l, 1) := by decide +kernel
theorem dX5_read_99 : decode cX5_read 99 = .ok (.ladd, 1) := by decide +kernel
theorem dX5_read_100 : decode cX5_read 100 = .ok (.lstore 9, 2) := by decide +kernel
theorem dX5_read_102 : decode cX5_read 102 = .ok (.aload_n 0, 1) := by decide +kernel
theorem dX5_read_103 : decode cX5_read 103 = .ok (.getfield 41, 3) := by decide +kernel
theorem dX5_read_106 : decode cX5_read 106 = .ok (.iload_n 1, 1) := by decide +kernel
theorem dX5_read_107 : decode cX5_read 107 = .ok (.iaload, 1) := by decide +kernel
theorem dX5_read_108 : decode cX5_read 108 = .ok (.bipush (-4), 2) := by decide +kernel
theorem dX5_read_110 : decode cX5_read 110 = .ok (.if_icmp .ne 7, 3) := by decide +kernel
theorem dX5_read_113 : decode cX5_read 113 = .ok (.iconst 1, 1) := by decide +kernel
theorem dX5_read_114 : decode cX5_read 114 = .ok (.goto 42, 3) := by decide +kernel
theorem dX5_read_117 : decode cX5_read 117 = .ok (.aload_n 0, 1) := by decide +kernel
theorem dX5_read_118 : decode cX5_read 118 = .ok (.getfield 41, 3) := by decide +kernel
theorem dX5_read_121 : decode cX5_read 121 = .ok (.iload_n 1, 1) := by decide +kernel
theorem dX5_read_122 : decode cX5_read 122 = .ok (.iaload, 1) := by decide +kernel
theorem dX5_read_123 : decode cX5_read 123 = .ok (.iload_n 2, 1) := by decide +kernel
theorem dX5_read_124 : decode cX5_read 124 = .ok (.if_icmp .eq 7, 3) := by decide +kernel
theorem dX5_read_127 : decode cX5_read 127 = .ok (.iconst 3, 1) := by decide +kernel
theorem dX5_read_128 : decode cX5_read 128 = .ok (.goto 28, 3) := by decide +kernel
theorem dX5_read_131 : decode cX5_read 131 = .ok (.lload 9, 2) := by decide +kernel
theorem dX5_read_133 : decode cX5_read 133 = .ok (.lconst 0, 1) := by decide +kernel
theorem dX5_read_134 : decode cX5_read 134 = .ok (.lcmp, 1) := by decide +kernel
theorem dX5_read_135 : decode cX5_read 135 = .ok (.ifCond .lt 16, 3) := by decide +kernel
theorem dX5_read_138 : decode cX5_read 138 = .ok (.lload 9, 2) := by decide +kernel
theorem dX5_read_140 : decode cX5_read 140 = .ok (.aload_n 0, 1) := by decide +kernel
theorem dX5_read_141 : decode cX5_read 141 = .ok (.getfield 44, 3) := by decide +kernel
theorem dX5_read_144 : decode cX5_read 144 = .ok (.iload_n 1, 1) := by decide +kernel
theorem dX5_read_145 : decode cX5_read 145 = .ok (.iaload, 1) := by decide +kernel
theorem dX5_read_146 : decode cX5_read 146 = .ok (.i2l, 1) := by decide +kernel
theorem dX5_read_147 : decode cX5_read 147 = .ok (.lcmp, 1) := by decide +kernel
theorem dX5_read_148 : decode cX5_read 148 = .ok (.ifCond .lt 7, 3) := by decide +kernel
theorem dX5_read_151 : decode cX5_read 151 = .ok (.iconst 2, 1) := by decide +kernel
theorem dX5_read_152 : decode cX5_read 152 = .ok (.goto 4, 3) := by decide +kernel
theorem dX5_read_155 : decode cX5_read 155 = .ok (.iconst 0, 1) := by decide +kernel
theorem dX5_read_156 : decode cX5_read 156 = .ok (.istore 5, 2) := by decide +kernel
theorem dX5_read_158 : decode cX5_read 158 = .ok (.iinc 8 1, 3) := by decide +kernel
theorem dX5_read_161 : decode cX5_read 161 = .ok (.goto (-84), 3) := by decide +kernel
theorem dX5_read_164 : decode cX5_read 164 = .ok (.iload 5, 2) := by decide +kernel
theorem dX5_read_166 : decode cX5_read 166 = .ok (.ifCond .ne 79, 3) := by decide +kernel
theorem dX5_read_169 : decode cX5_read 169 = .ok (.bipush 40, 2) := by decide +kernel
theorem dX5_read_171 : decode cX5_read 171 = .ok (.iload_n 1, 1) := by decide +kernel
theorem dX5_read_172 : decode cX5_read 172 = .ok (.imul, 1) := by decide +kernel
theorem dX5_read_173 : decode cX5_read 173 = .ok (.iload_n 3, 1) := by decide +kernel
theorem dX5_read_174 : decode cX5_read 174 = .ok (.iadd, 1) := by decide +kernel
theorem dX5_read_175 : decode cX5_read 175 = .ok (.iconst 2, 1) := by decide +kernel
theorem dX5_read_176 : decode cX5_read 176 = .ok (.iload 7, 2) := by decide +kernel
theorem dX5_read_178 : decode cX5_read 178 = .ok (.imul, 1) := by decide +kernel
theorem dX5_read_179 : decode cX5_read 179 = .ok (.iadd, 1) := by decide +kernel
theorem dX5_read_180 : decode cX5_read 180 = .ok (.istore 8, 2) := by decide +kernel
theorem dX5_read_182 : decode cX5_read 182 = .ok (.aload_n 0, 1) := by decide +kernel
theorem dX5_read_183 : decode cX5_read 183 = .ok (.aload_n 0, 1) := by decide +kernel
theorem dX5_read_184 : decode cX5_read 184 = .ok (.getfield 47, 3) := by decide +kernel
theorem dX5_read_187 : decode cX5_read 187 = .ok (.iload 8, 2) := by decide +kernel
theorem dX5_read_189 : decode cX5_read 189 = .ok (.iaload, 1) := by decide +kernel
theorem dX5_read_190 : decode cX5_read 190 = .ok (.iconst 3, 1) := by decide +kernel
theorem dX5_read_191 : decode cX5_read 191 = .ok (.aload_n 0, 1) := by decide +kernel
theorem dX5_read_192 : decode cX5_read 192 = .ok (.getfield 47, 3) := by decide +kernel
theorem dX5_read_195 : decode cX5_read 195 = .ok (.iload 8, 2) := by decide +kernel
theorem dX5_read_197 : decode cX5_read 197 = .ok (.iconst 1, 1) := by decide +kernel
theorem dX5_read_198 : decode cX5_read 198 = .ok (.iadd, 1) := by decide +kernel
theorem dX5_read_199 : decode cX5_read 199 = .ok (.iaload, 1) := by decide +kernel
theorem dX5_read_200 : decode cX5_read 200 = .ok (.invokevirtual 291, 3) := by decide +kernel
theorem dX5_read_203 : decode cX5_read 203 = .ok (.ifCond .ge 39, 3) := by decide +kernel
theorem dX5_read_206 : decode cX5_read 206 = .ok (.iconst 0, 1) := by decide +kernel
theorem dX5_read_207 : decode cX5_read 207 = .ok (.istore 9, 2) := by decide +kernel
theorem dX5_read_209 : decode cX5_read 209 = .ok (.iload 9, 2) := by decide +kernel
theorem dX5_read_211 : decode cX5_read 211 = .ok (.bipush 51, 2) := by decide +kernel
theorem dX5_read_213 : decode cX5_read 213 = .ok (.if_icmp .ge 23, 3) := by decide +kernel
theorem dX5_read_216 : decode cX5_read 216 = .ok (.aload_n 0, 1) := by decide +kernel
theorem dX5_read_217 : decode cX5_read 217 = .ok (.getfield 7, 3) := by decide +kernel
theorem dX5_read_220 : decode cX5_read 220 = .ok (.iload 9, 2) := by decide +kernel
theorem dX5_read_222 : decode cX5_read 222 = .ok (.aload_n 0, 1) := by decide +kernel
theorem dX5_read_223 : decode cX5_read 223 = .ok (.getfield 50, 3) := by decide +kernel
theorem dX5_read_226 : decode cX5_read 226 = .ok (.iload 9, 2) := by decide +kernel
theorem dX5_read_228 : decode cX5_read 228 = .ok (.iaload, 1) := by decide +kernel
theorem dX5_read_229 : decode cX5_read 229 = .ok (.iastore, 1) := by decide +kernel
theorem dX5_read_230 : decode cX5_read 230 = .ok (.iinc 9 1, 3) := by decide +kernel
theorem dX5_read_233 : decode cX5_read 233 = .ok (.goto (-24), 3) := by decide +kernel
theorem dX5_read_236 : decode cX5_read 236 = .ok (.bipush (-20), 2) := by decide +kernel
theorem dX5_read_238 : decode cX5_read 238 = .ok (.iload 7, 2) := by decide +kernel
theorem dX5_read_240 : decode cX5_read 240 = .ok (.isub, 1) := by decide +kernel
theorem dX5_read_241 : decode cX5_read 241 = .ok (.ireturn, 1) := by decide +kernel
theorem dX5_read_242 : decode cX5_read 242 = .ok (.iinc 6 1, 3) := by decide +kernel
theorem dX5_read_245 : decode cX5_read 245 = .ok (.iinc 7 1, 3) := by decide +kernel
theorem dX5_read_248 : decode cX5_read 248 = .ok (.goto (-186), 3) := by decide +kernel
theorem dX5_read_251 : decode cX5_read 251 = .ok (.aload_n 0, 1) := by decide +kernel
theorem dX5_read_252 : decode cX5_read 252 = .ok (.iload 5, 2) := by decide +kernel
theorem dX5_read_254 : decode cX5_read 254 = .ok (.putfield 295, 3) := by decide +kernel
theorem dX5_read_257 : decode cX5_read 257 = .ok (.iload 6, 2) := by decide +kernel
theorem dX5_read_259 : decode cX5_read 259 = .ok (.ireturn, 1) := by decide +kernel
theorem dX5_torn_0 : decode cX5_torn 0 = .ok (.aload_n 0, 1) := by decide +kernel
theorem dX5_torn_1 : decode cX5_torn 1 = .ok (.getfield 295, 3) := by decide +kernel
theorem dX5_torn_4 : decode cX5_torn 4 = .ok (.ireturn, 1) := by decide +kernel
theorem dX5_sumOf_0 : decode cX5_sumOf 0 = .ok (.iconst 0, 1) := by decide +kernel
theorem dX5_sumOf_1 : decode cX5_sumOf 1 = .ok (.istore_n 2, 1) := by decide +kernel
theorem dX5_sumOf_2 : decode cX5_sumOf 2 = .ok (.iconst 0, 1) := by decide +kernel
theorem dX5_sumOf_3 : decode cX5_sumOf 3 = .ok (.istore_n 3, 1) := by decide +kernel
theorem dX5_sumOf_4 : decode cX5_sumOf 4 = .ok (.iload_n 3, 1) := by decide +kernel
theorem dX5_sumOf_5 : decode cX5_sumOf 5 = .ok (.aload_n 0, 1) := by decide +kernel
theorem dX5_sumOf_6 : decode cX5_sumOf 6 = .ok (.getfield 7, 3) := by decide +kernel
theorem dX5_sumOf_9 : decode cX5_sumOf 9 = .ok (.bipush 16, 2) := by decide +kernel
theorem dX5_sumOf_11 : decode cX5_sumOf 11 = .ok (.iaload, 1) := by decide +kernel
theorem dX5_sumOf_12 : decode cX5_sumOf 12 = .ok (.if_icmp .ge 22, 3) := by decide +kernel
theorem dX5_sumOf_15 : decode cX5_sumOf 15 = .ok (.iload_n 2, 1) := by decide +kernel
theorem dX5_sumOf_16 : decode cX5_sumOf 16 = .ok (.aload_n 0, 1) := by decide +kernel
theorem dX5_sumOf_17 : decode cX5_sumOf 17 = .ok (.getfield 7, 3) := by decide +kernel
theorem dX5_sumOf_20 : decode cX5_sumOf 20 = .ok (.iconst 4, 1) := by decide +kernel
theorem dX5_sumOf_21 : decode cX5_sumOf 21 = .ok (.iload_n 3, 1) := by decide +kernel
theorem dX5_sumOf_22 : decode cX5_sumOf 22 = .ok (.imul, 1) := by decide +kernel
theorem dX5_sumOf_23 : decode cX5_sumOf 23 = .ok (.iload_n 1, 1) := by decide +kernel
theorem dX5_sumOf_24 : decode cX5_sumOf 24 = .ok (.iadd, 1) := by decide +kernel
theorem dX5_sumOf_25 : decode cX5_sumOf 25 = .ok (.iaload, 1) := by decide +kernel
theorem dX5_sumOf_26 : decode cX5_sumOf 26 = .ok (.iadd, 1) := by decide +kernel
theorem dX5_sumOf_27 : decode cX5_sumOf 27 = .ok (.istore_n 2, 1) := by decide +kernel
theorem dX5_sumOf_28 : decode cX5_sumOf 28 = .ok (.iinc 3 1, 3) := by decide +kernel
theorem dX5_sumOf_31 : decode cX5_sumOf 31 = .ok (.goto (-27), 3) := by decide +kernel
theorem dX5_sumOf_34 : decode cX5_sumOf 34 = .ok (.iload_n 2, 1) := by decide +kernel
theorem dX5_sumOf_35 : decode cX5_sumOf 35 = .ok (.ireturn, 1) := by decide +kernel
theorem dX5_count_0 : decode cX5_count 0 = .ok (.iload_n 1, 1) := by decide +kernel
theorem dX5_count_1 : decode cX5_count 1 = .ok (.tableswitch 107 0 5 #[39, 47, 67, 72, 95, 101], 39) := by decide +kernel
theorem dX5_count_40 : decode cX5_count 40 = .ok (.aload_n 0, 1) := by decide +kernel
theorem dX5_count_41 : decode cX5_count 41 = .ok (.getfield 7, 3) := by decide +kernel
theorem dX5_count_44 : decode cX5_count 44 = .ok (.bipush 32, 2) := by decide +kernel
theorem dX5_count_46 : decode cX5_count 46 = .ok (.iaload, 1) := by decide +kernel
theorem dX5_count_47 : decode cX5_count 47 = .ok (.ireturn, 1) := by decide +kernel
theorem dX5_count_48 : decode cX5_count 48 = .ok (.aload_n 0, 1) := by decide +kernel
theorem dX5_count_49 : decode cX5_count 49 = .ok (.getfield 16, 3) := by decide +kernel
theorem dX5_count_52 : decode cX5_count 52 = .ok (.iconst 0, 1) := by decide +kernel
theorem dX5_count_53 : decode cX5_count 53 = .ok (.baload, 1) := by decide +kernel
theorem dX5_count_54 : decode cX5_count 54 = .ok (.invokestatic 174, 3) := by decide +kernel
theorem dX5_count_57 : decode cX5_count 57 = .ok (.aload_n 0, 1) := by decide +kernel
theorem dX5_count_58 : decode cX5_count 58 = .ok (.getfield 16, 3) := by decide +kernel
theorem dX5_count_61 : decode cX5_count 61 = .ok (.iconst 1, 1) := by decide +kernel
theorem dX5_count_62 : decode cX5_count 62 = .ok (.baload, 1) := by decide +kernel
theorem dX5_count_63 : decode cX5_count 63 = .ok (.invokestatic 174, 3) := by decide +kernel
theorem dX5_count_66 : decode cX5_count 66 = .ok (.iadd, 1) := by decide +kernel
theorem dX5_count_67 : decode cX5_count 67 = .ok (.ireturn, 1) := by decide +kernel
theorem dX5_count_68 : decode cX5_count 68 = .ok (.aload_n 0, 1) := by decide +kernel
theorem dX5_count_69 : decode cX5_count 69 = .ok (.getfield 65, 3) := by decide +kernel
theorem dX5_count_72 : decode cX5_count 72 = .ok (.ireturn, 1) := by decide +kernel
theorem dX5_count_73 : decode cX5_count 73 = .ok (.aload_n 0, 1) := by decide +kernel
theorem dX5_count_74 : decode cX5_count 74 = .ok (.getfield 41, 3) := by decide +kernel
theorem dX5_count_77 : decode cX5_count 77 = .ok (.iconst 0, 1) := by decide +kernel
theorem dX5_count_78 : decode cX5_count 78 = .ok (.iaload, 1) := by decide +kernel
theorem dX5_count_79 : decode cX5_count 79 = .ok (.bipush (-4), 2) := by decide +kernel
theorem dX5_count_81 : decode cX5_count 81 = .ok (.if_icmp .ne 8, 3) := by decide +kernel
theorem dX5_count_84 : decode cX5_count 84 = .ok (.bipush (-4), 2) := by decide +kernel
theorem dX5_count_86 : decode cX5_count 86 = .ok (.goto 9, 3) := by decide +kernel
theorem dX5_count_89 : decode cX5_count 89 = .ok (.aload_n 0, 1) := by decide +kernel
theorem dX5_count_90 : decode cX5_count 90 = .ok (.getfield 44, 3) := by decide +kernel
theorem dX5_count_93 : decode cX5_count 93 = .ok (.iconst 0, 1) := by decide +kernel
theorem dX5_count_94 : decode cX5_count 94 = .ok (.iaload, 1) := by decide +kernel
theorem dX5_count_95 : decode cX5_count 95 = .ok (.ireturn, 1) := by decide +kernel
theorem dX5_count_96 : decode cX5_count 96 = .ok (.aload_n 0, 1) := by decide +kernel
theorem dX5_count_97 : decode cX5_count 97 = .ok (.iconst 1, 1) := by decide +kernel
theorem dX5_count_98 : decode cX5_count 98 = .ok (.invokevirtual 298, 3) := by decide +kernel
theorem dX5_count_101 : decode cX5_count 101 = .ok (.ireturn, 1) := by decide +kernel
theorem dX5_count_102 : decode cX5_count 102 = .ok (.aload_n 0, 1) := by decide +kernel
theorem dX5_count_103 : decode cX5_count 103 = .ok (.iconst 2, 1) := by decide +kernel
theorem dX5_count_104 : decode cX5_count 104 = .ok (.invokevirtual 298, 3) := by decide +kernel
theorem dX5_count_107 : decode cX5_count 107 = .ok (.ireturn, 1) := by decide +kernel
theorem dX5_count_108 : decode cX5_count 108 = .ok (.iconst (-1), 1) := by decide +kernel
theorem dX5_count_109 : decode cX5_count 109 = .ok (.ireturn, 1) := by decide +kernel
