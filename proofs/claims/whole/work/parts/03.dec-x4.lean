theorem dX4_init_0 : decode cX4_init 0 = .ok (.aload_n 0, 1) := by decide +kernel
theorem dX4_init_1 : decode cX4_init 1 = .ok (.invokespecial 1, 3) := by decide +kernel
theorem dX4_init_4 : decode cX4_init 4 = .ok (.aload_n 0, 1) := by decide +kernel
theorem dX4_init_5 : decode cX4_init 5 = .ok (.new 7, 3) := by decide +kernel
theorem dX4_init_8 : decode cX4_init 8 = .ok (.dup, 1) := by decide +kernel
theorem dX4_init_9 : decode cX4_init 9 = .ok (.invokespecial 9, 3) := by decide +kernel
theorem dX4_init_12 : decode cX4_init 12 = .ok (.putfield 10, 3) := by decide +kernel
theorem dX4_init_15 : decode cX4_init 15 = .ok (.aload_n 0, 1) := by decide +kernel
theorem dX4_init_16 : decode cX4_init 16 = .ok (.new 7, 3) := by decide +kernel
theorem dX4_init_19 : decode cX4_init 19 = .ok (.dup, 1) := by decide +kernel
theorem dX4_init_20 : decode cX4_init 20 = .ok (.invokespecial 9, 3) := by decide +kernel
theorem dX4_init_23 : decode cX4_init 23 = .ok (.putfield 16, 3) := by decide +kernel
theorem dX4_init_26 : decode cX4_init 26 = .ok (.aload_n 0, 1) := by decide +kernel
theorem dX4_init_27 : decode cX4_init 27 = .ok (.iconst 2, 1) := by decide +kernel
theorem dX4_init_28 : decode cX4_init 28 = .ok (.anewarray 7, 3) := by decide +kernel
theorem dX4_init_31 : decode cX4_init 31 = .ok (.putfield 19, 3) := by decide +kernel
theorem dX4_init_34 : decode cX4_init 34 = .ok (.aload_n 0, 1) := by decide +kernel
theorem dX4_init_35 : decode cX4_init 35 = .ok (.iconst 2, 1) := by decide +kernel
theorem dX4_init_36 : decode cX4_init 36 = .ok (.newarray .boolean, 2) := by decide +kernel
theorem dX4_init_38 : decode cX4_init 38 = .ok (.putfield 23, 3) := by decide +kernel
theorem dX4_init_41 : decode cX4_init 41 = .ok (.aload_n 0, 1) := by decide +kernel
theorem dX4_init_42 : decode cX4_init 42 = .ok (.iconst 4, 1) := by decide +kernel
theorem dX4_init_43 : decode cX4_init 43 = .ok (.anewarray 27, 3) := by decide +kernel
theorem dX4_init_46 : decode cX4_init 46 = .ok (.putfield 29, 3) := by decide +kernel
theorem dX4_init_49 : decode cX4_init 49 = .ok (.aload_n 0, 1) := by decide +kernel
theorem dX4_init_50 : decode cX4_init 50 = .ok (.new 33, 3) := by decide +kernel
theorem dX4_init_53 : decode cX4_init 53 = .ok (.dup, 1) := by decide +kernel
theorem dX4_init_54 : decode cX4_init 54 = .ok (.invokespecial 35, 3) := by decide +kernel
theorem dX4_init_57 : decode cX4_init 57 = .ok (.putfield 36, 3) := by decide +kernel
theorem dX4_init_60 : decode cX4_init 60 = .ok (.aload_n 0, 1) := by decide +kernel
theorem dX4_init_61 : decode cX4_init 61 = .ok (.bipush 12, 2) := by decide +kernel
theorem dX4_init_63 : decode cX4_init 63 = .ok (.newarray .int, 2) := by decide +kernel
theorem dX4_init_65 : decode cX4_init 65 = .ok (.putfield 40, 3) := by decide +kernel
theorem dX4_init_68 : decode cX4_init 68 = .ok (.iconst 0, 1) := by decide +kernel
theorem dX4_init_69 : decode cX4_init 69 = .ok (.istore_n 1, 1) := by decide +kernel
theorem dX4_init_70 : decode cX4_init 70 = .ok (.iload_n 1, 1) := by decide +kernel
theorem dX4_init_71 : decode cX4_init 71 = .ok (.iconst 2, 1) := by decide +kernel
theorem dX4_init_72 : decode cX4_init 72 = .ok (.if_icmp .ge 22, 3) := by decide +kernel
theorem dX4_init_75 : decode cX4_init 75 = .ok (.aload_n 0, 1) := by decide +kernel
theorem dX4_init_76 : decode cX4_init 76 = .ok (.getfield 19, 3) := by decide +kernel
theorem dX4_init_79 : decode cX4_init 79 = .ok (.iload_n 1, 1) := by decide +kernel
theorem dX4_init_80 : decode cX4_init 80 = .ok (.new 7, 3) := by decide +kernel
theorem dX4_init_83 : decode cX4_init 83 = .ok (.dup, 1) := by decide +kernel
theorem dX4_init_84 : decode cX4_init 84 = .ok (.invokespecial 9, 3) := by decide +kernel
theorem dX4_init_87 : decode cX4_init 87 = .ok (.aastore, 1) := by decide +kernel
theorem dX4_init_88 : decode cX4_init 88 = .ok (.iinc 1 1, 3) := by decide +kernel
theorem dX4_init_91 : decode cX4_init 91 = .ok (.goto (-21), 3) := by decide +kernel
theorem dX4_init_94 : decode cX4_init 94 = .ok (.iconst 0, 1) := by decide +kernel
theorem dX4_init_95 : decode cX4_init 95 = .ok (.istore_n 1, 1) := by decide +kernel
theorem dX4_init_96 : decode cX4_init 96 = .ok (.iload_n 1, 1) := by decide +kernel
theorem dX4_init_97 : decode cX4_init 97 = .ok (.iconst 4, 1) := by decide +kernel
theorem dX4_init_98 : decode cX4_init 98 = .ok (.if_icmp .ge 22, 3) := by decide +kernel
theorem dX4_init_101 : decode cX4_init 101 = .ok (.aload_n 0, 1) := by decide +kernel
theorem dX4_init_102 : decode cX4_init 102 = .ok (.getfield 29, 3) := by decide +kernel
theorem dX4_init_105 : decode cX4_init 105 = .ok (.iload_n 1, 1) := by decide +kernel
theorem dX4_init_106 : decode cX4_init 106 = .ok (.new 27, 3) := by decide +kernel
theorem dX4_init_109 : decode cX4_init 109 = .ok (.dup, 1) := by decide +kernel
theorem dX4_init_110 : decode cX4_init 110 = .ok (.invokespecial 44, 3) := by decide +kernel
theorem dX4_init_113 : decode cX4_init 113 = .ok (.aastore, 1) := by decide +kernel
theorem dX4_init_114 : decode cX4_init 114 = .ok (.iinc 1 1, 3) := by decide +kernel
theorem dX4_init_117 : decode cX4_init 117 = .ok (.goto (-21), 3) := by decide +kernel
theorem dX4_init_120 : decode cX4_init 120 = .ok (.return_, 1) := by decide +kernel
theorem dX4_feed_0 : decode cX4_feed 0 = .ok (.iload_n 1, 1) := by decide +kernel
theorem dX4_feed_1 : decode cX4_feed 1 = .ok (.iconst 0, 1) := by decide +kernel
theorem dX4_feed_2 : decode cX4_feed 2 = .ok (.bipush 127, 2) := by decide +kernel
theorem dX4_feed_4 : decode cX4_feed 4 = .ok (.invokestatic 45, 3) := by decide +kernel
theorem dX4_feed_7 : decode cX4_feed 7 = .ok (.ifCond .eq 5, 3) := by decide +kernel
theorem dX4_feed_10 : decode cX4_feed 10 = .ok (.iconst (-1), 1) := by decide +kernel
theorem dX4_feed_11 : decode cX4_feed 11 = .ok (.ireturn, 1) := by decide +kernel
theorem dX4_feed_12 : decode cX4_feed 12 = .ok (.aload_n 0, 1) := by decide +kernel
theorem dX4_feed_13 : decode cX4_feed 13 = .ok (.getfield 36, 3) := by decide +kernel
theorem dX4_feed_16 : decode cX4_feed 16 = .ok (.iload_n 1, 1) := by decide +kernel
theorem dX4_feed_17 : decode cX4_feed 17 = .ok (.invokevirtual 49, 3) := by decide +kernel
theorem dX4_feed_20 : decode cX4_feed 20 = .ok (.ifCond .eq 13, 3) := by decide +kernel
theorem dX4_feed_23 : decode cX4_feed 23 = .ok (.aload_n 0, 1) := by decide +kernel
theorem dX4_feed_24 : decode cX4_feed 24 = .ok (.getfield 36, 3) := by decide +kernel
theorem dX4_feed_27 : decode cX4_feed 27 = .ok (.getfield 53, 3) := by decide +kernel
theorem dX4_feed_30 : decode cX4_feed 30 = .ok (.goto 5, 3) := by decide +kernel
theorem dX4_feed_33 : decode cX4_feed 33 = .ok (.bipush (-3), 2) := by decide +kernel
theorem dX4_feed_35 : decode cX4_feed 35 = .ok (.ireturn, 1) := by decide +kernel
theorem dX4_end_0 : decode cX4_end 0 = .ok (.iload_n 1, 1) := by decide +kernel
theorem dX4_end_1 : decode cX4_end 1 = .ok (.iconst 0, 1) := by decide +kernel
theorem dX4_end_2 : decode cX4_end 2 = .ok (.aload_n 0, 1) := by decide +kernel
theorem dX4_end_3 : decode cX4_end 3 = .ok (.getfield 36, 3) := by decide +kernel
theorem dX4_end_6 : decode cX4_end 6 = .ok (.getfield 53, 3) := by decide +kernel
theorem dX4_end_9 : decode cX4_end 9 = .ok (.invokestatic 45, 3) := by decide +kernel
theorem dX4_end_12 : decode cX4_end 12 = .ok (.ifCond .eq 5, 3) := by decide +kernel
theorem dX4_end_15 : decode cX4_end 15 = .ok (.iconst (-1), 1) := by decide +kernel
theorem dX4_end_16 : decode cX4_end 16 = .ok (.ireturn, 1) := by decide +kernel
theorem dX4_end_17 : decode cX4_end 17 = .ok (.aload_n 0, 1) := by decide +kernel
theorem dX4_end_18 : decode cX4_end 18 = .ok (.getfield 36, 3) := by decide +kernel
theorem dX4_end_21 : decode cX4_end 21 = .ok (.getfield 53, 3) := by decide +kernel
theorem dX4_end_24 : decode cX4_end 24 = .ok (.istore_n 2, 1) := by decide +kernel
theorem dX4_end_25 : decode cX4_end 25 = .ok (.aload_n 0, 1) := by decide +kernel
theorem dX4_end_26 : decode cX4_end 26 = .ok (.getfield 36, 3) := by decide +kernel
theorem dX4_end_29 : decode cX4_end 29 = .ok (.iload_n 1, 1) := by decide +kernel
theorem dX4_end_30 : decode cX4_end 30 = .ok (.putfield 53, 3) := by decide +kernel
theorem dX4_end_33 : decode cX4_end 33 = .ok (.iload_n 2, 1) := by decide +kernel
theorem dX4_end_34 : decode cX4_end 34 = .ok (.ireturn, 1) := by decide +kernel
theorem dX4_text_0 : decode cX4_text 0 = .ok (.aload_n 0, 1) := by decide +kernel
theorem dX4_text_1 : decode cX4_text 1 = .ok (.getfield 36, 3) := by decide +kernel
theorem dX4_text_4 : decode cX4_text 4 = .ok (.aload_n 0, 1) := by decide +kernel
theorem dX4_text_5 : decode cX4_text 5 = .ok (.getfield 16, 3) := by decide +kernel
theorem dX4_text_8 : decode cX4_text 8 = .ok (.invokevirtual 57, 3) := by decide +kernel
theorem dX4_text_11 : decode cX4_text 11 = .ok (.istore_n 1, 1) := by decide +kernel
theorem dX4_text_12 : decode cX4_text 12 = .ok (.aload_n 0, 1) := by decide +kernel
theorem dX4_text_13 : decode cX4_text 13 = .ok (.getfield 36, 3) := by decide +kernel
theorem dX4_text_16 : decode cX4_text 16 = .ok (.iconst 0, 1) := by decide +kernel
theorem dX4_text_17 : decode cX4_text 17 = .ok (.putfield 53, 3) := by decide +kernel
theorem dX4_text_20 : decode cX4_text 20 = .ok (.aload_n 0, 1) := by decide +kernel
theorem dX4_text_21 : decode cX4_text 21 = .ok (.getfield 36, 3) := by decide +kernel
theorem dX4_text_24 : decode cX4_text 24 = .ok (.getfield 61, 3) := by decide +kernel
theorem dX4_text_27 : decode cX4_text 27 = .ok (.ifCond .ne 34, 3) := by decide +kernel
theorem dX4_text_30 : decode cX4_text 30 = .ok (.aload_n 0, 1) := by decide +kernel
theorem dX4_text_31 : decode cX4_text 31 = .ok (.getfield 10, 3) := by decide +kernel
theorem dX4_text_34 : decode cX4_text 34 = .ok (.aload_n 0, 1) := by decide +kernel
theorem dX4_text_35 : decode cX4_text 35 = .ok (.getfield 16, 3) := by decide +kernel
theorem dX4_text_38 : decode cX4_text 38 = .ok (.invokevirtual 64, 3) := by decide +kernel
theorem dX4_text_41 : decode cX4_text 41 = .ok (.iconst 0, 1) := by decide +kernel
theorem dX4_text_42 : decode cX4_text 42 = .ok (.istore_n 2, 1) := by decide +kernel
theorem dX4_text_43 : decode cX4_text 43 = .ok (.iload_n 2, 1) := by decide +kernel
theorem dX4_text_44 : decode cX4_text 44 = .ok (.iconst 2, 1) := by decide +kernel
theorem dX4_text_45 : decode cX4_text 45 = .ok (.if_icmp .ge 16, 3) := by decide +kernel
theorem dX4_text_48 : decode cX4_text 48 = .ok (.aload_n 0, 1) := by decide +kernel
theorem dX4_text_49 : decode cX4_text 49 = .ok (.getfield 23, 3) := by decide +kernel
theorem dX4_text_52 : decode cX4_text 52 = .ok (.iload_n 2, 1) := by decide +kernel
theorem dX4_text_53 : decode cX4_text 53 = .ok (.iconst 0, 1) := by decide +kernel
theorem dX4_text_54 : decode cX4_text 54 = .ok (.bastore, 1) := by decide +kernel
theorem dX4_text_55 : decode cX4_text 55 = .ok (.iinc 2 1, 3) := by decide +kernel
theorem dX4_text_58 : decode cX4_text 58 = .ok (.goto (-15), 3) := by decide +kernel
theorem dX4_text_61 : decode cX4_text 61 = .ok (.iload_n 1, 1) := by decide +kernel
theorem dX4_text_62 : decode cX4_text 62 = .ok (.ireturn, 1) := by decide +kernel
theorem dX4_fault_0 : decode cX4_fault 0 = .ok (.aload_n 0, 1) := by decide +kernel
theorem dX4_fault_1 : decode cX4_fault 1 = .ok (.getfield 36, 3) := by decide +kernel
theorem dX4_fault_4 : decode cX4_fault 4 = .ok (.getfield 61, 3) := by decide +kernel
theorem dX4_fault_7 : decode cX4_fault 7 = .ok (.ireturn, 1) := by decide +kernel
theorem dX4_rule_0 : decode cX4_rule 0 = .ok (.iload_n 1, 1) := by decide +kernel
theorem dX4_rule_1 : decode cX4_rule 1 = .ok (.tableswitch 119 0 7 #[47, 55, 63, 71, 81, 91, 101, 111], 47) := by decide +kernel
theorem dX4_rule_48 : decode cX4_rule 48 = .ok (.aload_n 0, 1) := by decide +kernel
theorem dX4_rule_49 : decode cX4_rule 49 = .ok (.getfield 10, 3) := by decide +kernel
theorem dX4_rule_52 : decode cX4_rule 52 = .ok (.getfield 68, 3) := by decide +kernel
theorem dX4_rule_55 : decode cX4_rule 55 = .ok (.ireturn, 1) := by decide +kernel
theorem dX4_rule_56 : decode cX4_rule 56 = .ok (.aload_n 0, 1) := by decide +kernel
theorem dX4_rule_57 : decode cX4_rule 57 = .ok (.getfield 10, 3) := by decide +kernel
theorem dX4_rule_60 : decode cX4_rule 60 = .ok (.getfield 71, 3) := by decide +kernel
theorem dX4_rule_63 : decode cX4_rule 63 = .ok (.ireturn, 1) := by decide +kernel
theorem dX4_rule_64 : decode cX4_rule 64 = .ok (.aload_n 0, 1) := by decide +kernel
theorem dX4_rule_65 : decode cX4_rule 65 = .ok (.getfield 10, 3) := by decide +kernel
theorem dX4_rule_68 : decode cX4_rule 68 = .ok (.getfield 74, 3) := by decide +kernel
theorem dX4_rule_71 : decode cX4_rule 71 = .ok (.ireturn, 1) := by decide +kernel
theorem dX4_rule_72 : decode cX4_rule 72 = .ok (.aload_n 0, 1) := by decide +kernel
theorem dX4_rule_73 : decode cX4_rule 73 = .ok (.getfield 10, 3) := by decide +kernel
theorem dX4_rule_76 : decode cX4_rule 76 = .ok (.getfield 77, 3) := by decide +kernel
theorem dX4_rule_79 : decode cX4_rule 79 = .ok (.iconst 0, 1) := by decide +kernel
theorem dX4_rule_80 : decode cX4_rule 80 = .ok (.iaload, 1) := by decide +kernel
theorem dX4_rule_81 : decode cX4_rule 81 = .ok (.ireturn, 1) := by decide +kernel
theorem dX4_rule_82 : decode cX4_rule 82 = .ok (.aload_n 0, 1) := by decide +kernel
theorem dX4_rule_83 : decode cX4_rule 83 = .ok (.getfield 10, 3) := by decide +kernel
theorem dX4_rule_86 : decode cX4_rule 86 = .ok (.getfield 77, 3) := by decide +kernel
theorem dX4_rule_89 : decode cX4_rule 89 = .ok (.iconst 1, 1) := by decide +kernel
theorem dX4_rule_90 : decode cX4_rule 90 = .ok (.iaload, 1) := by decide +kernel
theorem dX4_rule_91 : decode cX4_rule 91 = .ok (.ireturn, 1) := by decide +kernel
theorem dX4_rule_92 : decode cX4_rule 92 = .ok (.aload_n 0, 1) := by decide +kernel
theorem dX4_rule_93 : decode cX4_rule 93 = .ok (.getfield 10, 3) := by decide +kernel
theorem dX4_rule_96 : decode cX4_rule 96 = .ok (.getfield 77, 3) := by decide +kernel
theorem dX4_rule_99 : decode cX4_rule 99 = .ok (.iconst 2, 1) := by decide +kernel
theorem dX4_rule_100 : decode cX4_rule 100 = .ok (.iaload, 1) := by decide +kernel
theorem dX4_rule_101 : decode cX4_rule 101 = .ok (.ireturn, 1) := by decide +kernel
theorem dX4_rule_102 : decode cX4_rule 102 = .ok (.aload_n 0, 1) := by decide +kernel
theorem dX4_rule_103 : decode cX4_rule 103 = .ok (.getfield 10, 3) := by decide +kernel
theorem dX4_rule_106 : decode cX4_rule 106 = .ok (.getfield 77, 3) := by decide +kernel
theorem dX4_rule_109 : decode cX4_rule 109 = .ok (.iconst 3, 1) := by decide +kernel
theorem dX4_rule_110 : decode cX4_rule 110 = .ok (.iaload, 1) := by decide +kernel
theorem dX4_rule_111 : decode cX4_rule 111 = .ok (.ireturn, 1) := by decide +kernel
theorem dX4_rule_112 : decode cX4_rule 112 = .ok (.aload_n 0, 1) := by decide +kernel
theorem dX4_rule_113 : decode cX4_rule 113 = .ok (.getfield 10, 3) := by decide +kernel
theorem dX4_rule_116 : decode cX4_rule 116 = .ok (.invokevirtual 80, 3) := by decide +kernel
theorem dX4_rule_119 : decode cX4_rule 119 = .ok (.ireturn, 1) := by decide +kernel
theorem dX4_rule_120 : decode cX4_rule 120 = .ok (.iconst (-1), 1) := by decide +kernel
theorem dX4_rule_121 : decode cX4_rule 121 = .ok (.ireturn, 1) := by decide +kernel
theorem dX4_lamp_0 : decode cX4_lamp 0 = .ok (.aload_n 0, 1) := by decide +kernel
theorem dX4_lamp_1 : decode cX4_lamp 1 = .ok (.getfield 10, 3) := by decide +kernel
theorem dX4_lamp_4 : decode cX4_lamp 4 = .ok (.iload_n 1, 1) := by decide +kernel
theorem dX4_lamp_5 : decode cX4_lamp 5 = .ok (.invokevirtual 84, 3) := by decide +kernel
theorem dX4_lamp_8 : decode cX4_lamp 8 = .ok (.astore_n 3, 1) := by decide +kernel
theorem dX4_lamp_9 : decode cX4_lamp 9 = .ok (.aload_n 3, 1) := by decide +kernel
theorem dX4_lamp_10 : decode cX4_lamp 10 = .ok (.ifnull 12, 3) := by decide +kernel
theorem dX4_lamp_13 : decode cX4_lamp 13 = .ok (.iload_n 2, 1) := by decide +kernel
theorem dX4_lamp_14 : decode cX4_lamp 14 = .ok (.iconst 0, 1) := by decide +kernel
theorem dX4_lamp_15 : decode cX4_lamp 15 = .ok (.iconst 4, 1) := by decide +kernel
theorem dX4_lamp_16 : decode cX4_lamp 16 = .ok (.invokestatic 45, 3) := by decide +kernel
theorem dX4_lamp_19 : decode cX4_lamp 19 = .ok (.ifCond .eq 5, 3) := by decide +kernel
theorem dX4_lamp_22 : decode cX4_lamp 22 = .ok (.iconst (-1), 1) := by decide +kernel
theorem dX4_lamp_23 : decode cX4_lamp 23 = .ok (.ireturn, 1) := by decide +kernel
theorem dX4_lamp_24 : decode cX4_lamp 24 = .ok (.iload_n 2, 1) := by decide +kernel
theorem dX4_lamp_25 : decode cX4_lamp 25 = .ok (.iconst 4, 1) := by decide +kernel
theorem dX4_lamp_26 : decode cX4_lamp 26 = .ok (.if_icmp .ge 12, 3) := by decide +kernel
theorem dX4_lamp_29 : decode cX4_lamp 29 = .ok (.aload_n 3, 1) := by decide +kernel
theorem dX4_lamp_30 : decode cX4_lamp 30 = .ok (.getfield 88, 3) := by decide +kernel
theorem dX4_lamp_33 : decode cX4_lamp 33 = .ok (.iload_n 2, 1) := by decide +kernel
theorem dX4_lamp_34 : decode cX4_lamp 34 = .ok (.iaload, 1) := by decide +kernel
theorem dX4_lamp_35 : decode cX4_lamp 35 = .ok (.goto 15, 3) := by decide +kernel
theorem dX4_lamp_38 : decode cX4_lamp 38 = .ok (.aload_n 3, 1) := by decide +kernel
theorem dX4_lamp_39 : decode cX4_lamp 39 = .ok (.aload_n 0, 1) := by decide +kernel
theorem dX4_lamp_40 : decode cX4_lamp 40 = .ok (.getfield 10, 3) := by decide +kernel
theorem dX4_lamp_43 : decode cX4_lamp 43 = .ok (.getfield 74, 3) := by decide +kernel
theorem dX4_lamp_46 : decode cX4_lamp 46 = .ok (.iconst 1, 1) := by decide +kernel
theorem dX4_lamp_47 : decode cX4_lamp 47 = .ok (.invokevirtual 93, 3) := by decide +kernel
theorem dX4_lamp_50 : decode cX4_lamp 50 = .ok (.ireturn, 1) := by decide +kernel
theorem dX4_row_0 : decode cX4_row 0 = .ok (.iload_n 1, 1) := by decide +kernel
theorem dX4_row_1 : decode cX4_row 1 = .ok (.iconst 0, 1) := by decide +kernel
theorem dX4_row_2 : decode cX4_row 2 = .ok (.bipush 7, 2) := by decide +kernel
theorem dX4_row_4 : decode cX4_row 4 = .ok (.invokestatic 45, 3) := by decide +kernel
theorem dX4_row_7 : decode cX4_row 7 = .ok (.ifCond .eq 5, 3) := by decide +kernel
theorem dX4_row_10 : decode cX4_row 10 = .ok (.iconst (-1), 1) := by decide +kernel
theorem dX4_row_11 : decode cX4_row 11 = .ok (.ireturn, 1) := by decide +kernel
theorem dX4_row_12 : decode cX4_row 12 = .ok (.aload_n 0, 1) := by decide +kernel
theorem dX4_row_13 : decode cX4_row 13 = .ok (.getfield 10, 3) := by decide +kernel
theorem dX4_row_16 : decode cX4_row 16 = .ok (.getfield 71, 3) := by decide +kernel
theorem dX4_row_19 : decode cX4_row 19 = .ok (.ifCond .ne 6, 3) := by decide +kernel
theorem dX4_row_22 : decode cX4_row 22 = .ok (.bipush (-2), 2) := by decide +kernel
theorem dX4_row_24 : decode cX4_row 24 = .ok (.ireturn, 1) := by decide +kernel
theorem dX4_row_25 : decode cX4_row 25 = .ok (.iload_n 1, 1) := by decide +kernel
theorem dX4_row_26 : decode cX4_row 26 = .ok (.aload_n 0, 1) := by decide +kernel
theorem dX4_row_27 : decode cX4_row 27 = .ok (.getfield 10, 3) := by decide +kernel
theorem dX4_row_30 : decode cX4_row 30 = .ok (.getfield 97, 3) := by decide +kernel
theorem dX4_row_33 : decode cX4_row 33 = .ok (.if_icmp .ge 15, 3) := by decide +kernel
theorem dX4_row_36 : decode cX4_row 36 = .ok (.aload_n 0, 1) := by decide +kernel
theorem dX4_row_37 : decode cX4_row 37 = .ok (.getfield 10, 3) := by decide +kernel
theorem dX4_row_40 : decode cX4_row 40 = .ok (.getfield 100, 3) := by decide +kernel
theorem dX4_row_43 : decode cX4_row 43 = .ok (.iload_n 1, 1) := by decide +kernel
theorem dX4_row_44 : decode cX4_row 44 = .ok (.iaload, 1) := by decide +kernel
theorem dX4_row_45 : decode cX4_row 45 = .ok (.goto 5, 3) := by decide +kernel
theorem dX4_row_48 : decode cX4_row 48 = .ok (.bipush (-4), 2) := by decide +kernel
theorem dX4_row_50 : decode cX4_row 50 = .ok (.ireturn, 1) := by decide +kernel
theorem dX4_alter_0 : decode cX4_alter 0 = .ok (.aload_n 0, 1) := by decide +kernel
theorem dX4_alter_1 : decode cX4_alter 1 = .ok (.getfield 10, 3) := by decide +kernel
theorem dX4_alter_4 : decode cX4_alter 4 = .ok (.iload_n 1, 1) := by decide +kernel
theorem dX4_alter_5 : decode cX4_alter 5 = .ok (.invokevirtual 84, 3) := by decide +kernel
theorem dX4_alter_8 : decode cX4_alter 8 = .ok (.astore 4, 2) := by decide +kernel
theorem dX4_alter_10 : decode cX4_alter 10 = .ok (.aload 4, 2) := by decide +kernel
theorem dX4_alter_12 : decode cX4_alter 12 = .ok (.ifnull 11, 3) := by decide +kernel
theorem dX4_alter_15 : decode cX4_alter 15 = .ok (.iload_n 2, 1) := by decide +kernel
theorem dX4_alter_16 : decode cX4_alter 16 = .ok (.iload_n 3, 1) := by decide +kernel
theorem dX4_alter_17 : decode cX4_alter 17 = .ok (.invokestatic 103, 3) := by decide +kernel
theorem dX4_alter_20 : decode cX4_alter 20 = .ok (.ifCond .ne 5, 3) := by decide +kernel
theorem dX4_alter_23 : decode cX4_alter 23 = .ok (.iconst (-1), 1) := by decide +kernel
theorem dX4_alter_24 : decode cX4_alter 24 = .ok (.ireturn, 1) := by decide +kernel
theorem dX4_alter_25 : decode cX4_alter 25 = .ok (.aload 4, 2) := by decide +kernel
theorem dX4_alter_27 : decode cX4_alter 27 = .ok (.getfield 88, 3) := by decide +kernel
theorem dX4_alter_30 : decode cX4_alter 30 = .ok (.iload_n 2, 1) := by decide +kernel
theorem dX4_alter_31 : decode cX4_alter 31 = .ok (.iaload, 1) := by decide +kernel
theorem dX4_alter_32 : decode cX4_alter 32 = .ok (.istore 5, 2) := by decide +kernel
theorem dX4_alter_34 : decode cX4_alter 34 = .ok (.aload 4, 2) := by decide +kernel
theorem dX4_alter_36 : decode cX4_alter 36 = .ok (.iload_n 2, 1) := by decide +kernel
theorem dX4_alter_37 : decode cX4_alter 37 = .ok (.iload_n 3, 1) := by decide +kernel
theorem dX4_alter_38 : decode cX4_alter 38 = .ok (.invokevirtual 107, 3) := by decide +kernel
theorem dX4_alter_41 : decode cX4_alter 41 = .ok (.iload 5, 2) := by decide +kernel
theorem dX4_alter_43 : decode cX4_alter 43 = .ok (.ireturn, 1) := by decide +kernel
theorem dX4_tell_0 : decode cX4_tell 0 = .ok (.iload_n 1, 1) := by decide +kernel
theorem dX4_tell_1 : decode cX4_tell 1 = .ok (.iload_n 2, 1) := by decide +kernel
theorem dX4_tell_2 : decode cX4_tell 2 = .ok (.invokestatic 111, 3) := by decide +kernel
theorem dX4_tell_5 : decode cX4_tell 5 = .ok (.ifCond .ne 5, 3) := by decide +kernel
theorem dX4_tell_8 : decode cX4_tell 8 = .ok (.iconst (-1), 1) := by decide +kernel
theorem dX4_tell_9 : decode cX4_tell 9 = .ok (.ireturn, 1) := by decide +kernel
theorem dX4_tell_10 : decode cX4_tell 10 = .ok (.aload_n 0, 1) := by decide +kernel
theorem dX4_tell_11 : decode cX4_tell 11 = .ok (.getfield 10, 3) := by decide +kernel
theorem dX4_tell_14 : decode cX4_tell 14 = .ok (.getfield 77, 3) := by decide +kernel
theorem dX4_tell_17 : decode cX4_tell 17 = .ok (.iload_n 1, 1) := by decide +kernel
theorem dX4_tell_18 : decode cX4_tell 18 = .ok (.iaload, 1) := by decide +kernel
theorem dX4_tell_19 : decode cX4_tell 19 = .ok (.istore_n 3, 1) := by decide +kernel
theorem dX4_tell_20 : decode cX4_tell 20 = .ok (.aload_n 0, 1) := by decide +kernel
theorem dX4_tell_21 : decode cX4_tell 21 = .ok (.getfield 10, 3) := by decide +kernel
theorem dX4_tell_24 : decode cX4_tell 24 = .ok (.getfield 77, 3) := by decide +kernel
theorem dX4_tell_27 : decode cX4_tell 27 = .ok (.iload_n 1, 1) := by decide +kernel
theorem dX4_tell_28 : decode cX4_tell 28 = .ok (.iload_n 2, 1) := by decide +kernel
theorem dX4_tell_29 : decode cX4_tell 29 = .ok (.iastore, 1) := by decide +kernel
theorem dX4_tell_30 : decode cX4_tell 30 = .ok (.iload_n 3, 1) := by decide +kernel
theorem dX4_tell_31 : decode cX4_tell 31 = .ok (.ireturn, 1) := by decide +kernel
theorem dX4_put_0 : decode cX4_put 0 = .ok (.iconst 0, 1) := by decide +kernel
theorem dX4_put_1 : decode cX4_put 1 = .ok (.iload_n 1, 1) := by decide +kernel
theorem dX4_put_2 : decode cX4_put 2 = .ok (.invokestatic 103, 3) := by decide +kernel
theorem dX4_put_5 : decode cX4_put 5 = .ok (.ifCond .eq 19, 3) := by decide +kernel
theorem dX4_put_8 : decode cX4_put 8 = .ok (.iconst 1, 1) := by decide +kernel
theorem dX4_put_9 : decode cX4_put 9 = .ok (.iload_n 2, 1) := by decide +kernel
theorem dX4_put_10 : decode cX4_put 10 = .ok (.invokestatic 103, 3) := by decide +kernel
theorem dX4_put_13 : decode cX4_put 13 = .ok (.ifCond .eq 11, 3) := by decide +kernel
theorem dX4_put_16 : decode cX4_put 16 = .ok (.iconst 2, 1) := by decide +kernel
theorem dX4_put_17 : decode cX4_put 17 = .ok (.iload_n 3, 1) := by decide +kernel
theorem dX4_put_18 : decode cX4_put 18 = .ok (.invokestatic 103, 3) := by decide +kernel
theorem dX4_put_21 : decode cX4_put 21 = .ok (.ifCond .ne 5, 3) := by decide +kernel
theorem dX4_put_24 : decode cX4_put 24 = .ok (.iconst (-1), 1) := by decide +kernel
theorem dX4_put_25 : decode cX4_put 25 = .ok (.ireturn, 1) := by decide +kernel
theorem dX4_put_26 : decode cX4_put 26 = .ok (.aload_n 0, 1) := by decide +kernel
theorem dX4_put_27 : decode cX4_put 27 = .ok (.getfield 10, 3) := by decide +kernel
theorem dX4_put_30 : decode cX4_put 30 = .ok (.iload_n 1, 1) := by decide +kernel
theorem dX4_put_31 : decode cX4_put 31 = .ok (.iload_n 2, 1) := by decide +kernel
theorem dX4_put_32 : decode cX4_put 32 = .ok (.iload_n 3, 1) := by decide +kernel
theorem dX4_put_33 : decode cX4_put 33 = .ok (.iconst 0, 1) := by decide +kernel
theorem dX4_put_34 : decode cX4_put 34 = .ok (.invokevirtual 114, 3) := by decide +kernel
theorem dX4_put_37 : decode cX4_put 37 = .ok (.ifCond .eq 13, 3) := by decide +kernel
theorem dX4_put_40 : decode cX4_put 40 = .ok (.aload_n 0, 1) := by decide +kernel
theorem dX4_put_41 : decode cX4_put 41 = .ok (.getfield 10, 3) := by decide +kernel
theorem dX4_put_44 : decode cX4_put 44 = .ok (.getfield 68, 3) := by decide +kernel
theorem dX4_put_47 : decode cX4_put 47 = .ok (.goto 5, 3) := by decide +kernel
theorem dX4_put_50 : decode cX4_put 50 = .ok (.bipush (-3), 2) := by decide +kernel
theorem dX4_put_52 : decode cX4_put 52 = .ok (.ireturn, 1) := by decide +kernel
theorem dX4_cut_0 : decode cX4_cut 0 = .ok (.iload_n 1, 1) := by decide +kernel
theorem dX4_cut_1 : decode cX4_cut 1 = .ok (.iconst 0, 1) := by decide +kernel
theorem dX4_cut_2 : decode cX4_cut 2 = .ok (.aload_n 0, 1) := by decide +kernel
theorem dX4_cut_3 : decode cX4_cut 3 = .ok (.getfield 10, 3) := by decide +kernel
theorem dX4_cut_6 : decode cX4_cut 6 = .ok (.getfield 68, 3) := by decide +kernel
theorem dX4_cut_9 : decode cX4_cut 9 = .ok (.invokestatic 45, 3) := by decide +kernel
theorem dX4_cut_12 : decode cX4_cut 12 = .ok (.ifCond .eq 5, 3) := by decide +kernel
theorem dX4_cut_15 : decode cX4_cut 15 = .ok (.iconst (-1), 1) := by decide +kernel
theorem dX4_cut_16 : decode cX4_cut 16 = .ok (.ireturn, 1) := by decide +kernel
theorem dX4_cut_17 : decode cX4_cut 17 = .ok (.aload_n 0, 1) := by decide +kernel
theorem dX4_cut_18 : decode cX4_cut 18 = .ok (.getfield 10, 3) := by decide +kernel
theorem dX4_cut_21 : decode cX4_cut 21 = .ok (.getfield 68, 3) := by decide +kernel
theorem dX4_cut_24 : decode cX4_cut 24 = .ok (.istore_n 2, 1) := by decide +kernel
theorem dX4_cut_25 : decode cX4_cut 25 = .ok (.aload_n 0, 1) := by decide +kernel
theorem dX4_cut_26 : decode cX4_cut 26 = .ok (.getfield 10, 3) := by decide +kernel
theorem dX4_cut_29 : decode cX4_cut 29 = .ok (.iload_n 1, 1) := by decide +kernel
theorem dX4_cut_30 : decode cX4_cut 30 = .ok (.putfield 68, 3) := by decide +kernel
theorem dX4_cut_33 : decode cX4_cut 33 = .ok (.iload_n 2, 1) := by decide +kernel
theorem dX4_cut_34 : decode cX4_cut 34 = .ok (.ireturn, 1) := by decide +kernel
theorem dX4_rest_0 : decode cX4_rest 0 = .ok (.iload_n 1, 1) := by decide +kernel
theorem dX4_rest_1 : decode cX4_rest 1 = .ok (.iconst 0, 1) := by decide +kernel
theorem dX4_rest_2 : decode cX4_rest 2 = .ok (.bipush 60, 2) := by decide +kernel
theorem dX4_rest_4 : decode cX4_rest 4 = .ok (.invokestatic 45, 3) := by decide +kernel
theorem dX4_rest_7 : decode cX4_rest 7 = .ok (.ifCond .eq 5, 3) := by decide +kernel
theorem dX4_rest_10 : decode cX4_rest 10 = .ok (.iconst (-1), 1) := by decide +kernel
theorem dX4_rest_11 : decode cX4_rest 11 = .ok (.ireturn, 1) := by decide +kernel
theorem dX4_rest_12 : decode cX4_rest 12 = .ok (.aload_n 0, 1) := by decide +kernel
theorem dX4_rest_13 : decode cX4_rest 13 = .ok (.getfield 10, 3) := by decide +kernel
theorem dX4_rest_16 : decode cX4_rest 16 = .ok (.getfield 74, 3) := by decide +kernel
theorem dX4_rest_19 : decode cX4_rest 19 = .ok (.iload_n 1, 1) := by decide +kernel
theorem dX4_rest_20 : decode cX4_rest 20 = .ok (.iadd, 1) := by decide +kernel
theorem dX4_rest_21 : decode cX4_rest 21 = .ok (.ldc 118, 2) := by decide +kernel
theorem dX4_rest_23 : decode cX4_rest 23 = .ok (.if_icmp .lt 6, 3) := by decide +kernel
theorem dX4_rest_26 : decode cX4_rest 26 = .ok (.bipush (-3), 2) := by decide +kernel
theorem dX4_rest_28 : decode cX4_rest 28 = .ok (.ireturn, 1) := by decide +kernel
theorem dX4_rest_29 : decode cX4_rest 29 = .ok (.aload_n 0, 1) := by decide +kernel
theorem dX4_rest_30 : decode cX4_rest 30 = .ok (.getfield 10, 3) := by decide +kernel
theorem dX4_rest_33 : decode cX4_rest 33 = .ok (.dup, 1) := by decide +kernel
theorem dX4_rest_34 : decode cX4_rest 34 = .ok (.getfield 74, 3) := by decide +kernel
theorem dX4_rest_37 : decode cX4_rest 37 = .ok (.iload_n 1, 1) := by decide +kernel
theorem dX4_rest_38 : decode cX4_rest 38 = .ok (.iadd, 1) := by decide +kernel
theorem dX4_rest_39 : decode cX4_rest 39 = .ok (.putfield 74, 3) := by decide +kernel
theorem dX4_rest_42 : decode cX4_rest 42 = .ok (.aload_n 0, 1) := by decide +kernel
theorem dX4_rest_43 : decode cX4_rest 43 = .ok (.getfield 10, 3) := by decide +kernel
theorem dX4_rest_46 : decode cX4_rest 46 = .ok (.getfield 74, 3) := by decide +kernel
theorem dX4_rest_49 : decode cX4_rest 49 = .ok (.ireturn, 1) := by decide +kernel
theorem dX4_shoot_0 : decode cX4_shoot 0 = .ok (.iload_n 1, 1) := by decide +kernel
theorem dX4_shoot_1 : decode cX4_shoot 1 = .ok (.iconst 0, 1) := by decide +kernel
theorem dX4_shoot_2 : decode cX4_shoot 2 = .ok (.bipush 40, 2) := by decide +kernel
theorem dX4_shoot_4 : decode cX4_shoot 4 = .ok (.invokestatic 45, 3) := by decide +kernel
theorem dX4_shoot_7 : decode cX4_shoot 7 = .ok (.ifCond .eq 5, 3) := by decide +kernel
theorem dX4_shoot_10 : decode cX4_shoot 10 = .ok (.iconst (-1), 1) := by decide +kernel
theorem dX4_shoot_11 : decode cX4_shoot 11 = .ok (.ireturn, 1) := by decide +kernel
theorem dX4_shoot_12 : decode cX4_shoot 12 = .ok (.aload_n 0, 1) := by decide +kernel
theorem dX4_shoot_13 : decode cX4_shoot 13 = .ok (.getfield 10, 3) := by decide +kernel
theorem dX4_shoot_16 : decode cX4_shoot 16 = .ok (.iload_n 1, 1) := by decide +kernel
theorem dX4_shoot_17 : decode cX4_shoot 17 = .ok (.invokevirtual 119, 3) := by decide +kernel
theorem dX4_shoot_20 : decode cX4_shoot 20 = .ok (.ldc 118, 2) := by decide +kernel
theorem dX4_shoot_22 : decode cX4_shoot 22 = .ok (.if_icmp .lt 6, 3) := by decide +kernel
theorem dX4_shoot_25 : decode cX4_shoot 25 = .ok (.bipush (-3), 2) := by decide +kernel
theorem dX4_shoot_27 : decode cX4_shoot 27 = .ok (.ireturn, 1) := by decide +kernel
theorem dX4_shoot_28 : decode cX4_shoot 28 = .ok (.aload_n 0, 1) := by decide +kernel
theorem dX4_shoot_29 : decode cX4_shoot 29 = .ok (.getfield 10, 3) := by decide +kernel
theorem dX4_shoot_32 : decode cX4_shoot 32 = .ok (.iload_n 1, 1) := by decide +kernel
theorem dX4_shoot_33 : decode cX4_shoot 33 = .ok (.invokevirtual 123, 3) := by decide +kernel
theorem dX4_shoot_36 : decode cX4_shoot 36 = .ok (.istore_n 2, 1) := by decide +kernel
theorem dX4_shoot_37 : decode cX4_shoot 37 = .ok (.aload_n 0, 1) := by decide +kernel
theorem dX4_shoot_38 : decode cX4_shoot 38 = .ok (.getfield 10, 3) := by decide +kernel
theorem dX4_shoot_41 : decode cX4_shoot 41 = .ok (.iload_n 1, 1) := by decide +kernel
theorem dX4_shoot_42 : decode cX4_shoot 42 = .ok (.invokevirtual 126, 3) := by decide +kernel
theorem dX4_shoot_45 : decode cX4_shoot 45 = .ok (.iload_n 2, 1) := by decide +kernel
theorem dX4_shoot_46 : decode cX4_shoot 46 = .ok (.ireturn, 1) := by decide +kernel
theorem dX4_runs_0 : decode cX4_runs 0 = .ok (.iload_n 1, 1) := by decide +kernel
theorem dX4_runs_1 : decode cX4_runs 1 = .ok (.iconst 0, 1) := by decide +kernel
theorem dX4_runs_2 : decode cX4_runs 2 = .ok (.bipush 40, 2) := by decide +kernel
theorem dX4_runs_4 : decode cX4_runs 4 = .ok (.invokestatic 45, 3) := by decide +kernel
theorem dX4_runs_7 : decode cX4_runs 7 = .ok (.ifCond .eq 5, 3) := by decide +kernel
theorem dX4_runs_10 : decode cX4_runs 10 = .ok (.iconst (-1), 1) := by decide +kernel
theorem dX4_runs_11 : decode cX4_runs 11 = .ok (.ireturn, 1) := by decide +kernel
theorem dX4_runs_12 : decode cX4_runs 12 = .ok (.iload_n 2, 1) := by decide +kernel
theorem dX4_runs_13 : decode cX4_runs 13 = .ok (.tableswitch 67 0 3 #[31, 40, 49, 58], 31) := by decide +kernel
theorem dX4_runs_44 : decode cX4_runs 44 = .ok (.aload_n 0, 1) := by decide +kernel
theorem dX4_runs_45 : decode cX4_runs 45 = .ok (.getfield 10, 3) := by decide +kernel
theorem dX4_runs_48 : decode cX4_runs 48 = .ok (.iload_n 1, 1) := by decide +kernel
theorem dX4_runs_49 : decode cX4_runs 49 = .ok (.invokevirtual 123, 3) := by decide +kernel
theorem dX4_runs_52 : decode cX4_runs 52 = .ok (.ireturn, 1) := by decide +kernel
theorem dX4_runs_53 : decode cX4_runs 53 = .ok (.aload_n 0, 1) := by decide +kernel
theorem dX4_runs_54 : decode cX4_runs 54 = .ok (.getfield 10, 3) := by decide +kernel
theorem dX4_runs_57 : decode cX4_runs 57 = .ok (.iload_n 1, 1) := by decide +kernel
theorem dX4_runs_58 : decode cX4_runs 58 = .ok (.invokevirtual 130, 3) := by decide +kernel
theorem dX4_runs_61 : decode cX4_runs 61 = .ok (.ireturn, 1) := by decide +kernel
theorem dX4_runs_62 : decode cX4_runs 62 = .ok (.aload_n 0, 1) := by decide +kernel
theorem dX4_runs_63 : decode cX4_runs 63 = .ok (.getfield 10, 3) := by decide +kernel
theorem dX4_runs_66 : decode cX4_runs 66 = .ok (.iload_n 1, 1) := by decide +kernel
theorem dX4_runs_67 : decode cX4_runs 67 = .ok (.invokevirtual 133, 3) := by decide +kernel
theorem dX4_runs_70 : decode cX4_runs 70 = .ok (.ireturn, 1) := by decide +kernel
theorem dX4_runs_71 : decode cX4_runs 71 = .ok (.aload_n 0, 1) := by decide +kernel
theorem dX4_runs_72 : decode cX4_runs 72 = .ok (.getfield 10, 3) := by decide +kernel
theorem dX4_runs_75 : decode cX4_runs 75 = .ok (.iload_n 1, 1) := by decide +kernel
theorem dX4_runs_76 : decode cX4_runs 76 = .ok (.invokevirtual 136, 3) := by decide +kernel
theorem dX4_runs_79 : decode cX4_runs 79 = .ok (.ireturn, 1) := by decide +kernel
theorem dX4_runs_80 : decode cX4_runs 80 = .ok (.iconst (-1), 1) := by decide +kernel
theorem dX4_runs_81 : decode cX4_runs 81 = .ok (.ireturn, 1) := by decide +kernel
theorem dX4_ahead_0 : decode cX4_ahead 0 = .ok (.iload_n 1, 1) := by decide +kernel
theorem dX4_ahead_1 : decode cX4_ahead 1 = .ok (.iconst 0, 1) := by decide +kernel
theorem dX4_ahead_2 : decode cX4_ahead 2 = .ok (.bipush 40, 2) := by decide +kernel
theorem dX4_ahead_4 : decode cX4_ahead 4 = .ok (.invokestatic 45, 3) := by decide +kernel
theorem dX4_ahead_7 : decode cX4_ahead 7 = .ok (.ifCond .ne 22, 3) := by decide +kernel
theorem dX4_ahead_10 : decode cX4_ahead 10 = .ok (.iload_n 2, 1) := by decide +kernel
theorem dX4_ahead_11 : decode cX4_ahead 11 = .ok (.iconst 0, 1) := by decide +kernel
theorem dX4_ahead_12 : decode cX4_ahead 12 = .ok (.aload_n 0, 1) := by decide +kernel
theorem dX4_ahead_13 : decode cX4_ahead 13 = .ok (.getfield 10, 3) := by decide +kernel
theorem dX4_ahead_16 : decode cX4_ahead 16 = .ok (.getfield 77, 3) := by decide +kernel
theorem dX4_ahead_19 : decode cX4_ahead 19 = .ok (.iconst 0, 1) := by decide +kernel
theorem dX4_ahead_20 : decode cX4_ahead 20 = .ok (.iaload, 1) := by decide +kernel
theorem dX4_ahead_21 : decode cX4_ahead 21 = .ok (.iconst 1, 1) := by decide +kernel
theorem dX4_ahead_22 : decode cX4_ahead 22 = .ok (.isub, 1) := by decide +kernel
theorem dX4_ahead_23 : decode cX4_ahead 23 = .ok (.invokestatic 45, 3) := by decide +kernel
theorem dX4_ahead_26 : decode cX4_ahead 26 = .ok (.ifCond .eq 5, 3) := by decide +kernel
theorem dX4_ahead_29 : decode cX4_ahead 29 = .ok (.iconst (-1), 1) := by decide +kernel
theorem dX4_ahead_30 : decode cX4_ahead 30 = .ok (.ireturn, 1) := by decide +kernel
theorem dX4_ahead_31 : decode cX4_ahead 31 = .ok (.aload_n 0, 1) := by decide +kernel
theorem dX4_ahead_32 : decode cX4_ahead 32 = .ok (.getfield 10, 3) := by decide +kernel
theorem dX4_ahead_35 : decode cX4_ahead 35 = .ok (.iload_n 1, 1) := by decide +kernel
theorem dX4_ahead_36 : decode cX4_ahead 36 = .ok (.iload_n 2, 1) := by decide +kernel
theorem dX4_ahead_37 : decode cX4_ahead 37 = .ok (.invokevirtual 139, 3) := by decide +kernel
theorem dX4_ahead_40 : decode cX4_ahead 40 = .ok (.ireturn, 1) := by decide +kernel
theorem dX4_when_0 : decode cX4_when 0 = .ok (.iload_n 1, 1) := by decide +kernel
theorem dX4_when_1 : decode cX4_when 1 = .ok (.iconst 0, 1) := by decide +kernel
theorem dX4_when_2 : decode cX4_when 2 = .ok (.sipush 255, 3) := by decide +kernel
theorem dX4_when_5 : decode cX4_when 5 = .ok (.invokestatic 45, 3) := by decide +kernel
theorem dX4_when_8 : decode cX4_when 8 = .ok (.ifCond .eq 5, 3) := by decide +kernel
theorem dX4_when_11 : decode cX4_when 11 = .ok (.iconst (-1), 1) := by decide +kernel
theorem dX4_when_12 : decode cX4_when 12 = .ok (.ireturn, 1) := by decide +kernel
theorem dX4_when_13 : decode cX4_when 13 = .ok (.iconst 0, 1) := by decide +kernel
theorem dX4_when_14 : decode cX4_when 14 = .ok (.istore_n 2, 1) := by decide +kernel
theorem dX4_when_15 : decode cX4_when 15 = .ok (.iload_n 2, 1) := by decide +kernel
theorem dX4_when_16 : decode cX4_when 16 = .ok (.bipush 40, 2) := by decide +kernel
theorem dX4_when_18 : decode cX4_when 18 = .ok (.if_icmp .gt 23, 3) := by decide +kernel
theorem dX4_when_21 : decode cX4_when 21 = .ok (.aload_n 0, 1) := by decide +kernel
theorem dX4_when_22 : decode cX4_when 22 = .ok (.getfield 10, 3) := by decide +kernel
theorem dX4_when_25 : decode cX4_when 25 = .ok (.iload_n 2, 1) := by decide +kernel
theorem dX4_when_26 : decode cX4_when 26 = .ok (.invokevirtual 142, 3) := by decide +kernel
theorem dX4_when_29 : decode cX4_when 29 = .ok (.iload_n 1, 1) := by decide +kernel
theorem dX4_when_30 : decode cX4_when 30 = .ok (.if_icmp .lt 5, 3) := by decide +kernel
theorem dX4_when_33 : decode cX4_when 33 = .ok (.iload_n 2, 1) := by decide +kernel
theorem dX4_when_34 : decode cX4_when 34 = .ok (.ireturn, 1) := by decide +kernel
theorem dX4_when_35 : decode cX4_when 35 = .ok (.iinc 2 1, 3) := by decide +kernel
theorem dX4_when_38 : decode cX4_when 38 = .ok (.goto (-23), 3) := by decide +kernel
theorem dX4_when_41 : decode cX4_when 41 = .ok (.bipush (-4), 2) := by decide +kernel
theorem dX4_when_43 : decode cX4_when 43 = .ok (.ireturn, 1) := by decide +kernel
theorem dX4_again_0 : decode cX4_again 0 = .ok (.iconst 1, 1) := by decide +kernel
theorem dX4_again_1 : decode cX4_again 1 = .ok (.istore_n 1, 1) := by decide +kernel
theorem dX4_again_2 : decode cX4_again 2 = .ok (.iload_n 1, 1) := by decide +kernel
theorem dX4_again_3 : decode cX4_again 3 = .ok (.bipush 40, 2) := by decide +kernel
theorem dX4_again_5 : decode cX4_again 5 = .ok (.if_icmp .gt 22, 3) := by decide +kernel
theorem dX4_again_8 : decode cX4_again 8 = .ok (.aload_n 0, 1) := by decide +kernel
theorem dX4_again_9 : decode cX4_again 9 = .ok (.getfield 10, 3) := by decide +kernel
theorem dX4_again_12 : decode cX4_again 12 = .ok (.iload_n 1, 1) := by decide +kernel
theorem dX4_again_13 : decode cX4_again 13 = .ok (.invokevirtual 145, 3) := by decide +kernel
theorem dX4_again_16 : decode cX4_again 16 = .ok (.ifCond .eq 5, 3) := by decide +kernel
theorem dX4_again_19 : decode cX4_again 19 = .ok (.iload_n 1, 1) := by decide +kernel
theorem dX4_again_20 : decode cX4_again 20 = .ok (.ireturn, 1) := by decide +kernel
theorem dX4_again_21 : decode cX4_again 21 = .ok (.iinc 1 1, 3) := by decide +kernel
theorem dX4_again_24 : decode cX4_again 24 = .ok (.goto (-22), 3) := by decide +kernel
theorem dX4_again_27 : decode cX4_again 27 = .ok (.bipush (-4), 2) := by decide +kernel
theorem dX4_again_29 : decode cX4_again 29 = .ok (.ireturn, 1) := by decide +kernel
theorem dX4_best_0 : decode cX4_best 0 = .ok (.iload_n 1, 1) := by decide +kernel
theorem dX4_best_1 : decode cX4_best 1 = .ok (.iconst 1, 1) := by decide +kernel
theorem dX4_best_2 : decode cX4_best 2 = .ok (.iconst 3, 1) := by decide +kernel
theorem dX4_best_3 : decode cX4_best 3 = .ok (.invokestatic 45, 3) := by decide +kernel
theorem dX4_best_6 : decode cX4_best 6 = .ok (.ifCond .ne 22, 3) := by decide +kernel
theorem dX4_best_9 : decode cX4_best 9 = .ok (.iload_n 2, 1) := by decide +kernel
theorem dX4_best_10 : decode cX4_best 10 = .ok (.iconst 0, 1) := by decide +kernel
theorem dX4_best_11 : decode cX4_best 11 = .ok (.bipush 40, 2) := by decide +kernel
theorem dX4_best_13 : decode cX4_best 13 = .ok (.invokestatic 45, 3) := by decide +kernel
theorem dX4_best_16 : decode cX4_best 16 = .ok (.ifCond .ne 12, 3) := by decide +kernel
theorem dX4_best_19 : decode cX4_best 19 = .ok (.iload_n 3, 1) := by decide +kernel
theorem dX4_best_20 : decode cX4_best 20 = .ok (.iconst 0, 1) := by decide +kernel
theorem dX4_best_21 : decode cX4_best 21 = .ok (.iconst 1, 1) := by decide +kernel
theorem dX4_best_22 : decode cX4_best 22 = .ok (.invokestatic 45, 3) := by decide +kernel
theorem dX4_best_25 : decode cX4_best 25 = .ok (.ifCond .eq 5, 3) := by decide +kernel
theorem dX4_best_28 : decode cX4_best 28 = .ok (.iconst (-1), 1) := by decide +kernel
theorem dX4_best_29 : decode cX4_best 29 = .ok (.ireturn, 1) := by decide +kernel
theorem dX4_best_30 : decode cX4_best 30 = .ok (.aload_n 0, 1) := by decide +kernel
theorem dX4_best_31 : decode cX4_best 31 = .ok (.getfield 16, 3) := by decide +kernel
theorem dX4_best_34 : decode cX4_best 34 = .ok (.aload_n 0, 1) := by decide +kernel
theorem dX4_best_35 : decode cX4_best 35 = .ok (.getfield 10, 3) := by decide +kernel
theorem dX4_best_38 : decode cX4_best 38 = .ok (.invokevirtual 64, 3) := by decide +kernel
theorem dX4_best_41 : decode cX4_best 41 = .ok (.bipush (-4), 2) := by decide +kernel
theorem dX4_best_43 : decode cX4_best 43 = .ok (.istore 4, 2) := by decide +kernel
theorem dX4_best_45 : decode cX4_best 45 = .ok (.sipush 256, 3) := by decide +kernel
theorem dX4_best_48 : decode cX4_best 48 = .ok (.istore 5, 2) := by decide +kernel
theorem dX4_best_50 : decode cX4_best 50 = .ok (.getstatic 148, 3) := by decide +kernel
theorem dX4_best_53 : decode cX4_best 53 = .ok (.iload_n 1, 1) := by decide +kernel
theorem dX4_best_54 : decode cX4_best 54 = .ok (.iaload, 1) := by decide +kernel
theorem dX4_best_55 : decode cX4_best 55 = .ok (.istore 6, 2) := by decide +kernel
theorem dX4_best_57 : decode cX4_best 57 = .ok (.iload 6, 2) := by decide +kernel
theorem dX4_best_59 : decode cX4_best 59 = .ok (.getstatic 151, 3) := by decide +kernel
theorem dX4_best_62 : decode cX4_best 62 = .ok (.iload_n 1, 1) := by decide +kernel
theorem dX4_best_63 : decode cX4_best 63 = .ok (.iaload, 1) := by decide +kernel
theorem dX4_best_64 : decode cX4_best 64 = .ok (.if_icmp .gt 45, 3) := by decide +kernel
theorem dX4_best_67 : decode cX4_best 67 = .ok (.aload_n 0, 1) := by decide +kernel
theorem dX4_best_68 : decode cX4_best 68 = .ok (.getfield 16, 3) := by decide +kernel
theorem dX4_best_71 : decode cX4_best 71 = .ok (.getfield 77, 3) := by decide +kernel
theorem dX4_best_74 : decode cX4_best 74 = .ok (.iload_n 1, 1) := by decide +kernel
theorem dX4_best_75 : decode cX4_best 75 = .ok (.iload 6, 2) := by decide +kernel
theorem dX4_best_77 : decode cX4_best 77 = .ok (.iastore, 1) := by decide +kernel
theorem dX4_best_78 : decode cX4_best 78 = .ok (.aload_n 0, 1) := by decide +kernel
theorem dX4_best_79 : decode cX4_best 79 = .ok (.getfield 16, 3) := by decide +kernel
theorem dX4_best_82 : decode cX4_best 82 = .ok (.iload_n 2, 1) := by decide +kernel
theorem dX4_best_83 : decode cX4_best 83 = .ok (.invokevirtual 123, 3) := by decide +kernel
theorem dX4_best_86 : decode cX4_best 86 = .ok (.istore 7, 2) := by decide +kernel
theorem dX4_best_88 : decode cX4_best 88 = .ok (.iload 7, 2) := by decide +kernel
theorem dX4_best_90 : decode cX4_best 90 = .ok (.iload 5, 2) := by decide +kernel
theorem dX4_best_92 : decode cX4_best 92 = .ok (.if_icmp .ge 11, 3) := by decide +kernel
theorem dX4_best_95 : decode cX4_best 95 = .ok (.iload 7, 2) := by decide +kernel
theorem dX4_best_97 : decode cX4_best 97 = .ok (.istore 5, 2) := by decide +kernel
theorem dX4_best_99 : decode cX4_best 99 = .ok (.iload 6, 2) := by decide +kernel
theorem dX4_best_101 : decode cX4_best 101 = .ok (.istore 4, 2) := by decide +kernel
theorem dX4_best_103 : decode cX4_best 103 = .ok (.iinc 6 1, 3) := by decide +kernel
theorem dX4_best_106 : decode cX4_best 106 = .ok (.goto (-49), 3) := by decide +kernel
theorem dX4_best_109 : decode cX4_best 109 = .ok (.iload_n 3, 1) := by decide +kernel
theorem dX4_best_110 : decode cX4_best 110 = .ok (.ifCond .ne 8, 3) := by decide +kernel
theorem dX4_best_113 : decode cX4_best 113 = .ok (.iload 4, 2) := by decide +kernel
theorem dX4_best_115 : decode cX4_best 115 = .ok (.goto 5, 3) := by decide +kernel
theorem dX4_best_118 : decode cX4_best 118 = .ok (.iload 5, 2) := by decide +kernel
theorem dX4_best_120 : decode cX4_best 120 = .ok (.ireturn, 1) := by decide +kernel
theorem dX4_kind_0 : decode cX4_kind 0 = .ok (.aload_n 0, 1) := by decide +kernel
theorem dX4_kind_1 : decode cX4_kind 1 = .ok (.iload_n 1, 1) := by decide +kernel
theorem dX4_kind_2 : decode cX4_kind 2 = .ok (.iconst 0, 1) := by decide +kernel
theorem dX4_kind_3 : decode cX4_kind 3 = .ok (.iload_n 2, 1) := by decide +kernel
theorem dX4_kind_4 : decode cX4_kind 4 = .ok (.iload_n 3, 1) := by decide +kernel
theorem dX4_kind_5 : decode cX4_kind 5 = .ok (.invokevirtual 154, 3) := by decide +kernel
theorem dX4_kind_8 : decode cX4_kind 8 = .ok (.ireturn, 1) := by decide +kernel
theorem dX4_phase_0 : decode cX4_phase 0 = .ok (.aload_n 0, 1) := by decide +kernel
theorem dX4_phase_1 : decode cX4_phase 1 = .ok (.iload_n 1, 1) := by decide +kernel
theorem dX4_phase_2 : decode cX4_phase 2 = .ok (.iconst 3, 1) := by decide +kernel
theorem dX4_phase_3 : decode cX4_phase 3 = .ok (.iload_n 2, 1) := by decide +kernel
theorem dX4_phase_4 : decode cX4_phase 4 = .ok (.iload_n 3, 1) := by decide +kernel
theorem dX4_phase_5 : decode cX4_phase 5 = .ok (.invokevirtual 154, 3) := by decide +kernel
theorem dX4_phase_8 : decode cX4_phase 8 = .ok (.ireturn, 1) := by decide +kernel
theorem dX4_out_0 : decode cX4_out 0 = .ok (.iload_n 1, 1) := by decide +kernel
theorem dX4_out_1 : decode cX4_out 1 = .ok (.iconst 0, 1) := by decide +kernel
theorem dX4_out_2 : decode cX4_out 2 = .ok (.bipush 40, 2) := by decide +kernel
theorem dX4_out_4 : decode cX4_out 4 = .ok (.invokestatic 45, 3) := by decide +kernel
theorem dX4_out_7 : decode cX4_out 7 = .ok (.ifCond .ne 12, 3) := by decide +kernel
theorem dX4_out_10 : decode cX4_out 10 = .ok (.iload_n 2, 1) := by decide +kernel
theorem dX4_out_11 : decode cX4_out 11 = .ok (.iconst 0, 1) := by decide +kernel
theorem dX4_out_12 : decode cX4_out 12 = .ok (.iconst 1, 1) := by decide +kernel
theorem dX4_out_13 : decode cX4_out 13 = .ok (.invokestatic 45, 3) := by decide +kernel
theorem dX4_out_16 : decode cX4_out 16 = .ok (.ifCond .eq 5, 3) := by decide +kernel
theorem dX4_out_19 : decode cX4_out 19 = .ok (.iconst (-1), 1) := by decide +kernel
theorem dX4_out_20 : decode cX4_out 20 = .ok (.ireturn, 1) := by decide +kernel
theorem dX4_out_21 : decode cX4_out 21 = .ok (.aload_n 0, 1) := by decide +kernel
theorem dX4_out_22 : decode cX4_out 22 = .ok (.getfield 16, 3) := by decide +kernel
theorem dX4_out_25 : decode cX4_out 25 = .ok (.aload_n 0, 1) := by decide +kernel
theorem dX4_out_26 : decode cX4_out 26 = .ok (.getfield 10, 3) := by decide +kernel
theorem dX4_out_29 : decode cX4_out 29 = .ok (.invokevirtual 64, 3) := by decide +kernel
theorem dX4_out_32 : decode cX4_out 32 = .ok (.bipush (-4), 2) := by decide +kernel
theorem dX4_out_34 : decode cX4_out 34 = .ok (.istore_n 3, 1) := by decide +kernel
theorem dX4_out_35 : decode cX4_out 35 = .ok (.aload_n 0, 1) := by decide +kernel
theorem dX4_out_36 : decode cX4_out 36 = .ok (.getfield 10, 3) := by decide +kernel
theorem dX4_out_39 : decode cX4_out 39 = .ok (.iload_n 1, 1) := by decide +kernel
theorem dX4_out_40 : decode cX4_out 40 = .ok (.invokevirtual 123, 3) := by decide +kernel
theorem dX4_out_43 : decode cX4_out 43 = .ok (.istore 4, 2) := by decide +kernel
theorem dX4_out_45 : decode cX4_out 45 = .ok (.iconst 0, 1) := by decide +kernel
theorem dX4_out_46 : decode cX4_out 46 = .ok (.istore 5, 2) := by decide +kernel
theorem dX4_out_48 : decode cX4_out 48 = .ok (.iload 5, 2) := by decide +kernel
theorem dX4_out_50 : decode cX4_out 50 = .ok (.aload_n 0, 1) := by decide +kernel
theorem dX4_out_51 : decode cX4_out 51 = .ok (.getfield 10, 3) := by decide +kernel
theorem dX4_out_54 : decode cX4_out 54 = .ok (.getfield 68, 3) := by decide +kernel
theorem dX4_out_57 : decode cX4_out 57 = .ok (.if_icmp .ge 69, 3) := by decide +kernel
theorem dX4_out_60 : decode cX4_out 60 = .ok (.aload_n 0, 1) := by decide +kernel
theorem dX4_out_61 : decode cX4_out 61 = .ok (.getfield 16, 3) := by decide +kernel
theorem dX4_out_64 : decode cX4_out 64 = .ok (.getfield 158, 3) := by decide +kernel
theorem dX4_out_67 : decode cX4_out 67 = .ok (.iload 5, 2) := by decide +kernel
theorem dX4_out_69 : decode cX4_out 69 = .ok (.aaload, 1) := by decide +kernel
theorem dX4_out_70 : decode cX4_out 70 = .ok (.invokevirtual 162, 3) := by decide +kernel
theorem dX4_out_73 : decode cX4_out 73 = .ok (.aload_n 0, 1) := by decide +kernel
theorem dX4_out_74 : decode cX4_out 74 = .ok (.getfield 16, 3) := by decide +kernel
theorem dX4_out_77 : decode cX4_out 77 = .ok (.iload_n 1, 1) := by decide +kernel
theorem dX4_out_78 : decode cX4_out 78 = .ok (.invokevirtual 123, 3) := by decide +kernel
theorem dX4_out_81 : decode cX4_out 81 = .ok (.istore 6, 2) := by decide +kernel
theorem dX4_out_83 : decode cX4_out 83 = .ok (.aload_n 0, 1) := by decide +kernel
theorem dX4_out_84 : decode cX4_out 84 = .ok (.getfield 16, 3) := by decide +kernel
theorem dX4_out_87 : decode cX4_out 87 = .ok (.getfield 158, 3) := by decide +kernel
theorem dX4_out_90 : decode cX4_out 90 = .ok (.iload 5, 2) := by decide +kernel
theorem dX4_out_92 : decode cX4_out 92 = .ok (.aaload, 1) := by decide +kernel
theorem dX4_out_93 : decode cX4_out 93 = .ok (.aload_n 0, 1) := by decide +kernel
theorem dX4_out_94 : decode cX4_out 94 = .ok (.getfield 10, 3) := by decide +kernel
theorem dX4_out_97 : decode cX4_out 97 = .ok (.getfield 158, 3) := by decide +kernel
theorem dX4_out_100 : decode cX4_out 100 = .ok (.iload 5, 2) := by decide +kernel
theorem dX4_out_102 : decode cX4_out 102 = .ok (.aaload, 1) := by decide +kernel
theorem dX4_out_103 : decode cX4_out 103 = .ok (.invokevirtual 165, 3) := by decide +kernel
theorem dX4_out_106 : decode cX4_out 106 = .ok (.iload 6, 2) := by decide +kernel
theorem dX4_out_108 : decode cX4_out 108 = .ok (.iload 4, 2) := by decide +kernel
theorem dX4_out_110 : decode cX4_out 110 = .ok (.if_icmp .ge 10, 3) := by decide +kernel
theorem dX4_out_113 : decode cX4_out 113 = .ok (.iload 6, 2) := by decide +kernel
theorem dX4_out_115 : decode cX4_out 115 = .ok (.istore 4, 2) := by decide +kernel
theorem dX4_out_117 : decode cX4_out 117 = .ok (.iload 5, 2) := by decide +kernel
theorem dX4_out_119 : decode cX4_out 119 = .ok (.istore_n 3, 1) := by decide +kernel
theorem dX4_out_120 : decode cX4_out 120 = .ok (.iinc 5 1, 3) := by decide +kernel
theorem dX4_out_123 : decode cX4_out 123 = .ok (.goto (-75), 3) := by decide +kernel
theorem dX4_out_126 : decode cX4_out 126 = .ok (.iload_n 2, 1) := by decide +kernel
theorem dX4_out_127 : decode cX4_out 127 = .ok (.ifCond .eq 9, 3) := by decide +kernel
theorem dX4_out_130 : decode cX4_out 130 = .ok (.iload_n 3, 1) := by decide +kernel
theorem dX4_out_131 : decode cX4_out 131 = .ok (.bipush (-4), 2) := by decide +kernel
theorem dX4_out_133 : decode cX4_out 133 = .ok (.if_icmp .ne 7, 3) := by decide +kernel
theorem dX4_out_136 : decode cX4_out 136 = .ok (.iload_n 3, 1) := by decide +kernel
theorem dX4_out_137 : decode cX4_out 137 = .ok (.goto 5, 3) := by decide +kernel
theorem dX4_out_140 : decode cX4_out 140 = .ok (.iload 4, 2) := by decide +kernel
theorem dX4_out_142 : decode cX4_out 142 = .ok (.ireturn, 1) := by decide +kernel
theorem dX4_luck_0 : decode cX4_luck 0 = .ok (.iload_n 1, 1) := by decide +kernel
theorem dX4_luck_1 : decode cX4_luck 1 = .ok (.iconst 0, 1) := by decide +kernel
theorem dX4_luck_2 : decode cX4_luck 2 = .ok (.bipush 10, 2) := by decide +kernel
theorem dX4_luck_4 : decode cX4_luck 4 = .ok (.invokestatic 45, 3) := by decide +kernel
theorem dX4_luck_7 : decode cX4_luck 7 = .ok (.ifCond .ne 34, 3) := by decide +kernel
theorem dX4_luck_10 : decode cX4_luck 10 = .ok (.iload_n 2, 1) := by decide +kernel
theorem dX4_luck_11 : decode cX4_luck 11 = .ok (.iconst 0, 1) := by decide +kernel
theorem dX4_luck_12 : decode cX4_luck 12 = .ok (.bipush 8, 2) := by decide +kernel
theorem dX4_luck_14 : decode cX4_luck 14 = .ok (.invokestatic 45, 3) := by decide +kernel
theorem dX4_luck_17 : decode cX4_luck 17 = .ok (.ifCond .ne 24, 3) := by decide +kernel
theorem dX4_luck_20 : decode cX4_luck 20 = .ok (.iload_n 3, 1) := by decide +kernel
theorem dX4_luck_21 : decode cX4_luck 21 = .ok (.iconst 0, 1) := by decide +kernel
theorem dX4_luck_22 : decode cX4_luck 22 = .ok (.sipush 255, 3) := by decide +kernel
theorem dX4_luck_25 : decode cX4_luck 25 = .ok (.invokestatic 45, 3) := by decide +kernel
theorem dX4_luck_28 : decode cX4_luck 28 = .ok (.ifCond .ne 13, 3) := by decide +kernel
theorem dX4_luck_31 : decode cX4_luck 31 = .ok (.iload 4, 2) := by decide +kernel
theorem dX4_luck_33 : decode cX4_luck 33 = .ok (.iconst 0, 1) := by decide +kernel
theorem dX4_luck_34 : decode cX4_luck 34 = .ok (.iconst 1, 1) := by decide +kernel
theorem dX4_luck_35 : decode cX4_luck 35 = .ok (.invokestatic 45, 3) := by decide +kernel
theorem dX4_luck_38 : decode cX4_luck 38 = .ok (.ifCond .eq 7, 3) := by decide +kernel
theorem dX4_luck_41 : decode cX4_luck 41 = .ok (.ldc2_w 168, 3) := by decide +kernel
theorem dX4_luck_44 : decode cX4_luck 44 = .ok (.lreturn, 1) := by decide +kernel
theorem dX4_luck_45 : decode cX4_luck 45 = .ok (.aload_n 0, 1) := by decide +kernel
theorem dX4_luck_46 : decode cX4_luck 46 = .ok (.invokevirtual 170, 3) := by decide +kernel
theorem dX4_luck_49 : decode cX4_luck 49 = .ok (.lconst 1, 1) := by decide +kernel
theorem dX4_luck_50 : decode cX4_luck 50 = .ok (.lstore 5, 2) := by decide +kernel
theorem dX4_luck_52 : decode cX4_luck 52 = .ok (.lconst 1, 1) := by decide +kernel
theorem dX4_luck_53 : decode cX4_luck 53 = .ok (.lstore 7, 2) := by decide +kernel
theorem dX4_luck_55 : decode cX4_luck 55 = .ok (.iconst 0, 1) := by decide +kernel
theorem dX4_luck_56 : decode cX4_luck 56 = .ok (.istore 9, 2) := by decide +kernel
theorem dX4_luck_58 : decode cX4_luck 58 = .ok (.iload 9, 2) := by decide +kernel
theorem dX4_luck_60 : decode cX4_luck 60 = .ok (.iload_n 2, 1) := by decide +kernel
theorem dX4_luck_61 : decode cX4_luck 61 = .ok (.if_icmp .ge 71, 3) := by decide +kernel
theorem dX4_luck_64 : decode cX4_luck 64 = .ok (.aload_n 0, 1) := by decide +kernel
theorem dX4_luck_65 : decode cX4_luck 65 = .ok (.getfield 10, 3) := by decide +kernel
theorem dX4_luck_68 : decode cX4_luck 68 = .ok (.iload 9, 2) := by decide +kernel
theorem dX4_luck_70 : decode cX4_luck 70 = .ok (.invokevirtual 142, 3) := by decide +kernel
theorem dX4_luck_73 : decode cX4_luck 73 = .ok (.iload_n 3, 1) := by decide +kernel
theorem dX4_luck_74 : decode cX4_luck 74 = .ok (.if_icmp .gt 10, 3) := by decide +kernel
theorem dX4_luck_77 : decode cX4_luck 77 = .ok (.bipush 10, 2) := by decide +kernel
theorem dX4_luck_79 : decode cX4_luck 79 = .ok (.iload_n 1, 1) := by decide +kernel
theorem dX4_luck_80 : decode cX4_luck 80 = .ok (.isub, 1) := by decide +kernel
theorem dX4_luck_81 : decode cX4_luck 81 = .ok (.goto 4, 3) := by decide +kernel
theorem dX4_luck_84 : decode cX4_luck 84 = .ok (.iconst 0, 1) := by decide +kernel
theorem dX4_luck_85 : decode cX4_luck 85 = .ok (.istore 10, 2) := by decide +kernel
theorem dX4_luck_87 : decode cX4_luck 87 = .ok (.aload_n 0, 1) := by decide +kernel
theorem dX4_luck_88 : decode cX4_luck 88 = .ok (.getfield 16, 3) := by decide +kernel
theorem dX4_luck_91 : decode cX4_luck 91 = .ok (.iload 9, 2) := by decide +kernel
theorem dX4_luck_93 : decode cX4_luck 93 = .ok (.invokevirtual 142, 3) := by decide +kernel
theorem dX4_luck_96 : decode cX4_luck 96 = .ok (.iload_n 3, 1) := by decide +kernel
theorem dX4_luck_97 : decode cX4_luck 97 = .ok (.if_icmp .gt 7, 3) := by decide +kernel
theorem dX4_luck_100 : decode cX4_luck 100 = .ok (.iload_n 1, 1) := by decide +kernel
theorem dX4_luck_101 : decode cX4_luck 101 = .ok (.goto 4, 3) := by decide +kernel
theorem dX4_luck_104 : decode cX4_luck 104 = .ok (.iconst 0, 1) := by decide +kernel
theorem dX4_luck_105 : decode cX4_luck 105 = .ok (.istore 11, 2) := by decide +kernel
theorem dX4_luck_107 : decode cX4_luck 107 = .ok (.lload 5, 2) := by decide +kernel
theorem dX4_luck_109 : decode cX4_luck 109 = .ok (.iload 10, 2) := by decide +kernel
theorem dX4_luck_111 : decode cX4_luck 111 = .ok (.iload 11, 2) := by decide +kernel
theorem dX4_luck_113 : decode cX4_luck 113 = .ok (.iadd, 1) := by decide +kernel
theorem dX4_luck_114 : decode cX4_luck 114 = .ok (.i2l, 1) := by decide +kernel
theorem dX4_luck_115 : decode cX4_luck 115 = .ok (.lmul, 1) := by decide +kernel
theorem dX4_luck_116 : decode cX4_luck 116 = .ok (.lstore 5, 2) := by decide +kernel
theorem dX4_luck_118 : decode cX4_luck 118 = .ok (.lload 7, 2) := by decide +kernel
theorem dX4_luck_120 : decode cX4_luck 120 = .ok (.ldc2_w 173, 3) := by decide +kernel
theorem dX4_luck_123 : decode cX4_luck 123 = .ok (.lmul, 1) := by decide +kernel
theorem dX4_luck_124 : decode cX4_luck 124 = .ok (.lstore 7, 2) := by decide +kernel
theorem dX4_luck_126 : decode cX4_luck 126 = .ok (.iinc 9 1, 3) := by decide +kernel
theorem dX4_luck_129 : decode cX4_luck 129 = .ok (.goto (-71), 3) := by decide +kernel
theorem dX4_luck_132 : decode cX4_luck 132 = .ok (.lload 5, 2) := by decide +kernel
theorem dX4_luck_134 : decode cX4_luck 134 = .ok (.lload 7, 2) := by decide +kernel
theorem dX4_luck_136 : decode cX4_luck 136 = .ok (.iload 4, 2) := by decide +kernel
theorem dX4_luck_138 : decode cX4_luck 138 = .ok (.invokestatic 175, 3) := by decide +kernel
theorem dX4_luck_141 : decode cX4_luck 141 = .ok (.lreturn, 1) := by decide +kernel
theorem dX4_mean_0 : decode cX4_mean 0 = .ok (.iload_n 1, 1) := by decide +kernel
theorem dX4_mean_1 : decode cX4_mean 1 = .ok (.iconst 0, 1) := by decide +kernel
theorem dX4_mean_2 : decode cX4_mean 2 = .ok (.bipush 10, 2) := by decide +kernel
theorem dX4_mean_4 : decode cX4_mean 4 = .ok (.invokestatic 45, 3) := by decide +kernel
theorem dX4_mean_7 : decode cX4_mean 7 = .ok (.ifCond .ne 22, 3) := by decide +kernel
theorem dX4_mean_10 : decode cX4_mean 10 = .ok (.iload_n 2, 1) := by decide +kernel
theorem dX4_mean_11 : decode cX4_mean 11 = .ok (.iconst 0, 1) := by decide +kernel
theorem dX4_mean_12 : decode cX4_mean 12 = .ok (.bipush 8, 2) := by decide +kernel
theorem dX4_mean_14 : decode cX4_mean 14 = .ok (.invokestatic 45, 3) := by decide +kernel
theorem dX4_mean_17 : decode cX4_mean 17 = .ok (.ifCond .ne 12, 3) := by decide +kernel
theorem dX4_mean_20 : decode cX4_mean 20 = .ok (.iload_n 3, 1) := by decide +kernel
theorem dX4_mean_21 : decode cX4_mean 21 = .ok (.iconst 0, 1) := by decide +kernel
theorem dX4_mean_22 : decode cX4_mean 22 = .ok (.iconst 1, 1) := by decide +kernel
theorem dX4_mean_23 : decode cX4_mean 23 = .ok (.invokestatic 45, 3) := by decide +kernel
theorem dX4_mean_26 : decode cX4_mean 26 = .ok (.ifCond .eq 7, 3) := by decide +kernel
theorem dX4_mean_29 : decode cX4_mean 29 = .ok (.ldc2_w 168, 3) := by decide +kernel
theorem dX4_mean_32 : decode cX4_mean 32 = .ok (.lreturn, 1) := by decide +kernel
theorem dX4_mean_33 : decode cX4_mean 33 = .ok (.aload_n 0, 1) := by decide +kernel
theorem dX4_mean_34 : decode cX4_mean 34 = .ok (.invokevirtual 170, 3) := by decide +kernel
theorem dX4_mean_37 : decode cX4_mean 37 = .ok (.aload_n 0, 1) := by decide +kernel
theorem dX4_mean_38 : decode cX4_mean 38 = .ok (.getfield 10, 3) := by decide +kernel
theorem dX4_mean_41 : decode cX4_mean 41 = .ok (.iload_n 2, 1) := by decide +kernel
theorem dX4_mean_42 : decode cX4_mean 42 = .ok (.invokevirtual 133, 3) := by decide +kernel
theorem dX4_mean_45 : decode cX4_mean 45 = .ok (.i2l, 1) := by decide +kernel
theorem dX4_mean_46 : decode cX4_mean 46 = .ok (.lstore 4, 2) := by decide +kernel
theorem dX4_mean_48 : decode cX4_mean 48 = .ok (.aload_n 0, 1) := by decide +kernel
theorem dX4_mean_49 : decode cX4_mean 49 = .ok (.getfield 16, 3) := by decide +kernel
theorem dX4_mean_52 : decode cX4_mean 52 = .ok (.iload_n 2, 1) := by decide +kernel
theorem dX4_mean_53 : decode cX4_mean 53 = .ok (.invokevirtual 133, 3) := by decide +kernel
theorem dX4_mean_56 : decode cX4_mean 56 = .ok (.i2l, 1) := by decide +kernel
theorem dX4_mean_57 : decode cX4_mean 57 = .ok (.lstore 6, 2) := by decide +kernel
theorem dX4_mean_59 : decode cX4_mean 59 = .ok (.lload 4, 2) := by decide +kernel
theorem dX4_mean_61 : decode cX4_mean 61 = .ok (.bipush 10, 2) := by decide +kernel
theorem dX4_mean_63 : decode cX4_mean 63 = .ok (.iload_n 1, 1) := by decide +kernel
theorem dX4_mean_64 : decode cX4_mean 64 = .ok (.isub, 1) := by decide +kernel
theorem dX4_mean_65 : decode cX4_mean 65 = .ok (.i2l, 1) := by decide +kernel
theorem dX4_mean_66 : decode cX4_mean 66 = .ok (.lmul, 1) := by decide +kernel
theorem dX4_mean_67 : decode cX4_mean 67 = .ok (.lload 6, 2) := by decide +kernel
theorem dX4_mean_69 : decode cX4_mean 69 = .ok (.iload_n 1, 1) := by decide +kernel
theorem dX4_mean_70 : decode cX4_mean 70 = .ok (.i2l, 1) := by decide +kernel
theorem dX4_mean_71 : decode cX4_mean 71 = .ok (.lmul, 1) := by decide +kernel
theorem dX4_mean_72 : decode cX4_mean 72 = .ok (.ladd, 1) := by decide +kernel
theorem dX4_mean_73 : decode cX4_mean 73 = .ok (.ldc2_w 173, 3) := by decide +kernel
theorem dX4_mean_76 : decode cX4_mean 76 = .ok (.iload_n 3, 1) := by decide +kernel
theorem dX4_mean_77 : decode cX4_mean 77 = .ok (.invokestatic 175, 3) := by decide +kernel
theorem dX4_mean_80 : decode cX4_mean 80 = .ok (.lreturn, 1) := by decide +kernel
theorem dX4_see_0 : decode cX4_see 0 = .ok (.iload_n 1, 1) := by decide +kernel
theorem dX4_see_1 : decode cX4_see 1 = .ok (.iconst 0, 1) := by decide +kernel
theorem dX4_see_2 : decode cX4_see 2 = .ok (.bipush 20, 2) := by decide +kernel
theorem dX4_see_4 : decode cX4_see 4 = .ok (.invokestatic 45, 3) := by decide +kernel
theorem dX4_see_7 : decode cX4_see 7 = .ok (.ifCond .ne 24, 3) := by decide +kernel
theorem dX4_see_10 : decode cX4_see 10 = .ok (.iload_n 2, 1) := by decide +kernel
theorem dX4_see_11 : decode cX4_see 11 = .ok (.iconst 0, 1) := by decide +kernel
theorem dX4_see_12 : decode cX4_see 12 = .ok (.bipush 7, 2) := by decide +kernel
theorem dX4_see_14 : decode cX4_see 14 = .ok (.invokestatic 45, 3) := by decide +kernel
theorem dX4_see_17 : decode cX4_see 17 = .ok (.ifCond .ne 14, 3) := by decide +kernel
theorem dX4_see_20 : decode cX4_see 20 = .ok (.iload_n 3, 1) := by decide +kernel
theorem dX4_see_21 : decode cX4_see 21 = .ok (.iconst 0, 1) := by decide +kernel
theorem dX4_see_22 : decode cX4_see 22 = .ok (.sipush 255, 3) := by decide +kernel
theorem dX4_see_25 : decode cX4_see 25 = .ok (.invokestatic 45, 3) := by decide +kernel
theorem dX4_see_28 : decode cX4_see 28 = .ok (.ifCond .eq 5, 3) := by decide +kernel
theorem dX4_see_31 : decode cX4_see 31 = .ok (.iconst (-1), 1) := by decide +kernel
theorem dX4_see_32 : decode cX4_see 32 = .ok (.ireturn, 1) := by decide +kernel
theorem dX4_see_33 : decode cX4_see 33 = .ok (.aload_n 0, 1) := by decide +kernel
theorem dX4_see_34 : decode cX4_see 34 = .ok (.getfield 10, 3) := by decide +kernel
theorem dX4_see_37 : decode cX4_see 37 = .ok (.iload_n 1, 1) := by decide +kernel
theorem dX4_see_38 : decode cX4_see 38 = .ok (.iload_n 2, 1) := by decide +kernel
theorem dX4_see_39 : decode cX4_see 39 = .ok (.iload_n 3, 1) := by decide +kernel
theorem dX4_see_40 : decode cX4_see 40 = .ok (.invokevirtual 179, 3) := by decide +kernel
theorem dX4_see_43 : decode cX4_see 43 = .ok (.ifCond .eq 13, 3) := by decide +kernel
theorem dX4_see_46 : decode cX4_see 46 = .ok (.aload_n 0, 1) := by decide +kernel
theorem dX4_see_47 : decode cX4_see 47 = .ok (.getfield 10, 3) := by decide +kernel
theorem dX4_see_50 : decode cX4_see 50 = .ok (.getfield 182, 3) := by decide +kernel
theorem dX4_see_53 : decode cX4_see 53 = .ok (.goto 5, 3) := by decide +kernel
theorem dX4_see_56 : decode cX4_see 56 = .ok (.bipush (-3), 2) := by decide +kernel
theorem dX4_see_58 : decode cX4_see 58 = .ok (.ireturn, 1) := by decide +kernel
theorem dX4_forget_0 : decode cX4_forget 0 = .ok (.iload_n 1, 1) := by decide +kernel
theorem dX4_forget_1 : decode cX4_forget 1 = .ok (.iconst 0, 1) := by decide +kernel
theorem dX4_forget_2 : decode cX4_forget 2 = .ok (.aload_n 0, 1) := by decide +kernel
theorem dX4_forget_3 : decode cX4_forget 3 = .ok (.getfield 10, 3) := by decide +kernel
theorem dX4_forget_6 : decode cX4_forget 6 = .ok (.getfield 182, 3) := by decide +kernel
theorem dX4_forget_9 : decode cX4_forget 9 = .ok (.invokestatic 45, 3) := by decide +kernel
theorem dX4_forget_12 : decode cX4_forget 12 = .ok (.ifCond .eq 5, 3) := by decide +kernel
theorem dX4_forget_15 : decode cX4_forget 15 = .ok (.iconst (-1), 1) := by decide +kernel
theorem dX4_forget_16 : decode cX4_forget 16 = .ok (.ireturn, 1) := by decide +kernel
theorem dX4_forget_17 : decode cX4_forget 17 = .ok (.aload_n 0, 1) := by decide +kernel
theorem dX4_forget_18 : decode cX4_forget 18 = .ok (.getfield 10, 3) := by decide +kernel
theorem dX4_forget_21 : decode cX4_forget 21 = .ok (.getfield 182, 3) := by decide +kernel
theorem dX4_forget_24 : decode cX4_forget 24 = .ok (.istore_n 2, 1) := by decide +kernel
theorem dX4_forget_25 : decode cX4_forget 25 = .ok (.aload_n 0, 1) := by decide +kernel
theorem dX4_forget_26 : decode cX4_forget 26 = .ok (.getfield 10, 3) := by decide +kernel
theorem dX4_forget_29 : decode cX4_forget 29 = .ok (.iload_n 1, 1) := by decide +kernel
theorem dX4_forget_30 : decode cX4_forget 30 = .ok (.putfield 182, 3) := by decide +kernel
theorem dX4_forget_33 : decode cX4_forget 33 = .ok (.iload_n 2, 1) := by decide +kernel
theorem dX4_forget_34 : decode cX4_forget 34 = .ok (.ireturn, 1) := by decide +kernel
theorem dX4_kinds_0 : decode cX4_kinds 0 = .ok (.aload_n 0, 1) := by decide +kernel
theorem dX4_kinds_1 : decode cX4_kinds 1 = .ok (.iload_n 1, 1) := by decide +kernel
theorem dX4_kinds_2 : decode cX4_kinds 2 = .ok (.iconst 0, 1) := by decide +kernel
theorem dX4_kinds_3 : decode cX4_kinds 3 = .ok (.invokevirtual 185, 3) := by decide +kernel
theorem dX4_kinds_6 : decode cX4_kinds 6 = .ok (.ireturn, 1) := by decide +kernel
theorem dX4_phases_0 : decode cX4_phases 0 = .ok (.aload_n 0, 1) := by decide +kernel
theorem dX4_phases_1 : decode cX4_phases 1 = .ok (.iload_n 1, 1) := by decide +kernel
theorem dX4_phases_2 : decode cX4_phases 2 = .ok (.iconst 3, 1) := by decide +kernel
theorem dX4_phases_3 : decode cX4_phases 3 = .ok (.invokevirtual 185, 3) := by decide +kernel
theorem dX4_phases_6 : decode cX4_phases 6 = .ok (.ireturn, 1) := by decide +kernel
theorem dX4_ask_0 : decode cX4_ask 0 = .ok (.aload_n 0, 1) := by decide +kernel
theorem dX4_ask_1 : decode cX4_ask 1 = .ok (.getfield 10, 3) := by decide +kernel
theorem dX4_ask_4 : decode cX4_ask 4 = .ok (.iload_n 1, 1) := by decide +kernel
theorem dX4_ask_5 : decode cX4_ask 5 = .ok (.invokevirtual 84, 3) := by decide +kernel
theorem dX4_ask_8 : decode cX4_ask 8 = .ok (.ifnull 12, 3) := by decide +kernel
theorem dX4_ask_11 : decode cX4_ask 11 = .ok (.iload_n 2, 1) := by decide +kernel
theorem dX4_ask_12 : decode cX4_ask 12 = .ok (.iconst 0, 1) := by decide +kernel
theorem dX4_ask_13 : decode cX4_ask 13 = .ok (.iconst 1, 1) := by decide +kernel
theorem dX4_ask_14 : decode cX4_ask 14 = .ok (.invokestatic 45, 3) := by decide +kernel
theorem dX4_ask_17 : decode cX4_ask 17 = .ok (.ifCond .eq 5, 3) := by decide +kernel
theorem dX4_ask_20 : decode cX4_ask 20 = .ok (.iconst (-1), 1) := by decide +kernel
theorem dX4_ask_21 : decode cX4_ask 21 = .ok (.ireturn, 1) := by decide +kernel
theorem dX4_ask_22 : decode cX4_ask 22 = .ok (.aload_n 0, 1) := by decide +kernel
theorem dX4_ask_23 : decode cX4_ask 23 = .ok (.iload_n 1, 1) := by decide +kernel
theorem dX4_ask_24 : decode cX4_ask 24 = .ok (.iconst 3, 1) := by decide +kernel
theorem dX4_ask_25 : decode cX4_ask 25 = .ok (.invokevirtual 185, 3) := by decide +kernel
theorem dX4_ask_28 : decode cX4_ask 28 = .ok (.istore_n 3, 1) := by decide +kernel
theorem dX4_ask_29 : decode cX4_ask 29 = .ok (.bipush (-4), 2) := by decide +kernel
theorem dX4_ask_31 : decode cX4_ask 31 = .ok (.istore 4, 2) := by decide +kernel
theorem dX4_ask_33 : decode cX4_ask 33 = .ok (.iload_n 3, 1) := by decide +kernel
theorem dX4_ask_34 : decode cX4_ask 34 = .ok (.invokestatic 188, 3) := by decide +kernel
theorem dX4_ask_37 : decode cX4_ask 37 = .ok (.istore 5, 2) := by decide +kernel
theorem dX4_ask_39 : decode cX4_ask 39 = .ok (.iconst 0, 1) := by decide +kernel
theorem dX4_ask_40 : decode cX4_ask 40 = .ok (.istore 6, 2) := by decide +kernel
theorem dX4_ask_42 : decode cX4_ask 42 = .ok (.iload 6, 2) := by decide +kernel
theorem dX4_ask_44 : decode cX4_ask 44 = .ok (.bipush 20, 2) := by decide +kernel
theorem dX4_ask_46 : decode cX4_ask 46 = .ok (.if_icmp .gt 65, 3) := by decide +kernel
theorem dX4_ask_49 : decode cX4_ask 49 = .ok (.iconst 0, 1) := by decide +kernel
theorem dX4_ask_50 : decode cX4_ask 50 = .ok (.istore 7, 2) := by decide +kernel
theorem dX4_ask_52 : decode cX4_ask 52 = .ok (.iload 7, 2) := by decide +kernel
theorem dX4_ask_54 : decode cX4_ask 54 = .ok (.aload_n 0, 1) := by decide +kernel
theorem dX4_ask_55 : decode cX4_ask 55 = .ok (.getfield 10, 3) := by decide +kernel
theorem dX4_ask_58 : decode cX4_ask 58 = .ok (.getfield 77, 3) := by decide +kernel
theorem dX4_ask_61 : decode cX4_ask 61 = .ok (.iconst 0, 1) := by decide +kernel
theorem dX4_ask_62 : decode cX4_ask 62 = .ok (.iaload, 1) := by decide +kernel
theorem dX4_ask_63 : decode cX4_ask 63 = .ok (.if_icmp .ge 42, 3) := by decide +kernel
theorem dX4_ask_66 : decode cX4_ask 66 = .ok (.aload_n 0, 1) := by decide +kernel
theorem dX4_ask_67 : decode cX4_ask 67 = .ok (.iload_n 1, 1) := by decide +kernel
theorem dX4_ask_68 : decode cX4_ask 68 = .ok (.iload_n 3, 1) := by decide +kernel
theorem dX4_ask_69 : decode cX4_ask 69 = .ok (.iload 6, 2) := by decide +kernel
theorem dX4_ask_71 : decode cX4_ask 71 = .ok (.iload 7, 2) := by decide +kernel
theorem dX4_ask_73 : decode cX4_ask 73 = .ok (.invokevirtual 193, 3) := by decide +kernel
theorem dX4_ask_76 : decode cX4_ask 76 = .ok (.istore 8, 2) := by decide +kernel
theorem dX4_ask_78 : decode cX4_ask 78 = .ok (.iload 8, 2) := by decide +kernel
theorem dX4_ask_80 : decode cX4_ask 80 = .ok (.iload 5, 2) := by decide +kernel
theorem dX4_ask_82 : decode cX4_ask 82 = .ok (.if_icmp .ge 17, 3) := by decide +kernel
theorem dX4_ask_85 : decode cX4_ask 85 = .ok (.iload 8, 2) := by decide +kernel
theorem dX4_ask_87 : decode cX4_ask 87 = .ok (.istore 5, 2) := by decide +kernel
theorem dX4_ask_89 : decode cX4_ask 89 = .ok (.bipush 10, 2) := by decide +kernel
theorem dX4_ask_91 : decode cX4_ask 91 = .ok (.iload 6, 2) := by decide +kernel
theorem dX4_ask_93 : decode cX4_ask 93 = .ok (.imul, 1) := by decide +kernel
theorem dX4_ask_94 : decode cX4_ask 94 = .ok (.iload 7, 2) := by decide +kernel
theorem dX4_ask_96 : decode cX4_ask 96 = .ok (.iadd, 1) := by decide +kernel
theorem dX4_ask_97 : decode cX4_ask 97 = .ok (.istore 4, 2) := by decide +kernel
theorem dX4_ask_99 : decode cX4_ask 99 = .ok (.iinc 7 1, 3) := by decide +kernel
theorem dX4_ask_102 : decode cX4_ask 102 = .ok (.goto (-50), 3) := by decide +kernel
theorem dX4_ask_105 : decode cX4_ask 105 = .ok (.iinc 6 1, 3) := by decide +kernel
theorem dX4_ask_108 : decode cX4_ask 108 = .ok (.goto (-66), 3) := by decide +kernel
theorem dX4_ask_111 : decode cX4_ask 111 = .ok (.iload_n 2, 1) := by decide +kernel
theorem dX4_ask_112 : decode cX4_ask 112 = .ok (.ifCond .eq 10, 3) := by decide +kernel
theorem dX4_ask_115 : decode cX4_ask 115 = .ok (.iload 4, 2) := by decide +kernel
theorem dX4_ask_117 : decode cX4_ask 117 = .ok (.bipush (-4), 2) := by decide +kernel
theorem dX4_ask_119 : decode cX4_ask 119 = .ok (.if_icmp .ne 8, 3) := by decide +kernel
theorem dX4_ask_122 : decode cX4_ask 122 = .ok (.iload 4, 2) := by decide +kernel
theorem dX4_ask_124 : decode cX4_ask 124 = .ok (.goto 5, 3) := by decide +kernel
theorem dX4_ask_127 : decode cX4_ask 127 = .ok (.iload 5, 2) := by decide +kernel
theorem dX4_ask_129 : decode cX4_ask 129 = .ok (.ireturn, 1) := by decide +kernel
theorem dX4_drift_0 : decode cX4_drift 0 = .ok (.iload_n 2, 1) := by decide +kernel
theorem dX4_drift_1 : decode cX4_drift 1 = .ok (.iconst 1, 1) := by decide +kernel
theorem dX4_drift_2 : decode cX4_drift 2 = .ok (.bipush 40, 2) := by decide +kernel
theorem dX4_drift_4 : decode cX4_drift 4 = .ok (.invokestatic 45, 3) := by decide +kernel
theorem dX4_drift_7 : decode cX4_drift 7 = .ok (.ifCond .ne 12, 3) := by decide +kernel
theorem dX4_drift_10 : decode cX4_drift 10 = .ok (.iload_n 3, 1) := by decide +kernel
theorem dX4_drift_11 : decode cX4_drift 11 = .ok (.iconst 0, 1) := by decide +kernel
theorem dX4_drift_12 : decode cX4_drift 12 = .ok (.iconst 1, 1) := by decide +kernel
theorem dX4_drift_13 : decode cX4_drift 13 = .ok (.invokestatic 45, 3) := by decide +kernel
theorem dX4_drift_16 : decode cX4_drift 16 = .ok (.ifCond .eq 5, 3) := by decide +kernel
theorem dX4_drift_19 : decode cX4_drift 19 = .ok (.iconst (-1), 1) := by decide +kernel
theorem dX4_drift_20 : decode cX4_drift 20 = .ok (.ireturn, 1) := by decide +kernel
theorem dX4_drift_21 : decode cX4_drift 21 = .ok (.aload_n 0, 1) := by decide +kernel
theorem dX4_drift_22 : decode cX4_drift 22 = .ok (.getfield 10, 3) := by decide +kernel
theorem dX4_drift_25 : decode cX4_drift 25 = .ok (.getfield 68, 3) := by decide +kernel
theorem dX4_drift_28 : decode cX4_drift 28 = .ok (.iconst 1, 1) := by decide +kernel
theorem dX4_drift_29 : decode cX4_drift 29 = .ok (.if_icmp .ge 6, 3) := by decide +kernel
theorem dX4_drift_32 : decode cX4_drift 32 = .ok (.bipush (-2), 2) := by decide +kernel
theorem dX4_drift_34 : decode cX4_drift 34 = .ok (.ireturn, 1) := by decide +kernel
theorem dX4_drift_35 : decode cX4_drift 35 = .ok (.aload_n 0, 1) := by decide +kernel
theorem dX4_drift_36 : decode cX4_drift 36 = .ok (.getfield 16, 3) := by decide +kernel
theorem dX4_drift_39 : decode cX4_drift 39 = .ok (.aload_n 0, 1) := by decide +kernel
theorem dX4_drift_40 : decode cX4_drift 40 = .ok (.getfield 10, 3) := by decide +kernel
theorem dX4_drift_43 : decode cX4_drift 43 = .ok (.invokevirtual 64, 3) := by decide +kernel
theorem dX4_drift_46 : decode cX4_drift 46 = .ok (.iconst 0, 1) := by decide +kernel
theorem dX4_drift_47 : decode cX4_drift 47 = .ok (.istore 4, 2) := by decide +kernel
theorem dX4_drift_49 : decode cX4_drift 49 = .ok (.iconst 0, 1) := by decide +kernel
theorem dX4_drift_50 : decode cX4_drift 50 = .ok (.istore 5, 2) := by decide +kernel
theorem dX4_drift_52 : decode cX4_drift 52 = .ok (.iload_n 1, 1) := by decide +kernel
theorem dX4_drift_53 : decode cX4_drift 53 = .ok (.istore 6, 2) := by decide +kernel
theorem dX4_drift_55 : decode cX4_drift 55 = .ok (.iconst 0, 1) := by decide +kernel
theorem dX4_drift_56 : decode cX4_drift 56 = .ok (.istore 7, 2) := by decide +kernel
theorem dX4_drift_58 : decode cX4_drift 58 = .ok (.iload 7, 2) := by decide +kernel
theorem dX4_drift_60 : decode cX4_drift 60 = .ok (.iload_n 2, 1) := by decide +kernel
theorem dX4_drift_61 : decode cX4_drift 61 = .ok (.if_icmp .ge 91, 3) := by decide +kernel
theorem dX4_drift_64 : decode cX4_drift 64 = .ok (.iload 6, 2) := by decide +kernel
theorem dX4_drift_66 : decode cX4_drift 66 = .ok (.ldc 196, 2) := by decide +kernel
theorem dX4_drift_68 : decode cX4_drift 68 = .ok (.imul, 1) := by decide +kernel
theorem dX4_drift_69 : decode cX4_drift 69 = .ok (.sipush 12345, 3) := by decide +kernel
theorem dX4_drift_72 : decode cX4_drift 72 = .ok (.iadd, 1) := by decide +kernel
theorem dX4_drift_73 : decode cX4_drift 73 = .ok (.istore 6, 2) := by decide +kernel
theorem dX4_drift_75 : decode cX4_drift 75 = .ok (.iload 6, 2) := by decide +kernel
theorem dX4_drift_77 : decode cX4_drift 77 = .ok (.bipush 16, 2) := by decide +kernel
theorem dX4_drift_79 : decode cX4_drift 79 = .ok (.iushr, 1) := by decide +kernel
theorem dX4_drift_80 : decode cX4_drift 80 = .ok (.sipush 32767, 3) := by decide +kernel
theorem dX4_drift_83 : decode cX4_drift 83 = .ok (.iand, 1) := by decide +kernel
theorem dX4_drift_84 : decode cX4_drift 84 = .ok (.istore 8, 2) := by decide +kernel
theorem dX4_drift_86 : decode cX4_drift 86 = .ok (.aload_n 0, 1) := by decide +kernel
theorem dX4_drift_87 : decode cX4_drift 87 = .ok (.getfield 16, 3) := by decide +kernel
theorem dX4_drift_90 : decode cX4_drift 90 = .ok (.getfield 158, 3) := by decide +kernel
theorem dX4_drift_93 : decode cX4_drift 93 = .ok (.iload 8, 2) := by decide +kernel
theorem dX4_drift_95 : decode cX4_drift 95 = .ok (.aload_n 0, 1) := by decide +kernel
theorem dX4_drift_96 : decode cX4_drift 96 = .ok (.getfield 10, 3) := by decide +kernel
theorem dX4_drift_99 : decode cX4_drift 99 = .ok (.getfield 68, 3) := by decide +kernel
theorem dX4_drift_102 : decode cX4_drift 102 = .ok (.irem, 1) := by decide +kernel
theorem dX4_drift_103 : decode cX4_drift 103 = .ok (.aaload, 1) := by decide +kernel
theorem dX4_drift_104 : decode cX4_drift 104 = .ok (.iconst 3, 1) := by decide +kernel
theorem dX4_drift_105 : decode cX4_drift 105 = .ok (.iload 8, 2) := by decide +kernel
theorem dX4_drift_107 : decode cX4_drift 107 = .ok (.bipush 8, 2) := by decide +kernel
theorem dX4_drift_109 : decode cX4_drift 109 = .ok (.idiv, 1) := by decide +kernel
theorem dX4_drift_110 : decode cX4_drift 110 = .ok (.bipush 12, 2) := by decide +kernel
theorem dX4_drift_112 : decode cX4_drift 112 = .ok (.irem, 1) := by decide +kernel
theorem dX4_drift_113 : decode cX4_drift 113 = .ok (.invokevirtual 107, 3) := by decide +kernel
theorem dX4_drift_116 : decode cX4_drift 116 = .ok (.iload 4, 2) := by decide +kernel
theorem dX4_drift_118 : decode cX4_drift 118 = .ok (.aload_n 0, 1) := by decide +kernel
theorem dX4_drift_119 : decode cX4_drift 119 = .ok (.getfield 16, 3) := by decide +kernel
theorem dX4_drift_122 : decode cX4_drift 122 = .ok (.iload 7, 2) := by decide +kernel
theorem dX4_drift_124 : decode cX4_drift 124 = .ok (.invokevirtual 142, 3) := by decide +kernel
theorem dX4_drift_127 : decode cX4_drift 127 = .ok (.invokestatic 197, 3) := by decide +kernel
theorem dX4_drift_130 : decode cX4_drift 130 = .ok (.istore 4, 2) := by decide +kernel
theorem dX4_drift_132 : decode cX4_drift 132 = .ok (.iload 5, 2) := by decide +kernel
theorem dX4_drift_134 : decode cX4_drift 134 = .ok (.aload_n 0, 1) := by decide +kernel
theorem dX4_drift_135 : decode cX4_drift 135 = .ok (.getfield 16, 3) := by decide +kernel
theorem dX4_drift_138 : decode cX4_drift 138 = .ok (.iload 7, 2) := by decide +kernel
theorem dX4_drift_140 : decode cX4_drift 140 = .ok (.invokevirtual 202, 3) := by decide +kernel
theorem dX4_drift_143 : decode cX4_drift 143 = .ok (.iadd, 1) := by decide +kernel
theorem dX4_drift_144 : decode cX4_drift 144 = .ok (.istore 5, 2) := by decide +kernel
theorem dX4_drift_146 : decode cX4_drift 146 = .ok (.iinc 7 1, 3) := by decide +kernel
theorem dX4_drift_149 : decode cX4_drift 149 = .ok (.goto (-91), 3) := by decide +kernel
theorem dX4_drift_152 : decode cX4_drift 152 = .ok (.iload_n 3, 1) := by decide +kernel
theorem dX4_drift_153 : decode cX4_drift 153 = .ok (.ifCond .ne 8, 3) := by decide +kernel
theorem dX4_drift_156 : decode cX4_drift 156 = .ok (.iload 4, 2) := by decide +kernel
theorem dX4_drift_158 : decode cX4_drift 158 = .ok (.goto 5, 3) := by decide +kernel
theorem dX4_drift_161 : decode cX4_drift 161 = .ok (.iload 5, 2) := by decide +kernel
theorem dX4_drift_163 : decode cX4_drift 163 = .ok (.ireturn, 1) := by decide +kernel
theorem dX4_keep_0 : decode cX4_keep 0 = .ok (.iload_n 1, 1) := by decide +kernel
theorem dX4_keep_1 : decode cX4_keep 1 = .ok (.iconst 0, 1) := by decide +kernel
theorem dX4_keep_2 : decode cX4_keep 2 = .ok (.iconst 1, 1) := by decide +kernel
theorem dX4_keep_3 : decode cX4_keep 3 = .ok (.invokestatic 45, 3) := by decide +kernel
theorem dX4_keep_6 : decode cX4_keep 6 = .ok (.ifCond .eq 5, 3) := by decide +kernel
theorem dX4_keep_9 : decode cX4_keep 9 = .ok (.iconst (-1), 1) := by decide +kernel
theorem dX4_keep_10 : decode cX4_keep 10 = .ok (.ireturn, 1) := by decide +kernel
theorem dX4_keep_11 : decode cX4_keep 11 = .ok (.aload_n 0, 1) := by decide +kernel
theorem dX4_keep_12 : decode cX4_keep 12 = .ok (.getfield 23, 3) := by decide +kernel
theorem dX4_keep_15 : decode cX4_keep 15 = .ok (.iload_n 1, 1) := by decide +kernel
theorem dX4_keep_16 : decode cX4_keep 16 = .ok (.baload, 1) := by decide +kernel
theorem dX4_keep_17 : decode cX4_keep 17 = .ok (.ifCond .eq 7, 3) := by decide +kernel
theorem dX4_keep_20 : decode cX4_keep 20 = .ok (.iconst 1, 1) := by decide +kernel
theorem dX4_keep_21 : decode cX4_keep 21 = .ok (.goto 4, 3) := by decide +kernel
theorem dX4_keep_24 : decode cX4_keep 24 = .ok (.iconst 0, 1) := by decide +kernel
theorem dX4_keep_25 : decode cX4_keep 25 = .ok (.istore_n 2, 1) := by decide +kernel
theorem dX4_keep_26 : decode cX4_keep 26 = .ok (.aload_n 0, 1) := by decide +kernel
theorem dX4_keep_27 : decode cX4_keep 27 = .ok (.getfield 19, 3) := by decide +kernel
theorem dX4_keep_30 : decode cX4_keep 30 = .ok (.iload_n 1, 1) := by decide +kernel
theorem dX4_keep_31 : decode cX4_keep 31 = .ok (.aaload, 1) := by decide +kernel
theorem dX4_keep_32 : decode cX4_keep 32 = .ok (.aload_n 0, 1) := by decide +kernel
theorem dX4_keep_33 : decode cX4_keep 33 = .ok (.getfield 10, 3) := by decide +kernel
theorem dX4_keep_36 : decode cX4_keep 36 = .ok (.invokevirtual 64, 3) := by decide +kernel
theorem dX4_keep_39 : decode cX4_keep 39 = .ok (.aload_n 0, 1) := by decide +kernel
theorem dX4_keep_40 : decode cX4_keep 40 = .ok (.getfield 23, 3) := by decide +kernel
theorem dX4_keep_43 : decode cX4_keep 43 = .ok (.iload_n 1, 1) := by decide +kernel
theorem dX4_keep_44 : decode cX4_keep 44 = .ok (.iconst 1, 1) := by decide +kernel
theorem dX4_keep_45 : decode cX4_keep 45 = .ok (.bastore, 1) := by decide +kernel
theorem dX4_keep_46 : decode cX4_keep 46 = .ok (.iload_n 2, 1) := by decide +kernel
theorem dX4_keep_47 : decode cX4_keep 47 = .ok (.ireturn, 1) := by decide +kernel
theorem dX4_back_0 : decode cX4_back 0 = .ok (.iload_n 1, 1) := by decide +kernel
theorem dX4_back_1 : decode cX4_back 1 = .ok (.iconst 0, 1) := by decide +kernel
theorem dX4_back_2 : decode cX4_back 2 = .ok (.iconst 1, 1) := by decide +kernel
theorem dX4_back_3 : decode cX4_back 3 = .ok (.invokestatic 45, 3) := by decide +kernel
theorem dX4_back_6 : decode cX4_back 6 = .ok (.ifCond .eq 5, 3) := by decide +kernel
theorem dX4_back_9 : decode cX4_back 9 = .ok (.iconst (-1), 1) := by decide +kernel
theorem dX4_back_10 : decode cX4_back 10 = .ok (.ireturn, 1) := by decide +kernel
theorem dX4_back_11 : decode cX4_back 11 = .ok (.aload_n 0, 1) := by decide +kernel
theorem dX4_back_12 : decode cX4_back 12 = .ok (.getfield 23, 3) := by decide +kernel
theorem dX4_back_15 : decode cX4_back 15 = .ok (.iload_n 1, 1) := by decide +kernel
theorem dX4_back_16 : decode cX4_back 16 = .ok (.baload, 1) := by decide +kernel
theorem dX4_back_17 : decode cX4_back 17 = .ok (.ifCond .ne 6, 3) := by decide +kernel
theorem dX4_back_20 : decode cX4_back 20 = .ok (.bipush (-2), 2) := by decide +kernel
theorem dX4_back_22 : decode cX4_back 22 = .ok (.ireturn, 1) := by decide +kernel
theorem dX4_back_23 : decode cX4_back 23 = .ok (.aload_n 0, 1) := by decide +kernel
theorem dX4_back_24 : decode cX4_back 24 = .ok (.getfield 10, 3) := by decide +kernel
theorem dX4_back_27 : decode cX4_back 27 = .ok (.aload_n 0, 1) := by decide +kernel
theorem dX4_back_28 : decode cX4_back 28 = .ok (.getfield 19, 3) := by decide +kernel
theorem dX4_back_31 : decode cX4_back 31 = .ok (.iload_n 1, 1) := by decide +kernel
theorem dX4_back_32 : decode cX4_back 32 = .ok (.aaload, 1) := by decide +kernel
theorem dX4_back_33 : decode cX4_back 33 = .ok (.invokevirtual 64, 3) := by decide +kernel
theorem dX4_back_36 : decode cX4_back 36 = .ok (.aload_n 0, 1) := by decide +kernel
theorem dX4_back_37 : decode cX4_back 37 = .ok (.getfield 10, 3) := by decide +kernel
theorem dX4_back_40 : decode cX4_back 40 = .ok (.getfield 74, 3) := by decide +kernel
theorem dX4_back_43 : decode cX4_back 43 = .ok (.ireturn, 1) := by decide +kernel
theorem dX4_sheet_0 : decode cX4_sheet 0 = .ok (.iload_n 1, 1) := by decide +kernel
theorem dX4_sheet_1 : decode cX4_sheet 1 = .ok (.iconst 0, 1) := by decide +kernel
theorem dX4_sheet_2 : decode cX4_sheet 2 = .ok (.iconst 3, 1) := by decide +kernel
theorem dX4_sheet_3 : decode cX4_sheet 3 = .ok (.invokestatic 45, 3) := by decide +kernel
theorem dX4_sheet_6 : decode cX4_sheet 6 = .ok (.ifCond .ne 18, 3) := by decide +kernel
theorem dX4_sheet_9 : decode cX4_sheet 9 = .ok (.iload_n 2, 1) := by decide +kernel
theorem dX4_sheet_10 : decode cX4_sheet 10 = .ok (.iconst 0, 1) := by decide +kernel
theorem dX4_sheet_11 : decode cX4_sheet 11 = .ok (.iconst 2, 1) := by decide +kernel
theorem dX4_sheet_12 : decode cX4_sheet 12 = .ok (.invokestatic 45, 3) := by decide +kernel
theorem dX4_sheet_15 : decode cX4_sheet 15 = .ok (.ifCond .ne 9, 3) := by decide +kernel
theorem dX4_sheet_18 : decode cX4_sheet 18 = .ok (.iload_n 3, 1) := by decide +kernel
theorem dX4_sheet_19 : decode cX4_sheet 19 = .ok (.bipush 40, 2) := by decide +kernel
theorem dX4_sheet_21 : decode cX4_sheet 21 = .ok (.if_icmp .le 5, 3) := by decide +kernel
theorem dX4_sheet_24 : decode cX4_sheet 24 = .ok (.iconst (-1), 1) := by decide +kernel
theorem dX4_sheet_25 : decode cX4_sheet 25 = .ok (.ireturn, 1) := by decide +kernel
theorem dX4_sheet_26 : decode cX4_sheet 26 = .ok (.iload_n 3, 1) := by decide +kernel
theorem dX4_sheet_27 : decode cX4_sheet 27 = .ok (.ifCond .ge 6, 3) := by decide +kernel
theorem dX4_sheet_30 : decode cX4_sheet 30 = .ok (.bipush (-14), 2) := by decide +kernel
theorem dX4_sheet_32 : decode cX4_sheet 32 = .ok (.ireturn, 1) := by decide +kernel
theorem dX4_sheet_33 : decode cX4_sheet 33 = .ok (.aload_n 0, 1) := by decide +kernel
theorem dX4_sheet_34 : decode cX4_sheet 34 = .ok (.getfield 29, 3) := by decide +kernel
theorem dX4_sheet_37 : decode cX4_sheet 37 = .ok (.iload_n 1, 1) := by decide +kernel
theorem dX4_sheet_38 : decode cX4_sheet 38 = .ok (.aaload, 1) := by decide +kernel
theorem dX4_sheet_39 : decode cX4_sheet 39 = .ok (.iload_n 2, 1) := by decide +kernel
theorem dX4_sheet_40 : decode cX4_sheet 40 = .ok (.iload_n 3, 1) := by decide +kernel
theorem dX4_sheet_41 : decode cX4_sheet 41 = .ok (.invokevirtual 205, 3) := by decide +kernel
theorem dX4_sheet_44 : decode cX4_sheet 44 = .ok (.iconst 1, 1) := by decide +kernel
theorem dX4_sheet_45 : decode cX4_sheet 45 = .ok (.ireturn, 1) := by decide +kernel
theorem dX4_lay_0 : decode cX4_lay 0 = .ok (.iload_n 1, 1) := by decide +kernel
theorem dX4_lay_1 : decode cX4_lay 1 = .ok (.iconst 0, 1) := by decide +kernel
theorem dX4_lay_2 : decode cX4_lay 2 = .ok (.iconst 3, 1) := by decide +kernel
theorem dX4_lay_3 : decode cX4_lay 3 = .ok (.invokestatic 45, 3) := by decide +kernel
theorem dX4_lay_6 : decode cX4_lay 6 = .ok (.ifCond .eq 5, 3) := by decide +kernel
theorem dX4_lay_9 : decode cX4_lay 9 = .ok (.iconst (-1), 1) := by decide +kernel
theorem dX4_lay_10 : decode cX4_lay 10 = .ok (.ireturn, 1) := by decide +kernel
theorem dX4_lay_11 : decode cX4_lay 11 = .ok (.aload_n 0, 1) := by decide +kernel
theorem dX4_lay_12 : decode cX4_lay 12 = .ok (.getfield 29, 3) := by decide +kernel
theorem dX4_lay_15 : decode cX4_lay 15 = .ok (.iload_n 1, 1) := by decide +kernel
theorem dX4_lay_16 : decode cX4_lay 16 = .ok (.aaload, 1) := by decide +kernel
theorem dX4_lay_17 : decode cX4_lay 17 = .ok (.iload_n 2, 1) := by decide +kernel
theorem dX4_lay_18 : decode cX4_lay 18 = .ok (.invokevirtual 208, 3) := by decide +kernel
theorem dX4_lay_21 : decode cX4_lay 21 = .ok (.istore 4, 2) := by decide +kernel
theorem dX4_lay_23 : decode cX4_lay 23 = .ok (.iload 4, 2) := by decide +kernel
theorem dX4_lay_25 : decode cX4_lay 25 = .ok (.ifCond .eq 9, 3) := by decide +kernel
theorem dX4_lay_28 : decode cX4_lay 28 = .ok (.bipush (-10), 2) := by decide +kernel
theorem dX4_lay_30 : decode cX4_lay 30 = .ok (.iload 4, 2) := by decide +kernel
theorem dX4_lay_32 : decode cX4_lay 32 = .ok (.isub, 1) := by decide +kernel
theorem dX4_lay_33 : decode cX4_lay 33 = .ok (.ireturn, 1) := by decide +kernel
theorem dX4_lay_34 : decode cX4_lay 34 = .ok (.aload_n 0, 1) := by decide +kernel
theorem dX4_lay_35 : decode cX4_lay 35 = .ok (.getfield 29, 3) := by decide +kernel
theorem dX4_lay_38 : decode cX4_lay 38 = .ok (.iload_n 1, 1) := by decide +kernel
theorem dX4_lay_39 : decode cX4_lay 39 = .ok (.aaload, 1) := by decide +kernel
theorem dX4_lay_40 : decode cX4_lay 40 = .ok (.iload_n 2, 1) := by decide +kernel
theorem dX4_lay_41 : decode cX4_lay 41 = .ok (.iload_n 3, 1) := by decide +kernel
theorem dX4_lay_42 : decode cX4_lay 42 = .ok (.invokevirtual 211, 3) := by decide +kernel
theorem dX4_lay_45 : decode cX4_lay 45 = .ok (.iconst 1, 1) := by decide +kernel
theorem dX4_lay_46 : decode cX4_lay 46 = .ok (.ireturn, 1) := by decide +kernel
theorem dX4_read_0 : decode cX4_read 0 = .ok (.iload_n 1, 1) := by decide +kernel
theorem dX4_read_1 : decode cX4_read 1 = .ok (.iconst 0, 1) := by decide +kernel
theorem dX4_read_2 : decode cX4_read 2 = .ok (.iconst 3, 1) := by decide +kernel
theorem dX4_read_3 : decode cX4_read 3 = .ok (.invokestatic 45, 3) := by decide +kernel
theorem dX4_read_6 : decode cX4_read 6 = .ok (.ifCond .ne 23, 3) := by decide +kernel
theorem dX4_read_9 : decode cX4_read 9 = .ok (.iload_n 2, 1) := by decide +kernel
theorem dX4_read_10 : decode cX4_read 10 = .ok (.iconst 0, 1) := by decide +kernel
theorem dX4_read_11 : decode cX4_read 11 = .ok (.iconst 2, 1) := by decide +kernel
theorem dX4_read_12 : decode cX4_read 12 = .ok (.invokestatic 45, 3) := by decide +kernel
theorem dX4_read_15 : decode cX4_read 15 = .ok (.ifCond .ne 14, 3) := by decide +kernel
theorem dX4_read_18 : decode cX4_read 18 = .ok (.iload 4, 2) := by decide +kernel
theorem dX4_read_20 : decode cX4_read 20 = .ok (.iconst 0, 1) := by decide +kernel
theorem dX4_read_21 : decode cX4_read 21 = .ok (.bipush 20, 2) := by decide +kernel
theorem dX4_read_23 : decode cX4_read 23 = .ok (.invokestatic 45, 3) := by decide +kernel
theorem dX4_read_26 : decode cX4_read 26 = .ok (.ifCond .eq 5, 3) := by decide +kernel
theorem dX4_read_29 : decode cX4_read 29 = .ok (.iconst (-1), 1) := by decide +kernel
theorem dX4_read_30 : decode cX4_read 30 = .ok (.ireturn, 1) := by decide +kernel
theorem dX4_read_31 : decode cX4_read 31 = .ok (.aload_n 0, 1) := by decide +kernel
theorem dX4_read_32 : decode cX4_read 32 = .ok (.getfield 29, 3) := by decide +kernel
theorem dX4_read_35 : decode cX4_read 35 = .ok (.iload_n 1, 1) := by decide +kernel
theorem dX4_read_36 : decode cX4_read 36 = .ok (.aaload, 1) := by decide +kernel
theorem dX4_read_37 : decode cX4_read 37 = .ok (.astore 5, 2) := by decide +kernel
theorem dX4_read_39 : decode cX4_read 39 = .ok (.iconst 0, 1) := by decide +kernel
theorem dX4_read_40 : decode cX4_read 40 = .ok (.istore 6, 2) := by decide +kernel
theorem dX4_read_42 : decode cX4_read 42 = .ok (.iconst 0, 1) := by decide +kernel
theorem dX4_read_43 : decode cX4_read 43 = .ok (.istore 7, 2) := by decide +kernel
theorem dX4_read_45 : decode cX4_read 45 = .ok (.iconst 0, 1) := by decide +kernel
theorem dX4_read_46 : decode cX4_read 46 = .ok (.istore 8, 2) := by decide +kernel
theorem dX4_read_48 : decode cX4_read 48 = .ok (.iload 8, 2) := by decide +kernel
theorem dX4_read_50 : decode cX4_read 50 = .ok (.iload 4, 2) := by decide +kernel
theorem dX4_read_52 : decode cX4_read 52 = .ok (.if_icmp .ge 57, 3) := by decide +kernel
theorem dX4_read_55 : decode cX4_read 55 = .ok (.iload 6, 2) := by decide +kernel
theorem dX4_read_57 : decode cX4_read 57 = .ok (.ifCond .ne 52, 3) := by decide +kernel
theorem dX4_read_60 : decode cX4_read 60 = .ok (.iload_n 3, 1) := by decide +kernel
theorem dX4_read_61 : decode cX4_read 61 = .ok (.iconst 2, 1) := by decide +kernel
theorem dX4_read_62 : decode cX4_read 62 = .ok (.iload 8, 2) := by decide +kernel
theorem dX4_read_64 : decode cX4_read 64 = .ok (.imul, 1) := by decide +kernel
theorem dX4_read_65 : decode cX4_read 65 = .ok (.iadd, 1) := by decide +kernel
theorem dX4_read_66 : decode cX4_read 66 = .ok (.istore 9, 2) := by decide +kernel
theorem dX4_read_68 : decode cX4_read 68 = .ok (.aload 5, 2) := by decide +kernel
theorem dX4_read_70 : decode cX4_read 70 = .ok (.iload_n 2, 1) := by decide +kernel
theorem dX4_read_71 : decode cX4_read 71 = .ok (.iload 9, 2) := by decide +kernel
theorem dX4_read_73 : decode cX4_read 73 = .ok (.invokevirtual 214, 3) := by decide +kernel
theorem dX4_read_76 : decode cX4_read 76 = .ok (.istore 6, 2) := by decide +kernel
theorem dX4_read_78 : decode cX4_read 78 = .ok (.iload 6, 2) := by decide +kernel
theorem dX4_read_80 : decode cX4_read 80 = .ok (.ifCond .ne 23, 3) := by decide +kernel
theorem dX4_read_83 : decode cX4_read 83 = .ok (.aload_n 0, 1) := by decide +kernel
theorem dX4_read_84 : decode cX4_read 84 = .ok (.aload 5, 2) := by decide +kernel
theorem dX4_read_86 : decode cX4_read 86 = .ok (.iload 9, 2) := by decide +kernel
theorem dX4_read_88 : decode cX4_read 88 = .ok (.invokevirtual 217, 3) := by decide +kernel
theorem dX4_read_91 : decode cX4_read 91 = .ok (.ifCond .ne 9, 3) := by decide +kernel
theorem dX4_read_94 : decode cX4_read 94 = .ok (.bipush (-20), 2) := by decide +kernel
theorem dX4_read_96 : decode cX4_read 96 = .ok (.iload 8, 2) := by decide +kernel
theorem dX4_read_98 : decode cX4_read 98 = .ok (.isub, 1) := by decide +kernel
theorem dX4_read_99 : decode cX4_read 99 = .ok (.ireturn, 1) := by decide +kernel
theorem dX4_read_100 : decode cX4_read 100 = .ok (.iinc 7 1, 3) := by decide +kernel
theorem dX4_read_103 : decode cX4_read 103 = .ok (.iinc 8 1, 3) := by decide +kernel
theorem dX4_read_106 : decode cX4_read 106 = .ok (.goto (-58), 3) := by decide +kernel
theorem dX4_read_109 : decode cX4_read 109 = .ok (.aload_n 0, 1) := by decide +kernel
theorem dX4_read_110 : decode cX4_read 110 = .ok (.iload 6, 2) := by decide +kernel
theorem dX4_read_112 : decode cX4_read 112 = .ok (.putfield 221, 3) := by decide +kernel
theorem dX4_read_115 : decode cX4_read 115 = .ok (.aload_n 0, 1) := by decide +kernel
theorem dX4_read_116 : decode cX4_read 116 = .ok (.aload 5, 2) := by decide +kernel
theorem dX4_read_118 : decode cX4_read 118 = .ok (.iload_n 3, 1) := by decide +kernel
theorem dX4_read_119 : decode cX4_read 119 = .ok (.iload 7, 2) := by decide +kernel
theorem dX4_read_121 : decode cX4_read 121 = .ok (.invokevirtual 224, 3) := by decide +kernel
theorem dX4_read_124 : decode cX4_read 124 = .ok (.iload 7, 2) := by decide +kernel
theorem dX4_read_126 : decode cX4_read 126 = .ok (.ireturn, 1) := by decide +kernel
theorem dX4_torn_0 : decode cX4_torn 0 = .ok (.aload_n 0, 1) := by decide +kernel
theorem dX4_torn_1 : decode cX4_torn 1 = .ok (.getfield 221, 3) := by decide +kernel
theorem dX4_torn_4 : decode cX4_torn 4 = .ok (.ireturn, 1) := by decide +kernel
theorem dX4_count_0 : decode cX4_count 0 = .ok (.iload_n 1, 1) := by decide +kernel
theorem dX4_count_1 : decode cX4_count 1 = .ok (.tableswitch 131 0 5 #[39, 47, 77, 85, 113, 122], 39) := by decide +kernel
theorem dX4_count_40 : decode cX4_count 40 = .ok (.aload_n 0, 1) := by decide +kernel
theorem dX4_count_41 : decode cX4_count 41 = .ok (.getfield 10, 3) := by decide +kernel
theorem dX4_count_44 : decode cX4_count 44 = .ok (.getfield 182, 3) := by decide +kernel
theorem dX4_count_47 : decode cX4_count 47 = .ok (.ireturn, 1) := by decide +kernel
theorem dX4_count_48 : decode cX4_count 48 = .ok (.aload_n 0, 1) := by decide +kernel
theorem dX4_count_49 : decode cX4_count 49 = .ok (.getfield 23, 3) := by decide +kernel
theorem dX4_count_52 : decode cX4_count 52 = .ok (.iconst 0, 1) := by decide +kernel
theorem dX4_count_53 : decode cX4_count 53 = .ok (.baload, 1) := by decide +kernel
theorem dX4_count_54 : decode cX4_count 54 = .ok (.ifCond .eq 7, 3) := by decide +kernel
theorem dX4_count_57 : decode cX4_count 57 = .ok (.iconst 1, 1) := by decide +kernel
theorem dX4_count_58 : decode cX4_count 58 = .ok (.goto 4, 3) := by decide +kernel
theorem dX4_count_61 : decode cX4_count 61 = .ok (.iconst 0, 1) := by decide +kernel
theorem dX4_count_62 : decode cX4_count 62 = .ok (.aload_n 0, 1) := by decide +kernel
theorem dX4_count_63 : decode cX4_count 63 = .ok (.getfield 23, 3) := by decide +kernel
theorem dX4_count_66 : decode cX4_count 66 = .ok (.iconst 1, 1) := by decide +kernel
theorem dX4_count_67 : decode cX4_count 67 = .ok (.baload, 1) := by decide +kernel
theorem dX4_count_68 : decode cX4_count 68 = .ok (.ifCond .eq 7, 3) := by decide +kernel
theorem dX4_count_71 : decode cX4_count 71 = .ok (.iconst 1, 1) := by decide +kernel
theorem dX4_count_72 : decode cX4_count 72 = .ok (.goto 4, 3) := by decide +kernel
theorem dX4_count_75 : decode cX4_count 75 = .ok (.iconst 0, 1) := by decide +kernel
theorem dX4_count_76 : decode cX4_count 76 = .ok (.iadd, 1) := by decide +kernel
theorem dX4_count_77 : decode cX4_count 77 = .ok (.ireturn, 1) := by decide +kernel
theorem dX4_count_78 : decode cX4_count 78 = .ok (.aload_n 0, 1) := by decide +kernel
theorem dX4_count_79 : decode cX4_count 79 = .ok (.getfield 36, 3) := by decide +kernel
theorem dX4_count_82 : decode cX4_count 82 = .ok (.getfield 53, 3) := by decide +kernel
theorem dX4_count_85 : decode cX4_count 85 = .ok (.ireturn, 1) := by decide +kernel
theorem dX4_count_86 : decode cX4_count 86 = .ok (.aload_n 0, 1) := by decide +kernel
theorem dX4_count_87 : decode cX4_count 87 = .ok (.getfield 29, 3) := by decide +kernel
theorem dX4_count_90 : decode cX4_count 90 = .ok (.iconst 0, 1) := by decide +kernel
theorem dX4_count_91 : decode cX4_count 91 = .ok (.aaload, 1) := by decide +kernel
theorem dX4_count_92 : decode cX4_count 92 = .ok (.getfield 228, 3) := by decide +kernel
theorem dX4_count_95 : decode cX4_count 95 = .ok (.iconst (-1), 1) := by decide +kernel
theorem dX4_count_96 : decode cX4_count 96 = .ok (.if_icmp .ne 8, 3) := by decide +kernel
theorem dX4_count_99 : decode cX4_count 99 = .ok (.bipush (-4), 2) := by decide +kernel
theorem dX4_count_101 : decode cX4_count 101 = .ok (.goto 12, 3) := by decide +kernel
theorem dX4_count_104 : decode cX4_count 104 = .ok (.aload_n 0, 1) := by decide +kernel
theorem dX4_count_105 : decode cX4_count 105 = .ok (.getfield 29, 3) := by decide +kernel
theorem dX4_count_108 : decode cX4_count 108 = .ok (.iconst 0, 1) := by decide +kernel
theorem dX4_count_109 : decode cX4_count 109 = .ok (.aaload, 1) := by decide +kernel
theorem dX4_count_110 : decode cX4_count 110 = .ok (.getfield 231, 3) := by decide +kernel
theorem dX4_count_113 : decode cX4_count 113 = .ok (.ireturn, 1) := by decide +kernel
theorem dX4_count_114 : decode cX4_count 114 = .ok (.aload_n 0, 1) := by decide +kernel
theorem dX4_count_115 : decode cX4_count 115 = .ok (.getfield 10, 3) := by decide +kernel
theorem dX4_count_118 : decode cX4_count 118 = .ok (.iconst 1, 1) := by decide +kernel
theorem dX4_count_119 : decode cX4_count 119 = .ok (.invokevirtual 234, 3) := by decide +kernel
theorem dX4_count_122 : decode cX4_count 122 = .ok (.ireturn, 1) := by decide +kernel
theorem dX4_count_123 : decode cX4_count 123 = .ok (.aload_n 0, 1) := by decide +kernel
theorem dX4_count_124 : decode cX4_count 124 = .ok (.getfield 10, 3) := by decide +kernel
theorem dX4_count_127 : decode cX4_count 127 = .ok (.iconst 2, 1) := by decide +kernel
theorem dX4_count_128 : decode cX4_count 128 = .ok (.invokevirtual 234, 3) := by decide +kernel
theorem dX4_count_131 : decode cX4_count 131 = .ok (.ireturn, 1) := by decide +kernel
theorem dX4_count_132 : decode cX4_count 132 = .ok (.iconst (-1), 1) := by decide +kernel
theorem dX4_count_133 : decode cX4_count 133 = .ok (.ireturn, 1) := by decide +kernel
theorem dX4_outside_0 : decode cX4_outside 0 = .ok (.iload_n 0, 1) := by decide +kernel
theorem dX4_outside_1 : decode cX4_outside 1 = .ok (.iload_n 1, 1) := by decide +kernel
theorem dX4_outside_2 : decode cX4_outside 2 = .ok (.if_icmp .lt 8, 3) := by decide +kernel
theorem dX4_outside_5 : decode cX4_outside 5 = .ok (.iload_n 0, 1) := by decide +kernel
theorem dX4_outside_6 : decode cX4_outside 6 = .ok (.iload_n 2, 1) := by decide +kernel
theorem dX4_outside_7 : decode cX4_outside 7 = .ok (.if_icmp .le 7, 3) := by decide +kernel
theorem dX4_outside_10 : decode cX4_outside 10 = .ok (.iconst 1, 1) := by decide +kernel
theorem dX4_outside_11 : decode cX4_outside 11 = .ok (.goto 4, 3) := by decide +kernel
theorem dX4_outside_14 : decode cX4_outside 14 = .ok (.iconst 0, 1) := by decide +kernel
theorem dX4_outside_15 : decode cX4_outside 15 = .ok (.ireturn, 1) := by decide +kernel
theorem dX4_isPart_0 : decode cX4_isPart 0 = .ok (.iload_n 0, 1) := by decide +kernel
theorem dX4_isPart_1 : decode cX4_isPart 1 = .ok (.ifCond .lt 30, 3) := by decide +kernel
theorem dX4_isPart_4 : decode cX4_isPart 4 = .ok (.iload_n 0, 1) := by decide +kernel
theorem dX4_isPart_5 : decode cX4_isPart 5 = .ok (.iconst 4, 1) := by decide +kernel
theorem dX4_isPart_6 : decode cX4_isPart 6 = .ok (.if_icmp .ge 25, 3) := by decide +kernel
theorem dX4_isPart_9 : decode cX4_isPart 9 = .ok (.iload_n 1, 1) := by decide +kernel
theorem dX4_isPart_10 : decode cX4_isPart 10 = .ok (.getstatic 237, 3) := by decide +kernel
theorem dX4_isPart_13 : decode cX4_isPart 13 = .ok (.iload_n 0, 1) := by decide +kernel
theorem dX4_isPart_14 : decode cX4_isPart 14 = .ok (.iaload, 1) := by decide +kernel
theorem dX4_isPart_15 : decode cX4_isPart 15 = .ok (.if_icmp .lt 16, 3) := by decide +kernel
theorem dX4_isPart_18 : decode cX4_isPart 18 = .ok (.iload_n 1, 1) := by decide +kernel
theorem dX4_isPart_19 : decode cX4_isPart 19 = .ok (.getstatic 240, 3) := by decide +kernel
theorem dX4_isPart_22 : decode cX4_isPart 22 = .ok (.iload_n 0, 1) := by decide +kernel
theorem dX4_isPart_23 : decode cX4_isPart 23 = .ok (.iaload, 1) := by decide +kernel
theorem dX4_isPart_24 : decode cX4_isPart 24 = .ok (.if_icmp .gt 7, 3) := by decide +kernel
theorem dX4_isPart_27 : decode cX4_isPart 27 = .ok (.iconst 1, 1) := by decide +kernel
theorem dX4_isPart_28 : decode cX4_isPart 28 = .ok (.goto 4, 3) := by decide +kernel
theorem dX4_isPart_31 : decode cX4_isPart 31 = .ok (.iconst 0, 1) := by decide +kernel
theorem dX4_isPart_32 : decode cX4_isPart 32 = .ok (.ireturn, 1) := by decide +kernel
theorem dX4_isRule_0 : decode cX4_isRule 0 = .ok (.iload_n 0, 1) := by decide +kernel
theorem dX4_isRule_1 : decode cX4_isRule 1 = .ok (.ifCond .lt 30, 3) := by decide +kernel
theorem dX4_isRule_4 : decode cX4_isRule 4 = .ok (.iload_n 0, 1) := by decide +kernel
theorem dX4_isRule_5 : decode cX4_isRule 5 = .ok (.iconst 4, 1) := by decide +kernel
theorem dX4_isRule_6 : decode cX4_isRule 6 = .ok (.if_icmp .ge 25, 3) := by decide +kernel
theorem dX4_isRule_9 : decode cX4_isRule 9 = .ok (.iload_n 1, 1) := by decide +kernel
theorem dX4_isRule_10 : decode cX4_isRule 10 = .ok (.getstatic 148, 3) := by decide +kernel
theorem dX4_isRule_13 : decode cX4_isRule 13 = .ok (.iload_n 0, 1) := by decide +kernel
theorem dX4_isRule_14 : decode cX4_isRule 14 = .ok (.iaload, 1) := by decide +kernel
theorem dX4_isRule_15 : decode cX4_isRule 15 = .ok (.if_icmp .lt 16, 3) := by decide +kernel
theorem dX4_isRule_18 : decode cX4_isRule 18 = .ok (.iload_n 1, 1) := by decide +kernel
theorem dX4_isRule_19 : decode cX4_isRule 19 = .ok (.getstatic 151, 3) := by decide +kernel
theorem dX4_isRule_22 : decode cX4_isRule 22 = .ok (.iload_n 0, 1) := by decide +kernel
theorem dX4_isRule_23 : decode cX4_isRule 23 = .ok (.iaload, 1) := by decide +kernel
theorem dX4_isRule_24 : decode cX4_isRule 24 = .ok (.if_icmp .gt 7, 3) := by decide +kernel
theorem dX4_isRule_27 : decode cX4_isRule 27 = .ok (.iconst 1, 1) := by decide +kernel
theorem dX4_isRule_28 : decode cX4_isRule 28 = .ok (.goto 4, 3) := by decide +kernel
theorem dX4_isRule_31 : decode cX4_isRule 31 = .ok (.iconst 0, 1) := by decide +kernel
theorem dX4_isRule_32 : decode cX4_isRule 32 = .ok (.ireturn, 1) := by decide +kernel
theorem dX4_bestPart_0 : decode cX4_bestPart 0 = .ok (.aload_n 0, 1) := by decide +kernel
theorem dX4_bestPart_1 : decode cX4_bestPart 1 = .ok (.getfield 10, 3) := by decide +kernel
theorem dX4_bestPart_4 : decode cX4_bestPart 4 = .ok (.iload_n 1, 1) := by decide +kernel
theorem dX4_bestPart_5 : decode cX4_bestPart 5 = .ok (.invokevirtual 84, 3) := by decide +kernel
theorem dX4_bestPart_8 : decode cX4_bestPart 8 = .ok (.ifnull 23, 3) := by decide +kernel
theorem dX4_bestPart_11 : decode cX4_bestPart 11 = .ok (.iload_n 3, 1) := by decide +kernel
theorem dX4_bestPart_12 : decode cX4_bestPart 12 = .ok (.iconst 0, 1) := by decide +kernel
theorem dX4_bestPart_13 : decode cX4_bestPart 13 = .ok (.bipush 40, 2) := by decide +kernel
theorem dX4_bestPart_15 : decode cX4_bestPart 15 = .ok (.invokestatic 45, 3) := by decide +kernel
theorem dX4_bestPart_18 : decode cX4_bestPart 18 = .ok (.ifCond .ne 13, 3) := by decide +kernel
theorem dX4_bestPart_21 : decode cX4_bestPart 21 = .ok (.iload 4, 2) := by decide +kernel
theorem dX4_bestPart_23 : decode cX4_bestPart 23 = .ok (.iconst 0, 1) := by decide +kernel
theorem dX4_bestPart_24 : decode cX4_bestPart 24 = .ok (.iconst 1, 1) := by decide +kernel
theorem dX4_bestPart_25 : decode cX4_bestPart 25 = .ok (.invokestatic 45, 3) := by decide +kernel
theorem dX4_bestPart_28 : decode cX4_bestPart 28 = .ok (.ifCond .eq 5, 3) := by decide +kernel
theorem dX4_bestPart_31 : decode cX4_bestPart 31 = .ok (.iconst (-1), 1) := by decide +kernel
theorem dX4_bestPart_32 : decode cX4_bestPart 32 = .ok (.ireturn, 1) := by decide +kernel
theorem dX4_bestPart_33 : decode cX4_bestPart 33 = .ok (.aload_n 0, 1) := by decide +kernel
theorem dX4_bestPart_34 : decode cX4_bestPart 34 = .ok (.getfield 16, 3) := by decide +kernel
theorem dX4_bestPart_37 : decode cX4_bestPart 37 = .ok (.aload_n 0, 1) := by decide +kernel
theorem dX4_bestPart_38 : decode cX4_bestPart 38 = .ok (.getfield 10, 3) := by decide +kernel
theorem dX4_bestPart_41 : decode cX4_bestPart 41 = .ok (.invokevirtual 64, 3) := by decide +kernel
theorem dX4_bestPart_44 : decode cX4_bestPart 44 = .ok (.bipush (-4), 2) := by decide +kernel
theorem dX4_bestPart_46 : decode cX4_bestPart 46 = .ok (.istore 5, 2) := by decide +kernel
theorem dX4_bestPart_48 : decode cX4_bestPart 48 = .ok (.sipush 256, 3) := by decide +kernel
theorem dX4_bestPart_51 : decode cX4_bestPart 51 = .ok (.istore 6, 2) := by decide +kernel
theorem dX4_bestPart_53 : decode cX4_bestPart 53 = .ok (.getstatic 237, 3) := by decide +kernel
theorem dX4_bestPart_56 : decode cX4_bestPart 56 = .ok (.iload_n 2, 1) := by decide +kernel
theorem dX4_bestPart_57 : decode cX4_bestPart 57 = .ok (.iaload, 1) := by decide +kernel
theorem dX4_bestPart_58 : decode cX4_bestPart 58 = .ok (.istore 7, 2) := by decide +kernel
theorem dX4_bestPart_60 : decode cX4_bestPart 60 = .ok (.iload 7, 2) := by decide +kernel
theorem dX4_bestPart_62 : decode cX4_bestPart 62 = .ok (.getstatic 240, 3) := by decide +kernel
theorem dX4_bestPart_65 : decode cX4_bestPart 65 = .ok (.iload_n 2, 1) := by decide +kernel
theorem dX4_bestPart_66 : decode cX4_bestPart 66 = .ok (.iaload, 1) := by decide +kernel
theorem dX4_bestPart_67 : decode cX4_bestPart 67 = .ok (.if_icmp .gt 49, 3) := by decide +kernel
theorem dX4_bestPart_70 : decode cX4_bestPart 70 = .ok (.aload_n 0, 1) := by decide +kernel
theorem dX4_bestPart_71 : decode cX4_bestPart 71 = .ok (.getfield 16, 3) := by decide +kernel
theorem dX4_bestPart_74 : decode cX4_bestPart 74 = .ok (.getfield 158, 3) := by decide +kernel
theorem dX4_bestPart_77 : decode cX4_bestPart 77 = .ok (.iload_n 1, 1) := by decide +kernel
theorem dX4_bestPart_78 : decode cX4_bestPart 78 = .ok (.aaload, 1) := by decide +kernel
theorem dX4_bestPart_79 : decode cX4_bestPart 79 = .ok (.iload_n 2, 1) := by decide +kernel
theorem dX4_bestPart_80 : decode cX4_bestPart 80 = .ok (.iload 7, 2) := by decide +kernel
theorem dX4_bestPart_82 : decode cX4_bestPart 82 = .ok (.invokevirtual 107, 3) := by decide +kernel
theorem dX4_bestPart_85 : decode cX4_bestPart 85 = .ok (.aload_n 0, 1) := by decide +kernel
theorem dX4_bestPart_86 : decode cX4_bestPart 86 = .ok (.getfield 16, 3) := by decide +kernel
theorem dX4_bestPart_89 : decode cX4_bestPart 89 = .ok (.iload_n 3, 1) := by decide +kernel
theorem dX4_bestPart_90 : decode cX4_bestPart 90 = .ok (.invokevirtual 123, 3) := by decide +kernel
theorem dX4_bestPart_93 : decode cX4_bestPart 93 = .ok (.istore 8, 2) := by decide +kernel
theorem dX4_bestPart_95 : decode cX4_bestPart 95 = .ok (.iload 8, 2) := by decide +kernel
theorem dX4_bestPart_97 : decode cX4_bestPart 97 = .ok (.iload 6, 2) := by decide +kernel
theorem dX4_bestPart_99 : decode cX4_bestPart 99 = .ok (.if_icmp .ge 11, 3) := by decide +kernel
theorem dX4_bestPart_102 : decode cX4_bestPart 102 = .ok (.iload 8, 2) := by decide +kernel
theorem dX4_bestPart_104 : decode cX4_bestPart 104 = .ok (.istore 6, 2) := by decide +kernel
theorem dX4_bestPart_106 : decode cX4_bestPart 106 = .ok (.iload 7, 2) := by decide +kernel
theorem dX4_bestPart_108 : decode cX4_bestPart 108 = .ok (.istore 5, 2) := by decide +kernel
theorem dX4_bestPart_110 : decode cX4_bestPart 110 = .ok (.iinc 7 1, 3) := by decide +kernel
theorem dX4_bestPart_113 : decode cX4_bestPart 113 = .ok (.goto (-53), 3) := by decide +kernel
theorem dX4_bestPart_116 : decode cX4_bestPart 116 = .ok (.iload 4, 2) := by decide +kernel
theorem dX4_bestPart_118 : decode cX4_bestPart 118 = .ok (.ifCond .ne 8, 3) := by decide +kernel
theorem dX4_bestPart_121 : decode cX4_bestPart 121 = .ok (.iload 5, 2) := by decide +kernel
theorem dX4_bestPart_123 : decode cX4_bestPart 123 = .ok (.goto 5, 3) := by decide +kernel
theorem dX4_bestPart_126 : decode cX4_bestPart 126 = .ok (.iload 6, 2) := by decide +kernel
theorem dX4_bestPart_128 : decode cX4_bestPart 128 = .ok (.ireturn, 1) := by decide +kernel
theorem dX4_fitting_0 : decode cX4_fitting 0 = .ok (.aload_n 0, 1) := by decide +kernel
theorem dX4_fitting_1 : decode cX4_fitting 1 = .ok (.getfield 10, 3) := by decide +kernel
theorem dX4_fitting_4 : decode cX4_fitting 4 = .ok (.iload_n 1, 1) := by decide +kernel
theorem dX4_fitting_5 : decode cX4_fitting 5 = .ok (.invokevirtual 84, 3) := by decide +kernel
theorem dX4_fitting_8 : decode cX4_fitting 8 = .ok (.ifnonnull 5, 3) := by decide +kernel
theorem dX4_fitting_11 : decode cX4_fitting 11 = .ok (.iconst (-1), 1) := by decide +kernel
theorem dX4_fitting_12 : decode cX4_fitting 12 = .ok (.ireturn, 1) := by decide +kernel
theorem dX4_fitting_13 : decode cX4_fitting 13 = .ok (.aload_n 0, 1) := by decide +kernel
theorem dX4_fitting_14 : decode cX4_fitting 14 = .ok (.getfield 16, 3) := by decide +kernel
theorem dX4_fitting_17 : decode cX4_fitting 17 = .ok (.aload_n 0, 1) := by decide +kernel
theorem dX4_fitting_18 : decode cX4_fitting 18 = .ok (.getfield 10, 3) := by decide +kernel
theorem dX4_fitting_21 : decode cX4_fitting 21 = .ok (.invokevirtual 64, 3) := by decide +kernel
theorem dX4_fitting_24 : decode cX4_fitting 24 = .ok (.iconst 0, 1) := by decide +kernel
theorem dX4_fitting_25 : decode cX4_fitting 25 = .ok (.istore_n 3, 1) := by decide +kernel
theorem dX4_fitting_26 : decode cX4_fitting 26 = .ok (.getstatic 237, 3) := by decide +kernel
theorem dX4_fitting_29 : decode cX4_fitting 29 = .ok (.iload_n 2, 1) := by decide +kernel
theorem dX4_fitting_30 : decode cX4_fitting 30 = .ok (.iaload, 1) := by decide +kernel
theorem dX4_fitting_31 : decode cX4_fitting 31 = .ok (.istore 4, 2) := by decide +kernel
theorem dX4_fitting_33 : decode cX4_fitting 33 = .ok (.iload 4, 2) := by decide +kernel
theorem dX4_fitting_35 : decode cX4_fitting 35 = .ok (.getstatic 240, 3) := by decide +kernel
theorem dX4_fitting_38 : decode cX4_fitting 38 = .ok (.iload_n 2, 1) := by decide +kernel
theorem dX4_fitting_39 : decode cX4_fitting 39 = .ok (.iaload, 1) := by decide +kernel
theorem dX4_fitting_40 : decode cX4_fitting 40 = .ok (.if_icmp .gt 41, 3) := by decide +kernel
theorem dX4_fitting_43 : decode cX4_fitting 43 = .ok (.aload_n 0, 1) := by decide +kernel
theorem dX4_fitting_44 : decode cX4_fitting 44 = .ok (.getfield 16, 3) := by decide +kernel
theorem dX4_fitting_47 : decode cX4_fitting 47 = .ok (.getfield 158, 3) := by decide +kernel
theorem dX4_fitting_50 : decode cX4_fitting 50 = .ok (.iload_n 1, 1) := by decide +kernel
theorem dX4_fitting_51 : decode cX4_fitting 51 = .ok (.aaload, 1) := by decide +kernel
theorem dX4_fitting_52 : decode cX4_fitting 52 = .ok (.iload_n 2, 1) := by decide +kernel
theorem dX4_fitting_53 : decode cX4_fitting 53 = .ok (.iload 4, 2) := by decide +kernel
theorem dX4_fitting_55 : decode cX4_fitting 55 = .ok (.invokevirtual 107, 3) := by decide +kernel
theorem dX4_fitting_58 : decode cX4_fitting 58 = .ok (.aload_n 0, 1) := by decide +kernel
theorem dX4_fitting_59 : decode cX4_fitting 59 = .ok (.getfield 16, 3) := by decide +kernel
theorem dX4_fitting_62 : decode cX4_fitting 62 = .ok (.invokevirtual 243, 3) := by decide +kernel
theorem dX4_fitting_65 : decode cX4_fitting 65 = .ok (.ifCond .eq 10, 3) := by decide +kernel
theorem dX4_fitting_68 : decode cX4_fitting 68 = .ok (.iload_n 3, 1) := by decide +kernel
theorem dX4_fitting_69 : decode cX4_fitting 69 = .ok (.iconst 1, 1) := by decide +kernel
theorem dX4_fitting_70 : decode cX4_fitting 70 = .ok (.iload 4, 2) := by decide +kernel
theorem dX4_fitting_72 : decode cX4_fitting 72 = .ok (.ishl, 1) := by decide +kernel
theorem dX4_fitting_73 : decode cX4_fitting 73 = .ok (.ior, 1) := by decide +kernel
theorem dX4_fitting_74 : decode cX4_fitting 74 = .ok (.istore_n 3, 1) := by decide +kernel
theorem dX4_fitting_75 : decode cX4_fitting 75 = .ok (.iinc 4 1, 3) := by decide +kernel
theorem dX4_fitting_78 : decode cX4_fitting 78 = .ok (.goto (-45), 3) := by decide +kernel
theorem dX4_fitting_81 : decode cX4_fitting 81 = .ok (.iload_n 3, 1) := by decide +kernel
theorem dX4_fitting_82 : decode cX4_fitting 82 = .ok (.ireturn, 1) := by decide +kernel
theorem dX4_mostAlike_0 : decode cX4_mostAlike 0 = .ok (.iconst 0, 1) := by decide +kernel
theorem dX4_mostAlike_1 : decode cX4_mostAlike 1 = .ok (.istore 5, 2) := by decide +kernel
theorem dX4_mostAlike_3 : decode cX4_mostAlike 3 = .ok (.iconst 0, 1) := by decide +kernel
theorem dX4_mostAlike_4 : decode cX4_mostAlike 4 = .ok (.istore 6, 2) := by decide +kernel
theorem dX4_mostAlike_6 : decode cX4_mostAlike 6 = .ok (.iload 6, 2) := by decide +kernel
theorem dX4_mostAlike_8 : decode cX4_mostAlike 8 = .ok (.aload_n 0, 1) := by decide +kernel
theorem dX4_mostAlike_9 : decode cX4_mostAlike 9 = .ok (.getfield 40, 3) := by decide +kernel
theorem dX4_mostAlike_12 : decode cX4_mostAlike 12 = .ok (.arraylength, 1) := by decide +kernel
theorem dX4_mostAlike_13 : decode cX4_mostAlike 13 = .ok (.if_icmp .ge 111, 3) := by decide +kernel
theorem dX4_mostAlike_16 : decode cX4_mostAlike 16 = .ok (.iload_n 2, 1) := by decide +kernel
theorem dX4_mostAlike_17 : decode cX4_mostAlike 17 = .ok (.iload 6, 2) := by decide +kernel
theorem dX4_mostAlike_19 : decode cX4_mostAlike 19 = .ok (.ishr, 1) := by decide +kernel
theorem dX4_mostAlike_20 : decode cX4_mostAlike 20 = .ok (.iconst 1, 1) := by decide +kernel
theorem dX4_mostAlike_21 : decode cX4_mostAlike 21 = .ok (.iand, 1) := by decide +kernel
theorem dX4_mostAlike_22 : decode cX4_mostAlike 22 = .ok (.ifCond .ne 6, 3) := by decide +kernel
theorem dX4_mostAlike_25 : decode cX4_mostAlike 25 = .ok (.goto 93, 3) := by decide +kernel
theorem dX4_mostAlike_28 : decode cX4_mostAlike 28 = .ok (.aload_n 0, 1) := by decide +kernel
theorem dX4_mostAlike_29 : decode cX4_mostAlike 29 = .ok (.getfield 16, 3) := by decide +kernel
theorem dX4_mostAlike_32 : decode cX4_mostAlike 32 = .ok (.getfield 158, 3) := by decide +kernel
theorem dX4_mostAlike_35 : decode cX4_mostAlike 35 = .ok (.iload_n 1, 1) := by decide +kernel
theorem dX4_mostAlike_36 : decode cX4_mostAlike 36 = .ok (.aaload, 1) := by decide +kernel
theorem dX4_mostAlike_37 : decode cX4_mostAlike 37 = .ok (.iconst 3, 1) := by decide +kernel
theorem dX4_mostAlike_38 : decode cX4_mostAlike 38 = .ok (.iload 6, 2) := by decide +kernel
theorem dX4_mostAlike_40 : decode cX4_mostAlike 40 = .ok (.invokevirtual 107, 3) := by decide +kernel
theorem dX4_mostAlike_43 : decode cX4_mostAlike 43 = .ok (.aload_n 0, 1) := by decide +kernel
theorem dX4_mostAlike_44 : decode cX4_mostAlike 44 = .ok (.getfield 40, 3) := by decide +kernel
theorem dX4_mostAlike_47 : decode cX4_mostAlike 47 = .ok (.iload 6, 2) := by decide +kernel
theorem dX4_mostAlike_49 : decode cX4_mostAlike 49 = .ok (.aload_n 0, 1) := by decide +kernel
theorem dX4_mostAlike_50 : decode cX4_mostAlike 50 = .ok (.getfield 16, 3) := by decide +kernel
theorem dX4_mostAlike_53 : decode cX4_mostAlike 53 = .ok (.iload_n 3, 1) := by decide +kernel
theorem dX4_mostAlike_54 : decode cX4_mostAlike 54 = .ok (.iload 4, 2) := by decide +kernel
theorem dX4_mostAlike_56 : decode cX4_mostAlike 56 = .ok (.invokevirtual 139, 3) := by decide +kernel
theorem dX4_mostAlike_59 : decode cX4_mostAlike 59 = .ok (.iastore, 1) := by decide +kernel
theorem dX4_mostAlike_60 : decode cX4_mostAlike 60 = .ok (.iconst 0, 1) := by decide +kernel
theorem dX4_mostAlike_61 : decode cX4_mostAlike 61 = .ok (.istore 7, 2) := by decide +kernel
theorem dX4_mostAlike_63 : decode cX4_mostAlike 63 = .ok (.iconst 0, 1) := by decide +kernel
theorem dX4_mostAlike_64 : decode cX4_mostAlike 64 = .ok (.istore 8, 2) := by decide +kernel
theorem dX4_mostAlike_66 : decode cX4_mostAlike 66 = .ok (.iload 8, 2) := by decide +kernel
theorem dX4_mostAlike_68 : decode cX4_mostAlike 68 = .ok (.iload 6, 2) := by decide +kernel
theorem dX4_mostAlike_70 : decode cX4_mostAlike 70 = .ok (.if_icmp .gt 39, 3) := by decide +kernel
theorem dX4_mostAlike_73 : decode cX4_mostAlike 73 = .ok (.iload_n 2, 1) := by decide +kernel
theorem dX4_mostAlike_74 : decode cX4_mostAlike 74 = .ok (.iload 8, 2) := by decide +kernel
theorem dX4_mostAlike_76 : decode cX4_mostAlike 76 = .ok (.ishr, 1) := by decide +kernel
theorem dX4_mostAlike_77 : decode cX4_mostAlike 77 = .ok (.iconst 1, 1) := by decide +kernel
theorem dX4_mostAlike_78 : decode cX4_mostAlike 78 = .ok (.iand, 1) := by decide +kernel
theorem dX4_mostAlike_79 : decode cX4_mostAlike 79 = .ok (.iconst 1, 1) := by decide +kernel
theorem dX4_mostAlike_80 : decode cX4_mostAlike 80 = .ok (.if_icmp .ne 23, 3) := by decide +kernel
theorem dX4_mostAlike_83 : decode cX4_mostAlike 83 = .ok (.aload_n 0, 1) := by decide +kernel
theorem dX4_mostAlike_84 : decode cX4_mostAlike 84 = .ok (.getfield 40, 3) := by decide +kernel
theorem dX4_mostAlike_87 : decode cX4_mostAlike 87 = .ok (.iload 8, 2) := by decide +kernel
theorem dX4_mostAlike_89 : decode cX4_mostAlike 89 = .ok (.iaload, 1) := by decide +kernel
theorem dX4_mostAlike_90 : decode cX4_mostAlike 90 = .ok (.aload_n 0, 1) := by decide +kernel
theorem dX4_mostAlike_91 : decode cX4_mostAlike 91 = .ok (.getfield 40, 3) := by decide +kernel
theorem dX4_mostAlike_94 : decode cX4_mostAlike 94 = .ok (.iload 6, 2) := by decide +kernel
theorem dX4_mostAlike_96 : decode cX4_mostAlike 96 = .ok (.iaload, 1) := by decide +kernel
theorem dX4_mostAlike_97 : decode cX4_mostAlike 97 = .ok (.if_icmp .ne 6, 3) := by decide +kernel
theorem dX4_mostAlike_100 : decode cX4_mostAlike 100 = .ok (.iinc 7 1, 3) := by decide +kernel
theorem dX4_mostAlike_103 : decode cX4_mostAlike 103 = .ok (.iinc 8 1, 3) := by decide +kernel
theorem dX4_mostAlike_106 : decode cX4_mostAlike 106 = .ok (.goto (-40), 3) := by decide +kernel
theorem dX4_mostAlike_109 : decode cX4_mostAlike 109 = .ok (.iload 5, 2) := by decide +kernel
theorem dX4_mostAlike_111 : decode cX4_mostAlike 111 = .ok (.iload 7, 2) := by decide +kernel
theorem dX4_mostAlike_113 : decode cX4_mostAlike 113 = .ok (.invokestatic 197, 3) := by decide +kernel
theorem dX4_mostAlike_116 : decode cX4_mostAlike 116 = .ok (.istore 5, 2) := by decide +kernel
theorem dX4_mostAlike_118 : decode cX4_mostAlike 118 = .ok (.iinc 6 1, 3) := by decide +kernel
theorem dX4_mostAlike_121 : decode cX4_mostAlike 121 = .ok (.goto (-115), 3) := by decide +kernel
theorem dX4_mostAlike_124 : decode cX4_mostAlike 124 = .ok (.iload 5, 2) := by decide +kernel
theorem dX4_mostAlike_126 : decode cX4_mostAlike 126 = .ok (.ireturn, 1) := by decide +kernel
theorem dX4_draftSteadyLamps_0 : decode cX4_draftSteadyLamps 0 = .ok (.aload_n 0, 1) := by decide +kernel
theorem dX4_draftSteadyLamps_1 : decode cX4_draftSteadyLamps 1 = .ok (.getfield 16, 3) := by decide +kernel
theorem dX4_draftSteadyLamps_4 : decode cX4_draftSteadyLamps 4 = .ok (.aload_n 0, 1) := by decide +kernel
theorem dX4_draftSteadyLamps_5 : decode cX4_draftSteadyLamps 5 = .ok (.getfield 10, 3) := by decide +kernel
theorem dX4_draftSteadyLamps_8 : decode cX4_draftSteadyLamps 8 = .ok (.invokevirtual 64, 3) := by decide +kernel
theorem dX4_draftSteadyLamps_11 : decode cX4_draftSteadyLamps 11 = .ok (.iconst 0, 1) := by decide +kernel
theorem dX4_draftSteadyLamps_12 : decode cX4_draftSteadyLamps 12 = .ok (.istore_n 1, 1) := by decide +kernel
theorem dX4_draftSteadyLamps_13 : decode cX4_draftSteadyLamps 13 = .ok (.iload_n 1, 1) := by decide +kernel
theorem dX4_draftSteadyLamps_14 : decode cX4_draftSteadyLamps 14 = .ok (.aload_n 0, 1) := by decide +kernel
theorem dX4_draftSteadyLamps_15 : decode cX4_draftSteadyLamps 15 = .ok (.getfield 16, 3) := by decide +kernel
theorem dX4_draftSteadyLamps_18 : decode cX4_draftSteadyLamps 18 = .ok (.getfield 68, 3) := by decide +kernel
theorem dX4_draftSteadyLamps_21 : decode cX4_draftSteadyLamps 21 = .ok (.if_icmp .ge 38, 3) := by decide +kernel
theorem dX4_draftSteadyLamps_24 : decode cX4_draftSteadyLamps 24 = .ok (.aload_n 0, 1) := by decide +kernel
theorem dX4_draftSteadyLamps_25 : decode cX4_draftSteadyLamps 25 = .ok (.getfield 16, 3) := by decide +kernel
theorem dX4_draftSteadyLamps_28 : decode cX4_draftSteadyLamps 28 = .ok (.getfield 158, 3) := by decide +kernel
theorem dX4_draftSteadyLamps_31 : decode cX4_draftSteadyLamps 31 = .ok (.iload_n 1, 1) := by decide +kernel
theorem dX4_draftSteadyLamps_32 : decode cX4_draftSteadyLamps 32 = .ok (.aaload, 1) := by decide +kernel
theorem dX4_draftSteadyLamps_33 : decode cX4_draftSteadyLamps 33 = .ok (.getfield 88, 3) := by decide +kernel
theorem dX4_draftSteadyLamps_36 : decode cX4_draftSteadyLamps 36 = .ok (.iconst 0, 1) := by decide +kernel
theorem dX4_draftSteadyLamps_37 : decode cX4_draftSteadyLamps 37 = .ok (.iaload, 1) := by decide +kernel
theorem dX4_draftSteadyLamps_38 : decode cX4_draftSteadyLamps 38 = .ok (.ifCond .eq 15, 3) := by decide +kernel
theorem dX4_draftSteadyLamps_41 : decode cX4_draftSteadyLamps 41 = .ok (.aload_n 0, 1) := by decide +kernel
theorem dX4_draftSteadyLamps_42 : decode cX4_draftSteadyLamps 42 = .ok (.getfield 16, 3) := by decide +kernel
theorem dX4_draftSteadyLamps_45 : decode cX4_draftSteadyLamps 45 = .ok (.getfield 158, 3) := by decide +kernel
theorem dX4_draftSteadyLamps_48 : decode cX4_draftSteadyLamps 48 = .ok (.iload_n 1, 1) := by decide +kernel
theorem dX4_draftSteadyLamps_49 : decode cX4_draftSteadyLamps 49 = .ok (.aaload, 1) := by decide +kernel
theorem dX4_draftSteadyLamps_50 : decode cX4_draftSteadyLamps 50 = .ok (.invokevirtual 162, 3) := by decide +kernel
theorem dX4_draftSteadyLamps_53 : decode cX4_draftSteadyLamps 53 = .ok (.iinc 1 1, 3) := by decide +kernel
theorem dX4_draftSteadyLamps_56 : decode cX4_draftSteadyLamps 56 = .ok (.goto (-43), 3) := by decide +kernel
theorem dX4_draftSteadyLamps_59 : decode cX4_draftSteadyLamps 59 = .ok (.return_, 1) := by decide +kernel
theorem dX4_inLowestTerms_0 : decode cX4_inLowestTerms 0 = .ok (.lload_n 0, 1) := by decide +kernel
theorem dX4_inLowestTerms_1 : decode cX4_inLowestTerms 1 = .ok (.lstore 5, 2) := by decide +kernel
theorem dX4_inLowestTerms_3 : decode cX4_inLowestTerms 3 = .ok (.lload_n 2, 1) := by decide +kernel
theorem dX4_inLowestTerms_4 : decode cX4_inLowestTerms 4 = .ok (.lstore 7, 2) := by decide +kernel
theorem dX4_inLowestTerms_6 : decode cX4_inLowestTerms 6 = .ok (.iconst 0, 1) := by decide +kernel
theorem dX4_inLowestTerms_7 : decode cX4_inLowestTerms 7 = .ok (.istore 9, 2) := by decide +kernel
theorem dX4_inLowestTerms_9 : decode cX4_inLowestTerms 9 = .ok (.iload 9, 2) := by decide +kernel
theorem dX4_inLowestTerms_11 : decode cX4_inLowestTerms 11 = .ok (.bipush 100, 2) := by decide +kernel
theorem dX4_inLowestTerms_13 : decode cX4_inLowestTerms 13 = .ok (.if_icmp .ge 31, 3) := by decide +kernel
theorem dX4_inLowestTerms_16 : decode cX4_inLowestTerms 16 = .ok (.lload 7, 2) := by decide +kernel
theorem dX4_inLowestTerms_18 : decode cX4_inLowestTerms 18 = .ok (.lconst 0, 1) := by decide +kernel
theorem dX4_inLowestTerms_19 : decode cX4_inLowestTerms 19 = .ok (.lcmp, 1) := by decide +kernel
theorem dX4_inLowestTerms_20 : decode cX4_inLowestTerms 20 = .ok (.ifCond .eq 24, 3) := by decide +kernel
theorem dX4_inLowestTerms_23 : decode cX4_inLowestTerms 23 = .ok (.lload 5, 2) := by decide +kernel
theorem dX4_inLowestTerms_25 : decode cX4_inLowestTerms 25 = .ok (.lload 7, 2) := by decide +kernel
theorem dX4_inLowestTerms_27 : decode cX4_inLowestTerms 27 = .ok (.lrem, 1) := by decide +kernel
theorem dX4_inLowestTerms_28 : decode cX4_inLowestTerms 28 = .ok (.lstore 10, 2) := by decide +kernel
theorem dX4_inLowestTerms_30 : decode cX4_inLowestTerms 30 = .ok (.lload 7, 2) := by decide +kernel
theorem dX4_inLowestTerms_32 : decode cX4_inLowestTerms 32 = .ok (.lstore 5, 2) := by decide +kernel
theorem dX4_inLowestTerms_34 : decode cX4_inLowestTerms 34 = .ok (.lload 10, 2) := by decide +kernel
theorem dX4_inLowestTerms_36 : decode cX4_inLowestTerms 36 = .ok (.lstore 7, 2) := by decide +kernel
theorem dX4_inLowestTerms_38 : decode cX4_inLowestTerms 38 = .ok (.iinc 9 1, 3) := by decide +kernel
theorem dX4_inLowestTerms_41 : decode cX4_inLowestTerms 41 = .ok (.goto (-32), 3) := by decide +kernel
theorem dX4_inLowestTerms_44 : decode cX4_inLowestTerms 44 = .ok (.lload 5, 2) := by decide +kernel
theorem dX4_inLowestTerms_46 : decode cX4_inLowestTerms 46 = .ok (.lconst 1, 1) := by decide +kernel
theorem dX4_inLowestTerms_47 : decode cX4_inLowestTerms 47 = .ok (.lcmp, 1) := by decide +kernel
theorem dX4_inLowestTerms_48 : decode cX4_inLowestTerms 48 = .ok (.ifCond .ge 14, 3) := by decide +kernel
theorem dX4_inLowestTerms_51 : decode cX4_inLowestTerms 51 = .ok (.iload 4, 2) := by decide +kernel
theorem dX4_inLowestTerms_53 : decode cX4_inLowestTerms 53 = .ok (.ifCond .ne 7, 3) := by decide +kernel
theorem dX4_inLowestTerms_56 : decode cX4_inLowestTerms 56 = .ok (.lload_n 0, 1) := by decide +kernel
theorem dX4_inLowestTerms_57 : decode cX4_inLowestTerms 57 = .ok (.goto 4, 3) := by decide +kernel
theorem dX4_inLowestTerms_60 : decode cX4_inLowestTerms 60 = .ok (.lload_n 2, 1) := by decide +kernel
theorem dX4_inLowestTerms_61 : decode cX4_inLowestTerms 61 = .ok (.lreturn, 1) := by decide +kernel
theorem dX4_inLowestTerms_62 : decode cX4_inLowestTerms 62 = .ok (.iload 4, 2) := by decide +kernel
theorem dX4_inLowestTerms_64 : decode cX4_inLowestTerms 64 = .ok (.ifCond .ne 10, 3) := by decide +kernel
theorem dX4_inLowestTerms_67 : decode cX4_inLowestTerms 67 = .ok (.lload_n 0, 1) := by decide +kernel
theorem dX4_inLowestTerms_68 : decode cX4_inLowestTerms 68 = .ok (.lload 5, 2) := by decide +kernel
theorem dX4_inLowestTerms_70 : decode cX4_inLowestTerms 70 = .ok (.ldiv, 1) := by decide +kernel
theorem dX4_inLowestTerms_71 : decode cX4_inLowestTerms 71 = .ok (.goto 7, 3) := by decide +kernel
theorem dX4_inLowestTerms_74 : decode cX4_inLowestTerms 74 = .ok (.lload_n 2, 1) := by decide +kernel
theorem dX4_inLowestTerms_75 : decode cX4_inLowestTerms 75 = .ok (.lload 5, 2) := by decide +kernel
theorem dX4_inLowestTerms_77 : decode cX4_inLowestTerms 77 = .ok (.ldiv, 1) := by decide +kernel
theorem dX4_inLowestTerms_78 : decode cX4_inLowestTerms 78 = .ok (.lreturn, 1) := by decide +kernel
theorem dX4_isPhaseOfLamp_0 : decode cX4_isPhaseOfLamp 0 = .ok (.aload_n 0, 1) := by decide +kernel
theorem dX4_isPhaseOfLamp_1 : decode cX4_isPhaseOfLamp 1 = .ok (.getfield 10, 3) := by decide +kernel
theorem dX4_isPhaseOfLamp_4 : decode cX4_isPhaseOfLamp 4 = .ok (.aload_n 1, 1) := by decide +kernel
theorem dX4_isPhaseOfLamp_5 : decode cX4_isPhaseOfLamp 5 = .ok (.getfield 247, 3) := by decide +kernel
theorem dX4_isPhaseOfLamp_8 : decode cX4_isPhaseOfLamp 8 = .ok (.iload_n 2, 1) := by decide +kernel
theorem dX4_isPhaseOfLamp_9 : decode cX4_isPhaseOfLamp 9 = .ok (.iaload, 1) := by decide +kernel
theorem dX4_isPhaseOfLamp_10 : decode cX4_isPhaseOfLamp 10 = .ok (.invokevirtual 84, 3) := by decide +kernel
theorem dX4_isPhaseOfLamp_13 : decode cX4_isPhaseOfLamp 13 = .ok (.ifnull 22, 3) := by decide +kernel
theorem dX4_isPhaseOfLamp_16 : decode cX4_isPhaseOfLamp 16 = .ok (.iconst 3, 1) := by decide +kernel
theorem dX4_isPhaseOfLamp_17 : decode cX4_isPhaseOfLamp 17 = .ok (.aload_n 1, 1) := by decide +kernel
theorem dX4_isPhaseOfLamp_18 : decode cX4_isPhaseOfLamp 18 = .ok (.getfield 247, 3) := by decide +kernel
theorem dX4_isPhaseOfLamp_21 : decode cX4_isPhaseOfLamp 21 = .ok (.iload_n 2, 1) := by decide +kernel
theorem dX4_isPhaseOfLamp_22 : decode cX4_isPhaseOfLamp 22 = .ok (.iconst 1, 1) := by decide +kernel
theorem dX4_isPhaseOfLamp_23 : decode cX4_isPhaseOfLamp 23 = .ok (.iadd, 1) := by decide +kernel
theorem dX4_isPhaseOfLamp_24 : decode cX4_isPhaseOfLamp 24 = .ok (.iaload, 1) := by decide +kernel
theorem dX4_isPhaseOfLamp_25 : decode cX4_isPhaseOfLamp 25 = .ok (.invokestatic 103, 3) := by decide +kernel
theorem dX4_isPhaseOfLamp_28 : decode cX4_isPhaseOfLamp 28 = .ok (.ifCond .eq 7, 3) := by decide +kernel
theorem dX4_isPhaseOfLamp_31 : decode cX4_isPhaseOfLamp 31 = .ok (.iconst 1, 1) := by decide +kernel
theorem dX4_isPhaseOfLamp_32 : decode cX4_isPhaseOfLamp 32 = .ok (.goto 4, 3) := by decide +kernel
theorem dX4_isPhaseOfLamp_35 : decode cX4_isPhaseOfLamp 35 = .ok (.iconst 0, 1) := by decide +kernel
theorem dX4_isPhaseOfLamp_36 : decode cX4_isPhaseOfLamp 36 = .ok (.ireturn, 1) := by decide +kernel
theorem dX4_takePhases_0 : decode cX4_takePhases 0 = .ok (.iconst 0, 1) := by decide +kernel
theorem dX4_takePhases_1 : decode cX4_takePhases 1 = .ok (.istore 4, 2) := by decide +kernel
theorem dX4_takePhases_3 : decode cX4_takePhases 3 = .ok (.iload 4, 2) := by decide +kernel
theorem dX4_takePhases_5 : decode cX4_takePhases 5 = .ok (.iload_n 3, 1) := by decide +kernel
theorem dX4_takePhases_6 : decode cX4_takePhases 6 = .ok (.if_icmp .ge 45, 3) := by decide +kernel
theorem dX4_takePhases_9 : decode cX4_takePhases 9 = .ok (.iload_n 2, 1) := by decide +kernel
theorem dX4_takePhases_10 : decode cX4_takePhases 10 = .ok (.iconst 2, 1) := by decide +kernel
theorem dX4_takePhases_11 : decode cX4_takePhases 11 = .ok (.iload 4, 2) := by decide +kernel
theorem dX4_takePhases_13 : decode cX4_takePhases 13 = .ok (.imul, 1) := by decide +kernel
theorem dX4_takePhases_14 : decode cX4_takePhases 14 = .ok (.iadd, 1) := by decide +kernel
theorem dX4_takePhases_15 : decode cX4_takePhases 15 = .ok (.istore 5, 2) := by decide +kernel
theorem dX4_takePhases_17 : decode cX4_takePhases 17 = .ok (.aload_n 0, 1) := by decide +kernel
theorem dX4_takePhases_18 : decode cX4_takePhases 18 = .ok (.getfield 10, 3) := by decide +kernel
theorem dX4_takePhases_21 : decode cX4_takePhases 21 = .ok (.getfield 158, 3) := by decide +kernel
theorem dX4_takePhases_24 : decode cX4_takePhases 24 = .ok (.aload_n 1, 1) := by decide +kernel
theorem dX4_takePhases_25 : decode cX4_takePhases 25 = .ok (.getfield 247, 3) := by decide +kernel
theorem dX4_takePhases_28 : decode cX4_takePhases 28 = .ok (.iload 5, 2) := by decide +kernel
theorem dX4_takePhases_30 : decode cX4_takePhases 30 = .ok (.iaload, 1) := by decide +kernel
theorem dX4_takePhases_31 : decode cX4_takePhases 31 = .ok (.aaload, 1) := by decide +kernel
theorem dX4_takePhases_32 : decode cX4_takePhases 32 = .ok (.iconst 3, 1) := by decide +kernel
theorem dX4_takePhases_33 : decode cX4_takePhases 33 = .ok (.aload_n 1, 1) := by decide +kernel
theorem dX4_takePhases_34 : decode cX4_takePhases 34 = .ok (.getfield 247, 3) := by decide +kernel
theorem dX4_takePhases_37 : decode cX4_takePhases 37 = .ok (.iload 5, 2) := by decide +kernel
theorem dX4_takePhases_39 : decode cX4_takePhases 39 = .ok (.iconst 1, 1) := by decide +kernel
theorem dX4_takePhases_40 : decode cX4_takePhases 40 = .ok (.iadd, 1) := by decide +kernel
theorem dX4_takePhases_41 : decode cX4_takePhases 41 = .ok (.iaload, 1) := by decide +kernel
theorem dX4_takePhases_42 : decode cX4_takePhases 42 = .ok (.invokevirtual 107, 3) := by decide +kernel
theorem dX4_takePhases_45 : decode cX4_takePhases 45 = .ok (.iinc 4 1, 3) := by decide +kernel
theorem dX4_takePhases_48 : decode cX4_takePhases 48 = .ok (.goto (-45), 3) := by decide +kernel
theorem dX4_takePhases_51 : decode cX4_takePhases 51 = .ok (.return_, 1) := by decide +kernel
