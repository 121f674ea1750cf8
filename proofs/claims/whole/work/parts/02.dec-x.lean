theorem dX0_init_0 : decode cX0_init 0 = .ok (.aload_n 0, 1) := by decide +kernel
theorem dX0_init_1 : decode cX0_init 1 = .ok (.invokespecial 3, 3) := by decide +kernel
theorem dX0_init_4 : decode cX0_init 4 = .ok (.aload_n 0, 1) := by decide +kernel
theorem dX0_init_5 : decode cX0_init 5 = .ok (.iconst 4, 1) := by decide +kernel
theorem dX0_init_6 : decode cX0_init 6 = .ok (.newarray .int, 2) := by decide +kernel
theorem dX0_init_8 : decode cX0_init 8 = .ok (.dup, 1) := by decide +kernel
theorem dX0_init_9 : decode cX0_init 9 = .ok (.iconst 0, 1) := by decide +kernel
theorem dX0_init_10 : decode cX0_init 10 = .ok (.iconst 0, 1) := by decide +kernel
theorem dX0_init_11 : decode cX0_init 11 = .ok (.iastore, 1) := by decide +kernel
theorem dX0_init_12 : decode cX0_init 12 = .ok (.dup, 1) := by decide +kernel
theorem dX0_init_13 : decode cX0_init 13 = .ok (.iconst 1, 1) := by decide +kernel
theorem dX0_init_14 : decode cX0_init 14 = .ok (.iconst 1, 1) := by decide +kernel
theorem dX0_init_15 : decode cX0_init 15 = .ok (.iastore, 1) := by decide +kernel
theorem dX0_init_16 : decode cX0_init 16 = .ok (.dup, 1) := by decide +kernel
theorem dX0_init_17 : decode cX0_init 17 = .ok (.iconst 2, 1) := by decide +kernel
theorem dX0_init_18 : decode cX0_init 18 = .ok (.iconst 1, 1) := by decide +kernel
theorem dX0_init_19 : decode cX0_init 19 = .ok (.iastore, 1) := by decide +kernel
theorem dX0_init_20 : decode cX0_init 20 = .ok (.dup, 1) := by decide +kernel
theorem dX0_init_21 : decode cX0_init 21 = .ok (.iconst 3, 1) := by decide +kernel
theorem dX0_init_22 : decode cX0_init 22 = .ok (.iconst 0, 1) := by decide +kernel
theorem dX0_init_23 : decode cX0_init 23 = .ok (.iastore, 1) := by decide +kernel
theorem dX0_init_24 : decode cX0_init 24 = .ok (.putfield 9, 3) := by decide +kernel
theorem dX0_init_27 : decode cX0_init 27 = .ok (.aload_n 0, 1) := by decide +kernel
theorem dX0_init_28 : decode cX0_init 28 = .ok (.bipush 13, 2) := by decide +kernel
theorem dX0_init_30 : decode cX0_init 30 = .ok (.newarray .int, 2) := by decide +kernel
theorem dX0_init_32 : decode cX0_init 32 = .ok (.putfield 15, 3) := by decide +kernel
theorem dX0_init_35 : decode cX0_init 35 = .ok (.return_, 1) := by decide +kernel
theorem dX0_copyFrom_0 : decode cX0_copyFrom 0 = .ok (.aload_n 1, 1) := by decide +kernel
theorem dX0_copyFrom_1 : decode cX0_copyFrom 1 = .ok (.getfield 9, 3) := by decide +kernel
theorem dX0_copyFrom_4 : decode cX0_copyFrom 4 = .ok (.iconst 0, 1) := by decide +kernel
theorem dX0_copyFrom_5 : decode cX0_copyFrom 5 = .ok (.aload_n 0, 1) := by decide +kernel
theorem dX0_copyFrom_6 : decode cX0_copyFrom 6 = .ok (.getfield 9, 3) := by decide +kernel
theorem dX0_copyFrom_9 : decode cX0_copyFrom 9 = .ok (.iconst 0, 1) := by decide +kernel
theorem dX0_copyFrom_10 : decode cX0_copyFrom 10 = .ok (.iconst 4, 1) := by decide +kernel
theorem dX0_copyFrom_11 : decode cX0_copyFrom 11 = .ok (.invokestatic 18, 3) := by decide +kernel
theorem dX0_copyFrom_14 : decode cX0_copyFrom 14 = .ok (.aload_n 1, 1) := by decide +kernel
theorem dX0_copyFrom_15 : decode cX0_copyFrom 15 = .ok (.getfield 15, 3) := by decide +kernel
theorem dX0_copyFrom_18 : decode cX0_copyFrom 18 = .ok (.iconst 0, 1) := by decide +kernel
theorem dX0_copyFrom_19 : decode cX0_copyFrom 19 = .ok (.aload_n 0, 1) := by decide +kernel
theorem dX0_copyFrom_20 : decode cX0_copyFrom 20 = .ok (.getfield 15, 3) := by decide +kernel
theorem dX0_copyFrom_23 : decode cX0_copyFrom 23 = .ok (.iconst 0, 1) := by decide +kernel
theorem dX0_copyFrom_24 : decode cX0_copyFrom 24 = .ok (.aload_n 0, 1) := by decide +kernel
theorem dX0_copyFrom_25 : decode cX0_copyFrom 25 = .ok (.getfield 15, 3) := by decide +kernel
theorem dX0_copyFrom_28 : decode cX0_copyFrom 28 = .ok (.arraylength, 1) := by decide +kernel
theorem dX0_copyFrom_29 : decode cX0_copyFrom 29 = .ok (.invokestatic 18, 3) := by decide +kernel
theorem dX0_copyFrom_32 : decode cX0_copyFrom 32 = .ok (.return_, 1) := by decide +kernel
theorem dX0_become_0 : decode cX0_become 0 = .ok (.iload_n 1, 1) := by decide +kernel
theorem dX0_become_1 : decode cX0_become 1 = .ok (.iload_n 2, 1) := by decide +kernel
theorem dX0_become_2 : decode cX0_become 2 = .ok (.invokestatic 24, 3) := by decide +kernel
theorem dX0_become_5 : decode cX0_become 5 = .ok (.ifCond .ne 4, 3) := by decide +kernel
theorem dX0_become_8 : decode cX0_become 8 = .ok (.return_, 1) := by decide +kernel
theorem dX0_become_9 : decode cX0_become 9 = .ok (.aload_n 0, 1) := by decide +kernel
theorem dX0_become_10 : decode cX0_become 10 = .ok (.getfield 9, 3) := by decide +kernel
theorem dX0_become_13 : decode cX0_become 13 = .ok (.iload_n 1, 1) := by decide +kernel
theorem dX0_become_14 : decode cX0_become 14 = .ok (.iload_n 2, 1) := by decide +kernel
theorem dX0_become_15 : decode cX0_become 15 = .ok (.iastore, 1) := by decide +kernel
theorem dX0_become_16 : decode cX0_become 16 = .ok (.iload_n 1, 1) := by decide +kernel
theorem dX0_become_17 : decode cX0_become 17 = .ok (.iconst 3, 1) := by decide +kernel
theorem dX0_become_18 : decode cX0_become 18 = .ok (.if_icmp .eq 7, 3) := by decide +kernel
theorem dX0_become_21 : decode cX0_become 21 = .ok (.aload_n 0, 1) := by decide +kernel
theorem dX0_become_22 : decode cX0_become 22 = .ok (.invokevirtual 28, 3) := by decide +kernel
theorem dX0_become_25 : decode cX0_become 25 = .ok (.return_, 1) := by decide +kernel
theorem dX0_putOut_0 : decode cX0_putOut 0 = .ok (.aload_n 0, 1) := by decide +kernel
theorem dX0_putOut_1 : decode cX0_putOut 1 = .ok (.getfield 15, 3) := by decide +kernel
theorem dX0_putOut_4 : decode cX0_putOut 4 = .ok (.iconst 0, 1) := by decide +kernel
theorem dX0_putOut_5 : decode cX0_putOut 5 = .ok (.invokestatic 31, 3) := by decide +kernel
theorem dX0_putOut_8 : decode cX0_putOut 8 = .ok (.return_, 1) := by decide +kernel
theorem dX0_gives_0 : decode cX0_gives 0 = .ok (.aload_n 0, 1) := by decide +kernel
theorem dX0_gives_1 : decode cX0_gives 1 = .ok (.getfield 9, 3) := by decide +kernel
theorem dX0_gives_4 : decode cX0_gives 4 = .ok (.iconst 2, 1) := by decide +kernel
theorem dX0_gives_5 : decode cX0_gives 5 = .ok (.iaload, 1) := by decide +kernel
theorem dX0_gives_6 : decode cX0_gives 6 = .ok (.istore_n 3, 1) := by decide +kernel
theorem dX0_gives_7 : decode cX0_gives 7 = .ok (.iload_n 3, 1) := by decide +kernel
theorem dX0_gives_8 : decode cX0_gives 8 = .ok (.iconst 1, 1) := by decide +kernel
theorem dX0_gives_9 : decode cX0_gives 9 = .ok (.if_icmp .lt 17, 3) := by decide +kernel
theorem dX0_gives_12 : decode cX0_gives 12 = .ok (.iload_n 3, 1) := by decide +kernel
theorem dX0_gives_13 : decode cX0_gives 13 = .ok (.bipush 12, 2) := by decide +kernel
theorem dX0_gives_15 : decode cX0_gives 15 = .ok (.if_icmp .gt 11, 3) := by decide +kernel
theorem dX0_gives_18 : decode cX0_gives 18 = .ok (.iload_n 1, 1) := by decide +kernel
theorem dX0_gives_19 : decode cX0_gives 19 = .ok (.ifCond .lt 7, 3) := by decide +kernel
theorem dX0_gives_22 : decode cX0_gives 22 = .ok (.iload_n 2, 1) := by decide +kernel
theorem dX0_gives_23 : decode cX0_gives 23 = .ok (.ifCond .ge 5, 3) := by decide +kernel
theorem dX0_gives_26 : decode cX0_gives 26 = .ok (.iconst 0, 1) := by decide +kernel
theorem dX0_gives_27 : decode cX0_gives 27 = .ok (.ireturn, 1) := by decide +kernel
theorem dX0_gives_28 : decode cX0_gives 28 = .ok (.iload_n 1, 1) := by decide +kernel
theorem dX0_gives_29 : decode cX0_gives 29 = .ok (.aload_n 0, 1) := by decide +kernel
theorem dX0_gives_30 : decode cX0_gives 30 = .ok (.getfield 9, 3) := by decide +kernel
theorem dX0_gives_33 : decode cX0_gives 33 = .ok (.iconst 3, 1) := by decide +kernel
theorem dX0_gives_34 : decode cX0_gives 34 = .ok (.iaload, 1) := by decide +kernel
theorem dX0_gives_35 : decode cX0_gives 35 = .ok (.iadd, 1) := by decide +kernel
theorem dX0_gives_36 : decode cX0_gives 36 = .ok (.iload_n 3, 1) := by decide +kernel
theorem dX0_gives_37 : decode cX0_gives 37 = .ok (.irem, 1) := by decide +kernel
theorem dX0_gives_38 : decode cX0_gives 38 = .ok (.istore 4, 2) := by decide +kernel
theorem dX0_gives_40 : decode cX0_gives 40 = .ok (.iload 4, 2) := by decide +kernel
theorem dX0_gives_42 : decode cX0_gives 42 = .ok (.iload_n 2, 1) := by decide +kernel
theorem dX0_gives_43 : decode cX0_gives 43 = .ok (.iload_n 3, 1) := by decide +kernel
theorem dX0_gives_44 : decode cX0_gives 44 = .ok (.irem, 1) := by decide +kernel
theorem dX0_gives_45 : decode cX0_gives 45 = .ok (.iadd, 1) := by decide +kernel
theorem dX0_gives_46 : decode cX0_gives 46 = .ok (.istore 5, 2) := by decide +kernel
theorem dX0_gives_48 : decode cX0_gives 48 = .ok (.iload_n 2, 1) := by decide +kernel
theorem dX0_gives_49 : decode cX0_gives 49 = .ok (.iload_n 3, 1) := by decide +kernel
theorem dX0_gives_50 : decode cX0_gives 50 = .ok (.idiv, 1) := by decide +kernel
theorem dX0_gives_51 : decode cX0_gives 51 = .ok (.istore 6, 2) := by decide +kernel
theorem dX0_gives_53 : decode cX0_gives 53 = .ok (.iload 5, 2) := by decide +kernel
theorem dX0_gives_55 : decode cX0_gives 55 = .ok (.iload_n 3, 1) := by decide +kernel
theorem dX0_gives_56 : decode cX0_gives 56 = .ok (.if_icmp .lt 12, 3) := by decide +kernel
theorem dX0_gives_59 : decode cX0_gives 59 = .ok (.iload 5, 2) := by decide +kernel
theorem dX0_gives_61 : decode cX0_gives 61 = .ok (.iload_n 3, 1) := by decide +kernel
theorem dX0_gives_62 : decode cX0_gives 62 = .ok (.isub, 1) := by decide +kernel
theorem dX0_gives_63 : decode cX0_gives 63 = .ok (.istore 5, 2) := by decide +kernel
theorem dX0_gives_65 : decode cX0_gives 65 = .ok (.iinc 6 1, 3) := by decide +kernel
theorem dX0_gives_68 : decode cX0_gives 68 = .ok (.iload 6, 2) := by decide +kernel
theorem dX0_gives_70 : decode cX0_gives 70 = .ok (.aload_n 0, 1) := by decide +kernel
theorem dX0_gives_71 : decode cX0_gives 71 = .ok (.getfield 15, 3) := by decide +kernel
theorem dX0_gives_74 : decode cX0_gives 74 = .ok (.iload_n 3, 1) := by decide +kernel
theorem dX0_gives_75 : decode cX0_gives 75 = .ok (.iaload, 1) := by decide +kernel
theorem dX0_gives_76 : decode cX0_gives 76 = .ok (.imul, 1) := by decide +kernel
theorem dX0_gives_77 : decode cX0_gives 77 = .ok (.aload_n 0, 1) := by decide +kernel
theorem dX0_gives_78 : decode cX0_gives 78 = .ok (.getfield 15, 3) := by decide +kernel
theorem dX0_gives_81 : decode cX0_gives 81 = .ok (.iload 5, 2) := by decide +kernel
theorem dX0_gives_83 : decode cX0_gives 83 = .ok (.iaload, 1) := by decide +kernel
theorem dX0_gives_84 : decode cX0_gives 84 = .ok (.iadd, 1) := by decide +kernel
theorem dX0_gives_85 : decode cX0_gives 85 = .ok (.aload_n 0, 1) := by decide +kernel
theorem dX0_gives_86 : decode cX0_gives 86 = .ok (.getfield 15, 3) := by decide +kernel
theorem dX0_gives_89 : decode cX0_gives 89 = .ok (.iload 4, 2) := by decide +kernel
theorem dX0_gives_91 : decode cX0_gives 91 = .ok (.iaload, 1) := by decide +kernel
theorem dX0_gives_92 : decode cX0_gives 92 = .ok (.isub, 1) := by decide +kernel
theorem dX0_gives_93 : decode cX0_gives 93 = .ok (.ireturn, 1) := by decide +kernel
theorem dX0_sumUp_0 : decode cX0_sumUp 0 = .ok (.iconst 0, 1) := by decide +kernel
theorem dX0_sumUp_1 : decode cX0_sumUp 1 = .ok (.istore_n 1, 1) := by decide +kernel
theorem dX0_sumUp_2 : decode cX0_sumUp 2 = .ok (.iload_n 1, 1) := by decide +kernel
theorem dX0_sumUp_3 : decode cX0_sumUp 3 = .ok (.aload_n 0, 1) := by decide +kernel
theorem dX0_sumUp_4 : decode cX0_sumUp 4 = .ok (.getfield 9, 3) := by decide +kernel
theorem dX0_sumUp_7 : decode cX0_sumUp 7 = .ok (.iconst 2, 1) := by decide +kernel
theorem dX0_sumUp_8 : decode cX0_sumUp 8 = .ok (.iaload, 1) := by decide +kernel
theorem dX0_sumUp_9 : decode cX0_sumUp 9 = .ok (.if_icmp .ge 35, 3) := by decide +kernel
theorem dX0_sumUp_12 : decode cX0_sumUp 12 = .ok (.iload_n 1, 1) := by decide +kernel
theorem dX0_sumUp_13 : decode cX0_sumUp 13 = .ok (.bipush 12, 2) := by decide +kernel
theorem dX0_sumUp_15 : decode cX0_sumUp 15 = .ok (.if_icmp .ge 29, 3) := by decide +kernel
theorem dX0_sumUp_18 : decode cX0_sumUp 18 = .ok (.aload_n 0, 1) := by decide +kernel
theorem dX0_sumUp_19 : decode cX0_sumUp 19 = .ok (.getfield 15, 3) := by decide +kernel
theorem dX0_sumUp_22 : decode cX0_sumUp 22 = .ok (.iload_n 1, 1) := by decide +kernel
theorem dX0_sumUp_23 : decode cX0_sumUp 23 = .ok (.iconst 1, 1) := by decide +kernel
theorem dX0_sumUp_24 : decode cX0_sumUp 24 = .ok (.iadd, 1) := by decide +kernel
theorem dX0_sumUp_25 : decode cX0_sumUp 25 = .ok (.aload_n 0, 1) := by decide +kernel
theorem dX0_sumUp_26 : decode cX0_sumUp 26 = .ok (.getfield 15, 3) := by decide +kernel
theorem dX0_sumUp_29 : decode cX0_sumUp 29 = .ok (.iload_n 1, 1) := by decide +kernel
theorem dX0_sumUp_30 : decode cX0_sumUp 30 = .ok (.iaload, 1) := by decide +kernel
theorem dX0_sumUp_31 : decode cX0_sumUp 31 = .ok (.aload_n 0, 1) := by decide +kernel
theorem dX0_sumUp_32 : decode cX0_sumUp 32 = .ok (.iload_n 1, 1) := by decide +kernel
theorem dX0_sumUp_33 : decode cX0_sumUp 33 = .ok (.invokevirtual 37, 3) := by decide +kernel
theorem dX0_sumUp_36 : decode cX0_sumUp 36 = .ok (.iadd, 1) := by decide +kernel
theorem dX0_sumUp_37 : decode cX0_sumUp 37 = .ok (.iastore, 1) := by decide +kernel
theorem dX0_sumUp_38 : decode cX0_sumUp 38 = .ok (.iinc 1 1, 3) := by decide +kernel
theorem dX0_sumUp_41 : decode cX0_sumUp 41 = .ok (.goto (-39), 3) := by decide +kernel
theorem dX0_sumUp_44 : decode cX0_sumUp 44 = .ok (.return_, 1) := by decide +kernel
theorem dX0_givesAt_0 : decode cX0_givesAt 0 = .ok (.aload_n 0, 1) := by decide +kernel
theorem dX0_givesAt_1 : decode cX0_givesAt 1 = .ok (.getfield 9, 3) := by decide +kernel
theorem dX0_givesAt_4 : decode cX0_givesAt 4 = .ok (.iconst 1, 1) := by decide +kernel
theorem dX0_givesAt_5 : decode cX0_givesAt 5 = .ok (.iaload, 1) := by decide +kernel
theorem dX0_givesAt_6 : decode cX0_givesAt 6 = .ok (.istore_n 2, 1) := by decide +kernel
theorem dX0_givesAt_7 : decode cX0_givesAt 7 = .ok (.aload_n 0, 1) := by decide +kernel
theorem dX0_givesAt_8 : decode cX0_givesAt 8 = .ok (.getfield 9, 3) := by decide +kernel
theorem dX0_givesAt_11 : decode cX0_givesAt 11 = .ok (.iconst 2, 1) := by decide +kernel
theorem dX0_givesAt_12 : decode cX0_givesAt 12 = .ok (.iaload, 1) := by decide +kernel
theorem dX0_givesAt_13 : decode cX0_givesAt 13 = .ok (.istore_n 3, 1) := by decide +kernel
theorem dX0_givesAt_14 : decode cX0_givesAt 14 = .ok (.iconst 2, 1) := by decide +kernel
theorem dX0_givesAt_15 : decode cX0_givesAt 15 = .ok (.iload_n 1, 1) := by decide +kernel
theorem dX0_givesAt_16 : decode cX0_givesAt 16 = .ok (.imul, 1) := by decide +kernel
theorem dX0_givesAt_17 : decode cX0_givesAt 17 = .ok (.iload_n 3, 1) := by decide +kernel
theorem dX0_givesAt_18 : decode cX0_givesAt 18 = .ok (.if_icmp .ge 7, 3) := by decide +kernel
theorem dX0_givesAt_21 : decode cX0_givesAt 21 = .ok (.iconst 1, 1) := by decide +kernel
theorem dX0_givesAt_22 : decode cX0_givesAt 22 = .ok (.goto 4, 3) := by decide +kernel
theorem dX0_givesAt_25 : decode cX0_givesAt 25 = .ok (.iconst 0, 1) := by decide +kernel
theorem dX0_givesAt_26 : decode cX0_givesAt 26 = .ok (.istore 4, 2) := by decide +kernel
theorem dX0_givesAt_28 : decode cX0_givesAt 28 = .ok (.aload_n 0, 1) := by decide +kernel
theorem dX0_givesAt_29 : decode cX0_givesAt 29 = .ok (.getfield 9, 3) := by decide +kernel
theorem dX0_givesAt_32 : decode cX0_givesAt 32 = .ok (.iconst 0, 1) := by decide +kernel
theorem dX0_givesAt_33 : decode cX0_givesAt 33 = .ok (.iaload, 1) := by decide +kernel
theorem dX0_givesAt_34 : decode cX0_givesAt 34 = .ok (.tableswitch 65 1 3 #[26, 37, 52], 26) := by decide +kernel
theorem dX0_givesAt_60 : decode cX0_givesAt 60 = .ok (.iload 4, 2) := by decide +kernel
theorem dX0_givesAt_62 : decode cX0_givesAt 62 = .ok (.ifCond .eq 7, 3) := by decide +kernel
theorem dX0_givesAt_65 : decode cX0_givesAt 65 = .ok (.iload_n 2, 1) := by decide +kernel
theorem dX0_givesAt_66 : decode cX0_givesAt 66 = .ok (.goto 4, 3) := by decide +kernel
theorem dX0_givesAt_69 : decode cX0_givesAt 69 = .ok (.iconst 0, 1) := by decide +kernel
theorem dX0_givesAt_70 : decode cX0_givesAt 70 = .ok (.ireturn, 1) := by decide +kernel
theorem dX0_givesAt_71 : decode cX0_givesAt 71 = .ok (.iload_n 3, 1) := by decide +kernel
theorem dX0_givesAt_72 : decode cX0_givesAt 72 = .ok (.iconst 1, 1) := by decide +kernel
theorem dX0_givesAt_73 : decode cX0_givesAt 73 = .ok (.if_icmp .ge 7, 3) := by decide +kernel
theorem dX0_givesAt_76 : decode cX0_givesAt 76 = .ok (.iconst 0, 1) := by decide +kernel
theorem dX0_givesAt_77 : decode cX0_givesAt 77 = .ok (.goto 8, 3) := by decide +kernel
theorem dX0_givesAt_80 : decode cX0_givesAt 80 = .ok (.iload_n 2, 1) := by decide +kernel
theorem dX0_givesAt_81 : decode cX0_givesAt 81 = .ok (.iload_n 1, 1) := by decide +kernel
theorem dX0_givesAt_82 : decode cX0_givesAt 82 = .ok (.imul, 1) := by decide +kernel
theorem dX0_givesAt_83 : decode cX0_givesAt 83 = .ok (.iload_n 3, 1) := by decide +kernel
theorem dX0_givesAt_84 : decode cX0_givesAt 84 = .ok (.idiv, 1) := by decide +kernel
theorem dX0_givesAt_85 : decode cX0_givesAt 85 = .ok (.ireturn, 1) := by decide +kernel
theorem dX0_givesAt_86 : decode cX0_givesAt 86 = .ok (.iload 4, 2) := by decide +kernel
theorem dX0_givesAt_88 : decode cX0_givesAt 88 = .ok (.ifCond .eq 7, 3) := by decide +kernel
theorem dX0_givesAt_91 : decode cX0_givesAt 91 = .ok (.iload_n 2, 1) := by decide +kernel
theorem dX0_givesAt_92 : decode cX0_givesAt 92 = .ok (.goto 6, 3) := by decide +kernel
theorem dX0_givesAt_95 : decode cX0_givesAt 95 = .ok (.iload_n 2, 1) := by decide +kernel
theorem dX0_givesAt_96 : decode cX0_givesAt 96 = .ok (.iconst 2, 1) := by decide +kernel
theorem dX0_givesAt_97 : decode cX0_givesAt 97 = .ok (.idiv, 1) := by decide +kernel
theorem dX0_givesAt_98 : decode cX0_givesAt 98 = .ok (.ireturn, 1) := by decide +kernel
theorem dX0_givesAt_99 : decode cX0_givesAt 99 = .ok (.iload_n 2, 1) := by decide +kernel
theorem dX0_givesAt_100 : decode cX0_givesAt 100 = .ok (.ireturn, 1) := by decide +kernel
theorem dX1_init_0 : decode cX1_init 0 = .ok (.aload_n 0, 1) := by decide +kernel
theorem dX1_init_1 : decode cX1_init 1 = .ok (.invokespecial 3, 3) := by decide +kernel
theorem dX1_init_4 : decode cX1_init 4 = .ok (.aload_n 0, 1) := by decide +kernel
theorem dX1_init_5 : decode cX1_init 5 = .ok (.iconst 4, 1) := by decide +kernel
theorem dX1_init_6 : decode cX1_init 6 = .ok (.anewarray 9, 3) := by decide +kernel
theorem dX1_init_9 : decode cX1_init 9 = .ok (.putfield 11, 3) := by decide +kernel
theorem dX1_init_12 : decode cX1_init 12 = .ok (.aload_n 0, 1) := by decide +kernel
theorem dX1_init_13 : decode cX1_init 13 = .ok (.iconst 4, 1) := by decide +kernel
theorem dX1_init_14 : decode cX1_init 14 = .ok (.newarray .int, 2) := by decide +kernel
theorem dX1_init_16 : decode cX1_init 16 = .ok (.putfield 17, 3) := by decide +kernel
theorem dX1_init_19 : decode cX1_init 19 = .ok (.aload_n 0, 1) := by decide +kernel
theorem dX1_init_20 : decode cX1_init 20 = .ok (.bipush 8, 2) := by decide +kernel
theorem dX1_init_22 : decode cX1_init 22 = .ok (.newarray .int, 2) := by decide +kernel
theorem dX1_init_24 : decode cX1_init 24 = .ok (.putfield 21, 3) := by decide +kernel
theorem dX1_init_27 : decode cX1_init 27 = .ok (.aload_n 0, 1) := by decide +kernel
theorem dX1_init_28 : decode cX1_init 28 = .ok (.bipush 6, 2) := by decide +kernel
theorem dX1_init_30 : decode cX1_init 30 = .ok (.newarray .int, 2) := by decide +kernel
theorem dX1_init_32 : decode cX1_init 32 = .ok (.putfield 24, 3) := by decide +kernel
theorem dX1_init_35 : decode cX1_init 35 = .ok (.aload_n 0, 1) := by decide +kernel
theorem dX1_init_36 : decode cX1_init 36 = .ok (.bipush 6, 2) := by decide +kernel
theorem dX1_init_38 : decode cX1_init 38 = .ok (.newarray .int, 2) := by decide +kernel
theorem dX1_init_40 : decode cX1_init 40 = .ok (.putfield 27, 3) := by decide +kernel
theorem dX1_init_43 : decode cX1_init 43 = .ok (.aload_n 0, 1) := by decide +kernel
theorem dX1_init_44 : decode cX1_init 44 = .ok (.bipush 6, 2) := by decide +kernel
theorem dX1_init_46 : decode cX1_init 46 = .ok (.newarray .int, 2) := by decide +kernel
theorem dX1_init_48 : decode cX1_init 48 = .ok (.putfield 30, 3) := by decide +kernel
theorem dX1_init_51 : decode cX1_init 51 = .ok (.iconst 0, 1) := by decide +kernel
theorem dX1_init_52 : decode cX1_init 52 = .ok (.istore_n 1, 1) := by decide +kernel
theorem dX1_init_53 : decode cX1_init 53 = .ok (.iload_n 1, 1) := by decide +kernel
theorem dX1_init_54 : decode cX1_init 54 = .ok (.iconst 4, 1) := by decide +kernel
theorem dX1_init_55 : decode cX1_init 55 = .ok (.if_icmp .ge 22, 3) := by decide +kernel
theorem dX1_init_58 : decode cX1_init 58 = .ok (.aload_n 0, 1) := by decide +kernel
theorem dX1_init_59 : decode cX1_init 59 = .ok (.getfield 11, 3) := by decide +kernel
theorem dX1_init_62 : decode cX1_init 62 = .ok (.iload_n 1, 1) := by decide +kernel
theorem dX1_init_63 : decode cX1_init 63 = .ok (.new 9, 3) := by decide +kernel
theorem dX1_init_66 : decode cX1_init 66 = .ok (.dup, 1) := by decide +kernel
theorem dX1_init_67 : decode cX1_init 67 = .ok (.invokespecial 33, 3) := by decide +kernel
theorem dX1_init_70 : decode cX1_init 70 = .ok (.aastore, 1) := by decide +kernel
theorem dX1_init_71 : decode cX1_init 71 = .ok (.iinc 1 1, 3) := by decide +kernel
theorem dX1_init_74 : decode cX1_init 74 = .ok (.goto (-21), 3) := by decide +kernel
theorem dX1_init_77 : decode cX1_init 77 = .ok (.getstatic 34, 3) := by decide +kernel
theorem dX1_init_80 : decode cX1_init 80 = .ok (.iconst 0, 1) := by decide +kernel
theorem dX1_init_81 : decode cX1_init 81 = .ok (.aload_n 0, 1) := by decide +kernel
theorem dX1_init_82 : decode cX1_init 82 = .ok (.getfield 17, 3) := by decide +kernel
theorem dX1_init_85 : decode cX1_init 85 = .ok (.iconst 0, 1) := by decide +kernel
theorem dX1_init_86 : decode cX1_init 86 = .ok (.iconst 4, 1) := by decide +kernel
theorem dX1_init_87 : decode cX1_init 87 = .ok (.invokestatic 37, 3) := by decide +kernel
theorem dX1_init_90 : decode cX1_init 90 = .ok (.return_, 1) := by decide +kernel
theorem dX1_clear_0 : decode cX1_clear 0 = .ok (.aload_n 0, 1) := by decide +kernel
theorem dX1_clear_1 : decode cX1_clear 1 = .ok (.iconst 0, 1) := by decide +kernel
theorem dX1_clear_2 : decode cX1_clear 2 = .ok (.putfield 43, 3) := by decide +kernel
theorem dX1_clear_5 : decode cX1_clear 5 = .ok (.getstatic 34, 3) := by decide +kernel
theorem dX1_clear_8 : decode cX1_clear 8 = .ok (.iconst 0, 1) := by decide +kernel
theorem dX1_clear_9 : decode cX1_clear 9 = .ok (.aload_n 0, 1) := by decide +kernel
theorem dX1_clear_10 : decode cX1_clear 10 = .ok (.getfield 17, 3) := by decide +kernel
theorem dX1_clear_13 : decode cX1_clear 13 = .ok (.iconst 0, 1) := by decide +kernel
theorem dX1_clear_14 : decode cX1_clear 14 = .ok (.iconst 4, 1) := by decide +kernel
theorem dX1_clear_15 : decode cX1_clear 15 = .ok (.invokestatic 37, 3) := by decide +kernel
theorem dX1_clear_18 : decode cX1_clear 18 = .ok (.aload_n 0, 1) := by decide +kernel
theorem dX1_clear_19 : decode cX1_clear 19 = .ok (.iconst 0, 1) := by decide +kernel
theorem dX1_clear_20 : decode cX1_clear 20 = .ok (.putfield 47, 3) := by decide +kernel
theorem dX1_clear_23 : decode cX1_clear 23 = .ok (.aload_n 0, 1) := by decide +kernel
theorem dX1_clear_24 : decode cX1_clear 24 = .ok (.iconst 0, 1) := by decide +kernel
theorem dX1_clear_25 : decode cX1_clear 25 = .ok (.putfield 50, 3) := by decide +kernel
theorem dX1_clear_28 : decode cX1_clear 28 = .ok (.aload_n 0, 1) := by decide +kernel
theorem dX1_clear_29 : decode cX1_clear 29 = .ok (.iconst 0, 1) := by decide +kernel
theorem dX1_clear_30 : decode cX1_clear 30 = .ok (.putfield 53, 3) := by decide +kernel
theorem dX1_clear_33 : decode cX1_clear 33 = .ok (.aload_n 0, 1) := by decide +kernel
theorem dX1_clear_34 : decode cX1_clear 34 = .ok (.iconst 0, 1) := by decide +kernel
theorem dX1_clear_35 : decode cX1_clear 35 = .ok (.putfield 56, 3) := by decide +kernel
theorem dX1_clear_38 : decode cX1_clear 38 = .ok (.return_, 1) := by decide +kernel
theorem dX1_copyFrom_0 : decode cX1_copyFrom 0 = .ok (.iconst 0, 1) := by decide +kernel
theorem dX1_copyFrom_1 : decode cX1_copyFrom 1 = .ok (.istore_n 2, 1) := by decide +kernel
theorem dX1_copyFrom_2 : decode cX1_copyFrom 2 = .ok (.iload_n 2, 1) := by decide +kernel
theorem dX1_copyFrom_3 : decode cX1_copyFrom 3 = .ok (.aload_n 1, 1) := by decide +kernel
theorem dX1_copyFrom_4 : decode cX1_copyFrom 4 = .ok (.getfield 43, 3) := by decide +kernel
theorem dX1_copyFrom_7 : decode cX1_copyFrom 7 = .ok (.if_icmp .ge 24, 3) := by decide +kernel
theorem dX1_copyFrom_10 : decode cX1_copyFrom 10 = .ok (.aload_n 0, 1) := by decide +kernel
theorem dX1_copyFrom_11 : decode cX1_copyFrom 11 = .ok (.getfield 11, 3) := by decide +kernel
theorem dX1_copyFrom_14 : decode cX1_copyFrom 14 = .ok (.iload_n 2, 1) := by decide +kernel
theorem dX1_copyFrom_15 : decode cX1_copyFrom 15 = .ok (.aaload, 1) := by decide +kernel
theorem dX1_copyFrom_16 : decode cX1_copyFrom 16 = .ok (.aload_n 1, 1) := by decide +kernel
theorem dX1_copyFrom_17 : decode cX1_copyFrom 17 = .ok (.getfield 11, 3) := by decide +kernel
theorem dX1_copyFrom_20 : decode cX1_copyFrom 20 = .ok (.iload_n 2, 1) := by decide +kernel
theorem dX1_copyFrom_21 : decode cX1_copyFrom 21 = .ok (.aaload, 1) := by decide +kernel
theorem dX1_copyFrom_22 : decode cX1_copyFrom 22 = .ok (.invokevirtual 59, 3) := by decide +kernel
theorem dX1_copyFrom_25 : decode cX1_copyFrom 25 = .ok (.iinc 2 1, 3) := by decide +kernel
theorem dX1_copyFrom_28 : decode cX1_copyFrom 28 = .ok (.goto (-26), 3) := by decide +kernel
theorem dX1_copyFrom_31 : decode cX1_copyFrom 31 = .ok (.aload_n 0, 1) := by decide +kernel
theorem dX1_copyFrom_32 : decode cX1_copyFrom 32 = .ok (.aload_n 1, 1) := by decide +kernel
theorem dX1_copyFrom_33 : decode cX1_copyFrom 33 = .ok (.getfield 43, 3) := by decide +kernel
theorem dX1_copyFrom_36 : decode cX1_copyFrom 36 = .ok (.putfield 43, 3) := by decide +kernel
theorem dX1_copyFrom_39 : decode cX1_copyFrom 39 = .ok (.aload_n 1, 1) := by decide +kernel
theorem dX1_copyFrom_40 : decode cX1_copyFrom 40 = .ok (.getfield 17, 3) := by decide +kernel
theorem dX1_copyFrom_43 : decode cX1_copyFrom 43 = .ok (.iconst 0, 1) := by decide +kernel
theorem dX1_copyFrom_44 : decode cX1_copyFrom 44 = .ok (.aload_n 0, 1) := by decide +kernel
theorem dX1_copyFrom_45 : decode cX1_copyFrom 45 = .ok (.getfield 17, 3) := by decide +kernel
theorem dX1_copyFrom_48 : decode cX1_copyFrom 48 = .ok (.iconst 0, 1) := by decide +kernel
theorem dX1_copyFrom_49 : decode cX1_copyFrom 49 = .ok (.iconst 4, 1) := by decide +kernel
theorem dX1_copyFrom_50 : decode cX1_copyFrom 50 = .ok (.invokestatic 37, 3) := by decide +kernel
theorem dX1_copyFrom_53 : decode cX1_copyFrom 53 = .ok (.aload_n 0, 1) := by decide +kernel
theorem dX1_copyFrom_54 : decode cX1_copyFrom 54 = .ok (.aload_n 1, 1) := by decide +kernel
theorem dX1_copyFrom_55 : decode cX1_copyFrom 55 = .ok (.getfield 47, 3) := by decide +kernel
theorem dX1_copyFrom_58 : decode cX1_copyFrom 58 = .ok (.putfield 47, 3) := by decide +kernel
theorem dX1_copyFrom_61 : decode cX1_copyFrom 61 = .ok (.aload_n 0, 1) := by decide +kernel
theorem dX1_copyFrom_62 : decode cX1_copyFrom 62 = .ok (.aload_n 1, 1) := by decide +kernel
theorem dX1_copyFrom_63 : decode cX1_copyFrom 63 = .ok (.getfield 50, 3) := by decide +kernel
theorem dX1_copyFrom_66 : decode cX1_copyFrom 66 = .ok (.putfield 50, 3) := by decide +kernel
theorem dX1_copyFrom_69 : decode cX1_copyFrom 69 = .ok (.aload_n 1, 1) := by decide +kernel
theorem dX1_copyFrom_70 : decode cX1_copyFrom 70 = .ok (.getfield 21, 3) := by decide +kernel
theorem dX1_copyFrom_73 : decode cX1_copyFrom 73 = .ok (.iconst 0, 1) := by decide +kernel
theorem dX1_copyFrom_74 : decode cX1_copyFrom 74 = .ok (.aload_n 0, 1) := by decide +kernel
theorem dX1_copyFrom_75 : decode cX1_copyFrom 75 = .ok (.getfield 21, 3) := by decide +kernel
theorem dX1_copyFrom_78 : decode cX1_copyFrom 78 = .ok (.iconst 0, 1) := by decide +kernel
theorem dX1_copyFrom_79 : decode cX1_copyFrom 79 = .ok (.bipush 8, 2) := by decide +kernel
theorem dX1_copyFrom_81 : decode cX1_copyFrom 81 = .ok (.invokestatic 37, 3) := by decide +kernel
theorem dX1_copyFrom_84 : decode cX1_copyFrom 84 = .ok (.aload_n 0, 1) := by decide +kernel
theorem dX1_copyFrom_85 : decode cX1_copyFrom 85 = .ok (.aload_n 1, 1) := by decide +kernel
theorem dX1_copyFrom_86 : decode cX1_copyFrom 86 = .ok (.getfield 53, 3) := by decide +kernel
theorem dX1_copyFrom_89 : decode cX1_copyFrom 89 = .ok (.putfield 53, 3) := by decide +kernel
theorem dX1_copyFrom_92 : decode cX1_copyFrom 92 = .ok (.aload_n 1, 1) := by decide +kernel
theorem dX1_copyFrom_93 : decode cX1_copyFrom 93 = .ok (.getfield 24, 3) := by decide +kernel
theorem dX1_copyFrom_96 : decode cX1_copyFrom 96 = .ok (.iconst 0, 1) := by decide +kernel
theorem dX1_copyFrom_97 : decode cX1_copyFrom 97 = .ok (.aload_n 0, 1) := by decide +kernel
theorem dX1_copyFrom_98 : decode cX1_copyFrom 98 = .ok (.getfield 24, 3) := by decide +kernel
theorem dX1_copyFrom_101 : decode cX1_copyFrom 101 = .ok (.iconst 0, 1) := by decide +kernel
theorem dX1_copyFrom_102 : decode cX1_copyFrom 102 = .ok (.bipush 6, 2) := by decide +kernel
theorem dX1_copyFrom_104 : decode cX1_copyFrom 104 = .ok (.invokestatic 37, 3) := by decide +kernel
theorem dX1_copyFrom_107 : decode cX1_copyFrom 107 = .ok (.aload_n 1, 1) := by decide +kernel
theorem dX1_copyFrom_108 : decode cX1_copyFrom 108 = .ok (.getfield 27, 3) := by decide +kernel
theorem dX1_copyFrom_111 : decode cX1_copyFrom 111 = .ok (.iconst 0, 1) := by decide +kernel
theorem dX1_copyFrom_112 : decode cX1_copyFrom 112 = .ok (.aload_n 0, 1) := by decide +kernel
theorem dX1_copyFrom_113 : decode cX1_copyFrom 113 = .ok (.getfield 27, 3) := by decide +kernel
theorem dX1_copyFrom_116 : decode cX1_copyFrom 116 = .ok (.iconst 0, 1) := by decide +kernel
theorem dX1_copyFrom_117 : decode cX1_copyFrom 117 = .ok (.bipush 6, 2) := by decide +kernel
theorem dX1_copyFrom_119 : decode cX1_copyFrom 119 = .ok (.invokestatic 37, 3) := by decide +kernel
theorem dX1_copyFrom_122 : decode cX1_copyFrom 122 = .ok (.aload_n 1, 1) := by decide +kernel
theorem dX1_copyFrom_123 : decode cX1_copyFrom 123 = .ok (.getfield 30, 3) := by decide +kernel
theorem dX1_copyFrom_126 : decode cX1_copyFrom 126 = .ok (.iconst 0, 1) := by decide +kernel
theorem dX1_copyFrom_127 : decode cX1_copyFrom 127 = .ok (.aload_n 0, 1) := by decide +kernel
theorem dX1_copyFrom_128 : decode cX1_copyFrom 128 = .ok (.getfield 30, 3) := by decide +kernel
theorem dX1_copyFrom_131 : decode cX1_copyFrom 131 = .ok (.iconst 0, 1) := by decide +kernel
theorem dX1_copyFrom_132 : decode cX1_copyFrom 132 = .ok (.bipush 6, 2) := by decide +kernel
theorem dX1_copyFrom_134 : decode cX1_copyFrom 134 = .ok (.invokestatic 37, 3) := by decide +kernel
theorem dX1_copyFrom_137 : decode cX1_copyFrom 137 = .ok (.aload_n 0, 1) := by decide +kernel
theorem dX1_copyFrom_138 : decode cX1_copyFrom 138 = .ok (.aload_n 1, 1) := by decide +kernel
theorem dX1_copyFrom_139 : decode cX1_copyFrom 139 = .ok (.getfield 56, 3) := by decide +kernel
theorem dX1_copyFrom_142 : decode cX1_copyFrom 142 = .ok (.putfield 56, 3) := by decide +kernel
theorem dX1_copyFrom_145 : decode cX1_copyFrom 145 = .ok (.return_, 1) := by decide +kernel
theorem dX1_lampAt_0 : decode cX1_lampAt 0 = .ok (.iload_n 1, 1) := by decide +kernel
theorem dX1_lampAt_1 : decode cX1_lampAt 1 = .ok (.ifCond .lt 20, 3) := by decide +kernel
theorem dX1_lampAt_4 : decode cX1_lampAt 4 = .ok (.iload_n 1, 1) := by decide +kernel
theorem dX1_lampAt_5 : decode cX1_lampAt 5 = .ok (.aload_n 0, 1) := by decide +kernel
theorem dX1_lampAt_6 : decode cX1_lampAt 6 = .ok (.getfield 43, 3) := by decide +kernel
theorem dX1_lampAt_9 : decode cX1_lampAt 9 = .ok (.if_icmp .ge 12, 3) := by decide +kernel
theorem dX1_lampAt_12 : decode cX1_lampAt 12 = .ok (.aload_n 0, 1) := by decide +kernel
theorem dX1_lampAt_13 : decode cX1_lampAt 13 = .ok (.getfield 11, 3) := by decide +kernel
theorem dX1_lampAt_16 : decode cX1_lampAt 16 = .ok (.iload_n 1, 1) := by decide +kernel
theorem dX1_lampAt_17 : decode cX1_lampAt 17 = .ok (.aaload, 1) := by decide +kernel
theorem dX1_lampAt_18 : decode cX1_lampAt 18 = .ok (.goto 4, 3) := by decide +kernel
theorem dX1_lampAt_21 : decode cX1_lampAt 21 = .ok (.aconst_null, 1) := by decide +kernel
theorem dX1_lampAt_22 : decode cX1_lampAt 22 = .ok (.areturn, 1) := by decide +kernel
theorem dX1_addLamp_0 : decode cX1_addLamp 0 = .ok (.aload_n 0, 1) := by decide +kernel
theorem dX1_addLamp_1 : decode cX1_addLamp 1 = .ok (.getfield 43, 3) := by decide +kernel
theorem dX1_addLamp_4 : decode cX1_addLamp 4 = .ok (.iconst 4, 1) := by decide +kernel
theorem dX1_addLamp_5 : decode cX1_addLamp 5 = .ok (.if_icmp .lt 5, 3) := by decide +kernel
theorem dX1_addLamp_8 : decode cX1_addLamp 8 = .ok (.iconst 0, 1) := by decide +kernel
theorem dX1_addLamp_9 : decode cX1_addLamp 9 = .ok (.ireturn, 1) := by decide +kernel
theorem dX1_addLamp_10 : decode cX1_addLamp 10 = .ok (.aload_n 0, 1) := by decide +kernel
theorem dX1_addLamp_11 : decode cX1_addLamp 11 = .ok (.getfield 11, 3) := by decide +kernel
theorem dX1_addLamp_14 : decode cX1_addLamp 14 = .ok (.aload_n 0, 1) := by decide +kernel
theorem dX1_addLamp_15 : decode cX1_addLamp 15 = .ok (.getfield 43, 3) := by decide +kernel
theorem dX1_addLamp_18 : decode cX1_addLamp 18 = .ok (.aaload, 1) := by decide +kernel
theorem dX1_addLamp_19 : decode cX1_addLamp 19 = .ok (.astore 5, 2) := by decide +kernel
theorem dX1_addLamp_21 : decode cX1_addLamp 21 = .ok (.aload 5, 2) := by decide +kernel
theorem dX1_addLamp_23 : decode cX1_addLamp 23 = .ok (.iconst 0, 1) := by decide +kernel
theorem dX1_addLamp_24 : decode cX1_addLamp 24 = .ok (.iload_n 1, 1) := by decide +kernel
theorem dX1_addLamp_25 : decode cX1_addLamp 25 = .ok (.invokevirtual 63, 3) := by decide +kernel
theorem dX1_addLamp_28 : decode cX1_addLamp 28 = .ok (.aload 5, 2) := by decide +kernel
theorem dX1_addLamp_30 : decode cX1_addLamp 30 = .ok (.iconst 1, 1) := by decide +kernel
theorem dX1_addLamp_31 : decode cX1_addLamp 31 = .ok (.iload_n 2, 1) := by decide +kernel
theorem dX1_addLamp_32 : decode cX1_addLamp 32 = .ok (.invokevirtual 63, 3) := by decide +kernel
theorem dX1_addLamp_35 : decode cX1_addLamp 35 = .ok (.aload 5, 2) := by decide +kernel
theorem dX1_addLamp_37 : decode cX1_addLamp 37 = .ok (.iconst 2, 1) := by decide +kernel
theorem dX1_addLamp_38 : decode cX1_addLamp 38 = .ok (.iload_n 3, 1) := by decide +kernel
theorem dX1_addLamp_39 : decode cX1_addLamp 39 = .ok (.invokevirtual 63, 3) := by decide +kernel
theorem dX1_addLamp_42 : decode cX1_addLamp 42 = .ok (.aload 5, 2) := by decide +kernel
theorem dX1_addLamp_44 : decode cX1_addLamp 44 = .ok (.iconst 3, 1) := by decide +kernel
theorem dX1_addLamp_45 : decode cX1_addLamp 45 = .ok (.iload 4, 2) := by decide +kernel
theorem dX1_addLamp_47 : decode cX1_addLamp 47 = .ok (.invokevirtual 63, 3) := by decide +kernel
theorem dX1_addLamp_50 : decode cX1_addLamp 50 = .ok (.aload_n 0, 1) := by decide +kernel
theorem dX1_addLamp_51 : decode cX1_addLamp 51 = .ok (.dup, 1) := by decide +kernel
theorem dX1_addLamp_52 : decode cX1_addLamp 52 = .ok (.getfield 43, 3) := by decide +kernel
theorem dX1_addLamp_55 : decode cX1_addLamp 55 = .ok (.iconst 1, 1) := by decide +kernel
theorem dX1_addLamp_56 : decode cX1_addLamp 56 = .ok (.iadd, 1) := by decide +kernel
theorem dX1_addLamp_57 : decode cX1_addLamp 57 = .ok (.putfield 43, 3) := by decide +kernel
theorem dX1_addLamp_60 : decode cX1_addLamp 60 = .ok (.iconst 1, 1) := by decide +kernel
theorem dX1_addLamp_61 : decode cX1_addLamp 61 = .ok (.ireturn, 1) := by decide +kernel
theorem dX1_addSeen_0 : decode cX1_addSeen 0 = .ok (.aload_n 0, 1) := by decide +kernel
theorem dX1_addSeen_1 : decode cX1_addSeen 1 = .ok (.getfield 56, 3) := by decide +kernel
theorem dX1_addSeen_4 : decode cX1_addSeen 4 = .ok (.bipush 6, 2) := by decide +kernel
theorem dX1_addSeen_6 : decode cX1_addSeen 6 = .ok (.if_icmp .lt 5, 3) := by decide +kernel
theorem dX1_addSeen_9 : decode cX1_addSeen 9 = .ok (.iconst 0, 1) := by decide +kernel
theorem dX1_addSeen_10 : decode cX1_addSeen 10 = .ok (.ireturn, 1) := by decide +kernel
theorem dX1_addSeen_11 : decode cX1_addSeen 11 = .ok (.aload_n 0, 1) := by decide +kernel
theorem dX1_addSeen_12 : decode cX1_addSeen 12 = .ok (.getfield 24, 3) := by decide +kernel
theorem dX1_addSeen_15 : decode cX1_addSeen 15 = .ok (.aload_n 0, 1) := by decide +kernel
theorem dX1_addSeen_16 : decode cX1_addSeen 16 = .ok (.getfield 56, 3) := by decide +kernel
theorem dX1_addSeen_19 : decode cX1_addSeen 19 = .ok (.iload_n 1, 1) := by decide +kernel
theorem dX1_addSeen_20 : decode cX1_addSeen 20 = .ok (.iastore, 1) := by decide +kernel
theorem dX1_addSeen_21 : decode cX1_addSeen 21 = .ok (.aload_n 0, 1) := by decide +kernel
theorem dX1_addSeen_22 : decode cX1_addSeen 22 = .ok (.getfield 27, 3) := by decide +kernel
theorem dX1_addSeen_25 : decode cX1_addSeen 25 = .ok (.aload_n 0, 1) := by decide +kernel
theorem dX1_addSeen_26 : decode cX1_addSeen 26 = .ok (.getfield 56, 3) := by decide +kernel
theorem dX1_addSeen_29 : decode cX1_addSeen 29 = .ok (.iload_n 2, 1) := by decide +kernel
theorem dX1_addSeen_30 : decode cX1_addSeen 30 = .ok (.iastore, 1) := by decide +kernel
theorem dX1_addSeen_31 : decode cX1_addSeen 31 = .ok (.aload_n 0, 1) := by decide +kernel
theorem dX1_addSeen_32 : decode cX1_addSeen 32 = .ok (.getfield 30, 3) := by decide +kernel
theorem dX1_addSeen_35 : decode cX1_addSeen 35 = .ok (.aload_n 0, 1) := by decide +kernel
theorem dX1_addSeen_36 : decode cX1_addSeen 36 = .ok (.getfield 56, 3) := by decide +kernel
theorem dX1_addSeen_39 : decode cX1_addSeen 39 = .ok (.iload_n 3, 1) := by decide +kernel
theorem dX1_addSeen_40 : decode cX1_addSeen 40 = .ok (.iastore, 1) := by decide +kernel
theorem dX1_addSeen_41 : decode cX1_addSeen 41 = .ok (.aload_n 0, 1) := by decide +kernel
theorem dX1_addSeen_42 : decode cX1_addSeen 42 = .ok (.dup, 1) := by decide +kernel
theorem dX1_addSeen_43 : decode cX1_addSeen 43 = .ok (.getfield 56, 3) := by decide +kernel
theorem dX1_addSeen_46 : decode cX1_addSeen 46 = .ok (.iconst 1, 1) := by decide +kernel
theorem dX1_addSeen_47 : decode cX1_addSeen 47 = .ok (.iadd, 1) := by decide +kernel
theorem dX1_addSeen_48 : decode cX1_addSeen 48 = .ok (.putfield 56, 3) := by decide +kernel
theorem dX1_addSeen_51 : decode cX1_addSeen 51 = .ok (.iconst 1, 1) := by decide +kernel
theorem dX1_addSeen_52 : decode cX1_addSeen 52 = .ok (.ireturn, 1) := by decide +kernel
theorem dX1_sumOfPart_0 : decode cX1_sumOfPart 0 = .ok (.iconst 0, 1) := by decide +kernel
theorem dX1_sumOfPart_1 : decode cX1_sumOfPart 1 = .ok (.istore_n 2, 1) := by decide +kernel
theorem dX1_sumOfPart_2 : decode cX1_sumOfPart 2 = .ok (.iconst 0, 1) := by decide +kernel
theorem dX1_sumOfPart_3 : decode cX1_sumOfPart 3 = .ok (.istore_n 3, 1) := by decide +kernel
theorem dX1_sumOfPart_4 : decode cX1_sumOfPart 4 = .ok (.iload_n 3, 1) := by decide +kernel
theorem dX1_sumOfPart_5 : decode cX1_sumOfPart 5 = .ok (.aload_n 0, 1) := by decide +kernel
theorem dX1_sumOfPart_6 : decode cX1_sumOfPart 6 = .ok (.getfield 43, 3) := by decide +kernel
theorem dX1_sumOfPart_9 : decode cX1_sumOfPart 9 = .ok (.if_icmp .ge 23, 3) := by decide +kernel
theorem dX1_sumOfPart_12 : decode cX1_sumOfPart 12 = .ok (.iload_n 2, 1) := by decide +kernel
theorem dX1_sumOfPart_13 : decode cX1_sumOfPart 13 = .ok (.aload_n 0, 1) := by decide +kernel
theorem dX1_sumOfPart_14 : decode cX1_sumOfPart 14 = .ok (.getfield 11, 3) := by decide +kernel
theorem dX1_sumOfPart_17 : decode cX1_sumOfPart 17 = .ok (.iload_n 3, 1) := by decide +kernel
theorem dX1_sumOfPart_18 : decode cX1_sumOfPart 18 = .ok (.aaload, 1) := by decide +kernel
theorem dX1_sumOfPart_19 : decode cX1_sumOfPart 19 = .ok (.getfield 67, 3) := by decide +kernel
theorem dX1_sumOfPart_22 : decode cX1_sumOfPart 22 = .ok (.iload_n 1, 1) := by decide +kernel
theorem dX1_sumOfPart_23 : decode cX1_sumOfPart 23 = .ok (.iaload, 1) := by decide +kernel
theorem dX1_sumOfPart_24 : decode cX1_sumOfPart 24 = .ok (.iadd, 1) := by decide +kernel
theorem dX1_sumOfPart_25 : decode cX1_sumOfPart 25 = .ok (.istore_n 2, 1) := by decide +kernel
theorem dX1_sumOfPart_26 : decode cX1_sumOfPart 26 = .ok (.iinc 3 1, 3) := by decide +kernel
theorem dX1_sumOfPart_29 : decode cX1_sumOfPart 29 = .ok (.goto (-25), 3) := by decide +kernel
theorem dX1_sumOfPart_32 : decode cX1_sumOfPart 32 = .ok (.iload_n 2, 1) := by decide +kernel
theorem dX1_sumOfPart_33 : decode cX1_sumOfPart 33 = .ok (.ireturn, 1) := by decide +kernel
theorem dX1_shine_0 : decode cX1_shine 0 = .ok (.aload_n 0, 1) := by decide +kernel
theorem dX1_shine_1 : decode cX1_shine 1 = .ok (.aload_n 0, 1) := by decide +kernel
theorem dX1_shine_2 : decode cX1_shine 2 = .ok (.getfield 47, 3) := by decide +kernel
theorem dX1_shine_5 : decode cX1_shine 5 = .ok (.iconst 1, 1) := by decide +kernel
theorem dX1_shine_6 : decode cX1_shine 6 = .ok (.invokevirtual 70, 3) := by decide +kernel
theorem dX1_shine_9 : decode cX1_shine 9 = .ok (.ireturn, 1) := by decide +kernel
theorem dX1_lightIn_0 : decode cX1_lightIn 0 = .ok (.iconst 0, 1) := by decide +kernel
theorem dX1_lightIn_1 : decode cX1_lightIn 1 = .ok (.istore_n 3, 1) := by decide +kernel
theorem dX1_lightIn_2 : decode cX1_lightIn 2 = .ok (.iconst 0, 1) := by decide +kernel
theorem dX1_lightIn_3 : decode cX1_lightIn 3 = .ok (.istore 4, 2) := by decide +kernel
theorem dX1_lightIn_5 : decode cX1_lightIn 5 = .ok (.iload 4, 2) := by decide +kernel
theorem dX1_lightIn_7 : decode cX1_lightIn 7 = .ok (.aload_n 0, 1) := by decide +kernel
theorem dX1_lightIn_8 : decode cX1_lightIn 8 = .ok (.getfield 43, 3) := by decide +kernel
theorem dX1_lightIn_11 : decode cX1_lightIn 11 = .ok (.if_icmp .ge 24, 3) := by decide +kernel
theorem dX1_lightIn_14 : decode cX1_lightIn 14 = .ok (.iload_n 3, 1) := by decide +kernel
theorem dX1_lightIn_15 : decode cX1_lightIn 15 = .ok (.aload_n 0, 1) := by decide +kernel
theorem dX1_lightIn_16 : decode cX1_lightIn 16 = .ok (.getfield 11, 3) := by decide +kernel
theorem dX1_lightIn_19 : decode cX1_lightIn 19 = .ok (.iload 4, 2) := by decide +kernel
theorem dX1_lightIn_21 : decode cX1_lightIn 21 = .ok (.aaload, 1) := by decide +kernel
theorem dX1_lightIn_22 : decode cX1_lightIn 22 = .ok (.iload_n 1, 1) := by decide +kernel
theorem dX1_lightIn_23 : decode cX1_lightIn 23 = .ok (.iload_n 2, 1) := by decide +kernel
theorem dX1_lightIn_24 : decode cX1_lightIn 24 = .ok (.invokevirtual 74, 3) := by decide +kernel
theorem dX1_lightIn_27 : decode cX1_lightIn 27 = .ok (.iadd, 1) := by decide +kernel
theorem dX1_lightIn_28 : decode cX1_lightIn 28 = .ok (.istore_n 3, 1) := by decide +kernel
theorem dX1_lightIn_29 : decode cX1_lightIn 29 = .ok (.iinc 4 1, 3) := by decide +kernel
theorem dX1_lightIn_32 : decode cX1_lightIn 32 = .ok (.goto (-27), 3) := by decide +kernel
theorem dX1_lightIn_35 : decode cX1_lightIn 35 = .ok (.iload_n 3, 1) := by decide +kernel
theorem dX1_lightIn_36 : decode cX1_lightIn 36 = .ok (.ireturn, 1) := by decide +kernel
theorem dX1_startOf_0 : decode cX1_startOf 0 = .ok (.aload_n 0, 1) := by decide +kernel
theorem dX1_startOf_1 : decode cX1_startOf 1 = .ok (.getfield 47, 3) := by decide +kernel
theorem dX1_startOf_4 : decode cX1_startOf 4 = .ok (.iload_n 1, 1) := by decide +kernel
theorem dX1_startOf_5 : decode cX1_startOf 5 = .ok (.aload_n 0, 1) := by decide +kernel
theorem dX1_startOf_6 : decode cX1_startOf 6 = .ok (.getfield 17, 3) := by decide +kernel
theorem dX1_startOf_9 : decode cX1_startOf 9 = .ok (.iconst 3, 1) := by decide +kernel
theorem dX1_startOf_10 : decode cX1_startOf 10 = .ok (.iaload, 1) := by decide +kernel
theorem dX1_startOf_11 : decode cX1_startOf 11 = .ok (.imul, 1) := by decide +kernel
theorem dX1_startOf_12 : decode cX1_startOf 12 = .ok (.iadd, 1) := by decide +kernel
theorem dX1_startOf_13 : decode cX1_startOf 13 = .ok (.ireturn, 1) := by decide +kernel
theorem dX1_bright_0 : decode cX1_bright 0 = .ok (.sipush 255, 3) := by decide +kernel
theorem dX1_bright_3 : decode cX1_bright 3 = .ok (.aload_n 0, 1) := by decide +kernel
theorem dX1_bright_4 : decode cX1_bright 4 = .ok (.aload_n 0, 1) := by decide +kernel
theorem dX1_bright_5 : decode cX1_bright 5 = .ok (.iload_n 1, 1) := by decide +kernel
theorem dX1_bright_6 : decode cX1_bright 6 = .ok (.invokevirtual 77, 3) := by decide +kernel
theorem dX1_bright_9 : decode cX1_bright 9 = .ok (.aload_n 0, 1) := by decide +kernel
theorem dX1_bright_10 : decode cX1_bright 10 = .ok (.getfield 17, 3) := by decide +kernel
theorem dX1_bright_13 : decode cX1_bright 13 = .ok (.iconst 1, 1) := by decide +kernel
theorem dX1_bright_14 : decode cX1_bright 14 = .ok (.iaload, 1) := by decide +kernel
theorem dX1_bright_15 : decode cX1_bright 15 = .ok (.iload_n 2, 1) := by decide +kernel
theorem dX1_bright_16 : decode cX1_bright 16 = .ok (.imul, 1) := by decide +kernel
theorem dX1_bright_17 : decode cX1_bright 17 = .ok (.iadd, 1) := by decide +kernel
theorem dX1_bright_18 : decode cX1_bright 18 = .ok (.aload_n 0, 1) := by decide +kernel
theorem dX1_bright_19 : decode cX1_bright 19 = .ok (.getfield 17, 3) := by decide +kernel
theorem dX1_bright_22 : decode cX1_bright 22 = .ok (.iconst 2, 1) := by decide +kernel
theorem dX1_bright_23 : decode cX1_bright 23 = .ok (.iaload, 1) := by decide +kernel
theorem dX1_bright_24 : decode cX1_bright 24 = .ok (.invokevirtual 70, 3) := by decide +kernel
theorem dX1_bright_27 : decode cX1_bright 27 = .ok (.invokestatic 81, 3) := by decide +kernel
theorem dX1_bright_30 : decode cX1_bright 30 = .ok (.ireturn, 1) := by decide +kernel
theorem dX1_bands_0 : decode cX1_bands 0 = .ok (.iconst 0, 1) := by decide +kernel
theorem dX1_bands_1 : decode cX1_bands 1 = .ok (.istore_n 2, 1) := by decide +kernel
theorem dX1_bands_2 : decode cX1_bands 2 = .ok (.sipush 255, 3) := by decide +kernel
theorem dX1_bands_5 : decode cX1_bands 5 = .ok (.istore_n 3, 1) := by decide +kernel
theorem dX1_bands_6 : decode cX1_bands 6 = .ok (.iconst 0, 1) := by decide +kernel
theorem dX1_bands_7 : decode cX1_bands 7 = .ok (.istore 4, 2) := by decide +kernel
theorem dX1_bands_9 : decode cX1_bands 9 = .ok (.iload 4, 2) := by decide +kernel
theorem dX1_bands_11 : decode cX1_bands 11 = .ok (.aload_n 0, 1) := by decide +kernel
theorem dX1_bands_12 : decode cX1_bands 12 = .ok (.getfield 17, 3) := by decide +kernel
theorem dX1_bands_15 : decode cX1_bands 15 = .ok (.iconst 0, 1) := by decide +kernel
theorem dX1_bands_16 : decode cX1_bands 16 = .ok (.iaload, 1) := by decide +kernel
theorem dX1_bands_17 : decode cX1_bands 17 = .ok (.if_icmp .ge 32, 3) := by decide +kernel
theorem dX1_bands_20 : decode cX1_bands 20 = .ok (.aload_n 0, 1) := by decide +kernel
theorem dX1_bands_21 : decode cX1_bands 21 = .ok (.iload_n 1, 1) := by decide +kernel
theorem dX1_bands_22 : decode cX1_bands 22 = .ok (.iload 4, 2) := by decide +kernel
theorem dX1_bands_24 : decode cX1_bands 24 = .ok (.invokevirtual 86, 3) := by decide +kernel
theorem dX1_bands_27 : decode cX1_bands 27 = .ok (.istore 5, 2) := by decide +kernel
theorem dX1_bands_29 : decode cX1_bands 29 = .ok (.iload_n 2, 1) := by decide +kernel
theorem dX1_bands_30 : decode cX1_bands 30 = .ok (.iload 5, 2) := by decide +kernel
theorem dX1_bands_32 : decode cX1_bands 32 = .ok (.invokestatic 89, 3) := by decide +kernel
theorem dX1_bands_35 : decode cX1_bands 35 = .ok (.istore_n 2, 1) := by decide +kernel
theorem dX1_bands_36 : decode cX1_bands 36 = .ok (.iload_n 3, 1) := by decide +kernel
theorem dX1_bands_37 : decode cX1_bands 37 = .ok (.iload 5, 2) := by decide +kernel
theorem dX1_bands_39 : decode cX1_bands 39 = .ok (.invokestatic 81, 3) := by decide +kernel
theorem dX1_bands_42 : decode cX1_bands 42 = .ok (.istore_n 3, 1) := by decide +kernel
theorem dX1_bands_43 : decode cX1_bands 43 = .ok (.iinc 4 1, 3) := by decide +kernel
theorem dX1_bands_46 : decode cX1_bands 46 = .ok (.goto (-37), 3) := by decide +kernel
theorem dX1_bands_49 : decode cX1_bands 49 = .ok (.iload_n 2, 1) := by decide +kernel
theorem dX1_bands_50 : decode cX1_bands 50 = .ok (.iload_n 3, 1) := by decide +kernel
theorem dX1_bands_51 : decode cX1_bands 51 = .ok (.isub, 1) := by decide +kernel
theorem dX1_bands_52 : decode cX1_bands 52 = .ok (.ireturn, 1) := by decide +kernel
theorem dX1_lightOf_0 : decode cX1_lightOf 0 = .ok (.iconst 0, 1) := by decide +kernel
theorem dX1_lightOf_1 : decode cX1_lightOf 1 = .ok (.istore_n 2, 1) := by decide +kernel
theorem dX1_lightOf_2 : decode cX1_lightOf 2 = .ok (.iconst 0, 1) := by decide +kernel
theorem dX1_lightOf_3 : decode cX1_lightOf 3 = .ok (.istore_n 3, 1) := by decide +kernel
theorem dX1_lightOf_4 : decode cX1_lightOf 4 = .ok (.iload_n 3, 1) := by decide +kernel
theorem dX1_lightOf_5 : decode cX1_lightOf 5 = .ok (.aload_n 0, 1) := by decide +kernel
theorem dX1_lightOf_6 : decode cX1_lightOf 6 = .ok (.getfield 17, 3) := by decide +kernel
theorem dX1_lightOf_9 : decode cX1_lightOf 9 = .ok (.iconst 0, 1) := by decide +kernel
theorem dX1_lightOf_10 : decode cX1_lightOf 10 = .ok (.iaload, 1) := by decide +kernel
theorem dX1_lightOf_11 : decode cX1_lightOf 11 = .ok (.if_icmp .ge 18, 3) := by decide +kernel
theorem dX1_lightOf_14 : decode cX1_lightOf 14 = .ok (.iload_n 2, 1) := by decide +kernel
theorem dX1_lightOf_15 : decode cX1_lightOf 15 = .ok (.aload_n 0, 1) := by decide +kernel
theorem dX1_lightOf_16 : decode cX1_lightOf 16 = .ok (.iload_n 1, 1) := by decide +kernel
theorem dX1_lightOf_17 : decode cX1_lightOf 17 = .ok (.iload_n 3, 1) := by decide +kernel
theorem dX1_lightOf_18 : decode cX1_lightOf 18 = .ok (.invokevirtual 86, 3) := by decide +kernel
theorem dX1_lightOf_21 : decode cX1_lightOf 21 = .ok (.iadd, 1) := by decide +kernel
theorem dX1_lightOf_22 : decode cX1_lightOf 22 = .ok (.istore_n 2, 1) := by decide +kernel
theorem dX1_lightOf_23 : decode cX1_lightOf 23 = .ok (.iinc 3 1, 3) := by decide +kernel
theorem dX1_lightOf_26 : decode cX1_lightOf 26 = .ok (.goto (-22), 3) := by decide +kernel
theorem dX1_lightOf_29 : decode cX1_lightOf 29 = .ok (.iload_n 2, 1) := by decide +kernel
theorem dX1_lightOf_30 : decode cX1_lightOf 30 = .ok (.ireturn, 1) := by decide +kernel
theorem dX1_isLikeFirst_0 : decode cX1_isLikeFirst 0 = .ok (.iconst 0, 1) := by decide +kernel
theorem dX1_isLikeFirst_1 : decode cX1_isLikeFirst 1 = .ok (.istore_n 2, 1) := by decide +kernel
theorem dX1_isLikeFirst_2 : decode cX1_isLikeFirst 2 = .ok (.iload_n 2, 1) := by decide +kernel
theorem dX1_isLikeFirst_3 : decode cX1_isLikeFirst 3 = .ok (.aload_n 0, 1) := by decide +kernel
theorem dX1_isLikeFirst_4 : decode cX1_isLikeFirst 4 = .ok (.getfield 17, 3) := by decide +kernel
theorem dX1_isLikeFirst_7 : decode cX1_isLikeFirst 7 = .ok (.iconst 0, 1) := by decide +kernel
theorem dX1_isLikeFirst_8 : decode cX1_isLikeFirst 8 = .ok (.iaload, 1) := by decide +kernel
theorem dX1_isLikeFirst_9 : decode cX1_isLikeFirst 9 = .ok (.if_icmp .ge 26, 3) := by decide +kernel
theorem dX1_isLikeFirst_12 : decode cX1_isLikeFirst 12 = .ok (.aload_n 0, 1) := by decide +kernel
theorem dX1_isLikeFirst_13 : decode cX1_isLikeFirst 13 = .ok (.iload_n 1, 1) := by decide +kernel
theorem dX1_isLikeFirst_14 : decode cX1_isLikeFirst 14 = .ok (.iload_n 2, 1) := by decide +kernel
theorem dX1_isLikeFirst_15 : decode cX1_isLikeFirst 15 = .ok (.invokevirtual 86, 3) := by decide +kernel
theorem dX1_isLikeFirst_18 : decode cX1_isLikeFirst 18 = .ok (.aload_n 0, 1) := by decide +kernel
theorem dX1_isLikeFirst_19 : decode cX1_isLikeFirst 19 = .ok (.iconst 0, 1) := by decide +kernel
theorem dX1_isLikeFirst_20 : decode cX1_isLikeFirst 20 = .ok (.iload_n 2, 1) := by decide +kernel
theorem dX1_isLikeFirst_21 : decode cX1_isLikeFirst 21 = .ok (.invokevirtual 86, 3) := by decide +kernel
theorem dX1_isLikeFirst_24 : decode cX1_isLikeFirst 24 = .ok (.if_icmp .eq 5, 3) := by decide +kernel
theorem dX1_isLikeFirst_27 : decode cX1_isLikeFirst 27 = .ok (.iconst 0, 1) := by decide +kernel
theorem dX1_isLikeFirst_28 : decode cX1_isLikeFirst 28 = .ok (.ireturn, 1) := by decide +kernel
theorem dX1_isLikeFirst_29 : decode cX1_isLikeFirst 29 = .ok (.iinc 2 1, 3) := by decide +kernel
theorem dX1_isLikeFirst_32 : decode cX1_isLikeFirst 32 = .ok (.goto (-30), 3) := by decide +kernel
theorem dX1_isLikeFirst_35 : decode cX1_isLikeFirst 35 = .ok (.iconst 1, 1) := by decide +kernel
theorem dX1_isLikeFirst_36 : decode cX1_isLikeFirst 36 = .ok (.ireturn, 1) := by decide +kernel
theorem dX1_greatestBands_0 : decode cX1_greatestBands 0 = .ok (.iconst 0, 1) := by decide +kernel
theorem dX1_greatestBands_1 : decode cX1_greatestBands 1 = .ok (.istore_n 2, 1) := by decide +kernel
theorem dX1_greatestBands_2 : decode cX1_greatestBands 2 = .ok (.iconst 0, 1) := by decide +kernel
theorem dX1_greatestBands_3 : decode cX1_greatestBands 3 = .ok (.istore_n 3, 1) := by decide +kernel
theorem dX1_greatestBands_4 : decode cX1_greatestBands 4 = .ok (.iload_n 3, 1) := by decide +kernel
theorem dX1_greatestBands_5 : decode cX1_greatestBands 5 = .ok (.iload_n 1, 1) := by decide +kernel
theorem dX1_greatestBands_6 : decode cX1_greatestBands 6 = .ok (.if_icmp .ge 19, 3) := by decide +kernel
theorem dX1_greatestBands_9 : decode cX1_greatestBands 9 = .ok (.iload_n 2, 1) := by decide +kernel
theorem dX1_greatestBands_10 : decode cX1_greatestBands 10 = .ok (.aload_n 0, 1) := by decide +kernel
theorem dX1_greatestBands_11 : decode cX1_greatestBands 11 = .ok (.iload_n 3, 1) := by decide +kernel
theorem dX1_greatestBands_12 : decode cX1_greatestBands 12 = .ok (.invokevirtual 92, 3) := by decide +kernel
theorem dX1_greatestBands_15 : decode cX1_greatestBands 15 = .ok (.invokestatic 89, 3) := by decide +kernel
theorem dX1_greatestBands_18 : decode cX1_greatestBands 18 = .ok (.istore_n 2, 1) := by decide +kernel
theorem dX1_greatestBands_19 : decode cX1_greatestBands 19 = .ok (.iinc 3 1, 3) := by decide +kernel
theorem dX1_greatestBands_22 : decode cX1_greatestBands 22 = .ok (.goto (-18), 3) := by decide +kernel
theorem dX1_greatestBands_25 : decode cX1_greatestBands 25 = .ok (.iload_n 2, 1) := by decide +kernel
theorem dX1_greatestBands_26 : decode cX1_greatestBands 26 = .ok (.ireturn, 1) := by decide +kernel
theorem dX1_leastBands_0 : decode cX1_leastBands 0 = .ok (.iload_n 1, 1) := by decide +kernel
theorem dX1_leastBands_1 : decode cX1_leastBands 1 = .ok (.iconst 1, 1) := by decide +kernel
theorem dX1_leastBands_2 : decode cX1_leastBands 2 = .ok (.if_icmp .ge 6, 3) := by decide +kernel
theorem dX1_leastBands_5 : decode cX1_leastBands 5 = .ok (.bipush (-4), 2) := by decide +kernel
theorem dX1_leastBands_7 : decode cX1_leastBands 7 = .ok (.ireturn, 1) := by decide +kernel
theorem dX1_leastBands_8 : decode cX1_leastBands 8 = .ok (.sipush 255, 3) := by decide +kernel
theorem dX1_leastBands_11 : decode cX1_leastBands 11 = .ok (.istore_n 2, 1) := by decide +kernel
theorem dX1_leastBands_12 : decode cX1_leastBands 12 = .ok (.iconst 0, 1) := by decide +kernel
theorem dX1_leastBands_13 : decode cX1_leastBands 13 = .ok (.istore_n 3, 1) := by decide +kernel
theorem dX1_leastBands_14 : decode cX1_leastBands 14 = .ok (.iload_n 3, 1) := by decide +kernel
theorem dX1_leastBands_15 : decode cX1_leastBands 15 = .ok (.iload_n 1, 1) := by decide +kernel
theorem dX1_leastBands_16 : decode cX1_leastBands 16 = .ok (.if_icmp .ge 19, 3) := by decide +kernel
theorem dX1_leastBands_19 : decode cX1_leastBands 19 = .ok (.iload_n 2, 1) := by decide +kernel
theorem dX1_leastBands_20 : decode cX1_leastBands 20 = .ok (.aload_n 0, 1) := by decide +kernel
theorem dX1_leastBands_21 : decode cX1_leastBands 21 = .ok (.iload_n 3, 1) := by decide +kernel
theorem dX1_leastBands_22 : decode cX1_leastBands 22 = .ok (.invokevirtual 92, 3) := by decide +kernel
theorem dX1_leastBands_25 : decode cX1_leastBands 25 = .ok (.invokestatic 81, 3) := by decide +kernel
theorem dX1_leastBands_28 : decode cX1_leastBands 28 = .ok (.istore_n 2, 1) := by decide +kernel
theorem dX1_leastBands_29 : decode cX1_leastBands 29 = .ok (.iinc 3 1, 3) := by decide +kernel
theorem dX1_leastBands_32 : decode cX1_leastBands 32 = .ok (.goto (-18), 3) := by decide +kernel
theorem dX1_leastBands_35 : decode cX1_leastBands 35 = .ok (.iload_n 2, 1) := by decide +kernel
theorem dX1_leastBands_36 : decode cX1_leastBands 36 = .ok (.ireturn, 1) := by decide +kernel
theorem dX1_lightOfShots_0 : decode cX1_lightOfShots 0 = .ok (.iconst 0, 1) := by decide +kernel
theorem dX1_lightOfShots_1 : decode cX1_lightOfShots 1 = .ok (.istore_n 2, 1) := by decide +kernel
theorem dX1_lightOfShots_2 : decode cX1_lightOfShots 2 = .ok (.iconst 0, 1) := by decide +kernel
theorem dX1_lightOfShots_3 : decode cX1_lightOfShots 3 = .ok (.istore_n 3, 1) := by decide +kernel
theorem dX1_lightOfShots_4 : decode cX1_lightOfShots 4 = .ok (.iload_n 3, 1) := by decide +kernel
theorem dX1_lightOfShots_5 : decode cX1_lightOfShots 5 = .ok (.iload_n 1, 1) := by decide +kernel
theorem dX1_lightOfShots_6 : decode cX1_lightOfShots 6 = .ok (.if_icmp .ge 17, 3) := by decide +kernel
theorem dX1_lightOfShots_9 : decode cX1_lightOfShots 9 = .ok (.iload_n 2, 1) := by decide +kernel
theorem dX1_lightOfShots_10 : decode cX1_lightOfShots 10 = .ok (.aload_n 0, 1) := by decide +kernel
theorem dX1_lightOfShots_11 : decode cX1_lightOfShots 11 = .ok (.iload_n 3, 1) := by decide +kernel
theorem dX1_lightOfShots_12 : decode cX1_lightOfShots 12 = .ok (.invokevirtual 95, 3) := by decide +kernel
theorem dX1_lightOfShots_15 : decode cX1_lightOfShots 15 = .ok (.iadd, 1) := by decide +kernel
theorem dX1_lightOfShots_16 : decode cX1_lightOfShots 16 = .ok (.istore_n 2, 1) := by decide +kernel
theorem dX1_lightOfShots_17 : decode cX1_lightOfShots 17 = .ok (.iinc 3 1, 3) := by decide +kernel
theorem dX1_lightOfShots_20 : decode cX1_lightOfShots 20 = .ok (.goto (-16), 3) := by decide +kernel
theorem dX1_lightOfShots_23 : decode cX1_lightOfShots 23 = .ok (.iload_n 2, 1) := by decide +kernel
theorem dX1_lightOfShots_24 : decode cX1_lightOfShots 24 = .ok (.ireturn, 1) := by decide +kernel
theorem dX1_fullRows_0 : decode cX1_fullRows 0 = .ok (.iconst 0, 1) := by decide +kernel
theorem dX1_fullRows_1 : decode cX1_fullRows 1 = .ok (.istore_n 2, 1) := by decide +kernel
theorem dX1_fullRows_2 : decode cX1_fullRows 2 = .ok (.iconst 0, 1) := by decide +kernel
theorem dX1_fullRows_3 : decode cX1_fullRows 3 = .ok (.istore_n 3, 1) := by decide +kernel
theorem dX1_fullRows_4 : decode cX1_fullRows 4 = .ok (.iload_n 3, 1) := by decide +kernel
theorem dX1_fullRows_5 : decode cX1_fullRows 5 = .ok (.iload_n 1, 1) := by decide +kernel
theorem dX1_fullRows_6 : decode cX1_fullRows 6 = .ok (.if_icmp .ge 50, 3) := by decide +kernel
theorem dX1_fullRows_9 : decode cX1_fullRows 9 = .ok (.iconst 0, 1) := by decide +kernel
theorem dX1_fullRows_10 : decode cX1_fullRows 10 = .ok (.istore 4, 2) := by decide +kernel
theorem dX1_fullRows_12 : decode cX1_fullRows 12 = .ok (.iload 4, 2) := by decide +kernel
theorem dX1_fullRows_14 : decode cX1_fullRows 14 = .ok (.aload_n 0, 1) := by decide +kernel
theorem dX1_fullRows_15 : decode cX1_fullRows 15 = .ok (.getfield 17, 3) := by decide +kernel
theorem dX1_fullRows_18 : decode cX1_fullRows 18 = .ok (.iconst 0, 1) := by decide +kernel
theorem dX1_fullRows_19 : decode cX1_fullRows 19 = .ok (.iaload, 1) := by decide +kernel
theorem dX1_fullRows_20 : decode cX1_fullRows 20 = .ok (.if_icmp .ge 30, 3) := by decide +kernel
theorem dX1_fullRows_23 : decode cX1_fullRows 23 = .ok (.iload_n 2, 1) := by decide +kernel
theorem dX1_fullRows_24 : decode cX1_fullRows 24 = .ok (.aload_n 0, 1) := by decide +kernel
theorem dX1_fullRows_25 : decode cX1_fullRows 25 = .ok (.iload_n 3, 1) := by decide +kernel
theorem dX1_fullRows_26 : decode cX1_fullRows 26 = .ok (.iload 4, 2) := by decide +kernel
theorem dX1_fullRows_28 : decode cX1_fullRows 28 = .ok (.invokevirtual 86, 3) := by decide +kernel
theorem dX1_fullRows_31 : decode cX1_fullRows 31 = .ok (.sipush 255, 3) := by decide +kernel
theorem dX1_fullRows_34 : decode cX1_fullRows 34 = .ok (.if_icmp .ne 7, 3) := by decide +kernel
theorem dX1_fullRows_37 : decode cX1_fullRows 37 = .ok (.iconst 1, 1) := by decide +kernel
theorem dX1_fullRows_38 : decode cX1_fullRows 38 = .ok (.goto 4, 3) := by decide +kernel
theorem dX1_fullRows_41 : decode cX1_fullRows 41 = .ok (.iconst 0, 1) := by decide +kernel
theorem dX1_fullRows_42 : decode cX1_fullRows 42 = .ok (.iadd, 1) := by decide +kernel
theorem dX1_fullRows_43 : decode cX1_fullRows 43 = .ok (.istore_n 2, 1) := by decide +kernel
theorem dX1_fullRows_44 : decode cX1_fullRows 44 = .ok (.iinc 4 1, 3) := by decide +kernel
theorem dX1_fullRows_47 : decode cX1_fullRows 47 = .ok (.goto (-35), 3) := by decide +kernel
theorem dX1_fullRows_50 : decode cX1_fullRows 50 = .ok (.iinc 3 1, 3) := by decide +kernel
theorem dX1_fullRows_53 : decode cX1_fullRows 53 = .ok (.goto (-49), 3) := by decide +kernel
theorem dX1_fullRows_56 : decode cX1_fullRows 56 = .ok (.iload_n 2, 1) := by decide +kernel
theorem dX1_fullRows_57 : decode cX1_fullRows 57 = .ok (.ireturn, 1) := by decide +kernel
theorem dX1_take_0 : decode cX1_take 0 = .ok (.iload_n 1, 1) := by decide +kernel
theorem dX1_take_1 : decode cX1_take 1 = .ok (.iconst 1, 1) := by decide +kernel
theorem dX1_take_2 : decode cX1_take 2 = .ok (.if_icmp .ge 4, 3) := by decide +kernel
theorem dX1_take_5 : decode cX1_take 5 = .ok (.return_, 1) := by decide +kernel
theorem dX1_take_6 : decode cX1_take 6 = .ok (.aload_n 0, 1) := by decide +kernel
theorem dX1_take_7 : decode cX1_take 7 = .ok (.aload_n 0, 1) := by decide +kernel
theorem dX1_take_8 : decode cX1_take 8 = .ok (.getfield 17, 3) := by decide +kernel
theorem dX1_take_11 : decode cX1_take 11 = .ok (.iconst 0, 1) := by decide +kernel
theorem dX1_take_12 : decode cX1_take 12 = .ok (.iaload, 1) := by decide +kernel
theorem dX1_take_13 : decode cX1_take 13 = .ok (.putfield 53, 3) := by decide +kernel
theorem dX1_take_16 : decode cX1_take 16 = .ok (.iconst 0, 1) := by decide +kernel
theorem dX1_take_17 : decode cX1_take 17 = .ok (.istore_n 2, 1) := by decide +kernel
theorem dX1_take_18 : decode cX1_take 18 = .ok (.iload_n 2, 1) := by decide +kernel
theorem dX1_take_19 : decode cX1_take 19 = .ok (.aload_n 0, 1) := by decide +kernel
theorem dX1_take_20 : decode cX1_take 20 = .ok (.getfield 53, 3) := by decide +kernel
theorem dX1_take_23 : decode cX1_take 23 = .ok (.if_icmp .ge 23, 3) := by decide +kernel
theorem dX1_take_26 : decode cX1_take 26 = .ok (.aload_n 0, 1) := by decide +kernel
theorem dX1_take_27 : decode cX1_take 27 = .ok (.getfield 21, 3) := by decide +kernel
theorem dX1_take_30 : decode cX1_take 30 = .ok (.iload_n 2, 1) := by decide +kernel
theorem dX1_take_31 : decode cX1_take 31 = .ok (.aload_n 0, 1) := by decide +kernel
theorem dX1_take_32 : decode cX1_take 32 = .ok (.iload_n 1, 1) := by decide +kernel
theorem dX1_take_33 : decode cX1_take 33 = .ok (.iconst 1, 1) := by decide +kernel
theorem dX1_take_34 : decode cX1_take 34 = .ok (.isub, 1) := by decide +kernel
theorem dX1_take_35 : decode cX1_take 35 = .ok (.iload_n 2, 1) := by decide +kernel
theorem dX1_take_36 : decode cX1_take 36 = .ok (.invokevirtual 86, 3) := by decide +kernel
theorem dX1_take_39 : decode cX1_take 39 = .ok (.iastore, 1) := by decide +kernel
theorem dX1_take_40 : decode cX1_take 40 = .ok (.iinc 2 1, 3) := by decide +kernel
theorem dX1_take_43 : decode cX1_take 43 = .ok (.goto (-25), 3) := by decide +kernel
theorem dX1_take_46 : decode cX1_take 46 = .ok (.aload_n 0, 1) := by decide +kernel
theorem dX1_take_47 : decode cX1_take 47 = .ok (.aload_n 0, 1) := by decide +kernel
theorem dX1_take_48 : decode cX1_take 48 = .ok (.iload_n 1, 1) := by decide +kernel
theorem dX1_take_49 : decode cX1_take 49 = .ok (.invokevirtual 77, 3) := by decide +kernel
theorem dX1_take_52 : decode cX1_take 52 = .ok (.putfield 47, 3) := by decide +kernel
theorem dX1_take_55 : decode cX1_take 55 = .ok (.aload_n 0, 1) := by decide +kernel
theorem dX1_take_56 : decode cX1_take 56 = .ok (.dup, 1) := by decide +kernel
theorem dX1_take_57 : decode cX1_take 57 = .ok (.getfield 50, 3) := by decide +kernel
theorem dX1_take_60 : decode cX1_take 60 = .ok (.iload_n 1, 1) := by decide +kernel
theorem dX1_take_61 : decode cX1_take 61 = .ok (.iadd, 1) := by decide +kernel
theorem dX1_take_62 : decode cX1_take 62 = .ok (.putfield 50, 3) := by decide +kernel
theorem dX1_take_65 : decode cX1_take 65 = .ok (.return_, 1) := by decide +kernel
theorem dX1_isAsSeen_0 : decode cX1_isAsSeen 0 = .ok (.iconst 0, 1) := by decide +kernel
theorem dX1_isAsSeen_1 : decode cX1_isAsSeen 1 = .ok (.istore_n 1, 1) := by decide +kernel
theorem dX1_isAsSeen_2 : decode cX1_isAsSeen 2 = .ok (.iload_n 1, 1) := by decide +kernel
theorem dX1_isAsSeen_3 : decode cX1_isAsSeen 3 = .ok (.aload_n 0, 1) := by decide +kernel
theorem dX1_isAsSeen_4 : decode cX1_isAsSeen 4 = .ok (.getfield 56, 3) := by decide +kernel
theorem dX1_isAsSeen_7 : decode cX1_isAsSeen 7 = .ok (.if_icmp .ge 51, 3) := by decide +kernel
theorem dX1_isAsSeen_10 : decode cX1_isAsSeen 10 = .ok (.aload_n 0, 1) := by decide +kernel
theorem dX1_isAsSeen_11 : decode cX1_isAsSeen 11 = .ok (.getfield 27, 3) := by decide +kernel
theorem dX1_isAsSeen_14 : decode cX1_isAsSeen 14 = .ok (.iload_n 1, 1) := by decide +kernel
theorem dX1_isAsSeen_15 : decode cX1_isAsSeen 15 = .ok (.iaload, 1) := by decide +kernel
theorem dX1_isAsSeen_16 : decode cX1_isAsSeen 16 = .ok (.aload_n 0, 1) := by decide +kernel
theorem dX1_isAsSeen_17 : decode cX1_isAsSeen 17 = .ok (.getfield 17, 3) := by decide +kernel
theorem dX1_isAsSeen_20 : decode cX1_isAsSeen 20 = .ok (.iconst 0, 1) := by decide +kernel
theorem dX1_isAsSeen_21 : decode cX1_isAsSeen 21 = .ok (.iaload, 1) := by decide +kernel
theorem dX1_isAsSeen_22 : decode cX1_isAsSeen 22 = .ok (.if_icmp .ge 28, 3) := by decide +kernel
theorem dX1_isAsSeen_25 : decode cX1_isAsSeen 25 = .ok (.aload_n 0, 1) := by decide +kernel
theorem dX1_isAsSeen_26 : decode cX1_isAsSeen 26 = .ok (.aload_n 0, 1) := by decide +kernel
theorem dX1_isAsSeen_27 : decode cX1_isAsSeen 27 = .ok (.getfield 24, 3) := by decide +kernel
theorem dX1_isAsSeen_30 : decode cX1_isAsSeen 30 = .ok (.iload_n 1, 1) := by decide +kernel
theorem dX1_isAsSeen_31 : decode cX1_isAsSeen 31 = .ok (.iaload, 1) := by decide +kernel
theorem dX1_isAsSeen_32 : decode cX1_isAsSeen 32 = .ok (.aload_n 0, 1) := by decide +kernel
theorem dX1_isAsSeen_33 : decode cX1_isAsSeen 33 = .ok (.getfield 27, 3) := by decide +kernel
theorem dX1_isAsSeen_36 : decode cX1_isAsSeen 36 = .ok (.iload_n 1, 1) := by decide +kernel
theorem dX1_isAsSeen_37 : decode cX1_isAsSeen 37 = .ok (.iaload, 1) := by decide +kernel
theorem dX1_isAsSeen_38 : decode cX1_isAsSeen 38 = .ok (.invokevirtual 86, 3) := by decide +kernel
theorem dX1_isAsSeen_41 : decode cX1_isAsSeen 41 = .ok (.aload_n 0, 1) := by decide +kernel
theorem dX1_isAsSeen_42 : decode cX1_isAsSeen 42 = .ok (.getfield 30, 3) := by decide +kernel
theorem dX1_isAsSeen_45 : decode cX1_isAsSeen 45 = .ok (.iload_n 1, 1) := by decide +kernel
theorem dX1_isAsSeen_46 : decode cX1_isAsSeen 46 = .ok (.iaload, 1) := by decide +kernel
theorem dX1_isAsSeen_47 : decode cX1_isAsSeen 47 = .ok (.if_icmp .eq 5, 3) := by decide +kernel
theorem dX1_isAsSeen_50 : decode cX1_isAsSeen 50 = .ok (.iconst 0, 1) := by decide +kernel
theorem dX1_isAsSeen_51 : decode cX1_isAsSeen 51 = .ok (.ireturn, 1) := by decide +kernel
theorem dX1_isAsSeen_52 : decode cX1_isAsSeen 52 = .ok (.iinc 1 1, 3) := by decide +kernel
theorem dX1_isAsSeen_55 : decode cX1_isAsSeen 55 = .ok (.goto (-53), 3) := by decide +kernel
theorem dX1_isAsSeen_58 : decode cX1_isAsSeen 58 = .ok (.iconst 1, 1) := by decide +kernel
theorem dX1_isAsSeen_59 : decode cX1_isAsSeen 59 = .ok (.ireturn, 1) := by decide +kernel
theorem dX2_init_0 : decode cX2_init 0 = .ok (.aload_n 0, 1) := by decide +kernel
theorem dX2_init_1 : decode cX2_init 1 = .ok (.invokespecial 3, 3) := by decide +kernel
theorem dX2_init_4 : decode cX2_init 4 = .ok (.aload_n 0, 1) := by decide +kernel
theorem dX2_init_5 : decode cX2_init 5 = .ok (.bipush 40, 2) := by decide +kernel
theorem dX2_init_7 : decode cX2_init 7 = .ok (.newarray .int, 2) := by decide +kernel
theorem dX2_init_9 : decode cX2_init 9 = .ok (.putfield 9, 3) := by decide +kernel
theorem dX2_init_12 : decode cX2_init 12 = .ok (.aload_n 0, 1) := by decide +kernel
theorem dX2_init_13 : decode cX2_init 13 = .ok (.iconst (-1), 1) := by decide +kernel
theorem dX2_init_14 : decode cX2_init 14 = .ok (.putfield 15, 3) := by decide +kernel
theorem dX2_init_17 : decode cX2_init 17 = .ok (.return_, 1) := by decide +kernel
theorem dX2_renew_0 : decode cX2_renew 0 = .ok (.aload_n 0, 1) := by decide +kernel
theorem dX2_renew_1 : decode cX2_renew 1 = .ok (.getfield 9, 3) := by decide +kernel
theorem dX2_renew_4 : decode cX2_renew 4 = .ok (.iconst 0, 1) := by decide +kernel
theorem dX2_renew_5 : decode cX2_renew 5 = .ok (.invokestatic 19, 3) := by decide +kernel
theorem dX2_renew_8 : decode cX2_renew 8 = .ok (.aload_n 0, 1) := by decide +kernel
theorem dX2_renew_9 : decode cX2_renew 9 = .ok (.iload_n 1, 1) := by decide +kernel
theorem dX2_renew_10 : decode cX2_renew 10 = .ok (.putfield 15, 3) := by decide +kernel
theorem dX2_renew_13 : decode cX2_renew 13 = .ok (.aload_n 0, 1) := by decide +kernel
theorem dX2_renew_14 : decode cX2_renew 14 = .ok (.iload_n 2, 1) := by decide +kernel
theorem dX2_renew_15 : decode cX2_renew 15 = .ok (.putfield 25, 3) := by decide +kernel
theorem dX2_renew_18 : decode cX2_renew 18 = .ok (.return_, 1) := by decide +kernel
theorem dX2_faultAt_0 : decode cX2_faultAt 0 = .ok (.aload_n 0, 1) := by decide +kernel
theorem dX2_faultAt_1 : decode cX2_faultAt 1 = .ok (.getfield 15, 3) := by decide +kernel
theorem dX2_faultAt_4 : decode cX2_faultAt 4 = .ok (.iconst (-1), 1) := by decide +kernel
theorem dX2_faultAt_5 : decode cX2_faultAt 5 = .ok (.if_icmp .ne 5, 3) := by decide +kernel
theorem dX2_faultAt_8 : decode cX2_faultAt 8 = .ok (.iconst 1, 1) := by decide +kernel
theorem dX2_faultAt_9 : decode cX2_faultAt 9 = .ok (.ireturn, 1) := by decide +kernel
theorem dX2_faultAt_10 : decode cX2_faultAt 10 = .ok (.iload_n 1, 1) := by decide +kernel
theorem dX2_faultAt_11 : decode cX2_faultAt 11 = .ok (.ifCond .lt 11, 3) := by decide +kernel
theorem dX2_faultAt_14 : decode cX2_faultAt 14 = .ok (.iload_n 1, 1) := by decide +kernel
theorem dX2_faultAt_15 : decode cX2_faultAt 15 = .ok (.aload_n 0, 1) := by decide +kernel
theorem dX2_faultAt_16 : decode cX2_faultAt 16 = .ok (.getfield 25, 3) := by decide +kernel
theorem dX2_faultAt_19 : decode cX2_faultAt 19 = .ok (.if_icmp .lt 7, 3) := by decide +kernel
theorem dX2_faultAt_22 : decode cX2_faultAt 22 = .ok (.iconst 2, 1) := by decide +kernel
theorem dX2_faultAt_23 : decode cX2_faultAt 23 = .ok (.goto 4, 3) := by decide +kernel
theorem dX2_faultAt_26 : decode cX2_faultAt 26 = .ok (.iconst 0, 1) := by decide +kernel
theorem dX2_faultAt_27 : decode cX2_faultAt 27 = .ok (.ireturn, 1) := by decide +kernel
theorem dX2_faultOfPair_0 : decode cX2_faultOfPair 0 = .ok (.aload_n 0, 1) := by decide +kernel
theorem dX2_faultOfPair_1 : decode cX2_faultOfPair 1 = .ok (.getfield 15, 3) := by decide +kernel
theorem dX2_faultOfPair_4 : decode cX2_faultOfPair 4 = .ok (.iconst (-1), 1) := by decide +kernel
theorem dX2_faultOfPair_5 : decode cX2_faultOfPair 5 = .ok (.if_icmp .eq 13, 3) := by decide +kernel
theorem dX2_faultOfPair_8 : decode cX2_faultOfPair 8 = .ok (.aload_n 0, 1) := by decide +kernel
theorem dX2_faultOfPair_9 : decode cX2_faultOfPair 9 = .ok (.getfield 15, 3) := by decide +kernel
theorem dX2_faultOfPair_12 : decode cX2_faultOfPair 12 = .ok (.iload_n 1, 1) := by decide +kernel
theorem dX2_faultOfPair_13 : decode cX2_faultOfPair 13 = .ok (.if_icmp .eq 5, 3) := by decide +kernel
theorem dX2_faultOfPair_16 : decode cX2_faultOfPair 16 = .ok (.iconst 3, 1) := by decide +kernel
theorem dX2_faultOfPair_17 : decode cX2_faultOfPair 17 = .ok (.ireturn, 1) := by decide +kernel
theorem dX2_faultOfPair_18 : decode cX2_faultOfPair 18 = .ok (.aload_n 0, 1) := by decide +kernel
theorem dX2_faultOfPair_19 : decode cX2_faultOfPair 19 = .ok (.iload_n 2, 1) := by decide +kernel
theorem dX2_faultOfPair_20 : decode cX2_faultOfPair 20 = .ok (.invokevirtual 28, 3) := by decide +kernel
theorem dX2_faultOfPair_23 : decode cX2_faultOfPair 23 = .ok (.istore_n 3, 1) := by decide +kernel
theorem dX2_faultOfPair_24 : decode cX2_faultOfPair 24 = .ok (.iload_n 3, 1) := by decide +kernel
theorem dX2_faultOfPair_25 : decode cX2_faultOfPair 25 = .ok (.ifCond .eq 7, 3) := by decide +kernel
theorem dX2_faultOfPair_28 : decode cX2_faultOfPair 28 = .ok (.iload_n 3, 1) := by decide +kernel
theorem dX2_faultOfPair_29 : decode cX2_faultOfPair 29 = .ok (.goto 10, 3) := by decide +kernel
theorem dX2_faultOfPair_32 : decode cX2_faultOfPair 32 = .ok (.aload_n 0, 1) := by decide +kernel
theorem dX2_faultOfPair_33 : decode cX2_faultOfPair 33 = .ok (.iload_n 2, 1) := by decide +kernel
theorem dX2_faultOfPair_34 : decode cX2_faultOfPair 34 = .ok (.iconst 1, 1) := by decide +kernel
theorem dX2_faultOfPair_35 : decode cX2_faultOfPair 35 = .ok (.iadd, 1) := by decide +kernel
theorem dX2_faultOfPair_36 : decode cX2_faultOfPair 36 = .ok (.invokevirtual 28, 3) := by decide +kernel
theorem dX2_faultOfPair_39 : decode cX2_faultOfPair 39 = .ok (.ireturn, 1) := by decide +kernel
theorem dX2_store_0 : decode cX2_store 0 = .ok (.aload_n 0, 1) := by decide +kernel
theorem dX2_store_1 : decode cX2_store 1 = .ok (.iload_n 1, 1) := by decide +kernel
theorem dX2_store_2 : decode cX2_store 2 = .ok (.invokevirtual 28, 3) := by decide +kernel
theorem dX2_store_5 : decode cX2_store 5 = .ok (.ifCond .eq 4, 3) := by decide +kernel
theorem dX2_store_8 : decode cX2_store 8 = .ok (.return_, 1) := by decide +kernel
theorem dX2_store_9 : decode cX2_store 9 = .ok (.aload_n 0, 1) := by decide +kernel
theorem dX2_store_10 : decode cX2_store 10 = .ok (.getfield 15, 3) := by decide +kernel
theorem dX2_store_13 : decode cX2_store 13 = .ok (.lookupswitch 49 #[(0, 27), (1, 38)], 27) := by decide +kernel
theorem dX2_store_40 : decode cX2_store 40 = .ok (.aload_n 0, 1) := by decide +kernel
theorem dX2_store_41 : decode cX2_store 41 = .ok (.getfield 9, 3) := by decide +kernel
theorem dX2_store_44 : decode cX2_store 44 = .ok (.iload_n 1, 1) := by decide +kernel
theorem dX2_store_45 : decode cX2_store 45 = .ok (.iload_n 2, 1) := by decide +kernel
theorem dX2_store_46 : decode cX2_store 46 = .ok (.i2b, 1) := by decide +kernel
theorem dX2_store_47 : decode cX2_store 47 = .ok (.iastore, 1) := by decide +kernel
theorem dX2_store_48 : decode cX2_store 48 = .ok (.goto 21, 3) := by decide +kernel
theorem dX2_store_51 : decode cX2_store 51 = .ok (.aload_n 0, 1) := by decide +kernel
theorem dX2_store_52 : decode cX2_store 52 = .ok (.getfield 9, 3) := by decide +kernel
theorem dX2_store_55 : decode cX2_store 55 = .ok (.iload_n 1, 1) := by decide +kernel
theorem dX2_store_56 : decode cX2_store 56 = .ok (.iload_n 2, 1) := by decide +kernel
theorem dX2_store_57 : decode cX2_store 57 = .ok (.i2s, 1) := by decide +kernel
theorem dX2_store_58 : decode cX2_store 58 = .ok (.iastore, 1) := by decide +kernel
theorem dX2_store_59 : decode cX2_store 59 = .ok (.goto 10, 3) := by decide +kernel
theorem dX2_store_62 : decode cX2_store 62 = .ok (.aload_n 0, 1) := by decide +kernel
theorem dX2_store_63 : decode cX2_store 63 = .ok (.getfield 9, 3) := by decide +kernel
theorem dX2_store_66 : decode cX2_store 66 = .ok (.iload_n 1, 1) := by decide +kernel
theorem dX2_store_67 : decode cX2_store 67 = .ok (.iload_n 2, 1) := by decide +kernel
theorem dX2_store_68 : decode cX2_store 68 = .ok (.iastore, 1) := by decide +kernel
theorem dX2_store_69 : decode cX2_store 69 = .ok (.return_, 1) := by decide +kernel
theorem dX3_init_0 : decode cX3_init 0 = .ok (.aload_n 0, 1) := by decide +kernel
theorem dX3_init_1 : decode cX3_init 1 = .ok (.invokespecial 3, 3) := by decide +kernel
theorem dX3_init_4 : decode cX3_init 4 = .ok (.aload_n 0, 1) := by decide +kernel
theorem dX3_init_5 : decode cX3_init 5 = .ok (.sipush 160, 3) := by decide +kernel
theorem dX3_init_8 : decode cX3_init 8 = .ok (.newarray .byte, 2) := by decide +kernel
theorem dX3_init_10 : decode cX3_init 10 = .ok (.putfield 9, 3) := by decide +kernel
theorem dX3_init_13 : decode cX3_init 13 = .ok (.return_, 1) := by decide +kernel
theorem dX3_append_0 : decode cX3_append 0 = .ok (.aload_n 0, 1) := by decide +kernel
theorem dX3_append_1 : decode cX3_append 1 = .ok (.getfield 15, 3) := by decide +kernel
theorem dX3_append_4 : decode cX3_append 4 = .ok (.sipush 160, 3) := by decide +kernel
theorem dX3_append_7 : decode cX3_append 7 = .ok (.if_icmp .lt 5, 3) := by decide +kernel
theorem dX3_append_10 : decode cX3_append 10 = .ok (.iconst 0, 1) := by decide +kernel
theorem dX3_append_11 : decode cX3_append 11 = .ok (.ireturn, 1) := by decide +kernel
theorem dX3_append_12 : decode cX3_append 12 = .ok (.aload_n 0, 1) := by decide +kernel
theorem dX3_append_13 : decode cX3_append 13 = .ok (.getfield 9, 3) := by decide +kernel
theorem dX3_append_16 : decode cX3_append 16 = .ok (.aload_n 0, 1) := by decide +kernel
theorem dX3_append_17 : decode cX3_append 17 = .ok (.getfield 15, 3) := by decide +kernel
theorem dX3_append_20 : decode cX3_append 20 = .ok (.iload_n 1, 1) := by decide +kernel
theorem dX3_append_21 : decode cX3_append 21 = .ok (.i2b, 1) := by decide +kernel
theorem dX3_append_22 : decode cX3_append 22 = .ok (.bastore, 1) := by decide +kernel
theorem dX3_append_23 : decode cX3_append 23 = .ok (.aload_n 0, 1) := by decide +kernel
theorem dX3_append_24 : decode cX3_append 24 = .ok (.dup, 1) := by decide +kernel
theorem dX3_append_25 : decode cX3_append 25 = .ok (.getfield 15, 3) := by decide +kernel
theorem dX3_append_28 : decode cX3_append 28 = .ok (.iconst 1, 1) := by decide +kernel
theorem dX3_append_29 : decode cX3_append 29 = .ok (.iadd, 1) := by decide +kernel
theorem dX3_append_30 : decode cX3_append 30 = .ok (.putfield 15, 3) := by decide +kernel
theorem dX3_append_33 : decode cX3_append 33 = .ok (.iconst 1, 1) := by decide +kernel
theorem dX3_append_34 : decode cX3_append 34 = .ok (.ireturn, 1) := by decide +kernel
theorem dX3_readInto_0 : decode cX3_readInto 0 = .ok (.aload_n 1, 1) := by decide +kernel
theorem dX3_readInto_1 : decode cX3_readInto 1 = .ok (.invokevirtual 19, 3) := by decide +kernel
theorem dX3_readInto_4 : decode cX3_readInto 4 = .ok (.aload_n 0, 1) := by decide +kernel
theorem dX3_readInto_5 : decode cX3_readInto 5 = .ok (.iconst 0, 1) := by decide +kernel
theorem dX3_readInto_6 : decode cX3_readInto 6 = .ok (.putfield 24, 3) := by decide +kernel
theorem dX3_readInto_9 : decode cX3_readInto 9 = .ok (.aload_n 0, 1) := by decide +kernel
theorem dX3_readInto_10 : decode cX3_readInto 10 = .ok (.iconst 0, 1) := by decide +kernel
theorem dX3_readInto_11 : decode cX3_readInto 11 = .ok (.putfield 27, 3) := by decide +kernel
theorem dX3_readInto_14 : decode cX3_readInto 14 = .ok (.aload_n 0, 1) := by decide +kernel
theorem dX3_readInto_15 : decode cX3_readInto 15 = .ok (.iconst 0, 1) := by decide +kernel
theorem dX3_readInto_16 : decode cX3_readInto 16 = .ok (.putfield 30, 3) := by decide +kernel
theorem dX3_readInto_19 : decode cX3_readInto 19 = .ok (.aload_n 0, 1) := by decide +kernel
theorem dX3_readInto_20 : decode cX3_readInto 20 = .ok (.invokevirtual 33, 3) := by decide +kernel
theorem dX3_readInto_23 : decode cX3_readInto 23 = .ok (.iconst 0, 1) := by decide +kernel
theorem dX3_readInto_24 : decode cX3_readInto 24 = .ok (.istore_n 2, 1) := by decide +kernel
theorem dX3_readInto_25 : decode cX3_readInto 25 = .ok (.iload_n 2, 1) := by decide +kernel
theorem dX3_readInto_26 : decode cX3_readInto 26 = .ok (.sipush 160, 3) := by decide +kernel
theorem dX3_readInto_29 : decode cX3_readInto 29 = .ok (.if_icmp .ge 40, 3) := by decide +kernel
theorem dX3_readInto_32 : decode cX3_readInto 32 = .ok (.aload_n 0, 1) := by decide +kernel
theorem dX3_readInto_33 : decode cX3_readInto 33 = .ok (.getfield 30, 3) := by decide +kernel
theorem dX3_readInto_36 : decode cX3_readInto 36 = .ok (.ifCond .ne 33, 3) := by decide +kernel
theorem dX3_readInto_39 : decode cX3_readInto 39 = .ok (.aload_n 0, 1) := by decide +kernel
theorem dX3_readInto_40 : decode cX3_readInto 40 = .ok (.getfield 36, 3) := by decide +kernel
theorem dX3_readInto_43 : decode cX3_readInto 43 = .ok (.iconst 3, 1) := by decide +kernel
theorem dX3_readInto_44 : decode cX3_readInto 44 = .ok (.if_icmp .eq 25, 3) := by decide +kernel
theorem dX3_readInto_47 : decode cX3_readInto 47 = .ok (.aload_n 0, 1) := by decide +kernel
theorem dX3_readInto_48 : decode cX3_readInto 48 = .ok (.aload_n 1, 1) := by decide +kernel
theorem dX3_readInto_49 : decode cX3_readInto 49 = .ok (.invokevirtual 39, 3) := by decide +kernel
theorem dX3_readInto_52 : decode cX3_readInto 52 = .ok (.aload_n 0, 1) := by decide +kernel
theorem dX3_readInto_53 : decode cX3_readInto 53 = .ok (.getfield 30, 3) := by decide +kernel
theorem dX3_readInto_56 : decode cX3_readInto 56 = .ok (.ifCond .ne 7, 3) := by decide +kernel
theorem dX3_readInto_59 : decode cX3_readInto 59 = .ok (.aload_n 0, 1) := by decide +kernel
theorem dX3_readInto_60 : decode cX3_readInto 60 = .ok (.invokevirtual 33, 3) := by decide +kernel
theorem dX3_readInto_63 : decode cX3_readInto 63 = .ok (.iinc 2 1, 3) := by decide +kernel
theorem dX3_readInto_66 : decode cX3_readInto 66 = .ok (.goto (-41), 3) := by decide +kernel
theorem dX3_readInto_69 : decode cX3_readInto 69 = .ok (.aload_n 0, 1) := by decide +kernel
theorem dX3_readInto_70 : decode cX3_readInto 70 = .ok (.getfield 30, 3) := by decide +kernel
theorem dX3_readInto_73 : decode cX3_readInto 73 = .ok (.ifCond .ne 7, 3) := by decide +kernel
theorem dX3_readInto_76 : decode cX3_readInto 76 = .ok (.iload_n 2, 1) := by decide +kernel
theorem dX3_readInto_77 : decode cX3_readInto 77 = .ok (.goto 10, 3) := by decide +kernel
theorem dX3_readInto_80 : decode cX3_readInto 80 = .ok (.bipush (-10), 2) := by decide +kernel
theorem dX3_readInto_82 : decode cX3_readInto 82 = .ok (.aload_n 0, 1) := by decide +kernel
theorem dX3_readInto_83 : decode cX3_readInto 83 = .ok (.getfield 43, 3) := by decide +kernel
theorem dX3_readInto_86 : decode cX3_readInto 86 = .ok (.isub, 1) := by decide +kernel
theorem dX3_readInto_87 : decode cX3_readInto 87 = .ok (.ireturn, 1) := by decide +kernel
theorem dX3_readLine_0 : decode cX3_readLine 0 = .ok (.aload_n 0, 1) := by decide +kernel
theorem dX3_readLine_1 : decode cX3_readLine 1 = .ok (.invokevirtual 46, 3) := by decide +kernel
theorem dX3_readLine_4 : decode cX3_readLine 4 = .ok (.istore_n 2, 1) := by decide +kernel
theorem dX3_readLine_5 : decode cX3_readLine 5 = .ok (.iload_n 2, 1) := by decide +kernel
theorem dX3_readLine_6 : decode cX3_readLine 6 = .ok (.ifCond .ge 11, 3) := by decide +kernel
theorem dX3_readLine_9 : decode cX3_readLine 9 = .ok (.aload_n 0, 1) := by decide +kernel
theorem dX3_readLine_10 : decode cX3_readLine 10 = .ok (.iconst 2, 1) := by decide +kernel
theorem dX3_readLine_11 : decode cX3_readLine 11 = .ok (.putfield 30, 3) := by decide +kernel
theorem dX3_readLine_14 : decode cX3_readLine 14 = .ok (.goto 25, 3) := by decide +kernel
theorem dX3_readLine_17 : decode cX3_readLine 17 = .ok (.iload_n 2, 1) := by decide +kernel
theorem dX3_readLine_18 : decode cX3_readLine 18 = .ok (.iconst 4, 1) := by decide +kernel
theorem dX3_readLine_19 : decode cX3_readLine 19 = .ok (.if_icmp .ge 12, 3) := by decide +kernel
theorem dX3_readLine_22 : decode cX3_readLine 22 = .ok (.aload_n 0, 1) := by decide +kernel
theorem dX3_readLine_23 : decode cX3_readLine 23 = .ok (.aload_n 1, 1) := by decide +kernel
theorem dX3_readLine_24 : decode cX3_readLine 24 = .ok (.iload_n 2, 1) := by decide +kernel
theorem dX3_readLine_25 : decode cX3_readLine 25 = .ok (.invokevirtual 50, 3) := by decide +kernel
theorem dX3_readLine_28 : decode cX3_readLine 28 = .ok (.goto 11, 3) := by decide +kernel
theorem dX3_readLine_31 : decode cX3_readLine 31 = .ok (.aload_n 0, 1) := by decide +kernel
theorem dX3_readLine_32 : decode cX3_readLine 32 = .ok (.aload_n 1, 1) := by decide +kernel
theorem dX3_readLine_33 : decode cX3_readLine 33 = .ok (.iload_n 2, 1) := by decide +kernel
theorem dX3_readLine_34 : decode cX3_readLine 34 = .ok (.iconst 4, 1) := by decide +kernel
theorem dX3_readLine_35 : decode cX3_readLine 35 = .ok (.isub, 1) := by decide +kernel
theorem dX3_readLine_36 : decode cX3_readLine 36 = .ok (.invokevirtual 54, 3) := by decide +kernel
theorem dX3_readLine_39 : decode cX3_readLine 39 = .ok (.aload_n 0, 1) := by decide +kernel
theorem dX3_readLine_40 : decode cX3_readLine 40 = .ok (.getfield 30, 3) := by decide +kernel
theorem dX3_readLine_43 : decode cX3_readLine 43 = .ok (.ifCond .ne 7, 3) := by decide +kernel
theorem dX3_readLine_46 : decode cX3_readLine 46 = .ok (.aload_n 0, 1) := by decide +kernel
theorem dX3_readLine_47 : decode cX3_readLine 47 = .ok (.invokevirtual 33, 3) := by decide +kernel
theorem dX3_readLine_50 : decode cX3_readLine 50 = .ok (.aload_n 0, 1) := by decide +kernel
theorem dX3_readLine_51 : decode cX3_readLine 51 = .ok (.getfield 30, 3) := by decide +kernel
theorem dX3_readLine_54 : decode cX3_readLine 54 = .ok (.ifCond .ne 16, 3) := by decide +kernel
theorem dX3_readLine_57 : decode cX3_readLine 57 = .ok (.aload_n 0, 1) := by decide +kernel
theorem dX3_readLine_58 : decode cX3_readLine 58 = .ok (.getfield 36, 3) := by decide +kernel
theorem dX3_readLine_61 : decode cX3_readLine 61 = .ok (.iconst 2, 1) := by decide +kernel
theorem dX3_readLine_62 : decode cX3_readLine 62 = .ok (.if_icmp .eq 8, 3) := by decide +kernel
theorem dX3_readLine_65 : decode cX3_readLine 65 = .ok (.aload_n 0, 1) := by decide +kernel
theorem dX3_readLine_66 : decode cX3_readLine 66 = .ok (.iconst 2, 1) := by decide +kernel
theorem dX3_readLine_67 : decode cX3_readLine 67 = .ok (.putfield 30, 3) := by decide +kernel
theorem dX3_readLine_70 : decode cX3_readLine 70 = .ok (.return_, 1) := by decide +kernel
theorem dX3_readLamp_0 : decode cX3_readLamp 0 = .ok (.aload_n 1, 1) := by decide +kernel
theorem dX3_readLamp_1 : decode cX3_readLamp 1 = .ok (.getfield 57, 3) := by decide +kernel
theorem dX3_readLamp_4 : decode cX3_readLamp 4 = .ok (.iconst 4, 1) := by decide +kernel
theorem dX3_readLamp_5 : decode cX3_readLamp 5 = .ok (.if_icmp .lt 9, 3) := by decide +kernel
theorem dX3_readLamp_8 : decode cX3_readLamp 8 = .ok (.aload_n 0, 1) := by decide +kernel
theorem dX3_readLamp_9 : decode cX3_readLamp 9 = .ok (.iconst 5, 1) := by decide +kernel
theorem dX3_readLamp_10 : decode cX3_readLamp 10 = .ok (.putfield 30, 3) := by decide +kernel
theorem dX3_readLamp_13 : decode cX3_readLamp 13 = .ok (.return_, 1) := by decide +kernel
theorem dX3_readLamp_14 : decode cX3_readLamp 14 = .ok (.aload_n 0, 1) := by decide +kernel
theorem dX3_readLamp_15 : decode cX3_readLamp 15 = .ok (.getstatic 60, 3) := by decide +kernel
theorem dX3_readLamp_18 : decode cX3_readLamp 18 = .ok (.iconst 1, 1) := by decide +kernel
theorem dX3_readLamp_19 : decode cX3_readLamp 19 = .ok (.iaload, 1) := by decide +kernel
theorem dX3_readLamp_20 : decode cX3_readLamp 20 = .ok (.getstatic 64, 3) := by decide +kernel
theorem dX3_readLamp_23 : decode cX3_readLamp 23 = .ok (.iconst 1, 1) := by decide +kernel
theorem dX3_readLamp_24 : decode cX3_readLamp 24 = .ok (.iaload, 1) := by decide +kernel
theorem dX3_readLamp_25 : decode cX3_readLamp 25 = .ok (.invokevirtual 67, 3) := by decide +kernel
theorem dX3_readLamp_28 : decode cX3_readLamp 28 = .ok (.istore_n 3, 1) := by decide +kernel
theorem dX3_readLamp_29 : decode cX3_readLamp 29 = .ok (.aload_n 0, 1) := by decide +kernel
theorem dX3_readLamp_30 : decode cX3_readLamp 30 = .ok (.getstatic 60, 3) := by decide +kernel
theorem dX3_readLamp_33 : decode cX3_readLamp 33 = .ok (.iconst 2, 1) := by decide +kernel
theorem dX3_readLamp_34 : decode cX3_readLamp 34 = .ok (.iaload, 1) := by decide +kernel
theorem dX3_readLamp_35 : decode cX3_readLamp 35 = .ok (.getstatic 64, 3) := by decide +kernel
theorem dX3_readLamp_38 : decode cX3_readLamp 38 = .ok (.iconst 2, 1) := by decide +kernel
theorem dX3_readLamp_39 : decode cX3_readLamp 39 = .ok (.iaload, 1) := by decide +kernel
theorem dX3_readLamp_40 : decode cX3_readLamp 40 = .ok (.invokevirtual 67, 3) := by decide +kernel
theorem dX3_readLamp_43 : decode cX3_readLamp 43 = .ok (.istore 4, 2) := by decide +kernel
theorem dX3_readLamp_45 : decode cX3_readLamp 45 = .ok (.aload_n 0, 1) := by decide +kernel
theorem dX3_readLamp_46 : decode cX3_readLamp 46 = .ok (.getstatic 60, 3) := by decide +kernel
theorem dX3_readLamp_49 : decode cX3_readLamp 49 = .ok (.iconst 3, 1) := by decide +kernel
theorem dX3_readLamp_50 : decode cX3_readLamp 50 = .ok (.iaload, 1) := by decide +kernel
theorem dX3_readLamp_51 : decode cX3_readLamp 51 = .ok (.getstatic 64, 3) := by decide +kernel
theorem dX3_readLamp_54 : decode cX3_readLamp 54 = .ok (.iconst 3, 1) := by decide +kernel
theorem dX3_readLamp_55 : decode cX3_readLamp 55 = .ok (.iaload, 1) := by decide +kernel
theorem dX3_readLamp_56 : decode cX3_readLamp 56 = .ok (.invokevirtual 67, 3) := by decide +kernel
theorem dX3_readLamp_59 : decode cX3_readLamp 59 = .ok (.istore 5, 2) := by decide +kernel
theorem dX3_readLamp_61 : decode cX3_readLamp 61 = .ok (.aload_n 0, 1) := by decide +kernel
theorem dX3_readLamp_62 : decode cX3_readLamp 62 = .ok (.getfield 30, 3) := by decide +kernel
theorem dX3_readLamp_65 : decode cX3_readLamp 65 = .ok (.ifCond .ne 14, 3) := by decide +kernel
theorem dX3_readLamp_68 : decode cX3_readLamp 68 = .ok (.aload_n 1, 1) := by decide +kernel
theorem dX3_readLamp_69 : decode cX3_readLamp 69 = .ok (.iload_n 2, 1) := by decide +kernel
theorem dX3_readLamp_70 : decode cX3_readLamp 70 = .ok (.iload_n 3, 1) := by decide +kernel
theorem dX3_readLamp_71 : decode cX3_readLamp 71 = .ok (.iload 4, 2) := by decide +kernel
theorem dX3_readLamp_73 : decode cX3_readLamp 73 = .ok (.iload 5, 2) := by decide +kernel
theorem dX3_readLamp_75 : decode cX3_readLamp 75 = .ok (.invokevirtual 71, 3) := by decide +kernel
theorem dX3_readLamp_78 : decode cX3_readLamp 78 = .ok (.pop, 1) := by decide +kernel
theorem dX3_readLamp_79 : decode cX3_readLamp 79 = .ok (.return_, 1) := by decide +kernel
theorem dX3_readRule_0 : decode cX3_readRule 0 = .ok (.aload_n 0, 1) := by decide +kernel
theorem dX3_readRule_1 : decode cX3_readRule 1 = .ok (.getfield 27, 3) := by decide +kernel
theorem dX3_readRule_4 : decode cX3_readRule 4 = .ok (.iload_n 2, 1) := by decide +kernel
theorem dX3_readRule_5 : decode cX3_readRule 5 = .ok (.ishr, 1) := by decide +kernel
theorem dX3_readRule_6 : decode cX3_readRule 6 = .ok (.iconst 1, 1) := by decide +kernel
theorem dX3_readRule_7 : decode cX3_readRule 7 = .ok (.iand, 1) := by decide +kernel
theorem dX3_readRule_8 : decode cX3_readRule 8 = .ok (.iconst 1, 1) := by decide +kernel
theorem dX3_readRule_9 : decode cX3_readRule 9 = .ok (.if_icmp .ne 9, 3) := by decide +kernel
theorem dX3_readRule_12 : decode cX3_readRule 12 = .ok (.aload_n 0, 1) := by decide +kernel
theorem dX3_readRule_13 : decode cX3_readRule 13 = .ok (.iconst 4, 1) := by decide +kernel
theorem dX3_readRule_14 : decode cX3_readRule 14 = .ok (.putfield 30, 3) := by decide +kernel
theorem dX3_readRule_17 : decode cX3_readRule 17 = .ok (.return_, 1) := by decide +kernel
theorem dX3_readRule_18 : decode cX3_readRule 18 = .ok (.aload_n 0, 1) := by decide +kernel
theorem dX3_readRule_19 : decode cX3_readRule 19 = .ok (.dup, 1) := by decide +kernel
theorem dX3_readRule_20 : decode cX3_readRule 20 = .ok (.getfield 27, 3) := by decide +kernel
theorem dX3_readRule_23 : decode cX3_readRule 23 = .ok (.iconst 1, 1) := by decide +kernel
theorem dX3_readRule_24 : decode cX3_readRule 24 = .ok (.iload_n 2, 1) := by decide +kernel
theorem dX3_readRule_25 : decode cX3_readRule 25 = .ok (.ishl, 1) := by decide +kernel
theorem dX3_readRule_26 : decode cX3_readRule 26 = .ok (.ior, 1) := by decide +kernel
theorem dX3_readRule_27 : decode cX3_readRule 27 = .ok (.putfield 27, 3) := by decide +kernel
theorem dX3_readRule_30 : decode cX3_readRule 30 = .ok (.aload_n 0, 1) := by decide +kernel
theorem dX3_readRule_31 : decode cX3_readRule 31 = .ok (.getstatic 75, 3) := by decide +kernel
theorem dX3_readRule_34 : decode cX3_readRule 34 = .ok (.iload_n 2, 1) := by decide +kernel
theorem dX3_readRule_35 : decode cX3_readRule 35 = .ok (.iaload, 1) := by decide +kernel
theorem dX3_readRule_36 : decode cX3_readRule 36 = .ok (.getstatic 78, 3) := by decide +kernel
theorem dX3_readRule_39 : decode cX3_readRule 39 = .ok (.iload_n 2, 1) := by decide +kernel
theorem dX3_readRule_40 : decode cX3_readRule 40 = .ok (.iaload, 1) := by decide +kernel
theorem dX3_readRule_41 : decode cX3_readRule 41 = .ok (.invokevirtual 67, 3) := by decide +kernel
theorem dX3_readRule_44 : decode cX3_readRule 44 = .ok (.istore_n 3, 1) := by decide +kernel
theorem dX3_readRule_45 : decode cX3_readRule 45 = .ok (.aload_n 0, 1) := by decide +kernel
theorem dX3_readRule_46 : decode cX3_readRule 46 = .ok (.getfield 30, 3) := by decide +kernel
theorem dX3_readRule_49 : decode cX3_readRule 49 = .ok (.ifCond .ne 10, 3) := by decide +kernel
theorem dX3_readRule_52 : decode cX3_readRule 52 = .ok (.aload_n 1, 1) := by decide +kernel
theorem dX3_readRule_53 : decode cX3_readRule 53 = .ok (.getfield 81, 3) := by decide +kernel
theorem dX3_readRule_56 : decode cX3_readRule 56 = .ok (.iload_n 2, 1) := by decide +kernel
theorem dX3_readRule_57 : decode cX3_readRule 57 = .ok (.iload_n 3, 1) := by decide +kernel
theorem dX3_readRule_58 : decode cX3_readRule 58 = .ok (.iastore, 1) := by decide +kernel
theorem dX3_readRule_59 : decode cX3_readRule 59 = .ok (.return_, 1) := by decide +kernel
theorem dX3_readNumber_0 : decode cX3_readNumber 0 = .ok (.aload_n 0, 1) := by decide +kernel
theorem dX3_readNumber_1 : decode cX3_readNumber 1 = .ok (.getfield 30, 3) := by decide +kernel
theorem dX3_readNumber_4 : decode cX3_readNumber 4 = .ok (.ifCond .ne 7, 3) := by decide +kernel
theorem dX3_readNumber_7 : decode cX3_readNumber 7 = .ok (.aload_n 0, 1) := by decide +kernel
theorem dX3_readNumber_8 : decode cX3_readNumber 8 = .ok (.invokevirtual 33, 3) := by decide +kernel
theorem dX3_readNumber_11 : decode cX3_readNumber 11 = .ok (.aload_n 0, 1) := by decide +kernel
theorem dX3_readNumber_12 : decode cX3_readNumber 12 = .ok (.getfield 30, 3) := by decide +kernel
theorem dX3_readNumber_15 : decode cX3_readNumber 15 = .ok (.ifCond .ne 16, 3) := by decide +kernel
theorem dX3_readNumber_18 : decode cX3_readNumber 18 = .ok (.aload_n 0, 1) := by decide +kernel
theorem dX3_readNumber_19 : decode cX3_readNumber 19 = .ok (.getfield 36, 3) := by decide +kernel
theorem dX3_readNumber_22 : decode cX3_readNumber 22 = .ok (.iconst 1, 1) := by decide +kernel
theorem dX3_readNumber_23 : decode cX3_readNumber 23 = .ok (.if_icmp .eq 8, 3) := by decide +kernel
theorem dX3_readNumber_26 : decode cX3_readNumber 26 = .ok (.aload_n 0, 1) := by decide +kernel
theorem dX3_readNumber_27 : decode cX3_readNumber 27 = .ok (.iconst 2, 1) := by decide +kernel
theorem dX3_readNumber_28 : decode cX3_readNumber 28 = .ok (.putfield 30, 3) := by decide +kernel
theorem dX3_readNumber_31 : decode cX3_readNumber 31 = .ok (.aload_n 0, 1) := by decide +kernel
theorem dX3_readNumber_32 : decode cX3_readNumber 32 = .ok (.getfield 30, 3) := by decide +kernel
theorem dX3_readNumber_35 : decode cX3_readNumber 35 = .ok (.ifCond .eq 5, 3) := by decide +kernel
theorem dX3_readNumber_38 : decode cX3_readNumber 38 = .ok (.iconst 0, 1) := by decide +kernel
theorem dX3_readNumber_39 : decode cX3_readNumber 39 = .ok (.ireturn, 1) := by decide +kernel
theorem dX3_readNumber_40 : decode cX3_readNumber 40 = .ok (.iconst 0, 1) := by decide +kernel
theorem dX3_readNumber_41 : decode cX3_readNumber 41 = .ok (.istore_n 3, 1) := by decide +kernel
theorem dX3_readNumber_42 : decode cX3_readNumber 42 = .ok (.aload_n 0, 1) := by decide +kernel
theorem dX3_readNumber_43 : decode cX3_readNumber 43 = .ok (.getfield 43, 3) := by decide +kernel
theorem dX3_readNumber_46 : decode cX3_readNumber 46 = .ok (.istore 4, 2) := by decide +kernel
theorem dX3_readNumber_48 : decode cX3_readNumber 48 = .ok (.iload 4, 2) := by decide +kernel
theorem dX3_readNumber_50 : decode cX3_readNumber 50 = .ok (.aload_n 0, 1) := by decide +kernel
theorem dX3_readNumber_51 : decode cX3_readNumber 51 = .ok (.getfield 24, 3) := by decide +kernel
theorem dX3_readNumber_54 : decode cX3_readNumber 54 = .ok (.if_icmp .ge 25, 3) := by decide +kernel
theorem dX3_readNumber_57 : decode cX3_readNumber 57 = .ok (.bipush 10, 2) := by decide +kernel
theorem dX3_readNumber_59 : decode cX3_readNumber 59 = .ok (.iload_n 3, 1) := by decide +kernel
theorem dX3_readNumber_60 : decode cX3_readNumber 60 = .ok (.imul, 1) := by decide +kernel
theorem dX3_readNumber_61 : decode cX3_readNumber 61 = .ok (.aload_n 0, 1) := by decide +kernel
theorem dX3_readNumber_62 : decode cX3_readNumber 62 = .ok (.getfield 9, 3) := by decide +kernel
theorem dX3_readNumber_65 : decode cX3_readNumber 65 = .ok (.iload 4, 2) := by decide +kernel
theorem dX3_readNumber_67 : decode cX3_readNumber 67 = .ok (.baload, 1) := by decide +kernel
theorem dX3_readNumber_68 : decode cX3_readNumber 68 = .ok (.iadd, 1) := by decide +kernel
theorem dX3_readNumber_69 : decode cX3_readNumber 69 = .ok (.bipush 48, 2) := by decide +kernel
theorem dX3_readNumber_71 : decode cX3_readNumber 71 = .ok (.isub, 1) := by decide +kernel
theorem dX3_readNumber_72 : decode cX3_readNumber 72 = .ok (.istore_n 3, 1) := by decide +kernel
theorem dX3_readNumber_73 : decode cX3_readNumber 73 = .ok (.iinc 4 1, 3) := by decide +kernel
theorem dX3_readNumber_76 : decode cX3_readNumber 76 = .ok (.goto (-28), 3) := by decide +kernel
theorem dX3_readNumber_79 : decode cX3_readNumber 79 = .ok (.iload_n 3, 1) := by decide +kernel
theorem dX3_readNumber_80 : decode cX3_readNumber 80 = .ok (.iload_n 1, 1) := by decide +kernel
theorem dX3_readNumber_81 : decode cX3_readNumber 81 = .ok (.iload_n 2, 1) := by decide +kernel
theorem dX3_readNumber_82 : decode cX3_readNumber 82 = .ok (.invokestatic 84, 3) := by decide +kernel
theorem dX3_readNumber_85 : decode cX3_readNumber 85 = .ok (.ifCond .eq 8, 3) := by decide +kernel
theorem dX3_readNumber_88 : decode cX3_readNumber 88 = .ok (.aload_n 0, 1) := by decide +kernel
theorem dX3_readNumber_89 : decode cX3_readNumber 89 = .ok (.iconst 3, 1) := by decide +kernel
theorem dX3_readNumber_90 : decode cX3_readNumber 90 = .ok (.putfield 30, 3) := by decide +kernel
theorem dX3_readNumber_93 : decode cX3_readNumber 93 = .ok (.iload_n 3, 1) := by decide +kernel
theorem dX3_readNumber_94 : decode cX3_readNumber 94 = .ok (.ireturn, 1) := by decide +kernel
theorem dX3_advance_0 : decode cX3_advance 0 = .ok (.aload_n 0, 1) := by decide +kernel
theorem dX3_advance_1 : decode cX3_advance 1 = .ok (.bipush 32, 2) := by decide +kernel
theorem dX3_advance_3 : decode cX3_advance 3 = .ok (.bipush 32, 2) := by decide +kernel
theorem dX3_advance_5 : decode cX3_advance 5 = .ok (.invokevirtual 88, 3) := by decide +kernel
theorem dX3_advance_8 : decode cX3_advance 8 = .ok (.aload_n 0, 1) := by decide +kernel
theorem dX3_advance_9 : decode cX3_advance 9 = .ok (.aload_n 0, 1) := by decide +kernel
theorem dX3_advance_10 : decode cX3_advance 10 = .ok (.getfield 24, 3) := by decide +kernel
theorem dX3_advance_13 : decode cX3_advance 13 = .ok (.putfield 43, 3) := by decide +kernel
theorem dX3_advance_16 : decode cX3_advance 16 = .ok (.aload_n 0, 1) := by decide +kernel
theorem dX3_advance_17 : decode cX3_advance 17 = .ok (.getfield 24, 3) := by decide +kernel
theorem dX3_advance_20 : decode cX3_advance 20 = .ok (.aload_n 0, 1) := by decide +kernel
theorem dX3_advance_21 : decode cX3_advance 21 = .ok (.getfield 15, 3) := by decide +kernel
theorem dX3_advance_24 : decode cX3_advance 24 = .ok (.if_icmp .ge 15, 3) := by decide +kernel
theorem dX3_advance_27 : decode cX3_advance 27 = .ok (.aload_n 0, 1) := by decide +kernel
theorem dX3_advance_28 : decode cX3_advance 28 = .ok (.getfield 9, 3) := by decide +kernel
theorem dX3_advance_31 : decode cX3_advance 31 = .ok (.aload_n 0, 1) := by decide +kernel
theorem dX3_advance_32 : decode cX3_advance 32 = .ok (.getfield 24, 3) := by decide +kernel
theorem dX3_advance_35 : decode cX3_advance 35 = .ok (.baload, 1) := by decide +kernel
theorem dX3_advance_36 : decode cX3_advance 36 = .ok (.goto 4, 3) := by decide +kernel
theorem dX3_advance_39 : decode cX3_advance 39 = .ok (.iconst (-1), 1) := by decide +kernel
theorem dX3_advance_40 : decode cX3_advance 40 = .ok (.istore_n 1, 1) := by decide +kernel
theorem dX3_advance_41 : decode cX3_advance 41 = .ok (.iload_n 1, 1) := by decide +kernel
theorem dX3_advance_42 : decode cX3_advance 42 = .ok (.ifCond .ge 11, 3) := by decide +kernel
theorem dX3_advance_45 : decode cX3_advance 45 = .ok (.aload_n 0, 1) := by decide +kernel
theorem dX3_advance_46 : decode cX3_advance 46 = .ok (.iconst 3, 1) := by decide +kernel
theorem dX3_advance_47 : decode cX3_advance 47 = .ok (.putfield 36, 3) := by decide +kernel
theorem dX3_advance_50 : decode cX3_advance 50 = .ok (.goto 106, 3) := by decide +kernel
theorem dX3_advance_53 : decode cX3_advance 53 = .ok (.iload_n 1, 1) := by decide +kernel
theorem dX3_advance_54 : decode cX3_advance 54 = .ok (.bipush 97, 2) := by decide +kernel
theorem dX3_advance_56 : decode cX3_advance 56 = .ok (.if_icmp .lt 25, 3) := by decide +kernel
theorem dX3_advance_59 : decode cX3_advance 59 = .ok (.iload_n 1, 1) := by decide +kernel
theorem dX3_advance_60 : decode cX3_advance 60 = .ok (.bipush 122, 2) := by decide +kernel
theorem dX3_advance_62 : decode cX3_advance 62 = .ok (.if_icmp .gt 19, 3) := by decide +kernel
theorem dX3_advance_65 : decode cX3_advance 65 = .ok (.aload_n 0, 1) := by decide +kernel
theorem dX3_advance_66 : decode cX3_advance 66 = .ok (.iconst 0, 1) := by decide +kernel
theorem dX3_advance_67 : decode cX3_advance 67 = .ok (.putfield 36, 3) := by decide +kernel
theorem dX3_advance_70 : decode cX3_advance 70 = .ok (.aload_n 0, 1) := by decide +kernel
theorem dX3_advance_71 : decode cX3_advance 71 = .ok (.bipush 97, 2) := by decide +kernel
theorem dX3_advance_73 : decode cX3_advance 73 = .ok (.bipush 122, 2) := by decide +kernel
theorem dX3_advance_75 : decode cX3_advance 75 = .ok (.invokevirtual 88, 3) := by decide +kernel
theorem dX3_advance_78 : decode cX3_advance 78 = .ok (.goto 78, 3) := by decide +kernel
theorem dX3_advance_81 : decode cX3_advance 81 = .ok (.iload_n 1, 1) := by decide +kernel
theorem dX3_advance_82 : decode cX3_advance 82 = .ok (.bipush 48, 2) := by decide +kernel
theorem dX3_advance_84 : decode cX3_advance 84 = .ok (.if_icmp .lt 43, 3) := by decide +kernel
theorem dX3_advance_87 : decode cX3_advance 87 = .ok (.iload_n 1, 1) := by decide +kernel
theorem dX3_advance_88 : decode cX3_advance 88 = .ok (.bipush 57, 2) := by decide +kernel
theorem dX3_advance_90 : decode cX3_advance 90 = .ok (.if_icmp .gt 37, 3) := by decide +kernel
theorem dX3_advance_93 : decode cX3_advance 93 = .ok (.aload_n 0, 1) := by decide +kernel
theorem dX3_advance_94 : decode cX3_advance 94 = .ok (.iconst 1, 1) := by decide +kernel
theorem dX3_advance_95 : decode cX3_advance 95 = .ok (.putfield 36, 3) := by decide +kernel
theorem dX3_advance_98 : decode cX3_advance 98 = .ok (.aload_n 0, 1) := by decide +kernel
theorem dX3_advance_99 : decode cX3_advance 99 = .ok (.bipush 48, 2) := by decide +kernel
theorem dX3_advance_101 : decode cX3_advance 101 = .ok (.bipush 57, 2) := by decide +kernel
theorem dX3_advance_103 : decode cX3_advance 103 = .ok (.invokevirtual 88, 3) := by decide +kernel
theorem dX3_advance_106 : decode cX3_advance 106 = .ok (.aload_n 0, 1) := by decide +kernel
theorem dX3_advance_107 : decode cX3_advance 107 = .ok (.getfield 24, 3) := by decide +kernel
theorem dX3_advance_110 : decode cX3_advance 110 = .ok (.aload_n 0, 1) := by decide +kernel
theorem dX3_advance_111 : decode cX3_advance 111 = .ok (.getfield 43, 3) := by decide +kernel
theorem dX3_advance_114 : decode cX3_advance 114 = .ok (.isub, 1) := by decide +kernel
theorem dX3_advance_115 : decode cX3_advance 115 = .ok (.iconst 2, 1) := by decide +kernel
theorem dX3_advance_116 : decode cX3_advance 116 = .ok (.if_icmp .le 40, 3) := by decide +kernel
theorem dX3_advance_119 : decode cX3_advance 119 = .ok (.aload_n 0, 1) := by decide +kernel
theorem dX3_advance_120 : decode cX3_advance 120 = .ok (.iconst 1, 1) := by decide +kernel
theorem dX3_advance_121 : decode cX3_advance 121 = .ok (.putfield 30, 3) := by decide +kernel
theorem dX3_advance_124 : decode cX3_advance 124 = .ok (.goto 32, 3) := by decide +kernel
theorem dX3_advance_127 : decode cX3_advance 127 = .ok (.iload_n 1, 1) := by decide +kernel
theorem dX3_advance_128 : decode cX3_advance 128 = .ok (.bipush 59, 2) := by decide +kernel
theorem dX3_advance_130 : decode cX3_advance 130 = .ok (.if_icmp .ne 21, 3) := by decide +kernel
theorem dX3_advance_133 : decode cX3_advance 133 = .ok (.aload_n 0, 1) := by decide +kernel
theorem dX3_advance_134 : decode cX3_advance 134 = .ok (.iconst 2, 1) := by decide +kernel
theorem dX3_advance_135 : decode cX3_advance 135 = .ok (.putfield 36, 3) := by decide +kernel
theorem dX3_advance_138 : decode cX3_advance 138 = .ok (.aload_n 0, 1) := by decide +kernel
theorem dX3_advance_139 : decode cX3_advance 139 = .ok (.dup, 1) := by decide +kernel
theorem dX3_advance_140 : decode cX3_advance 140 = .ok (.getfield 24, 3) := by decide +kernel
theorem dX3_advance_143 : decode cX3_advance 143 = .ok (.iconst 1, 1) := by decide +kernel
theorem dX3_advance_144 : decode cX3_advance 144 = .ok (.iadd, 1) := by decide +kernel
theorem dX3_advance_145 : decode cX3_advance 145 = .ok (.putfield 24, 3) := by decide +kernel
theorem dX3_advance_148 : decode cX3_advance 148 = .ok (.goto 8, 3) := by decide +kernel
theorem dX3_advance_151 : decode cX3_advance 151 = .ok (.aload_n 0, 1) := by decide +kernel
theorem dX3_advance_152 : decode cX3_advance 152 = .ok (.iconst 1, 1) := by decide +kernel
theorem dX3_advance_153 : decode cX3_advance 153 = .ok (.putfield 30, 3) := by decide +kernel
theorem dX3_advance_156 : decode cX3_advance 156 = .ok (.return_, 1) := by decide +kernel
theorem dX3_takeAll_0 : decode cX3_takeAll 0 = .ok (.aload_n 0, 1) := by decide +kernel
theorem dX3_takeAll_1 : decode cX3_takeAll 1 = .ok (.getfield 24, 3) := by decide +kernel
theorem dX3_takeAll_4 : decode cX3_takeAll 4 = .ok (.aload_n 0, 1) := by decide +kernel
theorem dX3_takeAll_5 : decode cX3_takeAll 5 = .ok (.getfield 15, 3) := by decide +kernel
theorem dX3_takeAll_8 : decode cX3_takeAll 8 = .ok (.if_icmp .ge 42, 3) := by decide +kernel
theorem dX3_takeAll_11 : decode cX3_takeAll 11 = .ok (.aload_n 0, 1) := by decide +kernel
theorem dX3_takeAll_12 : decode cX3_takeAll 12 = .ok (.getfield 9, 3) := by decide +kernel
theorem dX3_takeAll_15 : decode cX3_takeAll 15 = .ok (.aload_n 0, 1) := by decide +kernel
theorem dX3_takeAll_16 : decode cX3_takeAll 16 = .ok (.getfield 24, 3) := by decide +kernel
theorem dX3_takeAll_19 : decode cX3_takeAll 19 = .ok (.baload, 1) := by decide +kernel
theorem dX3_takeAll_20 : decode cX3_takeAll 20 = .ok (.iload_n 1, 1) := by decide +kernel
theorem dX3_takeAll_21 : decode cX3_takeAll 21 = .ok (.if_icmp .lt 29, 3) := by decide +kernel
theorem dX3_takeAll_24 : decode cX3_takeAll 24 = .ok (.aload_n 0, 1) := by decide +kernel
theorem dX3_takeAll_25 : decode cX3_takeAll 25 = .ok (.getfield 9, 3) := by decide +kernel
theorem dX3_takeAll_28 : decode cX3_takeAll 28 = .ok (.aload_n 0, 1) := by decide +kernel
theorem dX3_takeAll_29 : decode cX3_takeAll 29 = .ok (.getfield 24, 3) := by decide +kernel
theorem dX3_takeAll_32 : decode cX3_takeAll 32 = .ok (.baload, 1) := by decide +kernel
theorem dX3_takeAll_33 : decode cX3_takeAll 33 = .ok (.iload_n 2, 1) := by decide +kernel
theorem dX3_takeAll_34 : decode cX3_takeAll 34 = .ok (.if_icmp .gt 16, 3) := by decide +kernel
theorem dX3_takeAll_37 : decode cX3_takeAll 37 = .ok (.aload_n 0, 1) := by decide +kernel
theorem dX3_takeAll_38 : decode cX3_takeAll 38 = .ok (.dup, 1) := by decide +kernel
theorem dX3_takeAll_39 : decode cX3_takeAll 39 = .ok (.getfield 24, 3) := by decide +kernel
theorem dX3_takeAll_42 : decode cX3_takeAll 42 = .ok (.iconst 1, 1) := by decide +kernel
theorem dX3_takeAll_43 : decode cX3_takeAll 43 = .ok (.iadd, 1) := by decide +kernel
theorem dX3_takeAll_44 : decode cX3_takeAll 44 = .ok (.putfield 24, 3) := by decide +kernel
theorem dX3_takeAll_47 : decode cX3_takeAll 47 = .ok (.goto (-47), 3) := by decide +kernel
theorem dX3_takeAll_50 : decode cX3_takeAll 50 = .ok (.return_, 1) := by decide +kernel
theorem dX3_lineBegun_0 : decode cX3_lineBegun 0 = .ok (.aload_n 0, 1) := by decide +kernel
theorem dX3_lineBegun_1 : decode cX3_lineBegun 1 = .ok (.getfield 36, 3) := by decide +kernel
theorem dX3_lineBegun_4 : decode cX3_lineBegun 4 = .ok (.ifCond .eq 5, 3) := by decide +kernel
theorem dX3_lineBegun_7 : decode cX3_lineBegun 7 = .ok (.iconst (-1), 1) := by decide +kernel
theorem dX3_lineBegun_8 : decode cX3_lineBegun 8 = .ok (.ireturn, 1) := by decide +kernel
theorem dX3_lineBegun_9 : decode cX3_lineBegun 9 = .ok (.iconst 0, 1) := by decide +kernel
theorem dX3_lineBegun_10 : decode cX3_lineBegun 10 = .ok (.istore_n 1, 1) := by decide +kernel
theorem dX3_lineBegun_11 : decode cX3_lineBegun 11 = .ok (.iload_n 1, 1) := by decide +kernel
theorem dX3_lineBegun_12 : decode cX3_lineBegun 12 = .ok (.bipush 8, 2) := by decide +kernel
theorem dX3_lineBegun_14 : decode cX3_lineBegun 14 = .ok (.if_icmp .ge 22, 3) := by decide +kernel
theorem dX3_lineBegun_17 : decode cX3_lineBegun 17 = .ok (.aload_n 0, 1) := by decide +kernel
theorem dX3_lineBegun_18 : decode cX3_lineBegun 18 = .ok (.iload_n 1, 1) := by decide +kernel
theorem dX3_lineBegun_19 : decode cX3_lineBegun 19 = .ok (.invokestatic 92, 3) := by decide +kernel
theorem dX3_lineBegun_22 : decode cX3_lineBegun 22 = .ok (.invokevirtual 96, 3) := by decide +kernel
theorem dX3_lineBegun_25 : decode cX3_lineBegun 25 = .ok (.ifCond .eq 5, 3) := by decide +kernel
theorem dX3_lineBegun_28 : decode cX3_lineBegun 28 = .ok (.iload_n 1, 1) := by decide +kernel
theorem dX3_lineBegun_29 : decode cX3_lineBegun 29 = .ok (.ireturn, 1) := by decide +kernel
theorem dX3_lineBegun_30 : decode cX3_lineBegun 30 = .ok (.iinc 1 1, 3) := by decide +kernel
theorem dX3_lineBegun_33 : decode cX3_lineBegun 33 = .ok (.goto (-22), 3) := by decide +kernel
theorem dX3_lineBegun_36 : decode cX3_lineBegun 36 = .ok (.iconst (-1), 1) := by decide +kernel
theorem dX3_lineBegun_37 : decode cX3_lineBegun 37 = .ok (.ireturn, 1) := by decide +kernel
theorem dX3_isCalled_0 : decode cX3_isCalled 0 = .ok (.aload_n 1, 1) := by decide +kernel
theorem dX3_isCalled_1 : decode cX3_isCalled 1 = .ok (.invokevirtual 100, 3) := by decide +kernel
theorem dX3_isCalled_4 : decode cX3_isCalled 4 = .ok (.aload_n 0, 1) := by decide +kernel
theorem dX3_isCalled_5 : decode cX3_isCalled 5 = .ok (.getfield 24, 3) := by decide +kernel
theorem dX3_isCalled_8 : decode cX3_isCalled 8 = .ok (.aload_n 0, 1) := by decide +kernel
theorem dX3_isCalled_9 : decode cX3_isCalled 9 = .ok (.getfield 43, 3) := by decide +kernel
theorem dX3_isCalled_12 : decode cX3_isCalled 12 = .ok (.isub, 1) := by decide +kernel
theorem dX3_isCalled_13 : decode cX3_isCalled 13 = .ok (.if_icmp .eq 5, 3) := by decide +kernel
theorem dX3_isCalled_16 : decode cX3_isCalled 16 = .ok (.iconst 0, 1) := by decide +kernel
theorem dX3_isCalled_17 : decode cX3_isCalled 17 = .ok (.ireturn, 1) := by decide +kernel
theorem dX3_isCalled_18 : decode cX3_isCalled 18 = .ok (.iconst 0, 1) := by decide +kernel
theorem dX3_isCalled_19 : decode cX3_isCalled 19 = .ok (.istore_n 2, 1) := by decide +kernel
theorem dX3_isCalled_20 : decode cX3_isCalled 20 = .ok (.iload_n 2, 1) := by decide +kernel
theorem dX3_isCalled_21 : decode cX3_isCalled 21 = .ok (.aload_n 1, 1) := by decide +kernel
theorem dX3_isCalled_22 : decode cX3_isCalled 22 = .ok (.invokevirtual 100, 3) := by decide +kernel
theorem dX3_isCalled_25 : decode cX3_isCalled 25 = .ok (.if_icmp .ge 30, 3) := by decide +kernel
theorem dX3_isCalled_28 : decode cX3_isCalled 28 = .ok (.aload_n 0, 1) := by decide +kernel
theorem dX3_isCalled_29 : decode cX3_isCalled 29 = .ok (.getfield 9, 3) := by decide +kernel
theorem dX3_isCalled_32 : decode cX3_isCalled 32 = .ok (.aload_n 0, 1) := by decide +kernel
theorem dX3_isCalled_33 : decode cX3_isCalled 33 = .ok (.getfield 43, 3) := by decide +kernel
theorem dX3_isCalled_36 : decode cX3_isCalled 36 = .ok (.iload_n 2, 1) := by decide +kernel
theorem dX3_isCalled_37 : decode cX3_isCalled 37 = .ok (.iadd, 1) := by decide +kernel
theorem dX3_isCalled_38 : decode cX3_isCalled 38 = .ok (.baload, 1) := by decide +kernel
theorem dX3_isCalled_39 : decode cX3_isCalled 39 = .ok (.aload_n 1, 1) := by decide +kernel
theorem dX3_isCalled_40 : decode cX3_isCalled 40 = .ok (.iload_n 2, 1) := by decide +kernel
theorem dX3_isCalled_41 : decode cX3_isCalled 41 = .ok (.invokevirtual 104, 3) := by decide +kernel
theorem dX3_isCalled_44 : decode cX3_isCalled 44 = .ok (.if_icmp .eq 5, 3) := by decide +kernel
theorem dX3_isCalled_47 : decode cX3_isCalled 47 = .ok (.iconst 0, 1) := by decide +kernel
theorem dX3_isCalled_48 : decode cX3_isCalled 48 = .ok (.ireturn, 1) := by decide +kernel
theorem dX3_isCalled_49 : decode cX3_isCalled 49 = .ok (.iinc 2 1, 3) := by decide +kernel
theorem dX3_isCalled_52 : decode cX3_isCalled 52 = .ok (.goto (-32), 3) := by decide +kernel
theorem dX3_isCalled_55 : decode cX3_isCalled 55 = .ok (.iconst 1, 1) := by decide +kernel
theorem dX3_isCalled_56 : decode cX3_isCalled 56 = .ok (.ireturn, 1) := by decide +kernel
theorem dX3_nameOf_0 : decode cX3_nameOf 0 = .ok (.iload_n 0, 1) := by decide +kernel
theorem dX3_nameOf_1 : decode cX3_nameOf 1 = .ok (.tableswitch 64 0 6 #[43, 46, 49, 52, 55, 58, 61], 43) := by decide +kernel
theorem dX3_nameOf_44 : decode cX3_nameOf 44 = .ok (.ldc 108, 2) := by decide +kernel
theorem dX3_nameOf_46 : decode cX3_nameOf 46 = .ok (.areturn, 1) := by decide +kernel
theorem dX3_nameOf_47 : decode cX3_nameOf 47 = .ok (.ldc 110, 2) := by decide +kernel
theorem dX3_nameOf_49 : decode cX3_nameOf 49 = .ok (.areturn, 1) := by decide +kernel
theorem dX3_nameOf_50 : decode cX3_nameOf 50 = .ok (.ldc 112, 2) := by decide +kernel
theorem dX3_nameOf_52 : decode cX3_nameOf 52 = .ok (.areturn, 1) := by decide +kernel
theorem dX3_nameOf_53 : decode cX3_nameOf 53 = .ok (.ldc 114, 2) := by decide +kernel
theorem dX3_nameOf_55 : decode cX3_nameOf 55 = .ok (.areturn, 1) := by decide +kernel
theorem dX3_nameOf_56 : decode cX3_nameOf 56 = .ok (.ldc 116, 2) := by decide +kernel
theorem dX3_nameOf_58 : decode cX3_nameOf 58 = .ok (.areturn, 1) := by decide +kernel
theorem dX3_nameOf_59 : decode cX3_nameOf 59 = .ok (.ldc 118, 2) := by decide +kernel
theorem dX3_nameOf_61 : decode cX3_nameOf 61 = .ok (.areturn, 1) := by decide +kernel
theorem dX3_nameOf_62 : decode cX3_nameOf 62 = .ok (.ldc 120, 2) := by decide +kernel
theorem dX3_nameOf_64 : decode cX3_nameOf 64 = .ok (.areturn, 1) := by decide +kernel
theorem dX3_nameOf_65 : decode cX3_nameOf 65 = .ok (.ldc 122, 2) := by decide +kernel
theorem dX3_nameOf_67 : decode cX3_nameOf 67 = .ok (.areturn, 1) := by decide +kernel
theorem dJ6_bitCount_0f7a4_0 : decode cJ6_bitCount_0f7a4 0 = .ok (.iload_n 0, 1) := by decide +kernel
theorem dJ6_bitCount_0f7a4_1 : decode cJ6_bitCount_0f7a4 1 = .ok (.iload_n 0, 1) := by decide +kernel
theorem dJ6_bitCount_0f7a4_2 : decode cJ6_bitCount_0f7a4 2 = .ok (.iconst 1, 1) := by decide +kernel
theorem dJ6_bitCount_0f7a4_3 : decode cJ6_bitCount_0f7a4 3 = .ok (.iushr, 1) := by decide +kernel
theorem dJ6_bitCount_0f7a4_4 : decode cJ6_bitCount_0f7a4 4 = .ok (.ldc_w 265, 3) := by decide +kernel
theorem dJ6_bitCount_0f7a4_7 : decode cJ6_bitCount_0f7a4 7 = .ok (.iand, 1) := by decide +kernel
theorem dJ6_bitCount_0f7a4_8 : decode cJ6_bitCount_0f7a4 8 = .ok (.isub, 1) := by decide +kernel
theorem dJ6_bitCount_0f7a4_9 : decode cJ6_bitCount_0f7a4 9 = .ok (.istore_n 0, 1) := by decide +kernel
theorem dJ6_bitCount_0f7a4_10 : decode cJ6_bitCount_0f7a4 10 = .ok (.iload_n 0, 1) := by decide +kernel
theorem dJ6_bitCount_0f7a4_11 : decode cJ6_bitCount_0f7a4 11 = .ok (.ldc_w 266, 3) := by decide +kernel
theorem dJ6_bitCount_0f7a4_14 : decode cJ6_bitCount_0f7a4 14 = .ok (.iand, 1) := by decide +kernel
theorem dJ6_bitCount_0f7a4_15 : decode cJ6_bitCount_0f7a4 15 = .ok (.iload_n 0, 1) := by decide +kernel
theorem dJ6_bitCount_0f7a4_16 : decode cJ6_bitCount_0f7a4 16 = .ok (.iconst 2, 1) := by decide +kernel
theorem dJ6_bitCount_0f7a4_17 : decode cJ6_bitCount_0f7a4 17 = .ok (.iushr, 1) := by decide +kernel
theorem dJ6_bitCount_0f7a4_18 : decode cJ6_bitCount_0f7a4 18 = .ok (.ldc_w 266, 3) := by decide +kernel
theorem dJ6_bitCount_0f7a4_21 : decode cJ6_bitCount_0f7a4 21 = .ok (.iand, 1) := by decide +kernel
theorem dJ6_bitCount_0f7a4_22 : decode cJ6_bitCount_0f7a4 22 = .ok (.iadd, 1) := by decide +kernel
theorem dJ6_bitCount_0f7a4_23 : decode cJ6_bitCount_0f7a4 23 = .ok (.istore_n 0, 1) := by decide +kernel
theorem dJ6_bitCount_0f7a4_24 : decode cJ6_bitCount_0f7a4 24 = .ok (.iload_n 0, 1) := by decide +kernel
theorem dJ6_bitCount_0f7a4_25 : decode cJ6_bitCount_0f7a4 25 = .ok (.iload_n 0, 1) := by decide +kernel
theorem dJ6_bitCount_0f7a4_26 : decode cJ6_bitCount_0f7a4 26 = .ok (.iconst 4, 1) := by decide +kernel
theorem dJ6_bitCount_0f7a4_27 : decode cJ6_bitCount_0f7a4 27 = .ok (.iushr, 1) := by decide +kernel
theorem dJ6_bitCount_0f7a4_28 : decode cJ6_bitCount_0f7a4 28 = .ok (.iadd, 1) := by decide +kernel
theorem dJ6_bitCount_0f7a4_29 : decode cJ6_bitCount_0f7a4 29 = .ok (.ldc_w 267, 3) := by decide +kernel
theorem dJ6_bitCount_0f7a4_32 : decode cJ6_bitCount_0f7a4 32 = .ok (.iand, 1) := by decide +kernel
theorem dJ6_bitCount_0f7a4_33 : decode cJ6_bitCount_0f7a4 33 = .ok (.istore_n 0, 1) := by decide +kernel
theorem dJ6_bitCount_0f7a4_34 : decode cJ6_bitCount_0f7a4 34 = .ok (.iload_n 0, 1) := by decide +kernel
theorem dJ6_bitCount_0f7a4_35 : decode cJ6_bitCount_0f7a4 35 = .ok (.iload_n 0, 1) := by decide +kernel
theorem dJ6_bitCount_0f7a4_36 : decode cJ6_bitCount_0f7a4 36 = .ok (.bipush 8, 2) := by decide +kernel
theorem dJ6_bitCount_0f7a4_38 : decode cJ6_bitCount_0f7a4 38 = .ok (.iushr, 1) := by decide +kernel
theorem dJ6_bitCount_0f7a4_39 : decode cJ6_bitCount_0f7a4 39 = .ok (.iadd, 1) := by decide +kernel
theorem dJ6_bitCount_0f7a4_40 : decode cJ6_bitCount_0f7a4 40 = .ok (.istore_n 0, 1) := by decide +kernel
theorem dJ6_bitCount_0f7a4_41 : decode cJ6_bitCount_0f7a4 41 = .ok (.iload_n 0, 1) := by decide +kernel
theorem dJ6_bitCount_0f7a4_42 : decode cJ6_bitCount_0f7a4 42 = .ok (.iload_n 0, 1) := by decide +kernel
theorem dJ6_bitCount_0f7a4_43 : decode cJ6_bitCount_0f7a4 43 = .ok (.bipush 16, 2) := by decide +kernel
theorem dJ6_bitCount_0f7a4_45 : decode cJ6_bitCount_0f7a4 45 = .ok (.iushr, 1) := by decide +kernel
theorem dJ6_bitCount_0f7a4_46 : decode cJ6_bitCount_0f7a4 46 = .ok (.iadd, 1) := by decide +kernel
theorem dJ6_bitCount_0f7a4_47 : decode cJ6_bitCount_0f7a4 47 = .ok (.istore_n 0, 1) := by decide +kernel
theorem dJ6_bitCount_0f7a4_48 : decode cJ6_bitCount_0f7a4 48 = .ok (.iload_n 0, 1) := by decide +kernel
theorem dJ6_bitCount_0f7a4_49 : decode cJ6_bitCount_0f7a4 49 = .ok (.bipush 63, 2) := by decide +kernel
theorem dJ6_bitCount_0f7a4_51 : decode cJ6_bitCount_0f7a4 51 = .ok (.iand, 1) := by decide +kernel
theorem dJ6_bitCount_0f7a4_52 : decode cJ6_bitCount_0f7a4 52 = .ok (.ireturn, 1) := by decide +kernel
theorem dJ9_max_7cf53_0 : decode cJ9_max_7cf53 0 = .ok (.iload_n 0, 1) := by decide +kernel
theorem dJ9_max_7cf53_1 : decode cJ9_max_7cf53 1 = .ok (.iload_n 1, 1) := by decide +kernel
theorem dJ9_max_7cf53_2 : decode cJ9_max_7cf53 2 = .ok (.if_icmp .lt 7, 3) := by decide +kernel
theorem dJ9_max_7cf53_5 : decode cJ9_max_7cf53 5 = .ok (.iload_n 0, 1) := by decide +kernel
theorem dJ9_max_7cf53_6 : decode cJ9_max_7cf53 6 = .ok (.goto 4, 3) := by decide +kernel
theorem dJ9_max_7cf53_9 : decode cJ9_max_7cf53 9 = .ok (.iload_n 1, 1) := by decide +kernel
theorem dJ9_max_7cf53_10 : decode cJ9_max_7cf53 10 = .ok (.ireturn, 1) := by decide +kernel
theorem dJ9_min_7cf53_0 : decode cJ9_min_7cf53 0 = .ok (.iload_n 0, 1) := by decide +kernel
theorem dJ9_min_7cf53_1 : decode cJ9_min_7cf53 1 = .ok (.iload_n 1, 1) := by decide +kernel
theorem dJ9_min_7cf53_2 : decode cJ9_min_7cf53 2 = .ok (.if_icmp .gt 7, 3) := by decide +kernel
theorem dJ9_min_7cf53_5 : decode cJ9_min_7cf53 5 = .ok (.iload_n 0, 1) := by decide +kernel
theorem dJ9_min_7cf53_6 : decode cJ9_min_7cf53 6 = .ok (.goto 4, 3) := by decide +kernel
theorem dJ9_min_7cf53_9 : decode cJ9_min_7cf53 9 = .ok (.iload_n 1, 1) := by decide +kernel
theorem dJ9_min_7cf53_10 : decode cJ9_min_7cf53 10 = .ok (.ireturn, 1) := by decide +kernel
theorem dJ0_length_8abf5_0 : decode cJ0_length_8abf5 0 = .ok (.aload_n 0, 1) := by decide +kernel
theorem dJ0_length_8abf5_1 : decode cJ0_length_8abf5 1 = .ok (.getfield 9, 3) := by decide +kernel
theorem dJ0_length_8abf5_4 : decode cJ0_length_8abf5 4 = .ok (.arraylength, 1) := by decide +kernel
theorem dJ0_length_8abf5_5 : decode cJ0_length_8abf5 5 = .ok (.aload_n 0, 1) := by decide +kernel
theorem dJ0_length_8abf5_6 : decode cJ0_length_8abf5 6 = .ok (.invokevirtual 335, 3) := by decide +kernel
theorem dJ0_length_8abf5_9 : decode cJ0_length_8abf5 9 = .ok (.ishr, 1) := by decide +kernel
theorem dJ0_length_8abf5_10 : decode cJ0_length_8abf5 10 = .ok (.ireturn, 1) := by decide +kernel
theorem dJ0_charAt_5068e_0 : decode cJ0_charAt_5068e 0 = .ok (.aload_n 0, 1) := by decide +kernel
theorem dJ0_charAt_5068e_1 : decode cJ0_charAt_5068e 1 = .ok (.invokevirtual 492, 3) := by decide +kernel
theorem dJ0_charAt_5068e_4 : decode cJ0_charAt_5068e 4 = .ok (.ifCond .eq 12, 3) := by decide +kernel
theorem dJ0_charAt_5068e_7 : decode cJ0_charAt_5068e 7 = .ok (.aload_n 0, 1) := by decide +kernel
theorem dJ0_charAt_5068e_8 : decode cJ0_charAt_5068e 8 = .ok (.getfield 9, 3) := by decide +kernel
theorem dJ0_charAt_5068e_11 : decode cJ0_charAt_5068e 11 = .ok (.iload_n 1, 1) := by decide +kernel
theorem dJ0_charAt_5068e_12 : decode cJ0_charAt_5068e 12 = .ok (.invokestatic 495, 3) := by decide +kernel
theorem dJ0_charAt_5068e_15 : decode cJ0_charAt_5068e 15 = .ok (.ireturn, 1) := by decide +kernel
theorem dJ0_charAt_5068e_16 : decode cJ0_charAt_5068e 16 = .ok (.aload_n 0, 1) := by decide +kernel
theorem dJ0_charAt_5068e_17 : decode cJ0_charAt_5068e 17 = .ok (.getfield 9, 3) := by decide +kernel
theorem dJ0_charAt_5068e_20 : decode cJ0_charAt_5068e 20 = .ok (.iload_n 1, 1) := by decide +kernel
theorem dJ0_charAt_5068e_21 : decode cJ0_charAt_5068e 21 = .ok (.invokestatic 498, 3) := by decide +kernel
theorem dJ0_charAt_5068e_24 : decode cJ0_charAt_5068e 24 = .ok (.ireturn, 1) := by decide +kernel
theorem dJ0_coder_7d493_0 : decode cJ0_coder_7d493 0 = .ok (.getstatic 38, 3) := by decide +kernel
theorem dJ0_coder_7d493_3 : decode cJ0_coder_7d493 3 = .ok (.ifCond .eq 10, 3) := by decide +kernel
theorem dJ0_coder_7d493_6 : decode cJ0_coder_7d493 6 = .ok (.aload_n 0, 1) := by decide +kernel
theorem dJ0_coder_7d493_7 : decode cJ0_coder_7d493 7 = .ok (.getfield 15, 3) := by decide +kernel
theorem dJ0_coder_7d493_10 : decode cJ0_coder_7d493 10 = .ok (.goto 4, 3) := by decide +kernel
theorem dJ0_coder_7d493_13 : decode cJ0_coder_7d493 13 = .ok (.iconst 1, 1) := by decide +kernel
theorem dJ0_coder_7d493_14 : decode cJ0_coder_7d493 14 = .ok (.ireturn, 1) := by decide +kernel
theorem dJ0_isLatin1_aae02_0 : decode cJ0_isLatin1_aae02 0 = .ok (.getstatic 38, 3) := by decide +kernel
theorem dJ0_isLatin1_aae02_3 : decode cJ0_isLatin1_aae02 3 = .ok (.ifCond .eq 14, 3) := by decide +kernel
theorem dJ0_isLatin1_aae02_6 : decode cJ0_isLatin1_aae02 6 = .ok (.aload_n 0, 1) := by decide +kernel
theorem dJ0_isLatin1_aae02_7 : decode cJ0_isLatin1_aae02 7 = .ok (.getfield 15, 3) := by decide +kernel
theorem dJ0_isLatin1_aae02_10 : decode cJ0_isLatin1_aae02 10 = .ok (.ifCond .ne 7, 3) := by decide +kernel
theorem dJ0_isLatin1_aae02_13 : decode cJ0_isLatin1_aae02 13 = .ok (.iconst 1, 1) := by decide +kernel
theorem dJ0_isLatin1_aae02_14 : decode cJ0_isLatin1_aae02 14 = .ok (.goto 4, 3) := by decide +kernel
theorem dJ0_isLatin1_aae02_17 : decode cJ0_isLatin1_aae02 17 = .ok (.iconst 0, 1) := by decide +kernel
theorem dJ0_isLatin1_aae02_18 : decode cJ0_isLatin1_aae02 18 = .ok (.ireturn, 1) := by decide +kernel
theorem dJ0_checkIndex_df160_0 : decode cJ0_checkIndex_df160 0 = .ok (.iload_n 0, 1) := by decide +kernel
theorem dJ0_checkIndex_df160_1 : decode cJ0_checkIndex_df160 1 = .ok (.iload_n 1, 1) := by decide +kernel
theorem dJ0_checkIndex_df160_2 : decode cJ0_checkIndex_df160 2 = .ok (.getstatic 1053, 3) := by decide +kernel
theorem dJ0_checkIndex_df160_5 : decode cJ0_checkIndex_df160 5 = .ok (.invokestatic 1059, 3) := by decide +kernel
theorem dJ0_checkIndex_df160_8 : decode cJ0_checkIndex_df160 8 = .ok (.pop, 1) := by decide +kernel
theorem dJ0_checkIndex_df160_9 : decode cJ0_checkIndex_df160 9 = .ok (.return_, 1) := by decide +kernel
theorem dJ1_charAt_3b067_0 : decode cJ1_charAt_3b067 0 = .ok (.iload_n 1, 1) := by decide +kernel
theorem dJ1_charAt_3b067_1 : decode cJ1_charAt_3b067 1 = .ok (.aload_n 0, 1) := by decide +kernel
theorem dJ1_charAt_3b067_2 : decode cJ1_charAt_3b067 2 = .ok (.arraylength, 1) := by decide +kernel
theorem dJ1_charAt_3b067_3 : decode cJ1_charAt_3b067 3 = .ok (.invokestatic 9, 3) := by decide +kernel
theorem dJ1_charAt_3b067_6 : decode cJ1_charAt_3b067 6 = .ok (.aload_n 0, 1) := by decide +kernel
theorem dJ1_charAt_3b067_7 : decode cJ1_charAt_3b067 7 = .ok (.iload_n 1, 1) := by decide +kernel
theorem dJ1_charAt_3b067_8 : decode cJ1_charAt_3b067 8 = .ok (.baload, 1) := by decide +kernel
theorem dJ1_charAt_3b067_9 : decode cJ1_charAt_3b067 9 = .ok (.sipush 255, 3) := by decide +kernel
theorem dJ1_charAt_3b067_12 : decode cJ1_charAt_3b067 12 = .ok (.iand, 1) := by decide +kernel
theorem dJ1_charAt_3b067_13 : decode cJ1_charAt_3b067 13 = .ok (.i2c, 1) := by decide +kernel
theorem dJ1_charAt_3b067_14 : decode cJ1_charAt_3b067 14 = .ok (.ireturn, 1) := by decide +kernel
theorem dJ2_getChar_3b067_0 : decode cJ2_getChar_3b067 0 = .ok (.getstatic 44, 3) := by decide +kernel
theorem dJ2_getChar_3b067_3 : decode cJ2_getChar_3b067 3 = .ok (.ifCond .ne 25, 3) := by decide +kernel
theorem dJ2_getChar_3b067_6 : decode cJ2_getChar_3b067 6 = .ok (.iload_n 1, 1) := by decide +kernel
theorem dJ2_getChar_3b067_7 : decode cJ2_getChar_3b067 7 = .ok (.ifCond .lt 11, 3) := by decide +kernel
theorem dJ2_getChar_3b067_10 : decode cJ2_getChar_3b067 10 = .ok (.iload_n 1, 1) := by decide +kernel
theorem dJ2_getChar_3b067_11 : decode cJ2_getChar_3b067 11 = .ok (.aload_n 0, 1) := by decide +kernel
theorem dJ2_getChar_3b067_12 : decode cJ2_getChar_3b067 12 = .ok (.invokestatic 48, 3) := by decide +kernel
theorem dJ2_getChar_3b067_15 : decode cJ2_getChar_3b067 15 = .ok (.if_icmp .lt 13, 3) := by decide +kernel
theorem dJ2_getChar_3b067_18 : decode cJ2_getChar_3b067 18 = .ok (.new 52, 3) := by decide +kernel
theorem dJ2_getChar_3b067_21 : decode cJ2_getChar_3b067 21 = .ok (.dup, 1) := by decide +kernel
theorem dJ2_getChar_3b067_22 : decode cJ2_getChar_3b067 22 = .ok (.ldc 54, 2) := by decide +kernel
theorem dJ2_getChar_3b067_24 : decode cJ2_getChar_3b067 24 = .ok (.invokespecial 56, 3) := by decide +kernel
theorem dJ2_getChar_3b067_27 : decode cJ2_getChar_3b067 27 = .ok (.athrow, 1) := by decide +kernel
theorem dJ2_getChar_3b067_28 : decode cJ2_getChar_3b067 28 = .ok (.iload_n 1, 1) := by decide +kernel
theorem dJ2_getChar_3b067_29 : decode cJ2_getChar_3b067 29 = .ok (.iconst 1, 1) := by decide +kernel
theorem dJ2_getChar_3b067_30 : decode cJ2_getChar_3b067 30 = .ok (.ishl, 1) := by decide +kernel
theorem dJ2_getChar_3b067_31 : decode cJ2_getChar_3b067 31 = .ok (.istore_n 1, 1) := by decide +kernel
theorem dJ2_getChar_3b067_32 : decode cJ2_getChar_3b067 32 = .ok (.aload_n 0, 1) := by decide +kernel
theorem dJ2_getChar_3b067_33 : decode cJ2_getChar_3b067 33 = .ok (.iload_n 1, 1) := by decide +kernel
theorem dJ2_getChar_3b067_34 : decode cJ2_getChar_3b067 34 = .ok (.iinc 1 1, 3) := by decide +kernel
theorem dJ2_getChar_3b067_37 : decode cJ2_getChar_3b067 37 = .ok (.baload, 1) := by decide +kernel
theorem dJ2_getChar_3b067_38 : decode cJ2_getChar_3b067 38 = .ok (.sipush 255, 3) := by decide +kernel
theorem dJ2_getChar_3b067_41 : decode cJ2_getChar_3b067 41 = .ok (.iand, 1) := by decide +kernel
theorem dJ2_getChar_3b067_42 : decode cJ2_getChar_3b067 42 = .ok (.getstatic 59, 3) := by decide +kernel
theorem dJ2_getChar_3b067_45 : decode cJ2_getChar_3b067 45 = .ok (.ishl, 1) := by decide +kernel
theorem dJ2_getChar_3b067_46 : decode cJ2_getChar_3b067 46 = .ok (.aload_n 0, 1) := by decide +kernel
theorem dJ2_getChar_3b067_47 : decode cJ2_getChar_3b067 47 = .ok (.iload_n 1, 1) := by decide +kernel
theorem dJ2_getChar_3b067_48 : decode cJ2_getChar_3b067 48 = .ok (.baload, 1) := by decide +kernel
theorem dJ2_getChar_3b067_49 : decode cJ2_getChar_3b067 49 = .ok (.sipush 255, 3) := by decide +kernel
theorem dJ2_getChar_3b067_52 : decode cJ2_getChar_3b067 52 = .ok (.iand, 1) := by decide +kernel
theorem dJ2_getChar_3b067_53 : decode cJ2_getChar_3b067 53 = .ok (.getstatic 63, 3) := by decide +kernel
theorem dJ2_getChar_3b067_56 : decode cJ2_getChar_3b067 56 = .ok (.ishl, 1) := by decide +kernel
theorem dJ2_getChar_3b067_57 : decode cJ2_getChar_3b067 57 = .ok (.ior, 1) := by decide +kernel
theorem dJ2_getChar_3b067_58 : decode cJ2_getChar_3b067 58 = .ok (.i2c, 1) := by decide +kernel
theorem dJ2_getChar_3b067_59 : decode cJ2_getChar_3b067 59 = .ok (.ireturn, 1) := by decide +kernel
theorem dJ2_length_9d52b_0 : decode cJ2_length_9d52b 0 = .ok (.aload_n 0, 1) := by decide +kernel
theorem dJ2_length_9d52b_1 : decode cJ2_length_9d52b 1 = .ok (.arraylength, 1) := by decide +kernel
theorem dJ2_length_9d52b_2 : decode cJ2_length_9d52b 2 = .ok (.iconst 1, 1) := by decide +kernel
theorem dJ2_length_9d52b_3 : decode cJ2_length_9d52b 3 = .ok (.ishr, 1) := by decide +kernel
theorem dJ2_length_9d52b_4 : decode cJ2_length_9d52b 4 = .ok (.ireturn, 1) := by decide +kernel
theorem dJ2_charAt_3b067_0 : decode cJ2_charAt_3b067 0 = .ok (.iload_n 1, 1) := by decide +kernel
theorem dJ2_charAt_3b067_1 : decode cJ2_charAt_3b067 1 = .ok (.aload_n 0, 1) := by decide +kernel
theorem dJ2_charAt_3b067_2 : decode cJ2_charAt_3b067 2 = .ok (.invokestatic 67, 3) := by decide +kernel
theorem dJ2_charAt_3b067_5 : decode cJ2_charAt_3b067 5 = .ok (.aload_n 0, 1) := by decide +kernel
theorem dJ2_charAt_3b067_6 : decode cJ2_charAt_3b067 6 = .ok (.iload_n 1, 1) := by decide +kernel
theorem dJ2_charAt_3b067_7 : decode cJ2_charAt_3b067 7 = .ok (.invokestatic 71, 3) := by decide +kernel
theorem dJ2_charAt_3b067_10 : decode cJ2_charAt_3b067 10 = .ok (.ireturn, 1) := by decide +kernel
theorem dJ2_checkIndex_2214a_0 : decode cJ2_checkIndex_2214a 0 = .ok (.iload_n 0, 1) := by decide +kernel
theorem dJ2_checkIndex_2214a_1 : decode cJ2_checkIndex_2214a 1 = .ok (.aload_n 1, 1) := by decide +kernel
theorem dJ2_checkIndex_2214a_2 : decode cJ2_checkIndex_2214a 2 = .ok (.invokestatic 48, 3) := by decide +kernel
theorem dJ2_checkIndex_2214a_5 : decode cJ2_checkIndex_2214a 5 = .ok (.invokestatic 414, 3) := by decide +kernel
theorem dJ2_checkIndex_2214a_8 : decode cJ2_checkIndex_2214a 8 = .ok (.return_, 1) := by decide +kernel
theorem dJ7_fill_53178_0 : decode cJ7_fill_53178 0 = .ok (.iconst 0, 1) := by decide +kernel
theorem dJ7_fill_53178_1 : decode cJ7_fill_53178 1 = .ok (.istore_n 2, 1) := by decide +kernel
theorem dJ7_fill_53178_2 : decode cJ7_fill_53178 2 = .ok (.aload_n 0, 1) := by decide +kernel
theorem dJ7_fill_53178_3 : decode cJ7_fill_53178 3 = .ok (.arraylength, 1) := by decide +kernel
theorem dJ7_fill_53178_4 : decode cJ7_fill_53178 4 = .ok (.istore_n 3, 1) := by decide +kernel
theorem dJ7_fill_53178_5 : decode cJ7_fill_53178 5 = .ok (.iload_n 2, 1) := by decide +kernel
theorem dJ7_fill_53178_6 : decode cJ7_fill_53178 6 = .ok (.iload_n 3, 1) := by decide +kernel
theorem dJ7_fill_53178_7 : decode cJ7_fill_53178 7 = .ok (.if_icmp .ge 13, 3) := by decide +kernel
theorem dJ7_fill_53178_10 : decode cJ7_fill_53178 10 = .ok (.aload_n 0, 1) := by decide +kernel
theorem dJ7_fill_53178_11 : decode cJ7_fill_53178 11 = .ok (.iload_n 2, 1) := by decide +kernel
theorem dJ7_fill_53178_12 : decode cJ7_fill_53178 12 = .ok (.iload_n 1, 1) := by decide +kernel
theorem dJ7_fill_53178_13 : decode cJ7_fill_53178 13 = .ok (.iastore, 1) := by decide +kernel
theorem dJ7_fill_53178_14 : decode cJ7_fill_53178 14 = .ok (.iinc 2 1, 3) := by decide +kernel
theorem dJ7_fill_53178_17 : decode cJ7_fill_53178 17 = .ok (.goto (-12), 3) := by decide +kernel
theorem dJ7_fill_53178_20 : decode cJ7_fill_53178 20 = .ok (.return_, 1) := by decide +kernel
theorem dJ3_checkIndex_8e157_0 : decode cJ3_checkIndex_8e157 0 = .ok (.iload_n 0, 1) := by decide +kernel
theorem dJ3_checkIndex_8e157_1 : decode cJ3_checkIndex_8e157 1 = .ok (.ifCond .lt 8, 3) := by decide +kernel
theorem dJ3_checkIndex_8e157_4 : decode cJ3_checkIndex_8e157 4 = .ok (.iload_n 0, 1) := by decide +kernel
theorem dJ3_checkIndex_8e157_5 : decode cJ3_checkIndex_8e157 5 = .ok (.iload_n 1, 1) := by decide +kernel
theorem dJ3_checkIndex_8e157_6 : decode cJ3_checkIndex_8e157 6 = .ok (.if_icmp .lt 10, 3) := by decide +kernel
theorem dJ3_checkIndex_8e157_9 : decode cJ3_checkIndex_8e157 9 = .ok (.aload_n 2, 1) := by decide +kernel
theorem dJ3_checkIndex_8e157_10 : decode cJ3_checkIndex_8e157 10 = .ok (.iload_n 0, 1) := by decide +kernel
theorem dJ3_checkIndex_8e157_11 : decode cJ3_checkIndex_8e157 11 = .ok (.iload_n 1, 1) := by decide +kernel
theorem dJ3_checkIndex_8e157_12 : decode cJ3_checkIndex_8e157 12 = .ok (.invokestatic 95, 3) := by decide +kernel
theorem dJ3_checkIndex_8e157_15 : decode cJ3_checkIndex_8e157 15 = .ok (.athrow, 1) := by decide +kernel
theorem dJ3_checkIndex_8e157_16 : decode cJ3_checkIndex_8e157 16 = .ok (.iload_n 0, 1) := by decide +kernel
theorem dJ3_checkIndex_8e157_17 : decode cJ3_checkIndex_8e157 17 = .ok (.ireturn, 1) := by decide +kernel
