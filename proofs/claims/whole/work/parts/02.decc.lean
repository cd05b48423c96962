theorem dX0_init_0 : decode cX0_init 0 = .ok (.aload_n 0, 1) := by decide +kernel
theorem dX0_init_1 : decode cX0_init 1 = .ok (.invokespecial 1, 3) := by decide +kernel
theorem dX0_init_4 : decode cX0_init 4 = .ok (.aload_n 0, 1) := by decide +kernel
theorem dX0_init_5 : decode cX0_init 5 = .ok (.iconst 3, 1) := by decide +kernel
theorem dX0_init_6 : decode cX0_init 6 = .ok (.newarray .int, 2) := by decide +kernel
theorem dX0_init_8 : decode cX0_init 8 = .ok (.putfield 9, 3) := by decide +kernel
theorem dX0_init_11 : decode cX0_init 11 = .ok (.aload_n 0, 1) := by decide +kernel
theorem dX0_init_12 : decode cX0_init 12 = .ok (.iconst 3, 1) := by decide +kernel
theorem dX0_init_13 : decode cX0_init 13 = .ok (.newarray .int, 2) := by decide +kernel
theorem dX0_init_15 : decode cX0_init 15 = .ok (.putfield 13, 3) := by decide +kernel
theorem dX0_init_18 : decode cX0_init 18 = .ok (.aload_n 0, 1) := by decide +kernel
theorem dX0_init_19 : decode cX0_init 19 = .ok (.iconst 0, 1) := by decide +kernel
theorem dX0_init_20 : decode cX0_init 20 = .ok (.putfield 16, 3) := by decide +kernel
theorem dX0_init_23 : decode cX0_init 23 = .ok (.aload_n 0, 1) := by decide +kernel
theorem dX0_init_24 : decode cX0_init 24 = .ok (.iconst 3, 1) := by decide +kernel
theorem dX0_init_25 : decode cX0_init 25 = .ok (.newarray .boolean, 2) := by decide +kernel
theorem dX0_init_27 : decode cX0_init 27 = .ok (.putfield 20, 3) := by decide +kernel
theorem dX0_init_30 : decode cX0_init 30 = .ok (.aload_n 0, 1) := by decide +kernel
theorem dX0_init_31 : decode cX0_init 31 = .ok (.iconst 3, 1) := by decide +kernel
theorem dX0_init_32 : decode cX0_init 32 = .ok (.newarray .int, 2) := by decide +kernel
theorem dX0_init_34 : decode cX0_init 34 = .ok (.putfield 24, 3) := by decide +kernel
theorem dX0_init_37 : decode cX0_init 37 = .ok (.aload_n 0, 1) := by decide +kernel
theorem dX0_init_38 : decode cX0_init 38 = .ok (.iconst 3, 1) := by decide +kernel
theorem dX0_init_39 : decode cX0_init 39 = .ok (.newarray .int, 2) := by decide +kernel
theorem dX0_init_41 : decode cX0_init 41 = .ok (.putfield 27, 3) := by decide +kernel
theorem dX0_init_44 : decode cX0_init 44 = .ok (.return_, 1) := by decide +kernel
theorem dX0_empty_0 : decode cX0_empty 0 = .ok (.aload_n 0, 1) := by decide +kernel
theorem dX0_empty_1 : decode cX0_empty 1 = .ok (.iconst 0, 1) := by decide +kernel
theorem dX0_empty_2 : decode cX0_empty 2 = .ok (.putfield 16, 3) := by decide +kernel
theorem dX0_empty_5 : decode cX0_empty 5 = .ok (.iconst 0, 1) := by decide +kernel
theorem dX0_empty_6 : decode cX0_empty 6 = .ok (.istore_n 1, 1) := by decide +kernel
theorem dX0_empty_7 : decode cX0_empty 7 = .ok (.iload_n 1, 1) := by decide +kernel
theorem dX0_empty_8 : decode cX0_empty 8 = .ok (.iconst 3, 1) := by decide +kernel
theorem dX0_empty_9 : decode cX0_empty 9 = .ok (.if_icmp .ge 16, 3) := by decide +kernel
theorem dX0_empty_12 : decode cX0_empty 12 = .ok (.aload_n 0, 1) := by decide +kernel
theorem dX0_empty_13 : decode cX0_empty 13 = .ok (.getfield 20, 3) := by decide +kernel
theorem dX0_empty_16 : decode cX0_empty 16 = .ok (.iload_n 1, 1) := by decide +kernel
theorem dX0_empty_17 : decode cX0_empty 17 = .ok (.iconst 0, 1) := by decide +kernel
theorem dX0_empty_18 : decode cX0_empty 18 = .ok (.bastore, 1) := by decide +kernel
theorem dX0_empty_19 : decode cX0_empty 19 = .ok (.iinc 1 1, 3) := by decide +kernel
theorem dX0_empty_22 : decode cX0_empty 22 = .ok (.goto (-15), 3) := by decide +kernel
theorem dX0_empty_25 : decode cX0_empty 25 = .ok (.return_, 1) := by decide +kernel
theorem dX0_doAct_0 : decode cX0_doAct 0 = .ok (.iload_n 1, 1) := by decide +kernel
theorem dX0_doAct_1 : decode cX0_doAct 1 = .ok (.tableswitch 98 0 8 #[51, 67, 75, 75, 75, 75, 81, 87, 92], 51) := by decide +kernel
theorem dX0_doAct_52 : decode cX0_doAct 52 = .ok (.iload_n 3, 1) := by decide +kernel
theorem dX0_doAct_53 : decode cX0_doAct 53 = .ok (.iload_n 2, 1) := by decide +kernel
theorem dX0_doAct_54 : decode cX0_doAct 54 = .ok (.if_icmp .ge 7, 3) := by decide +kernel
theorem dX0_doAct_57 : decode cX0_doAct 57 = .ok (.iconst 5, 1) := by decide +kernel
theorem dX0_doAct_58 : decode cX0_doAct 58 = .ok (.goto 9, 3) := by decide +kernel
theorem dX0_doAct_61 : decode cX0_doAct 61 = .ok (.aload_n 0, 1) := by decide +kernel
theorem dX0_doAct_62 : decode cX0_doAct 62 = .ok (.iload_n 2, 1) := by decide +kernel
theorem dX0_doAct_63 : decode cX0_doAct 63 = .ok (.iload_n 3, 1) := by decide +kernel
theorem dX0_doAct_64 : decode cX0_doAct 64 = .ok (.invokevirtual 30, 3) := by decide +kernel
theorem dX0_doAct_67 : decode cX0_doAct 67 = .ok (.ireturn, 1) := by decide +kernel
theorem dX0_doAct_68 : decode cX0_doAct 68 = .ok (.aload_n 0, 1) := by decide +kernel
theorem dX0_doAct_69 : decode cX0_doAct 69 = .ok (.iload_n 2, 1) := by decide +kernel
theorem dX0_doAct_70 : decode cX0_doAct 70 = .ok (.aload 4, 2) := by decide +kernel
theorem dX0_doAct_72 : decode cX0_doAct 72 = .ok (.invokevirtual 34, 3) := by decide +kernel
theorem dX0_doAct_75 : decode cX0_doAct 75 = .ok (.ireturn, 1) := by decide +kernel
theorem dX0_doAct_76 : decode cX0_doAct 76 = .ok (.aload_n 0, 1) := by decide +kernel
theorem dX0_doAct_77 : decode cX0_doAct 77 = .ok (.iload_n 1, 1) := by decide +kernel
theorem dX0_doAct_78 : decode cX0_doAct 78 = .ok (.invokevirtual 38, 3) := by decide +kernel
theorem dX0_doAct_81 : decode cX0_doAct 81 = .ok (.ireturn, 1) := by decide +kernel
theorem dX0_doAct_82 : decode cX0_doAct 82 = .ok (.aload_n 0, 1) := by decide +kernel
theorem dX0_doAct_83 : decode cX0_doAct 83 = .ok (.iload_n 2, 1) := by decide +kernel
theorem dX0_doAct_84 : decode cX0_doAct 84 = .ok (.invokevirtual 42, 3) := by decide +kernel
theorem dX0_doAct_87 : decode cX0_doAct 87 = .ok (.ireturn, 1) := by decide +kernel
theorem dX0_doAct_88 : decode cX0_doAct 88 = .ok (.aload_n 0, 1) := by decide +kernel
theorem dX0_doAct_89 : decode cX0_doAct 89 = .ok (.invokevirtual 45, 3) := by decide +kernel
theorem dX0_doAct_92 : decode cX0_doAct 92 = .ok (.ireturn, 1) := by decide +kernel
theorem dX0_doAct_93 : decode cX0_doAct 93 = .ok (.aload_n 0, 1) := by decide +kernel
theorem dX0_doAct_94 : decode cX0_doAct 94 = .ok (.iload_n 2, 1) := by decide +kernel
theorem dX0_doAct_95 : decode cX0_doAct 95 = .ok (.invokevirtual 49, 3) := by decide +kernel
theorem dX0_doAct_98 : decode cX0_doAct 98 = .ok (.ireturn, 1) := by decide +kernel
theorem dX0_doAct_99 : decode cX0_doAct 99 = .ok (.aload_n 0, 1) := by decide +kernel
theorem dX0_doAct_100 : decode cX0_doAct 100 = .ok (.iload_n 2, 1) := by decide +kernel
theorem dX0_doAct_101 : decode cX0_doAct 101 = .ok (.invokevirtual 52, 3) := by decide +kernel
theorem dX0_doAct_104 : decode cX0_doAct 104 = .ok (.ireturn, 1) := by decide +kernel
theorem dX0_giveAnswer_0 : decode cX0_giveAnswer 0 = .ok (.aload_n 0, 1) := by decide +kernel
theorem dX0_giveAnswer_1 : decode cX0_giveAnswer 1 = .ok (.getfield 16, 3) := by decide +kernel
theorem dX0_giveAnswer_4 : decode cX0_giveAnswer 4 = .ok (.iconst 1, 1) := by decide +kernel
theorem dX0_giveAnswer_5 : decode cX0_giveAnswer 5 = .ok (.if_icmp .ge 5, 3) := by decide +kernel
theorem dX0_giveAnswer_8 : decode cX0_giveAnswer 8 = .ok (.iconst 2, 1) := by decide +kernel
theorem dX0_giveAnswer_9 : decode cX0_giveAnswer 9 = .ok (.ireturn, 1) := by decide +kernel
theorem dX0_giveAnswer_10 : decode cX0_giveAnswer 10 = .ok (.aload_n 1, 1) := by decide +kernel
theorem dX0_giveAnswer_11 : decode cX0_giveAnswer 11 = .ok (.aload_n 0, 1) := by decide +kernel
theorem dX0_giveAnswer_12 : decode cX0_giveAnswer 12 = .ok (.getfield 9, 3) := by decide +kernel
theorem dX0_giveAnswer_15 : decode cX0_giveAnswer 15 = .ok (.aload_n 0, 1) := by decide +kernel
theorem dX0_giveAnswer_16 : decode cX0_giveAnswer 16 = .ok (.getfield 16, 3) := by decide +kernel
theorem dX0_giveAnswer_19 : decode cX0_giveAnswer 19 = .ok (.iconst 1, 1) := by decide +kernel
theorem dX0_giveAnswer_20 : decode cX0_giveAnswer 20 = .ok (.isub, 1) := by decide +kernel
theorem dX0_giveAnswer_21 : decode cX0_giveAnswer 21 = .ok (.iaload, 1) := by decide +kernel
theorem dX0_giveAnswer_22 : decode cX0_giveAnswer 22 = .ok (.putfield 55, 3) := by decide +kernel
theorem dX0_giveAnswer_25 : decode cX0_giveAnswer 25 = .ok (.aload_n 1, 1) := by decide +kernel
theorem dX0_giveAnswer_26 : decode cX0_giveAnswer 26 = .ok (.aload_n 0, 1) := by decide +kernel
theorem dX0_giveAnswer_27 : decode cX0_giveAnswer 27 = .ok (.getfield 13, 3) := by decide +kernel
theorem dX0_giveAnswer_30 : decode cX0_giveAnswer 30 = .ok (.aload_n 0, 1) := by decide +kernel
theorem dX0_giveAnswer_31 : decode cX0_giveAnswer 31 = .ok (.getfield 16, 3) := by decide +kernel
theorem dX0_giveAnswer_34 : decode cX0_giveAnswer 34 = .ok (.iconst 1, 1) := by decide +kernel
theorem dX0_giveAnswer_35 : decode cX0_giveAnswer 35 = .ok (.isub, 1) := by decide +kernel
theorem dX0_giveAnswer_36 : decode cX0_giveAnswer 36 = .ok (.iaload, 1) := by decide +kernel
theorem dX0_giveAnswer_37 : decode cX0_giveAnswer 37 = .ok (.putfield 60, 3) := by decide +kernel
theorem dX0_giveAnswer_40 : decode cX0_giveAnswer 40 = .ok (.iconst 0, 1) := by decide +kernel
theorem dX0_giveAnswer_41 : decode cX0_giveAnswer 41 = .ok (.ireturn, 1) := by decide +kernel
theorem dX0_push_0 : decode cX0_push 0 = .ok (.aload_n 0, 1) := by decide +kernel
theorem dX0_push_1 : decode cX0_push 1 = .ok (.getfield 16, 3) := by decide +kernel
theorem dX0_push_4 : decode cX0_push 4 = .ok (.iconst 3, 1) := by decide +kernel
theorem dX0_push_5 : decode cX0_push 5 = .ok (.if_icmp .lt 5, 3) := by decide +kernel
theorem dX0_push_8 : decode cX0_push 8 = .ok (.iconst 2, 1) := by decide +kernel
theorem dX0_push_9 : decode cX0_push 9 = .ok (.ireturn, 1) := by decide +kernel
theorem dX0_push_10 : decode cX0_push 10 = .ok (.aload_n 0, 1) := by decide +kernel
theorem dX0_push_11 : decode cX0_push 11 = .ok (.getfield 9, 3) := by decide +kernel
theorem dX0_push_14 : decode cX0_push 14 = .ok (.aload_n 0, 1) := by decide +kernel
theorem dX0_push_15 : decode cX0_push 15 = .ok (.getfield 16, 3) := by decide +kernel
theorem dX0_push_18 : decode cX0_push 18 = .ok (.iload_n 1, 1) := by decide +kernel
theorem dX0_push_19 : decode cX0_push 19 = .ok (.iastore, 1) := by decide +kernel
theorem dX0_push_20 : decode cX0_push 20 = .ok (.aload_n 0, 1) := by decide +kernel
theorem dX0_push_21 : decode cX0_push 21 = .ok (.getfield 13, 3) := by decide +kernel
theorem dX0_push_24 : decode cX0_push 24 = .ok (.aload_n 0, 1) := by decide +kernel
theorem dX0_push_25 : decode cX0_push 25 = .ok (.getfield 16, 3) := by decide +kernel
theorem dX0_push_28 : decode cX0_push 28 = .ok (.iload_n 2, 1) := by decide +kernel
theorem dX0_push_29 : decode cX0_push 29 = .ok (.iastore, 1) := by decide +kernel
theorem dX0_push_30 : decode cX0_push 30 = .ok (.aload_n 0, 1) := by decide +kernel
theorem dX0_push_31 : decode cX0_push 31 = .ok (.dup, 1) := by decide +kernel
theorem dX0_push_32 : decode cX0_push 32 = .ok (.getfield 16, 3) := by decide +kernel
theorem dX0_push_35 : decode cX0_push 35 = .ok (.iconst 1, 1) := by decide +kernel
theorem dX0_push_36 : decode cX0_push 36 = .ok (.iadd, 1) := by decide +kernel
theorem dX0_push_37 : decode cX0_push 37 = .ok (.putfield 16, 3) := by decide +kernel
theorem dX0_push_40 : decode cX0_push 40 = .ok (.iconst 0, 1) := by decide +kernel
theorem dX0_push_41 : decode cX0_push 41 = .ok (.ireturn, 1) := by decide +kernel
theorem dX0_pushFact_0 : decode cX0_pushFact 0 = .ok (.iload_n 1, 1) := by decide +kernel
theorem dX0_pushFact_1 : decode cX0_pushFact 1 = .ok (.invokestatic 63, 3) := by decide +kernel
theorem dX0_pushFact_4 : decode cX0_pushFact 4 = .ok (.ifCond .ne 5, 3) := by decide +kernel
theorem dX0_pushFact_7 : decode cX0_pushFact 7 = .ok (.iconst 2, 1) := by decide +kernel
theorem dX0_pushFact_8 : decode cX0_pushFact 8 = .ok (.ireturn, 1) := by decide +kernel
theorem dX0_pushFact_9 : decode cX0_pushFact 9 = .ok (.aload_n 2, 1) := by decide +kernel
theorem dX0_pushFact_10 : decode cX0_pushFact 10 = .ok (.getfield 69, 3) := by decide +kernel
theorem dX0_pushFact_13 : decode cX0_pushFact 13 = .ok (.iload_n 1, 1) := by decide +kernel
theorem dX0_pushFact_14 : decode cX0_pushFact 14 = .ok (.baload, 1) := by decide +kernel
theorem dX0_pushFact_15 : decode cX0_pushFact 15 = .ok (.ifCond .eq 22, 3) := by decide +kernel
theorem dX0_pushFact_18 : decode cX0_pushFact 18 = .ok (.aload_n 0, 1) := by decide +kernel
theorem dX0_pushFact_19 : decode cX0_pushFact 19 = .ok (.aload_n 2, 1) := by decide +kernel
theorem dX0_pushFact_20 : decode cX0_pushFact 20 = .ok (.getfield 74, 3) := by decide +kernel
theorem dX0_pushFact_23 : decode cX0_pushFact 23 = .ok (.iload_n 1, 1) := by decide +kernel
theorem dX0_pushFact_24 : decode cX0_pushFact 24 = .ok (.iaload, 1) := by decide +kernel
theorem dX0_pushFact_25 : decode cX0_pushFact 25 = .ok (.aload_n 2, 1) := by decide +kernel
theorem dX0_pushFact_26 : decode cX0_pushFact 26 = .ok (.getfield 75, 3) := by decide +kernel
theorem dX0_pushFact_29 : decode cX0_pushFact 29 = .ok (.iload_n 1, 1) := by decide +kernel
theorem dX0_pushFact_30 : decode cX0_pushFact 30 = .ok (.iaload, 1) := by decide +kernel
theorem dX0_pushFact_31 : decode cX0_pushFact 31 = .ok (.invokevirtual 30, 3) := by decide +kernel
theorem dX0_pushFact_34 : decode cX0_pushFact 34 = .ok (.goto 4, 3) := by decide +kernel
theorem dX0_pushFact_37 : decode cX0_pushFact 37 = .ok (.iconst 1, 1) := by decide +kernel
theorem dX0_pushFact_38 : decode cX0_pushFact 38 = .ok (.ireturn, 1) := by decide +kernel
theorem dX0_joinUpperTwo_0 : decode cX0_joinUpperTwo 0 = .ok (.aload_n 0, 1) := by decide +kernel
theorem dX0_joinUpperTwo_1 : decode cX0_joinUpperTwo 1 = .ok (.getfield 16, 3) := by decide +kernel
theorem dX0_joinUpperTwo_4 : decode cX0_joinUpperTwo 4 = .ok (.iconst 2, 1) := by decide +kernel
theorem dX0_joinUpperTwo_5 : decode cX0_joinUpperTwo 5 = .ok (.if_icmp .ge 5, 3) := by decide +kernel
theorem dX0_joinUpperTwo_8 : decode cX0_joinUpperTwo 8 = .ok (.iconst 2, 1) := by decide +kernel
theorem dX0_joinUpperTwo_9 : decode cX0_joinUpperTwo 9 = .ok (.ireturn, 1) := by decide +kernel
theorem dX0_joinUpperTwo_10 : decode cX0_joinUpperTwo 10 = .ok (.aload_n 0, 1) := by decide +kernel
theorem dX0_joinUpperTwo_11 : decode cX0_joinUpperTwo 11 = .ok (.getfield 16, 3) := by decide +kernel
theorem dX0_joinUpperTwo_14 : decode cX0_joinUpperTwo 14 = .ok (.iconst 2, 1) := by decide +kernel
theorem dX0_joinUpperTwo_15 : decode cX0_joinUpperTwo 15 = .ok (.isub, 1) := by decide +kernel
theorem dX0_joinUpperTwo_16 : decode cX0_joinUpperTwo 16 = .ok (.istore_n 2, 1) := by decide +kernel
theorem dX0_joinUpperTwo_17 : decode cX0_joinUpperTwo 17 = .ok (.aload_n 0, 1) := by decide +kernel
theorem dX0_joinUpperTwo_18 : decode cX0_joinUpperTwo 18 = .ok (.getfield 16, 3) := by decide +kernel
theorem dX0_joinUpperTwo_21 : decode cX0_joinUpperTwo 21 = .ok (.iconst 1, 1) := by decide +kernel
theorem dX0_joinUpperTwo_22 : decode cX0_joinUpperTwo 22 = .ok (.isub, 1) := by decide +kernel
theorem dX0_joinUpperTwo_23 : decode cX0_joinUpperTwo 23 = .ok (.istore_n 3, 1) := by decide +kernel
theorem dX0_joinUpperTwo_24 : decode cX0_joinUpperTwo 24 = .ok (.aload_n 0, 1) := by decide +kernel
theorem dX0_joinUpperTwo_25 : decode cX0_joinUpperTwo 25 = .ok (.iload_n 2, 1) := by decide +kernel
theorem dX0_joinUpperTwo_26 : decode cX0_joinUpperTwo 26 = .ok (.putfield 16, 3) := by decide +kernel
theorem dX0_joinUpperTwo_29 : decode cX0_joinUpperTwo 29 = .ok (.iload_n 1, 1) := by decide +kernel
theorem dX0_joinUpperTwo_30 : decode cX0_joinUpperTwo 30 = .ok (.tableswitch 167 2 4 #[26, 63, 100], 26) := by decide +kernel
theorem dX0_joinUpperTwo_56 : decode cX0_joinUpperTwo 56 = .ok (.aload_n 0, 1) := by decide +kernel
theorem dX0_joinUpperTwo_57 : decode cX0_joinUpperTwo 57 = .ok (.aload_n 0, 1) := by decide +kernel
theorem dX0_joinUpperTwo_58 : decode cX0_joinUpperTwo 58 = .ok (.getfield 9, 3) := by decide +kernel
theorem dX0_joinUpperTwo_61 : decode cX0_joinUpperTwo 61 = .ok (.iload_n 2, 1) := by decide +kernel
theorem dX0_joinUpperTwo_62 : decode cX0_joinUpperTwo 62 = .ok (.iaload, 1) := by decide +kernel
theorem dX0_joinUpperTwo_63 : decode cX0_joinUpperTwo 63 = .ok (.aload_n 0, 1) := by decide +kernel
theorem dX0_joinUpperTwo_64 : decode cX0_joinUpperTwo 64 = .ok (.getfield 9, 3) := by decide +kernel
theorem dX0_joinUpperTwo_67 : decode cX0_joinUpperTwo 67 = .ok (.iload_n 3, 1) := by decide +kernel
theorem dX0_joinUpperTwo_68 : decode cX0_joinUpperTwo 68 = .ok (.iaload, 1) := by decide +kernel
theorem dX0_joinUpperTwo_69 : decode cX0_joinUpperTwo 69 = .ok (.iadd, 1) := by decide +kernel
theorem dX0_joinUpperTwo_70 : decode cX0_joinUpperTwo 70 = .ok (.invokestatic 76, 3) := by decide +kernel
theorem dX0_joinUpperTwo_73 : decode cX0_joinUpperTwo 73 = .ok (.aload_n 0, 1) := by decide +kernel
theorem dX0_joinUpperTwo_74 : decode cX0_joinUpperTwo 74 = .ok (.getfield 13, 3) := by decide +kernel
theorem dX0_joinUpperTwo_77 : decode cX0_joinUpperTwo 77 = .ok (.iload_n 2, 1) := by decide +kernel
theorem dX0_joinUpperTwo_78 : decode cX0_joinUpperTwo 78 = .ok (.iaload, 1) := by decide +kernel
theorem dX0_joinUpperTwo_79 : decode cX0_joinUpperTwo 79 = .ok (.aload_n 0, 1) := by decide +kernel
theorem dX0_joinUpperTwo_80 : decode cX0_joinUpperTwo 80 = .ok (.getfield 13, 3) := by decide +kernel
theorem dX0_joinUpperTwo_83 : decode cX0_joinUpperTwo 83 = .ok (.iload_n 3, 1) := by decide +kernel
theorem dX0_joinUpperTwo_84 : decode cX0_joinUpperTwo 84 = .ok (.iaload, 1) := by decide +kernel
theorem dX0_joinUpperTwo_85 : decode cX0_joinUpperTwo 85 = .ok (.iadd, 1) := by decide +kernel
theorem dX0_joinUpperTwo_86 : decode cX0_joinUpperTwo 86 = .ok (.invokestatic 76, 3) := by decide +kernel
theorem dX0_joinUpperTwo_89 : decode cX0_joinUpperTwo 89 = .ok (.invokevirtual 30, 3) := by decide +kernel
theorem dX0_joinUpperTwo_92 : decode cX0_joinUpperTwo 92 = .ok (.ireturn, 1) := by decide +kernel
theorem dX0_joinUpperTwo_93 : decode cX0_joinUpperTwo 93 = .ok (.aload_n 0, 1) := by decide +kernel
theorem dX0_joinUpperTwo_94 : decode cX0_joinUpperTwo 94 = .ok (.aload_n 0, 1) := by decide +kernel
theorem dX0_joinUpperTwo_95 : decode cX0_joinUpperTwo 95 = .ok (.getfield 9, 3) := by decide +kernel
theorem dX0_joinUpperTwo_98 : decode cX0_joinUpperTwo 98 = .ok (.iload_n 2, 1) := by decide +kernel
theorem dX0_joinUpperTwo_99 : decode cX0_joinUpperTwo 99 = .ok (.iaload, 1) := by decide +kernel
theorem dX0_joinUpperTwo_100 : decode cX0_joinUpperTwo 100 = .ok (.aload_n 0, 1) := by decide +kernel
theorem dX0_joinUpperTwo_101 : decode cX0_joinUpperTwo 101 = .ok (.getfield 13, 3) := by decide +kernel
theorem dX0_joinUpperTwo_104 : decode cX0_joinUpperTwo 104 = .ok (.iload_n 3, 1) := by decide +kernel
theorem dX0_joinUpperTwo_105 : decode cX0_joinUpperTwo 105 = .ok (.iaload, 1) := by decide +kernel
theorem dX0_joinUpperTwo_106 : decode cX0_joinUpperTwo 106 = .ok (.isub, 1) := by decide +kernel
theorem dX0_joinUpperTwo_107 : decode cX0_joinUpperTwo 107 = .ok (.invokestatic 76, 3) := by decide +kernel
theorem dX0_joinUpperTwo_110 : decode cX0_joinUpperTwo 110 = .ok (.aload_n 0, 1) := by decide +kernel
theorem dX0_joinUpperTwo_111 : decode cX0_joinUpperTwo 111 = .ok (.getfield 13, 3) := by decide +kernel
theorem dX0_joinUpperTwo_114 : decode cX0_joinUpperTwo 114 = .ok (.iload_n 2, 1) := by decide +kernel
theorem dX0_joinUpperTwo_115 : decode cX0_joinUpperTwo 115 = .ok (.iaload, 1) := by decide +kernel
theorem dX0_joinUpperTwo_116 : decode cX0_joinUpperTwo 116 = .ok (.aload_n 0, 1) := by decide +kernel
theorem dX0_joinUpperTwo_117 : decode cX0_joinUpperTwo 117 = .ok (.getfield 9, 3) := by decide +kernel
theorem dX0_joinUpperTwo_120 : decode cX0_joinUpperTwo 120 = .ok (.iload_n 3, 1) := by decide +kernel
theorem dX0_joinUpperTwo_121 : decode cX0_joinUpperTwo 121 = .ok (.iaload, 1) := by decide +kernel
theorem dX0_joinUpperTwo_122 : decode cX0_joinUpperTwo 122 = .ok (.isub, 1) := by decide +kernel
theorem dX0_joinUpperTwo_123 : decode cX0_joinUpperTwo 123 = .ok (.invokestatic 76, 3) := by decide +kernel
theorem dX0_joinUpperTwo_126 : decode cX0_joinUpperTwo 126 = .ok (.invokevirtual 30, 3) := by decide +kernel
theorem dX0_joinUpperTwo_129 : decode cX0_joinUpperTwo 129 = .ok (.ireturn, 1) := by decide +kernel
theorem dX0_joinUpperTwo_130 : decode cX0_joinUpperTwo 130 = .ok (.aload_n 0, 1) := by decide +kernel
theorem dX0_joinUpperTwo_131 : decode cX0_joinUpperTwo 131 = .ok (.getfield 9, 3) := by decide +kernel
theorem dX0_joinUpperTwo_134 : decode cX0_joinUpperTwo 134 = .ok (.iload_n 2, 1) := by decide +kernel
theorem dX0_joinUpperTwo_135 : decode cX0_joinUpperTwo 135 = .ok (.iaload, 1) := by decide +kernel
theorem dX0_joinUpperTwo_136 : decode cX0_joinUpperTwo 136 = .ok (.aload_n 0, 1) := by decide +kernel
theorem dX0_joinUpperTwo_137 : decode cX0_joinUpperTwo 137 = .ok (.getfield 13, 3) := by decide +kernel
theorem dX0_joinUpperTwo_140 : decode cX0_joinUpperTwo 140 = .ok (.iload_n 3, 1) := by decide +kernel
theorem dX0_joinUpperTwo_141 : decode cX0_joinUpperTwo 141 = .ok (.iaload, 1) := by decide +kernel
theorem dX0_joinUpperTwo_142 : decode cX0_joinUpperTwo 142 = .ok (.if_icmp .gt 18, 3) := by decide +kernel
theorem dX0_joinUpperTwo_145 : decode cX0_joinUpperTwo 145 = .ok (.aload_n 0, 1) := by decide +kernel
theorem dX0_joinUpperTwo_146 : decode cX0_joinUpperTwo 146 = .ok (.getfield 9, 3) := by decide +kernel
theorem dX0_joinUpperTwo_149 : decode cX0_joinUpperTwo 149 = .ok (.iload_n 3, 1) := by decide +kernel
theorem dX0_joinUpperTwo_150 : decode cX0_joinUpperTwo 150 = .ok (.iaload, 1) := by decide +kernel
theorem dX0_joinUpperTwo_151 : decode cX0_joinUpperTwo 151 = .ok (.aload_n 0, 1) := by decide +kernel
theorem dX0_joinUpperTwo_152 : decode cX0_joinUpperTwo 152 = .ok (.getfield 13, 3) := by decide +kernel
theorem dX0_joinUpperTwo_155 : decode cX0_joinUpperTwo 155 = .ok (.iload_n 2, 1) := by decide +kernel
theorem dX0_joinUpperTwo_156 : decode cX0_joinUpperTwo 156 = .ok (.iaload, 1) := by decide +kernel
theorem dX0_joinUpperTwo_157 : decode cX0_joinUpperTwo 157 = .ok (.if_icmp .le 5, 3) := by decide +kernel
theorem dX0_joinUpperTwo_160 : decode cX0_joinUpperTwo 160 = .ok (.iconst 5, 1) := by decide +kernel
theorem dX0_joinUpperTwo_161 : decode cX0_joinUpperTwo 161 = .ok (.ireturn, 1) := by decide +kernel
theorem dX0_joinUpperTwo_162 : decode cX0_joinUpperTwo 162 = .ok (.aload_n 0, 1) := by decide +kernel
theorem dX0_joinUpperTwo_163 : decode cX0_joinUpperTwo 163 = .ok (.aload_n 0, 1) := by decide +kernel
theorem dX0_joinUpperTwo_164 : decode cX0_joinUpperTwo 164 = .ok (.getfield 9, 3) := by decide +kernel
theorem dX0_joinUpperTwo_167 : decode cX0_joinUpperTwo 167 = .ok (.iload_n 2, 1) := by decide +kernel
theorem dX0_joinUpperTwo_168 : decode cX0_joinUpperTwo 168 = .ok (.iaload, 1) := by decide +kernel
theorem dX0_joinUpperTwo_169 : decode cX0_joinUpperTwo 169 = .ok (.aload_n 0, 1) := by decide +kernel
theorem dX0_joinUpperTwo_170 : decode cX0_joinUpperTwo 170 = .ok (.getfield 9, 3) := by decide +kernel
theorem dX0_joinUpperTwo_173 : decode cX0_joinUpperTwo 173 = .ok (.iload_n 3, 1) := by decide +kernel
theorem dX0_joinUpperTwo_174 : decode cX0_joinUpperTwo 174 = .ok (.iaload, 1) := by decide +kernel
theorem dX0_joinUpperTwo_175 : decode cX0_joinUpperTwo 175 = .ok (.invokestatic 79, 3) := by decide +kernel
theorem dX0_joinUpperTwo_178 : decode cX0_joinUpperTwo 178 = .ok (.aload_n 0, 1) := by decide +kernel
theorem dX0_joinUpperTwo_179 : decode cX0_joinUpperTwo 179 = .ok (.getfield 13, 3) := by decide +kernel
theorem dX0_joinUpperTwo_182 : decode cX0_joinUpperTwo 182 = .ok (.iload_n 2, 1) := by decide +kernel
theorem dX0_joinUpperTwo_183 : decode cX0_joinUpperTwo 183 = .ok (.iaload, 1) := by decide +kernel
theorem dX0_joinUpperTwo_184 : decode cX0_joinUpperTwo 184 = .ok (.aload_n 0, 1) := by decide +kernel
theorem dX0_joinUpperTwo_185 : decode cX0_joinUpperTwo 185 = .ok (.getfield 13, 3) := by decide +kernel
theorem dX0_joinUpperTwo_188 : decode cX0_joinUpperTwo 188 = .ok (.iload_n 3, 1) := by decide +kernel
theorem dX0_joinUpperTwo_189 : decode cX0_joinUpperTwo 189 = .ok (.iaload, 1) := by decide +kernel
theorem dX0_joinUpperTwo_190 : decode cX0_joinUpperTwo 190 = .ok (.invokestatic 84, 3) := by decide +kernel
theorem dX0_joinUpperTwo_193 : decode cX0_joinUpperTwo 193 = .ok (.invokevirtual 30, 3) := by decide +kernel
theorem dX0_joinUpperTwo_196 : decode cX0_joinUpperTwo 196 = .ok (.ireturn, 1) := by decide +kernel
theorem dX0_joinUpperTwo_197 : decode cX0_joinUpperTwo 197 = .ok (.aload_n 0, 1) := by decide +kernel
theorem dX0_joinUpperTwo_198 : decode cX0_joinUpperTwo 198 = .ok (.aload_n 0, 1) := by decide +kernel
theorem dX0_joinUpperTwo_199 : decode cX0_joinUpperTwo 199 = .ok (.getfield 9, 3) := by decide +kernel
theorem dX0_joinUpperTwo_202 : decode cX0_joinUpperTwo 202 = .ok (.iload_n 2, 1) := by decide +kernel
theorem dX0_joinUpperTwo_203 : decode cX0_joinUpperTwo 203 = .ok (.iaload, 1) := by decide +kernel
theorem dX0_joinUpperTwo_204 : decode cX0_joinUpperTwo 204 = .ok (.aload_n 0, 1) := by decide +kernel
theorem dX0_joinUpperTwo_205 : decode cX0_joinUpperTwo 205 = .ok (.getfield 9, 3) := by decide +kernel
theorem dX0_joinUpperTwo_208 : decode cX0_joinUpperTwo 208 = .ok (.iload_n 3, 1) := by decide +kernel
theorem dX0_joinUpperTwo_209 : decode cX0_joinUpperTwo 209 = .ok (.iaload, 1) := by decide +kernel
theorem dX0_joinUpperTwo_210 : decode cX0_joinUpperTwo 210 = .ok (.invokestatic 84, 3) := by decide +kernel
theorem dX0_joinUpperTwo_213 : decode cX0_joinUpperTwo 213 = .ok (.aload_n 0, 1) := by decide +kernel
theorem dX0_joinUpperTwo_214 : decode cX0_joinUpperTwo 214 = .ok (.getfield 13, 3) := by decide +kernel
theorem dX0_joinUpperTwo_217 : decode cX0_joinUpperTwo 217 = .ok (.iload_n 2, 1) := by decide +kernel
theorem dX0_joinUpperTwo_218 : decode cX0_joinUpperTwo 218 = .ok (.iaload, 1) := by decide +kernel
theorem dX0_joinUpperTwo_219 : decode cX0_joinUpperTwo 219 = .ok (.aload_n 0, 1) := by decide +kernel
theorem dX0_joinUpperTwo_220 : decode cX0_joinUpperTwo 220 = .ok (.getfield 13, 3) := by decide +kernel
theorem dX0_joinUpperTwo_223 : decode cX0_joinUpperTwo 223 = .ok (.iload_n 3, 1) := by decide +kernel
theorem dX0_joinUpperTwo_224 : decode cX0_joinUpperTwo 224 = .ok (.iaload, 1) := by decide +kernel
theorem dX0_joinUpperTwo_225 : decode cX0_joinUpperTwo 225 = .ok (.invokestatic 79, 3) := by decide +kernel
theorem dX0_joinUpperTwo_228 : decode cX0_joinUpperTwo 228 = .ok (.invokevirtual 30, 3) := by decide +kernel
theorem dX0_joinUpperTwo_231 : decode cX0_joinUpperTwo 231 = .ok (.ireturn, 1) := by decide +kernel
theorem dX0_divideUpper_0 : decode cX0_divideUpper 0 = .ok (.aload_n 0, 1) := by decide +kernel
theorem dX0_divideUpper_1 : decode cX0_divideUpper 1 = .ok (.getfield 16, 3) := by decide +kernel
theorem dX0_divideUpper_4 : decode cX0_divideUpper 4 = .ok (.iconst 1, 1) := by decide +kernel
theorem dX0_divideUpper_5 : decode cX0_divideUpper 5 = .ok (.if_icmp .ge 5, 3) := by decide +kernel
theorem dX0_divideUpper_8 : decode cX0_divideUpper 8 = .ok (.iconst 2, 1) := by decide +kernel
theorem dX0_divideUpper_9 : decode cX0_divideUpper 9 = .ok (.ireturn, 1) := by decide +kernel
theorem dX0_divideUpper_10 : decode cX0_divideUpper 10 = .ok (.iload_n 1, 1) := by decide +kernel
theorem dX0_divideUpper_11 : decode cX0_divideUpper 11 = .ok (.ifCond .ne 5, 3) := by decide +kernel
theorem dX0_divideUpper_14 : decode cX0_divideUpper 14 = .ok (.iconst 3, 1) := by decide +kernel
theorem dX0_divideUpper_15 : decode cX0_divideUpper 15 = .ok (.ireturn, 1) := by decide +kernel
theorem dX0_divideUpper_16 : decode cX0_divideUpper 16 = .ok (.aload_n 0, 1) := by decide +kernel
theorem dX0_divideUpper_17 : decode cX0_divideUpper 17 = .ok (.getfield 16, 3) := by decide +kernel
theorem dX0_divideUpper_20 : decode cX0_divideUpper 20 = .ok (.iconst 1, 1) := by decide +kernel
theorem dX0_divideUpper_21 : decode cX0_divideUpper 21 = .ok (.isub, 1) := by decide +kernel
theorem dX0_divideUpper_22 : decode cX0_divideUpper 22 = .ok (.istore_n 2, 1) := by decide +kernel
theorem dX0_divideUpper_23 : decode cX0_divideUpper 23 = .ok (.aload_n 0, 1) := by decide +kernel
theorem dX0_divideUpper_24 : decode cX0_divideUpper 24 = .ok (.getfield 9, 3) := by decide +kernel
theorem dX0_divideUpper_27 : decode cX0_divideUpper 27 = .ok (.iload_n 2, 1) := by decide +kernel
theorem dX0_divideUpper_28 : decode cX0_divideUpper 28 = .ok (.iaload, 1) := by decide +kernel
theorem dX0_divideUpper_29 : decode cX0_divideUpper 29 = .ok (.iload_n 1, 1) := by decide +kernel
theorem dX0_divideUpper_30 : decode cX0_divideUpper 30 = .ok (.idiv, 1) := by decide +kernel
theorem dX0_divideUpper_31 : decode cX0_divideUpper 31 = .ok (.istore_n 3, 1) := by decide +kernel
theorem dX0_divideUpper_32 : decode cX0_divideUpper 32 = .ok (.aload_n 0, 1) := by decide +kernel
theorem dX0_divideUpper_33 : decode cX0_divideUpper 33 = .ok (.getfield 13, 3) := by decide +kernel
theorem dX0_divideUpper_36 : decode cX0_divideUpper 36 = .ok (.iload_n 2, 1) := by decide +kernel
theorem dX0_divideUpper_37 : decode cX0_divideUpper 37 = .ok (.iaload, 1) := by decide +kernel
theorem dX0_divideUpper_38 : decode cX0_divideUpper 38 = .ok (.iload_n 1, 1) := by decide +kernel
theorem dX0_divideUpper_39 : decode cX0_divideUpper 39 = .ok (.idiv, 1) := by decide +kernel
theorem dX0_divideUpper_40 : decode cX0_divideUpper 40 = .ok (.istore 4, 2) := by decide +kernel
theorem dX0_divideUpper_42 : decode cX0_divideUpper 42 = .ok (.aload_n 0, 1) := by decide +kernel
theorem dX0_divideUpper_43 : decode cX0_divideUpper 43 = .ok (.getfield 9, 3) := by decide +kernel
theorem dX0_divideUpper_46 : decode cX0_divideUpper 46 = .ok (.iload_n 2, 1) := by decide +kernel
theorem dX0_divideUpper_47 : decode cX0_divideUpper 47 = .ok (.iload_n 3, 1) := by decide +kernel
theorem dX0_divideUpper_48 : decode cX0_divideUpper 48 = .ok (.iload 4, 2) := by decide +kernel
theorem dX0_divideUpper_50 : decode cX0_divideUpper 50 = .ok (.invokestatic 84, 3) := by decide +kernel
theorem dX0_divideUpper_53 : decode cX0_divideUpper 53 = .ok (.iastore, 1) := by decide +kernel
theorem dX0_divideUpper_54 : decode cX0_divideUpper 54 = .ok (.aload_n 0, 1) := by decide +kernel
theorem dX0_divideUpper_55 : decode cX0_divideUpper 55 = .ok (.getfield 13, 3) := by decide +kernel
theorem dX0_divideUpper_58 : decode cX0_divideUpper 58 = .ok (.iload_n 2, 1) := by decide +kernel
theorem dX0_divideUpper_59 : decode cX0_divideUpper 59 = .ok (.iload_n 3, 1) := by decide +kernel
theorem dX0_divideUpper_60 : decode cX0_divideUpper 60 = .ok (.iload 4, 2) := by decide +kernel
theorem dX0_divideUpper_62 : decode cX0_divideUpper 62 = .ok (.invokestatic 79, 3) := by decide +kernel
theorem dX0_divideUpper_65 : decode cX0_divideUpper 65 = .ok (.iastore, 1) := by decide +kernel
theorem dX0_divideUpper_66 : decode cX0_divideUpper 66 = .ok (.iconst 0, 1) := by decide +kernel
theorem dX0_divideUpper_67 : decode cX0_divideUpper 67 = .ok (.ireturn, 1) := by decide +kernel
theorem dX0_testPoint_0 : decode cX0_testPoint 0 = .ok (.aload_n 0, 1) := by decide +kernel
theorem dX0_testPoint_1 : decode cX0_testPoint 1 = .ok (.getfield 16, 3) := by decide +kernel
theorem dX0_testPoint_4 : decode cX0_testPoint 4 = .ok (.iconst 1, 1) := by decide +kernel
theorem dX0_testPoint_5 : decode cX0_testPoint 5 = .ok (.if_icmp .ge 5, 3) := by decide +kernel
theorem dX0_testPoint_8 : decode cX0_testPoint 8 = .ok (.iconst 2, 1) := by decide +kernel
theorem dX0_testPoint_9 : decode cX0_testPoint 9 = .ok (.ireturn, 1) := by decide +kernel
theorem dX0_testPoint_10 : decode cX0_testPoint 10 = .ok (.aload_n 0, 1) := by decide +kernel
theorem dX0_testPoint_11 : decode cX0_testPoint 11 = .ok (.getfield 9, 3) := by decide +kernel
theorem dX0_testPoint_14 : decode cX0_testPoint 14 = .ok (.aload_n 0, 1) := by decide +kernel
theorem dX0_testPoint_15 : decode cX0_testPoint 15 = .ok (.getfield 16, 3) := by decide +kernel
theorem dX0_testPoint_18 : decode cX0_testPoint 18 = .ok (.iconst 1, 1) := by decide +kernel
theorem dX0_testPoint_19 : decode cX0_testPoint 19 = .ok (.isub, 1) := by decide +kernel
theorem dX0_testPoint_20 : decode cX0_testPoint 20 = .ok (.iaload, 1) := by decide +kernel
theorem dX0_testPoint_21 : decode cX0_testPoint 21 = .ok (.aload_n 0, 1) := by decide +kernel
theorem dX0_testPoint_22 : decode cX0_testPoint 22 = .ok (.getfield 13, 3) := by decide +kernel
theorem dX0_testPoint_25 : decode cX0_testPoint 25 = .ok (.aload_n 0, 1) := by decide +kernel
theorem dX0_testPoint_26 : decode cX0_testPoint 26 = .ok (.getfield 16, 3) := by decide +kernel
theorem dX0_testPoint_29 : decode cX0_testPoint 29 = .ok (.iconst 1, 1) := by decide +kernel
theorem dX0_testPoint_30 : decode cX0_testPoint 30 = .ok (.isub, 1) := by decide +kernel
theorem dX0_testPoint_31 : decode cX0_testPoint 31 = .ok (.iaload, 1) := by decide +kernel
theorem dX0_testPoint_32 : decode cX0_testPoint 32 = .ok (.if_icmp .ne 7, 3) := by decide +kernel
theorem dX0_testPoint_35 : decode cX0_testPoint 35 = .ok (.iconst 0, 1) := by decide +kernel
theorem dX0_testPoint_36 : decode cX0_testPoint 36 = .ok (.goto 4, 3) := by decide +kernel
theorem dX0_testPoint_39 : decode cX0_testPoint 39 = .ok (.iconst 4, 1) := by decide +kernel
theorem dX0_testPoint_40 : decode cX0_testPoint 40 = .ok (.ireturn, 1) := by decide +kernel
theorem dX0_keepUpper_0 : decode cX0_keepUpper 0 = .ok (.aload_n 0, 1) := by decide +kernel
theorem dX0_keepUpper_1 : decode cX0_keepUpper 1 = .ok (.getfield 16, 3) := by decide +kernel
theorem dX0_keepUpper_4 : decode cX0_keepUpper 4 = .ok (.iconst 1, 1) := by decide +kernel
theorem dX0_keepUpper_5 : decode cX0_keepUpper 5 = .ok (.if_icmp .lt 10, 3) := by decide +kernel
theorem dX0_keepUpper_8 : decode cX0_keepUpper 8 = .ok (.iload_n 1, 1) := by decide +kernel
theorem dX0_keepUpper_9 : decode cX0_keepUpper 9 = .ok (.invokestatic 87, 3) := by decide +kernel
theorem dX0_keepUpper_12 : decode cX0_keepUpper 12 = .ok (.ifCond .ne 5, 3) := by decide +kernel
theorem dX0_keepUpper_15 : decode cX0_keepUpper 15 = .ok (.iconst 2, 1) := by decide +kernel
theorem dX0_keepUpper_16 : decode cX0_keepUpper 16 = .ok (.ireturn, 1) := by decide +kernel
theorem dX0_keepUpper_17 : decode cX0_keepUpper 17 = .ok (.aload_n 0, 1) := by decide +kernel
theorem dX0_keepUpper_18 : decode cX0_keepUpper 18 = .ok (.dup, 1) := by decide +kernel
theorem dX0_keepUpper_19 : decode cX0_keepUpper 19 = .ok (.getfield 16, 3) := by decide +kernel
theorem dX0_keepUpper_22 : decode cX0_keepUpper 22 = .ok (.iconst 1, 1) := by decide +kernel
theorem dX0_keepUpper_23 : decode cX0_keepUpper 23 = .ok (.isub, 1) := by decide +kernel
theorem dX0_keepUpper_24 : decode cX0_keepUpper 24 = .ok (.putfield 16, 3) := by decide +kernel
theorem dX0_keepUpper_27 : decode cX0_keepUpper 27 = .ok (.aload_n 0, 1) := by decide +kernel
theorem dX0_keepUpper_28 : decode cX0_keepUpper 28 = .ok (.getfield 20, 3) := by decide +kernel
theorem dX0_keepUpper_31 : decode cX0_keepUpper 31 = .ok (.iload_n 1, 1) := by decide +kernel
theorem dX0_keepUpper_32 : decode cX0_keepUpper 32 = .ok (.iconst 1, 1) := by decide +kernel
theorem dX0_keepUpper_33 : decode cX0_keepUpper 33 = .ok (.bastore, 1) := by decide +kernel
theorem dX0_keepUpper_34 : decode cX0_keepUpper 34 = .ok (.aload_n 0, 1) := by decide +kernel
theorem dX0_keepUpper_35 : decode cX0_keepUpper 35 = .ok (.getfield 24, 3) := by decide +kernel
theorem dX0_keepUpper_38 : decode cX0_keepUpper 38 = .ok (.iload_n 1, 1) := by decide +kernel
theorem dX0_keepUpper_39 : decode cX0_keepUpper 39 = .ok (.aload_n 0, 1) := by decide +kernel
theorem dX0_keepUpper_40 : decode cX0_keepUpper 40 = .ok (.getfield 9, 3) := by decide +kernel
theorem dX0_keepUpper_43 : decode cX0_keepUpper 43 = .ok (.aload_n 0, 1) := by decide +kernel
theorem dX0_keepUpper_44 : decode cX0_keepUpper 44 = .ok (.getfield 16, 3) := by decide +kernel
theorem dX0_keepUpper_47 : decode cX0_keepUpper 47 = .ok (.iaload, 1) := by decide +kernel
theorem dX0_keepUpper_48 : decode cX0_keepUpper 48 = .ok (.iastore, 1) := by decide +kernel
theorem dX0_keepUpper_49 : decode cX0_keepUpper 49 = .ok (.aload_n 0, 1) := by decide +kernel
theorem dX0_keepUpper_50 : decode cX0_keepUpper 50 = .ok (.getfield 27, 3) := by decide +kernel
theorem dX0_keepUpper_53 : decode cX0_keepUpper 53 = .ok (.iload_n 1, 1) := by decide +kernel
theorem dX0_keepUpper_54 : decode cX0_keepUpper 54 = .ok (.aload_n 0, 1) := by decide +kernel
theorem dX0_keepUpper_55 : decode cX0_keepUpper 55 = .ok (.getfield 13, 3) := by decide +kernel
theorem dX0_keepUpper_58 : decode cX0_keepUpper 58 = .ok (.aload_n 0, 1) := by decide +kernel
theorem dX0_keepUpper_59 : decode cX0_keepUpper 59 = .ok (.getfield 16, 3) := by decide +kernel
theorem dX0_keepUpper_62 : decode cX0_keepUpper 62 = .ok (.iaload, 1) := by decide +kernel
theorem dX0_keepUpper_63 : decode cX0_keepUpper 63 = .ok (.iastore, 1) := by decide +kernel
theorem dX0_keepUpper_64 : decode cX0_keepUpper 64 = .ok (.iconst 0, 1) := by decide +kernel
theorem dX0_keepUpper_65 : decode cX0_keepUpper 65 = .ok (.ireturn, 1) := by decide +kernel
theorem dX0_takeItem_0 : decode cX0_takeItem 0 = .ok (.iload_n 1, 1) := by decide +kernel
theorem dX0_takeItem_1 : decode cX0_takeItem 1 = .ok (.invokestatic 87, 3) := by decide +kernel
theorem dX0_takeItem_4 : decode cX0_takeItem 4 = .ok (.ifCond .ne 5, 3) := by decide +kernel
theorem dX0_takeItem_7 : decode cX0_takeItem 7 = .ok (.iconst 2, 1) := by decide +kernel
theorem dX0_takeItem_8 : decode cX0_takeItem 8 = .ok (.ireturn, 1) := by decide +kernel
theorem dX0_takeItem_9 : decode cX0_takeItem 9 = .ok (.aload_n 0, 1) := by decide +kernel
theorem dX0_takeItem_10 : decode cX0_takeItem 10 = .ok (.getfield 20, 3) := by decide +kernel
theorem dX0_takeItem_13 : decode cX0_takeItem 13 = .ok (.iload_n 1, 1) := by decide +kernel
theorem dX0_takeItem_14 : decode cX0_takeItem 14 = .ok (.baload, 1) := by decide +kernel
theorem dX0_takeItem_15 : decode cX0_takeItem 15 = .ok (.ifCond .eq 22, 3) := by decide +kernel
theorem dX0_takeItem_18 : decode cX0_takeItem 18 = .ok (.aload_n 0, 1) := by decide +kernel
theorem dX0_takeItem_19 : decode cX0_takeItem 19 = .ok (.aload_n 0, 1) := by decide +kernel
theorem dX0_takeItem_20 : decode cX0_takeItem 20 = .ok (.getfield 24, 3) := by decide +kernel
theorem dX0_takeItem_23 : decode cX0_takeItem 23 = .ok (.iload_n 1, 1) := by decide +kernel
theorem dX0_takeItem_24 : decode cX0_takeItem 24 = .ok (.iaload, 1) := by decide +kernel
theorem dX0_takeItem_25 : decode cX0_takeItem 25 = .ok (.aload_n 0, 1) := by decide +kernel
theorem dX0_takeItem_26 : decode cX0_takeItem 26 = .ok (.getfield 27, 3) := by decide +kernel
theorem dX0_takeItem_29 : decode cX0_takeItem 29 = .ok (.iload_n 1, 1) := by decide +kernel
theorem dX0_takeItem_30 : decode cX0_takeItem 30 = .ok (.iaload, 1) := by decide +kernel
theorem dX0_takeItem_31 : decode cX0_takeItem 31 = .ok (.invokevirtual 30, 3) := by decide +kernel
theorem dX0_takeItem_34 : decode cX0_takeItem 34 = .ok (.goto 4, 3) := by decide +kernel
theorem dX0_takeItem_37 : decode cX0_takeItem 37 = .ok (.iconst 1, 1) := by decide +kernel
theorem dX0_takeItem_38 : decode cX0_takeItem 38 = .ok (.ireturn, 1) := by decide +kernel
theorem dX0_isItem_0 : decode cX0_isItem 0 = .ok (.iload_n 0, 1) := by decide +kernel
theorem dX0_isItem_1 : decode cX0_isItem 1 = .ok (.ifCond .lt 12, 3) := by decide +kernel
theorem dX0_isItem_4 : decode cX0_isItem 4 = .ok (.iload_n 0, 1) := by decide +kernel
theorem dX0_isItem_5 : decode cX0_isItem 5 = .ok (.iconst 3, 1) := by decide +kernel
theorem dX0_isItem_6 : decode cX0_isItem 6 = .ok (.if_icmp .ge 7, 3) := by decide +kernel
theorem dX0_isItem_9 : decode cX0_isItem 9 = .ok (.iconst 1, 1) := by decide +kernel
theorem dX0_isItem_10 : decode cX0_isItem 10 = .ok (.goto 4, 3) := by decide +kernel
theorem dX0_isItem_13 : decode cX0_isItem 13 = .ok (.iconst 0, 1) := by decide +kernel
theorem dX0_isItem_14 : decode cX0_isItem 14 = .ok (.ireturn, 1) := by decide +kernel
theorem dX1_init_0 : decode cX1_init 0 = .ok (.aload_n 0, 1) := by decide +kernel
theorem dX1_init_1 : decode cX1_init 1 = .ok (.invokespecial 3, 3) := by decide +kernel
theorem dX1_init_4 : decode cX1_init 4 = .ok (.aload_n 0, 1) := by decide +kernel
theorem dX1_init_5 : decode cX1_init 5 = .ok (.iconst 4, 1) := by decide +kernel
theorem dX1_init_6 : decode cX1_init 6 = .ok (.anewarray 11, 3) := by decide +kernel
theorem dX1_init_9 : decode cX1_init 9 = .ok (.putfield 13, 3) := by decide +kernel
theorem dX1_init_12 : decode cX1_init 12 = .ok (.aload_n 0, 1) := by decide +kernel
theorem dX1_init_13 : decode cX1_init 13 = .ok (.iconst 0, 1) := by decide +kernel
theorem dX1_init_14 : decode cX1_init 14 = .ok (.putfield 17, 3) := by decide +kernel
theorem dX1_init_17 : decode cX1_init 17 = .ok (.aload_n 0, 1) := by decide +kernel
theorem dX1_init_18 : decode cX1_init 18 = .ok (.iconst 0, 1) := by decide +kernel
theorem dX1_init_19 : decode cX1_init 19 = .ok (.putfield 21, 3) := by decide +kernel
theorem dX1_init_22 : decode cX1_init 22 = .ok (.aload_n 0, 1) := by decide +kernel
theorem dX1_init_23 : decode cX1_init 23 = .ok (.iconst 0, 1) := by decide +kernel
theorem dX1_init_24 : decode cX1_init 24 = .ok (.putfield 24, 3) := by decide +kernel
theorem dX1_init_27 : decode cX1_init 27 = .ok (.aload_n 0, 1) := by decide +kernel
theorem dX1_init_28 : decode cX1_init 28 = .ok (.ldc 27, 2) := by decide +kernel
theorem dX1_init_30 : decode cX1_init 30 = .ok (.putfield 28, 3) := by decide +kernel
theorem dX1_init_33 : decode cX1_init 33 = .ok (.iconst 0, 1) := by decide +kernel
theorem dX1_init_34 : decode cX1_init 34 = .ok (.istore_n 1, 1) := by decide +kernel
theorem dX1_init_35 : decode cX1_init 35 = .ok (.iload_n 1, 1) := by decide +kernel
theorem dX1_init_36 : decode cX1_init 36 = .ok (.iconst 4, 1) := by decide +kernel
theorem dX1_init_37 : decode cX1_init 37 = .ok (.if_icmp .ge 23, 3) := by decide +kernel
theorem dX1_init_40 : decode cX1_init 40 = .ok (.aload_n 0, 1) := by decide +kernel
theorem dX1_init_41 : decode cX1_init 41 = .ok (.getfield 13, 3) := by decide +kernel
theorem dX1_init_44 : decode cX1_init 44 = .ok (.iload_n 1, 1) := by decide +kernel
theorem dX1_init_45 : decode cX1_init 45 = .ok (.new 11, 3) := by decide +kernel
theorem dX1_init_48 : decode cX1_init 48 = .ok (.dup, 1) := by decide +kernel
theorem dX1_init_49 : decode cX1_init 49 = .ok (.iload_n 1, 1) := by decide +kernel
theorem dX1_init_50 : decode cX1_init 50 = .ok (.invokespecial 31, 3) := by decide +kernel
theorem dX1_init_53 : decode cX1_init 53 = .ok (.aastore, 1) := by decide +kernel
theorem dX1_init_54 : decode cX1_init 54 = .ok (.iinc 1 1, 3) := by decide +kernel
theorem dX1_init_57 : decode cX1_init 57 = .ok (.goto (-22), 3) := by decide +kernel
theorem dX1_init_60 : decode cX1_init 60 = .ok (.aload_n 0, 1) := by decide +kernel
theorem dX1_init_61 : decode cX1_init 61 = .ok (.iconst 1, 1) := by decide +kernel
theorem dX1_init_62 : decode cX1_init 62 = .ok (.invokevirtual 34, 3) := by decide +kernel
theorem dX1_init_65 : decode cX1_init 65 = .ok (.return_, 1) := by decide +kernel
theorem dX1_hire_0 : decode cX1_hire 0 = .ok (.aload_n 0, 1) := by decide +kernel
theorem dX1_hire_1 : decode cX1_hire 1 = .ok (.iload_n 1, 1) := by decide +kernel
theorem dX1_hire_2 : decode cX1_hire 2 = .ok (.putfield 17, 3) := by decide +kernel
theorem dX1_hire_5 : decode cX1_hire 5 = .ok (.iconst 0, 1) := by decide +kernel
theorem dX1_hire_6 : decode cX1_hire 6 = .ok (.istore_n 2, 1) := by decide +kernel
theorem dX1_hire_7 : decode cX1_hire 7 = .ok (.iload_n 2, 1) := by decide +kernel
theorem dX1_hire_8 : decode cX1_hire 8 = .ok (.iconst 4, 1) := by decide +kernel
theorem dX1_hire_9 : decode cX1_hire 9 = .ok (.if_icmp .ge 38, 3) := by decide +kernel
theorem dX1_hire_12 : decode cX1_hire 12 = .ok (.aload_n 0, 1) := by decide +kernel
theorem dX1_hire_13 : decode cX1_hire 13 = .ok (.getfield 13, 3) := by decide +kernel
theorem dX1_hire_16 : decode cX1_hire 16 = .ok (.iload_n 2, 1) := by decide +kernel
theorem dX1_hire_17 : decode cX1_hire 17 = .ok (.aaload, 1) := by decide +kernel
theorem dX1_hire_18 : decode cX1_hire 18 = .ok (.iload_n 2, 1) := by decide +kernel
theorem dX1_hire_19 : decode cX1_hire 19 = .ok (.iload_n 1, 1) := by decide +kernel
theorem dX1_hire_20 : decode cX1_hire 20 = .ok (.if_icmp .ge 7, 3) := by decide +kernel
theorem dX1_hire_23 : decode cX1_hire 23 = .ok (.iconst 1, 1) := by decide +kernel
theorem dX1_hire_24 : decode cX1_hire 24 = .ok (.goto 4, 3) := by decide +kernel
theorem dX1_hire_27 : decode cX1_hire 27 = .ok (.iconst 0, 1) := by decide +kernel
theorem dX1_hire_28 : decode cX1_hire 28 = .ok (.putfield 37, 3) := by decide +kernel
theorem dX1_hire_31 : decode cX1_hire 31 = .ok (.aload_n 0, 1) := by decide +kernel
theorem dX1_hire_32 : decode cX1_hire 32 = .ok (.getfield 13, 3) := by decide +kernel
theorem dX1_hire_35 : decode cX1_hire 35 = .ok (.iload_n 2, 1) := by decide +kernel
theorem dX1_hire_36 : decode cX1_hire 36 = .ok (.aaload, 1) := by decide +kernel
theorem dX1_hire_37 : decode cX1_hire 37 = .ok (.iconst 0, 1) := by decide +kernel
theorem dX1_hire_38 : decode cX1_hire 38 = .ok (.putfield 41, 3) := by decide +kernel
theorem dX1_hire_41 : decode cX1_hire 41 = .ok (.iinc 2 1, 3) := by decide +kernel
theorem dX1_hire_44 : decode cX1_hire 44 = .ok (.goto (-37), 3) := by decide +kernel
theorem dX1_hire_47 : decode cX1_hire 47 = .ok (.return_, 1) := by decide +kernel
theorem dX1_isHere_0 : decode cX1_isHere 0 = .ok (.iload_n 1, 1) := by decide +kernel
theorem dX1_isHere_1 : decode cX1_isHere 1 = .ok (.ifCond .lt 24, 3) := by decide +kernel
theorem dX1_isHere_4 : decode cX1_isHere 4 = .ok (.iload_n 1, 1) := by decide +kernel
theorem dX1_isHere_5 : decode cX1_isHere 5 = .ok (.iconst 4, 1) := by decide +kernel
theorem dX1_isHere_6 : decode cX1_isHere 6 = .ok (.if_icmp .ge 19, 3) := by decide +kernel
theorem dX1_isHere_9 : decode cX1_isHere 9 = .ok (.aload_n 0, 1) := by decide +kernel
theorem dX1_isHere_10 : decode cX1_isHere 10 = .ok (.getfield 13, 3) := by decide +kernel
theorem dX1_isHere_13 : decode cX1_isHere 13 = .ok (.iload_n 1, 1) := by decide +kernel
theorem dX1_isHere_14 : decode cX1_isHere 14 = .ok (.aaload, 1) := by decide +kernel
theorem dX1_isHere_15 : decode cX1_isHere 15 = .ok (.getfield 37, 3) := by decide +kernel
theorem dX1_isHere_18 : decode cX1_isHere 18 = .ok (.ifCond .eq 7, 3) := by decide +kernel
theorem dX1_isHere_21 : decode cX1_isHere 21 = .ok (.iconst 1, 1) := by decide +kernel
theorem dX1_isHere_22 : decode cX1_isHere 22 = .ok (.goto 4, 3) := by decide +kernel
theorem dX1_isHere_25 : decode cX1_isHere 25 = .ok (.iconst 0, 1) := by decide +kernel
theorem dX1_isHere_26 : decode cX1_isHere 26 = .ok (.ireturn, 1) := by decide +kernel
theorem dX1_remove_0 : decode cX1_remove 0 = .ok (.aload_n 1, 1) := by decide +kernel
theorem dX1_remove_1 : decode cX1_remove 1 = .ok (.iconst 0, 1) := by decide +kernel
theorem dX1_remove_2 : decode cX1_remove 2 = .ok (.putfield 37, 3) := by decide +kernel
theorem dX1_remove_5 : decode cX1_remove 5 = .ok (.aload_n 0, 1) := by decide +kernel
theorem dX1_remove_6 : decode cX1_remove 6 = .ok (.dup, 1) := by decide +kernel
theorem dX1_remove_7 : decode cX1_remove 7 = .ok (.getfield 17, 3) := by decide +kernel
theorem dX1_remove_10 : decode cX1_remove 10 = .ok (.iconst 1, 1) := by decide +kernel
theorem dX1_remove_11 : decode cX1_remove 11 = .ok (.isub, 1) := by decide +kernel
theorem dX1_remove_12 : decode cX1_remove 12 = .ok (.putfield 17, 3) := by decide +kernel
theorem dX1_remove_15 : decode cX1_remove 15 = .ok (.return_, 1) := by decide +kernel
theorem dX1_nextToMove_0 : decode cX1_nextToMove 0 = .ok (.aload_n 0, 1) := by decide +kernel
theorem dX1_nextToMove_1 : decode cX1_nextToMove 1 = .ok (.getfield 17, 3) := by decide +kernel
theorem dX1_nextToMove_4 : decode cX1_nextToMove 4 = .ok (.ifCond .gt 5, 3) := by decide +kernel
theorem dX1_nextToMove_7 : decode cX1_nextToMove 7 = .ok (.aconst_null, 1) := by decide +kernel
theorem dX1_nextToMove_8 : decode cX1_nextToMove 8 = .ok (.areturn, 1) := by decide +kernel
theorem dX1_nextToMove_9 : decode cX1_nextToMove 9 = .ok (.aload_n 0, 1) := by decide +kernel
theorem dX1_nextToMove_10 : decode cX1_nextToMove 10 = .ok (.aload_n 0, 1) := by decide +kernel
theorem dX1_nextToMove_11 : decode cX1_nextToMove 11 = .ok (.getfield 21, 3) := by decide +kernel
theorem dX1_nextToMove_14 : decode cX1_nextToMove 14 = .ok (.ldc 44, 2) := by decide +kernel
theorem dX1_nextToMove_16 : decode cX1_nextToMove 16 = .ok (.imul, 1) := by decide +kernel
theorem dX1_nextToMove_17 : decode cX1_nextToMove 17 = .ok (.sipush 12345, 3) := by decide +kernel
theorem dX1_nextToMove_20 : decode cX1_nextToMove 20 = .ok (.iadd, 1) := by decide +kernel
theorem dX1_nextToMove_21 : decode cX1_nextToMove 21 = .ok (.putfield 21, 3) := by decide +kernel
theorem dX1_nextToMove_24 : decode cX1_nextToMove 24 = .ok (.aload_n 0, 1) := by decide +kernel
theorem dX1_nextToMove_25 : decode cX1_nextToMove 25 = .ok (.dup, 1) := by decide +kernel
theorem dX1_nextToMove_26 : decode cX1_nextToMove 26 = .ok (.getfield 24, 3) := by decide +kernel
theorem dX1_nextToMove_29 : decode cX1_nextToMove 29 = .ok (.iconst 1, 1) := by decide +kernel
theorem dX1_nextToMove_30 : decode cX1_nextToMove 30 = .ok (.iadd, 1) := by decide +kernel
theorem dX1_nextToMove_31 : decode cX1_nextToMove 31 = .ok (.putfield 24, 3) := by decide +kernel
theorem dX1_nextToMove_34 : decode cX1_nextToMove 34 = .ok (.aload_n 0, 1) := by decide +kernel
theorem dX1_nextToMove_35 : decode cX1_nextToMove 35 = .ok (.aload_n 0, 1) := by decide +kernel
theorem dX1_nextToMove_36 : decode cX1_nextToMove 36 = .ok (.getfield 21, 3) := by decide +kernel
theorem dX1_nextToMove_39 : decode cX1_nextToMove 39 = .ok (.bipush 16, 2) := by decide +kernel
theorem dX1_nextToMove_41 : decode cX1_nextToMove 41 = .ok (.iushr, 1) := by decide +kernel
theorem dX1_nextToMove_42 : decode cX1_nextToMove 42 = .ok (.aload_n 0, 1) := by decide +kernel
theorem dX1_nextToMove_43 : decode cX1_nextToMove 43 = .ok (.getfield 17, 3) := by decide +kernel
theorem dX1_nextToMove_46 : decode cX1_nextToMove 46 = .ok (.irem, 1) := by decide +kernel
theorem dX1_nextToMove_47 : decode cX1_nextToMove 47 = .ok (.invokevirtual 45, 3) := by decide +kernel
theorem dX1_nextToMove_50 : decode cX1_nextToMove 50 = .ok (.astore_n 1, 1) := by decide +kernel
theorem dX1_nextToMove_51 : decode cX1_nextToMove 51 = .ok (.aload_n 1, 1) := by decide +kernel
theorem dX1_nextToMove_52 : decode cX1_nextToMove 52 = .ok (.ifnull 11, 3) := by decide +kernel
theorem dX1_nextToMove_55 : decode cX1_nextToMove 55 = .ok (.aload_n 0, 1) := by decide +kernel
theorem dX1_nextToMove_56 : decode cX1_nextToMove 56 = .ok (.aload_n 1, 1) := by decide +kernel
theorem dX1_nextToMove_57 : decode cX1_nextToMove 57 = .ok (.getfield 49, 3) := by decide +kernel
theorem dX1_nextToMove_60 : decode cX1_nextToMove 60 = .ok (.putfield 28, 3) := by decide +kernel
theorem dX1_nextToMove_63 : decode cX1_nextToMove 63 = .ok (.aload_n 1, 1) := by decide +kernel
theorem dX1_nextToMove_64 : decode cX1_nextToMove 64 = .ok (.areturn, 1) := by decide +kernel
theorem dX1_leftAt_0 : decode cX1_leftAt 0 = .ok (.iconst 0, 1) := by decide +kernel
theorem dX1_leftAt_1 : decode cX1_leftAt 1 = .ok (.istore_n 2, 1) := by decide +kernel
theorem dX1_leftAt_2 : decode cX1_leftAt 2 = .ok (.iconst 0, 1) := by decide +kernel
theorem dX1_leftAt_3 : decode cX1_leftAt 3 = .ok (.istore_n 3, 1) := by decide +kernel
theorem dX1_leftAt_4 : decode cX1_leftAt 4 = .ok (.iload_n 3, 1) := by decide +kernel
theorem dX1_leftAt_5 : decode cX1_leftAt 5 = .ok (.iconst 4, 1) := by decide +kernel
theorem dX1_leftAt_6 : decode cX1_leftAt 6 = .ok (.if_icmp .ge 36, 3) := by decide +kernel
theorem dX1_leftAt_9 : decode cX1_leftAt 9 = .ok (.aload_n 0, 1) := by decide +kernel
theorem dX1_leftAt_10 : decode cX1_leftAt 10 = .ok (.getfield 13, 3) := by decide +kernel
theorem dX1_leftAt_13 : decode cX1_leftAt 13 = .ok (.iload_n 3, 1) := by decide +kernel
theorem dX1_leftAt_14 : decode cX1_leftAt 14 = .ok (.aaload, 1) := by decide +kernel
theorem dX1_leftAt_15 : decode cX1_leftAt 15 = .ok (.getfield 37, 3) := by decide +kernel
theorem dX1_leftAt_18 : decode cX1_leftAt 18 = .ok (.ifCond .eq 18, 3) := by decide +kernel
theorem dX1_leftAt_21 : decode cX1_leftAt 21 = .ok (.iload_n 2, 1) := by decide +kernel
theorem dX1_leftAt_22 : decode cX1_leftAt 22 = .ok (.iload_n 1, 1) := by decide +kernel
theorem dX1_leftAt_23 : decode cX1_leftAt 23 = .ok (.if_icmp .ne 10, 3) := by decide +kernel
theorem dX1_leftAt_26 : decode cX1_leftAt 26 = .ok (.aload_n 0, 1) := by decide +kernel
theorem dX1_leftAt_27 : decode cX1_leftAt 27 = .ok (.getfield 13, 3) := by decide +kernel
theorem dX1_leftAt_30 : decode cX1_leftAt 30 = .ok (.iload_n 3, 1) := by decide +kernel
theorem dX1_leftAt_31 : decode cX1_leftAt 31 = .ok (.aaload, 1) := by decide +kernel
theorem dX1_leftAt_32 : decode cX1_leftAt 32 = .ok (.areturn, 1) := by decide +kernel
theorem dX1_leftAt_33 : decode cX1_leftAt 33 = .ok (.iinc 2 1, 3) := by decide +kernel
theorem dX1_leftAt_36 : decode cX1_leftAt 36 = .ok (.iinc 3 1, 3) := by decide +kernel
theorem dX1_leftAt_39 : decode cX1_leftAt 39 = .ok (.goto (-35), 3) := by decide +kernel
theorem dX1_leftAt_42 : decode cX1_leftAt 42 = .ok (.aconst_null, 1) := by decide +kernel
theorem dX1_leftAt_43 : decode cX1_leftAt 43 = .ok (.areturn, 1) := by decide +kernel
theorem dX2_init_0 : decode cX2_init 0 = .ok (.aload_n 0, 1) := by decide +kernel
theorem dX2_init_1 : decode cX2_init 1 = .ok (.invokespecial 3, 3) := by decide +kernel
theorem dX2_init_4 : decode cX2_init 4 = .ok (.aload_n 0, 1) := by decide +kernel
theorem dX2_init_5 : decode cX2_init 5 = .ok (.bipush 10, 2) := by decide +kernel
theorem dX2_init_7 : decode cX2_init 7 = .ok (.newarray .boolean, 2) := by decide +kernel
theorem dX2_init_9 : decode cX2_init 9 = .ok (.putfield 9, 3) := by decide +kernel
theorem dX2_init_12 : decode cX2_init 12 = .ok (.aload_n 0, 1) := by decide +kernel
theorem dX2_init_13 : decode cX2_init 13 = .ok (.bipush 10, 2) := by decide +kernel
theorem dX2_init_15 : decode cX2_init 15 = .ok (.newarray .int, 2) := by decide +kernel
theorem dX2_init_17 : decode cX2_init 17 = .ok (.putfield 15, 3) := by decide +kernel
theorem dX2_init_20 : decode cX2_init 20 = .ok (.aload_n 0, 1) := by decide +kernel
theorem dX2_init_21 : decode cX2_init 21 = .ok (.bipush 10, 2) := by decide +kernel
theorem dX2_init_23 : decode cX2_init 23 = .ok (.newarray .int, 2) := by decide +kernel
theorem dX2_init_25 : decode cX2_init 25 = .ok (.putfield 19, 3) := by decide +kernel
theorem dX2_init_28 : decode cX2_init 28 = .ok (.return_, 1) := by decide +kernel
theorem dX2_put_0 : decode cX2_put 0 = .ok (.iload_n 1, 1) := by decide +kernel
theorem dX2_put_1 : decode cX2_put 1 = .ok (.invokestatic 22, 3) := by decide +kernel
theorem dX2_put_4 : decode cX2_put 4 = .ok (.ifCond .ne 4, 3) := by decide +kernel
theorem dX2_put_7 : decode cX2_put 7 = .ok (.return_, 1) := by decide +kernel
theorem dX2_put_8 : decode cX2_put 8 = .ok (.aload_n 0, 1) := by decide +kernel
theorem dX2_put_9 : decode cX2_put 9 = .ok (.getfield 9, 3) := by decide +kernel
theorem dX2_put_12 : decode cX2_put 12 = .ok (.iload_n 1, 1) := by decide +kernel
theorem dX2_put_13 : decode cX2_put 13 = .ok (.iconst 1, 1) := by decide +kernel
theorem dX2_put_14 : decode cX2_put 14 = .ok (.bastore, 1) := by decide +kernel
theorem dX2_put_15 : decode cX2_put 15 = .ok (.aload_n 0, 1) := by decide +kernel
theorem dX2_put_16 : decode cX2_put 16 = .ok (.getfield 15, 3) := by decide +kernel
theorem dX2_put_19 : decode cX2_put 19 = .ok (.iload_n 1, 1) := by decide +kernel
theorem dX2_put_20 : decode cX2_put 20 = .ok (.iload_n 2, 1) := by decide +kernel
theorem dX2_put_21 : decode cX2_put 21 = .ok (.iastore, 1) := by decide +kernel
theorem dX2_put_22 : decode cX2_put 22 = .ok (.aload_n 0, 1) := by decide +kernel
theorem dX2_put_23 : decode cX2_put 23 = .ok (.getfield 19, 3) := by decide +kernel
theorem dX2_put_26 : decode cX2_put 26 = .ok (.iload_n 1, 1) := by decide +kernel
theorem dX2_put_27 : decode cX2_put 27 = .ok (.iload_n 3, 1) := by decide +kernel
theorem dX2_put_28 : decode cX2_put 28 = .ok (.iastore, 1) := by decide +kernel
theorem dX2_put_29 : decode cX2_put 29 = .ok (.return_, 1) := by decide +kernel
theorem dX2_join_0 : decode cX2_join 0 = .ok (.aload_n 1, 1) := by decide +kernel
theorem dX2_join_1 : decode cX2_join 1 = .ok (.getfield 26, 3) := by decide +kernel
theorem dX2_join_4 : decode cX2_join 4 = .ok (.istore_n 3, 1) := by decide +kernel
theorem dX2_join_5 : decode cX2_join 5 = .ok (.iload_n 3, 1) := by decide +kernel
theorem dX2_join_6 : decode cX2_join 6 = .ok (.invokestatic 22, 3) := by decide +kernel
theorem dX2_join_9 : decode cX2_join 9 = .ok (.ifCond .ne 5, 3) := by decide +kernel
theorem dX2_join_12 : decode cX2_join 12 = .ok (.iconst 0, 1) := by decide +kernel
theorem dX2_join_13 : decode cX2_join 13 = .ok (.ireturn, 1) := by decide +kernel
theorem dX2_join_14 : decode cX2_join 14 = .ok (.aload_n 0, 1) := by decide +kernel
theorem dX2_join_15 : decode cX2_join 15 = .ok (.getfield 9, 3) := by decide +kernel
theorem dX2_join_18 : decode cX2_join 18 = .ok (.iload_n 3, 1) := by decide +kernel
theorem dX2_join_19 : decode cX2_join 19 = .ok (.baload, 1) := by decide +kernel
theorem dX2_join_20 : decode cX2_join 20 = .ok (.ifCond .ne 18, 3) := by decide +kernel
theorem dX2_join_23 : decode cX2_join 23 = .ok (.aload_n 0, 1) := by decide +kernel
theorem dX2_join_24 : decode cX2_join 24 = .ok (.iload_n 3, 1) := by decide +kernel
theorem dX2_join_25 : decode cX2_join 25 = .ok (.aload_n 1, 1) := by decide +kernel
theorem dX2_join_26 : decode cX2_join 26 = .ok (.getfield 32, 3) := by decide +kernel
theorem dX2_join_29 : decode cX2_join 29 = .ok (.aload_n 1, 1) := by decide +kernel
theorem dX2_join_30 : decode cX2_join 30 = .ok (.getfield 35, 3) := by decide +kernel
theorem dX2_join_33 : decode cX2_join 33 = .ok (.invokevirtual 38, 3) := by decide +kernel
theorem dX2_join_36 : decode cX2_join 36 = .ok (.iconst 1, 1) := by decide +kernel
theorem dX2_join_37 : decode cX2_join 37 = .ok (.ireturn, 1) := by decide +kernel
theorem dX2_join_38 : decode cX2_join 38 = .ok (.aload_n 1, 1) := by decide +kernel
theorem dX2_join_39 : decode cX2_join 39 = .ok (.getfield 32, 3) := by decide +kernel
theorem dX2_join_42 : decode cX2_join 42 = .ok (.aload_n 0, 1) := by decide +kernel
theorem dX2_join_43 : decode cX2_join 43 = .ok (.getfield 15, 3) := by decide +kernel
theorem dX2_join_46 : decode cX2_join 46 = .ok (.iload_n 3, 1) := by decide +kernel
theorem dX2_join_47 : decode cX2_join 47 = .ok (.iaload, 1) := by decide +kernel
theorem dX2_join_48 : decode cX2_join 48 = .ok (.if_icmp .ge 7, 3) := by decide +kernel
theorem dX2_join_51 : decode cX2_join 51 = .ok (.iconst 1, 1) := by decide +kernel
theorem dX2_join_52 : decode cX2_join 52 = .ok (.goto 4, 3) := by decide +kernel
theorem dX2_join_55 : decode cX2_join 55 = .ok (.iconst 0, 1) := by decide +kernel
theorem dX2_join_56 : decode cX2_join 56 = .ok (.istore 4, 2) := by decide +kernel
theorem dX2_join_58 : decode cX2_join 58 = .ok (.aload_n 1, 1) := by decide +kernel
theorem dX2_join_59 : decode cX2_join 59 = .ok (.getfield 35, 3) := by decide +kernel
theorem dX2_join_62 : decode cX2_join 62 = .ok (.aload_n 0, 1) := by decide +kernel
theorem dX2_join_63 : decode cX2_join 63 = .ok (.getfield 19, 3) := by decide +kernel
theorem dX2_join_66 : decode cX2_join 66 = .ok (.iload_n 3, 1) := by decide +kernel
theorem dX2_join_67 : decode cX2_join 67 = .ok (.iaload, 1) := by decide +kernel
theorem dX2_join_68 : decode cX2_join 68 = .ok (.if_icmp .le 7, 3) := by decide +kernel
theorem dX2_join_71 : decode cX2_join 71 = .ok (.iconst 1, 1) := by decide +kernel
theorem dX2_join_72 : decode cX2_join 72 = .ok (.goto 4, 3) := by decide +kernel
theorem dX2_join_75 : decode cX2_join 75 = .ok (.iconst 0, 1) := by decide +kernel
theorem dX2_join_76 : decode cX2_join 76 = .ok (.istore 5, 2) := by decide +kernel
theorem dX2_join_78 : decode cX2_join 78 = .ok (.iload 4, 2) := by decide +kernel
theorem dX2_join_80 : decode cX2_join 80 = .ok (.ifCond .eq 27, 3) := by decide +kernel
theorem dX2_join_83 : decode cX2_join 83 = .ok (.aload_n 0, 1) := by decide +kernel
theorem dX2_join_84 : decode cX2_join 84 = .ok (.getfield 15, 3) := by decide +kernel
theorem dX2_join_87 : decode cX2_join 87 = .ok (.iload_n 3, 1) := by decide +kernel
theorem dX2_join_88 : decode cX2_join 88 = .ok (.iload_n 2, 1) := by decide +kernel
theorem dX2_join_89 : decode cX2_join 89 = .ok (.ifCond .eq 13, 3) := by decide +kernel
theorem dX2_join_92 : decode cX2_join 92 = .ok (.aload_n 1, 1) := by decide +kernel
theorem dX2_join_93 : decode cX2_join 93 = .ok (.getfield 32, 3) := by decide +kernel
theorem dX2_join_96 : decode cX2_join 96 = .ok (.invokestatic 42, 3) := by decide +kernel
theorem dX2_join_99 : decode cX2_join 99 = .ok (.goto 7, 3) := by decide +kernel
theorem dX2_join_102 : decode cX2_join 102 = .ok (.aload_n 1, 1) := by decide +kernel
theorem dX2_join_103 : decode cX2_join 103 = .ok (.getfield 32, 3) := by decide +kernel
theorem dX2_join_106 : decode cX2_join 106 = .ok (.iastore, 1) := by decide +kernel
theorem dX2_join_107 : decode cX2_join 107 = .ok (.iload 5, 2) := by decide +kernel
theorem dX2_join_109 : decode cX2_join 109 = .ok (.ifCond .eq 27, 3) := by decide +kernel
theorem dX2_join_112 : decode cX2_join 112 = .ok (.aload_n 0, 1) := by decide +kernel
theorem dX2_join_113 : decode cX2_join 113 = .ok (.getfield 19, 3) := by decide +kernel
theorem dX2_join_116 : decode cX2_join 116 = .ok (.iload_n 3, 1) := by decide +kernel
theorem dX2_join_117 : decode cX2_join 117 = .ok (.iload_n 2, 1) := by decide +kernel
theorem dX2_join_118 : decode cX2_join 118 = .ok (.ifCond .eq 13, 3) := by decide +kernel
theorem dX2_join_121 : decode cX2_join 121 = .ok (.aload_n 1, 1) := by decide +kernel
theorem dX2_join_122 : decode cX2_join 122 = .ok (.getfield 35, 3) := by decide +kernel
theorem dX2_join_125 : decode cX2_join 125 = .ok (.invokestatic 46, 3) := by decide +kernel
theorem dX2_join_128 : decode cX2_join 128 = .ok (.goto 7, 3) := by decide +kernel
theorem dX2_join_131 : decode cX2_join 131 = .ok (.aload_n 1, 1) := by decide +kernel
theorem dX2_join_132 : decode cX2_join 132 = .ok (.getfield 35, 3) := by decide +kernel
theorem dX2_join_135 : decode cX2_join 135 = .ok (.iastore, 1) := by decide +kernel
theorem dX2_join_136 : decode cX2_join 136 = .ok (.iload 4, 2) := by decide +kernel
theorem dX2_join_138 : decode cX2_join 138 = .ok (.ifCond .ne 8, 3) := by decide +kernel
theorem dX2_join_141 : decode cX2_join 141 = .ok (.iload 5, 2) := by decide +kernel
theorem dX2_join_143 : decode cX2_join 143 = .ok (.ifCond .eq 7, 3) := by decide +kernel
theorem dX2_join_146 : decode cX2_join 146 = .ok (.iconst 1, 1) := by decide +kernel
theorem dX2_join_147 : decode cX2_join 147 = .ok (.goto 4, 3) := by decide +kernel
theorem dX2_join_150 : decode cX2_join 150 = .ok (.iconst 0, 1) := by decide +kernel
theorem dX2_join_151 : decode cX2_join 151 = .ok (.ireturn, 1) := by decide +kernel
theorem dX2_forgetAll_0 : decode cX2_forgetAll 0 = .ok (.iconst 0, 1) := by decide +kernel
theorem dX2_forgetAll_1 : decode cX2_forgetAll 1 = .ok (.istore_n 1, 1) := by decide +kernel
theorem dX2_forgetAll_2 : decode cX2_forgetAll 2 = .ok (.iconst 0, 1) := by decide +kernel
theorem dX2_forgetAll_3 : decode cX2_forgetAll 3 = .ok (.istore_n 2, 1) := by decide +kernel
theorem dX2_forgetAll_4 : decode cX2_forgetAll 4 = .ok (.iload_n 2, 1) := by decide +kernel
theorem dX2_forgetAll_5 : decode cX2_forgetAll 5 = .ok (.bipush 10, 2) := by decide +kernel
theorem dX2_forgetAll_7 : decode cX2_forgetAll 7 = .ok (.if_icmp .ge 28, 3) := by decide +kernel
theorem dX2_forgetAll_10 : decode cX2_forgetAll 10 = .ok (.aload_n 0, 1) := by decide +kernel
theorem dX2_forgetAll_11 : decode cX2_forgetAll 11 = .ok (.getfield 9, 3) := by decide +kernel
theorem dX2_forgetAll_14 : decode cX2_forgetAll 14 = .ok (.iload_n 2, 1) := by decide +kernel
theorem dX2_forgetAll_15 : decode cX2_forgetAll 15 = .ok (.baload, 1) := by decide +kernel
theorem dX2_forgetAll_16 : decode cX2_forgetAll 16 = .ok (.ifCond .eq 13, 3) := by decide +kernel
theorem dX2_forgetAll_19 : decode cX2_forgetAll 19 = .ok (.iinc 1 1, 3) := by decide +kernel
theorem dX2_forgetAll_22 : decode cX2_forgetAll 22 = .ok (.aload_n 0, 1) := by decide +kernel
theorem dX2_forgetAll_23 : decode cX2_forgetAll 23 = .ok (.getfield 9, 3) := by decide +kernel
theorem dX2_forgetAll_26 : decode cX2_forgetAll 26 = .ok (.iload_n 2, 1) := by decide +kernel
theorem dX2_forgetAll_27 : decode cX2_forgetAll 27 = .ok (.iconst 0, 1) := by decide +kernel
theorem dX2_forgetAll_28 : decode cX2_forgetAll 28 = .ok (.bastore, 1) := by decide +kernel
theorem dX2_forgetAll_29 : decode cX2_forgetAll 29 = .ok (.iinc 2 1, 3) := by decide +kernel
theorem dX2_forgetAll_32 : decode cX2_forgetAll 32 = .ok (.goto (-28), 3) := by decide +kernel
theorem dX2_forgetAll_35 : decode cX2_forgetAll 35 = .ok (.iload_n 1, 1) := by decide +kernel
theorem dX2_forgetAll_36 : decode cX2_forgetAll 36 = .ok (.ireturn, 1) := by decide +kernel
theorem dX2_boundBelow_0 : decode cX2_boundBelow 0 = .ok (.getstatic 49, 3) := by decide +kernel
theorem dX2_boundBelow_3 : decode cX2_boundBelow 3 = .ok (.arraylength, 1) := by decide +kernel
theorem dX2_boundBelow_4 : decode cX2_boundBelow 4 = .ok (.iconst 1, 1) := by decide +kernel
theorem dX2_boundBelow_5 : decode cX2_boundBelow 5 = .ok (.isub, 1) := by decide +kernel
theorem dX2_boundBelow_6 : decode cX2_boundBelow 6 = .ok (.istore_n 1, 1) := by decide +kernel
theorem dX2_boundBelow_7 : decode cX2_boundBelow 7 = .ok (.iload_n 1, 1) := by decide +kernel
theorem dX2_boundBelow_8 : decode cX2_boundBelow 8 = .ok (.ifCond .lt 24, 3) := by decide +kernel
theorem dX2_boundBelow_11 : decode cX2_boundBelow 11 = .ok (.getstatic 49, 3) := by decide +kernel
theorem dX2_boundBelow_14 : decode cX2_boundBelow 14 = .ok (.iload_n 1, 1) := by decide +kernel
theorem dX2_boundBelow_15 : decode cX2_boundBelow 15 = .ok (.iaload, 1) := by decide +kernel
theorem dX2_boundBelow_16 : decode cX2_boundBelow 16 = .ok (.iload_n 0, 1) := by decide +kernel
theorem dX2_boundBelow_17 : decode cX2_boundBelow 17 = .ok (.if_icmp .gt 9, 3) := by decide +kernel
theorem dX2_boundBelow_20 : decode cX2_boundBelow 20 = .ok (.getstatic 49, 3) := by decide +kernel
theorem dX2_boundBelow_23 : decode cX2_boundBelow 23 = .ok (.iload_n 1, 1) := by decide +kernel
theorem dX2_boundBelow_24 : decode cX2_boundBelow 24 = .ok (.iaload, 1) := by decide +kernel
theorem dX2_boundBelow_25 : decode cX2_boundBelow 25 = .ok (.ireturn, 1) := by decide +kernel
theorem dX2_boundBelow_26 : decode cX2_boundBelow 26 = .ok (.iinc 1 (-1), 3) := by decide +kernel
theorem dX2_boundBelow_29 : decode cX2_boundBelow 29 = .ok (.goto (-22), 3) := by decide +kernel
theorem dX2_boundBelow_32 : decode cX2_boundBelow 32 = .ok (.ldc 52, 2) := by decide +kernel
theorem dX2_boundBelow_34 : decode cX2_boundBelow 34 = .ok (.ireturn, 1) := by decide +kernel
theorem dX2_boundAbove_0 : decode cX2_boundAbove 0 = .ok (.iconst 0, 1) := by decide +kernel
theorem dX2_boundAbove_1 : decode cX2_boundAbove 1 = .ok (.istore_n 1, 1) := by decide +kernel
theorem dX2_boundAbove_2 : decode cX2_boundAbove 2 = .ok (.iload_n 1, 1) := by decide +kernel
theorem dX2_boundAbove_3 : decode cX2_boundAbove 3 = .ok (.getstatic 49, 3) := by decide +kernel
theorem dX2_boundAbove_6 : decode cX2_boundAbove 6 = .ok (.arraylength, 1) := by decide +kernel
theorem dX2_boundAbove_7 : decode cX2_boundAbove 7 = .ok (.if_icmp .ge 24, 3) := by decide +kernel
theorem dX2_boundAbove_10 : decode cX2_boundAbove 10 = .ok (.getstatic 49, 3) := by decide +kernel
theorem dX2_boundAbove_13 : decode cX2_boundAbove 13 = .ok (.iload_n 1, 1) := by decide +kernel
theorem dX2_boundAbove_14 : decode cX2_boundAbove 14 = .ok (.iaload, 1) := by decide +kernel
theorem dX2_boundAbove_15 : decode cX2_boundAbove 15 = .ok (.iload_n 0, 1) := by decide +kernel
theorem dX2_boundAbove_16 : decode cX2_boundAbove 16 = .ok (.if_icmp .lt 9, 3) := by decide +kernel
theorem dX2_boundAbove_19 : decode cX2_boundAbove 19 = .ok (.getstatic 49, 3) := by decide +kernel
theorem dX2_boundAbove_22 : decode cX2_boundAbove 22 = .ok (.iload_n 1, 1) := by decide +kernel
theorem dX2_boundAbove_23 : decode cX2_boundAbove 23 = .ok (.iaload, 1) := by decide +kernel
theorem dX2_boundAbove_24 : decode cX2_boundAbove 24 = .ok (.ireturn, 1) := by decide +kernel
theorem dX2_boundAbove_25 : decode cX2_boundAbove 25 = .ok (.iinc 1 1, 3) := by decide +kernel
theorem dX2_boundAbove_28 : decode cX2_boundAbove 28 = .ok (.goto (-26), 3) := by decide +kernel
theorem dX2_boundAbove_31 : decode cX2_boundAbove 31 = .ok (.ldc 53, 2) := by decide +kernel
theorem dX2_boundAbove_33 : decode cX2_boundAbove 33 = .ok (.ireturn, 1) := by decide +kernel
theorem dX3_init_0 : decode cX3_init 0 = .ok (.aload_n 0, 1) := by decide +kernel
theorem dX3_init_1 : decode cX3_init 1 = .ok (.invokespecial 3, 3) := by decide +kernel
theorem dX3_init_4 : decode cX3_init 4 = .ok (.aload_n 0, 1) := by decide +kernel
theorem dX3_init_5 : decode cX3_init 5 = .ok (.bipush 10, 2) := by decide +kernel
theorem dX3_init_7 : decode cX3_init 7 = .ok (.anewarray 9, 3) := by decide +kernel
theorem dX3_init_10 : decode cX3_init 10 = .ok (.putfield 11, 3) := by decide +kernel
theorem dX3_init_13 : decode cX3_init 13 = .ok (.aload_n 0, 1) := by decide +kernel
theorem dX3_init_14 : decode cX3_init 14 = .ok (.iconst 0, 1) := by decide +kernel
theorem dX3_init_15 : decode cX3_init 15 = .ok (.putfield 17, 3) := by decide +kernel
theorem dX3_init_18 : decode cX3_init 18 = .ok (.aload_n 0, 1) := by decide +kernel
theorem dX3_init_19 : decode cX3_init 19 = .ok (.iconst 0, 1) := by decide +kernel
theorem dX3_init_20 : decode cX3_init 20 = .ok (.putfield 21, 3) := by decide +kernel
theorem dX3_init_23 : decode cX3_init 23 = .ok (.return_, 1) := by decide +kernel
theorem dX3_fill_0 : decode cX3_fill 0 = .ok (.aload_n 0, 1) := by decide +kernel
theorem dX3_fill_1 : decode cX3_fill 1 = .ok (.iconst 0, 1) := by decide +kernel
theorem dX3_fill_2 : decode cX3_fill 2 = .ok (.putfield 17, 3) := by decide +kernel
theorem dX3_fill_5 : decode cX3_fill 5 = .ok (.aload_n 0, 1) := by decide +kernel
theorem dX3_fill_6 : decode cX3_fill 6 = .ok (.iload_n 2, 1) := by decide +kernel
theorem dX3_fill_7 : decode cX3_fill 7 = .ok (.aload_n 1, 1) := by decide +kernel
theorem dX3_fill_8 : decode cX3_fill 8 = .ok (.arraylength, 1) := by decide +kernel
theorem dX3_fill_9 : decode cX3_fill 9 = .ok (.bipush 10, 2) := by decide +kernel
theorem dX3_fill_11 : decode cX3_fill 11 = .ok (.invokestatic 24, 3) := by decide +kernel
theorem dX3_fill_14 : decode cX3_fill 14 = .ok (.invokestatic 24, 3) := by decide +kernel
theorem dX3_fill_17 : decode cX3_fill 17 = .ok (.putfield 21, 3) := by decide +kernel
theorem dX3_fill_20 : decode cX3_fill 20 = .ok (.iconst 0, 1) := by decide +kernel
theorem dX3_fill_21 : decode cX3_fill 21 = .ok (.istore_n 3, 1) := by decide +kernel
theorem dX3_fill_22 : decode cX3_fill 22 = .ok (.iload_n 3, 1) := by decide +kernel
theorem dX3_fill_23 : decode cX3_fill 23 = .ok (.aload_n 0, 1) := by decide +kernel
theorem dX3_fill_24 : decode cX3_fill 24 = .ok (.getfield 21, 3) := by decide +kernel
theorem dX3_fill_27 : decode cX3_fill 27 = .ok (.if_icmp .ge 18, 3) := by decide +kernel
theorem dX3_fill_30 : decode cX3_fill 30 = .ok (.aload_n 0, 1) := by decide +kernel
theorem dX3_fill_31 : decode cX3_fill 31 = .ok (.getfield 11, 3) := by decide +kernel
theorem dX3_fill_34 : decode cX3_fill 34 = .ok (.iload_n 3, 1) := by decide +kernel
theorem dX3_fill_35 : decode cX3_fill 35 = .ok (.aload_n 1, 1) := by decide +kernel
theorem dX3_fill_36 : decode cX3_fill 36 = .ok (.iload_n 3, 1) := by decide +kernel
theorem dX3_fill_37 : decode cX3_fill 37 = .ok (.aaload, 1) := by decide +kernel
theorem dX3_fill_38 : decode cX3_fill 38 = .ok (.aastore, 1) := by decide +kernel
theorem dX3_fill_39 : decode cX3_fill 39 = .ok (.iinc 3 1, 3) := by decide +kernel
theorem dX3_fill_42 : decode cX3_fill 42 = .ok (.goto (-20), 3) := by decide +kernel
theorem dX3_fill_45 : decode cX3_fill 45 = .ok (.return_, 1) := by decide +kernel
theorem dX3_takeFirst_0 : decode cX3_takeFirst 0 = .ok (.aload_n 0, 1) := by decide +kernel
theorem dX3_takeFirst_1 : decode cX3_takeFirst 1 = .ok (.getfield 17, 3) := by decide +kernel
theorem dX3_takeFirst_4 : decode cX3_takeFirst 4 = .ok (.aload_n 0, 1) := by decide +kernel
theorem dX3_takeFirst_5 : decode cX3_takeFirst 5 = .ok (.getfield 21, 3) := by decide +kernel
theorem dX3_takeFirst_8 : decode cX3_takeFirst 8 = .ok (.if_icmp .lt 5, 3) := by decide +kernel
theorem dX3_takeFirst_11 : decode cX3_takeFirst 11 = .ok (.aconst_null, 1) := by decide +kernel
theorem dX3_takeFirst_12 : decode cX3_takeFirst 12 = .ok (.areturn, 1) := by decide +kernel
theorem dX3_takeFirst_13 : decode cX3_takeFirst 13 = .ok (.aload_n 0, 1) := by decide +kernel
theorem dX3_takeFirst_14 : decode cX3_takeFirst 14 = .ok (.dup, 1) := by decide +kernel
theorem dX3_takeFirst_15 : decode cX3_takeFirst 15 = .ok (.getfield 17, 3) := by decide +kernel
theorem dX3_takeFirst_18 : decode cX3_takeFirst 18 = .ok (.iconst 1, 1) := by decide +kernel
theorem dX3_takeFirst_19 : decode cX3_takeFirst 19 = .ok (.iadd, 1) := by decide +kernel
theorem dX3_takeFirst_20 : decode cX3_takeFirst 20 = .ok (.putfield 17, 3) := by decide +kernel
theorem dX3_takeFirst_23 : decode cX3_takeFirst 23 = .ok (.aload_n 0, 1) := by decide +kernel
theorem dX3_takeFirst_24 : decode cX3_takeFirst 24 = .ok (.getfield 11, 3) := by decide +kernel
theorem dX3_takeFirst_27 : decode cX3_takeFirst 27 = .ok (.aload_n 0, 1) := by decide +kernel
theorem dX3_takeFirst_28 : decode cX3_takeFirst 28 = .ok (.getfield 17, 3) := by decide +kernel
theorem dX3_takeFirst_31 : decode cX3_takeFirst 31 = .ok (.iconst 1, 1) := by decide +kernel
theorem dX3_takeFirst_32 : decode cX3_takeFirst 32 = .ok (.isub, 1) := by decide +kernel
theorem dX3_takeFirst_33 : decode cX3_takeFirst 33 = .ok (.aaload, 1) := by decide +kernel
theorem dX3_takeFirst_34 : decode cX3_takeFirst 34 = .ok (.areturn, 1) := by decide +kernel
theorem dX3_putInFront_0 : decode cX3_putInFront 0 = .ok (.aload_n 0, 1) := by decide +kernel
theorem dX3_putInFront_1 : decode cX3_putInFront 1 = .ok (.getfield 17, 3) := by decide +kernel
theorem dX3_putInFront_4 : decode cX3_putInFront 4 = .ok (.ifCond .le 23, 3) := by decide +kernel
theorem dX3_putInFront_7 : decode cX3_putInFront 7 = .ok (.aload_n 0, 1) := by decide +kernel
theorem dX3_putInFront_8 : decode cX3_putInFront 8 = .ok (.dup, 1) := by decide +kernel
theorem dX3_putInFront_9 : decode cX3_putInFront 9 = .ok (.getfield 17, 3) := by decide +kernel
theorem dX3_putInFront_12 : decode cX3_putInFront 12 = .ok (.iconst 1, 1) := by decide +kernel
theorem dX3_putInFront_13 : decode cX3_putInFront 13 = .ok (.isub, 1) := by decide +kernel
theorem dX3_putInFront_14 : decode cX3_putInFront 14 = .ok (.putfield 17, 3) := by decide +kernel
theorem dX3_putInFront_17 : decode cX3_putInFront 17 = .ok (.aload_n 0, 1) := by decide +kernel
theorem dX3_putInFront_18 : decode cX3_putInFront 18 = .ok (.getfield 11, 3) := by decide +kernel
theorem dX3_putInFront_21 : decode cX3_putInFront 21 = .ok (.aload_n 0, 1) := by decide +kernel
theorem dX3_putInFront_22 : decode cX3_putInFront 22 = .ok (.getfield 17, 3) := by decide +kernel
theorem dX3_putInFront_25 : decode cX3_putInFront 25 = .ok (.aload_n 1, 1) := by decide +kernel
theorem dX3_putInFront_26 : decode cX3_putInFront 26 = .ok (.aastore, 1) := by decide +kernel
theorem dX3_putInFront_27 : decode cX3_putInFront 27 = .ok (.return_, 1) := by decide +kernel
theorem dX4_init_0 : decode cX4_init 0 = .ok (.aload_n 0, 1) := by decide +kernel
theorem dX4_init_1 : decode cX4_init 1 = .ok (.invokespecial 3, 3) := by decide +kernel
theorem dX4_init_4 : decode cX4_init 4 = .ok (.aload_n 0, 1) := by decide +kernel
theorem dX4_init_5 : decode cX4_init 5 = .ok (.bipush 8, 2) := by decide +kernel
theorem dX4_init_7 : decode cX4_init 7 = .ok (.newarray .int, 2) := by decide +kernel
theorem dX4_init_9 : decode cX4_init 9 = .ok (.putfield 11, 3) := by decide +kernel
theorem dX4_init_12 : decode cX4_init 12 = .ok (.aload_n 0, 1) := by decide +kernel
theorem dX4_init_13 : decode cX4_init 13 = .ok (.bipush 8, 2) := by decide +kernel
theorem dX4_init_15 : decode cX4_init 15 = .ok (.newarray .int, 2) := by decide +kernel
theorem dX4_init_17 : decode cX4_init 17 = .ok (.putfield 15, 3) := by decide +kernel
theorem dX4_init_20 : decode cX4_init 20 = .ok (.aload_n 0, 1) := by decide +kernel
theorem dX4_init_21 : decode cX4_init 21 = .ok (.bipush 8, 2) := by decide +kernel
theorem dX4_init_23 : decode cX4_init 23 = .ok (.newarray .int, 2) := by decide +kernel
theorem dX4_init_25 : decode cX4_init 25 = .ok (.putfield 18, 3) := by decide +kernel
theorem dX4_init_28 : decode cX4_init 28 = .ok (.aload_n 0, 1) := by decide +kernel
theorem dX4_init_29 : decode cX4_init 29 = .ok (.iconst 0, 1) := by decide +kernel
theorem dX4_init_30 : decode cX4_init 30 = .ok (.putfield 21, 3) := by decide +kernel
theorem dX4_init_33 : decode cX4_init 33 = .ok (.aload_n 0, 1) := by decide +kernel
theorem dX4_init_34 : decode cX4_init 34 = .ok (.iconst 0, 1) := by decide +kernel
theorem dX4_init_35 : decode cX4_init 35 = .ok (.putfield 25, 3) := by decide +kernel
theorem dX4_init_38 : decode cX4_init 38 = .ok (.aload_n 0, 1) := by decide +kernel
theorem dX4_init_39 : decode cX4_init 39 = .ok (.ldc 28, 2) := by decide +kernel
theorem dX4_init_41 : decode cX4_init 41 = .ok (.putfield 29, 3) := by decide +kernel
theorem dX4_init_44 : decode cX4_init 44 = .ok (.aload_n 0, 1) := by decide +kernel
theorem dX4_init_45 : decode cX4_init 45 = .ok (.iconst 0, 1) := by decide +kernel
theorem dX4_init_46 : decode cX4_init 46 = .ok (.putfield 34, 3) := by decide +kernel
theorem dX4_init_49 : decode cX4_init 49 = .ok (.aload_n 0, 1) := by decide +kernel
theorem dX4_init_50 : decode cX4_init 50 = .ok (.iconst 0, 1) := by decide +kernel
theorem dX4_init_51 : decode cX4_init 51 = .ok (.putfield 37, 3) := by decide +kernel
theorem dX4_init_54 : decode cX4_init 54 = .ok (.aload_n 0, 1) := by decide +kernel
theorem dX4_init_55 : decode cX4_init 55 = .ok (.iconst 0, 1) := by decide +kernel
theorem dX4_init_56 : decode cX4_init 56 = .ok (.putfield 40, 3) := by decide +kernel
theorem dX4_init_59 : decode cX4_init 59 = .ok (.return_, 1) := by decide +kernel
theorem dX4_addAct_0 : decode cX4_addAct 0 = .ok (.aload_n 0, 1) := by decide +kernel
theorem dX4_addAct_1 : decode cX4_addAct 1 = .ok (.getfield 25, 3) := by decide +kernel
theorem dX4_addAct_4 : decode cX4_addAct 4 = .ok (.bipush 8, 2) := by decide +kernel
theorem dX4_addAct_6 : decode cX4_addAct 6 = .ok (.if_icmp .lt 5, 3) := by decide +kernel
theorem dX4_addAct_9 : decode cX4_addAct 9 = .ok (.iconst 0, 1) := by decide +kernel
theorem dX4_addAct_10 : decode cX4_addAct 10 = .ok (.ireturn, 1) := by decide +kernel
theorem dX4_addAct_11 : decode cX4_addAct 11 = .ok (.aload_n 0, 1) := by decide +kernel
theorem dX4_addAct_12 : decode cX4_addAct 12 = .ok (.getfield 11, 3) := by decide +kernel
theorem dX4_addAct_15 : decode cX4_addAct 15 = .ok (.aload_n 0, 1) := by decide +kernel
theorem dX4_addAct_16 : decode cX4_addAct 16 = .ok (.getfield 25, 3) := by decide +kernel
theorem dX4_addAct_19 : decode cX4_addAct 19 = .ok (.iload_n 1, 1) := by decide +kernel
theorem dX4_addAct_20 : decode cX4_addAct 20 = .ok (.iastore, 1) := by decide +kernel
theorem dX4_addAct_21 : decode cX4_addAct 21 = .ok (.aload_n 0, 1) := by decide +kernel
theorem dX4_addAct_22 : decode cX4_addAct 22 = .ok (.getfield 15, 3) := by decide +kernel
theorem dX4_addAct_25 : decode cX4_addAct 25 = .ok (.aload_n 0, 1) := by decide +kernel
theorem dX4_addAct_26 : decode cX4_addAct 26 = .ok (.getfield 25, 3) := by decide +kernel
theorem dX4_addAct_29 : decode cX4_addAct 29 = .ok (.iload_n 2, 1) := by decide +kernel
theorem dX4_addAct_30 : decode cX4_addAct 30 = .ok (.iastore, 1) := by decide +kernel
theorem dX4_addAct_31 : decode cX4_addAct 31 = .ok (.aload_n 0, 1) := by decide +kernel
theorem dX4_addAct_32 : decode cX4_addAct 32 = .ok (.getfield 18, 3) := by decide +kernel
theorem dX4_addAct_35 : decode cX4_addAct 35 = .ok (.aload_n 0, 1) := by decide +kernel
theorem dX4_addAct_36 : decode cX4_addAct 36 = .ok (.getfield 25, 3) := by decide +kernel
theorem dX4_addAct_39 : decode cX4_addAct 39 = .ok (.iload_n 3, 1) := by decide +kernel
theorem dX4_addAct_40 : decode cX4_addAct 40 = .ok (.iastore, 1) := by decide +kernel
theorem dX4_addAct_41 : decode cX4_addAct 41 = .ok (.aload_n 0, 1) := by decide +kernel
theorem dX4_addAct_42 : decode cX4_addAct 42 = .ok (.dup, 1) := by decide +kernel
theorem dX4_addAct_43 : decode cX4_addAct 43 = .ok (.getfield 25, 3) := by decide +kernel
theorem dX4_addAct_46 : decode cX4_addAct 46 = .ok (.iconst 1, 1) := by decide +kernel
theorem dX4_addAct_47 : decode cX4_addAct 47 = .ok (.iadd, 1) := by decide +kernel
theorem dX4_addAct_48 : decode cX4_addAct 48 = .ok (.putfield 25, 3) := by decide +kernel
theorem dX4_addAct_51 : decode cX4_addAct 51 = .ok (.iconst 1, 1) := by decide +kernel
theorem dX4_addAct_52 : decode cX4_addAct 52 = .ok (.ireturn, 1) := by decide +kernel
theorem dX5_init_0 : decode cX5_init 0 = .ok (.aload_n 0, 1) := by decide +kernel
theorem dX5_init_1 : decode cX5_init 1 = .ok (.invokespecial 3, 3) := by decide +kernel
theorem dX5_init_4 : decode cX5_init 4 = .ok (.aload_n 0, 1) := by decide +kernel
theorem dX5_init_5 : decode cX5_init 5 = .ok (.iconst 0, 1) := by decide +kernel
theorem dX5_init_6 : decode cX5_init 6 = .ok (.putfield 9, 3) := by decide +kernel
theorem dX5_init_9 : decode cX5_init 9 = .ok (.aload_n 0, 1) := by decide +kernel
theorem dX5_init_10 : decode cX5_init 10 = .ok (.ldc 15, 2) := by decide +kernel
theorem dX5_init_12 : decode cX5_init 12 = .ok (.putfield 16, 3) := by decide +kernel
theorem dX5_init_15 : decode cX5_init 15 = .ok (.aload_n 0, 1) := by decide +kernel
theorem dX5_init_16 : decode cX5_init 16 = .ok (.iconst 0, 1) := by decide +kernel
theorem dX5_init_17 : decode cX5_init 17 = .ok (.putfield 21, 3) := by decide +kernel
theorem dX5_init_20 : decode cX5_init 20 = .ok (.aload_n 0, 1) := by decide +kernel
theorem dX5_init_21 : decode cX5_init 21 = .ok (.iconst 0, 1) := by decide +kernel
theorem dX5_init_22 : decode cX5_init 22 = .ok (.putfield 24, 3) := by decide +kernel
theorem dX5_init_25 : decode cX5_init 25 = .ok (.aload_n 0, 1) := by decide +kernel
theorem dX5_init_26 : decode cX5_init 26 = .ok (.iconst 0, 1) := by decide +kernel
theorem dX5_init_27 : decode cX5_init 27 = .ok (.putfield 27, 3) := by decide +kernel
theorem dX5_init_30 : decode cX5_init 30 = .ok (.aload_n 0, 1) := by decide +kernel
theorem dX5_init_31 : decode cX5_init 31 = .ok (.iconst 0, 1) := by decide +kernel
theorem dX5_init_32 : decode cX5_init 32 = .ok (.putfield 30, 3) := by decide +kernel
theorem dX5_init_35 : decode cX5_init 35 = .ok (.return_, 1) := by decide +kernel
theorem dX5_beginRun_0 : decode cX5_beginRun 0 = .ok (.aload_n 0, 1) := by decide +kernel
theorem dX5_beginRun_1 : decode cX5_beginRun 1 = .ok (.iconst 0, 1) := by decide +kernel
theorem dX5_beginRun_2 : decode cX5_beginRun 2 = .ok (.putfield 9, 3) := by decide +kernel
theorem dX5_beginRun_5 : decode cX5_beginRun 5 = .ok (.aload_n 0, 1) := by decide +kernel
theorem dX5_beginRun_6 : decode cX5_beginRun 6 = .ok (.ldc 15, 2) := by decide +kernel
theorem dX5_beginRun_8 : decode cX5_beginRun 8 = .ok (.putfield 16, 3) := by decide +kernel
theorem dX5_beginRun_11 : decode cX5_beginRun 11 = .ok (.aload_n 0, 1) := by decide +kernel
theorem dX5_beginRun_12 : decode cX5_beginRun 12 = .ok (.iconst 0, 1) := by decide +kernel
theorem dX5_beginRun_13 : decode cX5_beginRun 13 = .ok (.putfield 21, 3) := by decide +kernel
theorem dX5_beginRun_16 : decode cX5_beginRun 16 = .ok (.aload_n 0, 1) := by decide +kernel
theorem dX5_beginRun_17 : decode cX5_beginRun 17 = .ok (.iconst 0, 1) := by decide +kernel
theorem dX5_beginRun_18 : decode cX5_beginRun 18 = .ok (.putfield 24, 3) := by decide +kernel
theorem dX5_beginRun_21 : decode cX5_beginRun 21 = .ok (.aload_n 0, 1) := by decide +kernel
theorem dX5_beginRun_22 : decode cX5_beginRun 22 = .ok (.iconst 0, 1) := by decide +kernel
theorem dX5_beginRun_23 : decode cX5_beginRun 23 = .ok (.putfield 27, 3) := by decide +kernel
theorem dX5_beginRun_26 : decode cX5_beginRun 26 = .ok (.aload_n 0, 1) := by decide +kernel
theorem dX5_beginRun_27 : decode cX5_beginRun 27 = .ok (.iconst 0, 1) := by decide +kernel
theorem dX5_beginRun_28 : decode cX5_beginRun 28 = .ok (.putfield 30, 3) := by decide +kernel
theorem dX5_beginRun_31 : decode cX5_beginRun 31 = .ok (.return_, 1) := by decide +kernel
theorem dX6_init_0 : decode cX6_init 0 = .ok (.aload_n 0, 1) := by decide +kernel
theorem dX6_init_1 : decode cX6_init 1 = .ok (.invokespecial 1, 3) := by decide +kernel
theorem dX6_init_4 : decode cX6_init 4 = .ok (.aload_n 0, 1) := by decide +kernel
theorem dX6_init_5 : decode cX6_init 5 = .ok (.new 7, 3) := by decide +kernel
theorem dX6_init_8 : decode cX6_init 8 = .ok (.dup, 1) := by decide +kernel
theorem dX6_init_9 : decode cX6_init 9 = .ok (.invokespecial 9, 3) := by decide +kernel
theorem dX6_init_12 : decode cX6_init 12 = .ok (.putfield 10, 3) := by decide +kernel
theorem dX6_init_15 : decode cX6_init 15 = .ok (.aload_n 0, 1) := by decide +kernel
theorem dX6_init_16 : decode cX6_init 16 = .ok (.iconst 0, 1) := by decide +kernel
theorem dX6_init_17 : decode cX6_init 17 = .ok (.putfield 16, 3) := by decide +kernel
theorem dX6_init_20 : decode cX6_init 20 = .ok (.aload_n 0, 1) := by decide +kernel
theorem dX6_init_21 : decode cX6_init 21 = .ok (.iconst 0, 1) := by decide +kernel
theorem dX6_init_22 : decode cX6_init 22 = .ok (.putfield 20, 3) := by decide +kernel
theorem dX6_init_25 : decode cX6_init 25 = .ok (.aload_n 0, 1) := by decide +kernel
theorem dX6_init_26 : decode cX6_init 26 = .ok (.aconst_null, 1) := by decide +kernel
theorem dX6_init_27 : decode cX6_init 27 = .ok (.putfield 24, 3) := by decide +kernel
theorem dX6_init_30 : decode cX6_init 30 = .ok (.aload_n 0, 1) := by decide +kernel
theorem dX6_init_31 : decode cX6_init 31 = .ok (.iconst 0, 1) := by decide +kernel
theorem dX6_init_32 : decode cX6_init 32 = .ok (.putfield 28, 3) := by decide +kernel
theorem dX6_init_35 : decode cX6_init 35 = .ok (.aload_n 0, 1) := by decide +kernel
theorem dX6_init_36 : decode cX6_init 36 = .ok (.iload_n 1, 1) := by decide +kernel
theorem dX6_init_37 : decode cX6_init 37 = .ok (.putfield 31, 3) := by decide +kernel
theorem dX6_init_40 : decode cX6_init 40 = .ok (.return_, 1) := by decide +kernel
theorem dX6_isToBeLost_0 : decode cX6_isToBeLost 0 = .ok (.aload_n 0, 1) := by decide +kernel
theorem dX6_isToBeLost_1 : decode cX6_isToBeLost 1 = .ok (.getfield 20, 3) := by decide +kernel
theorem dX6_isToBeLost_4 : decode cX6_isToBeLost 4 = .ok (.ifCond .eq 15, 3) := by decide +kernel
theorem dX6_isToBeLost_7 : decode cX6_isToBeLost 7 = .ok (.iload_n 1, 1) := by decide +kernel
theorem dX6_isToBeLost_8 : decode cX6_isToBeLost 8 = .ok (.aload_n 0, 1) := by decide +kernel
theorem dX6_isToBeLost_9 : decode cX6_isToBeLost 9 = .ok (.getfield 20, 3) := by decide +kernel
theorem dX6_isToBeLost_12 : decode cX6_isToBeLost 12 = .ok (.if_icmp .lt 7, 3) := by decide +kernel
theorem dX6_isToBeLost_15 : decode cX6_isToBeLost 15 = .ok (.iconst 1, 1) := by decide +kernel
theorem dX6_isToBeLost_16 : decode cX6_isToBeLost 16 = .ok (.goto 4, 3) := by decide +kernel
theorem dX6_isToBeLost_19 : decode cX6_isToBeLost 19 = .ok (.iconst 0, 1) := by decide +kernel
theorem dX6_isToBeLost_20 : decode cX6_isToBeLost 20 = .ok (.ireturn, 1) := by decide +kernel
theorem dX6_begin_0 : decode cX6_begin 0 = .ok (.aload_n 0, 1) := by decide +kernel
theorem dX6_begin_1 : decode cX6_begin 1 = .ok (.aload_n 1, 1) := by decide +kernel
theorem dX6_begin_2 : decode cX6_begin 2 = .ok (.putfield 24, 3) := by decide +kernel
theorem dX6_begin_5 : decode cX6_begin 5 = .ok (.aload_n 0, 1) := by decide +kernel
theorem dX6_begin_6 : decode cX6_begin 6 = .ok (.iconst 0, 1) := by decide +kernel
theorem dX6_begin_7 : decode cX6_begin 7 = .ok (.putfield 28, 3) := by decide +kernel
theorem dX6_begin_10 : decode cX6_begin 10 = .ok (.aload_n 0, 1) := by decide +kernel
theorem dX6_begin_11 : decode cX6_begin 11 = .ok (.getfield 10, 3) := by decide +kernel
theorem dX6_begin_14 : decode cX6_begin 14 = .ok (.invokevirtual 34, 3) := by decide +kernel
theorem dX6_begin_17 : decode cX6_begin 17 = .ok (.return_, 1) := by decide +kernel
theorem dX7_init_0 : decode cX7_init 0 = .ok (.aload_n 0, 1) := by decide +kernel
theorem dX7_init_1 : decode cX7_init 1 = .ok (.invokespecial 1, 3) := by decide +kernel
theorem dX7_init_4 : decode cX7_init 4 = .ok (.aload_n 0, 1) := by decide +kernel
theorem dX7_init_5 : decode cX7_init 5 = .ok (.new 7, 3) := by decide +kernel
theorem dX7_init_8 : decode cX7_init 8 = .ok (.dup, 1) := by decide +kernel
theorem dX7_init_9 : decode cX7_init 9 = .ok (.invokespecial 9, 3) := by decide +kernel
theorem dX7_init_12 : decode cX7_init 12 = .ok (.putfield 10, 3) := by decide +kernel
theorem dX7_init_15 : decode cX7_init 15 = .ok (.aload_n 0, 1) := by decide +kernel
theorem dX7_init_16 : decode cX7_init 16 = .ok (.bipush 10, 2) := by decide +kernel
theorem dX7_init_18 : decode cX7_init 18 = .ok (.anewarray 16, 3) := by decide +kernel
theorem dX7_init_21 : decode cX7_init 21 = .ok (.putfield 18, 3) := by decide +kernel
theorem dX7_init_24 : decode cX7_init 24 = .ok (.aload_n 0, 1) := by decide +kernel
theorem dX7_init_25 : decode cX7_init 25 = .ok (.new 22, 3) := by decide +kernel
theorem dX7_init_28 : decode cX7_init 28 = .ok (.dup, 1) := by decide +kernel
theorem dX7_init_29 : decode cX7_init 29 = .ok (.invokespecial 24, 3) := by decide +kernel
theorem dX7_init_32 : decode cX7_init 32 = .ok (.putfield 25, 3) := by decide +kernel
theorem dX7_init_35 : decode cX7_init 35 = .ok (.aload_n 0, 1) := by decide +kernel
theorem dX7_init_36 : decode cX7_init 36 = .ok (.new 29, 3) := by decide +kernel
theorem dX7_init_39 : decode cX7_init 39 = .ok (.dup, 1) := by decide +kernel
theorem dX7_init_40 : decode cX7_init 40 = .ok (.invokespecial 31, 3) := by decide +kernel
theorem dX7_init_43 : decode cX7_init 43 = .ok (.putfield 32, 3) := by decide +kernel
theorem dX7_init_46 : decode cX7_init 46 = .ok (.aload_n 0, 1) := by decide +kernel
theorem dX7_init_47 : decode cX7_init 47 = .ok (.new 36, 3) := by decide +kernel
theorem dX7_init_50 : decode cX7_init 50 = .ok (.dup, 1) := by decide +kernel
theorem dX7_init_51 : decode cX7_init 51 = .ok (.invokespecial 38, 3) := by decide +kernel
theorem dX7_init_54 : decode cX7_init 54 = .ok (.putfield 39, 3) := by decide +kernel
theorem dX7_init_57 : decode cX7_init 57 = .ok (.aload_n 0, 1) := by decide +kernel
theorem dX7_init_58 : decode cX7_init 58 = .ok (.iconst 0, 1) := by decide +kernel
theorem dX7_init_59 : decode cX7_init 59 = .ok (.putfield 43, 3) := by decide +kernel
theorem dX7_init_62 : decode cX7_init 62 = .ok (.aload_n 0, 1) := by decide +kernel
theorem dX7_init_63 : decode cX7_init 63 = .ok (.iconst 0, 1) := by decide +kernel
theorem dX7_init_64 : decode cX7_init 64 = .ok (.putfield 47, 3) := by decide +kernel
theorem dX7_init_67 : decode cX7_init 67 = .ok (.aload_n 0, 1) := by decide +kernel
theorem dX7_init_68 : decode cX7_init 68 = .ok (.iconst 3, 1) := by decide +kernel
theorem dX7_init_69 : decode cX7_init 69 = .ok (.putfield 50, 3) := by decide +kernel
theorem dX7_init_72 : decode cX7_init 72 = .ok (.aload_n 0, 1) := by decide +kernel
theorem dX7_init_73 : decode cX7_init 73 = .ok (.sipush 1000, 3) := by decide +kernel
theorem dX7_init_76 : decode cX7_init 76 = .ok (.putfield 53, 3) := by decide +kernel
theorem dX7_init_79 : decode cX7_init 79 = .ok (.iconst 0, 1) := by decide +kernel
theorem dX7_init_80 : decode cX7_init 80 = .ok (.istore_n 1, 1) := by decide +kernel
theorem dX7_init_81 : decode cX7_init 81 = .ok (.iload_n 1, 1) := by decide +kernel
theorem dX7_init_82 : decode cX7_init 82 = .ok (.bipush 10, 2) := by decide +kernel
theorem dX7_init_84 : decode cX7_init 84 = .ok (.if_icmp .ge 22, 3) := by decide +kernel
theorem dX7_init_87 : decode cX7_init 87 = .ok (.aload_n 0, 1) := by decide +kernel
theorem dX7_init_88 : decode cX7_init 88 = .ok (.getfield 18, 3) := by decide +kernel
theorem dX7_init_91 : decode cX7_init 91 = .ok (.iload_n 1, 1) := by decide +kernel
theorem dX7_init_92 : decode cX7_init 92 = .ok (.new 16, 3) := by decide +kernel
theorem dX7_init_95 : decode cX7_init 95 = .ok (.dup, 1) := by decide +kernel
theorem dX7_init_96 : decode cX7_init 96 = .ok (.invokespecial 56, 3) := by decide +kernel
theorem dX7_init_99 : decode cX7_init 99 = .ok (.aastore, 1) := by decide +kernel
theorem dX7_init_100 : decode cX7_init 100 = .ok (.iinc 1 1, 3) := by decide +kernel
theorem dX7_init_103 : decode cX7_init 103 = .ok (.goto (-22), 3) := by decide +kernel
theorem dX7_init_106 : decode cX7_init 106 = .ok (.return_, 1) := by decide +kernel
theorem dX7_share_0 : decode cX7_share 0 = .ok (.iload_n 1, 1) := by decide +kernel
theorem dX7_share_1 : decode cX7_share 1 = .ok (.invokestatic 57, 3) := by decide +kernel
theorem dX7_share_4 : decode cX7_share 4 = .ok (.ifCond .ne 6, 3) := by decide +kernel
theorem dX7_share_7 : decode cX7_share 7 = .ok (.ldc 61, 2) := by decide +kernel
theorem dX7_share_9 : decode cX7_share 9 = .ok (.ireturn, 1) := by decide +kernel
theorem dX7_share_10 : decode cX7_share 10 = .ok (.aload_n 0, 1) := by decide +kernel
theorem dX7_share_11 : decode cX7_share 11 = .ok (.getfield 43, 3) := by decide +kernel
theorem dX7_share_14 : decode cX7_share 14 = .ok (.bipush 10, 2) := by decide +kernel
theorem dX7_share_16 : decode cX7_share 16 = .ok (.if_icmp .lt 6, 3) := by decide +kernel
theorem dX7_share_19 : decode cX7_share 19 = .ok (.ldc 62, 2) := by decide +kernel
theorem dX7_share_21 : decode cX7_share 21 = .ok (.ireturn, 1) := by decide +kernel
theorem dX7_share_22 : decode cX7_share 22 = .ok (.aload_n 0, 1) := by decide +kernel
theorem dX7_share_23 : decode cX7_share 23 = .ok (.getfield 18, 3) := by decide +kernel
theorem dX7_share_26 : decode cX7_share 26 = .ok (.aload_n 0, 1) := by decide +kernel
theorem dX7_share_27 : decode cX7_share 27 = .ok (.getfield 43, 3) := by decide +kernel
theorem dX7_share_30 : decode cX7_share 30 = .ok (.aaload, 1) := by decide +kernel
theorem dX7_share_31 : decode cX7_share 31 = .ok (.iload_n 1, 1) := by decide +kernel
theorem dX7_share_32 : decode cX7_share 32 = .ok (.putfield 63, 3) := by decide +kernel
theorem dX7_share_35 : decode cX7_share 35 = .ok (.aload_n 0, 1) := by decide +kernel
theorem dX7_share_36 : decode cX7_share 36 = .ok (.dup, 1) := by decide +kernel
theorem dX7_share_37 : decode cX7_share 37 = .ok (.getfield 43, 3) := by decide +kernel
theorem dX7_share_40 : decode cX7_share 40 = .ok (.iconst 1, 1) := by decide +kernel
theorem dX7_share_41 : decode cX7_share 41 = .ok (.iadd, 1) := by decide +kernel
theorem dX7_share_42 : decode cX7_share 42 = .ok (.putfield 43, 3) := by decide +kernel
theorem dX7_share_45 : decode cX7_share 45 = .ok (.aload_n 0, 1) := by decide +kernel
theorem dX7_share_46 : decode cX7_share 46 = .ok (.getfield 43, 3) := by decide +kernel
theorem dX7_share_49 : decode cX7_share 49 = .ok (.iconst 1, 1) := by decide +kernel
theorem dX7_share_50 : decode cX7_share 50 = .ok (.isub, 1) := by decide +kernel
theorem dX7_share_51 : decode cX7_share 51 = .ok (.ireturn, 1) := by decide +kernel
theorem dX7_act_0 : decode cX7_act 0 = .ok (.aload_n 0, 1) := by decide +kernel
theorem dX7_act_1 : decode cX7_act 1 = .ok (.iload_n 1, 1) := by decide +kernel
theorem dX7_act_2 : decode cX7_act 2 = .ok (.invokevirtual 66, 3) := by decide +kernel
theorem dX7_act_5 : decode cX7_act 5 = .ok (.ifCond .ne 6, 3) := by decide +kernel
theorem dX7_act_8 : decode cX7_act 8 = .ok (.ldc 61, 2) := by decide +kernel
theorem dX7_act_10 : decode cX7_act 10 = .ok (.ireturn, 1) := by decide +kernel
theorem dX7_act_11 : decode cX7_act 11 = .ok (.iload_n 2, 1) := by decide +kernel
theorem dX7_act_12 : decode cX7_act 12 = .ok (.ifCond .lt 9, 3) := by decide +kernel
theorem dX7_act_15 : decode cX7_act 15 = .ok (.iload_n 2, 1) := by decide +kernel
theorem dX7_act_16 : decode cX7_act 16 = .ok (.bipush 9, 2) := by decide +kernel
theorem dX7_act_18 : decode cX7_act 18 = .ok (.if_icmp .le 6, 3) := by decide +kernel
theorem dX7_act_21 : decode cX7_act 21 = .ok (.ldc 71, 2) := by decide +kernel
theorem dX7_act_23 : decode cX7_act 23 = .ok (.ireturn, 1) := by decide +kernel
theorem dX7_act_24 : decode cX7_act 24 = .ok (.iload_n 2, 1) := by decide +kernel
theorem dX7_act_25 : decode cX7_act 25 = .ok (.ifCond .ne 21, 3) := by decide +kernel
theorem dX7_act_28 : decode cX7_act 28 = .ok (.iload_n 3, 1) := by decide +kernel
theorem dX7_act_29 : decode cX7_act 29 = .ok (.invokestatic 72, 3) := by decide +kernel
theorem dX7_act_32 : decode cX7_act 32 = .ok (.ifCond .eq 11, 3) := by decide +kernel
theorem dX7_act_35 : decode cX7_act 35 = .ok (.iload 4, 2) := by decide +kernel
theorem dX7_act_37 : decode cX7_act 37 = .ok (.invokestatic 72, 3) := by decide +kernel
theorem dX7_act_40 : decode cX7_act 40 = .ok (.ifCond .ne 6, 3) := by decide +kernel
theorem dX7_act_43 : decode cX7_act 43 = .ok (.ldc 71, 2) := by decide +kernel
theorem dX7_act_45 : decode cX7_act 45 = .ok (.ireturn, 1) := by decide +kernel
theorem dX7_act_46 : decode cX7_act 46 = .ok (.aload_n 0, 1) := by decide +kernel
theorem dX7_act_47 : decode cX7_act 47 = .ok (.getfield 18, 3) := by decide +kernel
theorem dX7_act_50 : decode cX7_act 50 = .ok (.iload_n 1, 1) := by decide +kernel
theorem dX7_act_51 : decode cX7_act 51 = .ok (.aaload, 1) := by decide +kernel
theorem dX7_act_52 : decode cX7_act 52 = .ok (.iload_n 2, 1) := by decide +kernel
theorem dX7_act_53 : decode cX7_act 53 = .ok (.iload_n 3, 1) := by decide +kernel
theorem dX7_act_54 : decode cX7_act 54 = .ok (.iload 4, 2) := by decide +kernel
theorem dX7_act_56 : decode cX7_act 56 = .ok (.invokevirtual 75, 3) := by decide +kernel
theorem dX7_act_59 : decode cX7_act 59 = .ok (.ifCond .eq 15, 3) := by decide +kernel
theorem dX7_act_62 : decode cX7_act 62 = .ok (.aload_n 0, 1) := by decide +kernel
theorem dX7_act_63 : decode cX7_act 63 = .ok (.getfield 18, 3) := by decide +kernel
theorem dX7_act_66 : decode cX7_act 66 = .ok (.iload_n 1, 1) := by decide +kernel
theorem dX7_act_67 : decode cX7_act 67 = .ok (.aaload, 1) := by decide +kernel
theorem dX7_act_68 : decode cX7_act 68 = .ok (.getfield 79, 3) := by decide +kernel
theorem dX7_act_71 : decode cX7_act 71 = .ok (.goto 5, 3) := by decide +kernel
theorem dX7_act_74 : decode cX7_act 74 = .ok (.ldc 62, 2) := by decide +kernel
theorem dX7_act_76 : decode cX7_act 76 = .ok (.ireturn, 1) := by decide +kernel
theorem dX7_fact_0 : decode cX7_fact 0 = .ok (.iload_n 1, 1) := by decide +kernel
theorem dX7_fact_1 : decode cX7_fact 1 = .ok (.invokestatic 57, 3) := by decide +kernel
theorem dX7_fact_4 : decode cX7_fact 4 = .ok (.ifCond .ne 6, 3) := by decide +kernel
theorem dX7_fact_7 : decode cX7_fact 7 = .ok (.ldc 61, 2) := by decide +kernel
theorem dX7_fact_9 : decode cX7_fact 9 = .ok (.ireturn, 1) := by decide +kernel
theorem dX7_fact_10 : decode cX7_fact 10 = .ok (.iload_n 2, 1) := by decide +kernel
theorem dX7_fact_11 : decode cX7_fact 11 = .ok (.invokestatic 72, 3) := by decide +kernel
theorem dX7_fact_14 : decode cX7_fact 14 = .ok (.ifCond .eq 15, 3) := by decide +kernel
theorem dX7_fact_17 : decode cX7_fact 17 = .ok (.iload_n 3, 1) := by decide +kernel
theorem dX7_fact_18 : decode cX7_fact 18 = .ok (.invokestatic 72, 3) := by decide +kernel
theorem dX7_fact_21 : decode cX7_fact 21 = .ok (.ifCond .eq 8, 3) := by decide +kernel
theorem dX7_fact_24 : decode cX7_fact 24 = .ok (.iload_n 2, 1) := by decide +kernel
theorem dX7_fact_25 : decode cX7_fact 25 = .ok (.iload_n 3, 1) := by decide +kernel
theorem dX7_fact_26 : decode cX7_fact 26 = .ok (.if_icmp .le 6, 3) := by decide +kernel
theorem dX7_fact_29 : decode cX7_fact 29 = .ok (.ldc 71, 2) := by decide +kernel
theorem dX7_fact_31 : decode cX7_fact 31 = .ok (.ireturn, 1) := by decide +kernel
theorem dX7_fact_32 : decode cX7_fact 32 = .ok (.aload_n 0, 1) := by decide +kernel
theorem dX7_fact_33 : decode cX7_fact 33 = .ok (.getfield 10, 3) := by decide +kernel
theorem dX7_fact_36 : decode cX7_fact 36 = .ok (.iload_n 1, 1) := by decide +kernel
theorem dX7_fact_37 : decode cX7_fact 37 = .ok (.iload_n 2, 1) := by decide +kernel
theorem dX7_fact_38 : decode cX7_fact 38 = .ok (.iload_n 3, 1) := by decide +kernel
theorem dX7_fact_39 : decode cX7_fact 39 = .ok (.invokevirtual 82, 3) := by decide +kernel
theorem dX7_fact_42 : decode cX7_fact 42 = .ok (.iconst 1, 1) := by decide +kernel
theorem dX7_fact_43 : decode cX7_fact 43 = .ok (.ireturn, 1) := by decide +kernel
theorem dX7_end_0 : decode cX7_end 0 = .ok (.iload_n 1, 1) := by decide +kernel
theorem dX7_end_1 : decode cX7_end 1 = .ok (.invokestatic 57, 3) := by decide +kernel
theorem dX7_end_4 : decode cX7_end 4 = .ok (.ifCond .ne 6, 3) := by decide +kernel
theorem dX7_end_7 : decode cX7_end 7 = .ok (.ldc 61, 2) := by decide +kernel
theorem dX7_end_9 : decode cX7_end 9 = .ok (.ireturn, 1) := by decide +kernel
theorem dX7_end_10 : decode cX7_end 10 = .ok (.iload_n 2, 1) := by decide +kernel
theorem dX7_end_11 : decode cX7_end 11 = .ok (.ifCond .lt 8, 3) := by decide +kernel
theorem dX7_end_14 : decode cX7_end 14 = .ok (.iload_n 2, 1) := by decide +kernel
theorem dX7_end_15 : decode cX7_end 15 = .ok (.iconst 1, 1) := by decide +kernel
theorem dX7_end_16 : decode cX7_end 16 = .ok (.if_icmp .le 6, 3) := by decide +kernel
theorem dX7_end_19 : decode cX7_end 19 = .ok (.ldc 71, 2) := by decide +kernel
theorem dX7_end_21 : decode cX7_end 21 = .ok (.ireturn, 1) := by decide +kernel
theorem dX7_end_22 : decode cX7_end 22 = .ok (.aload_n 0, 1) := by decide +kernel
theorem dX7_end_23 : decode cX7_end 23 = .ok (.getfield 10, 3) := by decide +kernel
theorem dX7_end_26 : decode cX7_end 26 = .ok (.getfield 86, 3) := by decide +kernel
theorem dX7_end_29 : decode cX7_end 29 = .ok (.iload_n 1, 1) := by decide +kernel
theorem dX7_end_30 : decode cX7_end 30 = .ok (.baload, 1) := by decide +kernel
theorem dX7_end_31 : decode cX7_end 31 = .ok (.ifCond .ne 6, 3) := by decide +kernel
theorem dX7_end_34 : decode cX7_end 34 = .ok (.ldc 90, 2) := by decide +kernel
theorem dX7_end_36 : decode cX7_end 36 = .ok (.ireturn, 1) := by decide +kernel
theorem dX7_end_37 : decode cX7_end 37 = .ok (.iload_n 2, 1) := by decide +kernel
theorem dX7_end_38 : decode cX7_end 38 = .ok (.ifCond .ne 15, 3) := by decide +kernel
theorem dX7_end_41 : decode cX7_end 41 = .ok (.aload_n 0, 1) := by decide +kernel
theorem dX7_end_42 : decode cX7_end 42 = .ok (.getfield 10, 3) := by decide +kernel
theorem dX7_end_45 : decode cX7_end 45 = .ok (.getfield 91, 3) := by decide +kernel
theorem dX7_end_48 : decode cX7_end 48 = .ok (.iload_n 1, 1) := by decide +kernel
theorem dX7_end_49 : decode cX7_end 49 = .ok (.iaload, 1) := by decide +kernel
theorem dX7_end_50 : decode cX7_end 50 = .ok (.goto 12, 3) := by decide +kernel
theorem dX7_end_53 : decode cX7_end 53 = .ok (.aload_n 0, 1) := by decide +kernel
theorem dX7_end_54 : decode cX7_end 54 = .ok (.getfield 10, 3) := by decide +kernel
theorem dX7_end_57 : decode cX7_end 57 = .ok (.getfield 95, 3) := by decide +kernel
theorem dX7_end_60 : decode cX7_end 60 = .ok (.iload_n 1, 1) := by decide +kernel
theorem dX7_end_61 : decode cX7_end 61 = .ok (.iaload, 1) := by decide +kernel
theorem dX7_end_62 : decode cX7_end 62 = .ok (.ireturn, 1) := by decide +kernel
theorem dX7_workers_0 : decode cX7_workers 0 = .ok (.iload_n 1, 1) := by decide +kernel
theorem dX7_workers_1 : decode cX7_workers 1 = .ok (.iconst 1, 1) := by decide +kernel
theorem dX7_workers_2 : decode cX7_workers 2 = .ok (.if_icmp .lt 8, 3) := by decide +kernel
theorem dX7_workers_5 : decode cX7_workers 5 = .ok (.iload_n 1, 1) := by decide +kernel
theorem dX7_workers_6 : decode cX7_workers 6 = .ok (.iconst 4, 1) := by decide +kernel
theorem dX7_workers_7 : decode cX7_workers 7 = .ok (.if_icmp .le 6, 3) := by decide +kernel
theorem dX7_workers_10 : decode cX7_workers 10 = .ok (.ldc 71, 2) := by decide +kernel
theorem dX7_workers_12 : decode cX7_workers 12 = .ok (.ireturn, 1) := by decide +kernel
theorem dX7_workers_13 : decode cX7_workers 13 = .ok (.aload_n 0, 1) := by decide +kernel
theorem dX7_workers_14 : decode cX7_workers 14 = .ok (.getfield 32, 3) := by decide +kernel
theorem dX7_workers_17 : decode cX7_workers 17 = .ok (.getfield 98, 3) := by decide +kernel
theorem dX7_workers_20 : decode cX7_workers 20 = .ok (.istore_n 2, 1) := by decide +kernel
theorem dX7_workers_21 : decode cX7_workers 21 = .ok (.aload_n 0, 1) := by decide +kernel
theorem dX7_workers_22 : decode cX7_workers 22 = .ok (.getfield 32, 3) := by decide +kernel
theorem dX7_workers_25 : decode cX7_workers 25 = .ok (.iload_n 1, 1) := by decide +kernel
theorem dX7_workers_26 : decode cX7_workers 26 = .ok (.invokevirtual 101, 3) := by decide +kernel
theorem dX7_workers_29 : decode cX7_workers 29 = .ok (.iload_n 2, 1) := by decide +kernel
theorem dX7_workers_30 : decode cX7_workers 30 = .ok (.ireturn, 1) := by decide +kernel
theorem dX7_lose_0 : decode cX7_lose 0 = .ok (.aload_n 0, 1) := by decide +kernel
theorem dX7_lose_1 : decode cX7_lose 1 = .ok (.getfield 32, 3) := by decide +kernel
theorem dX7_lose_4 : decode cX7_lose 4 = .ok (.iload_n 1, 1) := by decide +kernel
theorem dX7_lose_5 : decode cX7_lose 5 = .ok (.invokevirtual 105, 3) := by decide +kernel
theorem dX7_lose_8 : decode cX7_lose 8 = .ok (.ifCond .ne 6, 3) := by decide +kernel
theorem dX7_lose_11 : decode cX7_lose 11 = .ok (.ldc 61, 2) := by decide +kernel
theorem dX7_lose_13 : decode cX7_lose 13 = .ok (.ireturn, 1) := by decide +kernel
theorem dX7_lose_14 : decode cX7_lose 14 = .ok (.iload_n 2, 1) := by decide +kernel
theorem dX7_lose_15 : decode cX7_lose 15 = .ok (.iconst 1, 1) := by decide +kernel
theorem dX7_lose_16 : decode cX7_lose 16 = .ok (.if_icmp .lt 9, 3) := by decide +kernel
theorem dX7_lose_19 : decode cX7_lose 19 = .ok (.iload_n 2, 1) := by decide +kernel
theorem dX7_lose_20 : decode cX7_lose 20 = .ok (.ldc 108, 2) := by decide +kernel
theorem dX7_lose_22 : decode cX7_lose 22 = .ok (.if_icmp .le 6, 3) := by decide +kernel
theorem dX7_lose_25 : decode cX7_lose 25 = .ok (.ldc 71, 2) := by decide +kernel
theorem dX7_lose_27 : decode cX7_lose 27 = .ok (.ireturn, 1) := by decide +kernel
theorem dX7_lose_28 : decode cX7_lose 28 = .ok (.aload_n 0, 1) := by decide +kernel
theorem dX7_lose_29 : decode cX7_lose 29 = .ok (.getfield 32, 3) := by decide +kernel
theorem dX7_lose_32 : decode cX7_lose 32 = .ok (.getfield 109, 3) := by decide +kernel
theorem dX7_lose_35 : decode cX7_lose 35 = .ok (.iload_n 1, 1) := by decide +kernel
theorem dX7_lose_36 : decode cX7_lose 36 = .ok (.aaload, 1) := by decide +kernel
theorem dX7_lose_37 : decode cX7_lose 37 = .ok (.iload_n 2, 1) := by decide +kernel
theorem dX7_lose_38 : decode cX7_lose 38 = .ok (.putfield 113, 3) := by decide +kernel
theorem dX7_lose_41 : decode cX7_lose 41 = .ok (.iconst 1, 1) := by decide +kernel
theorem dX7_lose_42 : decode cX7_lose 42 = .ok (.ireturn, 1) := by decide +kernel
theorem dX7_seed_0 : decode cX7_seed 0 = .ok (.aload_n 0, 1) := by decide +kernel
theorem dX7_seed_1 : decode cX7_seed 1 = .ok (.getfield 32, 3) := by decide +kernel
theorem dX7_seed_4 : decode cX7_seed 4 = .ok (.getfield 118, 3) := by decide +kernel
theorem dX7_seed_7 : decode cX7_seed 7 = .ok (.istore_n 2, 1) := by decide +kernel
theorem dX7_seed_8 : decode cX7_seed 8 = .ok (.aload_n 0, 1) := by decide +kernel
theorem dX7_seed_9 : decode cX7_seed 9 = .ok (.getfield 32, 3) := by decide +kernel
theorem dX7_seed_12 : decode cX7_seed 12 = .ok (.iload_n 1, 1) := by decide +kernel
theorem dX7_seed_13 : decode cX7_seed 13 = .ok (.putfield 118, 3) := by decide +kernel
theorem dX7_seed_16 : decode cX7_seed 16 = .ok (.iload_n 2, 1) := by decide +kernel
theorem dX7_seed_17 : decode cX7_seed 17 = .ok (.ireturn, 1) := by decide +kernel
theorem dX7_set_0 : decode cX7_set 0 = .ok (.iload_n 1, 1) := by decide +kernel
theorem dX7_set_1 : decode cX7_set 1 = .ok (.iconst 1, 1) := by decide +kernel
theorem dX7_set_2 : decode cX7_set 2 = .ok (.if_icmp .lt 20, 3) := by decide +kernel
theorem dX7_set_5 : decode cX7_set 5 = .ok (.iload_n 1, 1) := by decide +kernel
theorem dX7_set_6 : decode cX7_set 6 = .ok (.bipush 20, 2) := by decide +kernel
theorem dX7_set_8 : decode cX7_set 8 = .ok (.if_icmp .gt 14, 3) := by decide +kernel
theorem dX7_set_11 : decode cX7_set 11 = .ok (.iload_n 2, 1) := by decide +kernel
theorem dX7_set_12 : decode cX7_set 12 = .ok (.ifCond .lt 10, 3) := by decide +kernel
theorem dX7_set_15 : decode cX7_set 15 = .ok (.iload_n 2, 1) := by decide +kernel
theorem dX7_set_16 : decode cX7_set 16 = .ok (.sipush 10000, 3) := by decide +kernel
theorem dX7_set_19 : decode cX7_set 19 = .ok (.if_icmp .le 6, 3) := by decide +kernel
theorem dX7_set_22 : decode cX7_set 22 = .ok (.ldc 71, 2) := by decide +kernel
theorem dX7_set_24 : decode cX7_set 24 = .ok (.ireturn, 1) := by decide +kernel
theorem dX7_set_25 : decode cX7_set 25 = .ok (.aload_n 0, 1) := by decide +kernel
theorem dX7_set_26 : decode cX7_set 26 = .ok (.getfield 50, 3) := by decide +kernel
theorem dX7_set_29 : decode cX7_set 29 = .ok (.istore_n 3, 1) := by decide +kernel
theorem dX7_set_30 : decode cX7_set 30 = .ok (.aload_n 0, 1) := by decide +kernel
theorem dX7_set_31 : decode cX7_set 31 = .ok (.iload_n 1, 1) := by decide +kernel
theorem dX7_set_32 : decode cX7_set 32 = .ok (.putfield 50, 3) := by decide +kernel
theorem dX7_set_35 : decode cX7_set 35 = .ok (.aload_n 0, 1) := by decide +kernel
theorem dX7_set_36 : decode cX7_set 36 = .ok (.iload_n 2, 1) := by decide +kernel
theorem dX7_set_37 : decode cX7_set 37 = .ok (.putfield 53, 3) := by decide +kernel
theorem dX7_set_40 : decode cX7_set 40 = .ok (.iload_n 3, 1) := by decide +kernel
theorem dX7_set_41 : decode cX7_set 41 = .ok (.ireturn, 1) := by decide +kernel
theorem dX7_run_0 : decode cX7_run 0 = .ok (.iload_n 1, 1) := by decide +kernel
theorem dX7_run_1 : decode cX7_run 1 = .ok (.iconst 1, 1) := by decide +kernel
theorem dX7_run_2 : decode cX7_run 2 = .ok (.if_icmp .lt 9, 3) := by decide +kernel
theorem dX7_run_5 : decode cX7_run 5 = .ok (.iload_n 1, 1) := by decide +kernel
theorem dX7_run_6 : decode cX7_run 6 = .ok (.bipush 10, 2) := by decide +kernel
theorem dX7_run_8 : decode cX7_run 8 = .ok (.if_icmp .le 6, 3) := by decide +kernel
theorem dX7_run_11 : decode cX7_run 11 = .ok (.ldc 71, 2) := by decide +kernel
theorem dX7_run_13 : decode cX7_run 13 = .ok (.ireturn, 1) := by decide +kernel
theorem dX7_run_14 : decode cX7_run 14 = .ok (.aload_n 0, 1) := by decide +kernel
theorem dX7_run_15 : decode cX7_run 15 = .ok (.getfield 39, 3) := by decide +kernel
theorem dX7_run_18 : decode cX7_run 18 = .ok (.invokevirtual 121, 3) := by decide +kernel
theorem dX7_run_21 : decode cX7_run 21 = .ok (.iconst 1, 1) := by decide +kernel
theorem dX7_run_22 : decode cX7_run 22 = .ok (.istore_n 2, 1) := by decide +kernel
theorem dX7_run_23 : decode cX7_run 23 = .ok (.iconst 1, 1) := by decide +kernel
theorem dX7_run_24 : decode cX7_run 24 = .ok (.istore_n 3, 1) := by decide +kernel
theorem dX7_run_25 : decode cX7_run 25 = .ok (.iload_n 3, 1) := by decide +kernel
theorem dX7_run_26 : decode cX7_run 26 = .ok (.iload_n 1, 1) := by decide +kernel
theorem dX7_run_27 : decode cX7_run 27 = .ok (.if_icmp .gt 20, 3) := by decide +kernel
theorem dX7_run_30 : decode cX7_run 30 = .ok (.iload_n 2, 1) := by decide +kernel
theorem dX7_run_31 : decode cX7_run 31 = .ok (.iconst 1, 1) := by decide +kernel
theorem dX7_run_32 : decode cX7_run 32 = .ok (.if_icmp .ne 15, 3) := by decide +kernel
theorem dX7_run_35 : decode cX7_run 35 = .ok (.aload_n 0, 1) := by decide +kernel
theorem dX7_run_36 : decode cX7_run 36 = .ok (.iload_n 3, 1) := by decide +kernel
theorem dX7_run_37 : decode cX7_run 37 = .ok (.invokevirtual 124, 3) := by decide +kernel
theorem dX7_run_40 : decode cX7_run 40 = .ok (.istore_n 2, 1) := by decide +kernel
theorem dX7_run_41 : decode cX7_run 41 = .ok (.iinc 3 1, 3) := by decide +kernel
theorem dX7_run_44 : decode cX7_run 44 = .ok (.goto (-19), 3) := by decide +kernel
theorem dX7_run_47 : decode cX7_run 47 = .ok (.iload_n 2, 1) := by decide +kernel
theorem dX7_run_48 : decode cX7_run 48 = .ok (.ireturn, 1) := by decide +kernel
theorem dX7_told_0 : decode cX7_told 0 = .ok (.iload_n 1, 1) := by decide +kernel
theorem dX7_told_1 : decode cX7_told 1 = .ok (.tableswitch 132 0 9 #[55, 63, 71, 79, 87, 95, 103, 111, 119, 124], 55) := by decide +kernel
theorem dX7_told_56 : decode cX7_told 56 = .ok (.aload_n 0, 1) := by decide +kernel
theorem dX7_told_57 : decode cX7_told 57 = .ok (.getfield 39, 3) := by decide +kernel
theorem dX7_told_60 : decode cX7_told 60 = .ok (.getfield 128, 3) := by decide +kernel
theorem dX7_told_63 : decode cX7_told 63 = .ok (.ireturn, 1) := by decide +kernel
theorem dX7_told_64 : decode cX7_told 64 = .ok (.aload_n 0, 1) := by decide +kernel
theorem dX7_told_65 : decode cX7_told 65 = .ok (.getfield 39, 3) := by decide +kernel
theorem dX7_told_68 : decode cX7_told 68 = .ok (.getfield 131, 3) := by decide +kernel
theorem dX7_told_71 : decode cX7_told 71 = .ok (.ireturn, 1) := by decide +kernel
theorem dX7_told_72 : decode cX7_told 72 = .ok (.aload_n 0, 1) := by decide +kernel
theorem dX7_told_73 : decode cX7_told 73 = .ok (.getfield 39, 3) := by decide +kernel
theorem dX7_told_76 : decode cX7_told 76 = .ok (.getfield 134, 3) := by decide +kernel
theorem dX7_told_79 : decode cX7_told 79 = .ok (.ireturn, 1) := by decide +kernel
theorem dX7_told_80 : decode cX7_told 80 = .ok (.aload_n 0, 1) := by decide +kernel
theorem dX7_told_81 : decode cX7_told 81 = .ok (.getfield 39, 3) := by decide +kernel
theorem dX7_told_84 : decode cX7_told 84 = .ok (.getfield 137, 3) := by decide +kernel
theorem dX7_told_87 : decode cX7_told 87 = .ok (.ireturn, 1) := by decide +kernel
theorem dX7_told_88 : decode cX7_told 88 = .ok (.aload_n 0, 1) := by decide +kernel
theorem dX7_told_89 : decode cX7_told 89 = .ok (.getfield 39, 3) := by decide +kernel
theorem dX7_told_92 : decode cX7_told 92 = .ok (.getfield 140, 3) := by decide +kernel
theorem dX7_told_95 : decode cX7_told 95 = .ok (.ireturn, 1) := by decide +kernel
theorem dX7_told_96 : decode cX7_told 96 = .ok (.aload_n 0, 1) := by decide +kernel
theorem dX7_told_97 : decode cX7_told 97 = .ok (.getfield 39, 3) := by decide +kernel
theorem dX7_told_100 : decode cX7_told 100 = .ok (.getfield 143, 3) := by decide +kernel
theorem dX7_told_103 : decode cX7_told 103 = .ok (.ireturn, 1) := by decide +kernel
theorem dX7_told_104 : decode cX7_told 104 = .ok (.aload_n 0, 1) := by decide +kernel
theorem dX7_told_105 : decode cX7_told 105 = .ok (.getfield 32, 3) := by decide +kernel
theorem dX7_told_108 : decode cX7_told 108 = .ok (.getfield 144, 3) := by decide +kernel
theorem dX7_told_111 : decode cX7_told 111 = .ok (.ireturn, 1) := by decide +kernel
theorem dX7_told_112 : decode cX7_told 112 = .ok (.aload_n 0, 1) := by decide +kernel
theorem dX7_told_113 : decode cX7_told 113 = .ok (.getfield 32, 3) := by decide +kernel
theorem dX7_told_116 : decode cX7_told 116 = .ok (.getfield 98, 3) := by decide +kernel
theorem dX7_told_119 : decode cX7_told 119 = .ok (.ireturn, 1) := by decide +kernel
theorem dX7_told_120 : decode cX7_told 120 = .ok (.aload_n 0, 1) := by decide +kernel
theorem dX7_told_121 : decode cX7_told 121 = .ok (.getfield 43, 3) := by decide +kernel
theorem dX7_told_124 : decode cX7_told 124 = .ok (.ireturn, 1) := by decide +kernel
theorem dX7_told_125 : decode cX7_told 125 = .ok (.aload_n 0, 1) := by decide +kernel
theorem dX7_told_126 : decode cX7_told 126 = .ok (.getfield 32, 3) := by decide +kernel
theorem dX7_told_129 : decode cX7_told 129 = .ok (.getfield 147, 3) := by decide +kernel
theorem dX7_told_132 : decode cX7_told 132 = .ok (.ireturn, 1) := by decide +kernel
theorem dX7_told_133 : decode cX7_told 133 = .ok (.ldc 71, 2) := by decide +kernel
theorem dX7_told_135 : decode cX7_told 135 = .ok (.ireturn, 1) := by decide +kernel
theorem dX7_doer_0 : decode cX7_doer 0 = .ok (.aload_n 0, 1) := by decide +kernel
theorem dX7_doer_1 : decode cX7_doer 1 = .ok (.iload_n 1, 1) := by decide +kernel
theorem dX7_doer_2 : decode cX7_doer 2 = .ok (.invokevirtual 66, 3) := by decide +kernel
theorem dX7_doer_5 : decode cX7_doer 5 = .ok (.ifCond .eq 15, 3) := by decide +kernel
theorem dX7_doer_8 : decode cX7_doer 8 = .ok (.aload_n 0, 1) := by decide +kernel
theorem dX7_doer_9 : decode cX7_doer 9 = .ok (.getfield 18, 3) := by decide +kernel
theorem dX7_doer_12 : decode cX7_doer 12 = .ok (.iload_n 1, 1) := by decide +kernel
theorem dX7_doer_13 : decode cX7_doer 13 = .ok (.aaload, 1) := by decide +kernel
theorem dX7_doer_14 : decode cX7_doer 14 = .ok (.getfield 150, 3) := by decide +kernel
theorem dX7_doer_17 : decode cX7_doer 17 = .ok (.goto 5, 3) := by decide +kernel
theorem dX7_doer_20 : decode cX7_doer 20 = .ok (.ldc 61, 2) := by decide +kernel
theorem dX7_doer_22 : decode cX7_doer 22 = .ok (.ireturn, 1) := by decide +kernel
theorem dX7_clear_0 : decode cX7_clear 0 = .ok (.aload_n 0, 1) := by decide +kernel
theorem dX7_clear_1 : decode cX7_clear 1 = .ok (.getfield 32, 3) := by decide +kernel
theorem dX7_clear_4 : decode cX7_clear 4 = .ok (.iconst 0, 1) := by decide +kernel
theorem dX7_clear_5 : decode cX7_clear 5 = .ok (.putfield 144, 3) := by decide +kernel
theorem dX7_clear_8 : decode cX7_clear 8 = .ok (.aload_n 0, 1) := by decide +kernel
theorem dX7_clear_9 : decode cX7_clear 9 = .ok (.getfield 32, 3) := by decide +kernel
theorem dX7_clear_12 : decode cX7_clear 12 = .ok (.iconst 0, 1) := by decide +kernel
theorem dX7_clear_13 : decode cX7_clear 13 = .ok (.putfield 118, 3) := by decide +kernel
theorem dX7_clear_16 : decode cX7_clear 16 = .ok (.aload_n 0, 1) := by decide +kernel
theorem dX7_clear_17 : decode cX7_clear 17 = .ok (.getfield 10, 3) := by decide +kernel
theorem dX7_clear_20 : decode cX7_clear 20 = .ok (.invokevirtual 153, 3) := by decide +kernel
theorem dX7_clear_23 : decode cX7_clear 23 = .ok (.ireturn, 1) := by decide +kernel
theorem dX7_isFact_0 : decode cX7_isFact 0 = .ok (.iload_n 0, 1) := by decide +kernel
theorem dX7_isFact_1 : decode cX7_isFact 1 = .ok (.ifCond .lt 13, 3) := by decide +kernel
theorem dX7_isFact_4 : decode cX7_isFact 4 = .ok (.iload_n 0, 1) := by decide +kernel
theorem dX7_isFact_5 : decode cX7_isFact 5 = .ok (.bipush 10, 2) := by decide +kernel
theorem dX7_isFact_7 : decode cX7_isFact 7 = .ok (.if_icmp .ge 7, 3) := by decide +kernel
theorem dX7_isFact_10 : decode cX7_isFact 10 = .ok (.iconst 1, 1) := by decide +kernel
theorem dX7_isFact_11 : decode cX7_isFact 11 = .ok (.goto 4, 3) := by decide +kernel
theorem dX7_isFact_14 : decode cX7_isFact 14 = .ok (.iconst 0, 1) := by decide +kernel
theorem dX7_isFact_15 : decode cX7_isFact 15 = .ok (.ireturn, 1) := by decide +kernel
theorem dX7_isEnd_0 : decode cX7_isEnd 0 = .ok (.iload_n 0, 1) := by decide +kernel
theorem dX7_isEnd_1 : decode cX7_isEnd 1 = .ok (.ldc 157, 2) := by decide +kernel
theorem dX7_isEnd_3 : decode cX7_isEnd 3 = .ok (.if_icmp .lt 13, 3) := by decide +kernel
theorem dX7_isEnd_6 : decode cX7_isEnd 6 = .ok (.iload_n 0, 1) := by decide +kernel
theorem dX7_isEnd_7 : decode cX7_isEnd 7 = .ok (.ldc 158, 2) := by decide +kernel
theorem dX7_isEnd_9 : decode cX7_isEnd 9 = .ok (.if_icmp .gt 7, 3) := by decide +kernel
theorem dX7_isEnd_12 : decode cX7_isEnd 12 = .ok (.iconst 1, 1) := by decide +kernel
theorem dX7_isEnd_13 : decode cX7_isEnd 13 = .ok (.goto 4, 3) := by decide +kernel
theorem dX7_isEnd_16 : decode cX7_isEnd 16 = .ok (.iconst 0, 1) := by decide +kernel
theorem dX7_isEnd_17 : decode cX7_isEnd 17 = .ok (.ireturn, 1) := by decide +kernel
theorem dX7_nearestEnd_0 : decode cX7_nearestEnd 0 = .ok (.iload_n 0, 1) := by decide +kernel
theorem dX7_nearestEnd_1 : decode cX7_nearestEnd 1 = .ok (.ldc 157, 2) := by decide +kernel
theorem dX7_nearestEnd_3 : decode cX7_nearestEnd 3 = .ok (.if_icmp .ge 6, 3) := by decide +kernel
theorem dX7_nearestEnd_6 : decode cX7_nearestEnd 6 = .ok (.ldc 157, 2) := by decide +kernel
theorem dX7_nearestEnd_8 : decode cX7_nearestEnd 8 = .ok (.ireturn, 1) := by decide +kernel
theorem dX7_nearestEnd_9 : decode cX7_nearestEnd 9 = .ok (.iload_n 0, 1) := by decide +kernel
theorem dX7_nearestEnd_10 : decode cX7_nearestEnd 10 = .ok (.ldc 158, 2) := by decide +kernel
theorem dX7_nearestEnd_12 : decode cX7_nearestEnd 12 = .ok (.if_icmp .le 8, 3) := by decide +kernel
theorem dX7_nearestEnd_15 : decode cX7_nearestEnd 15 = .ok (.ldc 158, 2) := by decide +kernel
theorem dX7_nearestEnd_17 : decode cX7_nearestEnd 17 = .ok (.goto 4, 3) := by decide +kernel
theorem dX7_nearestEnd_20 : decode cX7_nearestEnd 20 = .ok (.iload_n 0, 1) := by decide +kernel
theorem dX7_nearestEnd_21 : decode cX7_nearestEnd 21 = .ok (.ireturn, 1) := by decide +kernel
theorem dX7_isShare_0 : decode cX7_isShare 0 = .ok (.iload_n 1, 1) := by decide +kernel
theorem dX7_isShare_1 : decode cX7_isShare 1 = .ok (.ifCond .lt 15, 3) := by decide +kernel
theorem dX7_isShare_4 : decode cX7_isShare 4 = .ok (.iload_n 1, 1) := by decide +kernel
theorem dX7_isShare_5 : decode cX7_isShare 5 = .ok (.aload_n 0, 1) := by decide +kernel
theorem dX7_isShare_6 : decode cX7_isShare 6 = .ok (.getfield 43, 3) := by decide +kernel
theorem dX7_isShare_9 : decode cX7_isShare 9 = .ok (.if_icmp .ge 7, 3) := by decide +kernel
theorem dX7_isShare_12 : decode cX7_isShare 12 = .ok (.iconst 1, 1) := by decide +kernel
theorem dX7_isShare_13 : decode cX7_isShare 13 = .ok (.goto 4, 3) := by decide +kernel
theorem dX7_isShare_16 : decode cX7_isShare 16 = .ok (.iconst 0, 1) := by decide +kernel
theorem dX7_isShare_17 : decode cX7_isShare 17 = .ok (.ireturn, 1) := by decide +kernel
theorem dX7_playRound_0 : decode cX7_playRound 0 = .ok (.aload_n 0, 1) := by decide +kernel
theorem dX7_playRound_1 : decode cX7_playRound 1 = .ok (.invokevirtual 159, 3) := by decide +kernel
theorem dX7_playRound_4 : decode cX7_playRound 4 = .ok (.iconst 0, 1) := by decide +kernel
theorem dX7_playRound_5 : decode cX7_playRound 5 = .ok (.istore_n 2, 1) := by decide +kernel
theorem dX7_playRound_6 : decode cX7_playRound 6 = .ok (.iload_n 2, 1) := by decide +kernel
theorem dX7_playRound_7 : decode cX7_playRound 7 = .ok (.ldc 158, 2) := by decide +kernel
theorem dX7_playRound_9 : decode cX7_playRound 9 = .ok (.if_icmp .ge 30, 3) := by decide +kernel
theorem dX7_playRound_12 : decode cX7_playRound 12 = .ok (.aload_n 0, 1) := by decide +kernel
theorem dX7_playRound_13 : decode cX7_playRound 13 = .ok (.getfield 47, 3) := by decide +kernel
theorem dX7_playRound_16 : decode cX7_playRound 16 = .ok (.ifCond .le 23, 3) := by decide +kernel
theorem dX7_playRound_19 : decode cX7_playRound 19 = .ok (.aload_n 0, 1) := by decide +kernel
theorem dX7_playRound_20 : decode cX7_playRound 20 = .ok (.getfield 32, 3) := by decide +kernel
theorem dX7_playRound_23 : decode cX7_playRound 23 = .ok (.getfield 98, 3) := by decide +kernel
theorem dX7_playRound_26 : decode cX7_playRound 26 = .ok (.ifCond .le 13, 3) := by decide +kernel
theorem dX7_playRound_29 : decode cX7_playRound 29 = .ok (.aload_n 0, 1) := by decide +kernel
theorem dX7_playRound_30 : decode cX7_playRound 30 = .ok (.invokevirtual 162, 3) := by decide +kernel
theorem dX7_playRound_33 : decode cX7_playRound 33 = .ok (.iinc 2 1, 3) := by decide +kernel
theorem dX7_playRound_36 : decode cX7_playRound 36 = .ok (.goto (-30), 3) := by decide +kernel
theorem dX7_playRound_39 : decode cX7_playRound 39 = .ok (.aload_n 0, 1) := by decide +kernel
theorem dX7_playRound_40 : decode cX7_playRound 40 = .ok (.getfield 47, 3) := by decide +kernel
theorem dX7_playRound_43 : decode cX7_playRound 43 = .ok (.ifCond .le 5, 3) := by decide +kernel
theorem dX7_playRound_46 : decode cX7_playRound 46 = .ok (.iconst 3, 1) := by decide +kernel
theorem dX7_playRound_47 : decode cX7_playRound 47 = .ok (.ireturn, 1) := by decide +kernel
theorem dX7_playRound_48 : decode cX7_playRound 48 = .ok (.aload_n 0, 1) := by decide +kernel
theorem dX7_playRound_49 : decode cX7_playRound 49 = .ok (.invokevirtual 165, 3) := by decide +kernel
theorem dX7_playRound_52 : decode cX7_playRound 52 = .ok (.istore_n 2, 1) := by decide +kernel
theorem dX7_playRound_53 : decode cX7_playRound 53 = .ok (.iload_n 2, 1) := by decide +kernel
theorem dX7_playRound_54 : decode cX7_playRound 54 = .ok (.ldc 90, 2) := by decide +kernel
theorem dX7_playRound_56 : decode cX7_playRound 56 = .ok (.if_icmp .eq 29, 3) := by decide +kernel
theorem dX7_playRound_59 : decode cX7_playRound 59 = .ok (.aload_n 0, 1) := by decide +kernel
theorem dX7_playRound_60 : decode cX7_playRound 60 = .ok (.getfield 39, 3) := by decide +kernel
theorem dX7_playRound_63 : decode cX7_playRound 63 = .ok (.iload_n 2, 1) := by decide +kernel
theorem dX7_playRound_64 : decode cX7_playRound 64 = .ok (.putfield 131, 3) := by decide +kernel
theorem dX7_playRound_67 : decode cX7_playRound 67 = .ok (.aload_n 0, 1) := by decide +kernel
theorem dX7_playRound_68 : decode cX7_playRound 68 = .ok (.getfield 39, 3) := by decide +kernel
theorem dX7_playRound_71 : decode cX7_playRound 71 = .ok (.aload_n 0, 1) := by decide +kernel
theorem dX7_playRound_72 : decode cX7_playRound 72 = .ok (.getfield 18, 3) := by decide +kernel
theorem dX7_playRound_75 : decode cX7_playRound 75 = .ok (.iload_n 2, 1) := by decide +kernel
theorem dX7_playRound_76 : decode cX7_playRound 76 = .ok (.aaload, 1) := by decide +kernel
theorem dX7_playRound_77 : decode cX7_playRound 77 = .ok (.getfield 168, 3) := by decide +kernel
theorem dX7_playRound_80 : decode cX7_playRound 80 = .ok (.putfield 134, 3) := by decide +kernel
theorem dX7_playRound_83 : decode cX7_playRound 83 = .ok (.iconst 2, 1) := by decide +kernel
theorem dX7_playRound_84 : decode cX7_playRound 84 = .ok (.ireturn, 1) := by decide +kernel
theorem dX7_playRound_85 : decode cX7_playRound 85 = .ok (.aload_n 0, 1) := by decide +kernel
theorem dX7_playRound_86 : decode cX7_playRound 86 = .ok (.getfield 39, 3) := by decide +kernel
theorem dX7_playRound_89 : decode cX7_playRound 89 = .ok (.getfield 137, 3) := by decide +kernel
theorem dX7_playRound_92 : decode cX7_playRound 92 = .ok (.aload_n 0, 1) := by decide +kernel
theorem dX7_playRound_93 : decode cX7_playRound 93 = .ok (.invokevirtual 169, 3) := by decide +kernel
theorem dX7_playRound_96 : decode cX7_playRound 96 = .ok (.iadd, 1) := by decide +kernel
theorem dX7_playRound_97 : decode cX7_playRound 97 = .ok (.istore_n 3, 1) := by decide +kernel
theorem dX7_playRound_98 : decode cX7_playRound 98 = .ok (.iload_n 3, 1) := by decide +kernel
theorem dX7_playRound_99 : decode cX7_playRound 99 = .ok (.aload_n 0, 1) := by decide +kernel
theorem dX7_playRound_100 : decode cX7_playRound 100 = .ok (.getfield 53, 3) := by decide +kernel
theorem dX7_playRound_103 : decode cX7_playRound 103 = .ok (.if_icmp .le 5, 3) := by decide +kernel
theorem dX7_playRound_106 : decode cX7_playRound 106 = .ok (.iconst 4, 1) := by decide +kernel
theorem dX7_playRound_107 : decode cX7_playRound 107 = .ok (.ireturn, 1) := by decide +kernel
theorem dX7_playRound_108 : decode cX7_playRound 108 = .ok (.aload_n 0, 1) := by decide +kernel
theorem dX7_playRound_109 : decode cX7_playRound 109 = .ok (.getfield 39, 3) := by decide +kernel
theorem dX7_playRound_112 : decode cX7_playRound 112 = .ok (.iload_n 3, 1) := by decide +kernel
theorem dX7_playRound_113 : decode cX7_playRound 113 = .ok (.putfield 137, 3) := by decide +kernel
theorem dX7_playRound_116 : decode cX7_playRound 116 = .ok (.aload_n 0, 1) := by decide +kernel
theorem dX7_playRound_117 : decode cX7_playRound 117 = .ok (.getfield 39, 3) := by decide +kernel
theorem dX7_playRound_120 : decode cX7_playRound 120 = .ok (.dup, 1) := by decide +kernel
theorem dX7_playRound_121 : decode cX7_playRound 121 = .ok (.getfield 128, 3) := by decide +kernel
theorem dX7_playRound_124 : decode cX7_playRound 124 = .ok (.iconst 1, 1) := by decide +kernel
theorem dX7_playRound_125 : decode cX7_playRound 125 = .ok (.iadd, 1) := by decide +kernel
theorem dX7_playRound_126 : decode cX7_playRound 126 = .ok (.putfield 128, 3) := by decide +kernel
theorem dX7_playRound_129 : decode cX7_playRound 129 = .ok (.aload_n 0, 1) := by decide +kernel
theorem dX7_playRound_130 : decode cX7_playRound 130 = .ok (.iload_n 1, 1) := by decide +kernel
theorem dX7_playRound_131 : decode cX7_playRound 131 = .ok (.aload_n 0, 1) := by decide +kernel
theorem dX7_playRound_132 : decode cX7_playRound 132 = .ok (.getfield 50, 3) := by decide +kernel
theorem dX7_playRound_135 : decode cX7_playRound 135 = .ok (.if_icmp .lt 7, 3) := by decide +kernel
theorem dX7_playRound_138 : decode cX7_playRound 138 = .ok (.iconst 1, 1) := by decide +kernel
theorem dX7_playRound_139 : decode cX7_playRound 139 = .ok (.goto 4, 3) := by decide +kernel
theorem dX7_playRound_142 : decode cX7_playRound 142 = .ok (.iconst 0, 1) := by decide +kernel
theorem dX7_playRound_143 : decode cX7_playRound 143 = .ok (.invokevirtual 172, 3) := by decide +kernel
theorem dX7_playRound_146 : decode cX7_playRound 146 = .ok (.ifCond .eq 7, 3) := by decide +kernel
theorem dX7_playRound_149 : decode cX7_playRound 149 = .ok (.iconst 1, 1) := by decide +kernel
theorem dX7_playRound_150 : decode cX7_playRound 150 = .ok (.goto 4, 3) := by decide +kernel
theorem dX7_playRound_153 : decode cX7_playRound 153 = .ok (.iconst 0, 1) := by decide +kernel
theorem dX7_playRound_154 : decode cX7_playRound 154 = .ok (.ireturn, 1) := by decide +kernel
theorem dX7_beginRound_0 : decode cX7_beginRound 0 = .ok (.aload_n 0, 1) := by decide +kernel
theorem dX7_beginRound_1 : decode cX7_beginRound 1 = .ok (.getfield 25, 3) := by decide +kernel
theorem dX7_beginRound_4 : decode cX7_beginRound 4 = .ok (.aload_n 0, 1) := by decide +kernel
theorem dX7_beginRound_5 : decode cX7_beginRound 5 = .ok (.getfield 18, 3) := by decide +kernel
theorem dX7_beginRound_8 : decode cX7_beginRound 8 = .ok (.aload_n 0, 1) := by decide +kernel
theorem dX7_beginRound_9 : decode cX7_beginRound 9 = .ok (.getfield 43, 3) := by decide +kernel
theorem dX7_beginRound_12 : decode cX7_beginRound 12 = .ok (.invokevirtual 176, 3) := by decide +kernel
theorem dX7_beginRound_15 : decode cX7_beginRound 15 = .ok (.iconst 0, 1) := by decide +kernel
theorem dX7_beginRound_16 : decode cX7_beginRound 16 = .ok (.istore_n 1, 1) := by decide +kernel
theorem dX7_beginRound_17 : decode cX7_beginRound 17 = .ok (.iload_n 1, 1) := by decide +kernel
theorem dX7_beginRound_18 : decode cX7_beginRound 18 = .ok (.aload_n 0, 1) := by decide +kernel
theorem dX7_beginRound_19 : decode cX7_beginRound 19 = .ok (.getfield 43, 3) := by decide +kernel
theorem dX7_beginRound_22 : decode cX7_beginRound 22 = .ok (.if_icmp .ge 20, 3) := by decide +kernel
theorem dX7_beginRound_25 : decode cX7_beginRound 25 = .ok (.aload_n 0, 1) := by decide +kernel
theorem dX7_beginRound_26 : decode cX7_beginRound 26 = .ok (.getfield 18, 3) := by decide +kernel
theorem dX7_beginRound_29 : decode cX7_beginRound 29 = .ok (.iload_n 1, 1) := by decide +kernel
theorem dX7_beginRound_30 : decode cX7_beginRound 30 = .ok (.aaload, 1) := by decide +kernel
theorem dX7_beginRound_31 : decode cX7_beginRound 31 = .ok (.ldc 90, 2) := by decide +kernel
theorem dX7_beginRound_33 : decode cX7_beginRound 33 = .ok (.putfield 150, 3) := by decide +kernel
theorem dX7_beginRound_36 : decode cX7_beginRound 36 = .ok (.iinc 1 1, 3) := by decide +kernel
theorem dX7_beginRound_39 : decode cX7_beginRound 39 = .ok (.goto (-22), 3) := by decide +kernel
theorem dX7_beginRound_42 : decode cX7_beginRound 42 = .ok (.aload_n 0, 1) := by decide +kernel
theorem dX7_beginRound_43 : decode cX7_beginRound 43 = .ok (.aload_n 0, 1) := by decide +kernel
theorem dX7_beginRound_44 : decode cX7_beginRound 44 = .ok (.getfield 43, 3) := by decide +kernel
theorem dX7_beginRound_47 : decode cX7_beginRound 47 = .ok (.putfield 47, 3) := by decide +kernel
theorem dX7_beginRound_50 : decode cX7_beginRound 50 = .ok (.return_, 1) := by decide +kernel
theorem dX7_playTurn_0 : decode cX7_playTurn 0 = .ok (.aload_n 0, 1) := by decide +kernel
theorem dX7_playTurn_1 : decode cX7_playTurn 1 = .ok (.getfield 32, 3) := by decide +kernel
theorem dX7_playTurn_4 : decode cX7_playTurn 4 = .ok (.invokevirtual 180, 3) := by decide +kernel
theorem dX7_playTurn_7 : decode cX7_playTurn 7 = .ok (.astore_n 1, 1) := by decide +kernel
theorem dX7_playTurn_8 : decode cX7_playTurn 8 = .ok (.aload_n 1, 1) := by decide +kernel
theorem dX7_playTurn_9 : decode cX7_playTurn 9 = .ok (.ifnonnull 4, 3) := by decide +kernel
theorem dX7_playTurn_12 : decode cX7_playTurn 12 = .ok (.return_, 1) := by decide +kernel
theorem dX7_playTurn_13 : decode cX7_playTurn 13 = .ok (.aload_n 1, 1) := by decide +kernel
theorem dX7_playTurn_14 : decode cX7_playTurn 14 = .ok (.aload_n 0, 1) := by decide +kernel
theorem dX7_playTurn_15 : decode cX7_playTurn 15 = .ok (.getfield 32, 3) := by decide +kernel
theorem dX7_playTurn_18 : decode cX7_playTurn 18 = .ok (.getfield 144, 3) := by decide +kernel
theorem dX7_playTurn_21 : decode cX7_playTurn 21 = .ok (.invokevirtual 184, 3) := by decide +kernel
theorem dX7_playTurn_24 : decode cX7_playTurn 24 = .ok (.ifCond .eq 11, 3) := by decide +kernel
theorem dX7_playTurn_27 : decode cX7_playTurn 27 = .ok (.aload_n 0, 1) := by decide +kernel
theorem dX7_playTurn_28 : decode cX7_playTurn 28 = .ok (.aload_n 1, 1) := by decide +kernel
theorem dX7_playTurn_29 : decode cX7_playTurn 29 = .ok (.invokevirtual 187, 3) := by decide +kernel
theorem dX7_playTurn_32 : decode cX7_playTurn 32 = .ok (.goto 27, 3) := by decide +kernel
theorem dX7_playTurn_35 : decode cX7_playTurn 35 = .ok (.aload_n 1, 1) := by decide +kernel
theorem dX7_playTurn_36 : decode cX7_playTurn 36 = .ok (.getfield 191, 3) := by decide +kernel
theorem dX7_playTurn_39 : decode cX7_playTurn 39 = .ok (.ifnonnull 11, 3) := by decide +kernel
theorem dX7_playTurn_42 : decode cX7_playTurn 42 = .ok (.aload_n 0, 1) := by decide +kernel
theorem dX7_playTurn_43 : decode cX7_playTurn 43 = .ok (.aload_n 1, 1) := by decide +kernel
theorem dX7_playTurn_44 : decode cX7_playTurn 44 = .ok (.invokevirtual 195, 3) := by decide +kernel
theorem dX7_playTurn_47 : decode cX7_playTurn 47 = .ok (.goto 12, 3) := by decide +kernel
theorem dX7_playTurn_50 : decode cX7_playTurn 50 = .ok (.aload_n 0, 1) := by decide +kernel
theorem dX7_playTurn_51 : decode cX7_playTurn 51 = .ok (.aload_n 1, 1) := by decide +kernel
theorem dX7_playTurn_52 : decode cX7_playTurn 52 = .ok (.aload_n 1, 1) := by decide +kernel
theorem dX7_playTurn_53 : decode cX7_playTurn 53 = .ok (.getfield 191, 3) := by decide +kernel
theorem dX7_playTurn_56 : decode cX7_playTurn 56 = .ok (.invokevirtual 198, 3) := by decide +kernel
theorem dX7_playTurn_59 : decode cX7_playTurn 59 = .ok (.return_, 1) := by decide +kernel
theorem dX7_loseNow_0 : decode cX7_loseNow 0 = .ok (.aload_n 1, 1) := by decide +kernel
theorem dX7_loseNow_1 : decode cX7_loseNow 1 = .ok (.getfield 191, 3) := by decide +kernel
theorem dX7_loseNow_4 : decode cX7_loseNow 4 = .ok (.ifnull 32, 3) := by decide +kernel
theorem dX7_loseNow_7 : decode cX7_loseNow 7 = .ok (.aload_n 0, 1) := by decide +kernel
theorem dX7_loseNow_8 : decode cX7_loseNow 8 = .ok (.getfield 25, 3) := by decide +kernel
theorem dX7_loseNow_11 : decode cX7_loseNow 11 = .ok (.aload_n 1, 1) := by decide +kernel
theorem dX7_loseNow_12 : decode cX7_loseNow 12 = .ok (.getfield 191, 3) := by decide +kernel
theorem dX7_loseNow_15 : decode cX7_loseNow 15 = .ok (.invokevirtual 202, 3) := by decide +kernel
theorem dX7_loseNow_18 : decode cX7_loseNow 18 = .ok (.aload_n 1, 1) := by decide +kernel
theorem dX7_loseNow_19 : decode cX7_loseNow 19 = .ok (.aconst_null, 1) := by decide +kernel
theorem dX7_loseNow_20 : decode cX7_loseNow 20 = .ok (.putfield 191, 3) := by decide +kernel
theorem dX7_loseNow_23 : decode cX7_loseNow 23 = .ok (.aload_n 0, 1) := by decide +kernel
theorem dX7_loseNow_24 : decode cX7_loseNow 24 = .ok (.getfield 39, 3) := by decide +kernel
theorem dX7_loseNow_27 : decode cX7_loseNow 27 = .ok (.dup, 1) := by decide +kernel
theorem dX7_loseNow_28 : decode cX7_loseNow 28 = .ok (.getfield 143, 3) := by decide +kernel
theorem dX7_loseNow_31 : decode cX7_loseNow 31 = .ok (.iconst 1, 1) := by decide +kernel
theorem dX7_loseNow_32 : decode cX7_loseNow 32 = .ok (.iadd, 1) := by decide +kernel
theorem dX7_loseNow_33 : decode cX7_loseNow 33 = .ok (.putfield 143, 3) := by decide +kernel
theorem dX7_loseNow_36 : decode cX7_loseNow 36 = .ok (.aload_n 0, 1) := by decide +kernel
theorem dX7_loseNow_37 : decode cX7_loseNow 37 = .ok (.getfield 32, 3) := by decide +kernel
theorem dX7_loseNow_40 : decode cX7_loseNow 40 = .ok (.aload_n 1, 1) := by decide +kernel
theorem dX7_loseNow_41 : decode cX7_loseNow 41 = .ok (.invokevirtual 206, 3) := by decide +kernel
theorem dX7_loseNow_44 : decode cX7_loseNow 44 = .ok (.return_, 1) := by decide +kernel
theorem dX7_takeShare_0 : decode cX7_takeShare 0 = .ok (.aload_n 0, 1) := by decide +kernel
theorem dX7_takeShare_1 : decode cX7_takeShare 1 = .ok (.getfield 25, 3) := by decide +kernel
theorem dX7_takeShare_4 : decode cX7_takeShare 4 = .ok (.invokevirtual 209, 3) := by decide +kernel
theorem dX7_takeShare_7 : decode cX7_takeShare 7 = .ok (.astore_n 2, 1) := by decide +kernel
theorem dX7_takeShare_8 : decode cX7_takeShare 8 = .ok (.aload_n 2, 1) := by decide +kernel
theorem dX7_takeShare_9 : decode cX7_takeShare 9 = .ok (.ifnonnull 4, 3) := by decide +kernel
theorem dX7_takeShare_12 : decode cX7_takeShare 12 = .ok (.return_, 1) := by decide +kernel
theorem dX7_takeShare_13 : decode cX7_takeShare 13 = .ok (.aload_n 0, 1) := by decide +kernel
theorem dX7_takeShare_14 : decode cX7_takeShare 14 = .ok (.getfield 39, 3) := by decide +kernel
theorem dX7_takeShare_17 : decode cX7_takeShare 17 = .ok (.dup, 1) := by decide +kernel
theorem dX7_takeShare_18 : decode cX7_takeShare 18 = .ok (.getfield 140, 3) := by decide +kernel
theorem dX7_takeShare_21 : decode cX7_takeShare 21 = .ok (.iconst 1, 1) := by decide +kernel
theorem dX7_takeShare_22 : decode cX7_takeShare 22 = .ok (.iadd, 1) := by decide +kernel
theorem dX7_takeShare_23 : decode cX7_takeShare 23 = .ok (.putfield 140, 3) := by decide +kernel
theorem dX7_takeShare_26 : decode cX7_takeShare 26 = .ok (.aload_n 1, 1) := by decide +kernel
theorem dX7_takeShare_27 : decode cX7_takeShare 27 = .ok (.aload_n 2, 1) := by decide +kernel
theorem dX7_takeShare_28 : decode cX7_takeShare 28 = .ok (.invokevirtual 213, 3) := by decide +kernel
theorem dX7_takeShare_31 : decode cX7_takeShare 31 = .ok (.aload_n 2, 1) := by decide +kernel
theorem dX7_takeShare_32 : decode cX7_takeShare 32 = .ok (.getfield 79, 3) := by decide +kernel
theorem dX7_takeShare_35 : decode cX7_takeShare 35 = .ok (.ifCond .ne 10, 3) := by decide +kernel
theorem dX7_takeShare_38 : decode cX7_takeShare 38 = .ok (.aload_n 0, 1) := by decide +kernel
theorem dX7_takeShare_39 : decode cX7_takeShare 39 = .ok (.aload_n 1, 1) := by decide +kernel
theorem dX7_takeShare_40 : decode cX7_takeShare 40 = .ok (.aload_n 2, 1) := by decide +kernel
theorem dX7_takeShare_41 : decode cX7_takeShare 41 = .ok (.iconst 0, 1) := by decide +kernel
theorem dX7_takeShare_42 : decode cX7_takeShare 42 = .ok (.invokevirtual 216, 3) := by decide +kernel
theorem dX7_takeShare_45 : decode cX7_takeShare 45 = .ok (.return_, 1) := by decide +kernel
theorem dX7_doNextAct_0 : decode cX7_doNextAct 0 = .ok (.aload_n 1, 1) := by decide +kernel
theorem dX7_doNextAct_1 : decode cX7_doNextAct 1 = .ok (.getfield 220, 3) := by decide +kernel
theorem dX7_doNextAct_4 : decode cX7_doNextAct 4 = .ok (.istore_n 3, 1) := by decide +kernel
theorem dX7_doNextAct_5 : decode cX7_doNextAct 5 = .ok (.iload_n 3, 1) := by decide +kernel
theorem dX7_doNextAct_6 : decode cX7_doNextAct 6 = .ok (.ifCond .lt 11, 3) := by decide +kernel
theorem dX7_doNextAct_9 : decode cX7_doNextAct 9 = .ok (.iload_n 3, 1) := by decide +kernel
theorem dX7_doNextAct_10 : decode cX7_doNextAct 10 = .ok (.aload_n 2, 1) := by decide +kernel
theorem dX7_doNextAct_11 : decode cX7_doNextAct 11 = .ok (.getfield 79, 3) := by decide +kernel
theorem dX7_doNextAct_14 : decode cX7_doNextAct 14 = .ok (.if_icmp .lt 4, 3) := by decide +kernel
theorem dX7_doNextAct_17 : decode cX7_doNextAct 17 = .ok (.return_, 1) := by decide +kernel
theorem dX7_doNextAct_18 : decode cX7_doNextAct 18 = .ok (.aload_n 1, 1) := by decide +kernel
theorem dX7_doNextAct_19 : decode cX7_doNextAct 19 = .ok (.getfield 223, 3) := by decide +kernel
theorem dX7_doNextAct_22 : decode cX7_doNextAct 22 = .ok (.aload_n 2, 1) := by decide +kernel
theorem dX7_doNextAct_23 : decode cX7_doNextAct 23 = .ok (.getfield 227, 3) := by decide +kernel
theorem dX7_doNextAct_26 : decode cX7_doNextAct 26 = .ok (.iload_n 3, 1) := by decide +kernel
theorem dX7_doNextAct_27 : decode cX7_doNextAct 27 = .ok (.iaload, 1) := by decide +kernel
theorem dX7_doNextAct_28 : decode cX7_doNextAct 28 = .ok (.aload_n 2, 1) := by decide +kernel
theorem dX7_doNextAct_29 : decode cX7_doNextAct 29 = .ok (.getfield 230, 3) := by decide +kernel
theorem dX7_doNextAct_32 : decode cX7_doNextAct 32 = .ok (.iload_n 3, 1) := by decide +kernel
theorem dX7_doNextAct_33 : decode cX7_doNextAct 33 = .ok (.iaload, 1) := by decide +kernel
theorem dX7_doNextAct_34 : decode cX7_doNextAct 34 = .ok (.aload_n 2, 1) := by decide +kernel
theorem dX7_doNextAct_35 : decode cX7_doNextAct 35 = .ok (.getfield 233, 3) := by decide +kernel
theorem dX7_doNextAct_38 : decode cX7_doNextAct 38 = .ok (.iload_n 3, 1) := by decide +kernel
theorem dX7_doNextAct_39 : decode cX7_doNextAct 39 = .ok (.iaload, 1) := by decide +kernel
theorem dX7_doNextAct_40 : decode cX7_doNextAct 40 = .ok (.aload_n 0, 1) := by decide +kernel
theorem dX7_doNextAct_41 : decode cX7_doNextAct 41 = .ok (.getfield 10, 3) := by decide +kernel
theorem dX7_doNextAct_44 : decode cX7_doNextAct 44 = .ok (.invokevirtual 236, 3) := by decide +kernel
theorem dX7_doNextAct_47 : decode cX7_doNextAct 47 = .ok (.istore 4, 2) := by decide +kernel
theorem dX7_doNextAct_49 : decode cX7_doNextAct 49 = .ok (.aload_n 1, 1) := by decide +kernel
theorem dX7_doNextAct_50 : decode cX7_doNextAct 50 = .ok (.iload_n 3, 1) := by decide +kernel
theorem dX7_doNextAct_51 : decode cX7_doNextAct 51 = .ok (.iconst 1, 1) := by decide +kernel
theorem dX7_doNextAct_52 : decode cX7_doNextAct 52 = .ok (.iadd, 1) := by decide +kernel
theorem dX7_doNextAct_53 : decode cX7_doNextAct 53 = .ok (.putfield 220, 3) := by decide +kernel
theorem dX7_doNextAct_56 : decode cX7_doNextAct 56 = .ok (.iload 4, 2) := by decide +kernel
theorem dX7_doNextAct_58 : decode cX7_doNextAct 58 = .ok (.ifCond .ne 14, 3) := by decide +kernel
theorem dX7_doNextAct_61 : decode cX7_doNextAct 61 = .ok (.aload_n 1, 1) := by decide +kernel
theorem dX7_doNextAct_62 : decode cX7_doNextAct 62 = .ok (.getfield 220, 3) := by decide +kernel
theorem dX7_doNextAct_65 : decode cX7_doNextAct 65 = .ok (.aload_n 2, 1) := by decide +kernel
theorem dX7_doNextAct_66 : decode cX7_doNextAct 66 = .ok (.getfield 79, 3) := by decide +kernel
theorem dX7_doNextAct_69 : decode cX7_doNextAct 69 = .ok (.if_icmp .lt 11, 3) := by decide +kernel
theorem dX7_doNextAct_72 : decode cX7_doNextAct 72 = .ok (.aload_n 0, 1) := by decide +kernel
theorem dX7_doNextAct_73 : decode cX7_doNextAct 73 = .ok (.aload_n 1, 1) := by decide +kernel
theorem dX7_doNextAct_74 : decode cX7_doNextAct 74 = .ok (.aload_n 2, 1) := by decide +kernel
theorem dX7_doNextAct_75 : decode cX7_doNextAct 75 = .ok (.iload 4, 2) := by decide +kernel
theorem dX7_doNextAct_77 : decode cX7_doNextAct 77 = .ok (.invokevirtual 216, 3) := by decide +kernel
theorem dX7_doNextAct_80 : decode cX7_doNextAct 80 = .ok (.return_, 1) := by decide +kernel
theorem dX7_finish_0 : decode cX7_finish 0 = .ok (.aload_n 2, 1) := by decide +kernel
theorem dX7_finish_1 : decode cX7_finish 1 = .ok (.iload_n 3, 1) := by decide +kernel
theorem dX7_finish_2 : decode cX7_finish 2 = .ok (.ifCond .ne 14, 3) := by decide +kernel
theorem dX7_finish_5 : decode cX7_finish 5 = .ok (.aload_n 1, 1) := by decide +kernel
theorem dX7_finish_6 : decode cX7_finish 6 = .ok (.getfield 223, 3) := by decide +kernel
theorem dX7_finish_9 : decode cX7_finish 9 = .ok (.aload_n 2, 1) := by decide +kernel
theorem dX7_finish_10 : decode cX7_finish 10 = .ok (.invokevirtual 240, 3) := by decide +kernel
theorem dX7_finish_13 : decode cX7_finish 13 = .ok (.goto 4, 3) := by decide +kernel
theorem dX7_finish_16 : decode cX7_finish 16 = .ok (.iload_n 3, 1) := by decide +kernel
theorem dX7_finish_17 : decode cX7_finish 17 = .ok (.putfield 168, 3) := by decide +kernel
theorem dX7_finish_20 : decode cX7_finish 20 = .ok (.aload_n 2, 1) := by decide +kernel
theorem dX7_finish_21 : decode cX7_finish 21 = .ok (.aload_n 1, 1) := by decide +kernel
theorem dX7_finish_22 : decode cX7_finish 22 = .ok (.getfield 244, 3) := by decide +kernel
theorem dX7_finish_25 : decode cX7_finish 25 = .ok (.putfield 150, 3) := by decide +kernel
theorem dX7_finish_28 : decode cX7_finish 28 = .ok (.aload_n 1, 1) := by decide +kernel
theorem dX7_finish_29 : decode cX7_finish 29 = .ok (.aconst_null, 1) := by decide +kernel
theorem dX7_finish_30 : decode cX7_finish 30 = .ok (.putfield 191, 3) := by decide +kernel
theorem dX7_finish_33 : decode cX7_finish 33 = .ok (.aload_n 0, 1) := by decide +kernel
theorem dX7_finish_34 : decode cX7_finish 34 = .ok (.getfield 39, 3) := by decide +kernel
theorem dX7_finish_37 : decode cX7_finish 37 = .ok (.dup, 1) := by decide +kernel
theorem dX7_finish_38 : decode cX7_finish 38 = .ok (.getfield 143, 3) := by decide +kernel
theorem dX7_finish_41 : decode cX7_finish 41 = .ok (.iconst 1, 1) := by decide +kernel
theorem dX7_finish_42 : decode cX7_finish 42 = .ok (.iadd, 1) := by decide +kernel
theorem dX7_finish_43 : decode cX7_finish 43 = .ok (.putfield 143, 3) := by decide +kernel
theorem dX7_finish_46 : decode cX7_finish 46 = .ok (.aload_n 0, 1) := by decide +kernel
theorem dX7_finish_47 : decode cX7_finish 47 = .ok (.dup, 1) := by decide +kernel
theorem dX7_finish_48 : decode cX7_finish 48 = .ok (.getfield 47, 3) := by decide +kernel
theorem dX7_finish_51 : decode cX7_finish 51 = .ok (.iconst 1, 1) := by decide +kernel
theorem dX7_finish_52 : decode cX7_finish 52 = .ok (.isub, 1) := by decide +kernel
theorem dX7_finish_53 : decode cX7_finish 53 = .ok (.putfield 47, 3) := by decide +kernel
theorem dX7_finish_56 : decode cX7_finish 56 = .ok (.return_, 1) := by decide +kernel
theorem dX7_leastSpoilt_0 : decode cX7_leastSpoilt 0 = .ok (.iconst 0, 1) := by decide +kernel
theorem dX7_leastSpoilt_1 : decode cX7_leastSpoilt 1 = .ok (.istore_n 1, 1) := by decide +kernel
theorem dX7_leastSpoilt_2 : decode cX7_leastSpoilt 2 = .ok (.iload_n 1, 1) := by decide +kernel
theorem dX7_leastSpoilt_3 : decode cX7_leastSpoilt 3 = .ok (.aload_n 0, 1) := by decide +kernel
theorem dX7_leastSpoilt_4 : decode cX7_leastSpoilt 4 = .ok (.getfield 43, 3) := by decide +kernel
theorem dX7_leastSpoilt_7 : decode cX7_leastSpoilt 7 = .ok (.if_icmp .ge 23, 3) := by decide +kernel
theorem dX7_leastSpoilt_10 : decode cX7_leastSpoilt 10 = .ok (.aload_n 0, 1) := by decide +kernel
theorem dX7_leastSpoilt_11 : decode cX7_leastSpoilt 11 = .ok (.getfield 18, 3) := by decide +kernel
theorem dX7_leastSpoilt_14 : decode cX7_leastSpoilt 14 = .ok (.iload_n 1, 1) := by decide +kernel
theorem dX7_leastSpoilt_15 : decode cX7_leastSpoilt 15 = .ok (.aaload, 1) := by decide +kernel
theorem dX7_leastSpoilt_16 : decode cX7_leastSpoilt 16 = .ok (.getfield 168, 3) := by decide +kernel
theorem dX7_leastSpoilt_19 : decode cX7_leastSpoilt 19 = .ok (.ifCond .eq 5, 3) := by decide +kernel
theorem dX7_leastSpoilt_22 : decode cX7_leastSpoilt 22 = .ok (.iload_n 1, 1) := by decide +kernel
theorem dX7_leastSpoilt_23 : decode cX7_leastSpoilt 23 = .ok (.ireturn, 1) := by decide +kernel
theorem dX7_leastSpoilt_24 : decode cX7_leastSpoilt 24 = .ok (.iinc 1 1, 3) := by decide +kernel
theorem dX7_leastSpoilt_27 : decode cX7_leastSpoilt 27 = .ok (.goto (-25), 3) := by decide +kernel
theorem dX7_leastSpoilt_30 : decode cX7_leastSpoilt 30 = .ok (.ldc 90, 2) := by decide +kernel
theorem dX7_leastSpoilt_32 : decode cX7_leastSpoilt 32 = .ok (.ireturn, 1) := by decide +kernel
theorem dX7_actsOfAllShares_0 : decode cX7_actsOfAllShares 0 = .ok (.iconst 0, 1) := by decide +kernel
theorem dX7_actsOfAllShares_1 : decode cX7_actsOfAllShares 1 = .ok (.istore_n 1, 1) := by decide +kernel
theorem dX7_actsOfAllShares_2 : decode cX7_actsOfAllShares 2 = .ok (.iconst 0, 1) := by decide +kernel
theorem dX7_actsOfAllShares_3 : decode cX7_actsOfAllShares 3 = .ok (.istore_n 2, 1) := by decide +kernel
theorem dX7_actsOfAllShares_4 : decode cX7_actsOfAllShares 4 = .ok (.iload_n 2, 1) := by decide +kernel
theorem dX7_actsOfAllShares_5 : decode cX7_actsOfAllShares 5 = .ok (.aload_n 0, 1) := by decide +kernel
theorem dX7_actsOfAllShares_6 : decode cX7_actsOfAllShares 6 = .ok (.getfield 43, 3) := by decide +kernel
theorem dX7_actsOfAllShares_9 : decode cX7_actsOfAllShares 9 = .ok (.if_icmp .ge 21, 3) := by decide +kernel
theorem dX7_actsOfAllShares_12 : decode cX7_actsOfAllShares 12 = .ok (.iload_n 1, 1) := by decide +kernel
theorem dX7_actsOfAllShares_13 : decode cX7_actsOfAllShares 13 = .ok (.aload_n 0, 1) := by decide +kernel
theorem dX7_actsOfAllShares_14 : decode cX7_actsOfAllShares 14 = .ok (.getfield 18, 3) := by decide +kernel
theorem dX7_actsOfAllShares_17 : decode cX7_actsOfAllShares 17 = .ok (.iload_n 2, 1) := by decide +kernel
theorem dX7_actsOfAllShares_18 : decode cX7_actsOfAllShares 18 = .ok (.aaload, 1) := by decide +kernel
theorem dX7_actsOfAllShares_19 : decode cX7_actsOfAllShares 19 = .ok (.getfield 79, 3) := by decide +kernel
theorem dX7_actsOfAllShares_22 : decode cX7_actsOfAllShares 22 = .ok (.iadd, 1) := by decide +kernel
theorem dX7_actsOfAllShares_23 : decode cX7_actsOfAllShares 23 = .ok (.istore_n 1, 1) := by decide +kernel
theorem dX7_actsOfAllShares_24 : decode cX7_actsOfAllShares 24 = .ok (.iinc 2 1, 3) := by decide +kernel
theorem dX7_actsOfAllShares_27 : decode cX7_actsOfAllShares 27 = .ok (.goto (-23), 3) := by decide +kernel
theorem dX7_actsOfAllShares_30 : decode cX7_actsOfAllShares 30 = .ok (.iload_n 1, 1) := by decide +kernel
theorem dX7_actsOfAllShares_31 : decode cX7_actsOfAllShares 31 = .ok (.ireturn, 1) := by decide +kernel
theorem dX7_joinAnswers_0 : decode cX7_joinAnswers 0 = .ok (.iconst 0, 1) := by decide +kernel
theorem dX7_joinAnswers_1 : decode cX7_joinAnswers 1 = .ok (.istore_n 2, 1) := by decide +kernel
theorem dX7_joinAnswers_2 : decode cX7_joinAnswers 2 = .ok (.iconst 0, 1) := by decide +kernel
theorem dX7_joinAnswers_3 : decode cX7_joinAnswers 3 = .ok (.istore_n 3, 1) := by decide +kernel
theorem dX7_joinAnswers_4 : decode cX7_joinAnswers 4 = .ok (.iload_n 3, 1) := by decide +kernel
theorem dX7_joinAnswers_5 : decode cX7_joinAnswers 5 = .ok (.aload_n 0, 1) := by decide +kernel
theorem dX7_joinAnswers_6 : decode cX7_joinAnswers 6 = .ok (.getfield 43, 3) := by decide +kernel
theorem dX7_joinAnswers_9 : decode cX7_joinAnswers 9 = .ok (.if_icmp .ge 28, 3) := by decide +kernel
theorem dX7_joinAnswers_12 : decode cX7_joinAnswers 12 = .ok (.aload_n 0, 1) := by decide +kernel
theorem dX7_joinAnswers_13 : decode cX7_joinAnswers 13 = .ok (.getfield 10, 3) := by decide +kernel
theorem dX7_joinAnswers_16 : decode cX7_joinAnswers 16 = .ok (.aload_n 0, 1) := by decide +kernel
theorem dX7_joinAnswers_17 : decode cX7_joinAnswers 17 = .ok (.getfield 18, 3) := by decide +kernel
theorem dX7_joinAnswers_20 : decode cX7_joinAnswers 20 = .ok (.iload_n 3, 1) := by decide +kernel
theorem dX7_joinAnswers_21 : decode cX7_joinAnswers 21 = .ok (.aaload, 1) := by decide +kernel
theorem dX7_joinAnswers_22 : decode cX7_joinAnswers 22 = .ok (.iload_n 1, 1) := by decide +kernel
theorem dX7_joinAnswers_23 : decode cX7_joinAnswers 23 = .ok (.invokevirtual 247, 3) := by decide +kernel
theorem dX7_joinAnswers_26 : decode cX7_joinAnswers 26 = .ok (.ifCond .eq 5, 3) := by decide +kernel
theorem dX7_joinAnswers_29 : decode cX7_joinAnswers 29 = .ok (.iconst 1, 1) := by decide +kernel
theorem dX7_joinAnswers_30 : decode cX7_joinAnswers 30 = .ok (.istore_n 2, 1) := by decide +kernel
theorem dX7_joinAnswers_31 : decode cX7_joinAnswers 31 = .ok (.iinc 3 1, 3) := by decide +kernel
theorem dX7_joinAnswers_34 : decode cX7_joinAnswers 34 = .ok (.goto (-30), 3) := by decide +kernel
theorem dX7_joinAnswers_37 : decode cX7_joinAnswers 37 = .ok (.iload_n 2, 1) := by decide +kernel
theorem dX7_joinAnswers_38 : decode cX7_joinAnswers 38 = .ok (.ireturn, 1) := by decide +kernel
